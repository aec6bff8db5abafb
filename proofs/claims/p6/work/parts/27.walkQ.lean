set_option maxRecDepth 100000 in
set_option maxHeartbeats 4000000 in
theorem wk_X6_act {X : tq_Cx} {p1 : Int32} {S : tq_St} {K : Int32 → tq_St → Prop} (C : tq_C X cX6_act 2 RX6 1) (hR : tq_Ri X cX6_act 2 K) (hf : wp_X6_act p1 S K) : Go X 2 S 0 [(0, .ref ((tq_la X).1 27 0)), (1, .int p1)] [] := by
  refine go_iload_n (pc := 0) C dX6_act_0 1 rfl rfl ?_
  refine go_if_lt (pc := 1) C dX6_act_1 15 (by decide) (fun c1 => ?_) (fun c1 => ?_)
  · have hf := hf.1 c1
    refine go_iconst (pc := 15) (v := (-1)) C dX6_act_15 (by decide) ?_
    refine go_goto (pc := 16) C dX6_act_16 28 (by decide) ?_
    exact hR _ _ _ _ dX6_act_28 hf
  · have hf := hf.2 c1
    refine go_iload_n (pc := 4) C dX6_act_4 1 rfl rfl ?_
    refine go_aload_n (pc := 5) C dX6_act_5 0 rfl rfl ?_
    refine ge_X6_X6_0 (pc := 6) C dX6_act_6 ?_
    refine ge_X6_X1_10 (pc := 9) C (by decide) dX6_act_9 ?_
    refine go_ic_lt (pc := 12) C dX6_act_12 19 (by decide) (fun c2 => ?_) (fun c2 => ?_)
    · have hf := hf.1 c2
      refine go_aload_n (pc := 19) C dX6_act_19 0 rfl rfl ?_
      refine ge_X6_X6_0 (pc := 20) C dX6_act_20 ?_
      refine ge_X6_X1_3 (pc := 23) C (by decide) dX6_act_23 ?_
      refine go_iload_n (pc := 26) C dX6_act_26 1 rfl rfl ?_
      refine al_X1_3 (pc := 27) C (by decide) hf.1 dX6_act_27 ?_
      have hf := hf.2
      exact hR _ _ _ _ dX6_act_28 hf
    · have hf := hf.2 c2
      refine go_iconst (pc := 15) (v := (-1)) C dX6_act_15 (by decide) ?_
      refine go_goto (pc := 16) C dX6_act_16 28 (by decide) ?_
      exact hR _ _ _ _ dX6_act_28 hf
set_option maxRecDepth 100000 in
set_option maxHeartbeats 4000000 in
theorem ok_X6_act {p1 : Int32} {S : tq_St} {K : Int32 → tq_St → Prop} (hf : wp_X6_act p1 S K) : tq_Mi yX6_act cX6_act 2 (some .int) 1 (fun a z => [.ref (a.1 27 0), .int p1]) S K :=
  tq_mkI (by decide) (fun _ _ => Nat.le_of_ble_eq_true rfl) (fun X C hR => wk_X6_act C hR  hf)
set_option maxRecDepth 100000 in
set_option maxHeartbeats 4000000 in
theorem wk_X6_isZeroOrOne {X : tq_Cx} {p0 : Int32} {S : tq_St} {K : Int32 → tq_St → Prop} (C : tq_C X cX6_isZeroOrOne 1 RX6 1) (hR : tq_Rz X cX6_isZeroOrOne 1 K) (hf : wp_X6_isZeroOrOne p0 S K) : Go X 1 S 0 [(0, .int p0)] [] := by
  refine go_iload_n (pc := 0) C dX6_isZeroOrOne_0 0 rfl rfl ?_
  refine go_if_eq (pc := 1) C dX6_isZeroOrOne_1 9 (by decide) (fun c1 => ?_) (fun c1 => ?_)
  · have hf := hf.1 c1
    refine go_iconst (pc := 9) (v := 1) C dX6_isZeroOrOne_9 (by decide) ?_
    refine go_goto (pc := 10) C dX6_isZeroOrOne_10 14 (by decide) ?_
    exact hR _ _ _ _ dX6_isZeroOrOne_14 (Or.inr rfl) hf
  · have hf := hf.2 c1
    refine go_iload_n (pc := 4) C dX6_isZeroOrOne_4 0 rfl rfl ?_
    refine go_iconst (pc := 5) (v := 1) C dX6_isZeroOrOne_5 (by decide) ?_
    refine go_ic_ne (pc := 6) C dX6_isZeroOrOne_6 13 (by decide) (fun c2 => ?_) (fun c2 => ?_)
    · have hf := hf.1 c2
      refine go_iconst (pc := 13) (v := 0) C dX6_isZeroOrOne_13 (by decide) ?_
      exact hR _ _ _ _ dX6_isZeroOrOne_14 (Or.inl rfl) hf
    · have hf := hf.2 c2
      refine go_iconst (pc := 9) (v := 1) C dX6_isZeroOrOne_9 (by decide) ?_
      refine go_goto (pc := 10) C dX6_isZeroOrOne_10 14 (by decide) ?_
      exact hR _ _ _ _ dX6_isZeroOrOne_14 (Or.inr rfl) hf
set_option maxRecDepth 100000 in
set_option maxHeartbeats 4000000 in
theorem ok_X6_isZeroOrOne {p0 : Int32} {S : tq_St} {K : Int32 → tq_St → Prop} (hf : wp_X6_isZeroOrOne p0 S K) : tq_Mi yX6_isZeroOrOne cX6_isZeroOrOne 1 (some .boolean) 1 (fun a z => [.int p0]) S K :=
  tq_mkZ (by decide) (fun _ _ => Nat.le_of_ble_eq_true rfl) (fun X C hR => wk_X6_isZeroOrOne C hR  hf)
set_option maxRecDepth 100000 in
set_option maxHeartbeats 4000000 in
theorem wk_X6_ahead {X : tq_Cx} {p1 : Int32} {p2 : Int32} {S : tq_St} {K : Int32 → tq_St → Prop} (C : tq_C X cX6_ahead 3 RX6 7) (hR : tq_Ri X cX6_ahead 3 K) (hf : wp_X6_ahead p1 p2 S K) : Go X 3 S 0 [(0, .ref ((tq_la X).1 27 0)), (1, .int p1), (2, .int p2)] [] := by
  refine go_aload_n (pc := 0) C dX6_ahead_0 0 rfl rfl ?_
  refine ge_X6_X6_0 (pc := 1) C dX6_ahead_1 ?_
  refine go_iload_n (pc := 4) C dX6_ahead_4 1 rfl rfl ?_
  refine go_cVi (pc := 5) C cw_X6_112 (ok_X1_isThere (by decide) hf) (rc_X1 C (by decide)) rfl rfl rfl (by decide) rfl dX6_ahead_5 (fun r1 S2 hf => ?_)
  refine go_if_eq (pc := 8) C dX6_ahead_8 18 (by decide) (fun c4 => ?_) (fun c4 => ?_)
  · have hf := hf.1 c4
    refine go_iconst (pc := 18) (v := (-1)) C dX6_ahead_18 (by decide) ?_
    exact hR _ _ _ _ dX6_ahead_19 hf
  · have hf := hf.2 c4
    refine go_iload_n (pc := 11) C dX6_ahead_11 2 rfl rfl ?_
    refine go_cSi (pc := 12) C cs_X6_178 (ok_X6_isZeroOrOne hf) rfl rfl rfl (by decide) rfl dX6_ahead_12 (fun r5 S6 hf => ?_)
    refine go_if_ne (pc := 15) C dX6_ahead_15 20 (by decide) (fun c8 => ?_) (fun c8 => ?_)
    · have hf := hf.1 c8
      refine go_aload_n (pc := 20) C dX6_ahead_20 0 rfl rfl ?_
      refine ge_X6_X6_1 (pc := 21) C dX6_ahead_21 ?_
      refine go_aload_n (pc := 24) C dX6_ahead_24 0 rfl rfl ?_
      refine ge_X6_X6_0 (pc := 25) C dX6_ahead_25 ?_
      refine go_cVv (pc := 28) C cw_X6_163 (ok_X1_startFrom (by decide) (by decide) hf) (rc_X1 C (by decide)) rfl rfl rfl (by decide) rfl dX6_ahead_28 (fun S10 hf => ?_)
      refine go_aload_n (pc := 31) C dX6_ahead_31 0 rfl rfl ?_
      refine ge_X6_X6_1 (pc := 32) C dX6_ahead_32 ?_
      refine go_cVv (pc := 35) C cw_X6_166 (ok_X1_followPlan (by decide) hf) (rc_X1 C (by decide)) rfl rfl rfl (by decide) rfl dX6_ahead_35 (fun S13 hf => ?_)
      refine go_iload_n (pc := 38) C dX6_ahead_38 2 rfl rfl ?_
      refine go_if_ne (pc := 39) C dX6_ahead_39 54 (by decide) (fun c15 => ?_) (fun c15 => ?_)
      · have hf := hf.1 c15
        refine go_aload_n (pc := 54) C dX6_ahead_54 0 rfl rfl ?_
        refine ge_X6_X6_1 (pc := 55) C dX6_ahead_55 ?_
        refine go_iload_n (pc := 58) C dX6_ahead_58 1 rfl rfl ?_
        refine go_cVi (pc := 59) C cw_X6_121 (ok_X1_weptOrNone (by decide) hf) (rc_X1 C (by decide)) rfl rfl rfl (by decide) rfl dX6_ahead_59 (fun r16 S17 hf => ?_)
        exact hR _ _ _ _ dX6_ahead_62 hf
      · have hf := hf.2 c15
        refine go_aload_n (pc := 42) C dX6_ahead_42 0 rfl rfl ?_
        refine ge_X6_X6_1 (pc := 43) C dX6_ahead_43 ?_
        refine ge_X6_X1_1 (pc := 46) C (by decide) dX6_ahead_46 ?_
        refine go_iload_n (pc := 49) C dX6_ahead_49 1 rfl rfl ?_
        refine al_X1_1 (pc := 50) C (by decide) hf.1 dX6_ahead_50 ?_
        have hf := hf.2
        refine go_goto (pc := 51) C dX6_ahead_51 62 (by decide) ?_
        exact hR _ _ _ _ dX6_ahead_62 hf
    · have hf := hf.2 c8
      refine go_iconst (pc := 18) (v := (-1)) C dX6_ahead_18 (by decide) ?_
      exact hR _ _ _ _ dX6_ahead_19 hf
set_option maxRecDepth 100000 in
set_option maxHeartbeats 4000000 in
theorem ok_X6_ahead {p1 : Int32} {p2 : Int32} {S : tq_St} {K : Int32 → tq_St → Prop} (hf : wp_X6_ahead p1 p2 S K) : tq_Mi yX6_ahead cX6_ahead 3 (some .int) 7 (fun a z => [.ref (a.1 27 0), .int p1, .int p2]) S K :=
  tq_mkI (by decide) (fun _ _ => Nat.le_of_ble_eq_true rfl) (fun X C hR => wk_X6_ahead C hR  hf)
set_option maxRecDepth 100000 in
set_option maxHeartbeats 4000000 in
theorem wk_X6_alter_50 {X : tq_Cx} {K : Int32 → tq_St → Prop} (C : tq_C X cX6_alter 5 RX6 2) (hR : tq_Ri X cX6_alter 5 K) : ∀ (v1 : Int32) (v2 : Int32) (v3 : Int32) (S : tq_St), wp_X6_alter_50 K v1 v2 v3 S → Go X 5 S 50 [(0, .ref ((tq_la X).1 27 0)), (1, .int v1), (2, .int v2), (3, .int v3)] [] := by
  intro v1 v2 v3 S hf
  refine go_iload_n (pc := 50) C dX6_alter_50 2 rfl rfl ?_
  refine go_iconst (pc := 51) (v := 1) C dX6_alter_51 (by decide) ?_
  refine go_ic_ne (pc := 52) C dX6_alter_52 85 (by decide) (fun c7 => ?_) (fun c7 => ?_)
  · have hf := hf.1 c7
    refine go_iconst (pc := 85) (v := (-1)) C dX6_alter_85 (by decide) ?_
    exact hR _ _ _ _ dX6_alter_86 hf
  · have hf := hf.2 c7
    refine go_iload_n (pc := 55) C dX6_alter_55 3 rfl rfl ?_
    refine go_bipush (pc := 56) (v := 40) C dX6_alter_56 (by decide) ?_
    refine go_ic_gt (pc := 58) C dX6_alter_58 85 (by decide) (fun c8 => ?_) (fun c8 => ?_)
    · have hf := hf.1 c8
      refine go_iconst (pc := 85) (v := (-1)) C dX6_alter_85 (by decide) ?_
      exact hR _ _ _ _ dX6_alter_86 hf
    · have hf := hf.2 c8
      refine go_aload_n (pc := 61) C dX6_alter_61 0 rfl rfl ?_
      refine ge_X6_X6_0 (pc := 62) C dX6_alter_62 ?_
      refine ge_X6_X1_1 (pc := 65) C (by decide) dX6_alter_65 ?_
      refine go_iload_n (pc := 68) C dX6_alter_68 1 rfl rfl ?_
      refine al_X1_1 (pc := 69) C (by decide) hf.1 dX6_alter_69 ?_
      have hf := hf.2
      refine go_nI (fun x9 e10 => ?_)
      have hf := hf x9 e10
      refine go_istore (pc := 70) C dX6_alter_70 [(4, .int x9), (0, .ref ((tq_la X).1 27 0)), (1, .int v1), (2, .int v2), (3, .int v3)] (by decide) rfl ?_
      refine go_aload_n (pc := 72) C dX6_alter_72 1 rfl rfl ?_
      refine ge_X6_X6_0 (pc := 73) C dX6_alter_73 ?_
      refine ge_X6_X1_1 (pc := 76) C (by decide) dX6_alter_76 ?_
      refine go_iload_n (pc := 79) C dX6_alter_79 2 rfl rfl ?_
      refine go_iload_n (pc := 80) C dX6_alter_80 4 rfl rfl ?_
      refine as_X1_1 (pc := 81) C (by decide) hf.1 dX6_alter_81 (fun S11 e12 => ?_)
      have hf := hf.2 S11 e12
      refine go_iload (pc := 82) C dX6_alter_82 0 rfl ?_
      exact hR _ _ _ _ dX6_alter_84 hf
set_option maxRecDepth 100000 in
set_option maxHeartbeats 4000000 in
theorem wk_X6_alter {X : tq_Cx} {p1 : Int32} {p2 : Int32} {p3 : Int32} {S : tq_St} {K : Int32 → tq_St → Prop} (C : tq_C X cX6_alter 5 RX6 2) (hR : tq_Ri X cX6_alter 5 K) (hf : wp_X6_alter p1 p2 p3 S K) : Go X 5 S 0 [(0, .ref ((tq_la X).1 27 0)), (1, .int p1), (2, .int p2), (3, .int p3)] [] := by
  refine go_aload_n (pc := 0) C dX6_alter_0 0 rfl rfl ?_
  refine ge_X6_X6_0 (pc := 1) C dX6_alter_1 ?_
  refine go_iload_n (pc := 4) C dX6_alter_4 1 rfl rfl ?_
  refine go_cVi (pc := 5) C cw_X6_112 (ok_X1_isThere (by decide) hf) (rc_X1 C (by decide)) rfl rfl rfl (by decide) rfl dX6_alter_5 (fun r1 S2 hf => ?_)
  refine go_if_eq (pc := 8) C dX6_alter_8 15 (by decide) (fun c4 => ?_) (fun c4 => ?_)
  · have hf := hf.1 c4
    refine go_iconst (pc := 15) (v := (-1)) C dX6_alter_15 (by decide) ?_
    exact hR _ _ _ _ dX6_alter_16 hf
  · have hf := hf.2 c4
    refine go_iload_n (pc := 11) C dX6_alter_11 3 rfl rfl ?_
    refine go_if_ge (pc := 12) C dX6_alter_12 17 (by decide) (fun c5 => ?_) (fun c5 => ?_)
    · have hf := hf.1 c5
      refine go_iload_n (pc := 17) C dX6_alter_17 2 rfl rfl ?_
      refine go_if_ne (pc := 18) C dX6_alter_18 50 (by decide) (fun c6 => ?_) (fun c6 => ?_)
      · have hf := hf.1 c6
        exact go_sub [0, 1, 2, 3] rfl (wk_X6_alter_50 C hR _ _ _ _ hf)
      · have hf := hf.2 c6
        refine go_iload_n (pc := 21) C dX6_alter_21 3 rfl rfl ?_
        refine go_iconst (pc := 22) (v := 4) C dX6_alter_22 (by decide) ?_
        refine go_ic_ge (pc := 23) C dX6_alter_23 50 (by decide) (fun c13 => ?_) (fun c13 => ?_)
        · have hf := hf.1 c13
          exact go_sub [0, 1, 2, 3] rfl (wk_X6_alter_50 C hR _ _ _ _ hf)
        · have hf := hf.2 c13
          refine go_aload_n (pc := 26) C dX6_alter_26 0 rfl rfl ?_
          refine ge_X6_X6_0 (pc := 27) C dX6_alter_27 ?_
          refine ge_X6_X1_0 (pc := 30) C (by decide) dX6_alter_30 ?_
          refine go_iload_n (pc := 33) C dX6_alter_33 1 rfl rfl ?_
          refine al_X1_0 (pc := 34) C (by decide) hf.1 dX6_alter_34 ?_
          have hf := hf.2
          refine go_nI (fun x14 e15 => ?_)
          have hf := hf x14 e15
          refine go_istore (pc := 35) C dX6_alter_35 [(4, .int x14), (0, .ref ((tq_la X).1 27 0)), (1, .int p1), (2, .int p2), (3, .int p3)] (by decide) rfl ?_
          refine go_aload_n (pc := 37) C dX6_alter_37 1 rfl rfl ?_
          refine ge_X6_X6_0 (pc := 38) C dX6_alter_38 ?_
          refine ge_X6_X1_0 (pc := 41) C (by decide) dX6_alter_41 ?_
          refine go_iload_n (pc := 44) C dX6_alter_44 2 rfl rfl ?_
          refine go_iload_n (pc := 45) C dX6_alter_45 4 rfl rfl ?_
          refine as_X1_0 (pc := 46) C (by decide) hf.1 dX6_alter_46 (fun S16 e17 => ?_)
          have hf := hf.2 S16 e17
          refine go_iload (pc := 47) C dX6_alter_47 0 rfl ?_
          exact hR _ _ _ _ dX6_alter_49 hf
    · have hf := hf.2 c5
      refine go_iconst (pc := 15) (v := (-1)) C dX6_alter_15 (by decide) ?_
      exact hR _ _ _ _ dX6_alter_16 hf
set_option maxRecDepth 100000 in
set_option maxHeartbeats 4000000 in
theorem ok_X6_alter {p1 : Int32} {p2 : Int32} {p3 : Int32} {S : tq_St} {K : Int32 → tq_St → Prop} (hf : wp_X6_alter p1 p2 p3 S K) : tq_Mi yX6_alter cX6_alter 5 (some .int) 2 (fun a z => [.ref (a.1 27 0), .int p1, .int p2, .int p3]) S K :=
  tq_mkI (by decide) (fun _ _ => Nat.le_of_ble_eq_true rfl) (fun X C hR => wk_X6_alter C hR  hf)
set_option maxRecDepth 100000 in
set_option maxHeartbeats 4000000 in
theorem wk_X6_possibleSorrows_4 {X : tq_Cx} {K : Int32 → tq_St → Prop} (C : tq_C X cX6_possibleSorrows 4 RX6 7) (hR : tq_Ri X cX6_possibleSorrows 4 K) : ∀ (n : Nat) (v1 : Int32) (v2 : Int32) (v3 : Int32) (S : tq_St), wp_X6_possibleSorrows_4 K n v1 v2 v3 S → Go X 4 S 4 [(0, .ref ((tq_la X).1 27 0)), (1, .int v1), (2, .int v2), (3, .int v3)] [] := by
  intro n
  induction n with
  | zero => intros; contradiction
  | succ n ih =>
    intro v1 v2 v3 S hf
    refine go_iload_n (pc := 4) C dX6_possibleSorrows_4 3 rfl rfl ?_
    refine go_bipush (pc := 5) (v := 20) C dX6_possibleSorrows_5 (by decide) ?_
    refine go_ic_gt (pc := 7) C dX6_possibleSorrows_7 80 (by decide) (fun c1 => ?_) (fun c1 => ?_)
    · have hf := hf.1 c1
      refine go_iload_n (pc := 80) C dX6_possibleSorrows_80 2 rfl rfl ?_
      exact hR _ _ _ _ dX6_possibleSorrows_81 hf
    · have hf := hf.2 c1
      refine go_aload_n (pc := 10) C dX6_possibleSorrows_10 0 rfl rfl ?_
      refine ge_X6_X6_1 (pc := 11) C dX6_possibleSorrows_11 ?_
      refine go_aload_n (pc := 14) C dX6_possibleSorrows_14 0 rfl rfl ?_
      refine ge_X6_X6_0 (pc := 15) C dX6_possibleSorrows_15 ?_
      refine go_cVv (pc := 18) C cw_X6_163 (ok_X1_startFrom (by decide) (by decide) hf) (rc_X1 C (by decide)) rfl rfl rfl (by decide) rfl dX6_possibleSorrows_18 (fun S3 hf => ?_)
      refine go_aload_n (pc := 21) C dX6_possibleSorrows_21 0 rfl rfl ?_
      refine ge_X6_X6_1 (pc := 22) C dX6_possibleSorrows_22 ?_
      refine ge_X6_X1_1 (pc := 25) C (by decide) dX6_possibleSorrows_25 ?_
      refine go_iload_n (pc := 28) C dX6_possibleSorrows_28 1 rfl rfl ?_
      refine go_iload_n (pc := 29) C dX6_possibleSorrows_29 3 rfl rfl ?_
      refine as_X1_1 (pc := 30) C (by decide) hf.1 dX6_possibleSorrows_30 (fun S5 e6 => ?_)
      have hf := hf.2 S5 e6
      refine go_aload_n (pc := 31) C dX6_possibleSorrows_31 0 rfl rfl ?_
      refine ge_X6_X6_1 (pc := 32) C dX6_possibleSorrows_32 ?_
      refine go_cVv (pc := 35) C cw_X6_166 (ok_X1_followPlan (by decide) hf) (rc_X1 C (by decide)) rfl rfl rfl (by decide) rfl dX6_possibleSorrows_35 (fun S8 hf => ?_)
      refine go_aload_n (pc := 38) C dX6_possibleSorrows_38 0 rfl rfl ?_
      refine ge_X6_X6_9 (pc := 39) C dX6_possibleSorrows_39 ?_
      refine go_iload_n (pc := 42) C dX6_possibleSorrows_42 3 rfl rfl ?_
      refine go_aload_n (pc := 43) C dX6_possibleSorrows_43 0 rfl rfl ?_
      refine ge_X6_X6_1 (pc := 44) C dX6_possibleSorrows_44 ?_
      refine ge_X6_X1_6 (pc := 47) C (by decide) dX6_possibleSorrows_47 ?_
      refine as_X6_9 (pc := 50) C hf.1 dX6_possibleSorrows_50 (fun S10 e11 => ?_)
      have hf := hf.2 S10 e11
      refine go_aload_n (pc := 51) C dX6_possibleSorrows_51 0 rfl rfl ?_
      refine ge_X6_X6_3 (pc := 52) C dX6_possibleSorrows_52 ?_
      refine go_aload_n (pc := 55) C dX6_possibleSorrows_55 0 rfl rfl ?_
      refine ge_X6_X6_1 (pc := 56) C dX6_possibleSorrows_56 ?_
      refine ge_X6_X1_6 (pc := 59) C (by decide) dX6_possibleSorrows_59 ?_
      refine go_cVi (pc := 62) C cw_X6_226 (ok_X4_agreeWith hf) (rc_X4 C) rfl rfl rfl (by decide) rfl dX6_possibleSorrows_62 (fun r12 S13 hf => ?_)
      refine go_if_eq (pc := 65) C dX6_possibleSorrows_65 74 (by decide) (fun c15 => ?_) (fun c15 => ?_)
      · have hf := hf.1 c15
        obtain ⟨x16, e17⟩ : ∃ q9 : Int32, q9 = v3 + 1 := ⟨_, rfl⟩
        refine go_iinc (pc := 74) (j := 3) (v := x16) C dX6_possibleSorrows_74 [(3, .int x16), (0, .ref ((tq_la X).1 27 0)), (1, .int v1), (2, .int v2)] rfl (by rw [e17]; rfl) (by decide) rfl ?_
        have hf := hf x16 e17
        refine go_goto (pc := 77) C dX6_possibleSorrows_77 4 (by decide) ?_
        exact go_sub [1, 2, 3, 0] rfl (ih _ _ _ _ hf)
      · have hf := hf.2 c15
        refine go_iload_n (pc := 68) C dX6_possibleSorrows_68 2 rfl rfl ?_
        refine go_iconst (pc := 69) (v := 1) C dX6_possibleSorrows_69 (by decide) ?_
        refine go_iload_n (pc := 70) C dX6_possibleSorrows_70 3 rfl rfl ?_
        refine go_ishl (pc := 71) C dX6_possibleSorrows_71 ?_
        refine go_ior (pc := 72) C dX6_possibleSorrows_72 ?_
        refine go_nI (fun x18 e19 => ?_)
        have hf := hf x18 e19
        refine go_istore_n (pc := 73) C dX6_possibleSorrows_73 [(2, .int x18), (0, .ref ((tq_la X).1 27 0)), (1, .int v1), (3, .int v3)] rfl (by decide) rfl ?_
        obtain ⟨x20, e21⟩ : ∃ q9 : Int32, q9 = v3 + 1 := ⟨_, rfl⟩
        refine go_iinc (pc := 74) (j := 3) (v := x20) C dX6_possibleSorrows_74 [(3, .int x20), (2, .int x18), (0, .ref ((tq_la X).1 27 0)), (1, .int v1)] rfl (by rw [e21]; rfl) (by decide) rfl ?_
        have hf := hf x20 e21
        refine go_goto (pc := 77) C dX6_possibleSorrows_77 4 (by decide) ?_
        exact go_sub [2, 3, 1, 0] rfl (ih _ _ _ _ hf)
set_option maxRecDepth 100000 in
set_option maxHeartbeats 4000000 in
theorem wk_X6_possibleSorrows {X : tq_Cx} {p1 : Int32} {S : tq_St} {K : Int32 → tq_St → Prop} (C : tq_C X cX6_possibleSorrows 4 RX6 7) (hR : tq_Ri X cX6_possibleSorrows 4 K) (hf : wp_X6_possibleSorrows p1 S K) : Go X 4 S 0 [(0, .ref ((tq_la X).1 27 0)), (1, .int p1)] [] := by
  refine go_iconst (pc := 0) (v := 0) C dX6_possibleSorrows_0 (by decide) ?_
  refine go_istore_n (pc := 1) C dX6_possibleSorrows_1 [(2, .int 0), (0, .ref ((tq_la X).1 27 0)), (1, .int p1)] rfl (by decide) rfl ?_
  refine go_iconst (pc := 2) (v := 0) C dX6_possibleSorrows_2 (by decide) ?_
  refine go_istore_n (pc := 3) C dX6_possibleSorrows_3 [(3, .int 0), (2, .int 0), (0, .ref ((tq_la X).1 27 0)), (1, .int p1)] rfl (by decide) rfl ?_
  exact go_sub [2, 3, 1, 0] rfl (wk_X6_possibleSorrows_4 C hR 2000 _ _ _ _ hf)
set_option maxRecDepth 100000 in
set_option maxHeartbeats 4000000 in
theorem ok_X6_possibleSorrows {p1 : Int32} {S : tq_St} {K : Int32 → tq_St → Prop} (hf : wp_X6_possibleSorrows p1 S K) : tq_Mi yX6_possibleSorrows cX6_possibleSorrows 4 (some .int) 7 (fun a z => [.ref (a.1 27 0), .int p1]) S K :=
  tq_mkI (by decide) (fun _ _ => Nat.le_of_ble_eq_true rfl) (fun X C hR => wk_X6_possibleSorrows C hR  hf)
set_option maxRecDepth 100000 in
set_option maxHeartbeats 4000000 in
theorem wk_X6_leftAtWorst_8 {X : tq_Cx} {K : Int32 → tq_St → Prop} (C : tq_C X cX6_leftAtWorst 6 RX6 1) (hR : tq_Ri X cX6_leftAtWorst 6 K) : ∀ (n : Nat) (v1 : Int32) (v2 : Int32) (v3 : Int32) (v4 : Int32) (v5 : Int32) (S : tq_St), wp_X6_leftAtWorst_8 K n v1 v2 v3 v4 v5 S → Go X 6 S 8 [(0, .ref ((tq_la X).1 27 0)), (1, .int v1), (2, .int v2), (3, .int v3), (4, .int v4), (5, .int v5)] [] := by
  intro n
  induction n with
  | zero => intros; contradiction
  | succ n ih =>
    intro v1 v2 v3 v4 v5 S hf
    refine go_iload (pc := 8) C dX6_leftAtWorst_8 5 rfl ?_
    refine go_bipush (pc := 10) (v := 20) C dX6_leftAtWorst_10 (by decide) ?_
    refine go_ic_gt (pc := 12) C dX6_leftAtWorst_12 55 (by decide) (fun c1 => ?_) (fun c1 => ?_)
    · have hf := hf.1 c1
      refine go_iload_n (pc := 55) C dX6_leftAtWorst_55 3 rfl rfl ?_
      refine go_iload (pc := 56) C dX6_leftAtWorst_56 4 rfl ?_
      refine mmax_X6_278 (pc := 58) C (by decide) (Nat.le_of_ble_eq_true rfl) dX6_leftAtWorst_58 ?_
      exact hR _ _ _ _ dX6_leftAtWorst_61 hf
    · have hf := hf.2 c1
      refine go_iload_n (pc := 15) C dX6_leftAtWorst_15 1 rfl rfl ?_
      refine go_iload (pc := 16) C dX6_leftAtWorst_16 5 rfl ?_
      refine go_ishr (pc := 18) C dX6_leftAtWorst_18 ?_
      refine go_iconst (pc := 19) (v := 1) C dX6_leftAtWorst_19 (by decide) ?_
      refine go_iand (pc := 20) C dX6_leftAtWorst_20 ?_
      refine go_iconst (pc := 21) (v := 1) C dX6_leftAtWorst_21 (by decide) ?_
      refine go_ic_ne (pc := 22) C dX6_leftAtWorst_22 49 (by decide) (fun c2 => ?_) (fun c2 => ?_)
      · have hf := hf.1 c2
        obtain ⟨x3, e4⟩ : ∃ q9 : Int32, q9 = v5 + 1 := ⟨_, rfl⟩
        refine go_iinc (pc := 49) (j := 5) (v := x3) C dX6_leftAtWorst_49 [(5, .int x3), (0, .ref ((tq_la X).1 27 0)), (1, .int v1), (2, .int v2), (3, .int v3), (4, .int v4)] rfl (by rw [e4]; rfl) (by decide) rfl ?_
        have hf := hf x3 e4
        refine go_goto (pc := 52) C dX6_leftAtWorst_52 8 (by decide) ?_
        exact go_sub [1, 2, 3, 4, 5, 0] rfl (ih _ _ _ _ _ _ hf)
      · have hf := hf.2 c2
        refine go_aload_n (pc := 25) C dX6_leftAtWorst_25 0 rfl rfl ?_
        refine ge_X6_X6_9 (pc := 26) C dX6_leftAtWorst_26 ?_
        refine go_iload (pc := 29) C dX6_leftAtWorst_29 5 rfl ?_
        refine al_X6_9 (pc := 31) C hf.1 dX6_leftAtWorst_31 ?_
        have hf := hf.2
        refine go_iload_n (pc := 32) C dX6_leftAtWorst_32 2 rfl rfl ?_
        refine go_ishr (pc := 33) C dX6_leftAtWorst_33 ?_
        refine go_iconst (pc := 34) (v := 1) C dX6_leftAtWorst_34 (by decide) ?_
        refine go_iand (pc := 35) C dX6_leftAtWorst_35 ?_
        refine go_iconst (pc := 36) (v := 1) C dX6_leftAtWorst_36 (by decide) ?_
        refine go_ic_ne (pc := 37) C dX6_leftAtWorst_37 46 (by decide) (fun c5 => ?_) (fun c5 => ?_)
        · have hf := hf.1 c5
          obtain ⟨x6, e7⟩ : ∃ q9 : Int32, q9 = v4 + 1 := ⟨_, rfl⟩
          refine go_iinc (pc := 46) (j := 4) (v := x6) C dX6_leftAtWorst_46 [(4, .int x6), (0, .ref ((tq_la X).1 27 0)), (1, .int v1), (2, .int v2), (3, .int v3), (5, .int v5)] rfl (by rw [e7]; rfl) (by decide) rfl ?_
          have hf := hf x6 e7
          obtain ⟨x8, e9⟩ : ∃ q9 : Int32, q9 = v5 + 1 := ⟨_, rfl⟩
          refine go_iinc (pc := 49) (j := 5) (v := x8) C dX6_leftAtWorst_49 [(5, .int x8), (4, .int x6), (0, .ref ((tq_la X).1 27 0)), (1, .int v1), (2, .int v2), (3, .int v3)] rfl (by rw [e9]; rfl) (by decide) rfl ?_
          have hf := hf x8 e9
          refine go_goto (pc := 52) C dX6_leftAtWorst_52 8 (by decide) ?_
          exact go_sub [2, 3, 4, 5, 1, 0] rfl (ih _ _ _ _ _ _ hf)
        · have hf := hf.2 c5
          obtain ⟨x10, e11⟩ : ∃ q9 : Int32, q9 = v3 + 1 := ⟨_, rfl⟩
          refine go_iinc (pc := 40) (j := 3) (v := x10) C dX6_leftAtWorst_40 [(3, .int x10), (0, .ref ((tq_la X).1 27 0)), (1, .int v1), (2, .int v2), (4, .int v4), (5, .int v5)] rfl (by rw [e11]; rfl) (by decide) rfl ?_
          have hf := hf x10 e11
          refine go_goto (pc := 43) C dX6_leftAtWorst_43 49 (by decide) ?_
          obtain ⟨x12, e13⟩ : ∃ q9 : Int32, q9 = v5 + 1 := ⟨_, rfl⟩
          refine go_iinc (pc := 49) (j := 5) (v := x12) C dX6_leftAtWorst_49 [(5, .int x12), (3, .int x10), (0, .ref ((tq_la X).1 27 0)), (1, .int v1), (2, .int v2), (4, .int v4)] rfl (by rw [e13]; rfl) (by decide) rfl ?_
          have hf := hf x12 e13
          refine go_goto (pc := 52) C dX6_leftAtWorst_52 8 (by decide) ?_
          exact go_sub [2, 3, 4, 1, 5, 0] rfl (ih _ _ _ _ _ _ hf)
set_option maxRecDepth 100000 in
set_option maxHeartbeats 4000000 in
theorem wk_X6_leftAtWorst {X : tq_Cx} {p1 : Int32} {p2 : Int32} {S : tq_St} {K : Int32 → tq_St → Prop} (C : tq_C X cX6_leftAtWorst 6 RX6 1) (hR : tq_Ri X cX6_leftAtWorst 6 K) (hf : wp_X6_leftAtWorst p1 p2 S K) : Go X 6 S 0 [(0, .ref ((tq_la X).1 27 0)), (1, .int p1), (2, .int p2)] [] := by
  refine go_iconst (pc := 0) (v := 0) C dX6_leftAtWorst_0 (by decide) ?_
  refine go_istore_n (pc := 1) C dX6_leftAtWorst_1 [(3, .int 0), (0, .ref ((tq_la X).1 27 0)), (1, .int p1), (2, .int p2)] rfl (by decide) rfl ?_
  refine go_iconst (pc := 2) (v := 0) C dX6_leftAtWorst_2 (by decide) ?_
  refine go_istore (pc := 3) C dX6_leftAtWorst_3 [(4, .int 0), (3, .int 0), (0, .ref ((tq_la X).1 27 0)), (1, .int p1), (2, .int p2)] (by decide) rfl ?_
  refine go_iconst (pc := 5) (v := 0) C dX6_leftAtWorst_5 (by decide) ?_
  refine go_istore (pc := 6) C dX6_leftAtWorst_6 [(5, .int 0), (4, .int 0), (3, .int 0), (0, .ref ((tq_la X).1 27 0)), (1, .int p1), (2, .int p2)] (by decide) rfl ?_
  exact go_sub [3, 4, 5, 2, 1, 0] rfl (wk_X6_leftAtWorst_8 C hR 2000 _ _ _ _ _ _ hf)
set_option maxRecDepth 100000 in
set_option maxHeartbeats 4000000 in
theorem ok_X6_leftAtWorst {p1 : Int32} {p2 : Int32} {S : tq_St} {K : Int32 → tq_St → Prop} (hf : wp_X6_leftAtWorst p1 p2 S K) : tq_Mi yX6_leftAtWorst cX6_leftAtWorst 6 (some .int) 1 (fun a z => [.ref (a.1 27 0), .int p1, .int p2]) S K :=
  tq_mkI (by decide) (fun _ _ => Nat.le_of_ble_eq_true rfl) (fun X C hR => wk_X6_leftAtWorst C hR  hf)
set_option maxRecDepth 100000 in
set_option maxHeartbeats 4000000 in
theorem wk_X6_ask_39 {X : tq_Cx} {K : Int32 → tq_St → Prop} (C : tq_C X cX6_ask 8 RX6 8) (hR : tq_Ri X cX6_ask 8 K) : ∀ (n : Nat) (v2 : Int32) (v3 : Int32) (v4 : Int32) (v5 : Int32) (v6 : Int32) (S : tq_St), wp_X6_ask_39 K n v2 v3 v4 v5 v6 S → Go X 8 S 39 [(0, .ref ((tq_la X).1 27 0)), (2, .int v2), (3, .int v3), (4, .int v4), (5, .int v5), (6, .int v6)] [] := by
  intro n
  induction n with
  | zero => intros; contradiction
  | succ n ih =>
    intro v2 v3 v4 v5 v6 S hf
    refine go_iload (pc := 39) C dX6_ask_39 5 rfl ?_
    refine go_aload_n (pc := 41) C dX6_ask_41 0 rfl rfl ?_
    refine ge_X6_X6_0 (pc := 42) C dX6_ask_42 ?_
    refine ge_X6_X1_5 (pc := 45) C (by decide) dX6_ask_45 ?_
    refine go_ic_ge (pc := 48) C dX6_ask_48 81 (by decide) (fun c15 => ?_) (fun c15 => ?_)
    · have hf := hf.1 c15
      refine go_iload_n (pc := 81) C dX6_ask_81 1 rfl rfl ?_
      refine go_if_eq (pc := 82) C dX6_ask_82 92 (by decide) (fun c16 => ?_) (fun c16 => ?_)
      · have hf := hf.1 c16
        refine go_iload (pc := 92) C dX6_ask_92 4 rfl ?_
        refine go_goto (pc := 94) C dX6_ask_94 99 (by decide) ?_
        exact hR _ _ _ _ dX6_ask_99 hf
      · have hf := hf.2 c16
        refine go_iload (pc := 85) C dX6_ask_85 4 rfl ?_
        refine go_bipush (pc := 87) (v := (-4)) C dX6_ask_87 (by decide) ?_
        refine go_ic_ne (pc := 89) C dX6_ask_89 97 (by decide) (fun c17 => ?_) (fun c17 => ?_)
        · have hf := hf.1 c17
          refine go_iload (pc := 97) C dX6_ask_97 3 rfl ?_
          exact hR _ _ _ _ dX6_ask_99 hf
        · have hf := hf.2 c17
          refine go_iload (pc := 92) C dX6_ask_92 4 rfl ?_
          refine go_goto (pc := 94) C dX6_ask_94 99 (by decide) ?_
          exact hR _ _ _ _ dX6_ask_99 hf
    · have hf := hf.2 c15
      refine go_aload_n (pc := 51) C dX6_ask_51 0 rfl rfl ?_
      refine go_iload_n (pc := 52) C dX6_ask_52 2 rfl rfl ?_
      refine go_iload (pc := 53) C dX6_ask_53 5 rfl ?_
      refine go_cVi (pc := 55) C cw_X6_232 (ok_X6_leftAtWorst hf) (rc_X6 C) rfl rfl rfl (by decide) rfl dX6_ask_55 (fun r18 S19 hf => ?_)
      refine go_istore (pc := 58) C dX6_ask_58 [(7, .int r18), (0, .ref ((tq_la X).1 27 0)), (2, .int v2), (3, .int v3), (4, .int v4), (5, .int v5), (6, .int v6)] (by decide) rfl ?_
      refine go_iload (pc := 60) C dX6_ask_60 0 rfl ?_
      refine go_iload (pc := 62) C dX6_ask_62 4 rfl ?_
      refine go_ic_ge (pc := 64) C dX6_ask_64 75 (by decide) (fun c21 => ?_) (fun c21 => ?_)
      · have hf := hf.1 c21
        obtain ⟨x22, e23⟩ : ∃ q9 : Int32, q9 = v6 + 1 := ⟨_, rfl⟩
        refine go_iinc (pc := 75) (j := 6) (v := x22) C dX6_ask_75 [(6, .int x22), (7, .int r18), (0, .ref ((tq_la X).1 27 0)), (2, .int v2), (3, .int v3), (4, .int v4), (5, .int v5)] rfl (by rw [e23]; rfl) (by decide) rfl ?_
        have hf := hf x22 e23
        refine go_goto (pc := 78) C dX6_ask_78 39 (by decide) ?_
        exact go_sub [2, 3, 4, 5, 6, 0] rfl (ih _ _ _ _ _ _ hf)
      · have hf := hf.2 c21
        refine go_iload (pc := 67) C dX6_ask_67 0 rfl ?_
        refine go_istore (pc := 69) C dX6_ask_69 [(4, .int r18), (7, .int r18), (0, .ref ((tq_la X).1 27 0)), (2, .int v2), (3, .int v3), (5, .int v5), (6, .int v6)] (by decide) rfl ?_
        refine go_iload (pc := 71) C dX6_ask_71 6 rfl ?_
        refine go_istore (pc := 73) C dX6_ask_73 [(5, .int v6), (4, .int r18), (7, .int r18), (0, .ref ((tq_la X).1 27 0)), (2, .int v2), (3, .int v3), (6, .int v6)] (by decide) rfl ?_
        obtain ⟨x24, e25⟩ : ∃ q9 : Int32, q9 = v6 + 1 := ⟨_, rfl⟩
        refine go_iinc (pc := 75) (j := 6) (v := x24) C dX6_ask_75 [(6, .int x24), (5, .int v6), (4, .int r18), (7, .int r18), (0, .ref ((tq_la X).1 27 0)), (2, .int v2), (3, .int v3)] rfl (by rw [e25]; rfl) (by decide) rfl ?_
        have hf := hf x24 e25
        refine go_goto (pc := 78) C dX6_ask_78 39 (by decide) ?_
        exact go_sub [4, 5, 6, 2, 1, 0] rfl (ih _ _ _ _ _ _ hf)
set_option maxRecDepth 100000 in
set_option maxHeartbeats 4000000 in
theorem wk_X6_ask {X : tq_Cx} {p1 : Int32} {p2 : Int32} {S : tq_St} {K : Int32 → tq_St → Prop} (C : tq_C X cX6_ask 8 RX6 8) (hR : tq_Ri X cX6_ask 8 K) (hf : wp_X6_ask p1 p2 S K) : Go X 8 S 0 [(0, .ref ((tq_la X).1 27 0)), (1, .int p1), (2, .int p2)] [] := by
  refine go_aload_n (pc := 0) C dX6_ask_0 0 rfl rfl ?_
  refine ge_X6_X6_0 (pc := 1) C dX6_ask_1 ?_
  refine go_iload_n (pc := 4) C dX6_ask_4 1 rfl rfl ?_
  refine go_cVi (pc := 5) C cw_X6_112 (ok_X1_isThere (by decide) hf) (rc_X1 C (by decide)) rfl rfl rfl (by decide) rfl dX6_ask_5 (fun r1 S2 hf => ?_)
  refine go_if_eq (pc := 8) C dX6_ask_8 18 (by decide) (fun c4 => ?_) (fun c4 => ?_)
  · have hf := hf.1 c4
    refine go_iconst (pc := 18) (v := (-1)) C dX6_ask_18 (by decide) ?_
    exact hR _ _ _ _ dX6_ask_19 hf
  · have hf := hf.2 c4
    refine go_iload_n (pc := 11) C dX6_ask_11 2 rfl rfl ?_
    refine go_cSi (pc := 12) C cs_X6_178 (ok_X6_isZeroOrOne hf) rfl rfl rfl (by decide) rfl dX6_ask_12 (fun r5 S6 hf => ?_)
    refine go_if_ne (pc := 15) C dX6_ask_15 20 (by decide) (fun c8 => ?_) (fun c8 => ?_)
    · have hf := hf.1 c8
      refine go_aload_n (pc := 20) C dX6_ask_20 0 rfl rfl ?_
      refine go_iload_n (pc := 21) C dX6_ask_21 1 rfl rfl ?_
      refine go_cVi (pc := 22) C cw_X6_229 (ok_X6_possibleSorrows hf) (rc_X6 C) rfl rfl rfl (by decide) rfl dX6_ask_22 (fun r9 S10 hf => ?_)
      refine go_istore_n (pc := 25) C dX6_ask_25 [(3, .int r9), (0, .ref ((tq_la X).1 27 0)), (1, .int p1), (2, .int p2)] rfl (by decide) rfl ?_
      refine go_iload_n (pc := 26) C dX6_ask_26 0 rfl rfl ?_
      refine go_cSi (pc := 27) C cs_X6_158 (ok_J6_bitCount_0f7a4 hf) rfl rfl rfl (by decide) rfl dX6_ask_27 (fun r12 S13 hf => ?_)
      refine go_istore (pc := 30) C dX6_ask_30 [(4, .int r12), (3, .int r9), (0, .ref ((tq_la X).1 27 0)), (1, .int p1), (2, .int p2)] (by decide) rfl ?_
      refine go_bipush (pc := 32) (v := (-4)) C dX6_ask_32 (by decide) ?_
      refine go_istore (pc := 34) C dX6_ask_34 [(5, .int (-4)), (4, .int r12), (3, .int r9), (0, .ref ((tq_la X).1 27 0)), (1, .int p1), (2, .int p2)] (by decide) rfl ?_
      refine go_iconst (pc := 36) (v := 0) C dX6_ask_36 (by decide) ?_
      refine go_istore (pc := 37) C dX6_ask_37 [(6, .int 0), (5, .int (-4)), (4, .int r12), (3, .int r9), (0, .ref ((tq_la X).1 27 0)), (1, .int p1), (2, .int p2)] (by decide) rfl ?_
      exact go_sub [4, 6, 3, 2, 1, 0] rfl (wk_X6_ask_39 C hR 2000 _ _ _ _ _ _ hf)
    · have hf := hf.2 c8
      refine go_iconst (pc := 18) (v := (-1)) C dX6_ask_18 (by decide) ?_
      exact hR _ _ _ _ dX6_ask_19 hf
set_option maxRecDepth 100000 in
set_option maxHeartbeats 4000000 in
theorem ok_X6_ask {p1 : Int32} {p2 : Int32} {S : tq_St} {K : Int32 → tq_St → Prop} (hf : wp_X6_ask p1 p2 S K) : tq_Mi yX6_ask cX6_ask 8 (some .int) 8 (fun a z => [.ref (a.1 27 0), .int p1, .int p2]) S K :=
  tq_mkI (by decide) (fun _ _ => Nat.le_of_ble_eq_true rfl) (fun X C hR => wk_X6_ask C hR  hf)
set_option maxRecDepth 100000 in
set_option maxHeartbeats 4000000 in
theorem wk_X6_back {X : tq_Cx} {p1 : Int32} {S : tq_St} {K : Int32 → tq_St → Prop} (C : tq_C X cX6_back 2 RX6 2) (hR : tq_Ri X cX6_back 2 K) (hf : wp_X6_back p1 S K) : Go X 2 S 0 [(0, .ref ((tq_la X).1 27 0)), (1, .int p1)] [] := by
  refine go_iload_n (pc := 0) C dX6_back_0 1 rfl rfl ?_
  refine go_if_lt (pc := 1) C dX6_back_1 9 (by decide) (fun c1 => ?_) (fun c1 => ?_)
  · have hf := hf.1 c1
    refine go_iconst (pc := 9) (v := (-1)) C dX6_back_9 (by decide) ?_
    exact hR _ _ _ _ dX6_back_10 hf
  · have hf := hf.2 c1
    refine go_iload_n (pc := 4) C dX6_back_4 1 rfl rfl ?_
    refine go_iconst (pc := 5) (v := 2) C dX6_back_5 (by decide) ?_
    refine go_ic_lt (pc := 6) C dX6_back_6 11 (by decide) (fun c2 => ?_) (fun c2 => ?_)
    · have hf := hf.1 c2
      refine go_aload_n (pc := 11) C dX6_back_11 0 rfl rfl ?_
      refine ge_X6_X6_7 (pc := 12) C dX6_back_12 ?_
      refine go_iload_n (pc := 15) C dX6_back_15 1 rfl rfl ?_
      refine al_X6_7 (pc := 16) C hf.1 dX6_back_16 ?_
      have hf := hf.2
      refine go_if_ne (pc := 17) C dX6_back_17 23 (by decide) (fun c3 => ?_) (fun c3 => ?_)
      · have hf := hf.1 c3
        refine go_aload_n (pc := 23) C dX6_back_23 0 rfl rfl ?_
        refine ge_X6_X6_0 (pc := 24) C dX6_back_24 ?_
        refine go_aload_n (pc := 27) C dX6_back_27 0 rfl rfl ?_
        refine ge_X6_X6_6 (pc := 28) C dX6_back_28 ?_
        refine go_iload_n (pc := 31) C dX6_back_31 1 rfl rfl ?_
        refine al_X6_6 (pc := 32) C hf.1 dX6_back_32 ?_
        have h4 : 17 + (p1 : Int32).toNatClampNeg < 19 := tq_le hf.1 (by decide)
        have hf := hf.2
        refine go_cVv (pc := 33) C cw_X6_84 (ok_X1_copyFrom (by decide) h4 hf) (rc_X1 C (by decide)) rfl rfl rfl (by decide) rfl dX6_back_33 (fun S6 hf => ?_)
        refine go_aload_n (pc := 36) C dX6_back_36 0 rfl rfl ?_
        refine ge_X6_X6_0 (pc := 37) C dX6_back_37 ?_
        refine ge_X6_X1_7 (pc := 40) C (by decide) dX6_back_40 ?_
        exact hR _ _ _ _ dX6_back_43 hf
      · have hf := hf.2 c3
        refine go_bipush (pc := 20) (v := (-2)) C dX6_back_20 (by decide) ?_
        exact hR _ _ _ _ dX6_back_22 hf
    · have hf := hf.2 c2
      refine go_iconst (pc := 9) (v := (-1)) C dX6_back_9 (by decide) ?_
      exact hR _ _ _ _ dX6_back_10 hf
set_option maxRecDepth 100000 in
set_option maxHeartbeats 4000000 in
theorem ok_X6_back {p1 : Int32} {S : tq_St} {K : Int32 → tq_St → Prop} (hf : wp_X6_back p1 S K) : tq_Mi yX6_back cX6_back 2 (some .int) 2 (fun a z => [.ref (a.1 27 0), .int p1]) S K :=
  tq_mkI (by decide) (fun _ _ => Nat.le_of_ble_eq_true rfl) (fun X C hR => wk_X6_back C hR  hf)
set_option maxRecDepth 100000 in
set_option maxHeartbeats 4000000 in
theorem wk_X6_best_24 {X : tq_Cx} {K : Int32 → tq_St → Prop} (C : tq_C X cX6_best 3 RX6 20) (hR : tq_Ri X cX6_best 3 K) : ∀ (v1 : Int32) (v2 : Int32) (S : tq_St), wp_X6_best_24 K v1 v2 S → Go X 3 S 24 [(0, .ref ((tq_la X).1 27 0)), (1, .int v1), (2, .int v2)] [] := by
  intro v1 v2 S hf
  refine go_aload_n (pc := 24) C dX6_best_24 0 rfl rfl ?_
  refine ge_X6_X6_4 (pc := 25) C dX6_best_25 ?_
  refine go_aload_n (pc := 28) C dX6_best_28 0 rfl rfl ?_
  refine ge_X6_X6_0 (pc := 29) C dX6_best_29 ?_
  refine go_iload_n (pc := 32) C dX6_best_32 1 rfl rfl ?_
  refine go_cVv (pc := 33) C cw_X6_181 (ok_X2_findMostTears (by decide) hf) (rc_X2 C) rfl rfl rfl (by decide) rfl dX6_best_33 (fun S8 hf => ?_)
  refine go_iload_n (pc := 36) C dX6_best_36 2 rfl rfl ?_
  refine go_bipush (pc := 37) (v := 10) C dX6_best_37 (by decide) ?_
  refine go_ic_lt (pc := 39) C dX6_best_39 54 (by decide) (fun c10 => ?_) (fun c10 => ?_)
  · have hf := hf.1 c10
    refine go_iload_n (pc := 54) C dX6_best_54 2 rfl rfl ?_
    refine go_if_ne (pc := 55) C dX6_best_55 68 (by decide) (fun c11 => ?_) (fun c11 => ?_)
    · have hf := hf.1 c11
      refine go_aload_n (pc := 68) C dX6_best_68 0 rfl rfl ?_
      refine ge_X6_X6_4 (pc := 69) C dX6_best_69 ?_
      refine ge_X6_X2_5 (pc := 72) C dX6_best_72 ?_
      exact hR _ _ _ _ dX6_best_75 hf
    · have hf := hf.2 c11
      refine go_aload_n (pc := 58) C dX6_best_58 0 rfl rfl ?_
      refine ge_X6_X6_4 (pc := 59) C dX6_best_59 ?_
      refine ge_X6_X2_4 (pc := 62) C dX6_best_62 ?_
      refine go_goto (pc := 65) C dX6_best_65 75 (by decide) ?_
      exact hR _ _ _ _ dX6_best_75 hf
  · have hf := hf.2 c10
    refine go_aload_n (pc := 42) C dX6_best_42 0 rfl rfl ?_
    refine ge_X6_X6_4 (pc := 43) C dX6_best_43 ?_
    refine go_iload_n (pc := 46) C dX6_best_46 2 rfl rfl ?_
    refine go_bipush (pc := 47) (v := 10) C dX6_best_47 (by decide) ?_
    refine go_isub (pc := 49) C dX6_best_49 ?_
    refine go_cVi (pc := 50) C cw_X6_185 (ok_X2_foundAt hf) (rc_X2 C) rfl rfl rfl (by decide) rfl dX6_best_50 (fun r12 S13 hf => ?_)
    exact hR _ _ _ _ dX6_best_53 hf
set_option maxRecDepth 100000 in
set_option maxHeartbeats 4000000 in
theorem wk_X6_best {X : tq_Cx} {p1 : Int32} {p2 : Int32} {S : tq_St} {K : Int32 → tq_St → Prop} (C : tq_C X cX6_best 3 RX6 20) (hR : tq_Ri X cX6_best 3 K) (hf : wp_X6_best p1 p2 S K) : Go X 3 S 0 [(0, .ref ((tq_la X).1 27 0)), (1, .int p1), (2, .int p2)] [] := by
  refine go_iload_n (pc := 0) C dX6_best_0 1 rfl rfl ?_
  refine go_if_lt (pc := 1) C dX6_best_1 22 (by decide) (fun c1 => ?_) (fun c1 => ?_)
  · have hf := hf.1 c1
    refine go_iconst (pc := 22) (v := (-1)) C dX6_best_22 (by decide) ?_
    exact hR _ _ _ _ dX6_best_23 hf
  · have hf := hf.2 c1
    refine go_iload_n (pc := 4) C dX6_best_4 1 rfl rfl ?_
    refine go_iconst (pc := 5) (v := 4) C dX6_best_5 (by decide) ?_
    refine go_ic_gt (pc := 6) C dX6_best_6 22 (by decide) (fun c2 => ?_) (fun c2 => ?_)
    · have hf := hf.1 c2
      refine go_iconst (pc := 22) (v := (-1)) C dX6_best_22 (by decide) ?_
      exact hR _ _ _ _ dX6_best_23 hf
    · have hf := hf.2 c2
      refine go_iload_n (pc := 9) C dX6_best_9 2 rfl rfl ?_
      refine go_cSi (pc := 10) C cs_X6_178 (ok_X6_isZeroOrOne hf) rfl rfl rfl (by decide) rfl dX6_best_10 (fun r3 S4 hf => ?_)
      refine go_if_ne (pc := 13) C dX6_best_13 24 (by decide) (fun c6 => ?_) (fun c6 => ?_)
      · have hf := hf.1 c6
        exact go_sub [0, 1, 2] rfl (wk_X6_best_24 C hR _ _ _ hf)
      · have hf := hf.2 c6
        refine go_iload_n (pc := 16) C dX6_best_16 2 rfl rfl ?_
        refine go_bipush (pc := 17) (v := 10) C dX6_best_17 (by decide) ?_
        refine go_ic_ge (pc := 19) C dX6_best_19 24 (by decide) (fun c15 => ?_) (fun c15 => ?_)
        · have hf := hf.1 c15
          exact go_sub [0, 1, 2] rfl (wk_X6_best_24 C hR _ _ _ hf)
        · have hf := hf.2 c15
          refine go_iconst (pc := 22) (v := (-1)) C dX6_best_22 (by decide) ?_
          exact hR _ _ _ _ dX6_best_23 hf
set_option maxRecDepth 100000 in
set_option maxHeartbeats 4000000 in
theorem ok_X6_best {p1 : Int32} {p2 : Int32} {S : tq_St} {K : Int32 → tq_St → Prop} (hf : wp_X6_best p1 p2 S K) : tq_Mi yX6_best cX6_best 3 (some .int) 20 (fun a z => [.ref (a.1 27 0), .int p1, .int p2]) S K :=
  tq_mkI (by decide) (fun _ _ => Nat.le_of_ble_eq_true rfl) (fun X C hR => wk_X6_best C hR  hf)
set_option maxRecDepth 100000 in
set_option maxHeartbeats 4000000 in
theorem wk_X6_count_62 {X : tq_Cx} {K : Int32 → tq_St → Prop} (C : tq_C X cX6_count 2 RX6 2) (hR : tq_Ri X cX6_count 2 K) : ∀ (w0 : Int32) (S : tq_St), wp_X6_count_62 K w0 S → Go X 2 S 62 [(0, .ref ((tq_la X).1 27 0))] [.int w0] := by
  intro w0 S hf
  refine go_aload_n (pc := 62) C dX6_count_62 0 rfl rfl ?_
  refine ge_X6_X6_7 (pc := 63) C dX6_count_63 ?_
  refine go_iconst (pc := 66) (v := 1) C dX6_count_66 (by decide) ?_
  refine al_X6_7 (pc := 67) C hf.1 dX6_count_67 ?_
  have hf := hf.2
  refine go_if_eq (pc := 68) C dX6_count_68 75 (by decide) (fun c3 => ?_) (fun c3 => ?_)
  · have hf := hf.1 c3
    refine go_iconst (pc := 75) (v := 0) C dX6_count_75 (by decide) ?_
    refine go_iadd (pc := 76) C dX6_count_76 ?_
    exact hR _ _ _ _ dX6_count_77 hf
  · have hf := hf.2 c3
    refine go_iconst (pc := 71) (v := 1) C dX6_count_71 (by decide) ?_
    refine go_goto (pc := 72) C dX6_count_72 76 (by decide) ?_
    refine go_iadd (pc := 76) C dX6_count_76 ?_
    exact hR _ _ _ _ dX6_count_77 hf
set_option maxRecDepth 100000 in
set_option maxHeartbeats 4000000 in
theorem wk_X6_count {X : tq_Cx} {p1 : Int32} {S : tq_St} {K : Int32 → tq_St → Prop} (C : tq_C X cX6_count 2 RX6 2) (hR : tq_Ri X cX6_count 2 K) (hf : wp_X6_count p1 S K) : Go X 2 S 0 [(0, .ref ((tq_la X).1 27 0)), (1, .int p1)] [] := by
  refine go_iload_n (pc := 0) C dX6_count_0 1 rfl rfl ?_
  rcases tq_sw (x := p1) (0) (5) with c1 | c1
  · have hf := hf.1 c1
    refine go_tabOut (pc := 1) C dX6_count_1 129 (by decide) c1 ?_
    refine go_iconst (pc := 129) (v := (-1)) C dX6_count_129 (by decide) ?_
    exact hR _ _ _ _ dX6_count_130 hf
  · have c1 := tq_lt6 c1
    rcases c1 with c1 | c1 | c1 | c1 | c1 | c1
    · have hf := hf.2.1 c1
      refine go_tabIn (pc := 1) C dX6_count_1 40 (39) (by decide) (by rw [c1]; decide) (by rw [c1]; decide) (by rw [c1]; rfl) ?_
      refine go_aload_n (pc := 40) C dX6_count_40 0 rfl rfl ?_
      refine ge_X6_X6_3 (pc := 41) C dX6_count_41 ?_
      refine ge_X6_X4_2 (pc := 44) C dX6_count_44 ?_
      exact hR _ _ _ _ dX6_count_47 hf
    · have hf := hf.2.2.1 c1
      refine go_tabIn (pc := 1) C dX6_count_1 48 (47) (by decide) (by rw [c1]; decide) (by rw [c1]; decide) (by rw [c1]; rfl) ?_
      refine go_aload_n (pc := 48) C dX6_count_48 0 rfl rfl ?_
      refine ge_X6_X6_7 (pc := 49) C dX6_count_49 ?_
      refine go_iconst (pc := 52) (v := 0) C dX6_count_52 (by decide) ?_
      refine al_X6_7 (pc := 53) C hf.1 dX6_count_53 ?_
      have hf := hf.2
      refine go_if_eq (pc := 54) C dX6_count_54 61 (by decide) (fun c2 => ?_) (fun c2 => ?_)
      · have hf := hf.1 c2
        refine go_iconst (pc := 61) (v := 0) C dX6_count_61 (by decide) ?_
        exact go_sub [0] rfl (wk_X6_count_62 C hR _ _ hf)
      · have hf := hf.2 c2
        refine go_iconst (pc := 57) (v := 1) C dX6_count_57 (by decide) ?_
        refine go_goto (pc := 58) C dX6_count_58 62 (by decide) ?_
        exact go_sub [0] rfl (wk_X6_count_62 C hR _ _ hf)
    · have hf := hf.2.2.2.1 c1
      refine go_tabIn (pc := 1) C dX6_count_1 78 (77) (by decide) (by rw [c1]; decide) (by rw [c1]; decide) (by rw [c1]; rfl) ?_
      refine go_aload_n (pc := 78) C dX6_count_78 0 rfl rfl ?_
      refine ge_X6_X6_2 (pc := 79) C dX6_count_79 ?_
      refine ge_X6_X5_2 (pc := 82) C dX6_count_82 ?_
      exact hR _ _ _ _ dX6_count_85 hf
    · have hf := hf.2.2.2.2.1 c1
      refine go_tabIn (pc := 1) C dX6_count_1 86 (85) (by decide) (by rw [c1]; decide) (by rw [c1]; decide) (by rw [c1]; rfl) ?_
      refine go_aload_n (pc := 86) C dX6_count_86 0 rfl rfl ?_
      refine ge_X6_X6_8 (pc := 87) C dX6_count_87 ?_
      refine go_iconst (pc := 90) (v := 0) C dX6_count_90 (by decide) ?_
      refine al_X6_8 (pc := 91) C hf.1 dX6_count_91 ?_
      have h4 : 23 ≤ 23 + (0 : Int32).toNatClampNeg ∧ 23 + (0 : Int32).toNatClampNeg < 27 := tq_ls hf.1
      have hf := hf.2
      refine ge_X6_X3_1 (pc := 92) C h4 dX6_count_92 ?_
      refine go_if_eq (pc := 95) C dX6_count_95 110 (by decide) (fun c5 => ?_) (fun c5 => ?_)
      · have hf := hf.1 c5
        refine go_bipush (pc := 110) (v := (-4)) C dX6_count_110 (by decide) ?_
        exact hR _ _ _ _ dX6_count_112 hf
      · have hf := hf.2 c5
        refine go_aload_n (pc := 98) C dX6_count_98 0 rfl rfl ?_
        refine ge_X6_X6_8 (pc := 99) C dX6_count_99 ?_
        refine go_iconst (pc := 102) (v := 0) C dX6_count_102 (by decide) ?_
        refine al_X6_8 (pc := 103) C hf.1 dX6_count_103 ?_
        have h6 : 23 ≤ 23 + (0 : Int32).toNatClampNeg ∧ 23 + (0 : Int32).toNatClampNeg < 27 := tq_ls hf.1
        have hf := hf.2
        refine ge_X6_X3_3 (pc := 104) C h6 dX6_count_104 ?_
        refine go_goto (pc := 107) C dX6_count_107 112 (by decide) ?_
        exact hR _ _ _ _ dX6_count_112 hf
    · have hf := hf.2.2.2.2.2.1 c1
      refine go_tabIn (pc := 1) C dX6_count_1 113 (112) (by decide) (by rw [c1]; decide) (by rw [c1]; decide) (by rw [c1]; rfl) ?_
      refine go_aload_n (pc := 113) C dX6_count_113 0 rfl rfl ?_
      refine ge_X6_X6_0 (pc := 114) C dX6_count_114 ?_
      refine go_cVi (pc := 117) C cw_X6_269 (ok_X1_everWept (by decide) hf) (rc_X1 C (by decide)) rfl rfl rfl (by decide) rfl dX6_count_117 (fun r7 S8 hf => ?_)
      exact hR _ _ _ _ dX6_count_120 hf
    · have hf := hf.2.2.2.2.2.2 c1
      refine go_tabIn (pc := 1) C dX6_count_1 121 (120) (by decide) (by rw [c1]; decide) (by rw [c1]; decide) (by rw [c1]; rfl) ?_
      refine go_aload_n (pc := 121) C dX6_count_121 0 rfl rfl ?_
      refine ge_X6_X6_0 (pc := 122) C dX6_count_122 ?_
      refine go_cVi (pc := 125) C cw_X6_272 (ok_X1_tramsPlanned (by decide) hf) (rc_X1 C (by decide)) rfl rfl rfl (by decide) rfl dX6_count_125 (fun r10 S11 hf => ?_)
      exact hR _ _ _ _ dX6_count_128 hf
set_option maxRecDepth 100000 in
set_option maxHeartbeats 4000000 in
theorem ok_X6_count {p1 : Int32} {S : tq_St} {K : Int32 → tq_St → Prop} (hf : wp_X6_count p1 S K) : tq_Mi yX6_count cX6_count 2 (some .int) 2 (fun a z => [.ref (a.1 27 0), .int p1]) S K :=
  tq_mkI (by decide) (fun _ _ => Nat.le_of_ble_eq_true rfl) (fun X C hR => wk_X6_count C hR  hf)
set_option maxRecDepth 100000 in
set_option maxHeartbeats 4000000 in
theorem wk_X6_cut {X : tq_Cx} {p1 : Int32} {S : tq_St} {K : Int32 → tq_St → Prop} (C : tq_C X cX6_cut 3 RX6 1) (hR : tq_Ri X cX6_cut 3 K) (hf : wp_X6_cut p1 S K) : Go X 3 S 0 [(0, .ref ((tq_la X).1 27 0)), (1, .int p1)] [] := by
  refine go_iload_n (pc := 0) C dX6_cut_0 1 rfl rfl ?_
  refine go_if_lt (pc := 1) C dX6_cut_1 15 (by decide) (fun c1 => ?_) (fun c1 => ?_)
  · have hf := hf.1 c1
    refine go_iconst (pc := 15) (v := (-1)) C dX6_cut_15 (by decide) ?_
    exact hR _ _ _ _ dX6_cut_16 hf
  · have hf := hf.2 c1
    refine go_iload_n (pc := 4) C dX6_cut_4 1 rfl rfl ?_
    refine go_aload_n (pc := 5) C dX6_cut_5 0 rfl rfl ?_
    refine ge_X6_X6_0 (pc := 6) C dX6_cut_6 ?_
    refine ge_X6_X1_10 (pc := 9) C (by decide) dX6_cut_9 ?_
    refine go_ic_le (pc := 12) C dX6_cut_12 17 (by decide) (fun c2 => ?_) (fun c2 => ?_)
    · have hf := hf.1 c2
      refine go_aload_n (pc := 17) C dX6_cut_17 0 rfl rfl ?_
      refine ge_X6_X6_0 (pc := 18) C dX6_cut_18 ?_
      refine ge_X6_X1_10 (pc := 21) C (by decide) dX6_cut_21 ?_
      refine go_nI (fun x3 e4 => ?_)
      have hf := hf x3 e4
      refine go_istore_n (pc := 24) C dX6_cut_24 [(2, .int x3), (0, .ref ((tq_la X).1 27 0)), (1, .int p1)] rfl (by decide) rfl ?_
      refine go_aload_n (pc := 25) C dX6_cut_25 1 rfl rfl ?_
      refine ge_X6_X6_0 (pc := 26) C dX6_cut_26 ?_
      refine go_iload_n (pc := 29) C dX6_cut_29 2 rfl rfl ?_
      refine pu_X6_X1_10 (pc := 30) C (by decide) dX6_cut_30 (fun S5 e6 => ?_)
      have hf := hf S5 e6
      refine go_iload_n (pc := 33) C dX6_cut_33 0 rfl rfl ?_
      exact hR _ _ _ _ dX6_cut_34 hf
    · have hf := hf.2 c2
      refine go_iconst (pc := 15) (v := (-1)) C dX6_cut_15 (by decide) ?_
      exact hR _ _ _ _ dX6_cut_16 hf
set_option maxRecDepth 100000 in
set_option maxHeartbeats 4000000 in
theorem ok_X6_cut {p1 : Int32} {S : tq_St} {K : Int32 → tq_St → Prop} (hf : wp_X6_cut p1 S K) : tq_Mi yX6_cut cX6_cut 3 (some .int) 1 (fun a z => [.ref (a.1 27 0), .int p1]) S K :=
  tq_mkI (by decide) (fun _ _ => Nat.le_of_ble_eq_true rfl) (fun X C hR => wk_X6_cut C hR  hf)
set_option maxRecDepth 100000 in
set_option maxHeartbeats 4000000 in
theorem wk_X6_drift_105 {X : tq_Cx} {K : Int32 → tq_St → Prop} (C : tq_C X cX6_drift 8 RX6 6) (hR : tq_Ri X cX6_drift 8 K) {rec55 : Int32 → Int32 → Int32 → Int32 → Int32 → tq_St → Prop} (hrec55 : ∀ (v2 : Int32) (v3 : Int32) (v4 : Int32) (v5 : Int32) (v6 : Int32) (S : tq_St), rec55 v2 v3 v4 v5 v6 S → Go X 8 S 55 [(0, .ref ((tq_la X).1 27 0)), (2, .int v2), (3, .int v3), (4, .int v4), (5, .int v5), (6, .int v6)] []) : ∀ (v2 : Int32) (v3 : Int32) (v4 : Int32) (v5 : Int32) (v6 : Int32) (w1 : Int32) (S : tq_St), wp_X6_drift_105 K rec55 v2 v3 v4 v5 v6 w1 S → Go X 8 S 105 [(0, .ref ((tq_la X).1 27 0)), (2, .int v2), (3, .int v3), (4, .int v4), (5, .int v5), (6, .int v6)] [.int w1, .ref ((tq_la X).1 1 0)] := by
  intro v2 v3 v4 v5 v6 w1 S hf
  refine go_cVi (pc := 105) C cw_X6_236 (ok_X1_play (by decide) hf) (rc_X1 C (by decide)) rfl rfl rfl (by decide) rfl dX6_drift_105 (fun r23 S24 hf => ?_)
  refine go_pop (pc := 108) C dX6_drift_108 rfl ?_
  obtain ⟨x26, e27⟩ : ∃ q9 : Int32, q9 = v6 + 1 := ⟨_, rfl⟩
  refine go_iinc (pc := 109) (j := 5) (v := x26) C dX6_drift_109 [(6, .int x26), (0, .ref ((tq_la X).1 27 0)), (2, .int v2), (3, .int v3), (4, .int v4), (5, .int v5)] rfl (by rw [e27]; rfl) (by decide) rfl ?_
  have hf := hf x26 e27
  refine go_goto (pc := 112) C dX6_drift_112 55 (by decide) ?_
  exact go_sub [1, 2, 3, 4, 5, 0] rfl (hrec55 _ _ _ _ _ _ hf)
set_option maxRecDepth 100000 in
set_option maxHeartbeats 4000000 in
theorem wk_X6_drift_55 {X : tq_Cx} {K : Int32 → tq_St → Prop} (C : tq_C X cX6_drift 8 RX6 6) (hR : tq_Ri X cX6_drift 8 K) : ∀ (n : Nat) (v2 : Int32) (v3 : Int32) (v4 : Int32) (v5 : Int32) (v6 : Int32) (S : tq_St), wp_X6_drift_55 K n v2 v3 v4 v5 v6 S → Go X 8 S 55 [(0, .ref ((tq_la X).1 27 0)), (2, .int v2), (3, .int v3), (4, .int v4), (5, .int v5), (6, .int v6)] [] := by
  intro n
  induction n with
  | zero => intros; contradiction
  | succ n ih =>
    intro v2 v3 v4 v5 v6 S hf
    refine go_iload (pc := 55) C dX6_drift_55 5 rfl ?_
    refine go_iload_n (pc := 57) C dX6_drift_57 1 rfl rfl ?_
    refine go_ic_ge (pc := 58) C dX6_drift_58 115 (by decide) (fun c13 => ?_) (fun c13 => ?_)
    · have hf := hf.1 c13
      refine go_iload_n (pc := 115) C dX6_drift_115 2 rfl rfl ?_
      refine go_if_ne (pc := 116) C dX6_drift_116 129 (by decide) (fun c14 => ?_) (fun c14 => ?_)
      · have hf := hf.1 c14
        refine go_aload_n (pc := 129) C dX6_drift_129 0 rfl rfl ?_
        refine ge_X6_X6_1 (pc := 130) C dX6_drift_130 ?_
        refine go_iconst (pc := 133) (v := 0) C dX6_drift_133 (by decide) ?_
        refine go_cVi (pc := 134) C cw_X6_134 (ok_X1_inLine (by decide) hf) (rc_X1 C (by decide)) rfl rfl rfl (by decide) rfl dX6_drift_134 (fun r15 S16 hf => ?_)
        exact hR _ _ _ _ dX6_drift_137 hf
      · have hf := hf.2 c14
        refine go_aload_n (pc := 119) C dX6_drift_119 0 rfl rfl ?_
        refine ge_X6_X6_1 (pc := 120) C dX6_drift_120 ?_
        refine ge_X6_X1_12 (pc := 123) C (by decide) dX6_drift_123 ?_
        refine go_goto (pc := 126) C dX6_drift_126 137 (by decide) ?_
        exact hR _ _ _ _ dX6_drift_137 hf
    · have hf := hf.2 c13
      refine go_iload (pc := 61) C dX6_drift_61 4 rfl ?_
      refine go_ldc (pc := 63) C kc_X6_235 dX6_drift_63 ?_
      refine go_imul (pc := 65) C dX6_drift_65 ?_
      refine go_sipush (pc := 66) (v := 12345) C dX6_drift_66 (by decide) ?_
      refine go_iadd (pc := 69) C dX6_drift_69 ?_
      refine go_nI (fun x18 e19 => ?_)
      have hf := hf x18 e19
      refine go_istore (pc := 70) C dX6_drift_70 [(5, .int x18), (0, .ref ((tq_la X).1 27 0)), (2, .int v2), (3, .int v3), (4, .int v4), (6, .int v6)] (by decide) rfl ?_
      refine go_iload (pc := 72) C dX6_drift_72 0 rfl ?_
      refine go_bipush (pc := 74) (v := 16) C dX6_drift_74 (by decide) ?_
      refine go_iushr (pc := 76) C dX6_drift_76 ?_
      refine go_sipush (pc := 77) (v := 32767) C dX6_drift_77 (by decide) ?_
      refine go_iand (pc := 80) C dX6_drift_80 ?_
      refine go_iload (pc := 81) C dX6_drift_81 4 rfl ?_
      refine go_iconst (pc := 83) (v := 1) C dX6_drift_83 (by decide) ?_
      refine go_iadd (pc := 84) C dX6_drift_84 ?_
      refine go_irem (pc := 85) C dX6_drift_85 hf.1 ?_
      have hf := hf.2
      refine go_nI (fun x20 e21 => ?_)
      have hf := hf x20 e21
      refine go_istore (pc := 86) C dX6_drift_86 [(7, .int x20), (5, .int x18), (0, .ref ((tq_la X).1 27 0)), (2, .int v2), (3, .int v3), (4, .int v4), (6, .int v6)] (by decide) rfl ?_
      refine go_aload_n (pc := 88) C dX6_drift_88 2 rfl rfl ?_
      refine ge_X6_X6_1 (pc := 89) C dX6_drift_89 ?_
      refine go_iload (pc := 92) C dX6_drift_92 0 rfl ?_
      refine go_iload (pc := 94) C dX6_drift_94 5 rfl ?_
      refine go_ic_ge (pc := 96) C dX6_drift_96 104 (by decide) (fun c22 => ?_) (fun c22 => ?_)
      · have hf := hf.1 c22
        refine go_iconst (pc := 104) (v := 5) C dX6_drift_104 (by decide) ?_
        exact go_sub [2, 3, 4, 5, 1, 6] rfl (wk_X6_drift_105 C hR ih _ _ _ _ _ _ _ hf)
      · have hf := hf.2 c22
        refine go_iload (pc := 99) C dX6_drift_99 0 rfl ?_
        refine go_goto (pc := 101) C dX6_drift_101 105 (by decide) ?_
        exact go_sub [2, 3, 4, 5, 1, 6] rfl (wk_X6_drift_105 C hR ih _ _ _ _ _ _ _ hf)
set_option maxRecDepth 100000 in
set_option maxHeartbeats 4000000 in
theorem wk_X6_drift {X : tq_Cx} {p1 : Int32} {p2 : Int32} {p3 : Int32} {S : tq_St} {K : Int32 → tq_St → Prop} (C : tq_C X cX6_drift 8 RX6 6) (hR : tq_Ri X cX6_drift 8 K) (hf : wp_X6_drift p1 p2 p3 S K) : Go X 8 S 0 [(0, .ref ((tq_la X).1 27 0)), (1, .int p1), (2, .int p2), (3, .int p3)] [] := by
  refine go_iload_n (pc := 0) C dX6_drift_0 2 rfl rfl ?_
  refine go_iconst (pc := 1) (v := 1) C dX6_drift_1 (by decide) ?_
  refine go_ic_lt (pc := 2) C dX6_drift_2 18 (by decide) (fun c1 => ?_) (fun c1 => ?_)
  · have hf := hf.1 c1
    refine go_iconst (pc := 18) (v := (-1)) C dX6_drift_18 (by decide) ?_
    exact hR _ _ _ _ dX6_drift_19 hf
  · have hf := hf.2 c1
    refine go_iload_n (pc := 5) C dX6_drift_5 2 rfl rfl ?_
    refine go_bipush (pc := 6) (v := 60) C dX6_drift_6 (by decide) ?_
    refine go_ic_gt (pc := 8) C dX6_drift_8 18 (by decide) (fun c2 => ?_) (fun c2 => ?_)
    · have hf := hf.1 c2
      refine go_iconst (pc := 18) (v := (-1)) C dX6_drift_18 (by decide) ?_
      exact hR _ _ _ _ dX6_drift_19 hf
    · have hf := hf.2 c2
      refine go_iload_n (pc := 11) C dX6_drift_11 3 rfl rfl ?_
      refine go_cSi (pc := 12) C cs_X6_178 (ok_X6_isZeroOrOne hf) rfl rfl rfl (by decide) rfl dX6_drift_12 (fun r3 S4 hf => ?_)
      refine go_if_ne (pc := 15) C dX6_drift_15 20 (by decide) (fun c6 => ?_) (fun c6 => ?_)
      · have hf := hf.1 c6
        refine go_aload_n (pc := 20) C dX6_drift_20 0 rfl rfl ?_
        refine ge_X6_X6_0 (pc := 21) C dX6_drift_21 ?_
        refine ge_X6_X1_5 (pc := 24) C (by decide) dX6_drift_24 ?_
        refine go_nI (fun x7 e8 => ?_)
        have hf := hf x7 e8
        refine go_istore (pc := 27) C dX6_drift_27 [(4, .int x7), (0, .ref ((tq_la X).1 27 0)), (1, .int p1), (2, .int p2), (3, .int p3)] (by decide) rfl ?_
        refine go_iload (pc := 29) C dX6_drift_29 0 rfl ?_
        refine go_iconst (pc := 31) (v := 1) C dX6_drift_31 (by decide) ?_
        refine go_ic_ge (pc := 32) C dX6_drift_32 38 (by decide) (fun c9 => ?_) (fun c9 => ?_)
        · have hf := hf.1 c9
          refine go_aload_n (pc := 38) C dX6_drift_38 1 rfl rfl ?_
          refine ge_X6_X6_1 (pc := 39) C dX6_drift_39 ?_
          refine go_aload_n (pc := 42) C dX6_drift_42 1 rfl rfl ?_
          refine ge_X6_X6_0 (pc := 43) C dX6_drift_43 ?_
          refine go_cVv (pc := 46) C cw_X6_163 (ok_X1_startFrom (by decide) (by decide) hf) (rc_X1 C (by decide)) rfl rfl rfl (by decide) rfl dX6_drift_46 (fun S11 hf => ?_)
          refine go_iload_n (pc := 49) C dX6_drift_49 2 rfl rfl ?_
          refine go_istore (pc := 50) C dX6_drift_50 [(5, .int p1), (4, .int x7), (0, .ref ((tq_la X).1 27 0)), (1, .int p1), (2, .int p2), (3, .int p3)] (by decide) rfl ?_
          refine go_iconst (pc := 52) (v := 0) C dX6_drift_52 (by decide) ?_
          refine go_istore (pc := 53) C dX6_drift_53 [(6, .int 0), (5, .int p1), (4, .int x7), (0, .ref ((tq_la X).1 27 0)), (1, .int p1), (2, .int p2), (3, .int p3)] (by decide) rfl ?_
          exact go_sub [3, 5, 6, 2, 1, 0] rfl (wk_X6_drift_55 C hR 2000 _ _ _ _ _ _ hf)
        · have hf := hf.2 c9
          refine go_bipush (pc := 35) (v := (-2)) C dX6_drift_35 (by decide) ?_
          exact hR _ _ _ _ dX6_drift_37 hf
      · have hf := hf.2 c6
        refine go_iconst (pc := 18) (v := (-1)) C dX6_drift_18 (by decide) ?_
        exact hR _ _ _ _ dX6_drift_19 hf
set_option maxRecDepth 100000 in
set_option maxHeartbeats 4000000 in
theorem ok_X6_drift {p1 : Int32} {p2 : Int32} {p3 : Int32} {S : tq_St} {K : Int32 → tq_St → Prop} (hf : wp_X6_drift p1 p2 p3 S K) : tq_Mi yX6_drift cX6_drift 8 (some .int) 6 (fun a z => [.ref (a.1 27 0), .int p1, .int p2, .int p3]) S K :=
  tq_mkI (by decide) (fun _ _ => Nat.le_of_ble_eq_true rfl) (fun X C hR => wk_X6_drift C hR  hf)
set_option maxRecDepth 100000 in
set_option maxHeartbeats 4000000 in
theorem wk_X6_end {X : tq_Cx} {p1 : Int32} {S : tq_St} {K : Int32 → tq_St → Prop} (C : tq_C X cX6_end 3 RX6 1) (hR : tq_Ri X cX6_end 3 K) (hf : wp_X6_end p1 S K) : Go X 3 S 0 [(0, .ref ((tq_la X).1 27 0)), (1, .int p1)] [] := by
  refine go_iload_n (pc := 0) C dX6_end_0 1 rfl rfl ?_
  refine go_if_lt (pc := 1) C dX6_end_1 15 (by decide) (fun c1 => ?_) (fun c1 => ?_)
  · have hf := hf.1 c1
    refine go_iconst (pc := 15) (v := (-1)) C dX6_end_15 (by decide) ?_
    exact hR _ _ _ _ dX6_end_16 hf
  · have hf := hf.2 c1
    refine go_iload_n (pc := 4) C dX6_end_4 1 rfl rfl ?_
    refine go_aload_n (pc := 5) C dX6_end_5 0 rfl rfl ?_
    refine ge_X6_X6_2 (pc := 6) C dX6_end_6 ?_
    refine ge_X6_X5_2 (pc := 9) C dX6_end_9 ?_
    refine go_ic_le (pc := 12) C dX6_end_12 17 (by decide) (fun c2 => ?_) (fun c2 => ?_)
    · have hf := hf.1 c2
      refine go_aload_n (pc := 17) C dX6_end_17 0 rfl rfl ?_
      refine ge_X6_X6_2 (pc := 18) C dX6_end_18 ?_
      refine ge_X6_X5_2 (pc := 21) C dX6_end_21 ?_
      refine go_nI (fun x3 e4 => ?_)
      have hf := hf x3 e4
      refine go_istore_n (pc := 24) C dX6_end_24 [(2, .int x3), (0, .ref ((tq_la X).1 27 0)), (1, .int p1)] rfl (by decide) rfl ?_
      refine go_aload_n (pc := 25) C dX6_end_25 1 rfl rfl ?_
      refine ge_X6_X6_2 (pc := 26) C dX6_end_26 ?_
      refine go_iload_n (pc := 29) C dX6_end_29 2 rfl rfl ?_
      refine pu_X6_X5_2 (pc := 30) C dX6_end_30 (fun S5 e6 => ?_)
      have hf := hf S5 e6
      refine go_iload_n (pc := 33) C dX6_end_33 0 rfl rfl ?_
      exact hR _ _ _ _ dX6_end_34 hf
    · have hf := hf.2 c2
      refine go_iconst (pc := 15) (v := (-1)) C dX6_end_15 (by decide) ?_
      exact hR _ _ _ _ dX6_end_16 hf
set_option maxRecDepth 100000 in
set_option maxHeartbeats 4000000 in
theorem ok_X6_end {p1 : Int32} {S : tq_St} {K : Int32 → tq_St → Prop} (hf : wp_X6_end p1 S K) : tq_Mi yX6_end cX6_end 3 (some .int) 1 (fun a z => [.ref (a.1 27 0), .int p1]) S K :=
  tq_mkI (by decide) (fun _ _ => Nat.le_of_ble_eq_true rfl) (fun X C hR => wk_X6_end C hR  hf)
set_option maxRecDepth 100000 in
set_option maxHeartbeats 4000000 in
theorem wk_X6_enough_2 {X : tq_Cx} {K : Int32 → tq_St → Prop} (C : tq_C X cX6_enough 2 RX6 7) (hR : tq_Ri X cX6_enough 2 K) : ∀ (n : Nat) (v1 : Int32) (S : tq_St), wp_X6_enough_2 K n v1 S → Go X 2 S 2 [(0, .ref ((tq_la X).1 27 0)), (1, .int v1)] [] := by
  intro n
  induction n with
  | zero => intros; contradiction
  | succ n ih =>
    intro v1 S hf
    refine go_iload_n (pc := 2) C dX6_enough_2 1 rfl rfl ?_
    refine go_iconst (pc := 3) (v := 5) C dX6_enough_3 (by decide) ?_
    refine go_ic_gt (pc := 4) C dX6_enough_4 51 (by decide) (fun c1 => ?_) (fun c1 => ?_)
    · have hf := hf.1 c1
      refine go_bipush (pc := 51) (v := (-4)) C dX6_enough_51 (by decide) ?_
      exact hR _ _ _ _ dX6_enough_53 hf
    · have hf := hf.2 c1
      refine go_aload_n (pc := 7) C dX6_enough_7 0 rfl rfl ?_
      refine ge_X6_X6_1 (pc := 8) C dX6_enough_8 ?_
      refine go_aload_n (pc := 11) C dX6_enough_11 0 rfl rfl ?_
      refine ge_X6_X6_0 (pc := 12) C dX6_enough_12 ?_
      refine go_cVv (pc := 15) C cw_X6_163 (ok_X1_startFrom (by decide) (by decide) hf) (rc_X1 C (by decide)) rfl rfl rfl (by decide) rfl dX6_enough_15 (fun S3 hf => ?_)
      refine go_aload_n (pc := 18) C dX6_enough_18 0 rfl rfl ?_
      refine ge_X6_X6_1 (pc := 19) C dX6_enough_19 ?_
      refine go_iload_n (pc := 22) C dX6_enough_22 1 rfl rfl ?_
      refine pu_X6_X1_8 (pc := 23) C (by decide) dX6_enough_23 (fun S5 e6 => ?_)
      have hf := hf S5 e6
      refine go_aload_n (pc := 26) C dX6_enough_26 0 rfl rfl ?_
      refine ge_X6_X6_1 (pc := 27) C dX6_enough_27 ?_
      refine go_cVv (pc := 30) C cw_X6_166 (ok_X1_followPlan (by decide) hf) (rc_X1 C (by decide)) rfl rfl rfl (by decide) rfl dX6_enough_30 (fun S8 hf => ?_)
      refine go_aload_n (pc := 33) C dX6_enough_33 0 rfl rfl ?_
      refine ge_X6_X6_1 (pc := 34) C dX6_enough_34 ?_
      refine go_cVi (pc := 37) C cw_X6_106 (ok_X1_waitingBits (by decide) hf) (rc_X1 C (by decide)) rfl rfl rfl (by decide) rfl dX6_enough_37 (fun r10 S11 hf => ?_)
      refine go_if_ne (pc := 40) C dX6_enough_40 45 (by decide) (fun c13 => ?_) (fun c13 => ?_)
      · have hf := hf.1 c13
        obtain ⟨x14, e15⟩ : ∃ q9 : Int32, q9 = v1 + 1 := ⟨_, rfl⟩
        refine go_iinc (pc := 45) (j := 1) (v := x14) C dX6_enough_45 [(1, .int x14), (0, .ref ((tq_la X).1 27 0))] rfl (by rw [e15]; rfl) (by decide) rfl ?_
        have hf := hf x14 e15
        refine go_goto (pc := 48) C dX6_enough_48 2 (by decide) ?_
        exact go_sub [1, 0] rfl (ih _ _ hf)
      · have hf := hf.2 c13
        refine go_iload_n (pc := 43) C dX6_enough_43 1 rfl rfl ?_
        exact hR _ _ _ _ dX6_enough_44 hf
set_option maxRecDepth 100000 in
set_option maxHeartbeats 4000000 in
theorem wk_X6_enough {X : tq_Cx} {S : tq_St} {K : Int32 → tq_St → Prop} (C : tq_C X cX6_enough 2 RX6 7) (hR : tq_Ri X cX6_enough 2 K) (hf : wp_X6_enough S K) : Go X 2 S 0 [(0, .ref ((tq_la X).1 27 0))] [] := by
  refine go_iconst (pc := 0) (v := 1) C dX6_enough_0 (by decide) ?_
  refine go_istore_n (pc := 1) C dX6_enough_1 [(1, .int 1), (0, .ref ((tq_la X).1 27 0))] rfl (by decide) rfl ?_
  exact go_sub [1, 0] rfl (wk_X6_enough_2 C hR 2000 _ _ hf)
set_option maxRecDepth 100000 in
set_option maxHeartbeats 4000000 in
theorem ok_X6_enough {S : tq_St} {K : Int32 → tq_St → Prop} (hf : wp_X6_enough S K) : tq_Mi yX6_enough cX6_enough 2 (some .int) 7 (fun a z => [.ref (a.1 27 0)]) S K :=
  tq_mkI (by decide) (fun _ _ => Nat.le_of_ble_eq_true rfl) (fun X C hR => wk_X6_enough C hR  hf)
set_option maxRecDepth 100000 in
set_option maxHeartbeats 4000000 in
theorem wk_X6_fault {X : tq_Cx} {S : tq_St} {K : Int32 → tq_St → Prop} (C : tq_C X cX6_fault 1 RX6 1) (hR : tq_Ri X cX6_fault 1 K) (hf : wp_X6_fault S K) : Go X 1 S 0 [(0, .ref ((tq_la X).1 27 0))] [] := by
  refine go_aload_n (pc := 0) C dX6_fault_0 0 rfl rfl ?_
  refine ge_X6_X6_2 (pc := 1) C dX6_fault_1 ?_
  refine ge_X6_X5_3 (pc := 4) C dX6_fault_4 ?_
  exact hR _ _ _ _ dX6_fault_7 hf
set_option maxRecDepth 100000 in
set_option maxHeartbeats 4000000 in
theorem ok_X6_fault {S : tq_St} {K : Int32 → tq_St → Prop} (hf : wp_X6_fault S K) : tq_Mi yX6_fault cX6_fault 1 (some .int) 1 (fun a z => [.ref (a.1 27 0)]) S K :=
  tq_mkI (by decide) (fun _ _ => Nat.le_of_ble_eq_true rfl) (fun X C hR => wk_X6_fault C hR  hf)
set_option maxRecDepth 100000 in
set_option maxHeartbeats 4000000 in
theorem wk_X6_feed {X : tq_Cx} {p1 : Int32} {S : tq_St} {K : Int32 → tq_St → Prop} (C : tq_C X cX6_feed 2 RX6 2) (hR : tq_Ri X cX6_feed 2 K) (hf : wp_X6_feed p1 S K) : Go X 2 S 0 [(0, .ref ((tq_la X).1 27 0)), (1, .int p1)] [] := by
  refine go_iload_n (pc := 0) C dX6_feed_0 1 rfl rfl ?_
  refine go_if_lt (pc := 1) C dX6_feed_1 10 (by decide) (fun c1 => ?_) (fun c1 => ?_)
  · have hf := hf.1 c1
    refine go_iconst (pc := 10) (v := (-1)) C dX6_feed_10 (by decide) ?_
    exact hR _ _ _ _ dX6_feed_11 hf
  · have hf := hf.2 c1
    refine go_iload_n (pc := 4) C dX6_feed_4 1 rfl rfl ?_
    refine go_bipush (pc := 5) (v := 127) C dX6_feed_5 (by decide) ?_
    refine go_ic_le (pc := 7) C dX6_feed_7 12 (by decide) (fun c2 => ?_) (fun c2 => ?_)
    · have hf := hf.1 c2
      refine go_aload_n (pc := 12) C dX6_feed_12 0 rfl rfl ?_
      refine ge_X6_X6_2 (pc := 13) C dX6_feed_13 ?_
      refine go_iload_n (pc := 16) C dX6_feed_16 1 rfl rfl ?_
      refine go_cVi (pc := 17) C cw_X6_66 (ok_X5_append hf) (rc_X5 C) rfl rfl rfl (by decide) rfl dX6_feed_17 (fun r3 S4 hf => ?_)
      refine go_if_eq (pc := 20) C dX6_feed_20 33 (by decide) (fun c6 => ?_) (fun c6 => ?_)
      · have hf := hf.1 c6
        refine go_bipush (pc := 33) (v := (-3)) C dX6_feed_33 (by decide) ?_
        exact hR _ _ _ _ dX6_feed_35 hf
      · have hf := hf.2 c6
        refine go_aload_n (pc := 23) C dX6_feed_23 0 rfl rfl ?_
        refine ge_X6_X6_2 (pc := 24) C dX6_feed_24 ?_
        refine ge_X6_X5_2 (pc := 27) C dX6_feed_27 ?_
        refine go_goto (pc := 30) C dX6_feed_30 35 (by decide) ?_
        exact hR _ _ _ _ dX6_feed_35 hf
    · have hf := hf.2 c2
      refine go_iconst (pc := 10) (v := (-1)) C dX6_feed_10 (by decide) ?_
      exact hR _ _ _ _ dX6_feed_11 hf
set_option maxRecDepth 100000 in
set_option maxHeartbeats 4000000 in
theorem ok_X6_feed {p1 : Int32} {S : tq_St} {K : Int32 → tq_St → Prop} (hf : wp_X6_feed p1 S K) : tq_Mi yX6_feed cX6_feed 2 (some .int) 2 (fun a z => [.ref (a.1 27 0), .int p1]) S K :=
  tq_mkI (by decide) (fun _ _ => Nat.le_of_ble_eq_true rfl) (fun X C hR => wk_X6_feed C hR  hf)
set_option maxRecDepth 100000 in
set_option maxHeartbeats 4000000 in
theorem wk_X6_forget {X : tq_Cx} {p1 : Int32} {S : tq_St} {K : Int32 → tq_St → Prop} (C : tq_C X cX6_forget 3 RX6 1) (hR : tq_Ri X cX6_forget 3 K) (hf : wp_X6_forget p1 S K) : Go X 3 S 0 [(0, .ref ((tq_la X).1 27 0)), (1, .int p1)] [] := by
  refine go_iload_n (pc := 0) C dX6_forget_0 1 rfl rfl ?_
  refine go_if_lt (pc := 1) C dX6_forget_1 15 (by decide) (fun c1 => ?_) (fun c1 => ?_)
  · have hf := hf.1 c1
    refine go_iconst (pc := 15) (v := (-1)) C dX6_forget_15 (by decide) ?_
    exact hR _ _ _ _ dX6_forget_16 hf
  · have hf := hf.2 c1
    refine go_iload_n (pc := 4) C dX6_forget_4 1 rfl rfl ?_
    refine go_aload_n (pc := 5) C dX6_forget_5 0 rfl rfl ?_
    refine ge_X6_X6_3 (pc := 6) C dX6_forget_6 ?_
    refine ge_X6_X4_2 (pc := 9) C dX6_forget_9 ?_
    refine go_ic_le (pc := 12) C dX6_forget_12 17 (by decide) (fun c2 => ?_) (fun c2 => ?_)
    · have hf := hf.1 c2
      refine go_aload_n (pc := 17) C dX6_forget_17 0 rfl rfl ?_
      refine ge_X6_X6_3 (pc := 18) C dX6_forget_18 ?_
      refine ge_X6_X4_2 (pc := 21) C dX6_forget_21 ?_
      refine go_nI (fun x3 e4 => ?_)
      have hf := hf x3 e4
      refine go_istore_n (pc := 24) C dX6_forget_24 [(2, .int x3), (0, .ref ((tq_la X).1 27 0)), (1, .int p1)] rfl (by decide) rfl ?_
      refine go_aload_n (pc := 25) C dX6_forget_25 1 rfl rfl ?_
      refine ge_X6_X6_3 (pc := 26) C dX6_forget_26 ?_
      refine go_iload_n (pc := 29) C dX6_forget_29 2 rfl rfl ?_
      refine pu_X6_X4_2 (pc := 30) C dX6_forget_30 (fun S5 e6 => ?_)
      have hf := hf S5 e6
      refine go_iload_n (pc := 33) C dX6_forget_33 0 rfl rfl ?_
      exact hR _ _ _ _ dX6_forget_34 hf
    · have hf := hf.2 c2
      refine go_iconst (pc := 15) (v := (-1)) C dX6_forget_15 (by decide) ?_
      exact hR _ _ _ _ dX6_forget_16 hf
set_option maxRecDepth 100000 in
set_option maxHeartbeats 4000000 in
theorem ok_X6_forget {p1 : Int32} {S : tq_St} {K : Int32 → tq_St → Prop} (hf : wp_X6_forget p1 S K) : tq_Mi yX6_forget cX6_forget 3 (some .int) 1 (fun a z => [.ref (a.1 27 0), .int p1]) S K :=
  tq_mkI (by decide) (fun _ _ => Nat.le_of_ble_eq_true rfl) (fun X C hR => wk_X6_forget C hR  hf)
set_option maxRecDepth 100000 in
set_option maxHeartbeats 4000000 in
theorem wk_X6_goneByChangedPlan {X : tq_Cx} {p1 : Int32} {p2 : Int32} {S : tq_St} {K : Int32 → tq_St → Prop} (C : tq_C X cX6_goneByChangedPlan 3 RX6 7) (hR : tq_Ri X cX6_goneByChangedPlan 3 K) (hf : wp_X6_goneByChangedPlan p1 p2 S K) : Go X 3 S 0 [(0, .ref ((tq_la X).1 27 0)), (1, .int p1), (2, .int p2)] [] := by
  refine go_aload_n (pc := 0) C dX6_goneByChangedPlan_0 0 rfl rfl ?_
  refine ge_X6_X6_1 (pc := 1) C dX6_goneByChangedPlan_1 ?_
  refine go_aload_n (pc := 4) C dX6_goneByChangedPlan_4 0 rfl rfl ?_
  refine ge_X6_X6_0 (pc := 5) C dX6_goneByChangedPlan_5 ?_
  refine go_cVv (pc := 8) C cw_X6_163 (ok_X1_startFrom (by decide) (by decide) hf) (rc_X1 C (by decide)) rfl rfl rfl (by decide) rfl dX6_goneByChangedPlan_8 (fun S2 hf => ?_)
  refine go_aload_n (pc := 11) C dX6_goneByChangedPlan_11 0 rfl rfl ?_
  refine ge_X6_X6_1 (pc := 12) C dX6_goneByChangedPlan_12 ?_
  refine go_iload_n (pc := 15) C dX6_goneByChangedPlan_15 1 rfl rfl ?_
  refine go_iload_n (pc := 16) C dX6_goneByChangedPlan_16 2 rfl rfl ?_
  refine go_cVv (pc := 17) C cw_X6_275 (ok_X1_changeActs (by decide) hf) (rc_X1 C (by decide)) rfl rfl rfl (by decide) rfl dX6_goneByChangedPlan_17 (fun S5 hf => ?_)
  refine go_aload_n (pc := 20) C dX6_goneByChangedPlan_20 0 rfl rfl ?_
  refine ge_X6_X6_1 (pc := 21) C dX6_goneByChangedPlan_21 ?_
  refine go_cVv (pc := 24) C cw_X6_166 (ok_X1_followPlan (by decide) hf) (rc_X1 C (by decide)) rfl rfl rfl (by decide) rfl dX6_goneByChangedPlan_24 (fun S8 hf => ?_)
  refine go_aload_n (pc := 27) C dX6_goneByChangedPlan_27 0 rfl rfl ?_
  refine ge_X6_X6_1 (pc := 28) C dX6_goneByChangedPlan_28 ?_
  refine ge_X6_X1_6 (pc := 31) C (by decide) dX6_goneByChangedPlan_31 ?_
  refine go_cSi (pc := 34) C cs_X6_158 (ok_J6_bitCount_0f7a4 hf) rfl rfl rfl (by decide) rfl dX6_goneByChangedPlan_34 (fun r10 S11 hf => ?_)
  exact hR _ _ _ _ dX6_goneByChangedPlan_37 hf
set_option maxRecDepth 100000 in
set_option maxHeartbeats 4000000 in
theorem ok_X6_goneByChangedPlan {p1 : Int32} {p2 : Int32} {S : tq_St} {K : Int32 → tq_St → Prop} (hf : wp_X6_goneByChangedPlan p1 p2 S K) : tq_Mi yX6_goneByChangedPlan cX6_goneByChangedPlan 3 (some .int) 7 (fun a z => [.ref (a.1 27 0), .int p1, .int p2]) S K :=
  tq_mkI (by decide) (fun _ _ => Nat.le_of_ble_eq_true rfl) (fun X C hR => wk_X6_goneByChangedPlan C hR  hf)
set_option maxRecDepth 100000 in
set_option maxHeartbeats 4000000 in
theorem wk_X6_greatestDivisor_3 {X : tq_Cx} {K : Int64 → tq_St → Prop} (C : tq_C X cX6_greatestDivisor 7 RX6 1) (hR : tq_Rl X cX6_greatestDivisor 7 K) : ∀ (n : Nat) (v0 : Int64) (v2 : Int64) (v4 : Int32) (S : tq_St), wp_X6_greatestDivisor_3 K n v0 v2 v4 S → Go X 7 S 3 [(0, .long v0), (2, .long v2), (4, .int v4)] [] := by
  intro n
  induction n with
  | zero => intros; contradiction
  | succ n ih =>
    intro v0 v2 v4 S hf
    refine go_iload (pc := 3) C dX6_greatestDivisor_3 2 rfl ?_
    refine go_sipush (pc := 5) (v := 200) C dX6_greatestDivisor_5 (by decide) ?_
    refine go_ic_ge (pc := 8) C dX6_greatestDivisor_8 33 (by decide) (fun c1 => ?_) (fun c1 => ?_)
    · have hf := hf.1 c1
      refine go_lload_n (pc := 33) C dX6_greatestDivisor_33 0 rfl rfl ?_
      exact hR _ _ _ _ dX6_greatestDivisor_34 hf
    · have hf := hf.2 c1
      refine go_lload_n (pc := 11) C dX6_greatestDivisor_11 1 rfl rfl ?_
      refine go_lconst (pc := 12) (v := 0) C dX6_greatestDivisor_12 (by decide) ?_
      refine go_lcmp (pc := 13) C dX6_greatestDivisor_13 ?_
      refine go_if_eq (pc := 14) C dX6_greatestDivisor_14 33 (by decide) (fun c2 => ?_) (fun c2 => ?_)
      · have hf := hf.1 c2
        refine go_lload_n (pc := 33) C dX6_greatestDivisor_33 0 rfl rfl ?_
        exact hR _ _ _ _ dX6_greatestDivisor_34 hf
      · have hf := hf.2 c2
        refine go_lload_n (pc := 17) C dX6_greatestDivisor_17 0 rfl rfl ?_
        refine go_lload_n (pc := 18) C dX6_greatestDivisor_18 1 rfl rfl ?_
        refine go_lrem (pc := 19) C dX6_greatestDivisor_19 hf.1 ?_
        have hf := hf.2
        refine go_nL (fun x3 e4 => ?_)
        have hf := hf x3 e4
        refine go_lstore (pc := 20) C dX6_greatestDivisor_20 [(5, .long x3), (0, .long v0), (2, .long v2), (4, .int v4)] (by decide) rfl ?_
        refine go_lload_n (pc := 22) C dX6_greatestDivisor_22 2 rfl rfl ?_
        refine go_lstore_n (pc := 23) C dX6_greatestDivisor_23 [(0, .long v2), (5, .long x3), (2, .long v2), (4, .int v4)] rfl (by decide) rfl ?_
        refine go_lload (pc := 24) C dX6_greatestDivisor_24 1 rfl ?_
        refine go_lstore_n (pc := 26) C dX6_greatestDivisor_26 [(2, .long x3), (0, .long v2), (5, .long x3), (4, .int v4)] rfl (by decide) rfl ?_
        obtain ⟨x5, e6⟩ : ∃ q9 : Int32, q9 = v4 + 1 := ⟨_, rfl⟩
        refine go_iinc (pc := 27) (j := 3) (v := x5) C dX6_greatestDivisor_27 [(4, .int x5), (2, .long x3), (0, .long v2), (5, .long x3)] rfl (by rw [e6]; rfl) (by decide) rfl ?_
        have hf := hf x5 e6
        refine go_goto (pc := 30) C dX6_greatestDivisor_30 3 (by decide) ?_
        exact go_sub [2, 1, 0] rfl (ih _ _ _ _ hf)
set_option maxRecDepth 100000 in
set_option maxHeartbeats 4000000 in
theorem wk_X6_greatestDivisor {X : tq_Cx} {p0 : Int64} {p2 : Int64} {S : tq_St} {K : Int64 → tq_St → Prop} (C : tq_C X cX6_greatestDivisor 7 RX6 1) (hR : tq_Rl X cX6_greatestDivisor 7 K) (hf : wp_X6_greatestDivisor p0 p2 S K) : Go X 7 S 0 [(0, .long p0), (2, .long p2)] [] := by
  refine go_iconst (pc := 0) (v := 0) C dX6_greatestDivisor_0 (by decide) ?_
  refine go_istore (pc := 1) C dX6_greatestDivisor_1 [(4, .int 0), (0, .long p0), (2, .long p2)] (by decide) rfl ?_
  exact go_sub [1, 2, 0] rfl (wk_X6_greatestDivisor_3 C hR 2000 _ _ _ _ hf)
set_option maxRecDepth 100000 in
set_option maxHeartbeats 4000000 in
theorem ok_X6_greatestDivisor {p0 : Int64} {p2 : Int64} {S : tq_St} {K : Int64 → tq_St → Prop} (hf : wp_X6_greatestDivisor p0 p2 S K) : tq_Ml yX6_greatestDivisor cX6_greatestDivisor 7 (some .long) 1 (fun a z => [.long p0, .long p2]) S K :=
  tq_mkL (by decide) (fun _ _ => Nat.le_of_ble_eq_true rfl) (fun X C hR => wk_X6_greatestDivisor C hR  hf)
set_option maxRecDepth 100000 in
set_option maxHeartbeats 4000000 in
theorem wk_X6_home_39 {X : tq_Cx} {K : Int32 → tq_St → Prop} (C : tq_C X cX6_home 4 RX6 20) (hR : tq_Ri X cX6_home 4 K) : ∀ (v1 : Int32) (v2 : Int32) (v3 : Int32) (S : tq_St), wp_X6_home_39 K v1 v2 v3 S → Go X 4 S 39 [(0, .ref ((tq_la X).1 27 0)), (1, .int v1), (2, .int v2), (3, .int v3)] [] := by
  intro v1 v2 v3 S hf
  refine go_aload_n (pc := 39) C dX6_home_39 0 rfl rfl ?_
  refine ge_X6_X6_0 (pc := 40) C dX6_home_40 ?_
  refine go_iload_n (pc := 43) C dX6_home_43 1 rfl rfl ?_
  refine go_cVi (pc := 44) C cw_X6_128 (ok_X1_waits (by decide) hf) (rc_X1 C (by decide)) rfl rfl rfl (by decide) rfl dX6_home_44 (fun r7 S8 hf => ?_)
  refine go_if_ne (pc := 47) C dX6_home_47 53 (by decide) (fun c10 => ?_) (fun c10 => ?_)
  · have hf := hf.1 c10
    refine go_aload_n (pc := 53) C dX6_home_53 0 rfl rfl ?_
    refine ge_X6_X6_4 (pc := 54) C dX6_home_54 ?_
    refine go_aload_n (pc := 57) C dX6_home_57 0 rfl rfl ?_
    refine ge_X6_X6_0 (pc := 58) C dX6_home_58 ?_
    refine go_iload_n (pc := 61) C dX6_home_61 1 rfl rfl ?_
    refine go_cVi (pc := 62) C cw_X6_194 (ok_X2_findWayHome (by decide) hf) (rc_X2 C) rfl rfl rfl (by decide) rfl dX6_home_62 (fun r11 S12 hf => ?_)
    refine go_if_ne (pc := 65) C dX6_home_65 71 (by decide) (fun c14 => ?_) (fun c14 => ?_)
    · have hf := hf.1 c14
      refine go_iload_n (pc := 71) C dX6_home_71 3 rfl rfl ?_
      refine go_if_eq (pc := 72) C dX6_home_72 89 (by decide) (fun c15 => ?_) (fun c15 => ?_)
      · have hf := hf.1 c15
        refine go_aload_n (pc := 89) C dX6_home_89 0 rfl rfl ?_
        refine ge_X6_X6_4 (pc := 90) C dX6_home_90 ?_
        refine ge_X6_X2_3 (pc := 93) C dX6_home_93 ?_
        exact hR _ _ _ _ dX6_home_96 hf
      · have hf := hf.2 c15
        refine go_aload_n (pc := 75) C dX6_home_75 0 rfl rfl ?_
        refine ge_X6_X6_4 (pc := 76) C dX6_home_76 ?_
        refine go_iload_n (pc := 79) C dX6_home_79 2 rfl rfl ?_
        refine go_bipush (pc := 80) (v := 10) C dX6_home_80 (by decide) ?_
        refine go_isub (pc := 82) C dX6_home_82 ?_
        refine go_cVi (pc := 83) C cw_X6_185 (ok_X2_foundAt hf) (rc_X2 C) rfl rfl rfl (by decide) rfl dX6_home_83 (fun r16 S17 hf => ?_)
        refine go_goto (pc := 86) C dX6_home_86 96 (by decide) ?_
        exact hR _ _ _ _ dX6_home_96 hf
    · have hf := hf.2 c14
      refine go_bipush (pc := 68) (v := (-4)) C dX6_home_68 (by decide) ?_
      exact hR _ _ _ _ dX6_home_70 hf
  · have hf := hf.2 c10
    refine go_bipush (pc := 50) (v := (-2)) C dX6_home_50 (by decide) ?_
    exact hR _ _ _ _ dX6_home_52 hf
set_option maxRecDepth 100000 in
set_option maxHeartbeats 4000000 in
theorem wk_X6_home_17 {X : tq_Cx} {K : Int32 → tq_St → Prop} (C : tq_C X cX6_home 4 RX6 20) (hR : tq_Ri X cX6_home 4 K) : ∀ (v1 : Int32) (v2 : Int32) (w0 : Int32) (S : tq_St), wp_X6_home_17 K v1 v2 w0 S → Go X 4 S 17 [(0, .ref ((tq_la X).1 27 0)), (1, .int v1), (2, .int v2)] [.int w0] := by
  intro v1 v2 w0 S hf
  refine go_istore_n (pc := 17) C dX6_home_17 [(3, .int w0), (0, .ref ((tq_la X).1 27 0)), (1, .int v1), (2, .int v2)] rfl (by decide) rfl ?_
  refine go_aload_n (pc := 18) C dX6_home_18 1 rfl rfl ?_
  refine ge_X6_X6_0 (pc := 19) C dX6_home_19 ?_
  refine go_iload_n (pc := 22) C dX6_home_22 2 rfl rfl ?_
  refine go_cVi (pc := 23) C cw_X6_112 (ok_X1_isThere (by decide) hf) (rc_X1 C (by decide)) rfl rfl rfl (by decide) rfl dX6_home_23 (fun r2 S3 hf => ?_)
  refine go_if_eq (pc := 26) C dX6_home_26 37 (by decide) (fun c5 => ?_) (fun c5 => ?_)
  · have hf := hf.1 c5
    refine go_iconst (pc := 37) (v := (-1)) C dX6_home_37 (by decide) ?_
    exact hR _ _ _ _ dX6_home_38 hf
  · have hf := hf.2 c5
    refine go_iload_n (pc := 29) C dX6_home_29 3 rfl rfl ?_
    refine go_if_eq (pc := 30) C dX6_home_30 39 (by decide) (fun c6 => ?_) (fun c6 => ?_)
    · have hf := hf.1 c6
      exact go_sub [1, 2, 3, 0] rfl (wk_X6_home_39 C hR _ _ _ _ hf)
    · have hf := hf.2 c6
      refine go_iload_n (pc := 33) C dX6_home_33 0 rfl rfl ?_
      refine go_if_ne (pc := 34) C dX6_home_34 39 (by decide) (fun c19 => ?_) (fun c19 => ?_)
      · have hf := hf.1 c19
        exact go_sub [1, 2, 3, 0] rfl (wk_X6_home_39 C hR _ _ _ _ hf)
      · have hf := hf.2 c19
        refine go_iconst (pc := 37) (v := (-1)) C dX6_home_37 (by decide) ?_
        exact hR _ _ _ _ dX6_home_38 hf
set_option maxRecDepth 100000 in
set_option maxHeartbeats 4000000 in
theorem wk_X6_home_16 {X : tq_Cx} {K : Int32 → tq_St → Prop} (C : tq_C X cX6_home 4 RX6 20) (hR : tq_Ri X cX6_home 4 K) : ∀ (v1 : Int32) (v2 : Int32) (S : tq_St), wp_X6_home_16 K v1 v2 S → Go X 4 S 16 [(0, .ref ((tq_la X).1 27 0)), (1, .int v1), (2, .int v2)] [] := by
  intro v1 v2 S hf
  refine go_iconst (pc := 16) (v := 0) C dX6_home_16 (by decide) ?_
  exact go_sub [0, 1, 2] rfl (wk_X6_home_17 C hR _ _ _ _ hf)
set_option maxRecDepth 100000 in
set_option maxHeartbeats 4000000 in
theorem wk_X6_home {X : tq_Cx} {p1 : Int32} {p2 : Int32} {S : tq_St} {K : Int32 → tq_St → Prop} (C : tq_C X cX6_home 4 RX6 20) (hR : tq_Ri X cX6_home 4 K) (hf : wp_X6_home p1 p2 S K) : Go X 4 S 0 [(0, .ref ((tq_la X).1 27 0)), (1, .int p1), (2, .int p2)] [] := by
  refine go_iload_n (pc := 0) C dX6_home_0 2 rfl rfl ?_
  refine go_bipush (pc := 1) (v := 10) C dX6_home_1 (by decide) ?_
  refine go_ic_lt (pc := 3) C dX6_home_3 16 (by decide) (fun c1 => ?_) (fun c1 => ?_)
  · have hf := hf.1 c1
    exact go_sub [0, 1, 2] rfl (wk_X6_home_16 C hR _ _ _ hf)
  · have hf := hf.2 c1
    refine go_iload_n (pc := 6) C dX6_home_6 2 rfl rfl ?_
    refine go_bipush (pc := 7) (v := 13) C dX6_home_7 (by decide) ?_
    refine go_ic_ge (pc := 9) C dX6_home_9 16 (by decide) (fun c20 => ?_) (fun c20 => ?_)
    · have hf := hf.1 c20
      exact go_sub [0, 1, 2] rfl (wk_X6_home_16 C hR _ _ _ hf)
    · have hf := hf.2 c20
      refine go_iconst (pc := 12) (v := 1) C dX6_home_12 (by decide) ?_
      refine go_goto (pc := 13) C dX6_home_13 17 (by decide) ?_
      exact go_sub [0, 1, 2] rfl (wk_X6_home_17 C hR _ _ _ _ hf)
set_option maxRecDepth 100000 in
set_option maxHeartbeats 4000000 in
theorem ok_X6_home {p1 : Int32} {p2 : Int32} {S : tq_St} {K : Int32 → tq_St → Prop} (hf : wp_X6_home p1 p2 S K) : tq_Mi yX6_home cX6_home 4 (some .int) 20 (fun a z => [.ref (a.1 27 0), .int p1, .int p2]) S K :=
  tq_mkI (by decide) (fun _ _ => Nat.le_of_ble_eq_true rfl) (fun X C hR => wk_X6_home C hR  hf)
set_option maxRecDepth 100000 in
set_option maxHeartbeats 4000000 in
theorem wk_X6_isLane {X : tq_Cx} {p0 : Int32} {S : tq_St} {K : Int32 → tq_St → Prop} (C : tq_C X cX6_isLane 1 RX6 1) (hR : tq_Rz X cX6_isLane 1 K) (hf : wp_X6_isLane p0 S K) : Go X 1 S 0 [(0, .int p0)] [] := by
  refine go_iload_n (pc := 0) C dX6_isLane_0 0 rfl rfl ?_
  refine go_if_lt (pc := 1) C dX6_isLane_1 13 (by decide) (fun c1 => ?_) (fun c1 => ?_)
  · have hf := hf.1 c1
    refine go_iconst (pc := 13) (v := 0) C dX6_isLane_13 (by decide) ?_
    exact hR _ _ _ _ dX6_isLane_14 (Or.inl rfl) hf
  · have hf := hf.2 c1
    refine go_iload_n (pc := 4) C dX6_isLane_4 0 rfl rfl ?_
    refine go_iconst (pc := 5) (v := 3) C dX6_isLane_5 (by decide) ?_
    refine go_ic_ge (pc := 6) C dX6_isLane_6 13 (by decide) (fun c2 => ?_) (fun c2 => ?_)
    · have hf := hf.1 c2
      refine go_iconst (pc := 13) (v := 0) C dX6_isLane_13 (by decide) ?_
      exact hR _ _ _ _ dX6_isLane_14 (Or.inl rfl) hf
    · have hf := hf.2 c2
      refine go_iconst (pc := 9) (v := 1) C dX6_isLane_9 (by decide) ?_
      refine go_goto (pc := 10) C dX6_isLane_10 14 (by decide) ?_
      exact hR _ _ _ _ dX6_isLane_14 (Or.inr rfl) hf
set_option maxRecDepth 100000 in
set_option maxHeartbeats 4000000 in
theorem ok_X6_isLane {p0 : Int32} {S : tq_St} {K : Int32 → tq_St → Prop} (hf : wp_X6_isLane p0 S K) : tq_Mi yX6_isLane cX6_isLane 1 (some .boolean) 1 (fun a z => [.int p0]) S K :=
  tq_mkZ (by decide) (fun _ _ => Nat.le_of_ble_eq_true rfl) (fun X C hR => wk_X6_isLane C hR  hf)
set_option maxRecDepth 100000 in
set_option maxHeartbeats 4000000 in
theorem wk_X6_isSheet {X : tq_Cx} {p0 : Int32} {S : tq_St} {K : Int32 → tq_St → Prop} (C : tq_C X cX6_isSheet 1 RX6 1) (hR : tq_Rz X cX6_isSheet 1 K) (hf : wp_X6_isSheet p0 S K) : Go X 1 S 0 [(0, .int p0)] [] := by
  refine go_iload_n (pc := 0) C dX6_isSheet_0 0 rfl rfl ?_
  refine go_if_lt (pc := 1) C dX6_isSheet_1 13 (by decide) (fun c1 => ?_) (fun c1 => ?_)
  · have hf := hf.1 c1
    refine go_iconst (pc := 13) (v := 0) C dX6_isSheet_13 (by decide) ?_
    exact hR _ _ _ _ dX6_isSheet_14 (Or.inl rfl) hf
  · have hf := hf.2 c1
    refine go_iload_n (pc := 4) C dX6_isSheet_4 0 rfl rfl ?_
    refine go_iconst (pc := 5) (v := 4) C dX6_isSheet_5 (by decide) ?_
    refine go_ic_ge (pc := 6) C dX6_isSheet_6 13 (by decide) (fun c2 => ?_) (fun c2 => ?_)
    · have hf := hf.1 c2
      refine go_iconst (pc := 13) (v := 0) C dX6_isSheet_13 (by decide) ?_
      exact hR _ _ _ _ dX6_isSheet_14 (Or.inl rfl) hf
    · have hf := hf.2 c2
      refine go_iconst (pc := 9) (v := 1) C dX6_isSheet_9 (by decide) ?_
      refine go_goto (pc := 10) C dX6_isSheet_10 14 (by decide) ?_
      exact hR _ _ _ _ dX6_isSheet_14 (Or.inr rfl) hf
set_option maxRecDepth 100000 in
set_option maxHeartbeats 4000000 in
theorem ok_X6_isSheet {p0 : Int32} {S : tq_St} {K : Int32 → tq_St → Prop} (hf : wp_X6_isSheet p0 S K) : tq_Mi yX6_isSheet cX6_isSheet 1 (some .boolean) 1 (fun a z => [.int p0]) S K :=
  tq_mkZ (by decide) (fun _ _ => Nat.le_of_ble_eq_true rfl) (fun X C hR => wk_X6_isSheet C hR  hf)
set_option maxRecDepth 100000 in
set_option maxHeartbeats 4000000 in
theorem wk_X6_joy {X : tq_Cx} {p1 : Int32} {S : tq_St} {K : Int32 → tq_St → Prop} (C : tq_C X cX6_joy 3 RX6 2) (hR : tq_Ri X cX6_joy 3 K) (hf : wp_X6_joy p1 S K) : Go X 3 S 0 [(0, .ref ((tq_la X).1 27 0)), (1, .int p1)] [] := by
  refine go_aload_n (pc := 0) C dX6_joy_0 0 rfl rfl ?_
  refine ge_X6_X6_0 (pc := 1) C dX6_joy_1 ?_
  refine go_iload_n (pc := 4) C dX6_joy_4 1 rfl rfl ?_
  refine go_cVi (pc := 5) C cw_X6_112 (ok_X1_isThere (by decide) hf) (rc_X1 C (by decide)) rfl rfl rfl (by decide) rfl dX6_joy_5 (fun r1 S2 hf => ?_)
  refine go_if_ne (pc := 8) C dX6_joy_8 13 (by decide) (fun c4 => ?_) (fun c4 => ?_)
  · have hf := hf.1 c4
    refine go_aload_n (pc := 13) C dX6_joy_13 0 rfl rfl ?_
    refine ge_X6_X6_0 (pc := 14) C dX6_joy_14 ?_
    refine go_iload_n (pc := 17) C dX6_joy_17 1 rfl rfl ?_
    refine go_cVi (pc := 18) C cw_X6_128 (ok_X1_waits (by decide) hf) (rc_X1 C (by decide)) rfl rfl rfl (by decide) rfl dX6_joy_18 (fun r5 S6 hf => ?_)
    refine go_if_ne (pc := 21) C dX6_joy_21 27 (by decide) (fun c8 => ?_) (fun c8 => ?_)
    · have hf := hf.1 c8
      refine go_aload_n (pc := 27) C dX6_joy_27 0 rfl rfl ?_
      refine ge_X6_X6_0 (pc := 28) C dX6_joy_28 ?_
      refine ge_X6_X1_1 (pc := 31) C (by decide) dX6_joy_31 ?_
      refine go_iload_n (pc := 34) C dX6_joy_34 1 rfl rfl ?_
      refine al_X1_1 (pc := 35) C (by decide) hf.1 dX6_joy_35 ?_
      have hf := hf.2
      refine go_nI (fun x9 e10 => ?_)
      have hf := hf x9 e10
      refine go_istore_n (pc := 36) C dX6_joy_36 [(2, .int x9), (0, .ref ((tq_la X).1 27 0)), (1, .int p1)] rfl (by decide) rfl ?_
      refine go_aload_n (pc := 37) C dX6_joy_37 1 rfl rfl ?_
      refine ge_X6_X6_0 (pc := 38) C dX6_joy_38 ?_
      refine ge_X6_X1_1 (pc := 41) C (by decide) dX6_joy_41 ?_
      refine go_iload_n (pc := 44) C dX6_joy_44 2 rfl rfl ?_
      refine go_iconst (pc := 45) (v := 0) C dX6_joy_45 (by decide) ?_
      refine as_X1_1 (pc := 46) C (by decide) hf.1 dX6_joy_46 (fun S11 e12 => ?_)
      have hf := hf.2 S11 e12
      refine go_aload_n (pc := 47) C dX6_joy_47 1 rfl rfl ?_
      refine ge_X6_X6_0 (pc := 48) C dX6_joy_48 ?_
      refine ge_X6_X1_2 (pc := 51) C (by decide) dX6_joy_51 ?_
      refine go_iload_n (pc := 54) C dX6_joy_54 2 rfl rfl ?_
      refine go_iconst (pc := 55) (v := (-1)) C dX6_joy_55 (by decide) ?_
      refine as_X1_2 (pc := 56) C (by decide) hf.1 dX6_joy_56 (fun S13 e14 => ?_)
      have hf := hf.2 S13 e14
      refine go_iload_n (pc := 57) C dX6_joy_57 0 rfl rfl ?_
      exact hR _ _ _ _ dX6_joy_58 hf
    · have hf := hf.2 c8
      refine go_bipush (pc := 24) (v := (-2)) C dX6_joy_24 (by decide) ?_
      exact hR _ _ _ _ dX6_joy_26 hf
  · have hf := hf.2 c4
    refine go_iconst (pc := 11) (v := (-1)) C dX6_joy_11 (by decide) ?_
    exact hR _ _ _ _ dX6_joy_12 hf
set_option maxRecDepth 100000 in
set_option maxHeartbeats 4000000 in
theorem ok_X6_joy {p1 : Int32} {S : tq_St} {K : Int32 → tq_St → Prop} (hf : wp_X6_joy p1 S K) : tq_Mi yX6_joy cX6_joy 3 (some .int) 2 (fun a z => [.ref (a.1 27 0), .int p1]) S K :=
  tq_mkI (by decide) (fun _ _ => Nat.le_of_ble_eq_true rfl) (fun X C hR => wk_X6_joy C hR  hf)
set_option maxRecDepth 100000 in
set_option maxHeartbeats 4000000 in
theorem wk_X6_keep_25 {X : tq_Cx} {K : Int32 → tq_St → Prop} (C : tq_C X cX6_keep 3 RX6 2) (hR : tq_Ri X cX6_keep 3 K) : ∀ (v1 : Int32) (w0 : Int32) (S : tq_St), wp_X6_keep_25 K v1 w0 S → Go X 3 S 25 [(0, .ref ((tq_la X).1 27 0)), (1, .int v1)] [.int w0] := by
  intro v1 w0 S hf
  refine go_istore_n (pc := 25) C dX6_keep_25 [(2, .int w0), (0, .ref ((tq_la X).1 27 0)), (1, .int v1)] rfl (by decide) rfl ?_
  refine go_aload_n (pc := 26) C dX6_keep_26 1 rfl rfl ?_
  refine ge_X6_X6_6 (pc := 27) C dX6_keep_27 ?_
  refine go_iload_n (pc := 30) C dX6_keep_30 2 rfl rfl ?_
  refine al_X6_6 (pc := 31) C hf.1 dX6_keep_31 ?_
  have h4 : 17 + (v1 : Int32).toNatClampNeg < 19 := tq_le hf.1 (by decide)
  have hf := hf.2
  refine go_aload_n (pc := 32) C dX6_keep_32 1 rfl rfl ?_
  refine ge_X6_X6_0 (pc := 33) C dX6_keep_33 ?_
  refine go_cVv (pc := 36) C cw_X6_84 (ok_X1_copyFrom h4 (by decide) hf) (rc_X1 C h4) rfl rfl rfl (by decide) rfl dX6_keep_36 (fun S6 hf => ?_)
  refine go_aload_n (pc := 39) C dX6_keep_39 1 rfl rfl ?_
  refine ge_X6_X6_7 (pc := 40) C dX6_keep_40 ?_
  refine go_iload_n (pc := 43) C dX6_keep_43 2 rfl rfl ?_
  refine go_iconst (pc := 44) (v := 1) C dX6_keep_44 (by decide) ?_
  refine as_X6_7 (pc := 45) C hf.1 dX6_keep_45 (fun S8 e9 => ?_)
  have hf := hf.2 S8 e9
  refine go_iload_n (pc := 46) C dX6_keep_46 0 rfl rfl ?_
  exact hR _ _ _ _ dX6_keep_47 hf
set_option maxRecDepth 100000 in
set_option maxHeartbeats 4000000 in
theorem wk_X6_keep {X : tq_Cx} {p1 : Int32} {S : tq_St} {K : Int32 → tq_St → Prop} (C : tq_C X cX6_keep 3 RX6 2) (hR : tq_Ri X cX6_keep 3 K) (hf : wp_X6_keep p1 S K) : Go X 3 S 0 [(0, .ref ((tq_la X).1 27 0)), (1, .int p1)] [] := by
  refine go_iload_n (pc := 0) C dX6_keep_0 1 rfl rfl ?_
  refine go_if_lt (pc := 1) C dX6_keep_1 9 (by decide) (fun c1 => ?_) (fun c1 => ?_)
  · have hf := hf.1 c1
    refine go_iconst (pc := 9) (v := (-1)) C dX6_keep_9 (by decide) ?_
    exact hR _ _ _ _ dX6_keep_10 hf
  · have hf := hf.2 c1
    refine go_iload_n (pc := 4) C dX6_keep_4 1 rfl rfl ?_
    refine go_iconst (pc := 5) (v := 2) C dX6_keep_5 (by decide) ?_
    refine go_ic_lt (pc := 6) C dX6_keep_6 11 (by decide) (fun c2 => ?_) (fun c2 => ?_)
    · have hf := hf.1 c2
      refine go_aload_n (pc := 11) C dX6_keep_11 0 rfl rfl ?_
      refine ge_X6_X6_7 (pc := 12) C dX6_keep_12 ?_
      refine go_iload_n (pc := 15) C dX6_keep_15 1 rfl rfl ?_
      refine al_X6_7 (pc := 16) C hf.1 dX6_keep_16 ?_
      have hf := hf.2
      refine go_if_eq (pc := 17) C dX6_keep_17 24 (by decide) (fun c3 => ?_) (fun c3 => ?_)
      · have hf := hf.1 c3
        refine go_iconst (pc := 24) (v := 0) C dX6_keep_24 (by decide) ?_
        exact go_sub [0, 1] rfl (wk_X6_keep_25 C hR _ _ _ hf)
      · have hf := hf.2 c3
        refine go_iconst (pc := 20) (v := 1) C dX6_keep_20 (by decide) ?_
        refine go_goto (pc := 21) C dX6_keep_21 25 (by decide) ?_
        exact go_sub [0, 1] rfl (wk_X6_keep_25 C hR _ _ _ hf)
    · have hf := hf.2 c2
      refine go_iconst (pc := 9) (v := (-1)) C dX6_keep_9 (by decide) ?_
      exact hR _ _ _ _ dX6_keep_10 hf
set_option maxRecDepth 100000 in
set_option maxHeartbeats 4000000 in
theorem ok_X6_keep {p1 : Int32} {S : tq_St} {K : Int32 → tq_St → Prop} (hf : wp_X6_keep p1 S K) : tq_Mi yX6_keep cX6_keep 3 (some .int) 2 (fun a z => [.ref (a.1 27 0), .int p1]) S K :=
  tq_mkI (by decide) (fun _ _ => Nat.le_of_ble_eq_true rfl) (fun X C hR => wk_X6_keep C hR  hf)
set_option maxRecDepth 100000 in
set_option maxHeartbeats 4000000 in
theorem wk_X6_kinds_17 {X : tq_Cx} {K : Int32 → tq_St → Prop} (C : tq_C X cX6_kinds 4 RX6 7) (hR : tq_Ri X cX6_kinds 4 K) : ∀ (n : Nat) (v1 : Int32) (v2 : Int32) (v3 : Int32) (S : tq_St), wp_X6_kinds_17 K n v1 v2 v3 S → Go X 4 S 17 [(0, .ref ((tq_la X).1 27 0)), (1, .int v1), (2, .int v2), (3, .int v3)] [] := by
  intro n
  induction n with
  | zero => intros; contradiction
  | succ n ih =>
    intro v1 v2 v3 S hf
    refine go_iload_n (pc := 17) C dX6_kinds_17 3 rfl rfl ?_
    refine go_iconst (pc := 18) (v := 4) C dX6_kinds_18 (by decide) ?_
    refine go_ic_ge (pc := 19) C dX6_kinds_19 79 (by decide) (fun c5 => ?_) (fun c5 => ?_)
    · have hf := hf.1 c5
      refine go_iload_n (pc := 79) C dX6_kinds_79 2 rfl rfl ?_
      exact hR _ _ _ _ dX6_kinds_80 hf
    · have hf := hf.2 c5
      refine go_aload_n (pc := 22) C dX6_kinds_22 0 rfl rfl ?_
      refine ge_X6_X6_1 (pc := 23) C dX6_kinds_23 ?_
      refine go_aload_n (pc := 26) C dX6_kinds_26 0 rfl rfl ?_
      refine ge_X6_X6_0 (pc := 27) C dX6_kinds_27 ?_
      refine go_cVv (pc := 30) C cw_X6_163 (ok_X1_startFrom (by decide) (by decide) hf) (rc_X1 C (by decide)) rfl rfl rfl (by decide) rfl dX6_kinds_30 (fun S7 hf => ?_)
      refine go_aload_n (pc := 33) C dX6_kinds_33 0 rfl rfl ?_
      refine ge_X6_X6_1 (pc := 34) C dX6_kinds_34 ?_
      refine ge_X6_X1_0 (pc := 37) C (by decide) dX6_kinds_37 ?_
      refine go_iload_n (pc := 40) C dX6_kinds_40 1 rfl rfl ?_
      refine go_iload_n (pc := 41) C dX6_kinds_41 3 rfl rfl ?_
      refine as_X1_0 (pc := 42) C (by decide) hf.1 dX6_kinds_42 (fun S9 e10 => ?_)
      have hf := hf.2 S9 e10
      refine go_aload_n (pc := 43) C dX6_kinds_43 0 rfl rfl ?_
      refine ge_X6_X6_1 (pc := 44) C dX6_kinds_44 ?_
      refine go_cVv (pc := 47) C cw_X6_166 (ok_X1_followPlan (by decide) hf) (rc_X1 C (by decide)) rfl rfl rfl (by decide) rfl dX6_kinds_47 (fun S12 hf => ?_)
      refine go_aload_n (pc := 50) C dX6_kinds_50 0 rfl rfl ?_
      refine ge_X6_X6_3 (pc := 51) C dX6_kinds_51 ?_
      refine go_aload_n (pc := 54) C dX6_kinds_54 0 rfl rfl ?_
      refine ge_X6_X6_1 (pc := 55) C dX6_kinds_55 ?_
      refine ge_X6_X1_6 (pc := 58) C (by decide) dX6_kinds_58 ?_
      refine go_cVi (pc := 61) C cw_X6_226 (ok_X4_agreeWith hf) (rc_X4 C) rfl rfl rfl (by decide) rfl dX6_kinds_61 (fun r14 S15 hf => ?_)
      refine go_if_eq (pc := 64) C dX6_kinds_64 73 (by decide) (fun c17 => ?_) (fun c17 => ?_)
      · have hf := hf.1 c17
        obtain ⟨x18, e19⟩ : ∃ q9 : Int32, q9 = v3 + 1 := ⟨_, rfl⟩
        refine go_iinc (pc := 73) (j := 3) (v := x18) C dX6_kinds_73 [(3, .int x18), (0, .ref ((tq_la X).1 27 0)), (1, .int v1), (2, .int v2)] rfl (by rw [e19]; rfl) (by decide) rfl ?_
        have hf := hf x18 e19
        refine go_goto (pc := 76) C dX6_kinds_76 17 (by decide) ?_
        exact go_sub [1, 2, 3, 0] rfl (ih _ _ _ _ hf)
      · have hf := hf.2 c17
        refine go_iload_n (pc := 67) C dX6_kinds_67 2 rfl rfl ?_
        refine go_iconst (pc := 68) (v := 1) C dX6_kinds_68 (by decide) ?_
        refine go_iload_n (pc := 69) C dX6_kinds_69 3 rfl rfl ?_
        refine go_ishl (pc := 70) C dX6_kinds_70 ?_
        refine go_ior (pc := 71) C dX6_kinds_71 ?_
        refine go_nI (fun x20 e21 => ?_)
        have hf := hf x20 e21
        refine go_istore_n (pc := 72) C dX6_kinds_72 [(2, .int x20), (0, .ref ((tq_la X).1 27 0)), (1, .int v1), (3, .int v3)] rfl (by decide) rfl ?_
        obtain ⟨x22, e23⟩ : ∃ q9 : Int32, q9 = v3 + 1 := ⟨_, rfl⟩
        refine go_iinc (pc := 73) (j := 3) (v := x22) C dX6_kinds_73 [(3, .int x22), (2, .int x20), (0, .ref ((tq_la X).1 27 0)), (1, .int v1)] rfl (by rw [e23]; rfl) (by decide) rfl ?_
        have hf := hf x22 e23
        refine go_goto (pc := 76) C dX6_kinds_76 17 (by decide) ?_
        exact go_sub [2, 3, 1, 0] rfl (ih _ _ _ _ hf)
set_option maxRecDepth 100000 in
set_option maxHeartbeats 4000000 in
theorem wk_X6_kinds {X : tq_Cx} {p1 : Int32} {S : tq_St} {K : Int32 → tq_St → Prop} (C : tq_C X cX6_kinds 4 RX6 7) (hR : tq_Ri X cX6_kinds 4 K) (hf : wp_X6_kinds p1 S K) : Go X 4 S 0 [(0, .ref ((tq_la X).1 27 0)), (1, .int p1)] [] := by
  refine go_aload_n (pc := 0) C dX6_kinds_0 0 rfl rfl ?_
  refine ge_X6_X6_0 (pc := 1) C dX6_kinds_1 ?_
  refine go_iload_n (pc := 4) C dX6_kinds_4 1 rfl rfl ?_
  refine go_cVi (pc := 5) C cw_X6_112 (ok_X1_isThere (by decide) hf) (rc_X1 C (by decide)) rfl rfl rfl (by decide) rfl dX6_kinds_5 (fun r1 S2 hf => ?_)
  refine go_if_ne (pc := 8) C dX6_kinds_8 13 (by decide) (fun c4 => ?_) (fun c4 => ?_)
  · have hf := hf.1 c4
    refine go_iconst (pc := 13) (v := 0) C dX6_kinds_13 (by decide) ?_
    refine go_istore_n (pc := 14) C dX6_kinds_14 [(2, .int 0), (0, .ref ((tq_la X).1 27 0)), (1, .int p1)] rfl (by decide) rfl ?_
    refine go_iconst (pc := 15) (v := 0) C dX6_kinds_15 (by decide) ?_
    refine go_istore_n (pc := 16) C dX6_kinds_16 [(3, .int 0), (2, .int 0), (0, .ref ((tq_la X).1 27 0)), (1, .int p1)] rfl (by decide) rfl ?_
    exact go_sub [2, 3, 1, 0] rfl (wk_X6_kinds_17 C hR 2000 _ _ _ _ hf)
  · have hf := hf.2 c4
    refine go_iconst (pc := 11) (v := (-1)) C dX6_kinds_11 (by decide) ?_
    exact hR _ _ _ _ dX6_kinds_12 hf
set_option maxRecDepth 100000 in
set_option maxHeartbeats 4000000 in
theorem ok_X6_kinds {p1 : Int32} {S : tq_St} {K : Int32 → tq_St → Prop} (hf : wp_X6_kinds p1 S K) : tq_Mi yX6_kinds cX6_kinds 4 (some .int) 7 (fun a z => [.ref (a.1 27 0), .int p1]) S K :=
  tq_mkI (by decide) (fun _ _ => Nat.le_of_ble_eq_true rfl) (fun X C hR => wk_X6_kinds C hR  hf)
set_option maxRecDepth 100000 in
set_option maxHeartbeats 4000000 in
theorem wk_X6_lay {X : tq_Cx} {p1 : Int32} {p2 : Int32} {p3 : Int32} {S : tq_St} {K : Int32 → tq_St → Prop} (C : tq_C X cX6_lay 6 RX6 2) (hR : tq_Ri X cX6_lay 6 K) (hf : wp_X6_lay p1 p2 p3 S K) : Go X 6 S 0 [(0, .ref ((tq_la X).1 27 0)), (1, .int p1), (2, .int p2), (3, .int p3)] [] := by
  refine go_iload_n (pc := 0) C dX6_lay_0 1 rfl rfl ?_
  refine go_cSi (pc := 1) C cs_X6_239 (ok_X6_isSheet hf) rfl rfl rfl (by decide) rfl dX6_lay_1 (fun r1 S2 hf => ?_)
  refine go_if_ne (pc := 4) C dX6_lay_4 9 (by decide) (fun c4 => ?_) (fun c4 => ?_)
  · have hf := hf.1 c4
    refine go_aload_n (pc := 9) C dX6_lay_9 0 rfl rfl ?_
    refine ge_X6_X6_8 (pc := 10) C dX6_lay_10 ?_
    refine go_iload_n (pc := 13) C dX6_lay_13 1 rfl rfl ?_
    refine al_X6_8 (pc := 14) C hf.1 dX6_lay_14 ?_
    have h5 : 23 ≤ 23 + (p1 : Int32).toNatClampNeg ∧ 23 + (p1 : Int32).toNatClampNeg < 27 := tq_ls hf.1
    have hf := hf.2
    obtain ⟨y6, e7⟩ : ∃ q9 : Nat, q9 = 23 + (p1 : Int32).toNatClampNeg := ⟨_, rfl⟩
    rw [← e7]
    have hf := hf y6 e7
    have hy6 : 23 ≤ y6 ∧ y6 < 27 := by rw [e7]; exact h5
    refine go_astore (pc := 15) C dX6_lay_15 [(4, .ref ((tq_la X).1 y6 0)), (0, .ref ((tq_la X).1 27 0)), (1, .int p1), (2, .int p2), (3, .int p3)] (by decide) rfl ?_
    refine go_aload (pc := 17) C dX6_lay_17 0 rfl ?_
    refine go_aload (pc := 19) C dX6_lay_19 0 rfl ?_
    refine ge_X6_X3_2 (pc := 21) C hy6 dX6_lay_21 ?_
    refine go_iload_n (pc := 24) C dX6_lay_24 3 rfl rfl ?_
    refine go_cVi (pc := 25) C cw_X6_252 (ok_X3_faultAt hy6 hf) (rc_X3 C hy6) rfl rfl rfl (by decide) rfl dX6_lay_25 (fun r8 S9 hf => ?_)
    refine go_istore (pc := 28) C dX6_lay_28 [(5, .int r8), (4, .ref ((tq_la X).1 y6 0)), (0, .ref ((tq_la X).1 27 0)), (1, .int p1), (2, .int p2), (3, .int p3)] (by decide) rfl ?_
    refine go_iload (pc := 30) C dX6_lay_30 0 rfl ?_
    refine go_if_eq (pc := 32) C dX6_lay_32 41 (by decide) (fun c11 => ?_) (fun c11 => ?_)
    · have hf := hf.1 c11
      refine go_aload (pc := 41) C dX6_lay_41 1 rfl ?_
      refine go_iload_n (pc := 43) C dX6_lay_43 4 rfl rfl ?_
      refine go_iload_n (pc := 44) C dX6_lay_44 5 rfl rfl ?_
      refine go_cVv (pc := 45) C cw_X6_255 (ok_X3_put hy6 hf) (rc_X3 C hy6) rfl rfl rfl (by decide) rfl dX6_lay_45 (fun S13 hf => ?_)
      refine go_iconst (pc := 48) (v := 1) C dX6_lay_48 (by decide) ?_
      exact hR _ _ _ _ dX6_lay_49 hf
    · have hf := hf.2 c11
      refine go_bipush (pc := 35) (v := (-10)) C dX6_lay_35 (by decide) ?_
      refine go_iload (pc := 37) C dX6_lay_37 0 rfl ?_
      refine go_isub (pc := 39) C dX6_lay_39 ?_
      exact hR _ _ _ _ dX6_lay_40 hf
  · have hf := hf.2 c4
    refine go_iconst (pc := 7) (v := (-1)) C dX6_lay_7 (by decide) ?_
    exact hR _ _ _ _ dX6_lay_8 hf
set_option maxRecDepth 100000 in
set_option maxHeartbeats 4000000 in
theorem ok_X6_lay {p1 : Int32} {p2 : Int32} {p3 : Int32} {S : tq_St} {K : Int32 → tq_St → Prop} (hf : wp_X6_lay p1 p2 p3 S K) : tq_Mi yX6_lay cX6_lay 6 (some .int) 2 (fun a z => [.ref (a.1 27 0), .int p1, .int p2, .int p3]) S K :=
  tq_mkI (by decide) (fun _ _ => Nat.le_of_ble_eq_true rfl) (fun X C hR => wk_X6_lay C hR  hf)
set_option maxRecDepth 100000 in
set_option maxHeartbeats 4000000 in
theorem wk_X6_partOfFraction_17 {X : tq_Cx} {K : Int64 → tq_St → Prop} (C : tq_C X cX6_partOfFraction 9 RX6 2) (hR : tq_Rl X cX6_partOfFraction 9 K) : ∀ (v5 : Int64) (w0 : Int64) (S : tq_St), wp_X6_partOfFraction_17 K v5 w0 S → Go X 9 S 17 [(5, .long v5)] [.long w0] := by
  intro v5 w0 S hf
  refine go_lstore (pc := 17) C dX6_partOfFraction_17 [(7, .long w0), (5, .long v5)] (by decide) rfl ?_
  refine go_lload (pc := 19) C dX6_partOfFraction_19 1 rfl ?_
  refine go_lconst (pc := 21) (v := 1) C dX6_partOfFraction_21 (by decide) ?_
  refine go_lcmp (pc := 22) C dX6_partOfFraction_22 ?_
  refine go_if_ge (pc := 23) C dX6_partOfFraction_23 31 (by decide) (fun c5 => ?_) (fun c5 => ?_)
  · have hf := hf.1 c5
    refine go_lload (pc := 31) C dX6_partOfFraction_31 0 rfl ?_
    refine go_lload (pc := 33) C dX6_partOfFraction_33 1 rfl ?_
    refine go_ldiv (pc := 35) C dX6_partOfFraction_35 hf.1 ?_
    have hf := hf.2
    exact hR _ _ _ _ dX6_partOfFraction_36 hf
  · have hf := hf.2 c5
    refine go_lload (pc := 26) C dX6_partOfFraction_26 0 rfl ?_
    refine go_goto (pc := 28) C dX6_partOfFraction_28 36 (by decide) ?_
    exact hR _ _ _ _ dX6_partOfFraction_36 hf
set_option maxRecDepth 100000 in
set_option maxHeartbeats 4000000 in
theorem wk_X6_partOfFraction {X : tq_Cx} {p0 : Int64} {p2 : Int64} {p4 : Int32} {S : tq_St} {K : Int64 → tq_St → Prop} (C : tq_C X cX6_partOfFraction 9 RX6 2) (hR : tq_Rl X cX6_partOfFraction 9 K) (hf : wp_X6_partOfFraction p0 p2 p4 S K) : Go X 9 S 0 [(0, .long p0), (2, .long p2), (4, .int p4)] [] := by
  refine go_lload_n (pc := 0) C dX6_partOfFraction_0 0 rfl rfl ?_
  refine go_lload_n (pc := 1) C dX6_partOfFraction_1 1 rfl rfl ?_
  refine go_cSl (pc := 2) C cs_X6_283 (ok_X6_greatestDivisor hf) rfl rfl rfl (by decide) rfl dX6_partOfFraction_2 (fun r1 S2 hf => ?_)
  refine go_lstore (pc := 5) C dX6_partOfFraction_5 [(5, .long r1), (0, .long p0), (2, .long p2), (4, .int p4)] (by decide) rfl ?_
  refine go_iload (pc := 7) C dX6_partOfFraction_7 3 rfl ?_
  refine go_if_ne (pc := 9) C dX6_partOfFraction_9 16 (by decide) (fun c4 => ?_) (fun c4 => ?_)
  · have hf := hf.1 c4
    refine go_lload_n (pc := 16) C dX6_partOfFraction_16 2 rfl rfl ?_
    exact go_sub [0] rfl (wk_X6_partOfFraction_17 C hR _ _ _ hf)
  · have hf := hf.2 c4
    refine go_lload_n (pc := 12) C dX6_partOfFraction_12 1 rfl rfl ?_
    refine go_goto (pc := 13) C dX6_partOfFraction_13 17 (by decide) ?_
    exact go_sub [0] rfl (wk_X6_partOfFraction_17 C hR _ _ _ hf)
set_option maxRecDepth 100000 in
set_option maxHeartbeats 4000000 in
theorem ok_X6_partOfFraction {p0 : Int64} {p2 : Int64} {p4 : Int32} {S : tq_St} {K : Int64 → tq_St → Prop} (hf : wp_X6_partOfFraction p0 p2 p4 S K) : tq_Ml yX6_partOfFraction cX6_partOfFraction 9 (some .long) 2 (fun a z => [.long p0, .long p2, .int p4]) S K :=
  tq_mkL (by decide) (fun _ _ => Nat.le_of_ble_eq_true rfl) (fun X C hR => wk_X6_partOfFraction C hR  hf)
set_option maxRecDepth 100000 in
set_option maxHeartbeats 4000000 in
theorem wk_X6_luck {X : tq_Cx} {p1 : Int32} {p2 : Int32} {p3 : Int32} {S : tq_St} {K : Int64 → tq_St → Prop} (C : tq_C X cX6_luck 4 RX6 20) (hR : tq_Rl X cX6_luck 4 K) (hf : wp_X6_luck p1 p2 p3 S K) : Go X 4 S 0 [(0, .ref ((tq_la X).1 27 0)), (1, .int p1), (2, .int p2), (3, .int p3)] [] := by
  refine go_iload_n (pc := 0) C dX6_luck_0 1 rfl rfl ?_
  refine go_if_lt (pc := 1) C dX6_luck_1 28 (by decide) (fun c1 => ?_) (fun c1 => ?_)
  · have hf := hf.1 c1
    refine go_ldc2 (pc := 28) C kl_X6_205 dX6_luck_28 ?_
    exact hR _ _ _ _ dX6_luck_31 hf
  · have hf := hf.2 c1
    refine go_iload_n (pc := 4) C dX6_luck_4 1 rfl rfl ?_
    refine go_bipush (pc := 5) (v := 10) C dX6_luck_5 (by decide) ?_
    refine go_ic_gt (pc := 7) C dX6_luck_7 28 (by decide) (fun c2 => ?_) (fun c2 => ?_)
    · have hf := hf.1 c2
      refine go_ldc2 (pc := 28) C kl_X6_205 dX6_luck_28 ?_
      exact hR _ _ _ _ dX6_luck_31 hf
    · have hf := hf.2 c2
      refine go_aload_n (pc := 10) C dX6_luck_10 0 rfl rfl ?_
      refine ge_X6_X6_0 (pc := 11) C dX6_luck_11 ?_
      refine go_iload_n (pc := 14) C dX6_luck_14 2 rfl rfl ?_
      refine go_cVi (pc := 15) C cw_X6_112 (ok_X1_isThere (by decide) hf) (rc_X1 C (by decide)) rfl rfl rfl (by decide) rfl dX6_luck_15 (fun r3 S4 hf => ?_)
      refine go_if_eq (pc := 18) C dX6_luck_18 28 (by decide) (fun c6 => ?_) (fun c6 => ?_)
      · have hf := hf.1 c6
        refine go_ldc2 (pc := 28) C kl_X6_205 dX6_luck_28 ?_
        exact hR _ _ _ _ dX6_luck_31 hf
      · have hf := hf.2 c6
        refine go_iload_n (pc := 21) C dX6_luck_21 3 rfl rfl ?_
        refine go_cSi (pc := 22) C cs_X6_178 (ok_X6_isZeroOrOne hf) rfl rfl rfl (by decide) rfl dX6_luck_22 (fun r7 S8 hf => ?_)
        refine go_if_ne (pc := 25) C dX6_luck_25 32 (by decide) (fun c10 => ?_) (fun c10 => ?_)
        · have hf := hf.1 c10
          refine go_aload_n (pc := 32) C dX6_luck_32 0 rfl rfl ?_
          refine ge_X6_X6_5 (pc := 33) C dX6_luck_33 ?_
          refine go_aload_n (pc := 36) C dX6_luck_36 0 rfl rfl ?_
          refine ge_X6_X6_0 (pc := 37) C dX6_luck_37 ?_
          refine go_iload_n (pc := 40) C dX6_luck_40 1 rfl rfl ?_
          refine go_cVv (pc := 41) C cw_X6_207 (ok_X0_weighPlan (by decide) hf) (rc_X0 C) rfl rfl rfl (by decide) rfl dX6_luck_41 (fun S12 hf => ?_)
          refine go_aload_n (pc := 44) C dX6_luck_44 0 rfl rfl ?_
          refine ge_X6_X6_5 (pc := 45) C dX6_luck_45 ?_
          refine go_iload_n (pc := 48) C dX6_luck_48 2 rfl rfl ?_
          refine go_cVl (pc := 49) C cw_X6_210 (ok_X0_weightOf hf) (rc_X0 C) rfl rfl rfl (by decide) rfl dX6_luck_49 (fun r14 S15 hf => ?_)
          refine go_aload_n (pc := 52) C dX6_luck_52 0 rfl rfl ?_
          refine ge_X6_X6_5 (pc := 53) C dX6_luck_53 ?_
          refine ge_X6_X0_2 (pc := 56) C dX6_luck_56 ?_
          refine go_iload_n (pc := 59) C dX6_luck_59 3 rfl rfl ?_
          refine go_cSl (pc := 60) C cs_X6_218 (ok_X6_partOfFraction hf) rfl rfl rfl (by decide) rfl dX6_luck_60 (fun r17 S18 hf => ?_)
          exact hR _ _ _ _ dX6_luck_63 hf
        · have hf := hf.2 c10
          refine go_ldc2 (pc := 28) C kl_X6_205 dX6_luck_28 ?_
          exact hR _ _ _ _ dX6_luck_31 hf
set_option maxRecDepth 100000 in
set_option maxHeartbeats 4000000 in
theorem ok_X6_luck {p1 : Int32} {p2 : Int32} {p3 : Int32} {S : tq_St} {K : Int64 → tq_St → Prop} (hf : wp_X6_luck p1 p2 p3 S K) : tq_Ml yX6_luck cX6_luck 4 (some .long) 20 (fun a z => [.ref (a.1 27 0), .int p1, .int p2, .int p3]) S K :=
  tq_mkL (by decide) (fun _ _ => Nat.le_of_ble_eq_true rfl) (fun X C hR => wk_X6_luck C hR  hf)
set_option maxRecDepth 100000 in
set_option maxHeartbeats 4000000 in
theorem wk_X6_mean_38 {X : tq_Cx} {K : Int64 → tq_St → Prop} (C : tq_C X cX6_mean 6 RX6 20) (hR : tq_Rl X cX6_mean 6 K) : ∀ (n : Nat) (v2 : Int32) (v3 : Int64) (v5 : Int32) (S : tq_St), wp_X6_mean_38 K n v2 v3 v5 S → Go X 6 S 38 [(0, .ref ((tq_la X).1 27 0)), (2, .int v2), (3, .long v3), (5, .int v5)] [] := by
  intro n
  induction n with
  | zero => intros; contradiction
  | succ n ih =>
    intro v2 v3 v5 S hf
    refine go_iload (pc := 38) C dX6_mean_38 3 rfl ?_
    refine go_aload_n (pc := 40) C dX6_mean_40 0 rfl rfl ?_
    refine ge_X6_X6_0 (pc := 41) C dX6_mean_41 ?_
    refine ge_X6_X1_5 (pc := 44) C (by decide) dX6_mean_44 ?_
    refine go_ic_ge (pc := 47) C dX6_mean_47 68 (by decide) (fun c10 => ?_) (fun c10 => ?_)
    · have hf := hf.1 c10
      refine go_lload_n (pc := 68) C dX6_mean_68 2 rfl rfl ?_
      refine go_aload_n (pc := 69) C dX6_mean_69 0 rfl rfl ?_
      refine ge_X6_X6_5 (pc := 70) C dX6_mean_70 ?_
      refine ge_X6_X0_2 (pc := 73) C dX6_mean_73 ?_
      refine go_iload_n (pc := 76) C dX6_mean_76 1 rfl rfl ?_
      refine go_cSl (pc := 77) C cs_X6_218 (ok_X6_partOfFraction hf) rfl rfl rfl (by decide) rfl dX6_mean_77 (fun r11 S12 hf => ?_)
      exact hR _ _ _ _ dX6_mean_80 hf
    · have hf := hf.2 c10
      refine go_lload_n (pc := 50) C dX6_mean_50 2 rfl rfl ?_
      refine go_aload_n (pc := 51) C dX6_mean_51 0 rfl rfl ?_
      refine ge_X6_X6_5 (pc := 52) C dX6_mean_52 ?_
      refine go_iload (pc := 55) C dX6_mean_55 3 rfl ?_
      refine go_cVl (pc := 57) C cw_X6_210 (ok_X0_weightOf hf) (rc_X0 C) rfl rfl rfl (by decide) rfl dX6_mean_57 (fun r14 S15 hf => ?_)
      refine go_ladd (pc := 60) C dX6_mean_60 ?_
      refine go_nL (fun x17 e18 => ?_)
      have hf := hf x17 e18
      refine go_lstore_n (pc := 61) C dX6_mean_61 [(3, .long x17), (0, .ref ((tq_la X).1 27 0)), (2, .int v2), (5, .int v5)] rfl (by decide) rfl ?_
      obtain ⟨x19, e20⟩ : ∃ q9 : Int32, q9 = v5 + 1 := ⟨_, rfl⟩
      refine go_iinc (pc := 62) (j := 3) (v := x19) C dX6_mean_62 [(5, .int x19), (3, .long x17), (0, .ref ((tq_la X).1 27 0)), (2, .int v2)] rfl (by rw [e20]; rfl) (by decide) rfl ?_
      have hf := hf x19 e20
      refine go_goto (pc := 65) C dX6_mean_65 38 (by decide) ?_
      exact go_sub [2, 3, 1, 0] rfl (ih _ _ _ _ hf)
set_option maxRecDepth 100000 in
set_option maxHeartbeats 4000000 in
theorem wk_X6_mean {X : tq_Cx} {p1 : Int32} {p2 : Int32} {S : tq_St} {K : Int64 → tq_St → Prop} (C : tq_C X cX6_mean 6 RX6 20) (hR : tq_Rl X cX6_mean 6 K) (hf : wp_X6_mean p1 p2 S K) : Go X 6 S 0 [(0, .ref ((tq_la X).1 27 0)), (1, .int p1), (2, .int p2)] [] := by
  refine go_iload_n (pc := 0) C dX6_mean_0 1 rfl rfl ?_
  refine go_if_lt (pc := 1) C dX6_mean_1 17 (by decide) (fun c1 => ?_) (fun c1 => ?_)
  · have hf := hf.1 c1
    refine go_ldc2 (pc := 17) C kl_X6_205 dX6_mean_17 ?_
    exact hR _ _ _ _ dX6_mean_20 hf
  · have hf := hf.2 c1
    refine go_iload_n (pc := 4) C dX6_mean_4 1 rfl rfl ?_
    refine go_bipush (pc := 5) (v := 10) C dX6_mean_5 (by decide) ?_
    refine go_ic_gt (pc := 7) C dX6_mean_7 17 (by decide) (fun c2 => ?_) (fun c2 => ?_)
    · have hf := hf.1 c2
      refine go_ldc2 (pc := 17) C kl_X6_205 dX6_mean_17 ?_
      exact hR _ _ _ _ dX6_mean_20 hf
    · have hf := hf.2 c2
      refine go_iload_n (pc := 10) C dX6_mean_10 2 rfl rfl ?_
      refine go_cSi (pc := 11) C cs_X6_178 (ok_X6_isZeroOrOne hf) rfl rfl rfl (by decide) rfl dX6_mean_11 (fun r3 S4 hf => ?_)
      refine go_if_ne (pc := 14) C dX6_mean_14 21 (by decide) (fun c6 => ?_) (fun c6 => ?_)
      · have hf := hf.1 c6
        refine go_aload_n (pc := 21) C dX6_mean_21 0 rfl rfl ?_
        refine ge_X6_X6_5 (pc := 22) C dX6_mean_22 ?_
        refine go_aload_n (pc := 25) C dX6_mean_25 0 rfl rfl ?_
        refine ge_X6_X6_0 (pc := 26) C dX6_mean_26 ?_
        refine go_iload_n (pc := 29) C dX6_mean_29 1 rfl rfl ?_
        refine go_cVv (pc := 30) C cw_X6_207 (ok_X0_weighPlan (by decide) hf) (rc_X0 C) rfl rfl rfl (by decide) rfl dX6_mean_30 (fun S8 hf => ?_)
        refine go_lconst (pc := 33) (v := 0) C dX6_mean_33 (by decide) ?_
        refine go_lstore_n (pc := 34) C dX6_mean_34 [(3, .long 0), (0, .ref ((tq_la X).1 27 0)), (1, .int p1), (2, .int p2)] rfl (by decide) rfl ?_
        refine go_iconst (pc := 35) (v := 0) C dX6_mean_35 (by decide) ?_
        refine go_istore (pc := 36) C dX6_mean_36 [(5, .int 0), (3, .long 0), (0, .ref ((tq_la X).1 27 0)), (1, .int p1), (2, .int p2)] (by decide) rfl ?_
        exact go_sub [2, 4, 1, 0] rfl (wk_X6_mean_38 C hR 2000 _ _ _ _ hf)
      · have hf := hf.2 c6
        refine go_ldc2 (pc := 17) C kl_X6_205 dX6_mean_17 ?_
        exact hR _ _ _ _ dX6_mean_20 hf
set_option maxRecDepth 100000 in
set_option maxHeartbeats 4000000 in
theorem ok_X6_mean {p1 : Int32} {p2 : Int32} {S : tq_St} {K : Int64 → tq_St → Prop} (hf : wp_X6_mean p1 p2 S K) : tq_Ml yX6_mean cX6_mean 6 (some .long) 20 (fun a z => [.ref (a.1 27 0), .int p1, .int p2]) S K :=
  tq_mkL (by decide) (fun _ _ => Nat.le_of_ble_eq_true rfl) (fun X C hR => wk_X6_mean C hR  hf)
set_option maxRecDepth 100000 in
set_option maxHeartbeats 4000000 in
theorem wk_X6_minutes_14 {X : tq_Cx} {K : Int32 → tq_St → Prop} (C : tq_C X cX6_minutes 3 RX6 3) (hR : tq_Ri X cX6_minutes 3 K) : ∀ (n : Nat) (v1 : Int32) (v2 : Int32) (S : tq_St), wp_X6_minutes_14 K n v1 v2 S → Go X 3 S 14 [(0, .ref ((tq_la X).1 27 0)), (1, .int v1), (2, .int v2)] [] := by
  intro n
  induction n with
  | zero => intros; contradiction
  | succ n ih =>
    intro v1 v2 S hf
    refine go_iload_n (pc := 14) C dX6_minutes_14 2 rfl rfl ?_
    refine go_iload_n (pc := 15) C dX6_minutes_15 1 rfl rfl ?_
    refine go_ic_ge (pc := 16) C dX6_minutes_16 32 (by decide) (fun c3 => ?_) (fun c3 => ?_)
    · have hf := hf.1 c3
      refine go_aload_n (pc := 32) C dX6_minutes_32 0 rfl rfl ?_
      refine ge_X6_X6_0 (pc := 33) C dX6_minutes_33 ?_
      refine go_cVi (pc := 36) C cw_X6_109 (ok_X1_allSorrow (by decide) hf) (rc_X1 C (by decide)) rfl rfl rfl (by decide) rfl dX6_minutes_36 (fun r4 S5 hf => ?_)
      exact hR _ _ _ _ dX6_minutes_39 hf
    · have hf := hf.2 c3
      refine go_aload_n (pc := 19) C dX6_minutes_19 0 rfl rfl ?_
      refine ge_X6_X6_0 (pc := 20) C dX6_minutes_20 ?_
      refine go_cVv (pc := 23) C cw_X6_146 (ok_X1_dry (by decide) hf) (rc_X1 C (by decide)) rfl rfl rfl (by decide) rfl dX6_minutes_23 (fun S8 hf => ?_)
      obtain ⟨x10, e11⟩ : ∃ q9 : Int32, q9 = v2 + 1 := ⟨_, rfl⟩
      refine go_iinc (pc := 26) (j := 2) (v := x10) C dX6_minutes_26 [(2, .int x10), (0, .ref ((tq_la X).1 27 0)), (1, .int v1)] rfl (by rw [e11]; rfl) (by decide) rfl ?_
      have hf := hf x10 e11
      refine go_goto (pc := 29) C dX6_minutes_29 14 (by decide) ?_
      exact go_sub [1, 2, 0] rfl (ih _ _ _ hf)
set_option maxRecDepth 100000 in
set_option maxHeartbeats 4000000 in
theorem wk_X6_minutes {X : tq_Cx} {p1 : Int32} {S : tq_St} {K : Int32 → tq_St → Prop} (C : tq_C X cX6_minutes 3 RX6 3) (hR : tq_Ri X cX6_minutes 3 K) (hf : wp_X6_minutes p1 S K) : Go X 3 S 0 [(0, .ref ((tq_la X).1 27 0)), (1, .int p1)] [] := by
  refine go_iload_n (pc := 0) C dX6_minutes_0 1 rfl rfl ?_
  refine go_if_lt (pc := 1) C dX6_minutes_1 10 (by decide) (fun c1 => ?_) (fun c1 => ?_)
  · have hf := hf.1 c1
    refine go_iconst (pc := 10) (v := (-1)) C dX6_minutes_10 (by decide) ?_
    exact hR _ _ _ _ dX6_minutes_11 hf
  · have hf := hf.2 c1
    refine go_iload_n (pc := 4) C dX6_minutes_4 1 rfl rfl ?_
    refine go_bipush (pc := 5) (v := 60) C dX6_minutes_5 (by decide) ?_
    refine go_ic_le (pc := 7) C dX6_minutes_7 12 (by decide) (fun c2 => ?_) (fun c2 => ?_)
    · have hf := hf.1 c2
      refine go_iconst (pc := 12) (v := 0) C dX6_minutes_12 (by decide) ?_
      refine go_istore_n (pc := 13) C dX6_minutes_13 [(2, .int 0), (0, .ref ((tq_la X).1 27 0)), (1, .int p1)] rfl (by decide) rfl ?_
      exact go_sub [1, 2, 0] rfl (wk_X6_minutes_14 C hR 2000 _ _ _ hf)
    · have hf := hf.2 c2
      refine go_iconst (pc := 10) (v := (-1)) C dX6_minutes_10 (by decide) ?_
      exact hR _ _ _ _ dX6_minutes_11 hf
set_option maxRecDepth 100000 in
set_option maxHeartbeats 4000000 in
theorem ok_X6_minutes {p1 : Int32} {S : tq_St} {K : Int32 → tq_St → Prop} (hf : wp_X6_minutes p1 S K) : tq_Mi yX6_minutes cX6_minutes 3 (some .int) 3 (fun a z => [.ref (a.1 27 0), .int p1]) S K :=
  tq_mkI (by decide) (fun _ _ => Nat.le_of_ble_eq_true rfl) (fun X C hR => wk_X6_minutes C hR  hf)
set_option maxRecDepth 100000 in
set_option maxHeartbeats 4000000 in
theorem wk_X6_one {X : tq_Cx} {p1 : Int32} {p2 : Int32} {S : tq_St} {K : Int32 → tq_St → Prop} (C : tq_C X cX6_one 3 RX6 2) (hR : tq_Ri X cX6_one 3 K) (hf : wp_X6_one p1 p2 S K) : Go X 3 S 0 [(0, .ref ((tq_la X).1 27 0)), (1, .int p1), (2, .int p2)] [] := by
  refine go_aload_n (pc := 0) C dX6_one_0 0 rfl rfl ?_
  refine ge_X6_X6_0 (pc := 1) C dX6_one_1 ?_
  refine go_iload_n (pc := 4) C dX6_one_4 1 rfl rfl ?_
  refine go_cVi (pc := 5) C cw_X6_112 (ok_X1_isThere (by decide) hf) (rc_X1 C (by decide)) rfl rfl rfl (by decide) rfl dX6_one_5 (fun r1 S2 hf => ?_)
  refine go_if_ne (pc := 8) C dX6_one_8 13 (by decide) (fun c4 => ?_) (fun c4 => ?_)
  · have hf := hf.1 c4
    refine go_iload_n (pc := 13) C dX6_one_13 2 rfl rfl ?_
    rcases tq_sw (x := p2) (0) (4) with c5 | c5
    · have hf := hf.1 c5
      refine go_tabOut (pc := 14) C dX6_one_14 103 (by decide) c5 ?_
      refine go_iconst (pc := 103) (v := (-1)) C dX6_one_103 (by decide) ?_
      exact hR _ _ _ _ dX6_one_104 hf
    · have c5 := tq_lt5 c5
      rcases c5 with c5 | c5 | c5 | c5 | c5
      · have hf := hf.2.1 c5
        refine go_tabIn (pc := 14) C dX6_one_14 48 (34) (by decide) (by rw [c5]; decide) (by rw [c5]; decide) (by rw [c5]; rfl) ?_
        refine go_aload_n (pc := 48) C dX6_one_48 0 rfl rfl ?_
        refine ge_X6_X6_0 (pc := 49) C dX6_one_49 ?_
        refine ge_X6_X1_0 (pc := 52) C (by decide) dX6_one_52 ?_
        refine go_iload_n (pc := 55) C dX6_one_55 1 rfl rfl ?_
        refine al_X1_0 (pc := 56) C (by decide) hf.1 dX6_one_56 ?_
        have hf := hf.2
        exact hR _ _ _ _ dX6_one_57 hf
      · have hf := hf.2.2.1 c5
        refine go_tabIn (pc := 14) C dX6_one_14 58 (44) (by decide) (by rw [c5]; decide) (by rw [c5]; decide) (by rw [c5]; rfl) ?_
        refine go_aload_n (pc := 58) C dX6_one_58 0 rfl rfl ?_
        refine ge_X6_X6_0 (pc := 59) C dX6_one_59 ?_
        refine ge_X6_X1_1 (pc := 62) C (by decide) dX6_one_62 ?_
        refine go_iload_n (pc := 65) C dX6_one_65 1 rfl rfl ?_
        refine al_X1_1 (pc := 66) C (by decide) hf.1 dX6_one_66 ?_
        have hf := hf.2
        exact hR _ _ _ _ dX6_one_67 hf
      · have hf := hf.2.2.2.1 c5
        refine go_tabIn (pc := 14) C dX6_one_14 68 (54) (by decide) (by rw [c5]; decide) (by rw [c5]; decide) (by rw [c5]; rfl) ?_
        refine go_aload_n (pc := 68) C dX6_one_68 0 rfl rfl ?_
        refine ge_X6_X6_0 (pc := 69) C dX6_one_69 ?_
        refine go_iload_n (pc := 72) C dX6_one_72 1 rfl rfl ?_
        refine go_cVi (pc := 73) C cw_X6_121 (ok_X1_weptOrNone (by decide) hf) (rc_X1 C (by decide)) rfl rfl rfl (by decide) rfl dX6_one_73 (fun r6 S7 hf => ?_)
        exact hR _ _ _ _ dX6_one_76 hf
      · have hf := hf.2.2.2.2.1 c5
        refine go_tabIn (pc := 14) C dX6_one_14 77 (63) (by decide) (by rw [c5]; decide) (by rw [c5]; decide) (by rw [c5]; rfl) ?_
        refine go_aload_n (pc := 77) C dX6_one_77 0 rfl rfl ?_
        refine ge_X6_X6_0 (pc := 78) C dX6_one_78 ?_
        refine go_iload_n (pc := 81) C dX6_one_81 1 rfl rfl ?_
        refine go_cVi (pc := 82) C cw_X6_125 (ok_X1_brim (by decide) hf) (rc_X1 C (by decide)) rfl rfl rfl (by decide) rfl dX6_one_82 (fun r9 S10 hf => ?_)
        exact hR _ _ _ _ dX6_one_85 hf
      · have hf := hf.2.2.2.2.2 c5
        refine go_tabIn (pc := 14) C dX6_one_14 86 (72) (by decide) (by rw [c5]; decide) (by rw [c5]; decide) (by rw [c5]; rfl) ?_
        refine go_aload_n (pc := 86) C dX6_one_86 0 rfl rfl ?_
        refine ge_X6_X6_0 (pc := 87) C dX6_one_87 ?_
        refine go_iload_n (pc := 90) C dX6_one_90 1 rfl rfl ?_
        refine go_cVi (pc := 91) C cw_X6_128 (ok_X1_waits (by decide) hf) (rc_X1 C (by decide)) rfl rfl rfl (by decide) rfl dX6_one_91 (fun r12 S13 hf => ?_)
        refine go_if_eq (pc := 94) C dX6_one_94 101 (by decide) (fun c15 => ?_) (fun c15 => ?_)
        · have hf := hf.1 c15
          refine go_iconst (pc := 101) (v := 1) C dX6_one_101 (by decide) ?_
          exact hR _ _ _ _ dX6_one_102 hf
        · have hf := hf.2 c15
          refine go_iconst (pc := 97) (v := 0) C dX6_one_97 (by decide) ?_
          refine go_goto (pc := 98) C dX6_one_98 102 (by decide) ?_
          exact hR _ _ _ _ dX6_one_102 hf
  · have hf := hf.2 c4
    refine go_iconst (pc := 11) (v := (-1)) C dX6_one_11 (by decide) ?_
    exact hR _ _ _ _ dX6_one_12 hf
set_option maxRecDepth 100000 in
set_option maxHeartbeats 4000000 in
theorem ok_X6_one {p1 : Int32} {p2 : Int32} {S : tq_St} {K : Int32 → tq_St → Prop} (hf : wp_X6_one p1 p2 S K) : tq_Mi yX6_one cX6_one 3 (some .int) 2 (fun a z => [.ref (a.1 27 0), .int p1, .int p2]) S K :=
  tq_mkI (by decide) (fun _ _ => Nat.le_of_ble_eq_true rfl) (fun X C hR => wk_X6_one C hR  hf)
set_option maxRecDepth 100000 in
set_option maxHeartbeats 4000000 in
theorem wk_X6_plan {X : tq_Cx} {p1 : Int32} {S : tq_St} {K : Int32 → tq_St → Prop} (C : tq_C X cX6_plan 2 RX6 3) (hR : tq_Ri X cX6_plan 2 K) (hf : wp_X6_plan p1 S K) : Go X 2 S 0 [(0, .ref ((tq_la X).1 27 0)), (1, .int p1)] [] := by
  refine go_aload_n (pc := 0) C dX6_plan_0 0 rfl rfl ?_
  refine ge_X6_X6_0 (pc := 1) C dX6_plan_1 ?_
  refine go_iload_n (pc := 4) C dX6_plan_4 1 rfl rfl ?_
  refine go_cVi (pc := 5) C cw_X6_137 (ok_X1_isAct (by decide) hf) (rc_X1 C (by decide)) rfl rfl rfl (by decide) rfl dX6_plan_5 (fun r1 S2 hf => ?_)
  refine go_if_ne (pc := 8) C dX6_plan_8 13 (by decide) (fun c4 => ?_) (fun c4 => ?_)
  · have hf := hf.1 c4
    refine go_aload_n (pc := 13) C dX6_plan_13 0 rfl rfl ?_
    refine ge_X6_X6_0 (pc := 14) C dX6_plan_14 ?_
    refine go_iload_n (pc := 17) C dX6_plan_17 1 rfl rfl ?_
    refine go_cVi (pc := 18) C cw_X6_140 (ok_X1_addAct (by decide) hf) (rc_X1 C (by decide)) rfl rfl rfl (by decide) rfl dX6_plan_18 (fun r5 S6 hf => ?_)
    refine go_if_eq (pc := 21) C dX6_plan_21 34 (by decide) (fun c8 => ?_) (fun c8 => ?_)
    · have hf := hf.1 c8
      refine go_bipush (pc := 34) (v := (-3)) C dX6_plan_34 (by decide) ?_
      exact hR _ _ _ _ dX6_plan_36 hf
    · have hf := hf.2 c8
      refine go_aload_n (pc := 24) C dX6_plan_24 0 rfl rfl ?_
      refine ge_X6_X6_0 (pc := 25) C dX6_plan_25 ?_
      refine ge_X6_X1_10 (pc := 28) C (by decide) dX6_plan_28 ?_
      refine go_goto (pc := 31) C dX6_plan_31 36 (by decide) ?_
      exact hR _ _ _ _ dX6_plan_36 hf
  · have hf := hf.2 c4
    refine go_iconst (pc := 11) (v := (-1)) C dX6_plan_11 (by decide) ?_
    exact hR _ _ _ _ dX6_plan_12 hf
set_option maxRecDepth 100000 in
set_option maxHeartbeats 4000000 in
theorem ok_X6_plan {p1 : Int32} {S : tq_St} {K : Int32 → tq_St → Prop} (hf : wp_X6_plan p1 S K) : tq_Mi yX6_plan cX6_plan 2 (some .int) 3 (fun a z => [.ref (a.1 27 0), .int p1]) S K :=
  tq_mkI (by decide) (fun _ _ => Nat.le_of_ble_eq_true rfl) (fun X C hR => wk_X6_plan C hR  hf)
set_option maxRecDepth 100000 in
set_option maxHeartbeats 4000000 in
theorem wk_X6_queue {X : tq_Cx} {p1 : Int32} {S : tq_St} {K : Int32 → tq_St → Prop} (C : tq_C X cX6_queue 2 RX6 4) (hR : tq_Ri X cX6_queue 2 K) (hf : wp_X6_queue p1 S K) : Go X 2 S 0 [(0, .ref ((tq_la X).1 27 0)), (1, .int p1)] [] := by
  refine go_iload_n (pc := 0) C dX6_queue_0 1 rfl rfl ?_
  refine go_if_lt (pc := 1) C dX6_queue_1 9 (by decide) (fun c1 => ?_) (fun c1 => ?_)
  · have hf := hf.1 c1
    refine go_iconst (pc := 9) (v := (-1)) C dX6_queue_9 (by decide) ?_
    refine go_goto (pc := 10) C dX6_queue_10 21 (by decide) ?_
    exact hR _ _ _ _ dX6_queue_21 hf
  · have hf := hf.2 c1
    refine go_iload_n (pc := 4) C dX6_queue_4 1 rfl rfl ?_
    refine go_iconst (pc := 5) (v := 5) C dX6_queue_5 (by decide) ?_
    refine go_ic_lt (pc := 6) C dX6_queue_6 13 (by decide) (fun c2 => ?_) (fun c2 => ?_)
    · have hf := hf.1 c2
      refine go_aload_n (pc := 13) C dX6_queue_13 0 rfl rfl ?_
      refine ge_X6_X6_0 (pc := 14) C dX6_queue_14 ?_
      refine go_iload_n (pc := 17) C dX6_queue_17 1 rfl rfl ?_
      refine go_cVi (pc := 18) C cw_X6_134 (ok_X1_inLine (by decide) hf) (rc_X1 C (by decide)) rfl rfl rfl (by decide) rfl dX6_queue_18 (fun r3 S4 hf => ?_)
      exact hR _ _ _ _ dX6_queue_21 hf
    · have hf := hf.2 c2
      refine go_iconst (pc := 9) (v := (-1)) C dX6_queue_9 (by decide) ?_
      refine go_goto (pc := 10) C dX6_queue_10 21 (by decide) ?_
      exact hR _ _ _ _ dX6_queue_21 hf
set_option maxRecDepth 100000 in
set_option maxHeartbeats 4000000 in
theorem ok_X6_queue {p1 : Int32} {S : tq_St} {K : Int32 → tq_St → Prop} (hf : wp_X6_queue p1 S K) : tq_Mi yX6_queue cX6_queue 2 (some .int) 4 (fun a z => [.ref (a.1 27 0), .int p1]) S K :=
  tq_mkI (by decide) (fun _ _ => Nat.le_of_ble_eq_true rfl) (fun X C hR => wk_X6_queue C hR  hf)
set_option maxRecDepth 100000 in
set_option maxHeartbeats 4000000 in
theorem wk_X6_read_128 {X : tq_Cx} {K : Int32 → tq_St → Prop} (C : tq_C X cX6_read 8 RX6 6) (hR : tq_Ri X cX6_read 8 K) : ∀ (v5 : Int32) (v6 : Int32) (S : tq_St), wp_X6_read_128 K v5 v6 S → Go X 8 S 128 [(0, .ref ((tq_la X).1 27 0)), (5, .int v5), (6, .int v6)] [] := by
  intro v5 v6 S hf
  refine go_aload_n (pc := 128) C dX6_read_128 0 rfl rfl ?_
  refine ge_X6_X6_0 (pc := 129) C dX6_read_129 ?_
  refine go_aload_n (pc := 132) C dX6_read_132 0 rfl rfl ?_
  refine ge_X6_X6_1 (pc := 133) C dX6_read_133 ?_
  refine go_cVv (pc := 136) C cw_X6_84 (ok_X1_copyFrom (by decide) (by decide) hf) (rc_X1 C (by decide)) rfl rfl rfl (by decide) rfl dX6_read_136 (fun S16 hf => ?_)
  refine go_aload_n (pc := 139) C dX6_read_139 0 rfl rfl ?_
  refine go_iload (pc := 140) C dX6_read_140 1 rfl ?_
  refine pu_X6_X6_10 (pc := 142) C dX6_read_142 (fun S18 e19 => ?_)
  have hf := hf S18 e19
  refine go_iload (pc := 145) C dX6_read_145 2 rfl ?_
  exact hR _ _ _ _ dX6_read_147 hf
set_option maxRecDepth 100000 in
set_option maxHeartbeats 4000000 in
theorem wk_X6_read_45 {X : tq_Cx} {K : Int32 → tq_St → Prop} (C : tq_C X cX6_read 8 RX6 6) (hR : tq_Ri X cX6_read 8 K) : ∀ (n : Nat) (v1 : Int32) (v2 : Int32) (v3 : Int32) (v4 : Int32) (v5 : Int32) (v6 : Int32) (S : tq_St), wp_X6_read_45 K n v1 v2 v3 v4 v5 v6 S → Go X 8 S 45 [(0, .ref ((tq_la X).1 27 0)), (1, .int v1), (2, .int v2), (3, .int v3), (4, .int v4), (5, .int v5), (6, .int v6)] [] := by
  intro n
  induction n with
  | zero => intros; contradiction
  | succ n ih =>
    intro v1 v2 v3 v4 v5 v6 S hf
    refine go_iload (pc := 45) C dX6_read_45 6 rfl ?_
    refine go_iload (pc := 47) C dX6_read_47 4 rfl ?_
    refine go_ic_ge (pc := 49) C dX6_read_49 128 (by decide) (fun c14 => ?_) (fun c14 => ?_)
    · have hf := hf.1 c14
      exact go_sub [0, 5, 6] rfl (wk_X6_read_128 C hR _ _ _ hf)
    · have hf := hf.2 c14
      refine go_aload_n (pc := 52) C dX6_read_52 0 rfl rfl ?_
      refine ge_X6_X6_8 (pc := 53) C dX6_read_53 ?_
      refine go_iload_n (pc := 56) C dX6_read_56 1 rfl rfl ?_
      refine al_X6_8 (pc := 57) C hf.1 dX6_read_57 ?_
      have h20 : 23 ≤ 23 + (v1 : Int32).toNatClampNeg ∧ 23 + (v1 : Int32).toNatClampNeg < 27 := tq_ls hf.1
      have hf := hf.2
      refine go_iload_n (pc := 58) C dX6_read_58 2 rfl rfl ?_
      refine go_iload_n (pc := 59) C dX6_read_59 3 rfl rfl ?_
      refine go_iload (pc := 60) C dX6_read_60 6 rfl ?_
      refine go_iadd (pc := 62) C dX6_read_62 ?_
      refine go_cVi (pc := 63) C cw_X6_252 (ok_X3_faultAt h20 hf) (rc_X3 C h20) rfl rfl rfl (by decide) rfl dX6_read_63 (fun r21 S22 hf => ?_)
      refine go_istore (pc := 66) C dX6_read_66 [(5, .int r21), (0, .ref ((tq_la X).1 27 0)), (1, .int v1), (2, .int v2), (3, .int v3), (4, .int v4), (6, .int v6)] (by decide) rfl ?_
      refine go_iload (pc := 68) C dX6_read_68 0 rfl ?_
      refine go_if_eq (pc := 70) C dX6_read_70 76 (by decide) (fun c24 => ?_) (fun c24 => ?_)
      · have hf := hf.1 c24
        refine go_aload_n (pc := 76) C dX6_read_76 1 rfl rfl ?_
        refine ge_X6_X6_8 (pc := 77) C dX6_read_77 ?_
        refine go_iload_n (pc := 80) C dX6_read_80 2 rfl rfl ?_
        refine al_X6_8 (pc := 81) C hf.1 dX6_read_81 ?_
        have h25 : 23 ≤ 23 + (v1 : Int32).toNatClampNeg ∧ 23 + (v1 : Int32).toNatClampNeg < 27 := tq_ls hf.1
        have hf := hf.2
        refine ge_X6_X3_0 (pc := 82) C h25 dX6_read_82 ?_
        refine go_iload_n (pc := 85) C dX6_read_85 4 rfl rfl ?_
        refine go_iload (pc := 86) C dX6_read_86 6 rfl ?_
        refine go_iadd (pc := 88) C dX6_read_88 ?_
        refine al_X3_0 (pc := 89) C h25 hf.1 dX6_read_89 ?_
        have hf := hf.2
        refine go_nI (fun x26 e27 => ?_)
        have hf := hf x26 e27
        refine go_istore (pc := 90) C dX6_read_90 [(7, .int x26), (5, .int r21), (0, .ref ((tq_la X).1 27 0)), (1, .int v1), (2, .int v2), (3, .int v3), (4, .int v4), (6, .int v6)] (by decide) rfl ?_
        refine go_aload_n (pc := 92) C dX6_read_92 2 rfl rfl ?_
        refine ge_X6_X6_1 (pc := 93) C dX6_read_93 ?_
        refine go_iload (pc := 96) C dX6_read_96 0 rfl ?_
        refine go_cVi (pc := 98) C cw_X6_137 (ok_X1_isAct (by decide) hf) (rc_X1 C (by decide)) rfl rfl rfl (by decide) rfl dX6_read_98 (fun r28 S29 hf => ?_)
        refine go_if_eq (pc := 101) C dX6_read_101 116 (by decide) (fun c31 => ?_) (fun c31 => ?_)
        · have hf := hf.1 c31
          refine go_bipush (pc := 116) (v := (-20)) C dX6_read_116 (by decide) ?_
          refine go_iload (pc := 118) C dX6_read_118 7 rfl ?_
          refine go_isub (pc := 120) C dX6_read_120 ?_
          exact hR _ _ _ _ dX6_read_121 hf
        · have hf := hf.2 c31
          refine go_aload_n (pc := 104) C dX6_read_104 2 rfl rfl ?_
          refine ge_X6_X6_1 (pc := 105) C dX6_read_105 ?_
          refine go_iload (pc := 108) C dX6_read_108 0 rfl ?_
          refine go_cVi (pc := 110) C cw_X6_236 (ok_X1_play (by decide) hf) (rc_X1 C (by decide)) rfl rfl rfl (by decide) rfl dX6_read_110 (fun r32 S33 hf => ?_)
          refine go_if_ne (pc := 113) C dX6_read_113 122 (by decide) (fun c35 => ?_) (fun c35 => ?_)
          · have hf := hf.1 c35
            obtain ⟨x36, e37⟩ : ∃ q9 : Int32, q9 = v6 + 1 := ⟨_, rfl⟩
            refine go_iinc (pc := 122) (j := 7) (v := x36) C dX6_read_122 [(6, .int x36), (7, .int x26), (5, .int r21), (0, .ref ((tq_la X).1 27 0)), (1, .int v1), (2, .int v2), (3, .int v3), (4, .int v4)] rfl (by rw [e37]; rfl) (by decide) rfl ?_
            have hf := hf x36 e37
            refine go_goto (pc := 125) C dX6_read_125 45 (by decide) ?_
            exact go_sub [3, 4, 5, 6, 7, 2, 0] rfl (ih _ _ _ _ _ _ _ hf)
          · have hf := hf.2 c35
            refine go_bipush (pc := 116) (v := (-20)) C dX6_read_116 (by decide) ?_
            refine go_iload (pc := 118) C dX6_read_118 7 rfl ?_
            refine go_isub (pc := 120) C dX6_read_120 ?_
            exact hR _ _ _ _ dX6_read_121 hf
      · have hf := hf.2 c24
        refine go_goto (pc := 73) C dX6_read_73 128 (by decide) ?_
        exact go_sub [1, 0, 6] rfl (wk_X6_read_128 C hR _ _ _ hf)
set_option maxRecDepth 100000 in
set_option maxHeartbeats 4000000 in
theorem wk_X6_read {X : tq_Cx} {p1 : Int32} {p2 : Int32} {p3 : Int32} {p4 : Int32} {S : tq_St} {K : Int32 → tq_St → Prop} (C : tq_C X cX6_read 8 RX6 6) (hR : tq_Ri X cX6_read 8 K) (hf : wp_X6_read p1 p2 p3 p4 S K) : Go X 8 S 0 [(0, .ref ((tq_la X).1 27 0)), (1, .int p1), (2, .int p2), (3, .int p3), (4, .int p4)] [] := by
  refine go_iload_n (pc := 0) C dX6_read_0 1 rfl rfl ?_
  refine go_cSi (pc := 1) C cs_X6_239 (ok_X6_isSheet hf) rfl rfl rfl (by decide) rfl dX6_read_1 (fun r1 S2 hf => ?_)
  refine go_if_eq (pc := 4) C dX6_read_4 26 (by decide) (fun c4 => ?_) (fun c4 => ?_)
  · have hf := hf.1 c4
    refine go_iconst (pc := 26) (v := (-1)) C dX6_read_26 (by decide) ?_
    exact hR _ _ _ _ dX6_read_27 hf
  · have hf := hf.2 c4
    refine go_iload_n (pc := 7) C dX6_read_7 2 rfl rfl ?_
    refine go_cSi (pc := 8) C cs_X6_242 (ok_X6_isLane hf) rfl rfl rfl (by decide) rfl dX6_read_8 (fun r5 S6 hf => ?_)
    refine go_if_eq (pc := 11) C dX6_read_11 26 (by decide) (fun c8 => ?_) (fun c8 => ?_)
    · have hf := hf.1 c8
      refine go_iconst (pc := 26) (v := (-1)) C dX6_read_26 (by decide) ?_
      exact hR _ _ _ _ dX6_read_27 hf
    · have hf := hf.2 c8
      refine go_iload (pc := 14) C dX6_read_14 4 rfl ?_
      refine go_if_lt (pc := 16) C dX6_read_16 26 (by decide) (fun c9 => ?_) (fun c9 => ?_)
      · have hf := hf.1 c9
        refine go_iconst (pc := 26) (v := (-1)) C dX6_read_26 (by decide) ?_
        exact hR _ _ _ _ dX6_read_27 hf
      · have hf := hf.2 c9
        refine go_iload (pc := 19) C dX6_read_19 4 rfl ?_
        refine go_bipush (pc := 21) (v := 20) C dX6_read_21 (by decide) ?_
        refine go_ic_le (pc := 23) C dX6_read_23 28 (by decide) (fun c10 => ?_) (fun c10 => ?_)
        · have hf := hf.1 c10
          refine go_aload_n (pc := 28) C dX6_read_28 0 rfl rfl ?_
          refine ge_X6_X6_1 (pc := 29) C dX6_read_29 ?_
          refine go_aload_n (pc := 32) C dX6_read_32 0 rfl rfl ?_
          refine ge_X6_X6_0 (pc := 33) C dX6_read_33 ?_
          refine go_cVv (pc := 36) C cw_X6_163 (ok_X1_startFrom (by decide) (by decide) hf) (rc_X1 C (by decide)) rfl rfl rfl (by decide) rfl dX6_read_36 (fun S12 hf => ?_)
          refine go_iconst (pc := 39) (v := 0) C dX6_read_39 (by decide) ?_
          refine go_istore (pc := 40) C dX6_read_40 [(5, .int 0), (0, .ref ((tq_la X).1 27 0)), (1, .int p1), (2, .int p2), (3, .int p3), (4, .int p4)] (by decide) rfl ?_
          refine go_iconst (pc := 42) (v := 0) C dX6_read_42 (by decide) ?_
          refine go_istore (pc := 43) C dX6_read_43 [(6, .int 0), (5, .int 0), (0, .ref ((tq_la X).1 27 0)), (1, .int p1), (2, .int p2), (3, .int p3), (4, .int p4)] (by decide) rfl ?_
          exact go_sub [2, 3, 4, 5, 6, 1, 0] rfl (wk_X6_read_45 C hR 2000 _ _ _ _ _ _ _ hf)
        · have hf := hf.2 c10
          refine go_iconst (pc := 26) (v := (-1)) C dX6_read_26 (by decide) ?_
          exact hR _ _ _ _ dX6_read_27 hf
set_option maxRecDepth 100000 in
set_option maxHeartbeats 4000000 in
theorem ok_X6_read {p1 : Int32} {p2 : Int32} {p3 : Int32} {p4 : Int32} {S : tq_St} {K : Int32 → tq_St → Prop} (hf : wp_X6_read p1 p2 p3 p4 S K) : tq_Mi yX6_read cX6_read 8 (some .int) 6 (fun a z => [.ref (a.1 27 0), .int p1, .int p2, .int p3, .int p4]) S K :=
  tq_mkI (by decide) (fun _ _ => Nat.le_of_ble_eq_true rfl) (fun X C hR => wk_X6_read C hR  hf)
set_option maxRecDepth 100000 in
set_option maxHeartbeats 4000000 in
theorem wk_X6_room {X : tq_Cx} {p1 : Int32} {S : tq_St} {K : Int32 → tq_St → Prop} (C : tq_C X cX6_room 3 RX6 1) (hR : tq_Ri X cX6_room 3 K) (hf : wp_X6_room p1 S K) : Go X 3 S 0 [(0, .ref ((tq_la X).1 27 0)), (1, .int p1)] [] := by
  refine go_iload_n (pc := 0) C dX6_room_0 1 rfl rfl ?_
  refine go_iconst (pc := 1) (v := 1) C dX6_room_1 (by decide) ?_
  refine go_ic_lt (pc := 2) C dX6_room_2 10 (by decide) (fun c1 => ?_) (fun c1 => ?_)
  · have hf := hf.1 c1
    refine go_iconst (pc := 10) (v := (-1)) C dX6_room_10 (by decide) ?_
    exact hR _ _ _ _ dX6_room_11 hf
  · have hf := hf.2 c1
    refine go_iload_n (pc := 5) C dX6_room_5 1 rfl rfl ?_
    refine go_iconst (pc := 6) (v := 5) C dX6_room_6 (by decide) ?_
    refine go_ic_le (pc := 7) C dX6_room_7 12 (by decide) (fun c2 => ?_) (fun c2 => ?_)
    · have hf := hf.1 c2
      refine go_aload_n (pc := 12) C dX6_room_12 0 rfl rfl ?_
      refine ge_X6_X6_0 (pc := 13) C dX6_room_13 ?_
      refine ge_X6_X1_8 (pc := 16) C (by decide) dX6_room_16 ?_
      refine go_nI (fun x3 e4 => ?_)
      have hf := hf x3 e4
      refine go_istore_n (pc := 19) C dX6_room_19 [(2, .int x3), (0, .ref ((tq_la X).1 27 0)), (1, .int p1)] rfl (by decide) rfl ?_
      refine go_aload_n (pc := 20) C dX6_room_20 1 rfl rfl ?_
      refine ge_X6_X6_0 (pc := 21) C dX6_room_21 ?_
      refine go_iload_n (pc := 24) C dX6_room_24 2 rfl rfl ?_
      refine pu_X6_X1_8 (pc := 25) C (by decide) dX6_room_25 (fun S5 e6 => ?_)
      have hf := hf S5 e6
      refine go_iload_n (pc := 28) C dX6_room_28 0 rfl rfl ?_
      exact hR _ _ _ _ dX6_room_29 hf
    · have hf := hf.2 c2
      refine go_iconst (pc := 10) (v := (-1)) C dX6_room_10 (by decide) ?_
      exact hR _ _ _ _ dX6_room_11 hf
set_option maxRecDepth 100000 in
set_option maxHeartbeats 4000000 in
theorem ok_X6_room {p1 : Int32} {S : tq_St} {K : Int32 → tq_St → Prop} (hf : wp_X6_room p1 S K) : tq_Mi yX6_room cX6_room 3 (some .int) 1 (fun a z => [.ref (a.1 27 0), .int p1]) S K :=
  tq_mkI (by decide) (fun _ _ => Nat.le_of_ble_eq_true rfl) (fun X C hR => wk_X6_room C hR  hf)
set_option maxRecDepth 100000 in
set_option maxHeartbeats 4000000 in
theorem wk_X6_rule {X : tq_Cx} {p1 : Int32} {S : tq_St} {K : Int32 → tq_St → Prop} (C : tq_C X cX6_rule 2 RX6 3) (hR : tq_Ri X cX6_rule 2 K) (hf : wp_X6_rule p1 S K) : Go X 2 S 0 [(0, .ref ((tq_la X).1 27 0)), (1, .int p1)] [] := by
  refine go_iload_n (pc := 0) C dX6_rule_0 1 rfl rfl ?_
  rcases tq_sw (x := p1) (0) (6) with c1 | c1
  · have hf := hf.1 c1
    refine go_tabOut (pc := 1) C dX6_rule_1 100 (by decide) c1 ?_
    refine go_iconst (pc := 100) (v := (-1)) C dX6_rule_100 (by decide) ?_
    exact hR _ _ _ _ dX6_rule_101 hf
  · have c1 := tq_lt7 c1
    rcases c1 with c1 | c1 | c1 | c1 | c1 | c1 | c1
    · have hf := hf.2.1 c1
      refine go_tabIn (pc := 1) C dX6_rule_1 44 (43) (by decide) (by rw [c1]; decide) (by rw [c1]; decide) (by rw [c1]; rfl) ?_
      refine go_aload_n (pc := 44) C dX6_rule_44 0 rfl rfl ?_
      refine ge_X6_X6_0 (pc := 45) C dX6_rule_45 ?_
      refine ge_X6_X1_5 (pc := 48) C (by decide) dX6_rule_48 ?_
      exact hR _ _ _ _ dX6_rule_51 hf
    · have hf := hf.2.2.1 c1
      refine go_tabIn (pc := 1) C dX6_rule_1 52 (51) (by decide) (by rw [c1]; decide) (by rw [c1]; decide) (by rw [c1]; rfl) ?_
      refine go_aload_n (pc := 52) C dX6_rule_52 0 rfl rfl ?_
      refine ge_X6_X6_0 (pc := 53) C dX6_rule_53 ?_
      refine ge_X6_X1_7 (pc := 56) C (by decide) dX6_rule_56 ?_
      exact hR _ _ _ _ dX6_rule_59 hf
    · have hf := hf.2.2.2.1 c1
      refine go_tabIn (pc := 1) C dX6_rule_1 60 (59) (by decide) (by rw [c1]; decide) (by rw [c1]; decide) (by rw [c1]; rfl) ?_
      refine go_aload_n (pc := 60) C dX6_rule_60 0 rfl rfl ?_
      refine ge_X6_X6_0 (pc := 61) C dX6_rule_61 ?_
      refine ge_X6_X1_8 (pc := 64) C (by decide) dX6_rule_64 ?_
      exact hR _ _ _ _ dX6_rule_67 hf
    · have hf := hf.2.2.2.2.1 c1
      refine go_tabIn (pc := 1) C dX6_rule_1 68 (67) (by decide) (by rw [c1]; decide) (by rw [c1]; decide) (by rw [c1]; rfl) ?_
      refine go_aload_n (pc := 68) C dX6_rule_68 0 rfl rfl ?_
      refine ge_X6_X6_0 (pc := 69) C dX6_rule_69 ?_
      refine ge_X6_X1_9 (pc := 72) C (by decide) dX6_rule_72 ?_
      exact hR _ _ _ _ dX6_rule_75 hf
    · have hf := hf.2.2.2.2.2.1 c1
      refine go_tabIn (pc := 1) C dX6_rule_1 76 (75) (by decide) (by rw [c1]; decide) (by rw [c1]; decide) (by rw [c1]; rfl) ?_
      refine go_aload_n (pc := 76) C dX6_rule_76 0 rfl rfl ?_
      refine ge_X6_X6_0 (pc := 77) C dX6_rule_77 ?_
      refine ge_X6_X1_10 (pc := 80) C (by decide) dX6_rule_80 ?_
      exact hR _ _ _ _ dX6_rule_83 hf
    · have hf := hf.2.2.2.2.2.2.1 c1
      refine go_tabIn (pc := 1) C dX6_rule_1 84 (83) (by decide) (by rw [c1]; decide) (by rw [c1]; decide) (by rw [c1]; rfl) ?_
      refine go_aload_n (pc := 84) C dX6_rule_84 0 rfl rfl ?_
      refine ge_X6_X6_0 (pc := 85) C dX6_rule_85 ?_
      refine go_cVi (pc := 88) C cw_X6_106 (ok_X1_waitingBits (by decide) hf) (rc_X1 C (by decide)) rfl rfl rfl (by decide) rfl dX6_rule_88 (fun r2 S3 hf => ?_)
      exact hR _ _ _ _ dX6_rule_91 hf
    · have hf := hf.2.2.2.2.2.2.2 c1
      refine go_tabIn (pc := 1) C dX6_rule_1 92 (91) (by decide) (by rw [c1]; decide) (by rw [c1]; decide) (by rw [c1]; rfl) ?_
      refine go_aload_n (pc := 92) C dX6_rule_92 0 rfl rfl ?_
      refine ge_X6_X6_0 (pc := 93) C dX6_rule_93 ?_
      refine go_cVi (pc := 96) C cw_X6_109 (ok_X1_allSorrow (by decide) hf) (rc_X1 C (by decide)) rfl rfl rfl (by decide) rfl dX6_rule_96 (fun r5 S6 hf => ?_)
      exact hR _ _ _ _ dX6_rule_99 hf
set_option maxRecDepth 100000 in
set_option maxHeartbeats 4000000 in
theorem ok_X6_rule {p1 : Int32} {S : tq_St} {K : Int32 → tq_St → Prop} (hf : wp_X6_rule p1 S K) : tq_Mi yX6_rule cX6_rule 2 (some .int) 3 (fun a z => [.ref (a.1 27 0), .int p1]) S K :=
  tq_mkI (by decide) (fun _ _ => Nat.le_of_ble_eq_true rfl) (fun X C hR => wk_X6_rule C hR  hf)
set_option maxRecDepth 100000 in
set_option maxHeartbeats 4000000 in
theorem wk_X6_runs {X : tq_Cx} {p1 : Int32} {S : tq_St} {K : Int32 → tq_St → Prop} (C : tq_C X cX6_runs 2 RX6 7) (hR : tq_Ri X cX6_runs 2 K) (hf : wp_X6_runs p1 S K) : Go X 2 S 0 [(0, .ref ((tq_la X).1 27 0)), (1, .int p1)] [] := by
  refine go_iload_n (pc := 0) C dX6_runs_0 1 rfl rfl ?_
  refine go_if_lt (pc := 1) C dX6_runs_1 9 (by decide) (fun c1 => ?_) (fun c1 => ?_)
  · have hf := hf.1 c1
    refine go_iconst (pc := 9) (v := (-1)) C dX6_runs_9 (by decide) ?_
    exact hR _ _ _ _ dX6_runs_10 hf
  · have hf := hf.2 c1
    refine go_iload_n (pc := 4) C dX6_runs_4 1 rfl rfl ?_
    refine go_iconst (pc := 5) (v := 4) C dX6_runs_5 (by decide) ?_
    refine go_ic_le (pc := 6) C dX6_runs_6 11 (by decide) (fun c2 => ?_) (fun c2 => ?_)
    · have hf := hf.1 c2
      refine go_aload_n (pc := 11) C dX6_runs_11 0 rfl rfl ?_
      refine ge_X6_X6_1 (pc := 12) C dX6_runs_12 ?_
      refine go_aload_n (pc := 15) C dX6_runs_15 0 rfl rfl ?_
      refine ge_X6_X6_0 (pc := 16) C dX6_runs_16 ?_
      refine go_cVv (pc := 19) C cw_X6_163 (ok_X1_startFrom (by decide) (by decide) hf) (rc_X1 C (by decide)) rfl rfl rfl (by decide) rfl dX6_runs_19 (fun S4 hf => ?_)
      refine go_aload_n (pc := 22) C dX6_runs_22 0 rfl rfl ?_
      refine ge_X6_X6_1 (pc := 23) C dX6_runs_23 ?_
      refine go_cVv (pc := 26) C cw_X6_166 (ok_X1_followPlan (by decide) hf) (rc_X1 C (by decide)) rfl rfl rfl (by decide) rfl dX6_runs_26 (fun S7 hf => ?_)
      refine go_iload_n (pc := 29) C dX6_runs_29 1 rfl rfl ?_
      rcases tq_sw (x := p1) (0) (3) with c9 | c9
      · have hf := hf.1 c9
        refine go_tabOut (pc := 30) C dX6_runs_30 92 (by decide) c9 ?_
        refine go_aload_n (pc := 92) C dX6_runs_92 0 rfl rfl ?_
        refine ge_X6_X6_1 (pc := 93) C dX6_runs_93 ?_
        refine go_cVi (pc := 96) C cw_X6_109 (ok_X1_allSorrow (by decide) hf) (rc_X1 C (by decide)) rfl rfl rfl (by decide) rfl dX6_runs_96 (fun r10 S11 hf => ?_)
        exact hR _ _ _ _ dX6_runs_99 hf
      · have c9 := tq_lt4 c9
        rcases c9 with c9 | c9 | c9 | c9
        · have hf := hf.2.1 c9
          refine go_tabIn (pc := 30) C dX6_runs_30 60 (30) (by decide) (by rw [c9]; decide) (by rw [c9]; decide) (by rw [c9]; rfl) ?_
          refine go_aload_n (pc := 60) C dX6_runs_60 0 rfl rfl ?_
          refine ge_X6_X6_1 (pc := 61) C dX6_runs_61 ?_
          refine ge_X6_X1_6 (pc := 64) C (by decide) dX6_runs_64 ?_
          exact hR _ _ _ _ dX6_runs_67 hf
        · have hf := hf.2.2.1 c9
          refine go_tabIn (pc := 30) C dX6_runs_30 68 (38) (by decide) (by rw [c9]; decide) (by rw [c9]; decide) (by rw [c9]; rfl) ?_
          refine go_aload_n (pc := 68) C dX6_runs_68 0 rfl rfl ?_
          refine ge_X6_X6_1 (pc := 69) C dX6_runs_69 ?_
          refine ge_X6_X1_11 (pc := 72) C (by decide) dX6_runs_72 ?_
          exact hR _ _ _ _ dX6_runs_75 hf
        · have hf := hf.2.2.2.1 c9
          refine go_tabIn (pc := 30) C dX6_runs_30 76 (46) (by decide) (by rw [c9]; decide) (by rw [c9]; decide) (by rw [c9]; rfl) ?_
          refine go_aload_n (pc := 76) C dX6_runs_76 0 rfl rfl ?_
          refine ge_X6_X6_1 (pc := 77) C dX6_runs_77 ?_
          refine ge_X6_X1_12 (pc := 80) C (by decide) dX6_runs_80 ?_
          exact hR _ _ _ _ dX6_runs_83 hf
        · have hf := hf.2.2.2.2 c9
          refine go_tabIn (pc := 30) C dX6_runs_30 84 (54) (by decide) (by rw [c9]; decide) (by rw [c9]; decide) (by rw [c9]; rfl) ?_
          refine go_aload_n (pc := 84) C dX6_runs_84 0 rfl rfl ?_
          refine ge_X6_X6_1 (pc := 85) C dX6_runs_85 ?_
          refine ge_X6_X1_13 (pc := 88) C (by decide) dX6_runs_88 ?_
          exact hR _ _ _ _ dX6_runs_91 hf
    · have hf := hf.2 c2
      refine go_iconst (pc := 9) (v := (-1)) C dX6_runs_9 (by decide) ?_
      exact hR _ _ _ _ dX6_runs_10 hf
set_option maxRecDepth 100000 in
set_option maxHeartbeats 4000000 in
theorem ok_X6_runs {p1 : Int32} {S : tq_St} {K : Int32 → tq_St → Prop} (hf : wp_X6_runs p1 S K) : tq_Mi yX6_runs cX6_runs 2 (some .int) 7 (fun a z => [.ref (a.1 27 0), .int p1]) S K :=
  tq_mkI (by decide) (fun _ _ => Nat.le_of_ble_eq_true rfl) (fun X C hR => wk_X6_runs C hR  hf)
set_option maxRecDepth 100000 in
set_option maxHeartbeats 4000000 in
theorem wk_X6_second {X : tq_Cx} {S : tq_St} {K : Int32 → tq_St → Prop} (C : tq_C X cX6_second 2 RX6 2) (hR : tq_Ri X cX6_second 2 K) (hf : wp_X6_second S K) : Go X 2 S 0 [(0, .ref ((tq_la X).1 27 0))] [] := by
  refine go_aload_n (pc := 0) C dX6_second_0 0 rfl rfl ?_
  refine ge_X6_X6_0 (pc := 1) C dX6_second_1 ?_
  refine ge_X6_X1_6 (pc := 4) C (by decide) dX6_second_4 ?_
  refine go_cSi (pc := 7) C cs_X6_158 (ok_J6_bitCount_0f7a4 hf) rfl rfl rfl (by decide) rfl dX6_second_7 (fun r1 S2 hf => ?_)
  refine go_istore_n (pc := 10) C dX6_second_10 [(1, .int r1), (0, .ref ((tq_la X).1 27 0))] rfl (by decide) rfl ?_
  refine go_aload_n (pc := 11) C dX6_second_11 1 rfl rfl ?_
  refine ge_X6_X6_0 (pc := 12) C dX6_second_12 ?_
  refine go_iconst (pc := 15) (v := 0) C dX6_second_15 (by decide) ?_
  refine pu_X6_X1_6 (pc := 16) C (by decide) dX6_second_16 (fun S4 e5 => ?_)
  have hf := hf S4 e5
  refine go_iload_n (pc := 19) C dX6_second_19 0 rfl rfl ?_
  exact hR _ _ _ _ dX6_second_20 hf
set_option maxRecDepth 100000 in
set_option maxHeartbeats 4000000 in
theorem ok_X6_second {S : tq_St} {K : Int32 → tq_St → Prop} (hf : wp_X6_second S K) : tq_Mi yX6_second cX6_second 2 (some .int) 2 (fun a z => [.ref (a.1 27 0)]) S K :=
  tq_mkI (by decide) (fun _ _ => Nat.le_of_ble_eq_true rfl) (fun X C hR => wk_X6_second C hR  hf)
set_option maxRecDepth 100000 in
set_option maxHeartbeats 4000000 in
theorem wk_X6_see {X : tq_Cx} {p1 : Int32} {p2 : Int32} {S : tq_St} {K : Int32 → tq_St → Prop} (C : tq_C X cX6_see 3 RX6 2) (hR : tq_Ri X cX6_see 3 K) (hf : wp_X6_see p1 p2 S K) : Go X 3 S 0 [(0, .ref ((tq_la X).1 27 0)), (1, .int p1), (2, .int p2)] [] := by
  refine go_aload_n (pc := 0) C dX6_see_0 0 rfl rfl ?_
  refine ge_X6_X6_0 (pc := 1) C dX6_see_1 ?_
  refine go_iload_n (pc := 4) C dX6_see_4 1 rfl rfl ?_
  refine go_cVi (pc := 5) C cw_X6_112 (ok_X1_isThere (by decide) hf) (rc_X1 C (by decide)) rfl rfl rfl (by decide) rfl dX6_see_5 (fun r1 S2 hf => ?_)
  refine go_if_ne (pc := 8) C dX6_see_8 13 (by decide) (fun c4 => ?_) (fun c4 => ?_)
  · have hf := hf.1 c4
    refine go_aload_n (pc := 13) C dX6_see_13 0 rfl rfl ?_
    refine ge_X6_X6_3 (pc := 14) C dX6_see_14 ?_
    refine go_iload_n (pc := 17) C dX6_see_17 1 rfl rfl ?_
    refine go_iload_n (pc := 18) C dX6_see_18 2 rfl rfl ?_
    refine go_cVi (pc := 19) C cw_X6_222 (ok_X4_add hf) (rc_X4 C) rfl rfl rfl (by decide) rfl dX6_see_19 (fun r5 S6 hf => ?_)
    refine go_if_eq (pc := 22) C dX6_see_22 35 (by decide) (fun c8 => ?_) (fun c8 => ?_)
    · have hf := hf.1 c8
      refine go_bipush (pc := 35) (v := (-3)) C dX6_see_35 (by decide) ?_
      exact hR _ _ _ _ dX6_see_37 hf
    · have hf := hf.2 c8
      refine go_aload_n (pc := 25) C dX6_see_25 0 rfl rfl ?_
      refine ge_X6_X6_3 (pc := 26) C dX6_see_26 ?_
      refine ge_X6_X4_2 (pc := 29) C dX6_see_29 ?_
      refine go_goto (pc := 32) C dX6_see_32 37 (by decide) ?_
      exact hR _ _ _ _ dX6_see_37 hf
  · have hf := hf.2 c4
    refine go_iconst (pc := 11) (v := (-1)) C dX6_see_11 (by decide) ?_
    exact hR _ _ _ _ dX6_see_12 hf
set_option maxRecDepth 100000 in
set_option maxHeartbeats 4000000 in
theorem ok_X6_see {p1 : Int32} {p2 : Int32} {S : tq_St} {K : Int32 → tq_St → Prop} (hf : wp_X6_see p1 p2 S K) : tq_Mi yX6_see cX6_see 3 (some .int) 2 (fun a z => [.ref (a.1 27 0), .int p1, .int p2]) S K :=
  tq_mkI (by decide) (fun _ _ => Nat.le_of_ble_eq_true rfl) (fun X C hR => wk_X6_see C hR  hf)
set_option maxRecDepth 100000 in
set_option maxHeartbeats 4000000 in
theorem wk_X6_sheet {X : tq_Cx} {p1 : Int32} {p2 : Int32} {p3 : Int32} {S : tq_St} {K : Int32 → tq_St → Prop} (C : tq_C X cX6_sheet 4 RX6 3) (hR : tq_Ri X cX6_sheet 4 K) (hf : wp_X6_sheet p1 p2 p3 S K) : Go X 4 S 0 [(0, .ref ((tq_la X).1 27 0)), (1, .int p1), (2, .int p2), (3, .int p3)] [] := by
  refine go_iload_n (pc := 0) C dX6_sheet_0 1 rfl rfl ?_
  refine go_cSi (pc := 1) C cs_X6_239 (ok_X6_isSheet hf) rfl rfl rfl (by decide) rfl dX6_sheet_1 (fun r1 S2 hf => ?_)
  refine go_if_eq (pc := 4) C dX6_sheet_4 20 (by decide) (fun c4 => ?_) (fun c4 => ?_)
  · have hf := hf.1 c4
    refine go_iconst (pc := 20) (v := (-1)) C dX6_sheet_20 (by decide) ?_
    exact hR _ _ _ _ dX6_sheet_21 hf
  · have hf := hf.2 c4
    refine go_iload_n (pc := 7) C dX6_sheet_7 2 rfl rfl ?_
    refine go_cSi (pc := 8) C cs_X6_242 (ok_X6_isLane hf) rfl rfl rfl (by decide) rfl dX6_sheet_8 (fun r5 S6 hf => ?_)
    refine go_if_eq (pc := 11) C dX6_sheet_11 20 (by decide) (fun c8 => ?_) (fun c8 => ?_)
    · have hf := hf.1 c8
      refine go_iconst (pc := 20) (v := (-1)) C dX6_sheet_20 (by decide) ?_
      exact hR _ _ _ _ dX6_sheet_21 hf
    · have hf := hf.2 c8
      refine go_iload_n (pc := 14) C dX6_sheet_14 3 rfl rfl ?_
      refine go_bipush (pc := 15) (v := 40) C dX6_sheet_15 (by decide) ?_
      refine go_ic_le (pc := 17) C dX6_sheet_17 22 (by decide) (fun c9 => ?_) (fun c9 => ?_)
      · have hf := hf.1 c9
        refine go_iload_n (pc := 22) C dX6_sheet_22 3 rfl rfl ?_
        refine go_if_ge (pc := 23) C dX6_sheet_23 29 (by decide) (fun c10 => ?_) (fun c10 => ?_)
        · have hf := hf.1 c10
          refine go_aload_n (pc := 29) C dX6_sheet_29 0 rfl rfl ?_
          refine ge_X6_X6_8 (pc := 30) C dX6_sheet_30 ?_
          refine go_iload_n (pc := 33) C dX6_sheet_33 1 rfl rfl ?_
          refine al_X6_8 (pc := 34) C hf.1 dX6_sheet_34 ?_
          have h11 : 23 ≤ 23 + (p1 : Int32).toNatClampNeg ∧ 23 + (p1 : Int32).toNatClampNeg < 27 := tq_ls hf.1
          have hf := hf.2
          refine go_iload_n (pc := 35) C dX6_sheet_35 2 rfl rfl ?_
          refine go_iload_n (pc := 36) C dX6_sheet_36 3 rfl rfl ?_
          refine go_cVv (pc := 37) C cw_X6_245 (ok_X3_renew h11 hf) (rc_X3 C h11) rfl rfl rfl (by decide) rfl dX6_sheet_37 (fun S13 hf => ?_)
          refine go_iconst (pc := 40) (v := 1) C dX6_sheet_40 (by decide) ?_
          exact hR _ _ _ _ dX6_sheet_41 hf
        · have hf := hf.2 c10
          refine go_bipush (pc := 26) (v := (-14)) C dX6_sheet_26 (by decide) ?_
          exact hR _ _ _ _ dX6_sheet_28 hf
      · have hf := hf.2 c9
        refine go_iconst (pc := 20) (v := (-1)) C dX6_sheet_20 (by decide) ?_
        exact hR _ _ _ _ dX6_sheet_21 hf
set_option maxRecDepth 100000 in
set_option maxHeartbeats 4000000 in
theorem ok_X6_sheet {p1 : Int32} {p2 : Int32} {p3 : Int32} {S : tq_St} {K : Int32 → tq_St → Prop} (hf : wp_X6_sheet p1 p2 p3 S K) : tq_Mi yX6_sheet cX6_sheet 4 (some .int) 3 (fun a z => [.ref (a.1 27 0), .int p1, .int p2, .int p3]) S K :=
  tq_mkI (by decide) (fun _ _ => Nat.le_of_ble_eq_true rfl) (fun X C hR => wk_X6_sheet C hR  hf)
set_option maxRecDepth 100000 in
set_option maxHeartbeats 4000000 in
theorem wk_X6_soon_40 {X : tq_Cx} {K : Int32 → tq_St → Prop} (C : tq_C X cX6_soon 3 RX6 5) (hR : tq_Ri X cX6_soon 3 K) : ∀ (n : Nat) (v1 : Int32) (v2 : Int32) (S : tq_St), wp_X6_soon_40 K n v1 v2 S → Go X 3 S 40 [(0, .ref ((tq_la X).1 27 0)), (1, .int v1), (2, .int v2)] [] := by
  intro n
  induction n with
  | zero => intros; contradiction
  | succ n ih =>
    intro v1 v2 S hf
    refine go_iload_n (pc := 40) C dX6_soon_40 2 rfl rfl ?_
    refine go_bipush (pc := 41) (v := 9) C dX6_soon_41 (by decide) ?_
    refine go_ic_gt (pc := 43) C dX6_soon_43 75 (by decide) (fun c12 => ?_) (fun c12 => ?_)
    · have hf := hf.1 c12
      refine go_bipush (pc := 75) (v := (-4)) C dX6_soon_75 (by decide) ?_
      exact hR _ _ _ _ dX6_soon_77 hf
    · have hf := hf.2 c12
      refine go_aload_n (pc := 46) C dX6_soon_46 0 rfl rfl ?_
      refine ge_X6_X6_1 (pc := 47) C dX6_soon_47 ?_
      refine go_iconst (pc := 50) (v := 0) C dX6_soon_50 (by decide) ?_
      refine go_cVi (pc := 51) C cw_X6_134 (ok_X1_inLine (by decide) hf) (rc_X1 C (by decide)) rfl rfl rfl (by decide) rfl dX6_soon_51 (fun r13 S14 hf => ?_)
      refine go_iload_n (pc := 54) C dX6_soon_54 1 rfl rfl ?_
      refine go_ic_ne (pc := 55) C dX6_soon_55 60 (by decide) (fun c16 => ?_) (fun c16 => ?_)
      · have hf := hf.1 c16
        refine go_aload_n (pc := 60) C dX6_soon_60 0 rfl rfl ?_
        refine ge_X6_X6_1 (pc := 61) C dX6_soon_61 ?_
        refine go_iload_n (pc := 64) C dX6_soon_64 1 rfl rfl ?_
        refine go_cVi (pc := 65) C cw_X6_143 (ok_X1_thinkAndWeep (by decide) hf) (rc_X1 C (by decide)) rfl rfl rfl (by decide) rfl dX6_soon_65 (fun r17 S18 hf => ?_)
        refine go_pop (pc := 68) C dX6_soon_68 rfl ?_
        obtain ⟨x20, e21⟩ : ∃ q9 : Int32, q9 = v2 + 1 := ⟨_, rfl⟩
        refine go_iinc (pc := 69) (j := 2) (v := x20) C dX6_soon_69 [(2, .int x20), (0, .ref ((tq_la X).1 27 0)), (1, .int v1)] rfl (by rw [e21]; rfl) (by decide) rfl ?_
        have hf := hf x20 e21
        refine go_goto (pc := 72) C dX6_soon_72 40 (by decide) ?_
        exact go_sub [1, 2, 0] rfl (ih _ _ _ hf)
      · have hf := hf.2 c16
        refine go_iload_n (pc := 58) C dX6_soon_58 2 rfl rfl ?_
        exact hR _ _ _ _ dX6_soon_59 hf
set_option maxRecDepth 100000 in
set_option maxHeartbeats 4000000 in
theorem wk_X6_soon {X : tq_Cx} {p1 : Int32} {S : tq_St} {K : Int32 → tq_St → Prop} (C : tq_C X cX6_soon 3 RX6 5) (hR : tq_Ri X cX6_soon 3 K) (hf : wp_X6_soon p1 S K) : Go X 3 S 0 [(0, .ref ((tq_la X).1 27 0)), (1, .int p1)] [] := by
  refine go_aload_n (pc := 0) C dX6_soon_0 0 rfl rfl ?_
  refine ge_X6_X6_0 (pc := 1) C dX6_soon_1 ?_
  refine go_iload_n (pc := 4) C dX6_soon_4 1 rfl rfl ?_
  refine go_cVi (pc := 5) C cw_X6_112 (ok_X1_isThere (by decide) hf) (rc_X1 C (by decide)) rfl rfl rfl (by decide) rfl dX6_soon_5 (fun r1 S2 hf => ?_)
  refine go_if_ne (pc := 8) C dX6_soon_8 13 (by decide) (fun c4 => ?_) (fun c4 => ?_)
  · have hf := hf.1 c4
    refine go_aload_n (pc := 13) C dX6_soon_13 0 rfl rfl ?_
    refine ge_X6_X6_0 (pc := 14) C dX6_soon_14 ?_
    refine go_iload_n (pc := 17) C dX6_soon_17 1 rfl rfl ?_
    refine go_cVi (pc := 18) C cw_X6_128 (ok_X1_waits (by decide) hf) (rc_X1 C (by decide)) rfl rfl rfl (by decide) rfl dX6_soon_18 (fun r5 S6 hf => ?_)
    refine go_if_ne (pc := 21) C dX6_soon_21 27 (by decide) (fun c8 => ?_) (fun c8 => ?_)
    · have hf := hf.1 c8
      refine go_aload_n (pc := 27) C dX6_soon_27 0 rfl rfl ?_
      refine ge_X6_X6_1 (pc := 28) C dX6_soon_28 ?_
      refine go_aload_n (pc := 31) C dX6_soon_31 0 rfl rfl ?_
      refine ge_X6_X6_0 (pc := 32) C dX6_soon_32 ?_
      refine go_cVv (pc := 35) C cw_X6_163 (ok_X1_startFrom (by decide) (by decide) hf) (rc_X1 C (by decide)) rfl rfl rfl (by decide) rfl dX6_soon_35 (fun S10 hf => ?_)
      refine go_iconst (pc := 38) (v := 0) C dX6_soon_38 (by decide) ?_
      refine go_istore_n (pc := 39) C dX6_soon_39 [(2, .int 0), (0, .ref ((tq_la X).1 27 0)), (1, .int p1)] rfl (by decide) rfl ?_
      exact go_sub [1, 2, 0] rfl (wk_X6_soon_40 C hR 2000 _ _ _ hf)
    · have hf := hf.2 c8
      refine go_bipush (pc := 24) (v := (-4)) C dX6_soon_24 (by decide) ?_
      exact hR _ _ _ _ dX6_soon_26 hf
  · have hf := hf.2 c4
    refine go_iconst (pc := 11) (v := (-1)) C dX6_soon_11 (by decide) ?_
    exact hR _ _ _ _ dX6_soon_12 hf
set_option maxRecDepth 100000 in
set_option maxHeartbeats 4000000 in
theorem ok_X6_soon {p1 : Int32} {S : tq_St} {K : Int32 → tq_St → Prop} (hf : wp_X6_soon p1 S K) : tq_Mi yX6_soon cX6_soon 3 (some .int) 5 (fun a z => [.ref (a.1 27 0), .int p1]) S K :=
  tq_mkI (by decide) (fun _ _ => Nat.le_of_ble_eq_true rfl) (fun X C hR => wk_X6_soon C hR  hf)
set_option maxRecDepth 100000 in
set_option maxHeartbeats 4000000 in
theorem wk_X6_sorrows {X : tq_Cx} {p1 : Int32} {S : tq_St} {K : Int32 → tq_St → Prop} (C : tq_C X cX6_sorrows 2 RX6 8) (hR : tq_Ri X cX6_sorrows 2 K) (hf : wp_X6_sorrows p1 S K) : Go X 2 S 0 [(0, .ref ((tq_la X).1 27 0)), (1, .int p1)] [] := by
  refine go_aload_n (pc := 0) C dX6_sorrows_0 0 rfl rfl ?_
  refine ge_X6_X6_0 (pc := 1) C dX6_sorrows_1 ?_
  refine go_iload_n (pc := 4) C dX6_sorrows_4 1 rfl rfl ?_
  refine go_cVi (pc := 5) C cw_X6_112 (ok_X1_isThere (by decide) hf) (rc_X1 C (by decide)) rfl rfl rfl (by decide) rfl dX6_sorrows_5 (fun r1 S2 hf => ?_)
  refine go_if_eq (pc := 8) C dX6_sorrows_8 19 (by decide) (fun c4 => ?_) (fun c4 => ?_)
  · have hf := hf.1 c4
    refine go_iconst (pc := 19) (v := (-1)) C dX6_sorrows_19 (by decide) ?_
    exact hR _ _ _ _ dX6_sorrows_20 hf
  · have hf := hf.2 c4
    refine go_aload_n (pc := 11) C dX6_sorrows_11 0 rfl rfl ?_
    refine go_iload_n (pc := 12) C dX6_sorrows_12 1 rfl rfl ?_
    refine go_cVi (pc := 13) C cw_X6_229 (ok_X6_possibleSorrows hf) (rc_X6 C) rfl rfl rfl (by decide) rfl dX6_sorrows_13 (fun r5 S6 hf => ?_)
    refine go_goto (pc := 16) C dX6_sorrows_16 20 (by decide) ?_
    exact hR _ _ _ _ dX6_sorrows_20 hf
set_option maxRecDepth 100000 in
set_option maxHeartbeats 4000000 in
theorem ok_X6_sorrows {p1 : Int32} {S : tq_St} {K : Int32 → tq_St → Prop} (hf : wp_X6_sorrows p1 S K) : tq_Mi yX6_sorrows cX6_sorrows 2 (some .int) 8 (fun a z => [.ref (a.1 27 0), .int p1]) S K :=
  tq_mkI (by decide) (fun _ _ => Nat.le_of_ble_eq_true rfl) (fun X C hR => wk_X6_sorrows C hR  hf)
set_option maxRecDepth 100000 in
set_option maxHeartbeats 4000000 in
theorem wk_X6_swap_40 {X : tq_Cx} {K : Int32 → tq_St → Prop} (C : tq_C X cX6_swap 7 RX6 8) (hR : tq_Ri X cX6_swap 7 K) {rec22 : Int32 → Int32 → Int32 → Int32 → tq_St → Prop} (hrec22 : ∀ (v1 : Int32) (v2 : Int32) (v3 : Int32) (v4 : Int32) (S : tq_St), rec22 v1 v2 v3 v4 S → Go X 7 S 22 [(0, .ref ((tq_la X).1 27 0)), (1, .int v1), (2, .int v2), (3, .int v3), (4, .int v4)] []) : ∀ (n : Nat) (v1 : Int32) (v2 : Int32) (v3 : Int32) (v4 : Int32) (v5 : Int32) (S : tq_St), wp_X6_swap_40 K rec22 n v1 v2 v3 v4 v5 S → Go X 7 S 40 [(0, .ref ((tq_la X).1 27 0)), (1, .int v1), (2, .int v2), (3, .int v3), (4, .int v4), (5, .int v5)] [] := by
  intro n
  induction n with
  | zero => intros; contradiction
  | succ n ih =>
    intro v1 v2 v3 v4 v5 S hf
    refine go_iload (pc := 40) C dX6_swap_40 5 rfl ?_
    refine go_aload_n (pc := 42) C dX6_swap_42 0 rfl rfl ?_
    refine ge_X6_X6_0 (pc := 43) C dX6_swap_43 ?_
    refine ge_X6_X1_10 (pc := 46) C (by decide) dX6_swap_46 ?_
    refine go_ic_ge (pc := 49) C dX6_swap_49 86 (by decide) (fun c13 => ?_) (fun c13 => ?_)
    · have hf := hf.1 c13
      obtain ⟨x14, e15⟩ : ∃ q9 : Int32, q9 = v4 + 1 := ⟨_, rfl⟩
      refine go_iinc (pc := 86) (j := 4) (v := x14) C dX6_swap_86 [(4, .int x14), (0, .ref ((tq_la X).1 27 0)), (1, .int v1), (2, .int v2), (3, .int v3), (5, .int v5)] rfl (by rw [e15]; rfl) (by decide) rfl ?_
      have hf := hf x14 e15
      refine go_goto (pc := 89) C dX6_swap_89 22 (by decide) ?_
      exact go_sub [1, 2, 3, 4, 0] rfl (hrec22 _ _ _ _ _ hf)
    · have hf := hf.2 c13
      refine go_aload_n (pc := 52) C dX6_swap_52 0 rfl rfl ?_
      refine go_iload (pc := 53) C dX6_swap_53 4 rfl ?_
      refine go_iload (pc := 55) C dX6_swap_55 5 rfl ?_
      refine go_cVi (pc := 57) C cw_X6_201 (ok_X6_goneByChangedPlan hf) (rc_X6 C) rfl rfl rfl (by decide) rfl dX6_swap_57 (fun r16 S17 hf => ?_)
      refine go_istore (pc := 60) C dX6_swap_60 [(6, .int r16), (0, .ref ((tq_la X).1 27 0)), (1, .int v1), (2, .int v2), (3, .int v3), (4, .int v4), (5, .int v5)] (by decide) rfl ?_
      refine go_iload (pc := 62) C dX6_swap_62 0 rfl ?_
      refine go_iload_n (pc := 64) C dX6_swap_64 3 rfl rfl ?_
      refine go_ic_le (pc := 65) C dX6_swap_65 80 (by decide) (fun c19 => ?_) (fun c19 => ?_)
      · have hf := hf.1 c19
        obtain ⟨x20, e21⟩ : ∃ q9 : Int32, q9 = v5 + 1 := ⟨_, rfl⟩
        refine go_iinc (pc := 80) (j := 6) (v := x20) C dX6_swap_80 [(5, .int x20), (6, .int r16), (0, .ref ((tq_la X).1 27 0)), (1, .int v1), (2, .int v2), (3, .int v3), (4, .int v4)] rfl (by rw [e21]; rfl) (by decide) rfl ?_
        have hf := hf x20 e21
        refine go_goto (pc := 83) C dX6_swap_83 40 (by decide) ?_
        exact go_sub [2, 3, 4, 5, 6, 0] rfl (ih _ _ _ _ _ _ hf)
      · have hf := hf.2 c19
        refine go_iload (pc := 68) C dX6_swap_68 0 rfl ?_
        refine go_istore_n (pc := 70) C dX6_swap_70 [(2, .int r16), (6, .int r16), (0, .ref ((tq_la X).1 27 0)), (1, .int v1), (3, .int v3), (4, .int v4), (5, .int v5)] rfl (by decide) rfl ?_
        refine go_bipush (pc := 71) (v := 10) C dX6_swap_71 (by decide) ?_
        refine go_iload (pc := 73) C dX6_swap_73 5 rfl ?_
        refine go_imul (pc := 75) C dX6_swap_75 ?_
        refine go_iload (pc := 76) C dX6_swap_76 6 rfl ?_
        refine go_iadd (pc := 78) C dX6_swap_78 ?_
        refine go_nI (fun x22 e23 => ?_)
        have hf := hf x22 e23
        refine go_istore_n (pc := 79) C dX6_swap_79 [(3, .int x22), (2, .int r16), (6, .int r16), (0, .ref ((tq_la X).1 27 0)), (1, .int v1), (4, .int v4), (5, .int v5)] rfl (by decide) rfl ?_
        obtain ⟨x24, e25⟩ : ∃ q9 : Int32, q9 = v5 + 1 := ⟨_, rfl⟩
        refine go_iinc (pc := 80) (j := 6) (v := x24) C dX6_swap_80 [(5, .int x24), (3, .int x22), (2, .int r16), (6, .int r16), (0, .ref ((tq_la X).1 27 0)), (1, .int v1), (4, .int v4)] rfl (by rw [e25]; rfl) (by decide) rfl ?_
        have hf := hf x24 e25
        refine go_goto (pc := 83) C dX6_swap_83 40 (by decide) ?_
        exact go_sub [4, 5, 2, 1, 6, 0] rfl (ih _ _ _ _ _ _ hf)
set_option maxRecDepth 100000 in
set_option maxHeartbeats 4000000 in
theorem wk_X6_swap_22 {X : tq_Cx} {K : Int32 → tq_St → Prop} (C : tq_C X cX6_swap 7 RX6 8) (hR : tq_Ri X cX6_swap 7 K) : ∀ (n : Nat) (v1 : Int32) (v2 : Int32) (v3 : Int32) (v4 : Int32) (S : tq_St), wp_X6_swap_22 K n v1 v2 v3 v4 S → Go X 7 S 22 [(0, .ref ((tq_la X).1 27 0)), (1, .int v1), (2, .int v2), (3, .int v3), (4, .int v4)] [] := by
  intro n
  induction n with
  | zero => intros; contradiction
  | succ n ih =>
    intro v1 v2 v3 v4 S hf
    refine go_iload (pc := 22) C dX6_swap_22 4 rfl ?_
    refine go_aload_n (pc := 24) C dX6_swap_24 0 rfl rfl ?_
    refine ge_X6_X6_0 (pc := 25) C dX6_swap_25 ?_
    refine ge_X6_X1_10 (pc := 28) C (by decide) dX6_swap_28 ?_
    refine go_ic_ge (pc := 31) C dX6_swap_31 92 (by decide) (fun c8 => ?_) (fun c8 => ?_)
    · have hf := hf.1 c8
      refine go_iload_n (pc := 92) C dX6_swap_92 1 rfl rfl ?_
      refine go_if_eq (pc := 93) C dX6_swap_93 102 (by decide) (fun c9 => ?_) (fun c9 => ?_)
      · have hf := hf.1 c9
        refine go_iload_n (pc := 102) C dX6_swap_102 3 rfl rfl ?_
        refine go_goto (pc := 103) C dX6_swap_103 107 (by decide) ?_
        exact hR _ _ _ _ dX6_swap_107 hf
      · have hf := hf.2 c9
        refine go_iload_n (pc := 96) C dX6_swap_96 3 rfl rfl ?_
        refine go_bipush (pc := 97) (v := (-4)) C dX6_swap_97 (by decide) ?_
        refine go_ic_ne (pc := 99) C dX6_swap_99 106 (by decide) (fun c10 => ?_) (fun c10 => ?_)
        · have hf := hf.1 c10
          refine go_iload_n (pc := 106) C dX6_swap_106 2 rfl rfl ?_
          exact hR _ _ _ _ dX6_swap_107 hf
        · have hf := hf.2 c10
          refine go_iload_n (pc := 102) C dX6_swap_102 3 rfl rfl ?_
          refine go_goto (pc := 103) C dX6_swap_103 107 (by decide) ?_
          exact hR _ _ _ _ dX6_swap_107 hf
    · have hf := hf.2 c8
      refine go_iload (pc := 34) C dX6_swap_34 4 rfl ?_
      refine go_iconst (pc := 36) (v := 1) C dX6_swap_36 (by decide) ?_
      refine go_iadd (pc := 37) C dX6_swap_37 ?_
      refine go_nI (fun x11 e12 => ?_)
      have hf := hf x11 e12
      refine go_istore (pc := 38) C dX6_swap_38 [(5, .int x11), (0, .ref ((tq_la X).1 27 0)), (1, .int v1), (2, .int v2), (3, .int v3), (4, .int v4)] (by decide) rfl ?_
      exact go_sub [1, 2, 3, 4, 5, 0] rfl (wk_X6_swap_40 C hR ih 2000 _ _ _ _ _ _ hf)
set_option maxRecDepth 100000 in
set_option maxHeartbeats 4000000 in
theorem wk_X6_swap {X : tq_Cx} {p1 : Int32} {S : tq_St} {K : Int32 → tq_St → Prop} (C : tq_C X cX6_swap 7 RX6 8) (hR : tq_Ri X cX6_swap 7 K) (hf : wp_X6_swap p1 S K) : Go X 7 S 0 [(0, .ref ((tq_la X).1 27 0)), (1, .int p1)] [] := by
  refine go_iload_n (pc := 0) C dX6_swap_0 1 rfl rfl ?_
  refine go_cSi (pc := 1) C cs_X6_178 (ok_X6_isZeroOrOne hf) rfl rfl rfl (by decide) rfl dX6_swap_1 (fun r1 S2 hf => ?_)
  refine go_if_ne (pc := 4) C dX6_swap_4 9 (by decide) (fun c4 => ?_) (fun c4 => ?_)
  · have hf := hf.1 c4
    refine go_aload_n (pc := 9) C dX6_swap_9 0 rfl rfl ?_
    refine go_iconst (pc := 10) (v := 0) C dX6_swap_10 (by decide) ?_
    refine go_iconst (pc := 11) (v := 0) C dX6_swap_11 (by decide) ?_
    refine go_cVi (pc := 12) C cw_X6_201 (ok_X6_goneByChangedPlan hf) (rc_X6 C) rfl rfl rfl (by decide) rfl dX6_swap_12 (fun r5 S6 hf => ?_)
    refine go_istore_n (pc := 15) C dX6_swap_15 [(2, .int r5), (0, .ref ((tq_la X).1 27 0)), (1, .int p1)] rfl (by decide) rfl ?_
    refine go_bipush (pc := 16) (v := (-4)) C dX6_swap_16 (by decide) ?_
    refine go_istore_n (pc := 18) C dX6_swap_18 [(3, .int (-4)), (2, .int r5), (0, .ref ((tq_la X).1 27 0)), (1, .int p1)] rfl (by decide) rfl ?_
    refine go_iconst (pc := 19) (v := 0) C dX6_swap_19 (by decide) ?_
    refine go_istore (pc := 20) C dX6_swap_20 [(4, .int 0), (3, .int (-4)), (2, .int r5), (0, .ref ((tq_la X).1 27 0)), (1, .int p1)] (by decide) rfl ?_
    exact go_sub [3, 4, 2, 1, 0] rfl (wk_X6_swap_22 C hR 2000 _ _ _ _ _ hf)
  · have hf := hf.2 c4
    refine go_iconst (pc := 7) (v := (-1)) C dX6_swap_7 (by decide) ?_
    exact hR _ _ _ _ dX6_swap_8 hf
set_option maxRecDepth 100000 in
set_option maxHeartbeats 4000000 in
theorem ok_X6_swap {p1 : Int32} {S : tq_St} {K : Int32 → tq_St → Prop} (hf : wp_X6_swap p1 S K) : tq_Mi yX6_swap cX6_swap 7 (some .int) 8 (fun a z => [.ref (a.1 27 0), .int p1]) S K :=
  tq_mkI (by decide) (fun _ _ => Nat.le_of_ble_eq_true rfl) (fun X C hR => wk_X6_swap C hR  hf)
set_option maxRecDepth 100000 in
set_option maxHeartbeats 4000000 in
theorem wk_X6_text_42 {X : tq_Cx} {K : Int32 → tq_St → Prop} (C : tq_C X cX6_text 3 RX6 10) (hR : tq_Ri X cX6_text 3 K) : ∀ (n : Nat) (v1 : Int32) (v2 : Int32) (S : tq_St), wp_X6_text_42 K n v1 v2 S → Go X 3 S 42 [(0, .ref ((tq_la X).1 27 0)), (1, .int v1), (2, .int v2)] [] := by
  intro n
  induction n with
  | zero => intros; contradiction
  | succ n ih =>
    intro v1 v2 S hf
    refine go_iload_n (pc := 42) C dX6_text_42 2 rfl rfl ?_
    refine go_iconst (pc := 43) (v := 2) C dX6_text_43 (by decide) ?_
    refine go_ic_ge (pc := 44) C dX6_text_44 60 (by decide) (fun c10 => ?_) (fun c10 => ?_)
    · have hf := hf.1 c10
      refine go_iload_n (pc := 60) C dX6_text_60 1 rfl rfl ?_
      exact hR _ _ _ _ dX6_text_61 hf
    · have hf := hf.2 c10
      refine go_aload_n (pc := 47) C dX6_text_47 0 rfl rfl ?_
      refine ge_X6_X6_7 (pc := 48) C dX6_text_48 ?_
      refine go_iload_n (pc := 51) C dX6_text_51 2 rfl rfl ?_
      refine go_iconst (pc := 52) (v := 0) C dX6_text_52 (by decide) ?_
      refine as_X6_7 (pc := 53) C hf.1 dX6_text_53 (fun S11 e12 => ?_)
      have hf := hf.2 S11 e12
      obtain ⟨x13, e14⟩ : ∃ q9 : Int32, q9 = v2 + 1 := ⟨_, rfl⟩
      refine go_iinc (pc := 54) (j := 2) (v := x13) C dX6_text_54 [(2, .int x13), (0, .ref ((tq_la X).1 27 0)), (1, .int v1)] rfl (by rw [e14]; rfl) (by decide) rfl ?_
      have hf := hf x13 e14
      refine go_goto (pc := 57) C dX6_text_57 42 (by decide) ?_
      exact go_sub [1, 2, 0] rfl (ih _ _ _ hf)
set_option maxRecDepth 100000 in
set_option maxHeartbeats 4000000 in
theorem wk_X6_text {X : tq_Cx} {S : tq_St} {K : Int32 → tq_St → Prop} (C : tq_C X cX6_text 3 RX6 10) (hR : tq_Ri X cX6_text 3 K) (hf : wp_X6_text S K) : Go X 3 S 0 [(0, .ref ((tq_la X).1 27 0))] [] := by
  refine go_aload_n (pc := 0) C dX6_text_0 0 rfl rfl ?_
  refine ge_X6_X6_2 (pc := 1) C dX6_text_1 ?_
  refine go_cVi (pc := 4) C cw_X6_74 (ok_X5_tellAll hf) (rc_X5 C) rfl rfl rfl (by decide) rfl dX6_text_4 (fun r1 S2 hf => ?_)
  refine go_istore_n (pc := 7) C dX6_text_7 [(1, .int r1), (0, .ref ((tq_la X).1 27 0))] rfl (by decide) rfl ?_
  refine go_aload_n (pc := 8) C dX6_text_8 1 rfl rfl ?_
  refine ge_X6_X6_2 (pc := 9) C dX6_text_9 ?_
  refine ge_X6_X5_3 (pc := 12) C dX6_text_12 ?_
  refine go_if_ne (pc := 15) C dX6_text_15 60 (by decide) (fun c4 => ?_) (fun c4 => ?_)
  · have hf := hf.1 c4
    refine go_iload_n (pc := 60) C dX6_text_60 0 rfl rfl ?_
    exact hR _ _ _ _ dX6_text_61 hf
  · have hf := hf.2 c4
    refine go_aload_n (pc := 18) C dX6_text_18 1 rfl rfl ?_
    refine ge_X6_X6_0 (pc := 19) C dX6_text_19 ?_
    refine go_aload_n (pc := 22) C dX6_text_22 1 rfl rfl ?_
    refine ge_X6_X6_2 (pc := 23) C dX6_text_23 ?_
    refine ge_X6_X5_1 (pc := 26) C dX6_text_26 ?_
    refine go_cVv (pc := 29) C cw_X6_84 (ok_X1_copyFrom (by decide) (by decide) hf) (rc_X1 C (by decide)) rfl rfl rfl (by decide) rfl dX6_text_29 (fun S6 hf => ?_)
    refine go_aload_n (pc := 32) C dX6_text_32 1 rfl rfl ?_
    refine ge_X6_X6_3 (pc := 33) C dX6_text_33 ?_
    refine go_iconst (pc := 36) (v := 0) C dX6_text_36 (by decide) ?_
    refine pu_X6_X4_2 (pc := 37) C dX6_text_37 (fun S8 e9 => ?_)
    have hf := hf S8 e9
    refine go_iconst (pc := 40) (v := 0) C dX6_text_40 (by decide) ?_
    refine go_istore_n (pc := 41) C dX6_text_41 [(2, .int 0), (1, .int r1), (0, .ref ((tq_la X).1 27 0))] rfl (by decide) rfl ?_
    exact go_sub [2, 1, 0] rfl (wk_X6_text_42 C hR 2000 _ _ _ hf)
set_option maxRecDepth 100000 in
set_option maxHeartbeats 4000000 in
theorem ok_X6_text {S : tq_St} {K : Int32 → tq_St → Prop} (hf : wp_X6_text S K) : tq_Mi yX6_text cX6_text 3 (some .int) 10 (fun a z => [.ref (a.1 27 0)]) S K :=
  tq_mkI (by decide) (fun _ _ => Nat.le_of_ble_eq_true rfl) (fun X C hR => wk_X6_text C hR  hf)
set_option maxRecDepth 100000 in
set_option maxHeartbeats 4000000 in
theorem wk_X6_think {X : tq_Cx} {p1 : Int32} {S : tq_St} {K : Int32 → tq_St → Prop} (C : tq_C X cX6_think 3 RX6 1) (hR : tq_Ri X cX6_think 3 K) (hf : wp_X6_think p1 S K) : Go X 3 S 0 [(0, .ref ((tq_la X).1 27 0)), (1, .int p1)] [] := by
  refine go_iload_n (pc := 0) C dX6_think_0 1 rfl rfl ?_
  refine go_iconst (pc := 1) (v := 1) C dX6_think_1 (by decide) ?_
  refine go_ic_lt (pc := 2) C dX6_think_2 11 (by decide) (fun c1 => ?_) (fun c1 => ?_)
  · have hf := hf.1 c1
    refine go_iconst (pc := 11) (v := (-1)) C dX6_think_11 (by decide) ?_
    exact hR _ _ _ _ dX6_think_12 hf
  · have hf := hf.2 c1
    refine go_iload_n (pc := 5) C dX6_think_5 1 rfl rfl ?_
    refine go_bipush (pc := 6) (v := 9) C dX6_think_6 (by decide) ?_
    refine go_ic_le (pc := 8) C dX6_think_8 13 (by decide) (fun c2 => ?_) (fun c2 => ?_)
    · have hf := hf.1 c2
      refine go_aload_n (pc := 13) C dX6_think_13 0 rfl rfl ?_
      refine ge_X6_X6_0 (pc := 14) C dX6_think_14 ?_
      refine ge_X6_X1_9 (pc := 17) C (by decide) dX6_think_17 ?_
      refine go_nI (fun x3 e4 => ?_)
      have hf := hf x3 e4
      refine go_istore_n (pc := 20) C dX6_think_20 [(2, .int x3), (0, .ref ((tq_la X).1 27 0)), (1, .int p1)] rfl (by decide) rfl ?_
      refine go_aload_n (pc := 21) C dX6_think_21 1 rfl rfl ?_
      refine ge_X6_X6_0 (pc := 22) C dX6_think_22 ?_
      refine go_iload_n (pc := 25) C dX6_think_25 2 rfl rfl ?_
      refine pu_X6_X1_9 (pc := 26) C (by decide) dX6_think_26 (fun S5 e6 => ?_)
      have hf := hf S5 e6
      refine go_iload_n (pc := 29) C dX6_think_29 0 rfl rfl ?_
      exact hR _ _ _ _ dX6_think_30 hf
    · have hf := hf.2 c2
      refine go_iconst (pc := 11) (v := (-1)) C dX6_think_11 (by decide) ?_
      exact hR _ _ _ _ dX6_think_12 hf
set_option maxRecDepth 100000 in
set_option maxHeartbeats 4000000 in
theorem ok_X6_think {p1 : Int32} {S : tq_St} {K : Int32 → tq_St → Prop} (hf : wp_X6_think p1 S K) : tq_Mi yX6_think cX6_think 3 (some .int) 1 (fun a z => [.ref (a.1 27 0), .int p1]) S K :=
  tq_mkI (by decide) (fun _ _ => Nat.le_of_ble_eq_true rfl) (fun X C hR => wk_X6_think C hR  hf)
set_option maxRecDepth 100000 in
set_option maxHeartbeats 4000000 in
theorem wk_X6_thinks {X : tq_Cx} {p1 : Int32} {S : tq_St} {K : Int32 → tq_St → Prop} (C : tq_C X cX6_thinks 2 RX6 5) (hR : tq_Ri X cX6_thinks 2 K) (hf : wp_X6_thinks p1 S K) : Go X 2 S 0 [(0, .ref ((tq_la X).1 27 0)), (1, .int p1)] [] := by
  refine go_aload_n (pc := 0) C dX6_thinks_0 0 rfl rfl ?_
  refine ge_X6_X6_0 (pc := 1) C dX6_thinks_1 ?_
  refine go_iload_n (pc := 4) C dX6_thinks_4 1 rfl rfl ?_
  refine go_cVi (pc := 5) C cw_X6_112 (ok_X1_isThere (by decide) hf) (rc_X1 C (by decide)) rfl rfl rfl (by decide) rfl dX6_thinks_5 (fun r1 S2 hf => ?_)
  refine go_if_ne (pc := 8) C dX6_thinks_8 13 (by decide) (fun c4 => ?_) (fun c4 => ?_)
  · have hf := hf.1 c4
    refine go_aload_n (pc := 13) C dX6_thinks_13 0 rfl rfl ?_
    refine ge_X6_X6_0 (pc := 14) C dX6_thinks_14 ?_
    refine go_iload_n (pc := 17) C dX6_thinks_17 1 rfl rfl ?_
    refine go_cVi (pc := 18) C cw_X6_128 (ok_X1_waits (by decide) hf) (rc_X1 C (by decide)) rfl rfl rfl (by decide) rfl dX6_thinks_18 (fun r5 S6 hf => ?_)
    refine go_if_eq (pc := 21) C dX6_thinks_21 35 (by decide) (fun c8 => ?_) (fun c8 => ?_)
    · have hf := hf.1 c8
      refine go_bipush (pc := 35) (v := (-2)) C dX6_thinks_35 (by decide) ?_
      exact hR _ _ _ _ dX6_thinks_37 hf
    · have hf := hf.2 c8
      refine go_aload_n (pc := 24) C dX6_thinks_24 0 rfl rfl ?_
      refine ge_X6_X6_0 (pc := 25) C dX6_thinks_25 ?_
      refine go_iload_n (pc := 28) C dX6_thinks_28 1 rfl rfl ?_
      refine go_cVi (pc := 29) C cw_X6_143 (ok_X1_thinkAndWeep (by decide) hf) (rc_X1 C (by decide)) rfl rfl rfl (by decide) rfl dX6_thinks_29 (fun r9 S10 hf => ?_)
      refine go_goto (pc := 32) C dX6_thinks_32 37 (by decide) ?_
      exact hR _ _ _ _ dX6_thinks_37 hf
  · have hf := hf.2 c4
    refine go_iconst (pc := 11) (v := (-1)) C dX6_thinks_11 (by decide) ?_
    exact hR _ _ _ _ dX6_thinks_12 hf
set_option maxRecDepth 100000 in
set_option maxHeartbeats 4000000 in
theorem ok_X6_thinks {p1 : Int32} {S : tq_St} {K : Int32 → tq_St → Prop} (hf : wp_X6_thinks p1 S K) : tq_Mi yX6_thinks cX6_thinks 2 (some .int) 5 (fun a z => [.ref (a.1 27 0), .int p1]) S K :=
  tq_mkI (by decide) (fun _ _ => Nat.le_of_ble_eq_true rfl) (fun X C hR => wk_X6_thinks C hR  hf)
set_option maxRecDepth 100000 in
set_option maxHeartbeats 4000000 in
theorem wk_X6_torn {X : tq_Cx} {S : tq_St} {K : Int32 → tq_St → Prop} (C : tq_C X cX6_torn 1 RX6 1) (hR : tq_Ri X cX6_torn 1 K) (hf : wp_X6_torn S K) : Go X 1 S 0 [(0, .ref ((tq_la X).1 27 0))] [] := by
  refine go_aload_n (pc := 0) C dX6_torn_0 0 rfl rfl ?_
  refine ge_X6_X6_10 (pc := 1) C dX6_torn_1 ?_
  exact hR _ _ _ _ dX6_torn_4 hf
set_option maxRecDepth 100000 in
set_option maxHeartbeats 4000000 in
theorem ok_X6_torn {S : tq_St} {K : Int32 → tq_St → Prop} (hf : wp_X6_torn S K) : tq_Mi yX6_torn cX6_torn 1 (some .int) 1 (fun a z => [.ref (a.1 27 0)]) S K :=
  tq_mkI (by decide) (fun _ _ => Nat.le_of_ble_eq_true rfl) (fun X C hR => wk_X6_torn C hR  hf)
set_option maxRecDepth 100000 in
set_option maxHeartbeats 4000000 in
theorem wk_X6_tram {X : tq_Cx} {S : tq_St} {K : Int32 → tq_St → Prop} (C : tq_C X cX6_tram 1 RX6 4) (hR : tq_Ri X cX6_tram 1 K) (hf : wp_X6_tram S K) : Go X 1 S 0 [(0, .ref ((tq_la X).1 27 0))] [] := by
  refine go_aload_n (pc := 0) C dX6_tram_0 0 rfl rfl ?_
  refine ge_X6_X6_0 (pc := 1) C dX6_tram_1 ?_
  refine go_cVi (pc := 4) C cw_X6_149 (ok_X1_board (by decide) hf) (rc_X1 C (by decide)) rfl rfl rfl (by decide) rfl dX6_tram_4 (fun r1 S2 hf => ?_)
  exact hR _ _ _ _ dX6_tram_7 hf
set_option maxRecDepth 100000 in
set_option maxHeartbeats 4000000 in
theorem ok_X6_tram {S : tq_St} {K : Int32 → tq_St → Prop} (hf : wp_X6_tram S K) : tq_Mi yX6_tram cX6_tram 1 (some .int) 4 (fun a z => [.ref (a.1 27 0)]) S K :=
  tq_mkI (by decide) (fun _ _ => Nat.le_of_ble_eq_true rfl) (fun X C hR => wk_X6_tram C hR  hf)
