set_option maxRecDepth 100000 in
set_option maxHeartbeats 4000000 in
theorem wk_X1_isThere {X : tq_Cx} {o : Nat} {p1 : Int32} {S : tq_St} {K : Int32 → tq_St → Prop} (C : tq_C X cX1_isThere 2 RX1 1) (hR : tq_Rz X cX1_isThere 2 K) (ho : o < 19) (hf : wp_X1_isThere o p1 S K) : Go X 2 S 0 [(0, .ref ((tq_la X).1 o 0)), (1, .int p1)] [] := by
  refine go_iload_n (pc := 0) C dX1_isThere_0 1 rfl rfl ?_
  refine go_if_lt (pc := 1) C dX1_isThere_1 16 (by decide) (fun c1 => ?_) (fun c1 => ?_)
  · have hf := hf.1 c1
    refine go_iconst (pc := 16) (v := 0) C dX1_isThere_16 (by decide) ?_
    exact hR _ _ _ _ dX1_isThere_17 (Or.inl rfl) hf
  · have hf := hf.2 c1
    refine go_iload_n (pc := 4) C dX1_isThere_4 1 rfl rfl ?_
    refine go_aload_n (pc := 5) C dX1_isThere_5 0 rfl rfl ?_
    refine ge_X1_X1_5 (pc := 6) C ho dX1_isThere_6 ?_
    refine go_ic_ge (pc := 9) C dX1_isThere_9 16 (by decide) (fun c2 => ?_) (fun c2 => ?_)
    · have hf := hf.1 c2
      refine go_iconst (pc := 16) (v := 0) C dX1_isThere_16 (by decide) ?_
      exact hR _ _ _ _ dX1_isThere_17 (Or.inl rfl) hf
    · have hf := hf.2 c2
      refine go_iconst (pc := 12) (v := 1) C dX1_isThere_12 (by decide) ?_
      refine go_goto (pc := 13) C dX1_isThere_13 17 (by decide) ?_
      exact hR _ _ _ _ dX1_isThere_17 (Or.inr rfl) hf
set_option maxRecDepth 100000 in
set_option maxHeartbeats 4000000 in
theorem ok_X1_isThere {o : Nat} {p1 : Int32} {S : tq_St} {K : Int32 → tq_St → Prop} (ho : o < 19) (hf : wp_X1_isThere o p1 S K) : tq_Mi yX1_isThere cX1_isThere 2 (some .boolean) 1 (fun a z => [.ref (a.1 o 0), .int p1]) S K :=
  tq_mkZ (by decide) (fun _ _ => Nat.le_of_ble_eq_true rfl) (fun X C hR => wk_X1_isThere C hR ho hf)
set_option maxRecDepth 100000 in
set_option maxHeartbeats 4000000 in
theorem wk_X1_copyFrom {X : tq_Cx} {o : Nat} {p1 : Nat} {S : tq_St} {K : tq_St → Prop} (C : tq_C X cX1_copyFrom 2 RX1 1) (hR : tq_Rv X cX1_copyFrom 2 K) (ho : o < 19) (hp1 : p1 < 19) (hf : wp_X1_copyFrom o p1 S K) : Go X 2 S 0 [(0, .ref ((tq_la X).1 o 0)), (1, .ref ((tq_la X).1 p1 0))] [] := by
  refine go_aload_n (pc := 0) C dX1_copyFrom_0 1 rfl rfl ?_
  refine ge_X1_X1_0 (pc := 1) C hp1 dX1_copyFrom_1 ?_
  refine go_iconst (pc := 4) (v := 0) C dX1_copyFrom_4 (by decide) ?_
  refine go_aload_n (pc := 5) C dX1_copyFrom_5 0 rfl rfl ?_
  refine ge_X1_X1_0 (pc := 6) C ho dX1_copyFrom_6 ?_
  refine go_iconst (pc := 9) (v := 0) C dX1_copyFrom_9 (by decide) ?_
  refine go_iconst (pc := 10) (v := 5) C dX1_copyFrom_10 (by decide) ?_
  refine cp_X1_0_X1_0 (pc := 11) C (by decide) hp1 ho ky_X1_58 hf.1 hf.2.1 hf.2.2.1 dX1_copyFrom_11 (fun S1 e2 => ?_)
  have hf := hf.2.2.2 S1 e2
  refine go_aload_n (pc := 14) C dX1_copyFrom_14 1 rfl rfl ?_
  refine ge_X1_X1_1 (pc := 15) C hp1 dX1_copyFrom_15 ?_
  refine go_iconst (pc := 18) (v := 0) C dX1_copyFrom_18 (by decide) ?_
  refine go_aload_n (pc := 19) C dX1_copyFrom_19 0 rfl rfl ?_
  refine ge_X1_X1_1 (pc := 20) C ho dX1_copyFrom_20 ?_
  refine go_iconst (pc := 23) (v := 0) C dX1_copyFrom_23 (by decide) ?_
  refine go_iconst (pc := 24) (v := 5) C dX1_copyFrom_24 (by decide) ?_
  refine cp_X1_1_X1_1 (pc := 25) C (by decide) hp1 ho ky_X1_58 hf.1 hf.2.1 hf.2.2.1 dX1_copyFrom_25 (fun S3 e4 => ?_)
  have hf := hf.2.2.2 S3 e4
  refine go_aload_n (pc := 28) C dX1_copyFrom_28 1 rfl rfl ?_
  refine ge_X1_X1_2 (pc := 29) C hp1 dX1_copyFrom_29 ?_
  refine go_iconst (pc := 32) (v := 0) C dX1_copyFrom_32 (by decide) ?_
  refine go_aload_n (pc := 33) C dX1_copyFrom_33 0 rfl rfl ?_
  refine ge_X1_X1_2 (pc := 34) C ho dX1_copyFrom_34 ?_
  refine go_iconst (pc := 37) (v := 0) C dX1_copyFrom_37 (by decide) ?_
  refine go_iconst (pc := 38) (v := 5) C dX1_copyFrom_38 (by decide) ?_
  refine cp_X1_2_X1_2 (pc := 39) C (by decide) hp1 ho ky_X1_58 hf.1 hf.2.1 hf.2.2.1 dX1_copyFrom_39 (fun S5 e6 => ?_)
  have hf := hf.2.2.2 S5 e6
  refine go_aload_n (pc := 42) C dX1_copyFrom_42 1 rfl rfl ?_
  refine ge_X1_X1_3 (pc := 43) C hp1 dX1_copyFrom_43 ?_
  refine go_iconst (pc := 46) (v := 0) C dX1_copyFrom_46 (by decide) ?_
  refine go_aload_n (pc := 47) C dX1_copyFrom_47 0 rfl rfl ?_
  refine ge_X1_X1_3 (pc := 48) C ho dX1_copyFrom_48 ?_
  refine go_iconst (pc := 51) (v := 0) C dX1_copyFrom_51 (by decide) ?_
  refine go_bipush (pc := 52) (v := 8) C dX1_copyFrom_52 (by decide) ?_
  refine cp_X1_3_X1_3 (pc := 54) C (by decide) hp1 ho ky_X1_58 hf.1 hf.2.1 hf.2.2.1 dX1_copyFrom_54 (fun S7 e8 => ?_)
  have hf := hf.2.2.2 S7 e8
  refine go_aload_n (pc := 57) C dX1_copyFrom_57 0 rfl rfl ?_
  refine go_aload_n (pc := 58) C dX1_copyFrom_58 1 rfl rfl ?_
  refine ge_X1_X1_5 (pc := 59) C hp1 dX1_copyFrom_59 ?_
  refine pu_X1_X1_5 (pc := 62) C ho dX1_copyFrom_62 (fun S9 e10 => ?_)
  have hf := hf S9 e10
  refine go_aload_n (pc := 65) C dX1_copyFrom_65 0 rfl rfl ?_
  refine go_aload_n (pc := 66) C dX1_copyFrom_66 1 rfl rfl ?_
  refine ge_X1_X1_6 (pc := 67) C hp1 dX1_copyFrom_67 ?_
  refine pu_X1_X1_6 (pc := 70) C ho dX1_copyFrom_70 (fun S11 e12 => ?_)
  have hf := hf S11 e12
  refine go_aload_n (pc := 73) C dX1_copyFrom_73 0 rfl rfl ?_
  refine go_aload_n (pc := 74) C dX1_copyFrom_74 1 rfl rfl ?_
  refine ge_X1_X1_7 (pc := 75) C hp1 dX1_copyFrom_75 ?_
  refine pu_X1_X1_7 (pc := 78) C ho dX1_copyFrom_78 (fun S13 e14 => ?_)
  have hf := hf S13 e14
  refine go_aload_n (pc := 81) C dX1_copyFrom_81 0 rfl rfl ?_
  refine go_aload_n (pc := 82) C dX1_copyFrom_82 1 rfl rfl ?_
  refine ge_X1_X1_8 (pc := 83) C hp1 dX1_copyFrom_83 ?_
  refine pu_X1_X1_8 (pc := 86) C ho dX1_copyFrom_86 (fun S15 e16 => ?_)
  have hf := hf S15 e16
  refine go_aload_n (pc := 89) C dX1_copyFrom_89 0 rfl rfl ?_
  refine go_aload_n (pc := 90) C dX1_copyFrom_90 1 rfl rfl ?_
  refine ge_X1_X1_9 (pc := 91) C hp1 dX1_copyFrom_91 ?_
  refine pu_X1_X1_9 (pc := 94) C ho dX1_copyFrom_94 (fun S17 e18 => ?_)
  have hf := hf S17 e18
  refine go_aload_n (pc := 97) C dX1_copyFrom_97 0 rfl rfl ?_
  refine go_aload_n (pc := 98) C dX1_copyFrom_98 1 rfl rfl ?_
  refine ge_X1_X1_10 (pc := 99) C hp1 dX1_copyFrom_99 ?_
  refine pu_X1_X1_10 (pc := 102) C ho dX1_copyFrom_102 (fun S19 e20 => ?_)
  have hf := hf S19 e20
  refine go_aload_n (pc := 105) C dX1_copyFrom_105 0 rfl rfl ?_
  refine go_aload_n (pc := 106) C dX1_copyFrom_106 1 rfl rfl ?_
  refine ge_X1_X1_11 (pc := 107) C hp1 dX1_copyFrom_107 ?_
  refine pu_X1_X1_11 (pc := 110) C ho dX1_copyFrom_110 (fun S21 e22 => ?_)
  have hf := hf S21 e22
  refine go_aload_n (pc := 113) C dX1_copyFrom_113 0 rfl rfl ?_
  refine go_aload_n (pc := 114) C dX1_copyFrom_114 1 rfl rfl ?_
  refine ge_X1_X1_12 (pc := 115) C hp1 dX1_copyFrom_115 ?_
  refine pu_X1_X1_12 (pc := 118) C ho dX1_copyFrom_118 (fun S23 e24 => ?_)
  have hf := hf S23 e24
  refine go_aload_n (pc := 121) C dX1_copyFrom_121 0 rfl rfl ?_
  refine go_aload_n (pc := 122) C dX1_copyFrom_122 1 rfl rfl ?_
  refine ge_X1_X1_13 (pc := 123) C hp1 dX1_copyFrom_123 ?_
  refine pu_X1_X1_13 (pc := 126) C ho dX1_copyFrom_126 (fun S25 e26 => ?_)
  have hf := hf S25 e26
  exact hR _ _ _ dX1_copyFrom_129 hf
set_option maxRecDepth 100000 in
set_option maxHeartbeats 4000000 in
theorem ok_X1_copyFrom {o : Nat} {p1 : Nat} {S : tq_St} {K : tq_St → Prop} (ho : o < 19) (hp1 : p1 < 19) (hf : wp_X1_copyFrom o p1 S K) : tq_Mv yX1_copyFrom cX1_copyFrom 2 none 1 (fun a z => [.ref (a.1 o 0), .ref (a.1 p1 0)]) S K :=
  tq_mkV (by decide) (fun _ _ => Nat.le_of_ble_eq_true rfl) (fun X C hR => wk_X1_copyFrom C hR ho hp1 hf)
set_option maxRecDepth 100000 in
set_option maxHeartbeats 4000000 in
theorem wk_X1_clearTally {X : tq_Cx} {o : Nat} {S : tq_St} {K : tq_St → Prop} (C : tq_C X cX1_clearTally 1 RX1 1) (hR : tq_Rv X cX1_clearTally 1 K) (ho : o < 19) (hf : wp_X1_clearTally o S K) : Go X 1 S 0 [(0, .ref ((tq_la X).1 o 0))] [] := by
  refine go_aload_n (pc := 0) C dX1_clearTally_0 0 rfl rfl ?_
  refine go_iconst (pc := 1) (v := 0) C dX1_clearTally_1 (by decide) ?_
  refine pu_X1_X1_11 (pc := 2) C ho dX1_clearTally_2 (fun S1 e2 => ?_)
  have hf := hf S1 e2
  refine go_aload_n (pc := 5) C dX1_clearTally_5 0 rfl rfl ?_
  refine go_iconst (pc := 6) (v := 0) C dX1_clearTally_6 (by decide) ?_
  refine pu_X1_X1_12 (pc := 7) C ho dX1_clearTally_7 (fun S3 e4 => ?_)
  have hf := hf S3 e4
  refine go_aload_n (pc := 10) C dX1_clearTally_10 0 rfl rfl ?_
  refine go_bipush (pc := 11) (v := (-4)) C dX1_clearTally_11 (by decide) ?_
  refine pu_X1_X1_13 (pc := 13) C ho dX1_clearTally_13 (fun S5 e6 => ?_)
  have hf := hf S5 e6
  exact hR _ _ _ dX1_clearTally_16 hf
set_option maxRecDepth 100000 in
set_option maxHeartbeats 4000000 in
theorem ok_X1_clearTally {o : Nat} {S : tq_St} {K : tq_St → Prop} (ho : o < 19) (hf : wp_X1_clearTally o S K) : tq_Mv yX1_clearTally cX1_clearTally 1 none 1 (fun a z => [.ref (a.1 o 0)]) S K :=
  tq_mkV (by decide) (fun _ _ => Nat.le_of_ble_eq_true rfl) (fun X C hR => wk_X1_clearTally C hR ho hf)
set_option maxRecDepth 100000 in
set_option maxHeartbeats 4000000 in
theorem wk_X1_startFrom {X : tq_Cx} {o : Nat} {p1 : Nat} {S : tq_St} {K : tq_St → Prop} (C : tq_C X cX1_startFrom 2 RX1 2) (hR : tq_Rv X cX1_startFrom 2 K) (ho : o < 19) (hp1 : p1 < 19) (hf : wp_X1_startFrom o p1 S K) : Go X 2 S 0 [(0, .ref ((tq_la X).1 o 0)), (1, .ref ((tq_la X).1 p1 0))] [] := by
  refine go_aload_n (pc := 0) C dX1_startFrom_0 0 rfl rfl ?_
  refine go_aload_n (pc := 1) C dX1_startFrom_1 1 rfl rfl ?_
  refine go_cVv (pc := 2) C cw_X1_64 (ok_X1_copyFrom ho hp1 hf) (rc_X1 C ho) rfl rfl rfl (by decide) rfl dX1_startFrom_2 (fun S2 hf => ?_)
  refine go_aload_n (pc := 5) C dX1_startFrom_5 0 rfl rfl ?_
  refine go_cVv (pc := 6) C cw_X1_49 (ok_X1_clearTally ho hf) (rc_X1 C ho) rfl rfl rfl (by decide) rfl dX1_startFrom_6 (fun S5 hf => ?_)
  exact hR _ _ _ dX1_startFrom_9 hf
set_option maxRecDepth 100000 in
set_option maxHeartbeats 4000000 in
theorem ok_X1_startFrom {o : Nat} {p1 : Nat} {S : tq_St} {K : tq_St → Prop} (ho : o < 19) (hp1 : p1 < 19) (hf : wp_X1_startFrom o p1 S K) : tq_Mv yX1_startFrom cX1_startFrom 2 none 2 (fun a z => [.ref (a.1 o 0), .ref (a.1 p1 0)]) S K :=
  tq_mkV (by decide) (fun _ _ => Nat.le_of_ble_eq_true rfl) (fun X C hR => wk_X1_startFrom C hR ho hp1 hf)
set_option maxRecDepth 100000 in
set_option maxHeartbeats 4000000 in
theorem wk_X1_waits {X : tq_Cx} {o : Nat} {p1 : Int32} {S : tq_St} {K : Int32 → tq_St → Prop} (C : tq_C X cX1_waits 2 RX1 1) (hR : tq_Rz X cX1_waits 2 K) (ho : o < 19) (hf : wp_X1_waits o p1 S K) : Go X 2 S 0 [(0, .ref ((tq_la X).1 o 0)), (1, .int p1)] [] := by
  refine go_iload_n (pc := 0) C dX1_waits_0 1 rfl rfl ?_
  refine go_if_lt (pc := 1) C dX1_waits_1 27 (by decide) (fun c1 => ?_) (fun c1 => ?_)
  · have hf := hf.1 c1
    refine go_iconst (pc := 27) (v := 0) C dX1_waits_27 (by decide) ?_
    exact hR _ _ _ _ dX1_waits_28 (Or.inl rfl) hf
  · have hf := hf.2 c1
    refine go_iload_n (pc := 4) C dX1_waits_4 1 rfl rfl ?_
    refine go_aload_n (pc := 5) C dX1_waits_5 0 rfl rfl ?_
    refine ge_X1_X1_5 (pc := 6) C ho dX1_waits_6 ?_
    refine go_ic_ge (pc := 9) C dX1_waits_9 27 (by decide) (fun c2 => ?_) (fun c2 => ?_)
    · have hf := hf.1 c2
      refine go_iconst (pc := 27) (v := 0) C dX1_waits_27 (by decide) ?_
      exact hR _ _ _ _ dX1_waits_28 (Or.inl rfl) hf
    · have hf := hf.2 c2
      refine go_aload_n (pc := 12) C dX1_waits_12 0 rfl rfl ?_
      refine ge_X1_X1_6 (pc := 13) C ho dX1_waits_13 ?_
      refine go_iload_n (pc := 16) C dX1_waits_16 1 rfl rfl ?_
      refine go_ishr (pc := 17) C dX1_waits_17 ?_
      refine go_iconst (pc := 18) (v := 1) C dX1_waits_18 (by decide) ?_
      refine go_iand (pc := 19) C dX1_waits_19 ?_
      refine go_if_ne (pc := 20) C dX1_waits_20 27 (by decide) (fun c3 => ?_) (fun c3 => ?_)
      · have hf := hf.1 c3
        refine go_iconst (pc := 27) (v := 0) C dX1_waits_27 (by decide) ?_
        exact hR _ _ _ _ dX1_waits_28 (Or.inl rfl) hf
      · have hf := hf.2 c3
        refine go_iconst (pc := 23) (v := 1) C dX1_waits_23 (by decide) ?_
        refine go_goto (pc := 24) C dX1_waits_24 28 (by decide) ?_
        exact hR _ _ _ _ dX1_waits_28 (Or.inr rfl) hf
set_option maxRecDepth 100000 in
set_option maxHeartbeats 4000000 in
theorem ok_X1_waits {o : Nat} {p1 : Int32} {S : tq_St} {K : Int32 → tq_St → Prop} (ho : o < 19) (hf : wp_X1_waits o p1 S K) : tq_Mi yX1_waits cX1_waits 2 (some .boolean) 1 (fun a z => [.ref (a.1 o 0), .int p1]) S K :=
  tq_mkZ (by decide) (fun _ _ => Nat.le_of_ble_eq_true rfl) (fun X C hR => wk_X1_waits C hR ho hf)
set_option maxRecDepth 100000 in
set_option maxHeartbeats 4000000 in
theorem wk_X1_dry_2 {X : tq_Cx} {o : Nat} {K : tq_St → Prop} (C : tq_C X cX1_dry 2 RX1 2) (hR : tq_Rv X cX1_dry 2 K) (ho : o < 19) : ∀ (n : Nat) (v1 : Int32) (S : tq_St), wp_X1_dry_2 o K n v1 S → Go X 2 S 2 [(0, .ref ((tq_la X).1 o 0)), (1, .int v1)] [] := by
  intro n
  induction n with
  | zero => intros; contradiction
  | succ n ih =>
    intro v1 S hf
    refine go_iload_n (pc := 2) C dX1_dry_2 1 rfl rfl ?_
    refine go_aload_n (pc := 3) C dX1_dry_3 0 rfl rfl ?_
    refine ge_X1_X1_5 (pc := 4) C ho dX1_dry_4 ?_
    refine go_ic_ge (pc := 7) C dX1_dry_7 42 (by decide) (fun c1 => ?_) (fun c1 => ?_)
    · have hf := hf.1 c1
      refine go_aload_n (pc := 42) C dX1_dry_42 0 rfl rfl ?_
      refine go_sipush (pc := 43) (v := 999) C dX1_dry_43 (by decide) ?_
      refine go_aload_n (pc := 46) C dX1_dry_46 0 rfl rfl ?_
      refine ge_X1_X1_7 (pc := 47) C ho dX1_dry_47 ?_
      refine go_iconst (pc := 50) (v := 1) C dX1_dry_50 (by decide) ?_
      refine go_iadd (pc := 51) C dX1_dry_51 ?_
      refine mmin_X1_118 (pc := 52) C (by decide) (Nat.le_of_ble_eq_true rfl) dX1_dry_52 ?_
      refine pu_X1_X1_7 (pc := 55) C ho dX1_dry_55 (fun S2 e3 => ?_)
      have hf := hf S2 e3
      exact hR _ _ _ dX1_dry_58 hf
    · have hf := hf.2 c1
      refine go_aload_n (pc := 10) C dX1_dry_10 0 rfl rfl ?_
      refine go_iload_n (pc := 11) C dX1_dry_11 1 rfl rfl ?_
      refine go_cVi (pc := 12) C cw_X1_75 (ok_X1_waits ho hf) (rc_X1 C ho) rfl rfl rfl (by decide) rfl dX1_dry_12 (fun r4 S5 hf => ?_)
      refine go_if_eq (pc := 15) C dX1_dry_15 36 (by decide) (fun c7 => ?_) (fun c7 => ?_)
      · have hf := hf.1 c7
        obtain ⟨x8, e9⟩ : ∃ q9 : Int32, q9 = v1 + 1 := ⟨_, rfl⟩
        refine go_iinc (pc := 36) (j := 1) (v := x8) C dX1_dry_36 [(1, .int x8), (0, .ref ((tq_la X).1 o 0))] rfl (by rw [e9]; rfl) (by decide) rfl ?_
        have hf := hf x8 e9
        refine go_goto (pc := 39) C dX1_dry_39 2 (by decide) ?_
        exact go_sub [1, 0] rfl (ih _ _ hf)
      · have hf := hf.2 c7
        refine go_aload_n (pc := 18) C dX1_dry_18 0 rfl rfl ?_
        refine ge_X1_X1_1 (pc := 19) C ho dX1_dry_19 ?_
        refine go_iload_n (pc := 22) C dX1_dry_22 1 rfl rfl ?_
        refine go_iconst (pc := 23) (v := 0) C dX1_dry_23 (by decide) ?_
        refine go_aload_n (pc := 24) C dX1_dry_24 0 rfl rfl ?_
        refine ge_X1_X1_1 (pc := 25) C ho dX1_dry_25 ?_
        refine go_iload_n (pc := 28) C dX1_dry_28 1 rfl rfl ?_
        refine al_X1_1 (pc := 29) C ho hf.1 dX1_dry_29 ?_
        have hf := hf.2
        refine go_iconst (pc := 30) (v := 1) C dX1_dry_30 (by decide) ?_
        refine go_isub (pc := 31) C dX1_dry_31 ?_
        refine mmax_X1_123 (pc := 32) C (by decide) (Nat.le_of_ble_eq_true rfl) dX1_dry_32 ?_
        refine as_X1_1 (pc := 35) C ho hf.1 dX1_dry_35 (fun S10 e11 => ?_)
        have hf := hf.2 S10 e11
        obtain ⟨x12, e13⟩ : ∃ q9 : Int32, q9 = v1 + 1 := ⟨_, rfl⟩
        refine go_iinc (pc := 36) (j := 1) (v := x12) C dX1_dry_36 [(1, .int x12), (0, .ref ((tq_la X).1 o 0))] rfl (by rw [e13]; rfl) (by decide) rfl ?_
        have hf := hf x12 e13
        refine go_goto (pc := 39) C dX1_dry_39 2 (by decide) ?_
        exact go_sub [1, 0] rfl (ih _ _ hf)
set_option maxRecDepth 100000 in
set_option maxHeartbeats 4000000 in
theorem wk_X1_dry {X : tq_Cx} {o : Nat} {S : tq_St} {K : tq_St → Prop} (C : tq_C X cX1_dry 2 RX1 2) (hR : tq_Rv X cX1_dry 2 K) (ho : o < 19) (hf : wp_X1_dry o S K) : Go X 2 S 0 [(0, .ref ((tq_la X).1 o 0))] [] := by
  refine go_iconst (pc := 0) (v := 0) C dX1_dry_0 (by decide) ?_
  refine go_istore_n (pc := 1) C dX1_dry_1 [(1, .int 0), (0, .ref ((tq_la X).1 o 0))] rfl (by decide) rfl ?_
  exact go_sub [1, 0] rfl (wk_X1_dry_2 C hR ho 2000 _ _ hf)
set_option maxRecDepth 100000 in
set_option maxHeartbeats 4000000 in
theorem ok_X1_dry {o : Nat} {S : tq_St} {K : tq_St → Prop} (ho : o < 19) (hf : wp_X1_dry o S K) : tq_Mv yX1_dry cX1_dry 2 none 2 (fun a z => [.ref (a.1 o 0)]) S K :=
  tq_mkV (by decide) (fun _ _ => Nat.le_of_ble_eq_true rfl) (fun X C hR => wk_X1_dry C hR ho hf)
set_option maxRecDepth 100000 in
set_option maxHeartbeats 4000000 in
theorem wk_X1_rank_24 {X : tq_Cx} {o : Nat} {K : Int32 → tq_St → Prop} (C : tq_C X cX1_rank 3 RX1 1) (hR : tq_Ri X cX1_rank 3 K) (ho : o < 19) : ∀ (v1 : Int32) (w0 : Int32) (S : tq_St), wp_X1_rank_24 o K v1 w0 S → Go X 3 S 24 [(0, .ref ((tq_la X).1 o 0)), (1, .int v1)] [.int w0] := by
  intro v1 w0 S hf
  refine go_istore_n (pc := 24) C dX1_rank_24 [(2, .int w0), (0, .ref ((tq_la X).1 o 0)), (1, .int v1)] rfl (by decide) rfl ?_
  refine go_iload_n (pc := 25) C dX1_rank_25 0 rfl rfl ?_
  refine go_if_eq (pc := 26) C dX1_rank_26 34 (by decide) (fun c2 => ?_) (fun c2 => ?_)
  · have hf := hf.1 c2
    refine go_aload_n (pc := 34) C dX1_rank_34 1 rfl rfl ?_
    refine ge_X1_X1_2 (pc := 35) C ho dX1_rank_35 ?_
    refine go_iload_n (pc := 38) C dX1_rank_38 2 rfl rfl ?_
    refine al_X1_2 (pc := 39) C ho hf.1 dX1_rank_39 ?_
    have hf := hf.2
    exact hR _ _ _ _ dX1_rank_40 hf
  · have hf := hf.2 c2
    refine go_bipush (pc := 29) (v := (-2)) C dX1_rank_29 (by decide) ?_
    refine go_goto (pc := 31) C dX1_rank_31 40 (by decide) ?_
    exact hR _ _ _ _ dX1_rank_40 hf
set_option maxRecDepth 100000 in
set_option maxHeartbeats 4000000 in
theorem wk_X1_rank_23 {X : tq_Cx} {o : Nat} {K : Int32 → tq_St → Prop} (C : tq_C X cX1_rank 3 RX1 1) (hR : tq_Ri X cX1_rank 3 K) (ho : o < 19) : ∀ (v1 : Int32) (S : tq_St), wp_X1_rank_23 o K v1 S → Go X 3 S 23 [(0, .ref ((tq_la X).1 o 0)), (1, .int v1)] [] := by
  intro v1 S hf
  refine go_iconst (pc := 23) (v := 0) C dX1_rank_23 (by decide) ?_
  exact go_sub [0, 1] rfl (wk_X1_rank_24 C hR ho _ _ _ hf)
set_option maxRecDepth 100000 in
set_option maxHeartbeats 4000000 in
theorem wk_X1_rank {X : tq_Cx} {o : Nat} {p1 : Int32} {S : tq_St} {K : Int32 → tq_St → Prop} (C : tq_C X cX1_rank 3 RX1 1) (hR : tq_Ri X cX1_rank 3 K) (ho : o < 19) (hf : wp_X1_rank o p1 S K) : Go X 3 S 0 [(0, .ref ((tq_la X).1 o 0)), (1, .int p1)] [] := by
  refine go_aload_n (pc := 0) C dX1_rank_0 0 rfl rfl ?_
  refine ge_X1_X1_0 (pc := 1) C ho dX1_rank_1 ?_
  refine go_iload_n (pc := 4) C dX1_rank_4 1 rfl rfl ?_
  refine al_X1_0 (pc := 5) C ho hf.1 dX1_rank_5 ?_
  have hf := hf.2
  refine go_iconst (pc := 6) (v := 2) C dX1_rank_6 (by decide) ?_
  refine go_ic_ne (pc := 7) C dX1_rank_7 23 (by decide) (fun c1 => ?_) (fun c1 => ?_)
  · have hf := hf.1 c1
    exact go_sub [0, 1] rfl (wk_X1_rank_23 C hR ho _ _ hf)
  · have hf := hf.2 c1
    refine go_aload_n (pc := 10) C dX1_rank_10 0 rfl rfl ?_
    refine ge_X1_X1_1 (pc := 11) C ho dX1_rank_11 ?_
    refine go_iload_n (pc := 14) C dX1_rank_14 1 rfl rfl ?_
    refine al_X1_1 (pc := 15) C ho hf.1 dX1_rank_15 ?_
    have hf := hf.2
    refine go_if_ne (pc := 16) C dX1_rank_16 23 (by decide) (fun c3 => ?_) (fun c3 => ?_)
    · have hf := hf.1 c3
      exact go_sub [0, 1] rfl (wk_X1_rank_23 C hR ho _ _ hf)
    · have hf := hf.2 c3
      refine go_iconst (pc := 19) (v := 1) C dX1_rank_19 (by decide) ?_
      refine go_goto (pc := 20) C dX1_rank_20 24 (by decide) ?_
      exact go_sub [0, 1] rfl (wk_X1_rank_24 C hR ho _ _ _ hf)
set_option maxRecDepth 100000 in
set_option maxHeartbeats 4000000 in
theorem ok_X1_rank {o : Nat} {p1 : Int32} {S : tq_St} {K : Int32 → tq_St → Prop} (ho : o < 19) (hf : wp_X1_rank o p1 S K) : tq_Mi yX1_rank cX1_rank 3 (some .int) 1 (fun a z => [.ref (a.1 o 0), .int p1]) S K :=
  tq_mkI (by decide) (fun _ _ => Nat.le_of_ble_eq_true rfl) (fun X C hR => wk_X1_rank C hR ho hf)
set_option maxRecDepth 100000 in
set_option maxHeartbeats 4000000 in
theorem wk_X1_lineUp_66 {X : tq_Cx} {o : Nat} {K : Int32 → tq_St → Prop} (C : tq_C X cX1_lineUp 4 RX1 2) (hR : tq_Ri X cX1_lineUp 4 K) (ho : o < 19) {rec4 : Int32 → Int32 → tq_St → Prop} (hrec4 : ∀ (v1 : Int32) (v2 : Int32) (S : tq_St), rec4 v1 v2 S → Go X 4 S 4 [(0, .ref ((tq_la X).1 o 0)), (1, .int v1), (2, .int v2)] []) : ∀ (v1 : Int32) (v2 : Int32) (v3 : Int32) (S : tq_St), wp_X1_lineUp_66 o K rec4 v1 v2 v3 S → Go X 4 S 66 [(0, .ref ((tq_la X).1 o 0)), (1, .int v1), (2, .int v2), (3, .int v3)] [] := by
  intro v1 v2 v3 S hf
  refine go_aload_n (pc := 66) C dX1_lineUp_66 0 rfl rfl ?_
  refine ge_X1_X1_4 (pc := 67) C ho dX1_lineUp_67 ?_
  refine go_iload_n (pc := 70) C dX1_lineUp_70 3 rfl rfl ?_
  refine go_iload_n (pc := 71) C dX1_lineUp_71 2 rfl rfl ?_
  refine as_X1_4 (pc := 72) C ho hf.1 dX1_lineUp_72 (fun S9 e10 => ?_)
  have hf := hf.2 S9 e10
  obtain ⟨x11, e12⟩ : ∃ q9 : Int32, q9 = v1 + 1 := ⟨_, rfl⟩
  refine go_iinc (pc := 73) (j := 1) (v := x11) C dX1_lineUp_73 [(1, .int x11), (0, .ref ((tq_la X).1 o 0)), (2, .int v2), (3, .int v3)] rfl (by rw [e12]; rfl) (by decide) rfl ?_
  have hf := hf x11 e12
  obtain ⟨x13, e14⟩ : ∃ q9 : Int32, q9 = v2 + 1 := ⟨_, rfl⟩
  refine go_iinc (pc := 76) (j := 2) (v := x13) C dX1_lineUp_76 [(2, .int x13), (1, .int x11), (0, .ref ((tq_la X).1 o 0)), (3, .int v3)] rfl (by rw [e14]; rfl) (by decide) rfl ?_
  have hf := hf x13 e14
  refine go_goto (pc := 79) C dX1_lineUp_79 4 (by decide) ?_
  exact go_sub [2, 1, 0] rfl (hrec4 _ _ _ hf)
set_option maxRecDepth 100000 in
set_option maxHeartbeats 4000000 in
theorem wk_X1_lineUp_22 {X : tq_Cx} {o : Nat} {K : Int32 → tq_St → Prop} (C : tq_C X cX1_lineUp 4 RX1 2) (hR : tq_Ri X cX1_lineUp 4 K) (ho : o < 19) {rec4 : Int32 → Int32 → tq_St → Prop} (hrec4 : ∀ (v1 : Int32) (v2 : Int32) (S : tq_St), rec4 v1 v2 S → Go X 4 S 4 [(0, .ref ((tq_la X).1 o 0)), (1, .int v1), (2, .int v2)] []) : ∀ (n : Nat) (v1 : Int32) (v2 : Int32) (v3 : Int32) (S : tq_St), wp_X1_lineUp_22 o K rec4 n v1 v2 v3 S → Go X 4 S 22 [(0, .ref ((tq_la X).1 o 0)), (1, .int v1), (2, .int v2), (3, .int v3)] [] := by
  intro n
  induction n with
  | zero => intros; contradiction
  | succ n ih =>
    intro v1 v2 v3 S hf
    refine go_iload_n (pc := 22) C dX1_lineUp_22 3 rfl rfl ?_
    refine go_if_le (pc := 23) C dX1_lineUp_23 66 (by decide) (fun c8 => ?_) (fun c8 => ?_)
    · have hf := hf.1 c8
      exact go_sub [0, 1, 2, 3] rfl (wk_X1_lineUp_66 C hR ho hrec4 _ _ _ _ hf)
    · have hf := hf.2 c8
      refine go_aload_n (pc := 26) C dX1_lineUp_26 0 rfl rfl ?_
      refine go_aload_n (pc := 27) C dX1_lineUp_27 0 rfl rfl ?_
      refine ge_X1_X1_4 (pc := 28) C ho dX1_lineUp_28 ?_
      refine go_iload_n (pc := 31) C dX1_lineUp_31 3 rfl rfl ?_
      refine go_iconst (pc := 32) (v := 1) C dX1_lineUp_32 (by decide) ?_
      refine go_isub (pc := 33) C dX1_lineUp_33 ?_
      refine al_X1_4 (pc := 34) C ho hf.1 dX1_lineUp_34 ?_
      have hf := hf.2
      refine go_cVi (pc := 35) C cw_X1_129 (ok_X1_rank ho hf) (rc_X1 C ho) rfl rfl rfl (by decide) rfl dX1_lineUp_35 (fun r15 S16 hf => ?_)
      refine go_aload_n (pc := 38) C dX1_lineUp_38 0 rfl rfl ?_
      refine go_iload_n (pc := 39) C dX1_lineUp_39 2 rfl rfl ?_
      refine go_cVi (pc := 40) C cw_X1_129 (ok_X1_rank ho hf) (rc_X1 C ho) rfl rfl rfl (by decide) rfl dX1_lineUp_40 (fun r18 S19 hf => ?_)
      refine go_ic_ge (pc := 43) C dX1_lineUp_43 66 (by decide) (fun c21 => ?_) (fun c21 => ?_)
      · have hf := hf.1 c21
        exact go_sub [0, 1, 2, 3] rfl (wk_X1_lineUp_66 C hR ho hrec4 _ _ _ _ hf)
      · have hf := hf.2 c21
        refine go_aload_n (pc := 46) C dX1_lineUp_46 0 rfl rfl ?_
        refine ge_X1_X1_4 (pc := 47) C ho dX1_lineUp_47 ?_
        refine go_iload_n (pc := 50) C dX1_lineUp_50 3 rfl rfl ?_
        refine go_aload_n (pc := 51) C dX1_lineUp_51 0 rfl rfl ?_
        refine ge_X1_X1_4 (pc := 52) C ho dX1_lineUp_52 ?_
        refine go_iload_n (pc := 55) C dX1_lineUp_55 3 rfl rfl ?_
        refine go_iconst (pc := 56) (v := 1) C dX1_lineUp_56 (by decide) ?_
        refine go_isub (pc := 57) C dX1_lineUp_57 ?_
        refine al_X1_4 (pc := 58) C ho hf.1 dX1_lineUp_58 ?_
        have hf := hf.2
        refine as_X1_4 (pc := 59) C ho hf.1 dX1_lineUp_59 (fun S22 e23 => ?_)
        have hf := hf.2 S22 e23
        obtain ⟨x24, e25⟩ : ∃ q9 : Int32, q9 = v3 + (-1) := ⟨_, rfl⟩
        refine go_iinc (pc := 60) (j := 3) (v := x24) C dX1_lineUp_60 [(3, .int x24), (0, .ref ((tq_la X).1 o 0)), (1, .int v1), (2, .int v2)] rfl (by rw [e25]; rfl) (by decide) rfl ?_
        have hf := hf x24 e25
        refine go_goto (pc := 63) C dX1_lineUp_63 22 (by decide) ?_
        exact go_sub [1, 2, 3, 0] rfl (ih _ _ _ _ hf)
set_option maxRecDepth 100000 in
set_option maxHeartbeats 4000000 in
theorem wk_X1_lineUp_4 {X : tq_Cx} {o : Nat} {K : Int32 → tq_St → Prop} (C : tq_C X cX1_lineUp 4 RX1 2) (hR : tq_Ri X cX1_lineUp 4 K) (ho : o < 19) : ∀ (n : Nat) (v1 : Int32) (v2 : Int32) (S : tq_St), wp_X1_lineUp_4 o K n v1 v2 S → Go X 4 S 4 [(0, .ref ((tq_la X).1 o 0)), (1, .int v1), (2, .int v2)] [] := by
  intro n
  induction n with
  | zero => intros; contradiction
  | succ n ih =>
    intro v1 v2 S hf
    refine go_iload_n (pc := 4) C dX1_lineUp_4 2 rfl rfl ?_
    refine go_aload_n (pc := 5) C dX1_lineUp_5 0 rfl rfl ?_
    refine ge_X1_X1_5 (pc := 6) C ho dX1_lineUp_6 ?_
    refine go_ic_ge (pc := 9) C dX1_lineUp_9 82 (by decide) (fun c1 => ?_) (fun c1 => ?_)
    · have hf := hf.1 c1
      refine go_iload_n (pc := 82) C dX1_lineUp_82 1 rfl rfl ?_
      exact hR _ _ _ _ dX1_lineUp_83 hf
    · have hf := hf.2 c1
      refine go_aload_n (pc := 12) C dX1_lineUp_12 0 rfl rfl ?_
      refine go_iload_n (pc := 13) C dX1_lineUp_13 2 rfl rfl ?_
      refine go_cVi (pc := 14) C cw_X1_75 (ok_X1_waits ho hf) (rc_X1 C ho) rfl rfl rfl (by decide) rfl dX1_lineUp_14 (fun r2 S3 hf => ?_)
      refine go_if_eq (pc := 17) C dX1_lineUp_17 76 (by decide) (fun c5 => ?_) (fun c5 => ?_)
      · have hf := hf.1 c5
        obtain ⟨x6, e7⟩ : ∃ q9 : Int32, q9 = v2 + 1 := ⟨_, rfl⟩
        refine go_iinc (pc := 76) (j := 2) (v := x6) C dX1_lineUp_76 [(2, .int x6), (0, .ref ((tq_la X).1 o 0)), (1, .int v1)] rfl (by rw [e7]; rfl) (by decide) rfl ?_
        have hf := hf x6 e7
        refine go_goto (pc := 79) C dX1_lineUp_79 4 (by decide) ?_
        exact go_sub [1, 2, 0] rfl (ih _ _ _ hf)
      · have hf := hf.2 c5
        refine go_iload_n (pc := 20) C dX1_lineUp_20 1 rfl rfl ?_
        refine go_istore_n (pc := 21) C dX1_lineUp_21 [(3, .int v1), (0, .ref ((tq_la X).1 o 0)), (1, .int v1), (2, .int v2)] rfl (by decide) rfl ?_
        exact go_sub [1, 2, 3, 0] rfl (wk_X1_lineUp_22 C hR ho ih 2000 _ _ _ _ hf)
set_option maxRecDepth 100000 in
set_option maxHeartbeats 4000000 in
theorem wk_X1_lineUp {X : tq_Cx} {o : Nat} {S : tq_St} {K : Int32 → tq_St → Prop} (C : tq_C X cX1_lineUp 4 RX1 2) (hR : tq_Ri X cX1_lineUp 4 K) (ho : o < 19) (hf : wp_X1_lineUp o S K) : Go X 4 S 0 [(0, .ref ((tq_la X).1 o 0))] [] := by
  refine go_iconst (pc := 0) (v := 0) C dX1_lineUp_0 (by decide) ?_
  refine go_istore_n (pc := 1) C dX1_lineUp_1 [(1, .int 0), (0, .ref ((tq_la X).1 o 0))] rfl (by decide) rfl ?_
  refine go_iconst (pc := 2) (v := 0) C dX1_lineUp_2 (by decide) ?_
  refine go_istore_n (pc := 3) C dX1_lineUp_3 [(2, .int 0), (1, .int 0), (0, .ref ((tq_la X).1 o 0))] rfl (by decide) rfl ?_
  exact go_sub [2, 1, 0] rfl (wk_X1_lineUp_4 C hR ho 2000 _ _ _ hf)
set_option maxRecDepth 100000 in
set_option maxHeartbeats 4000000 in
theorem ok_X1_lineUp {o : Nat} {S : tq_St} {K : Int32 → tq_St → Prop} (ho : o < 19) (hf : wp_X1_lineUp o S K) : tq_Mi yX1_lineUp cX1_lineUp 4 (some .int) 2 (fun a z => [.ref (a.1 o 0)]) S K :=
  tq_mkI (by decide) (fun _ _ => Nat.le_of_ble_eq_true rfl) (fun X C hR => wk_X1_lineUp C hR ho hf)
set_option maxRecDepth 100000 in
set_option maxHeartbeats 4000000 in
theorem wk_X1_board_39 {X : tq_Cx} {o : Nat} {K : Int32 → tq_St → Prop} (C : tq_C X cX1_board 4 RX1 3) (hR : tq_Ri X cX1_board 4 K) (ho : o < 19) : ∀ (v2 : Int32) (S : tq_St), wp_X1_board_39 o K v2 S → Go X 4 S 39 [(0, .ref ((tq_la X).1 o 0)), (2, .int v2)] [] := by
  intro v2 S hf
  refine go_aload_n (pc := 39) C dX1_board_39 0 rfl rfl ?_
  refine go_dup (pc := 40) C dX1_board_40 rfl ?_
  refine ge_X1_X1_6 (pc := 41) C ho dX1_board_41 ?_
  refine go_iload_n (pc := 44) C dX1_board_44 1 rfl rfl ?_
  refine go_ior (pc := 45) C dX1_board_45 ?_
  refine pu_X1_X1_6 (pc := 46) C ho dX1_board_46 (fun S5 e6 => ?_)
  have hf := hf S5 e6
  refine go_iload_n (pc := 49) C dX1_board_49 1 rfl rfl ?_
  exact hR _ _ _ _ dX1_board_50 hf
set_option maxRecDepth 100000 in
set_option maxHeartbeats 4000000 in
theorem wk_X1_board_9 {X : tq_Cx} {o : Nat} {K : Int32 → tq_St → Prop} (C : tq_C X cX1_board 4 RX1 3) (hR : tq_Ri X cX1_board 4 K) (ho : o < 19) : ∀ (n : Nat) (v1 : Int32) (v2 : Int32) (v3 : Int32) (S : tq_St), wp_X1_board_9 o K n v1 v2 v3 S → Go X 4 S 9 [(0, .ref ((tq_la X).1 o 0)), (1, .int v1), (2, .int v2), (3, .int v3)] [] := by
  intro n
  induction n with
  | zero => intros; contradiction
  | succ n ih =>
    intro v1 v2 v3 S hf
    refine go_iload_n (pc := 9) C dX1_board_9 3 rfl rfl ?_
    refine go_iload_n (pc := 10) C dX1_board_10 1 rfl rfl ?_
    refine go_ic_ge (pc := 11) C dX1_board_11 39 (by decide) (fun c4 => ?_) (fun c4 => ?_)
    · have hf := hf.1 c4
      exact go_sub [0, 2] rfl (wk_X1_board_39 C hR ho _ _ hf)
    · have hf := hf.2 c4
      refine go_iload_n (pc := 14) C dX1_board_14 3 rfl rfl ?_
      refine go_aload_n (pc := 15) C dX1_board_15 0 rfl rfl ?_
      refine ge_X1_X1_8 (pc := 16) C ho dX1_board_16 ?_
      refine go_ic_ge (pc := 19) C dX1_board_19 39 (by decide) (fun c7 => ?_) (fun c7 => ?_)
      · have hf := hf.1 c7
        exact go_sub [0, 2] rfl (wk_X1_board_39 C hR ho _ _ hf)
      · have hf := hf.2 c7
        refine go_iload_n (pc := 22) C dX1_board_22 2 rfl rfl ?_
        refine go_iconst (pc := 23) (v := 1) C dX1_board_23 (by decide) ?_
        refine go_aload_n (pc := 24) C dX1_board_24 0 rfl rfl ?_
        refine ge_X1_X1_4 (pc := 25) C ho dX1_board_25 ?_
        refine go_iload_n (pc := 28) C dX1_board_28 3 rfl rfl ?_
        refine al_X1_4 (pc := 29) C ho hf.1 dX1_board_29 ?_
        have hf := hf.2
        refine go_ishl (pc := 30) C dX1_board_30 ?_
        refine go_ior (pc := 31) C dX1_board_31 ?_
        refine go_nI (fun x8 e9 => ?_)
        have hf := hf x8 e9
        refine go_istore_n (pc := 32) C dX1_board_32 [(2, .int x8), (0, .ref ((tq_la X).1 o 0)), (1, .int v1), (3, .int v3)] rfl (by decide) rfl ?_
        obtain ⟨x10, e11⟩ : ∃ q9 : Int32, q9 = v3 + 1 := ⟨_, rfl⟩
        refine go_iinc (pc := 33) (j := 3) (v := x10) C dX1_board_33 [(3, .int x10), (2, .int x8), (0, .ref ((tq_la X).1 o 0)), (1, .int v1)] rfl (by rw [e11]; rfl) (by decide) rfl ?_
        have hf := hf x10 e11
        refine go_goto (pc := 36) C dX1_board_36 9 (by decide) ?_
        exact go_sub [2, 3, 1, 0] rfl (ih _ _ _ _ hf)
set_option maxRecDepth 100000 in
set_option maxHeartbeats 4000000 in
theorem wk_X1_board {X : tq_Cx} {o : Nat} {S : tq_St} {K : Int32 → tq_St → Prop} (C : tq_C X cX1_board 4 RX1 3) (hR : tq_Ri X cX1_board 4 K) (ho : o < 19) (hf : wp_X1_board o S K) : Go X 4 S 0 [(0, .ref ((tq_la X).1 o 0))] [] := by
  refine go_aload_n (pc := 0) C dX1_board_0 0 rfl rfl ?_
  refine go_cVi (pc := 1) C cw_X1_126 (ok_X1_lineUp ho hf) (rc_X1 C ho) rfl rfl rfl (by decide) rfl dX1_board_1 (fun r1 S2 hf => ?_)
  refine go_istore_n (pc := 4) C dX1_board_4 [(1, .int r1), (0, .ref ((tq_la X).1 o 0))] rfl (by decide) rfl ?_
  refine go_iconst (pc := 5) (v := 0) C dX1_board_5 (by decide) ?_
  refine go_istore_n (pc := 6) C dX1_board_6 [(2, .int 0), (1, .int r1), (0, .ref ((tq_la X).1 o 0))] rfl (by decide) rfl ?_
  refine go_iconst (pc := 7) (v := 0) C dX1_board_7 (by decide) ?_
  refine go_istore_n (pc := 8) C dX1_board_8 [(3, .int 0), (2, .int 0), (1, .int r1), (0, .ref ((tq_la X).1 o 0))] rfl (by decide) rfl ?_
  exact go_sub [3, 2, 1, 0] rfl (wk_X1_board_9 C hR ho 2000 _ _ _ _ hf)
set_option maxRecDepth 100000 in
set_option maxHeartbeats 4000000 in
theorem ok_X1_board {o : Nat} {S : tq_St} {K : Int32 → tq_St → Prop} (ho : o < 19) (hf : wp_X1_board o S K) : tq_Mi yX1_board cX1_board 4 (some .int) 3 (fun a z => [.ref (a.1 o 0)]) S K :=
  tq_mkI (by decide) (fun _ _ => Nat.le_of_ble_eq_true rfl) (fun X C hR => wk_X1_board C hR ho hf)
set_option maxRecDepth 100000 in
set_option maxHeartbeats 4000000 in
theorem wk_X1_sadden {X : tq_Cx} {o : Nat} {p1 : Int32} {p2 : Int32} {S : tq_St} {K : tq_St → Prop} (C : tq_C X cX1_sadden 3 RX1 1) (hR : tq_Rv X cX1_sadden 3 K) (ho : o < 19) (hf : wp_X1_sadden o p1 p2 S K) : Go X 3 S 0 [(0, .ref ((tq_la X).1 o 0)), (1, .int p1), (2, .int p2)] [] := by
  refine go_iload_n (pc := 0) C dX1_sadden_0 1 rfl rfl ?_
  refine go_if_lt (pc := 1) C dX1_sadden_1 31 (by decide) (fun c1 => ?_) (fun c1 => ?_)
  · have hf := hf.1 c1
    exact hR _ _ _ dX1_sadden_31 hf
  · have hf := hf.2 c1
    refine go_iload_n (pc := 4) C dX1_sadden_4 1 rfl rfl ?_
    refine go_aload_n (pc := 5) C dX1_sadden_5 0 rfl rfl ?_
    refine ge_X1_X1_5 (pc := 6) C ho dX1_sadden_6 ?_
    refine go_ic_ge (pc := 9) C dX1_sadden_9 31 (by decide) (fun c2 => ?_) (fun c2 => ?_)
    · have hf := hf.1 c2
      exact hR _ _ _ dX1_sadden_31 hf
    · have hf := hf.2 c2
      refine go_aload_n (pc := 12) C dX1_sadden_12 0 rfl rfl ?_
      refine ge_X1_X1_1 (pc := 13) C ho dX1_sadden_13 ?_
      refine go_iload_n (pc := 16) C dX1_sadden_16 1 rfl rfl ?_
      refine go_bipush (pc := 17) (v := 40) C dX1_sadden_17 (by decide) ?_
      refine go_aload_n (pc := 19) C dX1_sadden_19 0 rfl rfl ?_
      refine ge_X1_X1_1 (pc := 20) C ho dX1_sadden_20 ?_
      refine go_iload_n (pc := 23) C dX1_sadden_23 1 rfl rfl ?_
      refine al_X1_1 (pc := 24) C ho hf.1 dX1_sadden_24 ?_
      have hf := hf.2
      refine go_iload_n (pc := 25) C dX1_sadden_25 2 rfl rfl ?_
      refine go_iadd (pc := 26) C dX1_sadden_26 ?_
      refine mmin_X1_118 (pc := 27) C (by decide) (Nat.le_of_ble_eq_true rfl) dX1_sadden_27 ?_
      refine as_X1_1 (pc := 30) C ho hf.1 dX1_sadden_30 (fun S3 e4 => ?_)
      have hf := hf.2 S3 e4
      exact hR _ _ _ dX1_sadden_31 hf
set_option maxRecDepth 100000 in
set_option maxHeartbeats 4000000 in
theorem ok_X1_sadden {o : Nat} {p1 : Int32} {p2 : Int32} {S : tq_St} {K : tq_St → Prop} (ho : o < 19) (hf : wp_X1_sadden o p1 p2 S K) : tq_Mv yX1_sadden cX1_sadden 3 none 1 (fun a z => [.ref (a.1 o 0), .int p1, .int p2]) S K :=
  tq_mkV (by decide) (fun _ _ => Nat.le_of_ble_eq_true rfl) (fun X C hR => wk_X1_sadden C hR ho hf)
set_option maxRecDepth 100000 in
set_option maxHeartbeats 4000000 in
theorem wk_X1_brim {X : tq_Cx} {o : Nat} {p1 : Int32} {S : tq_St} {K : Int32 → tq_St → Prop} (C : tq_C X cX1_brim 2 RX1 1) (hR : tq_Ri X cX1_brim 2 K) (ho : o < 19) (hf : wp_X1_brim o p1 S K) : Go X 2 S 0 [(0, .ref ((tq_la X).1 o 0)), (1, .int p1)] [] := by
  refine go_brims (pc := 0) C dX1_brim_0 ?_
  refine go_aload_n (pc := 3) C dX1_brim_3 0 rfl rfl ?_
  refine ge_X1_X1_0 (pc := 4) C ho dX1_brim_4 ?_
  refine go_iload_n (pc := 7) C dX1_brim_7 1 rfl rfl ?_
  refine al_X1_0 (pc := 8) C ho hf.1 dX1_brim_8 ?_
  have hf := hf.2
  refine go_brald (pc := 9) C hf.1 dX1_brim_9 ?_
  have hf := hf.2
  exact hR _ _ _ _ dX1_brim_10 hf
set_option maxRecDepth 100000 in
set_option maxHeartbeats 4000000 in
theorem ok_X1_brim {o : Nat} {p1 : Int32} {S : tq_St} {K : Int32 → tq_St → Prop} (ho : o < 19) (hf : wp_X1_brim o p1 S K) : tq_Mi yX1_brim cX1_brim 2 (some .int) 1 (fun a z => [.ref (a.1 o 0), .int p1]) S K :=
  tq_mkI (by decide) (fun _ _ => Nat.le_of_ble_eq_true rfl) (fun X C hR => wk_X1_brim C hR ho hf)
set_option maxRecDepth 100000 in
set_option maxHeartbeats 4000000 in
theorem wk_X1_firstToWeep_2 {X : tq_Cx} {o : Nat} {K : Int32 → tq_St → Prop} (C : tq_C X cX1_firstToWeep 3 RX1 2) (hR : tq_Ri X cX1_firstToWeep 3 K) (ho : o < 19) : ∀ (n : Nat) (v1 : Int32) (v2 : Int32) (S : tq_St), wp_X1_firstToWeep_2 o K n v1 v2 S → Go X 3 S 2 [(0, .ref ((tq_la X).1 o 0)), (1, .int v1), (2, .int v2)] [] := by
  intro n
  induction n with
  | zero => intros; contradiction
  | succ n ih =>
    intro v1 v2 S hf
    refine go_iload_n (pc := 2) C dX1_firstToWeep_2 2 rfl rfl ?_
    refine go_aload_n (pc := 3) C dX1_firstToWeep_3 0 rfl rfl ?_
    refine ge_X1_X1_5 (pc := 4) C ho dX1_firstToWeep_4 ?_
    refine go_ic_ge (pc := 7) C dX1_firstToWeep_7 48 (by decide) (fun c1 => ?_) (fun c1 => ?_)
    · have hf := hf.1 c1
      refine go_bipush (pc := 48) (v := (-4)) C dX1_firstToWeep_48 (by decide) ?_
      exact hR _ _ _ _ dX1_firstToWeep_50 hf
    · have hf := hf.2 c1
      refine go_aload_n (pc := 10) C dX1_firstToWeep_10 0 rfl rfl ?_
      refine go_iload_n (pc := 11) C dX1_firstToWeep_11 2 rfl rfl ?_
      refine go_cVi (pc := 12) C cw_X1_75 (ok_X1_waits ho hf) (rc_X1 C ho) rfl rfl rfl (by decide) rfl dX1_firstToWeep_12 (fun r2 S3 hf => ?_)
      refine go_if_eq (pc := 15) C dX1_firstToWeep_15 42 (by decide) (fun c5 => ?_) (fun c5 => ?_)
      · have hf := hf.1 c5
        obtain ⟨x6, e7⟩ : ∃ q9 : Int32, q9 = v2 + 1 := ⟨_, rfl⟩
        refine go_iinc (pc := 42) (j := 2) (v := x6) C dX1_firstToWeep_42 [(2, .int x6), (0, .ref ((tq_la X).1 o 0)), (1, .int v1)] rfl (by rw [e7]; rfl) (by decide) rfl ?_
        have hf := hf x6 e7
        refine go_goto (pc := 45) C dX1_firstToWeep_45 2 (by decide) ?_
        exact go_sub [1, 2, 0] rfl (ih _ _ _ hf)
      · have hf := hf.2 c5
        refine go_aload_n (pc := 18) C dX1_firstToWeep_18 0 rfl rfl ?_
        refine ge_X1_X1_1 (pc := 19) C ho dX1_firstToWeep_19 ?_
        refine go_iload_n (pc := 22) C dX1_firstToWeep_22 2 rfl rfl ?_
        refine al_X1_1 (pc := 23) C ho hf.1 dX1_firstToWeep_23 ?_
        have hf := hf.2
        refine go_aload_n (pc := 24) C dX1_firstToWeep_24 0 rfl rfl ?_
        refine go_iload_n (pc := 25) C dX1_firstToWeep_25 2 rfl rfl ?_
        refine go_cVi (pc := 26) C cw_X1_111 (ok_X1_brim ho hf) (rc_X1 C ho) rfl rfl rfl (by decide) rfl dX1_firstToWeep_26 (fun r8 S9 hf => ?_)
        refine go_ic_lt (pc := 29) C dX1_firstToWeep_29 42 (by decide) (fun c11 => ?_) (fun c11 => ?_)
        · have hf := hf.1 c11
          obtain ⟨x12, e13⟩ : ∃ q9 : Int32, q9 = v2 + 1 := ⟨_, rfl⟩
          refine go_iinc (pc := 42) (j := 2) (v := x12) C dX1_firstToWeep_42 [(2, .int x12), (0, .ref ((tq_la X).1 o 0)), (1, .int v1)] rfl (by rw [e13]; rfl) (by decide) rfl ?_
          have hf := hf x12 e13
          refine go_goto (pc := 45) C dX1_firstToWeep_45 2 (by decide) ?_
          exact go_sub [1, 2, 0] rfl (ih _ _ _ hf)
        · have hf := hf.2 c11
          refine go_iload_n (pc := 32) C dX1_firstToWeep_32 1 rfl rfl ?_
          refine go_iload_n (pc := 33) C dX1_firstToWeep_33 2 rfl rfl ?_
          refine go_ishr (pc := 34) C dX1_firstToWeep_34 ?_
          refine go_iconst (pc := 35) (v := 1) C dX1_firstToWeep_35 (by decide) ?_
          refine go_iand (pc := 36) C dX1_firstToWeep_36 ?_
          refine go_if_ne (pc := 37) C dX1_firstToWeep_37 42 (by decide) (fun c14 => ?_) (fun c14 => ?_)
          · have hf := hf.1 c14
            obtain ⟨x15, e16⟩ : ∃ q9 : Int32, q9 = v2 + 1 := ⟨_, rfl⟩
            refine go_iinc (pc := 42) (j := 2) (v := x15) C dX1_firstToWeep_42 [(2, .int x15), (0, .ref ((tq_la X).1 o 0)), (1, .int v1)] rfl (by rw [e16]; rfl) (by decide) rfl ?_
            have hf := hf x15 e16
            refine go_goto (pc := 45) C dX1_firstToWeep_45 2 (by decide) ?_
            exact go_sub [1, 2, 0] rfl (ih _ _ _ hf)
          · have hf := hf.2 c14
            refine go_iload_n (pc := 40) C dX1_firstToWeep_40 2 rfl rfl ?_
            exact hR _ _ _ _ dX1_firstToWeep_41 hf
set_option maxRecDepth 100000 in
set_option maxHeartbeats 4000000 in
theorem wk_X1_firstToWeep {X : tq_Cx} {o : Nat} {p1 : Int32} {S : tq_St} {K : Int32 → tq_St → Prop} (C : tq_C X cX1_firstToWeep 3 RX1 2) (hR : tq_Ri X cX1_firstToWeep 3 K) (ho : o < 19) (hf : wp_X1_firstToWeep o p1 S K) : Go X 3 S 0 [(0, .ref ((tq_la X).1 o 0)), (1, .int p1)] [] := by
  refine go_iconst (pc := 0) (v := 0) C dX1_firstToWeep_0 (by decide) ?_
  refine go_istore_n (pc := 1) C dX1_firstToWeep_1 [(2, .int 0), (0, .ref ((tq_la X).1 o 0)), (1, .int p1)] rfl (by decide) rfl ?_
  exact go_sub [1, 2, 0] rfl (wk_X1_firstToWeep_2 C hR ho 2000 _ _ _ hf)
set_option maxRecDepth 100000 in
set_option maxHeartbeats 4000000 in
theorem ok_X1_firstToWeep {o : Nat} {p1 : Int32} {S : tq_St} {K : Int32 → tq_St → Prop} (ho : o < 19) (hf : wp_X1_firstToWeep o p1 S K) : tq_Mi yX1_firstToWeep cX1_firstToWeep 3 (some .int) 2 (fun a z => [.ref (a.1 o 0), .int p1]) S K :=
  tq_mkI (by decide) (fun _ _ => Nat.le_of_ble_eq_true rfl) (fun X C hR => wk_X1_firstToWeep C hR ho hf)
set_option maxRecDepth 100000 in
set_option maxHeartbeats 4000000 in
theorem wk_X1_nearest_5 {X : tq_Cx} {o : Nat} {K : Int32 → tq_St → Prop} (C : tq_C X cX1_nearest 5 RX1 2) (hR : tq_Ri X cX1_nearest 5 K) (ho : o < 19) : ∀ (n : Nat) (v2 : Int32) (v3 : Int32) (v4 : Int32) (S : tq_St), wp_X1_nearest_5 o K n v2 v3 v4 S → Go X 5 S 5 [(0, .ref ((tq_la X).1 o 0)), (2, .int v2), (3, .int v3), (4, .int v4)] [] := by
  intro n
  induction n with
  | zero => intros; contradiction
  | succ n ih =>
    intro v2 v3 v4 S hf
    refine go_iload (pc := 5) C dX1_nearest_5 3 rfl ?_
    refine go_iconst (pc := 7) (v := 5) C dX1_nearest_7 (by decide) ?_
    refine go_ic_ge (pc := 8) C dX1_nearest_8 31 (by decide) (fun c1 => ?_) (fun c1 => ?_)
    · have hf := hf.1 c1
      refine go_bipush (pc := 31) (v := (-4)) C dX1_nearest_31 (by decide) ?_
      exact hR _ _ _ _ dX1_nearest_33 hf
    · have hf := hf.2 c1
      refine go_iload_n (pc := 11) C dX1_nearest_11 2 rfl rfl ?_
      refine go_iload_n (pc := 12) C dX1_nearest_12 1 rfl rfl ?_
      refine go_iadd (pc := 13) C dX1_nearest_13 ?_
      refine go_nI (fun x2 e3 => ?_)
      have hf := hf x2 e3
      refine go_istore_n (pc := 14) C dX1_nearest_14 [(3, .int x2), (0, .ref ((tq_la X).1 o 0)), (2, .int v2), (4, .int v4)] rfl (by decide) rfl ?_
      refine go_aload_n (pc := 15) C dX1_nearest_15 1 rfl rfl ?_
      refine go_iload_n (pc := 16) C dX1_nearest_16 0 rfl rfl ?_
      refine go_cVi (pc := 17) C cw_X1_75 (ok_X1_waits ho hf) (rc_X1 C ho) rfl rfl rfl (by decide) rfl dX1_nearest_17 (fun r4 S5 hf => ?_)
      refine go_if_eq (pc := 20) C dX1_nearest_20 25 (by decide) (fun c7 => ?_) (fun c7 => ?_)
      · have hf := hf.1 c7
        obtain ⟨x8, e9⟩ : ∃ q9 : Int32, q9 = v4 + 1 := ⟨_, rfl⟩
        refine go_iinc (pc := 25) (j := 3) (v := x8) C dX1_nearest_25 [(4, .int x8), (3, .int x2), (0, .ref ((tq_la X).1 o 0)), (2, .int v2)] rfl (by rw [e9]; rfl) (by decide) rfl ?_
        have hf := hf x8 e9
        refine go_goto (pc := 28) C dX1_nearest_28 5 (by decide) ?_
        exact go_sub [2, 3, 1, 0] rfl (ih _ _ _ _ hf)
      · have hf := hf.2 c7
        refine go_iload_n (pc := 23) C dX1_nearest_23 0 rfl rfl ?_
        exact hR _ _ _ _ dX1_nearest_24 hf
set_option maxRecDepth 100000 in
set_option maxHeartbeats 4000000 in
theorem wk_X1_nearest {X : tq_Cx} {o : Nat} {p1 : Int32} {p2 : Int32} {S : tq_St} {K : Int32 → tq_St → Prop} (C : tq_C X cX1_nearest 5 RX1 2) (hR : tq_Ri X cX1_nearest 5 K) (ho : o < 19) (hf : wp_X1_nearest o p1 p2 S K) : Go X 5 S 0 [(0, .ref ((tq_la X).1 o 0)), (1, .int p1), (2, .int p2)] [] := by
  refine go_iload_n (pc := 0) C dX1_nearest_0 1 rfl rfl ?_
  refine go_istore_n (pc := 1) C dX1_nearest_1 [(3, .int p1), (0, .ref ((tq_la X).1 o 0)), (1, .int p1), (2, .int p2)] rfl (by decide) rfl ?_
  refine go_iconst (pc := 2) (v := 0) C dX1_nearest_2 (by decide) ?_
  refine go_istore (pc := 3) C dX1_nearest_3 [(4, .int 0), (3, .int p1), (0, .ref ((tq_la X).1 o 0)), (1, .int p1), (2, .int p2)] (by decide) rfl ?_
  exact go_sub [2, 4, 1, 0] rfl (wk_X1_nearest_5 C hR ho 2000 _ _ _ _ hf)
set_option maxRecDepth 100000 in
set_option maxHeartbeats 4000000 in
theorem ok_X1_nearest {o : Nat} {p1 : Int32} {p2 : Int32} {S : tq_St} {K : Int32 → tq_St → Prop} (ho : o < 19) (hf : wp_X1_nearest o p1 p2 S K) : tq_Mi yX1_nearest cX1_nearest 5 (some .int) 2 (fun a z => [.ref (a.1 o 0), .int p1, .int p2]) S K :=
  tq_mkI (by decide) (fun _ _ => Nat.le_of_ble_eq_true rfl) (fun X C hR => wk_X1_nearest C hR ho hf)
set_option maxRecDepth 100000 in
set_option maxHeartbeats 4000000 in
theorem wk_X1_weep {X : tq_Cx} {o : Nat} {p1 : Int32} {S : tq_St} {K : tq_St → Prop} (C : tq_C X cX1_weep 2 RX1 3) (hR : tq_Rv X cX1_weep 2 K) (ho : o < 19) (hf : wp_X1_weep o p1 S K) : Go X 2 S 0 [(0, .ref ((tq_la X).1 o 0)), (1, .int p1)] [] := by
  refine go_aload_n (pc := 0) C dX1_weep_0 0 rfl rfl ?_
  refine ge_X1_X1_2 (pc := 1) C ho dX1_weep_1 ?_
  refine go_iload_n (pc := 4) C dX1_weep_4 1 rfl rfl ?_
  refine go_aload_n (pc := 5) C dX1_weep_5 0 rfl rfl ?_
  refine ge_X1_X1_7 (pc := 6) C ho dX1_weep_6 ?_
  refine as_X1_2 (pc := 9) C ho hf.1 dX1_weep_9 (fun S1 e2 => ?_)
  have hf := hf.2 S1 e2
  refine go_aload_n (pc := 10) C dX1_weep_10 0 rfl rfl ?_
  refine ge_X1_X1_1 (pc := 11) C ho dX1_weep_11 ?_
  refine go_iload_n (pc := 14) C dX1_weep_14 1 rfl rfl ?_
  refine go_iconst (pc := 15) (v := 0) C dX1_weep_15 (by decide) ?_
  refine as_X1_1 (pc := 16) C ho hf.1 dX1_weep_16 (fun S3 e4 => ?_)
  have hf := hf.2 S3 e4
  refine go_aload_n (pc := 17) C dX1_weep_17 0 rfl rfl ?_
  refine go_aload_n (pc := 18) C dX1_weep_18 0 rfl rfl ?_
  refine go_iload_n (pc := 19) C dX1_weep_19 1 rfl rfl ?_
  refine go_iconst (pc := 20) (v := (-1)) C dX1_weep_20 (by decide) ?_
  refine go_cVi (pc := 21) C cw_X1_114 (ok_X1_nearest ho hf) (rc_X1 C ho) rfl rfl rfl (by decide) rfl dX1_weep_21 (fun r5 S6 hf => ?_)
  refine go_iconst (pc := 24) (v := 2) C dX1_weep_24 (by decide) ?_
  refine go_cVv (pc := 25) C cw_X1_95 (ok_X1_sadden ho hf) (rc_X1 C ho) rfl rfl rfl (by decide) rfl dX1_weep_25 (fun S9 hf => ?_)
  refine go_aload_n (pc := 28) C dX1_weep_28 0 rfl rfl ?_
  refine go_aload_n (pc := 29) C dX1_weep_29 0 rfl rfl ?_
  refine go_iload_n (pc := 30) C dX1_weep_30 1 rfl rfl ?_
  refine go_iconst (pc := 31) (v := 1) C dX1_weep_31 (by decide) ?_
  refine go_cVi (pc := 32) C cw_X1_114 (ok_X1_nearest ho hf) (rc_X1 C ho) rfl rfl rfl (by decide) rfl dX1_weep_32 (fun r11 S12 hf => ?_)
  refine go_iconst (pc := 35) (v := 2) C dX1_weep_35 (by decide) ?_
  refine go_cVv (pc := 36) C cw_X1_95 (ok_X1_sadden ho hf) (rc_X1 C ho) rfl rfl rfl (by decide) rfl dX1_weep_36 (fun S15 hf => ?_)
  exact hR _ _ _ dX1_weep_39 hf
set_option maxRecDepth 100000 in
set_option maxHeartbeats 4000000 in
theorem ok_X1_weep {o : Nat} {p1 : Int32} {S : tq_St} {K : tq_St → Prop} (ho : o < 19) (hf : wp_X1_weep o p1 S K) : tq_Mv yX1_weep cX1_weep 2 none 3 (fun a z => [.ref (a.1 o 0), .int p1]) S K :=
  tq_mkV (by decide) (fun _ _ => Nat.le_of_ble_eq_true rfl) (fun X C hR => wk_X1_weep C hR ho hf)
set_option maxRecDepth 100000 in
set_option maxHeartbeats 4000000 in
theorem wk_X1_thinkAndWeep_57 {X : tq_Cx} {o : Nat} {K : Int32 → tq_St → Prop} (C : tq_C X cX1_thinkAndWeep 5 RX1 4) (hR : tq_Ri X cX1_thinkAndWeep 5 K) (ho : o < 19) : ∀ (v2 : Int32) (S : tq_St), wp_X1_thinkAndWeep_57 o K v2 S → Go X 5 S 57 [(0, .ref ((tq_la X).1 o 0)), (2, .int v2)] [] := by
  intro v2 S hf
  refine go_aload_n (pc := 57) C dX1_thinkAndWeep_57 0 rfl rfl ?_
  refine go_dup (pc := 58) C dX1_thinkAndWeep_58 rfl ?_
  refine ge_X1_X1_11 (pc := 59) C ho dX1_thinkAndWeep_59 ?_
  refine go_iload_n (pc := 62) C dX1_thinkAndWeep_62 1 rfl rfl ?_
  refine go_ior (pc := 63) C dX1_thinkAndWeep_63 ?_
  refine pu_X1_X1_11 (pc := 64) C ho dX1_thinkAndWeep_64 (fun S5 e6 => ?_)
  have hf := hf S5 e6
  refine go_aload_n (pc := 67) C dX1_thinkAndWeep_67 0 rfl rfl ?_
  refine go_dup (pc := 68) C dX1_thinkAndWeep_68 rfl ?_
  refine ge_X1_X1_12 (pc := 69) C ho dX1_thinkAndWeep_69 ?_
  refine go_iload_n (pc := 72) C dX1_thinkAndWeep_72 1 rfl rfl ?_
  refine go_cSi (pc := 73) C cs_X1_106 (ok_J6_bitCount_0f7a4 hf) rfl rfl rfl (by decide) rfl dX1_thinkAndWeep_73 (fun r7 S8 hf => ?_)
  refine go_iadd (pc := 76) C dX1_thinkAndWeep_76 ?_
  refine pu_X1_X1_12 (pc := 77) C ho dX1_thinkAndWeep_77 (fun S10 e11 => ?_)
  have hf := hf S10 e11
  refine go_iload_n (pc := 80) C dX1_thinkAndWeep_80 1 rfl rfl ?_
  exact hR _ _ _ _ dX1_thinkAndWeep_81 hf
set_option maxRecDepth 100000 in
set_option maxHeartbeats 4000000 in
theorem wk_X1_thinkAndWeep_13 {X : tq_Cx} {o : Nat} {K : Int32 → tq_St → Prop} (C : tq_C X cX1_thinkAndWeep 5 RX1 4) (hR : tq_Ri X cX1_thinkAndWeep 5 K) (ho : o < 19) : ∀ (n : Nat) (v2 : Int32) (v3 : Int32) (S : tq_St), wp_X1_thinkAndWeep_13 o K n v2 v3 S → Go X 5 S 13 [(0, .ref ((tq_la X).1 o 0)), (2, .int v2), (3, .int v3)] [] := by
  intro n
  induction n with
  | zero => intros; contradiction
  | succ n ih =>
    intro v2 v3 S hf
    refine go_iload_n (pc := 13) C dX1_thinkAndWeep_13 2 rfl rfl ?_
    refine go_aload_n (pc := 14) C dX1_thinkAndWeep_14 0 rfl rfl ?_
    refine ge_X1_X1_5 (pc := 15) C ho dX1_thinkAndWeep_15 ?_
    refine go_ic_ge (pc := 18) C dX1_thinkAndWeep_18 57 (by decide) (fun c4 => ?_) (fun c4 => ?_)
    · have hf := hf.1 c4
      exact go_sub [0, 1] rfl (wk_X1_thinkAndWeep_57 C hR ho _ _ hf)
    · have hf := hf.2 c4
      refine go_aload_n (pc := 21) C dX1_thinkAndWeep_21 0 rfl rfl ?_
      refine go_iload_n (pc := 22) C dX1_thinkAndWeep_22 1 rfl rfl ?_
      refine go_cVi (pc := 23) C cw_X1_99 (ok_X1_firstToWeep ho hf) (rc_X1 C ho) rfl rfl rfl (by decide) rfl dX1_thinkAndWeep_23 (fun r12 S13 hf => ?_)
      refine go_istore (pc := 26) C dX1_thinkAndWeep_26 [(4, .int r12), (0, .ref ((tq_la X).1 o 0)), (2, .int v2), (3, .int v3)] (by decide) rfl ?_
      refine go_iload (pc := 28) C dX1_thinkAndWeep_28 0 rfl ?_
      refine go_bipush (pc := 30) (v := (-4)) C dX1_thinkAndWeep_30 (by decide) ?_
      refine go_ic_ne (pc := 32) C dX1_thinkAndWeep_32 38 (by decide) (fun c15 => ?_) (fun c15 => ?_)
      · have hf := hf.1 c15
        refine go_aload_n (pc := 38) C dX1_thinkAndWeep_38 1 rfl rfl ?_
        refine go_iload (pc := 39) C dX1_thinkAndWeep_39 0 rfl ?_
        refine go_cVv (pc := 41) C cw_X1_102 (ok_X1_weep ho hf) (rc_X1 C ho) rfl rfl rfl (by decide) rfl dX1_thinkAndWeep_41 (fun S17 hf => ?_)
        refine go_iload_n (pc := 44) C dX1_thinkAndWeep_44 2 rfl rfl ?_
        refine go_iconst (pc := 45) (v := 1) C dX1_thinkAndWeep_45 (by decide) ?_
        refine go_iload (pc := 46) C dX1_thinkAndWeep_46 0 rfl ?_
        refine go_ishl (pc := 48) C dX1_thinkAndWeep_48 ?_
        refine go_ior (pc := 49) C dX1_thinkAndWeep_49 ?_
        refine go_nI (fun x19 e20 => ?_)
        have hf := hf x19 e20
        refine go_istore_n (pc := 50) C dX1_thinkAndWeep_50 [(2, .int x19), (4, .int r12), (0, .ref ((tq_la X).1 o 0)), (3, .int v3)] rfl (by decide) rfl ?_
        obtain ⟨x21, e22⟩ : ∃ q9 : Int32, q9 = v3 + 1 := ⟨_, rfl⟩
        refine go_iinc (pc := 51) (j := 3) (v := x21) C dX1_thinkAndWeep_51 [(3, .int x21), (2, .int x19), (4, .int r12), (0, .ref ((tq_la X).1 o 0))] rfl (by rw [e22]; rfl) (by decide) rfl ?_
        have hf := hf x21 e22
        refine go_goto (pc := 54) C dX1_thinkAndWeep_54 13 (by decide) ?_
        exact go_sub [3, 1, 0] rfl (ih _ _ _ hf)
      · have hf := hf.2 c15
        refine go_goto (pc := 35) C dX1_thinkAndWeep_35 57 (by decide) ?_
        exact go_sub [1, 2] rfl (wk_X1_thinkAndWeep_57 C hR ho _ _ hf)
set_option maxRecDepth 100000 in
set_option maxHeartbeats 4000000 in
theorem wk_X1_thinkAndWeep {X : tq_Cx} {o : Nat} {p1 : Int32} {S : tq_St} {K : Int32 → tq_St → Prop} (C : tq_C X cX1_thinkAndWeep 5 RX1 4) (hR : tq_Ri X cX1_thinkAndWeep 5 K) (ho : o < 19) (hf : wp_X1_thinkAndWeep o p1 S K) : Go X 5 S 0 [(0, .ref ((tq_la X).1 o 0)), (1, .int p1)] [] := by
  refine go_aload_n (pc := 0) C dX1_thinkAndWeep_0 0 rfl rfl ?_
  refine go_iload_n (pc := 1) C dX1_thinkAndWeep_1 1 rfl rfl ?_
  refine go_aload_n (pc := 2) C dX1_thinkAndWeep_2 0 rfl rfl ?_
  refine ge_X1_X1_9 (pc := 3) C ho dX1_thinkAndWeep_3 ?_
  refine go_cVv (pc := 6) C cw_X1_95 (ok_X1_sadden ho hf) (rc_X1 C ho) rfl rfl rfl (by decide) rfl dX1_thinkAndWeep_6 (fun S2 hf => ?_)
  refine go_iconst (pc := 9) (v := 0) C dX1_thinkAndWeep_9 (by decide) ?_
  refine go_istore_n (pc := 10) C dX1_thinkAndWeep_10 [(2, .int 0), (0, .ref ((tq_la X).1 o 0)), (1, .int p1)] rfl (by decide) rfl ?_
  refine go_iconst (pc := 11) (v := 0) C dX1_thinkAndWeep_11 (by decide) ?_
  refine go_istore_n (pc := 12) C dX1_thinkAndWeep_12 [(3, .int 0), (2, .int 0), (0, .ref ((tq_la X).1 o 0)), (1, .int p1)] rfl (by decide) rfl ?_
  exact go_sub [2, 1, 0] rfl (wk_X1_thinkAndWeep_13 C hR ho 2000 _ _ _ hf)
set_option maxRecDepth 100000 in
set_option maxHeartbeats 4000000 in
theorem ok_X1_thinkAndWeep {o : Nat} {p1 : Int32} {S : tq_St} {K : Int32 → tq_St → Prop} (ho : o < 19) (hf : wp_X1_thinkAndWeep o p1 S K) : tq_Mi yX1_thinkAndWeep cX1_thinkAndWeep 5 (some .int) 4 (fun a z => [.ref (a.1 o 0), .int p1]) S K :=
  tq_mkI (by decide) (fun _ _ => Nat.le_of_ble_eq_true rfl) (fun X C hR => wk_X1_thinkAndWeep C hR ho hf)
set_option maxRecDepth 100000 in
set_option maxHeartbeats 4000000 in
theorem wk_X1_play {X : tq_Cx} {o : Nat} {p1 : Int32} {S : tq_St} {K : Int32 → tq_St → Prop} (C : tq_C X cX1_play 2 RX1 5) (hR : tq_Rz X cX1_play 2 K) (ho : o < 19) (hf : wp_X1_play o p1 S K) : Go X 2 S 0 [(0, .ref ((tq_la X).1 o 0)), (1, .int p1)] [] := by
  refine go_iload_n (pc := 0) C dX1_play_0 1 rfl rfl ?_
  refine go_iconst (pc := 1) (v := 5) C dX1_play_1 (by decide) ?_
  refine go_ic_ne (pc := 2) C dX1_play_2 11 (by decide) (fun c1 => ?_) (fun c1 => ?_)
  · have hf := hf.1 c1
    refine go_iload_n (pc := 11) C dX1_play_11 1 rfl rfl ?_
    refine go_bipush (pc := 12) (v := 6) C dX1_play_12 (by decide) ?_
    refine go_ic_ne (pc := 14) C dX1_play_14 24 (by decide) (fun c2 => ?_) (fun c2 => ?_)
    · have hf := hf.1 c2
      refine go_aload_n (pc := 24) C dX1_play_24 0 rfl rfl ?_
      refine go_iload_n (pc := 25) C dX1_play_25 1 rfl rfl ?_
      refine go_cVi (pc := 26) C cw_X1_75 (ok_X1_waits ho hf) (rc_X1 C ho) rfl rfl rfl (by decide) rfl dX1_play_26 (fun r3 S4 hf => ?_)
      refine go_if_ne (pc := 29) C dX1_play_29 34 (by decide) (fun c6 => ?_) (fun c6 => ?_)
      · have hf := hf.1 c6
        refine go_aload_n (pc := 34) C dX1_play_34 0 rfl rfl ?_
        refine go_iload_n (pc := 35) C dX1_play_35 1 rfl rfl ?_
        refine go_cVi (pc := 36) C cw_X1_91 (ok_X1_thinkAndWeep ho hf) (rc_X1 C ho) rfl rfl rfl (by decide) rfl dX1_play_36 (fun r7 S8 hf => ?_)
        refine go_pop (pc := 39) C dX1_play_39 rfl ?_
        refine go_iconst (pc := 40) (v := 1) C dX1_play_40 (by decide) ?_
        exact hR _ _ _ _ dX1_play_41 (Or.inr rfl) hf
      · have hf := hf.2 c6
        refine go_iconst (pc := 32) (v := 0) C dX1_play_32 (by decide) ?_
        exact hR _ _ _ _ dX1_play_33 (Or.inl rfl) hf
    · have hf := hf.2 c2
      refine go_aload_n (pc := 17) C dX1_play_17 0 rfl rfl ?_
      refine go_cVi (pc := 18) C cw_X1_87 (ok_X1_board ho hf) (rc_X1 C ho) rfl rfl rfl (by decide) rfl dX1_play_18 (fun r10 S11 hf => ?_)
      refine go_pop (pc := 21) C dX1_play_21 rfl ?_
      refine go_iconst (pc := 22) (v := 1) C dX1_play_22 (by decide) ?_
      exact hR _ _ _ _ dX1_play_23 (Or.inr rfl) hf
  · have hf := hf.2 c1
    refine go_aload_n (pc := 5) C dX1_play_5 0 rfl rfl ?_
    refine go_cVv (pc := 6) C cw_X1_84 (ok_X1_dry ho hf) (rc_X1 C ho) rfl rfl rfl (by decide) rfl dX1_play_6 (fun S14 hf => ?_)
    refine go_iconst (pc := 9) (v := 1) C dX1_play_9 (by decide) ?_
    exact hR _ _ _ _ dX1_play_10 (Or.inr rfl) hf
set_option maxRecDepth 100000 in
set_option maxHeartbeats 4000000 in
theorem ok_X1_play {o : Nat} {p1 : Int32} {S : tq_St} {K : Int32 → tq_St → Prop} (ho : o < 19) (hf : wp_X1_play o p1 S K) : tq_Mi yX1_play cX1_play 2 (some .boolean) 5 (fun a z => [.ref (a.1 o 0), .int p1]) S K :=
  tq_mkZ (by decide) (fun _ _ => Nat.le_of_ble_eq_true rfl) (fun X C hR => wk_X1_play C hR ho hf)
set_option maxRecDepth 100000 in
set_option maxHeartbeats 4000000 in
theorem wk_X1_followPlan_2 {X : tq_Cx} {o : Nat} {K : tq_St → Prop} (C : tq_C X cX1_followPlan 2 RX1 6) (hR : tq_Rv X cX1_followPlan 2 K) (ho : o < 19) : ∀ (n : Nat) (v1 : Int32) (S : tq_St), wp_X1_followPlan_2 o K n v1 S → Go X 2 S 2 [(0, .ref ((tq_la X).1 o 0)), (1, .int v1)] [] := by
  intro n
  induction n with
  | zero => intros; contradiction
  | succ n ih =>
    intro v1 S hf
    refine go_iload_n (pc := 2) C dX1_followPlan_2 1 rfl rfl ?_
    refine go_aload_n (pc := 3) C dX1_followPlan_3 0 rfl rfl ?_
    refine ge_X1_X1_10 (pc := 4) C ho dX1_followPlan_4 ?_
    refine go_ic_ge (pc := 7) C dX1_followPlan_7 43 (by decide) (fun c1 => ?_) (fun c1 => ?_)
    · have hf := hf.1 c1
      exact hR _ _ _ dX1_followPlan_43 hf
    · have hf := hf.2 c1
      refine go_aload_n (pc := 10) C dX1_followPlan_10 0 rfl rfl ?_
      refine go_aload_n (pc := 11) C dX1_followPlan_11 0 rfl rfl ?_
      refine ge_X1_X1_3 (pc := 12) C ho dX1_followPlan_12 ?_
      refine go_iload_n (pc := 15) C dX1_followPlan_15 1 rfl rfl ?_
      refine al_X1_3 (pc := 16) C ho hf.1 dX1_followPlan_16 ?_
      have hf := hf.2
      refine go_cVi (pc := 17) C cw_X1_81 (ok_X1_play ho hf) (rc_X1 C ho) rfl rfl rfl (by decide) rfl dX1_followPlan_17 (fun r2 S3 hf => ?_)
      refine go_if_ne (pc := 20) C dX1_followPlan_20 37 (by decide) (fun c5 => ?_) (fun c5 => ?_)
      · have hf := hf.1 c5
        obtain ⟨x6, e7⟩ : ∃ q9 : Int32, q9 = v1 + 1 := ⟨_, rfl⟩
        refine go_iinc (pc := 37) (j := 1) (v := x6) C dX1_followPlan_37 [(1, .int x6), (0, .ref ((tq_la X).1 o 0))] rfl (by rw [e7]; rfl) (by decide) rfl ?_
        have hf := hf x6 e7
        refine go_goto (pc := 40) C dX1_followPlan_40 2 (by decide) ?_
        exact go_sub [1, 0] rfl (ih _ _ hf)
      · have hf := hf.2 c5
        refine go_aload_n (pc := 23) C dX1_followPlan_23 0 rfl rfl ?_
        refine ge_X1_X1_13 (pc := 24) C ho dX1_followPlan_24 ?_
        refine go_bipush (pc := 27) (v := (-4)) C dX1_followPlan_27 (by decide) ?_
        refine go_ic_ne (pc := 29) C dX1_followPlan_29 37 (by decide) (fun c8 => ?_) (fun c8 => ?_)
        · have hf := hf.1 c8
          obtain ⟨x9, e10⟩ : ∃ q9 : Int32, q9 = v1 + 1 := ⟨_, rfl⟩
          refine go_iinc (pc := 37) (j := 1) (v := x9) C dX1_followPlan_37 [(1, .int x9), (0, .ref ((tq_la X).1 o 0))] rfl (by rw [e10]; rfl) (by decide) rfl ?_
          have hf := hf x9 e10
          refine go_goto (pc := 40) C dX1_followPlan_40 2 (by decide) ?_
          exact go_sub [1, 0] rfl (ih _ _ hf)
        · have hf := hf.2 c8
          refine go_aload_n (pc := 32) C dX1_followPlan_32 0 rfl rfl ?_
          refine go_iload_n (pc := 33) C dX1_followPlan_33 1 rfl rfl ?_
          refine pu_X1_X1_13 (pc := 34) C ho dX1_followPlan_34 (fun S11 e12 => ?_)
          have hf := hf S11 e12
          obtain ⟨x13, e14⟩ : ∃ q9 : Int32, q9 = v1 + 1 := ⟨_, rfl⟩
          refine go_iinc (pc := 37) (j := 1) (v := x13) C dX1_followPlan_37 [(1, .int x13), (0, .ref ((tq_la X).1 o 0))] rfl (by rw [e14]; rfl) (by decide) rfl ?_
          have hf := hf x13 e14
          refine go_goto (pc := 40) C dX1_followPlan_40 2 (by decide) ?_
          exact go_sub [1, 0] rfl (ih _ _ hf)
set_option maxRecDepth 100000 in
set_option maxHeartbeats 4000000 in
theorem wk_X1_followPlan {X : tq_Cx} {o : Nat} {S : tq_St} {K : tq_St → Prop} (C : tq_C X cX1_followPlan 2 RX1 6) (hR : tq_Rv X cX1_followPlan 2 K) (ho : o < 19) (hf : wp_X1_followPlan o S K) : Go X 2 S 0 [(0, .ref ((tq_la X).1 o 0))] [] := by
  refine go_iconst (pc := 0) (v := 0) C dX1_followPlan_0 (by decide) ?_
  refine go_istore_n (pc := 1) C dX1_followPlan_1 [(1, .int 0), (0, .ref ((tq_la X).1 o 0))] rfl (by decide) rfl ?_
  exact go_sub [1, 0] rfl (wk_X1_followPlan_2 C hR ho 2000 _ _ hf)
set_option maxRecDepth 100000 in
set_option maxHeartbeats 4000000 in
theorem ok_X1_followPlan {o : Nat} {S : tq_St} {K : tq_St → Prop} (ho : o < 19) (hf : wp_X1_followPlan o S K) : tq_Mv yX1_followPlan cX1_followPlan 2 none 6 (fun a z => [.ref (a.1 o 0)]) S K :=
  tq_mkV (by decide) (fun _ _ => Nat.le_of_ble_eq_true rfl) (fun X C hR => wk_X1_followPlan C hR ho hf)
set_option maxRecDepth 100000 in
set_option maxHeartbeats 4000000 in
theorem wk_X1_weptOrNone {X : tq_Cx} {o : Nat} {p1 : Int32} {S : tq_St} {K : Int32 → tq_St → Prop} (C : tq_C X cX1_weptOrNone 2 RX1 1) (hR : tq_Ri X cX1_weptOrNone 2 K) (ho : o < 19) (hf : wp_X1_weptOrNone o p1 S K) : Go X 2 S 0 [(0, .ref ((tq_la X).1 o 0)), (1, .int p1)] [] := by
  refine go_aload_n (pc := 0) C dX1_weptOrNone_0 0 rfl rfl ?_
  refine ge_X1_X1_2 (pc := 1) C ho dX1_weptOrNone_1 ?_
  refine go_iload_n (pc := 4) C dX1_weptOrNone_4 1 rfl rfl ?_
  refine al_X1_2 (pc := 5) C ho hf.1 dX1_weptOrNone_5 ?_
  have hf := hf.2
  refine go_iconst (pc := 6) (v := (-1)) C dX1_weptOrNone_6 (by decide) ?_
  refine go_ic_ne (pc := 7) C dX1_weptOrNone_7 15 (by decide) (fun c1 => ?_) (fun c1 => ?_)
  · have hf := hf.1 c1
    refine go_aload_n (pc := 15) C dX1_weptOrNone_15 0 rfl rfl ?_
    refine ge_X1_X1_2 (pc := 16) C ho dX1_weptOrNone_16 ?_
    refine go_iload_n (pc := 19) C dX1_weptOrNone_19 1 rfl rfl ?_
    refine al_X1_2 (pc := 20) C ho hf.1 dX1_weptOrNone_20 ?_
    have hf := hf.2
    exact hR _ _ _ _ dX1_weptOrNone_21 hf
  · have hf := hf.2 c1
    refine go_bipush (pc := 10) (v := (-4)) C dX1_weptOrNone_10 (by decide) ?_
    refine go_goto (pc := 12) C dX1_weptOrNone_12 21 (by decide) ?_
    exact hR _ _ _ _ dX1_weptOrNone_21 hf
set_option maxRecDepth 100000 in
set_option maxHeartbeats 4000000 in
theorem ok_X1_weptOrNone {o : Nat} {p1 : Int32} {S : tq_St} {K : Int32 → tq_St → Prop} (ho : o < 19) (hf : wp_X1_weptOrNone o p1 S K) : tq_Mi yX1_weptOrNone cX1_weptOrNone 2 (some .int) 1 (fun a z => [.ref (a.1 o 0), .int p1]) S K :=
  tq_mkI (by decide) (fun _ _ => Nat.le_of_ble_eq_true rfl) (fun X C hR => wk_X1_weptOrNone C hR ho hf)
set_option maxRecDepth 100000 in
set_option maxHeartbeats 4000000 in
theorem wk_X1_everWept_4 {X : tq_Cx} {o : Nat} {K : Int32 → tq_St → Prop} (C : tq_C X cX1_everWept 3 RX1 1) (hR : tq_Ri X cX1_everWept 3 K) (ho : o < 19) : ∀ (n : Nat) (v1 : Int32) (v2 : Int32) (S : tq_St), wp_X1_everWept_4 o K n v1 v2 S → Go X 3 S 4 [(0, .ref ((tq_la X).1 o 0)), (1, .int v1), (2, .int v2)] [] := by
  intro n
  induction n with
  | zero => intros; contradiction
  | succ n ih =>
    intro v1 v2 S hf
    refine go_iload_n (pc := 4) C dX1_everWept_4 2 rfl rfl ?_
    refine go_aload_n (pc := 5) C dX1_everWept_5 0 rfl rfl ?_
    refine ge_X1_X1_5 (pc := 6) C ho dX1_everWept_6 ?_
    refine go_ic_ge (pc := 9) C dX1_everWept_9 31 (by decide) (fun c1 => ?_) (fun c1 => ?_)
    · have hf := hf.1 c1
      refine go_iload_n (pc := 31) C dX1_everWept_31 1 rfl rfl ?_
      exact hR _ _ _ _ dX1_everWept_32 hf
    · have hf := hf.2 c1
      refine go_aload_n (pc := 12) C dX1_everWept_12 0 rfl rfl ?_
      refine ge_X1_X1_2 (pc := 13) C ho dX1_everWept_13 ?_
      refine go_iload_n (pc := 16) C dX1_everWept_16 2 rfl rfl ?_
      refine al_X1_2 (pc := 17) C ho hf.1 dX1_everWept_17 ?_
      have hf := hf.2
      refine go_iconst (pc := 18) (v := (-1)) C dX1_everWept_18 (by decide) ?_
      refine go_ic_eq (pc := 19) C dX1_everWept_19 25 (by decide) (fun c2 => ?_) (fun c2 => ?_)
      · have hf := hf.1 c2
        obtain ⟨x3, e4⟩ : ∃ q9 : Int32, q9 = v2 + 1 := ⟨_, rfl⟩
        refine go_iinc (pc := 25) (j := 2) (v := x3) C dX1_everWept_25 [(2, .int x3), (0, .ref ((tq_la X).1 o 0)), (1, .int v1)] rfl (by rw [e4]; rfl) (by decide) rfl ?_
        have hf := hf x3 e4
        refine go_goto (pc := 28) C dX1_everWept_28 4 (by decide) ?_
        exact go_sub [1, 2, 0] rfl (ih _ _ _ hf)
      · have hf := hf.2 c2
        obtain ⟨x5, e6⟩ : ∃ q9 : Int32, q9 = v1 + 1 := ⟨_, rfl⟩
        refine go_iinc (pc := 22) (j := 1) (v := x5) C dX1_everWept_22 [(1, .int x5), (0, .ref ((tq_la X).1 o 0)), (2, .int v2)] rfl (by rw [e6]; rfl) (by decide) rfl ?_
        have hf := hf x5 e6
        obtain ⟨x7, e8⟩ : ∃ q9 : Int32, q9 = v2 + 1 := ⟨_, rfl⟩
        refine go_iinc (pc := 25) (j := 2) (v := x7) C dX1_everWept_25 [(2, .int x7), (1, .int x5), (0, .ref ((tq_la X).1 o 0))] rfl (by rw [e8]; rfl) (by decide) rfl ?_
        have hf := hf x7 e8
        refine go_goto (pc := 28) C dX1_everWept_28 4 (by decide) ?_
        exact go_sub [2, 1, 0] rfl (ih _ _ _ hf)
set_option maxRecDepth 100000 in
set_option maxHeartbeats 4000000 in
theorem wk_X1_everWept {X : tq_Cx} {o : Nat} {S : tq_St} {K : Int32 → tq_St → Prop} (C : tq_C X cX1_everWept 3 RX1 1) (hR : tq_Ri X cX1_everWept 3 K) (ho : o < 19) (hf : wp_X1_everWept o S K) : Go X 3 S 0 [(0, .ref ((tq_la X).1 o 0))] [] := by
  refine go_iconst (pc := 0) (v := 0) C dX1_everWept_0 (by decide) ?_
  refine go_istore_n (pc := 1) C dX1_everWept_1 [(1, .int 0), (0, .ref ((tq_la X).1 o 0))] rfl (by decide) rfl ?_
  refine go_iconst (pc := 2) (v := 0) C dX1_everWept_2 (by decide) ?_
  refine go_istore_n (pc := 3) C dX1_everWept_3 [(2, .int 0), (1, .int 0), (0, .ref ((tq_la X).1 o 0))] rfl (by decide) rfl ?_
  exact go_sub [2, 1, 0] rfl (wk_X1_everWept_4 C hR ho 2000 _ _ _ hf)
set_option maxRecDepth 100000 in
set_option maxHeartbeats 4000000 in
theorem ok_X1_everWept {o : Nat} {S : tq_St} {K : Int32 → tq_St → Prop} (ho : o < 19) (hf : wp_X1_everWept o S K) : tq_Mi yX1_everWept cX1_everWept 3 (some .int) 1 (fun a z => [.ref (a.1 o 0)]) S K :=
  tq_mkI (by decide) (fun _ _ => Nat.le_of_ble_eq_true rfl) (fun X C hR => wk_X1_everWept C hR ho hf)
set_option maxRecDepth 100000 in
set_option maxHeartbeats 4000000 in
theorem wk_X1_tramsPlanned_4 {X : tq_Cx} {o : Nat} {K : Int32 → tq_St → Prop} (C : tq_C X cX1_tramsPlanned 3 RX1 1) (hR : tq_Ri X cX1_tramsPlanned 3 K) (ho : o < 19) : ∀ (n : Nat) (v1 : Int32) (v2 : Int32) (S : tq_St), wp_X1_tramsPlanned_4 o K n v1 v2 S → Go X 3 S 4 [(0, .ref ((tq_la X).1 o 0)), (1, .int v1), (2, .int v2)] [] := by
  intro n
  induction n with
  | zero => intros; contradiction
  | succ n ih =>
    intro v1 v2 S hf
    refine go_iload_n (pc := 4) C dX1_tramsPlanned_4 2 rfl rfl ?_
    refine go_aload_n (pc := 5) C dX1_tramsPlanned_5 0 rfl rfl ?_
    refine ge_X1_X1_10 (pc := 6) C ho dX1_tramsPlanned_6 ?_
    refine go_ic_ge (pc := 9) C dX1_tramsPlanned_9 32 (by decide) (fun c1 => ?_) (fun c1 => ?_)
    · have hf := hf.1 c1
      refine go_iload_n (pc := 32) C dX1_tramsPlanned_32 1 rfl rfl ?_
      exact hR _ _ _ _ dX1_tramsPlanned_33 hf
    · have hf := hf.2 c1
      refine go_aload_n (pc := 12) C dX1_tramsPlanned_12 0 rfl rfl ?_
      refine ge_X1_X1_3 (pc := 13) C ho dX1_tramsPlanned_13 ?_
      refine go_iload_n (pc := 16) C dX1_tramsPlanned_16 2 rfl rfl ?_
      refine al_X1_3 (pc := 17) C ho hf.1 dX1_tramsPlanned_17 ?_
      have hf := hf.2
      refine go_bipush (pc := 18) (v := 6) C dX1_tramsPlanned_18 (by decide) ?_
      refine go_ic_ne (pc := 20) C dX1_tramsPlanned_20 26 (by decide) (fun c2 => ?_) (fun c2 => ?_)
      · have hf := hf.1 c2
        obtain ⟨x3, e4⟩ : ∃ q9 : Int32, q9 = v2 + 1 := ⟨_, rfl⟩
        refine go_iinc (pc := 26) (j := 2) (v := x3) C dX1_tramsPlanned_26 [(2, .int x3), (0, .ref ((tq_la X).1 o 0)), (1, .int v1)] rfl (by rw [e4]; rfl) (by decide) rfl ?_
        have hf := hf x3 e4
        refine go_goto (pc := 29) C dX1_tramsPlanned_29 4 (by decide) ?_
        exact go_sub [1, 2, 0] rfl (ih _ _ _ hf)
      · have hf := hf.2 c2
        obtain ⟨x5, e6⟩ : ∃ q9 : Int32, q9 = v1 + 1 := ⟨_, rfl⟩
        refine go_iinc (pc := 23) (j := 1) (v := x5) C dX1_tramsPlanned_23 [(1, .int x5), (0, .ref ((tq_la X).1 o 0)), (2, .int v2)] rfl (by rw [e6]; rfl) (by decide) rfl ?_
        have hf := hf x5 e6
        obtain ⟨x7, e8⟩ : ∃ q9 : Int32, q9 = v2 + 1 := ⟨_, rfl⟩
        refine go_iinc (pc := 26) (j := 2) (v := x7) C dX1_tramsPlanned_26 [(2, .int x7), (1, .int x5), (0, .ref ((tq_la X).1 o 0))] rfl (by rw [e8]; rfl) (by decide) rfl ?_
        have hf := hf x7 e8
        refine go_goto (pc := 29) C dX1_tramsPlanned_29 4 (by decide) ?_
        exact go_sub [2, 1, 0] rfl (ih _ _ _ hf)
set_option maxRecDepth 100000 in
set_option maxHeartbeats 4000000 in
theorem wk_X1_tramsPlanned {X : tq_Cx} {o : Nat} {S : tq_St} {K : Int32 → tq_St → Prop} (C : tq_C X cX1_tramsPlanned 3 RX1 1) (hR : tq_Ri X cX1_tramsPlanned 3 K) (ho : o < 19) (hf : wp_X1_tramsPlanned o S K) : Go X 3 S 0 [(0, .ref ((tq_la X).1 o 0))] [] := by
  refine go_iconst (pc := 0) (v := 0) C dX1_tramsPlanned_0 (by decide) ?_
  refine go_istore_n (pc := 1) C dX1_tramsPlanned_1 [(1, .int 0), (0, .ref ((tq_la X).1 o 0))] rfl (by decide) rfl ?_
  refine go_iconst (pc := 2) (v := 0) C dX1_tramsPlanned_2 (by decide) ?_
  refine go_istore_n (pc := 3) C dX1_tramsPlanned_3 [(2, .int 0), (1, .int 0), (0, .ref ((tq_la X).1 o 0))] rfl (by decide) rfl ?_
  exact go_sub [2, 1, 0] rfl (wk_X1_tramsPlanned_4 C hR ho 2000 _ _ _ hf)
set_option maxRecDepth 100000 in
set_option maxHeartbeats 4000000 in
theorem ok_X1_tramsPlanned {o : Nat} {S : tq_St} {K : Int32 → tq_St → Prop} (ho : o < 19) (hf : wp_X1_tramsPlanned o S K) : tq_Mi yX1_tramsPlanned cX1_tramsPlanned 3 (some .int) 1 (fun a z => [.ref (a.1 o 0)]) S K :=
  tq_mkI (by decide) (fun _ _ => Nat.le_of_ble_eq_true rfl) (fun X C hR => wk_X1_tramsPlanned C hR ho hf)
set_option maxRecDepth 100000 in
set_option maxHeartbeats 4000000 in
theorem wk_X1_inLine {X : tq_Cx} {o : Nat} {p1 : Int32} {S : tq_St} {K : Int32 → tq_St → Prop} (C : tq_C X cX1_inLine 3 RX1 3) (hR : tq_Ri X cX1_inLine 3 K) (ho : o < 19) (hf : wp_X1_inLine o p1 S K) : Go X 3 S 0 [(0, .ref ((tq_la X).1 o 0)), (1, .int p1)] [] := by
  refine go_aload_n (pc := 0) C dX1_inLine_0 0 rfl rfl ?_
  refine go_cVi (pc := 1) C cw_X1_126 (ok_X1_lineUp ho hf) (rc_X1 C ho) rfl rfl rfl (by decide) rfl dX1_inLine_1 (fun r1 S2 hf => ?_)
  refine go_istore_n (pc := 4) C dX1_inLine_4 [(2, .int r1), (0, .ref ((tq_la X).1 o 0)), (1, .int p1)] rfl (by decide) rfl ?_
  refine go_iload_n (pc := 5) C dX1_inLine_5 2 rfl rfl ?_
  refine go_if_lt (pc := 6) C dX1_inLine_6 23 (by decide) (fun c4 => ?_) (fun c4 => ?_)
  · have hf := hf.1 c4
    refine go_bipush (pc := 23) (v := (-4)) C dX1_inLine_23 (by decide) ?_
    exact hR _ _ _ _ dX1_inLine_25 hf
  · have hf := hf.2 c4
    refine go_iload_n (pc := 9) C dX1_inLine_9 2 rfl rfl ?_
    refine go_iload_n (pc := 10) C dX1_inLine_10 0 rfl rfl ?_
    refine go_ic_ge (pc := 11) C dX1_inLine_11 23 (by decide) (fun c5 => ?_) (fun c5 => ?_)
    · have hf := hf.1 c5
      refine go_bipush (pc := 23) (v := (-4)) C dX1_inLine_23 (by decide) ?_
      exact hR _ _ _ _ dX1_inLine_25 hf
    · have hf := hf.2 c5
      refine go_aload_n (pc := 14) C dX1_inLine_14 1 rfl rfl ?_
      refine ge_X1_X1_4 (pc := 15) C ho dX1_inLine_15 ?_
      refine go_iload_n (pc := 18) C dX1_inLine_18 2 rfl rfl ?_
      refine al_X1_4 (pc := 19) C ho hf.1 dX1_inLine_19 ?_
      have hf := hf.2
      refine go_goto (pc := 20) C dX1_inLine_20 25 (by decide) ?_
      exact hR _ _ _ _ dX1_inLine_25 hf
set_option maxRecDepth 100000 in
set_option maxHeartbeats 4000000 in
theorem ok_X1_inLine {o : Nat} {p1 : Int32} {S : tq_St} {K : Int32 → tq_St → Prop} (ho : o < 19) (hf : wp_X1_inLine o p1 S K) : tq_Mi yX1_inLine cX1_inLine 3 (some .int) 3 (fun a z => [.ref (a.1 o 0), .int p1]) S K :=
  tq_mkI (by decide) (fun _ _ => Nat.le_of_ble_eq_true rfl) (fun X C hR => wk_X1_inLine C hR ho hf)
set_option maxRecDepth 100000 in
set_option maxHeartbeats 4000000 in
theorem wk_X1_waitingBits {X : tq_Cx} {o : Nat} {S : tq_St} {K : Int32 → tq_St → Prop} (C : tq_C X cX1_waitingBits 1 RX1 1) (hR : tq_Ri X cX1_waitingBits 1 K) (ho : o < 19) (hf : wp_X1_waitingBits o S K) : Go X 1 S 0 [(0, .ref ((tq_la X).1 o 0))] [] := by
  refine go_iconst (pc := 0) (v := 1) C dX1_waitingBits_0 (by decide) ?_
  refine go_aload_n (pc := 1) C dX1_waitingBits_1 0 rfl rfl ?_
  refine ge_X1_X1_5 (pc := 2) C ho dX1_waitingBits_2 ?_
  refine go_ishl (pc := 5) C dX1_waitingBits_5 ?_
  refine go_iconst (pc := 6) (v := 1) C dX1_waitingBits_6 (by decide) ?_
  refine go_isub (pc := 7) C dX1_waitingBits_7 ?_
  refine go_aload_n (pc := 8) C dX1_waitingBits_8 0 rfl rfl ?_
  refine ge_X1_X1_6 (pc := 9) C ho dX1_waitingBits_9 ?_
  refine go_iconst (pc := 12) (v := (-1)) C dX1_waitingBits_12 (by decide) ?_
  refine go_ixor (pc := 13) C dX1_waitingBits_13 ?_
  refine go_iand (pc := 14) C dX1_waitingBits_14 ?_
  exact hR _ _ _ _ dX1_waitingBits_15 hf
set_option maxRecDepth 100000 in
set_option maxHeartbeats 4000000 in
theorem ok_X1_waitingBits {o : Nat} {S : tq_St} {K : Int32 → tq_St → Prop} (ho : o < 19) (hf : wp_X1_waitingBits o S K) : tq_Mi yX1_waitingBits cX1_waitingBits 1 (some .int) 1 (fun a z => [.ref (a.1 o 0)]) S K :=
  tq_mkI (by decide) (fun _ _ => Nat.le_of_ble_eq_true rfl) (fun X C hR => wk_X1_waitingBits C hR ho hf)
set_option maxRecDepth 100000 in
set_option maxHeartbeats 4000000 in
theorem wk_X1_changeActs {X : tq_Cx} {o : Nat} {p1 : Int32} {p2 : Int32} {S : tq_St} {K : tq_St → Prop} (C : tq_C X cX1_changeActs 4 RX1 1) (hR : tq_Rv X cX1_changeActs 4 K) (ho : o < 19) (hf : wp_X1_changeActs o p1 p2 S K) : Go X 4 S 0 [(0, .ref ((tq_la X).1 o 0)), (1, .int p1), (2, .int p2)] [] := by
  refine go_iload_n (pc := 0) C dX1_changeActs_0 1 rfl rfl ?_
  refine go_if_lt (pc := 1) C dX1_changeActs_1 50 (by decide) (fun c1 => ?_) (fun c1 => ?_)
  · have hf := hf.1 c1
    exact hR _ _ _ dX1_changeActs_50 hf
  · have hf := hf.2 c1
    refine go_iload_n (pc := 4) C dX1_changeActs_4 1 rfl rfl ?_
    refine go_aload_n (pc := 5) C dX1_changeActs_5 0 rfl rfl ?_
    refine ge_X1_X1_10 (pc := 6) C ho dX1_changeActs_6 ?_
    refine go_ic_ge (pc := 9) C dX1_changeActs_9 50 (by decide) (fun c2 => ?_) (fun c2 => ?_)
    · have hf := hf.1 c2
      exact hR _ _ _ dX1_changeActs_50 hf
    · have hf := hf.2 c2
      refine go_iload_n (pc := 12) C dX1_changeActs_12 2 rfl rfl ?_
      refine go_if_lt (pc := 13) C dX1_changeActs_13 50 (by decide) (fun c3 => ?_) (fun c3 => ?_)
      · have hf := hf.1 c3
        exact hR _ _ _ dX1_changeActs_50 hf
      · have hf := hf.2 c3
        refine go_iload_n (pc := 16) C dX1_changeActs_16 2 rfl rfl ?_
        refine go_aload_n (pc := 17) C dX1_changeActs_17 0 rfl rfl ?_
        refine ge_X1_X1_10 (pc := 18) C ho dX1_changeActs_18 ?_
        refine go_ic_ge (pc := 21) C dX1_changeActs_21 50 (by decide) (fun c4 => ?_) (fun c4 => ?_)
        · have hf := hf.1 c4
          exact hR _ _ _ dX1_changeActs_50 hf
        · have hf := hf.2 c4
          refine go_aload_n (pc := 24) C dX1_changeActs_24 0 rfl rfl ?_
          refine ge_X1_X1_3 (pc := 25) C ho dX1_changeActs_25 ?_
          refine go_iload_n (pc := 28) C dX1_changeActs_28 1 rfl rfl ?_
          refine al_X1_3 (pc := 29) C ho hf.1 dX1_changeActs_29 ?_
          have hf := hf.2
          refine go_nI (fun x5 e6 => ?_)
          have hf := hf x5 e6
          refine go_istore_n (pc := 30) C dX1_changeActs_30 [(3, .int x5), (0, .ref ((tq_la X).1 o 0)), (1, .int p1), (2, .int p2)] rfl (by decide) rfl ?_
          refine go_aload_n (pc := 31) C dX1_changeActs_31 1 rfl rfl ?_
          refine ge_X1_X1_3 (pc := 32) C ho dX1_changeActs_32 ?_
          refine go_iload_n (pc := 35) C dX1_changeActs_35 2 rfl rfl ?_
          refine go_aload_n (pc := 36) C dX1_changeActs_36 1 rfl rfl ?_
          refine ge_X1_X1_3 (pc := 37) C ho dX1_changeActs_37 ?_
          refine go_iload_n (pc := 40) C dX1_changeActs_40 3 rfl rfl ?_
          refine al_X1_3 (pc := 41) C ho hf.1 dX1_changeActs_41 ?_
          have hf := hf.2
          refine as_X1_3 (pc := 42) C ho hf.1 dX1_changeActs_42 (fun S7 e8 => ?_)
          have hf := hf.2 S7 e8
          refine go_aload_n (pc := 43) C dX1_changeActs_43 1 rfl rfl ?_
          refine ge_X1_X1_3 (pc := 44) C ho dX1_changeActs_44 ?_
          refine go_iload_n (pc := 47) C dX1_changeActs_47 3 rfl rfl ?_
          refine go_iload_n (pc := 48) C dX1_changeActs_48 0 rfl rfl ?_
          refine as_X1_3 (pc := 49) C ho hf.1 dX1_changeActs_49 (fun S9 e10 => ?_)
          have hf := hf.2 S9 e10
          exact hR _ _ _ dX1_changeActs_50 hf
set_option maxRecDepth 100000 in
set_option maxHeartbeats 4000000 in
theorem ok_X1_changeActs {o : Nat} {p1 : Int32} {p2 : Int32} {S : tq_St} {K : tq_St → Prop} (ho : o < 19) (hf : wp_X1_changeActs o p1 p2 S K) : tq_Mv yX1_changeActs cX1_changeActs 4 none 1 (fun a z => [.ref (a.1 o 0), .int p1, .int p2]) S K :=
  tq_mkV (by decide) (fun _ _ => Nat.le_of_ble_eq_true rfl) (fun X C hR => wk_X1_changeActs C hR ho hf)
set_option maxRecDepth 100000 in
set_option maxHeartbeats 4000000 in
theorem wk_X1_allSorrow_4 {X : tq_Cx} {o : Nat} {K : Int32 → tq_St → Prop} (C : tq_C X cX1_allSorrow 3 RX1 2) (hR : tq_Ri X cX1_allSorrow 3 K) (ho : o < 19) : ∀ (n : Nat) (v1 : Int32) (v2 : Int32) (S : tq_St), wp_X1_allSorrow_4 o K n v1 v2 S → Go X 3 S 4 [(0, .ref ((tq_la X).1 o 0)), (1, .int v1), (2, .int v2)] [] := by
  intro n
  induction n with
  | zero => intros; contradiction
  | succ n ih =>
    intro v1 v2 S hf
    refine go_iload_n (pc := 4) C dX1_allSorrow_4 2 rfl rfl ?_
    refine go_aload_n (pc := 5) C dX1_allSorrow_5 0 rfl rfl ?_
    refine ge_X1_X1_5 (pc := 6) C ho dX1_allSorrow_6 ?_
    refine go_ic_ge (pc := 9) C dX1_allSorrow_9 35 (by decide) (fun c1 => ?_) (fun c1 => ?_)
    · have hf := hf.1 c1
      refine go_iload_n (pc := 35) C dX1_allSorrow_35 1 rfl rfl ?_
      exact hR _ _ _ _ dX1_allSorrow_36 hf
    · have hf := hf.2 c1
      refine go_aload_n (pc := 12) C dX1_allSorrow_12 0 rfl rfl ?_
      refine go_iload_n (pc := 13) C dX1_allSorrow_13 2 rfl rfl ?_
      refine go_cVi (pc := 14) C cw_X1_75 (ok_X1_waits ho hf) (rc_X1 C ho) rfl rfl rfl (by decide) rfl dX1_allSorrow_14 (fun r2 S3 hf => ?_)
      refine go_if_eq (pc := 17) C dX1_allSorrow_17 29 (by decide) (fun c5 => ?_) (fun c5 => ?_)
      · have hf := hf.1 c5
        obtain ⟨x6, e7⟩ : ∃ q9 : Int32, q9 = v2 + 1 := ⟨_, rfl⟩
        refine go_iinc (pc := 29) (j := 2) (v := x6) C dX1_allSorrow_29 [(2, .int x6), (0, .ref ((tq_la X).1 o 0)), (1, .int v1)] rfl (by rw [e7]; rfl) (by decide) rfl ?_
        have hf := hf x6 e7
        refine go_goto (pc := 32) C dX1_allSorrow_32 4 (by decide) ?_
        exact go_sub [1, 2, 0] rfl (ih _ _ _ hf)
      · have hf := hf.2 c5
        refine go_iload_n (pc := 20) C dX1_allSorrow_20 1 rfl rfl ?_
        refine go_aload_n (pc := 21) C dX1_allSorrow_21 0 rfl rfl ?_
        refine ge_X1_X1_1 (pc := 22) C ho dX1_allSorrow_22 ?_
        refine go_iload_n (pc := 25) C dX1_allSorrow_25 2 rfl rfl ?_
        refine al_X1_1 (pc := 26) C ho hf.1 dX1_allSorrow_26 ?_
        have hf := hf.2
        refine go_iadd (pc := 27) C dX1_allSorrow_27 ?_
        refine go_nI (fun x8 e9 => ?_)
        have hf := hf x8 e9
        refine go_istore_n (pc := 28) C dX1_allSorrow_28 [(1, .int x8), (0, .ref ((tq_la X).1 o 0)), (2, .int v2)] rfl (by decide) rfl ?_
        obtain ⟨x10, e11⟩ : ∃ q9 : Int32, q9 = v2 + 1 := ⟨_, rfl⟩
        refine go_iinc (pc := 29) (j := 2) (v := x10) C dX1_allSorrow_29 [(2, .int x10), (1, .int x8), (0, .ref ((tq_la X).1 o 0))] rfl (by rw [e11]; rfl) (by decide) rfl ?_
        have hf := hf x10 e11
        refine go_goto (pc := 32) C dX1_allSorrow_32 4 (by decide) ?_
        exact go_sub [2, 1, 0] rfl (ih _ _ _ hf)
set_option maxRecDepth 100000 in
set_option maxHeartbeats 4000000 in
theorem wk_X1_allSorrow {X : tq_Cx} {o : Nat} {S : tq_St} {K : Int32 → tq_St → Prop} (C : tq_C X cX1_allSorrow 3 RX1 2) (hR : tq_Ri X cX1_allSorrow 3 K) (ho : o < 19) (hf : wp_X1_allSorrow o S K) : Go X 3 S 0 [(0, .ref ((tq_la X).1 o 0))] [] := by
  refine go_iconst (pc := 0) (v := 0) C dX1_allSorrow_0 (by decide) ?_
  refine go_istore_n (pc := 1) C dX1_allSorrow_1 [(1, .int 0), (0, .ref ((tq_la X).1 o 0))] rfl (by decide) rfl ?_
  refine go_iconst (pc := 2) (v := 0) C dX1_allSorrow_2 (by decide) ?_
  refine go_istore_n (pc := 3) C dX1_allSorrow_3 [(2, .int 0), (1, .int 0), (0, .ref ((tq_la X).1 o 0))] rfl (by decide) rfl ?_
  exact go_sub [2, 1, 0] rfl (wk_X1_allSorrow_4 C hR ho 2000 _ _ _ hf)
set_option maxRecDepth 100000 in
set_option maxHeartbeats 4000000 in
theorem ok_X1_allSorrow {o : Nat} {S : tq_St} {K : Int32 → tq_St → Prop} (ho : o < 19) (hf : wp_X1_allSorrow o S K) : tq_Mi yX1_allSorrow cX1_allSorrow 3 (some .int) 2 (fun a z => [.ref (a.1 o 0)]) S K :=
  tq_mkI (by decide) (fun _ _ => Nat.le_of_ble_eq_true rfl) (fun X C hR => wk_X1_allSorrow C hR ho hf)
set_option maxRecDepth 100000 in
set_option maxHeartbeats 4000000 in
theorem wk_X1_isAct {X : tq_Cx} {o : Nat} {p1 : Int32} {S : tq_St} {K : Int32 → tq_St → Prop} (C : tq_C X cX1_isAct 2 RX1 2) (hR : tq_Rz X cX1_isAct 2 K) (ho : o < 19) (hf : wp_X1_isAct o p1 S K) : Go X 2 S 0 [(0, .ref ((tq_la X).1 o 0)), (1, .int p1)] [] := by
  refine go_aload_n (pc := 0) C dX1_isAct_0 0 rfl rfl ?_
  refine go_iload_n (pc := 1) C dX1_isAct_1 1 rfl rfl ?_
  refine go_cVi (pc := 2) C cw_X1_68 (ok_X1_isThere ho hf) (rc_X1 C ho) rfl rfl rfl (by decide) rfl dX1_isAct_2 (fun r1 S2 hf => ?_)
  refine go_if_ne (pc := 5) C dX1_isAct_5 19 (by decide) (fun c4 => ?_) (fun c4 => ?_)
  · have hf := hf.1 c4
    refine go_iconst (pc := 19) (v := 1) C dX1_isAct_19 (by decide) ?_
    refine go_goto (pc := 20) C dX1_isAct_20 24 (by decide) ?_
    exact hR _ _ _ _ dX1_isAct_24 (Or.inr rfl) hf
  · have hf := hf.2 c4
    refine go_iload_n (pc := 8) C dX1_isAct_8 1 rfl rfl ?_
    refine go_iconst (pc := 9) (v := 5) C dX1_isAct_9 (by decide) ?_
    refine go_ic_eq (pc := 10) C dX1_isAct_10 19 (by decide) (fun c5 => ?_) (fun c5 => ?_)
    · have hf := hf.1 c5
      refine go_iconst (pc := 19) (v := 1) C dX1_isAct_19 (by decide) ?_
      refine go_goto (pc := 20) C dX1_isAct_20 24 (by decide) ?_
      exact hR _ _ _ _ dX1_isAct_24 (Or.inr rfl) hf
    · have hf := hf.2 c5
      refine go_iload_n (pc := 13) C dX1_isAct_13 1 rfl rfl ?_
      refine go_bipush (pc := 14) (v := 6) C dX1_isAct_14 (by decide) ?_
      refine go_ic_ne (pc := 16) C dX1_isAct_16 23 (by decide) (fun c6 => ?_) (fun c6 => ?_)
      · have hf := hf.1 c6
        refine go_iconst (pc := 23) (v := 0) C dX1_isAct_23 (by decide) ?_
        exact hR _ _ _ _ dX1_isAct_24 (Or.inl rfl) hf
      · have hf := hf.2 c6
        refine go_iconst (pc := 19) (v := 1) C dX1_isAct_19 (by decide) ?_
        refine go_goto (pc := 20) C dX1_isAct_20 24 (by decide) ?_
        exact hR _ _ _ _ dX1_isAct_24 (Or.inr rfl) hf
set_option maxRecDepth 100000 in
set_option maxHeartbeats 4000000 in
theorem ok_X1_isAct {o : Nat} {p1 : Int32} {S : tq_St} {K : Int32 → tq_St → Prop} (ho : o < 19) (hf : wp_X1_isAct o p1 S K) : tq_Mi yX1_isAct cX1_isAct 2 (some .boolean) 2 (fun a z => [.ref (a.1 o 0), .int p1]) S K :=
  tq_mkZ (by decide) (fun _ _ => Nat.le_of_ble_eq_true rfl) (fun X C hR => wk_X1_isAct C hR ho hf)
set_option maxRecDepth 100000 in
set_option maxHeartbeats 4000000 in
theorem wk_X1_addAct {X : tq_Cx} {o : Nat} {p1 : Int32} {S : tq_St} {K : Int32 → tq_St → Prop} (C : tq_C X cX1_addAct 2 RX1 1) (hR : tq_Rz X cX1_addAct 2 K) (ho : o < 19) (hf : wp_X1_addAct o p1 S K) : Go X 2 S 0 [(0, .ref ((tq_la X).1 o 0)), (1, .int p1)] [] := by
  refine go_aload_n (pc := 0) C dX1_addAct_0 0 rfl rfl ?_
  refine ge_X1_X1_10 (pc := 1) C ho dX1_addAct_1 ?_
  refine go_bipush (pc := 4) (v := 8) C dX1_addAct_4 (by decide) ?_
  refine go_ic_lt (pc := 6) C dX1_addAct_6 11 (by decide) (fun c1 => ?_) (fun c1 => ?_)
  · have hf := hf.1 c1
    refine go_aload_n (pc := 11) C dX1_addAct_11 0 rfl rfl ?_
    refine ge_X1_X1_3 (pc := 12) C ho dX1_addAct_12 ?_
    refine go_aload_n (pc := 15) C dX1_addAct_15 0 rfl rfl ?_
    refine ge_X1_X1_10 (pc := 16) C ho dX1_addAct_16 ?_
    refine go_iload_n (pc := 19) C dX1_addAct_19 1 rfl rfl ?_
    refine as_X1_3 (pc := 20) C ho hf.1 dX1_addAct_20 (fun S2 e3 => ?_)
    have hf := hf.2 S2 e3
    refine go_aload_n (pc := 21) C dX1_addAct_21 0 rfl rfl ?_
    refine go_dup (pc := 22) C dX1_addAct_22 rfl ?_
    refine ge_X1_X1_10 (pc := 23) C ho dX1_addAct_23 ?_
    refine go_iconst (pc := 26) (v := 1) C dX1_addAct_26 (by decide) ?_
    refine go_iadd (pc := 27) C dX1_addAct_27 ?_
    refine pu_X1_X1_10 (pc := 28) C ho dX1_addAct_28 (fun S4 e5 => ?_)
    have hf := hf S4 e5
    refine go_iconst (pc := 31) (v := 1) C dX1_addAct_31 (by decide) ?_
    exact hR _ _ _ _ dX1_addAct_32 (Or.inr rfl) hf
  · have hf := hf.2 c1
    refine go_iconst (pc := 9) (v := 0) C dX1_addAct_9 (by decide) ?_
    exact hR _ _ _ _ dX1_addAct_10 (Or.inl rfl) hf
set_option maxRecDepth 100000 in
set_option maxHeartbeats 4000000 in
theorem ok_X1_addAct {o : Nat} {p1 : Int32} {S : tq_St} {K : Int32 → tq_St → Prop} (ho : o < 19) (hf : wp_X1_addAct o p1 S K) : tq_Mi yX1_addAct cX1_addAct 2 (some .boolean) 1 (fun a z => [.ref (a.1 o 0), .int p1]) S K :=
  tq_mkZ (by decide) (fun _ _ => Nat.le_of_ble_eq_true rfl) (fun X C hR => wk_X1_addAct C hR ho hf)
set_option maxRecDepth 100000 in
set_option maxHeartbeats 4000000 in
theorem wk_X1_clear {X : tq_Cx} {o : Nat} {S : tq_St} {K : tq_St → Prop} (C : tq_C X cX1_clear 1 RX1 2) (hR : tq_Rv X cX1_clear 1 K) (ho : o < 19) (hf : wp_X1_clear o S K) : Go X 1 S 0 [(0, .ref ((tq_la X).1 o 0))] [] := by
  refine go_aload_n (pc := 0) C dX1_clear_0 0 rfl rfl ?_
  refine go_iconst (pc := 1) (v := 0) C dX1_clear_1 (by decide) ?_
  refine pu_X1_X1_5 (pc := 2) C ho dX1_clear_2 (fun S1 e2 => ?_)
  have hf := hf S1 e2
  refine go_aload_n (pc := 5) C dX1_clear_5 0 rfl rfl ?_
  refine go_iconst (pc := 6) (v := 0) C dX1_clear_6 (by decide) ?_
  refine pu_X1_X1_6 (pc := 7) C ho dX1_clear_7 (fun S3 e4 => ?_)
  have hf := hf S3 e4
  refine go_aload_n (pc := 10) C dX1_clear_10 0 rfl rfl ?_
  refine go_iconst (pc := 11) (v := 0) C dX1_clear_11 (by decide) ?_
  refine pu_X1_X1_7 (pc := 12) C ho dX1_clear_12 (fun S5 e6 => ?_)
  have hf := hf S5 e6
  refine go_aload_n (pc := 15) C dX1_clear_15 0 rfl rfl ?_
  refine go_iconst (pc := 16) (v := 2) C dX1_clear_16 (by decide) ?_
  refine pu_X1_X1_8 (pc := 17) C ho dX1_clear_17 (fun S7 e8 => ?_)
  have hf := hf S7 e8
  refine go_aload_n (pc := 20) C dX1_clear_20 0 rfl rfl ?_
  refine go_iconst (pc := 21) (v := 4) C dX1_clear_21 (by decide) ?_
  refine pu_X1_X1_9 (pc := 22) C ho dX1_clear_22 (fun S9 e10 => ?_)
  have hf := hf S9 e10
  refine go_aload_n (pc := 25) C dX1_clear_25 0 rfl rfl ?_
  refine go_iconst (pc := 26) (v := 0) C dX1_clear_26 (by decide) ?_
  refine pu_X1_X1_10 (pc := 27) C ho dX1_clear_27 (fun S11 e12 => ?_)
  have hf := hf S11 e12
  refine go_aload_n (pc := 30) C dX1_clear_30 0 rfl rfl ?_
  refine go_cVv (pc := 31) C cw_X1_49 (ok_X1_clearTally ho hf) (rc_X1 C ho) rfl rfl rfl (by decide) rfl dX1_clear_31 (fun S14 hf => ?_)
  exact hR _ _ _ dX1_clear_34 hf
set_option maxRecDepth 100000 in
set_option maxHeartbeats 4000000 in
theorem ok_X1_clear {o : Nat} {S : tq_St} {K : tq_St → Prop} (ho : o < 19) (hf : wp_X1_clear o S K) : tq_Mv yX1_clear cX1_clear 1 none 2 (fun a z => [.ref (a.1 o 0)]) S K :=
  tq_mkV (by decide) (fun _ _ => Nat.le_of_ble_eq_true rfl) (fun X C hR => wk_X1_clear C hR ho hf)
set_option maxRecDepth 100000 in
set_option maxHeartbeats 4000000 in
theorem wk_X1_addOne {X : tq_Cx} {o : Nat} {p1 : Int32} {p2 : Int32} {S : tq_St} {K : tq_St → Prop} (C : tq_C X cX1_addOne 3 RX1 1) (hR : tq_Rv X cX1_addOne 3 K) (ho : o < 19) (hf : wp_X1_addOne o p1 p2 S K) : Go X 3 S 0 [(0, .ref ((tq_la X).1 o 0)), (1, .int p1), (2, .int p2)] [] := by
  refine go_aload_n (pc := 0) C dX1_addOne_0 0 rfl rfl ?_
  refine ge_X1_X1_5 (pc := 1) C ho dX1_addOne_1 ?_
  refine go_iconst (pc := 4) (v := 5) C dX1_addOne_4 (by decide) ?_
  refine go_ic_ge (pc := 5) C dX1_addOne_5 48 (by decide) (fun c1 => ?_) (fun c1 => ?_)
  · have hf := hf.1 c1
    exact hR _ _ _ dX1_addOne_48 hf
  · have hf := hf.2 c1
    refine go_aload_n (pc := 8) C dX1_addOne_8 0 rfl rfl ?_
    refine ge_X1_X1_0 (pc := 9) C ho dX1_addOne_9 ?_
    refine go_aload_n (pc := 12) C dX1_addOne_12 0 rfl rfl ?_
    refine ge_X1_X1_5 (pc := 13) C ho dX1_addOne_13 ?_
    refine go_iload_n (pc := 16) C dX1_addOne_16 1 rfl rfl ?_
    refine as_X1_0 (pc := 17) C ho hf.1 dX1_addOne_17 (fun S2 e3 => ?_)
    have hf := hf.2 S2 e3
    refine go_aload_n (pc := 18) C dX1_addOne_18 0 rfl rfl ?_
    refine ge_X1_X1_1 (pc := 19) C ho dX1_addOne_19 ?_
    refine go_aload_n (pc := 22) C dX1_addOne_22 0 rfl rfl ?_
    refine ge_X1_X1_5 (pc := 23) C ho dX1_addOne_23 ?_
    refine go_iload_n (pc := 26) C dX1_addOne_26 2 rfl rfl ?_
    refine as_X1_1 (pc := 27) C ho hf.1 dX1_addOne_27 (fun S4 e5 => ?_)
    have hf := hf.2 S4 e5
    refine go_aload_n (pc := 28) C dX1_addOne_28 0 rfl rfl ?_
    refine ge_X1_X1_2 (pc := 29) C ho dX1_addOne_29 ?_
    refine go_aload_n (pc := 32) C dX1_addOne_32 0 rfl rfl ?_
    refine ge_X1_X1_5 (pc := 33) C ho dX1_addOne_33 ?_
    refine go_iconst (pc := 36) (v := (-1)) C dX1_addOne_36 (by decide) ?_
    refine as_X1_2 (pc := 37) C ho hf.1 dX1_addOne_37 (fun S6 e7 => ?_)
    have hf := hf.2 S6 e7
    refine go_aload_n (pc := 38) C dX1_addOne_38 0 rfl rfl ?_
    refine go_dup (pc := 39) C dX1_addOne_39 rfl ?_
    refine ge_X1_X1_5 (pc := 40) C ho dX1_addOne_40 ?_
    refine go_iconst (pc := 43) (v := 1) C dX1_addOne_43 (by decide) ?_
    refine go_iadd (pc := 44) C dX1_addOne_44 ?_
    refine pu_X1_X1_5 (pc := 45) C ho dX1_addOne_45 (fun S8 e9 => ?_)
    have hf := hf S8 e9
    exact hR _ _ _ dX1_addOne_48 hf
set_option maxRecDepth 100000 in
set_option maxHeartbeats 4000000 in
theorem ok_X1_addOne {o : Nat} {p1 : Int32} {p2 : Int32} {S : tq_St} {K : tq_St → Prop} (ho : o < 19) (hf : wp_X1_addOne o p1 p2 S K) : tq_Mv yX1_addOne cX1_addOne 3 none 1 (fun a z => [.ref (a.1 o 0), .int p1, .int p2]) S K :=
  tq_mkV (by decide) (fun _ _ => Nat.le_of_ble_eq_true rfl) (fun X C hR => wk_X1_addOne C hR ho hf)
set_option maxRecDepth 100000 in
set_option maxHeartbeats 4000000 in
theorem wk_X1_allActsFit_2 {X : tq_Cx} {o : Nat} {K : Int32 → tq_St → Prop} (C : tq_C X cX1_allActsFit 2 RX1 3) (hR : tq_Rz X cX1_allActsFit 2 K) (ho : o < 19) : ∀ (n : Nat) (v1 : Int32) (S : tq_St), wp_X1_allActsFit_2 o K n v1 S → Go X 2 S 2 [(0, .ref ((tq_la X).1 o 0)), (1, .int v1)] [] := by
  intro n
  induction n with
  | zero => intros; contradiction
  | succ n ih =>
    intro v1 S hf
    refine go_iload_n (pc := 2) C dX1_allActsFit_2 1 rfl rfl ?_
    refine go_aload_n (pc := 3) C dX1_allActsFit_3 0 rfl rfl ?_
    refine ge_X1_X1_10 (pc := 4) C ho dX1_allActsFit_4 ?_
    refine go_ic_ge (pc := 7) C dX1_allActsFit_7 31 (by decide) (fun c1 => ?_) (fun c1 => ?_)
    · have hf := hf.1 c1
      refine go_iconst (pc := 31) (v := 1) C dX1_allActsFit_31 (by decide) ?_
      exact hR _ _ _ _ dX1_allActsFit_32 (Or.inr rfl) hf
    · have hf := hf.2 c1
      refine go_aload_n (pc := 10) C dX1_allActsFit_10 0 rfl rfl ?_
      refine go_aload_n (pc := 11) C dX1_allActsFit_11 0 rfl rfl ?_
      refine ge_X1_X1_3 (pc := 12) C ho dX1_allActsFit_12 ?_
      refine go_iload_n (pc := 15) C dX1_allActsFit_15 1 rfl rfl ?_
      refine al_X1_3 (pc := 16) C ho hf.1 dX1_allActsFit_16 ?_
      have hf := hf.2
      refine go_cVi (pc := 17) C cw_X1_78 (ok_X1_isAct ho hf) (rc_X1 C ho) rfl rfl rfl (by decide) rfl dX1_allActsFit_17 (fun r2 S3 hf => ?_)
      refine go_if_ne (pc := 20) C dX1_allActsFit_20 25 (by decide) (fun c5 => ?_) (fun c5 => ?_)
      · have hf := hf.1 c5
        obtain ⟨x6, e7⟩ : ∃ q9 : Int32, q9 = v1 + 1 := ⟨_, rfl⟩
        refine go_iinc (pc := 25) (j := 1) (v := x6) C dX1_allActsFit_25 [(1, .int x6), (0, .ref ((tq_la X).1 o 0))] rfl (by rw [e7]; rfl) (by decide) rfl ?_
        have hf := hf x6 e7
        refine go_goto (pc := 28) C dX1_allActsFit_28 2 (by decide) ?_
        exact go_sub [1, 0] rfl (ih _ _ hf)
      · have hf := hf.2 c5
        refine go_iconst (pc := 23) (v := 0) C dX1_allActsFit_23 (by decide) ?_
        exact hR _ _ _ _ dX1_allActsFit_24 (Or.inl rfl) hf
set_option maxRecDepth 100000 in
set_option maxHeartbeats 4000000 in
theorem wk_X1_allActsFit {X : tq_Cx} {o : Nat} {S : tq_St} {K : Int32 → tq_St → Prop} (C : tq_C X cX1_allActsFit 2 RX1 3) (hR : tq_Rz X cX1_allActsFit 2 K) (ho : o < 19) (hf : wp_X1_allActsFit o S K) : Go X 2 S 0 [(0, .ref ((tq_la X).1 o 0))] [] := by
  refine go_iconst (pc := 0) (v := 0) C dX1_allActsFit_0 (by decide) ?_
  refine go_istore_n (pc := 1) C dX1_allActsFit_1 [(1, .int 0), (0, .ref ((tq_la X).1 o 0))] rfl (by decide) rfl ?_
  exact go_sub [1, 0] rfl (wk_X1_allActsFit_2 C hR ho 2000 _ _ hf)
set_option maxRecDepth 100000 in
set_option maxHeartbeats 4000000 in
theorem ok_X1_allActsFit {o : Nat} {S : tq_St} {K : Int32 → tq_St → Prop} (ho : o < 19) (hf : wp_X1_allActsFit o S K) : tq_Mi yX1_allActsFit cX1_allActsFit 2 (some .boolean) 3 (fun a z => [.ref (a.1 o 0)]) S K :=
  tq_mkZ (by decide) (fun _ _ => Nat.le_of_ble_eq_true rfl) (fun X C hR => wk_X1_allActsFit C hR ho hf)
