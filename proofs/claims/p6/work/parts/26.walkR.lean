set_option maxRecDepth 100000 in
set_option maxHeartbeats 4000000 in
theorem wk_X2_keepRow {X : tq_Cx} {p1 : Int32} {S : tq_St} {K : tq_St → Prop} (C : tq_C X cX2_keepRow 2 RX2 1) (hR : tq_Rv X cX2_keepRow 2 K) (hf : wp_X2_keepRow p1 S K) : Go X 2 S 0 [(0, .ref ((tq_la X).1 21 0)), (1, .int p1)] [] := by
  refine go_aload_n (pc := 0) C dX2_keepRow_0 0 rfl rfl ?_
  refine ge_X2_X2_1 (pc := 1) C dX2_keepRow_1 ?_
  refine go_iconst (pc := 4) (v := 0) C dX2_keepRow_4 (by decide) ?_
  refine go_aload_n (pc := 5) C dX2_keepRow_5 0 rfl rfl ?_
  refine ge_X2_X2_2 (pc := 6) C dX2_keepRow_6 ?_
  refine go_iconst (pc := 9) (v := 0) C dX2_keepRow_9 (by decide) ?_
  refine go_iload_n (pc := 10) C dX2_keepRow_10 1 rfl rfl ?_
  refine cp_X2_1_X2_2 (pc := 11) C (by decide) ky_X2_80 hf.1 hf.2.1 hf.2.2.1 dX2_keepRow_11 (fun S1 e2 => ?_)
  have hf := hf.2.2.2 S1 e2
  refine go_aload_n (pc := 14) C dX2_keepRow_14 0 rfl rfl ?_
  refine go_iload_n (pc := 15) C dX2_keepRow_15 1 rfl rfl ?_
  refine pu_X2_X2_3 (pc := 16) C dX2_keepRow_16 (fun S3 e4 => ?_)
  have hf := hf S3 e4
  exact hR _ _ _ dX2_keepRow_19 hf
set_option maxRecDepth 100000 in
set_option maxHeartbeats 4000000 in
theorem ok_X2_keepRow {p1 : Int32} {S : tq_St} {K : tq_St → Prop} (hf : wp_X2_keepRow p1 S K) : tq_Mv yX2_keepRow cX2_keepRow 2 none 1 (fun a z => [.ref (a.1 21 0), .int p1]) S K :=
  tq_mkV (by decide) (fun _ _ => Nat.le_of_ble_eq_true rfl) (fun X C hR => wk_X2_keepRow C hR  hf)
set_option maxRecDepth 100000 in
set_option maxHeartbeats 4000000 in
theorem wk_X2_tryRows_59 {X : tq_Cx} {d : Nat} {rec : Int32 → Int32 → tq_St → (tq_St → Prop) → Prop} {K : tq_St → Prop} (C : tq_C X cX2_tryRows 5 RX2 (d + 7)) (hR : tq_Rv X cX2_tryRows 5 K) (hrec : ∀ (p1 : Int32) (p2 : Int32) (S : tq_St) (K : tq_St → Prop), rec p1 p2 S K → tq_Mv yX2_tryRows cX2_tryRows 5 none (d + 6) (fun a z => [.ref (a.1 21 0), .int p1, .int p2]) S K) : ∀ (v1 : Int32) (v3 : Int32) (v4 : Int32) (S : tq_St), wp_X2_tryRows_59 rec K v1 v3 v4 S → Go X 5 S 59 [(0, .ref ((tq_la X).1 21 0)), (1, .int v1), (3, .int v3), (4, .int v4)] [] := by
  intro v1 v3 v4 S hf
  refine go_aload_n (pc := 59) C dX2_tryRows_59 0 rfl rfl ?_
  refine go_iload_n (pc := 60) C dX2_tryRows_60 2 rfl rfl ?_
  refine pu_X2_X2_4 (pc := 61) C dX2_tryRows_61 (fun S10 e11 => ?_)
  have hf := hf S10 e11
  refine go_aload_n (pc := 64) C dX2_tryRows_64 0 rfl rfl ?_
  refine go_iload (pc := 65) C dX2_tryRows_65 3 rfl ?_
  refine pu_X2_X2_5 (pc := 67) C dX2_tryRows_67 (fun S12 e13 => ?_)
  have hf := hf S12 e13
  refine go_aload_n (pc := 70) C dX2_tryRows_70 0 rfl rfl ?_
  refine go_iload_n (pc := 71) C dX2_tryRows_71 1 rfl rfl ?_
  refine go_cVv (pc := 72) C cw_X2_55 (ok_X2_keepRow hf) (rc_X2 C) rfl rfl rfl (tq_rk_d (by decide) (by decide)) rfl dX2_tryRows_72 (fun S15 hf => ?_)
  exact hR _ _ _ dX2_tryRows_75 hf
set_option maxRecDepth 100000 in
set_option maxHeartbeats 4000000 in
theorem wk_X2_tryRows_10 {X : tq_Cx} {d : Nat} {rec : Int32 → Int32 → tq_St → (tq_St → Prop) → Prop} {K : tq_St → Prop} (C : tq_C X cX2_tryRows 5 RX2 (d + 7)) (hR : tq_Rv X cX2_tryRows 5 K) (hrec : ∀ (p1 : Int32) (p2 : Int32) (S : tq_St) (K : tq_St → Prop), rec p1 p2 S K → tq_Mv yX2_tryRows cX2_tryRows 5 none (d + 6) (fun a z => [.ref (a.1 21 0), .int p1, .int p2]) S K) : ∀ (v1 : Int32) (S : tq_St), wp_X2_tryRows_10 rec K v1 S → Go X 5 S 10 [(0, .ref ((tq_la X).1 21 0)), (1, .int v1)] [] := by
  intro v1 S hf
  refine go_aload_n (pc := 10) C dX2_tryRows_10 0 rfl rfl ?_
  refine ge_X2_X2_0 (pc := 11) C dX2_tryRows_11 ?_
  refine go_iload_n (pc := 14) C dX2_tryRows_14 1 rfl rfl ?_
  refine al_X2_0 (pc := 15) C hf.1 dX2_tryRows_15 ?_
  have h2 : 3 + (v1 : Int32).toNatClampNeg < 19 := tq_le hf.1 (by decide)
  have hf := hf.2
  refine ge_X2_X1_11 (pc := 16) C h2 dX2_tryRows_16 ?_
  refine go_cSi (pc := 19) C cs_X2_46 (ok_J6_bitCount_0f7a4 hf) rfl rfl rfl (tq_rk_d (by decide) (by decide)) rfl dX2_tryRows_19 (fun r3 S4 hf => ?_)
  refine go_istore_n (pc := 22) C dX2_tryRows_22 [(3, .int r3), (0, .ref ((tq_la X).1 21 0)), (1, .int v1)] rfl (by decide) rfl ?_
  refine go_aload_n (pc := 23) C dX2_tryRows_23 1 rfl rfl ?_
  refine ge_X2_X2_0 (pc := 24) C dX2_tryRows_24 ?_
  refine go_iload_n (pc := 27) C dX2_tryRows_27 2 rfl rfl ?_
  refine al_X2_0 (pc := 28) C hf.1 dX2_tryRows_28 ?_
  have h6 : 3 + (v1 : Int32).toNatClampNeg < 19 := tq_le hf.1 (by decide)
  have hf := hf.2
  refine ge_X2_X1_12 (pc := 29) C h6 dX2_tryRows_29 ?_
  refine go_nI (fun x7 e8 => ?_)
  have hf := hf x7 e8
  refine go_istore (pc := 32) C dX2_tryRows_32 [(4, .int x7), (3, .int r3), (0, .ref ((tq_la X).1 21 0)), (1, .int v1)] (by decide) rfl ?_
  refine go_iload_n (pc := 34) C dX2_tryRows_34 1 rfl rfl ?_
  refine go_aload_n (pc := 35) C dX2_tryRows_35 2 rfl rfl ?_
  refine ge_X2_X2_4 (pc := 36) C dX2_tryRows_36 ?_
  refine go_ic_gt (pc := 39) C dX2_tryRows_39 59 (by decide) (fun c9 => ?_) (fun c9 => ?_)
  · have hf := hf.1 c9
    exact go_sub [2, 3, 1, 0] rfl (wk_X2_tryRows_59 C hR hrec _ _ _ _ hf)
  · have hf := hf.2 c9
    refine go_iload_n (pc := 42) C dX2_tryRows_42 1 rfl rfl ?_
    refine go_aload_n (pc := 43) C dX2_tryRows_43 2 rfl rfl ?_
    refine ge_X2_X2_4 (pc := 44) C dX2_tryRows_44 ?_
    refine go_ic_ne (pc := 47) C dX2_tryRows_47 75 (by decide) (fun c17 => ?_) (fun c17 => ?_)
    · have hf := hf.1 c17
      exact hR _ _ _ dX2_tryRows_75 hf
    · have hf := hf.2 c17
      refine go_iload (pc := 50) C dX2_tryRows_50 0 rfl ?_
      refine go_aload_n (pc := 52) C dX2_tryRows_52 2 rfl rfl ?_
      refine ge_X2_X2_5 (pc := 53) C dX2_tryRows_53 ?_
      refine go_ic_le (pc := 56) C dX2_tryRows_56 75 (by decide) (fun c18 => ?_) (fun c18 => ?_)
      · have hf := hf.1 c18
        exact hR _ _ _ dX2_tryRows_75 hf
      · have hf := hf.2 c18
        exact go_sub [2, 3, 1, 0] rfl (wk_X2_tryRows_59 C hR hrec _ _ _ _ hf)
set_option maxRecDepth 100000 in
set_option maxHeartbeats 4000000 in
theorem wk_X2_tryRows_112 {X : tq_Cx} {d : Nat} {rec : Int32 → Int32 → tq_St → (tq_St → Prop) → Prop} {K : tq_St → Prop} (C : tq_C X cX2_tryRows 5 RX2 (d + 7)) (hR : tq_Rv X cX2_tryRows 5 K) (hrec : ∀ (p1 : Int32) (p2 : Int32) (S : tq_St) (K : tq_St → Prop), rec p1 p2 S K → tq_Mv yX2_tryRows cX2_tryRows 5 none (d + 6) (fun a z => [.ref (a.1 21 0), .int p1, .int p2]) S K) {rec89 : Int32 → Int32 → Int32 → Int32 → tq_St → Prop} (hrec89 : ∀ (v1 : Int32) (v2 : Int32) (v3 : Int32) (v4 : Int32) (S : tq_St), rec89 v1 v2 v3 v4 S → Go X 5 S 89 [(0, .ref ((tq_la X).1 21 0)), (1, .int v1), (2, .int v2), (3, .int v3), (4, .int v4)] []) : ∀ (v1 : Int32) (v2 : Int32) (v3 : Int32) (v4 : Int32) (w1 : Int32) (w2 : Int32) (S : tq_St), wp_X2_tryRows_112 rec K rec89 v1 v2 v3 v4 w1 w2 S → Go X 5 S 112 [(0, .ref ((tq_la X).1 21 0)), (1, .int v1), (2, .int v2), (3, .int v3), (4, .int v4)] [.int w2, .int w1, .ref ((tq_la X).1 21 2)] := by
  intro v1 v2 v3 v4 w1 w2 S hf
  refine as_X2_1 (pc := 112) C hf.1 dX2_tryRows_112 (fun S25 e26 => ?_)
  have hf := hf.2 S25 e26
  refine go_aload_n (pc := 113) C dX2_tryRows_113 0 rfl rfl ?_
  refine ge_X2_X2_0 (pc := 114) C dX2_tryRows_114 ?_
  refine go_iload_n (pc := 117) C dX2_tryRows_117 1 rfl rfl ?_
  refine go_iconst (pc := 118) (v := 1) C dX2_tryRows_118 (by decide) ?_
  refine go_iadd (pc := 119) C dX2_tryRows_119 ?_
  refine al_X2_0 (pc := 120) C hf.1 dX2_tryRows_120 ?_
  have h27 : 3 + (v1 + 1 : Int32).toNatClampNeg < 19 := tq_le hf.1 (by decide)
  have hf := hf.2
  refine go_aload_n (pc := 121) C dX2_tryRows_121 0 rfl rfl ?_
  refine ge_X2_X2_0 (pc := 122) C dX2_tryRows_122 ?_
  refine go_iload_n (pc := 125) C dX2_tryRows_125 1 rfl rfl ?_
  refine al_X2_0 (pc := 126) C hf.1 dX2_tryRows_126 ?_
  have h28 : 3 + (v1 : Int32).toNatClampNeg < 19 := tq_le hf.1 (by decide)
  have hf := hf.2
  refine go_cVv (pc := 127) C cw_X2_62 (ok_X1_copyFrom h27 h28 hf) (rc_X1 C h27) rfl rfl rfl (tq_rk_d (by decide) (by decide)) rfl dX2_tryRows_127 (fun S30 hf => ?_)
  refine go_aload_n (pc := 130) C dX2_tryRows_130 0 rfl rfl ?_
  refine ge_X2_X2_0 (pc := 131) C dX2_tryRows_131 ?_
  refine go_iload_n (pc := 134) C dX2_tryRows_134 1 rfl rfl ?_
  refine go_iconst (pc := 135) (v := 1) C dX2_tryRows_135 (by decide) ?_
  refine go_iadd (pc := 136) C dX2_tryRows_136 ?_
  refine al_X2_0 (pc := 137) C hf.1 dX2_tryRows_137 ?_
  have h32 : 3 + (v1 + 1 : Int32).toNatClampNeg < 19 := tq_le hf.1 (by decide)
  have hf := hf.2
  refine go_aload_n (pc := 138) C dX2_tryRows_138 0 rfl rfl ?_
  refine ge_X2_X2_1 (pc := 139) C dX2_tryRows_139 ?_
  refine go_iload_n (pc := 142) C dX2_tryRows_142 1 rfl rfl ?_
  refine al_X2_1 (pc := 143) C hf.1 dX2_tryRows_143 ?_
  have hf := hf.2
  refine go_cVi (pc := 144) C cw_X2_65 (ok_X1_play h32 hf) (rc_X1 C h32) rfl rfl rfl (tq_rk_d (by decide) (by decide)) rfl dX2_tryRows_144 (fun r33 S34 hf => ?_)
  refine go_pop (pc := 147) C dX2_tryRows_147 rfl ?_
  refine go_aload_n (pc := 148) C dX2_tryRows_148 0 rfl rfl ?_
  refine go_iload_n (pc := 149) C dX2_tryRows_149 1 rfl rfl ?_
  refine go_iconst (pc := 150) (v := 1) C dX2_tryRows_150 (by decide) ?_
  refine go_iadd (pc := 151) C dX2_tryRows_151 ?_
  refine go_iload_n (pc := 152) C dX2_tryRows_152 2 rfl rfl ?_
  refine go_cVv (pc := 153) C cw_X2_39 (hrec _ _ _ _ hf) (rc_X2 C) rfl rfl rfl (tq_rk_s (by decide)) rfl dX2_tryRows_153 (fun S37 hf => ?_)
  obtain ⟨x39, e40⟩ : ∃ q9 : Int32, q9 = v4 + 1 := ⟨_, rfl⟩
  refine go_iinc (pc := 156) (j := 4) (v := x39) C dX2_tryRows_156 [(4, .int x39), (0, .ref ((tq_la X).1 21 0)), (1, .int v1), (2, .int v2), (3, .int v3)] rfl (by rw [e40]; rfl) (by decide) rfl ?_
  have hf := hf x39 e40
  refine go_goto (pc := 159) C dX2_tryRows_159 89 (by decide) ?_
  exact go_sub [1, 2, 3, 4, 0] rfl (hrec89 _ _ _ _ _ hf)
set_option maxRecDepth 100000 in
set_option maxHeartbeats 4000000 in
theorem wk_X2_tryRows_89 {X : tq_Cx} {d : Nat} {rec : Int32 → Int32 → tq_St → (tq_St → Prop) → Prop} {K : tq_St → Prop} (C : tq_C X cX2_tryRows 5 RX2 (d + 7)) (hR : tq_Rv X cX2_tryRows 5 K) (hrec : ∀ (p1 : Int32) (p2 : Int32) (S : tq_St) (K : tq_St → Prop), rec p1 p2 S K → tq_Mv yX2_tryRows cX2_tryRows 5 none (d + 6) (fun a z => [.ref (a.1 21 0), .int p1, .int p2]) S K) : ∀ (n : Nat) (v1 : Int32) (v2 : Int32) (v3 : Int32) (v4 : Int32) (S : tq_St), wp_X2_tryRows_89 rec K n v1 v2 v3 v4 S → Go X 5 S 89 [(0, .ref ((tq_la X).1 21 0)), (1, .int v1), (2, .int v2), (3, .int v3), (4, .int v4)] [] := by
  intro n
  induction n with
  | zero => intros; contradiction
  | succ n ih =>
    intro v1 v2 v3 v4 S hf
    refine go_iload (pc := 89) C dX2_tryRows_89 4 rfl ?_
    refine go_iload_n (pc := 91) C dX2_tryRows_91 3 rfl rfl ?_
    refine go_ic_gt (pc := 92) C dX2_tryRows_92 162 (by decide) (fun c23 => ?_) (fun c23 => ?_)
    · have hf := hf.1 c23
      exact hR _ _ _ dX2_tryRows_162 hf
    · have hf := hf.2 c23
      refine go_aload_n (pc := 95) C dX2_tryRows_95 0 rfl rfl ?_
      refine ge_X2_X2_1 (pc := 96) C dX2_tryRows_96 ?_
      refine go_iload_n (pc := 99) C dX2_tryRows_99 1 rfl rfl ?_
      refine go_iload (pc := 100) C dX2_tryRows_100 4 rfl ?_
      refine go_iload_n (pc := 102) C dX2_tryRows_102 3 rfl rfl ?_
      refine go_ic_ge (pc := 103) C dX2_tryRows_103 111 (by decide) (fun c24 => ?_) (fun c24 => ?_)
      · have hf := hf.1 c24
        refine go_iconst (pc := 111) (v := 5) C dX2_tryRows_111 (by decide) ?_
        exact go_sub [0, 1, 2, 3, 4] rfl (wk_X2_tryRows_112 C hR hrec ih _ _ _ _ _ _ _ hf)
      · have hf := hf.2 c24
        refine go_iload (pc := 106) C dX2_tryRows_106 4 rfl ?_
        refine go_goto (pc := 108) C dX2_tryRows_108 112 (by decide) ?_
        exact go_sub [0, 1, 2, 3, 4] rfl (wk_X2_tryRows_112 C hR hrec ih _ _ _ _ _ _ _ hf)
set_option maxRecDepth 100000 in
set_option maxHeartbeats 4000000 in
theorem wk_X2_tryRows {d : Nat} (hrec : ∀ (p1 : Int32) (p2 : Int32) (S : tq_St) (K : tq_St → Prop), wp_X2_tryRows d p1 p2 S K → tq_Mv yX2_tryRows cX2_tryRows 5 none (d + 6) (fun a z => [.ref (a.1 21 0), .int p1, .int p2]) S K) {X : tq_Cx} {p1 : Int32} {p2 : Int32} {S : tq_St} {K : tq_St → Prop} (C : tq_C X cX2_tryRows 5 RX2 (d + 7)) (hR : tq_Rv X cX2_tryRows 5 K) (hf : wp_X2_tryRows (d + 1) p1 p2 S K) : Go X 5 S 0 [(0, .ref ((tq_la X).1 21 0)), (1, .int p1), (2, .int p2)] [] := by
  refine go_iload_n (pc := 0) C dX2_tryRows_0 1 rfl rfl ?_
  refine go_iload_n (pc := 1) C dX2_tryRows_1 2 rfl rfl ?_
  refine go_ic_ge (pc := 2) C dX2_tryRows_2 10 (by decide) (fun c1 => ?_) (fun c1 => ?_)
  · have hf := hf.1 c1
    exact go_sub [0, 1] rfl (wk_X2_tryRows_10 C hR hrec _ _ hf)
  · have hf := hf.2 c1
    refine go_iload_n (pc := 5) C dX2_tryRows_5 1 rfl rfl ?_
    refine go_iconst (pc := 6) (v := 4) C dX2_tryRows_6 (by decide) ?_
    refine go_ic_lt (pc := 7) C dX2_tryRows_7 76 (by decide) (fun c19 => ?_) (fun c19 => ?_)
    · have hf := hf.1 c19
      refine go_aload_n (pc := 76) C dX2_tryRows_76 0 rfl rfl ?_
      refine ge_X2_X2_0 (pc := 77) C dX2_tryRows_77 ?_
      refine go_iconst (pc := 80) (v := 0) C dX2_tryRows_80 (by decide) ?_
      refine al_X2_0 (pc := 81) C hf.1 dX2_tryRows_81 ?_
      have h20 : 3 + (0 : Int32).toNatClampNeg < 19 := tq_le hf.1 (by decide)
      have hf := hf.2
      refine ge_X2_X1_5 (pc := 82) C h20 dX2_tryRows_82 ?_
      refine go_nI (fun x21 e22 => ?_)
      have hf := hf x21 e22
      refine go_istore_n (pc := 85) C dX2_tryRows_85 [(3, .int x21), (0, .ref ((tq_la X).1 21 0)), (1, .int p1), (2, .int p2)] rfl (by decide) rfl ?_
      refine go_iconst (pc := 86) (v := 0) C dX2_tryRows_86 (by decide) ?_
      refine go_istore (pc := 87) C dX2_tryRows_87 [(4, .int 0), (3, .int x21), (0, .ref ((tq_la X).1 21 0)), (1, .int p1), (2, .int p2)] (by decide) rfl ?_
      exact go_sub [2, 3, 4, 1, 0] rfl (wk_X2_tryRows_89 C hR hrec 2000 _ _ _ _ _ hf)
    · have hf := hf.2 c19
      exact go_sub [0, 1] rfl (wk_X2_tryRows_10 C hR hrec _ _ hf)
set_option maxRecDepth 100000 in
set_option maxHeartbeats 4000000 in
theorem ok_X2_tryRows : ∀ (d : Nat) {p1 : Int32} {p2 : Int32} {S : tq_St} {K : tq_St → Prop} (hf : wp_X2_tryRows d p1 p2 S K), tq_Mv yX2_tryRows cX2_tryRows 5 none (d + 6) (fun a z => [.ref (a.1 21 0), .int p1, .int p2]) S K := by
  intro d
  induction d with
  | zero => intros; contradiction
  | succ d ih =>
    intro p1 p2 S K  hf
    exact tq_mkV (by decide) (fun _ _ => Nat.le_of_ble_eq_true rfl) (fun X C hR => wk_X2_tryRows (fun p1 p2 S K  h => ih  h) C hR  hf)
set_option maxRecDepth 100000 in
set_option maxHeartbeats 4000000 in
theorem wk_X2_findMostTears {X : tq_Cx} {p1 : Nat} {p2 : Int32} {S : tq_St} {K : tq_St → Prop} (C : tq_C X cX2_findMostTears 3 RX2 19) (hR : tq_Rv X cX2_findMostTears 3 K) (hp1 : p1 < 19) (hf : wp_X2_findMostTears p1 p2 S K) : Go X 3 S 0 [(0, .ref ((tq_la X).1 21 0)), (1, .ref ((tq_la X).1 p1 0)), (2, .int p2)] [] := by
  refine go_aload_n (pc := 0) C dX2_findMostTears_0 0 rfl rfl ?_
  refine ge_X2_X2_0 (pc := 1) C dX2_findMostTears_1 ?_
  refine go_iconst (pc := 4) (v := 0) C dX2_findMostTears_4 (by decide) ?_
  refine al_X2_0 (pc := 5) C hf.1 dX2_findMostTears_5 ?_
  have h1 : 3 + (0 : Int32).toNatClampNeg < 19 := tq_le hf.1 (by decide)
  have hf := hf.2
  refine go_aload_n (pc := 6) C dX2_findMostTears_6 1 rfl rfl ?_
  refine go_cVv (pc := 7) C cw_X2_29 (ok_X1_startFrom h1 hp1 hf) (rc_X1 C h1) rfl rfl rfl (by decide) rfl dX2_findMostTears_7 (fun S3 hf => ?_)
  refine go_aload_n (pc := 10) C dX2_findMostTears_10 0 rfl rfl ?_
  refine go_iconst (pc := 11) (v := (-1)) C dX2_findMostTears_11 (by decide) ?_
  refine pu_X2_X2_4 (pc := 12) C dX2_findMostTears_12 (fun S5 e6 => ?_)
  have hf := hf S5 e6
  refine go_aload_n (pc := 15) C dX2_findMostTears_15 0 rfl rfl ?_
  refine go_iconst (pc := 16) (v := (-1)) C dX2_findMostTears_16 (by decide) ?_
  refine pu_X2_X2_5 (pc := 17) C dX2_findMostTears_17 (fun S7 e8 => ?_)
  have hf := hf S7 e8
  refine go_aload_n (pc := 20) C dX2_findMostTears_20 0 rfl rfl ?_
  refine go_iconst (pc := 21) (v := 0) C dX2_findMostTears_21 (by decide) ?_
  refine go_iload_n (pc := 22) C dX2_findMostTears_22 2 rfl rfl ?_
  refine go_cVv (pc := 23) C cw_X2_39 (ok_X2_tryRows 12 hf) (rc_X2 C) rfl rfl rfl (by decide) rfl dX2_findMostTears_23 (fun S10 hf => ?_)
  exact hR _ _ _ dX2_findMostTears_26 hf
set_option maxRecDepth 100000 in
set_option maxHeartbeats 4000000 in
theorem ok_X2_findMostTears {p1 : Nat} {p2 : Int32} {S : tq_St} {K : tq_St → Prop} (hp1 : p1 < 19) (hf : wp_X2_findMostTears p1 p2 S K) : tq_Mv yX2_findMostTears cX2_findMostTears 3 none 19 (fun a z => [.ref (a.1 21 0), .ref (a.1 p1 0), .int p2]) S K :=
  tq_mkV (by decide) (fun _ _ => Nat.le_of_ble_eq_true rfl) (fun X C hR => wk_X2_findMostTears C hR hp1 hf)
set_option maxRecDepth 100000 in
set_option maxHeartbeats 4000000 in
theorem wk_X2_foundAt {X : tq_Cx} {p1 : Int32} {S : tq_St} {K : Int32 → tq_St → Prop} (C : tq_C X cX2_foundAt 2 RX2 1) (hR : tq_Ri X cX2_foundAt 2 K) (hf : wp_X2_foundAt p1 S K) : Go X 2 S 0 [(0, .ref ((tq_la X).1 21 0)), (1, .int p1)] [] := by
  refine go_iload_n (pc := 0) C dX2_foundAt_0 1 rfl rfl ?_
  refine go_if_lt (pc := 1) C dX2_foundAt_1 21 (by decide) (fun c1 => ?_) (fun c1 => ?_)
  · have hf := hf.1 c1
    refine go_bipush (pc := 21) (v := (-4)) C dX2_foundAt_21 (by decide) ?_
    exact hR _ _ _ _ dX2_foundAt_23 hf
  · have hf := hf.2 c1
    refine go_iload_n (pc := 4) C dX2_foundAt_4 1 rfl rfl ?_
    refine go_aload_n (pc := 5) C dX2_foundAt_5 0 rfl rfl ?_
    refine ge_X2_X2_3 (pc := 6) C dX2_foundAt_6 ?_
    refine go_ic_ge (pc := 9) C dX2_foundAt_9 21 (by decide) (fun c2 => ?_) (fun c2 => ?_)
    · have hf := hf.1 c2
      refine go_bipush (pc := 21) (v := (-4)) C dX2_foundAt_21 (by decide) ?_
      exact hR _ _ _ _ dX2_foundAt_23 hf
    · have hf := hf.2 c2
      refine go_aload_n (pc := 12) C dX2_foundAt_12 0 rfl rfl ?_
      refine ge_X2_X2_2 (pc := 13) C dX2_foundAt_13 ?_
      refine go_iload_n (pc := 16) C dX2_foundAt_16 1 rfl rfl ?_
      refine al_X2_2 (pc := 17) C hf.1 dX2_foundAt_17 ?_
      have hf := hf.2
      refine go_goto (pc := 18) C dX2_foundAt_18 23 (by decide) ?_
      exact hR _ _ _ _ dX2_foundAt_23 hf
set_option maxRecDepth 100000 in
set_option maxHeartbeats 4000000 in
theorem ok_X2_foundAt {p1 : Int32} {S : tq_St} {K : Int32 → tq_St → Prop} (hf : wp_X2_foundAt p1 S K) : tq_Mi yX2_foundAt cX2_foundAt 2 (some .int) 1 (fun a z => [.ref (a.1 21 0), .int p1]) S K :=
  tq_mkI (by decide) (fun _ _ => Nat.le_of_ble_eq_true rfl) (fun X C hR => wk_X2_foundAt C hR  hf)
set_option maxRecDepth 100000 in
set_option maxHeartbeats 4000000 in
theorem wk_X2_isHome_10 {X : tq_Cx} {d : Nat} {rec : Int32 → Int32 → Int32 → tq_St → (Int32 → tq_St → Prop) → Prop} {K : Int32 → tq_St → Prop} (C : tq_C X cX2_isHome 6 RX2 (d + 7)) (hR : tq_Rz X cX2_isHome 6 K) (hrec : ∀ (p1 : Int32) (p2 : Int32) (p3 : Int32) (S : tq_St) (K : Int32 → tq_St → Prop), rec p1 p2 p3 S K → tq_Mi yX2_isHome cX2_isHome 6 (some .boolean) (d + 6) (fun a z => [.ref (a.1 21 0), .int p1, .int p2, .int p3]) S K) : ∀ (v1 : Int32) (v3 : Int32) (S : tq_St), wp_X2_isHome_10 rec K v1 v3 S → Go X 6 S 10 [(0, .ref ((tq_la X).1 21 0)), (1, .int v1), (3, .int v3)] [] := by
  intro v1 v3 S hf
  refine go_aload_n (pc := 10) C dX2_isHome_10 0 rfl rfl ?_
  refine ge_X2_X2_0 (pc := 11) C dX2_isHome_11 ?_
  refine go_iload_n (pc := 14) C dX2_isHome_14 1 rfl rfl ?_
  refine go_iconst (pc := 15) (v := 1) C dX2_isHome_15 (by decide) ?_
  refine go_iadd (pc := 16) C dX2_isHome_16 ?_
  refine al_X2_0 (pc := 17) C hf.1 dX2_isHome_17 ?_
  have h2 : 3 + (v1 + 1 : Int32).toNatClampNeg < 19 := tq_le hf.1 (by decide)
  have hf := hf.2
  refine go_aload_n (pc := 18) C dX2_isHome_18 0 rfl rfl ?_
  refine ge_X2_X2_0 (pc := 19) C dX2_isHome_19 ?_
  refine go_iload_n (pc := 22) C dX2_isHome_22 1 rfl rfl ?_
  refine al_X2_0 (pc := 23) C hf.1 dX2_isHome_23 ?_
  have h3 : 3 + (v1 : Int32).toNatClampNeg < 19 := tq_le hf.1 (by decide)
  have hf := hf.2
  refine go_cVv (pc := 24) C cw_X2_62 (ok_X1_copyFrom h2 h3 hf) (rc_X1 C h2) rfl rfl rfl (tq_rk_d (by decide) (by decide)) rfl dX2_isHome_24 (fun S5 hf => ?_)
  refine go_aload_n (pc := 27) C dX2_isHome_27 0 rfl rfl ?_
  refine ge_X2_X2_0 (pc := 28) C dX2_isHome_28 ?_
  refine go_iload_n (pc := 31) C dX2_isHome_31 1 rfl rfl ?_
  refine go_iconst (pc := 32) (v := 1) C dX2_isHome_32 (by decide) ?_
  refine go_iadd (pc := 33) C dX2_isHome_33 ?_
  refine al_X2_0 (pc := 34) C hf.1 dX2_isHome_34 ?_
  have h7 : 3 + (v1 + 1 : Int32).toNatClampNeg < 19 := tq_le hf.1 (by decide)
  have hf := hf.2
  refine go_cVi (pc := 35) C cw_X2_73 (ok_X1_board h7 hf) (rc_X1 C h7) rfl rfl rfl (tq_rk_d (by decide) (by decide)) rfl dX2_isHome_35 (fun r8 S9 hf => ?_)
  refine go_pop (pc := 38) C dX2_isHome_38 rfl ?_
  refine go_aload_n (pc := 39) C dX2_isHome_39 0 rfl rfl ?_
  refine go_iload_n (pc := 40) C dX2_isHome_40 1 rfl rfl ?_
  refine go_cVv (pc := 41) C cw_X2_55 (ok_X2_keepRow hf) (rc_X2 C) rfl rfl rfl (tq_rk_d (by decide) (by decide)) rfl dX2_isHome_41 (fun S12 hf => ?_)
  refine go_aload_n (pc := 44) C dX2_isHome_44 0 rfl rfl ?_
  refine ge_X2_X2_0 (pc := 45) C dX2_isHome_45 ?_
  refine go_iload_n (pc := 48) C dX2_isHome_48 1 rfl rfl ?_
  refine go_iconst (pc := 49) (v := 1) C dX2_isHome_49 (by decide) ?_
  refine go_iadd (pc := 50) C dX2_isHome_50 ?_
  refine al_X2_0 (pc := 51) C hf.1 dX2_isHome_51 ?_
  have h14 : 3 + (v1 + 1 : Int32).toNatClampNeg < 19 := tq_le hf.1 (by decide)
  have hf := hf.2
  refine go_iload_n (pc := 52) C dX2_isHome_52 2 rfl rfl ?_
  refine go_cVi (pc := 53) C cw_X2_77 (ok_X1_waits h14 hf) (rc_X1 C h14) rfl rfl rfl (tq_rk_d (by decide) (by decide)) rfl dX2_isHome_53 (fun r15 S16 hf => ?_)
  refine go_if_ne (pc := 56) C dX2_isHome_56 63 (by decide) (fun c18 => ?_) (fun c18 => ?_)
  · have hf := hf.1 c18
    refine go_iconst (pc := 63) (v := 0) C dX2_isHome_63 (by decide) ?_
    exact hR _ _ _ _ dX2_isHome_64 (Or.inl rfl) hf
  · have hf := hf.2 c18
    refine go_iconst (pc := 59) (v := 1) C dX2_isHome_59 (by decide) ?_
    refine go_goto (pc := 60) C dX2_isHome_60 64 (by decide) ?_
    exact hR _ _ _ _ dX2_isHome_64 (Or.inr rfl) hf
set_option maxRecDepth 100000 in
set_option maxHeartbeats 4000000 in
theorem wk_X2_isHome_79 {X : tq_Cx} {d : Nat} {rec : Int32 → Int32 → Int32 → tq_St → (Int32 → tq_St → Prop) → Prop} {K : Int32 → tq_St → Prop} (C : tq_C X cX2_isHome 6 RX2 (d + 7)) (hR : tq_Rz X cX2_isHome 6 K) (hrec : ∀ (p1 : Int32) (p2 : Int32) (p3 : Int32) (S : tq_St) (K : Int32 → tq_St → Prop), rec p1 p2 p3 S K → tq_Mi yX2_isHome cX2_isHome 6 (some .boolean) (d + 6) (fun a z => [.ref (a.1 21 0), .int p1, .int p2, .int p3]) S K) : ∀ (n : Nat) (v1 : Int32) (v2 : Int32) (v3 : Int32) (v4 : Int32) (v5 : Int32) (S : tq_St), wp_X2_isHome_79 rec K n v1 v2 v3 v4 v5 S → Go X 6 S 79 [(0, .ref ((tq_la X).1 21 0)), (1, .int v1), (2, .int v2), (3, .int v3), (4, .int v4), (5, .int v5)] [] := by
  intro n
  induction n with
  | zero => intros; contradiction
  | succ n ih =>
    intro v1 v2 v3 v4 v5 S hf
    refine go_iload (pc := 79) C dX2_isHome_79 5 rfl ?_
    refine go_iload (pc := 81) C dX2_isHome_81 4 rfl ?_
    refine go_ic_ge (pc := 83) C dX2_isHome_83 145 (by decide) (fun c23 => ?_) (fun c23 => ?_)
    · have hf := hf.1 c23
      refine go_iconst (pc := 145) (v := 0) C dX2_isHome_145 (by decide) ?_
      exact hR _ _ _ _ dX2_isHome_146 (Or.inl rfl) hf
    · have hf := hf.2 c23
      refine go_aload_n (pc := 86) C dX2_isHome_86 0 rfl rfl ?_
      refine ge_X2_X2_1 (pc := 87) C dX2_isHome_87 ?_
      refine go_iload_n (pc := 90) C dX2_isHome_90 1 rfl rfl ?_
      refine go_iload (pc := 91) C dX2_isHome_91 5 rfl ?_
      refine as_X2_1 (pc := 93) C hf.1 dX2_isHome_93 (fun S24 e25 => ?_)
      have hf := hf.2 S24 e25
      refine go_aload_n (pc := 94) C dX2_isHome_94 0 rfl rfl ?_
      refine ge_X2_X2_0 (pc := 95) C dX2_isHome_95 ?_
      refine go_iload_n (pc := 98) C dX2_isHome_98 1 rfl rfl ?_
      refine go_iconst (pc := 99) (v := 1) C dX2_isHome_99 (by decide) ?_
      refine go_iadd (pc := 100) C dX2_isHome_100 ?_
      refine al_X2_0 (pc := 101) C hf.1 dX2_isHome_101 ?_
      have h26 : 3 + (v1 + 1 : Int32).toNatClampNeg < 19 := tq_le hf.1 (by decide)
      have hf := hf.2
      refine go_aload_n (pc := 102) C dX2_isHome_102 0 rfl rfl ?_
      refine ge_X2_X2_0 (pc := 103) C dX2_isHome_103 ?_
      refine go_iload_n (pc := 106) C dX2_isHome_106 1 rfl rfl ?_
      refine al_X2_0 (pc := 107) C hf.1 dX2_isHome_107 ?_
      have h27 : 3 + (v1 : Int32).toNatClampNeg < 19 := tq_le hf.1 (by decide)
      have hf := hf.2
      refine go_cVv (pc := 108) C cw_X2_62 (ok_X1_copyFrom h26 h27 hf) (rc_X1 C h26) rfl rfl rfl (tq_rk_d (by decide) (by decide)) rfl dX2_isHome_108 (fun S29 hf => ?_)
      refine go_aload_n (pc := 111) C dX2_isHome_111 0 rfl rfl ?_
      refine ge_X2_X2_0 (pc := 112) C dX2_isHome_112 ?_
      refine go_iload_n (pc := 115) C dX2_isHome_115 1 rfl rfl ?_
      refine go_iconst (pc := 116) (v := 1) C dX2_isHome_116 (by decide) ?_
      refine go_iadd (pc := 117) C dX2_isHome_117 ?_
      refine al_X2_0 (pc := 118) C hf.1 dX2_isHome_118 ?_
      have h31 : 3 + (v1 + 1 : Int32).toNatClampNeg < 19 := tq_le hf.1 (by decide)
      have hf := hf.2
      refine go_iload (pc := 119) C dX2_isHome_119 5 rfl ?_
      refine go_cVi (pc := 121) C cw_X2_65 (ok_X1_play h31 hf) (rc_X1 C h31) rfl rfl rfl (tq_rk_d (by decide) (by decide)) rfl dX2_isHome_121 (fun r32 S33 hf => ?_)
      refine go_pop (pc := 124) C dX2_isHome_124 rfl ?_
      refine go_aload_n (pc := 125) C dX2_isHome_125 0 rfl rfl ?_
      refine go_iload_n (pc := 126) C dX2_isHome_126 1 rfl rfl ?_
      refine go_iconst (pc := 127) (v := 1) C dX2_isHome_127 (by decide) ?_
      refine go_iadd (pc := 128) C dX2_isHome_128 ?_
      refine go_iload_n (pc := 129) C dX2_isHome_129 2 rfl rfl ?_
      refine go_iload_n (pc := 130) C dX2_isHome_130 3 rfl rfl ?_
      refine go_cVi (pc := 131) C cw_X2_69 (hrec _ _ _ _ _ hf) (rc_X2 C) rfl rfl rfl (tq_rk_s (by decide)) rfl dX2_isHome_131 (fun r35 S36 hf => ?_)
      refine go_if_eq (pc := 134) C dX2_isHome_134 139 (by decide) (fun c38 => ?_) (fun c38 => ?_)
      · have hf := hf.1 c38
        obtain ⟨x39, e40⟩ : ∃ q9 : Int32, q9 = v5 + 1 := ⟨_, rfl⟩
        refine go_iinc (pc := 139) (j := 5) (v := x39) C dX2_isHome_139 [(5, .int x39), (0, .ref ((tq_la X).1 21 0)), (1, .int v1), (2, .int v2), (3, .int v3), (4, .int v4)] rfl (by rw [e40]; rfl) (by decide) rfl ?_
        have hf := hf x39 e40
        refine go_goto (pc := 142) C dX2_isHome_142 79 (by decide) ?_
        exact go_sub [1, 2, 3, 4, 5, 0] rfl (ih _ _ _ _ _ _ hf)
      · have hf := hf.2 c38
        refine go_iconst (pc := 137) (v := 1) C dX2_isHome_137 (by decide) ?_
        exact hR _ _ _ _ dX2_isHome_138 (Or.inr rfl) hf
set_option maxRecDepth 100000 in
set_option maxHeartbeats 4000000 in
theorem wk_X2_isHome {d : Nat} (hrec : ∀ (p1 : Int32) (p2 : Int32) (p3 : Int32) (S : tq_St) (K : Int32 → tq_St → Prop), wp_X2_isHome d p1 p2 p3 S K → tq_Mi yX2_isHome cX2_isHome 6 (some .boolean) (d + 6) (fun a z => [.ref (a.1 21 0), .int p1, .int p2, .int p3]) S K) {X : tq_Cx} {p1 : Int32} {p2 : Int32} {p3 : Int32} {S : tq_St} {K : Int32 → tq_St → Prop} (C : tq_C X cX2_isHome 6 RX2 (d + 7)) (hR : tq_Rz X cX2_isHome 6 K) (hf : wp_X2_isHome (d + 1) p1 p2 p3 S K) : Go X 6 S 0 [(0, .ref ((tq_la X).1 21 0)), (1, .int p1), (2, .int p2), (3, .int p3)] [] := by
  refine go_iload_n (pc := 0) C dX2_isHome_0 1 rfl rfl ?_
  refine go_iload_n (pc := 1) C dX2_isHome_1 2 rfl rfl ?_
  refine go_ic_ge (pc := 2) C dX2_isHome_2 10 (by decide) (fun c1 => ?_) (fun c1 => ?_)
  · have hf := hf.1 c1
    exact go_sub [0, 1, 3] rfl (wk_X2_isHome_10 C hR hrec _ _ _ hf)
  · have hf := hf.2 c1
    refine go_iload_n (pc := 5) C dX2_isHome_5 1 rfl rfl ?_
    refine go_iconst (pc := 6) (v := 3) C dX2_isHome_6 (by decide) ?_
    refine go_ic_lt (pc := 7) C dX2_isHome_7 65 (by decide) (fun c19 => ?_) (fun c19 => ?_)
    · have hf := hf.1 c19
      refine go_aload_n (pc := 65) C dX2_isHome_65 0 rfl rfl ?_
      refine ge_X2_X2_0 (pc := 66) C dX2_isHome_66 ?_
      refine go_iconst (pc := 69) (v := 0) C dX2_isHome_69 (by decide) ?_
      refine al_X2_0 (pc := 70) C hf.1 dX2_isHome_70 ?_
      have h20 : 3 + (0 : Int32).toNatClampNeg < 19 := tq_le hf.1 (by decide)
      have hf := hf.2
      refine ge_X2_X1_5 (pc := 71) C h20 dX2_isHome_71 ?_
      refine go_nI (fun x21 e22 => ?_)
      have hf := hf x21 e22
      refine go_istore (pc := 74) C dX2_isHome_74 [(4, .int x21), (0, .ref ((tq_la X).1 21 0)), (1, .int p1), (2, .int p2), (3, .int p3)] (by decide) rfl ?_
      refine go_iconst (pc := 76) (v := 0) C dX2_isHome_76 (by decide) ?_
      refine go_istore (pc := 77) C dX2_isHome_77 [(5, .int 0), (4, .int x21), (0, .ref ((tq_la X).1 21 0)), (1, .int p1), (2, .int p2), (3, .int p3)] (by decide) rfl ?_
      exact go_sub [2, 3, 4, 5, 1, 0] rfl (wk_X2_isHome_79 C hR hrec 2000 _ _ _ _ _ _ hf)
    · have hf := hf.2 c19
      exact go_sub [0, 1, 3] rfl (wk_X2_isHome_10 C hR hrec _ _ _ hf)
set_option maxRecDepth 100000 in
set_option maxHeartbeats 4000000 in
theorem ok_X2_isHome : ∀ (d : Nat) {p1 : Int32} {p2 : Int32} {p3 : Int32} {S : tq_St} {K : Int32 → tq_St → Prop} (hf : wp_X2_isHome d p1 p2 p3 S K), tq_Mi yX2_isHome cX2_isHome 6 (some .boolean) (d + 6) (fun a z => [.ref (a.1 21 0), .int p1, .int p2, .int p3]) S K := by
  intro d
  induction d with
  | zero => intros; contradiction
  | succ d ih =>
    intro p1 p2 p3 S K  hf
    exact tq_mkZ (by decide) (fun _ _ => Nat.le_of_ble_eq_true rfl) (fun X C hR => wk_X2_isHome (fun p1 p2 p3 S K  h => ih  h) C hR  hf)
set_option maxRecDepth 100000 in
set_option maxHeartbeats 4000000 in
theorem wk_X2_findWayHome_12 {X : tq_Cx} {p1 : Nat} {K : Int32 → tq_St → Prop} (C : tq_C X cX2_findWayHome 4 RX2 19) (hR : tq_Rz X cX2_findWayHome 4 K) (hp1 : p1 < 19) : ∀ (n : Nat) (v2 : Int32) (v3 : Int32) (S : tq_St), wp_X2_findWayHome_12 p1 K n v2 v3 S → Go X 4 S 12 [(0, .ref ((tq_la X).1 21 0)), (2, .int v2), (3, .int v3)] [] := by
  intro n
  induction n with
  | zero => intros; contradiction
  | succ n ih =>
    intro v2 v3 S hf
    refine go_iload_n (pc := 12) C dX2_findWayHome_12 2 rfl rfl ?_
    refine go_iconst (pc := 13) (v := 3) C dX2_findWayHome_13 (by decide) ?_
    refine go_ic_gt (pc := 14) C dX2_findWayHome_14 35 (by decide) (fun c5 => ?_) (fun c5 => ?_)
    · have hf := hf.1 c5
      refine go_iconst (pc := 35) (v := 0) C dX2_findWayHome_35 (by decide) ?_
      exact hR _ _ _ _ dX2_findWayHome_36 (Or.inl rfl) hf
    · have hf := hf.2 c5
      refine go_aload_n (pc := 17) C dX2_findWayHome_17 0 rfl rfl ?_
      refine go_iconst (pc := 18) (v := 0) C dX2_findWayHome_18 (by decide) ?_
      refine go_iload_n (pc := 19) C dX2_findWayHome_19 2 rfl rfl ?_
      refine go_iload_n (pc := 20) C dX2_findWayHome_20 1 rfl rfl ?_
      refine go_cVi (pc := 21) C cw_X2_69 (ok_X2_isHome 12 hf) (rc_X2 C) rfl rfl rfl (by decide) rfl dX2_findWayHome_21 (fun r6 S7 hf => ?_)
      refine go_if_eq (pc := 24) C dX2_findWayHome_24 29 (by decide) (fun c9 => ?_) (fun c9 => ?_)
      · have hf := hf.1 c9
        obtain ⟨x10, e11⟩ : ∃ q9 : Int32, q9 = v3 + 1 := ⟨_, rfl⟩
        refine go_iinc (pc := 29) (j := 2) (v := x10) C dX2_findWayHome_29 [(3, .int x10), (0, .ref ((tq_la X).1 21 0)), (2, .int v2)] rfl (by rw [e11]; rfl) (by decide) rfl ?_
        have hf := hf x10 e11
        refine go_goto (pc := 32) C dX2_findWayHome_32 12 (by decide) ?_
        exact go_sub [1, 2, 0] rfl (ih _ _ _ hf)
      · have hf := hf.2 c9
        refine go_iconst (pc := 27) (v := 1) C dX2_findWayHome_27 (by decide) ?_
        exact hR _ _ _ _ dX2_findWayHome_28 (Or.inr rfl) hf
set_option maxRecDepth 100000 in
set_option maxHeartbeats 4000000 in
theorem wk_X2_findWayHome {X : tq_Cx} {p1 : Nat} {p2 : Int32} {S : tq_St} {K : Int32 → tq_St → Prop} (C : tq_C X cX2_findWayHome 4 RX2 19) (hR : tq_Rz X cX2_findWayHome 4 K) (hp1 : p1 < 19) (hf : wp_X2_findWayHome p1 p2 S K) : Go X 4 S 0 [(0, .ref ((tq_la X).1 21 0)), (1, .ref ((tq_la X).1 p1 0)), (2, .int p2)] [] := by
  refine go_aload_n (pc := 0) C dX2_findWayHome_0 0 rfl rfl ?_
  refine ge_X2_X2_0 (pc := 1) C dX2_findWayHome_1 ?_
  refine go_iconst (pc := 4) (v := 0) C dX2_findWayHome_4 (by decide) ?_
  refine al_X2_0 (pc := 5) C hf.1 dX2_findWayHome_5 ?_
  have h1 : 3 + (0 : Int32).toNatClampNeg < 19 := tq_le hf.1 (by decide)
  have hf := hf.2
  refine go_aload_n (pc := 6) C dX2_findWayHome_6 1 rfl rfl ?_
  refine go_cVv (pc := 7) C cw_X2_29 (ok_X1_startFrom h1 hp1 hf) (rc_X1 C h1) rfl rfl rfl (by decide) rfl dX2_findWayHome_7 (fun S3 hf => ?_)
  refine go_iconst (pc := 10) (v := 0) C dX2_findWayHome_10 (by decide) ?_
  refine go_istore_n (pc := 11) C dX2_findWayHome_11 [(3, .int 0), (0, .ref ((tq_la X).1 21 0)), (1, .ref ((tq_la X).1 p1 0)), (2, .int p2)] rfl (by decide) rfl ?_
  exact go_sub [1, 3, 0] rfl (wk_X2_findWayHome_12 C hR hp1 2000 _ _ _ hf)
set_option maxRecDepth 100000 in
set_option maxHeartbeats 4000000 in
theorem ok_X2_findWayHome {p1 : Nat} {p2 : Int32} {S : tq_St} {K : Int32 → tq_St → Prop} (hp1 : p1 < 19) (hf : wp_X2_findWayHome p1 p2 S K) : tq_Mi yX2_findWayHome cX2_findWayHome 4 (some .boolean) 19 (fun a z => [.ref (a.1 21 0), .ref (a.1 p1 0), .int p2]) S K :=
  tq_mkZ (by decide) (fun _ _ => Nat.le_of_ble_eq_true rfl) (fun X C hR => wk_X2_findWayHome C hR hp1 hf)
set_option maxRecDepth 100000 in
set_option maxHeartbeats 4000000 in
theorem wk_X0_addWeight_13 {X : tq_Cx} {p1 : Nat} {K : tq_St → Prop} (C : tq_C X cX0_addWeight 5 RX0 2) (hR : tq_Rv X cX0_addWeight 5 K) (hp1 : p1 < 19) : ∀ (n : Nat) (v2 : Int64) (v4 : Int32) (S : tq_St), wp_X0_addWeight_13 p1 K n v2 v4 S → Go X 5 S 13 [(0, .ref ((tq_la X).1 22 0)), (1, .ref ((tq_la X).1 p1 0)), (2, .long v2), (4, .int v4)] [] := by
  intro n
  induction n with
  | zero => intros; contradiction
  | succ n ih =>
    intro v2 v4 S hf
    refine go_iload (pc := 13) C dX0_addWeight_13 3 rfl ?_
    refine go_aload_n (pc := 15) C dX0_addWeight_15 1 rfl rfl ?_
    refine ge_X0_X1_5 (pc := 16) C hp1 dX0_addWeight_16 ?_
    refine go_ic_ge (pc := 19) C dX0_addWeight_19 48 (by decide) (fun c3 => ?_) (fun c3 => ?_)
    · have hf := hf.1 c3
      exact hR _ _ _ dX0_addWeight_48 hf
    · have hf := hf.2 c3
      refine go_aload_n (pc := 22) C dX0_addWeight_22 1 rfl rfl ?_
      refine go_iload (pc := 23) C dX0_addWeight_23 3 rfl ?_
      refine go_cVi (pc := 25) C cw_X0_65 (ok_X1_waits hp1 hf) (rc_X1 C hp1) rfl rfl rfl (by decide) rfl dX0_addWeight_25 (fun r4 S5 hf => ?_)
      refine go_if_ne (pc := 28) C dX0_addWeight_28 42 (by decide) (fun c7 => ?_) (fun c7 => ?_)
      · have hf := hf.1 c7
        obtain ⟨x8, e9⟩ : ∃ q9 : Int32, q9 = v4 + 1 := ⟨_, rfl⟩
        refine go_iinc (pc := 42) (j := 3) (v := x8) C dX0_addWeight_42 [(4, .int x8), (0, .ref ((tq_la X).1 22 0)), (1, .ref ((tq_la X).1 p1 0)), (2, .long v2)] rfl (by rw [e9]; rfl) (by decide) rfl ?_
        have hf := hf x8 e9
        refine go_goto (pc := 45) C dX0_addWeight_45 13 (by decide) ?_
        exact go_sub [1, 2, 3, 0] rfl (ih _ _ _ hf)
      · have hf := hf.2 c7
        refine go_aload_n (pc := 31) C dX0_addWeight_31 0 rfl rfl ?_
        refine ge_X0_X0_1 (pc := 32) C dX0_addWeight_32 ?_
        refine go_iload (pc := 35) C dX0_addWeight_35 3 rfl ?_
        refine go_dup2 (pc := 37) C dX0_addWeight_37 rfl rfl ?_
        refine al_X0_1 (pc := 38) C hf.1 dX0_addWeight_38 ?_
        have hf := hf.2
        refine go_lload_n (pc := 39) C dX0_addWeight_39 2 rfl rfl ?_
        refine go_ladd (pc := 40) C dX0_addWeight_40 ?_
        refine as_X0_1 (pc := 41) C hf.1 dX0_addWeight_41 (fun S10 e11 => ?_)
        have hf := hf.2 S10 e11
        obtain ⟨x12, e13⟩ : ∃ q9 : Int32, q9 = v4 + 1 := ⟨_, rfl⟩
        refine go_iinc (pc := 42) (j := 3) (v := x12) C dX0_addWeight_42 [(4, .int x12), (0, .ref ((tq_la X).1 22 0)), (1, .ref ((tq_la X).1 p1 0)), (2, .long v2)] rfl (by rw [e13]; rfl) (by decide) rfl ?_
        have hf := hf x12 e13
        refine go_goto (pc := 45) C dX0_addWeight_45 13 (by decide) ?_
        exact go_sub [1, 2, 3, 0] rfl (ih _ _ _ hf)
set_option maxRecDepth 100000 in
set_option maxHeartbeats 4000000 in
theorem wk_X0_addWeight {X : tq_Cx} {p1 : Nat} {p2 : Int64} {S : tq_St} {K : tq_St → Prop} (C : tq_C X cX0_addWeight 5 RX0 2) (hR : tq_Rv X cX0_addWeight 5 K) (hp1 : p1 < 19) (hf : wp_X0_addWeight p1 p2 S K) : Go X 5 S 0 [(0, .ref ((tq_la X).1 22 0)), (1, .ref ((tq_la X).1 p1 0)), (2, .long p2)] [] := by
  refine go_aload_n (pc := 0) C dX0_addWeight_0 0 rfl rfl ?_
  refine go_dup (pc := 1) C dX0_addWeight_1 rfl ?_
  refine ge_X0_X0_2 (pc := 2) C dX0_addWeight_2 ?_
  refine go_lload_n (pc := 5) C dX0_addWeight_5 2 rfl rfl ?_
  refine go_ladd (pc := 6) C dX0_addWeight_6 ?_
  refine pu_X0_X0_2 (pc := 7) C dX0_addWeight_7 (fun S1 e2 => ?_)
  have hf := hf S1 e2
  refine go_iconst (pc := 10) (v := 0) C dX0_addWeight_10 (by decide) ?_
  refine go_istore (pc := 11) C dX0_addWeight_11 [(4, .int 0), (0, .ref ((tq_la X).1 22 0)), (1, .ref ((tq_la X).1 p1 0)), (2, .long p2)] (by decide) rfl ?_
  exact go_sub [1, 2, 3, 0] rfl (wk_X0_addWeight_13 C hR hp1 2000 _ _ _ hf)
set_option maxRecDepth 100000 in
set_option maxHeartbeats 4000000 in
theorem ok_X0_addWeight {p1 : Nat} {p2 : Int64} {S : tq_St} {K : tq_St → Prop} (hp1 : p1 < 19) (hf : wp_X0_addWeight p1 p2 S K) : tq_Mv yX0_addWeight cX0_addWeight 5 none 2 (fun a z => [.ref (a.1 22 0), .ref (a.1 p1 0), .long p2]) S K :=
  tq_mkV (by decide) (fun _ _ => Nat.le_of_ble_eq_true rfl) (fun X C hR => wk_X0_addWeight C hR hp1 hf)
set_option maxRecDepth 100000 in
set_option maxHeartbeats 4000000 in
theorem wk_X0_weighFrom_23 {X : tq_Cx} {d : Nat} {rec : Int32 → Int64 → Int32 → tq_St → (tq_St → Prop) → Prop} {K : tq_St → Prop} (C : tq_C X cX0_weighFrom 8 RX0 (d + 7)) (hR : tq_Rv X cX0_weighFrom 8 K) (hrec : ∀ (p1 : Int32) (p2 : Int64) (p4 : Int32) (S : tq_St) (K : tq_St → Prop), rec p1 p2 p4 S K → tq_Mv yX0_weighFrom cX0_weighFrom 8 none (d + 6) (fun a z => [.ref (a.1 22 0), .int p1, .long p2, .int p4]) S K) : ∀ (v2 : Int64) (v5 : Nat) (S : tq_St), v5 < 19 → wp_X0_weighFrom_23 rec K v2 v5 S → Go X 8 S 23 [(0, .ref ((tq_la X).1 22 0)), (2, .long v2), (5, .ref ((tq_la X).1 v5 0))] [] := by
  intro v2 v5 S hv5 hf
  refine go_aload_n (pc := 23) C dX0_weighFrom_23 0 rfl rfl ?_
  refine go_aload (pc := 24) C dX0_weighFrom_24 2 rfl ?_
  refine go_lload_n (pc := 26) C dX0_weighFrom_26 1 rfl rfl ?_
  refine go_cVv (pc := 27) C cw_X0_44 (ok_X0_addWeight hv5 hf) (rc_X0 C) rfl rfl rfl (tq_rk_d (by decide) (by decide)) rfl dX0_weighFrom_27 (fun S6 hf => ?_)
  exact hR _ _ _ dX0_weighFrom_30 hf
set_option maxRecDepth 100000 in
set_option maxHeartbeats 4000000 in
theorem wk_X0_weighFrom_125 {X : tq_Cx} {d : Nat} {rec : Int32 → Int64 → Int32 → tq_St → (tq_St → Prop) → Prop} {K : tq_St → Prop} (C : tq_C X cX0_weighFrom 8 RX0 (d + 7)) (hR : tq_Rv X cX0_weighFrom 8 K) (hrec : ∀ (p1 : Int32) (p2 : Int64) (p4 : Int32) (S : tq_St) (K : tq_St → Prop), rec p1 p2 p4 S K → tq_Mv yX0_weighFrom cX0_weighFrom 8 none (d + 6) (fun a z => [.ref (a.1 22 0), .int p1, .long p2, .int p4]) S K) : ∀ (v1 : Int32) (v2 : Int64) (v4 : Int32) (v5 : Nat) (v6 : Nat) (S : tq_St), v5 < 19 → v6 < 19 → wp_X0_weighFrom_125 rec K v1 v2 v4 v5 v6 S → Go X 8 S 125 [(0, .ref ((tq_la X).1 22 0)), (1, .int v1), (2, .long v2), (4, .int v4), (5, .ref ((tq_la X).1 v5 0)), (6, .ref ((tq_la X).1 v6 0))] [] := by
  intro v1 v2 v4 v5 v6 S hv5 hv6 hf
  refine go_iload (pc := 125) C dX0_weighFrom_125 3 rfl ?_
  refine go_if_le (pc := 127) C dX0_weighFrom_127 151 (by decide) (fun c19 => ?_) (fun c19 => ?_)
  · have hf := hf.1 c19
    exact hR _ _ _ dX0_weighFrom_151 hf
  · have hf := hf.2 c19
    refine go_aload (pc := 130) C dX0_weighFrom_130 5 rfl ?_
    refine go_aload (pc := 132) C dX0_weighFrom_132 4 rfl ?_
    refine go_cVv (pc := 134) C cw_X0_56 (ok_X1_copyFrom hv6 hv5 hf) (rc_X1 C hv6) rfl rfl rfl (tq_rk_d (by decide) (by decide)) rfl dX0_weighFrom_134 (fun S21 hf => ?_)
    refine go_aload_n (pc := 137) C dX0_weighFrom_137 0 rfl rfl ?_
    refine go_iload_n (pc := 138) C dX0_weighFrom_138 1 rfl rfl ?_
    refine go_iconst (pc := 139) (v := 1) C dX0_weighFrom_139 (by decide) ?_
    refine go_iadd (pc := 140) C dX0_weighFrom_140 ?_
    refine go_lload_n (pc := 141) C dX0_weighFrom_141 2 rfl rfl ?_
    refine go_iload (pc := 142) C dX0_weighFrom_142 3 rfl ?_
    refine go_i2l (pc := 144) C dX0_weighFrom_144 ?_
    refine go_lmul (pc := 145) C dX0_weighFrom_145 ?_
    refine go_iload (pc := 146) C dX0_weighFrom_146 3 rfl ?_
    refine go_cVv (pc := 148) C cw_X0_36 (hrec _ _ _ _ _ hf) (rc_X0 C) rfl rfl rfl (tq_rk_s (by decide)) rfl dX0_weighFrom_148 (fun S24 hf => ?_)
    exact hR _ _ _ dX0_weighFrom_151 hf
set_option maxRecDepth 100000 in
set_option maxHeartbeats 4000000 in
theorem wk_X0_weighFrom {d : Nat} (hrec : ∀ (p1 : Int32) (p2 : Int64) (p4 : Int32) (S : tq_St) (K : tq_St → Prop), wp_X0_weighFrom d p1 p2 p4 S K → tq_Mv yX0_weighFrom cX0_weighFrom 8 none (d + 6) (fun a z => [.ref (a.1 22 0), .int p1, .long p2, .int p4]) S K) {X : tq_Cx} {p1 : Int32} {p2 : Int64} {p4 : Int32} {S : tq_St} {K : tq_St → Prop} (C : tq_C X cX0_weighFrom 8 RX0 (d + 7)) (hR : tq_Rv X cX0_weighFrom 8 K) (hf : wp_X0_weighFrom (d + 1) p1 p2 p4 S K) : Go X 8 S 0 [(0, .ref ((tq_la X).1 22 0)), (1, .int p1), (2, .long p2), (4, .int p4)] [] := by
  refine go_aload_n (pc := 0) C dX0_weighFrom_0 0 rfl rfl ?_
  refine ge_X0_X0_0 (pc := 1) C dX0_weighFrom_1 ?_
  refine go_iload_n (pc := 4) C dX0_weighFrom_4 1 rfl rfl ?_
  refine al_X0_0 (pc := 5) C hf.1 dX0_weighFrom_5 ?_
  have h1 : 8 + (p1 : Int32).toNatClampNeg < 19 := tq_le hf.1 (by decide)
  have hf := hf.2
  obtain ⟨y2, e3⟩ : ∃ q9 : Nat, q9 = 8 + (p1 : Int32).toNatClampNeg := ⟨_, rfl⟩
  rw [← e3]
  have hf := hf y2 e3
  have hy2 : y2 < 19 := by rw [e3]; exact h1
  refine go_astore (pc := 6) C dX0_weighFrom_6 [(5, .ref ((tq_la X).1 y2 0)), (0, .ref ((tq_la X).1 22 0)), (1, .int p1), (2, .long p2), (4, .int p4)] (by decide) rfl ?_
  refine go_iload_n (pc := 8) C dX0_weighFrom_8 2 rfl rfl ?_
  refine go_aload (pc := 9) C dX0_weighFrom_9 0 rfl ?_
  refine ge_X0_X1_10 (pc := 11) C hy2 dX0_weighFrom_11 ?_
  refine go_ic_ge (pc := 14) C dX0_weighFrom_14 23 (by decide) (fun c4 => ?_) (fun c4 => ?_)
  · have hf := hf.1 c4
    exact go_sub [1, 3, 0] rfl (wk_X0_weighFrom_23 C hR hrec _ _ _ hy2 hf)
  · have hf := hf.2 c4
    refine go_iload_n (pc := 17) C dX0_weighFrom_17 2 rfl rfl ?_
    refine go_bipush (pc := 18) (v := 8) C dX0_weighFrom_18 (by decide) ?_
    refine go_ic_lt (pc := 20) C dX0_weighFrom_20 31 (by decide) (fun c8 => ?_) (fun c8 => ?_)
    · have hf := hf.1 c8
      refine go_aload_n (pc := 31) C dX0_weighFrom_31 1 rfl rfl ?_
      refine ge_X0_X0_0 (pc := 32) C dX0_weighFrom_32 ?_
      refine go_iload_n (pc := 35) C dX0_weighFrom_35 2 rfl rfl ?_
      refine go_iconst (pc := 36) (v := 1) C dX0_weighFrom_36 (by decide) ?_
      refine go_iadd (pc := 37) C dX0_weighFrom_37 ?_
      refine al_X0_0 (pc := 38) C hf.1 dX0_weighFrom_38 ?_
      have h9 : 8 + (p1 + 1 : Int32).toNatClampNeg < 19 := tq_le hf.1 (by decide)
      have hf := hf.2
      obtain ⟨y10, e11⟩ : ∃ q9 : Nat, q9 = 8 + (p1 + 1 : Int32).toNatClampNeg := ⟨_, rfl⟩
      rw [← e11]
      have hf := hf y10 e11
      have hy10 : y10 < 19 := by rw [e11]; exact h9
      refine go_astore (pc := 39) C dX0_weighFrom_39 [(6, .ref ((tq_la X).1 y10 0)), (5, .ref ((tq_la X).1 y2 0)), (0, .ref ((tq_la X).1 22 0)), (1, .int p1), (2, .long p2), (4, .int p4)] (by decide) rfl ?_
      refine go_aload (pc := 41) C dX0_weighFrom_41 1 rfl ?_
      refine ge_X0_X1_3 (pc := 43) C hy2 dX0_weighFrom_43 ?_
      refine go_iload_n (pc := 46) C dX0_weighFrom_46 3 rfl rfl ?_
      refine al_X1_3 (pc := 47) C hy2 hf.1 dX0_weighFrom_47 ?_
      have hf := hf.2
      refine go_nI (fun x12 e13 => ?_)
      have hf := hf x12 e13
      refine go_istore (pc := 48) C dX0_weighFrom_48 [(7, .int x12), (6, .ref ((tq_la X).1 y10 0)), (5, .ref ((tq_la X).1 y2 0)), (0, .ref ((tq_la X).1 22 0)), (1, .int p1), (2, .long p2), (4, .int p4)] (by decide) rfl ?_
      refine go_aload (pc := 50) C dX0_weighFrom_50 2 rfl ?_
      refine go_iload (pc := 52) C dX0_weighFrom_52 0 rfl ?_
      refine go_cVi (pc := 54) C cw_X0_52 (ok_X1_isThere hy2 hf) (rc_X1 C hy2) rfl rfl rfl (tq_rk_d (by decide) (by decide)) rfl dX0_weighFrom_54 (fun r14 S15 hf => ?_)
      refine go_if_ne (pc := 57) C dX0_weighFrom_57 86 (by decide) (fun c17 => ?_) (fun c17 => ?_)
      · have hf := hf.1 c17
        refine go_iload (pc := 86) C dX0_weighFrom_86 6 rfl ?_
        refine go_bipush (pc := 88) (v := 10) C dX0_weighFrom_88 (by decide) ?_
        refine go_ic_ge (pc := 90) C dX0_weighFrom_90 125 (by decide) (fun c18 => ?_) (fun c18 => ?_)
        · have hf := hf.1 c18
          exact go_sub [3, 4, 5, 6, 2, 1] rfl (wk_X0_weighFrom_125 C hR hrec _ _ _ _ _ _ hy2 hy10 hf)
        · have hf := hf.2 c18
          refine go_aload (pc := 93) C dX0_weighFrom_93 1 rfl ?_
          refine go_aload (pc := 95) C dX0_weighFrom_95 2 rfl ?_
          refine go_cVv (pc := 97) C cw_X0_56 (ok_X1_copyFrom hy10 hy2 hf) (rc_X1 C hy10) rfl rfl rfl (tq_rk_d (by decide) (by decide)) rfl dX0_weighFrom_97 (fun S27 hf => ?_)
          refine go_aload (pc := 100) C dX0_weighFrom_100 1 rfl ?_
          refine go_iload (pc := 102) C dX0_weighFrom_102 0 rfl ?_
          refine go_cVi (pc := 104) C cw_X0_59 (ok_X1_play hy10 hf) (rc_X1 C hy10) rfl rfl rfl (tq_rk_d (by decide) (by decide)) rfl dX0_weighFrom_104 (fun r29 S30 hf => ?_)
          refine go_pop (pc := 107) C dX0_weighFrom_107 rfl ?_
          refine go_aload_n (pc := 108) C dX0_weighFrom_108 3 rfl rfl ?_
          refine go_iload_n (pc := 109) C dX0_weighFrom_109 4 rfl rfl ?_
          refine go_iconst (pc := 110) (v := 1) C dX0_weighFrom_110 (by decide) ?_
          refine go_iadd (pc := 111) C dX0_weighFrom_111 ?_
          refine go_lload_n (pc := 112) C dX0_weighFrom_112 5 rfl rfl ?_
          refine go_bipush (pc := 113) (v := 10) C dX0_weighFrom_113 (by decide) ?_
          refine go_iload (pc := 115) C dX0_weighFrom_115 6 rfl ?_
          refine go_isub (pc := 117) C dX0_weighFrom_117 ?_
          refine go_i2l (pc := 118) C dX0_weighFrom_118 ?_
          refine go_lmul (pc := 119) C dX0_weighFrom_119 ?_
          refine go_iload (pc := 120) C dX0_weighFrom_120 6 rfl ?_
          refine go_cVv (pc := 122) C cw_X0_36 (hrec _ _ _ _ _ hf) (rc_X0 C) rfl rfl rfl (tq_rk_s (by decide)) rfl dX0_weighFrom_122 (fun S33 hf => ?_)
          exact go_sub [3, 4, 5, 6, 2, 1] rfl (wk_X0_weighFrom_125 C hR hrec _ _ _ _ _ _ hy2 hy10 hf)
      · have hf := hf.2 c17
        refine go_aload (pc := 60) C dX0_weighFrom_60 1 rfl ?_
        refine go_aload (pc := 62) C dX0_weighFrom_62 2 rfl ?_
        refine go_cVv (pc := 64) C cw_X0_56 (ok_X1_copyFrom hy10 hy2 hf) (rc_X1 C hy10) rfl rfl rfl (tq_rk_d (by decide) (by decide)) rfl dX0_weighFrom_64 (fun S36 hf => ?_)
        refine go_aload (pc := 67) C dX0_weighFrom_67 1 rfl ?_
        refine go_iload (pc := 69) C dX0_weighFrom_69 0 rfl ?_
        refine go_cVi (pc := 71) C cw_X0_59 (ok_X1_play hy10 hf) (rc_X1 C hy10) rfl rfl rfl (tq_rk_d (by decide) (by decide)) rfl dX0_weighFrom_71 (fun r38 S39 hf => ?_)
        refine go_pop (pc := 74) C dX0_weighFrom_74 rfl ?_
        refine go_aload_n (pc := 75) C dX0_weighFrom_75 3 rfl rfl ?_
        refine go_iload_n (pc := 76) C dX0_weighFrom_76 4 rfl rfl ?_
        refine go_iconst (pc := 77) (v := 1) C dX0_weighFrom_77 (by decide) ?_
        refine go_iadd (pc := 78) C dX0_weighFrom_78 ?_
        refine go_lload_n (pc := 79) C dX0_weighFrom_79 5 rfl rfl ?_
        refine go_iload (pc := 80) C dX0_weighFrom_80 6 rfl ?_
        refine go_cVv (pc := 82) C cw_X0_36 (hrec _ _ _ _ _ hf) (rc_X0 C) rfl rfl rfl (tq_rk_s (by decide)) rfl dX0_weighFrom_82 (fun S42 hf => ?_)
        exact hR _ _ _ dX0_weighFrom_85 hf
    · have hf := hf.2 c8
      exact go_sub [1, 3, 0] rfl (wk_X0_weighFrom_23 C hR hrec _ _ _ hy2 hf)
set_option maxRecDepth 100000 in
set_option maxHeartbeats 4000000 in
theorem ok_X0_weighFrom : ∀ (d : Nat) {p1 : Int32} {p2 : Int64} {p4 : Int32} {S : tq_St} {K : tq_St → Prop} (hf : wp_X0_weighFrom d p1 p2 p4 S K), tq_Mv yX0_weighFrom cX0_weighFrom 8 none (d + 6) (fun a z => [.ref (a.1 22 0), .int p1, .long p2, .int p4]) S K := by
  intro d
  induction d with
  | zero => intros; contradiction
  | succ d ih =>
    intro p1 p2 p4 S K  hf
    exact tq_mkV (by decide) (fun _ _ => Nat.le_of_ble_eq_true rfl) (fun X C hR => wk_X0_weighFrom (fun p1 p2 p4 S K  h => ih  h) C hR  hf)
set_option maxRecDepth 100000 in
set_option maxHeartbeats 4000000 in
theorem wk_X0_weighPlan {X : tq_Cx} {p1 : Nat} {p2 : Int32} {S : tq_St} {K : tq_St → Prop} (C : tq_C X cX0_weighPlan 3 RX0 19) (hR : tq_Rv X cX0_weighPlan 3 K) (hp1 : p1 < 19) (hf : wp_X0_weighPlan p1 p2 S K) : Go X 3 S 0 [(0, .ref ((tq_la X).1 22 0)), (1, .ref ((tq_la X).1 p1 0)), (2, .int p2)] [] := by
  refine go_aload_n (pc := 0) C dX0_weighPlan_0 0 rfl rfl ?_
  refine ge_X0_X0_0 (pc := 1) C dX0_weighPlan_1 ?_
  refine go_iconst (pc := 4) (v := 0) C dX0_weighPlan_4 (by decide) ?_
  refine al_X0_0 (pc := 5) C hf.1 dX0_weighPlan_5 ?_
  have h1 : 8 + (0 : Int32).toNatClampNeg < 19 := tq_le hf.1 (by decide)
  have hf := hf.2
  refine go_aload_n (pc := 6) C dX0_weighPlan_6 1 rfl rfl ?_
  refine go_cVv (pc := 7) C cw_X0_22 (ok_X1_startFrom h1 hp1 hf) (rc_X1 C h1) rfl rfl rfl (by decide) rfl dX0_weighPlan_7 (fun S3 hf => ?_)
  refine go_aload_n (pc := 10) C dX0_weighPlan_10 0 rfl rfl ?_
  refine ge_X0_X0_1 (pc := 11) C dX0_weighPlan_11 ?_
  refine go_lconst (pc := 14) (v := 0) C dX0_weighPlan_14 (by decide) ?_
  refine go_cSv (pc := 15) C cs_X0_26 (ok_J7_fill_d0a16 hf) rfl rfl rfl (by decide) rfl dX0_weighPlan_15 (fun S6 hf => ?_)
  refine go_aload_n (pc := 18) C dX0_weighPlan_18 0 rfl rfl ?_
  refine go_lconst (pc := 19) (v := 0) C dX0_weighPlan_19 (by decide) ?_
  refine pu_X0_X0_2 (pc := 20) C dX0_weighPlan_20 (fun S8 e9 => ?_)
  have hf := hf S8 e9
  refine go_aload_n (pc := 23) C dX0_weighPlan_23 0 rfl rfl ?_
  refine go_iconst (pc := 24) (v := 0) C dX0_weighPlan_24 (by decide) ?_
  refine go_lconst (pc := 25) (v := 1) C dX0_weighPlan_25 (by decide) ?_
  refine go_iload_n (pc := 26) C dX0_weighPlan_26 2 rfl rfl ?_
  refine go_cVv (pc := 27) C cw_X0_36 (ok_X0_weighFrom 12 hf) (rc_X0 C) rfl rfl rfl (by decide) rfl dX0_weighPlan_27 (fun S11 hf => ?_)
  exact hR _ _ _ dX0_weighPlan_30 hf
set_option maxRecDepth 100000 in
set_option maxHeartbeats 4000000 in
theorem ok_X0_weighPlan {p1 : Nat} {p2 : Int32} {S : tq_St} {K : tq_St → Prop} (hp1 : p1 < 19) (hf : wp_X0_weighPlan p1 p2 S K) : tq_Mv yX0_weighPlan cX0_weighPlan 3 none 19 (fun a z => [.ref (a.1 22 0), .ref (a.1 p1 0), .int p2]) S K :=
  tq_mkV (by decide) (fun _ _ => Nat.le_of_ble_eq_true rfl) (fun X C hR => wk_X0_weighPlan C hR hp1 hf)
set_option maxRecDepth 100000 in
set_option maxHeartbeats 4000000 in
theorem wk_X0_weightOf {X : tq_Cx} {p1 : Int32} {S : tq_St} {K : Int64 → tq_St → Prop} (C : tq_C X cX0_weightOf 2 RX0 1) (hR : tq_Rl X cX0_weightOf 2 K) (hf : wp_X0_weightOf p1 S K) : Go X 2 S 0 [(0, .ref ((tq_la X).1 22 0)), (1, .int p1)] [] := by
  refine go_iload_n (pc := 0) C dX0_weightOf_0 1 rfl rfl ?_
  refine go_if_lt (pc := 1) C dX0_weightOf_1 18 (by decide) (fun c1 => ?_) (fun c1 => ?_)
  · have hf := hf.1 c1
    refine go_lconst (pc := 18) (v := 0) C dX0_weightOf_18 (by decide) ?_
    exact hR _ _ _ _ dX0_weightOf_19 hf
  · have hf := hf.2 c1
    refine go_iload_n (pc := 4) C dX0_weightOf_4 1 rfl rfl ?_
    refine go_iconst (pc := 5) (v := 5) C dX0_weightOf_5 (by decide) ?_
    refine go_ic_ge (pc := 6) C dX0_weightOf_6 18 (by decide) (fun c2 => ?_) (fun c2 => ?_)
    · have hf := hf.1 c2
      refine go_lconst (pc := 18) (v := 0) C dX0_weightOf_18 (by decide) ?_
      exact hR _ _ _ _ dX0_weightOf_19 hf
    · have hf := hf.2 c2
      refine go_aload_n (pc := 9) C dX0_weightOf_9 0 rfl rfl ?_
      refine ge_X0_X0_1 (pc := 10) C dX0_weightOf_10 ?_
      refine go_iload_n (pc := 13) C dX0_weightOf_13 1 rfl rfl ?_
      refine al_X0_1 (pc := 14) C hf.1 dX0_weightOf_14 ?_
      have hf := hf.2
      refine go_goto (pc := 15) C dX0_weightOf_15 19 (by decide) ?_
      exact hR _ _ _ _ dX0_weightOf_19 hf
set_option maxRecDepth 100000 in
set_option maxHeartbeats 4000000 in
theorem ok_X0_weightOf {p1 : Int32} {S : tq_St} {K : Int64 → tq_St → Prop} (hf : wp_X0_weightOf p1 S K) : tq_Ml yX0_weightOf cX0_weightOf 2 (some .long) 1 (fun a z => [.ref (a.1 22 0), .int p1]) S K :=
  tq_mkL (by decide) (fun _ _ => Nat.le_of_ble_eq_true rfl) (fun X C hR => wk_X0_weightOf C hR  hf)
