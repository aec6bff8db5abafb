set_option maxRecDepth 100000 in
set_option maxHeartbeats 4000000 in
theorem wk_X5_append {X : tq_Cx} {p1 : Int32} {S : tq_St} {K : Int32 → tq_St → Prop} (C : tq_C X cX5_append 2 RX5 1) (hR : tq_Rz X cX5_append 2 K) (hf : wp_X5_append p1 S K) : Go X 2 S 0 [(0, .ref ((tq_la X).1 19 0)), (1, .int p1)] [] := by
  refine go_aload_n (pc := 0) C dX5_append_0 0 rfl rfl ?_
  refine ge_X5_X5_2 (pc := 1) C dX5_append_1 ?_
  refine go_sipush (pc := 4) (v := 160) C dX5_append_4 (by decide) ?_
  refine go_ic_lt (pc := 7) C dX5_append_7 12 (by decide) (fun c1 => ?_) (fun c1 => ?_)
  · have hf := hf.1 c1
    refine go_aload_n (pc := 12) C dX5_append_12 0 rfl rfl ?_
    refine ge_X5_X5_0 (pc := 13) C dX5_append_13 ?_
    refine go_aload_n (pc := 16) C dX5_append_16 0 rfl rfl ?_
    refine ge_X5_X5_2 (pc := 17) C dX5_append_17 ?_
    refine go_iload_n (pc := 20) C dX5_append_20 1 rfl rfl ?_
    refine go_i2b (pc := 21) C dX5_append_21 ?_
    refine as_X5_0 (pc := 22) C hf.1 dX5_append_22 (fun S2 e3 => ?_)
    have hf := hf.2 S2 e3
    refine go_aload_n (pc := 23) C dX5_append_23 0 rfl rfl ?_
    refine go_dup (pc := 24) C dX5_append_24 rfl ?_
    refine ge_X5_X5_2 (pc := 25) C dX5_append_25 ?_
    refine go_iconst (pc := 28) (v := 1) C dX5_append_28 (by decide) ?_
    refine go_iadd (pc := 29) C dX5_append_29 ?_
    refine pu_X5_X5_2 (pc := 30) C dX5_append_30 (fun S4 e5 => ?_)
    have hf := hf S4 e5
    refine go_iconst (pc := 33) (v := 1) C dX5_append_33 (by decide) ?_
    exact hR _ _ _ _ dX5_append_34 (Or.inr rfl) hf
  · have hf := hf.2 c1
    refine go_iconst (pc := 10) (v := 0) C dX5_append_10 (by decide) ?_
    exact hR _ _ _ _ dX5_append_11 (Or.inl rfl) hf
set_option maxRecDepth 100000 in
set_option maxHeartbeats 4000000 in
theorem ok_X5_append {p1 : Int32} {S : tq_St} {K : Int32 → tq_St → Prop} (hf : wp_X5_append p1 S K) : tq_Mi yX5_append cX5_append 2 (some .boolean) 1 (fun a z => [.ref (a.1 19 0), .int p1]) S K :=
  tq_mkZ (by decide) (fun _ _ => Nat.le_of_ble_eq_true rfl) (fun X C hR => wk_X5_append C hR  hf)
set_option maxRecDepth 100000 in
set_option maxHeartbeats 4000000 in
theorem wk_X5_sortOf_28 {X : tq_Cx} {K : Int32 → tq_St → Prop} (C : tq_C X cX5_sortOf 1 RX5 1) (hR : tq_Ri X cX5_sortOf 1 K) : ∀ (v0 : Int32) (S : tq_St), wp_X5_sortOf_28 K v0 S → Go X 1 S 28 [(0, .int v0)] [] := by
  intro v0 S hf
  refine go_iload_n (pc := 28) C dX5_sortOf_28 0 rfl rfl ?_
  refine go_bipush (pc := 29) (v := 59) C dX5_sortOf_29 (by decide) ?_
  refine go_ic_ne (pc := 31) C dX5_sortOf_31 38 (by decide) (fun c3 => ?_) (fun c3 => ?_)
  · have hf := hf.1 c3
    refine go_iconst (pc := 38) (v := 4) C dX5_sortOf_38 (by decide) ?_
    exact hR _ _ _ _ dX5_sortOf_39 hf
  · have hf := hf.2 c3
    refine go_iconst (pc := 34) (v := 3) C dX5_sortOf_34 (by decide) ?_
    refine go_goto (pc := 35) C dX5_sortOf_35 39 (by decide) ?_
    exact hR _ _ _ _ dX5_sortOf_39 hf
set_option maxRecDepth 100000 in
set_option maxHeartbeats 4000000 in
theorem wk_X5_sortOf_14 {X : tq_Cx} {K : Int32 → tq_St → Prop} (C : tq_C X cX5_sortOf 1 RX5 1) (hR : tq_Ri X cX5_sortOf 1 K) : ∀ (v0 : Int32) (S : tq_St), wp_X5_sortOf_14 K v0 S → Go X 1 S 14 [(0, .int v0)] [] := by
  intro v0 S hf
  refine go_iload_n (pc := 14) C dX5_sortOf_14 0 rfl rfl ?_
  refine go_bipush (pc := 15) (v := 48) C dX5_sortOf_15 (by decide) ?_
  refine go_ic_lt (pc := 17) C dX5_sortOf_17 28 (by decide) (fun c2 => ?_) (fun c2 => ?_)
  · have hf := hf.1 c2
    exact go_sub [0] rfl (wk_X5_sortOf_28 C hR _ _ hf)
  · have hf := hf.2 c2
    refine go_iload_n (pc := 20) C dX5_sortOf_20 0 rfl rfl ?_
    refine go_bipush (pc := 21) (v := 57) C dX5_sortOf_21 (by decide) ?_
    refine go_ic_gt (pc := 23) C dX5_sortOf_23 28 (by decide) (fun c4 => ?_) (fun c4 => ?_)
    · have hf := hf.1 c4
      exact go_sub [0] rfl (wk_X5_sortOf_28 C hR _ _ hf)
    · have hf := hf.2 c4
      refine go_iconst (pc := 26) (v := 2) C dX5_sortOf_26 (by decide) ?_
      exact hR _ _ _ _ dX5_sortOf_27 hf
set_option maxRecDepth 100000 in
set_option maxHeartbeats 4000000 in
theorem wk_X5_sortOf {X : tq_Cx} {p0 : Int32} {S : tq_St} {K : Int32 → tq_St → Prop} (C : tq_C X cX5_sortOf 1 RX5 1) (hR : tq_Ri X cX5_sortOf 1 K) (hf : wp_X5_sortOf p0 S K) : Go X 1 S 0 [(0, .int p0)] [] := by
  refine go_iload_n (pc := 0) C dX5_sortOf_0 0 rfl rfl ?_
  refine go_bipush (pc := 1) (v := 97) C dX5_sortOf_1 (by decide) ?_
  refine go_ic_lt (pc := 3) C dX5_sortOf_3 14 (by decide) (fun c1 => ?_) (fun c1 => ?_)
  · have hf := hf.1 c1
    exact go_sub [0] rfl (wk_X5_sortOf_14 C hR _ _ hf)
  · have hf := hf.2 c1
    refine go_iload_n (pc := 6) C dX5_sortOf_6 0 rfl rfl ?_
    refine go_bipush (pc := 7) (v := 122) C dX5_sortOf_7 (by decide) ?_
    refine go_ic_gt (pc := 9) C dX5_sortOf_9 14 (by decide) (fun c5 => ?_) (fun c5 => ?_)
    · have hf := hf.1 c5
      exact go_sub [0] rfl (wk_X5_sortOf_14 C hR _ _ hf)
    · have hf := hf.2 c5
      refine go_iconst (pc := 12) (v := 1) C dX5_sortOf_12 (by decide) ?_
      exact hR _ _ _ _ dX5_sortOf_13 hf
set_option maxRecDepth 100000 in
set_option maxHeartbeats 4000000 in
theorem ok_X5_sortOf {p0 : Int32} {S : tq_St} {K : Int32 → tq_St → Prop} (hf : wp_X5_sortOf p0 S K) : tq_Mi yX5_sortOf cX5_sortOf 1 (some .int) 1 (fun a z => [.int p0]) S K :=
  tq_mkI (by decide) (fun _ _ => Nat.le_of_ble_eq_true rfl) (fun X C hR => wk_X5_sortOf C hR  hf)
set_option maxRecDepth 100000 in
set_option maxHeartbeats 4000000 in
theorem wk_X5_fail {X : tq_Cx} {p1 : Int32} {p2 : Int32} {S : tq_St} {K : tq_St → Prop} (C : tq_C X cX5_fail 3 RX5 1) (hR : tq_Rv X cX5_fail 3 K) (hf : wp_X5_fail p1 p2 S K) : Go X 3 S 0 [(0, .ref ((tq_la X).1 19 0)), (1, .int p1), (2, .int p2)] [] := by
  refine go_aload_n (pc := 0) C dX5_fail_0 0 rfl rfl ?_
  refine ge_X5_X5_3 (pc := 1) C dX5_fail_1 ?_
  refine go_if_ne (pc := 4) C dX5_fail_4 17 (by decide) (fun c1 => ?_) (fun c1 => ?_)
  · have hf := hf.1 c1
    exact hR _ _ _ dX5_fail_17 hf
  · have hf := hf.2 c1
    refine go_aload_n (pc := 7) C dX5_fail_7 0 rfl rfl ?_
    refine go_iload_n (pc := 8) C dX5_fail_8 1 rfl rfl ?_
    refine pu_X5_X5_3 (pc := 9) C dX5_fail_9 (fun S2 e3 => ?_)
    have hf := hf S2 e3
    refine go_aload_n (pc := 12) C dX5_fail_12 0 rfl rfl ?_
    refine go_iload_n (pc := 13) C dX5_fail_13 2 rfl rfl ?_
    refine pu_X5_X5_4 (pc := 14) C dX5_fail_14 (fun S4 e5 => ?_)
    have hf := hf S4 e5
    exact hR _ _ _ dX5_fail_17 hf
set_option maxRecDepth 100000 in
set_option maxHeartbeats 4000000 in
theorem ok_X5_fail {p1 : Int32} {p2 : Int32} {S : tq_St} {K : tq_St → Prop} (hf : wp_X5_fail p1 p2 S K) : tq_Mv yX5_fail cX5_fail 3 none 1 (fun a z => [.ref (a.1 19 0), .int p1, .int p2]) S K :=
  tq_mkV (by decide) (fun _ _ => Nat.le_of_ble_eq_true rfl) (fun X C hR => wk_X5_fail C hR  hf)
set_option maxRecDepth 100000 in
set_option maxHeartbeats 4000000 in
theorem wk_X5_takeToken_215 {X : tq_Cx} {K : tq_St → Prop} (C : tq_C X cX5_takeToken 2 RX5 2) (hR : tq_Rv X cX5_takeToken 2 K) : ∀ (S : tq_St), wp_X5_takeToken_215 K S → Go X 2 S 215 [(0, .ref ((tq_la X).1 19 0))] [] := by
  intro S hf
  refine go_aload_n (pc := 215) C dX5_takeToken_215 0 rfl rfl ?_
  refine ge_X5_X5_7 (pc := 216) C dX5_takeToken_216 ?_
  refine go_iconst (pc := 219) (v := 4) C dX5_takeToken_219 (by decide) ?_
  refine go_ic_ne (pc := 220) C dX5_takeToken_220 232 (by decide) (fun c12 => ?_) (fun c12 => ?_)
  · have hf := hf.1 c12
    exact hR _ _ _ dX5_takeToken_232 hf
  · have hf := hf.2 c12
    refine go_aload_n (pc := 223) C dX5_takeToken_223 0 rfl rfl ?_
    refine go_iconst (pc := 224) (v := 1) C dX5_takeToken_224 (by decide) ?_
    refine go_aload_n (pc := 225) C dX5_takeToken_225 0 rfl rfl ?_
    refine ge_X5_X5_8 (pc := 226) C dX5_takeToken_226 ?_
    refine go_cVv (pc := 229) C cw_X5_54 (ok_X5_fail hf) (rc_X5 C) rfl rfl rfl (by decide) rfl dX5_takeToken_229 (fun S14 hf => ?_)
    exact hR _ _ _ dX5_takeToken_232 hf
set_option maxRecDepth 100000 in
set_option maxHeartbeats 4000000 in
theorem wk_X5_takeToken_189 {X : tq_Cx} {K : tq_St → Prop} (C : tq_C X cX5_takeToken 2 RX5 2) (hR : tq_Rv X cX5_takeToken 2 K) : ∀ (S : tq_St), wp_X5_takeToken_189 K S → Go X 2 S 189 [(0, .ref ((tq_la X).1 19 0))] [] := by
  intro S hf
  refine go_aload_n (pc := 189) C dX5_takeToken_189 0 rfl rfl ?_
  refine ge_X5_X5_7 (pc := 190) C dX5_takeToken_190 ?_
  refine go_iconst (pc := 193) (v := 2) C dX5_takeToken_193 (by decide) ?_
  refine go_ic_ne (pc := 194) C dX5_takeToken_194 215 (by decide) (fun c11 => ?_) (fun c11 => ?_)
  · have hf := hf.1 c11
    exact go_sub [0] rfl (wk_X5_takeToken_215 C hR _ hf)
  · have hf := hf.2 c11
    refine go_aload_n (pc := 197) C dX5_takeToken_197 0 rfl rfl ?_
    refine ge_X5_X5_6 (pc := 198) C dX5_takeToken_198 ?_
    refine go_aload_n (pc := 201) C dX5_takeToken_201 0 rfl rfl ?_
    refine ge_X5_X5_8 (pc := 202) C dX5_takeToken_202 ?_
    refine go_isub (pc := 205) C dX5_takeToken_205 ?_
    refine go_iconst (pc := 206) (v := 2) C dX5_takeToken_206 (by decide) ?_
    refine go_ic_le (pc := 207) C dX5_takeToken_207 215 (by decide) (fun c16 => ?_) (fun c16 => ?_)
    · have hf := hf.1 c16
      exact go_sub [0] rfl (wk_X5_takeToken_215 C hR _ hf)
    · have hf := hf.2 c16
      refine go_aload_n (pc := 210) C dX5_takeToken_210 0 rfl rfl ?_
      refine go_iconst (pc := 211) (v := 4) C dX5_takeToken_211 (by decide) ?_
      refine pu_X5_X5_7 (pc := 212) C dX5_takeToken_212 (fun S17 e18 => ?_)
      have hf := hf S17 e18
      exact go_sub [0] rfl (wk_X5_takeToken_215 C hR _ hf)
set_option maxRecDepth 100000 in
set_option maxHeartbeats 4000000 in
theorem wk_X5_takeToken_152 {X : tq_Cx} {K : tq_St → Prop} (C : tq_C X cX5_takeToken 2 RX5 2) (hR : tq_Rv X cX5_takeToken 2 K) {rec104 : Int32 → tq_St → Prop} (hrec104 : ∀ (v1 : Int32) (S : tq_St), rec104 v1 S → Go X 2 S 104 [(0, .ref ((tq_la X).1 19 0)), (1, .int v1)] []) : ∀ (v1 : Int32) (S : tq_St), wp_X5_takeToken_152 K rec104 v1 S → Go X 2 S 152 [(0, .ref ((tq_la X).1 19 0)), (1, .int v1)] [] := by
  intro v1 S hf
  refine go_aload_n (pc := 152) C dX5_takeToken_152 0 rfl rfl ?_
  refine go_aload_n (pc := 153) C dX5_takeToken_153 0 rfl rfl ?_
  refine ge_X5_X5_9 (pc := 154) C dX5_takeToken_154 ?_
  refine go_bipush (pc := 157) (v := 10) C dX5_takeToken_157 (by decide) ?_
  refine go_imul (pc := 159) C dX5_takeToken_159 ?_
  refine go_aload_n (pc := 160) C dX5_takeToken_160 0 rfl rfl ?_
  refine ge_X5_X5_0 (pc := 161) C dX5_takeToken_161 ?_
  refine go_aload_n (pc := 164) C dX5_takeToken_164 0 rfl rfl ?_
  refine ge_X5_X5_6 (pc := 165) C dX5_takeToken_165 ?_
  refine al_X5_0 (pc := 168) C hf.1 dX5_takeToken_168 ?_
  have hf := hf.2
  refine go_bipush (pc := 169) (v := 48) C dX5_takeToken_169 (by decide) ?_
  refine go_isub (pc := 171) C dX5_takeToken_171 ?_
  refine go_iadd (pc := 172) C dX5_takeToken_172 ?_
  refine pu_X5_X5_9 (pc := 173) C dX5_takeToken_173 (fun S21 e22 => ?_)
  have hf := hf S21 e22
  refine go_aload_n (pc := 176) C dX5_takeToken_176 0 rfl rfl ?_
  refine go_dup (pc := 177) C dX5_takeToken_177 rfl ?_
  refine ge_X5_X5_6 (pc := 178) C dX5_takeToken_178 ?_
  refine go_iconst (pc := 181) (v := 1) C dX5_takeToken_181 (by decide) ?_
  refine go_iadd (pc := 182) C dX5_takeToken_182 ?_
  refine pu_X5_X5_6 (pc := 183) C dX5_takeToken_183 (fun S23 e24 => ?_)
  have hf := hf S23 e24
  refine go_goto (pc := 186) C dX5_takeToken_186 104 (by decide) ?_
  exact go_sub [0, 1] rfl (hrec104 _ _ hf)
set_option maxRecDepth 100000 in
set_option maxHeartbeats 4000000 in
theorem wk_X5_takeToken_104 {X : tq_Cx} {K : tq_St → Prop} (C : tq_C X cX5_takeToken 2 RX5 2) (hR : tq_Rv X cX5_takeToken 2 K) : ∀ (n : Nat) (v1 : Int32) (S : tq_St), wp_X5_takeToken_104 K n v1 S → Go X 2 S 104 [(0, .ref ((tq_la X).1 19 0)), (1, .int v1)] [] := by
  intro n
  induction n with
  | zero => intros; contradiction
  | succ n ih =>
    intro v1 S hf
    refine go_aload_n (pc := 104) C dX5_takeToken_104 0 rfl rfl ?_
    refine ge_X5_X5_6 (pc := 105) C dX5_takeToken_105 ?_
    refine go_aload_n (pc := 108) C dX5_takeToken_108 0 rfl rfl ?_
    refine ge_X5_X5_2 (pc := 109) C dX5_takeToken_109 ?_
    refine go_ic_ge (pc := 112) C dX5_takeToken_112 189 (by decide) (fun c10 => ?_) (fun c10 => ?_)
    · have hf := hf.1 c10
      exact go_sub [0] rfl (wk_X5_takeToken_189 C hR _ hf)
    · have hf := hf.2 c10
      refine go_iload_n (pc := 115) C dX5_takeToken_115 1 rfl rfl ?_
      refine go_if_eq (pc := 116) C dX5_takeToken_116 141 (by decide) (fun c19 => ?_) (fun c19 => ?_)
      · have hf := hf.1 c19
        refine go_aload_n (pc := 141) C dX5_takeToken_141 0 rfl rfl ?_
        refine ge_X5_X5_6 (pc := 142) C dX5_takeToken_142 ?_
        refine go_aload_n (pc := 145) C dX5_takeToken_145 0 rfl rfl ?_
        refine ge_X5_X5_8 (pc := 146) C dX5_takeToken_146 ?_
        refine go_ic_ne (pc := 149) C dX5_takeToken_149 189 (by decide) (fun c20 => ?_) (fun c20 => ?_)
        · have hf := hf.1 c20
          exact go_sub [0] rfl (wk_X5_takeToken_189 C hR _ hf)
        · have hf := hf.2 c20
          exact go_sub [0, 1] rfl (wk_X5_takeToken_152 C hR ih _ _ hf)
      · have hf := hf.2 c19
        refine go_aload_n (pc := 119) C dX5_takeToken_119 0 rfl rfl ?_
        refine ge_X5_X5_0 (pc := 120) C dX5_takeToken_120 ?_
        refine go_aload_n (pc := 123) C dX5_takeToken_123 0 rfl rfl ?_
        refine ge_X5_X5_6 (pc := 124) C dX5_takeToken_124 ?_
        refine al_X5_0 (pc := 127) C hf.1 dX5_takeToken_127 ?_
        have hf := hf.2
        refine go_cSi (pc := 128) C cs_X5_98 (ok_X5_sortOf hf) rfl rfl rfl (by decide) rfl dX5_takeToken_128 (fun r25 S26 hf => ?_)
        refine go_aload_n (pc := 131) C dX5_takeToken_131 0 rfl rfl ?_
        refine ge_X5_X5_7 (pc := 132) C dX5_takeToken_132 ?_
        refine go_ic_ne (pc := 135) C dX5_takeToken_135 189 (by decide) (fun c28 => ?_) (fun c28 => ?_)
        · have hf := hf.1 c28
          exact go_sub [0] rfl (wk_X5_takeToken_189 C hR _ hf)
        · have hf := hf.2 c28
          refine go_goto (pc := 138) C dX5_takeToken_138 152 (by decide) ?_
          exact go_sub [0, 1] rfl (wk_X5_takeToken_152 C hR ih _ _ hf)
set_option maxRecDepth 100000 in
set_option maxHeartbeats 4000000 in
theorem wk_X5_takeToken_79 {X : tq_Cx} {K : tq_St → Prop} (C : tq_C X cX5_takeToken 2 RX5 2) (hR : tq_Rv X cX5_takeToken 2 K) : ∀ (w1 : Int32) (S : tq_St), wp_X5_takeToken_79 K w1 S → Go X 2 S 79 [(0, .ref ((tq_la X).1 19 0))] [.int w1, .ref ((tq_la X).1 19 0)] := by
  intro w1 S hf
  refine pu_X5_X5_7 (pc := 79) C dX5_takeToken_79 (fun S7 e8 => ?_)
  have hf := hf S7 e8
  refine go_aload_n (pc := 82) C dX5_takeToken_82 0 rfl rfl ?_
  refine ge_X5_X5_7 (pc := 83) C dX5_takeToken_83 ?_
  refine go_iconst (pc := 86) (v := 1) C dX5_takeToken_86 (by decide) ?_
  refine go_ic_eq (pc := 87) C dX5_takeToken_87 98 (by decide) (fun c9 => ?_) (fun c9 => ?_)
  · have hf := hf.1 c9
    refine go_iconst (pc := 98) (v := 1) C dX5_takeToken_98 (by decide) ?_
    refine go_goto (pc := 99) C dX5_takeToken_99 103 (by decide) ?_
    refine go_istore_n (pc := 103) C dX5_takeToken_103 [(1, .int 1), (0, .ref ((tq_la X).1 19 0))] rfl (by decide) rfl ?_
    exact go_sub [1, 0] rfl (wk_X5_takeToken_104 C hR 2000 _ _ hf)
  · have hf := hf.2 c9
    refine go_aload_n (pc := 90) C dX5_takeToken_90 0 rfl rfl ?_
    refine ge_X5_X5_7 (pc := 91) C dX5_takeToken_91 ?_
    refine go_iconst (pc := 94) (v := 2) C dX5_takeToken_94 (by decide) ?_
    refine go_ic_ne (pc := 95) C dX5_takeToken_95 102 (by decide) (fun c29 => ?_) (fun c29 => ?_)
    · have hf := hf.1 c29
      refine go_iconst (pc := 102) (v := 0) C dX5_takeToken_102 (by decide) ?_
      refine go_istore_n (pc := 103) C dX5_takeToken_103 [(1, .int 0), (0, .ref ((tq_la X).1 19 0))] rfl (by decide) rfl ?_
      exact go_sub [1, 0] rfl (wk_X5_takeToken_104 C hR 2000 _ _ hf)
    · have hf := hf.2 c29
      refine go_iconst (pc := 98) (v := 1) C dX5_takeToken_98 (by decide) ?_
      refine go_goto (pc := 99) C dX5_takeToken_99 103 (by decide) ?_
      refine go_istore_n (pc := 103) C dX5_takeToken_103 [(1, .int 1), (0, .ref ((tq_la X).1 19 0))] rfl (by decide) rfl ?_
      exact go_sub [1, 0] rfl (wk_X5_takeToken_104 C hR 2000 _ _ hf)
set_option maxRecDepth 100000 in
set_option maxHeartbeats 4000000 in
theorem wk_X5_takeToken_38 {X : tq_Cx} {K : tq_St → Prop} (C : tq_C X cX5_takeToken 2 RX5 2) (hR : tq_Rv X cX5_takeToken 2 K) : ∀ (S : tq_St), wp_X5_takeToken_38 K S → Go X 2 S 38 [(0, .ref ((tq_la X).1 19 0))] [] := by
  intro S hf
  refine go_aload_n (pc := 38) C dX5_takeToken_38 0 rfl rfl ?_
  refine go_aload_n (pc := 39) C dX5_takeToken_39 0 rfl rfl ?_
  refine ge_X5_X5_6 (pc := 40) C dX5_takeToken_40 ?_
  refine pu_X5_X5_8 (pc := 43) C dX5_takeToken_43 (fun S2 e3 => ?_)
  have hf := hf S2 e3
  refine go_aload_n (pc := 46) C dX5_takeToken_46 0 rfl rfl ?_
  refine go_iconst (pc := 47) (v := 0) C dX5_takeToken_47 (by decide) ?_
  refine pu_X5_X5_9 (pc := 48) C dX5_takeToken_48 (fun S4 e5 => ?_)
  have hf := hf S4 e5
  refine go_aload_n (pc := 51) C dX5_takeToken_51 0 rfl rfl ?_
  refine go_aload_n (pc := 52) C dX5_takeToken_52 0 rfl rfl ?_
  refine ge_X5_X5_6 (pc := 53) C dX5_takeToken_53 ?_
  refine go_aload_n (pc := 56) C dX5_takeToken_56 0 rfl rfl ?_
  refine ge_X5_X5_2 (pc := 57) C dX5_takeToken_57 ?_
  refine go_ic_ge (pc := 60) C dX5_takeToken_60 78 (by decide) (fun c6 => ?_) (fun c6 => ?_)
  · have hf := hf.1 c6
    refine go_iconst (pc := 78) (v := 0) C dX5_takeToken_78 (by decide) ?_
    exact go_sub [0] rfl (wk_X5_takeToken_79 C hR _ _ hf)
  · have hf := hf.2 c6
    refine go_aload_n (pc := 63) C dX5_takeToken_63 0 rfl rfl ?_
    refine ge_X5_X5_0 (pc := 64) C dX5_takeToken_64 ?_
    refine go_aload_n (pc := 67) C dX5_takeToken_67 0 rfl rfl ?_
    refine ge_X5_X5_6 (pc := 68) C dX5_takeToken_68 ?_
    refine al_X5_0 (pc := 71) C hf.1 dX5_takeToken_71 ?_
    have hf := hf.2
    refine go_cSi (pc := 72) C cs_X5_98 (ok_X5_sortOf hf) rfl rfl rfl (by decide) rfl dX5_takeToken_72 (fun r30 S31 hf => ?_)
    refine go_goto (pc := 75) C dX5_takeToken_75 79 (by decide) ?_
    exact go_sub [0] rfl (wk_X5_takeToken_79 C hR _ _ hf)
set_option maxRecDepth 100000 in
set_option maxHeartbeats 4000000 in
theorem wk_X5_takeToken_0 {X : tq_Cx} {K : tq_St → Prop} (C : tq_C X cX5_takeToken 2 RX5 2) (hR : tq_Rv X cX5_takeToken 2 K) : ∀ (n : Nat) (S : tq_St), wp_X5_takeToken_0 K n S → Go X 2 S 0 [(0, .ref ((tq_la X).1 19 0))] [] := by
  intro n
  induction n with
  | zero => intros; contradiction
  | succ n ih =>
    intro S hf
    refine go_aload_n (pc := 0) C dX5_takeToken_0 0 rfl rfl ?_
    refine ge_X5_X5_6 (pc := 1) C dX5_takeToken_1 ?_
    refine go_aload_n (pc := 4) C dX5_takeToken_4 0 rfl rfl ?_
    refine ge_X5_X5_2 (pc := 5) C dX5_takeToken_5 ?_
    refine go_ic_ge (pc := 8) C dX5_takeToken_8 38 (by decide) (fun c1 => ?_) (fun c1 => ?_)
    · have hf := hf.1 c1
      exact go_sub [0] rfl (wk_X5_takeToken_38 C hR _ hf)
    · have hf := hf.2 c1
      refine go_aload_n (pc := 11) C dX5_takeToken_11 0 rfl rfl ?_
      refine ge_X5_X5_0 (pc := 12) C dX5_takeToken_12 ?_
      refine go_aload_n (pc := 15) C dX5_takeToken_15 0 rfl rfl ?_
      refine ge_X5_X5_6 (pc := 16) C dX5_takeToken_16 ?_
      refine al_X5_0 (pc := 19) C hf.1 dX5_takeToken_19 ?_
      have hf := hf.2
      refine go_bipush (pc := 20) (v := 32) C dX5_takeToken_20 (by decide) ?_
      refine go_ic_ne (pc := 22) C dX5_takeToken_22 38 (by decide) (fun c33 => ?_) (fun c33 => ?_)
      · have hf := hf.1 c33
        exact go_sub [0] rfl (wk_X5_takeToken_38 C hR _ hf)
      · have hf := hf.2 c33
        refine go_aload_n (pc := 25) C dX5_takeToken_25 0 rfl rfl ?_
        refine go_dup (pc := 26) C dX5_takeToken_26 rfl ?_
        refine ge_X5_X5_6 (pc := 27) C dX5_takeToken_27 ?_
        refine go_iconst (pc := 30) (v := 1) C dX5_takeToken_30 (by decide) ?_
        refine go_iadd (pc := 31) C dX5_takeToken_31 ?_
        refine pu_X5_X5_6 (pc := 32) C dX5_takeToken_32 (fun S34 e35 => ?_)
        have hf := hf S34 e35
        refine go_goto (pc := 35) C dX5_takeToken_35 0 (by decide) ?_
        exact go_sub [0] rfl (ih _ hf)
set_option maxRecDepth 100000 in
set_option maxHeartbeats 4000000 in
theorem wk_X5_takeToken {X : tq_Cx} {S : tq_St} {K : tq_St → Prop} (C : tq_C X cX5_takeToken 2 RX5 2) (hR : tq_Rv X cX5_takeToken 2 K) (hf : wp_X5_takeToken S K) : Go X 2 S 0 [(0, .ref ((tq_la X).1 19 0))] [] := by
  exact go_sub [0] rfl (wk_X5_takeToken_0 C hR 2000 _ hf)
set_option maxRecDepth 100000 in
set_option maxHeartbeats 4000000 in
theorem ok_X5_takeToken {S : tq_St} {K : tq_St → Prop} (hf : wp_X5_takeToken S K) : tq_Mv yX5_takeToken cX5_takeToken 2 none 2 (fun a z => [.ref (a.1 19 0)]) S K :=
  tq_mkV (by decide) (fun _ _ => Nat.le_of_ble_eq_true rfl) (fun X C hR => wk_X5_takeToken C hR  hf)
set_option maxRecDepth 100000 in
set_option maxHeartbeats 4000000 in
theorem wk_X5_nameOf {X : tq_Cx} {p0 : Int32} {S : tq_St} {K : Nat → tq_St → Prop} (C : tq_C X cX5_nameOf 1 RX5 1) (hR : tq_Rr X cX5_nameOf 1 K) (hf : wp_X5_nameOf p0 S K) : Go X 1 S 0 [(0, .int p0)] [] := by
  refine go_iload_n (pc := 0) C dX5_nameOf_0 0 rfl rfl ?_
  rcases tq_sw (x := p0) (0) (5) with c1 | c1
  · have hf := hf.1 c1
    refine go_tabOut (pc := 1) C dX5_nameOf_1 58 (by decide) c1 ?_
    refine go_ldcS (pc := 58) C 6 (by decide) rfl dX5_nameOf_58 ?_
    exact hR _ _ _ _ dX5_nameOf_60 hf
  · have c1 := tq_lt6 c1
    rcases c1 with c1 | c1 | c1 | c1 | c1 | c1
    · have hf := hf.2.1 c1
      refine go_tabIn (pc := 1) C dX5_nameOf_1 40 (39) (by decide) (by rw [c1]; decide) (by rw [c1]; decide) (by rw [c1]; rfl) ?_
      refine go_ldcS (pc := 40) C 0 (by decide) rfl dX5_nameOf_40 ?_
      exact hR _ _ _ _ dX5_nameOf_42 hf
    · have hf := hf.2.2.1 c1
      refine go_tabIn (pc := 1) C dX5_nameOf_1 43 (42) (by decide) (by rw [c1]; decide) (by rw [c1]; decide) (by rw [c1]; rfl) ?_
      refine go_ldcS (pc := 43) C 1 (by decide) rfl dX5_nameOf_43 ?_
      exact hR _ _ _ _ dX5_nameOf_45 hf
    · have hf := hf.2.2.2.1 c1
      refine go_tabIn (pc := 1) C dX5_nameOf_1 46 (45) (by decide) (by rw [c1]; decide) (by rw [c1]; decide) (by rw [c1]; rfl) ?_
      refine go_ldcS (pc := 46) C 2 (by decide) rfl dX5_nameOf_46 ?_
      exact hR _ _ _ _ dX5_nameOf_48 hf
    · have hf := hf.2.2.2.2.1 c1
      refine go_tabIn (pc := 1) C dX5_nameOf_1 49 (48) (by decide) (by rw [c1]; decide) (by rw [c1]; decide) (by rw [c1]; rfl) ?_
      refine go_ldcS (pc := 49) C 3 (by decide) rfl dX5_nameOf_49 ?_
      exact hR _ _ _ _ dX5_nameOf_51 hf
    · have hf := hf.2.2.2.2.2.1 c1
      refine go_tabIn (pc := 1) C dX5_nameOf_1 52 (51) (by decide) (by rw [c1]; decide) (by rw [c1]; decide) (by rw [c1]; rfl) ?_
      refine go_ldcS (pc := 52) C 4 (by decide) rfl dX5_nameOf_52 ?_
      exact hR _ _ _ _ dX5_nameOf_54 hf
    · have hf := hf.2.2.2.2.2.2 c1
      refine go_tabIn (pc := 1) C dX5_nameOf_1 55 (54) (by decide) (by rw [c1]; decide) (by rw [c1]; decide) (by rw [c1]; rfl) ?_
      refine go_ldcS (pc := 55) C 5 (by decide) rfl dX5_nameOf_55 ?_
      exact hR _ _ _ _ dX5_nameOf_57 hf
set_option maxRecDepth 100000 in
set_option maxHeartbeats 4000000 in
theorem ok_X5_nameOf {p0 : Int32} {S : tq_St} {K : Nat → tq_St → Prop} (hf : wp_X5_nameOf p0 S K) : tq_Mr yX5_nameOf cX5_nameOf 1 (some (.object "java/lang/String")) 1 (fun a z => [.int p0]) S K :=
  tq_mkR (by decide) (fun _ _ => Nat.le_of_ble_eq_true rfl) (fun X C hR => wk_X5_nameOf C hR  hf)
set_option maxRecDepth 100000 in
set_option maxHeartbeats 4000000 in
theorem wk_X5_isName_20 {X : tq_Cx} {p1 : Nat} {K : Int32 → tq_St → Prop} (C : tq_C X cX5_isName 3 RX5 6) (hR : tq_Rz X cX5_isName 3 K) (hp1 : p1 < 7) : ∀ (n : Nat) (v2 : Int32) (S : tq_St), wp_X5_isName_20 p1 K n v2 S → Go X 3 S 20 [(0, .ref ((tq_la X).1 19 0)), (1, .ref ((tq_zl X).2.1 p1)), (2, .int v2)] [] := by
  intro n
  induction n with
  | zero => intros; contradiction
  | succ n ih =>
    intro v2 S hf
    refine go_iload_n (pc := 20) C dX5_isName_20 2 rfl rfl ?_
    refine go_aload_n (pc := 21) C dX5_isName_21 1 rfl rfl ?_
    refine go_cVi (pc := 22) C cw_X5_122 (ok_J0_length_8abf5 hp1 hf) (tq_recS C hp1) rfl rfl rfl (by decide) rfl dX5_isName_22 (fun r5 S6 hf => ?_)
    refine go_ic_ge (pc := 25) C dX5_isName_25 55 (by decide) (fun c8 => ?_) (fun c8 => ?_)
    · have hf := hf.1 c8
      refine go_iconst (pc := 55) (v := 1) C dX5_isName_55 (by decide) ?_
      exact hR _ _ _ _ dX5_isName_56 (Or.inr rfl) hf
    · have hf := hf.2 c8
      refine go_aload_n (pc := 28) C dX5_isName_28 0 rfl rfl ?_
      refine ge_X5_X5_0 (pc := 29) C dX5_isName_29 ?_
      refine go_aload_n (pc := 32) C dX5_isName_32 0 rfl rfl ?_
      refine ge_X5_X5_8 (pc := 33) C dX5_isName_33 ?_
      refine go_iload_n (pc := 36) C dX5_isName_36 2 rfl rfl ?_
      refine go_iadd (pc := 37) C dX5_isName_37 ?_
      refine al_X5_0 (pc := 38) C hf.1 dX5_isName_38 ?_
      have hf := hf.2
      refine go_aload_n (pc := 39) C dX5_isName_39 1 rfl rfl ?_
      refine go_iload_n (pc := 40) C dX5_isName_40 2 rfl rfl ?_
      refine go_cVi (pc := 41) C cw_X5_126 (ok_J0_charAt_5068e hp1 hf) (tq_recS C hp1) rfl rfl rfl (by decide) rfl dX5_isName_41 (fun r9 S10 hf => ?_)
      refine go_ic_eq (pc := 44) C dX5_isName_44 49 (by decide) (fun c12 => ?_) (fun c12 => ?_)
      · have hf := hf.1 c12
        obtain ⟨x13, e14⟩ : ∃ q9 : Int32, q9 = v2 + 1 := ⟨_, rfl⟩
        refine go_iinc (pc := 49) (j := 2) (v := x13) C dX5_isName_49 [(2, .int x13), (0, .ref ((tq_la X).1 19 0)), (1, .ref ((tq_zl X).2.1 p1))] rfl (by rw [e14]; rfl) (by decide) rfl ?_
        have hf := hf x13 e14
        refine go_goto (pc := 52) C dX5_isName_52 20 (by decide) ?_
        exact go_sub [1, 2, 0] rfl (ih _ _ hf)
      · have hf := hf.2 c12
        refine go_iconst (pc := 47) (v := 0) C dX5_isName_47 (by decide) ?_
        exact hR _ _ _ _ dX5_isName_48 (Or.inl rfl) hf
set_option maxRecDepth 100000 in
set_option maxHeartbeats 4000000 in
theorem wk_X5_isName {X : tq_Cx} {p1 : Nat} {S : tq_St} {K : Int32 → tq_St → Prop} (C : tq_C X cX5_isName 3 RX5 6) (hR : tq_Rz X cX5_isName 3 K) (hp1 : p1 < 7) (hf : wp_X5_isName p1 S K) : Go X 3 S 0 [(0, .ref ((tq_la X).1 19 0)), (1, .ref ((tq_zl X).2.1 p1))] [] := by
  refine go_aload_n (pc := 0) C dX5_isName_0 1 rfl rfl ?_
  refine go_cVi (pc := 1) C cw_X5_122 (ok_J0_length_8abf5 hp1 hf) (tq_recS C hp1) rfl rfl rfl (by decide) rfl dX5_isName_1 (fun r1 S2 hf => ?_)
  refine go_aload_n (pc := 4) C dX5_isName_4 0 rfl rfl ?_
  refine ge_X5_X5_6 (pc := 5) C dX5_isName_5 ?_
  refine go_aload_n (pc := 8) C dX5_isName_8 0 rfl rfl ?_
  refine ge_X5_X5_8 (pc := 9) C dX5_isName_9 ?_
  refine go_isub (pc := 12) C dX5_isName_12 ?_
  refine go_ic_eq (pc := 13) C dX5_isName_13 18 (by decide) (fun c4 => ?_) (fun c4 => ?_)
  · have hf := hf.1 c4
    refine go_iconst (pc := 18) (v := 0) C dX5_isName_18 (by decide) ?_
    refine go_istore_n (pc := 19) C dX5_isName_19 [(2, .int 0), (0, .ref ((tq_la X).1 19 0)), (1, .ref ((tq_zl X).2.1 p1))] rfl (by decide) rfl ?_
    exact go_sub [1, 2, 0] rfl (wk_X5_isName_20 C hR hp1 2000 _ _ hf)
  · have hf := hf.2 c4
    refine go_iconst (pc := 16) (v := 0) C dX5_isName_16 (by decide) ?_
    exact hR _ _ _ _ dX5_isName_17 (Or.inl rfl) hf
set_option maxRecDepth 100000 in
set_option maxHeartbeats 4000000 in
theorem ok_X5_isName {p1 : Nat} {S : tq_St} {K : Int32 → tq_St → Prop} (hp1 : p1 < 7) (hf : wp_X5_isName p1 S K) : tq_Mi yX5_isName cX5_isName 3 (some .boolean) 6 (fun a z => [.ref (a.1 19 0), .ref (z.2.1 p1)]) S K :=
  tq_mkZ (by decide) (fun _ _ => Nat.le_of_ble_eq_true rfl) (fun X C hR => wk_X5_isName C hR hp1 hf)
set_option maxRecDepth 100000 in
set_option maxHeartbeats 4000000 in
theorem wk_X5_lineBegun_13 {X : tq_Cx} {K : Int32 → tq_St → Prop} (C : tq_C X cX5_lineBegun 2 RX5 7) (hR : tq_Ri X cX5_lineBegun 2 K) : ∀ (n : Nat) (v1 : Int32) (S : tq_St), wp_X5_lineBegun_13 K n v1 S → Go X 2 S 13 [(0, .ref ((tq_la X).1 19 0)), (1, .int v1)] [] := by
  intro n
  induction n with
  | zero => intros; contradiction
  | succ n ih =>
    intro v1 S hf
    refine go_iload_n (pc := 13) C dX5_lineBegun_13 1 rfl rfl ?_
    refine go_bipush (pc := 14) (v := 7) C dX5_lineBegun_14 (by decide) ?_
    refine go_ic_ge (pc := 16) C dX5_lineBegun_16 38 (by decide) (fun c2 => ?_) (fun c2 => ?_)
    · have hf := hf.1 c2
      refine go_bipush (pc := 38) (v := 7) C dX5_lineBegun_38 (by decide) ?_
      exact hR _ _ _ _ dX5_lineBegun_40 hf
    · have hf := hf.2 c2
      refine go_aload_n (pc := 19) C dX5_lineBegun_19 0 rfl rfl ?_
      refine go_iload_n (pc := 20) C dX5_lineBegun_20 1 rfl rfl ?_
      refine go_cSr (pc := 21) C cs_X5_102 (ok_X5_nameOf hf) rfl rfl rfl (by decide) rfl dX5_lineBegun_21 (fun r3 S4 hf => ?_)
      have h5 := hf.1
      have hf := hf.2
      refine go_cVi (pc := 24) C cw_X5_106 (ok_X5_isName h5 hf) (rc_X5 C) rfl rfl rfl (by decide) rfl dX5_lineBegun_24 (fun r6 S7 hf => ?_)
      refine go_if_eq (pc := 27) C dX5_lineBegun_27 32 (by decide) (fun c9 => ?_) (fun c9 => ?_)
      · have hf := hf.1 c9
        obtain ⟨x10, e11⟩ : ∃ q9 : Int32, q9 = v1 + 1 := ⟨_, rfl⟩
        refine go_iinc (pc := 32) (j := 1) (v := x10) C dX5_lineBegun_32 [(1, .int x10), (0, .ref ((tq_la X).1 19 0))] rfl (by rw [e11]; rfl) (by decide) rfl ?_
        have hf := hf x10 e11
        refine go_goto (pc := 35) C dX5_lineBegun_35 13 (by decide) ?_
        exact go_sub [1, 0] rfl (ih _ _ hf)
      · have hf := hf.2 c9
        refine go_iload_n (pc := 30) C dX5_lineBegun_30 1 rfl rfl ?_
        exact hR _ _ _ _ dX5_lineBegun_31 hf
set_option maxRecDepth 100000 in
set_option maxHeartbeats 4000000 in
theorem wk_X5_lineBegun {X : tq_Cx} {S : tq_St} {K : Int32 → tq_St → Prop} (C : tq_C X cX5_lineBegun 2 RX5 7) (hR : tq_Ri X cX5_lineBegun 2 K) (hf : wp_X5_lineBegun S K) : Go X 2 S 0 [(0, .ref ((tq_la X).1 19 0))] [] := by
  refine go_aload_n (pc := 0) C dX5_lineBegun_0 0 rfl rfl ?_
  refine ge_X5_X5_7 (pc := 1) C dX5_lineBegun_1 ?_
  refine go_iconst (pc := 4) (v := 1) C dX5_lineBegun_4 (by decide) ?_
  refine go_ic_eq (pc := 5) C dX5_lineBegun_5 11 (by decide) (fun c1 => ?_) (fun c1 => ?_)
  · have hf := hf.1 c1
    refine go_iconst (pc := 11) (v := 0) C dX5_lineBegun_11 (by decide) ?_
    refine go_istore_n (pc := 12) C dX5_lineBegun_12 [(1, .int 0), (0, .ref ((tq_la X).1 19 0))] rfl (by decide) rfl ?_
    exact go_sub [1, 0] rfl (wk_X5_lineBegun_13 C hR 2000 _ _ hf)
  · have hf := hf.2 c1
    refine go_bipush (pc := 8) (v := 7) C dX5_lineBegun_8 (by decide) ?_
    exact hR _ _ _ _ dX5_lineBegun_10 hf
set_option maxRecDepth 100000 in
set_option maxHeartbeats 4000000 in
theorem ok_X5_lineBegun {S : tq_St} {K : Int32 → tq_St → Prop} (hf : wp_X5_lineBegun S K) : tq_Mi yX5_lineBegun cX5_lineBegun 2 (some .int) 7 (fun a z => [.ref (a.1 19 0)]) S K :=
  tq_mkI (by decide) (fun _ _ => Nat.le_of_ble_eq_true rfl) (fun X C hR => wk_X5_lineBegun C hR  hf)
set_option maxRecDepth 100000 in
set_option maxHeartbeats 4000000 in
theorem wk_X5_takeNumber_44 {X : tq_Cx} {K : Int32 → tq_St → Prop} (C : tq_C X cX5_takeNumber 4 RX5 3) (hR : tq_Ri X cX5_takeNumber 4 K) : ∀ (v1 : Int32) (S : tq_St), wp_X5_takeNumber_44 K v1 S → Go X 4 S 44 [(0, .ref ((tq_la X).1 19 0)), (1, .int v1)] [] := by
  intro v1 S hf
  refine go_aload_n (pc := 44) C dX5_takeNumber_44 0 rfl rfl ?_
  refine go_iconst (pc := 45) (v := 3) C dX5_takeNumber_45 (by decide) ?_
  refine go_aload_n (pc := 46) C dX5_takeNumber_46 0 rfl rfl ?_
  refine ge_X5_X5_8 (pc := 47) C dX5_takeNumber_47 ?_
  refine go_cVv (pc := 50) C cw_X5_54 (ok_X5_fail hf) (rc_X5 C) rfl rfl rfl (by decide) rfl dX5_takeNumber_50 (fun S5 hf => ?_)
  refine go_iload_n (pc := 53) C dX5_takeNumber_53 1 rfl rfl ?_
  exact hR _ _ _ _ dX5_takeNumber_54 hf
set_option maxRecDepth 100000 in
set_option maxHeartbeats 4000000 in
theorem wk_X5_takeNumber {X : tq_Cx} {p1 : Int32} {p2 : Int32} {S : tq_St} {K : Int32 → tq_St → Prop} (C : tq_C X cX5_takeNumber 4 RX5 3) (hR : tq_Ri X cX5_takeNumber 4 K) (hf : wp_X5_takeNumber p1 p2 S K) : Go X 4 S 0 [(0, .ref ((tq_la X).1 19 0)), (1, .int p1), (2, .int p2)] [] := by
  refine go_aload_n (pc := 0) C dX5_takeNumber_0 0 rfl rfl ?_
  refine ge_X5_X5_3 (pc := 1) C dX5_takeNumber_1 ?_
  refine go_if_eq (pc := 4) C dX5_takeNumber_4 9 (by decide) (fun c1 => ?_) (fun c1 => ?_)
  · have hf := hf.1 c1
    refine go_aload_n (pc := 9) C dX5_takeNumber_9 0 rfl rfl ?_
    refine ge_X5_X5_7 (pc := 10) C dX5_takeNumber_10 ?_
    refine go_iconst (pc := 13) (v := 2) C dX5_takeNumber_13 (by decide) ?_
    refine go_ic_eq (pc := 14) C dX5_takeNumber_14 28 (by decide) (fun c2 => ?_) (fun c2 => ?_)
    · have hf := hf.1 c2
      refine go_aload_n (pc := 28) C dX5_takeNumber_28 0 rfl rfl ?_
      refine ge_X5_X5_9 (pc := 29) C dX5_takeNumber_29 ?_
      refine go_iload_n (pc := 32) C dX5_takeNumber_32 1 rfl rfl ?_
      refine go_ic_lt (pc := 33) C dX5_takeNumber_33 44 (by decide) (fun c3 => ?_) (fun c3 => ?_)
      · have hf := hf.1 c3
        exact go_sub [0, 1] rfl (wk_X5_takeNumber_44 C hR _ _ hf)
      · have hf := hf.2 c3
        refine go_aload_n (pc := 36) C dX5_takeNumber_36 0 rfl rfl ?_
        refine ge_X5_X5_9 (pc := 37) C dX5_takeNumber_37 ?_
        refine go_iload_n (pc := 40) C dX5_takeNumber_40 2 rfl rfl ?_
        refine go_ic_le (pc := 41) C dX5_takeNumber_41 55 (by decide) (fun c7 => ?_) (fun c7 => ?_)
        · have hf := hf.1 c7
          refine go_aload_n (pc := 55) C dX5_takeNumber_55 0 rfl rfl ?_
          refine ge_X5_X5_9 (pc := 56) C dX5_takeNumber_56 ?_
          refine go_nI (fun x8 e9 => ?_)
          have hf := hf x8 e9
          refine go_istore_n (pc := 59) C dX5_takeNumber_59 [(3, .int x8), (0, .ref ((tq_la X).1 19 0)), (1, .int p1), (2, .int p2)] rfl (by decide) rfl ?_
          refine go_aload_n (pc := 60) C dX5_takeNumber_60 1 rfl rfl ?_
          refine go_cVv (pc := 61) C cw_X5_41 (ok_X5_takeToken hf) (rc_X5 C) rfl rfl rfl (by decide) rfl dX5_takeNumber_61 (fun S11 hf => ?_)
          refine go_iload_n (pc := 64) C dX5_takeNumber_64 0 rfl rfl ?_
          exact hR _ _ _ _ dX5_takeNumber_65 hf
        · have hf := hf.2 c7
          exact go_sub [0, 1] rfl (wk_X5_takeNumber_44 C hR _ _ hf)
    · have hf := hf.2 c2
      refine go_aload_n (pc := 17) C dX5_takeNumber_17 0 rfl rfl ?_
      refine go_iconst (pc := 18) (v := 2) C dX5_takeNumber_18 (by decide) ?_
      refine go_aload_n (pc := 19) C dX5_takeNumber_19 0 rfl rfl ?_
      refine ge_X5_X5_8 (pc := 20) C dX5_takeNumber_20 ?_
      refine go_cVv (pc := 23) C cw_X5_54 (ok_X5_fail hf) (rc_X5 C) rfl rfl rfl (by decide) rfl dX5_takeNumber_23 (fun S14 hf => ?_)
      refine go_iload_n (pc := 26) C dX5_takeNumber_26 1 rfl rfl ?_
      exact hR _ _ _ _ dX5_takeNumber_27 hf
  · have hf := hf.2 c1
    refine go_iload_n (pc := 7) C dX5_takeNumber_7 1 rfl rfl ?_
    exact hR _ _ _ _ dX5_takeNumber_8 hf
set_option maxRecDepth 100000 in
set_option maxHeartbeats 4000000 in
theorem ok_X5_takeNumber {p1 : Int32} {p2 : Int32} {S : tq_St} {K : Int32 → tq_St → Prop} (hf : wp_X5_takeNumber p1 p2 S K) : tq_Mi yX5_takeNumber cX5_takeNumber 4 (some .int) 3 (fun a z => [.ref (a.1 19 0), .int p1, .int p2]) S K :=
  tq_mkI (by decide) (fun _ _ => Nat.le_of_ble_eq_true rfl) (fun X C hR => wk_X5_takeNumber C hR  hf)
set_option maxRecDepth 100000 in
set_option maxHeartbeats 4000000 in
theorem wk_X5_tellOne_49 {X : tq_Cx} {K : tq_St → Prop} (C : tq_C X cX5_tellOne 2 RX5 4) (hR : tq_Rv X cX5_tellOne 2 K) : ∀ (w1 : Int32) (w2 : Int32) (S : tq_St), wp_X5_tellOne_49 K w1 w2 S → Go X 2 S 49 [] [.int w2, .int w1, .ref ((tq_la X).1 2 0)] := by
  intro w1 w2 S hf
  refine go_cVv (pc := 49) C cw_X5_88 (ok_X1_addOne (by decide) hf) (rc_X1 C (by decide)) rfl rfl rfl (by decide) rfl dX5_tellOne_49 (fun S7 hf => ?_)
  exact hR _ _ _ dX5_tellOne_52 hf
set_option maxRecDepth 100000 in
set_option maxHeartbeats 4000000 in
theorem wk_X5_tellOne {X : tq_Cx} {p1 : Int32} {S : tq_St} {K : tq_St → Prop} (C : tq_C X cX5_tellOne 2 RX5 4) (hR : tq_Rv X cX5_tellOne 2 K) (hf : wp_X5_tellOne p1 S K) : Go X 2 S 0 [(0, .ref ((tq_la X).1 19 0)), (1, .int p1)] [] := by
  refine go_aload_n (pc := 0) C dX5_tellOne_0 0 rfl rfl ?_
  refine ge_X5_X5_1 (pc := 1) C dX5_tellOne_1 ?_
  refine ge_X5_X1_5 (pc := 4) C (by decide) dX5_tellOne_4 ?_
  refine go_iconst (pc := 7) (v := 5) C dX5_tellOne_7 (by decide) ?_
  refine go_ic_lt (pc := 8) C dX5_tellOne_8 21 (by decide) (fun c1 => ?_) (fun c1 => ?_)
  · have hf := hf.1 c1
    refine go_aload_n (pc := 21) C dX5_tellOne_21 0 rfl rfl ?_
    refine go_cVv (pc := 22) C cw_X5_41 (ok_X5_takeToken hf) (rc_X5 C) rfl rfl rfl (by decide) rfl dX5_tellOne_22 (fun S3 hf => ?_)
    refine go_aload_n (pc := 25) C dX5_tellOne_25 0 rfl rfl ?_
    refine ge_X5_X5_1 (pc := 26) C dX5_tellOne_26 ?_
    refine go_iload_n (pc := 29) C dX5_tellOne_29 1 rfl rfl ?_
    refine go_aload_n (pc := 30) C dX5_tellOne_30 0 rfl rfl ?_
    refine ge_X5_X5_7 (pc := 31) C dX5_tellOne_31 ?_
    refine go_iconst (pc := 34) (v := 2) C dX5_tellOne_34 (by decide) ?_
    refine go_ic_ne (pc := 35) C dX5_tellOne_35 48 (by decide) (fun c5 => ?_) (fun c5 => ?_)
    · have hf := hf.1 c5
      refine go_iconst (pc := 48) (v := 0) C dX5_tellOne_48 (by decide) ?_
      exact go_sub [] rfl (wk_X5_tellOne_49 C hR _ _ _ hf)
    · have hf := hf.2 c5
      refine go_aload_n (pc := 38) C dX5_tellOne_38 0 rfl rfl ?_
      refine go_iconst (pc := 39) (v := 0) C dX5_tellOne_39 (by decide) ?_
      refine go_bipush (pc := 40) (v := 40) C dX5_tellOne_40 (by decide) ?_
      refine go_cVi (pc := 42) C cw_X5_69 (ok_X5_takeNumber hf) (rc_X5 C) rfl rfl rfl (by decide) rfl dX5_tellOne_42 (fun r9 S10 hf => ?_)
      refine go_goto (pc := 45) C dX5_tellOne_45 49 (by decide) ?_
      exact go_sub [] rfl (wk_X5_tellOne_49 C hR _ _ _ hf)
  · have hf := hf.2 c1
    refine go_aload_n (pc := 11) C dX5_tellOne_11 0 rfl rfl ?_
    refine go_iconst (pc := 12) (v := 5) C dX5_tellOne_12 (by decide) ?_
    refine go_aload_n (pc := 13) C dX5_tellOne_13 0 rfl rfl ?_
    refine ge_X5_X5_8 (pc := 14) C dX5_tellOne_14 ?_
    refine go_cVv (pc := 17) C cw_X5_54 (ok_X5_fail hf) (rc_X5 C) rfl rfl rfl (by decide) rfl dX5_tellOne_17 (fun S13 hf => ?_)
    exact hR _ _ _ dX5_tellOne_20 hf
set_option maxRecDepth 100000 in
set_option maxHeartbeats 4000000 in
theorem ok_X5_tellOne {p1 : Int32} {S : tq_St} {K : tq_St → Prop} (hf : wp_X5_tellOne p1 S K) : tq_Mv yX5_tellOne cX5_tellOne 2 none 4 (fun a z => [.ref (a.1 19 0), .int p1]) S K :=
  tq_mkV (by decide) (fun _ _ => Nat.le_of_ble_eq_true rfl) (fun X C hR => wk_X5_tellOne C hR  hf)
set_option maxRecDepth 100000 in
set_option maxHeartbeats 4000000 in
theorem wk_X5_tellPlan_2 {X : tq_Cx} {K : tq_St → Prop} (C : tq_C X cX5_tellPlan 2 RX5 4) (hR : tq_Rv X cX5_tellPlan 2 K) : ∀ (n : Nat) (v1 : Int32) (S : tq_St), wp_X5_tellPlan_2 K n v1 S → Go X 2 S 2 [(0, .ref ((tq_la X).1 19 0)), (1, .int v1)] [] := by
  intro n
  induction n with
  | zero => intros; contradiction
  | succ n ih =>
    intro v1 S hf
    refine go_iload_n (pc := 2) C dX5_tellPlan_2 1 rfl rfl ?_
    refine go_bipush (pc := 3) (v := 8) C dX5_tellPlan_3 (by decide) ?_
    refine go_ic_gt (pc := 5) C dX5_tellPlan_5 62 (by decide) (fun c1 => ?_) (fun c1 => ?_)
    · have hf := hf.1 c1
      exact hR _ _ _ dX5_tellPlan_62 hf
    · have hf := hf.2 c1
      refine go_aload_n (pc := 8) C dX5_tellPlan_8 0 rfl rfl ?_
      refine ge_X5_X5_3 (pc := 9) C dX5_tellPlan_9 ?_
      refine go_if_ne (pc := 12) C dX5_tellPlan_12 62 (by decide) (fun c2 => ?_) (fun c2 => ?_)
      · have hf := hf.1 c2
        exact hR _ _ _ dX5_tellPlan_62 hf
      · have hf := hf.2 c2
        refine go_aload_n (pc := 15) C dX5_tellPlan_15 0 rfl rfl ?_
        refine ge_X5_X5_7 (pc := 16) C dX5_tellPlan_16 ?_
        refine go_iconst (pc := 19) (v := 2) C dX5_tellPlan_19 (by decide) ?_
        refine go_ic_ne (pc := 20) C dX5_tellPlan_20 62 (by decide) (fun c3 => ?_) (fun c3 => ?_)
        · have hf := hf.1 c3
          exact hR _ _ _ dX5_tellPlan_62 hf
        · have hf := hf.2 c3
          refine go_iload_n (pc := 23) C dX5_tellPlan_23 1 rfl rfl ?_
          refine go_bipush (pc := 24) (v := 8) C dX5_tellPlan_24 (by decide) ?_
          refine go_ic_ne (pc := 26) C dX5_tellPlan_26 41 (by decide) (fun c4 => ?_) (fun c4 => ?_)
          · have hf := hf.1 c4
            refine go_aload_n (pc := 41) C dX5_tellPlan_41 0 rfl rfl ?_
            refine ge_X5_X5_1 (pc := 42) C dX5_tellPlan_42 ?_
            refine go_aload_n (pc := 45) C dX5_tellPlan_45 0 rfl rfl ?_
            refine go_iconst (pc := 46) (v := 0) C dX5_tellPlan_46 (by decide) ?_
            refine go_bipush (pc := 47) (v := 6) C dX5_tellPlan_47 (by decide) ?_
            refine go_cVi (pc := 49) C cw_X5_69 (ok_X5_takeNumber hf) (rc_X5 C) rfl rfl rfl (by decide) rfl dX5_tellPlan_49 (fun r5 S6 hf => ?_)
            refine go_cVi (pc := 52) C cw_X5_91 (ok_X1_addAct (by decide) hf) (rc_X1 C (by decide)) rfl rfl rfl (by decide) rfl dX5_tellPlan_52 (fun r8 S9 hf => ?_)
            refine go_pop (pc := 55) C dX5_tellPlan_55 rfl ?_
            obtain ⟨x11, e12⟩ : ∃ q9 : Int32, q9 = v1 + 1 := ⟨_, rfl⟩
            refine go_iinc (pc := 56) (j := 1) (v := x11) C dX5_tellPlan_56 [(1, .int x11), (0, .ref ((tq_la X).1 19 0))] rfl (by rw [e12]; rfl) (by decide) rfl ?_
            have hf := hf x11 e12
            refine go_goto (pc := 59) C dX5_tellPlan_59 2 (by decide) ?_
            exact go_sub [1, 0] rfl (ih _ _ hf)
          · have hf := hf.2 c4
            refine go_aload_n (pc := 29) C dX5_tellPlan_29 0 rfl rfl ?_
            refine go_iconst (pc := 30) (v := 5) C dX5_tellPlan_30 (by decide) ?_
            refine go_aload_n (pc := 31) C dX5_tellPlan_31 0 rfl rfl ?_
            refine ge_X5_X5_8 (pc := 32) C dX5_tellPlan_32 ?_
            refine go_cVv (pc := 35) C cw_X5_54 (ok_X5_fail hf) (rc_X5 C) rfl rfl rfl (by decide) rfl dX5_tellPlan_35 (fun S14 hf => ?_)
            refine go_goto (pc := 38) C dX5_tellPlan_38 56 (by decide) ?_
            obtain ⟨x16, e17⟩ : ∃ q9 : Int32, q9 = v1 + 1 := ⟨_, rfl⟩
            refine go_iinc (pc := 56) (j := 1) (v := x16) C dX5_tellPlan_56 [(1, .int x16), (0, .ref ((tq_la X).1 19 0))] rfl (by rw [e17]; rfl) (by decide) rfl ?_
            have hf := hf x16 e17
            refine go_goto (pc := 59) C dX5_tellPlan_59 2 (by decide) ?_
            exact go_sub [1, 0] rfl (ih _ _ hf)
set_option maxRecDepth 100000 in
set_option maxHeartbeats 4000000 in
theorem wk_X5_tellPlan {X : tq_Cx} {S : tq_St} {K : tq_St → Prop} (C : tq_C X cX5_tellPlan 2 RX5 4) (hR : tq_Rv X cX5_tellPlan 2 K) (hf : wp_X5_tellPlan S K) : Go X 2 S 0 [(0, .ref ((tq_la X).1 19 0))] [] := by
  refine go_iconst (pc := 0) (v := 0) C dX5_tellPlan_0 (by decide) ?_
  refine go_istore_n (pc := 1) C dX5_tellPlan_1 [(1, .int 0), (0, .ref ((tq_la X).1 19 0))] rfl (by decide) rfl ?_
  exact go_sub [1, 0] rfl (wk_X5_tellPlan_2 C hR 2000 _ _ hf)
set_option maxRecDepth 100000 in
set_option maxHeartbeats 4000000 in
theorem ok_X5_tellPlan {S : tq_St} {K : tq_St → Prop} (hf : wp_X5_tellPlan S K) : tq_Mv yX5_tellPlan cX5_tellPlan 2 none 4 (fun a z => [.ref (a.1 19 0)]) S K :=
  tq_mkV (by decide) (fun _ _ => Nat.le_of_ble_eq_true rfl) (fun X C hR => wk_X5_tellPlan C hR  hf)
set_option maxRecDepth 100000 in
set_option maxHeartbeats 4000000 in
theorem wk_X5_takeSemicolon {X : tq_Cx} {S : tq_St} {K : tq_St → Prop} (C : tq_C X cX5_takeSemicolon 1 RX5 3) (hR : tq_Rv X cX5_takeSemicolon 1 K) (hf : wp_X5_takeSemicolon S K) : Go X 1 S 0 [(0, .ref ((tq_la X).1 19 0))] [] := by
  refine go_aload_n (pc := 0) C dX5_takeSemicolon_0 0 rfl rfl ?_
  refine ge_X5_X5_3 (pc := 1) C dX5_takeSemicolon_1 ?_
  refine go_if_eq (pc := 4) C dX5_takeSemicolon_4 8 (by decide) (fun c1 => ?_) (fun c1 => ?_)
  · have hf := hf.1 c1
    refine go_aload_n (pc := 8) C dX5_takeSemicolon_8 0 rfl rfl ?_
    refine ge_X5_X5_7 (pc := 9) C dX5_takeSemicolon_9 ?_
    refine go_iconst (pc := 12) (v := 3) C dX5_takeSemicolon_12 (by decide) ?_
    refine go_ic_eq (pc := 13) C dX5_takeSemicolon_13 26 (by decide) (fun c2 => ?_) (fun c2 => ?_)
    · have hf := hf.1 c2
      refine go_aload_n (pc := 26) C dX5_takeSemicolon_26 0 rfl rfl ?_
      refine go_cVv (pc := 27) C cw_X5_41 (ok_X5_takeToken hf) (rc_X5 C) rfl rfl rfl (by decide) rfl dX5_takeSemicolon_27 (fun S4 hf => ?_)
      exact hR _ _ _ dX5_takeSemicolon_30 hf
    · have hf := hf.2 c2
      refine go_aload_n (pc := 16) C dX5_takeSemicolon_16 0 rfl rfl ?_
      refine go_iconst (pc := 17) (v := 2) C dX5_takeSemicolon_17 (by decide) ?_
      refine go_aload_n (pc := 18) C dX5_takeSemicolon_18 0 rfl rfl ?_
      refine ge_X5_X5_8 (pc := 19) C dX5_takeSemicolon_19 ?_
      refine go_cVv (pc := 22) C cw_X5_54 (ok_X5_fail hf) (rc_X5 C) rfl rfl rfl (by decide) rfl dX5_takeSemicolon_22 (fun S7 hf => ?_)
      exact hR _ _ _ dX5_takeSemicolon_25 hf
  · have hf := hf.2 c1
    exact hR _ _ _ dX5_takeSemicolon_7 hf
set_option maxRecDepth 100000 in
set_option maxHeartbeats 4000000 in
theorem ok_X5_takeSemicolon {S : tq_St} {K : tq_St → Prop} (hf : wp_X5_takeSemicolon S K) : tq_Mv yX5_takeSemicolon cX5_takeSemicolon 1 none 3 (fun a z => [.ref (a.1 19 0)]) S K :=
  tq_mkV (by decide) (fun _ _ => Nat.le_of_ble_eq_true rfl) (fun X C hR => wk_X5_takeSemicolon C hR  hf)
set_option maxRecDepth 100000 in
set_option maxHeartbeats 4000000 in
theorem wk_X5_tellLine_123 {X : tq_Cx} {K : tq_St → Prop} (C : tq_C X cX5_tellLine 2 RX5 8) (hR : tq_Rv X cX5_tellLine 2 K) : ∀ (S : tq_St), wp_X5_tellLine_123 K S → Go X 2 S 123 [(0, .ref ((tq_la X).1 19 0))] [] := by
  intro S hf
  refine go_aload_n (pc := 123) C dX5_tellLine_123 0 rfl rfl ?_
  refine go_cVv (pc := 124) C cw_X5_82 (ok_X5_takeSemicolon hf) (rc_X5 C) rfl rfl rfl (by decide) rfl dX5_tellLine_124 (fun S18 hf => ?_)
  exact hR _ _ _ dX5_tellLine_127 hf
set_option maxRecDepth 100000 in
set_option maxHeartbeats 4000000 in
theorem wk_X5_tellLine {X : tq_Cx} {S : tq_St} {K : tq_St → Prop} (C : tq_C X cX5_tellLine 2 RX5 8) (hR : tq_Rv X cX5_tellLine 2 K) (hf : wp_X5_tellLine S K) : Go X 2 S 0 [(0, .ref ((tq_la X).1 19 0))] [] := by
  refine go_aload_n (pc := 0) C dX5_tellLine_0 0 rfl rfl ?_
  refine go_cVi (pc := 1) C cw_X5_58 (ok_X5_lineBegun hf) (rc_X5 C) rfl rfl rfl (by decide) rfl dX5_tellLine_1 (fun r1 S2 hf => ?_)
  refine go_istore_n (pc := 4) C dX5_tellLine_4 [(1, .int r1), (0, .ref ((tq_la X).1 19 0))] rfl (by decide) rfl ?_
  refine go_iload_n (pc := 5) C dX5_tellLine_5 0 rfl rfl ?_
  refine go_bipush (pc := 6) (v := 7) C dX5_tellLine_6 (by decide) ?_
  refine go_ic_ne (pc := 8) C dX5_tellLine_8 23 (by decide) (fun c4 => ?_) (fun c4 => ?_)
  · have hf := hf.1 c4
    refine go_iload_n (pc := 23) C dX5_tellLine_23 0 rfl rfl ?_
    refine go_iconst (pc := 24) (v := 4) C dX5_tellLine_24 (by decide) ?_
    refine go_ic_ge (pc := 25) C dX5_tellLine_25 36 (by decide) (fun c5 => ?_) (fun c5 => ?_)
    · have hf := hf.1 c5
      refine go_aload_n (pc := 36) C dX5_tellLine_36 1 rfl rfl ?_
      refine ge_X5_X5_5 (pc := 37) C dX5_tellLine_37 ?_
      refine go_iload_n (pc := 40) C dX5_tellLine_40 0 rfl rfl ?_
      refine go_ishr (pc := 41) C dX5_tellLine_41 ?_
      refine go_iconst (pc := 42) (v := 1) C dX5_tellLine_42 (by decide) ?_
      refine go_iand (pc := 43) C dX5_tellLine_43 ?_
      refine go_iconst (pc := 44) (v := 1) C dX5_tellLine_44 (by decide) ?_
      refine go_ic_ne (pc := 45) C dX5_tellLine_45 60 (by decide) (fun c6 => ?_) (fun c6 => ?_)
      · have hf := hf.1 c6
        refine go_aload_n (pc := 60) C dX5_tellLine_60 1 rfl rfl ?_
        refine go_dup (pc := 61) C dX5_tellLine_61 rfl ?_
        refine ge_X5_X5_5 (pc := 62) C dX5_tellLine_62 ?_
        refine go_iconst (pc := 65) (v := 1) C dX5_tellLine_65 (by decide) ?_
        refine go_iload_n (pc := 66) C dX5_tellLine_66 0 rfl rfl ?_
        refine go_ishl (pc := 67) C dX5_tellLine_67 ?_
        refine go_ior (pc := 68) C dX5_tellLine_68 ?_
        refine pu_X5_X5_5 (pc := 69) C dX5_tellLine_69 (fun S7 e8 => ?_)
        have hf := hf S7 e8
        refine go_aload_n (pc := 72) C dX5_tellLine_72 1 rfl rfl ?_
        refine go_cVv (pc := 73) C cw_X5_41 (ok_X5_takeToken hf) (rc_X5 C) rfl rfl rfl (by decide) rfl dX5_tellLine_73 (fun S10 hf => ?_)
        refine go_iload_n (pc := 76) C dX5_tellLine_76 0 rfl rfl ?_
        refine go_iconst (pc := 77) (v := 4) C dX5_tellLine_77 (by decide) ?_
        refine go_ic_ne (pc := 78) C dX5_tellLine_78 97 (by decide) (fun c12 => ?_) (fun c12 => ?_)
        · have hf := hf.1 c12
          refine go_iload_n (pc := 97) C dX5_tellLine_97 0 rfl rfl ?_
          refine go_iconst (pc := 98) (v := 5) C dX5_tellLine_98 (by decide) ?_
          refine go_ic_ne (pc := 99) C dX5_tellLine_99 119 (by decide) (fun c13 => ?_) (fun c13 => ?_)
          · have hf := hf.1 c13
            refine go_aload_n (pc := 119) C dX5_tellLine_119 1 rfl rfl ?_
            refine go_cVv (pc := 120) C cw_X5_79 (ok_X5_tellPlan hf) (rc_X5 C) rfl rfl rfl (by decide) rfl dX5_tellLine_120 (fun S15 hf => ?_)
            exact go_sub [1] rfl (wk_X5_tellLine_123 C hR _ hf)
          · have hf := hf.2 c13
            refine go_aload_n (pc := 102) C dX5_tellLine_102 1 rfl rfl ?_
            refine ge_X5_X5_1 (pc := 103) C dX5_tellLine_103 ?_
            refine go_aload_n (pc := 106) C dX5_tellLine_106 1 rfl rfl ?_
            refine go_iconst (pc := 107) (v := 1) C dX5_tellLine_107 (by decide) ?_
            refine go_bipush (pc := 108) (v := 9) C dX5_tellLine_108 (by decide) ?_
            refine go_cVi (pc := 110) C cw_X5_69 (ok_X5_takeNumber hf) (rc_X5 C) rfl rfl rfl (by decide) rfl dX5_tellLine_110 (fun r20 S21 hf => ?_)
            refine pu_X5_X1_9 (pc := 113) C (by decide) dX5_tellLine_113 (fun S23 e24 => ?_)
            have hf := hf S23 e24
            refine go_goto (pc := 116) C dX5_tellLine_116 123 (by decide) ?_
            exact go_sub [1] rfl (wk_X5_tellLine_123 C hR _ hf)
        · have hf := hf.2 c12
          refine go_aload_n (pc := 81) C dX5_tellLine_81 1 rfl rfl ?_
          refine ge_X5_X5_1 (pc := 82) C dX5_tellLine_82 ?_
          refine go_aload_n (pc := 85) C dX5_tellLine_85 1 rfl rfl ?_
          refine go_iconst (pc := 86) (v := 1) C dX5_tellLine_86 (by decide) ?_
          refine go_iconst (pc := 87) (v := 5) C dX5_tellLine_87 (by decide) ?_
          refine go_cVi (pc := 88) C cw_X5_69 (ok_X5_takeNumber hf) (rc_X5 C) rfl rfl rfl (by decide) rfl dX5_tellLine_88 (fun r25 S26 hf => ?_)
          refine pu_X5_X1_8 (pc := 91) C (by decide) dX5_tellLine_91 (fun S28 e29 => ?_)
          have hf := hf S28 e29
          refine go_goto (pc := 94) C dX5_tellLine_94 123 (by decide) ?_
          exact go_sub [1] rfl (wk_X5_tellLine_123 C hR _ hf)
      · have hf := hf.2 c6
        refine go_aload_n (pc := 48) C dX5_tellLine_48 1 rfl rfl ?_
        refine go_iconst (pc := 49) (v := 4) C dX5_tellLine_49 (by decide) ?_
        refine go_aload_n (pc := 50) C dX5_tellLine_50 1 rfl rfl ?_
        refine ge_X5_X5_8 (pc := 51) C dX5_tellLine_51 ?_
        refine go_cVv (pc := 54) C cw_X5_54 (ok_X5_fail hf) (rc_X5 C) rfl rfl rfl (by decide) rfl dX5_tellLine_54 (fun S31 hf => ?_)
        refine go_goto (pc := 57) C dX5_tellLine_57 123 (by decide) ?_
        exact go_sub [1] rfl (wk_X5_tellLine_123 C hR _ hf)
    · have hf := hf.2 c5
      refine go_aload_n (pc := 28) C dX5_tellLine_28 1 rfl rfl ?_
      refine go_iload_n (pc := 29) C dX5_tellLine_29 0 rfl rfl ?_
      refine go_cVv (pc := 30) C cw_X5_65 (ok_X5_tellOne hf) (rc_X5 C) rfl rfl rfl (by decide) rfl dX5_tellLine_30 (fun S34 hf => ?_)
      refine go_goto (pc := 33) C dX5_tellLine_33 123 (by decide) ?_
      exact go_sub [1] rfl (wk_X5_tellLine_123 C hR _ hf)
  · have hf := hf.2 c4
    refine go_aload_n (pc := 11) C dX5_tellLine_11 1 rfl rfl ?_
    refine go_iconst (pc := 12) (v := 2) C dX5_tellLine_12 (by decide) ?_
    refine go_aload_n (pc := 13) C dX5_tellLine_13 1 rfl rfl ?_
    refine ge_X5_X5_8 (pc := 14) C dX5_tellLine_14 ?_
    refine go_cVv (pc := 17) C cw_X5_54 (ok_X5_fail hf) (rc_X5 C) rfl rfl rfl (by decide) rfl dX5_tellLine_17 (fun S37 hf => ?_)
    refine go_goto (pc := 20) C dX5_tellLine_20 123 (by decide) ?_
    exact go_sub [1] rfl (wk_X5_tellLine_123 C hR _ hf)
set_option maxRecDepth 100000 in
set_option maxHeartbeats 4000000 in
theorem ok_X5_tellLine {S : tq_St} {K : tq_St → Prop} (hf : wp_X5_tellLine S K) : tq_Mv yX5_tellLine cX5_tellLine 2 none 8 (fun a z => [.ref (a.1 19 0)]) S K :=
  tq_mkV (by decide) (fun _ _ => Nat.le_of_ble_eq_true rfl) (fun X C hR => wk_X5_tellLine C hR  hf)
set_option maxRecDepth 100000 in
set_option maxHeartbeats 4000000 in
theorem wk_X5_tellAll_91 {X : tq_Cx} {K : Int32 → tq_St → Prop} (C : tq_C X cX5_tellAll 2 RX5 9) (hR : tq_Ri X cX5_tellAll 2 K) : ∀ (v1 : Int32) (S : tq_St), wp_X5_tellAll_91 K v1 S → Go X 2 S 91 [(0, .ref ((tq_la X).1 19 0)), (1, .int v1)] [] := by
  intro v1 S hf
  refine go_aload_n (pc := 91) C dX5_tellAll_91 0 rfl rfl ?_
  refine go_iconst (pc := 92) (v := 0) C dX5_tellAll_92 (by decide) ?_
  refine pu_X5_X5_2 (pc := 93) C dX5_tellAll_93 (fun S17 e18 => ?_)
  have hf := hf S17 e18
  refine go_aload_n (pc := 96) C dX5_tellAll_96 0 rfl rfl ?_
  refine ge_X5_X5_3 (pc := 97) C dX5_tellAll_97 ?_
  refine go_if_ne (pc := 100) C dX5_tellAll_100 107 (by decide) (fun c19 => ?_) (fun c19 => ?_)
  · have hf := hf.1 c19
    refine go_bipush (pc := 107) (v := (-10)) C dX5_tellAll_107 (by decide) ?_
    refine go_aload_n (pc := 109) C dX5_tellAll_109 0 rfl rfl ?_
    refine ge_X5_X5_4 (pc := 110) C dX5_tellAll_110 ?_
    refine go_isub (pc := 113) C dX5_tellAll_113 ?_
    exact hR _ _ _ _ dX5_tellAll_114 hf
  · have hf := hf.2 c19
    refine go_iload_n (pc := 103) C dX5_tellAll_103 1 rfl rfl ?_
    refine go_goto (pc := 104) C dX5_tellAll_104 114 (by decide) ?_
    exact hR _ _ _ _ dX5_tellAll_114 hf
set_option maxRecDepth 100000 in
set_option maxHeartbeats 4000000 in
theorem wk_X5_tellAll_64 {X : tq_Cx} {K : Int32 → tq_St → Prop} (C : tq_C X cX5_tellAll 2 RX5 9) (hR : tq_Ri X cX5_tellAll 2 K) : ∀ (v1 : Int32) (S : tq_St), wp_X5_tellAll_64 K v1 S → Go X 2 S 64 [(0, .ref ((tq_la X).1 19 0)), (1, .int v1)] [] := by
  intro v1 S hf
  refine go_aload_n (pc := 64) C dX5_tellAll_64 0 rfl rfl ?_
  refine ge_X5_X5_3 (pc := 65) C dX5_tellAll_65 ?_
  refine go_if_ne (pc := 68) C dX5_tellAll_68 91 (by decide) (fun c16 => ?_) (fun c16 => ?_)
  · have hf := hf.1 c16
    exact go_sub [0, 1] rfl (wk_X5_tellAll_91 C hR _ _ hf)
  · have hf := hf.2 c16
    refine go_aload_n (pc := 71) C dX5_tellAll_71 0 rfl rfl ?_
    refine ge_X5_X5_1 (pc := 72) C dX5_tellAll_72 ?_
    refine go_cVi (pc := 75) C cw_X5_50 (ok_X1_allActsFit (by decide) hf) (rc_X1 C (by decide)) rfl rfl rfl (by decide) rfl dX5_tellAll_75 (fun r20 S21 hf => ?_)
    refine go_if_ne (pc := 78) C dX5_tellAll_78 91 (by decide) (fun c23 => ?_) (fun c23 => ?_)
    · have hf := hf.1 c23
      exact go_sub [0, 1] rfl (wk_X5_tellAll_91 C hR _ _ hf)
    · have hf := hf.2 c23
      refine go_aload_n (pc := 81) C dX5_tellAll_81 0 rfl rfl ?_
      refine go_bipush (pc := 82) (v := 6) C dX5_tellAll_82 (by decide) ?_
      refine go_aload_n (pc := 84) C dX5_tellAll_84 0 rfl rfl ?_
      refine ge_X5_X5_2 (pc := 85) C dX5_tellAll_85 ?_
      refine go_cVv (pc := 88) C cw_X5_54 (ok_X5_fail hf) (rc_X5 C) rfl rfl rfl (by decide) rfl dX5_tellAll_88 (fun S25 hf => ?_)
      exact go_sub [0, 1] rfl (wk_X5_tellAll_91 C hR _ _ hf)
set_option maxRecDepth 100000 in
set_option maxHeartbeats 4000000 in
theorem wk_X5_tellAll_33 {X : tq_Cx} {K : Int32 → tq_St → Prop} (C : tq_C X cX5_tellAll 2 RX5 9) (hR : tq_Ri X cX5_tellAll 2 K) : ∀ (n : Nat) (v1 : Int32) (S : tq_St), wp_X5_tellAll_33 K n v1 S → Go X 2 S 33 [(0, .ref ((tq_la X).1 19 0)), (1, .int v1)] [] := by
  intro n
  induction n with
  | zero => intros; contradiction
  | succ n ih =>
    intro v1 S hf
    refine go_aload_n (pc := 33) C dX5_tellAll_33 0 rfl rfl ?_
    refine ge_X5_X5_3 (pc := 34) C dX5_tellAll_34 ?_
    refine go_if_ne (pc := 37) C dX5_tellAll_37 64 (by decide) (fun c15 => ?_) (fun c15 => ?_)
    · have hf := hf.1 c15
      exact go_sub [0, 1] rfl (wk_X5_tellAll_64 C hR _ _ hf)
    · have hf := hf.2 c15
      refine go_aload_n (pc := 40) C dX5_tellAll_40 0 rfl rfl ?_
      refine ge_X5_X5_7 (pc := 41) C dX5_tellAll_41 ?_
      refine go_if_eq (pc := 44) C dX5_tellAll_44 64 (by decide) (fun c27 => ?_) (fun c27 => ?_)
      · have hf := hf.1 c27
        exact go_sub [0, 1] rfl (wk_X5_tellAll_64 C hR _ _ hf)
      · have hf := hf.2 c27
        refine go_iload_n (pc := 47) C dX5_tellAll_47 1 rfl rfl ?_
        refine go_sipush (pc := 48) (v := 160) C dX5_tellAll_48 (by decide) ?_
        refine go_ic_ge (pc := 51) C dX5_tellAll_51 64 (by decide) (fun c28 => ?_) (fun c28 => ?_)
        · have hf := hf.1 c28
          exact go_sub [0, 1] rfl (wk_X5_tellAll_64 C hR _ _ hf)
        · have hf := hf.2 c28
          refine go_aload_n (pc := 54) C dX5_tellAll_54 0 rfl rfl ?_
          refine go_cVv (pc := 55) C cw_X5_47 (ok_X5_tellLine hf) (rc_X5 C) rfl rfl rfl (by decide) rfl dX5_tellAll_55 (fun S30 hf => ?_)
          obtain ⟨x32, e33⟩ : ∃ q9 : Int32, q9 = v1 + 1 := ⟨_, rfl⟩
          refine go_iinc (pc := 58) (j := 1) (v := x32) C dX5_tellAll_58 [(1, .int x32), (0, .ref ((tq_la X).1 19 0))] rfl (by rw [e33]; rfl) (by decide) rfl ?_
          have hf := hf x32 e33
          refine go_goto (pc := 61) C dX5_tellAll_61 33 (by decide) ?_
          exact go_sub [1, 0] rfl (ih _ _ hf)
set_option maxRecDepth 100000 in
set_option maxHeartbeats 4000000 in
theorem wk_X5_tellAll {X : tq_Cx} {S : tq_St} {K : Int32 → tq_St → Prop} (C : tq_C X cX5_tellAll 2 RX5 9) (hR : tq_Ri X cX5_tellAll 2 K) (hf : wp_X5_tellAll S K) : Go X 2 S 0 [(0, .ref ((tq_la X).1 19 0))] [] := by
  refine go_aload_n (pc := 0) C dX5_tellAll_0 0 rfl rfl ?_
  refine ge_X5_X5_1 (pc := 1) C dX5_tellAll_1 ?_
  refine go_cVv (pc := 4) C cw_X5_26 (ok_X1_clear (by decide) hf) (rc_X1 C (by decide)) rfl rfl rfl (by decide) rfl dX5_tellAll_4 (fun S2 hf => ?_)
  refine go_aload_n (pc := 7) C dX5_tellAll_7 0 rfl rfl ?_
  refine go_iconst (pc := 8) (v := 0) C dX5_tellAll_8 (by decide) ?_
  refine pu_X5_X5_3 (pc := 9) C dX5_tellAll_9 (fun S4 e5 => ?_)
  have hf := hf S4 e5
  refine go_aload_n (pc := 12) C dX5_tellAll_12 0 rfl rfl ?_
  refine go_iconst (pc := 13) (v := 0) C dX5_tellAll_13 (by decide) ?_
  refine pu_X5_X5_4 (pc := 14) C dX5_tellAll_14 (fun S6 e7 => ?_)
  have hf := hf S6 e7
  refine go_aload_n (pc := 17) C dX5_tellAll_17 0 rfl rfl ?_
  refine go_iconst (pc := 18) (v := 0) C dX5_tellAll_18 (by decide) ?_
  refine pu_X5_X5_5 (pc := 19) C dX5_tellAll_19 (fun S8 e9 => ?_)
  have hf := hf S8 e9
  refine go_aload_n (pc := 22) C dX5_tellAll_22 0 rfl rfl ?_
  refine go_iconst (pc := 23) (v := 0) C dX5_tellAll_23 (by decide) ?_
  refine pu_X5_X5_6 (pc := 24) C dX5_tellAll_24 (fun S10 e11 => ?_)
  have hf := hf S10 e11
  refine go_aload_n (pc := 27) C dX5_tellAll_27 0 rfl rfl ?_
  refine go_cVv (pc := 28) C cw_X5_41 (ok_X5_takeToken hf) (rc_X5 C) rfl rfl rfl (by decide) rfl dX5_tellAll_28 (fun S13 hf => ?_)
  refine go_iconst (pc := 31) (v := 0) C dX5_tellAll_31 (by decide) ?_
  refine go_istore_n (pc := 32) C dX5_tellAll_32 [(1, .int 0), (0, .ref ((tq_la X).1 19 0))] rfl (by decide) rfl ?_
  exact go_sub [1, 0] rfl (wk_X5_tellAll_33 C hR 2000 _ _ hf)
set_option maxRecDepth 100000 in
set_option maxHeartbeats 4000000 in
theorem ok_X5_tellAll {S : tq_St} {K : Int32 → tq_St → Prop} (hf : wp_X5_tellAll S K) : tq_Mi yX5_tellAll cX5_tellAll 2 (some .int) 9 (fun a z => [.ref (a.1 19 0)]) S K :=
  tq_mkI (by decide) (fun _ _ => Nat.le_of_ble_eq_true rfl) (fun X C hR => wk_X5_tellAll C hR  hf)
