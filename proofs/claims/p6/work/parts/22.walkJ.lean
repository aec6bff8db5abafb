set_option maxRecDepth 100000 in
set_option maxHeartbeats 4000000 in
theorem wk_J6_bitCount_0f7a4 {X : tq_Cx} {p0 : Int32} {S : tq_St} {K : Int32 → tq_St → Prop} (C : tq_C X cJ6_bitCount_0f7a4 1 RJ6 1) (hR : tq_Ri X cJ6_bitCount_0f7a4 1 K) (hf : wp_J6_bitCount_0f7a4 p0 S K) : Go X 1 S 0 [(0, .int p0)] [] := by
  refine go_iload_n (pc := 0) C dJ6_bitCount_0f7a4_0 0 rfl rfl ?_
  refine go_iload_n (pc := 1) C dJ6_bitCount_0f7a4_1 0 rfl rfl ?_
  refine go_iconst (pc := 2) (v := 1) C dJ6_bitCount_0f7a4_2 (by decide) ?_
  refine go_iushr (pc := 3) C dJ6_bitCount_0f7a4_3 ?_
  refine go_ldcw (pc := 4) C kc_J6_265 dJ6_bitCount_0f7a4_4 ?_
  refine go_iand (pc := 7) C dJ6_bitCount_0f7a4_7 ?_
  refine go_isub (pc := 8) C dJ6_bitCount_0f7a4_8 ?_
  refine go_nI (fun x1 e2 => ?_)
  have hf := hf x1 e2
  refine go_istore_n (pc := 9) C dJ6_bitCount_0f7a4_9 [(0, .int x1)] rfl (by decide) rfl ?_
  refine go_iload_n (pc := 10) C dJ6_bitCount_0f7a4_10 0 rfl rfl ?_
  refine go_ldcw (pc := 11) C kc_J6_266 dJ6_bitCount_0f7a4_11 ?_
  refine go_iand (pc := 14) C dJ6_bitCount_0f7a4_14 ?_
  refine go_iload_n (pc := 15) C dJ6_bitCount_0f7a4_15 0 rfl rfl ?_
  refine go_iconst (pc := 16) (v := 2) C dJ6_bitCount_0f7a4_16 (by decide) ?_
  refine go_iushr (pc := 17) C dJ6_bitCount_0f7a4_17 ?_
  refine go_ldcw (pc := 18) C kc_J6_266 dJ6_bitCount_0f7a4_18 ?_
  refine go_iand (pc := 21) C dJ6_bitCount_0f7a4_21 ?_
  refine go_iadd (pc := 22) C dJ6_bitCount_0f7a4_22 ?_
  refine go_nI (fun x3 e4 => ?_)
  have hf := hf x3 e4
  refine go_istore_n (pc := 23) C dJ6_bitCount_0f7a4_23 [(0, .int x3)] rfl (by decide) rfl ?_
  refine go_iload_n (pc := 24) C dJ6_bitCount_0f7a4_24 0 rfl rfl ?_
  refine go_iload_n (pc := 25) C dJ6_bitCount_0f7a4_25 0 rfl rfl ?_
  refine go_iconst (pc := 26) (v := 4) C dJ6_bitCount_0f7a4_26 (by decide) ?_
  refine go_iushr (pc := 27) C dJ6_bitCount_0f7a4_27 ?_
  refine go_iadd (pc := 28) C dJ6_bitCount_0f7a4_28 ?_
  refine go_ldcw (pc := 29) C kc_J6_267 dJ6_bitCount_0f7a4_29 ?_
  refine go_iand (pc := 32) C dJ6_bitCount_0f7a4_32 ?_
  refine go_nI (fun x5 e6 => ?_)
  have hf := hf x5 e6
  refine go_istore_n (pc := 33) C dJ6_bitCount_0f7a4_33 [(0, .int x5)] rfl (by decide) rfl ?_
  refine go_iload_n (pc := 34) C dJ6_bitCount_0f7a4_34 0 rfl rfl ?_
  refine go_iload_n (pc := 35) C dJ6_bitCount_0f7a4_35 0 rfl rfl ?_
  refine go_bipush (pc := 36) (v := 8) C dJ6_bitCount_0f7a4_36 (by decide) ?_
  refine go_iushr (pc := 38) C dJ6_bitCount_0f7a4_38 ?_
  refine go_iadd (pc := 39) C dJ6_bitCount_0f7a4_39 ?_
  refine go_nI (fun x7 e8 => ?_)
  have hf := hf x7 e8
  refine go_istore_n (pc := 40) C dJ6_bitCount_0f7a4_40 [(0, .int x7)] rfl (by decide) rfl ?_
  refine go_iload_n (pc := 41) C dJ6_bitCount_0f7a4_41 0 rfl rfl ?_
  refine go_iload_n (pc := 42) C dJ6_bitCount_0f7a4_42 0 rfl rfl ?_
  refine go_bipush (pc := 43) (v := 16) C dJ6_bitCount_0f7a4_43 (by decide) ?_
  refine go_iushr (pc := 45) C dJ6_bitCount_0f7a4_45 ?_
  refine go_iadd (pc := 46) C dJ6_bitCount_0f7a4_46 ?_
  refine go_nI (fun x9 e10 => ?_)
  have hf := hf x9 e10
  refine go_istore_n (pc := 47) C dJ6_bitCount_0f7a4_47 [(0, .int x9)] rfl (by decide) rfl ?_
  refine go_iload_n (pc := 48) C dJ6_bitCount_0f7a4_48 0 rfl rfl ?_
  refine go_bipush (pc := 49) (v := 63) C dJ6_bitCount_0f7a4_49 (by decide) ?_
  refine go_iand (pc := 51) C dJ6_bitCount_0f7a4_51 ?_
  exact hR _ _ _ _ dJ6_bitCount_0f7a4_52 hf
set_option maxRecDepth 100000 in
set_option maxHeartbeats 4000000 in
theorem ok_J6_bitCount_0f7a4 {p0 : Int32} {S : tq_St} {K : Int32 → tq_St → Prop} (hf : wp_J6_bitCount_0f7a4 p0 S K) : tq_Mi yJ6_bitCount_0f7a4 cJ6_bitCount_0f7a4 1 (some .int) 1 (fun a z => [.int p0]) S K :=
  tq_mkI (by decide) (fun _ _ => Nat.le_of_ble_eq_true rfl) (fun X C hR => wk_J6_bitCount_0f7a4 C hR  hf)
set_option maxRecDepth 100000 in
set_option maxHeartbeats 4000000 in
theorem wk_J7_fill_d0a16_6 {X : tq_Cx} {K : tq_St → Prop} (C : tq_C X cJ7_fill_d0a16 5 RJ7 1) (hR : tq_Rv X cJ7_fill_d0a16 5 K) : ∀ (n : Nat) (v1 : Int64) (v3 : Int32) (v4 : Int32) (S : tq_St), wp_J7_fill_d0a16_6 K n v1 v3 v4 S → Go X 5 S 6 [(0, .ref ((tq_la X).1 22 2)), (1, .long v1), (3, .int v3), (4, .int v4)] [] := by
  intro n
  induction n with
  | zero => intros; contradiction
  | succ n ih =>
    intro v1 v3 v4 S hf
    refine go_iload_n (pc := 6) C dJ7_fill_d0a16_6 2 rfl rfl ?_
    refine go_iload (pc := 7) C dJ7_fill_d0a16_7 3 rfl ?_
    refine go_ic_ge (pc := 9) C dJ7_fill_d0a16_9 22 (by decide) (fun c1 => ?_) (fun c1 => ?_)
    · have hf := hf.1 c1
      exact hR _ _ _ dJ7_fill_d0a16_22 hf
    · have hf := hf.2 c1
      refine go_aload_n (pc := 12) C dJ7_fill_d0a16_12 0 rfl rfl ?_
      refine go_iload_n (pc := 13) C dJ7_fill_d0a16_13 2 rfl rfl ?_
      refine go_lload_n (pc := 14) C dJ7_fill_d0a16_14 1 rfl rfl ?_
      refine as_X0_1 (pc := 15) C hf.1 dJ7_fill_d0a16_15 (fun S2 e3 => ?_)
      have hf := hf.2 S2 e3
      obtain ⟨x4, e5⟩ : ∃ q9 : Int32, q9 = v3 + 1 := ⟨_, rfl⟩
      refine go_iinc (pc := 16) (j := 2) (v := x4) C dJ7_fill_d0a16_16 [(3, .int x4), (0, .ref ((tq_la X).1 22 2)), (1, .long v1), (4, .int v4)] rfl (by rw [e5]; rfl) (by decide) rfl ?_
      have hf := hf x4 e5
      refine go_goto (pc := 19) C dJ7_fill_d0a16_19 6 (by decide) ?_
      exact go_sub [1, 2, 0, 3] rfl (ih _ _ _ _ hf)
set_option maxRecDepth 100000 in
set_option maxHeartbeats 4000000 in
theorem wk_J7_fill_d0a16 {X : tq_Cx} {p1 : Int64} {S : tq_St} {K : tq_St → Prop} (C : tq_C X cJ7_fill_d0a16 5 RJ7 1) (hR : tq_Rv X cJ7_fill_d0a16 5 K) (hf : wp_J7_fill_d0a16 p1 S K) : Go X 5 S 0 [(0, .ref ((tq_la X).1 22 2)), (1, .long p1)] [] := by
  refine go_iconst (pc := 0) (v := 0) C dJ7_fill_d0a16_0 (by decide) ?_
  refine go_istore_n (pc := 1) C dJ7_fill_d0a16_1 [(3, .int 0), (0, .ref ((tq_la X).1 22 2)), (1, .long p1)] rfl (by decide) rfl ?_
  refine go_aload_n (pc := 2) C dJ7_fill_d0a16_2 1 rfl rfl ?_
  refine an_X0_1 (pc := 3) C dJ7_fill_d0a16_3 ?_
  refine go_istore (pc := 4) C dJ7_fill_d0a16_4 [(4, .int 5), (3, .int 0), (0, .ref ((tq_la X).1 22 2)), (1, .long p1)] (by decide) rfl ?_
  exact go_sub [2, 3, 1, 0] rfl (wk_J7_fill_d0a16_6 C hR 2000 _ _ _ _ hf)
set_option maxRecDepth 100000 in
set_option maxHeartbeats 4000000 in
theorem ok_J7_fill_d0a16 {p1 : Int64} {S : tq_St} {K : tq_St → Prop} (hf : wp_J7_fill_d0a16 p1 S K) : tq_Mv yJ7_fill_d0a16 cJ7_fill_d0a16 5 none 1 (fun a z => [.ref (a.1 22 2), .long p1]) S K :=
  tq_mkV (by decide) (fun _ _ => Nat.le_of_ble_eq_true rfl) (fun X C hR => wk_J7_fill_d0a16 C hR  hf)
set_option maxRecDepth 100000 in
set_option maxHeartbeats 4000000 in
theorem wk_J7_fill_53178_5 {X : tq_Cx} {p0 : Nat} {K : tq_St → Prop} (C : tq_C X cJ7_fill_53178 4 RJ7 1) (hR : tq_Rv X cJ7_fill_53178 4 K) (hp0 : 23 ≤ p0 ∧ p0 < 27) : ∀ (n : Nat) (v1 : Int32) (v2 : Int32) (v3 : Int32) (S : tq_St), wp_J7_fill_53178_5 p0 K n v1 v2 v3 S → Go X 4 S 5 [(0, .ref ((tq_la X).1 p0 1)), (1, .int v1), (2, .int v2), (3, .int v3)] [] := by
  intro n
  induction n with
  | zero => intros; contradiction
  | succ n ih =>
    intro v1 v2 v3 S hf
    refine go_iload_n (pc := 5) C dJ7_fill_53178_5 2 rfl rfl ?_
    refine go_iload_n (pc := 6) C dJ7_fill_53178_6 3 rfl rfl ?_
    refine go_ic_ge (pc := 7) C dJ7_fill_53178_7 20 (by decide) (fun c1 => ?_) (fun c1 => ?_)
    · have hf := hf.1 c1
      exact hR _ _ _ dJ7_fill_53178_20 hf
    · have hf := hf.2 c1
      refine go_aload_n (pc := 10) C dJ7_fill_53178_10 0 rfl rfl ?_
      refine go_iload_n (pc := 11) C dJ7_fill_53178_11 2 rfl rfl ?_
      refine go_iload_n (pc := 12) C dJ7_fill_53178_12 1 rfl rfl ?_
      refine as_X3_0 (pc := 13) C hp0 hf.1 dJ7_fill_53178_13 (fun S2 e3 => ?_)
      have hf := hf.2 S2 e3
      obtain ⟨x4, e5⟩ : ∃ q9 : Int32, q9 = v2 + 1 := ⟨_, rfl⟩
      refine go_iinc (pc := 14) (j := 2) (v := x4) C dJ7_fill_53178_14 [(2, .int x4), (0, .ref ((tq_la X).1 p0 1)), (1, .int v1), (3, .int v3)] rfl (by rw [e5]; rfl) (by decide) rfl ?_
      have hf := hf x4 e5
      refine go_goto (pc := 17) C dJ7_fill_53178_17 5 (by decide) ?_
      exact go_sub [1, 2, 0, 3] rfl (ih _ _ _ _ hf)
set_option maxRecDepth 100000 in
set_option maxHeartbeats 4000000 in
theorem wk_J7_fill_53178 {X : tq_Cx} {p0 : Nat} {p1 : Int32} {S : tq_St} {K : tq_St → Prop} (C : tq_C X cJ7_fill_53178 4 RJ7 1) (hR : tq_Rv X cJ7_fill_53178 4 K) (hp0 : 23 ≤ p0 ∧ p0 < 27) (hf : wp_J7_fill_53178 p0 p1 S K) : Go X 4 S 0 [(0, .ref ((tq_la X).1 p0 1)), (1, .int p1)] [] := by
  refine go_iconst (pc := 0) (v := 0) C dJ7_fill_53178_0 (by decide) ?_
  refine go_istore_n (pc := 1) C dJ7_fill_53178_1 [(2, .int 0), (0, .ref ((tq_la X).1 p0 1)), (1, .int p1)] rfl (by decide) rfl ?_
  refine go_aload_n (pc := 2) C dJ7_fill_53178_2 1 rfl rfl ?_
  refine an_X3_0 (pc := 3) C hp0 dJ7_fill_53178_3 ?_
  refine go_istore_n (pc := 4) C dJ7_fill_53178_4 [(3, .int 40), (2, .int 0), (0, .ref ((tq_la X).1 p0 1)), (1, .int p1)] rfl (by decide) rfl ?_
  exact go_sub [2, 3, 1, 0] rfl (wk_J7_fill_53178_5 C hR hp0 2000 _ _ _ _ hf)
set_option maxRecDepth 100000 in
set_option maxHeartbeats 4000000 in
theorem ok_J7_fill_53178 {p0 : Nat} {p1 : Int32} {S : tq_St} {K : tq_St → Prop} (hp0 : 23 ≤ p0 ∧ p0 < 27) (hf : wp_J7_fill_53178 p0 p1 S K) : tq_Mv yJ7_fill_53178 cJ7_fill_53178 4 none 1 (fun a z => [.ref (a.1 p0 1), .int p1]) S K :=
  tq_mkV (by decide) (fun _ _ => Nat.le_of_ble_eq_true rfl) (fun X C hR => wk_J7_fill_53178 C hR hp0 hf)
set_option maxRecDepth 100000 in
set_option maxHeartbeats 4000000 in
theorem wk_J0_coder_7d493 {X : tq_Cx} {o : Nat} {S : tq_St} {K : Int32 → tq_St → Prop} (C : tq_C X cJ0_coder_7d493 1 RJ0 1) (hR : tq_Rn .byte X cJ0_coder_7d493 1 K) (ho : o < 7) (hf : wp_J0_coder_7d493 o S K) : Go X 1 S 0 [(0, .ref ((tq_zl X).2.1 o))] [] := by
  refine go_strK (pc := 0) C ks_J0_38 dJ0_coder_7d493_0 ?_
  refine go_if_eq (pc := 3) C dJ0_coder_7d493_3 13 (by decide) (fun c1 => ?_) (fun c1 => ?_)
  · have hf := hf.1 c1
    refine go_iconst (pc := 13) (v := 1) C dJ0_coder_7d493_13 (by decide) ?_
    exact hR _ _ _ _ dJ0_coder_7d493_14 hf.1 hf.2
  · have hf := hf.2 c1
    refine go_aload_n (pc := 6) C dJ0_coder_7d493_6 0 rfl rfl ?_
    refine go_strC (pc := 7) C ho ks_J0_15 dJ0_coder_7d493_7 ?_
    refine go_goto (pc := 10) C dJ0_coder_7d493_10 14 (by decide) ?_
    exact hR _ _ _ _ dJ0_coder_7d493_14 hf.1 hf.2
set_option maxRecDepth 100000 in
set_option maxHeartbeats 4000000 in
theorem ok_J0_coder_7d493 {o : Nat} {S : tq_St} {K : Int32 → tq_St → Prop} (ho : o < 7) (hf : wp_J0_coder_7d493 o S K) : tq_Mi yJ0_coder_7d493 cJ0_coder_7d493 1 (some .byte) 1 (fun a z => [.ref (z.2.1 o)]) S K :=
  tq_mkN (by decide) (fun _ _ => Nat.le_of_ble_eq_true rfl) (fun X C hR => wk_J0_coder_7d493 C hR ho hf)
set_option maxRecDepth 100000 in
set_option maxHeartbeats 4000000 in
theorem wk_J0_length_8abf5 {X : tq_Cx} {o : Nat} {S : tq_St} {K : Int32 → tq_St → Prop} (C : tq_C X cJ0_length_8abf5 1 RJ0 2) (hR : tq_Ri X cJ0_length_8abf5 1 K) (ho : o < 7) (hf : wp_J0_length_8abf5 o S K) : Go X 1 S 0 [(0, .ref ((tq_zl X).2.1 o))] [] := by
  refine go_aload_n (pc := 0) C dJ0_length_8abf5_0 0 rfl rfl ?_
  refine go_strV (pc := 1) C ho ks_J0_9 dJ0_length_8abf5_1 ?_
  refine go_strN (pc := 4) C ho dJ0_length_8abf5_4 ?_
  refine go_aload_n (pc := 5) C dJ0_length_8abf5_5 0 rfl rfl ?_
  refine go_cVi (pc := 6) C cw_J0_335 (ok_J0_coder_7d493 ho hf) (tq_recS C ho) rfl rfl rfl (by decide) rfl dJ0_length_8abf5_6 (fun r1 S2 hf => ?_)
  refine go_ishr (pc := 9) C dJ0_length_8abf5_9 ?_
  exact hR _ _ _ _ dJ0_length_8abf5_10 hf
set_option maxRecDepth 100000 in
set_option maxHeartbeats 4000000 in
theorem ok_J0_length_8abf5 {o : Nat} {S : tq_St} {K : Int32 → tq_St → Prop} (ho : o < 7) (hf : wp_J0_length_8abf5 o S K) : tq_Mi yJ0_length_8abf5 cJ0_length_8abf5 1 (some .int) 2 (fun a z => [.ref (z.2.1 o)]) S K :=
  tq_mkI (by decide) (fun _ _ => Nat.le_of_ble_eq_true rfl) (fun X C hR => wk_J0_length_8abf5 C hR ho hf)
set_option maxRecDepth 100000 in
set_option maxHeartbeats 4000000 in
theorem wk_J0_isLatin1_aae02 {X : tq_Cx} {o : Nat} {S : tq_St} {K : Int32 → tq_St → Prop} (C : tq_C X cJ0_isLatin1_aae02 1 RJ0 1) (hR : tq_Rz X cJ0_isLatin1_aae02 1 K) (ho : o < 7) (hf : wp_J0_isLatin1_aae02 o S K) : Go X 1 S 0 [(0, .ref ((tq_zl X).2.1 o))] [] := by
  refine go_strK (pc := 0) C ks_J0_38 dJ0_isLatin1_aae02_0 ?_
  refine go_if_eq (pc := 3) C dJ0_isLatin1_aae02_3 17 (by decide) (fun c1 => ?_) (fun c1 => ?_)
  · have hf := hf.1 c1
    refine go_iconst (pc := 17) (v := 0) C dJ0_isLatin1_aae02_17 (by decide) ?_
    exact hR _ _ _ _ dJ0_isLatin1_aae02_18 (Or.inl rfl) hf
  · have hf := hf.2 c1
    refine go_aload_n (pc := 6) C dJ0_isLatin1_aae02_6 0 rfl rfl ?_
    refine go_strC (pc := 7) C ho ks_J0_15 dJ0_isLatin1_aae02_7 ?_
    refine go_if_ne (pc := 10) C dJ0_isLatin1_aae02_10 17 (by decide) (fun c2 => ?_) (fun c2 => ?_)
    · have hf := hf.1 c2
      refine go_iconst (pc := 17) (v := 0) C dJ0_isLatin1_aae02_17 (by decide) ?_
      exact hR _ _ _ _ dJ0_isLatin1_aae02_18 (Or.inl rfl) hf
    · have hf := hf.2 c2
      refine go_iconst (pc := 13) (v := 1) C dJ0_isLatin1_aae02_13 (by decide) ?_
      refine go_goto (pc := 14) C dJ0_isLatin1_aae02_14 18 (by decide) ?_
      exact hR _ _ _ _ dJ0_isLatin1_aae02_18 (Or.inr rfl) hf
set_option maxRecDepth 100000 in
set_option maxHeartbeats 4000000 in
theorem ok_J0_isLatin1_aae02 {o : Nat} {S : tq_St} {K : Int32 → tq_St → Prop} (ho : o < 7) (hf : wp_J0_isLatin1_aae02 o S K) : tq_Mi yJ0_isLatin1_aae02 cJ0_isLatin1_aae02 1 (some .boolean) 1 (fun a z => [.ref (z.2.1 o)]) S K :=
  tq_mkZ (by decide) (fun _ _ => Nat.le_of_ble_eq_true rfl) (fun X C hR => wk_J0_isLatin1_aae02 C hR ho hf)
set_option maxRecDepth 100000 in
set_option maxHeartbeats 4000000 in
theorem wk_J3_checkIndex_8e157_9 {X : tq_Cx} {K : Int32 → tq_St → Prop} (C : tq_C X cJ3_checkIndex_8e157 3 RJ3 1) (hR : tq_Ri X cJ3_checkIndex_8e157 3 K) : ∀ (v0 : Int32) (v1 : Int32) (S : tq_St), wp_J3_checkIndex_8e157_9 K v0 v1 S → Go X 3 S 9 [(0, .int v0), (1, .int v1), (2, va_rf (tq_zl X).2.2.2)] [] := by
  intro v0 v1 S hf
  exact hf.elim
set_option maxRecDepth 100000 in
set_option maxHeartbeats 4000000 in
theorem wk_J3_checkIndex_8e157 {X : tq_Cx} {p0 : Int32} {p1 : Int32} {S : tq_St} {K : Int32 → tq_St → Prop} (C : tq_C X cJ3_checkIndex_8e157 3 RJ3 1) (hR : tq_Ri X cJ3_checkIndex_8e157 3 K) (hf : wp_J3_checkIndex_8e157 p0 p1 S K) : Go X 3 S 0 [(0, .int p0), (1, .int p1), (2, va_rf (tq_zl X).2.2.2)] [] := by
  refine go_iload_n (pc := 0) C dJ3_checkIndex_8e157_0 0 rfl rfl ?_
  refine go_if_lt (pc := 1) C dJ3_checkIndex_8e157_1 9 (by decide) (fun c1 => ?_) (fun c1 => ?_)
  · have hf := hf.1 c1
    exact go_sub [0, 1, 2] rfl (wk_J3_checkIndex_8e157_9 C hR _ _ _ hf)
  · have hf := hf.2 c1
    refine go_iload_n (pc := 4) C dJ3_checkIndex_8e157_4 0 rfl rfl ?_
    refine go_iload_n (pc := 5) C dJ3_checkIndex_8e157_5 1 rfl rfl ?_
    refine go_ic_lt (pc := 6) C dJ3_checkIndex_8e157_6 16 (by decide) (fun c2 => ?_) (fun c2 => ?_)
    · have hf := hf.1 c2
      refine go_iload_n (pc := 16) C dJ3_checkIndex_8e157_16 0 rfl rfl ?_
      exact hR _ _ _ _ dJ3_checkIndex_8e157_17 hf
    · have hf := hf.2 c2
      exact go_sub [0, 1, 2] rfl (wk_J3_checkIndex_8e157_9 C hR _ _ _ hf)
set_option maxRecDepth 100000 in
set_option maxHeartbeats 4000000 in
theorem ok_J3_checkIndex_8e157 {p0 : Int32} {p1 : Int32} {S : tq_St} {K : Int32 → tq_St → Prop} (hf : wp_J3_checkIndex_8e157 p0 p1 S K) : tq_Mi yJ3_checkIndex_8e157 cJ3_checkIndex_8e157 3 (some .int) 1 (fun a z => [.int p0, .int p1, va_rf z.2.2.2]) S K :=
  tq_mkI (by decide) (fun _ z => by rcases z with ⟨_, _, _, _ | _⟩ <;> exact Nat.le_of_ble_eq_true rfl) (fun X C hR => wk_J3_checkIndex_8e157 C hR  hf)
set_option maxRecDepth 100000 in
set_option maxHeartbeats 4000000 in
theorem wk_J0_checkIndex_df160 {X : tq_Cx} {p0 : Int32} {p1 : Int32} {S : tq_St} {K : tq_St → Prop} (C : tq_C X cJ0_checkIndex_df160 2 RJ0 2) (hR : tq_Rv X cJ0_checkIndex_df160 2 K) (hf : wp_J0_checkIndex_df160 p0 p1 S K) : Go X 2 S 0 [(0, .int p0), (1, .int p1)] [] := by
  refine go_iload_n (pc := 0) C dJ0_checkIndex_df160_0 0 rfl rfl ?_
  refine go_iload_n (pc := 1) C dJ0_checkIndex_df160_1 1 rfl rfl ?_
  refine go_fmt (pc := 2) C kf_J0_1053 dJ0_checkIndex_df160_2 ?_
  refine go_cSi (pc := 5) C cs_J0_1059 (ok_J3_checkIndex_8e157 hf) rfl rfl rfl (by decide) rfl dJ0_checkIndex_df160_5 (fun r1 S2 hf => ?_)
  refine go_pop (pc := 8) C dJ0_checkIndex_df160_8 rfl ?_
  exact hR _ _ _ dJ0_checkIndex_df160_9 hf
set_option maxRecDepth 100000 in
set_option maxHeartbeats 4000000 in
theorem ok_J0_checkIndex_df160 {p0 : Int32} {p1 : Int32} {S : tq_St} {K : tq_St → Prop} (hf : wp_J0_checkIndex_df160 p0 p1 S K) : tq_Mv yJ0_checkIndex_df160 cJ0_checkIndex_df160 2 none 2 (fun a z => [.int p0, .int p1]) S K :=
  tq_mkV (by decide) (fun _ _ => Nat.le_of_ble_eq_true rfl) (fun X C hR => wk_J0_checkIndex_df160 C hR  hf)
set_option maxRecDepth 100000 in
set_option maxHeartbeats 4000000 in
theorem wk_J1_charAt_3b067 {X : tq_Cx} {p0 : Nat} {p1 : Int32} {S : tq_St} {K : Int32 → tq_St → Prop} (C : tq_C X cJ1_charAt_3b067 2 RJ1 3) (hR : tq_Rn .char X cJ1_charAt_3b067 2 K) (hp0 : p0 < 7) (hf : wp_J1_charAt_3b067 p0 p1 S K) : Go X 2 S 0 [(0, .ref ((tq_zl X).2.2.1 p0)), (1, .int p1)] [] := by
  refine go_iload_n (pc := 0) C dJ1_charAt_3b067_0 1 rfl rfl ?_
  refine go_aload_n (pc := 1) C dJ1_charAt_3b067_1 0 rfl rfl ?_
  refine go_strN (pc := 2) C hp0 dJ1_charAt_3b067_2 ?_
  refine go_cSv (pc := 3) C cs_J1_9 (ok_J0_checkIndex_df160 hf) rfl rfl rfl (by decide) rfl dJ1_charAt_3b067_3 (fun S2 hf => ?_)
  refine go_aload_n (pc := 6) C dJ1_charAt_3b067_6 0 rfl rfl ?_
  refine go_iload_n (pc := 7) C dJ1_charAt_3b067_7 1 rfl rfl ?_
  refine go_strB (pc := 8) C hp0 hf.1 dJ1_charAt_3b067_8 ?_
  have hf := hf.2
  refine go_sipush (pc := 9) (v := 255) C dJ1_charAt_3b067_9 (by decide) ?_
  refine go_iand (pc := 12) C dJ1_charAt_3b067_12 ?_
  refine go_i2c (pc := 13) C dJ1_charAt_3b067_13 ?_
  exact hR _ _ _ _ dJ1_charAt_3b067_14 hf.1 hf.2
set_option maxRecDepth 100000 in
set_option maxHeartbeats 4000000 in
theorem ok_J1_charAt_3b067 {p0 : Nat} {p1 : Int32} {S : tq_St} {K : Int32 → tq_St → Prop} (hp0 : p0 < 7) (hf : wp_J1_charAt_3b067 p0 p1 S K) : tq_Mi yJ1_charAt_3b067 cJ1_charAt_3b067 2 (some .char) 3 (fun a z => [.ref (z.2.2.1 p0), .int p1]) S K :=
  tq_mkN (by decide) (fun _ _ => Nat.le_of_ble_eq_true rfl) (fun X C hR => wk_J1_charAt_3b067 C hR hp0 hf)
set_option maxRecDepth 100000 in
set_option maxHeartbeats 4000000 in
theorem wk_J2_length_9d52b {X : tq_Cx} {p0 : Nat} {S : tq_St} {K : Int32 → tq_St → Prop} (C : tq_C X cJ2_length_9d52b 1 RJ2 1) (hR : tq_Ri X cJ2_length_9d52b 1 K) (hp0 : p0 < 7) (hf : wp_J2_length_9d52b p0 S K) : Go X 1 S 0 [(0, .ref ((tq_zl X).2.2.1 p0))] [] := by
  refine go_aload_n (pc := 0) C dJ2_length_9d52b_0 0 rfl rfl ?_
  refine go_strN (pc := 1) C hp0 dJ2_length_9d52b_1 ?_
  refine go_iconst (pc := 2) (v := 1) C dJ2_length_9d52b_2 (by decide) ?_
  refine go_ishr (pc := 3) C dJ2_length_9d52b_3 ?_
  exact hR _ _ _ _ dJ2_length_9d52b_4 hf
set_option maxRecDepth 100000 in
set_option maxHeartbeats 4000000 in
theorem ok_J2_length_9d52b {p0 : Nat} {S : tq_St} {K : Int32 → tq_St → Prop} (hp0 : p0 < 7) (hf : wp_J2_length_9d52b p0 S K) : tq_Mi yJ2_length_9d52b cJ2_length_9d52b 1 (some .int) 1 (fun a z => [.ref (z.2.2.1 p0)]) S K :=
  tq_mkI (by decide) (fun _ _ => Nat.le_of_ble_eq_true rfl) (fun X C hR => wk_J2_length_9d52b C hR hp0 hf)
set_option maxRecDepth 100000 in
set_option maxHeartbeats 4000000 in
theorem wk_J2_checkIndex_2214a {X : tq_Cx} {p0 : Int32} {p1 : Nat} {S : tq_St} {K : tq_St → Prop} (C : tq_C X cJ2_checkIndex_2214a 2 RJ2 3) (hR : tq_Rv X cJ2_checkIndex_2214a 2 K) (hp1 : p1 < 7) (hf : wp_J2_checkIndex_2214a p0 p1 S K) : Go X 2 S 0 [(0, .int p0), (1, .ref ((tq_zl X).2.2.1 p1))] [] := by
  refine go_iload_n (pc := 0) C dJ2_checkIndex_2214a_0 0 rfl rfl ?_
  refine go_aload_n (pc := 1) C dJ2_checkIndex_2214a_1 1 rfl rfl ?_
  refine go_cSi (pc := 2) C cs_J2_48 (ok_J2_length_9d52b hp1 hf) rfl rfl rfl (by decide) rfl dJ2_checkIndex_2214a_2 (fun r1 S2 hf => ?_)
  refine go_cSv (pc := 5) C cs_J2_414 (ok_J0_checkIndex_df160 hf) rfl rfl rfl (by decide) rfl dJ2_checkIndex_2214a_5 (fun S5 hf => ?_)
  exact hR _ _ _ dJ2_checkIndex_2214a_8 hf
set_option maxRecDepth 100000 in
set_option maxHeartbeats 4000000 in
theorem ok_J2_checkIndex_2214a {p0 : Int32} {p1 : Nat} {S : tq_St} {K : tq_St → Prop} (hp1 : p1 < 7) (hf : wp_J2_checkIndex_2214a p0 p1 S K) : tq_Mv yJ2_checkIndex_2214a cJ2_checkIndex_2214a 2 none 3 (fun a z => [.int p0, .ref (z.2.2.1 p1)]) S K :=
  tq_mkV (by decide) (fun _ _ => Nat.le_of_ble_eq_true rfl) (fun X C hR => wk_J2_checkIndex_2214a C hR hp1 hf)
set_option maxRecDepth 100000 in
set_option maxHeartbeats 4000000 in
theorem wk_J2_getChar_3b067 {X : tq_Cx} {p0 : Nat} {p1 : Int32} {S : tq_St} {K : Int32 → tq_St → Prop} (C : tq_C X cJ2_getChar_3b067 2 RJ2 2) (hR : tq_Rn .char X cJ2_getChar_3b067 2 K) (hp0 : p0 < 7) (hf : wp_J2_getChar_3b067 p0 p1 S K) : Go X 2 S 0 [(0, .ref ((tq_zl X).2.2.1 p0)), (1, .int p1)] [] := by
  exact hf.elim
set_option maxRecDepth 100000 in
set_option maxHeartbeats 4000000 in
theorem ok_J2_getChar_3b067 {p0 : Nat} {p1 : Int32} {S : tq_St} {K : Int32 → tq_St → Prop} (hp0 : p0 < 7) (hf : wp_J2_getChar_3b067 p0 p1 S K) : tq_Mi yJ2_getChar_3b067 cJ2_getChar_3b067 2 (some .char) 2 (fun a z => [.ref (z.2.2.1 p0), .int p1]) S K :=
  tq_mkN (by decide) (fun _ _ => Nat.le_of_ble_eq_true rfl) (fun X C hR => wk_J2_getChar_3b067 C hR hp0 hf)
set_option maxRecDepth 100000 in
set_option maxHeartbeats 4000000 in
theorem wk_J2_charAt_3b067 {X : tq_Cx} {p0 : Nat} {p1 : Int32} {S : tq_St} {K : Int32 → tq_St → Prop} (C : tq_C X cJ2_charAt_3b067 2 RJ2 4) (hR : tq_Rn .char X cJ2_charAt_3b067 2 K) (hp0 : p0 < 7) (hf : wp_J2_charAt_3b067 p0 p1 S K) : Go X 2 S 0 [(0, .ref ((tq_zl X).2.2.1 p0)), (1, .int p1)] [] := by
  refine go_iload_n (pc := 0) C dJ2_charAt_3b067_0 1 rfl rfl ?_
  refine go_aload_n (pc := 1) C dJ2_charAt_3b067_1 0 rfl rfl ?_
  refine go_cSv (pc := 2) C cs_J2_67 (ok_J2_checkIndex_2214a hp0 hf) rfl rfl rfl (by decide) rfl dJ2_charAt_3b067_2 (fun S2 hf => ?_)
  refine go_aload_n (pc := 5) C dJ2_charAt_3b067_5 0 rfl rfl ?_
  refine go_iload_n (pc := 6) C dJ2_charAt_3b067_6 1 rfl rfl ?_
  refine go_cSi (pc := 7) C cs_J2_71 (ok_J2_getChar_3b067 hp0 hf) rfl rfl rfl (by decide) rfl dJ2_charAt_3b067_7 (fun r4 S5 hf => ?_)
  exact hR _ _ _ _ dJ2_charAt_3b067_10 hf.1 hf.2
set_option maxRecDepth 100000 in
set_option maxHeartbeats 4000000 in
theorem ok_J2_charAt_3b067 {p0 : Nat} {p1 : Int32} {S : tq_St} {K : Int32 → tq_St → Prop} (hp0 : p0 < 7) (hf : wp_J2_charAt_3b067 p0 p1 S K) : tq_Mi yJ2_charAt_3b067 cJ2_charAt_3b067 2 (some .char) 4 (fun a z => [.ref (z.2.2.1 p0), .int p1]) S K :=
  tq_mkN (by decide) (fun _ _ => Nat.le_of_ble_eq_true rfl) (fun X C hR => wk_J2_charAt_3b067 C hR hp0 hf)
set_option maxRecDepth 100000 in
set_option maxHeartbeats 4000000 in
theorem wk_J0_charAt_5068e {X : tq_Cx} {o : Nat} {p1 : Int32} {S : tq_St} {K : Int32 → tq_St → Prop} (C : tq_C X cJ0_charAt_5068e 2 RJ0 5) (hR : tq_Rn .char X cJ0_charAt_5068e 2 K) (ho : o < 7) (hf : wp_J0_charAt_5068e o p1 S K) : Go X 2 S 0 [(0, .ref ((tq_zl X).2.1 o)), (1, .int p1)] [] := by
  refine go_aload_n (pc := 0) C dJ0_charAt_5068e_0 0 rfl rfl ?_
  refine go_cVi (pc := 1) C cw_J0_492 (ok_J0_isLatin1_aae02 ho hf) (tq_recS C ho) rfl rfl rfl (by decide) rfl dJ0_charAt_5068e_1 (fun r1 S2 hf => ?_)
  refine go_if_eq (pc := 4) C dJ0_charAt_5068e_4 16 (by decide) (fun c4 => ?_) (fun c4 => ?_)
  · have hf := hf.1 c4
    refine go_aload_n (pc := 16) C dJ0_charAt_5068e_16 0 rfl rfl ?_
    refine go_strV (pc := 17) C ho ks_J0_9 dJ0_charAt_5068e_17 ?_
    refine go_iload_n (pc := 20) C dJ0_charAt_5068e_20 1 rfl rfl ?_
    refine go_cSi (pc := 21) C cs_J0_498 (ok_J2_charAt_3b067 ho hf) rfl rfl rfl (by decide) rfl dJ0_charAt_5068e_21 (fun r5 S6 hf => ?_)
    exact hR _ _ _ _ dJ0_charAt_5068e_24 hf.1 hf.2
  · have hf := hf.2 c4
    refine go_aload_n (pc := 7) C dJ0_charAt_5068e_7 0 rfl rfl ?_
    refine go_strV (pc := 8) C ho ks_J0_9 dJ0_charAt_5068e_8 ?_
    refine go_iload_n (pc := 11) C dJ0_charAt_5068e_11 1 rfl rfl ?_
    refine go_cSi (pc := 12) C cs_J0_495 (ok_J1_charAt_3b067 ho hf) rfl rfl rfl (by decide) rfl dJ0_charAt_5068e_12 (fun r8 S9 hf => ?_)
    exact hR _ _ _ _ dJ0_charAt_5068e_15 hf.1 hf.2
set_option maxRecDepth 100000 in
set_option maxHeartbeats 4000000 in
theorem ok_J0_charAt_5068e {o : Nat} {p1 : Int32} {S : tq_St} {K : Int32 → tq_St → Prop} (ho : o < 7) (hf : wp_J0_charAt_5068e o p1 S K) : tq_Mi yJ0_charAt_5068e cJ0_charAt_5068e 2 (some .char) 5 (fun a z => [.ref (z.2.1 o), .int p1]) S K :=
  tq_mkN (by decide) (fun _ _ => Nat.le_of_ble_eq_true rfl) (fun X C hR => wk_J0_charAt_5068e C hR ho hf)
