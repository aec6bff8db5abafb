section
set_option maxRecDepth 100000 in
set_option maxHeartbeats 4000000 in
theorem wk_J6_bitCount_0f7a4 {X : tq_Cx} {p0 : Int32} {S : tq_St} {K : Int32 → tq_St → Prop} (C : tq_C X cJ6_bitCount_0f7a4 1 RJ6 1) (hR : tq_Ri X cJ6_bitCount_0f7a4 1 K) (hf : wp_J6_bitCount_0f7a4 p0 S K) : Go X 1 S 0 [(0, .int p0)] [] := by
  refine go_iload_n (pc := 0) C dJ6_bitCount_0f7a4_0 0 rfl rfl ?_
  refine go_iload_n (pc := 1) C dJ6_bitCount_0f7a4_1 0 rfl rfl ?_
  refine go_iconst (pc := 2) (v := 1) C dJ6_bitCount_0f7a4_2 (by decide) ?_
  refine go_iushr (pc := 3) C dJ6_bitCount_0f7a4_3 ?_
  refine go_ldcw (pc := 4) C kc_J6_265 dJ6_bitCount_0f7a4_4 ?_
  refine go_iand (pc := 7) C dJ6_bitCount_0f7a4_7 ?_
  refine go_isub (pc := 8) C dJ6_bitCount_0f7a4_8 ?_
  refine go_nI (fun x1 e2 => ?_)
  have hf := hf x1 e2
  refine go_istore_n (pc := 9) C dJ6_bitCount_0f7a4_9 [(0, .int x1)] rfl (by decide) rfl ?_
  refine go_iload_n (pc := 10) C dJ6_bitCount_0f7a4_10 0 rfl rfl ?_
  refine go_ldcw (pc := 11) C kc_J6_266 dJ6_bitCount_0f7a4_11 ?_
  refine go_iand (pc := 14) C dJ6_bitCount_0f7a4_14 ?_
  refine go_iload_n (pc := 15) C dJ6_bitCount_0f7a4_15 0 rfl rfl ?_
  refine go_iconst (pc := 16) (v := 2) C dJ6_bitCount_0f7a4_16 (by decide) ?_
  refine go_iushr (pc := 17) C dJ6_bitCount_0f7a4_17 ?_
  refine go_ldcw (pc := 18) C kc_J6_266 dJ6_bitCount_0f7a4_18 ?_
  refine go_iand (pc := 21) C dJ6_bitCount_0f7a4_21 ?_
  refine go_iadd (pc := 22) C dJ6_bitCount_0f7a4_22 ?_
  refine go_nI (fun x3 e4 => ?_)
  have hf := hf x3 e4
  refine go_istore_n (pc := 23) C dJ6_bitCount_0f7a4_23 [(0, .int x3)] rfl (by decide) rfl ?_
  refine go_iload_n (pc := 24) C dJ6_bitCount_0f7a4_24 0 rfl rfl ?_
  refine go_iload_n (pc := 25) C dJ6_bitCount_0f7a4_25 0 rfl rfl ?_
  refine go_iconst (pc := 26) (v := 4) C dJ6_bitCount_0f7a4_26 (by decide) ?_
  refine go_iushr (pc := 27) C dJ6_bitCount_0f7a4_27 ?_
  refine go_iadd (pc := 28) C dJ6_bitCount_0f7a4_28 ?_
  refine go_ldcw (pc := 29) C kc_J6_267 dJ6_bitCount_0f7a4_29 ?_
  refine go_iand (pc := 32) C dJ6_bitCount_0f7a4_32 ?_
  refine go_nI (fun x5 e6 => ?_)
  have hf := hf x5 e6
  refine go_istore_n (pc := 33) C dJ6_bitCount_0f7a4_33 [(0, .int x5)] rfl (by decide) rfl ?_
  refine go_iload_n (pc := 34) C dJ6_bitCount_0f7a4_34 0 rfl rfl ?_
  refine go_iload_n (pc := 35) C dJ6_bitCount_0f7a4_35 0 rfl rfl ?_
  refine go_bipush (pc := 36) (v := 8) C dJ6_bitCount_0f7a4_36 (by decide) ?_
  refine go_iushr (pc := 38) C dJ6_bitCount_0f7a4_38 ?_
  refine go_iadd (pc := 39) C dJ6_bitCount_0f7a4_39 ?_
  refine go_nI (fun x7 e8 => ?_)
  have hf := hf x7 e8
  refine go_istore_n (pc := 40) C dJ6_bitCount_0f7a4_40 [(0, .int x7)] rfl (by decide) rfl ?_
  refine go_iload_n (pc := 41) C dJ6_bitCount_0f7a4_41 0 rfl rfl ?_
  refine go_iload_n (pc := 42) C dJ6_bitCount_0f7a4_42 0 rfl rfl ?_
  refine go_bipush (pc := 43) (v := 16) C dJ6_bitCount_0f7a4_43 (by decide) ?_
  refine go_iushr (pc := 45) C dJ6_bitCount_0f7a4_45 ?_
  refine go_iadd (pc := 46) C dJ6_bitCount_0f7a4_46 ?_
  refine go_nI (fun x9 e10 => ?_)
  have hf := hf x9 e10
  refine go_istore_n (pc := 47) C dJ6_bitCount_0f7a4_47 [(0, .int x9)] rfl (by decide) rfl ?_
  refine go_iload_n (pc := 48) C dJ6_bitCount_0f7a4_48 0 rfl rfl ?_
  refine go_bipush (pc := 49) (v := 63) C dJ6_bitCount_0f7a4_49 (by decide) ?_
  refine go_iand (pc := 51) C dJ6_bitCount_0f7a4_51 ?_
  exact hR _ _ _ _ dJ6_bitCount_0f7a4_52 hf
set_option maxRecDepth 100000 in
set_option maxHeartbeats 4000000 in
theorem ok_J6_bitCount_0f7a4 {p0 : Int32} {S : tq_St} {K : Int32 → tq_St → Prop} (hf : wp_J6_bitCount_0f7a4 p0 S K) : tq_Mi yJ6_bitCount_0f7a4 cJ6_bitCount_0f7a4 1 (some .int) 1 (fun a z => [.int p0]) S K :=
  tq_mkI (by decide) (fun _ _ => Nat.le_of_ble_eq_true rfl) (fun X C hR => wk_J6_bitCount_0f7a4 C hR  hf)
set_option maxRecDepth 100000 in
set_option maxHeartbeats 4000000 in
theorem wk_J7_fill_d0a16_6 {X : tq_Cx} {K : tq_St → Prop} (C : tq_C X cJ7_fill_d0a16 5 RJ7 1) (hR : tq_Rv X cJ7_fill_d0a16 5 K) : ∀ (n : Nat) (v1 : Int64) (v3 : Int32) (v4 : Int32) (S : tq_St), wp_J7_fill_d0a16_6 K n v1 v3 v4 S → Go X 5 S 6 [(0, .ref ((tq_la X).1 22 2)), (1, .long v1), (3, .int v3), (4, .int v4)] [] := by
  intro n
  induction n with
  | zero => intros; contradiction
  | succ n ih =>
    intro v1 v3 v4 S hf
    refine go_iload_n (pc := 6) C dJ7_fill_d0a16_6 2 rfl rfl ?_
    refine go_iload (pc := 7) C dJ7_fill_d0a16_7 3 rfl ?_
    refine go_ic_ge (pc := 9) C dJ7_fill_d0a16_9 22 (by decide) (fun c1 => ?_) (fun c1 => ?_)
    · have hf := hf.1 c1
      exact hR _ _ _ dJ7_fill_d0a16_22 hf
    · have hf := hf.2 c1
      refine go_aload_n (pc := 12) C dJ7_fill_d0a16_12 0 rfl rfl ?_
      refine go_iload_n (pc := 13) C dJ7_fill_d0a16_13 2 rfl rfl ?_
      refine go_lload_n (pc := 14) C dJ7_fill_d0a16_14 1 rfl rfl ?_
      refine as_X0_1 (pc := 15) C hf.1 dJ7_fill_d0a16_15 (fun S2 e3 => ?_)
      have hf := hf.2 S2 e3
      obtain ⟨x4, e5⟩ : ∃ q9 : Int32, q9 = v3 + 1 := ⟨_, rfl⟩
      refine go_iinc (pc := 16) (j := 2) (v := x4) C dJ7_fill_d0a16_16 [(3, .int x4), (0, .ref ((tq_la X).1 22 2)), (1, .long v1), (4, .int v4)] rfl (by rw [e5]; rfl) (by decide) rfl ?_
      have hf := hf x4 e5
      refine go_goto (pc := 19) C dJ7_fill_d0a16_19 6 (by decide) ?_
      exact go_sub [1, 2, 0, 3] rfl (ih _ _ _ _ hf)
set_option maxRecDepth 100000 in
set_option maxHeartbeats 4000000 in
theorem wk_J7_fill_d0a16 {X : tq_Cx} {p1 : Int64} {S : tq_St} {K : tq_St → Prop} (C : tq_C X cJ7_fill_d0a16 5 RJ7 1) (hR : tq_Rv X cJ7_fill_d0a16 5 K) (hf : wp_J7_fill_d0a16 p1 S K) : Go X 5 S 0 [(0, .ref ((tq_la X).1 22 2)), (1, .long p1)] [] := by
  refine go_iconst (pc := 0) (v := 0) C dJ7_fill_d0a16_0 (by decide) ?_
  refine go_istore_n (pc := 1) C dJ7_fill_d0a16_1 [(3, .int 0), (0, .ref ((tq_la X).1 22 2)), (1, .long p1)] rfl (by decide) rfl ?_
  refine go_aload_n (pc := 2) C dJ7_fill_d0a16_2 1 rfl rfl ?_
  refine an_X0_1 (pc := 3) C dJ7_fill_d0a16_3 ?_
  refine go_istore (pc := 4) C dJ7_fill_d0a16_4 [(4, .int 5), (3, .int 0), (0, .ref ((tq_la X).1 22 2)), (1, .long p1)] (by decide) rfl ?_
  exact go_sub [2, 3, 1, 0] rfl (wk_J7_fill_d0a16_6 C hR 2000 _ _ _ _ hf)
set_option maxRecDepth 100000 in
set_option maxHeartbeats 4000000 in
theorem ok_J7_fill_d0a16 {p1 : Int64} {S : tq_St} {K : tq_St → Prop} (hf : wp_J7_fill_d0a16 p1 S K) : tq_Mv yJ7_fill_d0a16 cJ7_fill_d0a16 5 none 1 (fun a z => [.ref (a.1 22 2), .long p1]) S K :=
  tq_mkV (by decide) (fun _ _ => Nat.le_of_ble_eq_true rfl) (fun X C hR => wk_J7_fill_d0a16 C hR  hf)
set_option maxRecDepth 100000 in
set_option maxHeartbeats 4000000 in
theorem wk_J7_fill_53178_5 {X : tq_Cx} {p0 : Nat} {K : tq_St → Prop} (C : tq_C X cJ7_fill_53178 4 RJ7 1) (hR : tq_Rv X cJ7_fill_53178 4 K) (hp0 : 23 ≤ p0 ∧ p0 < 27) : ∀ (n : Nat) (v1 : Int32) (v2 : Int32) (v3 : Int32) (S : tq_St), wp_J7_fill_53178_5 p0 K n v1 v2 v3 S → Go X 4 S 5 [(0, .ref ((tq_la X).1 p0 1)), (1, .int v1), (2, .int v2), (3, .int v3)] [] := by
  intro n
  induction n with
  | zero => intros; contradiction
  | succ n ih =>
    intro v1 v2 v3 S hf
    refine go_iload_n (pc := 5) C dJ7_fill_53178_5 2 rfl rfl ?_
    refine go_iload_n (pc := 6) C dJ7_fill_53178_6 3 rfl rfl ?_
    refine go_ic_ge (pc := 7) C dJ7_fill_53178_7 20 (by decide) (fun c1 => ?_) (fun c1 => ?_)
    · have hf := hf.1 c1
      exact hR _ _ _ dJ7_fill_53178_20 hf
    · have hf := hf.2 c1
      refine go_aload_n (pc := 10) C dJ7_fill_53178_10 0 rfl rfl ?_
      refine go_iload_n (pc := 11) C dJ7_fill_53178_11 2 rfl rfl ?_
      refine go_iload_n (pc := 12) C dJ7_fill_53178_12 1 rfl rfl ?_
      refine as_X3_0 (pc := 13) C hp0 hf.1 dJ7_fill_53178_13 (fun S2 e3 => ?_)
      have hf := hf.2 S2 e3
      obtain ⟨x4, e5⟩ : ∃ q9 : Int32, q9 = v2 + 1 := ⟨_, rfl⟩
      refine go_iinc (pc := 14) (j := 2) (v := x4) C dJ7_fill_53178_14 [(2, .int x4), (0, .ref ((tq_la X).1 p0 1)), (1, .int v1), (3, .int v3)] rfl (by rw [e5]; rfl) (by decide) rfl ?_
      have hf := hf x4 e5
      refine go_goto (pc := 17) C dJ7_fill_53178_17 5 (by decide) ?_
      exact go_sub [1, 2, 0, 3] rfl (ih _ _ _ _ hf)
set_option maxRecDepth 100000 in
set_option maxHeartbeats 4000000 in
theorem wk_J7_fill_53178 {X : tq_Cx} {p0 : Nat} {p1 : Int32} {S : tq_St} {K : tq_St → Prop} (C : tq_C X cJ7_fill_53178 4 RJ7 1) (hR : tq_Rv X cJ7_fill_53178 4 K) (hp0 : 23 ≤ p0 ∧ p0 < 27) (hf : wp_J7_fill_53178 p0 p1 S K) : Go X 4 S 0 [(0, .ref ((tq_la X).1 p0 1)), (1, .int p1)] [] := by
  refine go_iconst (pc := 0) (v := 0) C dJ7_fill_53178_0 (by decide) ?_
  refine go_istore_n (pc := 1) C dJ7_fill_53178_1 [(2, .int 0), (0, .ref ((tq_la X).1 p0 1)), (1, .int p1)] rfl (by decide) rfl ?_
  refine go_aload_n (pc := 2) C dJ7_fill_53178_2 1 rfl rfl ?_
  refine an_X3_0 (pc := 3) C hp0 dJ7_fill_53178_3 ?_
  refine go_istore_n (pc := 4) C dJ7_fill_53178_4 [(3, .int 40), (2, .int 0), (0, .ref ((tq_la X).1 p0 1)), (1, .int p1)] rfl (by decide) rfl ?_
  exact go_sub [2, 3, 1, 0] rfl (wk_J7_fill_53178_5 C hR hp0 2000 _ _ _ _ hf)
set_option maxRecDepth 100000 in
set_option maxHeartbeats 4000000 in
theorem ok_J7_fill_53178 {p0 : Nat} {p1 : Int32} {S : tq_St} {K : tq_St → Prop} (hp0 : 23 ≤ p0 ∧ p0 < 27) (hf : wp_J7_fill_53178 p0 p1 S K) : tq_Mv yJ7_fill_53178 cJ7_fill_53178 4 none 1 (fun a z => [.ref (a.1 p0 1), .int p1]) S K :=
  tq_mkV (by decide) (fun _ _ => Nat.le_of_ble_eq_true rfl) (fun X C hR => wk_J7_fill_53178 C hR hp0 hf)
set_option maxRecDepth 100000 in
set_option maxHeartbeats 4000000 in
theorem wk_J0_coder_7d493 {X : tq_Cx} {o : Nat} {S : tq_St} {K : Int32 → tq_St → Prop} (C : tq_C X cJ0_coder_7d493 1 RJ0 1) (hR : tq_Rn .byte X cJ0_coder_7d493 1 K) (ho : o < 7) (hf : wp_J0_coder_7d493 o S K) : Go X 1 S 0 [(0, .ref ((tq_zl X).2.1 o))] [] := by
  refine go_strK (pc := 0) C ks_J0_38 dJ0_coder_7d493_0 ?_
  refine go_if_eq (pc := 3) C dJ0_coder_7d493_3 13 (by decide) (fun c1 => ?_) (fun c1 => ?_)
  · have hf := hf.1 c1
    refine go_iconst (pc := 13) (v := 1) C dJ0_coder_7d493_13 (by decide) ?_
    exact hR _ _ _ _ dJ0_coder_7d493_14 hf.1 hf.2
  · have hf := hf.2 c1
    refine go_aload_n (pc := 6) C dJ0_coder_7d493_6 0 rfl rfl ?_
    refine go_strC (pc := 7) C ho ks_J0_15 dJ0_coder_7d493_7 ?_
    refine go_goto (pc := 10) C dJ0_coder_7d493_10 14 (by decide) ?_
    exact hR _ _ _ _ dJ0_coder_7d493_14 hf.1 hf.2
set_option maxRecDepth 100000 in
set_option maxHeartbeats 4000000 in
theorem ok_J0_coder_7d493 {o : Nat} {S : tq_St} {K : Int32 → tq_St → Prop} (ho : o < 7) (hf : wp_J0_coder_7d493 o S K) : tq_Mi yJ0_coder_7d493 cJ0_coder_7d493 1 (some .byte) 1 (fun a z => [.ref (z.2.1 o)]) S K :=
  tq_mkN (by decide) (fun _ _ => Nat.le_of_ble_eq_true rfl) (fun X C hR => wk_J0_coder_7d493 C hR ho hf)
set_option maxRecDepth 100000 in
set_option maxHeartbeats 4000000 in
theorem wk_J0_length_8abf5 {X : tq_Cx} {o : Nat} {S : tq_St} {K : Int32 → tq_St → Prop} (C : tq_C X cJ0_length_8abf5 1 RJ0 2) (hR : tq_Ri X cJ0_length_8abf5 1 K) (ho : o < 7) (hf : wp_J0_length_8abf5 o S K) : Go X 1 S 0 [(0, .ref ((tq_zl X).2.1 o))] [] := by
  refine go_aload_n (pc := 0) C dJ0_length_8abf5_0 0 rfl rfl ?_
  refine go_strV (pc := 1) C ho ks_J0_9 dJ0_length_8abf5_1 ?_
  refine go_strN (pc := 4) C ho dJ0_length_8abf5_4 ?_
  refine go_aload_n (pc := 5) C dJ0_length_8abf5_5 0 rfl rfl ?_
  refine go_cVi (pc := 6) C cw_J0_335 (ok_J0_coder_7d493 ho hf) (tq_recS C ho) rfl rfl rfl (by decide) rfl dJ0_length_8abf5_6 (fun r1 S2 hf => ?_)
  refine go_ishr (pc := 9) C dJ0_length_8abf5_9 ?_
  exact hR _ _ _ _ dJ0_length_8abf5_10 hf
set_option maxRecDepth 100000 in
set_option maxHeartbeats 4000000 in
theorem ok_J0_length_8abf5 {o : Nat} {S : tq_St} {K : Int32 → tq_St → Prop} (ho : o < 7) (hf : wp_J0_length_8abf5 o S K) : tq_Mi yJ0_length_8abf5 cJ0_length_8abf5 1 (some .int) 2 (fun a z => [.ref (z.2.1 o)]) S K :=
  tq_mkI (by decide) (fun _ _ => Nat.le_of_ble_eq_true rfl) (fun X C hR => wk_J0_length_8abf5 C hR ho hf)
set_option maxRecDepth 100000 in
set_option maxHeartbeats 4000000 in
theorem wk_J0_isLatin1_aae02 {X : tq_Cx} {o : Nat} {S : tq_St} {K : Int32 → tq_St → Prop} (C : tq_C X cJ0_isLatin1_aae02 1 RJ0 1) (hR : tq_Rz X cJ0_isLatin1_aae02 1 K) (ho : o < 7) (hf : wp_J0_isLatin1_aae02 o S K) : Go X 1 S 0 [(0, .ref ((tq_zl X).2.1 o))] [] := by
  refine go_strK (pc := 0) C ks_J0_38 dJ0_isLatin1_aae02_0 ?_
  refine go_if_eq (pc := 3) C dJ0_isLatin1_aae02_3 17 (by decide) (fun c1 => ?_) (fun c1 => ?_)
  · have hf := hf.1 c1
    refine go_iconst (pc := 17) (v := 0) C dJ0_isLatin1_aae02_17 (by decide) ?_
    exact hR _ _ _ _ dJ0_isLatin1_aae02_18 (Or.inl rfl) hf
  · have hf := hf.2 c1
    refine go_aload_n (pc := 6) C dJ0_isLatin1_aae02_6 0 rfl rfl ?_
    refine go_strC (pc := 7) C ho ks_J0_15 dJ0_isLatin1_aae02_7 ?_
    refine go_if_ne (pc := 10) C dJ0_isLatin1_aae02_10 17 (by decide) (fun c2 => ?_) (fun c2 => ?_)
    · have hf := hf.1 c2
      refine go_iconst (pc := 17) (v := 0) C dJ0_isLatin1_aae02_17 (by decide) ?_
      exact hR _ _ _ _ dJ0_isLatin1_aae02_18 (Or.inl rfl) hf
    · have hf := hf.2 c2
      refine go_iconst (pc := 13) (v := 1) C dJ0_isLatin1_aae02_13 (by decide) ?_
      refine go_goto (pc := 14) C dJ0_isLatin1_aae02_14 18 (by decide) ?_
      exact hR _ _ _ _ dJ0_isLatin1_aae02_18 (Or.inr rfl) hf
set_option maxRecDepth 100000 in
set_option maxHeartbeats 4000000 in
theorem ok_J0_isLatin1_aae02 {o : Nat} {S : tq_St} {K : Int32 → tq_St → Prop} (ho : o < 7) (hf : wp_J0_isLatin1_aae02 o S K) : tq_Mi yJ0_isLatin1_aae02 cJ0_isLatin1_aae02 1 (some .boolean) 1 (fun a z => [.ref (z.2.1 o)]) S K :=
  tq_mkZ (by decide) (fun _ _ => Nat.le_of_ble_eq_true rfl) (fun X C hR => wk_J0_isLatin1_aae02 C hR ho hf)
set_option maxRecDepth 100000 in
set_option maxHeartbeats 4000000 in
theorem wk_J3_checkIndex_8e157_9 {X : tq_Cx} {K : Int32 → tq_St → Prop} (C : tq_C X cJ3_checkIndex_8e157 3 RJ3 1) (hR : tq_Ri X cJ3_checkIndex_8e157 3 K) : ∀ (v0 : Int32) (v1 : Int32) (S : tq_St), wp_J3_checkIndex_8e157_9 K v0 v1 S → Go X 3 S 9 [(0, .int v0), (1, .int v1), (2, va_rf (tq_zl X).2.2.2)] [] := by
  intro v0 v1 S hf
  exact hf.elim
set_option maxRecDepth 100000 in
set_option maxHeartbeats 4000000 in
theorem wk_J3_checkIndex_8e157 {X : tq_Cx} {p0 : Int32} {p1 : Int32} {S : tq_St} {K : Int32 → tq_St → Prop} (C : tq_C X cJ3_checkIndex_8e157 3 RJ3 1) (hR : tq_Ri X cJ3_checkIndex_8e157 3 K) (hf : wp_J3_checkIndex_8e157 p0 p1 S K) : Go X 3 S 0 [(0, .int p0), (1, .int p1), (2, va_rf (tq_zl X).2.2.2)] [] := by
  refine go_iload_n (pc := 0) C dJ3_checkIndex_8e157_0 0 rfl rfl ?_
  refine go_if_lt (pc := 1) C dJ3_checkIndex_8e157_1 9 (by decide) (fun c1 => ?_) (fun c1 => ?_)
  · have hf := hf.1 c1
    exact go_sub [0, 1, 2] rfl (wk_J3_checkIndex_8e157_9 C hR _ _ _ hf)
  · have hf := hf.2 c1
    refine go_iload_n (pc := 4) C dJ3_checkIndex_8e157_4 0 rfl rfl ?_
    refine go_iload_n (pc := 5) C dJ3_checkIndex_8e157_5 1 rfl rfl ?_
    refine go_ic_lt (pc := 6) C dJ3_checkIndex_8e157_6 16 (by decide) (fun c2 => ?_) (fun c2 => ?_)
    · have hf := hf.1 c2
      refine go_iload_n (pc := 16) C dJ3_checkIndex_8e157_16 0 rfl rfl ?_
      exact hR _ _ _ _ dJ3_checkIndex_8e157_17 hf
    · have hf := hf.2 c2
      exact go_sub [0, 1, 2] rfl (wk_J3_checkIndex_8e157_9 C hR _ _ _ hf)
set_option maxRecDepth 100000 in
set_option maxHeartbeats 4000000 in
theorem ok_J3_checkIndex_8e157 {p0 : Int32} {p1 : Int32} {S : tq_St} {K : Int32 → tq_St → Prop} (hf : wp_J3_checkIndex_8e157 p0 p1 S K) : tq_Mi yJ3_checkIndex_8e157 cJ3_checkIndex_8e157 3 (some .int) 1 (fun a z => [.int p0, .int p1, va_rf z.2.2.2]) S K :=
  tq_mkI (by decide) (fun _ z => by rcases z with ⟨_, _, _, _ | _⟩ <;> exact Nat.le_of_ble_eq_true rfl) (fun X C hR => wk_J3_checkIndex_8e157 C hR  hf)
set_option maxRecDepth 100000 in
set_option maxHeartbeats 4000000 in
theorem wk_J0_checkIndex_df160 {X : tq_Cx} {p0 : Int32} {p1 : Int32} {S : tq_St} {K : tq_St → Prop} (C : tq_C X cJ0_checkIndex_df160 2 RJ0 2) (hR : tq_Rv X cJ0_checkIndex_df160 2 K) (hf : wp_J0_checkIndex_df160 p0 p1 S K) : Go X 2 S 0 [(0, .int p0), (1, .int p1)] [] := by
  refine go_iload_n (pc := 0) C dJ0_checkIndex_df160_0 0 rfl rfl ?_
  refine go_iload_n (pc := 1) C dJ0_checkIndex_df160_1 1 rfl rfl ?_
  refine go_fmt (pc := 2) C kf_J0_1053 dJ0_checkIndex_df160_2 ?_
  refine go_cSi (pc := 5) C cs_J0_1059 (ok_J3_checkIndex_8e157 hf) rfl rfl rfl (by decide) rfl dJ0_checkIndex_df160_5 (fun r1 S2 hf => ?_)
  refine go_pop (pc := 8) C dJ0_checkIndex_df160_8 rfl ?_
  exact hR _ _ _ dJ0_checkIndex_df160_9 hf
set_option maxRecDepth 100000 in
set_option maxHeartbeats 4000000 in
theorem ok_J0_checkIndex_df160 {p0 : Int32} {p1 : Int32} {S : tq_St} {K : tq_St → Prop} (hf : wp_J0_checkIndex_df160 p0 p1 S K) : tq_Mv yJ0_checkIndex_df160 cJ0_checkIndex_df160 2 none 2 (fun a z => [.int p0, .int p1]) S K :=
  tq_mkV (by decide) (fun _ _ => Nat.le_of_ble_eq_true rfl) (fun X C hR => wk_J0_checkIndex_df160 C hR  hf)
set_option maxRecDepth 100000 in
set_option maxHeartbeats 4000000 in
theorem wk_J1_charAt_3b067 {X : tq_Cx} {p0 : Nat} {p1 : Int32} {S : tq_St} {K : Int32 → tq_St → Prop} (C : tq_C X cJ1_charAt_3b067 2 RJ1 3) (hR : tq_Rn .char X cJ1_charAt_3b067 2 K) (hp0 : p0 < 7) (hf : wp_J1_charAt_3b067 p0 p1 S K) : Go X 2 S 0 [(0, .ref ((tq_zl X).2.2.1 p0)), (1, .int p1)] [] := by
  refine go_iload_n (pc := 0) C dJ1_charAt_3b067_0 1 rfl rfl ?_
  refine go_aload_n (pc := 1) C dJ1_charAt_3b067_1 0 rfl rfl ?_
  refine go_strN (pc := 2) C hp0 dJ1_charAt_3b067_2 ?_
  refine go_cSv (pc := 3) C cs_J1_9 (ok_J0_checkIndex_df160 hf) rfl rfl rfl (by decide) rfl dJ1_charAt_3b067_3 (fun S2 hf => ?_)
  refine go_aload_n (pc := 6) C dJ1_charAt_3b067_6 0 rfl rfl ?_
  refine go_iload_n (pc := 7) C dJ1_charAt_3b067_7 1 rfl rfl ?_
  refine go_strB (pc := 8) C hp0 hf.1 dJ1_charAt_3b067_8 ?_
  have hf := hf.2
  refine go_sipush (pc := 9) (v := 255) C dJ1_charAt_3b067_9 (by decide) ?_
  refine go_iand (pc := 12) C dJ1_charAt_3b067_12 ?_
  refine go_i2c (pc := 13) C dJ1_charAt_3b067_13 ?_
  exact hR _ _ _ _ dJ1_charAt_3b067_14 hf.1 hf.2
set_option maxRecDepth 100000 in
set_option maxHeartbeats 4000000 in
theorem ok_J1_charAt_3b067 {p0 : Nat} {p1 : Int32} {S : tq_St} {K : Int32 → tq_St → Prop} (hp0 : p0 < 7) (hf : wp_J1_charAt_3b067 p0 p1 S K) : tq_Mi yJ1_charAt_3b067 cJ1_charAt_3b067 2 (some .char) 3 (fun a z => [.ref (z.2.2.1 p0), .int p1]) S K :=
  tq_mkN (by decide) (fun _ _ => Nat.le_of_ble_eq_true rfl) (fun X C hR => wk_J1_charAt_3b067 C hR hp0 hf)
set_option maxRecDepth 100000 in
set_option maxHeartbeats 4000000 in
theorem wk_J2_length_9d52b {X : tq_Cx} {p0 : Nat} {S : tq_St} {K : Int32 → tq_St → Prop} (C : tq_C X cJ2_length_9d52b 1 RJ2 1) (hR : tq_Ri X cJ2_length_9d52b 1 K) (hp0 : p0 < 7) (hf : wp_J2_length_9d52b p0 S K) : Go X 1 S 0 [(0, .ref ((tq_zl X).2.2.1 p0))] [] := by
  refine go_aload_n (pc := 0) C dJ2_length_9d52b_0 0 rfl rfl ?_
  refine go_strN (pc := 1) C hp0 dJ2_length_9d52b_1 ?_
  refine go_iconst (pc := 2) (v := 1) C dJ2_length_9d52b_2 (by decide) ?_
  refine go_ishr (pc := 3) C dJ2_length_9d52b_3 ?_
  exact hR _ _ _ _ dJ2_length_9d52b_4 hf
set_option maxRecDepth 100000 in
set_option maxHeartbeats 4000000 in
theorem ok_J2_length_9d52b {p0 : Nat} {S : tq_St} {K : Int32 → tq_St → Prop} (hp0 : p0 < 7) (hf : wp_J2_length_9d52b p0 S K) : tq_Mi yJ2_length_9d52b cJ2_length_9d52b 1 (some .int) 1 (fun a z => [.ref (z.2.2.1 p0)]) S K :=
  tq_mkI (by decide) (fun _ _ => Nat.le_of_ble_eq_true rfl) (fun X C hR => wk_J2_length_9d52b C hR hp0 hf)
set_option maxRecDepth 100000 in
set_option maxHeartbeats 4000000 in
theorem wk_J2_checkIndex_2214a {X : tq_Cx} {p0 : Int32} {p1 : Nat} {S : tq_St} {K : tq_St → Prop} (C : tq_C X cJ2_checkIndex_2214a 2 RJ2 3) (hR : tq_Rv X cJ2_checkIndex_2214a 2 K) (hp1 : p1 < 7) (hf : wp_J2_checkIndex_2214a p0 p1 S K) : Go X 2 S 0 [(0, .int p0), (1, .ref ((tq_zl X).2.2.1 p1))] [] := by
  refine go_iload_n (pc := 0) C dJ2_checkIndex_2214a_0 0 rfl rfl ?_
  refine go_aload_n (pc := 1) C dJ2_checkIndex_2214a_1 1 rfl rfl ?_
  refine go_cSi (pc := 2) C cs_J2_48 (ok_J2_length_9d52b hp1 hf) rfl rfl rfl (by decide) rfl dJ2_checkIndex_2214a_2 (fun r1 S2 hf => ?_)
  refine go_cSv (pc := 5) C cs_J2_414 (ok_J0_checkIndex_df160 hf) rfl rfl rfl (by decide) rfl dJ2_checkIndex_2214a_5 (fun S5 hf => ?_)
  exact hR _ _ _ dJ2_checkIndex_2214a_8 hf
set_option maxRecDepth 100000 in
set_option maxHeartbeats 4000000 in
theorem ok_J2_checkIndex_2214a {p0 : Int32} {p1 : Nat} {S : tq_St} {K : tq_St → Prop} (hp1 : p1 < 7) (hf : wp_J2_checkIndex_2214a p0 p1 S K) : tq_Mv yJ2_checkIndex_2214a cJ2_checkIndex_2214a 2 none 3 (fun a z => [.int p0, .ref (z.2.2.1 p1)]) S K :=
  tq_mkV (by decide) (fun _ _ => Nat.le_of_ble_eq_true rfl) (fun X C hR => wk_J2_checkIndex_2214a C hR hp1 hf)
set_option maxRecDepth 100000 in
set_option maxHeartbeats 4000000 in
theorem wk_J2_getChar_3b067 {X : tq_Cx} {p0 : Nat} {p1 : Int32} {S : tq_St} {K : Int32 → tq_St → Prop} (C : tq_C X cJ2_getChar_3b067 2 RJ2 2) (hR : tq_Rn .char X cJ2_getChar_3b067 2 K) (hp0 : p0 < 7) (hf : wp_J2_getChar_3b067 p0 p1 S K) : Go X 2 S 0 [(0, .ref ((tq_zl X).2.2.1 p0)), (1, .int p1)] [] := by
  exact hf.elim
set_option maxRecDepth 100000 in
set_option maxHeartbeats 4000000 in
theorem ok_J2_getChar_3b067 {p0 : Nat} {p1 : Int32} {S : tq_St} {K : Int32 → tq_St → Prop} (hp0 : p0 < 7) (hf : wp_J2_getChar_3b067 p0 p1 S K) : tq_Mi yJ2_getChar_3b067 cJ2_getChar_3b067 2 (some .char) 2 (fun a z => [.ref (z.2.2.1 p0), .int p1]) S K :=
  tq_mkN (by decide) (fun _ _ => Nat.le_of_ble_eq_true rfl) (fun X C hR => wk_J2_getChar_3b067 C hR hp0 hf)
set_option maxRecDepth 100000 in
set_option maxHeartbeats 4000000 in
theorem wk_J2_charAt_3b067 {X : tq_Cx} {p0 : Nat} {p1 : Int32} {S : tq_St} {K : Int32 → tq_St → Prop} (C : tq_C X cJ2_charAt_3b067 2 RJ2 4) (hR : tq_Rn .char X cJ2_charAt_3b067 2 K) (hp0 : p0 < 7) (hf : wp_J2_charAt_3b067 p0 p1 S K) : Go X 2 S 0 [(0, .ref ((tq_zl X).2.2.1 p0)), (1, .int p1)] [] := by
  refine go_iload_n (pc := 0) C dJ2_charAt_3b067_0 1 rfl rfl ?_
  refine go_aload_n (pc := 1) C dJ2_charAt_3b067_1 0 rfl rfl ?_
  refine go_cSv (pc := 2) C cs_J2_67 (ok_J2_checkIndex_2214a hp0 hf) rfl rfl rfl (by decide) rfl dJ2_charAt_3b067_2 (fun S2 hf => ?_)
  refine go_aload_n (pc := 5) C dJ2_charAt_3b067_5 0 rfl rfl ?_
  refine go_iload_n (pc := 6) C dJ2_charAt_3b067_6 1 rfl rfl ?_
  refine go_cSi (pc := 7) C cs_J2_71 (ok_J2_getChar_3b067 hp0 hf) rfl rfl rfl (by decide) rfl dJ2_charAt_3b067_7 (fun r4 S5 hf => ?_)
  exact hR _ _ _ _ dJ2_charAt_3b067_10 hf.1 hf.2
set_option maxRecDepth 100000 in
set_option maxHeartbeats 4000000 in
theorem ok_J2_charAt_3b067 {p0 : Nat} {p1 : Int32} {S : tq_St} {K : Int32 → tq_St → Prop} (hp0 : p0 < 7) (hf : wp_J2_charAt_3b067 p0 p1 S K) : tq_Mi yJ2_charAt_3b067 cJ2_charAt_3b067 2 (some .char) 4 (fun a z => [.ref (z.2.2.1 p0), .int p1]) S K :=
  tq_mkN (by decide) (fun _ _ => Nat.le_of_ble_eq_true rfl) (fun X C hR => wk_J2_charAt_3b067 C hR hp0 hf)
set_option maxRecDepth 100000 in
set_option maxHeartbeats 4000000 in
theorem wk_J0_charAt_5068e {X : tq_Cx} {o : Nat} {p1 : Int32} {S : tq_St} {K : Int32 → tq_St → Prop} (C : tq_C X cJ0_charAt_5068e 2 RJ0 5) (hR : tq_Rn .char X cJ0_charAt_5068e 2 K) (ho : o < 7) (hf : wp_J0_charAt_5068e o p1 S K) : Go X 2 S 0 [(0, .ref ((tq_zl X).2.1 o)), (1, .int p1)] [] := by
  refine go_aload_n (pc := 0) C dJ0_charAt_5068e_0 0 rfl rfl ?_
  refine go_cVi (pc := 1) C cw_J0_492 (ok_J0_isLatin1_aae02 ho hf) (tq_recS C ho) rfl rfl rfl (by decide) rfl dJ0_charAt_5068e_1 (fun r1 S2 hf => ?_)
  refine go_if_eq (pc := 4) C dJ0_charAt_5068e_4 16 (by decide) (fun c4 => ?_) (fun c4 => ?_)
  · have hf := hf.1 c4
    refine go_aload_n (pc := 16) C dJ0_charAt_5068e_16 0 rfl rfl ?_
    refine go_strV (pc := 17) C ho ks_J0_9 dJ0_charAt_5068e_17 ?_
    refine go_iload_n (pc := 20) C dJ0_charAt_5068e_20 1 rfl rfl ?_
    refine go_cSi (pc := 21) C cs_J0_498 (ok_J2_charAt_3b067 ho hf) rfl rfl rfl (by decide) rfl dJ0_charAt_5068e_21 (fun r5 S6 hf => ?_)
    exact hR _ _ _ _ dJ0_charAt_5068e_24 hf.1 hf.2
  · have hf := hf.2 c4
    refine go_aload_n (pc := 7) C dJ0_charAt_5068e_7 0 rfl rfl ?_
    refine go_strV (pc := 8) C ho ks_J0_9 dJ0_charAt_5068e_8 ?_
    refine go_iload_n (pc := 11) C dJ0_charAt_5068e_11 1 rfl rfl ?_
    refine go_cSi (pc := 12) C cs_J0_495 (ok_J1_charAt_3b067 ho hf) rfl rfl rfl (by decide) rfl dJ0_charAt_5068e_12 (fun r8 S9 hf => ?_)
    exact hR _ _ _ _ dJ0_charAt_5068e_15 hf.1 hf.2
set_option maxRecDepth 100000 in
set_option maxHeartbeats 4000000 in
theorem ok_J0_charAt_5068e {o : Nat} {p1 : Int32} {S : tq_St} {K : Int32 → tq_St → Prop} (ho : o < 7) (hf : wp_J0_charAt_5068e o p1 S K) : tq_Mi yJ0_charAt_5068e cJ0_charAt_5068e 2 (some .char) 5 (fun a z => [.ref (z.2.1 o), .int p1]) S K :=
  tq_mkN (by decide) (fun _ _ => Nat.le_of_ble_eq_true rfl) (fun X C hR => wk_J0_charAt_5068e C hR ho hf)
end
section
set_option maxRecDepth 100000 in
set_option maxHeartbeats 4000000 in
theorem wk_X1_isThere {X : tq_Cx} {o : Nat} {p1 : Int32} {S : tq_St} {K : Int32 → tq_St → Prop} (C : tq_C X cX1_isThere 2 RX1 1) (hR : tq_Rz X cX1_isThere 2 K) (ho : o < 19) (hf : wp_X1_isThere o p1 S K) : Go X 2 S 0 [(0, .ref ((tq_la X).1 o 0)), (1, .int p1)] [] := by
  refine go_iload_n (pc := 0) C dX1_isThere_0 1 rfl rfl ?_
  refine go_if_lt (pc := 1) C dX1_isThere_1 16 (by decide) (fun c1 => ?_) (fun c1 => ?_)
  · have hf := hf.1 c1
    refine go_iconst (pc := 16) (v := 0) C dX1_isThere_16 (by decide) ?_
    exact hR _ _ _ _ dX1_isThere_17 (Or.inl rfl) hf
  · have hf := hf.2 c1
    refine go_iload_n (pc := 4) C dX1_isThere_4 1 rfl rfl ?_
    refine go_aload_n (pc := 5) C dX1_isThere_5 0 rfl rfl ?_
    refine ge_X1_X1_5 (pc := 6) C ho dX1_isThere_6 ?_
    refine go_ic_ge (pc := 9) C dX1_isThere_9 16 (by decide) (fun c2 => ?_) (fun c2 => ?_)
    · have hf := hf.1 c2
      refine go_iconst (pc := 16) (v := 0) C dX1_isThere_16 (by decide) ?_
      exact hR _ _ _ _ dX1_isThere_17 (Or.inl rfl) hf
    · have hf := hf.2 c2
      refine go_iconst (pc := 12) (v := 1) C dX1_isThere_12 (by decide) ?_
      refine go_goto (pc := 13) C dX1_isThere_13 17 (by decide) ?_
      exact hR _ _ _ _ dX1_isThere_17 (Or.inr rfl) hf
set_option maxRecDepth 100000 in
set_option maxHeartbeats 4000000 in
theorem ok_X1_isThere {o : Nat} {p1 : Int32} {S : tq_St} {K : Int32 → tq_St → Prop} (ho : o < 19) (hf : wp_X1_isThere o p1 S K) : tq_Mi yX1_isThere cX1_isThere 2 (some .boolean) 1 (fun a z => [.ref (a.1 o 0), .int p1]) S K :=
  tq_mkZ (by decide) (fun _ _ => Nat.le_of_ble_eq_true rfl) (fun X C hR => wk_X1_isThere C hR ho hf)
set_option maxRecDepth 100000 in
set_option maxHeartbeats 4000000 in
theorem wk_X1_copyFrom {X : tq_Cx} {o : Nat} {p1 : Nat} {S : tq_St} {K : tq_St → Prop} (C : tq_C X cX1_copyFrom 2 RX1 1) (hR : tq_Rv X cX1_copyFrom 2 K) (ho : o < 19) (hp1 : p1 < 19) (hf : wp_X1_copyFrom o p1 S K) : Go X 2 S 0 [(0, .ref ((tq_la X).1 o 0)), (1, .ref ((tq_la X).1 p1 0))] [] := by
  refine go_aload_n (pc := 0) C dX1_copyFrom_0 1 rfl rfl ?_
  refine ge_X1_X1_0 (pc := 1) C hp1 dX1_copyFrom_1 ?_
  refine go_iconst (pc := 4) (v := 0) C dX1_copyFrom_4 (by decide) ?_
  refine go_aload_n (pc := 5) C dX1_copyFrom_5 0 rfl rfl ?_
  refine ge_X1_X1_0 (pc := 6) C ho dX1_copyFrom_6 ?_
  refine go_iconst (pc := 9) (v := 0) C dX1_copyFrom_9 (by decide) ?_
  refine go_iconst (pc := 10) (v := 5) C dX1_copyFrom_10 (by decide) ?_
  refine cp_X1_0_X1_0 (pc := 11) C (by decide) hp1 ho ky_X1_58 hf.1 hf.2.1 hf.2.2.1 dX1_copyFrom_11 (fun S1 e2 => ?_)
  have hf := hf.2.2.2 S1 e2
  refine go_aload_n (pc := 14) C dX1_copyFrom_14 1 rfl rfl ?_
  refine ge_X1_X1_1 (pc := 15) C hp1 dX1_copyFrom_15 ?_
  refine go_iconst (pc := 18) (v := 0) C dX1_copyFrom_18 (by decide) ?_
  refine go_aload_n (pc := 19) C dX1_copyFrom_19 0 rfl rfl ?_
  refine ge_X1_X1_1 (pc := 20) C ho dX1_copyFrom_20 ?_
  refine go_iconst (pc := 23) (v := 0) C dX1_copyFrom_23 (by decide) ?_
  refine go_iconst (pc := 24) (v := 5) C dX1_copyFrom_24 (by decide) ?_
  refine cp_X1_1_X1_1 (pc := 25) C (by decide) hp1 ho ky_X1_58 hf.1 hf.2.1 hf.2.2.1 dX1_copyFrom_25 (fun S3 e4 => ?_)
  have hf := hf.2.2.2 S3 e4
  refine go_aload_n (pc := 28) C dX1_copyFrom_28 1 rfl rfl ?_
  refine ge_X1_X1_2 (pc := 29) C hp1 dX1_copyFrom_29 ?_
  refine go_iconst (pc := 32) (v := 0) C dX1_copyFrom_32 (by decide) ?_
  refine go_aload_n (pc := 33) C dX1_copyFrom_33 0 rfl rfl ?_
  refine ge_X1_X1_2 (pc := 34) C ho dX1_copyFrom_34 ?_
  refine go_iconst (pc := 37) (v := 0) C dX1_copyFrom_37 (by decide) ?_
  refine go_iconst (pc := 38) (v := 5) C dX1_copyFrom_38 (by decide) ?_
  refine cp_X1_2_X1_2 (pc := 39) C (by decide) hp1 ho ky_X1_58 hf.1 hf.2.1 hf.2.2.1 dX1_copyFrom_39 (fun S5 e6 => ?_)
  have hf := hf.2.2.2 S5 e6
  refine go_aload_n (pc := 42) C dX1_copyFrom_42 1 rfl rfl ?_
  refine ge_X1_X1_3 (pc := 43) C hp1 dX1_copyFrom_43 ?_
  refine go_iconst (pc := 46) (v := 0) C dX1_copyFrom_46 (by decide) ?_
  refine go_aload_n (pc := 47) C dX1_copyFrom_47 0 rfl rfl ?_
  refine ge_X1_X1_3 (pc := 48) C ho dX1_copyFrom_48 ?_
  refine go_iconst (pc := 51) (v := 0) C dX1_copyFrom_51 (by decide) ?_
  refine go_bipush (pc := 52) (v := 8) C dX1_copyFrom_52 (by decide) ?_
  refine cp_X1_3_X1_3 (pc := 54) C (by decide) hp1 ho ky_X1_58 hf.1 hf.2.1 hf.2.2.1 dX1_copyFrom_54 (fun S7 e8 => ?_)
  have hf := hf.2.2.2 S7 e8
  refine go_aload_n (pc := 57) C dX1_copyFrom_57 0 rfl rfl ?_
  refine go_aload_n (pc := 58) C dX1_copyFrom_58 1 rfl rfl ?_
  refine ge_X1_X1_5 (pc := 59) C hp1 dX1_copyFrom_59 ?_
  refine pu_X1_X1_5 (pc := 62) C ho dX1_copyFrom_62 (fun S9 e10 => ?_)
  have hf := hf S9 e10
  refine go_aload_n (pc := 65) C dX1_copyFrom_65 0 rfl rfl ?_
  refine go_aload_n (pc := 66) C dX1_copyFrom_66 1 rfl rfl ?_
  refine ge_X1_X1_6 (pc := 67) C hp1 dX1_copyFrom_67 ?_
  refine pu_X1_X1_6 (pc := 70) C ho dX1_copyFrom_70 (fun S11 e12 => ?_)
  have hf := hf S11 e12
  refine go_aload_n (pc := 73) C dX1_copyFrom_73 0 rfl rfl ?_
  refine go_aload_n (pc := 74) C dX1_copyFrom_74 1 rfl rfl ?_
  refine ge_X1_X1_7 (pc := 75) C hp1 dX1_copyFrom_75 ?_
  refine pu_X1_X1_7 (pc := 78) C ho dX1_copyFrom_78 (fun S13 e14 => ?_)
  have hf := hf S13 e14
  refine go_aload_n (pc := 81) C dX1_copyFrom_81 0 rfl rfl ?_
  refine go_aload_n (pc := 82) C dX1_copyFrom_82 1 rfl rfl ?_
  refine ge_X1_X1_8 (pc := 83) C hp1 dX1_copyFrom_83 ?_
  refine pu_X1_X1_8 (pc := 86) C ho dX1_copyFrom_86 (fun S15 e16 => ?_)
  have hf := hf S15 e16
  refine go_aload_n (pc := 89) C dX1_copyFrom_89 0 rfl rfl ?_
  refine go_aload_n (pc := 90) C dX1_copyFrom_90 1 rfl rfl ?_
  refine ge_X1_X1_9 (pc := 91) C hp1 dX1_copyFrom_91 ?_
  refine pu_X1_X1_9 (pc := 94) C ho dX1_copyFrom_94 (fun S17 e18 => ?_)
  have hf := hf S17 e18
  refine go_aload_n (pc := 97) C dX1_copyFrom_97 0 rfl rfl ?_
  refine go_aload_n (pc := 98) C dX1_copyFrom_98 1 rfl rfl ?_
  refine ge_X1_X1_10 (pc := 99) C hp1 dX1_copyFrom_99 ?_
  refine pu_X1_X1_10 (pc := 102) C ho dX1_copyFrom_102 (fun S19 e20 => ?_)
  have hf := hf S19 e20
  refine go_aload_n (pc := 105) C dX1_copyFrom_105 0 rfl rfl ?_
  refine go_aload_n (pc := 106) C dX1_copyFrom_106 1 rfl rfl ?_
  refine ge_X1_X1_11 (pc := 107) C hp1 dX1_copyFrom_107 ?_
  refine pu_X1_X1_11 (pc := 110) C ho dX1_copyFrom_110 (fun S21 e22 => ?_)
  have hf := hf S21 e22
  refine go_aload_n (pc := 113) C dX1_copyFrom_113 0 rfl rfl ?_
  refine go_aload_n (pc := 114) C dX1_copyFrom_114 1 rfl rfl ?_
  refine ge_X1_X1_12 (pc := 115) C hp1 dX1_copyFrom_115 ?_
  refine pu_X1_X1_12 (pc := 118) C ho dX1_copyFrom_118 (fun S23 e24 => ?_)
  have hf := hf S23 e24
  refine go_aload_n (pc := 121) C dX1_copyFrom_121 0 rfl rfl ?_
  refine go_aload_n (pc := 122) C dX1_copyFrom_122 1 rfl rfl ?_
  refine ge_X1_X1_13 (pc := 123) C hp1 dX1_copyFrom_123 ?_
  refine pu_X1_X1_13 (pc := 126) C ho dX1_copyFrom_126 (fun S25 e26 => ?_)
  have hf := hf S25 e26
  exact hR _ _ _ dX1_copyFrom_129 hf
set_option maxRecDepth 100000 in
set_option maxHeartbeats 4000000 in
theorem ok_X1_copyFrom {o : Nat} {p1 : Nat} {S : tq_St} {K : tq_St → Prop} (ho : o < 19) (hp1 : p1 < 19) (hf : wp_X1_copyFrom o p1 S K) : tq_Mv yX1_copyFrom cX1_copyFrom 2 none 1 (fun a z => [.ref (a.1 o 0), .ref (a.1 p1 0)]) S K :=
  tq_mkV (by decide) (fun _ _ => Nat.le_of_ble_eq_true rfl) (fun X C hR => wk_X1_copyFrom C hR ho hp1 hf)
set_option maxRecDepth 100000 in
set_option maxHeartbeats 4000000 in
theorem wk_X1_clearTally {X : tq_Cx} {o : Nat} {S : tq_St} {K : tq_St → Prop} (C : tq_C X cX1_clearTally 1 RX1 1) (hR : tq_Rv X cX1_clearTally 1 K) (ho : o < 19) (hf : wp_X1_clearTally o S K) : Go X 1 S 0 [(0, .ref ((tq_la X).1 o 0))] [] := by
  refine go_aload_n (pc := 0) C dX1_clearTally_0 0 rfl rfl ?_
  refine go_iconst (pc := 1) (v := 0) C dX1_clearTally_1 (by decide) ?_
  refine pu_X1_X1_11 (pc := 2) C ho dX1_clearTally_2 (fun S1 e2 => ?_)
  have hf := hf S1 e2
  refine go_aload_n (pc := 5) C dX1_clearTally_5 0 rfl rfl ?_
  refine go_iconst (pc := 6) (v := 0) C dX1_clearTally_6 (by decide) ?_
  refine pu_X1_X1_12 (pc := 7) C ho dX1_clearTally_7 (fun S3 e4 => ?_)
  have hf := hf S3 e4
  refine go_aload_n (pc := 10) C dX1_clearTally_10 0 rfl rfl ?_
  refine go_bipush (pc := 11) (v := (-4)) C dX1_clearTally_11 (by decide) ?_
  refine pu_X1_X1_13 (pc := 13) C ho dX1_clearTally_13 (fun S5 e6 => ?_)
  have hf := hf S5 e6
  exact hR _ _ _ dX1_clearTally_16 hf
set_option maxRecDepth 100000 in
set_option maxHeartbeats 4000000 in
theorem ok_X1_clearTally {o : Nat} {S : tq_St} {K : tq_St → Prop} (ho : o < 19) (hf : wp_X1_clearTally o S K) : tq_Mv yX1_clearTally cX1_clearTally 1 none 1 (fun a z => [.ref (a.1 o 0)]) S K :=
  tq_mkV (by decide) (fun _ _ => Nat.le_of_ble_eq_true rfl) (fun X C hR => wk_X1_clearTally C hR ho hf)
set_option maxRecDepth 100000 in
set_option maxHeartbeats 4000000 in
theorem wk_X1_startFrom {X : tq_Cx} {o : Nat} {p1 : Nat} {S : tq_St} {K : tq_St → Prop} (C : tq_C X cX1_startFrom 2 RX1 2) (hR : tq_Rv X cX1_startFrom 2 K) (ho : o < 19) (hp1 : p1 < 19) (hf : wp_X1_startFrom o p1 S K) : Go X 2 S 0 [(0, .ref ((tq_la X).1 o 0)), (1, .ref ((tq_la X).1 p1 0))] [] := by
  refine go_aload_n (pc := 0) C dX1_startFrom_0 0 rfl rfl ?_
  refine go_aload_n (pc := 1) C dX1_startFrom_1 1 rfl rfl ?_
  refine go_cVv (pc := 2) C cw_X1_64 (ok_X1_copyFrom ho hp1 hf) (rc_X1 C ho) rfl rfl rfl (by decide) rfl dX1_startFrom_2 (fun S2 hf => ?_)
  refine go_aload_n (pc := 5) C dX1_startFrom_5 0 rfl rfl ?_
  refine go_cVv (pc := 6) C cw_X1_49 (ok_X1_clearTally ho hf) (rc_X1 C ho) rfl rfl rfl (by decide) rfl dX1_startFrom_6 (fun S5 hf => ?_)
  exact hR _ _ _ dX1_startFrom_9 hf
set_option maxRecDepth 100000 in
set_option maxHeartbeats 4000000 in
theorem ok_X1_startFrom {o : Nat} {p1 : Nat} {S : tq_St} {K : tq_St → Prop} (ho : o < 19) (hp1 : p1 < 19) (hf : wp_X1_startFrom o p1 S K) : tq_Mv yX1_startFrom cX1_startFrom 2 none 2 (fun a z => [.ref (a.1 o 0), .ref (a.1 p1 0)]) S K :=
  tq_mkV (by decide) (fun _ _ => Nat.le_of_ble_eq_true rfl) (fun X C hR => wk_X1_startFrom C hR ho hp1 hf)
set_option maxRecDepth 100000 in
set_option maxHeartbeats 4000000 in
theorem wk_X1_waits {X : tq_Cx} {o : Nat} {p1 : Int32} {S : tq_St} {K : Int32 → tq_St → Prop} (C : tq_C X cX1_waits 2 RX1 1) (hR : tq_Rz X cX1_waits 2 K) (ho : o < 19) (hf : wp_X1_waits o p1 S K) : Go X 2 S 0 [(0, .ref ((tq_la X).1 o 0)), (1, .int p1)] [] := by
  refine go_iload_n (pc := 0) C dX1_waits_0 1 rfl rfl ?_
  refine go_if_lt (pc := 1) C dX1_waits_1 27 (by decide) (fun c1 => ?_) (fun c1 => ?_)
  · have hf := hf.1 c1
    refine go_iconst (pc := 27) (v := 0) C dX1_waits_27 (by decide) ?_
    exact hR _ _ _ _ dX1_waits_28 (Or.inl rfl) hf
  · have hf := hf.2 c1
    refine go_iload_n (pc := 4) C dX1_waits_4 1 rfl rfl ?_
    refine go_aload_n (pc := 5) C dX1_waits_5 0 rfl rfl ?_
    refine ge_X1_X1_5 (pc := 6) C ho dX1_waits_6 ?_
    refine go_ic_ge (pc := 9) C dX1_waits_9 27 (by decide) (fun c2 => ?_) (fun c2 => ?_)
    · have hf := hf.1 c2
      refine go_iconst (pc := 27) (v := 0) C dX1_waits_27 (by decide) ?_
      exact hR _ _ _ _ dX1_waits_28 (Or.inl rfl) hf
    · have hf := hf.2 c2
      refine go_aload_n (pc := 12) C dX1_waits_12 0 rfl rfl ?_
      refine ge_X1_X1_6 (pc := 13) C ho dX1_waits_13 ?_
      refine go_iload_n (pc := 16) C dX1_waits_16 1 rfl rfl ?_
      refine go_ishr (pc := 17) C dX1_waits_17 ?_
      refine go_iconst (pc := 18) (v := 1) C dX1_waits_18 (by decide) ?_
      refine go_iand (pc := 19) C dX1_waits_19 ?_
      refine go_if_ne (pc := 20) C dX1_waits_20 27 (by decide) (fun c3 => ?_) (fun c3 => ?_)
      · have hf := hf.1 c3
        refine go_iconst (pc := 27) (v := 0) C dX1_waits_27 (by decide) ?_
        exact hR _ _ _ _ dX1_waits_28 (Or.inl rfl) hf
      · have hf := hf.2 c3
        refine go_iconst (pc := 23) (v := 1) C dX1_waits_23 (by decide) ?_
        refine go_goto (pc := 24) C dX1_waits_24 28 (by decide) ?_
        exact hR _ _ _ _ dX1_waits_28 (Or.inr rfl) hf
set_option maxRecDepth 100000 in
set_option maxHeartbeats 4000000 in
theorem ok_X1_waits {o : Nat} {p1 : Int32} {S : tq_St} {K : Int32 → tq_St → Prop} (ho : o < 19) (hf : wp_X1_waits o p1 S K) : tq_Mi yX1_waits cX1_waits 2 (some .boolean) 1 (fun a z => [.ref (a.1 o 0), .int p1]) S K :=
  tq_mkZ (by decide) (fun _ _ => Nat.le_of_ble_eq_true rfl) (fun X C hR => wk_X1_waits C hR ho hf)
set_option maxRecDepth 100000 in
set_option maxHeartbeats 4000000 in
theorem wk_X1_dry_2 {X : tq_Cx} {o : Nat} {K : tq_St → Prop} (C : tq_C X cX1_dry 2 RX1 2) (hR : tq_Rv X cX1_dry 2 K) (ho : o < 19) : ∀ (n : Nat) (v1 : Int32) (S : tq_St), wp_X1_dry_2 o K n v1 S → Go X 2 S 2 [(0, .ref ((tq_la X).1 o 0)), (1, .int v1)] [] := by
  intro n
  induction n with
  | zero => intros; contradiction
  | succ n ih =>
    intro v1 S hf
    refine go_iload_n (pc := 2) C dX1_dry_2 1 rfl rfl ?_
    refine go_aload_n (pc := 3) C dX1_dry_3 0 rfl rfl ?_
    refine ge_X1_X1_5 (pc := 4) C ho dX1_dry_4 ?_
    refine go_ic_ge (pc := 7) C dX1_dry_7 42 (by decide) (fun c1 => ?_) (fun c1 => ?_)
    · have hf := hf.1 c1
      refine go_aload_n (pc := 42) C dX1_dry_42 0 rfl rfl ?_
      refine go_sipush (pc := 43) (v := 999) C dX1_dry_43 (by decide) ?_
      refine go_aload_n (pc := 46) C dX1_dry_46 0 rfl rfl ?_
      refine ge_X1_X1_7 (pc := 47) C ho dX1_dry_47 ?_
      refine go_iconst (pc := 50) (v := 1) C dX1_dry_50 (by decide) ?_
      refine go_iadd (pc := 51) C dX1_dry_51 ?_
      refine mmin_X1_118 (pc := 52) C (by decide) (Nat.le_of_ble_eq_true rfl) dX1_dry_52 ?_
      refine pu_X1_X1_7 (pc := 55) C ho dX1_dry_55 (fun S2 e3 => ?_)
      have hf := hf S2 e3
      exact hR _ _ _ dX1_dry_58 hf
    · have hf := hf.2 c1
      refine go_aload_n (pc := 10) C dX1_dry_10 0 rfl rfl ?_
      refine go_iload_n (pc := 11) C dX1_dry_11 1 rfl rfl ?_
      refine go_cVi (pc := 12) C cw_X1_75 (ok_X1_waits ho hf) (rc_X1 C ho) rfl rfl rfl (by decide) rfl dX1_dry_12 (fun r4 S5 hf => ?_)
      refine go_if_eq (pc := 15) C dX1_dry_15 36 (by decide) (fun c7 => ?_) (fun c7 => ?_)
      · have hf := hf.1 c7
        obtain ⟨x8, e9⟩ : ∃ q9 : Int32, q9 = v1 + 1 := ⟨_, rfl⟩
        refine go_iinc (pc := 36) (j := 1) (v := x8) C dX1_dry_36 [(1, .int x8), (0, .ref ((tq_la X).1 o 0))] rfl (by rw [e9]; rfl) (by decide) rfl ?_
        have hf := hf x8 e9
        refine go_goto (pc := 39) C dX1_dry_39 2 (by decide) ?_
        exact go_sub [1, 0] rfl (ih _ _ hf)
      · have hf := hf.2 c7
        refine go_aload_n (pc := 18) C dX1_dry_18 0 rfl rfl ?_
        refine ge_X1_X1_1 (pc := 19) C ho dX1_dry_19 ?_
        refine go_iload_n (pc := 22) C dX1_dry_22 1 rfl rfl ?_
        refine go_iconst (pc := 23) (v := 0) C dX1_dry_23 (by decide) ?_
        refine go_aload_n (pc := 24) C dX1_dry_24 0 rfl rfl ?_
        refine ge_X1_X1_1 (pc := 25) C ho dX1_dry_25 ?_
        refine go_iload_n (pc := 28) C dX1_dry_28 1 rfl rfl ?_
        refine al_X1_1 (pc := 29) C ho hf.1 dX1_dry_29 ?_
        have hf := hf.2
        refine go_iconst (pc := 30) (v := 1) C dX1_dry_30 (by decide) ?_
        refine go_isub (pc := 31) C dX1_dry_31 ?_
        refine mmax_X1_123 (pc := 32) C (by decide) (Nat.le_of_ble_eq_true rfl) dX1_dry_32 ?_
        refine as_X1_1 (pc := 35) C ho hf.1 dX1_dry_35 (fun S10 e11 => ?_)
        have hf := hf.2 S10 e11
        obtain ⟨x12, e13⟩ : ∃ q9 : Int32, q9 = v1 + 1 := ⟨_, rfl⟩
        refine go_iinc (pc := 36) (j := 1) (v := x12) C dX1_dry_36 [(1, .int x12), (0, .ref ((tq_la X).1 o 0))] rfl (by rw [e13]; rfl) (by decide) rfl ?_
        have hf := hf x12 e13
        refine go_goto (pc := 39) C dX1_dry_39 2 (by decide) ?_
        exact go_sub [1, 0] rfl (ih _ _ hf)
set_option maxRecDepth 100000 in
set_option maxHeartbeats 4000000 in
theorem wk_X1_dry {X : tq_Cx} {o : Nat} {S : tq_St} {K : tq_St → Prop} (C : tq_C X cX1_dry 2 RX1 2) (hR : tq_Rv X cX1_dry 2 K) (ho : o < 19) (hf : wp_X1_dry o S K) : Go X 2 S 0 [(0, .ref ((tq_la X).1 o 0))] [] := by
  refine go_iconst (pc := 0) (v := 0) C dX1_dry_0 (by decide) ?_
  refine go_istore_n (pc := 1) C dX1_dry_1 [(1, .int 0), (0, .ref ((tq_la X).1 o 0))] rfl (by decide) rfl ?_
  exact go_sub [1, 0] rfl (wk_X1_dry_2 C hR ho 2000 _ _ hf)
set_option maxRecDepth 100000 in
set_option maxHeartbeats 4000000 in
theorem ok_X1_dry {o : Nat} {S : tq_St} {K : tq_St → Prop} (ho : o < 19) (hf : wp_X1_dry o S K) : tq_Mv yX1_dry cX1_dry 2 none 2 (fun a z => [.ref (a.1 o 0)]) S K :=
  tq_mkV (by decide) (fun _ _ => Nat.le_of_ble_eq_true rfl) (fun X C hR => wk_X1_dry C hR ho hf)
set_option maxRecDepth 100000 in
set_option maxHeartbeats 4000000 in
theorem wk_X1_rank_24 {X : tq_Cx} {o : Nat} {K : Int32 → tq_St → Prop} (C : tq_C X cX1_rank 3 RX1 1) (hR : tq_Ri X cX1_rank 3 K) (ho : o < 19) : ∀ (v1 : Int32) (w0 : Int32) (S : tq_St), wp_X1_rank_24 o K v1 w0 S → Go X 3 S 24 [(0, .ref ((tq_la X).1 o 0)), (1, .int v1)] [.int w0] := by
  intro v1 w0 S hf
  refine go_istore_n (pc := 24) C dX1_rank_24 [(2, .int w0), (0, .ref ((tq_la X).1 o 0)), (1, .int v1)] rfl (by decide) rfl ?_
  refine go_iload_n (pc := 25) C dX1_rank_25 0 rfl rfl ?_
  refine go_if_eq (pc := 26) C dX1_rank_26 34 (by decide) (fun c2 => ?_) (fun c2 => ?_)
  · have hf := hf.1 c2
    refine go_aload_n (pc := 34) C dX1_rank_34 1 rfl rfl ?_
    refine ge_X1_X1_2 (pc := 35) C ho dX1_rank_35 ?_
    refine go_iload_n (pc := 38) C dX1_rank_38 2 rfl rfl ?_
    refine al_X1_2 (pc := 39) C ho hf.1 dX1_rank_39 ?_
    have hf := hf.2
    exact hR _ _ _ _ dX1_rank_40 hf
  · have hf := hf.2 c2
    refine go_bipush (pc := 29) (v := (-2)) C dX1_rank_29 (by decide) ?_
    refine go_goto (pc := 31) C dX1_rank_31 40 (by decide) ?_
    exact hR _ _ _ _ dX1_rank_40 hf
set_option maxRecDepth 100000 in
set_option maxHeartbeats 4000000 in
theorem wk_X1_rank_23 {X : tq_Cx} {o : Nat} {K : Int32 → tq_St → Prop} (C : tq_C X cX1_rank 3 RX1 1) (hR : tq_Ri X cX1_rank 3 K) (ho : o < 19) : ∀ (v1 : Int32) (S : tq_St), wp_X1_rank_23 o K v1 S → Go X 3 S 23 [(0, .ref ((tq_la X).1 o 0)), (1, .int v1)] [] := by
  intro v1 S hf
  refine go_iconst (pc := 23) (v := 0) C dX1_rank_23 (by decide) ?_
  exact go_sub [0, 1] rfl (wk_X1_rank_24 C hR ho _ _ _ hf)
set_option maxRecDepth 100000 in
set_option maxHeartbeats 4000000 in
theorem wk_X1_rank {X : tq_Cx} {o : Nat} {p1 : Int32} {S : tq_St} {K : Int32 → tq_St → Prop} (C : tq_C X cX1_rank 3 RX1 1) (hR : tq_Ri X cX1_rank 3 K) (ho : o < 19) (hf : wp_X1_rank o p1 S K) : Go X 3 S 0 [(0, .ref ((tq_la X).1 o 0)), (1, .int p1)] [] := by
  refine go_aload_n (pc := 0) C dX1_rank_0 0 rfl rfl ?_
  refine ge_X1_X1_0 (pc := 1) C ho dX1_rank_1 ?_
  refine go_iload_n (pc := 4) C dX1_rank_4 1 rfl rfl ?_
  refine al_X1_0 (pc := 5) C ho hf.1 dX1_rank_5 ?_
  have hf := hf.2
  refine go_iconst (pc := 6) (v := 2) C dX1_rank_6 (by decide) ?_
  refine go_ic_ne (pc := 7) C dX1_rank_7 23 (by decide) (fun c1 => ?_) (fun c1 => ?_)
  · have hf := hf.1 c1
    exact go_sub [0, 1] rfl (wk_X1_rank_23 C hR ho _ _ hf)
  · have hf := hf.2 c1
    refine go_aload_n (pc := 10) C dX1_rank_10 0 rfl rfl ?_
    refine ge_X1_X1_1 (pc := 11) C ho dX1_rank_11 ?_
    refine go_iload_n (pc := 14) C dX1_rank_14 1 rfl rfl ?_
    refine al_X1_1 (pc := 15) C ho hf.1 dX1_rank_15 ?_
    have hf := hf.2
    refine go_if_ne (pc := 16) C dX1_rank_16 23 (by decide) (fun c3 => ?_) (fun c3 => ?_)
    · have hf := hf.1 c3
      exact go_sub [0, 1] rfl (wk_X1_rank_23 C hR ho _ _ hf)
    · have hf := hf.2 c3
      refine go_iconst (pc := 19) (v := 1) C dX1_rank_19 (by decide) ?_
      refine go_goto (pc := 20) C dX1_rank_20 24 (by decide) ?_
      exact go_sub [0, 1] rfl (wk_X1_rank_24 C hR ho _ _ _ hf)
set_option maxRecDepth 100000 in
set_option maxHeartbeats 4000000 in
theorem ok_X1_rank {o : Nat} {p1 : Int32} {S : tq_St} {K : Int32 → tq_St → Prop} (ho : o < 19) (hf : wp_X1_rank o p1 S K) : tq_Mi yX1_rank cX1_rank 3 (some .int) 1 (fun a z => [.ref (a.1 o 0), .int p1]) S K :=
  tq_mkI (by decide) (fun _ _ => Nat.le_of_ble_eq_true rfl) (fun X C hR => wk_X1_rank C hR ho hf)
set_option maxRecDepth 100000 in
set_option maxHeartbeats 4000000 in
theorem wk_X1_lineUp_66 {X : tq_Cx} {o : Nat} {K : Int32 → tq_St → Prop} (C : tq_C X cX1_lineUp 4 RX1 2) (hR : tq_Ri X cX1_lineUp 4 K) (ho : o < 19) {rec4 : Int32 → Int32 → tq_St → Prop} (hrec4 : ∀ (v1 : Int32) (v2 : Int32) (S : tq_St), rec4 v1 v2 S → Go X 4 S 4 [(0, .ref ((tq_la X).1 o 0)), (1, .int v1), (2, .int v2)] []) : ∀ (v1 : Int32) (v2 : Int32) (v3 : Int32) (S : tq_St), wp_X1_lineUp_66 o K rec4 v1 v2 v3 S → Go X 4 S 66 [(0, .ref ((tq_la X).1 o 0)), (1, .int v1), (2, .int v2), (3, .int v3)] [] := by
  intro v1 v2 v3 S hf
  refine go_aload_n (pc := 66) C dX1_lineUp_66 0 rfl rfl ?_
  refine ge_X1_X1_4 (pc := 67) C ho dX1_lineUp_67 ?_
  refine go_iload_n (pc := 70) C dX1_lineUp_70 3 rfl rfl ?_
  refine go_iload_n (pc := 71) C dX1_lineUp_71 2 rfl rfl ?_
  refine as_X1_4 (pc := 72) C ho hf.1 dX1_lineUp_72 (fun S9 e10 => ?_)
  have hf := hf.2 S9 e10
  obtain ⟨x11, e12⟩ : ∃ q9 : Int32, q9 = v1 + 1 := ⟨_, rfl⟩
  refine go_iinc (pc := 73) (j := 1) (v := x11) C dX1_lineUp_73 [(1, .int x11), (0, .ref ((tq_la X).1 o 0)), (2, .int v2), (3, .int v3)] rfl (by rw [e12]; rfl) (by decide) rfl ?_
  have hf := hf x11 e12
  obtain ⟨x13, e14⟩ : ∃ q9 : Int32, q9 = v2 + 1 := ⟨_, rfl⟩
  refine go_iinc (pc := 76) (j := 2) (v := x13) C dX1_lineUp_76 [(2, .int x13), (1, .int x11), (0, .ref ((tq_la X).1 o 0)), (3, .int v3)] rfl (by rw [e14]; rfl) (by decide) rfl ?_
  have hf := hf x13 e14
  refine go_goto (pc := 79) C dX1_lineUp_79 4 (by decide) ?_
  exact go_sub [2, 1, 0] rfl (hrec4 _ _ _ hf)
set_option maxRecDepth 100000 in
set_option maxHeartbeats 4000000 in
theorem wk_X1_lineUp_22 {X : tq_Cx} {o : Nat} {K : Int32 → tq_St → Prop} (C : tq_C X cX1_lineUp 4 RX1 2) (hR : tq_Ri X cX1_lineUp 4 K) (ho : o < 19) {rec4 : Int32 → Int32 → tq_St → Prop} (hrec4 : ∀ (v1 : Int32) (v2 : Int32) (S : tq_St), rec4 v1 v2 S → Go X 4 S 4 [(0, .ref ((tq_la X).1 o 0)), (1, .int v1), (2, .int v2)] []) : ∀ (n : Nat) (v1 : Int32) (v2 : Int32) (v3 : Int32) (S : tq_St), wp_X1_lineUp_22 o K rec4 n v1 v2 v3 S → Go X 4 S 22 [(0, .ref ((tq_la X).1 o 0)), (1, .int v1), (2, .int v2), (3, .int v3)] [] := by
  intro n
  induction n with
  | zero => intros; contradiction
  | succ n ih =>
    intro v1 v2 v3 S hf
    refine go_iload_n (pc := 22) C dX1_lineUp_22 3 rfl rfl ?_
    refine go_if_le (pc := 23) C dX1_lineUp_23 66 (by decide) (fun c8 => ?_) (fun c8 => ?_)
    · have hf := hf.1 c8
      exact go_sub [0, 1, 2, 3] rfl (wk_X1_lineUp_66 C hR ho hrec4 _ _ _ _ hf)
    · have hf := hf.2 c8
      refine go_aload_n (pc := 26) C dX1_lineUp_26 0 rfl rfl ?_
      refine go_aload_n (pc := 27) C dX1_lineUp_27 0 rfl rfl ?_
      refine ge_X1_X1_4 (pc := 28) C ho dX1_lineUp_28 ?_
      refine go_iload_n (pc := 31) C dX1_lineUp_31 3 rfl rfl ?_
      refine go_iconst (pc := 32) (v := 1) C dX1_lineUp_32 (by decide) ?_
      refine go_isub (pc := 33) C dX1_lineUp_33 ?_
      refine al_X1_4 (pc := 34) C ho hf.1 dX1_lineUp_34 ?_
      have hf := hf.2
      refine go_cVi (pc := 35) C cw_X1_129 (ok_X1_rank ho hf) (rc_X1 C ho) rfl rfl rfl (by decide) rfl dX1_lineUp_35 (fun r15 S16 hf => ?_)
      refine go_aload_n (pc := 38) C dX1_lineUp_38 0 rfl rfl ?_
      refine go_iload_n (pc := 39) C dX1_lineUp_39 2 rfl rfl ?_
      refine go_cVi (pc := 40) C cw_X1_129 (ok_X1_rank ho hf) (rc_X1 C ho) rfl rfl rfl (by decide) rfl dX1_lineUp_40 (fun r18 S19 hf => ?_)
      refine go_ic_ge (pc := 43) C dX1_lineUp_43 66 (by decide) (fun c21 => ?_) (fun c21 => ?_)
      · have hf := hf.1 c21
        exact go_sub [0, 1, 2, 3] rfl (wk_X1_lineUp_66 C hR ho hrec4 _ _ _ _ hf)
      · have hf := hf.2 c21
        refine go_aload_n (pc := 46) C dX1_lineUp_46 0 rfl rfl ?_
        refine ge_X1_X1_4 (pc := 47) C ho dX1_lineUp_47 ?_
        refine go_iload_n (pc := 50) C dX1_lineUp_50 3 rfl rfl ?_
        refine go_aload_n (pc := 51) C dX1_lineUp_51 0 rfl rfl ?_
        refine ge_X1_X1_4 (pc := 52) C ho dX1_lineUp_52 ?_
        refine go_iload_n (pc := 55) C dX1_lineUp_55 3 rfl rfl ?_
        refine go_iconst (pc := 56) (v := 1) C dX1_lineUp_56 (by decide) ?_
        refine go_isub (pc := 57) C dX1_lineUp_57 ?_
        refine al_X1_4 (pc := 58) C ho hf.1 dX1_lineUp_58 ?_
        have hf := hf.2
        refine as_X1_4 (pc := 59) C ho hf.1 dX1_lineUp_59 (fun S22 e23 => ?_)
        have hf := hf.2 S22 e23
        obtain ⟨x24, e25⟩ : ∃ q9 : Int32, q9 = v3 + (-1) := ⟨_, rfl⟩
        refine go_iinc (pc := 60) (j := 3) (v := x24) C dX1_lineUp_60 [(3, .int x24), (0, .ref ((tq_la X).1 o 0)), (1, .int v1), (2, .int v2)] rfl (by rw [e25]; rfl) (by decide) rfl ?_
        have hf := hf x24 e25
        refine go_goto (pc := 63) C dX1_lineUp_63 22 (by decide) ?_
        exact go_sub [1, 2, 3, 0] rfl (ih _ _ _ _ hf)
set_option maxRecDepth 100000 in
set_option maxHeartbeats 4000000 in
theorem wk_X1_lineUp_4 {X : tq_Cx} {o : Nat} {K : Int32 → tq_St → Prop} (C : tq_C X cX1_lineUp 4 RX1 2) (hR : tq_Ri X cX1_lineUp 4 K) (ho : o < 19) : ∀ (n : Nat) (v1 : Int32) (v2 : Int32) (S : tq_St), wp_X1_lineUp_4 o K n v1 v2 S → Go X 4 S 4 [(0, .ref ((tq_la X).1 o 0)), (1, .int v1), (2, .int v2)] [] := by
  intro n
  induction n with
  | zero => intros; contradiction
  | succ n ih =>
    intro v1 v2 S hf
    refine go_iload_n (pc := 4) C dX1_lineUp_4 2 rfl rfl ?_
    refine go_aload_n (pc := 5) C dX1_lineUp_5 0 rfl rfl ?_
    refine ge_X1_X1_5 (pc := 6) C ho dX1_lineUp_6 ?_
    refine go_ic_ge (pc := 9) C dX1_lineUp_9 82 (by decide) (fun c1 => ?_) (fun c1 => ?_)
    · have hf := hf.1 c1
      refine go_iload_n (pc := 82) C dX1_lineUp_82 1 rfl rfl ?_
      exact hR _ _ _ _ dX1_lineUp_83 hf
    · have hf := hf.2 c1
      refine go_aload_n (pc := 12) C dX1_lineUp_12 0 rfl rfl ?_
      refine go_iload_n (pc := 13) C dX1_lineUp_13 2 rfl rfl ?_
      refine go_cVi (pc := 14) C cw_X1_75 (ok_X1_waits ho hf) (rc_X1 C ho) rfl rfl rfl (by decide) rfl dX1_lineUp_14 (fun r2 S3 hf => ?_)
      refine go_if_eq (pc := 17) C dX1_lineUp_17 76 (by decide) (fun c5 => ?_) (fun c5 => ?_)
      · have hf := hf.1 c5
        obtain ⟨x6, e7⟩ : ∃ q9 : Int32, q9 = v2 + 1 := ⟨_, rfl⟩
        refine go_iinc (pc := 76) (j := 2) (v := x6) C dX1_lineUp_76 [(2, .int x6), (0, .ref ((tq_la X).1 o 0)), (1, .int v1)] rfl (by rw [e7]; rfl) (by decide) rfl ?_
        have hf := hf x6 e7
        refine go_goto (pc := 79) C dX1_lineUp_79 4 (by decide) ?_
        exact go_sub [1, 2, 0] rfl (ih _ _ _ hf)
      · have hf := hf.2 c5
        refine go_iload_n (pc := 20) C dX1_lineUp_20 1 rfl rfl ?_
        refine go_istore_n (pc := 21) C dX1_lineUp_21 [(3, .int v1), (0, .ref ((tq_la X).1 o 0)), (1, .int v1), (2, .int v2)] rfl (by decide) rfl ?_
        exact go_sub [1, 2, 3, 0] rfl (wk_X1_lineUp_22 C hR ho ih 2000 _ _ _ _ hf)
set_option maxRecDepth 100000 in
set_option maxHeartbeats 4000000 in
theorem wk_X1_lineUp {X : tq_Cx} {o : Nat} {S : tq_St} {K : Int32 → tq_St → Prop} (C : tq_C X cX1_lineUp 4 RX1 2) (hR : tq_Ri X cX1_lineUp 4 K) (ho : o < 19) (hf : wp_X1_lineUp o S K) : Go X 4 S 0 [(0, .ref ((tq_la X).1 o 0))] [] := by
  refine go_iconst (pc := 0) (v := 0) C dX1_lineUp_0 (by decide) ?_
  refine go_istore_n (pc := 1) C dX1_lineUp_1 [(1, .int 0), (0, .ref ((tq_la X).1 o 0))] rfl (by decide) rfl ?_
  refine go_iconst (pc := 2) (v := 0) C dX1_lineUp_2 (by decide) ?_
  refine go_istore_n (pc := 3) C dX1_lineUp_3 [(2, .int 0), (1, .int 0), (0, .ref ((tq_la X).1 o 0))] rfl (by decide) rfl ?_
  exact go_sub [2, 1, 0] rfl (wk_X1_lineUp_4 C hR ho 2000 _ _ _ hf)
set_option maxRecDepth 100000 in
set_option maxHeartbeats 4000000 in
theorem ok_X1_lineUp {o : Nat} {S : tq_St} {K : Int32 → tq_St → Prop} (ho : o < 19) (hf : wp_X1_lineUp o S K) : tq_Mi yX1_lineUp cX1_lineUp 4 (some .int) 2 (fun a z => [.ref (a.1 o 0)]) S K :=
  tq_mkI (by decide) (fun _ _ => Nat.le_of_ble_eq_true rfl) (fun X C hR => wk_X1_lineUp C hR ho hf)
set_option maxRecDepth 100000 in
set_option maxHeartbeats 4000000 in
theorem wk_X1_board_39 {X : tq_Cx} {o : Nat} {K : Int32 → tq_St → Prop} (C : tq_C X cX1_board 4 RX1 3) (hR : tq_Ri X cX1_board 4 K) (ho : o < 19) : ∀ (v2 : Int32) (S : tq_St), wp_X1_board_39 o K v2 S → Go X 4 S 39 [(0, .ref ((tq_la X).1 o 0)), (2, .int v2)] [] := by
  intro v2 S hf
  refine go_aload_n (pc := 39) C dX1_board_39 0 rfl rfl ?_
  refine go_dup (pc := 40) C dX1_board_40 rfl ?_
  refine ge_X1_X1_6 (pc := 41) C ho dX1_board_41 ?_
  refine go_iload_n (pc := 44) C dX1_board_44 1 rfl rfl ?_
  refine go_ior (pc := 45) C dX1_board_45 ?_
  refine pu_X1_X1_6 (pc := 46) C ho dX1_board_46 (fun S5 e6 => ?_)
  have hf := hf S5 e6
  refine go_iload_n (pc := 49) C dX1_board_49 1 rfl rfl ?_
  exact hR _ _ _ _ dX1_board_50 hf
set_option maxRecDepth 100000 in
set_option maxHeartbeats 4000000 in
theorem wk_X1_board_9 {X : tq_Cx} {o : Nat} {K : Int32 → tq_St → Prop} (C : tq_C X cX1_board 4 RX1 3) (hR : tq_Ri X cX1_board 4 K) (ho : o < 19) : ∀ (n : Nat) (v1 : Int32) (v2 : Int32) (v3 : Int32) (S : tq_St), wp_X1_board_9 o K n v1 v2 v3 S → Go X 4 S 9 [(0, .ref ((tq_la X).1 o 0)), (1, .int v1), (2, .int v2), (3, .int v3)] [] := by
  intro n
  induction n with
  | zero => intros; contradiction
  | succ n ih =>
    intro v1 v2 v3 S hf
    refine go_iload_n (pc := 9) C dX1_board_9 3 rfl rfl ?_
    refine go_iload_n (pc := 10) C dX1_board_10 1 rfl rfl ?_
    refine go_ic_ge (pc := 11) C dX1_board_11 39 (by decide) (fun c4 => ?_) (fun c4 => ?_)
    · have hf := hf.1 c4
      exact go_sub [0, 2] rfl (wk_X1_board_39 C hR ho _ _ hf)
    · have hf := hf.2 c4
      refine go_iload_n (pc := 14) C dX1_board_14 3 rfl rfl ?_
      refine go_aload_n (pc := 15) C dX1_board_15 0 rfl rfl ?_
      refine ge_X1_X1_8 (pc := 16) C ho dX1_board_16 ?_
      refine go_ic_ge (pc := 19) C dX1_board_19 39 (by decide) (fun c7 => ?_) (fun c7 => ?_)
      · have hf := hf.1 c7
        exact go_sub [0, 2] rfl (wk_X1_board_39 C hR ho _ _ hf)
      · have hf := hf.2 c7
        refine go_iload_n (pc := 22) C dX1_board_22 2 rfl rfl ?_
        refine go_iconst (pc := 23) (v := 1) C dX1_board_23 (by decide) ?_
        refine go_aload_n (pc := 24) C dX1_board_24 0 rfl rfl ?_
        refine ge_X1_X1_4 (pc := 25) C ho dX1_board_25 ?_
        refine go_iload_n (pc := 28) C dX1_board_28 3 rfl rfl ?_
        refine al_X1_4 (pc := 29) C ho hf.1 dX1_board_29 ?_
        have hf := hf.2
        refine go_ishl (pc := 30) C dX1_board_30 ?_
        refine go_ior (pc := 31) C dX1_board_31 ?_
        refine go_nI (fun x8 e9 => ?_)
        have hf := hf x8 e9
        refine go_istore_n (pc := 32) C dX1_board_32 [(2, .int x8), (0, .ref ((tq_la X).1 o 0)), (1, .int v1), (3, .int v3)] rfl (by decide) rfl ?_
        obtain ⟨x10, e11⟩ : ∃ q9 : Int32, q9 = v3 + 1 := ⟨_, rfl⟩
        refine go_iinc (pc := 33) (j := 3) (v := x10) C dX1_board_33 [(3, .int x10), (2, .int x8), (0, .ref ((tq_la X).1 o 0)), (1, .int v1)] rfl (by rw [e11]; rfl) (by decide) rfl ?_
        have hf := hf x10 e11
        refine go_goto (pc := 36) C dX1_board_36 9 (by decide) ?_
        exact go_sub [2, 3, 1, 0] rfl (ih _ _ _ _ hf)
set_option maxRecDepth 100000 in
set_option maxHeartbeats 4000000 in
theorem wk_X1_board {X : tq_Cx} {o : Nat} {S : tq_St} {K : Int32 → tq_St → Prop} (C : tq_C X cX1_board 4 RX1 3) (hR : tq_Ri X cX1_board 4 K) (ho : o < 19) (hf : wp_X1_board o S K) : Go X 4 S 0 [(0, .ref ((tq_la X).1 o 0))] [] := by
  refine go_aload_n (pc := 0) C dX1_board_0 0 rfl rfl ?_
  refine go_cVi (pc := 1) C cw_X1_126 (ok_X1_lineUp ho hf) (rc_X1 C ho) rfl rfl rfl (by decide) rfl dX1_board_1 (fun r1 S2 hf => ?_)
  refine go_istore_n (pc := 4) C dX1_board_4 [(1, .int r1), (0, .ref ((tq_la X).1 o 0))] rfl (by decide) rfl ?_
  refine go_iconst (pc := 5) (v := 0) C dX1_board_5 (by decide) ?_
  refine go_istore_n (pc := 6) C dX1_board_6 [(2, .int 0), (1, .int r1), (0, .ref ((tq_la X).1 o 0))] rfl (by decide) rfl ?_
  refine go_iconst (pc := 7) (v := 0) C dX1_board_7 (by decide) ?_
  refine go_istore_n (pc := 8) C dX1_board_8 [(3, .int 0), (2, .int 0), (1, .int r1), (0, .ref ((tq_la X).1 o 0))] rfl (by decide) rfl ?_
  exact go_sub [3, 2, 1, 0] rfl (wk_X1_board_9 C hR ho 2000 _ _ _ _ hf)
set_option maxRecDepth 100000 in
set_option maxHeartbeats 4000000 in
theorem ok_X1_board {o : Nat} {S : tq_St} {K : Int32 → tq_St → Prop} (ho : o < 19) (hf : wp_X1_board o S K) : tq_Mi yX1_board cX1_board 4 (some .int) 3 (fun a z => [.ref (a.1 o 0)]) S K :=
  tq_mkI (by decide) (fun _ _ => Nat.le_of_ble_eq_true rfl) (fun X C hR => wk_X1_board C hR ho hf)
set_option maxRecDepth 100000 in
set_option maxHeartbeats 4000000 in
theorem wk_X1_sadden {X : tq_Cx} {o : Nat} {p1 : Int32} {p2 : Int32} {S : tq_St} {K : tq_St → Prop} (C : tq_C X cX1_sadden 3 RX1 1) (hR : tq_Rv X cX1_sadden 3 K) (ho : o < 19) (hf : wp_X1_sadden o p1 p2 S K) : Go X 3 S 0 [(0, .ref ((tq_la X).1 o 0)), (1, .int p1), (2, .int p2)] [] := by
  refine go_iload_n (pc := 0) C dX1_sadden_0 1 rfl rfl ?_
  refine go_if_lt (pc := 1) C dX1_sadden_1 31 (by decide) (fun c1 => ?_) (fun c1 => ?_)
  · have hf := hf.1 c1
    exact hR _ _ _ dX1_sadden_31 hf
  · have hf := hf.2 c1
    refine go_iload_n (pc := 4) C dX1_sadden_4 1 rfl rfl ?_
    refine go_aload_n (pc := 5) C dX1_sadden_5 0 rfl rfl ?_
    refine ge_X1_X1_5 (pc := 6) C ho dX1_sadden_6 ?_
    refine go_ic_ge (pc := 9) C dX1_sadden_9 31 (by decide) (fun c2 => ?_) (fun c2 => ?_)
    · have hf := hf.1 c2
      exact hR _ _ _ dX1_sadden_31 hf
    · have hf := hf.2 c2
      refine go_aload_n (pc := 12) C dX1_sadden_12 0 rfl rfl ?_
      refine ge_X1_X1_1 (pc := 13) C ho dX1_sadden_13 ?_
      refine go_iload_n (pc := 16) C dX1_sadden_16 1 rfl rfl ?_
      refine go_bipush (pc := 17) (v := 40) C dX1_sadden_17 (by decide) ?_
      refine go_aload_n (pc := 19) C dX1_sadden_19 0 rfl rfl ?_
      refine ge_X1_X1_1 (pc := 20) C ho dX1_sadden_20 ?_
      refine go_iload_n (pc := 23) C dX1_sadden_23 1 rfl rfl ?_
      refine al_X1_1 (pc := 24) C ho hf.1 dX1_sadden_24 ?_
      have hf := hf.2
      refine go_iload_n (pc := 25) C dX1_sadden_25 2 rfl rfl ?_
      refine go_iadd (pc := 26) C dX1_sadden_26 ?_
      refine mmin_X1_118 (pc := 27) C (by decide) (Nat.le_of_ble_eq_true rfl) dX1_sadden_27 ?_
      refine as_X1_1 (pc := 30) C ho hf.1 dX1_sadden_30 (fun S3 e4 => ?_)
      have hf := hf.2 S3 e4
      exact hR _ _ _ dX1_sadden_31 hf
set_option maxRecDepth 100000 in
set_option maxHeartbeats 4000000 in
theorem ok_X1_sadden {o : Nat} {p1 : Int32} {p2 : Int32} {S : tq_St} {K : tq_St → Prop} (ho : o < 19) (hf : wp_X1_sadden o p1 p2 S K) : tq_Mv yX1_sadden cX1_sadden 3 none 1 (fun a z => [.ref (a.1 o 0), .int p1, .int p2]) S K :=
  tq_mkV (by decide) (fun _ _ => Nat.le_of_ble_eq_true rfl) (fun X C hR => wk_X1_sadden C hR ho hf)
set_option maxRecDepth 100000 in
set_option maxHeartbeats 4000000 in
theorem wk_X1_brim {X : tq_Cx} {o : Nat} {p1 : Int32} {S : tq_St} {K : Int32 → tq_St → Prop} (C : tq_C X cX1_brim 2 RX1 1) (hR : tq_Ri X cX1_brim 2 K) (ho : o < 19) (hf : wp_X1_brim o p1 S K) : Go X 2 S 0 [(0, .ref ((tq_la X).1 o 0)), (1, .int p1)] [] := by
  refine go_brims (pc := 0) C dX1_brim_0 ?_
  refine go_aload_n (pc := 3) C dX1_brim_3 0 rfl rfl ?_
  refine ge_X1_X1_0 (pc := 4) C ho dX1_brim_4 ?_
  refine go_iload_n (pc := 7) C dX1_brim_7 1 rfl rfl ?_
  refine al_X1_0 (pc := 8) C ho hf.1 dX1_brim_8 ?_
  have hf := hf.2
  refine go_brald (pc := 9) C hf.1 dX1_brim_9 ?_
  have hf := hf.2
  exact hR _ _ _ _ dX1_brim_10 hf
set_option maxRecDepth 100000 in
set_option maxHeartbeats 4000000 in
theorem ok_X1_brim {o : Nat} {p1 : Int32} {S : tq_St} {K : Int32 → tq_St → Prop} (ho : o < 19) (hf : wp_X1_brim o p1 S K) : tq_Mi yX1_brim cX1_brim 2 (some .int) 1 (fun a z => [.ref (a.1 o 0), .int p1]) S K :=
  tq_mkI (by decide) (fun _ _ => Nat.le_of_ble_eq_true rfl) (fun X C hR => wk_X1_brim C hR ho hf)
set_option maxRecDepth 100000 in
set_option maxHeartbeats 4000000 in
theorem wk_X1_firstToWeep_2 {X : tq_Cx} {o : Nat} {K : Int32 → tq_St → Prop} (C : tq_C X cX1_firstToWeep 3 RX1 2) (hR : tq_Ri X cX1_firstToWeep 3 K) (ho : o < 19) : ∀ (n : Nat) (v1 : Int32) (v2 : Int32) (S : tq_St), wp_X1_firstToWeep_2 o K n v1 v2 S → Go X 3 S 2 [(0, .ref ((tq_la X).1 o 0)), (1, .int v1), (2, .int v2)] [] := by
  intro n
  induction n with
  | zero => intros; contradiction
  | succ n ih =>
    intro v1 v2 S hf
    refine go_iload_n (pc := 2) C dX1_firstToWeep_2 2 rfl rfl ?_
    refine go_aload_n (pc := 3) C dX1_firstToWeep_3 0 rfl rfl ?_
    refine ge_X1_X1_5 (pc := 4) C ho dX1_firstToWeep_4 ?_
    refine go_ic_ge (pc := 7) C dX1_firstToWeep_7 48 (by decide) (fun c1 => ?_) (fun c1 => ?_)
    · have hf := hf.1 c1
      refine go_bipush (pc := 48) (v := (-4)) C dX1_firstToWeep_48 (by decide) ?_
      exact hR _ _ _ _ dX1_firstToWeep_50 hf
    · have hf := hf.2 c1
      refine go_aload_n (pc := 10) C dX1_firstToWeep_10 0 rfl rfl ?_
      refine go_iload_n (pc := 11) C dX1_firstToWeep_11 2 rfl rfl ?_
      refine go_cVi (pc := 12) C cw_X1_75 (ok_X1_waits ho hf) (rc_X1 C ho) rfl rfl rfl (by decide) rfl dX1_firstToWeep_12 (fun r2 S3 hf => ?_)
      refine go_if_eq (pc := 15) C dX1_firstToWeep_15 42 (by decide) (fun c5 => ?_) (fun c5 => ?_)
      · have hf := hf.1 c5
        obtain ⟨x6, e7⟩ : ∃ q9 : Int32, q9 = v2 + 1 := ⟨_, rfl⟩
        refine go_iinc (pc := 42) (j := 2) (v := x6) C dX1_firstToWeep_42 [(2, .int x6), (0, .ref ((tq_la X).1 o 0)), (1, .int v1)] rfl (by rw [e7]; rfl) (by decide) rfl ?_
        have hf := hf x6 e7
        refine go_goto (pc := 45) C dX1_firstToWeep_45 2 (by decide) ?_
        exact go_sub [1, 2, 0] rfl (ih _ _ _ hf)
      · have hf := hf.2 c5
        refine go_aload_n (pc := 18) C dX1_firstToWeep_18 0 rfl rfl ?_
        refine ge_X1_X1_1 (pc := 19) C ho dX1_firstToWeep_19 ?_
        refine go_iload_n (pc := 22) C dX1_firstToWeep_22 2 rfl rfl ?_
        refine al_X1_1 (pc := 23) C ho hf.1 dX1_firstToWeep_23 ?_
        have hf := hf.2
        refine go_aload_n (pc := 24) C dX1_firstToWeep_24 0 rfl rfl ?_
        refine go_iload_n (pc := 25) C dX1_firstToWeep_25 2 rfl rfl ?_
        refine go_cVi (pc := 26) C cw_X1_111 (ok_X1_brim ho hf) (rc_X1 C ho) rfl rfl rfl (by decide) rfl dX1_firstToWeep_26 (fun r8 S9 hf => ?_)
        refine go_ic_lt (pc := 29) C dX1_firstToWeep_29 42 (by decide) (fun c11 => ?_) (fun c11 => ?_)
        · have hf := hf.1 c11
          obtain ⟨x12, e13⟩ : ∃ q9 : Int32, q9 = v2 + 1 := ⟨_, rfl⟩
          refine go_iinc (pc := 42) (j := 2) (v := x12) C dX1_firstToWeep_42 [(2, .int x12), (0, .ref ((tq_la X).1 o 0)), (1, .int v1)] rfl (by rw [e13]; rfl) (by decide) rfl ?_
          have hf := hf x12 e13
          refine go_goto (pc := 45) C dX1_firstToWeep_45 2 (by decide) ?_
          exact go_sub [1, 2, 0] rfl (ih _ _ _ hf)
        · have hf := hf.2 c11
          refine go_iload_n (pc := 32) C dX1_firstToWeep_32 1 rfl rfl ?_
          refine go_iload_n (pc := 33) C dX1_firstToWeep_33 2 rfl rfl ?_
          refine go_ishr (pc := 34) C dX1_firstToWeep_34 ?_
          refine go_iconst (pc := 35) (v := 1) C dX1_firstToWeep_35 (by decide) ?_
          refine go_iand (pc := 36) C dX1_firstToWeep_36 ?_
          refine go_if_ne (pc := 37) C dX1_firstToWeep_37 42 (by decide) (fun c14 => ?_) (fun c14 => ?_)
          · have hf := hf.1 c14
            obtain ⟨x15, e16⟩ : ∃ q9 : Int32, q9 = v2 + 1 := ⟨_, rfl⟩
            refine go_iinc (pc := 42) (j := 2) (v := x15) C dX1_firstToWeep_42 [(2, .int x15), (0, .ref ((tq_la X).1 o 0)), (1, .int v1)] rfl (by rw [e16]; rfl) (by decide) rfl ?_
            have hf := hf x15 e16
            refine go_goto (pc := 45) C dX1_firstToWeep_45 2 (by decide) ?_
            exact go_sub [1, 2, 0] rfl (ih _ _ _ hf)
          · have hf := hf.2 c14
            refine go_iload_n (pc := 40) C dX1_firstToWeep_40 2 rfl rfl ?_
            exact hR _ _ _ _ dX1_firstToWeep_41 hf
set_option maxRecDepth 100000 in
set_option maxHeartbeats 4000000 in
theorem wk_X1_firstToWeep {X : tq_Cx} {o : Nat} {p1 : Int32} {S : tq_St} {K : Int32 → tq_St → Prop} (C : tq_C X cX1_firstToWeep 3 RX1 2) (hR : tq_Ri X cX1_firstToWeep 3 K) (ho : o < 19) (hf : wp_X1_firstToWeep o p1 S K) : Go X 3 S 0 [(0, .ref ((tq_la X).1 o 0)), (1, .int p1)] [] := by
  refine go_iconst (pc := 0) (v := 0) C dX1_firstToWeep_0 (by decide) ?_
  refine go_istore_n (pc := 1) C dX1_firstToWeep_1 [(2, .int 0), (0, .ref ((tq_la X).1 o 0)), (1, .int p1)] rfl (by decide) rfl ?_
  exact go_sub [1, 2, 0] rfl (wk_X1_firstToWeep_2 C hR ho 2000 _ _ _ hf)
set_option maxRecDepth 100000 in
set_option maxHeartbeats 4000000 in
theorem ok_X1_firstToWeep {o : Nat} {p1 : Int32} {S : tq_St} {K : Int32 → tq_St → Prop} (ho : o < 19) (hf : wp_X1_firstToWeep o p1 S K) : tq_Mi yX1_firstToWeep cX1_firstToWeep 3 (some .int) 2 (fun a z => [.ref (a.1 o 0), .int p1]) S K :=
  tq_mkI (by decide) (fun _ _ => Nat.le_of_ble_eq_true rfl) (fun X C hR => wk_X1_firstToWeep C hR ho hf)
set_option maxRecDepth 100000 in
set_option maxHeartbeats 4000000 in
theorem wk_X1_nearest_5 {X : tq_Cx} {o : Nat} {K : Int32 → tq_St → Prop} (C : tq_C X cX1_nearest 5 RX1 2) (hR : tq_Ri X cX1_nearest 5 K) (ho : o < 19) : ∀ (n : Nat) (v2 : Int32) (v3 : Int32) (v4 : Int32) (S : tq_St), wp_X1_nearest_5 o K n v2 v3 v4 S → Go X 5 S 5 [(0, .ref ((tq_la X).1 o 0)), (2, .int v2), (3, .int v3), (4, .int v4)] [] := by
  intro n
  induction n with
  | zero => intros; contradiction
  | succ n ih =>
    intro v2 v3 v4 S hf
    refine go_iload (pc := 5) C dX1_nearest_5 3 rfl ?_
    refine go_iconst (pc := 7) (v := 5) C dX1_nearest_7 (by decide) ?_
    refine go_ic_ge (pc := 8) C dX1_nearest_8 31 (by decide) (fun c1 => ?_) (fun c1 => ?_)
    · have hf := hf.1 c1
      refine go_bipush (pc := 31) (v := (-4)) C dX1_nearest_31 (by decide) ?_
      exact hR _ _ _ _ dX1_nearest_33 hf
    · have hf := hf.2 c1
      refine go_iload_n (pc := 11) C dX1_nearest_11 2 rfl rfl ?_
      refine go_iload_n (pc := 12) C dX1_nearest_12 1 rfl rfl ?_
      refine go_iadd (pc := 13) C dX1_nearest_13 ?_
      refine go_nI (fun x2 e3 => ?_)
      have hf := hf x2 e3
      refine go_istore_n (pc := 14) C dX1_nearest_14 [(3, .int x2), (0, .ref ((tq_la X).1 o 0)), (2, .int v2), (4, .int v4)] rfl (by decide) rfl ?_
      refine go_aload_n (pc := 15) C dX1_nearest_15 1 rfl rfl ?_
      refine go_iload_n (pc := 16) C dX1_nearest_16 0 rfl rfl ?_
      refine go_cVi (pc := 17) C cw_X1_75 (ok_X1_waits ho hf) (rc_X1 C ho) rfl rfl rfl (by decide) rfl dX1_nearest_17 (fun r4 S5 hf => ?_)
      refine go_if_eq (pc := 20) C dX1_nearest_20 25 (by decide) (fun c7 => ?_) (fun c7 => ?_)
      · have hf := hf.1 c7
        obtain ⟨x8, e9⟩ : ∃ q9 : Int32, q9 = v4 + 1 := ⟨_, rfl⟩
        refine go_iinc (pc := 25) (j := 3) (v := x8) C dX1_nearest_25 [(4, .int x8), (3, .int x2), (0, .ref ((tq_la X).1 o 0)), (2, .int v2)] rfl (by rw [e9]; rfl) (by decide) rfl ?_
        have hf := hf x8 e9
        refine go_goto (pc := 28) C dX1_nearest_28 5 (by decide) ?_
        exact go_sub [2, 3, 1, 0] rfl (ih _ _ _ _ hf)
      · have hf := hf.2 c7
        refine go_iload_n (pc := 23) C dX1_nearest_23 0 rfl rfl ?_
        exact hR _ _ _ _ dX1_nearest_24 hf
set_option maxRecDepth 100000 in
set_option maxHeartbeats 4000000 in
theorem wk_X1_nearest {X : tq_Cx} {o : Nat} {p1 : Int32} {p2 : Int32} {S : tq_St} {K : Int32 → tq_St → Prop} (C : tq_C X cX1_nearest 5 RX1 2) (hR : tq_Ri X cX1_nearest 5 K) (ho : o < 19) (hf : wp_X1_nearest o p1 p2 S K) : Go X 5 S 0 [(0, .ref ((tq_la X).1 o 0)), (1, .int p1), (2, .int p2)] [] := by
  refine go_iload_n (pc := 0) C dX1_nearest_0 1 rfl rfl ?_
  refine go_istore_n (pc := 1) C dX1_nearest_1 [(3, .int p1), (0, .ref ((tq_la X).1 o 0)), (1, .int p1), (2, .int p2)] rfl (by decide) rfl ?_
  refine go_iconst (pc := 2) (v := 0) C dX1_nearest_2 (by decide) ?_
  refine go_istore (pc := 3) C dX1_nearest_3 [(4, .int 0), (3, .int p1), (0, .ref ((tq_la X).1 o 0)), (1, .int p1), (2, .int p2)] (by decide) rfl ?_
  exact go_sub [2, 4, 1, 0] rfl (wk_X1_nearest_5 C hR ho 2000 _ _ _ _ hf)
set_option maxRecDepth 100000 in
set_option maxHeartbeats 4000000 in
theorem ok_X1_nearest {o : Nat} {p1 : Int32} {p2 : Int32} {S : tq_St} {K : Int32 → tq_St → Prop} (ho : o < 19) (hf : wp_X1_nearest o p1 p2 S K) : tq_Mi yX1_nearest cX1_nearest 5 (some .int) 2 (fun a z => [.ref (a.1 o 0), .int p1, .int p2]) S K :=
  tq_mkI (by decide) (fun _ _ => Nat.le_of_ble_eq_true rfl) (fun X C hR => wk_X1_nearest C hR ho hf)
set_option maxRecDepth 100000 in
set_option maxHeartbeats 4000000 in
theorem wk_X1_weep {X : tq_Cx} {o : Nat} {p1 : Int32} {S : tq_St} {K : tq_St → Prop} (C : tq_C X cX1_weep 2 RX1 3) (hR : tq_Rv X cX1_weep 2 K) (ho : o < 19) (hf : wp_X1_weep o p1 S K) : Go X 2 S 0 [(0, .ref ((tq_la X).1 o 0)), (1, .int p1)] [] := by
  refine go_aload_n (pc := 0) C dX1_weep_0 0 rfl rfl ?_
  refine ge_X1_X1_2 (pc := 1) C ho dX1_weep_1 ?_
  refine go_iload_n (pc := 4) C dX1_weep_4 1 rfl rfl ?_
  refine go_aload_n (pc := 5) C dX1_weep_5 0 rfl rfl ?_
  refine ge_X1_X1_7 (pc := 6) C ho dX1_weep_6 ?_
  refine as_X1_2 (pc := 9) C ho hf.1 dX1_weep_9 (fun S1 e2 => ?_)
  have hf := hf.2 S1 e2
  refine go_aload_n (pc := 10) C dX1_weep_10 0 rfl rfl ?_
  refine ge_X1_X1_1 (pc := 11) C ho dX1_weep_11 ?_
  refine go_iload_n (pc := 14) C dX1_weep_14 1 rfl rfl ?_
  refine go_iconst (pc := 15) (v := 0) C dX1_weep_15 (by decide) ?_
  refine as_X1_1 (pc := 16) C ho hf.1 dX1_weep_16 (fun S3 e4 => ?_)
  have hf := hf.2 S3 e4
  refine go_aload_n (pc := 17) C dX1_weep_17 0 rfl rfl ?_
  refine go_aload_n (pc := 18) C dX1_weep_18 0 rfl rfl ?_
  refine go_iload_n (pc := 19) C dX1_weep_19 1 rfl rfl ?_
  refine go_iconst (pc := 20) (v := (-1)) C dX1_weep_20 (by decide) ?_
  refine go_cVi (pc := 21) C cw_X1_114 (ok_X1_nearest ho hf) (rc_X1 C ho) rfl rfl rfl (by decide) rfl dX1_weep_21 (fun r5 S6 hf => ?_)
  refine go_iconst (pc := 24) (v := 2) C dX1_weep_24 (by decide) ?_
  refine go_cVv (pc := 25) C cw_X1_95 (ok_X1_sadden ho hf) (rc_X1 C ho) rfl rfl rfl (by decide) rfl dX1_weep_25 (fun S9 hf => ?_)
  refine go_aload_n (pc := 28) C dX1_weep_28 0 rfl rfl ?_
  refine go_aload_n (pc := 29) C dX1_weep_29 0 rfl rfl ?_
  refine go_iload_n (pc := 30) C dX1_weep_30 1 rfl rfl ?_
  refine go_iconst (pc := 31) (v := 1) C dX1_weep_31 (by decide) ?_
  refine go_cVi (pc := 32) C cw_X1_114 (ok_X1_nearest ho hf) (rc_X1 C ho) rfl rfl rfl (by decide) rfl dX1_weep_32 (fun r11 S12 hf => ?_)
  refine go_iconst (pc := 35) (v := 2) C dX1_weep_35 (by decide) ?_
  refine go_cVv (pc := 36) C cw_X1_95 (ok_X1_sadden ho hf) (rc_X1 C ho) rfl rfl rfl (by decide) rfl dX1_weep_36 (fun S15 hf => ?_)
  exact hR _ _ _ dX1_weep_39 hf
set_option maxRecDepth 100000 in
set_option maxHeartbeats 4000000 in
theorem ok_X1_weep {o : Nat} {p1 : Int32} {S : tq_St} {K : tq_St → Prop} (ho : o < 19) (hf : wp_X1_weep o p1 S K) : tq_Mv yX1_weep cX1_weep 2 none 3 (fun a z => [.ref (a.1 o 0), .int p1]) S K :=
  tq_mkV (by decide) (fun _ _ => Nat.le_of_ble_eq_true rfl) (fun X C hR => wk_X1_weep C hR ho hf)
set_option maxRecDepth 100000 in
set_option maxHeartbeats 4000000 in
theorem wk_X1_thinkAndWeep_57 {X : tq_Cx} {o : Nat} {K : Int32 → tq_St → Prop} (C : tq_C X cX1_thinkAndWeep 5 RX1 4) (hR : tq_Ri X cX1_thinkAndWeep 5 K) (ho : o < 19) : ∀ (v2 : Int32) (S : tq_St), wp_X1_thinkAndWeep_57 o K v2 S → Go X 5 S 57 [(0, .ref ((tq_la X).1 o 0)), (2, .int v2)] [] := by
  intro v2 S hf
  refine go_aload_n (pc := 57) C dX1_thinkAndWeep_57 0 rfl rfl ?_
  refine go_dup (pc := 58) C dX1_thinkAndWeep_58 rfl ?_
  refine ge_X1_X1_11 (pc := 59) C ho dX1_thinkAndWeep_59 ?_
  refine go_iload_n (pc := 62) C dX1_thinkAndWeep_62 1 rfl rfl ?_
  refine go_ior (pc := 63) C dX1_thinkAndWeep_63 ?_
  refine pu_X1_X1_11 (pc := 64) C ho dX1_thinkAndWeep_64 (fun S5 e6 => ?_)
  have hf := hf S5 e6
  refine go_aload_n (pc := 67) C dX1_thinkAndWeep_67 0 rfl rfl ?_
  refine go_dup (pc := 68) C dX1_thinkAndWeep_68 rfl ?_
  refine ge_X1_X1_12 (pc := 69) C ho dX1_thinkAndWeep_69 ?_
  refine go_iload_n (pc := 72) C dX1_thinkAndWeep_72 1 rfl rfl ?_
  refine go_cSi (pc := 73) C cs_X1_106 (ok_J6_bitCount_0f7a4 hf) rfl rfl rfl (by decide) rfl dX1_thinkAndWeep_73 (fun r7 S8 hf => ?_)
  refine go_iadd (pc := 76) C dX1_thinkAndWeep_76 ?_
  refine pu_X1_X1_12 (pc := 77) C ho dX1_thinkAndWeep_77 (fun S10 e11 => ?_)
  have hf := hf S10 e11
  refine go_iload_n (pc := 80) C dX1_thinkAndWeep_80 1 rfl rfl ?_
  exact hR _ _ _ _ dX1_thinkAndWeep_81 hf
set_option maxRecDepth 100000 in
set_option maxHeartbeats 4000000 in
theorem wk_X1_thinkAndWeep_13 {X : tq_Cx} {o : Nat} {K : Int32 → tq_St → Prop} (C : tq_C X cX1_thinkAndWeep 5 RX1 4) (hR : tq_Ri X cX1_thinkAndWeep 5 K) (ho : o < 19) : ∀ (n : Nat) (v2 : Int32) (v3 : Int32) (S : tq_St), wp_X1_thinkAndWeep_13 o K n v2 v3 S → Go X 5 S 13 [(0, .ref ((tq_la X).1 o 0)), (2, .int v2), (3, .int v3)] [] := by
  intro n
  induction n with
  | zero => intros; contradiction
  | succ n ih =>
    intro v2 v3 S hf
    refine go_iload_n (pc := 13) C dX1_thinkAndWeep_13 2 rfl rfl ?_
    refine go_aload_n (pc := 14) C dX1_thinkAndWeep_14 0 rfl rfl ?_
    refine ge_X1_X1_5 (pc := 15) C ho dX1_thinkAndWeep_15 ?_
    refine go_ic_ge (pc := 18) C dX1_thinkAndWeep_18 57 (by decide) (fun c4 => ?_) (fun c4 => ?_)
    · have hf := hf.1 c4
      exact go_sub [0, 1] rfl (wk_X1_thinkAndWeep_57 C hR ho _ _ hf)
    · have hf := hf.2 c4
      refine go_aload_n (pc := 21) C dX1_thinkAndWeep_21 0 rfl rfl ?_
      refine go_iload_n (pc := 22) C dX1_thinkAndWeep_22 1 rfl rfl ?_
      refine go_cVi (pc := 23) C cw_X1_99 (ok_X1_firstToWeep ho hf) (rc_X1 C ho) rfl rfl rfl (by decide) rfl dX1_thinkAndWeep_23 (fun r12 S13 hf => ?_)
      refine go_istore (pc := 26) C dX1_thinkAndWeep_26 [(4, .int r12), (0, .ref ((tq_la X).1 o 0)), (2, .int v2), (3, .int v3)] (by decide) rfl ?_
      refine go_iload (pc := 28) C dX1_thinkAndWeep_28 0 rfl ?_
      refine go_bipush (pc := 30) (v := (-4)) C dX1_thinkAndWeep_30 (by decide) ?_
      refine go_ic_ne (pc := 32) C dX1_thinkAndWeep_32 38 (by decide) (fun c15 => ?_) (fun c15 => ?_)
      · have hf := hf.1 c15
        refine go_aload_n (pc := 38) C dX1_thinkAndWeep_38 1 rfl rfl ?_
        refine go_iload (pc := 39) C dX1_thinkAndWeep_39 0 rfl ?_
        refine go_cVv (pc := 41) C cw_X1_102 (ok_X1_weep ho hf) (rc_X1 C ho) rfl rfl rfl (by decide) rfl dX1_thinkAndWeep_41 (fun S17 hf => ?_)
        refine go_iload_n (pc := 44) C dX1_thinkAndWeep_44 2 rfl rfl ?_
        refine go_iconst (pc := 45) (v := 1) C dX1_thinkAndWeep_45 (by decide) ?_
        refine go_iload (pc := 46) C dX1_thinkAndWeep_46 0 rfl ?_
        refine go_ishl (pc := 48) C dX1_thinkAndWeep_48 ?_
        refine go_ior (pc := 49) C dX1_thinkAndWeep_49 ?_
        refine go_nI (fun x19 e20 => ?_)
        have hf := hf x19 e20
        refine go_istore_n (pc := 50) C dX1_thinkAndWeep_50 [(2, .int x19), (4, .int r12), (0, .ref ((tq_la X).1 o 0)), (3, .int v3)] rfl (by decide) rfl ?_
        obtain ⟨x21, e22⟩ : ∃ q9 : Int32, q9 = v3 + 1 := ⟨_, rfl⟩
        refine go_iinc (pc := 51) (j := 3) (v := x21) C dX1_thinkAndWeep_51 [(3, .int x21), (2, .int x19), (4, .int r12), (0, .ref ((tq_la X).1 o 0))] rfl (by rw [e22]; rfl) (by decide) rfl ?_
        have hf := hf x21 e22
        refine go_goto (pc := 54) C dX1_thinkAndWeep_54 13 (by decide) ?_
        exact go_sub [3, 1, 0] rfl (ih _ _ _ hf)
      · have hf := hf.2 c15
        refine go_goto (pc := 35) C dX1_thinkAndWeep_35 57 (by decide) ?_
        exact go_sub [1, 2] rfl (wk_X1_thinkAndWeep_57 C hR ho _ _ hf)
set_option maxRecDepth 100000 in
set_option maxHeartbeats 4000000 in
theorem wk_X1_thinkAndWeep {X : tq_Cx} {o : Nat} {p1 : Int32} {S : tq_St} {K : Int32 → tq_St → Prop} (C : tq_C X cX1_thinkAndWeep 5 RX1 4) (hR : tq_Ri X cX1_thinkAndWeep 5 K) (ho : o < 19) (hf : wp_X1_thinkAndWeep o p1 S K) : Go X 5 S 0 [(0, .ref ((tq_la X).1 o 0)), (1, .int p1)] [] := by
  refine go_aload_n (pc := 0) C dX1_thinkAndWeep_0 0 rfl rfl ?_
  refine go_iload_n (pc := 1) C dX1_thinkAndWeep_1 1 rfl rfl ?_
  refine go_aload_n (pc := 2) C dX1_thinkAndWeep_2 0 rfl rfl ?_
  refine ge_X1_X1_9 (pc := 3) C ho dX1_thinkAndWeep_3 ?_
  refine go_cVv (pc := 6) C cw_X1_95 (ok_X1_sadden ho hf) (rc_X1 C ho) rfl rfl rfl (by decide) rfl dX1_thinkAndWeep_6 (fun S2 hf => ?_)
  refine go_iconst (pc := 9) (v := 0) C dX1_thinkAndWeep_9 (by decide) ?_
  refine go_istore_n (pc := 10) C dX1_thinkAndWeep_10 [(2, .int 0), (0, .ref ((tq_la X).1 o 0)), (1, .int p1)] rfl (by decide) rfl ?_
  refine go_iconst (pc := 11) (v := 0) C dX1_thinkAndWeep_11 (by decide) ?_
  refine go_istore_n (pc := 12) C dX1_thinkAndWeep_12 [(3, .int 0), (2, .int 0), (0, .ref ((tq_la X).1 o 0)), (1, .int p1)] rfl (by decide) rfl ?_
  exact go_sub [2, 1, 0] rfl (wk_X1_thinkAndWeep_13 C hR ho 2000 _ _ _ hf)
set_option maxRecDepth 100000 in
set_option maxHeartbeats 4000000 in
theorem ok_X1_thinkAndWeep {o : Nat} {p1 : Int32} {S : tq_St} {K : Int32 → tq_St → Prop} (ho : o < 19) (hf : wp_X1_thinkAndWeep o p1 S K) : tq_Mi yX1_thinkAndWeep cX1_thinkAndWeep 5 (some .int) 4 (fun a z => [.ref (a.1 o 0), .int p1]) S K :=
  tq_mkI (by decide) (fun _ _ => Nat.le_of_ble_eq_true rfl) (fun X C hR => wk_X1_thinkAndWeep C hR ho hf)
set_option maxRecDepth 100000 in
set_option maxHeartbeats 4000000 in
theorem wk_X1_play {X : tq_Cx} {o : Nat} {p1 : Int32} {S : tq_St} {K : Int32 → tq_St → Prop} (C : tq_C X cX1_play 2 RX1 5) (hR : tq_Rz X cX1_play 2 K) (ho : o < 19) (hf : wp_X1_play o p1 S K) : Go X 2 S 0 [(0, .ref ((tq_la X).1 o 0)), (1, .int p1)] [] := by
  refine go_iload_n (pc := 0) C dX1_play_0 1 rfl rfl ?_
  refine go_iconst (pc := 1) (v := 5) C dX1_play_1 (by decide) ?_
  refine go_ic_ne (pc := 2) C dX1_play_2 11 (by decide) (fun c1 => ?_) (fun c1 => ?_)
  · have hf := hf.1 c1
    refine go_iload_n (pc := 11) C dX1_play_11 1 rfl rfl ?_
    refine go_bipush (pc := 12) (v := 6) C dX1_play_12 (by decide) ?_
    refine go_ic_ne (pc := 14) C dX1_play_14 24 (by decide) (fun c2 => ?_) (fun c2 => ?_)
    · have hf := hf.1 c2
      refine go_aload_n (pc := 24) C dX1_play_24 0 rfl rfl ?_
      refine go_iload_n (pc := 25) C dX1_play_25 1 rfl rfl ?_
      refine go_cVi (pc := 26) C cw_X1_75 (ok_X1_waits ho hf) (rc_X1 C ho) rfl rfl rfl (by decide) rfl dX1_play_26 (fun r3 S4 hf => ?_)
      refine go_if_ne (pc := 29) C dX1_play_29 34 (by decide) (fun c6 => ?_) (fun c6 => ?_)
      · have hf := hf.1 c6
        refine go_aload_n (pc := 34) C dX1_play_34 0 rfl rfl ?_
        refine go_iload_n (pc := 35) C dX1_play_35 1 rfl rfl ?_
        refine go_cVi (pc := 36) C cw_X1_91 (ok_X1_thinkAndWeep ho hf) (rc_X1 C ho) rfl rfl rfl (by decide) rfl dX1_play_36 (fun r7 S8 hf => ?_)
        refine go_pop (pc := 39) C dX1_play_39 rfl ?_
        refine go_iconst (pc := 40) (v := 1) C dX1_play_40 (by decide) ?_
        exact hR _ _ _ _ dX1_play_41 (Or.inr rfl) hf
      · have hf := hf.2 c6
        refine go_iconst (pc := 32) (v := 0) C dX1_play_32 (by decide) ?_
        exact hR _ _ _ _ dX1_play_33 (Or.inl rfl) hf
    · have hf := hf.2 c2
      refine go_aload_n (pc := 17) C dX1_play_17 0 rfl rfl ?_
      refine go_cVi (pc := 18) C cw_X1_87 (ok_X1_board ho hf) (rc_X1 C ho) rfl rfl rfl (by decide) rfl dX1_play_18 (fun r10 S11 hf => ?_)
      refine go_pop (pc := 21) C dX1_play_21 rfl ?_
      refine go_iconst (pc := 22) (v := 1) C dX1_play_22 (by decide) ?_
      exact hR _ _ _ _ dX1_play_23 (Or.inr rfl) hf
  · have hf := hf.2 c1
    refine go_aload_n (pc := 5) C dX1_play_5 0 rfl rfl ?_
    refine go_cVv (pc := 6) C cw_X1_84 (ok_X1_dry ho hf) (rc_X1 C ho) rfl rfl rfl (by decide) rfl dX1_play_6 (fun S14 hf => ?_)
    refine go_iconst (pc := 9) (v := 1) C dX1_play_9 (by decide) ?_
    exact hR _ _ _ _ dX1_play_10 (Or.inr rfl) hf
set_option maxRecDepth 100000 in
set_option maxHeartbeats 4000000 in
theorem ok_X1_play {o : Nat} {p1 : Int32} {S : tq_St} {K : Int32 → tq_St → Prop} (ho : o < 19) (hf : wp_X1_play o p1 S K) : tq_Mi yX1_play cX1_play 2 (some .boolean) 5 (fun a z => [.ref (a.1 o 0), .int p1]) S K :=
  tq_mkZ (by decide) (fun _ _ => Nat.le_of_ble_eq_true rfl) (fun X C hR => wk_X1_play C hR ho hf)
set_option maxRecDepth 100000 in
set_option maxHeartbeats 4000000 in
theorem wk_X1_followPlan_2 {X : tq_Cx} {o : Nat} {K : tq_St → Prop} (C : tq_C X cX1_followPlan 2 RX1 6) (hR : tq_Rv X cX1_followPlan 2 K) (ho : o < 19) : ∀ (n : Nat) (v1 : Int32) (S : tq_St), wp_X1_followPlan_2 o K n v1 S → Go X 2 S 2 [(0, .ref ((tq_la X).1 o 0)), (1, .int v1)] [] := by
  intro n
  induction n with
  | zero => intros; contradiction
  | succ n ih =>
    intro v1 S hf
    refine go_iload_n (pc := 2) C dX1_followPlan_2 1 rfl rfl ?_
    refine go_aload_n (pc := 3) C dX1_followPlan_3 0 rfl rfl ?_
    refine ge_X1_X1_10 (pc := 4) C ho dX1_followPlan_4 ?_
    refine go_ic_ge (pc := 7) C dX1_followPlan_7 43 (by decide) (fun c1 => ?_) (fun c1 => ?_)
    · have hf := hf.1 c1
      exact hR _ _ _ dX1_followPlan_43 hf
    · have hf := hf.2 c1
      refine go_aload_n (pc := 10) C dX1_followPlan_10 0 rfl rfl ?_
      refine go_aload_n (pc := 11) C dX1_followPlan_11 0 rfl rfl ?_
      refine ge_X1_X1_3 (pc := 12) C ho dX1_followPlan_12 ?_
      refine go_iload_n (pc := 15) C dX1_followPlan_15 1 rfl rfl ?_
      refine al_X1_3 (pc := 16) C ho hf.1 dX1_followPlan_16 ?_
      have hf := hf.2
      refine go_cVi (pc := 17) C cw_X1_81 (ok_X1_play ho hf) (rc_X1 C ho) rfl rfl rfl (by decide) rfl dX1_followPlan_17 (fun r2 S3 hf => ?_)
      refine go_if_ne (pc := 20) C dX1_followPlan_20 37 (by decide) (fun c5 => ?_) (fun c5 => ?_)
      · have hf := hf.1 c5
        obtain ⟨x6, e7⟩ : ∃ q9 : Int32, q9 = v1 + 1 := ⟨_, rfl⟩
        refine go_iinc (pc := 37) (j := 1) (v := x6) C dX1_followPlan_37 [(1, .int x6), (0, .ref ((tq_la X).1 o 0))] rfl (by rw [e7]; rfl) (by decide) rfl ?_
        have hf := hf x6 e7
        refine go_goto (pc := 40) C dX1_followPlan_40 2 (by decide) ?_
        exact go_sub [1, 0] rfl (ih _ _ hf)
      · have hf := hf.2 c5
        refine go_aload_n (pc := 23) C dX1_followPlan_23 0 rfl rfl ?_
        refine ge_X1_X1_13 (pc := 24) C ho dX1_followPlan_24 ?_
        refine go_bipush (pc := 27) (v := (-4)) C dX1_followPlan_27 (by decide) ?_
        refine go_ic_ne (pc := 29) C dX1_followPlan_29 37 (by decide) (fun c8 => ?_) (fun c8 => ?_)
        · have hf := hf.1 c8
          obtain ⟨x9, e10⟩ : ∃ q9 : Int32, q9 = v1 + 1 := ⟨_, rfl⟩
          refine go_iinc (pc := 37) (j := 1) (v := x9) C dX1_followPlan_37 [(1, .int x9), (0, .ref ((tq_la X).1 o 0))] rfl (by rw [e10]; rfl) (by decide) rfl ?_
          have hf := hf x9 e10
          refine go_goto (pc := 40) C dX1_followPlan_40 2 (by decide) ?_
          exact go_sub [1, 0] rfl (ih _ _ hf)
        · have hf := hf.2 c8
          refine go_aload_n (pc := 32) C dX1_followPlan_32 0 rfl rfl ?_
          refine go_iload_n (pc := 33) C dX1_followPlan_33 1 rfl rfl ?_
          refine pu_X1_X1_13 (pc := 34) C ho dX1_followPlan_34 (fun S11 e12 => ?_)
          have hf := hf S11 e12
          obtain ⟨x13, e14⟩ : ∃ q9 : Int32, q9 = v1 + 1 := ⟨_, rfl⟩
          refine go_iinc (pc := 37) (j := 1) (v := x13) C dX1_followPlan_37 [(1, .int x13), (0, .ref ((tq_la X).1 o 0))] rfl (by rw [e14]; rfl) (by decide) rfl ?_
          have hf := hf x13 e14
          refine go_goto (pc := 40) C dX1_followPlan_40 2 (by decide) ?_
          exact go_sub [1, 0] rfl (ih _ _ hf)
set_option maxRecDepth 100000 in
set_option maxHeartbeats 4000000 in
theorem wk_X1_followPlan {X : tq_Cx} {o : Nat} {S : tq_St} {K : tq_St → Prop} (C : tq_C X cX1_followPlan 2 RX1 6) (hR : tq_Rv X cX1_followPlan 2 K) (ho : o < 19) (hf : wp_X1_followPlan o S K) : Go X 2 S 0 [(0, .ref ((tq_la X).1 o 0))] [] := by
  refine go_iconst (pc := 0) (v := 0) C dX1_followPlan_0 (by decide) ?_
  refine go_istore_n (pc := 1) C dX1_followPlan_1 [(1, .int 0), (0, .ref ((tq_la X).1 o 0))] rfl (by decide) rfl ?_
  exact go_sub [1, 0] rfl (wk_X1_followPlan_2 C hR ho 2000 _ _ hf)
set_option maxRecDepth 100000 in
set_option maxHeartbeats 4000000 in
theorem ok_X1_followPlan {o : Nat} {S : tq_St} {K : tq_St → Prop} (ho : o < 19) (hf : wp_X1_followPlan o S K) : tq_Mv yX1_followPlan cX1_followPlan 2 none 6 (fun a z => [.ref (a.1 o 0)]) S K :=
  tq_mkV (by decide) (fun _ _ => Nat.le_of_ble_eq_true rfl) (fun X C hR => wk_X1_followPlan C hR ho hf)
set_option maxRecDepth 100000 in
set_option maxHeartbeats 4000000 in
theorem wk_X1_weptOrNone {X : tq_Cx} {o : Nat} {p1 : Int32} {S : tq_St} {K : Int32 → tq_St → Prop} (C : tq_C X cX1_weptOrNone 2 RX1 1) (hR : tq_Ri X cX1_weptOrNone 2 K) (ho : o < 19) (hf : wp_X1_weptOrNone o p1 S K) : Go X 2 S 0 [(0, .ref ((tq_la X).1 o 0)), (1, .int p1)] [] := by
  refine go_aload_n (pc := 0) C dX1_weptOrNone_0 0 rfl rfl ?_
  refine ge_X1_X1_2 (pc := 1) C ho dX1_weptOrNone_1 ?_
  refine go_iload_n (pc := 4) C dX1_weptOrNone_4 1 rfl rfl ?_
  refine al_X1_2 (pc := 5) C ho hf.1 dX1_weptOrNone_5 ?_
  have hf := hf.2
  refine go_iconst (pc := 6) (v := (-1)) C dX1_weptOrNone_6 (by decide) ?_
  refine go_ic_ne (pc := 7) C dX1_weptOrNone_7 15 (by decide) (fun c1 => ?_) (fun c1 => ?_)
  · have hf := hf.1 c1
    refine go_aload_n (pc := 15) C dX1_weptOrNone_15 0 rfl rfl ?_
    refine ge_X1_X1_2 (pc := 16) C ho dX1_weptOrNone_16 ?_
    refine go_iload_n (pc := 19) C dX1_weptOrNone_19 1 rfl rfl ?_
    refine al_X1_2 (pc := 20) C ho hf.1 dX1_weptOrNone_20 ?_
    have hf := hf.2
    exact hR _ _ _ _ dX1_weptOrNone_21 hf
  · have hf := hf.2 c1
    refine go_bipush (pc := 10) (v := (-4)) C dX1_weptOrNone_10 (by decide) ?_
    refine go_goto (pc := 12) C dX1_weptOrNone_12 21 (by decide) ?_
    exact hR _ _ _ _ dX1_weptOrNone_21 hf
set_option maxRecDepth 100000 in
set_option maxHeartbeats 4000000 in
theorem ok_X1_weptOrNone {o : Nat} {p1 : Int32} {S : tq_St} {K : Int32 → tq_St → Prop} (ho : o < 19) (hf : wp_X1_weptOrNone o p1 S K) : tq_Mi yX1_weptOrNone cX1_weptOrNone 2 (some .int) 1 (fun a z => [.ref (a.1 o 0), .int p1]) S K :=
  tq_mkI (by decide) (fun _ _ => Nat.le_of_ble_eq_true rfl) (fun X C hR => wk_X1_weptOrNone C hR ho hf)
set_option maxRecDepth 100000 in
set_option maxHeartbeats 4000000 in
theorem wk_X1_everWept_4 {X : tq_Cx} {o : Nat} {K : Int32 → tq_St → Prop} (C : tq_C X cX1_everWept 3 RX1 1) (hR : tq_Ri X cX1_everWept 3 K) (ho : o < 19) : ∀ (n : Nat) (v1 : Int32) (v2 : Int32) (S : tq_St), wp_X1_everWept_4 o K n v1 v2 S → Go X 3 S 4 [(0, .ref ((tq_la X).1 o 0)), (1, .int v1), (2, .int v2)] [] := by
  intro n
  induction n with
  | zero => intros; contradiction
  | succ n ih =>
    intro v1 v2 S hf
    refine go_iload_n (pc := 4) C dX1_everWept_4 2 rfl rfl ?_
    refine go_aload_n (pc := 5) C dX1_everWept_5 0 rfl rfl ?_
    refine ge_X1_X1_5 (pc := 6) C ho dX1_everWept_6 ?_
    refine go_ic_ge (pc := 9) C dX1_everWept_9 31 (by decide) (fun c1 => ?_) (fun c1 => ?_)
    · have hf := hf.1 c1
      refine go_iload_n (pc := 31) C dX1_everWept_31 1 rfl rfl ?_
      exact hR _ _ _ _ dX1_everWept_32 hf
    · have hf := hf.2 c1
      refine go_aload_n (pc := 12) C dX1_everWept_12 0 rfl rfl ?_
      refine ge_X1_X1_2 (pc := 13) C ho dX1_everWept_13 ?_
      refine go_iload_n (pc := 16) C dX1_everWept_16 2 rfl rfl ?_
      refine al_X1_2 (pc := 17) C ho hf.1 dX1_everWept_17 ?_
      have hf := hf.2
      refine go_iconst (pc := 18) (v := (-1)) C dX1_everWept_18 (by decide) ?_
      refine go_ic_eq (pc := 19) C dX1_everWept_19 25 (by decide) (fun c2 => ?_) (fun c2 => ?_)
      · have hf := hf.1 c2
        obtain ⟨x3, e4⟩ : ∃ q9 : Int32, q9 = v2 + 1 := ⟨_, rfl⟩
        refine go_iinc (pc := 25) (j := 2) (v := x3) C dX1_everWept_25 [(2, .int x3), (0, .ref ((tq_la X).1 o 0)), (1, .int v1)] rfl (by rw [e4]; rfl) (by decide) rfl ?_
        have hf := hf x3 e4
        refine go_goto (pc := 28) C dX1_everWept_28 4 (by decide) ?_
        exact go_sub [1, 2, 0] rfl (ih _ _ _ hf)
      · have hf := hf.2 c2
        obtain ⟨x5, e6⟩ : ∃ q9 : Int32, q9 = v1 + 1 := ⟨_, rfl⟩
        refine go_iinc (pc := 22) (j := 1) (v := x5) C dX1_everWept_22 [(1, .int x5), (0, .ref ((tq_la X).1 o 0)), (2, .int v2)] rfl (by rw [e6]; rfl) (by decide) rfl ?_
        have hf := hf x5 e6
        obtain ⟨x7, e8⟩ : ∃ q9 : Int32, q9 = v2 + 1 := ⟨_, rfl⟩
        refine go_iinc (pc := 25) (j := 2) (v := x7) C dX1_everWept_25 [(2, .int x7), (1, .int x5), (0, .ref ((tq_la X).1 o 0))] rfl (by rw [e8]; rfl) (by decide) rfl ?_
        have hf := hf x7 e8
        refine go_goto (pc := 28) C dX1_everWept_28 4 (by decide) ?_
        exact go_sub [2, 1, 0] rfl (ih _ _ _ hf)
set_option maxRecDepth 100000 in
set_option maxHeartbeats 4000000 in
theorem wk_X1_everWept {X : tq_Cx} {o : Nat} {S : tq_St} {K : Int32 → tq_St → Prop} (C : tq_C X cX1_everWept 3 RX1 1) (hR : tq_Ri X cX1_everWept 3 K) (ho : o < 19) (hf : wp_X1_everWept o S K) : Go X 3 S 0 [(0, .ref ((tq_la X).1 o 0))] [] := by
  refine go_iconst (pc := 0) (v := 0) C dX1_everWept_0 (by decide) ?_
  refine go_istore_n (pc := 1) C dX1_everWept_1 [(1, .int 0), (0, .ref ((tq_la X).1 o 0))] rfl (by decide) rfl ?_
  refine go_iconst (pc := 2) (v := 0) C dX1_everWept_2 (by decide) ?_
  refine go_istore_n (pc := 3) C dX1_everWept_3 [(2, .int 0), (1, .int 0), (0, .ref ((tq_la X).1 o 0))] rfl (by decide) rfl ?_
  exact go_sub [2, 1, 0] rfl (wk_X1_everWept_4 C hR ho 2000 _ _ _ hf)
set_option maxRecDepth 100000 in
set_option maxHeartbeats 4000000 in
theorem ok_X1_everWept {o : Nat} {S : tq_St} {K : Int32 → tq_St → Prop} (ho : o < 19) (hf : wp_X1_everWept o S K) : tq_Mi yX1_everWept cX1_everWept 3 (some .int) 1 (fun a z => [.ref (a.1 o 0)]) S K :=
  tq_mkI (by decide) (fun _ _ => Nat.le_of_ble_eq_true rfl) (fun X C hR => wk_X1_everWept C hR ho hf)
set_option maxRecDepth 100000 in
set_option maxHeartbeats 4000000 in
theorem wk_X1_tramsPlanned_4 {X : tq_Cx} {o : Nat} {K : Int32 → tq_St → Prop} (C : tq_C X cX1_tramsPlanned 3 RX1 1) (hR : tq_Ri X cX1_tramsPlanned 3 K) (ho : o < 19) : ∀ (n : Nat) (v1 : Int32) (v2 : Int32) (S : tq_St), wp_X1_tramsPlanned_4 o K n v1 v2 S → Go X 3 S 4 [(0, .ref ((tq_la X).1 o 0)), (1, .int v1), (2, .int v2)] [] := by
  intro n
  induction n with
  | zero => intros; contradiction
  | succ n ih =>
    intro v1 v2 S hf
    refine go_iload_n (pc := 4) C dX1_tramsPlanned_4 2 rfl rfl ?_
    refine go_aload_n (pc := 5) C dX1_tramsPlanned_5 0 rfl rfl ?_
    refine ge_X1_X1_10 (pc := 6) C ho dX1_tramsPlanned_6 ?_
    refine go_ic_ge (pc := 9) C dX1_tramsPlanned_9 32 (by decide) (fun c1 => ?_) (fun c1 => ?_)
    · have hf := hf.1 c1
      refine go_iload_n (pc := 32) C dX1_tramsPlanned_32 1 rfl rfl ?_
      exact hR _ _ _ _ dX1_tramsPlanned_33 hf
    · have hf := hf.2 c1
      refine go_aload_n (pc := 12) C dX1_tramsPlanned_12 0 rfl rfl ?_
      refine ge_X1_X1_3 (pc := 13) C ho dX1_tramsPlanned_13 ?_
      refine go_iload_n (pc := 16) C dX1_tramsPlanned_16 2 rfl rfl ?_
      refine al_X1_3 (pc := 17) C ho hf.1 dX1_tramsPlanned_17 ?_
      have hf := hf.2
      refine go_bipush (pc := 18) (v := 6) C dX1_tramsPlanned_18 (by decide) ?_
      refine go_ic_ne (pc := 20) C dX1_tramsPlanned_20 26 (by decide) (fun c2 => ?_) (fun c2 => ?_)
      · have hf := hf.1 c2
        obtain ⟨x3, e4⟩ : ∃ q9 : Int32, q9 = v2 + 1 := ⟨_, rfl⟩
        refine go_iinc (pc := 26) (j := 2) (v := x3) C dX1_tramsPlanned_26 [(2, .int x3), (0, .ref ((tq_la X).1 o 0)), (1, .int v1)] rfl (by rw [e4]; rfl) (by decide) rfl ?_
        have hf := hf x3 e4
        refine go_goto (pc := 29) C dX1_tramsPlanned_29 4 (by decide) ?_
        exact go_sub [1, 2, 0] rfl (ih _ _ _ hf)
      · have hf := hf.2 c2
        obtain ⟨x5, e6⟩ : ∃ q9 : Int32, q9 = v1 + 1 := ⟨_, rfl⟩
        refine go_iinc (pc := 23) (j := 1) (v := x5) C dX1_tramsPlanned_23 [(1, .int x5), (0, .ref ((tq_la X).1 o 0)), (2, .int v2)] rfl (by rw [e6]; rfl) (by decide) rfl ?_
        have hf := hf x5 e6
        obtain ⟨x7, e8⟩ : ∃ q9 : Int32, q9 = v2 + 1 := ⟨_, rfl⟩
        refine go_iinc (pc := 26) (j := 2) (v := x7) C dX1_tramsPlanned_26 [(2, .int x7), (1, .int x5), (0, .ref ((tq_la X).1 o 0))] rfl (by rw [e8]; rfl) (by decide) rfl ?_
        have hf := hf x7 e8
        refine go_goto (pc := 29) C dX1_tramsPlanned_29 4 (by decide) ?_
        exact go_sub [2, 1, 0] rfl (ih _ _ _ hf)
set_option maxRecDepth 100000 in
set_option maxHeartbeats 4000000 in
theorem wk_X1_tramsPlanned {X : tq_Cx} {o : Nat} {S : tq_St} {K : Int32 → tq_St → Prop} (C : tq_C X cX1_tramsPlanned 3 RX1 1) (hR : tq_Ri X cX1_tramsPlanned 3 K) (ho : o < 19) (hf : wp_X1_tramsPlanned o S K) : Go X 3 S 0 [(0, .ref ((tq_la X).1 o 0))] [] := by
  refine go_iconst (pc := 0) (v := 0) C dX1_tramsPlanned_0 (by decide) ?_
  refine go_istore_n (pc := 1) C dX1_tramsPlanned_1 [(1, .int 0), (0, .ref ((tq_la X).1 o 0))] rfl (by decide) rfl ?_
  refine go_iconst (pc := 2) (v := 0) C dX1_tramsPlanned_2 (by decide) ?_
  refine go_istore_n (pc := 3) C dX1_tramsPlanned_3 [(2, .int 0), (1, .int 0), (0, .ref ((tq_la X).1 o 0))] rfl (by decide) rfl ?_
  exact go_sub [2, 1, 0] rfl (wk_X1_tramsPlanned_4 C hR ho 2000 _ _ _ hf)
set_option maxRecDepth 100000 in
set_option maxHeartbeats 4000000 in
theorem ok_X1_tramsPlanned {o : Nat} {S : tq_St} {K : Int32 → tq_St → Prop} (ho : o < 19) (hf : wp_X1_tramsPlanned o S K) : tq_Mi yX1_tramsPlanned cX1_tramsPlanned 3 (some .int) 1 (fun a z => [.ref (a.1 o 0)]) S K :=
  tq_mkI (by decide) (fun _ _ => Nat.le_of_ble_eq_true rfl) (fun X C hR => wk_X1_tramsPlanned C hR ho hf)
set_option maxRecDepth 100000 in
set_option maxHeartbeats 4000000 in
theorem wk_X1_inLine {X : tq_Cx} {o : Nat} {p1 : Int32} {S : tq_St} {K : Int32 → tq_St → Prop} (C : tq_C X cX1_inLine 3 RX1 3) (hR : tq_Ri X cX1_inLine 3 K) (ho : o < 19) (hf : wp_X1_inLine o p1 S K) : Go X 3 S 0 [(0, .ref ((tq_la X).1 o 0)), (1, .int p1)] [] := by
  refine go_aload_n (pc := 0) C dX1_inLine_0 0 rfl rfl ?_
  refine go_cVi (pc := 1) C cw_X1_126 (ok_X1_lineUp ho hf) (rc_X1 C ho) rfl rfl rfl (by decide) rfl dX1_inLine_1 (fun r1 S2 hf => ?_)
  refine go_istore_n (pc := 4) C dX1_inLine_4 [(2, .int r1), (0, .ref ((tq_la X).1 o 0)), (1, .int p1)] rfl (by decide) rfl ?_
  refine go_iload_n (pc := 5) C dX1_inLine_5 2 rfl rfl ?_
  refine go_if_lt (pc := 6) C dX1_inLine_6 23 (by decide) (fun c4 => ?_) (fun c4 => ?_)
  · have hf := hf.1 c4
    refine go_bipush (pc := 23) (v := (-4)) C dX1_inLine_23 (by decide) ?_
    exact hR _ _ _ _ dX1_inLine_25 hf
  · have hf := hf.2 c4
    refine go_iload_n (pc := 9) C dX1_inLine_9 2 rfl rfl ?_
    refine go_iload_n (pc := 10) C dX1_inLine_10 0 rfl rfl ?_
    refine go_ic_ge (pc := 11) C dX1_inLine_11 23 (by decide) (fun c5 => ?_) (fun c5 => ?_)
    · have hf := hf.1 c5
      refine go_bipush (pc := 23) (v := (-4)) C dX1_inLine_23 (by decide) ?_
      exact hR _ _ _ _ dX1_inLine_25 hf
    · have hf := hf.2 c5
      refine go_aload_n (pc := 14) C dX1_inLine_14 1 rfl rfl ?_
      refine ge_X1_X1_4 (pc := 15) C ho dX1_inLine_15 ?_
      refine go_iload_n (pc := 18) C dX1_inLine_18 2 rfl rfl ?_
      refine al_X1_4 (pc := 19) C ho hf.1 dX1_inLine_19 ?_
      have hf := hf.2
      refine go_goto (pc := 20) C dX1_inLine_20 25 (by decide) ?_
      exact hR _ _ _ _ dX1_inLine_25 hf
set_option maxRecDepth 100000 in
set_option maxHeartbeats 4000000 in
theorem ok_X1_inLine {o : Nat} {p1 : Int32} {S : tq_St} {K : Int32 → tq_St → Prop} (ho : o < 19) (hf : wp_X1_inLine o p1 S K) : tq_Mi yX1_inLine cX1_inLine 3 (some .int) 3 (fun a z => [.ref (a.1 o 0), .int p1]) S K :=
  tq_mkI (by decide) (fun _ _ => Nat.le_of_ble_eq_true rfl) (fun X C hR => wk_X1_inLine C hR ho hf)
set_option maxRecDepth 100000 in
set_option maxHeartbeats 4000000 in
theorem wk_X1_waitingBits {X : tq_Cx} {o : Nat} {S : tq_St} {K : Int32 → tq_St → Prop} (C : tq_C X cX1_waitingBits 1 RX1 1) (hR : tq_Ri X cX1_waitingBits 1 K) (ho : o < 19) (hf : wp_X1_waitingBits o S K) : Go X 1 S 0 [(0, .ref ((tq_la X).1 o 0))] [] := by
  refine go_iconst (pc := 0) (v := 1) C dX1_waitingBits_0 (by decide) ?_
  refine go_aload_n (pc := 1) C dX1_waitingBits_1 0 rfl rfl ?_
  refine ge_X1_X1_5 (pc := 2) C ho dX1_waitingBits_2 ?_
  refine go_ishl (pc := 5) C dX1_waitingBits_5 ?_
  refine go_iconst (pc := 6) (v := 1) C dX1_waitingBits_6 (by decide) ?_
  refine go_isub (pc := 7) C dX1_waitingBits_7 ?_
  refine go_aload_n (pc := 8) C dX1_waitingBits_8 0 rfl rfl ?_
  refine ge_X1_X1_6 (pc := 9) C ho dX1_waitingBits_9 ?_
  refine go_iconst (pc := 12) (v := (-1)) C dX1_waitingBits_12 (by decide) ?_
  refine go_ixor (pc := 13) C dX1_waitingBits_13 ?_
  refine go_iand (pc := 14) C dX1_waitingBits_14 ?_
  exact hR _ _ _ _ dX1_waitingBits_15 hf
set_option maxRecDepth 100000 in
set_option maxHeartbeats 4000000 in
theorem ok_X1_waitingBits {o : Nat} {S : tq_St} {K : Int32 → tq_St → Prop} (ho : o < 19) (hf : wp_X1_waitingBits o S K) : tq_Mi yX1_waitingBits cX1_waitingBits 1 (some .int) 1 (fun a z => [.ref (a.1 o 0)]) S K :=
  tq_mkI (by decide) (fun _ _ => Nat.le_of_ble_eq_true rfl) (fun X C hR => wk_X1_waitingBits C hR ho hf)
set_option maxRecDepth 100000 in
set_option maxHeartbeats 4000000 in
theorem wk_X1_changeActs {X : tq_Cx} {o : Nat} {p1 : Int32} {p2 : Int32} {S : tq_St} {K : tq_St → Prop} (C : tq_C X cX1_changeActs 4 RX1 1) (hR : tq_Rv X cX1_changeActs 4 K) (ho : o < 19) (hf : wp_X1_changeActs o p1 p2 S K) : Go X 4 S 0 [(0, .ref ((tq_la X).1 o 0)), (1, .int p1), (2, .int p2)] [] := by
  refine go_iload_n (pc := 0) C dX1_changeActs_0 1 rfl rfl ?_
  refine go_if_lt (pc := 1) C dX1_changeActs_1 50 (by decide) (fun c1 => ?_) (fun c1 => ?_)
  · have hf := hf.1 c1
    exact hR _ _ _ dX1_changeActs_50 hf
  · have hf := hf.2 c1
    refine go_iload_n (pc := 4) C dX1_changeActs_4 1 rfl rfl ?_
    refine go_aload_n (pc := 5) C dX1_changeActs_5 0 rfl rfl ?_
    refine ge_X1_X1_10 (pc := 6) C ho dX1_changeActs_6 ?_
    refine go_ic_ge (pc := 9) C dX1_changeActs_9 50 (by decide) (fun c2 => ?_) (fun c2 => ?_)
    · have hf := hf.1 c2
      exact hR _ _ _ dX1_changeActs_50 hf
    · have hf := hf.2 c2
      refine go_iload_n (pc := 12) C dX1_changeActs_12 2 rfl rfl ?_
      refine go_if_lt (pc := 13) C dX1_changeActs_13 50 (by decide) (fun c3 => ?_) (fun c3 => ?_)
      · have hf := hf.1 c3
        exact hR _ _ _ dX1_changeActs_50 hf
      · have hf := hf.2 c3
        refine go_iload_n (pc := 16) C dX1_changeActs_16 2 rfl rfl ?_
        refine go_aload_n (pc := 17) C dX1_changeActs_17 0 rfl rfl ?_
        refine ge_X1_X1_10 (pc := 18) C ho dX1_changeActs_18 ?_
        refine go_ic_ge (pc := 21) C dX1_changeActs_21 50 (by decide) (fun c4 => ?_) (fun c4 => ?_)
        · have hf := hf.1 c4
          exact hR _ _ _ dX1_changeActs_50 hf
        · have hf := hf.2 c4
          refine go_aload_n (pc := 24) C dX1_changeActs_24 0 rfl rfl ?_
          refine ge_X1_X1_3 (pc := 25) C ho dX1_changeActs_25 ?_
          refine go_iload_n (pc := 28) C dX1_changeActs_28 1 rfl rfl ?_
          refine al_X1_3 (pc := 29) C ho hf.1 dX1_changeActs_29 ?_
          have hf := hf.2
          refine go_nI (fun x5 e6 => ?_)
          have hf := hf x5 e6
          refine go_istore_n (pc := 30) C dX1_changeActs_30 [(3, .int x5), (0, .ref ((tq_la X).1 o 0)), (1, .int p1), (2, .int p2)] rfl (by decide) rfl ?_
          refine go_aload_n (pc := 31) C dX1_changeActs_31 1 rfl rfl ?_
          refine ge_X1_X1_3 (pc := 32) C ho dX1_changeActs_32 ?_
          refine go_iload_n (pc := 35) C dX1_changeActs_35 2 rfl rfl ?_
          refine go_aload_n (pc := 36) C dX1_changeActs_36 1 rfl rfl ?_
          refine ge_X1_X1_3 (pc := 37) C ho dX1_changeActs_37 ?_
          refine go_iload_n (pc := 40) C dX1_changeActs_40 3 rfl rfl ?_
          refine al_X1_3 (pc := 41) C ho hf.1 dX1_changeActs_41 ?_
          have hf := hf.2
          refine as_X1_3 (pc := 42) C ho hf.1 dX1_changeActs_42 (fun S7 e8 => ?_)
          have hf := hf.2 S7 e8
          refine go_aload_n (pc := 43) C dX1_changeActs_43 1 rfl rfl ?_
          refine ge_X1_X1_3 (pc := 44) C ho dX1_changeActs_44 ?_
          refine go_iload_n (pc := 47) C dX1_changeActs_47 3 rfl rfl ?_
          refine go_iload_n (pc := 48) C dX1_changeActs_48 0 rfl rfl ?_
          refine as_X1_3 (pc := 49) C ho hf.1 dX1_changeActs_49 (fun S9 e10 => ?_)
          have hf := hf.2 S9 e10
          exact hR _ _ _ dX1_changeActs_50 hf
set_option maxRecDepth 100000 in
set_option maxHeartbeats 4000000 in
theorem ok_X1_changeActs {o : Nat} {p1 : Int32} {p2 : Int32} {S : tq_St} {K : tq_St → Prop} (ho : o < 19) (hf : wp_X1_changeActs o p1 p2 S K) : tq_Mv yX1_changeActs cX1_changeActs 4 none 1 (fun a z => [.ref (a.1 o 0), .int p1, .int p2]) S K :=
  tq_mkV (by decide) (fun _ _ => Nat.le_of_ble_eq_true rfl) (fun X C hR => wk_X1_changeActs C hR ho hf)
set_option maxRecDepth 100000 in
set_option maxHeartbeats 4000000 in
theorem wk_X1_allSorrow_4 {X : tq_Cx} {o : Nat} {K : Int32 → tq_St → Prop} (C : tq_C X cX1_allSorrow 3 RX1 2) (hR : tq_Ri X cX1_allSorrow 3 K) (ho : o < 19) : ∀ (n : Nat) (v1 : Int32) (v2 : Int32) (S : tq_St), wp_X1_allSorrow_4 o K n v1 v2 S → Go X 3 S 4 [(0, .ref ((tq_la X).1 o 0)), (1, .int v1), (2, .int v2)] [] := by
  intro n
  induction n with
  | zero => intros; contradiction
  | succ n ih =>
    intro v1 v2 S hf
    refine go_iload_n (pc := 4) C dX1_allSorrow_4 2 rfl rfl ?_
    refine go_aload_n (pc := 5) C dX1_allSorrow_5 0 rfl rfl ?_
    refine ge_X1_X1_5 (pc := 6) C ho dX1_allSorrow_6 ?_
    refine go_ic_ge (pc := 9) C dX1_allSorrow_9 35 (by decide) (fun c1 => ?_) (fun c1 => ?_)
    · have hf := hf.1 c1
      refine go_iload_n (pc := 35) C dX1_allSorrow_35 1 rfl rfl ?_
      exact hR _ _ _ _ dX1_allSorrow_36 hf
    · have hf := hf.2 c1
      refine go_aload_n (pc := 12) C dX1_allSorrow_12 0 rfl rfl ?_
      refine go_iload_n (pc := 13) C dX1_allSorrow_13 2 rfl rfl ?_
      refine go_cVi (pc := 14) C cw_X1_75 (ok_X1_waits ho hf) (rc_X1 C ho) rfl rfl rfl (by decide) rfl dX1_allSorrow_14 (fun r2 S3 hf => ?_)
      refine go_if_eq (pc := 17) C dX1_allSorrow_17 29 (by decide) (fun c5 => ?_) (fun c5 => ?_)
      · have hf := hf.1 c5
        obtain ⟨x6, e7⟩ : ∃ q9 : Int32, q9 = v2 + 1 := ⟨_, rfl⟩
        refine go_iinc (pc := 29) (j := 2) (v := x6) C dX1_allSorrow_29 [(2, .int x6), (0, .ref ((tq_la X).1 o 0)), (1, .int v1)] rfl (by rw [e7]; rfl) (by decide) rfl ?_
        have hf := hf x6 e7
        refine go_goto (pc := 32) C dX1_allSorrow_32 4 (by decide) ?_
        exact go_sub [1, 2, 0] rfl (ih _ _ _ hf)
      · have hf := hf.2 c5
        refine go_iload_n (pc := 20) C dX1_allSorrow_20 1 rfl rfl ?_
        refine go_aload_n (pc := 21) C dX1_allSorrow_21 0 rfl rfl ?_
        refine ge_X1_X1_1 (pc := 22) C ho dX1_allSorrow_22 ?_
        refine go_iload_n (pc := 25) C dX1_allSorrow_25 2 rfl rfl ?_
        refine al_X1_1 (pc := 26) C ho hf.1 dX1_allSorrow_26 ?_
        have hf := hf.2
        refine go_iadd (pc := 27) C dX1_allSorrow_27 ?_
        refine go_nI (fun x8 e9 => ?_)
        have hf := hf x8 e9
        refine go_istore_n (pc := 28) C dX1_allSorrow_28 [(1, .int x8), (0, .ref ((tq_la X).1 o 0)), (2, .int v2)] rfl (by decide) rfl ?_
        obtain ⟨x10, e11⟩ : ∃ q9 : Int32, q9 = v2 + 1 := ⟨_, rfl⟩
        refine go_iinc (pc := 29) (j := 2) (v := x10) C dX1_allSorrow_29 [(2, .int x10), (1, .int x8), (0, .ref ((tq_la X).1 o 0))] rfl (by rw [e11]; rfl) (by decide) rfl ?_
        have hf := hf x10 e11
        refine go_goto (pc := 32) C dX1_allSorrow_32 4 (by decide) ?_
        exact go_sub [2, 1, 0] rfl (ih _ _ _ hf)
set_option maxRecDepth 100000 in
set_option maxHeartbeats 4000000 in
theorem wk_X1_allSorrow {X : tq_Cx} {o : Nat} {S : tq_St} {K : Int32 → tq_St → Prop} (C : tq_C X cX1_allSorrow 3 RX1 2) (hR : tq_Ri X cX1_allSorrow 3 K) (ho : o < 19) (hf : wp_X1_allSorrow o S K) : Go X 3 S 0 [(0, .ref ((tq_la X).1 o 0))] [] := by
  refine go_iconst (pc := 0) (v := 0) C dX1_allSorrow_0 (by decide) ?_
  refine go_istore_n (pc := 1) C dX1_allSorrow_1 [(1, .int 0), (0, .ref ((tq_la X).1 o 0))] rfl (by decide) rfl ?_
  refine go_iconst (pc := 2) (v := 0) C dX1_allSorrow_2 (by decide) ?_
  refine go_istore_n (pc := 3) C dX1_allSorrow_3 [(2, .int 0), (1, .int 0), (0, .ref ((tq_la X).1 o 0))] rfl (by decide) rfl ?_
  exact go_sub [2, 1, 0] rfl (wk_X1_allSorrow_4 C hR ho 2000 _ _ _ hf)
set_option maxRecDepth 100000 in
set_option maxHeartbeats 4000000 in
theorem ok_X1_allSorrow {o : Nat} {S : tq_St} {K : Int32 → tq_St → Prop} (ho : o < 19) (hf : wp_X1_allSorrow o S K) : tq_Mi yX1_allSorrow cX1_allSorrow 3 (some .int) 2 (fun a z => [.ref (a.1 o 0)]) S K :=
  tq_mkI (by decide) (fun _ _ => Nat.le_of_ble_eq_true rfl) (fun X C hR => wk_X1_allSorrow C hR ho hf)
set_option maxRecDepth 100000 in
set_option maxHeartbeats 4000000 in
theorem wk_X1_isAct {X : tq_Cx} {o : Nat} {p1 : Int32} {S : tq_St} {K : Int32 → tq_St → Prop} (C : tq_C X cX1_isAct 2 RX1 2) (hR : tq_Rz X cX1_isAct 2 K) (ho : o < 19) (hf : wp_X1_isAct o p1 S K) : Go X 2 S 0 [(0, .ref ((tq_la X).1 o 0)), (1, .int p1)] [] := by
  refine go_aload_n (pc := 0) C dX1_isAct_0 0 rfl rfl ?_
  refine go_iload_n (pc := 1) C dX1_isAct_1 1 rfl rfl ?_
  refine go_cVi (pc := 2) C cw_X1_68 (ok_X1_isThere ho hf) (rc_X1 C ho) rfl rfl rfl (by decide) rfl dX1_isAct_2 (fun r1 S2 hf => ?_)
  refine go_if_ne (pc := 5) C dX1_isAct_5 19 (by decide) (fun c4 => ?_) (fun c4 => ?_)
  · have hf := hf.1 c4
    refine go_iconst (pc := 19) (v := 1) C dX1_isAct_19 (by decide) ?_
    refine go_goto (pc := 20) C dX1_isAct_20 24 (by decide) ?_
    exact hR _ _ _ _ dX1_isAct_24 (Or.inr rfl) hf
  · have hf := hf.2 c4
    refine go_iload_n (pc := 8) C dX1_isAct_8 1 rfl rfl ?_
    refine go_iconst (pc := 9) (v := 5) C dX1_isAct_9 (by decide) ?_
    refine go_ic_eq (pc := 10) C dX1_isAct_10 19 (by decide) (fun c5 => ?_) (fun c5 => ?_)
    · have hf := hf.1 c5
      refine go_iconst (pc := 19) (v := 1) C dX1_isAct_19 (by decide) ?_
      refine go_goto (pc := 20) C dX1_isAct_20 24 (by decide) ?_
      exact hR _ _ _ _ dX1_isAct_24 (Or.inr rfl) hf
    · have hf := hf.2 c5
      refine go_iload_n (pc := 13) C dX1_isAct_13 1 rfl rfl ?_
      refine go_bipush (pc := 14) (v := 6) C dX1_isAct_14 (by decide) ?_
      refine go_ic_ne (pc := 16) C dX1_isAct_16 23 (by decide) (fun c6 => ?_) (fun c6 => ?_)
      · have hf := hf.1 c6
        refine go_iconst (pc := 23) (v := 0) C dX1_isAct_23 (by decide) ?_
        exact hR _ _ _ _ dX1_isAct_24 (Or.inl rfl) hf
      · have hf := hf.2 c6
        refine go_iconst (pc := 19) (v := 1) C dX1_isAct_19 (by decide) ?_
        refine go_goto (pc := 20) C dX1_isAct_20 24 (by decide) ?_
        exact hR _ _ _ _ dX1_isAct_24 (Or.inr rfl) hf
set_option maxRecDepth 100000 in
set_option maxHeartbeats 4000000 in
theorem ok_X1_isAct {o : Nat} {p1 : Int32} {S : tq_St} {K : Int32 → tq_St → Prop} (ho : o < 19) (hf : wp_X1_isAct o p1 S K) : tq_Mi yX1_isAct cX1_isAct 2 (some .boolean) 2 (fun a z => [.ref (a.1 o 0), .int p1]) S K :=
  tq_mkZ (by decide) (fun _ _ => Nat.le_of_ble_eq_true rfl) (fun X C hR => wk_X1_isAct C hR ho hf)
set_option maxRecDepth 100000 in
set_option maxHeartbeats 4000000 in
theorem wk_X1_addAct {X : tq_Cx} {o : Nat} {p1 : Int32} {S : tq_St} {K : Int32 → tq_St → Prop} (C : tq_C X cX1_addAct 2 RX1 1) (hR : tq_Rz X cX1_addAct 2 K) (ho : o < 19) (hf : wp_X1_addAct o p1 S K) : Go X 2 S 0 [(0, .ref ((tq_la X).1 o 0)), (1, .int p1)] [] := by
  refine go_aload_n (pc := 0) C dX1_addAct_0 0 rfl rfl ?_
  refine ge_X1_X1_10 (pc := 1) C ho dX1_addAct_1 ?_
  refine go_bipush (pc := 4) (v := 8) C dX1_addAct_4 (by decide) ?_
  refine go_ic_lt (pc := 6) C dX1_addAct_6 11 (by decide) (fun c1 => ?_) (fun c1 => ?_)
  · have hf := hf.1 c1
    refine go_aload_n (pc := 11) C dX1_addAct_11 0 rfl rfl ?_
    refine ge_X1_X1_3 (pc := 12) C ho dX1_addAct_12 ?_
    refine go_aload_n (pc := 15) C dX1_addAct_15 0 rfl rfl ?_
    refine ge_X1_X1_10 (pc := 16) C ho dX1_addAct_16 ?_
    refine go_iload_n (pc := 19) C dX1_addAct_19 1 rfl rfl ?_
    refine as_X1_3 (pc := 20) C ho hf.1 dX1_addAct_20 (fun S2 e3 => ?_)
    have hf := hf.2 S2 e3
    refine go_aload_n (pc := 21) C dX1_addAct_21 0 rfl rfl ?_
    refine go_dup (pc := 22) C dX1_addAct_22 rfl ?_
    refine ge_X1_X1_10 (pc := 23) C ho dX1_addAct_23 ?_
    refine go_iconst (pc := 26) (v := 1) C dX1_addAct_26 (by decide) ?_
    refine go_iadd (pc := 27) C dX1_addAct_27 ?_
    refine pu_X1_X1_10 (pc := 28) C ho dX1_addAct_28 (fun S4 e5 => ?_)
    have hf := hf S4 e5
    refine go_iconst (pc := 31) (v := 1) C dX1_addAct_31 (by decide) ?_
    exact hR _ _ _ _ dX1_addAct_32 (Or.inr rfl) hf
  · have hf := hf.2 c1
    refine go_iconst (pc := 9) (v := 0) C dX1_addAct_9 (by decide) ?_
    exact hR _ _ _ _ dX1_addAct_10 (Or.inl rfl) hf
set_option maxRecDepth 100000 in
set_option maxHeartbeats 4000000 in
theorem ok_X1_addAct {o : Nat} {p1 : Int32} {S : tq_St} {K : Int32 → tq_St → Prop} (ho : o < 19) (hf : wp_X1_addAct o p1 S K) : tq_Mi yX1_addAct cX1_addAct 2 (some .boolean) 1 (fun a z => [.ref (a.1 o 0), .int p1]) S K :=
  tq_mkZ (by decide) (fun _ _ => Nat.le_of_ble_eq_true rfl) (fun X C hR => wk_X1_addAct C hR ho hf)
set_option maxRecDepth 100000 in
set_option maxHeartbeats 4000000 in
theorem wk_X1_clear {X : tq_Cx} {o : Nat} {S : tq_St} {K : tq_St → Prop} (C : tq_C X cX1_clear 1 RX1 2) (hR : tq_Rv X cX1_clear 1 K) (ho : o < 19) (hf : wp_X1_clear o S K) : Go X 1 S 0 [(0, .ref ((tq_la X).1 o 0))] [] := by
  refine go_aload_n (pc := 0) C dX1_clear_0 0 rfl rfl ?_
  refine go_iconst (pc := 1) (v := 0) C dX1_clear_1 (by decide) ?_
  refine pu_X1_X1_5 (pc := 2) C ho dX1_clear_2 (fun S1 e2 => ?_)
  have hf := hf S1 e2
  refine go_aload_n (pc := 5) C dX1_clear_5 0 rfl rfl ?_
  refine go_iconst (pc := 6) (v := 0) C dX1_clear_6 (by decide) ?_
  refine pu_X1_X1_6 (pc := 7) C ho dX1_clear_7 (fun S3 e4 => ?_)
  have hf := hf S3 e4
  refine go_aload_n (pc := 10) C dX1_clear_10 0 rfl rfl ?_
  refine go_iconst (pc := 11) (v := 0) C dX1_clear_11 (by decide) ?_
  refine pu_X1_X1_7 (pc := 12) C ho dX1_clear_12 (fun S5 e6 => ?_)
  have hf := hf S5 e6
  refine go_aload_n (pc := 15) C dX1_clear_15 0 rfl rfl ?_
  refine go_iconst (pc := 16) (v := 2) C dX1_clear_16 (by decide) ?_
  refine pu_X1_X1_8 (pc := 17) C ho dX1_clear_17 (fun S7 e8 => ?_)
  have hf := hf S7 e8
  refine go_aload_n (pc := 20) C dX1_clear_20 0 rfl rfl ?_
  refine go_iconst (pc := 21) (v := 4) C dX1_clear_21 (by decide) ?_
  refine pu_X1_X1_9 (pc := 22) C ho dX1_clear_22 (fun S9 e10 => ?_)
  have hf := hf S9 e10
  refine go_aload_n (pc := 25) C dX1_clear_25 0 rfl rfl ?_
  refine go_iconst (pc := 26) (v := 0) C dX1_clear_26 (by decide) ?_
  refine pu_X1_X1_10 (pc := 27) C ho dX1_clear_27 (fun S11 e12 => ?_)
  have hf := hf S11 e12
  refine go_aload_n (pc := 30) C dX1_clear_30 0 rfl rfl ?_
  refine go_cVv (pc := 31) C cw_X1_49 (ok_X1_clearTally ho hf) (rc_X1 C ho) rfl rfl rfl (by decide) rfl dX1_clear_31 (fun S14 hf => ?_)
  exact hR _ _ _ dX1_clear_34 hf
set_option maxRecDepth 100000 in
set_option maxHeartbeats 4000000 in
theorem ok_X1_clear {o : Nat} {S : tq_St} {K : tq_St → Prop} (ho : o < 19) (hf : wp_X1_clear o S K) : tq_Mv yX1_clear cX1_clear 1 none 2 (fun a z => [.ref (a.1 o 0)]) S K :=
  tq_mkV (by decide) (fun _ _ => Nat.le_of_ble_eq_true rfl) (fun X C hR => wk_X1_clear C hR ho hf)
set_option maxRecDepth 100000 in
set_option maxHeartbeats 4000000 in
theorem wk_X1_addOne {X : tq_Cx} {o : Nat} {p1 : Int32} {p2 : Int32} {S : tq_St} {K : tq_St → Prop} (C : tq_C X cX1_addOne 3 RX1 1) (hR : tq_Rv X cX1_addOne 3 K) (ho : o < 19) (hf : wp_X1_addOne o p1 p2 S K) : Go X 3 S 0 [(0, .ref ((tq_la X).1 o 0)), (1, .int p1), (2, .int p2)] [] := by
  refine go_aload_n (pc := 0) C dX1_addOne_0 0 rfl rfl ?_
  refine ge_X1_X1_5 (pc := 1) C ho dX1_addOne_1 ?_
  refine go_iconst (pc := 4) (v := 5) C dX1_addOne_4 (by decide) ?_
  refine go_ic_ge (pc := 5) C dX1_addOne_5 48 (by decide) (fun c1 => ?_) (fun c1 => ?_)
  · have hf := hf.1 c1
    exact hR _ _ _ dX1_addOne_48 hf
  · have hf := hf.2 c1
    refine go_aload_n (pc := 8) C dX1_addOne_8 0 rfl rfl ?_
    refine ge_X1_X1_0 (pc := 9) C ho dX1_addOne_9 ?_
    refine go_aload_n (pc := 12) C dX1_addOne_12 0 rfl rfl ?_
    refine ge_X1_X1_5 (pc := 13) C ho dX1_addOne_13 ?_
    refine go_iload_n (pc := 16) C dX1_addOne_16 1 rfl rfl ?_
    refine as_X1_0 (pc := 17) C ho hf.1 dX1_addOne_17 (fun S2 e3 => ?_)
    have hf := hf.2 S2 e3
    refine go_aload_n (pc := 18) C dX1_addOne_18 0 rfl rfl ?_
    refine ge_X1_X1_1 (pc := 19) C ho dX1_addOne_19 ?_
    refine go_aload_n (pc := 22) C dX1_addOne_22 0 rfl rfl ?_
    refine ge_X1_X1_5 (pc := 23) C ho dX1_addOne_23 ?_
    refine go_iload_n (pc := 26) C dX1_addOne_26 2 rfl rfl ?_
    refine as_X1_1 (pc := 27) C ho hf.1 dX1_addOne_27 (fun S4 e5 => ?_)
    have hf := hf.2 S4 e5
    refine go_aload_n (pc := 28) C dX1_addOne_28 0 rfl rfl ?_
    refine ge_X1_X1_2 (pc := 29) C ho dX1_addOne_29 ?_
    refine go_aload_n (pc := 32) C dX1_addOne_32 0 rfl rfl ?_
    refine ge_X1_X1_5 (pc := 33) C ho dX1_addOne_33 ?_
    refine go_iconst (pc := 36) (v := (-1)) C dX1_addOne_36 (by decide) ?_
    refine as_X1_2 (pc := 37) C ho hf.1 dX1_addOne_37 (fun S6 e7 => ?_)
    have hf := hf.2 S6 e7
    refine go_aload_n (pc := 38) C dX1_addOne_38 0 rfl rfl ?_
    refine go_dup (pc := 39) C dX1_addOne_39 rfl ?_
    refine ge_X1_X1_5 (pc := 40) C ho dX1_addOne_40 ?_
    refine go_iconst (pc := 43) (v := 1) C dX1_addOne_43 (by decide) ?_
    refine go_iadd (pc := 44) C dX1_addOne_44 ?_
    refine pu_X1_X1_5 (pc := 45) C ho dX1_addOne_45 (fun S8 e9 => ?_)
    have hf := hf S8 e9
    exact hR _ _ _ dX1_addOne_48 hf
set_option maxRecDepth 100000 in
set_option maxHeartbeats 4000000 in
theorem ok_X1_addOne {o : Nat} {p1 : Int32} {p2 : Int32} {S : tq_St} {K : tq_St → Prop} (ho : o < 19) (hf : wp_X1_addOne o p1 p2 S K) : tq_Mv yX1_addOne cX1_addOne 3 none 1 (fun a z => [.ref (a.1 o 0), .int p1, .int p2]) S K :=
  tq_mkV (by decide) (fun _ _ => Nat.le_of_ble_eq_true rfl) (fun X C hR => wk_X1_addOne C hR ho hf)
set_option maxRecDepth 100000 in
set_option maxHeartbeats 4000000 in
theorem wk_X1_allActsFit_2 {X : tq_Cx} {o : Nat} {K : Int32 → tq_St → Prop} (C : tq_C X cX1_allActsFit 2 RX1 3) (hR : tq_Rz X cX1_allActsFit 2 K) (ho : o < 19) : ∀ (n : Nat) (v1 : Int32) (S : tq_St), wp_X1_allActsFit_2 o K n v1 S → Go X 2 S 2 [(0, .ref ((tq_la X).1 o 0)), (1, .int v1)] [] := by
  intro n
  induction n with
  | zero => intros; contradiction
  | succ n ih =>
    intro v1 S hf
    refine go_iload_n (pc := 2) C dX1_allActsFit_2 1 rfl rfl ?_
    refine go_aload_n (pc := 3) C dX1_allActsFit_3 0 rfl rfl ?_
    refine ge_X1_X1_10 (pc := 4) C ho dX1_allActsFit_4 ?_
    refine go_ic_ge (pc := 7) C dX1_allActsFit_7 31 (by decide) (fun c1 => ?_) (fun c1 => ?_)
    · have hf := hf.1 c1
      refine go_iconst (pc := 31) (v := 1) C dX1_allActsFit_31 (by decide) ?_
      exact hR _ _ _ _ dX1_allActsFit_32 (Or.inr rfl) hf
    · have hf := hf.2 c1
      refine go_aload_n (pc := 10) C dX1_allActsFit_10 0 rfl rfl ?_
      refine go_aload_n (pc := 11) C dX1_allActsFit_11 0 rfl rfl ?_
      refine ge_X1_X1_3 (pc := 12) C ho dX1_allActsFit_12 ?_
      refine go_iload_n (pc := 15) C dX1_allActsFit_15 1 rfl rfl ?_
      refine al_X1_3 (pc := 16) C ho hf.1 dX1_allActsFit_16 ?_
      have hf := hf.2
      refine go_cVi (pc := 17) C cw_X1_78 (ok_X1_isAct ho hf) (rc_X1 C ho) rfl rfl rfl (by decide) rfl dX1_allActsFit_17 (fun r2 S3 hf => ?_)
      refine go_if_ne (pc := 20) C dX1_allActsFit_20 25 (by decide) (fun c5 => ?_) (fun c5 => ?_)
      · have hf := hf.1 c5
        obtain ⟨x6, e7⟩ : ∃ q9 : Int32, q9 = v1 + 1 := ⟨_, rfl⟩
        refine go_iinc (pc := 25) (j := 1) (v := x6) C dX1_allActsFit_25 [(1, .int x6), (0, .ref ((tq_la X).1 o 0))] rfl (by rw [e7]; rfl) (by decide) rfl ?_
        have hf := hf x6 e7
        refine go_goto (pc := 28) C dX1_allActsFit_28 2 (by decide) ?_
        exact go_sub [1, 0] rfl (ih _ _ hf)
      · have hf := hf.2 c5
        refine go_iconst (pc := 23) (v := 0) C dX1_allActsFit_23 (by decide) ?_
        exact hR _ _ _ _ dX1_allActsFit_24 (Or.inl rfl) hf
set_option maxRecDepth 100000 in
set_option maxHeartbeats 4000000 in
theorem wk_X1_allActsFit {X : tq_Cx} {o : Nat} {S : tq_St} {K : Int32 → tq_St → Prop} (C : tq_C X cX1_allActsFit 2 RX1 3) (hR : tq_Rz X cX1_allActsFit 2 K) (ho : o < 19) (hf : wp_X1_allActsFit o S K) : Go X 2 S 0 [(0, .ref ((tq_la X).1 o 0))] [] := by
  refine go_iconst (pc := 0) (v := 0) C dX1_allActsFit_0 (by decide) ?_
  refine go_istore_n (pc := 1) C dX1_allActsFit_1 [(1, .int 0), (0, .ref ((tq_la X).1 o 0))] rfl (by decide) rfl ?_
  exact go_sub [1, 0] rfl (wk_X1_allActsFit_2 C hR ho 2000 _ _ hf)
set_option maxRecDepth 100000 in
set_option maxHeartbeats 4000000 in
theorem ok_X1_allActsFit {o : Nat} {S : tq_St} {K : Int32 → tq_St → Prop} (ho : o < 19) (hf : wp_X1_allActsFit o S K) : tq_Mi yX1_allActsFit cX1_allActsFit 2 (some .boolean) 3 (fun a z => [.ref (a.1 o 0)]) S K :=
  tq_mkZ (by decide) (fun _ _ => Nat.le_of_ble_eq_true rfl) (fun X C hR => wk_X1_allActsFit C hR ho hf)
end
section
set_option maxRecDepth 100000 in
set_option maxHeartbeats 4000000 in
theorem wk_X4_agreeWith_29 {X : tq_Cx} {K : Int32 → tq_St → Prop} (C : tq_C X cX4_agreeWith 4 RX4 1) (hR : tq_Rz X cX4_agreeWith 4 K) {rec2 : Int32 → Int32 → tq_St → Prop} (hrec2 : ∀ (v1 : Int32) (v2 : Int32) (S : tq_St), rec2 v1 v2 S → Go X 4 S 2 [(0, .ref ((tq_la X).1 20 0)), (1, .int v1), (2, .int v2)] []) : ∀ (v1 : Int32) (v2 : Int32) (w0 : Int32) (S : tq_St), wp_X4_agreeWith_29 K rec2 v1 v2 w0 S → Go X 4 S 29 [(0, .ref ((tq_la X).1 20 0)), (1, .int v1), (2, .int v2)] [.int w0] := by
  intro v1 v2 w0 S hf
  refine go_istore_n (pc := 29) C dX4_agreeWith_29 [(3, .int w0), (0, .ref ((tq_la X).1 20 0)), (1, .int v1), (2, .int v2)] rfl (by decide) rfl ?_
  refine go_iload_n (pc := 30) C dX4_agreeWith_30 0 rfl rfl ?_
  refine go_aload_n (pc := 31) C dX4_agreeWith_31 1 rfl rfl ?_
  refine ge_X4_X4_1 (pc := 32) C dX4_agreeWith_32 ?_
  refine go_iload_n (pc := 35) C dX4_agreeWith_35 3 rfl rfl ?_
  refine al_X4_1 (pc := 36) C hf.1 dX4_agreeWith_36 ?_
  have hf := hf.2
  refine go_ic_eq (pc := 37) C dX4_agreeWith_37 42 (by decide) (fun c3 => ?_) (fun c3 => ?_)
  · have hf := hf.1 c3
    obtain ⟨x4, e5⟩ : ∃ q9 : Int32, q9 = v2 + 1 := ⟨_, rfl⟩
    refine go_iinc (pc := 42) (j := 3) (v := x4) C dX4_agreeWith_42 [(2, .int x4), (3, .int w0), (0, .ref ((tq_la X).1 20 0)), (1, .int v1)] rfl (by rw [e5]; rfl) (by decide) rfl ?_
    have hf := hf x4 e5
    refine go_goto (pc := 45) C dX4_agreeWith_45 2 (by decide) ?_
    exact go_sub [2, 3, 0] rfl (hrec2 _ _ _ hf)
  · have hf := hf.2 c3
    refine go_iconst (pc := 40) (v := 0) C dX4_agreeWith_40 (by decide) ?_
    exact hR _ _ _ _ dX4_agreeWith_41 (Or.inl rfl) hf
set_option maxRecDepth 100000 in
set_option maxHeartbeats 4000000 in
theorem wk_X4_agreeWith_2 {X : tq_Cx} {K : Int32 → tq_St → Prop} (C : tq_C X cX4_agreeWith 4 RX4 1) (hR : tq_Rz X cX4_agreeWith 4 K) : ∀ (n : Nat) (v1 : Int32) (v2 : Int32) (S : tq_St), wp_X4_agreeWith_2 K n v1 v2 S → Go X 4 S 2 [(0, .ref ((tq_la X).1 20 0)), (1, .int v1), (2, .int v2)] [] := by
  intro n
  induction n with
  | zero => intros; contradiction
  | succ n ih =>
    intro v1 v2 S hf
    refine go_iload_n (pc := 2) C dX4_agreeWith_2 2 rfl rfl ?_
    refine go_aload_n (pc := 3) C dX4_agreeWith_3 0 rfl rfl ?_
    refine ge_X4_X4_2 (pc := 4) C dX4_agreeWith_4 ?_
    refine go_ic_ge (pc := 7) C dX4_agreeWith_7 48 (by decide) (fun c1 => ?_) (fun c1 => ?_)
    · have hf := hf.1 c1
      refine go_iconst (pc := 48) (v := 1) C dX4_agreeWith_48 (by decide) ?_
      exact hR _ _ _ _ dX4_agreeWith_49 (Or.inr rfl) hf
    · have hf := hf.2 c1
      refine go_iload_n (pc := 10) C dX4_agreeWith_10 1 rfl rfl ?_
      refine go_aload_n (pc := 11) C dX4_agreeWith_11 0 rfl rfl ?_
      refine ge_X4_X4_0 (pc := 12) C dX4_agreeWith_12 ?_
      refine go_iload_n (pc := 15) C dX4_agreeWith_15 2 rfl rfl ?_
      refine al_X4_0 (pc := 16) C hf.1 dX4_agreeWith_16 ?_
      have hf := hf.2
      refine go_ishr (pc := 17) C dX4_agreeWith_17 ?_
      refine go_iconst (pc := 18) (v := 1) C dX4_agreeWith_18 (by decide) ?_
      refine go_iand (pc := 19) C dX4_agreeWith_19 ?_
      refine go_iconst (pc := 20) (v := 1) C dX4_agreeWith_20 (by decide) ?_
      refine go_ic_ne (pc := 21) C dX4_agreeWith_21 28 (by decide) (fun c2 => ?_) (fun c2 => ?_)
      · have hf := hf.1 c2
        refine go_iconst (pc := 28) (v := 0) C dX4_agreeWith_28 (by decide) ?_
        exact go_sub [0, 1, 2] rfl (wk_X4_agreeWith_29 C hR ih _ _ _ _ hf)
      · have hf := hf.2 c2
        refine go_iconst (pc := 24) (v := 1) C dX4_agreeWith_24 (by decide) ?_
        refine go_goto (pc := 25) C dX4_agreeWith_25 29 (by decide) ?_
        exact go_sub [0, 1, 2] rfl (wk_X4_agreeWith_29 C hR ih _ _ _ _ hf)
set_option maxRecDepth 100000 in
set_option maxHeartbeats 4000000 in
theorem wk_X4_agreeWith {X : tq_Cx} {p1 : Int32} {S : tq_St} {K : Int32 → tq_St → Prop} (C : tq_C X cX4_agreeWith 4 RX4 1) (hR : tq_Rz X cX4_agreeWith 4 K) (hf : wp_X4_agreeWith p1 S K) : Go X 4 S 0 [(0, .ref ((tq_la X).1 20 0)), (1, .int p1)] [] := by
  refine go_iconst (pc := 0) (v := 0) C dX4_agreeWith_0 (by decide) ?_
  refine go_istore_n (pc := 1) C dX4_agreeWith_1 [(2, .int 0), (0, .ref ((tq_la X).1 20 0)), (1, .int p1)] rfl (by decide) rfl ?_
  exact go_sub [1, 2, 0] rfl (wk_X4_agreeWith_2 C hR 2000 _ _ _ hf)
set_option maxRecDepth 100000 in
set_option maxHeartbeats 4000000 in
theorem ok_X4_agreeWith {p1 : Int32} {S : tq_St} {K : Int32 → tq_St → Prop} (hf : wp_X4_agreeWith p1 S K) : tq_Mi yX4_agreeWith cX4_agreeWith 4 (some .boolean) 1 (fun a z => [.ref (a.1 20 0), .int p1]) S K :=
  tq_mkZ (by decide) (fun _ _ => Nat.le_of_ble_eq_true rfl) (fun X C hR => wk_X4_agreeWith C hR  hf)
set_option maxRecDepth 100000 in
set_option maxHeartbeats 4000000 in
theorem wk_X3_faultAt {X : tq_Cx} {o : Nat} {p1 : Int32} {p2 : Int32} {S : tq_St} {K : Int32 → tq_St → Prop} (C : tq_C X cX3_faultAt 3 RX3 1) (hR : tq_Ri X cX3_faultAt 3 K) (ho : 23 ≤ o ∧ o < 27) (hf : wp_X3_faultAt o p1 p2 S K) : Go X 3 S 0 [(0, .ref ((tq_la X).1 o 0)), (1, .int p1), (2, .int p2)] [] := by
  refine go_aload_n (pc := 0) C dX3_faultAt_0 0 rfl rfl ?_
  refine ge_X3_X3_1 (pc := 1) C ho dX3_faultAt_1 ?_
  refine go_if_ne (pc := 4) C dX3_faultAt_4 9 (by decide) (fun c1 => ?_) (fun c1 => ?_)
  · have hf := hf.1 c1
    refine go_aload_n (pc := 9) C dX3_faultAt_9 0 rfl rfl ?_
    refine ge_X3_X3_2 (pc := 10) C ho dX3_faultAt_10 ?_
    refine go_iload_n (pc := 13) C dX3_faultAt_13 1 rfl rfl ?_
    refine go_ic_eq (pc := 14) C dX3_faultAt_14 19 (by decide) (fun c2 => ?_) (fun c2 => ?_)
    · have hf := hf.1 c2
      refine go_iload_n (pc := 19) C dX3_faultAt_19 2 rfl rfl ?_
      refine go_if_lt (pc := 20) C dX3_faultAt_20 31 (by decide) (fun c3 => ?_) (fun c3 => ?_)
      · have hf := hf.1 c3
        refine go_iconst (pc := 31) (v := 2) C dX3_faultAt_31 (by decide) ?_
        refine go_goto (pc := 32) C dX3_faultAt_32 36 (by decide) ?_
        exact hR _ _ _ _ dX3_faultAt_36 hf
      · have hf := hf.2 c3
        refine go_iload_n (pc := 23) C dX3_faultAt_23 2 rfl rfl ?_
        refine go_aload_n (pc := 24) C dX3_faultAt_24 0 rfl rfl ?_
        refine ge_X3_X3_3 (pc := 25) C ho dX3_faultAt_25 ?_
        refine go_ic_lt (pc := 28) C dX3_faultAt_28 35 (by decide) (fun c4 => ?_) (fun c4 => ?_)
        · have hf := hf.1 c4
          refine go_iconst (pc := 35) (v := 0) C dX3_faultAt_35 (by decide) ?_
          exact hR _ _ _ _ dX3_faultAt_36 hf
        · have hf := hf.2 c4
          refine go_iconst (pc := 31) (v := 2) C dX3_faultAt_31 (by decide) ?_
          refine go_goto (pc := 32) C dX3_faultAt_32 36 (by decide) ?_
          exact hR _ _ _ _ dX3_faultAt_36 hf
    · have hf := hf.2 c2
      refine go_iconst (pc := 17) (v := 3) C dX3_faultAt_17 (by decide) ?_
      exact hR _ _ _ _ dX3_faultAt_18 hf
  · have hf := hf.2 c1
    refine go_iconst (pc := 7) (v := 1) C dX3_faultAt_7 (by decide) ?_
    exact hR _ _ _ _ dX3_faultAt_8 hf
set_option maxRecDepth 100000 in
set_option maxHeartbeats 4000000 in
theorem ok_X3_faultAt {o : Nat} {p1 : Int32} {p2 : Int32} {S : tq_St} {K : Int32 → tq_St → Prop} (ho : 23 ≤ o ∧ o < 27) (hf : wp_X3_faultAt o p1 p2 S K) : tq_Mi yX3_faultAt cX3_faultAt 3 (some .int) 1 (fun a z => [.ref (a.1 o 0), .int p1, .int p2]) S K :=
  tq_mkI (by decide) (fun _ _ => Nat.le_of_ble_eq_true rfl) (fun X C hR => wk_X3_faultAt C hR ho hf)
set_option maxRecDepth 100000 in
set_option maxHeartbeats 4000000 in
theorem wk_X3_put {X : tq_Cx} {o : Nat} {p1 : Int32} {p2 : Int32} {S : tq_St} {K : tq_St → Prop} (C : tq_C X cX3_put 3 RX3 1) (hR : tq_Rv X cX3_put 3 K) (ho : 23 ≤ o ∧ o < 27) (hf : wp_X3_put o p1 p2 S K) : Go X 3 S 0 [(0, .ref ((tq_la X).1 o 0)), (1, .int p1), (2, .int p2)] [] := by
  refine go_aload_n (pc := 0) C dX3_put_0 0 rfl rfl ?_
  refine ge_X3_X3_2 (pc := 1) C ho dX3_put_1 ?_
  refine go_if_ne (pc := 4) C dX3_put_4 18 (by decide) (fun c1 => ?_) (fun c1 => ?_)
  · have hf := hf.1 c1
    refine go_aload_n (pc := 18) C dX3_put_18 0 rfl rfl ?_
    refine ge_X3_X3_2 (pc := 19) C ho dX3_put_19 ?_
    refine go_iconst (pc := 22) (v := 1) C dX3_put_22 (by decide) ?_
    refine go_ic_ne (pc := 23) C dX3_put_23 37 (by decide) (fun c2 => ?_) (fun c2 => ?_)
    · have hf := hf.1 c2
      refine go_aload_n (pc := 37) C dX3_put_37 0 rfl rfl ?_
      refine ge_X3_X3_0 (pc := 38) C ho dX3_put_38 ?_
      refine go_iload_n (pc := 41) C dX3_put_41 1 rfl rfl ?_
      refine go_iload_n (pc := 42) C dX3_put_42 2 rfl rfl ?_
      refine as_X3_0 (pc := 43) C ho hf.1 dX3_put_43 (fun S3 e4 => ?_)
      have hf := hf.2 S3 e4
      exact hR _ _ _ dX3_put_44 hf
    · have hf := hf.2 c2
      refine go_aload_n (pc := 26) C dX3_put_26 0 rfl rfl ?_
      refine ge_X3_X3_0 (pc := 27) C ho dX3_put_27 ?_
      refine go_iload_n (pc := 30) C dX3_put_30 1 rfl rfl ?_
      refine go_iload_n (pc := 31) C dX3_put_31 2 rfl rfl ?_
      refine go_i2s (pc := 32) C dX3_put_32 ?_
      refine as_X3_0 (pc := 33) C ho hf.1 dX3_put_33 (fun S5 e6 => ?_)
      have hf := hf.2 S5 e6
      refine go_goto (pc := 34) C dX3_put_34 44 (by decide) ?_
      exact hR _ _ _ dX3_put_44 hf
  · have hf := hf.2 c1
    refine go_aload_n (pc := 7) C dX3_put_7 0 rfl rfl ?_
    refine ge_X3_X3_0 (pc := 8) C ho dX3_put_8 ?_
    refine go_iload_n (pc := 11) C dX3_put_11 1 rfl rfl ?_
    refine go_iload_n (pc := 12) C dX3_put_12 2 rfl rfl ?_
    refine go_i2b (pc := 13) C dX3_put_13 ?_
    refine as_X3_0 (pc := 14) C ho hf.1 dX3_put_14 (fun S7 e8 => ?_)
    have hf := hf.2 S7 e8
    refine go_goto (pc := 15) C dX3_put_15 44 (by decide) ?_
    exact hR _ _ _ dX3_put_44 hf
set_option maxRecDepth 100000 in
set_option maxHeartbeats 4000000 in
theorem ok_X3_put {o : Nat} {p1 : Int32} {p2 : Int32} {S : tq_St} {K : tq_St → Prop} (ho : 23 ≤ o ∧ o < 27) (hf : wp_X3_put o p1 p2 S K) : tq_Mv yX3_put cX3_put 3 none 1 (fun a z => [.ref (a.1 o 0), .int p1, .int p2]) S K :=
  tq_mkV (by decide) (fun _ _ => Nat.le_of_ble_eq_true rfl) (fun X C hR => wk_X3_put C hR ho hf)
set_option maxRecDepth 100000 in
set_option maxHeartbeats 4000000 in
theorem wk_X4_add {X : tq_Cx} {p1 : Int32} {p2 : Int32} {S : tq_St} {K : Int32 → tq_St → Prop} (C : tq_C X cX4_add 3 RX4 1) (hR : tq_Rz X cX4_add 3 K) (hf : wp_X4_add p1 p2 S K) : Go X 3 S 0 [(0, .ref ((tq_la X).1 20 0)), (1, .int p1), (2, .int p2)] [] := by
  refine go_aload_n (pc := 0) C dX4_add_0 0 rfl rfl ?_
  refine ge_X4_X4_2 (pc := 1) C dX4_add_1 ?_
  refine go_bipush (pc := 4) (v := 6) C dX4_add_4 (by decide) ?_
  refine go_ic_lt (pc := 6) C dX4_add_6 11 (by decide) (fun c1 => ?_) (fun c1 => ?_)
  · have hf := hf.1 c1
    refine go_aload_n (pc := 11) C dX4_add_11 0 rfl rfl ?_
    refine ge_X4_X4_0 (pc := 12) C dX4_add_12 ?_
    refine go_aload_n (pc := 15) C dX4_add_15 0 rfl rfl ?_
    refine ge_X4_X4_2 (pc := 16) C dX4_add_16 ?_
    refine go_iload_n (pc := 19) C dX4_add_19 1 rfl rfl ?_
    refine as_X4_0 (pc := 20) C hf.1 dX4_add_20 (fun S2 e3 => ?_)
    have hf := hf.2 S2 e3
    refine go_aload_n (pc := 21) C dX4_add_21 0 rfl rfl ?_
    refine ge_X4_X4_1 (pc := 22) C dX4_add_22 ?_
    refine go_aload_n (pc := 25) C dX4_add_25 0 rfl rfl ?_
    refine ge_X4_X4_2 (pc := 26) C dX4_add_26 ?_
    refine go_iload_n (pc := 29) C dX4_add_29 2 rfl rfl ?_
    refine as_X4_1 (pc := 30) C hf.1 dX4_add_30 (fun S4 e5 => ?_)
    have hf := hf.2 S4 e5
    refine go_aload_n (pc := 31) C dX4_add_31 0 rfl rfl ?_
    refine go_dup (pc := 32) C dX4_add_32 rfl ?_
    refine ge_X4_X4_2 (pc := 33) C dX4_add_33 ?_
    refine go_iconst (pc := 36) (v := 1) C dX4_add_36 (by decide) ?_
    refine go_iadd (pc := 37) C dX4_add_37 ?_
    refine pu_X4_X4_2 (pc := 38) C dX4_add_38 (fun S6 e7 => ?_)
    have hf := hf S6 e7
    refine go_iconst (pc := 41) (v := 1) C dX4_add_41 (by decide) ?_
    exact hR _ _ _ _ dX4_add_42 (Or.inr rfl) hf
  · have hf := hf.2 c1
    refine go_iconst (pc := 9) (v := 0) C dX4_add_9 (by decide) ?_
    exact hR _ _ _ _ dX4_add_10 (Or.inl rfl) hf
set_option maxRecDepth 100000 in
set_option maxHeartbeats 4000000 in
theorem ok_X4_add {p1 : Int32} {p2 : Int32} {S : tq_St} {K : Int32 → tq_St → Prop} (hf : wp_X4_add p1 p2 S K) : tq_Mi yX4_add cX4_add 3 (some .boolean) 1 (fun a z => [.ref (a.1 20 0), .int p1, .int p2]) S K :=
  tq_mkZ (by decide) (fun _ _ => Nat.le_of_ble_eq_true rfl) (fun X C hR => wk_X4_add C hR  hf)
set_option maxRecDepth 100000 in
set_option maxHeartbeats 4000000 in
theorem wk_X3_renew {X : tq_Cx} {o : Nat} {p1 : Int32} {p2 : Int32} {S : tq_St} {K : tq_St → Prop} (C : tq_C X cX3_renew 3 RX3 2) (hR : tq_Rv X cX3_renew 3 K) (ho : 23 ≤ o ∧ o < 27) (hf : wp_X3_renew o p1 p2 S K) : Go X 3 S 0 [(0, .ref ((tq_la X).1 o 0)), (1, .int p1), (2, .int p2)] [] := by
  refine go_aload_n (pc := 0) C dX3_renew_0 0 rfl rfl ?_
  refine ge_X3_X3_0 (pc := 1) C ho dX3_renew_1 ?_
  refine go_iconst (pc := 4) (v := 0) C dX3_renew_4 (by decide) ?_
  refine go_cSv (pc := 5) C cs_X3_15 (ok_J7_fill_53178 ho hf) rfl rfl rfl (by decide) rfl dX3_renew_5 (fun S2 hf => ?_)
  refine go_aload_n (pc := 8) C dX3_renew_8 0 rfl rfl ?_
  refine go_iconst (pc := 9) (v := 1) C dX3_renew_9 (by decide) ?_
  refine pu_X3_X3_1 (pc := 10) C ho (Or.inr rfl) dX3_renew_10 (fun S4 e5 => ?_)
  have hf := hf S4 e5
  refine go_aload_n (pc := 13) C dX3_renew_13 0 rfl rfl ?_
  refine go_iload_n (pc := 14) C dX3_renew_14 1 rfl rfl ?_
  refine pu_X3_X3_2 (pc := 15) C ho dX3_renew_15 (fun S6 e7 => ?_)
  have hf := hf S6 e7
  refine go_aload_n (pc := 18) C dX3_renew_18 0 rfl rfl ?_
  refine go_iload_n (pc := 19) C dX3_renew_19 2 rfl rfl ?_
  refine pu_X3_X3_3 (pc := 20) C ho dX3_renew_20 (fun S8 e9 => ?_)
  have hf := hf S8 e9
  exact hR _ _ _ dX3_renew_23 hf
set_option maxRecDepth 100000 in
set_option maxHeartbeats 4000000 in
theorem ok_X3_renew {o : Nat} {p1 : Int32} {p2 : Int32} {S : tq_St} {K : tq_St → Prop} (ho : 23 ≤ o ∧ o < 27) (hf : wp_X3_renew o p1 p2 S K) : tq_Mv yX3_renew cX3_renew 3 none 2 (fun a z => [.ref (a.1 o 0), .int p1, .int p2]) S K :=
  tq_mkV (by decide) (fun _ _ => Nat.le_of_ble_eq_true rfl) (fun X C hR => wk_X3_renew C hR ho hf)
end
section
set_option maxRecDepth 100000 in
set_option maxHeartbeats 4000000 in
theorem wk_X5_append {X : tq_Cx} {p1 : Int32} {S : tq_St} {K : Int32 → tq_St → Prop} (C : tq_C X cX5_append 2 RX5 1) (hR : tq_Rz X cX5_append 2 K) (hf : wp_X5_append p1 S K) : Go X 2 S 0 [(0, .ref ((tq_la X).1 19 0)), (1, .int p1)] [] := by
  refine go_aload_n (pc := 0) C dX5_append_0 0 rfl rfl ?_
  refine ge_X5_X5_2 (pc := 1) C dX5_append_1 ?_
  refine go_sipush (pc := 4) (v := 160) C dX5_append_4 (by decide) ?_
  refine go_ic_lt (pc := 7) C dX5_append_7 12 (by decide) (fun c1 => ?_) (fun c1 => ?_)
  · have hf := hf.1 c1
    refine go_aload_n (pc := 12) C dX5_append_12 0 rfl rfl ?_
    refine ge_X5_X5_0 (pc := 13) C dX5_append_13 ?_
    refine go_aload_n (pc := 16) C dX5_append_16 0 rfl rfl ?_
    refine ge_X5_X5_2 (pc := 17) C dX5_append_17 ?_
    refine go_iload_n (pc := 20) C dX5_append_20 1 rfl rfl ?_
    refine go_i2b (pc := 21) C dX5_append_21 ?_
    refine as_X5_0 (pc := 22) C hf.1 dX5_append_22 (fun S2 e3 => ?_)
    have hf := hf.2 S2 e3
    refine go_aload_n (pc := 23) C dX5_append_23 0 rfl rfl ?_
    refine go_dup (pc := 24) C dX5_append_24 rfl ?_
    refine ge_X5_X5_2 (pc := 25) C dX5_append_25 ?_
    refine go_iconst (pc := 28) (v := 1) C dX5_append_28 (by decide) ?_
    refine go_iadd (pc := 29) C dX5_append_29 ?_
    refine pu_X5_X5_2 (pc := 30) C dX5_append_30 (fun S4 e5 => ?_)
    have hf := hf S4 e5
    refine go_iconst (pc := 33) (v := 1) C dX5_append_33 (by decide) ?_
    exact hR _ _ _ _ dX5_append_34 (Or.inr rfl) hf
  · have hf := hf.2 c1
    refine go_iconst (pc := 10) (v := 0) C dX5_append_10 (by decide) ?_
    exact hR _ _ _ _ dX5_append_11 (Or.inl rfl) hf
set_option maxRecDepth 100000 in
set_option maxHeartbeats 4000000 in
theorem ok_X5_append {p1 : Int32} {S : tq_St} {K : Int32 → tq_St → Prop} (hf : wp_X5_append p1 S K) : tq_Mi yX5_append cX5_append 2 (some .boolean) 1 (fun a z => [.ref (a.1 19 0), .int p1]) S K :=
  tq_mkZ (by decide) (fun _ _ => Nat.le_of_ble_eq_true rfl) (fun X C hR => wk_X5_append C hR  hf)
set_option maxRecDepth 100000 in
set_option maxHeartbeats 4000000 in
theorem wk_X5_sortOf_28 {X : tq_Cx} {K : Int32 → tq_St → Prop} (C : tq_C X cX5_sortOf 1 RX5 1) (hR : tq_Ri X cX5_sortOf 1 K) : ∀ (v0 : Int32) (S : tq_St), wp_X5_sortOf_28 K v0 S → Go X 1 S 28 [(0, .int v0)] [] := by
  intro v0 S hf
  refine go_iload_n (pc := 28) C dX5_sortOf_28 0 rfl rfl ?_
  refine go_bipush (pc := 29) (v := 59) C dX5_sortOf_29 (by decide) ?_
  refine go_ic_ne (pc := 31) C dX5_sortOf_31 38 (by decide) (fun c3 => ?_) (fun c3 => ?_)
  · have hf := hf.1 c3
    refine go_iconst (pc := 38) (v := 4) C dX5_sortOf_38 (by decide) ?_
    exact hR _ _ _ _ dX5_sortOf_39 hf
  · have hf := hf.2 c3
    refine go_iconst (pc := 34) (v := 3) C dX5_sortOf_34 (by decide) ?_
    refine go_goto (pc := 35) C dX5_sortOf_35 39 (by decide) ?_
    exact hR _ _ _ _ dX5_sortOf_39 hf
set_option maxRecDepth 100000 in
set_option maxHeartbeats 4000000 in
theorem wk_X5_sortOf_14 {X : tq_Cx} {K : Int32 → tq_St → Prop} (C : tq_C X cX5_sortOf 1 RX5 1) (hR : tq_Ri X cX5_sortOf 1 K) : ∀ (v0 : Int32) (S : tq_St), wp_X5_sortOf_14 K v0 S → Go X 1 S 14 [(0, .int v0)] [] := by
  intro v0 S hf
  refine go_iload_n (pc := 14) C dX5_sortOf_14 0 rfl rfl ?_
  refine go_bipush (pc := 15) (v := 48) C dX5_sortOf_15 (by decide) ?_
  refine go_ic_lt (pc := 17) C dX5_sortOf_17 28 (by decide) (fun c2 => ?_) (fun c2 => ?_)
  · have hf := hf.1 c2
    exact go_sub [0] rfl (wk_X5_sortOf_28 C hR _ _ hf)
  · have hf := hf.2 c2
    refine go_iload_n (pc := 20) C dX5_sortOf_20 0 rfl rfl ?_
    refine go_bipush (pc := 21) (v := 57) C dX5_sortOf_21 (by decide) ?_
    refine go_ic_gt (pc := 23) C dX5_sortOf_23 28 (by decide) (fun c4 => ?_) (fun c4 => ?_)
    · have hf := hf.1 c4
      exact go_sub [0] rfl (wk_X5_sortOf_28 C hR _ _ hf)
    · have hf := hf.2 c4
      refine go_iconst (pc := 26) (v := 2) C dX5_sortOf_26 (by decide) ?_
      exact hR _ _ _ _ dX5_sortOf_27 hf
set_option maxRecDepth 100000 in
set_option maxHeartbeats 4000000 in
theorem wk_X5_sortOf {X : tq_Cx} {p0 : Int32} {S : tq_St} {K : Int32 → tq_St → Prop} (C : tq_C X cX5_sortOf 1 RX5 1) (hR : tq_Ri X cX5_sortOf 1 K) (hf : wp_X5_sortOf p0 S K) : Go X 1 S 0 [(0, .int p0)] [] := by
  refine go_iload_n (pc := 0) C dX5_sortOf_0 0 rfl rfl ?_
  refine go_bipush (pc := 1) (v := 97) C dX5_sortOf_1 (by decide) ?_
  refine go_ic_lt (pc := 3) C dX5_sortOf_3 14 (by decide) (fun c1 => ?_) (fun c1 => ?_)
  · have hf := hf.1 c1
    exact go_sub [0] rfl (wk_X5_sortOf_14 C hR _ _ hf)
  · have hf := hf.2 c1
    refine go_iload_n (pc := 6) C dX5_sortOf_6 0 rfl rfl ?_
    refine go_bipush (pc := 7) (v := 122) C dX5_sortOf_7 (by decide) ?_
    refine go_ic_gt (pc := 9) C dX5_sortOf_9 14 (by decide) (fun c5 => ?_) (fun c5 => ?_)
    · have hf := hf.1 c5
      exact go_sub [0] rfl (wk_X5_sortOf_14 C hR _ _ hf)
    · have hf := hf.2 c5
      refine go_iconst (pc := 12) (v := 1) C dX5_sortOf_12 (by decide) ?_
      exact hR _ _ _ _ dX5_sortOf_13 hf
set_option maxRecDepth 100000 in
set_option maxHeartbeats 4000000 in
theorem ok_X5_sortOf {p0 : Int32} {S : tq_St} {K : Int32 → tq_St → Prop} (hf : wp_X5_sortOf p0 S K) : tq_Mi yX5_sortOf cX5_sortOf 1 (some .int) 1 (fun a z => [.int p0]) S K :=
  tq_mkI (by decide) (fun _ _ => Nat.le_of_ble_eq_true rfl) (fun X C hR => wk_X5_sortOf C hR  hf)
set_option maxRecDepth 100000 in
set_option maxHeartbeats 4000000 in
theorem wk_X5_fail {X : tq_Cx} {p1 : Int32} {p2 : Int32} {S : tq_St} {K : tq_St → Prop} (C : tq_C X cX5_fail 3 RX5 1) (hR : tq_Rv X cX5_fail 3 K) (hf : wp_X5_fail p1 p2 S K) : Go X 3 S 0 [(0, .ref ((tq_la X).1 19 0)), (1, .int p1), (2, .int p2)] [] := by
  refine go_aload_n (pc := 0) C dX5_fail_0 0 rfl rfl ?_
  refine ge_X5_X5_3 (pc := 1) C dX5_fail_1 ?_
  refine go_if_ne (pc := 4) C dX5_fail_4 17 (by decide) (fun c1 => ?_) (fun c1 => ?_)
  · have hf := hf.1 c1
    exact hR _ _ _ dX5_fail_17 hf
  · have hf := hf.2 c1
    refine go_aload_n (pc := 7) C dX5_fail_7 0 rfl rfl ?_
    refine go_iload_n (pc := 8) C dX5_fail_8 1 rfl rfl ?_
    refine pu_X5_X5_3 (pc := 9) C dX5_fail_9 (fun S2 e3 => ?_)
    have hf := hf S2 e3
    refine go_aload_n (pc := 12) C dX5_fail_12 0 rfl rfl ?_
    refine go_iload_n (pc := 13) C dX5_fail_13 2 rfl rfl ?_
    refine pu_X5_X5_4 (pc := 14) C dX5_fail_14 (fun S4 e5 => ?_)
    have hf := hf S4 e5
    exact hR _ _ _ dX5_fail_17 hf
set_option maxRecDepth 100000 in
set_option maxHeartbeats 4000000 in
theorem ok_X5_fail {p1 : Int32} {p2 : Int32} {S : tq_St} {K : tq_St → Prop} (hf : wp_X5_fail p1 p2 S K) : tq_Mv yX5_fail cX5_fail 3 none 1 (fun a z => [.ref (a.1 19 0), .int p1, .int p2]) S K :=
  tq_mkV (by decide) (fun _ _ => Nat.le_of_ble_eq_true rfl) (fun X C hR => wk_X5_fail C hR  hf)
set_option maxRecDepth 100000 in
set_option maxHeartbeats 4000000 in
theorem wk_X5_takeToken_215 {X : tq_Cx} {K : tq_St → Prop} (C : tq_C X cX5_takeToken 2 RX5 2) (hR : tq_Rv X cX5_takeToken 2 K) : ∀ (S : tq_St), wp_X5_takeToken_215 K S → Go X 2 S 215 [(0, .ref ((tq_la X).1 19 0))] [] := by
  intro S hf
  refine go_aload_n (pc := 215) C dX5_takeToken_215 0 rfl rfl ?_
  refine ge_X5_X5_7 (pc := 216) C dX5_takeToken_216 ?_
  refine go_iconst (pc := 219) (v := 4) C dX5_takeToken_219 (by decide) ?_
  refine go_ic_ne (pc := 220) C dX5_takeToken_220 232 (by decide) (fun c12 => ?_) (fun c12 => ?_)
  · have hf := hf.1 c12
    exact hR _ _ _ dX5_takeToken_232 hf
  · have hf := hf.2 c12
    refine go_aload_n (pc := 223) C dX5_takeToken_223 0 rfl rfl ?_
    refine go_iconst (pc := 224) (v := 1) C dX5_takeToken_224 (by decide) ?_
    refine go_aload_n (pc := 225) C dX5_takeToken_225 0 rfl rfl ?_
    refine ge_X5_X5_8 (pc := 226) C dX5_takeToken_226 ?_
    refine go_cVv (pc := 229) C cw_X5_54 (ok_X5_fail hf) (rc_X5 C) rfl rfl rfl (by decide) rfl dX5_takeToken_229 (fun S14 hf => ?_)
    exact hR _ _ _ dX5_takeToken_232 hf
set_option maxRecDepth 100000 in
set_option maxHeartbeats 4000000 in
theorem wk_X5_takeToken_189 {X : tq_Cx} {K : tq_St → Prop} (C : tq_C X cX5_takeToken 2 RX5 2) (hR : tq_Rv X cX5_takeToken 2 K) : ∀ (S : tq_St), wp_X5_takeToken_189 K S → Go X 2 S 189 [(0, .ref ((tq_la X).1 19 0))] [] := by
  intro S hf
  refine go_aload_n (pc := 189) C dX5_takeToken_189 0 rfl rfl ?_
  refine ge_X5_X5_7 (pc := 190) C dX5_takeToken_190 ?_
  refine go_iconst (pc := 193) (v := 2) C dX5_takeToken_193 (by decide) ?_
  refine go_ic_ne (pc := 194) C dX5_takeToken_194 215 (by decide) (fun c11 => ?_) (fun c11 => ?_)
  · have hf := hf.1 c11
    exact go_sub [0] rfl (wk_X5_takeToken_215 C hR _ hf)
  · have hf := hf.2 c11
    refine go_aload_n (pc := 197) C dX5_takeToken_197 0 rfl rfl ?_
    refine ge_X5_X5_6 (pc := 198) C dX5_takeToken_198 ?_
    refine go_aload_n (pc := 201) C dX5_takeToken_201 0 rfl rfl ?_
    refine ge_X5_X5_8 (pc := 202) C dX5_takeToken_202 ?_
    refine go_isub (pc := 205) C dX5_takeToken_205 ?_
    refine go_iconst (pc := 206) (v := 2) C dX5_takeToken_206 (by decide) ?_
    refine go_ic_le (pc := 207) C dX5_takeToken_207 215 (by decide) (fun c16 => ?_) (fun c16 => ?_)
    · have hf := hf.1 c16
      exact go_sub [0] rfl (wk_X5_takeToken_215 C hR _ hf)
    · have hf := hf.2 c16
      refine go_aload_n (pc := 210) C dX5_takeToken_210 0 rfl rfl ?_
      refine go_iconst (pc := 211) (v := 4) C dX5_takeToken_211 (by decide) ?_
      refine pu_X5_X5_7 (pc := 212) C dX5_takeToken_212 (fun S17 e18 => ?_)
      have hf := hf S17 e18
      exact go_sub [0] rfl (wk_X5_takeToken_215 C hR _ hf)
set_option maxRecDepth 100000 in
set_option maxHeartbeats 4000000 in
theorem wk_X5_takeToken_152 {X : tq_Cx} {K : tq_St → Prop} (C : tq_C X cX5_takeToken 2 RX5 2) (hR : tq_Rv X cX5_takeToken 2 K) {rec104 : Int32 → tq_St → Prop} (hrec104 : ∀ (v1 : Int32) (S : tq_St), rec104 v1 S → Go X 2 S 104 [(0, .ref ((tq_la X).1 19 0)), (1, .int v1)] []) : ∀ (v1 : Int32) (S : tq_St), wp_X5_takeToken_152 K rec104 v1 S → Go X 2 S 152 [(0, .ref ((tq_la X).1 19 0)), (1, .int v1)] [] := by
  intro v1 S hf
  refine go_aload_n (pc := 152) C dX5_takeToken_152 0 rfl rfl ?_
  refine go_aload_n (pc := 153) C dX5_takeToken_153 0 rfl rfl ?_
  refine ge_X5_X5_9 (pc := 154) C dX5_takeToken_154 ?_
  refine go_bipush (pc := 157) (v := 10) C dX5_takeToken_157 (by decide) ?_
  refine go_imul (pc := 159) C dX5_takeToken_159 ?_
  refine go_aload_n (pc := 160) C dX5_takeToken_160 0 rfl rfl ?_
  refine ge_X5_X5_0 (pc := 161) C dX5_takeToken_161 ?_
  refine go_aload_n (pc := 164) C dX5_takeToken_164 0 rfl rfl ?_
  refine ge_X5_X5_6 (pc := 165) C dX5_takeToken_165 ?_
  refine al_X5_0 (pc := 168) C hf.1 dX5_takeToken_168 ?_
  have hf := hf.2
  refine go_bipush (pc := 169) (v := 48) C dX5_takeToken_169 (by decide) ?_
  refine go_isub (pc := 171) C dX5_takeToken_171 ?_
  refine go_iadd (pc := 172) C dX5_takeToken_172 ?_
  refine pu_X5_X5_9 (pc := 173) C dX5_takeToken_173 (fun S21 e22 => ?_)
  have hf := hf S21 e22
  refine go_aload_n (pc := 176) C dX5_takeToken_176 0 rfl rfl ?_
  refine go_dup (pc := 177) C dX5_takeToken_177 rfl ?_
  refine ge_X5_X5_6 (pc := 178) C dX5_takeToken_178 ?_
  refine go_iconst (pc := 181) (v := 1) C dX5_takeToken_181 (by decide) ?_
  refine go_iadd (pc := 182) C dX5_takeToken_182 ?_
  refine pu_X5_X5_6 (pc := 183) C dX5_takeToken_183 (fun S23 e24 => ?_)
  have hf := hf S23 e24
  refine go_goto (pc := 186) C dX5_takeToken_186 104 (by decide) ?_
  exact go_sub [0, 1] rfl (hrec104 _ _ hf)
set_option maxRecDepth 100000 in
set_option maxHeartbeats 4000000 in
theorem wk_X5_takeToken_104 {X : tq_Cx} {K : tq_St → Prop} (C : tq_C X cX5_takeToken 2 RX5 2) (hR : tq_Rv X cX5_takeToken 2 K) : ∀ (n : Nat) (v1 : Int32) (S : tq_St), wp_X5_takeToken_104 K n v1 S → Go X 2 S 104 [(0, .ref ((tq_la X).1 19 0)), (1, .int v1)] [] := by
  intro n
  induction n with
  | zero => intros; contradiction
  | succ n ih =>
    intro v1 S hf
    refine go_aload_n (pc := 104) C dX5_takeToken_104 0 rfl rfl ?_
    refine ge_X5_X5_6 (pc := 105) C dX5_takeToken_105 ?_
    refine go_aload_n (pc := 108) C dX5_takeToken_108 0 rfl rfl ?_
    refine ge_X5_X5_2 (pc := 109) C dX5_takeToken_109 ?_
    refine go_ic_ge (pc := 112) C dX5_takeToken_112 189 (by decide) (fun c10 => ?_) (fun c10 => ?_)
    · have hf := hf.1 c10
      exact go_sub [0] rfl (wk_X5_takeToken_189 C hR _ hf)
    · have hf := hf.2 c10
      refine go_iload_n (pc := 115) C dX5_takeToken_115 1 rfl rfl ?_
      refine go_if_eq (pc := 116) C dX5_takeToken_116 141 (by decide) (fun c19 => ?_) (fun c19 => ?_)
      · have hf := hf.1 c19
        refine go_aload_n (pc := 141) C dX5_takeToken_141 0 rfl rfl ?_
        refine ge_X5_X5_6 (pc := 142) C dX5_takeToken_142 ?_
        refine go_aload_n (pc := 145) C dX5_takeToken_145 0 rfl rfl ?_
        refine ge_X5_X5_8 (pc := 146) C dX5_takeToken_146 ?_
        refine go_ic_ne (pc := 149) C dX5_takeToken_149 189 (by decide) (fun c20 => ?_) (fun c20 => ?_)
        · have hf := hf.1 c20
          exact go_sub [0] rfl (wk_X5_takeToken_189 C hR _ hf)
        · have hf := hf.2 c20
          exact go_sub [0, 1] rfl (wk_X5_takeToken_152 C hR ih _ _ hf)
      · have hf := hf.2 c19
        refine go_aload_n (pc := 119) C dX5_takeToken_119 0 rfl rfl ?_
        refine ge_X5_X5_0 (pc := 120) C dX5_takeToken_120 ?_
        refine go_aload_n (pc := 123) C dX5_takeToken_123 0 rfl rfl ?_
        refine ge_X5_X5_6 (pc := 124) C dX5_takeToken_124 ?_
        refine al_X5_0 (pc := 127) C hf.1 dX5_takeToken_127 ?_
        have hf := hf.2
        refine go_cSi (pc := 128) C cs_X5_98 (ok_X5_sortOf hf) rfl rfl rfl (by decide) rfl dX5_takeToken_128 (fun r25 S26 hf => ?_)
        refine go_aload_n (pc := 131) C dX5_takeToken_131 0 rfl rfl ?_
        refine ge_X5_X5_7 (pc := 132) C dX5_takeToken_132 ?_
        refine go_ic_ne (pc := 135) C dX5_takeToken_135 189 (by decide) (fun c28 => ?_) (fun c28 => ?_)
        · have hf := hf.1 c28
          exact go_sub [0] rfl (wk_X5_takeToken_189 C hR _ hf)
        · have hf := hf.2 c28
          refine go_goto (pc := 138) C dX5_takeToken_138 152 (by decide) ?_
          exact go_sub [0, 1] rfl (wk_X5_takeToken_152 C hR ih _ _ hf)
set_option maxRecDepth 100000 in
set_option maxHeartbeats 4000000 in
theorem wk_X5_takeToken_79 {X : tq_Cx} {K : tq_St → Prop} (C : tq_C X cX5_takeToken 2 RX5 2) (hR : tq_Rv X cX5_takeToken 2 K) : ∀ (w1 : Int32) (S : tq_St), wp_X5_takeToken_79 K w1 S → Go X 2 S 79 [(0, .ref ((tq_la X).1 19 0))] [.int w1, .ref ((tq_la X).1 19 0)] := by
  intro w1 S hf
  refine pu_X5_X5_7 (pc := 79) C dX5_takeToken_79 (fun S7 e8 => ?_)
  have hf := hf S7 e8
  refine go_aload_n (pc := 82) C dX5_takeToken_82 0 rfl rfl ?_
  refine ge_X5_X5_7 (pc := 83) C dX5_takeToken_83 ?_
  refine go_iconst (pc := 86) (v := 1) C dX5_takeToken_86 (by decide) ?_
  refine go_ic_eq (pc := 87) C dX5_takeToken_87 98 (by decide) (fun c9 => ?_) (fun c9 => ?_)
  · have hf := hf.1 c9
    refine go_iconst (pc := 98) (v := 1) C dX5_takeToken_98 (by decide) ?_
    refine go_goto (pc := 99) C dX5_takeToken_99 103 (by decide) ?_
    refine go_istore_n (pc := 103) C dX5_takeToken_103 [(1, .int 1), (0, .ref ((tq_la X).1 19 0))] rfl (by decide) rfl ?_
    exact go_sub [1, 0] rfl (wk_X5_takeToken_104 C hR 2000 _ _ hf)
  · have hf := hf.2 c9
    refine go_aload_n (pc := 90) C dX5_takeToken_90 0 rfl rfl ?_
    refine ge_X5_X5_7 (pc := 91) C dX5_takeToken_91 ?_
    refine go_iconst (pc := 94) (v := 2) C dX5_takeToken_94 (by decide) ?_
    refine go_ic_ne (pc := 95) C dX5_takeToken_95 102 (by decide) (fun c29 => ?_) (fun c29 => ?_)
    · have hf := hf.1 c29
      refine go_iconst (pc := 102) (v := 0) C dX5_takeToken_102 (by decide) ?_
      refine go_istore_n (pc := 103) C dX5_takeToken_103 [(1, .int 0), (0, .ref ((tq_la X).1 19 0))] rfl (by decide) rfl ?_
      exact go_sub [1, 0] rfl (wk_X5_takeToken_104 C hR 2000 _ _ hf)
    · have hf := hf.2 c29
      refine go_iconst (pc := 98) (v := 1) C dX5_takeToken_98 (by decide) ?_
      refine go_goto (pc := 99) C dX5_takeToken_99 103 (by decide) ?_
      refine go_istore_n (pc := 103) C dX5_takeToken_103 [(1, .int 1), (0, .ref ((tq_la X).1 19 0))] rfl (by decide) rfl ?_
      exact go_sub [1, 0] rfl (wk_X5_takeToken_104 C hR 2000 _ _ hf)
set_option maxRecDepth 100000 in
set_option maxHeartbeats 4000000 in
theorem wk_X5_takeToken_38 {X : tq_Cx} {K : tq_St → Prop} (C : tq_C X cX5_takeToken 2 RX5 2) (hR : tq_Rv X cX5_takeToken 2 K) : ∀ (S : tq_St), wp_X5_takeToken_38 K S → Go X 2 S 38 [(0, .ref ((tq_la X).1 19 0))] [] := by
  intro S hf
  refine go_aload_n (pc := 38) C dX5_takeToken_38 0 rfl rfl ?_
  refine go_aload_n (pc := 39) C dX5_takeToken_39 0 rfl rfl ?_
  refine ge_X5_X5_6 (pc := 40) C dX5_takeToken_40 ?_
  refine pu_X5_X5_8 (pc := 43) C dX5_takeToken_43 (fun S2 e3 => ?_)
  have hf := hf S2 e3
  refine go_aload_n (pc := 46) C dX5_takeToken_46 0 rfl rfl ?_
  refine go_iconst (pc := 47) (v := 0) C dX5_takeToken_47 (by decide) ?_
  refine pu_X5_X5_9 (pc := 48) C dX5_takeToken_48 (fun S4 e5 => ?_)
  have hf := hf S4 e5
  refine go_aload_n (pc := 51) C dX5_takeToken_51 0 rfl rfl ?_
  refine go_aload_n (pc := 52) C dX5_takeToken_52 0 rfl rfl ?_
  refine ge_X5_X5_6 (pc := 53) C dX5_takeToken_53 ?_
  refine go_aload_n (pc := 56) C dX5_takeToken_56 0 rfl rfl ?_
  refine ge_X5_X5_2 (pc := 57) C dX5_takeToken_57 ?_
  refine go_ic_ge (pc := 60) C dX5_takeToken_60 78 (by decide) (fun c6 => ?_) (fun c6 => ?_)
  · have hf := hf.1 c6
    refine go_iconst (pc := 78) (v := 0) C dX5_takeToken_78 (by decide) ?_
    exact go_sub [0] rfl (wk_X5_takeToken_79 C hR _ _ hf)
  · have hf := hf.2 c6
    refine go_aload_n (pc := 63) C dX5_takeToken_63 0 rfl rfl ?_
    refine ge_X5_X5_0 (pc := 64) C dX5_takeToken_64 ?_
    refine go_aload_n (pc := 67) C dX5_takeToken_67 0 rfl rfl ?_
    refine ge_X5_X5_6 (pc := 68) C dX5_takeToken_68 ?_
    refine al_X5_0 (pc := 71) C hf.1 dX5_takeToken_71 ?_
    have hf := hf.2
    refine go_cSi (pc := 72) C cs_X5_98 (ok_X5_sortOf hf) rfl rfl rfl (by decide) rfl dX5_takeToken_72 (fun r30 S31 hf => ?_)
    refine go_goto (pc := 75) C dX5_takeToken_75 79 (by decide) ?_
    exact go_sub [0] rfl (wk_X5_takeToken_79 C hR _ _ hf)
set_option maxRecDepth 100000 in
set_option maxHeartbeats 4000000 in
theorem wk_X5_takeToken_0 {X : tq_Cx} {K : tq_St → Prop} (C : tq_C X cX5_takeToken 2 RX5 2) (hR : tq_Rv X cX5_takeToken 2 K) : ∀ (n : Nat) (S : tq_St), wp_X5_takeToken_0 K n S → Go X 2 S 0 [(0, .ref ((tq_la X).1 19 0))] [] := by
  intro n
  induction n with
  | zero => intros; contradiction
  | succ n ih =>
    intro S hf
    refine go_aload_n (pc := 0) C dX5_takeToken_0 0 rfl rfl ?_
    refine ge_X5_X5_6 (pc := 1) C dX5_takeToken_1 ?_
    refine go_aload_n (pc := 4) C dX5_takeToken_4 0 rfl rfl ?_
    refine ge_X5_X5_2 (pc := 5) C dX5_takeToken_5 ?_
    refine go_ic_ge (pc := 8) C dX5_takeToken_8 38 (by decide) (fun c1 => ?_) (fun c1 => ?_)
    · have hf := hf.1 c1
      exact go_sub [0] rfl (wk_X5_takeToken_38 C hR _ hf)
    · have hf := hf.2 c1
      refine go_aload_n (pc := 11) C dX5_takeToken_11 0 rfl rfl ?_
      refine ge_X5_X5_0 (pc := 12) C dX5_takeToken_12 ?_
      refine go_aload_n (pc := 15) C dX5_takeToken_15 0 rfl rfl ?_
      refine ge_X5_X5_6 (pc := 16) C dX5_takeToken_16 ?_
      refine al_X5_0 (pc := 19) C hf.1 dX5_takeToken_19 ?_
      have hf := hf.2
      refine go_bipush (pc := 20) (v := 32) C dX5_takeToken_20 (by decide) ?_
      refine go_ic_ne (pc := 22) C dX5_takeToken_22 38 (by decide) (fun c33 => ?_) (fun c33 => ?_)
      · have hf := hf.1 c33
        exact go_sub [0] rfl (wk_X5_takeToken_38 C hR _ hf)
      · have hf := hf.2 c33
        refine go_aload_n (pc := 25) C dX5_takeToken_25 0 rfl rfl ?_
        refine go_dup (pc := 26) C dX5_takeToken_26 rfl ?_
        refine ge_X5_X5_6 (pc := 27) C dX5_takeToken_27 ?_
        refine go_iconst (pc := 30) (v := 1) C dX5_takeToken_30 (by decide) ?_
        refine go_iadd (pc := 31) C dX5_takeToken_31 ?_
        refine pu_X5_X5_6 (pc := 32) C dX5_takeToken_32 (fun S34 e35 => ?_)
        have hf := hf S34 e35
        refine go_goto (pc := 35) C dX5_takeToken_35 0 (by decide) ?_
        exact go_sub [0] rfl (ih _ hf)
set_option maxRecDepth 100000 in
set_option maxHeartbeats 4000000 in
theorem wk_X5_takeToken {X : tq_Cx} {S : tq_St} {K : tq_St → Prop} (C : tq_C X cX5_takeToken 2 RX5 2) (hR : tq_Rv X cX5_takeToken 2 K) (hf : wp_X5_takeToken S K) : Go X 2 S 0 [(0, .ref ((tq_la X).1 19 0))] [] := by
  exact go_sub [0] rfl (wk_X5_takeToken_0 C hR 2000 _ hf)
set_option maxRecDepth 100000 in
set_option maxHeartbeats 4000000 in
theorem ok_X5_takeToken {S : tq_St} {K : tq_St → Prop} (hf : wp_X5_takeToken S K) : tq_Mv yX5_takeToken cX5_takeToken 2 none 2 (fun a z => [.ref (a.1 19 0)]) S K :=
  tq_mkV (by decide) (fun _ _ => Nat.le_of_ble_eq_true rfl) (fun X C hR => wk_X5_takeToken C hR  hf)
set_option maxRecDepth 100000 in
set_option maxHeartbeats 4000000 in
theorem wk_X5_nameOf {X : tq_Cx} {p0 : Int32} {S : tq_St} {K : Nat → tq_St → Prop} (C : tq_C X cX5_nameOf 1 RX5 1) (hR : tq_Rr X cX5_nameOf 1 K) (hf : wp_X5_nameOf p0 S K) : Go X 1 S 0 [(0, .int p0)] [] := by
  refine go_iload_n (pc := 0) C dX5_nameOf_0 0 rfl rfl ?_
  rcases tq_sw (x := p0) (0) (5) with c1 | c1
  · have hf := hf.1 c1
    refine go_tabOut (pc := 1) C dX5_nameOf_1 58 (by decide) c1 ?_
    refine go_ldcS (pc := 58) C 6 (by decide) rfl dX5_nameOf_58 ?_
    exact hR _ _ _ _ dX5_nameOf_60 hf
  · have c1 := tq_lt6 c1
    rcases c1 with c1 | c1 | c1 | c1 | c1 | c1
    · have hf := hf.2.1 c1
      refine go_tabIn (pc := 1) C dX5_nameOf_1 40 (39) (by decide) (by rw [c1]; decide) (by rw [c1]; decide) (by rw [c1]; rfl) ?_
      refine go_ldcS (pc := 40) C 0 (by decide) rfl dX5_nameOf_40 ?_
      exact hR _ _ _ _ dX5_nameOf_42 hf
    · have hf := hf.2.2.1 c1
      refine go_tabIn (pc := 1) C dX5_nameOf_1 43 (42) (by decide) (by rw [c1]; decide) (by rw [c1]; decide) (by rw [c1]; rfl) ?_
      refine go_ldcS (pc := 43) C 1 (by decide) rfl dX5_nameOf_43 ?_
      exact hR _ _ _ _ dX5_nameOf_45 hf
    · have hf := hf.2.2.2.1 c1
      refine go_tabIn (pc := 1) C dX5_nameOf_1 46 (45) (by decide) (by rw [c1]; decide) (by rw [c1]; decide) (by rw [c1]; rfl) ?_
      refine go_ldcS (pc := 46) C 2 (by decide) rfl dX5_nameOf_46 ?_
      exact hR _ _ _ _ dX5_nameOf_48 hf
    · have hf := hf.2.2.2.2.1 c1
      refine go_tabIn (pc := 1) C dX5_nameOf_1 49 (48) (by decide) (by rw [c1]; decide) (by rw [c1]; decide) (by rw [c1]; rfl) ?_
      refine go_ldcS (pc := 49) C 3 (by decide) rfl dX5_nameOf_49 ?_
      exact hR _ _ _ _ dX5_nameOf_51 hf
    · have hf := hf.2.2.2.2.2.1 c1
      refine go_tabIn (pc := 1) C dX5_nameOf_1 52 (51) (by decide) (by rw [c1]; decide) (by rw [c1]; decide) (by rw [c1]; rfl) ?_
      refine go_ldcS (pc := 52) C 4 (by decide) rfl dX5_nameOf_52 ?_
      exact hR _ _ _ _ dX5_nameOf_54 hf
    · have hf := hf.2.2.2.2.2.2 c1
      refine go_tabIn (pc := 1) C dX5_nameOf_1 55 (54) (by decide) (by rw [c1]; decide) (by rw [c1]; decide) (by rw [c1]; rfl) ?_
      refine go_ldcS (pc := 55) C 5 (by decide) rfl dX5_nameOf_55 ?_
      exact hR _ _ _ _ dX5_nameOf_57 hf
set_option maxRecDepth 100000 in
set_option maxHeartbeats 4000000 in
theorem ok_X5_nameOf {p0 : Int32} {S : tq_St} {K : Nat → tq_St → Prop} (hf : wp_X5_nameOf p0 S K) : tq_Mr yX5_nameOf cX5_nameOf 1 (some (.object "java/lang/String")) 1 (fun a z => [.int p0]) S K :=
  tq_mkR (by decide) (fun _ _ => Nat.le_of_ble_eq_true rfl) (fun X C hR => wk_X5_nameOf C hR  hf)
set_option maxRecDepth 100000 in
set_option maxHeartbeats 4000000 in
theorem wk_X5_isName_20 {X : tq_Cx} {p1 : Nat} {K : Int32 → tq_St → Prop} (C : tq_C X cX5_isName 3 RX5 6) (hR : tq_Rz X cX5_isName 3 K) (hp1 : p1 < 7) : ∀ (n : Nat) (v2 : Int32) (S : tq_St), wp_X5_isName_20 p1 K n v2 S → Go X 3 S 20 [(0, .ref ((tq_la X).1 19 0)), (1, .ref ((tq_zl X).2.1 p1)), (2, .int v2)] [] := by
  intro n
  induction n with
  | zero => intros; contradiction
  | succ n ih =>
    intro v2 S hf
    refine go_iload_n (pc := 20) C dX5_isName_20 2 rfl rfl ?_
    refine go_aload_n (pc := 21) C dX5_isName_21 1 rfl rfl ?_
    refine go_cVi (pc := 22) C cw_X5_122 (ok_J0_length_8abf5 hp1 hf) (tq_recS C hp1) rfl rfl rfl (by decide) rfl dX5_isName_22 (fun r5 S6 hf => ?_)
    refine go_ic_ge (pc := 25) C dX5_isName_25 55 (by decide) (fun c8 => ?_) (fun c8 => ?_)
    · have hf := hf.1 c8
      refine go_iconst (pc := 55) (v := 1) C dX5_isName_55 (by decide) ?_
      exact hR _ _ _ _ dX5_isName_56 (Or.inr rfl) hf
    · have hf := hf.2 c8
      refine go_aload_n (pc := 28) C dX5_isName_28 0 rfl rfl ?_
      refine ge_X5_X5_0 (pc := 29) C dX5_isName_29 ?_
      refine go_aload_n (pc := 32) C dX5_isName_32 0 rfl rfl ?_
      refine ge_X5_X5_8 (pc := 33) C dX5_isName_33 ?_
      refine go_iload_n (pc := 36) C dX5_isName_36 2 rfl rfl ?_
      refine go_iadd (pc := 37) C dX5_isName_37 ?_
      refine al_X5_0 (pc := 38) C hf.1 dX5_isName_38 ?_
      have hf := hf.2
      refine go_aload_n (pc := 39) C dX5_isName_39 1 rfl rfl ?_
      refine go_iload_n (pc := 40) C dX5_isName_40 2 rfl rfl ?_
      refine go_cVi (pc := 41) C cw_X5_126 (ok_J0_charAt_5068e hp1 hf) (tq_recS C hp1) rfl rfl rfl (by decide) rfl dX5_isName_41 (fun r9 S10 hf => ?_)
      refine go_ic_eq (pc := 44) C dX5_isName_44 49 (by decide) (fun c12 => ?_) (fun c12 => ?_)
      · have hf := hf.1 c12
        obtain ⟨x13, e14⟩ : ∃ q9 : Int32, q9 = v2 + 1 := ⟨_, rfl⟩
        refine go_iinc (pc := 49) (j := 2) (v := x13) C dX5_isName_49 [(2, .int x13), (0, .ref ((tq_la X).1 19 0)), (1, .ref ((tq_zl X).2.1 p1))] rfl (by rw [e14]; rfl) (by decide) rfl ?_
        have hf := hf x13 e14
        refine go_goto (pc := 52) C dX5_isName_52 20 (by decide) ?_
        exact go_sub [1, 2, 0] rfl (ih _ _ hf)
      · have hf := hf.2 c12
        refine go_iconst (pc := 47) (v := 0) C dX5_isName_47 (by decide) ?_
        exact hR _ _ _ _ dX5_isName_48 (Or.inl rfl) hf
set_option maxRecDepth 100000 in
set_option maxHeartbeats 4000000 in
theorem wk_X5_isName {X : tq_Cx} {p1 : Nat} {S : tq_St} {K : Int32 → tq_St → Prop} (C : tq_C X cX5_isName 3 RX5 6) (hR : tq_Rz X cX5_isName 3 K) (hp1 : p1 < 7) (hf : wp_X5_isName p1 S K) : Go X 3 S 0 [(0, .ref ((tq_la X).1 19 0)), (1, .ref ((tq_zl X).2.1 p1))] [] := by
  refine go_aload_n (pc := 0) C dX5_isName_0 1 rfl rfl ?_
  refine go_cVi (pc := 1) C cw_X5_122 (ok_J0_length_8abf5 hp1 hf) (tq_recS C hp1) rfl rfl rfl (by decide) rfl dX5_isName_1 (fun r1 S2 hf => ?_)
  refine go_aload_n (pc := 4) C dX5_isName_4 0 rfl rfl ?_
  refine ge_X5_X5_6 (pc := 5) C dX5_isName_5 ?_
  refine go_aload_n (pc := 8) C dX5_isName_8 0 rfl rfl ?_
  refine ge_X5_X5_8 (pc := 9) C dX5_isName_9 ?_
  refine go_isub (pc := 12) C dX5_isName_12 ?_
  refine go_ic_eq (pc := 13) C dX5_isName_13 18 (by decide) (fun c4 => ?_) (fun c4 => ?_)
  · have hf := hf.1 c4
    refine go_iconst (pc := 18) (v := 0) C dX5_isName_18 (by decide) ?_
    refine go_istore_n (pc := 19) C dX5_isName_19 [(2, .int 0), (0, .ref ((tq_la X).1 19 0)), (1, .ref ((tq_zl X).2.1 p1))] rfl (by decide) rfl ?_
    exact go_sub [1, 2, 0] rfl (wk_X5_isName_20 C hR hp1 2000 _ _ hf)
  · have hf := hf.2 c4
    refine go_iconst (pc := 16) (v := 0) C dX5_isName_16 (by decide) ?_
    exact hR _ _ _ _ dX5_isName_17 (Or.inl rfl) hf
set_option maxRecDepth 100000 in
set_option maxHeartbeats 4000000 in
theorem ok_X5_isName {p1 : Nat} {S : tq_St} {K : Int32 → tq_St → Prop} (hp1 : p1 < 7) (hf : wp_X5_isName p1 S K) : tq_Mi yX5_isName cX5_isName 3 (some .boolean) 6 (fun a z => [.ref (a.1 19 0), .ref (z.2.1 p1)]) S K :=
  tq_mkZ (by decide) (fun _ _ => Nat.le_of_ble_eq_true rfl) (fun X C hR => wk_X5_isName C hR hp1 hf)
set_option maxRecDepth 100000 in
set_option maxHeartbeats 4000000 in
theorem wk_X5_lineBegun_13 {X : tq_Cx} {K : Int32 → tq_St → Prop} (C : tq_C X cX5_lineBegun 2 RX5 7) (hR : tq_Ri X cX5_lineBegun 2 K) : ∀ (n : Nat) (v1 : Int32) (S : tq_St), wp_X5_lineBegun_13 K n v1 S → Go X 2 S 13 [(0, .ref ((tq_la X).1 19 0)), (1, .int v1)] [] := by
  intro n
  induction n with
  | zero => intros; contradiction
  | succ n ih =>
    intro v1 S hf
    refine go_iload_n (pc := 13) C dX5_lineBegun_13 1 rfl rfl ?_
    refine go_bipush (pc := 14) (v := 7) C dX5_lineBegun_14 (by decide) ?_
    refine go_ic_ge (pc := 16) C dX5_lineBegun_16 38 (by decide) (fun c2 => ?_) (fun c2 => ?_)
    · have hf := hf.1 c2
      refine go_bipush (pc := 38) (v := 7) C dX5_lineBegun_38 (by decide) ?_
      exact hR _ _ _ _ dX5_lineBegun_40 hf
    · have hf := hf.2 c2
      refine go_aload_n (pc := 19) C dX5_lineBegun_19 0 rfl rfl ?_
      refine go_iload_n (pc := 20) C dX5_lineBegun_20 1 rfl rfl ?_
      refine go_cSr (pc := 21) C cs_X5_102 (ok_X5_nameOf hf) rfl rfl rfl (by decide) rfl dX5_lineBegun_21 (fun r3 S4 hf => ?_)
      have h5 := hf.1
      have hf := hf.2
      refine go_cVi (pc := 24) C cw_X5_106 (ok_X5_isName h5 hf) (rc_X5 C) rfl rfl rfl (by decide) rfl dX5_lineBegun_24 (fun r6 S7 hf => ?_)
      refine go_if_eq (pc := 27) C dX5_lineBegun_27 32 (by decide) (fun c9 => ?_) (fun c9 => ?_)
      · have hf := hf.1 c9
        obtain ⟨x10, e11⟩ : ∃ q9 : Int32, q9 = v1 + 1 := ⟨_, rfl⟩
        refine go_iinc (pc := 32) (j := 1) (v := x10) C dX5_lineBegun_32 [(1, .int x10), (0, .ref ((tq_la X).1 19 0))] rfl (by rw [e11]; rfl) (by decide) rfl ?_
        have hf := hf x10 e11
        refine go_goto (pc := 35) C dX5_lineBegun_35 13 (by decide) ?_
        exact go_sub [1, 0] rfl (ih _ _ hf)
      · have hf := hf.2 c9
        refine go_iload_n (pc := 30) C dX5_lineBegun_30 1 rfl rfl ?_
        exact hR _ _ _ _ dX5_lineBegun_31 hf
set_option maxRecDepth 100000 in
set_option maxHeartbeats 4000000 in
theorem wk_X5_lineBegun {X : tq_Cx} {S : tq_St} {K : Int32 → tq_St → Prop} (C : tq_C X cX5_lineBegun 2 RX5 7) (hR : tq_Ri X cX5_lineBegun 2 K) (hf : wp_X5_lineBegun S K) : Go X 2 S 0 [(0, .ref ((tq_la X).1 19 0))] [] := by
  refine go_aload_n (pc := 0) C dX5_lineBegun_0 0 rfl rfl ?_
  refine ge_X5_X5_7 (pc := 1) C dX5_lineBegun_1 ?_
  refine go_iconst (pc := 4) (v := 1) C dX5_lineBegun_4 (by decide) ?_
  refine go_ic_eq (pc := 5) C dX5_lineBegun_5 11 (by decide) (fun c1 => ?_) (fun c1 => ?_)
  · have hf := hf.1 c1
    refine go_iconst (pc := 11) (v := 0) C dX5_lineBegun_11 (by decide) ?_
    refine go_istore_n (pc := 12) C dX5_lineBegun_12 [(1, .int 0), (0, .ref ((tq_la X).1 19 0))] rfl (by decide) rfl ?_
    exact go_sub [1, 0] rfl (wk_X5_lineBegun_13 C hR 2000 _ _ hf)
  · have hf := hf.2 c1
    refine go_bipush (pc := 8) (v := 7) C dX5_lineBegun_8 (by decide) ?_
    exact hR _ _ _ _ dX5_lineBegun_10 hf
set_option maxRecDepth 100000 in
set_option maxHeartbeats 4000000 in
theorem ok_X5_lineBegun {S : tq_St} {K : Int32 → tq_St → Prop} (hf : wp_X5_lineBegun S K) : tq_Mi yX5_lineBegun cX5_lineBegun 2 (some .int) 7 (fun a z => [.ref (a.1 19 0)]) S K :=
  tq_mkI (by decide) (fun _ _ => Nat.le_of_ble_eq_true rfl) (fun X C hR => wk_X5_lineBegun C hR  hf)
set_option maxRecDepth 100000 in
set_option maxHeartbeats 4000000 in
theorem wk_X5_takeNumber_44 {X : tq_Cx} {K : Int32 → tq_St → Prop} (C : tq_C X cX5_takeNumber 4 RX5 3) (hR : tq_Ri X cX5_takeNumber 4 K) : ∀ (v1 : Int32) (S : tq_St), wp_X5_takeNumber_44 K v1 S → Go X 4 S 44 [(0, .ref ((tq_la X).1 19 0)), (1, .int v1)] [] := by
  intro v1 S hf
  refine go_aload_n (pc := 44) C dX5_takeNumber_44 0 rfl rfl ?_
  refine go_iconst (pc := 45) (v := 3) C dX5_takeNumber_45 (by decide) ?_
  refine go_aload_n (pc := 46) C dX5_takeNumber_46 0 rfl rfl ?_
  refine ge_X5_X5_8 (pc := 47) C dX5_takeNumber_47 ?_
  refine go_cVv (pc := 50) C cw_X5_54 (ok_X5_fail hf) (rc_X5 C) rfl rfl rfl (by decide) rfl dX5_takeNumber_50 (fun S5 hf => ?_)
  refine go_iload_n (pc := 53) C dX5_takeNumber_53 1 rfl rfl ?_
  exact hR _ _ _ _ dX5_takeNumber_54 hf
set_option maxRecDepth 100000 in
set_option maxHeartbeats 4000000 in
theorem wk_X5_takeNumber {X : tq_Cx} {p1 : Int32} {p2 : Int32} {S : tq_St} {K : Int32 → tq_St → Prop} (C : tq_C X cX5_takeNumber 4 RX5 3) (hR : tq_Ri X cX5_takeNumber 4 K) (hf : wp_X5_takeNumber p1 p2 S K) : Go X 4 S 0 [(0, .ref ((tq_la X).1 19 0)), (1, .int p1), (2, .int p2)] [] := by
  refine go_aload_n (pc := 0) C dX5_takeNumber_0 0 rfl rfl ?_
  refine ge_X5_X5_3 (pc := 1) C dX5_takeNumber_1 ?_
  refine go_if_eq (pc := 4) C dX5_takeNumber_4 9 (by decide) (fun c1 => ?_) (fun c1 => ?_)
  · have hf := hf.1 c1
    refine go_aload_n (pc := 9) C dX5_takeNumber_9 0 rfl rfl ?_
    refine ge_X5_X5_7 (pc := 10) C dX5_takeNumber_10 ?_
    refine go_iconst (pc := 13) (v := 2) C dX5_takeNumber_13 (by decide) ?_
    refine go_ic_eq (pc := 14) C dX5_takeNumber_14 28 (by decide) (fun c2 => ?_) (fun c2 => ?_)
    · have hf := hf.1 c2
      refine go_aload_n (pc := 28) C dX5_takeNumber_28 0 rfl rfl ?_
      refine ge_X5_X5_9 (pc := 29) C dX5_takeNumber_29 ?_
      refine go_iload_n (pc := 32) C dX5_takeNumber_32 1 rfl rfl ?_
      refine go_ic_lt (pc := 33) C dX5_takeNumber_33 44 (by decide) (fun c3 => ?_) (fun c3 => ?_)
      · have hf := hf.1 c3
        exact go_sub [0, 1] rfl (wk_X5_takeNumber_44 C hR _ _ hf)
      · have hf := hf.2 c3
        refine go_aload_n (pc := 36) C dX5_takeNumber_36 0 rfl rfl ?_
        refine ge_X5_X5_9 (pc := 37) C dX5_takeNumber_37 ?_
        refine go_iload_n (pc := 40) C dX5_takeNumber_40 2 rfl rfl ?_
        refine go_ic_le (pc := 41) C dX5_takeNumber_41 55 (by decide) (fun c7 => ?_) (fun c7 => ?_)
        · have hf := hf.1 c7
          refine go_aload_n (pc := 55) C dX5_takeNumber_55 0 rfl rfl ?_
          refine ge_X5_X5_9 (pc := 56) C dX5_takeNumber_56 ?_
          refine go_nI (fun x8 e9 => ?_)
          have hf := hf x8 e9
          refine go_istore_n (pc := 59) C dX5_takeNumber_59 [(3, .int x8), (0, .ref ((tq_la X).1 19 0)), (1, .int p1), (2, .int p2)] rfl (by decide) rfl ?_
          refine go_aload_n (pc := 60) C dX5_takeNumber_60 1 rfl rfl ?_
          refine go_cVv (pc := 61) C cw_X5_41 (ok_X5_takeToken hf) (rc_X5 C) rfl rfl rfl (by decide) rfl dX5_takeNumber_61 (fun S11 hf => ?_)
          refine go_iload_n (pc := 64) C dX5_takeNumber_64 0 rfl rfl ?_
          exact hR _ _ _ _ dX5_takeNumber_65 hf
        · have hf := hf.2 c7
          exact go_sub [0, 1] rfl (wk_X5_takeNumber_44 C hR _ _ hf)
    · have hf := hf.2 c2
      refine go_aload_n (pc := 17) C dX5_takeNumber_17 0 rfl rfl ?_
      refine go_iconst (pc := 18) (v := 2) C dX5_takeNumber_18 (by decide) ?_
      refine go_aload_n (pc := 19) C dX5_takeNumber_19 0 rfl rfl ?_
      refine ge_X5_X5_8 (pc := 20) C dX5_takeNumber_20 ?_
      refine go_cVv (pc := 23) C cw_X5_54 (ok_X5_fail hf) (rc_X5 C) rfl rfl rfl (by decide) rfl dX5_takeNumber_23 (fun S14 hf => ?_)
      refine go_iload_n (pc := 26) C dX5_takeNumber_26 1 rfl rfl ?_
      exact hR _ _ _ _ dX5_takeNumber_27 hf
  · have hf := hf.2 c1
    refine go_iload_n (pc := 7) C dX5_takeNumber_7 1 rfl rfl ?_
    exact hR _ _ _ _ dX5_takeNumber_8 hf
set_option maxRecDepth 100000 in
set_option maxHeartbeats 4000000 in
theorem ok_X5_takeNumber {p1 : Int32} {p2 : Int32} {S : tq_St} {K : Int32 → tq_St → Prop} (hf : wp_X5_takeNumber p1 p2 S K) : tq_Mi yX5_takeNumber cX5_takeNumber 4 (some .int) 3 (fun a z => [.ref (a.1 19 0), .int p1, .int p2]) S K :=
  tq_mkI (by decide) (fun _ _ => Nat.le_of_ble_eq_true rfl) (fun X C hR => wk_X5_takeNumber C hR  hf)
set_option maxRecDepth 100000 in
set_option maxHeartbeats 4000000 in
theorem wk_X5_tellOne_49 {X : tq_Cx} {K : tq_St → Prop} (C : tq_C X cX5_tellOne 2 RX5 4) (hR : tq_Rv X cX5_tellOne 2 K) : ∀ (w1 : Int32) (w2 : Int32) (S : tq_St), wp_X5_tellOne_49 K w1 w2 S → Go X 2 S 49 [] [.int w2, .int w1, .ref ((tq_la X).1 2 0)] := by
  intro w1 w2 S hf
  refine go_cVv (pc := 49) C cw_X5_88 (ok_X1_addOne (by decide) hf) (rc_X1 C (by decide)) rfl rfl rfl (by decide) rfl dX5_tellOne_49 (fun S7 hf => ?_)
  exact hR _ _ _ dX5_tellOne_52 hf
set_option maxRecDepth 100000 in
set_option maxHeartbeats 4000000 in
theorem wk_X5_tellOne {X : tq_Cx} {p1 : Int32} {S : tq_St} {K : tq_St → Prop} (C : tq_C X cX5_tellOne 2 RX5 4) (hR : tq_Rv X cX5_tellOne 2 K) (hf : wp_X5_tellOne p1 S K) : Go X 2 S 0 [(0, .ref ((tq_la X).1 19 0)), (1, .int p1)] [] := by
  refine go_aload_n (pc := 0) C dX5_tellOne_0 0 rfl rfl ?_
  refine ge_X5_X5_1 (pc := 1) C dX5_tellOne_1 ?_
  refine ge_X5_X1_5 (pc := 4) C (by decide) dX5_tellOne_4 ?_
  refine go_iconst (pc := 7) (v := 5) C dX5_tellOne_7 (by decide) ?_
  refine go_ic_lt (pc := 8) C dX5_tellOne_8 21 (by decide) (fun c1 => ?_) (fun c1 => ?_)
  · have hf := hf.1 c1
    refine go_aload_n (pc := 21) C dX5_tellOne_21 0 rfl rfl ?_
    refine go_cVv (pc := 22) C cw_X5_41 (ok_X5_takeToken hf) (rc_X5 C) rfl rfl rfl (by decide) rfl dX5_tellOne_22 (fun S3 hf => ?_)
    refine go_aload_n (pc := 25) C dX5_tellOne_25 0 rfl rfl ?_
    refine ge_X5_X5_1 (pc := 26) C dX5_tellOne_26 ?_
    refine go_iload_n (pc := 29) C dX5_tellOne_29 1 rfl rfl ?_
    refine go_aload_n (pc := 30) C dX5_tellOne_30 0 rfl rfl ?_
    refine ge_X5_X5_7 (pc := 31) C dX5_tellOne_31 ?_
    refine go_iconst (pc := 34) (v := 2) C dX5_tellOne_34 (by decide) ?_
    refine go_ic_ne (pc := 35) C dX5_tellOne_35 48 (by decide) (fun c5 => ?_) (fun c5 => ?_)
    · have hf := hf.1 c5
      refine go_iconst (pc := 48) (v := 0) C dX5_tellOne_48 (by decide) ?_
      exact go_sub [] rfl (wk_X5_tellOne_49 C hR _ _ _ hf)
    · have hf := hf.2 c5
      refine go_aload_n (pc := 38) C dX5_tellOne_38 0 rfl rfl ?_
      refine go_iconst (pc := 39) (v := 0) C dX5_tellOne_39 (by decide) ?_
      refine go_bipush (pc := 40) (v := 40) C dX5_tellOne_40 (by decide) ?_
      refine go_cVi (pc := 42) C cw_X5_69 (ok_X5_takeNumber hf) (rc_X5 C) rfl rfl rfl (by decide) rfl dX5_tellOne_42 (fun r9 S10 hf => ?_)
      refine go_goto (pc := 45) C dX5_tellOne_45 49 (by decide) ?_
      exact go_sub [] rfl (wk_X5_tellOne_49 C hR _ _ _ hf)
  · have hf := hf.2 c1
    refine go_aload_n (pc := 11) C dX5_tellOne_11 0 rfl rfl ?_
    refine go_iconst (pc := 12) (v := 5) C dX5_tellOne_12 (by decide) ?_
    refine go_aload_n (pc := 13) C dX5_tellOne_13 0 rfl rfl ?_
    refine ge_X5_X5_8 (pc := 14) C dX5_tellOne_14 ?_
    refine go_cVv (pc := 17) C cw_X5_54 (ok_X5_fail hf) (rc_X5 C) rfl rfl rfl (by decide) rfl dX5_tellOne_17 (fun S13 hf => ?_)
    exact hR _ _ _ dX5_tellOne_20 hf
set_option maxRecDepth 100000 in
set_option maxHeartbeats 4000000 in
theorem ok_X5_tellOne {p1 : Int32} {S : tq_St} {K : tq_St → Prop} (hf : wp_X5_tellOne p1 S K) : tq_Mv yX5_tellOne cX5_tellOne 2 none 4 (fun a z => [.ref (a.1 19 0), .int p1]) S K :=
  tq_mkV (by decide) (fun _ _ => Nat.le_of_ble_eq_true rfl) (fun X C hR => wk_X5_tellOne C hR  hf)
set_option maxRecDepth 100000 in
set_option maxHeartbeats 4000000 in
theorem wk_X5_tellPlan_2 {X : tq_Cx} {K : tq_St → Prop} (C : tq_C X cX5_tellPlan 2 RX5 4) (hR : tq_Rv X cX5_tellPlan 2 K) : ∀ (n : Nat) (v1 : Int32) (S : tq_St), wp_X5_tellPlan_2 K n v1 S → Go X 2 S 2 [(0, .ref ((tq_la X).1 19 0)), (1, .int v1)] [] := by
  intro n
  induction n with
  | zero => intros; contradiction
  | succ n ih =>
    intro v1 S hf
    refine go_iload_n (pc := 2) C dX5_tellPlan_2 1 rfl rfl ?_
    refine go_bipush (pc := 3) (v := 8) C dX5_tellPlan_3 (by decide) ?_
    refine go_ic_gt (pc := 5) C dX5_tellPlan_5 62 (by decide) (fun c1 => ?_) (fun c1 => ?_)
    · have hf := hf.1 c1
      exact hR _ _ _ dX5_tellPlan_62 hf
    · have hf := hf.2 c1
      refine go_aload_n (pc := 8) C dX5_tellPlan_8 0 rfl rfl ?_
      refine ge_X5_X5_3 (pc := 9) C dX5_tellPlan_9 ?_
      refine go_if_ne (pc := 12) C dX5_tellPlan_12 62 (by decide) (fun c2 => ?_) (fun c2 => ?_)
      · have hf := hf.1 c2
        exact hR _ _ _ dX5_tellPlan_62 hf
      · have hf := hf.2 c2
        refine go_aload_n (pc := 15) C dX5_tellPlan_15 0 rfl rfl ?_
        refine ge_X5_X5_7 (pc := 16) C dX5_tellPlan_16 ?_
        refine go_iconst (pc := 19) (v := 2) C dX5_tellPlan_19 (by decide) ?_
        refine go_ic_ne (pc := 20) C dX5_tellPlan_20 62 (by decide) (fun c3 => ?_) (fun c3 => ?_)
        · have hf := hf.1 c3
          exact hR _ _ _ dX5_tellPlan_62 hf
        · have hf := hf.2 c3
          refine go_iload_n (pc := 23) C dX5_tellPlan_23 1 rfl rfl ?_
          refine go_bipush (pc := 24) (v := 8) C dX5_tellPlan_24 (by decide) ?_
          refine go_ic_ne (pc := 26) C dX5_tellPlan_26 41 (by decide) (fun c4 => ?_) (fun c4 => ?_)
          · have hf := hf.1 c4
            refine go_aload_n (pc := 41) C dX5_tellPlan_41 0 rfl rfl ?_
            refine ge_X5_X5_1 (pc := 42) C dX5_tellPlan_42 ?_
            refine go_aload_n (pc := 45) C dX5_tellPlan_45 0 rfl rfl ?_
            refine go_iconst (pc := 46) (v := 0) C dX5_tellPlan_46 (by decide) ?_
            refine go_bipush (pc := 47) (v := 6) C dX5_tellPlan_47 (by decide) ?_
            refine go_cVi (pc := 49) C cw_X5_69 (ok_X5_takeNumber hf) (rc_X5 C) rfl rfl rfl (by decide) rfl dX5_tellPlan_49 (fun r5 S6 hf => ?_)
            refine go_cVi (pc := 52) C cw_X5_91 (ok_X1_addAct (by decide) hf) (rc_X1 C (by decide)) rfl rfl rfl (by decide) rfl dX5_tellPlan_52 (fun r8 S9 hf => ?_)
            refine go_pop (pc := 55) C dX5_tellPlan_55 rfl ?_
            obtain ⟨x11, e12⟩ : ∃ q9 : Int32, q9 = v1 + 1 := ⟨_, rfl⟩
            refine go_iinc (pc := 56) (j := 1) (v := x11) C dX5_tellPlan_56 [(1, .int x11), (0, .ref ((tq_la X).1 19 0))] rfl (by rw [e12]; rfl) (by decide) rfl ?_
            have hf := hf x11 e12
            refine go_goto (pc := 59) C dX5_tellPlan_59 2 (by decide) ?_
            exact go_sub [1, 0] rfl (ih _ _ hf)
          · have hf := hf.2 c4
            refine go_aload_n (pc := 29) C dX5_tellPlan_29 0 rfl rfl ?_
            refine go_iconst (pc := 30) (v := 5) C dX5_tellPlan_30 (by decide) ?_
            refine go_aload_n (pc := 31) C dX5_tellPlan_31 0 rfl rfl ?_
            refine ge_X5_X5_8 (pc := 32) C dX5_tellPlan_32 ?_
            refine go_cVv (pc := 35) C cw_X5_54 (ok_X5_fail hf) (rc_X5 C) rfl rfl rfl (by decide) rfl dX5_tellPlan_35 (fun S14 hf => ?_)
            refine go_goto (pc := 38) C dX5_tellPlan_38 56 (by decide) ?_
            obtain ⟨x16, e17⟩ : ∃ q9 : Int32, q9 = v1 + 1 := ⟨_, rfl⟩
            refine go_iinc (pc := 56) (j := 1) (v := x16) C dX5_tellPlan_56 [(1, .int x16), (0, .ref ((tq_la X).1 19 0))] rfl (by rw [e17]; rfl) (by decide) rfl ?_
            have hf := hf x16 e17
            refine go_goto (pc := 59) C dX5_tellPlan_59 2 (by decide) ?_
            exact go_sub [1, 0] rfl (ih _ _ hf)
set_option maxRecDepth 100000 in
set_option maxHeartbeats 4000000 in
theorem wk_X5_tellPlan {X : tq_Cx} {S : tq_St} {K : tq_St → Prop} (C : tq_C X cX5_tellPlan 2 RX5 4) (hR : tq_Rv X cX5_tellPlan 2 K) (hf : wp_X5_tellPlan S K) : Go X 2 S 0 [(0, .ref ((tq_la X).1 19 0))] [] := by
  refine go_iconst (pc := 0) (v := 0) C dX5_tellPlan_0 (by decide) ?_
  refine go_istore_n (pc := 1) C dX5_tellPlan_1 [(1, .int 0), (0, .ref ((tq_la X).1 19 0))] rfl (by decide) rfl ?_
  exact go_sub [1, 0] rfl (wk_X5_tellPlan_2 C hR 2000 _ _ hf)
set_option maxRecDepth 100000 in
set_option maxHeartbeats 4000000 in
theorem ok_X5_tellPlan {S : tq_St} {K : tq_St → Prop} (hf : wp_X5_tellPlan S K) : tq_Mv yX5_tellPlan cX5_tellPlan 2 none 4 (fun a z => [.ref (a.1 19 0)]) S K :=
  tq_mkV (by decide) (fun _ _ => Nat.le_of_ble_eq_true rfl) (fun X C hR => wk_X5_tellPlan C hR  hf)
set_option maxRecDepth 100000 in
set_option maxHeartbeats 4000000 in
theorem wk_X5_takeSemicolon {X : tq_Cx} {S : tq_St} {K : tq_St → Prop} (C : tq_C X cX5_takeSemicolon 1 RX5 3) (hR : tq_Rv X cX5_takeSemicolon 1 K) (hf : wp_X5_takeSemicolon S K) : Go X 1 S 0 [(0, .ref ((tq_la X).1 19 0))] [] := by
  refine go_aload_n (pc := 0) C dX5_takeSemicolon_0 0 rfl rfl ?_
  refine ge_X5_X5_3 (pc := 1) C dX5_takeSemicolon_1 ?_
  refine go_if_eq (pc := 4) C dX5_takeSemicolon_4 8 (by decide) (fun c1 => ?_) (fun c1 => ?_)
  · have hf := hf.1 c1
    refine go_aload_n (pc := 8) C dX5_takeSemicolon_8 0 rfl rfl ?_
    refine ge_X5_X5_7 (pc := 9) C dX5_takeSemicolon_9 ?_
    refine go_iconst (pc := 12) (v := 3) C dX5_takeSemicolon_12 (by decide) ?_
    refine go_ic_eq (pc := 13) C dX5_takeSemicolon_13 26 (by decide) (fun c2 => ?_) (fun c2 => ?_)
    · have hf := hf.1 c2
      refine go_aload_n (pc := 26) C dX5_takeSemicolon_26 0 rfl rfl ?_
      refine go_cVv (pc := 27) C cw_X5_41 (ok_X5_takeToken hf) (rc_X5 C) rfl rfl rfl (by decide) rfl dX5_takeSemicolon_27 (fun S4 hf => ?_)
      exact hR _ _ _ dX5_takeSemicolon_30 hf
    · have hf := hf.2 c2
      refine go_aload_n (pc := 16) C dX5_takeSemicolon_16 0 rfl rfl ?_
      refine go_iconst (pc := 17) (v := 2) C dX5_takeSemicolon_17 (by decide) ?_
      refine go_aload_n (pc := 18) C dX5_takeSemicolon_18 0 rfl rfl ?_
      refine ge_X5_X5_8 (pc := 19) C dX5_takeSemicolon_19 ?_
      refine go_cVv (pc := 22) C cw_X5_54 (ok_X5_fail hf) (rc_X5 C) rfl rfl rfl (by decide) rfl dX5_takeSemicolon_22 (fun S7 hf => ?_)
      exact hR _ _ _ dX5_takeSemicolon_25 hf
  · have hf := hf.2 c1
    exact hR _ _ _ dX5_takeSemicolon_7 hf
set_option maxRecDepth 100000 in
set_option maxHeartbeats 4000000 in
theorem ok_X5_takeSemicolon {S : tq_St} {K : tq_St → Prop} (hf : wp_X5_takeSemicolon S K) : tq_Mv yX5_takeSemicolon cX5_takeSemicolon 1 none 3 (fun a z => [.ref (a.1 19 0)]) S K :=
  tq_mkV (by decide) (fun _ _ => Nat.le_of_ble_eq_true rfl) (fun X C hR => wk_X5_takeSemicolon C hR  hf)
set_option maxRecDepth 100000 in
set_option maxHeartbeats 4000000 in
theorem wk_X5_tellLine_123 {X : tq_Cx} {K : tq_St → Prop} (C : tq_C X cX5_tellLine 2 RX5 8) (hR : tq_Rv X cX5_tellLine 2 K) : ∀ (S : tq_St), wp_X5_tellLine_123 K S → Go X 2 S 123 [(0, .ref ((tq_la X).1 19 0))] [] := by
  intro S hf
  refine go_aload_n (pc := 123) C dX5_tellLine_123 0 rfl rfl ?_
  refine go_cVv (pc := 124) C cw_X5_82 (ok_X5_takeSemicolon hf) (rc_X5 C) rfl rfl rfl (by decide) rfl dX5_tellLine_124 (fun S18 hf => ?_)
  exact hR _ _ _ dX5_tellLine_127 hf
set_option maxRecDepth 100000 in
set_option maxHeartbeats 4000000 in
theorem wk_X5_tellLine {X : tq_Cx} {S : tq_St} {K : tq_St → Prop} (C : tq_C X cX5_tellLine 2 RX5 8) (hR : tq_Rv X cX5_tellLine 2 K) (hf : wp_X5_tellLine S K) : Go X 2 S 0 [(0, .ref ((tq_la X).1 19 0))] [] := by
  refine go_aload_n (pc := 0) C dX5_tellLine_0 0 rfl rfl ?_
  refine go_cVi (pc := 1) C cw_X5_58 (ok_X5_lineBegun hf) (rc_X5 C) rfl rfl rfl (by decide) rfl dX5_tellLine_1 (fun r1 S2 hf => ?_)
  refine go_istore_n (pc := 4) C dX5_tellLine_4 [(1, .int r1), (0, .ref ((tq_la X).1 19 0))] rfl (by decide) rfl ?_
  refine go_iload_n (pc := 5) C dX5_tellLine_5 0 rfl rfl ?_
  refine go_bipush (pc := 6) (v := 7) C dX5_tellLine_6 (by decide) ?_
  refine go_ic_ne (pc := 8) C dX5_tellLine_8 23 (by decide) (fun c4 => ?_) (fun c4 => ?_)
  · have hf := hf.1 c4
    refine go_iload_n (pc := 23) C dX5_tellLine_23 0 rfl rfl ?_
    refine go_iconst (pc := 24) (v := 4) C dX5_tellLine_24 (by decide) ?_
    refine go_ic_ge (pc := 25) C dX5_tellLine_25 36 (by decide) (fun c5 => ?_) (fun c5 => ?_)
    · have hf := hf.1 c5
      refine go_aload_n (pc := 36) C dX5_tellLine_36 1 rfl rfl ?_
      refine ge_X5_X5_5 (pc := 37) C dX5_tellLine_37 ?_
      refine go_iload_n (pc := 40) C dX5_tellLine_40 0 rfl rfl ?_
      refine go_ishr (pc := 41) C dX5_tellLine_41 ?_
      refine go_iconst (pc := 42) (v := 1) C dX5_tellLine_42 (by decide) ?_
      refine go_iand (pc := 43) C dX5_tellLine_43 ?_
      refine go_iconst (pc := 44) (v := 1) C dX5_tellLine_44 (by decide) ?_
      refine go_ic_ne (pc := 45) C dX5_tellLine_45 60 (by decide) (fun c6 => ?_) (fun c6 => ?_)
      · have hf := hf.1 c6
        refine go_aload_n (pc := 60) C dX5_tellLine_60 1 rfl rfl ?_
        refine go_dup (pc := 61) C dX5_tellLine_61 rfl ?_
        refine ge_X5_X5_5 (pc := 62) C dX5_tellLine_62 ?_
        refine go_iconst (pc := 65) (v := 1) C dX5_tellLine_65 (by decide) ?_
        refine go_iload_n (pc := 66) C dX5_tellLine_66 0 rfl rfl ?_
        refine go_ishl (pc := 67) C dX5_tellLine_67 ?_
        refine go_ior (pc := 68) C dX5_tellLine_68 ?_
        refine pu_X5_X5_5 (pc := 69) C dX5_tellLine_69 (fun S7 e8 => ?_)
        have hf := hf S7 e8
        refine go_aload_n (pc := 72) C dX5_tellLine_72 1 rfl rfl ?_
        refine go_cVv (pc := 73) C cw_X5_41 (ok_X5_takeToken hf) (rc_X5 C) rfl rfl rfl (by decide) rfl dX5_tellLine_73 (fun S10 hf => ?_)
        refine go_iload_n (pc := 76) C dX5_tellLine_76 0 rfl rfl ?_
        refine go_iconst (pc := 77) (v := 4) C dX5_tellLine_77 (by decide) ?_
        refine go_ic_ne (pc := 78) C dX5_tellLine_78 97 (by decide) (fun c12 => ?_) (fun c12 => ?_)
        · have hf := hf.1 c12
          refine go_iload_n (pc := 97) C dX5_tellLine_97 0 rfl rfl ?_
          refine go_iconst (pc := 98) (v := 5) C dX5_tellLine_98 (by decide) ?_
          refine go_ic_ne (pc := 99) C dX5_tellLine_99 119 (by decide) (fun c13 => ?_) (fun c13 => ?_)
          · have hf := hf.1 c13
            refine go_aload_n (pc := 119) C dX5_tellLine_119 1 rfl rfl ?_
            refine go_cVv (pc := 120) C cw_X5_79 (ok_X5_tellPlan hf) (rc_X5 C) rfl rfl rfl (by decide) rfl dX5_tellLine_120 (fun S15 hf => ?_)
            exact go_sub [1] rfl (wk_X5_tellLine_123 C hR _ hf)
          · have hf := hf.2 c13
            refine go_aload_n (pc := 102) C dX5_tellLine_102 1 rfl rfl ?_
            refine ge_X5_X5_1 (pc := 103) C dX5_tellLine_103 ?_
            refine go_aload_n (pc := 106) C dX5_tellLine_106 1 rfl rfl ?_
            refine go_iconst (pc := 107) (v := 1) C dX5_tellLine_107 (by decide) ?_
            refine go_bipush (pc := 108) (v := 9) C dX5_tellLine_108 (by decide) ?_
            refine go_cVi (pc := 110) C cw_X5_69 (ok_X5_takeNumber hf) (rc_X5 C) rfl rfl rfl (by decide) rfl dX5_tellLine_110 (fun r20 S21 hf => ?_)
            refine pu_X5_X1_9 (pc := 113) C (by decide) dX5_tellLine_113 (fun S23 e24 => ?_)
            have hf := hf S23 e24
            refine go_goto (pc := 116) C dX5_tellLine_116 123 (by decide) ?_
            exact go_sub [1] rfl (wk_X5_tellLine_123 C hR _ hf)
        · have hf := hf.2 c12
          refine go_aload_n (pc := 81) C dX5_tellLine_81 1 rfl rfl ?_
          refine ge_X5_X5_1 (pc := 82) C dX5_tellLine_82 ?_
          refine go_aload_n (pc := 85) C dX5_tellLine_85 1 rfl rfl ?_
          refine go_iconst (pc := 86) (v := 1) C dX5_tellLine_86 (by decide) ?_
          refine go_iconst (pc := 87) (v := 5) C dX5_tellLine_87 (by decide) ?_
          refine go_cVi (pc := 88) C cw_X5_69 (ok_X5_takeNumber hf) (rc_X5 C) rfl rfl rfl (by decide) rfl dX5_tellLine_88 (fun r25 S26 hf => ?_)
          refine pu_X5_X1_8 (pc := 91) C (by decide) dX5_tellLine_91 (fun S28 e29 => ?_)
          have hf := hf S28 e29
          refine go_goto (pc := 94) C dX5_tellLine_94 123 (by decide) ?_
          exact go_sub [1] rfl (wk_X5_tellLine_123 C hR _ hf)
      · have hf := hf.2 c6
        refine go_aload_n (pc := 48) C dX5_tellLine_48 1 rfl rfl ?_
        refine go_iconst (pc := 49) (v := 4) C dX5_tellLine_49 (by decide) ?_
        refine go_aload_n (pc := 50) C dX5_tellLine_50 1 rfl rfl ?_
        refine ge_X5_X5_8 (pc := 51) C dX5_tellLine_51 ?_
        refine go_cVv (pc := 54) C cw_X5_54 (ok_X5_fail hf) (rc_X5 C) rfl rfl rfl (by decide) rfl dX5_tellLine_54 (fun S31 hf => ?_)
        refine go_goto (pc := 57) C dX5_tellLine_57 123 (by decide) ?_
        exact go_sub [1] rfl (wk_X5_tellLine_123 C hR _ hf)
    · have hf := hf.2 c5
      refine go_aload_n (pc := 28) C dX5_tellLine_28 1 rfl rfl ?_
      refine go_iload_n (pc := 29) C dX5_tellLine_29 0 rfl rfl ?_
      refine go_cVv (pc := 30) C cw_X5_65 (ok_X5_tellOne hf) (rc_X5 C) rfl rfl rfl (by decide) rfl dX5_tellLine_30 (fun S34 hf => ?_)
      refine go_goto (pc := 33) C dX5_tellLine_33 123 (by decide) ?_
      exact go_sub [1] rfl (wk_X5_tellLine_123 C hR _ hf)
  · have hf := hf.2 c4
    refine go_aload_n (pc := 11) C dX5_tellLine_11 1 rfl rfl ?_
    refine go_iconst (pc := 12) (v := 2) C dX5_tellLine_12 (by decide) ?_
    refine go_aload_n (pc := 13) C dX5_tellLine_13 1 rfl rfl ?_
    refine ge_X5_X5_8 (pc := 14) C dX5_tellLine_14 ?_
    refine go_cVv (pc := 17) C cw_X5_54 (ok_X5_fail hf) (rc_X5 C) rfl rfl rfl (by decide) rfl dX5_tellLine_17 (fun S37 hf => ?_)
    refine go_goto (pc := 20) C dX5_tellLine_20 123 (by decide) ?_
    exact go_sub [1] rfl (wk_X5_tellLine_123 C hR _ hf)
set_option maxRecDepth 100000 in
set_option maxHeartbeats 4000000 in
theorem ok_X5_tellLine {S : tq_St} {K : tq_St → Prop} (hf : wp_X5_tellLine S K) : tq_Mv yX5_tellLine cX5_tellLine 2 none 8 (fun a z => [.ref (a.1 19 0)]) S K :=
  tq_mkV (by decide) (fun _ _ => Nat.le_of_ble_eq_true rfl) (fun X C hR => wk_X5_tellLine C hR  hf)
set_option maxRecDepth 100000 in
set_option maxHeartbeats 4000000 in
theorem wk_X5_tellAll_91 {X : tq_Cx} {K : Int32 → tq_St → Prop} (C : tq_C X cX5_tellAll 2 RX5 9) (hR : tq_Ri X cX5_tellAll 2 K) : ∀ (v1 : Int32) (S : tq_St), wp_X5_tellAll_91 K v1 S → Go X 2 S 91 [(0, .ref ((tq_la X).1 19 0)), (1, .int v1)] [] := by
  intro v1 S hf
  refine go_aload_n (pc := 91) C dX5_tellAll_91 0 rfl rfl ?_
  refine go_iconst (pc := 92) (v := 0) C dX5_tellAll_92 (by decide) ?_
  refine pu_X5_X5_2 (pc := 93) C dX5_tellAll_93 (fun S17 e18 => ?_)
  have hf := hf S17 e18
  refine go_aload_n (pc := 96) C dX5_tellAll_96 0 rfl rfl ?_
  refine ge_X5_X5_3 (pc := 97) C dX5_tellAll_97 ?_
  refine go_if_ne (pc := 100) C dX5_tellAll_100 107 (by decide) (fun c19 => ?_) (fun c19 => ?_)
  · have hf := hf.1 c19
    refine go_bipush (pc := 107) (v := (-10)) C dX5_tellAll_107 (by decide) ?_
    refine go_aload_n (pc := 109) C dX5_tellAll_109 0 rfl rfl ?_
    refine ge_X5_X5_4 (pc := 110) C dX5_tellAll_110 ?_
    refine go_isub (pc := 113) C dX5_tellAll_113 ?_
    exact hR _ _ _ _ dX5_tellAll_114 hf
  · have hf := hf.2 c19
    refine go_iload_n (pc := 103) C dX5_tellAll_103 1 rfl rfl ?_
    refine go_goto (pc := 104) C dX5_tellAll_104 114 (by decide) ?_
    exact hR _ _ _ _ dX5_tellAll_114 hf
set_option maxRecDepth 100000 in
set_option maxHeartbeats 4000000 in
theorem wk_X5_tellAll_64 {X : tq_Cx} {K : Int32 → tq_St → Prop} (C : tq_C X cX5_tellAll 2 RX5 9) (hR : tq_Ri X cX5_tellAll 2 K) : ∀ (v1 : Int32) (S : tq_St), wp_X5_tellAll_64 K v1 S → Go X 2 S 64 [(0, .ref ((tq_la X).1 19 0)), (1, .int v1)] [] := by
  intro v1 S hf
  refine go_aload_n (pc := 64) C dX5_tellAll_64 0 rfl rfl ?_
  refine ge_X5_X5_3 (pc := 65) C dX5_tellAll_65 ?_
  refine go_if_ne (pc := 68) C dX5_tellAll_68 91 (by decide) (fun c16 => ?_) (fun c16 => ?_)
  · have hf := hf.1 c16
    exact go_sub [0, 1] rfl (wk_X5_tellAll_91 C hR _ _ hf)
  · have hf := hf.2 c16
    refine go_aload_n (pc := 71) C dX5_tellAll_71 0 rfl rfl ?_
    refine ge_X5_X5_1 (pc := 72) C dX5_tellAll_72 ?_
    refine go_cVi (pc := 75) C cw_X5_50 (ok_X1_allActsFit (by decide) hf) (rc_X1 C (by decide)) rfl rfl rfl (by decide) rfl dX5_tellAll_75 (fun r20 S21 hf => ?_)
    refine go_if_ne (pc := 78) C dX5_tellAll_78 91 (by decide) (fun c23 => ?_) (fun c23 => ?_)
    · have hf := hf.1 c23
      exact go_sub [0, 1] rfl (wk_X5_tellAll_91 C hR _ _ hf)
    · have hf := hf.2 c23
      refine go_aload_n (pc := 81) C dX5_tellAll_81 0 rfl rfl ?_
      refine go_bipush (pc := 82) (v := 6) C dX5_tellAll_82 (by decide) ?_
      refine go_aload_n (pc := 84) C dX5_tellAll_84 0 rfl rfl ?_
      refine ge_X5_X5_2 (pc := 85) C dX5_tellAll_85 ?_
      refine go_cVv (pc := 88) C cw_X5_54 (ok_X5_fail hf) (rc_X5 C) rfl rfl rfl (by decide) rfl dX5_tellAll_88 (fun S25 hf => ?_)
      exact go_sub [0, 1] rfl (wk_X5_tellAll_91 C hR _ _ hf)
set_option maxRecDepth 100000 in
set_option maxHeartbeats 4000000 in
theorem wk_X5_tellAll_33 {X : tq_Cx} {K : Int32 → tq_St → Prop} (C : tq_C X cX5_tellAll 2 RX5 9) (hR : tq_Ri X cX5_tellAll 2 K) : ∀ (n : Nat) (v1 : Int32) (S : tq_St), wp_X5_tellAll_33 K n v1 S → Go X 2 S 33 [(0, .ref ((tq_la X).1 19 0)), (1, .int v1)] [] := by
  intro n
  induction n with
  | zero => intros; contradiction
  | succ n ih =>
    intro v1 S hf
    refine go_aload_n (pc := 33) C dX5_tellAll_33 0 rfl rfl ?_
    refine ge_X5_X5_3 (pc := 34) C dX5_tellAll_34 ?_
    refine go_if_ne (pc := 37) C dX5_tellAll_37 64 (by decide) (fun c15 => ?_) (fun c15 => ?_)
    · have hf := hf.1 c15
      exact go_sub [0, 1] rfl (wk_X5_tellAll_64 C hR _ _ hf)
    · have hf := hf.2 c15
      refine go_aload_n (pc := 40) C dX5_tellAll_40 0 rfl rfl ?_
      refine ge_X5_X5_7 (pc := 41) C dX5_tellAll_41 ?_
      refine go_if_eq (pc := 44) C dX5_tellAll_44 64 (by decide) (fun c27 => ?_) (fun c27 => ?_)
      · have hf := hf.1 c27
        exact go_sub [0, 1] rfl (wk_X5_tellAll_64 C hR _ _ hf)
      · have hf := hf.2 c27
        refine go_iload_n (pc := 47) C dX5_tellAll_47 1 rfl rfl ?_
        refine go_sipush (pc := 48) (v := 160) C dX5_tellAll_48 (by decide) ?_
        refine go_ic_ge (pc := 51) C dX5_tellAll_51 64 (by decide) (fun c28 => ?_) (fun c28 => ?_)
        · have hf := hf.1 c28
          exact go_sub [0, 1] rfl (wk_X5_tellAll_64 C hR _ _ hf)
        · have hf := hf.2 c28
          refine go_aload_n (pc := 54) C dX5_tellAll_54 0 rfl rfl ?_
          refine go_cVv (pc := 55) C cw_X5_47 (ok_X5_tellLine hf) (rc_X5 C) rfl rfl rfl (by decide) rfl dX5_tellAll_55 (fun S30 hf => ?_)
          obtain ⟨x32, e33⟩ : ∃ q9 : Int32, q9 = v1 + 1 := ⟨_, rfl⟩
          refine go_iinc (pc := 58) (j := 1) (v := x32) C dX5_tellAll_58 [(1, .int x32), (0, .ref ((tq_la X).1 19 0))] rfl (by rw [e33]; rfl) (by decide) rfl ?_
          have hf := hf x32 e33
          refine go_goto (pc := 61) C dX5_tellAll_61 33 (by decide) ?_
          exact go_sub [1, 0] rfl (ih _ _ hf)
set_option maxRecDepth 100000 in
set_option maxHeartbeats 4000000 in
theorem wk_X5_tellAll {X : tq_Cx} {S : tq_St} {K : Int32 → tq_St → Prop} (C : tq_C X cX5_tellAll 2 RX5 9) (hR : tq_Ri X cX5_tellAll 2 K) (hf : wp_X5_tellAll S K) : Go X 2 S 0 [(0, .ref ((tq_la X).1 19 0))] [] := by
  refine go_aload_n (pc := 0) C dX5_tellAll_0 0 rfl rfl ?_
  refine ge_X5_X5_1 (pc := 1) C dX5_tellAll_1 ?_
  refine go_cVv (pc := 4) C cw_X5_26 (ok_X1_clear (by decide) hf) (rc_X1 C (by decide)) rfl rfl rfl (by decide) rfl dX5_tellAll_4 (fun S2 hf => ?_)
  refine go_aload_n (pc := 7) C dX5_tellAll_7 0 rfl rfl ?_
  refine go_iconst (pc := 8) (v := 0) C dX5_tellAll_8 (by decide) ?_
  refine pu_X5_X5_3 (pc := 9) C dX5_tellAll_9 (fun S4 e5 => ?_)
  have hf := hf S4 e5
  refine go_aload_n (pc := 12) C dX5_tellAll_12 0 rfl rfl ?_
  refine go_iconst (pc := 13) (v := 0) C dX5_tellAll_13 (by decide) ?_
  refine pu_X5_X5_4 (pc := 14) C dX5_tellAll_14 (fun S6 e7 => ?_)
  have hf := hf S6 e7
  refine go_aload_n (pc := 17) C dX5_tellAll_17 0 rfl rfl ?_
  refine go_iconst (pc := 18) (v := 0) C dX5_tellAll_18 (by decide) ?_
  refine pu_X5_X5_5 (pc := 19) C dX5_tellAll_19 (fun S8 e9 => ?_)
  have hf := hf S8 e9
  refine go_aload_n (pc := 22) C dX5_tellAll_22 0 rfl rfl ?_
  refine go_iconst (pc := 23) (v := 0) C dX5_tellAll_23 (by decide) ?_
  refine pu_X5_X5_6 (pc := 24) C dX5_tellAll_24 (fun S10 e11 => ?_)
  have hf := hf S10 e11
  refine go_aload_n (pc := 27) C dX5_tellAll_27 0 rfl rfl ?_
  refine go_cVv (pc := 28) C cw_X5_41 (ok_X5_takeToken hf) (rc_X5 C) rfl rfl rfl (by decide) rfl dX5_tellAll_28 (fun S13 hf => ?_)
  refine go_iconst (pc := 31) (v := 0) C dX5_tellAll_31 (by decide) ?_
  refine go_istore_n (pc := 32) C dX5_tellAll_32 [(1, .int 0), (0, .ref ((tq_la X).1 19 0))] rfl (by decide) rfl ?_
  exact go_sub [1, 0] rfl (wk_X5_tellAll_33 C hR 2000 _ _ hf)
set_option maxRecDepth 100000 in
set_option maxHeartbeats 4000000 in
theorem ok_X5_tellAll {S : tq_St} {K : Int32 → tq_St → Prop} (hf : wp_X5_tellAll S K) : tq_Mi yX5_tellAll cX5_tellAll 2 (some .int) 9 (fun a z => [.ref (a.1 19 0)]) S K :=
  tq_mkI (by decide) (fun _ _ => Nat.le_of_ble_eq_true rfl) (fun X C hR => wk_X5_tellAll C hR  hf)
end
section
set_option maxRecDepth 100000 in
set_option maxHeartbeats 4000000 in
theorem wk_X2_keepRow {X : tq_Cx} {p1 : Int32} {S : tq_St} {K : tq_St → Prop} (C : tq_C X cX2_keepRow 2 RX2 1) (hR : tq_Rv X cX2_keepRow 2 K) (hf : wp_X2_keepRow p1 S K) : Go X 2 S 0 [(0, .ref ((tq_la X).1 21 0)), (1, .int p1)] [] := by
  refine go_aload_n (pc := 0) C dX2_keepRow_0 0 rfl rfl ?_
  refine ge_X2_X2_1 (pc := 1) C dX2_keepRow_1 ?_
  refine go_iconst (pc := 4) (v := 0) C dX2_keepRow_4 (by decide) ?_
  refine go_aload_n (pc := 5) C dX2_keepRow_5 0 rfl rfl ?_
  refine ge_X2_X2_2 (pc := 6) C dX2_keepRow_6 ?_
  refine go_iconst (pc := 9) (v := 0) C dX2_keepRow_9 (by decide) ?_
  refine go_iload_n (pc := 10) C dX2_keepRow_10 1 rfl rfl ?_
  refine cp_X2_1_X2_2 (pc := 11) C (by decide) ky_X2_80 hf.1 hf.2.1 hf.2.2.1 dX2_keepRow_11 (fun S1 e2 => ?_)
  have hf := hf.2.2.2 S1 e2
  refine go_aload_n (pc := 14) C dX2_keepRow_14 0 rfl rfl ?_
  refine go_iload_n (pc := 15) C dX2_keepRow_15 1 rfl rfl ?_
  refine pu_X2_X2_3 (pc := 16) C dX2_keepRow_16 (fun S3 e4 => ?_)
  have hf := hf S3 e4
  exact hR _ _ _ dX2_keepRow_19 hf
set_option maxRecDepth 100000 in
set_option maxHeartbeats 4000000 in
theorem ok_X2_keepRow {p1 : Int32} {S : tq_St} {K : tq_St → Prop} (hf : wp_X2_keepRow p1 S K) : tq_Mv yX2_keepRow cX2_keepRow 2 none 1 (fun a z => [.ref (a.1 21 0), .int p1]) S K :=
  tq_mkV (by decide) (fun _ _ => Nat.le_of_ble_eq_true rfl) (fun X C hR => wk_X2_keepRow C hR  hf)
set_option maxRecDepth 100000 in
set_option maxHeartbeats 4000000 in
theorem wk_X2_tryRows_59 {X : tq_Cx} {d : Nat} {rec : Int32 → Int32 → tq_St → (tq_St → Prop) → Prop} {K : tq_St → Prop} (C : tq_C X cX2_tryRows 5 RX2 (d + 7)) (hR : tq_Rv X cX2_tryRows 5 K) (hrec : ∀ (p1 : Int32) (p2 : Int32) (S : tq_St) (K : tq_St → Prop), rec p1 p2 S K → tq_Mv yX2_tryRows cX2_tryRows 5 none (d + 6) (fun a z => [.ref (a.1 21 0), .int p1, .int p2]) S K) : ∀ (v1 : Int32) (v3 : Int32) (v4 : Int32) (S : tq_St), wp_X2_tryRows_59 rec K v1 v3 v4 S → Go X 5 S 59 [(0, .ref ((tq_la X).1 21 0)), (1, .int v1), (3, .int v3), (4, .int v4)] [] := by
  intro v1 v3 v4 S hf
  refine go_aload_n (pc := 59) C dX2_tryRows_59 0 rfl rfl ?_
  refine go_iload_n (pc := 60) C dX2_tryRows_60 2 rfl rfl ?_
  refine pu_X2_X2_4 (pc := 61) C dX2_tryRows_61 (fun S10 e11 => ?_)
  have hf := hf S10 e11
  refine go_aload_n (pc := 64) C dX2_tryRows_64 0 rfl rfl ?_
  refine go_iload (pc := 65) C dX2_tryRows_65 3 rfl ?_
  refine pu_X2_X2_5 (pc := 67) C dX2_tryRows_67 (fun S12 e13 => ?_)
  have hf := hf S12 e13
  refine go_aload_n (pc := 70) C dX2_tryRows_70 0 rfl rfl ?_
  refine go_iload_n (pc := 71) C dX2_tryRows_71 1 rfl rfl ?_
  refine go_cVv (pc := 72) C cw_X2_55 (ok_X2_keepRow hf) (rc_X2 C) rfl rfl rfl (tq_rk_d (by decide) (by decide)) rfl dX2_tryRows_72 (fun S15 hf => ?_)
  exact hR _ _ _ dX2_tryRows_75 hf
set_option maxRecDepth 100000 in
set_option maxHeartbeats 4000000 in
theorem wk_X2_tryRows_10 {X : tq_Cx} {d : Nat} {rec : Int32 → Int32 → tq_St → (tq_St → Prop) → Prop} {K : tq_St → Prop} (C : tq_C X cX2_tryRows 5 RX2 (d + 7)) (hR : tq_Rv X cX2_tryRows 5 K) (hrec : ∀ (p1 : Int32) (p2 : Int32) (S : tq_St) (K : tq_St → Prop), rec p1 p2 S K → tq_Mv yX2_tryRows cX2_tryRows 5 none (d + 6) (fun a z => [.ref (a.1 21 0), .int p1, .int p2]) S K) : ∀ (v1 : Int32) (S : tq_St), wp_X2_tryRows_10 rec K v1 S → Go X 5 S 10 [(0, .ref ((tq_la X).1 21 0)), (1, .int v1)] [] := by
  intro v1 S hf
  refine go_aload_n (pc := 10) C dX2_tryRows_10 0 rfl rfl ?_
  refine ge_X2_X2_0 (pc := 11) C dX2_tryRows_11 ?_
  refine go_iload_n (pc := 14) C dX2_tryRows_14 1 rfl rfl ?_
  refine al_X2_0 (pc := 15) C hf.1 dX2_tryRows_15 ?_
  have h2 : 3 + (v1 : Int32).toNatClampNeg < 19 := tq_le hf.1 (by decide)
  have hf := hf.2
  refine ge_X2_X1_11 (pc := 16) C h2 dX2_tryRows_16 ?_
  refine go_cSi (pc := 19) C cs_X2_46 (ok_J6_bitCount_0f7a4 hf) rfl rfl rfl (tq_rk_d (by decide) (by decide)) rfl dX2_tryRows_19 (fun r3 S4 hf => ?_)
  refine go_istore_n (pc := 22) C dX2_tryRows_22 [(3, .int r3), (0, .ref ((tq_la X).1 21 0)), (1, .int v1)] rfl (by decide) rfl ?_
  refine go_aload_n (pc := 23) C dX2_tryRows_23 1 rfl rfl ?_
  refine ge_X2_X2_0 (pc := 24) C dX2_tryRows_24 ?_
  refine go_iload_n (pc := 27) C dX2_tryRows_27 2 rfl rfl ?_
  refine al_X2_0 (pc := 28) C hf.1 dX2_tryRows_28 ?_
  have h6 : 3 + (v1 : Int32).toNatClampNeg < 19 := tq_le hf.1 (by decide)
  have hf := hf.2
  refine ge_X2_X1_12 (pc := 29) C h6 dX2_tryRows_29 ?_
  refine go_nI (fun x7 e8 => ?_)
  have hf := hf x7 e8
  refine go_istore (pc := 32) C dX2_tryRows_32 [(4, .int x7), (3, .int r3), (0, .ref ((tq_la X).1 21 0)), (1, .int v1)] (by decide) rfl ?_
  refine go_iload_n (pc := 34) C dX2_tryRows_34 1 rfl rfl ?_
  refine go_aload_n (pc := 35) C dX2_tryRows_35 2 rfl rfl ?_
  refine ge_X2_X2_4 (pc := 36) C dX2_tryRows_36 ?_
  refine go_ic_gt (pc := 39) C dX2_tryRows_39 59 (by decide) (fun c9 => ?_) (fun c9 => ?_)
  · have hf := hf.1 c9
    exact go_sub [2, 3, 1, 0] rfl (wk_X2_tryRows_59 C hR hrec _ _ _ _ hf)
  · have hf := hf.2 c9
    refine go_iload_n (pc := 42) C dX2_tryRows_42 1 rfl rfl ?_
    refine go_aload_n (pc := 43) C dX2_tryRows_43 2 rfl rfl ?_
    refine ge_X2_X2_4 (pc := 44) C dX2_tryRows_44 ?_
    refine go_ic_ne (pc := 47) C dX2_tryRows_47 75 (by decide) (fun c17 => ?_) (fun c17 => ?_)
    · have hf := hf.1 c17
      exact hR _ _ _ dX2_tryRows_75 hf
    · have hf := hf.2 c17
      refine go_iload (pc := 50) C dX2_tryRows_50 0 rfl ?_
      refine go_aload_n (pc := 52) C dX2_tryRows_52 2 rfl rfl ?_
      refine ge_X2_X2_5 (pc := 53) C dX2_tryRows_53 ?_
      refine go_ic_le (pc := 56) C dX2_tryRows_56 75 (by decide) (fun c18 => ?_) (fun c18 => ?_)
      · have hf := hf.1 c18
        exact hR _ _ _ dX2_tryRows_75 hf
      · have hf := hf.2 c18
        exact go_sub [2, 3, 1, 0] rfl (wk_X2_tryRows_59 C hR hrec _ _ _ _ hf)
set_option maxRecDepth 100000 in
set_option maxHeartbeats 4000000 in
theorem wk_X2_tryRows_112 {X : tq_Cx} {d : Nat} {rec : Int32 → Int32 → tq_St → (tq_St → Prop) → Prop} {K : tq_St → Prop} (C : tq_C X cX2_tryRows 5 RX2 (d + 7)) (hR : tq_Rv X cX2_tryRows 5 K) (hrec : ∀ (p1 : Int32) (p2 : Int32) (S : tq_St) (K : tq_St → Prop), rec p1 p2 S K → tq_Mv yX2_tryRows cX2_tryRows 5 none (d + 6) (fun a z => [.ref (a.1 21 0), .int p1, .int p2]) S K) {rec89 : Int32 → Int32 → Int32 → Int32 → tq_St → Prop} (hrec89 : ∀ (v1 : Int32) (v2 : Int32) (v3 : Int32) (v4 : Int32) (S : tq_St), rec89 v1 v2 v3 v4 S → Go X 5 S 89 [(0, .ref ((tq_la X).1 21 0)), (1, .int v1), (2, .int v2), (3, .int v3), (4, .int v4)] []) : ∀ (v1 : Int32) (v2 : Int32) (v3 : Int32) (v4 : Int32) (w1 : Int32) (w2 : Int32) (S : tq_St), wp_X2_tryRows_112 rec K rec89 v1 v2 v3 v4 w1 w2 S → Go X 5 S 112 [(0, .ref ((tq_la X).1 21 0)), (1, .int v1), (2, .int v2), (3, .int v3), (4, .int v4)] [.int w2, .int w1, .ref ((tq_la X).1 21 2)] := by
  intro v1 v2 v3 v4 w1 w2 S hf
  refine as_X2_1 (pc := 112) C hf.1 dX2_tryRows_112 (fun S25 e26 => ?_)
  have hf := hf.2 S25 e26
  refine go_aload_n (pc := 113) C dX2_tryRows_113 0 rfl rfl ?_
  refine ge_X2_X2_0 (pc := 114) C dX2_tryRows_114 ?_
  refine go_iload_n (pc := 117) C dX2_tryRows_117 1 rfl rfl ?_
  refine go_iconst (pc := 118) (v := 1) C dX2_tryRows_118 (by decide) ?_
  refine go_iadd (pc := 119) C dX2_tryRows_119 ?_
  refine al_X2_0 (pc := 120) C hf.1 dX2_tryRows_120 ?_
  have h27 : 3 + (v1 + 1 : Int32).toNatClampNeg < 19 := tq_le hf.1 (by decide)
  have hf := hf.2
  refine go_aload_n (pc := 121) C dX2_tryRows_121 0 rfl rfl ?_
  refine ge_X2_X2_0 (pc := 122) C dX2_tryRows_122 ?_
  refine go_iload_n (pc := 125) C dX2_tryRows_125 1 rfl rfl ?_
  refine al_X2_0 (pc := 126) C hf.1 dX2_tryRows_126 ?_
  have h28 : 3 + (v1 : Int32).toNatClampNeg < 19 := tq_le hf.1 (by decide)
  have hf := hf.2
  refine go_cVv (pc := 127) C cw_X2_62 (ok_X1_copyFrom h27 h28 hf) (rc_X1 C h27) rfl rfl rfl (tq_rk_d (by decide) (by decide)) rfl dX2_tryRows_127 (fun S30 hf => ?_)
  refine go_aload_n (pc := 130) C dX2_tryRows_130 0 rfl rfl ?_
  refine ge_X2_X2_0 (pc := 131) C dX2_tryRows_131 ?_
  refine go_iload_n (pc := 134) C dX2_tryRows_134 1 rfl rfl ?_
  refine go_iconst (pc := 135) (v := 1) C dX2_tryRows_135 (by decide) ?_
  refine go_iadd (pc := 136) C dX2_tryRows_136 ?_
  refine al_X2_0 (pc := 137) C hf.1 dX2_tryRows_137 ?_
  have h32 : 3 + (v1 + 1 : Int32).toNatClampNeg < 19 := tq_le hf.1 (by decide)
  have hf := hf.2
  refine go_aload_n (pc := 138) C dX2_tryRows_138 0 rfl rfl ?_
  refine ge_X2_X2_1 (pc := 139) C dX2_tryRows_139 ?_
  refine go_iload_n (pc := 142) C dX2_tryRows_142 1 rfl rfl ?_
  refine al_X2_1 (pc := 143) C hf.1 dX2_tryRows_143 ?_
  have hf := hf.2
  refine go_cVi (pc := 144) C cw_X2_65 (ok_X1_play h32 hf) (rc_X1 C h32) rfl rfl rfl (tq_rk_d (by decide) (by decide)) rfl dX2_tryRows_144 (fun r33 S34 hf => ?_)
  refine go_pop (pc := 147) C dX2_tryRows_147 rfl ?_
  refine go_aload_n (pc := 148) C dX2_tryRows_148 0 rfl rfl ?_
  refine go_iload_n (pc := 149) C dX2_tryRows_149 1 rfl rfl ?_
  refine go_iconst (pc := 150) (v := 1) C dX2_tryRows_150 (by decide) ?_
  refine go_iadd (pc := 151) C dX2_tryRows_151 ?_
  refine go_iload_n (pc := 152) C dX2_tryRows_152 2 rfl rfl ?_
  refine go_cVv (pc := 153) C cw_X2_39 (hrec _ _ _ _ hf) (rc_X2 C) rfl rfl rfl (tq_rk_s (by decide)) rfl dX2_tryRows_153 (fun S37 hf => ?_)
  obtain ⟨x39, e40⟩ : ∃ q9 : Int32, q9 = v4 + 1 := ⟨_, rfl⟩
  refine go_iinc (pc := 156) (j := 4) (v := x39) C dX2_tryRows_156 [(4, .int x39), (0, .ref ((tq_la X).1 21 0)), (1, .int v1), (2, .int v2), (3, .int v3)] rfl (by rw [e40]; rfl) (by decide) rfl ?_
  have hf := hf x39 e40
  refine go_goto (pc := 159) C dX2_tryRows_159 89 (by decide) ?_
  exact go_sub [1, 2, 3, 4, 0] rfl (hrec89 _ _ _ _ _ hf)
set_option maxRecDepth 100000 in
set_option maxHeartbeats 4000000 in
theorem wk_X2_tryRows_89 {X : tq_Cx} {d : Nat} {rec : Int32 → Int32 → tq_St → (tq_St → Prop) → Prop} {K : tq_St → Prop} (C : tq_C X cX2_tryRows 5 RX2 (d + 7)) (hR : tq_Rv X cX2_tryRows 5 K) (hrec : ∀ (p1 : Int32) (p2 : Int32) (S : tq_St) (K : tq_St → Prop), rec p1 p2 S K → tq_Mv yX2_tryRows cX2_tryRows 5 none (d + 6) (fun a z => [.ref (a.1 21 0), .int p1, .int p2]) S K) : ∀ (n : Nat) (v1 : Int32) (v2 : Int32) (v3 : Int32) (v4 : Int32) (S : tq_St), wp_X2_tryRows_89 rec K n v1 v2 v3 v4 S → Go X 5 S 89 [(0, .ref ((tq_la X).1 21 0)), (1, .int v1), (2, .int v2), (3, .int v3), (4, .int v4)] [] := by
  intro n
  induction n with
  | zero => intros; contradiction
  | succ n ih =>
    intro v1 v2 v3 v4 S hf
    refine go_iload (pc := 89) C dX2_tryRows_89 4 rfl ?_
    refine go_iload_n (pc := 91) C dX2_tryRows_91 3 rfl rfl ?_
    refine go_ic_gt (pc := 92) C dX2_tryRows_92 162 (by decide) (fun c23 => ?_) (fun c23 => ?_)
    · have hf := hf.1 c23
      exact hR _ _ _ dX2_tryRows_162 hf
    · have hf := hf.2 c23
      refine go_aload_n (pc := 95) C dX2_tryRows_95 0 rfl rfl ?_
      refine ge_X2_X2_1 (pc := 96) C dX2_tryRows_96 ?_
      refine go_iload_n (pc := 99) C dX2_tryRows_99 1 rfl rfl ?_
      refine go_iload (pc := 100) C dX2_tryRows_100 4 rfl ?_
      refine go_iload_n (pc := 102) C dX2_tryRows_102 3 rfl rfl ?_
      refine go_ic_ge (pc := 103) C dX2_tryRows_103 111 (by decide) (fun c24 => ?_) (fun c24 => ?_)
      · have hf := hf.1 c24
        refine go_iconst (pc := 111) (v := 5) C dX2_tryRows_111 (by decide) ?_
        exact go_sub [0, 1, 2, 3, 4] rfl (wk_X2_tryRows_112 C hR hrec ih _ _ _ _ _ _ _ hf)
      · have hf := hf.2 c24
        refine go_iload (pc := 106) C dX2_tryRows_106 4 rfl ?_
        refine go_goto (pc := 108) C dX2_tryRows_108 112 (by decide) ?_
        exact go_sub [0, 1, 2, 3, 4] rfl (wk_X2_tryRows_112 C hR hrec ih _ _ _ _ _ _ _ hf)
set_option maxRecDepth 100000 in
set_option maxHeartbeats 4000000 in
theorem wk_X2_tryRows {d : Nat} (hrec : ∀ (p1 : Int32) (p2 : Int32) (S : tq_St) (K : tq_St → Prop), wp_X2_tryRows d p1 p2 S K → tq_Mv yX2_tryRows cX2_tryRows 5 none (d + 6) (fun a z => [.ref (a.1 21 0), .int p1, .int p2]) S K) {X : tq_Cx} {p1 : Int32} {p2 : Int32} {S : tq_St} {K : tq_St → Prop} (C : tq_C X cX2_tryRows 5 RX2 (d + 7)) (hR : tq_Rv X cX2_tryRows 5 K) (hf : wp_X2_tryRows (d + 1) p1 p2 S K) : Go X 5 S 0 [(0, .ref ((tq_la X).1 21 0)), (1, .int p1), (2, .int p2)] [] := by
  refine go_iload_n (pc := 0) C dX2_tryRows_0 1 rfl rfl ?_
  refine go_iload_n (pc := 1) C dX2_tryRows_1 2 rfl rfl ?_
  refine go_ic_ge (pc := 2) C dX2_tryRows_2 10 (by decide) (fun c1 => ?_) (fun c1 => ?_)
  · have hf := hf.1 c1
    exact go_sub [0, 1] rfl (wk_X2_tryRows_10 C hR hrec _ _ hf)
  · have hf := hf.2 c1
    refine go_iload_n (pc := 5) C dX2_tryRows_5 1 rfl rfl ?_
    refine go_iconst (pc := 6) (v := 4) C dX2_tryRows_6 (by decide) ?_
    refine go_ic_lt (pc := 7) C dX2_tryRows_7 76 (by decide) (fun c19 => ?_) (fun c19 => ?_)
    · have hf := hf.1 c19
      refine go_aload_n (pc := 76) C dX2_tryRows_76 0 rfl rfl ?_
      refine ge_X2_X2_0 (pc := 77) C dX2_tryRows_77 ?_
      refine go_iconst (pc := 80) (v := 0) C dX2_tryRows_80 (by decide) ?_
      refine al_X2_0 (pc := 81) C hf.1 dX2_tryRows_81 ?_
      have h20 : 3 + (0 : Int32).toNatClampNeg < 19 := tq_le hf.1 (by decide)
      have hf := hf.2
      refine ge_X2_X1_5 (pc := 82) C h20 dX2_tryRows_82 ?_
      refine go_nI (fun x21 e22 => ?_)
      have hf := hf x21 e22
      refine go_istore_n (pc := 85) C dX2_tryRows_85 [(3, .int x21), (0, .ref ((tq_la X).1 21 0)), (1, .int p1), (2, .int p2)] rfl (by decide) rfl ?_
      refine go_iconst (pc := 86) (v := 0) C dX2_tryRows_86 (by decide) ?_
      refine go_istore (pc := 87) C dX2_tryRows_87 [(4, .int 0), (3, .int x21), (0, .ref ((tq_la X).1 21 0)), (1, .int p1), (2, .int p2)] (by decide) rfl ?_
      exact go_sub [2, 3, 4, 1, 0] rfl (wk_X2_tryRows_89 C hR hrec 2000 _ _ _ _ _ hf)
    · have hf := hf.2 c19
      exact go_sub [0, 1] rfl (wk_X2_tryRows_10 C hR hrec _ _ hf)
set_option maxRecDepth 100000 in
set_option maxHeartbeats 4000000 in
theorem ok_X2_tryRows : ∀ (d : Nat) {p1 : Int32} {p2 : Int32} {S : tq_St} {K : tq_St → Prop} (hf : wp_X2_tryRows d p1 p2 S K), tq_Mv yX2_tryRows cX2_tryRows 5 none (d + 6) (fun a z => [.ref (a.1 21 0), .int p1, .int p2]) S K := by
  intro d
  induction d with
  | zero => intros; contradiction
  | succ d ih =>
    intro p1 p2 S K  hf
    exact tq_mkV (by decide) (fun _ _ => Nat.le_of_ble_eq_true rfl) (fun X C hR => wk_X2_tryRows (fun p1 p2 S K  h => ih  h) C hR  hf)
set_option maxRecDepth 100000 in
set_option maxHeartbeats 4000000 in
theorem wk_X2_findMostTears {X : tq_Cx} {p1 : Nat} {p2 : Int32} {S : tq_St} {K : tq_St → Prop} (C : tq_C X cX2_findMostTears 3 RX2 19) (hR : tq_Rv X cX2_findMostTears 3 K) (hp1 : p1 < 19) (hf : wp_X2_findMostTears p1 p2 S K) : Go X 3 S 0 [(0, .ref ((tq_la X).1 21 0)), (1, .ref ((tq_la X).1 p1 0)), (2, .int p2)] [] := by
  refine go_aload_n (pc := 0) C dX2_findMostTears_0 0 rfl rfl ?_
  refine ge_X2_X2_0 (pc := 1) C dX2_findMostTears_1 ?_
  refine go_iconst (pc := 4) (v := 0) C dX2_findMostTears_4 (by decide) ?_
  refine al_X2_0 (pc := 5) C hf.1 dX2_findMostTears_5 ?_
  have h1 : 3 + (0 : Int32).toNatClampNeg < 19 := tq_le hf.1 (by decide)
  have hf := hf.2
  refine go_aload_n (pc := 6) C dX2_findMostTears_6 1 rfl rfl ?_
  refine go_cVv (pc := 7) C cw_X2_29 (ok_X1_startFrom h1 hp1 hf) (rc_X1 C h1) rfl rfl rfl (by decide) rfl dX2_findMostTears_7 (fun S3 hf => ?_)
  refine go_aload_n (pc := 10) C dX2_findMostTears_10 0 rfl rfl ?_
  refine go_iconst (pc := 11) (v := (-1)) C dX2_findMostTears_11 (by decide) ?_
  refine pu_X2_X2_4 (pc := 12) C dX2_findMostTears_12 (fun S5 e6 => ?_)
  have hf := hf S5 e6
  refine go_aload_n (pc := 15) C dX2_findMostTears_15 0 rfl rfl ?_
  refine go_iconst (pc := 16) (v := (-1)) C dX2_findMostTears_16 (by decide) ?_
  refine pu_X2_X2_5 (pc := 17) C dX2_findMostTears_17 (fun S7 e8 => ?_)
  have hf := hf S7 e8
  refine go_aload_n (pc := 20) C dX2_findMostTears_20 0 rfl rfl ?_
  refine go_iconst (pc := 21) (v := 0) C dX2_findMostTears_21 (by decide) ?_
  refine go_iload_n (pc := 22) C dX2_findMostTears_22 2 rfl rfl ?_
  refine go_cVv (pc := 23) C cw_X2_39 (ok_X2_tryRows 12 hf) (rc_X2 C) rfl rfl rfl (by decide) rfl dX2_findMostTears_23 (fun S10 hf => ?_)
  exact hR _ _ _ dX2_findMostTears_26 hf
set_option maxRecDepth 100000 in
set_option maxHeartbeats 4000000 in
theorem ok_X2_findMostTears {p1 : Nat} {p2 : Int32} {S : tq_St} {K : tq_St → Prop} (hp1 : p1 < 19) (hf : wp_X2_findMostTears p1 p2 S K) : tq_Mv yX2_findMostTears cX2_findMostTears 3 none 19 (fun a z => [.ref (a.1 21 0), .ref (a.1 p1 0), .int p2]) S K :=
  tq_mkV (by decide) (fun _ _ => Nat.le_of_ble_eq_true rfl) (fun X C hR => wk_X2_findMostTears C hR hp1 hf)
set_option maxRecDepth 100000 in
set_option maxHeartbeats 4000000 in
theorem wk_X2_foundAt {X : tq_Cx} {p1 : Int32} {S : tq_St} {K : Int32 → tq_St → Prop} (C : tq_C X cX2_foundAt 2 RX2 1) (hR : tq_Ri X cX2_foundAt 2 K) (hf : wp_X2_foundAt p1 S K) : Go X 2 S 0 [(0, .ref ((tq_la X).1 21 0)), (1, .int p1)] [] := by
  refine go_iload_n (pc := 0) C dX2_foundAt_0 1 rfl rfl ?_
  refine go_if_lt (pc := 1) C dX2_foundAt_1 21 (by decide) (fun c1 => ?_) (fun c1 => ?_)
  · have hf := hf.1 c1
    refine go_bipush (pc := 21) (v := (-4)) C dX2_foundAt_21 (by decide) ?_
    exact hR _ _ _ _ dX2_foundAt_23 hf
  · have hf := hf.2 c1
    refine go_iload_n (pc := 4) C dX2_foundAt_4 1 rfl rfl ?_
    refine go_aload_n (pc := 5) C dX2_foundAt_5 0 rfl rfl ?_
    refine ge_X2_X2_3 (pc := 6) C dX2_foundAt_6 ?_
    refine go_ic_ge (pc := 9) C dX2_foundAt_9 21 (by decide) (fun c2 => ?_) (fun c2 => ?_)
    · have hf := hf.1 c2
      refine go_bipush (pc := 21) (v := (-4)) C dX2_foundAt_21 (by decide) ?_
      exact hR _ _ _ _ dX2_foundAt_23 hf
    · have hf := hf.2 c2
      refine go_aload_n (pc := 12) C dX2_foundAt_12 0 rfl rfl ?_
      refine ge_X2_X2_2 (pc := 13) C dX2_foundAt_13 ?_
      refine go_iload_n (pc := 16) C dX2_foundAt_16 1 rfl rfl ?_
      refine al_X2_2 (pc := 17) C hf.1 dX2_foundAt_17 ?_
      have hf := hf.2
      refine go_goto (pc := 18) C dX2_foundAt_18 23 (by decide) ?_
      exact hR _ _ _ _ dX2_foundAt_23 hf
set_option maxRecDepth 100000 in
set_option maxHeartbeats 4000000 in
theorem ok_X2_foundAt {p1 : Int32} {S : tq_St} {K : Int32 → tq_St → Prop} (hf : wp_X2_foundAt p1 S K) : tq_Mi yX2_foundAt cX2_foundAt 2 (some .int) 1 (fun a z => [.ref (a.1 21 0), .int p1]) S K :=
  tq_mkI (by decide) (fun _ _ => Nat.le_of_ble_eq_true rfl) (fun X C hR => wk_X2_foundAt C hR  hf)
set_option maxRecDepth 100000 in
set_option maxHeartbeats 4000000 in
theorem wk_X2_isHome_10 {X : tq_Cx} {d : Nat} {rec : Int32 → Int32 → Int32 → tq_St → (Int32 → tq_St → Prop) → Prop} {K : Int32 → tq_St → Prop} (C : tq_C X cX2_isHome 6 RX2 (d + 7)) (hR : tq_Rz X cX2_isHome 6 K) (hrec : ∀ (p1 : Int32) (p2 : Int32) (p3 : Int32) (S : tq_St) (K : Int32 → tq_St → Prop), rec p1 p2 p3 S K → tq_Mi yX2_isHome cX2_isHome 6 (some .boolean) (d + 6) (fun a z => [.ref (a.1 21 0), .int p1, .int p2, .int p3]) S K) : ∀ (v1 : Int32) (v3 : Int32) (S : tq_St), wp_X2_isHome_10 rec K v1 v3 S → Go X 6 S 10 [(0, .ref ((tq_la X).1 21 0)), (1, .int v1), (3, .int v3)] [] := by
  intro v1 v3 S hf
  refine go_aload_n (pc := 10) C dX2_isHome_10 0 rfl rfl ?_
  refine ge_X2_X2_0 (pc := 11) C dX2_isHome_11 ?_
  refine go_iload_n (pc := 14) C dX2_isHome_14 1 rfl rfl ?_
  refine go_iconst (pc := 15) (v := 1) C dX2_isHome_15 (by decide) ?_
  refine go_iadd (pc := 16) C dX2_isHome_16 ?_
  refine al_X2_0 (pc := 17) C hf.1 dX2_isHome_17 ?_
  have h2 : 3 + (v1 + 1 : Int32).toNatClampNeg < 19 := tq_le hf.1 (by decide)
  have hf := hf.2
  refine go_aload_n (pc := 18) C dX2_isHome_18 0 rfl rfl ?_
  refine ge_X2_X2_0 (pc := 19) C dX2_isHome_19 ?_
  refine go_iload_n (pc := 22) C dX2_isHome_22 1 rfl rfl ?_
  refine al_X2_0 (pc := 23) C hf.1 dX2_isHome_23 ?_
  have h3 : 3 + (v1 : Int32).toNatClampNeg < 19 := tq_le hf.1 (by decide)
  have hf := hf.2
  refine go_cVv (pc := 24) C cw_X2_62 (ok_X1_copyFrom h2 h3 hf) (rc_X1 C h2) rfl rfl rfl (tq_rk_d (by decide) (by decide)) rfl dX2_isHome_24 (fun S5 hf => ?_)
  refine go_aload_n (pc := 27) C dX2_isHome_27 0 rfl rfl ?_
  refine ge_X2_X2_0 (pc := 28) C dX2_isHome_28 ?_
  refine go_iload_n (pc := 31) C dX2_isHome_31 1 rfl rfl ?_
  refine go_iconst (pc := 32) (v := 1) C dX2_isHome_32 (by decide) ?_
  refine go_iadd (pc := 33) C dX2_isHome_33 ?_
  refine al_X2_0 (pc := 34) C hf.1 dX2_isHome_34 ?_
  have h7 : 3 + (v1 + 1 : Int32).toNatClampNeg < 19 := tq_le hf.1 (by decide)
  have hf := hf.2
  refine go_cVi (pc := 35) C cw_X2_73 (ok_X1_board h7 hf) (rc_X1 C h7) rfl rfl rfl (tq_rk_d (by decide) (by decide)) rfl dX2_isHome_35 (fun r8 S9 hf => ?_)
  refine go_pop (pc := 38) C dX2_isHome_38 rfl ?_
  refine go_aload_n (pc := 39) C dX2_isHome_39 0 rfl rfl ?_
  refine go_iload_n (pc := 40) C dX2_isHome_40 1 rfl rfl ?_
  refine go_cVv (pc := 41) C cw_X2_55 (ok_X2_keepRow hf) (rc_X2 C) rfl rfl rfl (tq_rk_d (by decide) (by decide)) rfl dX2_isHome_41 (fun S12 hf => ?_)
  refine go_aload_n (pc := 44) C dX2_isHome_44 0 rfl rfl ?_
  refine ge_X2_X2_0 (pc := 45) C dX2_isHome_45 ?_
  refine go_iload_n (pc := 48) C dX2_isHome_48 1 rfl rfl ?_
  refine go_iconst (pc := 49) (v := 1) C dX2_isHome_49 (by decide) ?_
  refine go_iadd (pc := 50) C dX2_isHome_50 ?_
  refine al_X2_0 (pc := 51) C hf.1 dX2_isHome_51 ?_
  have h14 : 3 + (v1 + 1 : Int32).toNatClampNeg < 19 := tq_le hf.1 (by decide)
  have hf := hf.2
  refine go_iload_n (pc := 52) C dX2_isHome_52 2 rfl rfl ?_
  refine go_cVi (pc := 53) C cw_X2_77 (ok_X1_waits h14 hf) (rc_X1 C h14) rfl rfl rfl (tq_rk_d (by decide) (by decide)) rfl dX2_isHome_53 (fun r15 S16 hf => ?_)
  refine go_if_ne (pc := 56) C dX2_isHome_56 63 (by decide) (fun c18 => ?_) (fun c18 => ?_)
  · have hf := hf.1 c18
    refine go_iconst (pc := 63) (v := 0) C dX2_isHome_63 (by decide) ?_
    exact hR _ _ _ _ dX2_isHome_64 (Or.inl rfl) hf
  · have hf := hf.2 c18
    refine go_iconst (pc := 59) (v := 1) C dX2_isHome_59 (by decide) ?_
    refine go_goto (pc := 60) C dX2_isHome_60 64 (by decide) ?_
    exact hR _ _ _ _ dX2_isHome_64 (Or.inr rfl) hf
set_option maxRecDepth 100000 in
set_option maxHeartbeats 4000000 in
theorem wk_X2_isHome_79 {X : tq_Cx} {d : Nat} {rec : Int32 → Int32 → Int32 → tq_St → (Int32 → tq_St → Prop) → Prop} {K : Int32 → tq_St → Prop} (C : tq_C X cX2_isHome 6 RX2 (d + 7)) (hR : tq_Rz X cX2_isHome 6 K) (hrec : ∀ (p1 : Int32) (p2 : Int32) (p3 : Int32) (S : tq_St) (K : Int32 → tq_St → Prop), rec p1 p2 p3 S K → tq_Mi yX2_isHome cX2_isHome 6 (some .boolean) (d + 6) (fun a z => [.ref (a.1 21 0), .int p1, .int p2, .int p3]) S K) : ∀ (n : Nat) (v1 : Int32) (v2 : Int32) (v3 : Int32) (v4 : Int32) (v5 : Int32) (S : tq_St), wp_X2_isHome_79 rec K n v1 v2 v3 v4 v5 S → Go X 6 S 79 [(0, .ref ((tq_la X).1 21 0)), (1, .int v1), (2, .int v2), (3, .int v3), (4, .int v4), (5, .int v5)] [] := by
  intro n
  induction n with
  | zero => intros; contradiction
  | succ n ih =>
    intro v1 v2 v3 v4 v5 S hf
    refine go_iload (pc := 79) C dX2_isHome_79 5 rfl ?_
    refine go_iload (pc := 81) C dX2_isHome_81 4 rfl ?_
    refine go_ic_ge (pc := 83) C dX2_isHome_83 145 (by decide) (fun c23 => ?_) (fun c23 => ?_)
    · have hf := hf.1 c23
      refine go_iconst (pc := 145) (v := 0) C dX2_isHome_145 (by decide) ?_
      exact hR _ _ _ _ dX2_isHome_146 (Or.inl rfl) hf
    · have hf := hf.2 c23
      refine go_aload_n (pc := 86) C dX2_isHome_86 0 rfl rfl ?_
      refine ge_X2_X2_1 (pc := 87) C dX2_isHome_87 ?_
      refine go_iload_n (pc := 90) C dX2_isHome_90 1 rfl rfl ?_
      refine go_iload (pc := 91) C dX2_isHome_91 5 rfl ?_
      refine as_X2_1 (pc := 93) C hf.1 dX2_isHome_93 (fun S24 e25 => ?_)
      have hf := hf.2 S24 e25
      refine go_aload_n (pc := 94) C dX2_isHome_94 0 rfl rfl ?_
      refine ge_X2_X2_0 (pc := 95) C dX2_isHome_95 ?_
      refine go_iload_n (pc := 98) C dX2_isHome_98 1 rfl rfl ?_
      refine go_iconst (pc := 99) (v := 1) C dX2_isHome_99 (by decide) ?_
      refine go_iadd (pc := 100) C dX2_isHome_100 ?_
      refine al_X2_0 (pc := 101) C hf.1 dX2_isHome_101 ?_
      have h26 : 3 + (v1 + 1 : Int32).toNatClampNeg < 19 := tq_le hf.1 (by decide)
      have hf := hf.2
      refine go_aload_n (pc := 102) C dX2_isHome_102 0 rfl rfl ?_
      refine ge_X2_X2_0 (pc := 103) C dX2_isHome_103 ?_
      refine go_iload_n (pc := 106) C dX2_isHome_106 1 rfl rfl ?_
      refine al_X2_0 (pc := 107) C hf.1 dX2_isHome_107 ?_
      have h27 : 3 + (v1 : Int32).toNatClampNeg < 19 := tq_le hf.1 (by decide)
      have hf := hf.2
      refine go_cVv (pc := 108) C cw_X2_62 (ok_X1_copyFrom h26 h27 hf) (rc_X1 C h26) rfl rfl rfl (tq_rk_d (by decide) (by decide)) rfl dX2_isHome_108 (fun S29 hf => ?_)
      refine go_aload_n (pc := 111) C dX2_isHome_111 0 rfl rfl ?_
      refine ge_X2_X2_0 (pc := 112) C dX2_isHome_112 ?_
      refine go_iload_n (pc := 115) C dX2_isHome_115 1 rfl rfl ?_
      refine go_iconst (pc := 116) (v := 1) C dX2_isHome_116 (by decide) ?_
      refine go_iadd (pc := 117) C dX2_isHome_117 ?_
      refine al_X2_0 (pc := 118) C hf.1 dX2_isHome_118 ?_
      have h31 : 3 + (v1 + 1 : Int32).toNatClampNeg < 19 := tq_le hf.1 (by decide)
      have hf := hf.2
      refine go_iload (pc := 119) C dX2_isHome_119 5 rfl ?_
      refine go_cVi (pc := 121) C cw_X2_65 (ok_X1_play h31 hf) (rc_X1 C h31) rfl rfl rfl (tq_rk_d (by decide) (by decide)) rfl dX2_isHome_121 (fun r32 S33 hf => ?_)
      refine go_pop (pc := 124) C dX2_isHome_124 rfl ?_
      refine go_aload_n (pc := 125) C dX2_isHome_125 0 rfl rfl ?_
      refine go_iload_n (pc := 126) C dX2_isHome_126 1 rfl rfl ?_
      refine go_iconst (pc := 127) (v := 1) C dX2_isHome_127 (by decide) ?_
      refine go_iadd (pc := 128) C dX2_isHome_128 ?_
      refine go_iload_n (pc := 129) C dX2_isHome_129 2 rfl rfl ?_
      refine go_iload_n (pc := 130) C dX2_isHome_130 3 rfl rfl ?_
      refine go_cVi (pc := 131) C cw_X2_69 (hrec _ _ _ _ _ hf) (rc_X2 C) rfl rfl rfl (tq_rk_s (by decide)) rfl dX2_isHome_131 (fun r35 S36 hf => ?_)
      refine go_if_eq (pc := 134) C dX2_isHome_134 139 (by decide) (fun c38 => ?_) (fun c38 => ?_)
      · have hf := hf.1 c38
        obtain ⟨x39, e40⟩ : ∃ q9 : Int32, q9 = v5 + 1 := ⟨_, rfl⟩
        refine go_iinc (pc := 139) (j := 5) (v := x39) C dX2_isHome_139 [(5, .int x39), (0, .ref ((tq_la X).1 21 0)), (1, .int v1), (2, .int v2), (3, .int v3), (4, .int v4)] rfl (by rw [e40]; rfl) (by decide) rfl ?_
        have hf := hf x39 e40
        refine go_goto (pc := 142) C dX2_isHome_142 79 (by decide) ?_
        exact go_sub [1, 2, 3, 4, 5, 0] rfl (ih _ _ _ _ _ _ hf)
      · have hf := hf.2 c38
        refine go_iconst (pc := 137) (v := 1) C dX2_isHome_137 (by decide) ?_
        exact hR _ _ _ _ dX2_isHome_138 (Or.inr rfl) hf
set_option maxRecDepth 100000 in
set_option maxHeartbeats 4000000 in
theorem wk_X2_isHome {d : Nat} (hrec : ∀ (p1 : Int32) (p2 : Int32) (p3 : Int32) (S : tq_St) (K : Int32 → tq_St → Prop), wp_X2_isHome d p1 p2 p3 S K → tq_Mi yX2_isHome cX2_isHome 6 (some .boolean) (d + 6) (fun a z => [.ref (a.1 21 0), .int p1, .int p2, .int p3]) S K) {X : tq_Cx} {p1 : Int32} {p2 : Int32} {p3 : Int32} {S : tq_St} {K : Int32 → tq_St → Prop} (C : tq_C X cX2_isHome 6 RX2 (d + 7)) (hR : tq_Rz X cX2_isHome 6 K) (hf : wp_X2_isHome (d + 1) p1 p2 p3 S K) : Go X 6 S 0 [(0, .ref ((tq_la X).1 21 0)), (1, .int p1), (2, .int p2), (3, .int p3)] [] := by
  refine go_iload_n (pc := 0) C dX2_isHome_0 1 rfl rfl ?_
  refine go_iload_n (pc := 1) C dX2_isHome_1 2 rfl rfl ?_
  refine go_ic_ge (pc := 2) C dX2_isHome_2 10 (by decide) (fun c1 => ?_) (fun c1 => ?_)
  · have hf := hf.1 c1
    exact go_sub [0, 1, 3] rfl (wk_X2_isHome_10 C hR hrec _ _ _ hf)
  · have hf := hf.2 c1
    refine go_iload_n (pc := 5) C dX2_isHome_5 1 rfl rfl ?_
    refine go_iconst (pc := 6) (v := 3) C dX2_isHome_6 (by decide) ?_
    refine go_ic_lt (pc := 7) C dX2_isHome_7 65 (by decide) (fun c19 => ?_) (fun c19 => ?_)
    · have hf := hf.1 c19
      refine go_aload_n (pc := 65) C dX2_isHome_65 0 rfl rfl ?_
      refine ge_X2_X2_0 (pc := 66) C dX2_isHome_66 ?_
      refine go_iconst (pc := 69) (v := 0) C dX2_isHome_69 (by decide) ?_
      refine al_X2_0 (pc := 70) C hf.1 dX2_isHome_70 ?_
      have h20 : 3 + (0 : Int32).toNatClampNeg < 19 := tq_le hf.1 (by decide)
      have hf := hf.2
      refine ge_X2_X1_5 (pc := 71) C h20 dX2_isHome_71 ?_
      refine go_nI (fun x21 e22 => ?_)
      have hf := hf x21 e22
      refine go_istore (pc := 74) C dX2_isHome_74 [(4, .int x21), (0, .ref ((tq_la X).1 21 0)), (1, .int p1), (2, .int p2), (3, .int p3)] (by decide) rfl ?_
      refine go_iconst (pc := 76) (v := 0) C dX2_isHome_76 (by decide) ?_
      refine go_istore (pc := 77) C dX2_isHome_77 [(5, .int 0), (4, .int x21), (0, .ref ((tq_la X).1 21 0)), (1, .int p1), (2, .int p2), (3, .int p3)] (by decide) rfl ?_
      exact go_sub [2, 3, 4, 5, 1, 0] rfl (wk_X2_isHome_79 C hR hrec 2000 _ _ _ _ _ _ hf)
    · have hf := hf.2 c19
      exact go_sub [0, 1, 3] rfl (wk_X2_isHome_10 C hR hrec _ _ _ hf)
set_option maxRecDepth 100000 in
set_option maxHeartbeats 4000000 in
theorem ok_X2_isHome : ∀ (d : Nat) {p1 : Int32} {p2 : Int32} {p3 : Int32} {S : tq_St} {K : Int32 → tq_St → Prop} (hf : wp_X2_isHome d p1 p2 p3 S K), tq_Mi yX2_isHome cX2_isHome 6 (some .boolean) (d + 6) (fun a z => [.ref (a.1 21 0), .int p1, .int p2, .int p3]) S K := by
  intro d
  induction d with
  | zero => intros; contradiction
  | succ d ih =>
    intro p1 p2 p3 S K  hf
    exact tq_mkZ (by decide) (fun _ _ => Nat.le_of_ble_eq_true rfl) (fun X C hR => wk_X2_isHome (fun p1 p2 p3 S K  h => ih  h) C hR  hf)
set_option maxRecDepth 100000 in
set_option maxHeartbeats 4000000 in
theorem wk_X2_findWayHome_12 {X : tq_Cx} {p1 : Nat} {K : Int32 → tq_St → Prop} (C : tq_C X cX2_findWayHome 4 RX2 19) (hR : tq_Rz X cX2_findWayHome 4 K) (hp1 : p1 < 19) : ∀ (n : Nat) (v2 : Int32) (v3 : Int32) (S : tq_St), wp_X2_findWayHome_12 p1 K n v2 v3 S → Go X 4 S 12 [(0, .ref ((tq_la X).1 21 0)), (2, .int v2), (3, .int v3)] [] := by
  intro n
  induction n with
  | zero => intros; contradiction
  | succ n ih =>
    intro v2 v3 S hf
    refine go_iload_n (pc := 12) C dX2_findWayHome_12 2 rfl rfl ?_
    refine go_iconst (pc := 13) (v := 3) C dX2_findWayHome_13 (by decide) ?_
    refine go_ic_gt (pc := 14) C dX2_findWayHome_14 35 (by decide) (fun c5 => ?_) (fun c5 => ?_)
    · have hf := hf.1 c5
      refine go_iconst (pc := 35) (v := 0) C dX2_findWayHome_35 (by decide) ?_
      exact hR _ _ _ _ dX2_findWayHome_36 (Or.inl rfl) hf
    · have hf := hf.2 c5
      refine go_aload_n (pc := 17) C dX2_findWayHome_17 0 rfl rfl ?_
      refine go_iconst (pc := 18) (v := 0) C dX2_findWayHome_18 (by decide) ?_
      refine go_iload_n (pc := 19) C dX2_findWayHome_19 2 rfl rfl ?_
      refine go_iload_n (pc := 20) C dX2_findWayHome_20 1 rfl rfl ?_
      refine go_cVi (pc := 21) C cw_X2_69 (ok_X2_isHome 12 hf) (rc_X2 C) rfl rfl rfl (by decide) rfl dX2_findWayHome_21 (fun r6 S7 hf => ?_)
      refine go_if_eq (pc := 24) C dX2_findWayHome_24 29 (by decide) (fun c9 => ?_) (fun c9 => ?_)
      · have hf := hf.1 c9
        obtain ⟨x10, e11⟩ : ∃ q9 : Int32, q9 = v3 + 1 := ⟨_, rfl⟩
        refine go_iinc (pc := 29) (j := 2) (v := x10) C dX2_findWayHome_29 [(3, .int x10), (0, .ref ((tq_la X).1 21 0)), (2, .int v2)] rfl (by rw [e11]; rfl) (by decide) rfl ?_
        have hf := hf x10 e11
        refine go_goto (pc := 32) C dX2_findWayHome_32 12 (by decide) ?_
        exact go_sub [1, 2, 0] rfl (ih _ _ _ hf)
      · have hf := hf.2 c9
        refine go_iconst (pc := 27) (v := 1) C dX2_findWayHome_27 (by decide) ?_
        exact hR _ _ _ _ dX2_findWayHome_28 (Or.inr rfl) hf
set_option maxRecDepth 100000 in
set_option maxHeartbeats 4000000 in
theorem wk_X2_findWayHome {X : tq_Cx} {p1 : Nat} {p2 : Int32} {S : tq_St} {K : Int32 → tq_St → Prop} (C : tq_C X cX2_findWayHome 4 RX2 19) (hR : tq_Rz X cX2_findWayHome 4 K) (hp1 : p1 < 19) (hf : wp_X2_findWayHome p1 p2 S K) : Go X 4 S 0 [(0, .ref ((tq_la X).1 21 0)), (1, .ref ((tq_la X).1 p1 0)), (2, .int p2)] [] := by
  refine go_aload_n (pc := 0) C dX2_findWayHome_0 0 rfl rfl ?_
  refine ge_X2_X2_0 (pc := 1) C dX2_findWayHome_1 ?_
  refine go_iconst (pc := 4) (v := 0) C dX2_findWayHome_4 (by decide) ?_
  refine al_X2_0 (pc := 5) C hf.1 dX2_findWayHome_5 ?_
  have h1 : 3 + (0 : Int32).toNatClampNeg < 19 := tq_le hf.1 (by decide)
  have hf := hf.2
  refine go_aload_n (pc := 6) C dX2_findWayHome_6 1 rfl rfl ?_
  refine go_cVv (pc := 7) C cw_X2_29 (ok_X1_startFrom h1 hp1 hf) (rc_X1 C h1) rfl rfl rfl (by decide) rfl dX2_findWayHome_7 (fun S3 hf => ?_)
  refine go_iconst (pc := 10) (v := 0) C dX2_findWayHome_10 (by decide) ?_
  refine go_istore_n (pc := 11) C dX2_findWayHome_11 [(3, .int 0), (0, .ref ((tq_la X).1 21 0)), (1, .ref ((tq_la X).1 p1 0)), (2, .int p2)] rfl (by decide) rfl ?_
  exact go_sub [1, 3, 0] rfl (wk_X2_findWayHome_12 C hR hp1 2000 _ _ _ hf)
set_option maxRecDepth 100000 in
set_option maxHeartbeats 4000000 in
theorem ok_X2_findWayHome {p1 : Nat} {p2 : Int32} {S : tq_St} {K : Int32 → tq_St → Prop} (hp1 : p1 < 19) (hf : wp_X2_findWayHome p1 p2 S K) : tq_Mi yX2_findWayHome cX2_findWayHome 4 (some .boolean) 19 (fun a z => [.ref (a.1 21 0), .ref (a.1 p1 0), .int p2]) S K :=
  tq_mkZ (by decide) (fun _ _ => Nat.le_of_ble_eq_true rfl) (fun X C hR => wk_X2_findWayHome C hR hp1 hf)
set_option maxRecDepth 100000 in
set_option maxHeartbeats 4000000 in
theorem wk_X0_addWeight_13 {X : tq_Cx} {p1 : Nat} {K : tq_St → Prop} (C : tq_C X cX0_addWeight 5 RX0 2) (hR : tq_Rv X cX0_addWeight 5 K) (hp1 : p1 < 19) : ∀ (n : Nat) (v2 : Int64) (v4 : Int32) (S : tq_St), wp_X0_addWeight_13 p1 K n v2 v4 S → Go X 5 S 13 [(0, .ref ((tq_la X).1 22 0)), (1, .ref ((tq_la X).1 p1 0)), (2, .long v2), (4, .int v4)] [] := by
  intro n
  induction n with
  | zero => intros; contradiction
  | succ n ih =>
    intro v2 v4 S hf
    refine go_iload (pc := 13) C dX0_addWeight_13 3 rfl ?_
    refine go_aload_n (pc := 15) C dX0_addWeight_15 1 rfl rfl ?_
    refine ge_X0_X1_5 (pc := 16) C hp1 dX0_addWeight_16 ?_
    refine go_ic_ge (pc := 19) C dX0_addWeight_19 48 (by decide) (fun c3 => ?_) (fun c3 => ?_)
    · have hf := hf.1 c3
      exact hR _ _ _ dX0_addWeight_48 hf
    · have hf := hf.2 c3
      refine go_aload_n (pc := 22) C dX0_addWeight_22 1 rfl rfl ?_
      refine go_iload (pc := 23) C dX0_addWeight_23 3 rfl ?_
      refine go_cVi (pc := 25) C cw_X0_65 (ok_X1_waits hp1 hf) (rc_X1 C hp1) rfl rfl rfl (by decide) rfl dX0_addWeight_25 (fun r4 S5 hf => ?_)
      refine go_if_ne (pc := 28) C dX0_addWeight_28 42 (by decide) (fun c7 => ?_) (fun c7 => ?_)
      · have hf := hf.1 c7
        obtain ⟨x8, e9⟩ : ∃ q9 : Int32, q9 = v4 + 1 := ⟨_, rfl⟩
        refine go_iinc (pc := 42) (j := 3) (v := x8) C dX0_addWeight_42 [(4, .int x8), (0, .ref ((tq_la X).1 22 0)), (1, .ref ((tq_la X).1 p1 0)), (2, .long v2)] rfl (by rw [e9]; rfl) (by decide) rfl ?_
        have hf := hf x8 e9
        refine go_goto (pc := 45) C dX0_addWeight_45 13 (by decide) ?_
        exact go_sub [1, 2, 3, 0] rfl (ih _ _ _ hf)
      · have hf := hf.2 c7
        refine go_aload_n (pc := 31) C dX0_addWeight_31 0 rfl rfl ?_
        refine ge_X0_X0_1 (pc := 32) C dX0_addWeight_32 ?_
        refine go_iload (pc := 35) C dX0_addWeight_35 3 rfl ?_
        refine go_dup2 (pc := 37) C dX0_addWeight_37 rfl rfl ?_
        refine al_X0_1 (pc := 38) C hf.1 dX0_addWeight_38 ?_
        have hf := hf.2
        refine go_lload_n (pc := 39) C dX0_addWeight_39 2 rfl rfl ?_
        refine go_ladd (pc := 40) C dX0_addWeight_40 ?_
        refine as_X0_1 (pc := 41) C hf.1 dX0_addWeight_41 (fun S10 e11 => ?_)
        have hf := hf.2 S10 e11
        obtain ⟨x12, e13⟩ : ∃ q9 : Int32, q9 = v4 + 1 := ⟨_, rfl⟩
        refine go_iinc (pc := 42) (j := 3) (v := x12) C dX0_addWeight_42 [(4, .int x12), (0, .ref ((tq_la X).1 22 0)), (1, .ref ((tq_la X).1 p1 0)), (2, .long v2)] rfl (by rw [e13]; rfl) (by decide) rfl ?_
        have hf := hf x12 e13
        refine go_goto (pc := 45) C dX0_addWeight_45 13 (by decide) ?_
        exact go_sub [1, 2, 3, 0] rfl (ih _ _ _ hf)
set_option maxRecDepth 100000 in
set_option maxHeartbeats 4000000 in
theorem wk_X0_addWeight {X : tq_Cx} {p1 : Nat} {p2 : Int64} {S : tq_St} {K : tq_St → Prop} (C : tq_C X cX0_addWeight 5 RX0 2) (hR : tq_Rv X cX0_addWeight 5 K) (hp1 : p1 < 19) (hf : wp_X0_addWeight p1 p2 S K) : Go X 5 S 0 [(0, .ref ((tq_la X).1 22 0)), (1, .ref ((tq_la X).1 p1 0)), (2, .long p2)] [] := by
  refine go_aload_n (pc := 0) C dX0_addWeight_0 0 rfl rfl ?_
  refine go_dup (pc := 1) C dX0_addWeight_1 rfl ?_
  refine ge_X0_X0_2 (pc := 2) C dX0_addWeight_2 ?_
  refine go_lload_n (pc := 5) C dX0_addWeight_5 2 rfl rfl ?_
  refine go_ladd (pc := 6) C dX0_addWeight_6 ?_
  refine pu_X0_X0_2 (pc := 7) C dX0_addWeight_7 (fun S1 e2 => ?_)
  have hf := hf S1 e2
  refine go_iconst (pc := 10) (v := 0) C dX0_addWeight_10 (by decide) ?_
  refine go_istore (pc := 11) C dX0_addWeight_11 [(4, .int 0), (0, .ref ((tq_la X).1 22 0)), (1, .ref ((tq_la X).1 p1 0)), (2, .long p2)] (by decide) rfl ?_
  exact go_sub [1, 2, 3, 0] rfl (wk_X0_addWeight_13 C hR hp1 2000 _ _ _ hf)
set_option maxRecDepth 100000 in
set_option maxHeartbeats 4000000 in
theorem ok_X0_addWeight {p1 : Nat} {p2 : Int64} {S : tq_St} {K : tq_St → Prop} (hp1 : p1 < 19) (hf : wp_X0_addWeight p1 p2 S K) : tq_Mv yX0_addWeight cX0_addWeight 5 none 2 (fun a z => [.ref (a.1 22 0), .ref (a.1 p1 0), .long p2]) S K :=
  tq_mkV (by decide) (fun _ _ => Nat.le_of_ble_eq_true rfl) (fun X C hR => wk_X0_addWeight C hR hp1 hf)
set_option maxRecDepth 100000 in
set_option maxHeartbeats 4000000 in
theorem wk_X0_weighFrom_23 {X : tq_Cx} {d : Nat} {rec : Int32 → Int64 → Int32 → tq_St → (tq_St → Prop) → Prop} {K : tq_St → Prop} (C : tq_C X cX0_weighFrom 8 RX0 (d + 7)) (hR : tq_Rv X cX0_weighFrom 8 K) (hrec : ∀ (p1 : Int32) (p2 : Int64) (p4 : Int32) (S : tq_St) (K : tq_St → Prop), rec p1 p2 p4 S K → tq_Mv yX0_weighFrom cX0_weighFrom 8 none (d + 6) (fun a z => [.ref (a.1 22 0), .int p1, .long p2, .int p4]) S K) : ∀ (v2 : Int64) (v5 : Nat) (S : tq_St), v5 < 19 → wp_X0_weighFrom_23 rec K v2 v5 S → Go X 8 S 23 [(0, .ref ((tq_la X).1 22 0)), (2, .long v2), (5, .ref ((tq_la X).1 v5 0))] [] := by
  intro v2 v5 S hv5 hf
  refine go_aload_n (pc := 23) C dX0_weighFrom_23 0 rfl rfl ?_
  refine go_aload (pc := 24) C dX0_weighFrom_24 2 rfl ?_
  refine go_lload_n (pc := 26) C dX0_weighFrom_26 1 rfl rfl ?_
  refine go_cVv (pc := 27) C cw_X0_44 (ok_X0_addWeight hv5 hf) (rc_X0 C) rfl rfl rfl (tq_rk_d (by decide) (by decide)) rfl dX0_weighFrom_27 (fun S6 hf => ?_)
  exact hR _ _ _ dX0_weighFrom_30 hf
set_option maxRecDepth 100000 in
set_option maxHeartbeats 4000000 in
theorem wk_X0_weighFrom_125 {X : tq_Cx} {d : Nat} {rec : Int32 → Int64 → Int32 → tq_St → (tq_St → Prop) → Prop} {K : tq_St → Prop} (C : tq_C X cX0_weighFrom 8 RX0 (d + 7)) (hR : tq_Rv X cX0_weighFrom 8 K) (hrec : ∀ (p1 : Int32) (p2 : Int64) (p4 : Int32) (S : tq_St) (K : tq_St → Prop), rec p1 p2 p4 S K → tq_Mv yX0_weighFrom cX0_weighFrom 8 none (d + 6) (fun a z => [.ref (a.1 22 0), .int p1, .long p2, .int p4]) S K) : ∀ (v1 : Int32) (v2 : Int64) (v4 : Int32) (v5 : Nat) (v6 : Nat) (S : tq_St), v5 < 19 → v6 < 19 → wp_X0_weighFrom_125 rec K v1 v2 v4 v5 v6 S → Go X 8 S 125 [(0, .ref ((tq_la X).1 22 0)), (1, .int v1), (2, .long v2), (4, .int v4), (5, .ref ((tq_la X).1 v5 0)), (6, .ref ((tq_la X).1 v6 0))] [] := by
  intro v1 v2 v4 v5 v6 S hv5 hv6 hf
  refine go_iload (pc := 125) C dX0_weighFrom_125 3 rfl ?_
  refine go_if_le (pc := 127) C dX0_weighFrom_127 151 (by decide) (fun c19 => ?_) (fun c19 => ?_)
  · have hf := hf.1 c19
    exact hR _ _ _ dX0_weighFrom_151 hf
  · have hf := hf.2 c19
    refine go_aload (pc := 130) C dX0_weighFrom_130 5 rfl ?_
    refine go_aload (pc := 132) C dX0_weighFrom_132 4 rfl ?_
    refine go_cVv (pc := 134) C cw_X0_56 (ok_X1_copyFrom hv6 hv5 hf) (rc_X1 C hv6) rfl rfl rfl (tq_rk_d (by decide) (by decide)) rfl dX0_weighFrom_134 (fun S21 hf => ?_)
    refine go_aload_n (pc := 137) C dX0_weighFrom_137 0 rfl rfl ?_
    refine go_iload_n (pc := 138) C dX0_weighFrom_138 1 rfl rfl ?_
    refine go_iconst (pc := 139) (v := 1) C dX0_weighFrom_139 (by decide) ?_
    refine go_iadd (pc := 140) C dX0_weighFrom_140 ?_
    refine go_lload_n (pc := 141) C dX0_weighFrom_141 2 rfl rfl ?_
    refine go_iload (pc := 142) C dX0_weighFrom_142 3 rfl ?_
    refine go_i2l (pc := 144) C dX0_weighFrom_144 ?_
    refine go_lmul (pc := 145) C dX0_weighFrom_145 ?_
    refine go_iload (pc := 146) C dX0_weighFrom_146 3 rfl ?_
    refine go_cVv (pc := 148) C cw_X0_36 (hrec _ _ _ _ _ hf) (rc_X0 C) rfl rfl rfl (tq_rk_s (by decide)) rfl dX0_weighFrom_148 (fun S24 hf => ?_)
    exact hR _ _ _ dX0_weighFrom_151 hf
set_option maxRecDepth 100000 in
set_option maxHeartbeats 4000000 in
theorem wk_X0_weighFrom {d : Nat} (hrec : ∀ (p1 : Int32) (p2 : Int64) (p4 : Int32) (S : tq_St) (K : tq_St → Prop), wp_X0_weighFrom d p1 p2 p4 S K → tq_Mv yX0_weighFrom cX0_weighFrom 8 none (d + 6) (fun a z => [.ref (a.1 22 0), .int p1, .long p2, .int p4]) S K) {X : tq_Cx} {p1 : Int32} {p2 : Int64} {p4 : Int32} {S : tq_St} {K : tq_St → Prop} (C : tq_C X cX0_weighFrom 8 RX0 (d + 7)) (hR : tq_Rv X cX0_weighFrom 8 K) (hf : wp_X0_weighFrom (d + 1) p1 p2 p4 S K) : Go X 8 S 0 [(0, .ref ((tq_la X).1 22 0)), (1, .int p1), (2, .long p2), (4, .int p4)] [] := by
  refine go_aload_n (pc := 0) C dX0_weighFrom_0 0 rfl rfl ?_
  refine ge_X0_X0_0 (pc := 1) C dX0_weighFrom_1 ?_
  refine go_iload_n (pc := 4) C dX0_weighFrom_4 1 rfl rfl ?_
  refine al_X0_0 (pc := 5) C hf.1 dX0_weighFrom_5 ?_
  have h1 : 8 + (p1 : Int32).toNatClampNeg < 19 := tq_le hf.1 (by decide)
  have hf := hf.2
  obtain ⟨y2, e3⟩ : ∃ q9 : Nat, q9 = 8 + (p1 : Int32).toNatClampNeg := ⟨_, rfl⟩
  rw [← e3]
  have hf := hf y2 e3
  have hy2 : y2 < 19 := by rw [e3]; exact h1
  refine go_astore (pc := 6) C dX0_weighFrom_6 [(5, .ref ((tq_la X).1 y2 0)), (0, .ref ((tq_la X).1 22 0)), (1, .int p1), (2, .long p2), (4, .int p4)] (by decide) rfl ?_
  refine go_iload_n (pc := 8) C dX0_weighFrom_8 2 rfl rfl ?_
  refine go_aload (pc := 9) C dX0_weighFrom_9 0 rfl ?_
  refine ge_X0_X1_10 (pc := 11) C hy2 dX0_weighFrom_11 ?_
  refine go_ic_ge (pc := 14) C dX0_weighFrom_14 23 (by decide) (fun c4 => ?_) (fun c4 => ?_)
  · have hf := hf.1 c4
    exact go_sub [1, 3, 0] rfl (wk_X0_weighFrom_23 C hR hrec _ _ _ hy2 hf)
  · have hf := hf.2 c4
    refine go_iload_n (pc := 17) C dX0_weighFrom_17 2 rfl rfl ?_
    refine go_bipush (pc := 18) (v := 8) C dX0_weighFrom_18 (by decide) ?_
    refine go_ic_lt (pc := 20) C dX0_weighFrom_20 31 (by decide) (fun c8 => ?_) (fun c8 => ?_)
    · have hf := hf.1 c8
      refine go_aload_n (pc := 31) C dX0_weighFrom_31 1 rfl rfl ?_
      refine ge_X0_X0_0 (pc := 32) C dX0_weighFrom_32 ?_
      refine go_iload_n (pc := 35) C dX0_weighFrom_35 2 rfl rfl ?_
      refine go_iconst (pc := 36) (v := 1) C dX0_weighFrom_36 (by decide) ?_
      refine go_iadd (pc := 37) C dX0_weighFrom_37 ?_
      refine al_X0_0 (pc := 38) C hf.1 dX0_weighFrom_38 ?_
      have h9 : 8 + (p1 + 1 : Int32).toNatClampNeg < 19 := tq_le hf.1 (by decide)
      have hf := hf.2
      obtain ⟨y10, e11⟩ : ∃ q9 : Nat, q9 = 8 + (p1 + 1 : Int32).toNatClampNeg := ⟨_, rfl⟩
      rw [← e11]
      have hf := hf y10 e11
      have hy10 : y10 < 19 := by rw [e11]; exact h9
      refine go_astore (pc := 39) C dX0_weighFrom_39 [(6, .ref ((tq_la X).1 y10 0)), (5, .ref ((tq_la X).1 y2 0)), (0, .ref ((tq_la X).1 22 0)), (1, .int p1), (2, .long p2), (4, .int p4)] (by decide) rfl ?_
      refine go_aload (pc := 41) C dX0_weighFrom_41 1 rfl ?_
      refine ge_X0_X1_3 (pc := 43) C hy2 dX0_weighFrom_43 ?_
      refine go_iload_n (pc := 46) C dX0_weighFrom_46 3 rfl rfl ?_
      refine al_X1_3 (pc := 47) C hy2 hf.1 dX0_weighFrom_47 ?_
      have hf := hf.2
      refine go_nI (fun x12 e13 => ?_)
      have hf := hf x12 e13
      refine go_istore (pc := 48) C dX0_weighFrom_48 [(7, .int x12), (6, .ref ((tq_la X).1 y10 0)), (5, .ref ((tq_la X).1 y2 0)), (0, .ref ((tq_la X).1 22 0)), (1, .int p1), (2, .long p2), (4, .int p4)] (by decide) rfl ?_
      refine go_aload (pc := 50) C dX0_weighFrom_50 2 rfl ?_
      refine go_iload (pc := 52) C dX0_weighFrom_52 0 rfl ?_
      refine go_cVi (pc := 54) C cw_X0_52 (ok_X1_isThere hy2 hf) (rc_X1 C hy2) rfl rfl rfl (tq_rk_d (by decide) (by decide)) rfl dX0_weighFrom_54 (fun r14 S15 hf => ?_)
      refine go_if_ne (pc := 57) C dX0_weighFrom_57 86 (by decide) (fun c17 => ?_) (fun c17 => ?_)
      · have hf := hf.1 c17
        refine go_iload (pc := 86) C dX0_weighFrom_86 6 rfl ?_
        refine go_bipush (pc := 88) (v := 10) C dX0_weighFrom_88 (by decide) ?_
        refine go_ic_ge (pc := 90) C dX0_weighFrom_90 125 (by decide) (fun c18 => ?_) (fun c18 => ?_)
        · have hf := hf.1 c18
          exact go_sub [3, 4, 5, 6, 2, 1] rfl (wk_X0_weighFrom_125 C hR hrec _ _ _ _ _ _ hy2 hy10 hf)
        · have hf := hf.2 c18
          refine go_aload (pc := 93) C dX0_weighFrom_93 1 rfl ?_
          refine go_aload (pc := 95) C dX0_weighFrom_95 2 rfl ?_
          refine go_cVv (pc := 97) C cw_X0_56 (ok_X1_copyFrom hy10 hy2 hf) (rc_X1 C hy10) rfl rfl rfl (tq_rk_d (by decide) (by decide)) rfl dX0_weighFrom_97 (fun S27 hf => ?_)
          refine go_aload (pc := 100) C dX0_weighFrom_100 1 rfl ?_
          refine go_iload (pc := 102) C dX0_weighFrom_102 0 rfl ?_
          refine go_cVi (pc := 104) C cw_X0_59 (ok_X1_play hy10 hf) (rc_X1 C hy10) rfl rfl rfl (tq_rk_d (by decide) (by decide)) rfl dX0_weighFrom_104 (fun r29 S30 hf => ?_)
          refine go_pop (pc := 107) C dX0_weighFrom_107 rfl ?_
          refine go_aload_n (pc := 108) C dX0_weighFrom_108 3 rfl rfl ?_
          refine go_iload_n (pc := 109) C dX0_weighFrom_109 4 rfl rfl ?_
          refine go_iconst (pc := 110) (v := 1) C dX0_weighFrom_110 (by decide) ?_
          refine go_iadd (pc := 111) C dX0_weighFrom_111 ?_
          refine go_lload_n (pc := 112) C dX0_weighFrom_112 5 rfl rfl ?_
          refine go_bipush (pc := 113) (v := 10) C dX0_weighFrom_113 (by decide) ?_
          refine go_iload (pc := 115) C dX0_weighFrom_115 6 rfl ?_
          refine go_isub (pc := 117) C dX0_weighFrom_117 ?_
          refine go_i2l (pc := 118) C dX0_weighFrom_118 ?_
          refine go_lmul (pc := 119) C dX0_weighFrom_119 ?_
          refine go_iload (pc := 120) C dX0_weighFrom_120 6 rfl ?_
          refine go_cVv (pc := 122) C cw_X0_36 (hrec _ _ _ _ _ hf) (rc_X0 C) rfl rfl rfl (tq_rk_s (by decide)) rfl dX0_weighFrom_122 (fun S33 hf => ?_)
          exact go_sub [3, 4, 5, 6, 2, 1] rfl (wk_X0_weighFrom_125 C hR hrec _ _ _ _ _ _ hy2 hy10 hf)
      · have hf := hf.2 c17
        refine go_aload (pc := 60) C dX0_weighFrom_60 1 rfl ?_
        refine go_aload (pc := 62) C dX0_weighFrom_62 2 rfl ?_
        refine go_cVv (pc := 64) C cw_X0_56 (ok_X1_copyFrom hy10 hy2 hf) (rc_X1 C hy10) rfl rfl rfl (tq_rk_d (by decide) (by decide)) rfl dX0_weighFrom_64 (fun S36 hf => ?_)
        refine go_aload (pc := 67) C dX0_weighFrom_67 1 rfl ?_
        refine go_iload (pc := 69) C dX0_weighFrom_69 0 rfl ?_
        refine go_cVi (pc := 71) C cw_X0_59 (ok_X1_play hy10 hf) (rc_X1 C hy10) rfl rfl rfl (tq_rk_d (by decide) (by decide)) rfl dX0_weighFrom_71 (fun r38 S39 hf => ?_)
        refine go_pop (pc := 74) C dX0_weighFrom_74 rfl ?_
        refine go_aload_n (pc := 75) C dX0_weighFrom_75 3 rfl rfl ?_
        refine go_iload_n (pc := 76) C dX0_weighFrom_76 4 rfl rfl ?_
        refine go_iconst (pc := 77) (v := 1) C dX0_weighFrom_77 (by decide) ?_
        refine go_iadd (pc := 78) C dX0_weighFrom_78 ?_
        refine go_lload_n (pc := 79) C dX0_weighFrom_79 5 rfl rfl ?_
        refine go_iload (pc := 80) C dX0_weighFrom_80 6 rfl ?_
        refine go_cVv (pc := 82) C cw_X0_36 (hrec _ _ _ _ _ hf) (rc_X0 C) rfl rfl rfl (tq_rk_s (by decide)) rfl dX0_weighFrom_82 (fun S42 hf => ?_)
        exact hR _ _ _ dX0_weighFrom_85 hf
    · have hf := hf.2 c8
      exact go_sub [1, 3, 0] rfl (wk_X0_weighFrom_23 C hR hrec _ _ _ hy2 hf)
set_option maxRecDepth 100000 in
set_option maxHeartbeats 4000000 in
theorem ok_X0_weighFrom : ∀ (d : Nat) {p1 : Int32} {p2 : Int64} {p4 : Int32} {S : tq_St} {K : tq_St → Prop} (hf : wp_X0_weighFrom d p1 p2 p4 S K), tq_Mv yX0_weighFrom cX0_weighFrom 8 none (d + 6) (fun a z => [.ref (a.1 22 0), .int p1, .long p2, .int p4]) S K := by
  intro d
  induction d with
  | zero => intros; contradiction
  | succ d ih =>
    intro p1 p2 p4 S K  hf
    exact tq_mkV (by decide) (fun _ _ => Nat.le_of_ble_eq_true rfl) (fun X C hR => wk_X0_weighFrom (fun p1 p2 p4 S K  h => ih  h) C hR  hf)
set_option maxRecDepth 100000 in
set_option maxHeartbeats 4000000 in
theorem wk_X0_weighPlan {X : tq_Cx} {p1 : Nat} {p2 : Int32} {S : tq_St} {K : tq_St → Prop} (C : tq_C X cX0_weighPlan 3 RX0 19) (hR : tq_Rv X cX0_weighPlan 3 K) (hp1 : p1 < 19) (hf : wp_X0_weighPlan p1 p2 S K) : Go X 3 S 0 [(0, .ref ((tq_la X).1 22 0)), (1, .ref ((tq_la X).1 p1 0)), (2, .int p2)] [] := by
  refine go_aload_n (pc := 0) C dX0_weighPlan_0 0 rfl rfl ?_
  refine ge_X0_X0_0 (pc := 1) C dX0_weighPlan_1 ?_
  refine go_iconst (pc := 4) (v := 0) C dX0_weighPlan_4 (by decide) ?_
  refine al_X0_0 (pc := 5) C hf.1 dX0_weighPlan_5 ?_
  have h1 : 8 + (0 : Int32).toNatClampNeg < 19 := tq_le hf.1 (by decide)
  have hf := hf.2
  refine go_aload_n (pc := 6) C dX0_weighPlan_6 1 rfl rfl ?_
  refine go_cVv (pc := 7) C cw_X0_22 (ok_X1_startFrom h1 hp1 hf) (rc_X1 C h1) rfl rfl rfl (by decide) rfl dX0_weighPlan_7 (fun S3 hf => ?_)
  refine go_aload_n (pc := 10) C dX0_weighPlan_10 0 rfl rfl ?_
  refine ge_X0_X0_1 (pc := 11) C dX0_weighPlan_11 ?_
  refine go_lconst (pc := 14) (v := 0) C dX0_weighPlan_14 (by decide) ?_
  refine go_cSv (pc := 15) C cs_X0_26 (ok_J7_fill_d0a16 hf) rfl rfl rfl (by decide) rfl dX0_weighPlan_15 (fun S6 hf => ?_)
  refine go_aload_n (pc := 18) C dX0_weighPlan_18 0 rfl rfl ?_
  refine go_lconst (pc := 19) (v := 0) C dX0_weighPlan_19 (by decide) ?_
  refine pu_X0_X0_2 (pc := 20) C dX0_weighPlan_20 (fun S8 e9 => ?_)
  have hf := hf S8 e9
  refine go_aload_n (pc := 23) C dX0_weighPlan_23 0 rfl rfl ?_
  refine go_iconst (pc := 24) (v := 0) C dX0_weighPlan_24 (by decide) ?_
  refine go_lconst (pc := 25) (v := 1) C dX0_weighPlan_25 (by decide) ?_
  refine go_iload_n (pc := 26) C dX0_weighPlan_26 2 rfl rfl ?_
  refine go_cVv (pc := 27) C cw_X0_36 (ok_X0_weighFrom 12 hf) (rc_X0 C) rfl rfl rfl (by decide) rfl dX0_weighPlan_27 (fun S11 hf => ?_)
  exact hR _ _ _ dX0_weighPlan_30 hf
set_option maxRecDepth 100000 in
set_option maxHeartbeats 4000000 in
theorem ok_X0_weighPlan {p1 : Nat} {p2 : Int32} {S : tq_St} {K : tq_St → Prop} (hp1 : p1 < 19) (hf : wp_X0_weighPlan p1 p2 S K) : tq_Mv yX0_weighPlan cX0_weighPlan 3 none 19 (fun a z => [.ref (a.1 22 0), .ref (a.1 p1 0), .int p2]) S K :=
  tq_mkV (by decide) (fun _ _ => Nat.le_of_ble_eq_true rfl) (fun X C hR => wk_X0_weighPlan C hR hp1 hf)
set_option maxRecDepth 100000 in
set_option maxHeartbeats 4000000 in
theorem wk_X0_weightOf {X : tq_Cx} {p1 : Int32} {S : tq_St} {K : Int64 → tq_St → Prop} (C : tq_C X cX0_weightOf 2 RX0 1) (hR : tq_Rl X cX0_weightOf 2 K) (hf : wp_X0_weightOf p1 S K) : Go X 2 S 0 [(0, .ref ((tq_la X).1 22 0)), (1, .int p1)] [] := by
  refine go_iload_n (pc := 0) C dX0_weightOf_0 1 rfl rfl ?_
  refine go_if_lt (pc := 1) C dX0_weightOf_1 18 (by decide) (fun c1 => ?_) (fun c1 => ?_)
  · have hf := hf.1 c1
    refine go_lconst (pc := 18) (v := 0) C dX0_weightOf_18 (by decide) ?_
    exact hR _ _ _ _ dX0_weightOf_19 hf
  · have hf := hf.2 c1
    refine go_iload_n (pc := 4) C dX0_weightOf_4 1 rfl rfl ?_
    refine go_iconst (pc := 5) (v := 5) C dX0_weightOf_5 (by decide) ?_
    refine go_ic_ge (pc := 6) C dX0_weightOf_6 18 (by decide) (fun c2 => ?_) (fun c2 => ?_)
    · have hf := hf.1 c2
      refine go_lconst (pc := 18) (v := 0) C dX0_weightOf_18 (by decide) ?_
      exact hR _ _ _ _ dX0_weightOf_19 hf
    · have hf := hf.2 c2
      refine go_aload_n (pc := 9) C dX0_weightOf_9 0 rfl rfl ?_
      refine ge_X0_X0_1 (pc := 10) C dX0_weightOf_10 ?_
      refine go_iload_n (pc := 13) C dX0_weightOf_13 1 rfl rfl ?_
      refine al_X0_1 (pc := 14) C hf.1 dX0_weightOf_14 ?_
      have hf := hf.2
      refine go_goto (pc := 15) C dX0_weightOf_15 19 (by decide) ?_
      exact hR _ _ _ _ dX0_weightOf_19 hf
set_option maxRecDepth 100000 in
set_option maxHeartbeats 4000000 in
theorem ok_X0_weightOf {p1 : Int32} {S : tq_St} {K : Int64 → tq_St → Prop} (hf : wp_X0_weightOf p1 S K) : tq_Ml yX0_weightOf cX0_weightOf 2 (some .long) 1 (fun a z => [.ref (a.1 22 0), .int p1]) S K :=
  tq_mkL (by decide) (fun _ _ => Nat.le_of_ble_eq_true rfl) (fun X C hR => wk_X0_weightOf C hR  hf)
end
section
set_option maxRecDepth 100000 in
set_option maxHeartbeats 4000000 in
theorem wk_X6_act {X : tq_Cx} {p1 : Int32} {S : tq_St} {K : Int32 → tq_St → Prop} (C : tq_C X cX6_act 2 RX6 1) (hR : tq_Ri X cX6_act 2 K) (hf : wp_X6_act p1 S K) : Go X 2 S 0 [(0, .ref ((tq_la X).1 27 0)), (1, .int p1)] [] := by
  refine go_iload_n (pc := 0) C dX6_act_0 1 rfl rfl ?_
  refine go_if_lt (pc := 1) C dX6_act_1 15 (by decide) (fun c1 => ?_) (fun c1 => ?_)
  · have hf := hf.1 c1
    refine go_iconst (pc := 15) (v := (-1)) C dX6_act_15 (by decide) ?_
    refine go_goto (pc := 16) C dX6_act_16 28 (by decide) ?_
    exact hR _ _ _ _ dX6_act_28 hf
  · have hf := hf.2 c1
    refine go_iload_n (pc := 4) C dX6_act_4 1 rfl rfl ?_
    refine go_aload_n (pc := 5) C dX6_act_5 0 rfl rfl ?_
    refine ge_X6_X6_0 (pc := 6) C dX6_act_6 ?_
    refine ge_X6_X1_10 (pc := 9) C (by decide) dX6_act_9 ?_
    refine go_ic_lt (pc := 12) C dX6_act_12 19 (by decide) (fun c2 => ?_) (fun c2 => ?_)
    · have hf := hf.1 c2
      refine go_aload_n (pc := 19) C dX6_act_19 0 rfl rfl ?_
      refine ge_X6_X6_0 (pc := 20) C dX6_act_20 ?_
      refine ge_X6_X1_3 (pc := 23) C (by decide) dX6_act_23 ?_
      refine go_iload_n (pc := 26) C dX6_act_26 1 rfl rfl ?_
      refine al_X1_3 (pc := 27) C (by decide) hf.1 dX6_act_27 ?_
      have hf := hf.2
      exact hR _ _ _ _ dX6_act_28 hf
    · have hf := hf.2 c2
      refine go_iconst (pc := 15) (v := (-1)) C dX6_act_15 (by decide) ?_
      refine go_goto (pc := 16) C dX6_act_16 28 (by decide) ?_
      exact hR _ _ _ _ dX6_act_28 hf
set_option maxRecDepth 100000 in
set_option maxHeartbeats 4000000 in
theorem ok_X6_act {p1 : Int32} {S : tq_St} {K : Int32 → tq_St → Prop} (hf : wp_X6_act p1 S K) : tq_Mi yX6_act cX6_act 2 (some .int) 1 (fun a z => [.ref (a.1 27 0), .int p1]) S K :=
  tq_mkI (by decide) (fun _ _ => Nat.le_of_ble_eq_true rfl) (fun X C hR => wk_X6_act C hR  hf)
set_option maxRecDepth 100000 in
set_option maxHeartbeats 4000000 in
theorem wk_X6_isZeroOrOne {X : tq_Cx} {p0 : Int32} {S : tq_St} {K : Int32 → tq_St → Prop} (C : tq_C X cX6_isZeroOrOne 1 RX6 1) (hR : tq_Rz X cX6_isZeroOrOne 1 K) (hf : wp_X6_isZeroOrOne p0 S K) : Go X 1 S 0 [(0, .int p0)] [] := by
  refine go_iload_n (pc := 0) C dX6_isZeroOrOne_0 0 rfl rfl ?_
  refine go_if_eq (pc := 1) C dX6_isZeroOrOne_1 9 (by decide) (fun c1 => ?_) (fun c1 => ?_)
  · have hf := hf.1 c1
    refine go_iconst (pc := 9) (v := 1) C dX6_isZeroOrOne_9 (by decide) ?_
    refine go_goto (pc := 10) C dX6_isZeroOrOne_10 14 (by decide) ?_
    exact hR _ _ _ _ dX6_isZeroOrOne_14 (Or.inr rfl) hf
  · have hf := hf.2 c1
    refine go_iload_n (pc := 4) C dX6_isZeroOrOne_4 0 rfl rfl ?_
    refine go_iconst (pc := 5) (v := 1) C dX6_isZeroOrOne_5 (by decide) ?_
    refine go_ic_ne (pc := 6) C dX6_isZeroOrOne_6 13 (by decide) (fun c2 => ?_) (fun c2 => ?_)
    · have hf := hf.1 c2
      refine go_iconst (pc := 13) (v := 0) C dX6_isZeroOrOne_13 (by decide) ?_
      exact hR _ _ _ _ dX6_isZeroOrOne_14 (Or.inl rfl) hf
    · have hf := hf.2 c2
      refine go_iconst (pc := 9) (v := 1) C dX6_isZeroOrOne_9 (by decide) ?_
      refine go_goto (pc := 10) C dX6_isZeroOrOne_10 14 (by decide) ?_
      exact hR _ _ _ _ dX6_isZeroOrOne_14 (Or.inr rfl) hf
set_option maxRecDepth 100000 in
set_option maxHeartbeats 4000000 in
theorem ok_X6_isZeroOrOne {p0 : Int32} {S : tq_St} {K : Int32 → tq_St → Prop} (hf : wp_X6_isZeroOrOne p0 S K) : tq_Mi yX6_isZeroOrOne cX6_isZeroOrOne 1 (some .boolean) 1 (fun a z => [.int p0]) S K :=
  tq_mkZ (by decide) (fun _ _ => Nat.le_of_ble_eq_true rfl) (fun X C hR => wk_X6_isZeroOrOne C hR  hf)
set_option maxRecDepth 100000 in
set_option maxHeartbeats 4000000 in
theorem wk_X6_ahead {X : tq_Cx} {p1 : Int32} {p2 : Int32} {S : tq_St} {K : Int32 → tq_St → Prop} (C : tq_C X cX6_ahead 3 RX6 7) (hR : tq_Ri X cX6_ahead 3 K) (hf : wp_X6_ahead p1 p2 S K) : Go X 3 S 0 [(0, .ref ((tq_la X).1 27 0)), (1, .int p1), (2, .int p2)] [] := by
  refine go_aload_n (pc := 0) C dX6_ahead_0 0 rfl rfl ?_
  refine ge_X6_X6_0 (pc := 1) C dX6_ahead_1 ?_
  refine go_iload_n (pc := 4) C dX6_ahead_4 1 rfl rfl ?_
  refine go_cVi (pc := 5) C cw_X6_112 (ok_X1_isThere (by decide) hf) (rc_X1 C (by decide)) rfl rfl rfl (by decide) rfl dX6_ahead_5 (fun r1 S2 hf => ?_)
  refine go_if_eq (pc := 8) C dX6_ahead_8 18 (by decide) (fun c4 => ?_) (fun c4 => ?_)
  · have hf := hf.1 c4
    refine go_iconst (pc := 18) (v := (-1)) C dX6_ahead_18 (by decide) ?_
    exact hR _ _ _ _ dX6_ahead_19 hf
  · have hf := hf.2 c4
    refine go_iload_n (pc := 11) C dX6_ahead_11 2 rfl rfl ?_
    refine go_cSi (pc := 12) C cs_X6_178 (ok_X6_isZeroOrOne hf) rfl rfl rfl (by decide) rfl dX6_ahead_12 (fun r5 S6 hf => ?_)
    refine go_if_ne (pc := 15) C dX6_ahead_15 20 (by decide) (fun c8 => ?_) (fun c8 => ?_)
    · have hf := hf.1 c8
      refine go_aload_n (pc := 20) C dX6_ahead_20 0 rfl rfl ?_
      refine ge_X6_X6_1 (pc := 21) C dX6_ahead_21 ?_
      refine go_aload_n (pc := 24) C dX6_ahead_24 0 rfl rfl ?_
      refine ge_X6_X6_0 (pc := 25) C dX6_ahead_25 ?_
      refine go_cVv (pc := 28) C cw_X6_163 (ok_X1_startFrom (by decide) (by decide) hf) (rc_X1 C (by decide)) rfl rfl rfl (by decide) rfl dX6_ahead_28 (fun S10 hf => ?_)
      refine go_aload_n (pc := 31) C dX6_ahead_31 0 rfl rfl ?_
      refine ge_X6_X6_1 (pc := 32) C dX6_ahead_32 ?_
      refine go_cVv (pc := 35) C cw_X6_166 (ok_X1_followPlan (by decide) hf) (rc_X1 C (by decide)) rfl rfl rfl (by decide) rfl dX6_ahead_35 (fun S13 hf => ?_)
      refine go_iload_n (pc := 38) C dX6_ahead_38 2 rfl rfl ?_
      refine go_if_ne (pc := 39) C dX6_ahead_39 54 (by decide) (fun c15 => ?_) (fun c15 => ?_)
      · have hf := hf.1 c15
        refine go_aload_n (pc := 54) C dX6_ahead_54 0 rfl rfl ?_
        refine ge_X6_X6_1 (pc := 55) C dX6_ahead_55 ?_
        refine go_iload_n (pc := 58) C dX6_ahead_58 1 rfl rfl ?_
        refine go_cVi (pc := 59) C cw_X6_121 (ok_X1_weptOrNone (by decide) hf) (rc_X1 C (by decide)) rfl rfl rfl (by decide) rfl dX6_ahead_59 (fun r16 S17 hf => ?_)
        exact hR _ _ _ _ dX6_ahead_62 hf
      · have hf := hf.2 c15
        refine go_aload_n (pc := 42) C dX6_ahead_42 0 rfl rfl ?_
        refine ge_X6_X6_1 (pc := 43) C dX6_ahead_43 ?_
        refine ge_X6_X1_1 (pc := 46) C (by decide) dX6_ahead_46 ?_
        refine go_iload_n (pc := 49) C dX6_ahead_49 1 rfl rfl ?_
        refine al_X1_1 (pc := 50) C (by decide) hf.1 dX6_ahead_50 ?_
        have hf := hf.2
        refine go_goto (pc := 51) C dX6_ahead_51 62 (by decide) ?_
        exact hR _ _ _ _ dX6_ahead_62 hf
    · have hf := hf.2 c8
      refine go_iconst (pc := 18) (v := (-1)) C dX6_ahead_18 (by decide) ?_
      exact hR _ _ _ _ dX6_ahead_19 hf
set_option maxRecDepth 100000 in
set_option maxHeartbeats 4000000 in
theorem ok_X6_ahead {p1 : Int32} {p2 : Int32} {S : tq_St} {K : Int32 → tq_St → Prop} (hf : wp_X6_ahead p1 p2 S K) : tq_Mi yX6_ahead cX6_ahead 3 (some .int) 7 (fun a z => [.ref (a.1 27 0), .int p1, .int p2]) S K :=
  tq_mkI (by decide) (fun _ _ => Nat.le_of_ble_eq_true rfl) (fun X C hR => wk_X6_ahead C hR  hf)
set_option maxRecDepth 100000 in
set_option maxHeartbeats 4000000 in
theorem wk_X6_alter_50 {X : tq_Cx} {K : Int32 → tq_St → Prop} (C : tq_C X cX6_alter 5 RX6 2) (hR : tq_Ri X cX6_alter 5 K) : ∀ (v1 : Int32) (v2 : Int32) (v3 : Int32) (S : tq_St), wp_X6_alter_50 K v1 v2 v3 S → Go X 5 S 50 [(0, .ref ((tq_la X).1 27 0)), (1, .int v1), (2, .int v2), (3, .int v3)] [] := by
  intro v1 v2 v3 S hf
  refine go_iload_n (pc := 50) C dX6_alter_50 2 rfl rfl ?_
  refine go_iconst (pc := 51) (v := 1) C dX6_alter_51 (by decide) ?_
  refine go_ic_ne (pc := 52) C dX6_alter_52 85 (by decide) (fun c7 => ?_) (fun c7 => ?_)
  · have hf := hf.1 c7
    refine go_iconst (pc := 85) (v := (-1)) C dX6_alter_85 (by decide) ?_
    exact hR _ _ _ _ dX6_alter_86 hf
  · have hf := hf.2 c7
    refine go_iload_n (pc := 55) C dX6_alter_55 3 rfl rfl ?_
    refine go_bipush (pc := 56) (v := 40) C dX6_alter_56 (by decide) ?_
    refine go_ic_gt (pc := 58) C dX6_alter_58 85 (by decide) (fun c8 => ?_) (fun c8 => ?_)
    · have hf := hf.1 c8
      refine go_iconst (pc := 85) (v := (-1)) C dX6_alter_85 (by decide) ?_
      exact hR _ _ _ _ dX6_alter_86 hf
    · have hf := hf.2 c8
      refine go_aload_n (pc := 61) C dX6_alter_61 0 rfl rfl ?_
      refine ge_X6_X6_0 (pc := 62) C dX6_alter_62 ?_
      refine ge_X6_X1_1 (pc := 65) C (by decide) dX6_alter_65 ?_
      refine go_iload_n (pc := 68) C dX6_alter_68 1 rfl rfl ?_
      refine al_X1_1 (pc := 69) C (by decide) hf.1 dX6_alter_69 ?_
      have hf := hf.2
      refine go_nI (fun x9 e10 => ?_)
      have hf := hf x9 e10
      refine go_istore (pc := 70) C dX6_alter_70 [(4, .int x9), (0, .ref ((tq_la X).1 27 0)), (1, .int v1), (2, .int v2), (3, .int v3)] (by decide) rfl ?_
      refine go_aload_n (pc := 72) C dX6_alter_72 1 rfl rfl ?_
      refine ge_X6_X6_0 (pc := 73) C dX6_alter_73 ?_
      refine ge_X6_X1_1 (pc := 76) C (by decide) dX6_alter_76 ?_
      refine go_iload_n (pc := 79) C dX6_alter_79 2 rfl rfl ?_
      refine go_iload_n (pc := 80) C dX6_alter_80 4 rfl rfl ?_
      refine as_X1_1 (pc := 81) C (by decide) hf.1 dX6_alter_81 (fun S11 e12 => ?_)
      have hf := hf.2 S11 e12
      refine go_iload (pc := 82) C dX6_alter_82 0 rfl ?_
      exact hR _ _ _ _ dX6_alter_84 hf
set_option maxRecDepth 100000 in
set_option maxHeartbeats 4000000 in
theorem wk_X6_alter {X : tq_Cx} {p1 : Int32} {p2 : Int32} {p3 : Int32} {S : tq_St} {K : Int32 → tq_St → Prop} (C : tq_C X cX6_alter 5 RX6 2) (hR : tq_Ri X cX6_alter 5 K) (hf : wp_X6_alter p1 p2 p3 S K) : Go X 5 S 0 [(0, .ref ((tq_la X).1 27 0)), (1, .int p1), (2, .int p2), (3, .int p3)] [] := by
  refine go_aload_n (pc := 0) C dX6_alter_0 0 rfl rfl ?_
  refine ge_X6_X6_0 (pc := 1) C dX6_alter_1 ?_
  refine go_iload_n (pc := 4) C dX6_alter_4 1 rfl rfl ?_
  refine go_cVi (pc := 5) C cw_X6_112 (ok_X1_isThere (by decide) hf) (rc_X1 C (by decide)) rfl rfl rfl (by decide) rfl dX6_alter_5 (fun r1 S2 hf => ?_)
  refine go_if_eq (pc := 8) C dX6_alter_8 15 (by decide) (fun c4 => ?_) (fun c4 => ?_)
  · have hf := hf.1 c4
    refine go_iconst (pc := 15) (v := (-1)) C dX6_alter_15 (by decide) ?_
    exact hR _ _ _ _ dX6_alter_16 hf
  · have hf := hf.2 c4
    refine go_iload_n (pc := 11) C dX6_alter_11 3 rfl rfl ?_
    refine go_if_ge (pc := 12) C dX6_alter_12 17 (by decide) (fun c5 => ?_) (fun c5 => ?_)
    · have hf := hf.1 c5
      refine go_iload_n (pc := 17) C dX6_alter_17 2 rfl rfl ?_
      refine go_if_ne (pc := 18) C dX6_alter_18 50 (by decide) (fun c6 => ?_) (fun c6 => ?_)
      · have hf := hf.1 c6
        exact go_sub [0, 1, 2, 3] rfl (wk_X6_alter_50 C hR _ _ _ _ hf)
      · have hf := hf.2 c6
        refine go_iload_n (pc := 21) C dX6_alter_21 3 rfl rfl ?_
        refine go_iconst (pc := 22) (v := 4) C dX6_alter_22 (by decide) ?_
        refine go_ic_ge (pc := 23) C dX6_alter_23 50 (by decide) (fun c13 => ?_) (fun c13 => ?_)
        · have hf := hf.1 c13
          exact go_sub [0, 1, 2, 3] rfl (wk_X6_alter_50 C hR _ _ _ _ hf)
        · have hf := hf.2 c13
          refine go_aload_n (pc := 26) C dX6_alter_26 0 rfl rfl ?_
          refine ge_X6_X6_0 (pc := 27) C dX6_alter_27 ?_
          refine ge_X6_X1_0 (pc := 30) C (by decide) dX6_alter_30 ?_
          refine go_iload_n (pc := 33) C dX6_alter_33 1 rfl rfl ?_
          refine al_X1_0 (pc := 34) C (by decide) hf.1 dX6_alter_34 ?_
          have hf := hf.2
          refine go_nI (fun x14 e15 => ?_)
          have hf := hf x14 e15
          refine go_istore (pc := 35) C dX6_alter_35 [(4, .int x14), (0, .ref ((tq_la X).1 27 0)), (1, .int p1), (2, .int p2), (3, .int p3)] (by decide) rfl ?_
          refine go_aload_n (pc := 37) C dX6_alter_37 1 rfl rfl ?_
          refine ge_X6_X6_0 (pc := 38) C dX6_alter_38 ?_
          refine ge_X6_X1_0 (pc := 41) C (by decide) dX6_alter_41 ?_
          refine go_iload_n (pc := 44) C dX6_alter_44 2 rfl rfl ?_
          refine go_iload_n (pc := 45) C dX6_alter_45 4 rfl rfl ?_
          refine as_X1_0 (pc := 46) C (by decide) hf.1 dX6_alter_46 (fun S16 e17 => ?_)
          have hf := hf.2 S16 e17
          refine go_iload (pc := 47) C dX6_alter_47 0 rfl ?_
          exact hR _ _ _ _ dX6_alter_49 hf
    · have hf := hf.2 c5
      refine go_iconst (pc := 15) (v := (-1)) C dX6_alter_15 (by decide) ?_
      exact hR _ _ _ _ dX6_alter_16 hf
set_option maxRecDepth 100000 in
set_option maxHeartbeats 4000000 in
theorem ok_X6_alter {p1 : Int32} {p2 : Int32} {p3 : Int32} {S : tq_St} {K : Int32 → tq_St → Prop} (hf : wp_X6_alter p1 p2 p3 S K) : tq_Mi yX6_alter cX6_alter 5 (some .int) 2 (fun a z => [.ref (a.1 27 0), .int p1, .int p2, .int p3]) S K :=
  tq_mkI (by decide) (fun _ _ => Nat.le_of_ble_eq_true rfl) (fun X C hR => wk_X6_alter C hR  hf)
set_option maxRecDepth 100000 in
set_option maxHeartbeats 4000000 in
theorem wk_X6_possibleSorrows_4 {X : tq_Cx} {K : Int32 → tq_St → Prop} (C : tq_C X cX6_possibleSorrows 4 RX6 7) (hR : tq_Ri X cX6_possibleSorrows 4 K) : ∀ (n : Nat) (v1 : Int32) (v2 : Int32) (v3 : Int32) (S : tq_St), wp_X6_possibleSorrows_4 K n v1 v2 v3 S → Go X 4 S 4 [(0, .ref ((tq_la X).1 27 0)), (1, .int v1), (2, .int v2), (3, .int v3)] [] := by
  intro n
  induction n with
  | zero => intros; contradiction
  | succ n ih =>
    intro v1 v2 v3 S hf
    refine go_iload_n (pc := 4) C dX6_possibleSorrows_4 3 rfl rfl ?_
    refine go_bipush (pc := 5) (v := 20) C dX6_possibleSorrows_5 (by decide) ?_
    refine go_ic_gt (pc := 7) C dX6_possibleSorrows_7 80 (by decide) (fun c1 => ?_) (fun c1 => ?_)
    · have hf := hf.1 c1
      refine go_iload_n (pc := 80) C dX6_possibleSorrows_80 2 rfl rfl ?_
      exact hR _ _ _ _ dX6_possibleSorrows_81 hf
    · have hf := hf.2 c1
      refine go_aload_n (pc := 10) C dX6_possibleSorrows_10 0 rfl rfl ?_
      refine ge_X6_X6_1 (pc := 11) C dX6_possibleSorrows_11 ?_
      refine go_aload_n (pc := 14) C dX6_possibleSorrows_14 0 rfl rfl ?_
      refine ge_X6_X6_0 (pc := 15) C dX6_possibleSorrows_15 ?_
      refine go_cVv (pc := 18) C cw_X6_163 (ok_X1_startFrom (by decide) (by decide) hf) (rc_X1 C (by decide)) rfl rfl rfl (by decide) rfl dX6_possibleSorrows_18 (fun S3 hf => ?_)
      refine go_aload_n (pc := 21) C dX6_possibleSorrows_21 0 rfl rfl ?_
      refine ge_X6_X6_1 (pc := 22) C dX6_possibleSorrows_22 ?_
      refine ge_X6_X1_1 (pc := 25) C (by decide) dX6_possibleSorrows_25 ?_
      refine go_iload_n (pc := 28) C dX6_possibleSorrows_28 1 rfl rfl ?_
      refine go_iload_n (pc := 29) C dX6_possibleSorrows_29 3 rfl rfl ?_
      refine as_X1_1 (pc := 30) C (by decide) hf.1 dX6_possibleSorrows_30 (fun S5 e6 => ?_)
      have hf := hf.2 S5 e6
      refine go_aload_n (pc := 31) C dX6_possibleSorrows_31 0 rfl rfl ?_
      refine ge_X6_X6_1 (pc := 32) C dX6_possibleSorrows_32 ?_
      refine go_cVv (pc := 35) C cw_X6_166 (ok_X1_followPlan (by decide) hf) (rc_X1 C (by decide)) rfl rfl rfl (by decide) rfl dX6_possibleSorrows_35 (fun S8 hf => ?_)
      refine go_aload_n (pc := 38) C dX6_possibleSorrows_38 0 rfl rfl ?_
      refine ge_X6_X6_9 (pc := 39) C dX6_possibleSorrows_39 ?_
      refine go_iload_n (pc := 42) C dX6_possibleSorrows_42 3 rfl rfl ?_
      refine go_aload_n (pc := 43) C dX6_possibleSorrows_43 0 rfl rfl ?_
      refine ge_X6_X6_1 (pc := 44) C dX6_possibleSorrows_44 ?_
      refine ge_X6_X1_6 (pc := 47) C (by decide) dX6_possibleSorrows_47 ?_
      refine as_X6_9 (pc := 50) C hf.1 dX6_possibleSorrows_50 (fun S10 e11 => ?_)
      have hf := hf.2 S10 e11
      refine go_aload_n (pc := 51) C dX6_possibleSorrows_51 0 rfl rfl ?_
      refine ge_X6_X6_3 (pc := 52) C dX6_possibleSorrows_52 ?_
      refine go_aload_n (pc := 55) C dX6_possibleSorrows_55 0 rfl rfl ?_
      refine ge_X6_X6_1 (pc := 56) C dX6_possibleSorrows_56 ?_
      refine ge_X6_X1_6 (pc := 59) C (by decide) dX6_possibleSorrows_59 ?_
      refine go_cVi (pc := 62) C cw_X6_226 (ok_X4_agreeWith hf) (rc_X4 C) rfl rfl rfl (by decide) rfl dX6_possibleSorrows_62 (fun r12 S13 hf => ?_)
      refine go_if_eq (pc := 65) C dX6_possibleSorrows_65 74 (by decide) (fun c15 => ?_) (fun c15 => ?_)
      · have hf := hf.1 c15
        obtain ⟨x16, e17⟩ : ∃ q9 : Int32, q9 = v3 + 1 := ⟨_, rfl⟩
        refine go_iinc (pc := 74) (j := 3) (v := x16) C dX6_possibleSorrows_74 [(3, .int x16), (0, .ref ((tq_la X).1 27 0)), (1, .int v1), (2, .int v2)] rfl (by rw [e17]; rfl) (by decide) rfl ?_
        have hf := hf x16 e17
        refine go_goto (pc := 77) C dX6_possibleSorrows_77 4 (by decide) ?_
        exact go_sub [1, 2, 3, 0] rfl (ih _ _ _ _ hf)
      · have hf := hf.2 c15
        refine go_iload_n (pc := 68) C dX6_possibleSorrows_68 2 rfl rfl ?_
        refine go_iconst (pc := 69) (v := 1) C dX6_possibleSorrows_69 (by decide) ?_
        refine go_iload_n (pc := 70) C dX6_possibleSorrows_70 3 rfl rfl ?_
        refine go_ishl (pc := 71) C dX6_possibleSorrows_71 ?_
        refine go_ior (pc := 72) C dX6_possibleSorrows_72 ?_
        refine go_nI (fun x18 e19 => ?_)
        have hf := hf x18 e19
        refine go_istore_n (pc := 73) C dX6_possibleSorrows_73 [(2, .int x18), (0, .ref ((tq_la X).1 27 0)), (1, .int v1), (3, .int v3)] rfl (by decide) rfl ?_
        obtain ⟨x20, e21⟩ : ∃ q9 : Int32, q9 = v3 + 1 := ⟨_, rfl⟩
        refine go_iinc (pc := 74) (j := 3) (v := x20) C dX6_possibleSorrows_74 [(3, .int x20), (2, .int x18), (0, .ref ((tq_la X).1 27 0)), (1, .int v1)] rfl (by rw [e21]; rfl) (by decide) rfl ?_
        have hf := hf x20 e21
        refine go_goto (pc := 77) C dX6_possibleSorrows_77 4 (by decide) ?_
        exact go_sub [2, 3, 1, 0] rfl (ih _ _ _ _ hf)
set_option maxRecDepth 100000 in
set_option maxHeartbeats 4000000 in
theorem wk_X6_possibleSorrows {X : tq_Cx} {p1 : Int32} {S : tq_St} {K : Int32 → tq_St → Prop} (C : tq_C X cX6_possibleSorrows 4 RX6 7) (hR : tq_Ri X cX6_possibleSorrows 4 K) (hf : wp_X6_possibleSorrows p1 S K) : Go X 4 S 0 [(0, .ref ((tq_la X).1 27 0)), (1, .int p1)] [] := by
  refine go_iconst (pc := 0) (v := 0) C dX6_possibleSorrows_0 (by decide) ?_
  refine go_istore_n (pc := 1) C dX6_possibleSorrows_1 [(2, .int 0), (0, .ref ((tq_la X).1 27 0)), (1, .int p1)] rfl (by decide) rfl ?_
  refine go_iconst (pc := 2) (v := 0) C dX6_possibleSorrows_2 (by decide) ?_
  refine go_istore_n (pc := 3) C dX6_possibleSorrows_3 [(3, .int 0), (2, .int 0), (0, .ref ((tq_la X).1 27 0)), (1, .int p1)] rfl (by decide) rfl ?_
  exact go_sub [2, 3, 1, 0] rfl (wk_X6_possibleSorrows_4 C hR 2000 _ _ _ _ hf)
set_option maxRecDepth 100000 in
set_option maxHeartbeats 4000000 in
theorem ok_X6_possibleSorrows {p1 : Int32} {S : tq_St} {K : Int32 → tq_St → Prop} (hf : wp_X6_possibleSorrows p1 S K) : tq_Mi yX6_possibleSorrows cX6_possibleSorrows 4 (some .int) 7 (fun a z => [.ref (a.1 27 0), .int p1]) S K :=
  tq_mkI (by decide) (fun _ _ => Nat.le_of_ble_eq_true rfl) (fun X C hR => wk_X6_possibleSorrows C hR  hf)
set_option maxRecDepth 100000 in
set_option maxHeartbeats 4000000 in
theorem wk_X6_leftAtWorst_8 {X : tq_Cx} {K : Int32 → tq_St → Prop} (C : tq_C X cX6_leftAtWorst 6 RX6 1) (hR : tq_Ri X cX6_leftAtWorst 6 K) : ∀ (n : Nat) (v1 : Int32) (v2 : Int32) (v3 : Int32) (v4 : Int32) (v5 : Int32) (S : tq_St), wp_X6_leftAtWorst_8 K n v1 v2 v3 v4 v5 S → Go X 6 S 8 [(0, .ref ((tq_la X).1 27 0)), (1, .int v1), (2, .int v2), (3, .int v3), (4, .int v4), (5, .int v5)] [] := by
  intro n
  induction n with
  | zero => intros; contradiction
  | succ n ih =>
    intro v1 v2 v3 v4 v5 S hf
    refine go_iload (pc := 8) C dX6_leftAtWorst_8 5 rfl ?_
    refine go_bipush (pc := 10) (v := 20) C dX6_leftAtWorst_10 (by decide) ?_
    refine go_ic_gt (pc := 12) C dX6_leftAtWorst_12 55 (by decide) (fun c1 => ?_) (fun c1 => ?_)
    · have hf := hf.1 c1
      refine go_iload_n (pc := 55) C dX6_leftAtWorst_55 3 rfl rfl ?_
      refine go_iload (pc := 56) C dX6_leftAtWorst_56 4 rfl ?_
      refine mmax_X6_278 (pc := 58) C (by decide) (Nat.le_of_ble_eq_true rfl) dX6_leftAtWorst_58 ?_
      exact hR _ _ _ _ dX6_leftAtWorst_61 hf
    · have hf := hf.2 c1
      refine go_iload_n (pc := 15) C dX6_leftAtWorst_15 1 rfl rfl ?_
      refine go_iload (pc := 16) C dX6_leftAtWorst_16 5 rfl ?_
      refine go_ishr (pc := 18) C dX6_leftAtWorst_18 ?_
      refine go_iconst (pc := 19) (v := 1) C dX6_leftAtWorst_19 (by decide) ?_
      refine go_iand (pc := 20) C dX6_leftAtWorst_20 ?_
      refine go_iconst (pc := 21) (v := 1) C dX6_leftAtWorst_21 (by decide) ?_
      refine go_ic_ne (pc := 22) C dX6_leftAtWorst_22 49 (by decide) (fun c2 => ?_) (fun c2 => ?_)
      · have hf := hf.1 c2
        obtain ⟨x3, e4⟩ : ∃ q9 : Int32, q9 = v5 + 1 := ⟨_, rfl⟩
        refine go_iinc (pc := 49) (j := 5) (v := x3) C dX6_leftAtWorst_49 [(5, .int x3), (0, .ref ((tq_la X).1 27 0)), (1, .int v1), (2, .int v2), (3, .int v3), (4, .int v4)] rfl (by rw [e4]; rfl) (by decide) rfl ?_
        have hf := hf x3 e4
        refine go_goto (pc := 52) C dX6_leftAtWorst_52 8 (by decide) ?_
        exact go_sub [1, 2, 3, 4, 5, 0] rfl (ih _ _ _ _ _ _ hf)
      · have hf := hf.2 c2
        refine go_aload_n (pc := 25) C dX6_leftAtWorst_25 0 rfl rfl ?_
        refine ge_X6_X6_9 (pc := 26) C dX6_leftAtWorst_26 ?_
        refine go_iload (pc := 29) C dX6_leftAtWorst_29 5 rfl ?_
        refine al_X6_9 (pc := 31) C hf.1 dX6_leftAtWorst_31 ?_
        have hf := hf.2
        refine go_iload_n (pc := 32) C dX6_leftAtWorst_32 2 rfl rfl ?_
        refine go_ishr (pc := 33) C dX6_leftAtWorst_33 ?_
        refine go_iconst (pc := 34) (v := 1) C dX6_leftAtWorst_34 (by decide) ?_
        refine go_iand (pc := 35) C dX6_leftAtWorst_35 ?_
        refine go_iconst (pc := 36) (v := 1) C dX6_leftAtWorst_36 (by decide) ?_
        refine go_ic_ne (pc := 37) C dX6_leftAtWorst_37 46 (by decide) (fun c5 => ?_) (fun c5 => ?_)
        · have hf := hf.1 c5
          obtain ⟨x6, e7⟩ : ∃ q9 : Int32, q9 = v4 + 1 := ⟨_, rfl⟩
          refine go_iinc (pc := 46) (j := 4) (v := x6) C dX6_leftAtWorst_46 [(4, .int x6), (0, .ref ((tq_la X).1 27 0)), (1, .int v1), (2, .int v2), (3, .int v3), (5, .int v5)] rfl (by rw [e7]; rfl) (by decide) rfl ?_
          have hf := hf x6 e7
          obtain ⟨x8, e9⟩ : ∃ q9 : Int32, q9 = v5 + 1 := ⟨_, rfl⟩
          refine go_iinc (pc := 49) (j := 5) (v := x8) C dX6_leftAtWorst_49 [(5, .int x8), (4, .int x6), (0, .ref ((tq_la X).1 27 0)), (1, .int v1), (2, .int v2), (3, .int v3)] rfl (by rw [e9]; rfl) (by decide) rfl ?_
          have hf := hf x8 e9
          refine go_goto (pc := 52) C dX6_leftAtWorst_52 8 (by decide) ?_
          exact go_sub [2, 3, 4, 5, 1, 0] rfl (ih _ _ _ _ _ _ hf)
        · have hf := hf.2 c5
          obtain ⟨x10, e11⟩ : ∃ q9 : Int32, q9 = v3 + 1 := ⟨_, rfl⟩
          refine go_iinc (pc := 40) (j := 3) (v := x10) C dX6_leftAtWorst_40 [(3, .int x10), (0, .ref ((tq_la X).1 27 0)), (1, .int v1), (2, .int v2), (4, .int v4), (5, .int v5)] rfl (by rw [e11]; rfl) (by decide) rfl ?_
          have hf := hf x10 e11
          refine go_goto (pc := 43) C dX6_leftAtWorst_43 49 (by decide) ?_
          obtain ⟨x12, e13⟩ : ∃ q9 : Int32, q9 = v5 + 1 := ⟨_, rfl⟩
          refine go_iinc (pc := 49) (j := 5) (v := x12) C dX6_leftAtWorst_49 [(5, .int x12), (3, .int x10), (0, .ref ((tq_la X).1 27 0)), (1, .int v1), (2, .int v2), (4, .int v4)] rfl (by rw [e13]; rfl) (by decide) rfl ?_
          have hf := hf x12 e13
          refine go_goto (pc := 52) C dX6_leftAtWorst_52 8 (by decide) ?_
          exact go_sub [2, 3, 4, 1, 5, 0] rfl (ih _ _ _ _ _ _ hf)
set_option maxRecDepth 100000 in
set_option maxHeartbeats 4000000 in
theorem wk_X6_leftAtWorst {X : tq_Cx} {p1 : Int32} {p2 : Int32} {S : tq_St} {K : Int32 → tq_St → Prop} (C : tq_C X cX6_leftAtWorst 6 RX6 1) (hR : tq_Ri X cX6_leftAtWorst 6 K) (hf : wp_X6_leftAtWorst p1 p2 S K) : Go X 6 S 0 [(0, .ref ((tq_la X).1 27 0)), (1, .int p1), (2, .int p2)] [] := by
  refine go_iconst (pc := 0) (v := 0) C dX6_leftAtWorst_0 (by decide) ?_
  refine go_istore_n (pc := 1) C dX6_leftAtWorst_1 [(3, .int 0), (0, .ref ((tq_la X).1 27 0)), (1, .int p1), (2, .int p2)] rfl (by decide) rfl ?_
  refine go_iconst (pc := 2) (v := 0) C dX6_leftAtWorst_2 (by decide) ?_
  refine go_istore (pc := 3) C dX6_leftAtWorst_3 [(4, .int 0), (3, .int 0), (0, .ref ((tq_la X).1 27 0)), (1, .int p1), (2, .int p2)] (by decide) rfl ?_
  refine go_iconst (pc := 5) (v := 0) C dX6_leftAtWorst_5 (by decide) ?_
  refine go_istore (pc := 6) C dX6_leftAtWorst_6 [(5, .int 0), (4, .int 0), (3, .int 0), (0, .ref ((tq_la X).1 27 0)), (1, .int p1), (2, .int p2)] (by decide) rfl ?_
  exact go_sub [3, 4, 5, 2, 1, 0] rfl (wk_X6_leftAtWorst_8 C hR 2000 _ _ _ _ _ _ hf)
set_option maxRecDepth 100000 in
set_option maxHeartbeats 4000000 in
theorem ok_X6_leftAtWorst {p1 : Int32} {p2 : Int32} {S : tq_St} {K : Int32 → tq_St → Prop} (hf : wp_X6_leftAtWorst p1 p2 S K) : tq_Mi yX6_leftAtWorst cX6_leftAtWorst 6 (some .int) 1 (fun a z => [.ref (a.1 27 0), .int p1, .int p2]) S K :=
  tq_mkI (by decide) (fun _ _ => Nat.le_of_ble_eq_true rfl) (fun X C hR => wk_X6_leftAtWorst C hR  hf)
set_option maxRecDepth 100000 in
set_option maxHeartbeats 4000000 in
theorem wk_X6_ask_39 {X : tq_Cx} {K : Int32 → tq_St → Prop} (C : tq_C X cX6_ask 8 RX6 8) (hR : tq_Ri X cX6_ask 8 K) : ∀ (n : Nat) (v2 : Int32) (v3 : Int32) (v4 : Int32) (v5 : Int32) (v6 : Int32) (S : tq_St), wp_X6_ask_39 K n v2 v3 v4 v5 v6 S → Go X 8 S 39 [(0, .ref ((tq_la X).1 27 0)), (2, .int v2), (3, .int v3), (4, .int v4), (5, .int v5), (6, .int v6)] [] := by
  intro n
  induction n with
  | zero => intros; contradiction
  | succ n ih =>
    intro v2 v3 v4 v5 v6 S hf
    refine go_iload (pc := 39) C dX6_ask_39 5 rfl ?_
    refine go_aload_n (pc := 41) C dX6_ask_41 0 rfl rfl ?_
    refine ge_X6_X6_0 (pc := 42) C dX6_ask_42 ?_
    refine ge_X6_X1_5 (pc := 45) C (by decide) dX6_ask_45 ?_
    refine go_ic_ge (pc := 48) C dX6_ask_48 81 (by decide) (fun c15 => ?_) (fun c15 => ?_)
    · have hf := hf.1 c15
      refine go_iload_n (pc := 81) C dX6_ask_81 1 rfl rfl ?_
      refine go_if_eq (pc := 82) C dX6_ask_82 92 (by decide) (fun c16 => ?_) (fun c16 => ?_)
      · have hf := hf.1 c16
        refine go_iload (pc := 92) C dX6_ask_92 4 rfl ?_
        refine go_goto (pc := 94) C dX6_ask_94 99 (by decide) ?_
        exact hR _ _ _ _ dX6_ask_99 hf
      · have hf := hf.2 c16
        refine go_iload (pc := 85) C dX6_ask_85 4 rfl ?_
        refine go_bipush (pc := 87) (v := (-4)) C dX6_ask_87 (by decide) ?_
        refine go_ic_ne (pc := 89) C dX6_ask_89 97 (by decide) (fun c17 => ?_) (fun c17 => ?_)
        · have hf := hf.1 c17
          refine go_iload (pc := 97) C dX6_ask_97 3 rfl ?_
          exact hR _ _ _ _ dX6_ask_99 hf
        · have hf := hf.2 c17
          refine go_iload (pc := 92) C dX6_ask_92 4 rfl ?_
          refine go_goto (pc := 94) C dX6_ask_94 99 (by decide) ?_
          exact hR _ _ _ _ dX6_ask_99 hf
    · have hf := hf.2 c15
      refine go_aload_n (pc := 51) C dX6_ask_51 0 rfl rfl ?_
      refine go_iload_n (pc := 52) C dX6_ask_52 2 rfl rfl ?_
      refine go_iload (pc := 53) C dX6_ask_53 5 rfl ?_
      refine go_cVi (pc := 55) C cw_X6_232 (ok_X6_leftAtWorst hf) (rc_X6 C) rfl rfl rfl (by decide) rfl dX6_ask_55 (fun r18 S19 hf => ?_)
      refine go_istore (pc := 58) C dX6_ask_58 [(7, .int r18), (0, .ref ((tq_la X).1 27 0)), (2, .int v2), (3, .int v3), (4, .int v4), (5, .int v5), (6, .int v6)] (by decide) rfl ?_
      refine go_iload (pc := 60) C dX6_ask_60 0 rfl ?_
      refine go_iload (pc := 62) C dX6_ask_62 4 rfl ?_
      refine go_ic_ge (pc := 64) C dX6_ask_64 75 (by decide) (fun c21 => ?_) (fun c21 => ?_)
      · have hf := hf.1 c21
        obtain ⟨x22, e23⟩ : ∃ q9 : Int32, q9 = v6 + 1 := ⟨_, rfl⟩
        refine go_iinc (pc := 75) (j := 6) (v := x22) C dX6_ask_75 [(6, .int x22), (7, .int r18), (0, .ref ((tq_la X).1 27 0)), (2, .int v2), (3, .int v3), (4, .int v4), (5, .int v5)] rfl (by rw [e23]; rfl) (by decide) rfl ?_
        have hf := hf x22 e23
        refine go_goto (pc := 78) C dX6_ask_78 39 (by decide) ?_
        exact go_sub [2, 3, 4, 5, 6, 0] rfl (ih _ _ _ _ _ _ hf)
      · have hf := hf.2 c21
        refine go_iload (pc := 67) C dX6_ask_67 0 rfl ?_
        refine go_istore (pc := 69) C dX6_ask_69 [(4, .int r18), (7, .int r18), (0, .ref ((tq_la X).1 27 0)), (2, .int v2), (3, .int v3), (5, .int v5), (6, .int v6)] (by decide) rfl ?_
        refine go_iload (pc := 71) C dX6_ask_71 6 rfl ?_
        refine go_istore (pc := 73) C dX6_ask_73 [(5, .int v6), (4, .int r18), (7, .int r18), (0, .ref ((tq_la X).1 27 0)), (2, .int v2), (3, .int v3), (6, .int v6)] (by decide) rfl ?_
        obtain ⟨x24, e25⟩ : ∃ q9 : Int32, q9 = v6 + 1 := ⟨_, rfl⟩
        refine go_iinc (pc := 75) (j := 6) (v := x24) C dX6_ask_75 [(6, .int x24), (5, .int v6), (4, .int r18), (7, .int r18), (0, .ref ((tq_la X).1 27 0)), (2, .int v2), (3, .int v3)] rfl (by rw [e25]; rfl) (by decide) rfl ?_
        have hf := hf x24 e25
        refine go_goto (pc := 78) C dX6_ask_78 39 (by decide) ?_
        exact go_sub [4, 5, 6, 2, 1, 0] rfl (ih _ _ _ _ _ _ hf)
set_option maxRecDepth 100000 in
set_option maxHeartbeats 4000000 in
theorem wk_X6_ask {X : tq_Cx} {p1 : Int32} {p2 : Int32} {S : tq_St} {K : Int32 → tq_St → Prop} (C : tq_C X cX6_ask 8 RX6 8) (hR : tq_Ri X cX6_ask 8 K) (hf : wp_X6_ask p1 p2 S K) : Go X 8 S 0 [(0, .ref ((tq_la X).1 27 0)), (1, .int p1), (2, .int p2)] [] := by
  refine go_aload_n (pc := 0) C dX6_ask_0 0 rfl rfl ?_
  refine ge_X6_X6_0 (pc := 1) C dX6_ask_1 ?_
  refine go_iload_n (pc := 4) C dX6_ask_4 1 rfl rfl ?_
  refine go_cVi (pc := 5) C cw_X6_112 (ok_X1_isThere (by decide) hf) (rc_X1 C (by decide)) rfl rfl rfl (by decide) rfl dX6_ask_5 (fun r1 S2 hf => ?_)
  refine go_if_eq (pc := 8) C dX6_ask_8 18 (by decide) (fun c4 => ?_) (fun c4 => ?_)
  · have hf := hf.1 c4
    refine go_iconst (pc := 18) (v := (-1)) C dX6_ask_18 (by decide) ?_
    exact hR _ _ _ _ dX6_ask_19 hf
  · have hf := hf.2 c4
    refine go_iload_n (pc := 11) C dX6_ask_11 2 rfl rfl ?_
    refine go_cSi (pc := 12) C cs_X6_178 (ok_X6_isZeroOrOne hf) rfl rfl rfl (by decide) rfl dX6_ask_12 (fun r5 S6 hf => ?_)
    refine go_if_ne (pc := 15) C dX6_ask_15 20 (by decide) (fun c8 => ?_) (fun c8 => ?_)
    · have hf := hf.1 c8
      refine go_aload_n (pc := 20) C dX6_ask_20 0 rfl rfl ?_
      refine go_iload_n (pc := 21) C dX6_ask_21 1 rfl rfl ?_
      refine go_cVi (pc := 22) C cw_X6_229 (ok_X6_possibleSorrows hf) (rc_X6 C) rfl rfl rfl (by decide) rfl dX6_ask_22 (fun r9 S10 hf => ?_)
      refine go_istore_n (pc := 25) C dX6_ask_25 [(3, .int r9), (0, .ref ((tq_la X).1 27 0)), (1, .int p1), (2, .int p2)] rfl (by decide) rfl ?_
      refine go_iload_n (pc := 26) C dX6_ask_26 0 rfl rfl ?_
      refine go_cSi (pc := 27) C cs_X6_158 (ok_J6_bitCount_0f7a4 hf) rfl rfl rfl (by decide) rfl dX6_ask_27 (fun r12 S13 hf => ?_)
      refine go_istore (pc := 30) C dX6_ask_30 [(4, .int r12), (3, .int r9), (0, .ref ((tq_la X).1 27 0)), (1, .int p1), (2, .int p2)] (by decide) rfl ?_
      refine go_bipush (pc := 32) (v := (-4)) C dX6_ask_32 (by decide) ?_
      refine go_istore (pc := 34) C dX6_ask_34 [(5, .int (-4)), (4, .int r12), (3, .int r9), (0, .ref ((tq_la X).1 27 0)), (1, .int p1), (2, .int p2)] (by decide) rfl ?_
      refine go_iconst (pc := 36) (v := 0) C dX6_ask_36 (by decide) ?_
      refine go_istore (pc := 37) C dX6_ask_37 [(6, .int 0), (5, .int (-4)), (4, .int r12), (3, .int r9), (0, .ref ((tq_la X).1 27 0)), (1, .int p1), (2, .int p2)] (by decide) rfl ?_
      exact go_sub [4, 6, 3, 2, 1, 0] rfl (wk_X6_ask_39 C hR 2000 _ _ _ _ _ _ hf)
    · have hf := hf.2 c8
      refine go_iconst (pc := 18) (v := (-1)) C dX6_ask_18 (by decide) ?_
      exact hR _ _ _ _ dX6_ask_19 hf
set_option maxRecDepth 100000 in
set_option maxHeartbeats 4000000 in
theorem ok_X6_ask {p1 : Int32} {p2 : Int32} {S : tq_St} {K : Int32 → tq_St → Prop} (hf : wp_X6_ask p1 p2 S K) : tq_Mi yX6_ask cX6_ask 8 (some .int) 8 (fun a z => [.ref (a.1 27 0), .int p1, .int p2]) S K :=
  tq_mkI (by decide) (fun _ _ => Nat.le_of_ble_eq_true rfl) (fun X C hR => wk_X6_ask C hR  hf)
set_option maxRecDepth 100000 in
set_option maxHeartbeats 4000000 in
theorem wk_X6_back {X : tq_Cx} {p1 : Int32} {S : tq_St} {K : Int32 → tq_St → Prop} (C : tq_C X cX6_back 2 RX6 2) (hR : tq_Ri X cX6_back 2 K) (hf : wp_X6_back p1 S K) : Go X 2 S 0 [(0, .ref ((tq_la X).1 27 0)), (1, .int p1)] [] := by
  refine go_iload_n (pc := 0) C dX6_back_0 1 rfl rfl ?_
  refine go_if_lt (pc := 1) C dX6_back_1 9 (by decide) (fun c1 => ?_) (fun c1 => ?_)
  · have hf := hf.1 c1
    refine go_iconst (pc := 9) (v := (-1)) C dX6_back_9 (by decide) ?_
    exact hR _ _ _ _ dX6_back_10 hf
  · have hf := hf.2 c1
    refine go_iload_n (pc := 4) C dX6_back_4 1 rfl rfl ?_
    refine go_iconst (pc := 5) (v := 2) C dX6_back_5 (by decide) ?_
    refine go_ic_lt (pc := 6) C dX6_back_6 11 (by decide) (fun c2 => ?_) (fun c2 => ?_)
    · have hf := hf.1 c2
      refine go_aload_n (pc := 11) C dX6_back_11 0 rfl rfl ?_
      refine ge_X6_X6_7 (pc := 12) C dX6_back_12 ?_
      refine go_iload_n (pc := 15) C dX6_back_15 1 rfl rfl ?_
      refine al_X6_7 (pc := 16) C hf.1 dX6_back_16 ?_
      have hf := hf.2
      refine go_if_ne (pc := 17) C dX6_back_17 23 (by decide) (fun c3 => ?_) (fun c3 => ?_)
      · have hf := hf.1 c3
        refine go_aload_n (pc := 23) C dX6_back_23 0 rfl rfl ?_
        refine ge_X6_X6_0 (pc := 24) C dX6_back_24 ?_
        refine go_aload_n (pc := 27) C dX6_back_27 0 rfl rfl ?_
        refine ge_X6_X6_6 (pc := 28) C dX6_back_28 ?_
        refine go_iload_n (pc := 31) C dX6_back_31 1 rfl rfl ?_
        refine al_X6_6 (pc := 32) C hf.1 dX6_back_32 ?_
        have h4 : 17 + (p1 : Int32).toNatClampNeg < 19 := tq_le hf.1 (by decide)
        have hf := hf.2
        refine go_cVv (pc := 33) C cw_X6_84 (ok_X1_copyFrom (by decide) h4 hf) (rc_X1 C (by decide)) rfl rfl rfl (by decide) rfl dX6_back_33 (fun S6 hf => ?_)
        refine go_aload_n (pc := 36) C dX6_back_36 0 rfl rfl ?_
        refine ge_X6_X6_0 (pc := 37) C dX6_back_37 ?_
        refine ge_X6_X1_7 (pc := 40) C (by decide) dX6_back_40 ?_
        exact hR _ _ _ _ dX6_back_43 hf
      · have hf := hf.2 c3
        refine go_bipush (pc := 20) (v := (-2)) C dX6_back_20 (by decide) ?_
        exact hR _ _ _ _ dX6_back_22 hf
    · have hf := hf.2 c2
      refine go_iconst (pc := 9) (v := (-1)) C dX6_back_9 (by decide) ?_
      exact hR _ _ _ _ dX6_back_10 hf
set_option maxRecDepth 100000 in
set_option maxHeartbeats 4000000 in
theorem ok_X6_back {p1 : Int32} {S : tq_St} {K : Int32 → tq_St → Prop} (hf : wp_X6_back p1 S K) : tq_Mi yX6_back cX6_back 2 (some .int) 2 (fun a z => [.ref (a.1 27 0), .int p1]) S K :=
  tq_mkI (by decide) (fun _ _ => Nat.le_of_ble_eq_true rfl) (fun X C hR => wk_X6_back C hR  hf)
set_option maxRecDepth 100000 in
set_option maxHeartbeats 4000000 in
theorem wk_X6_best_24 {X : tq_Cx} {K : Int32 → tq_St → Prop} (C : tq_C X cX6_best 3 RX6 20) (hR : tq_Ri X cX6_best 3 K) : ∀ (v1 : Int32) (v2 : Int32) (S : tq_St), wp_X6_best_24 K v1 v2 S → Go X 3 S 24 [(0, .ref ((tq_la X).1 27 0)), (1, .int v1), (2, .int v2)] [] := by
  intro v1 v2 S hf
  refine go_aload_n (pc := 24) C dX6_best_24 0 rfl rfl ?_
  refine ge_X6_X6_4 (pc := 25) C dX6_best_25 ?_
  refine go_aload_n (pc := 28) C dX6_best_28 0 rfl rfl ?_
  refine ge_X6_X6_0 (pc := 29) C dX6_best_29 ?_
  refine go_iload_n (pc := 32) C dX6_best_32 1 rfl rfl ?_
  refine go_cVv (pc := 33) C cw_X6_181 (ok_X2_findMostTears (by decide) hf) (rc_X2 C) rfl rfl rfl (by decide) rfl dX6_best_33 (fun S8 hf => ?_)
  refine go_iload_n (pc := 36) C dX6_best_36 2 rfl rfl ?_
  refine go_bipush (pc := 37) (v := 10) C dX6_best_37 (by decide) ?_
  refine go_ic_lt (pc := 39) C dX6_best_39 54 (by decide) (fun c10 => ?_) (fun c10 => ?_)
  · have hf := hf.1 c10
    refine go_iload_n (pc := 54) C dX6_best_54 2 rfl rfl ?_
    refine go_if_ne (pc := 55) C dX6_best_55 68 (by decide) (fun c11 => ?_) (fun c11 => ?_)
    · have hf := hf.1 c11
      refine go_aload_n (pc := 68) C dX6_best_68 0 rfl rfl ?_
      refine ge_X6_X6_4 (pc := 69) C dX6_best_69 ?_
      refine ge_X6_X2_5 (pc := 72) C dX6_best_72 ?_
      exact hR _ _ _ _ dX6_best_75 hf
    · have hf := hf.2 c11
      refine go_aload_n (pc := 58) C dX6_best_58 0 rfl rfl ?_
      refine ge_X6_X6_4 (pc := 59) C dX6_best_59 ?_
      refine ge_X6_X2_4 (pc := 62) C dX6_best_62 ?_
      refine go_goto (pc := 65) C dX6_best_65 75 (by decide) ?_
      exact hR _ _ _ _ dX6_best_75 hf
  · have hf := hf.2 c10
    refine go_aload_n (pc := 42) C dX6_best_42 0 rfl rfl ?_
    refine ge_X6_X6_4 (pc := 43) C dX6_best_43 ?_
    refine go_iload_n (pc := 46) C dX6_best_46 2 rfl rfl ?_
    refine go_bipush (pc := 47) (v := 10) C dX6_best_47 (by decide) ?_
    refine go_isub (pc := 49) C dX6_best_49 ?_
    refine go_cVi (pc := 50) C cw_X6_185 (ok_X2_foundAt hf) (rc_X2 C) rfl rfl rfl (by decide) rfl dX6_best_50 (fun r12 S13 hf => ?_)
    exact hR _ _ _ _ dX6_best_53 hf
set_option maxRecDepth 100000 in
set_option maxHeartbeats 4000000 in
theorem wk_X6_best {X : tq_Cx} {p1 : Int32} {p2 : Int32} {S : tq_St} {K : Int32 → tq_St → Prop} (C : tq_C X cX6_best 3 RX6 20) (hR : tq_Ri X cX6_best 3 K) (hf : wp_X6_best p1 p2 S K) : Go X 3 S 0 [(0, .ref ((tq_la X).1 27 0)), (1, .int p1), (2, .int p2)] [] := by
  refine go_iload_n (pc := 0) C dX6_best_0 1 rfl rfl ?_
  refine go_if_lt (pc := 1) C dX6_best_1 22 (by decide) (fun c1 => ?_) (fun c1 => ?_)
  · have hf := hf.1 c1
    refine go_iconst (pc := 22) (v := (-1)) C dX6_best_22 (by decide) ?_
    exact hR _ _ _ _ dX6_best_23 hf
  · have hf := hf.2 c1
    refine go_iload_n (pc := 4) C dX6_best_4 1 rfl rfl ?_
    refine go_iconst (pc := 5) (v := 4) C dX6_best_5 (by decide) ?_
    refine go_ic_gt (pc := 6) C dX6_best_6 22 (by decide) (fun c2 => ?_) (fun c2 => ?_)
    · have hf := hf.1 c2
      refine go_iconst (pc := 22) (v := (-1)) C dX6_best_22 (by decide) ?_
      exact hR _ _ _ _ dX6_best_23 hf
    · have hf := hf.2 c2
      refine go_iload_n (pc := 9) C dX6_best_9 2 rfl rfl ?_
      refine go_cSi (pc := 10) C cs_X6_178 (ok_X6_isZeroOrOne hf) rfl rfl rfl (by decide) rfl dX6_best_10 (fun r3 S4 hf => ?_)
      refine go_if_ne (pc := 13) C dX6_best_13 24 (by decide) (fun c6 => ?_) (fun c6 => ?_)
      · have hf := hf.1 c6
        exact go_sub [0, 1, 2] rfl (wk_X6_best_24 C hR _ _ _ hf)
      · have hf := hf.2 c6
        refine go_iload_n (pc := 16) C dX6_best_16 2 rfl rfl ?_
        refine go_bipush (pc := 17) (v := 10) C dX6_best_17 (by decide) ?_
        refine go_ic_ge (pc := 19) C dX6_best_19 24 (by decide) (fun c15 => ?_) (fun c15 => ?_)
        · have hf := hf.1 c15
          exact go_sub [0, 1, 2] rfl (wk_X6_best_24 C hR _ _ _ hf)
        · have hf := hf.2 c15
          refine go_iconst (pc := 22) (v := (-1)) C dX6_best_22 (by decide) ?_
          exact hR _ _ _ _ dX6_best_23 hf
set_option maxRecDepth 100000 in
set_option maxHeartbeats 4000000 in
theorem ok_X6_best {p1 : Int32} {p2 : Int32} {S : tq_St} {K : Int32 → tq_St → Prop} (hf : wp_X6_best p1 p2 S K) : tq_Mi yX6_best cX6_best 3 (some .int) 20 (fun a z => [.ref (a.1 27 0), .int p1, .int p2]) S K :=
  tq_mkI (by decide) (fun _ _ => Nat.le_of_ble_eq_true rfl) (fun X C hR => wk_X6_best C hR  hf)
set_option maxRecDepth 100000 in
set_option maxHeartbeats 4000000 in
theorem wk_X6_count_62 {X : tq_Cx} {K : Int32 → tq_St → Prop} (C : tq_C X cX6_count 2 RX6 2) (hR : tq_Ri X cX6_count 2 K) : ∀ (w0 : Int32) (S : tq_St), wp_X6_count_62 K w0 S → Go X 2 S 62 [(0, .ref ((tq_la X).1 27 0))] [.int w0] := by
  intro w0 S hf
  refine go_aload_n (pc := 62) C dX6_count_62 0 rfl rfl ?_
  refine ge_X6_X6_7 (pc := 63) C dX6_count_63 ?_
  refine go_iconst (pc := 66) (v := 1) C dX6_count_66 (by decide) ?_
  refine al_X6_7 (pc := 67) C hf.1 dX6_count_67 ?_
  have hf := hf.2
  refine go_if_eq (pc := 68) C dX6_count_68 75 (by decide) (fun c3 => ?_) (fun c3 => ?_)
  · have hf := hf.1 c3
    refine go_iconst (pc := 75) (v := 0) C dX6_count_75 (by decide) ?_
    refine go_iadd (pc := 76) C dX6_count_76 ?_
    exact hR _ _ _ _ dX6_count_77 hf
  · have hf := hf.2 c3
    refine go_iconst (pc := 71) (v := 1) C dX6_count_71 (by decide) ?_
    refine go_goto (pc := 72) C dX6_count_72 76 (by decide) ?_
    refine go_iadd (pc := 76) C dX6_count_76 ?_
    exact hR _ _ _ _ dX6_count_77 hf
set_option maxRecDepth 100000 in
set_option maxHeartbeats 4000000 in
theorem wk_X6_count {X : tq_Cx} {p1 : Int32} {S : tq_St} {K : Int32 → tq_St → Prop} (C : tq_C X cX6_count 2 RX6 2) (hR : tq_Ri X cX6_count 2 K) (hf : wp_X6_count p1 S K) : Go X 2 S 0 [(0, .ref ((tq_la X).1 27 0)), (1, .int p1)] [] := by
  refine go_iload_n (pc := 0) C dX6_count_0 1 rfl rfl ?_
  rcases tq_sw (x := p1) (0) (5) with c1 | c1
  · have hf := hf.1 c1
    refine go_tabOut (pc := 1) C dX6_count_1 129 (by decide) c1 ?_
    refine go_iconst (pc := 129) (v := (-1)) C dX6_count_129 (by decide) ?_
    exact hR _ _ _ _ dX6_count_130 hf
  · have c1 := tq_lt6 c1
    rcases c1 with c1 | c1 | c1 | c1 | c1 | c1
    · have hf := hf.2.1 c1
      refine go_tabIn (pc := 1) C dX6_count_1 40 (39) (by decide) (by rw [c1]; decide) (by rw [c1]; decide) (by rw [c1]; rfl) ?_
      refine go_aload_n (pc := 40) C dX6_count_40 0 rfl rfl ?_
      refine ge_X6_X6_3 (pc := 41) C dX6_count_41 ?_
      refine ge_X6_X4_2 (pc := 44) C dX6_count_44 ?_
      exact hR _ _ _ _ dX6_count_47 hf
    · have hf := hf.2.2.1 c1
      refine go_tabIn (pc := 1) C dX6_count_1 48 (47) (by decide) (by rw [c1]; decide) (by rw [c1]; decide) (by rw [c1]; rfl) ?_
      refine go_aload_n (pc := 48) C dX6_count_48 0 rfl rfl ?_
      refine ge_X6_X6_7 (pc := 49) C dX6_count_49 ?_
      refine go_iconst (pc := 52) (v := 0) C dX6_count_52 (by decide) ?_
      refine al_X6_7 (pc := 53) C hf.1 dX6_count_53 ?_
      have hf := hf.2
      refine go_if_eq (pc := 54) C dX6_count_54 61 (by decide) (fun c2 => ?_) (fun c2 => ?_)
      · have hf := hf.1 c2
        refine go_iconst (pc := 61) (v := 0) C dX6_count_61 (by decide) ?_
        exact go_sub [0] rfl (wk_X6_count_62 C hR _ _ hf)
      · have hf := hf.2 c2
        refine go_iconst (pc := 57) (v := 1) C dX6_count_57 (by decide) ?_
        refine go_goto (pc := 58) C dX6_count_58 62 (by decide) ?_
        exact go_sub [0] rfl (wk_X6_count_62 C hR _ _ hf)
    · have hf := hf.2.2.2.1 c1
      refine go_tabIn (pc := 1) C dX6_count_1 78 (77) (by decide) (by rw [c1]; decide) (by rw [c1]; decide) (by rw [c1]; rfl) ?_
      refine go_aload_n (pc := 78) C dX6_count_78 0 rfl rfl ?_
      refine ge_X6_X6_2 (pc := 79) C dX6_count_79 ?_
      refine ge_X6_X5_2 (pc := 82) C dX6_count_82 ?_
      exact hR _ _ _ _ dX6_count_85 hf
    · have hf := hf.2.2.2.2.1 c1
      refine go_tabIn (pc := 1) C dX6_count_1 86 (85) (by decide) (by rw [c1]; decide) (by rw [c1]; decide) (by rw [c1]; rfl) ?_
      refine go_aload_n (pc := 86) C dX6_count_86 0 rfl rfl ?_
      refine ge_X6_X6_8 (pc := 87) C dX6_count_87 ?_
      refine go_iconst (pc := 90) (v := 0) C dX6_count_90 (by decide) ?_
      refine al_X6_8 (pc := 91) C hf.1 dX6_count_91 ?_
      have h4 : 23 ≤ 23 + (0 : Int32).toNatClampNeg ∧ 23 + (0 : Int32).toNatClampNeg < 27 := tq_ls hf.1
      have hf := hf.2
      refine ge_X6_X3_1 (pc := 92) C h4 dX6_count_92 ?_
      refine go_if_eq (pc := 95) C dX6_count_95 110 (by decide) (fun c5 => ?_) (fun c5 => ?_)
      · have hf := hf.1 c5
        refine go_bipush (pc := 110) (v := (-4)) C dX6_count_110 (by decide) ?_
        exact hR _ _ _ _ dX6_count_112 hf
      · have hf := hf.2 c5
        refine go_aload_n (pc := 98) C dX6_count_98 0 rfl rfl ?_
        refine ge_X6_X6_8 (pc := 99) C dX6_count_99 ?_
        refine go_iconst (pc := 102) (v := 0) C dX6_count_102 (by decide) ?_
        refine al_X6_8 (pc := 103) C hf.1 dX6_count_103 ?_
        have h6 : 23 ≤ 23 + (0 : Int32).toNatClampNeg ∧ 23 + (0 : Int32).toNatClampNeg < 27 := tq_ls hf.1
        have hf := hf.2
        refine ge_X6_X3_3 (pc := 104) C h6 dX6_count_104 ?_
        refine go_goto (pc := 107) C dX6_count_107 112 (by decide) ?_
        exact hR _ _ _ _ dX6_count_112 hf
    · have hf := hf.2.2.2.2.2.1 c1
      refine go_tabIn (pc := 1) C dX6_count_1 113 (112) (by decide) (by rw [c1]; decide) (by rw [c1]; decide) (by rw [c1]; rfl) ?_
      refine go_aload_n (pc := 113) C dX6_count_113 0 rfl rfl ?_
      refine ge_X6_X6_0 (pc := 114) C dX6_count_114 ?_
      refine go_cVi (pc := 117) C cw_X6_269 (ok_X1_everWept (by decide) hf) (rc_X1 C (by decide)) rfl rfl rfl (by decide) rfl dX6_count_117 (fun r7 S8 hf => ?_)
      exact hR _ _ _ _ dX6_count_120 hf
    · have hf := hf.2.2.2.2.2.2 c1
      refine go_tabIn (pc := 1) C dX6_count_1 121 (120) (by decide) (by rw [c1]; decide) (by rw [c1]; decide) (by rw [c1]; rfl) ?_
      refine go_aload_n (pc := 121) C dX6_count_121 0 rfl rfl ?_
      refine ge_X6_X6_0 (pc := 122) C dX6_count_122 ?_
      refine go_cVi (pc := 125) C cw_X6_272 (ok_X1_tramsPlanned (by decide) hf) (rc_X1 C (by decide)) rfl rfl rfl (by decide) rfl dX6_count_125 (fun r10 S11 hf => ?_)
      exact hR _ _ _ _ dX6_count_128 hf
set_option maxRecDepth 100000 in
set_option maxHeartbeats 4000000 in
theorem ok_X6_count {p1 : Int32} {S : tq_St} {K : Int32 → tq_St → Prop} (hf : wp_X6_count p1 S K) : tq_Mi yX6_count cX6_count 2 (some .int) 2 (fun a z => [.ref (a.1 27 0), .int p1]) S K :=
  tq_mkI (by decide) (fun _ _ => Nat.le_of_ble_eq_true rfl) (fun X C hR => wk_X6_count C hR  hf)
set_option maxRecDepth 100000 in
set_option maxHeartbeats 4000000 in
theorem wk_X6_cut {X : tq_Cx} {p1 : Int32} {S : tq_St} {K : Int32 → tq_St → Prop} (C : tq_C X cX6_cut 3 RX6 1) (hR : tq_Ri X cX6_cut 3 K) (hf : wp_X6_cut p1 S K) : Go X 3 S 0 [(0, .ref ((tq_la X).1 27 0)), (1, .int p1)] [] := by
  refine go_iload_n (pc := 0) C dX6_cut_0 1 rfl rfl ?_
  refine go_if_lt (pc := 1) C dX6_cut_1 15 (by decide) (fun c1 => ?_) (fun c1 => ?_)
  · have hf := hf.1 c1
    refine go_iconst (pc := 15) (v := (-1)) C dX6_cut_15 (by decide) ?_
    exact hR _ _ _ _ dX6_cut_16 hf
  · have hf := hf.2 c1
    refine go_iload_n (pc := 4) C dX6_cut_4 1 rfl rfl ?_
    refine go_aload_n (pc := 5) C dX6_cut_5 0 rfl rfl ?_
    refine ge_X6_X6_0 (pc := 6) C dX6_cut_6 ?_
    refine ge_X6_X1_10 (pc := 9) C (by decide) dX6_cut_9 ?_
    refine go_ic_le (pc := 12) C dX6_cut_12 17 (by decide) (fun c2 => ?_) (fun c2 => ?_)
    · have hf := hf.1 c2
      refine go_aload_n (pc := 17) C dX6_cut_17 0 rfl rfl ?_
      refine ge_X6_X6_0 (pc := 18) C dX6_cut_18 ?_
      refine ge_X6_X1_10 (pc := 21) C (by decide) dX6_cut_21 ?_
      refine go_nI (fun x3 e4 => ?_)
      have hf := hf x3 e4
      refine go_istore_n (pc := 24) C dX6_cut_24 [(2, .int x3), (0, .ref ((tq_la X).1 27 0)), (1, .int p1)] rfl (by decide) rfl ?_
      refine go_aload_n (pc := 25) C dX6_cut_25 1 rfl rfl ?_
      refine ge_X6_X6_0 (pc := 26) C dX6_cut_26 ?_
      refine go_iload_n (pc := 29) C dX6_cut_29 2 rfl rfl ?_
      refine pu_X6_X1_10 (pc := 30) C (by decide) dX6_cut_30 (fun S5 e6 => ?_)
      have hf := hf S5 e6
      refine go_iload_n (pc := 33) C dX6_cut_33 0 rfl rfl ?_
      exact hR _ _ _ _ dX6_cut_34 hf
    · have hf := hf.2 c2
      refine go_iconst (pc := 15) (v := (-1)) C dX6_cut_15 (by decide) ?_
      exact hR _ _ _ _ dX6_cut_16 hf
set_option maxRecDepth 100000 in
set_option maxHeartbeats 4000000 in
theorem ok_X6_cut {p1 : Int32} {S : tq_St} {K : Int32 → tq_St → Prop} (hf : wp_X6_cut p1 S K) : tq_Mi yX6_cut cX6_cut 3 (some .int) 1 (fun a z => [.ref (a.1 27 0), .int p1]) S K :=
  tq_mkI (by decide) (fun _ _ => Nat.le_of_ble_eq_true rfl) (fun X C hR => wk_X6_cut C hR  hf)
set_option maxRecDepth 100000 in
set_option maxHeartbeats 4000000 in
theorem wk_X6_drift_105 {X : tq_Cx} {K : Int32 → tq_St → Prop} (C : tq_C X cX6_drift 8 RX6 6) (hR : tq_Ri X cX6_drift 8 K) {rec55 : Int32 → Int32 → Int32 → Int32 → Int32 → tq_St → Prop} (hrec55 : ∀ (v2 : Int32) (v3 : Int32) (v4 : Int32) (v5 : Int32) (v6 : Int32) (S : tq_St), rec55 v2 v3 v4 v5 v6 S → Go X 8 S 55 [(0, .ref ((tq_la X).1 27 0)), (2, .int v2), (3, .int v3), (4, .int v4), (5, .int v5), (6, .int v6)] []) : ∀ (v2 : Int32) (v3 : Int32) (v4 : Int32) (v5 : Int32) (v6 : Int32) (w1 : Int32) (S : tq_St), wp_X6_drift_105 K rec55 v2 v3 v4 v5 v6 w1 S → Go X 8 S 105 [(0, .ref ((tq_la X).1 27 0)), (2, .int v2), (3, .int v3), (4, .int v4), (5, .int v5), (6, .int v6)] [.int w1, .ref ((tq_la X).1 1 0)] := by
  intro v2 v3 v4 v5 v6 w1 S hf
  refine go_cVi (pc := 105) C cw_X6_236 (ok_X1_play (by decide) hf) (rc_X1 C (by decide)) rfl rfl rfl (by decide) rfl dX6_drift_105 (fun r23 S24 hf => ?_)
  refine go_pop (pc := 108) C dX6_drift_108 rfl ?_
  obtain ⟨x26, e27⟩ : ∃ q9 : Int32, q9 = v6 + 1 := ⟨_, rfl⟩
  refine go_iinc (pc := 109) (j := 5) (v := x26) C dX6_drift_109 [(6, .int x26), (0, .ref ((tq_la X).1 27 0)), (2, .int v2), (3, .int v3), (4, .int v4), (5, .int v5)] rfl (by rw [e27]; rfl) (by decide) rfl ?_
  have hf := hf x26 e27
  refine go_goto (pc := 112) C dX6_drift_112 55 (by decide) ?_
  exact go_sub [1, 2, 3, 4, 5, 0] rfl (hrec55 _ _ _ _ _ _ hf)
set_option maxRecDepth 100000 in
set_option maxHeartbeats 4000000 in
theorem wk_X6_drift_55 {X : tq_Cx} {K : Int32 → tq_St → Prop} (C : tq_C X cX6_drift 8 RX6 6) (hR : tq_Ri X cX6_drift 8 K) : ∀ (n : Nat) (v2 : Int32) (v3 : Int32) (v4 : Int32) (v5 : Int32) (v6 : Int32) (S : tq_St), wp_X6_drift_55 K n v2 v3 v4 v5 v6 S → Go X 8 S 55 [(0, .ref ((tq_la X).1 27 0)), (2, .int v2), (3, .int v3), (4, .int v4), (5, .int v5), (6, .int v6)] [] := by
  intro n
  induction n with
  | zero => intros; contradiction
  | succ n ih =>
    intro v2 v3 v4 v5 v6 S hf
    refine go_iload (pc := 55) C dX6_drift_55 5 rfl ?_
    refine go_iload_n (pc := 57) C dX6_drift_57 1 rfl rfl ?_
    refine go_ic_ge (pc := 58) C dX6_drift_58 115 (by decide) (fun c13 => ?_) (fun c13 => ?_)
    · have hf := hf.1 c13
      refine go_iload_n (pc := 115) C dX6_drift_115 2 rfl rfl ?_
      refine go_if_ne (pc := 116) C dX6_drift_116 129 (by decide) (fun c14 => ?_) (fun c14 => ?_)
      · have hf := hf.1 c14
        refine go_aload_n (pc := 129) C dX6_drift_129 0 rfl rfl ?_
        refine ge_X6_X6_1 (pc := 130) C dX6_drift_130 ?_
        refine go_iconst (pc := 133) (v := 0) C dX6_drift_133 (by decide) ?_
        refine go_cVi (pc := 134) C cw_X6_134 (ok_X1_inLine (by decide) hf) (rc_X1 C (by decide)) rfl rfl rfl (by decide) rfl dX6_drift_134 (fun r15 S16 hf => ?_)
        exact hR _ _ _ _ dX6_drift_137 hf
      · have hf := hf.2 c14
        refine go_aload_n (pc := 119) C dX6_drift_119 0 rfl rfl ?_
        refine ge_X6_X6_1 (pc := 120) C dX6_drift_120 ?_
        refine ge_X6_X1_12 (pc := 123) C (by decide) dX6_drift_123 ?_
        refine go_goto (pc := 126) C dX6_drift_126 137 (by decide) ?_
        exact hR _ _ _ _ dX6_drift_137 hf
    · have hf := hf.2 c13
      refine go_iload (pc := 61) C dX6_drift_61 4 rfl ?_
      refine go_ldc (pc := 63) C kc_X6_235 dX6_drift_63 ?_
      refine go_imul (pc := 65) C dX6_drift_65 ?_
      refine go_sipush (pc := 66) (v := 12345) C dX6_drift_66 (by decide) ?_
      refine go_iadd (pc := 69) C dX6_drift_69 ?_
      refine go_nI (fun x18 e19 => ?_)
      have hf := hf x18 e19
      refine go_istore (pc := 70) C dX6_drift_70 [(5, .int x18), (0, .ref ((tq_la X).1 27 0)), (2, .int v2), (3, .int v3), (4, .int v4), (6, .int v6)] (by decide) rfl ?_
      refine go_iload (pc := 72) C dX6_drift_72 0 rfl ?_
      refine go_bipush (pc := 74) (v := 16) C dX6_drift_74 (by decide) ?_
      refine go_iushr (pc := 76) C dX6_drift_76 ?_
      refine go_sipush (pc := 77) (v := 32767) C dX6_drift_77 (by decide) ?_
      refine go_iand (pc := 80) C dX6_drift_80 ?_
      refine go_iload (pc := 81) C dX6_drift_81 4 rfl ?_
      refine go_iconst (pc := 83) (v := 1) C dX6_drift_83 (by decide) ?_
      refine go_iadd (pc := 84) C dX6_drift_84 ?_
      refine go_irem (pc := 85) C dX6_drift_85 hf.1 ?_
      have hf := hf.2
      refine go_nI (fun x20 e21 => ?_)
      have hf := hf x20 e21
      refine go_istore (pc := 86) C dX6_drift_86 [(7, .int x20), (5, .int x18), (0, .ref ((tq_la X).1 27 0)), (2, .int v2), (3, .int v3), (4, .int v4), (6, .int v6)] (by decide) rfl ?_
      refine go_aload_n (pc := 88) C dX6_drift_88 2 rfl rfl ?_
      refine ge_X6_X6_1 (pc := 89) C dX6_drift_89 ?_
      refine go_iload (pc := 92) C dX6_drift_92 0 rfl ?_
      refine go_iload (pc := 94) C dX6_drift_94 5 rfl ?_
      refine go_ic_ge (pc := 96) C dX6_drift_96 104 (by decide) (fun c22 => ?_) (fun c22 => ?_)
      · have hf := hf.1 c22
        refine go_iconst (pc := 104) (v := 5) C dX6_drift_104 (by decide) ?_
        exact go_sub [2, 3, 4, 5, 1, 6] rfl (wk_X6_drift_105 C hR ih _ _ _ _ _ _ _ hf)
      · have hf := hf.2 c22
        refine go_iload (pc := 99) C dX6_drift_99 0 rfl ?_
        refine go_goto (pc := 101) C dX6_drift_101 105 (by decide) ?_
        exact go_sub [2, 3, 4, 5, 1, 6] rfl (wk_X6_drift_105 C hR ih _ _ _ _ _ _ _ hf)
set_option maxRecDepth 100000 in
set_option maxHeartbeats 4000000 in
theorem wk_X6_drift {X : tq_Cx} {p1 : Int32} {p2 : Int32} {p3 : Int32} {S : tq_St} {K : Int32 → tq_St → Prop} (C : tq_C X cX6_drift 8 RX6 6) (hR : tq_Ri X cX6_drift 8 K) (hf : wp_X6_drift p1 p2 p3 S K) : Go X 8 S 0 [(0, .ref ((tq_la X).1 27 0)), (1, .int p1), (2, .int p2), (3, .int p3)] [] := by
  refine go_iload_n (pc := 0) C dX6_drift_0 2 rfl rfl ?_
  refine go_iconst (pc := 1) (v := 1) C dX6_drift_1 (by decide) ?_
  refine go_ic_lt (pc := 2) C dX6_drift_2 18 (by decide) (fun c1 => ?_) (fun c1 => ?_)
  · have hf := hf.1 c1
    refine go_iconst (pc := 18) (v := (-1)) C dX6_drift_18 (by decide) ?_
    exact hR _ _ _ _ dX6_drift_19 hf
  · have hf := hf.2 c1
    refine go_iload_n (pc := 5) C dX6_drift_5 2 rfl rfl ?_
    refine go_bipush (pc := 6) (v := 60) C dX6_drift_6 (by decide) ?_
    refine go_ic_gt (pc := 8) C dX6_drift_8 18 (by decide) (fun c2 => ?_) (fun c2 => ?_)
    · have hf := hf.1 c2
      refine go_iconst (pc := 18) (v := (-1)) C dX6_drift_18 (by decide) ?_
      exact hR _ _ _ _ dX6_drift_19 hf
    · have hf := hf.2 c2
      refine go_iload_n (pc := 11) C dX6_drift_11 3 rfl rfl ?_
      refine go_cSi (pc := 12) C cs_X6_178 (ok_X6_isZeroOrOne hf) rfl rfl rfl (by decide) rfl dX6_drift_12 (fun r3 S4 hf => ?_)
      refine go_if_ne (pc := 15) C dX6_drift_15 20 (by decide) (fun c6 => ?_) (fun c6 => ?_)
      · have hf := hf.1 c6
        refine go_aload_n (pc := 20) C dX6_drift_20 0 rfl rfl ?_
        refine ge_X6_X6_0 (pc := 21) C dX6_drift_21 ?_
        refine ge_X6_X1_5 (pc := 24) C (by decide) dX6_drift_24 ?_
        refine go_nI (fun x7 e8 => ?_)
        have hf := hf x7 e8
        refine go_istore (pc := 27) C dX6_drift_27 [(4, .int x7), (0, .ref ((tq_la X).1 27 0)), (1, .int p1), (2, .int p2), (3, .int p3)] (by decide) rfl ?_
        refine go_iload (pc := 29) C dX6_drift_29 0 rfl ?_
        refine go_iconst (pc := 31) (v := 1) C dX6_drift_31 (by decide) ?_
        refine go_ic_ge (pc := 32) C dX6_drift_32 38 (by decide) (fun c9 => ?_) (fun c9 => ?_)
        · have hf := hf.1 c9
          refine go_aload_n (pc := 38) C dX6_drift_38 1 rfl rfl ?_
          refine ge_X6_X6_1 (pc := 39) C dX6_drift_39 ?_
          refine go_aload_n (pc := 42) C dX6_drift_42 1 rfl rfl ?_
          refine ge_X6_X6_0 (pc := 43) C dX6_drift_43 ?_
          refine go_cVv (pc := 46) C cw_X6_163 (ok_X1_startFrom (by decide) (by decide) hf) (rc_X1 C (by decide)) rfl rfl rfl (by decide) rfl dX6_drift_46 (fun S11 hf => ?_)
          refine go_iload_n (pc := 49) C dX6_drift_49 2 rfl rfl ?_
          refine go_istore (pc := 50) C dX6_drift_50 [(5, .int p1), (4, .int x7), (0, .ref ((tq_la X).1 27 0)), (1, .int p1), (2, .int p2), (3, .int p3)] (by decide) rfl ?_
          refine go_iconst (pc := 52) (v := 0) C dX6_drift_52 (by decide) ?_
          refine go_istore (pc := 53) C dX6_drift_53 [(6, .int 0), (5, .int p1), (4, .int x7), (0, .ref ((tq_la X).1 27 0)), (1, .int p1), (2, .int p2), (3, .int p3)] (by decide) rfl ?_
          exact go_sub [3, 5, 6, 2, 1, 0] rfl (wk_X6_drift_55 C hR 2000 _ _ _ _ _ _ hf)
        · have hf := hf.2 c9
          refine go_bipush (pc := 35) (v := (-2)) C dX6_drift_35 (by decide) ?_
          exact hR _ _ _ _ dX6_drift_37 hf
      · have hf := hf.2 c6
        refine go_iconst (pc := 18) (v := (-1)) C dX6_drift_18 (by decide) ?_
        exact hR _ _ _ _ dX6_drift_19 hf
set_option maxRecDepth 100000 in
set_option maxHeartbeats 4000000 in
theorem ok_X6_drift {p1 : Int32} {p2 : Int32} {p3 : Int32} {S : tq_St} {K : Int32 → tq_St → Prop} (hf : wp_X6_drift p1 p2 p3 S K) : tq_Mi yX6_drift cX6_drift 8 (some .int) 6 (fun a z => [.ref (a.1 27 0), .int p1, .int p2, .int p3]) S K :=
  tq_mkI (by decide) (fun _ _ => Nat.le_of_ble_eq_true rfl) (fun X C hR => wk_X6_drift C hR  hf)
set_option maxRecDepth 100000 in
set_option maxHeartbeats 4000000 in
theorem wk_X6_end {X : tq_Cx} {p1 : Int32} {S : tq_St} {K : Int32 → tq_St → Prop} (C : tq_C X cX6_end 3 RX6 1) (hR : tq_Ri X cX6_end 3 K) (hf : wp_X6_end p1 S K) : Go X 3 S 0 [(0, .ref ((tq_la X).1 27 0)), (1, .int p1)] [] := by
  refine go_iload_n (pc := 0) C dX6_end_0 1 rfl rfl ?_
  refine go_if_lt (pc := 1) C dX6_end_1 15 (by decide) (fun c1 => ?_) (fun c1 => ?_)
  · have hf := hf.1 c1
    refine go_iconst (pc := 15) (v := (-1)) C dX6_end_15 (by decide) ?_
    exact hR _ _ _ _ dX6_end_16 hf
  · have hf := hf.2 c1
    refine go_iload_n (pc := 4) C dX6_end_4 1 rfl rfl ?_
    refine go_aload_n (pc := 5) C dX6_end_5 0 rfl rfl ?_
    refine ge_X6_X6_2 (pc := 6) C dX6_end_6 ?_
    refine ge_X6_X5_2 (pc := 9) C dX6_end_9 ?_
    refine go_ic_le (pc := 12) C dX6_end_12 17 (by decide) (fun c2 => ?_) (fun c2 => ?_)
    · have hf := hf.1 c2
      refine go_aload_n (pc := 17) C dX6_end_17 0 rfl rfl ?_
      refine ge_X6_X6_2 (pc := 18) C dX6_end_18 ?_
      refine ge_X6_X5_2 (pc := 21) C dX6_end_21 ?_
      refine go_nI (fun x3 e4 => ?_)
      have hf := hf x3 e4
      refine go_istore_n (pc := 24) C dX6_end_24 [(2, .int x3), (0, .ref ((tq_la X).1 27 0)), (1, .int p1)] rfl (by decide) rfl ?_
      refine go_aload_n (pc := 25) C dX6_end_25 1 rfl rfl ?_
      refine ge_X6_X6_2 (pc := 26) C dX6_end_26 ?_
      refine go_iload_n (pc := 29) C dX6_end_29 2 rfl rfl ?_
      refine pu_X6_X5_2 (pc := 30) C dX6_end_30 (fun S5 e6 => ?_)
      have hf := hf S5 e6
      refine go_iload_n (pc := 33) C dX6_end_33 0 rfl rfl ?_
      exact hR _ _ _ _ dX6_end_34 hf
    · have hf := hf.2 c2
      refine go_iconst (pc := 15) (v := (-1)) C dX6_end_15 (by decide) ?_
      exact hR _ _ _ _ dX6_end_16 hf
set_option maxRecDepth 100000 in
set_option maxHeartbeats 4000000 in
theorem ok_X6_end {p1 : Int32} {S : tq_St} {K : Int32 → tq_St → Prop} (hf : wp_X6_end p1 S K) : tq_Mi yX6_end cX6_end 3 (some .int) 1 (fun a z => [.ref (a.1 27 0), .int p1]) S K :=
  tq_mkI (by decide) (fun _ _ => Nat.le_of_ble_eq_true rfl) (fun X C hR => wk_X6_end C hR  hf)
set_option maxRecDepth 100000 in
set_option maxHeartbeats 4000000 in
theorem wk_X6_enough_2 {X : tq_Cx} {K : Int32 → tq_St → Prop} (C : tq_C X cX6_enough 2 RX6 7) (hR : tq_Ri X cX6_enough 2 K) : ∀ (n : Nat) (v1 : Int32) (S : tq_St), wp_X6_enough_2 K n v1 S → Go X 2 S 2 [(0, .ref ((tq_la X).1 27 0)), (1, .int v1)] [] := by
  intro n
  induction n with
  | zero => intros; contradiction
  | succ n ih =>
    intro v1 S hf
    refine go_iload_n (pc := 2) C dX6_enough_2 1 rfl rfl ?_
    refine go_iconst (pc := 3) (v := 5) C dX6_enough_3 (by decide) ?_
    refine go_ic_gt (pc := 4) C dX6_enough_4 51 (by decide) (fun c1 => ?_) (fun c1 => ?_)
    · have hf := hf.1 c1
      refine go_bipush (pc := 51) (v := (-4)) C dX6_enough_51 (by decide) ?_
      exact hR _ _ _ _ dX6_enough_53 hf
    · have hf := hf.2 c1
      refine go_aload_n (pc := 7) C dX6_enough_7 0 rfl rfl ?_
      refine ge_X6_X6_1 (pc := 8) C dX6_enough_8 ?_
      refine go_aload_n (pc := 11) C dX6_enough_11 0 rfl rfl ?_
      refine ge_X6_X6_0 (pc := 12) C dX6_enough_12 ?_
      refine go_cVv (pc := 15) C cw_X6_163 (ok_X1_startFrom (by decide) (by decide) hf) (rc_X1 C (by decide)) rfl rfl rfl (by decide) rfl dX6_enough_15 (fun S3 hf => ?_)
      refine go_aload_n (pc := 18) C dX6_enough_18 0 rfl rfl ?_
      refine ge_X6_X6_1 (pc := 19) C dX6_enough_19 ?_
      refine go_iload_n (pc := 22) C dX6_enough_22 1 rfl rfl ?_
      refine pu_X6_X1_8 (pc := 23) C (by decide) dX6_enough_23 (fun S5 e6 => ?_)
      have hf := hf S5 e6
      refine go_aload_n (pc := 26) C dX6_enough_26 0 rfl rfl ?_
      refine ge_X6_X6_1 (pc := 27) C dX6_enough_27 ?_
      refine go_cVv (pc := 30) C cw_X6_166 (ok_X1_followPlan (by decide) hf) (rc_X1 C (by decide)) rfl rfl rfl (by decide) rfl dX6_enough_30 (fun S8 hf => ?_)
      refine go_aload_n (pc := 33) C dX6_enough_33 0 rfl rfl ?_
      refine ge_X6_X6_1 (pc := 34) C dX6_enough_34 ?_
      refine go_cVi (pc := 37) C cw_X6_106 (ok_X1_waitingBits (by decide) hf) (rc_X1 C (by decide)) rfl rfl rfl (by decide) rfl dX6_enough_37 (fun r10 S11 hf => ?_)
      refine go_if_ne (pc := 40) C dX6_enough_40 45 (by decide) (fun c13 => ?_) (fun c13 => ?_)
      · have hf := hf.1 c13
        obtain ⟨x14, e15⟩ : ∃ q9 : Int32, q9 = v1 + 1 := ⟨_, rfl⟩
        refine go_iinc (pc := 45) (j := 1) (v := x14) C dX6_enough_45 [(1, .int x14), (0, .ref ((tq_la X).1 27 0))] rfl (by rw [e15]; rfl) (by decide) rfl ?_
        have hf := hf x14 e15
        refine go_goto (pc := 48) C dX6_enough_48 2 (by decide) ?_
        exact go_sub [1, 0] rfl (ih _ _ hf)
      · have hf := hf.2 c13
        refine go_iload_n (pc := 43) C dX6_enough_43 1 rfl rfl ?_
        exact hR _ _ _ _ dX6_enough_44 hf
set_option maxRecDepth 100000 in
set_option maxHeartbeats 4000000 in
theorem wk_X6_enough {X : tq_Cx} {S : tq_St} {K : Int32 → tq_St → Prop} (C : tq_C X cX6_enough 2 RX6 7) (hR : tq_Ri X cX6_enough 2 K) (hf : wp_X6_enough S K) : Go X 2 S 0 [(0, .ref ((tq_la X).1 27 0))] [] := by
  refine go_iconst (pc := 0) (v := 1) C dX6_enough_0 (by decide) ?_
  refine go_istore_n (pc := 1) C dX6_enough_1 [(1, .int 1), (0, .ref ((tq_la X).1 27 0))] rfl (by decide) rfl ?_
  exact go_sub [1, 0] rfl (wk_X6_enough_2 C hR 2000 _ _ hf)
set_option maxRecDepth 100000 in
set_option maxHeartbeats 4000000 in
theorem ok_X6_enough {S : tq_St} {K : Int32 → tq_St → Prop} (hf : wp_X6_enough S K) : tq_Mi yX6_enough cX6_enough 2 (some .int) 7 (fun a z => [.ref (a.1 27 0)]) S K :=
  tq_mkI (by decide) (fun _ _ => Nat.le_of_ble_eq_true rfl) (fun X C hR => wk_X6_enough C hR  hf)
set_option maxRecDepth 100000 in
set_option maxHeartbeats 4000000 in
theorem wk_X6_fault {X : tq_Cx} {S : tq_St} {K : Int32 → tq_St → Prop} (C : tq_C X cX6_fault 1 RX6 1) (hR : tq_Ri X cX6_fault 1 K) (hf : wp_X6_fault S K) : Go X 1 S 0 [(0, .ref ((tq_la X).1 27 0))] [] := by
  refine go_aload_n (pc := 0) C dX6_fault_0 0 rfl rfl ?_
  refine ge_X6_X6_2 (pc := 1) C dX6_fault_1 ?_
  refine ge_X6_X5_3 (pc := 4) C dX6_fault_4 ?_
  exact hR _ _ _ _ dX6_fault_7 hf
set_option maxRecDepth 100000 in
set_option maxHeartbeats 4000000 in
theorem ok_X6_fault {S : tq_St} {K : Int32 → tq_St → Prop} (hf : wp_X6_fault S K) : tq_Mi yX6_fault cX6_fault 1 (some .int) 1 (fun a z => [.ref (a.1 27 0)]) S K :=
  tq_mkI (by decide) (fun _ _ => Nat.le_of_ble_eq_true rfl) (fun X C hR => wk_X6_fault C hR  hf)
set_option maxRecDepth 100000 in
set_option maxHeartbeats 4000000 in
theorem wk_X6_feed {X : tq_Cx} {p1 : Int32} {S : tq_St} {K : Int32 → tq_St → Prop} (C : tq_C X cX6_feed 2 RX6 2) (hR : tq_Ri X cX6_feed 2 K) (hf : wp_X6_feed p1 S K) : Go X 2 S 0 [(0, .ref ((tq_la X).1 27 0)), (1, .int p1)] [] := by
  refine go_iload_n (pc := 0) C dX6_feed_0 1 rfl rfl ?_
  refine go_if_lt (pc := 1) C dX6_feed_1 10 (by decide) (fun c1 => ?_) (fun c1 => ?_)
  · have hf := hf.1 c1
    refine go_iconst (pc := 10) (v := (-1)) C dX6_feed_10 (by decide) ?_
    exact hR _ _ _ _ dX6_feed_11 hf
  · have hf := hf.2 c1
    refine go_iload_n (pc := 4) C dX6_feed_4 1 rfl rfl ?_
    refine go_bipush (pc := 5) (v := 127) C dX6_feed_5 (by decide) ?_
    refine go_ic_le (pc := 7) C dX6_feed_7 12 (by decide) (fun c2 => ?_) (fun c2 => ?_)
    · have hf := hf.1 c2
      refine go_aload_n (pc := 12) C dX6_feed_12 0 rfl rfl ?_
      refine ge_X6_X6_2 (pc := 13) C dX6_feed_13 ?_
      refine go_iload_n (pc := 16) C dX6_feed_16 1 rfl rfl ?_
      refine go_cVi (pc := 17) C cw_X6_66 (ok_X5_append hf) (rc_X5 C) rfl rfl rfl (by decide) rfl dX6_feed_17 (fun r3 S4 hf => ?_)
      refine go_if_eq (pc := 20) C dX6_feed_20 33 (by decide) (fun c6 => ?_) (fun c6 => ?_)
      · have hf := hf.1 c6
        refine go_bipush (pc := 33) (v := (-3)) C dX6_feed_33 (by decide) ?_
        exact hR _ _ _ _ dX6_feed_35 hf
      · have hf := hf.2 c6
        refine go_aload_n (pc := 23) C dX6_feed_23 0 rfl rfl ?_
        refine ge_X6_X6_2 (pc := 24) C dX6_feed_24 ?_
        refine ge_X6_X5_2 (pc := 27) C dX6_feed_27 ?_
        refine go_goto (pc := 30) C dX6_feed_30 35 (by decide) ?_
        exact hR _ _ _ _ dX6_feed_35 hf
    · have hf := hf.2 c2
      refine go_iconst (pc := 10) (v := (-1)) C dX6_feed_10 (by decide) ?_
      exact hR _ _ _ _ dX6_feed_11 hf
set_option maxRecDepth 100000 in
set_option maxHeartbeats 4000000 in
theorem ok_X6_feed {p1 : Int32} {S : tq_St} {K : Int32 → tq_St → Prop} (hf : wp_X6_feed p1 S K) : tq_Mi yX6_feed cX6_feed 2 (some .int) 2 (fun a z => [.ref (a.1 27 0), .int p1]) S K :=
  tq_mkI (by decide) (fun _ _ => Nat.le_of_ble_eq_true rfl) (fun X C hR => wk_X6_feed C hR  hf)
set_option maxRecDepth 100000 in
set_option maxHeartbeats 4000000 in
theorem wk_X6_forget {X : tq_Cx} {p1 : Int32} {S : tq_St} {K : Int32 → tq_St → Prop} (C : tq_C X cX6_forget 3 RX6 1) (hR : tq_Ri X cX6_forget 3 K) (hf : wp_X6_forget p1 S K) : Go X 3 S 0 [(0, .ref ((tq_la X).1 27 0)), (1, .int p1)] [] := by
  refine go_iload_n (pc := 0) C dX6_forget_0 1 rfl rfl ?_
  refine go_if_lt (pc := 1) C dX6_forget_1 15 (by decide) (fun c1 => ?_) (fun c1 => ?_)
  · have hf := hf.1 c1
    refine go_iconst (pc := 15) (v := (-1)) C dX6_forget_15 (by decide) ?_
    exact hR _ _ _ _ dX6_forget_16 hf
  · have hf := hf.2 c1
    refine go_iload_n (pc := 4) C dX6_forget_4 1 rfl rfl ?_
    refine go_aload_n (pc := 5) C dX6_forget_5 0 rfl rfl ?_
    refine ge_X6_X6_3 (pc := 6) C dX6_forget_6 ?_
    refine ge_X6_X4_2 (pc := 9) C dX6_forget_9 ?_
    refine go_ic_le (pc := 12) C dX6_forget_12 17 (by decide) (fun c2 => ?_) (fun c2 => ?_)
    · have hf := hf.1 c2
      refine go_aload_n (pc := 17) C dX6_forget_17 0 rfl rfl ?_
      refine ge_X6_X6_3 (pc := 18) C dX6_forget_18 ?_
      refine ge_X6_X4_2 (pc := 21) C dX6_forget_21 ?_
      refine go_nI (fun x3 e4 => ?_)
      have hf := hf x3 e4
      refine go_istore_n (pc := 24) C dX6_forget_24 [(2, .int x3), (0, .ref ((tq_la X).1 27 0)), (1, .int p1)] rfl (by decide) rfl ?_
      refine go_aload_n (pc := 25) C dX6_forget_25 1 rfl rfl ?_
      refine ge_X6_X6_3 (pc := 26) C dX6_forget_26 ?_
      refine go_iload_n (pc := 29) C dX6_forget_29 2 rfl rfl ?_
      refine pu_X6_X4_2 (pc := 30) C dX6_forget_30 (fun S5 e6 => ?_)
      have hf := hf S5 e6
      refine go_iload_n (pc := 33) C dX6_forget_33 0 rfl rfl ?_
      exact hR _ _ _ _ dX6_forget_34 hf
    · have hf := hf.2 c2
      refine go_iconst (pc := 15) (v := (-1)) C dX6_forget_15 (by decide) ?_
      exact hR _ _ _ _ dX6_forget_16 hf
set_option maxRecDepth 100000 in
set_option maxHeartbeats 4000000 in
theorem ok_X6_forget {p1 : Int32} {S : tq_St} {K : Int32 → tq_St → Prop} (hf : wp_X6_forget p1 S K) : tq_Mi yX6_forget cX6_forget 3 (some .int) 1 (fun a z => [.ref (a.1 27 0), .int p1]) S K :=
  tq_mkI (by decide) (fun _ _ => Nat.le_of_ble_eq_true rfl) (fun X C hR => wk_X6_forget C hR  hf)
set_option maxRecDepth 100000 in
set_option maxHeartbeats 4000000 in
theorem wk_X6_goneByChangedPlan {X : tq_Cx} {p1 : Int32} {p2 : Int32} {S : tq_St} {K : Int32 → tq_St → Prop} (C : tq_C X cX6_goneByChangedPlan 3 RX6 7) (hR : tq_Ri X cX6_goneByChangedPlan 3 K) (hf : wp_X6_goneByChangedPlan p1 p2 S K) : Go X 3 S 0 [(0, .ref ((tq_la X).1 27 0)), (1, .int p1), (2, .int p2)] [] := by
  refine go_aload_n (pc := 0) C dX6_goneByChangedPlan_0 0 rfl rfl ?_
  refine ge_X6_X6_1 (pc := 1) C dX6_goneByChangedPlan_1 ?_
  refine go_aload_n (pc := 4) C dX6_goneByChangedPlan_4 0 rfl rfl ?_
  refine ge_X6_X6_0 (pc := 5) C dX6_goneByChangedPlan_5 ?_
  refine go_cVv (pc := 8) C cw_X6_163 (ok_X1_startFrom (by decide) (by decide) hf) (rc_X1 C (by decide)) rfl rfl rfl (by decide) rfl dX6_goneByChangedPlan_8 (fun S2 hf => ?_)
  refine go_aload_n (pc := 11) C dX6_goneByChangedPlan_11 0 rfl rfl ?_
  refine ge_X6_X6_1 (pc := 12) C dX6_goneByChangedPlan_12 ?_
  refine go_iload_n (pc := 15) C dX6_goneByChangedPlan_15 1 rfl rfl ?_
  refine go_iload_n (pc := 16) C dX6_goneByChangedPlan_16 2 rfl rfl ?_
  refine go_cVv (pc := 17) C cw_X6_275 (ok_X1_changeActs (by decide) hf) (rc_X1 C (by decide)) rfl rfl rfl (by decide) rfl dX6_goneByChangedPlan_17 (fun S5 hf => ?_)
  refine go_aload_n (pc := 20) C dX6_goneByChangedPlan_20 0 rfl rfl ?_
  refine ge_X6_X6_1 (pc := 21) C dX6_goneByChangedPlan_21 ?_
  refine go_cVv (pc := 24) C cw_X6_166 (ok_X1_followPlan (by decide) hf) (rc_X1 C (by decide)) rfl rfl rfl (by decide) rfl dX6_goneByChangedPlan_24 (fun S8 hf => ?_)
  refine go_aload_n (pc := 27) C dX6_goneByChangedPlan_27 0 rfl rfl ?_
  refine ge_X6_X6_1 (pc := 28) C dX6_goneByChangedPlan_28 ?_
  refine ge_X6_X1_6 (pc := 31) C (by decide) dX6_goneByChangedPlan_31 ?_
  refine go_cSi (pc := 34) C cs_X6_158 (ok_J6_bitCount_0f7a4 hf) rfl rfl rfl (by decide) rfl dX6_goneByChangedPlan_34 (fun r10 S11 hf => ?_)
  exact hR _ _ _ _ dX6_goneByChangedPlan_37 hf
set_option maxRecDepth 100000 in
set_option maxHeartbeats 4000000 in
theorem ok_X6_goneByChangedPlan {p1 : Int32} {p2 : Int32} {S : tq_St} {K : Int32 → tq_St → Prop} (hf : wp_X6_goneByChangedPlan p1 p2 S K) : tq_Mi yX6_goneByChangedPlan cX6_goneByChangedPlan 3 (some .int) 7 (fun a z => [.ref (a.1 27 0), .int p1, .int p2]) S K :=
  tq_mkI (by decide) (fun _ _ => Nat.le_of_ble_eq_true rfl) (fun X C hR => wk_X6_goneByChangedPlan C hR  hf)
set_option maxRecDepth 100000 in
set_option maxHeartbeats 4000000 in
theorem wk_X6_greatestDivisor_3 {X : tq_Cx} {K : Int64 → tq_St → Prop} (C : tq_C X cX6_greatestDivisor 7 RX6 1) (hR : tq_Rl X cX6_greatestDivisor 7 K) : ∀ (n : Nat) (v0 : Int64) (v2 : Int64) (v4 : Int32) (S : tq_St), wp_X6_greatestDivisor_3 K n v0 v2 v4 S → Go X 7 S 3 [(0, .long v0), (2, .long v2), (4, .int v4)] [] := by
  intro n
  induction n with
  | zero => intros; contradiction
  | succ n ih =>
    intro v0 v2 v4 S hf
    refine go_iload (pc := 3) C dX6_greatestDivisor_3 2 rfl ?_
    refine go_sipush (pc := 5) (v := 200) C dX6_greatestDivisor_5 (by decide) ?_
    refine go_ic_ge (pc := 8) C dX6_greatestDivisor_8 33 (by decide) (fun c1 => ?_) (fun c1 => ?_)
    · have hf := hf.1 c1
      refine go_lload_n (pc := 33) C dX6_greatestDivisor_33 0 rfl rfl ?_
      exact hR _ _ _ _ dX6_greatestDivisor_34 hf
    · have hf := hf.2 c1
      refine go_lload_n (pc := 11) C dX6_greatestDivisor_11 1 rfl rfl ?_
      refine go_lconst (pc := 12) (v := 0) C dX6_greatestDivisor_12 (by decide) ?_
      refine go_lcmp (pc := 13) C dX6_greatestDivisor_13 ?_
      refine go_if_eq (pc := 14) C dX6_greatestDivisor_14 33 (by decide) (fun c2 => ?_) (fun c2 => ?_)
      · have hf := hf.1 c2
        refine go_lload_n (pc := 33) C dX6_greatestDivisor_33 0 rfl rfl ?_
        exact hR _ _ _ _ dX6_greatestDivisor_34 hf
      · have hf := hf.2 c2
        refine go_lload_n (pc := 17) C dX6_greatestDivisor_17 0 rfl rfl ?_
        refine go_lload_n (pc := 18) C dX6_greatestDivisor_18 1 rfl rfl ?_
        refine go_lrem (pc := 19) C dX6_greatestDivisor_19 hf.1 ?_
        have hf := hf.2
        refine go_nL (fun x3 e4 => ?_)
        have hf := hf x3 e4
        refine go_lstore (pc := 20) C dX6_greatestDivisor_20 [(5, .long x3), (0, .long v0), (2, .long v2), (4, .int v4)] (by decide) rfl ?_
        refine go_lload_n (pc := 22) C dX6_greatestDivisor_22 2 rfl rfl ?_
        refine go_lstore_n (pc := 23) C dX6_greatestDivisor_23 [(0, .long v2), (5, .long x3), (2, .long v2), (4, .int v4)] rfl (by decide) rfl ?_
        refine go_lload (pc := 24) C dX6_greatestDivisor_24 1 rfl ?_
        refine go_lstore_n (pc := 26) C dX6_greatestDivisor_26 [(2, .long x3), (0, .long v2), (5, .long x3), (4, .int v4)] rfl (by decide) rfl ?_
        obtain ⟨x5, e6⟩ : ∃ q9 : Int32, q9 = v4 + 1 := ⟨_, rfl⟩
        refine go_iinc (pc := 27) (j := 3) (v := x5) C dX6_greatestDivisor_27 [(4, .int x5), (2, .long x3), (0, .long v2), (5, .long x3)] rfl (by rw [e6]; rfl) (by decide) rfl ?_
        have hf := hf x5 e6
        refine go_goto (pc := 30) C dX6_greatestDivisor_30 3 (by decide) ?_
        exact go_sub [2, 1, 0] rfl (ih _ _ _ _ hf)
set_option maxRecDepth 100000 in
set_option maxHeartbeats 4000000 in
theorem wk_X6_greatestDivisor {X : tq_Cx} {p0 : Int64} {p2 : Int64} {S : tq_St} {K : Int64 → tq_St → Prop} (C : tq_C X cX6_greatestDivisor 7 RX6 1) (hR : tq_Rl X cX6_greatestDivisor 7 K) (hf : wp_X6_greatestDivisor p0 p2 S K) : Go X 7 S 0 [(0, .long p0), (2, .long p2)] [] := by
  refine go_iconst (pc := 0) (v := 0) C dX6_greatestDivisor_0 (by decide) ?_
  refine go_istore (pc := 1) C dX6_greatestDivisor_1 [(4, .int 0), (0, .long p0), (2, .long p2)] (by decide) rfl ?_
  exact go_sub [1, 2, 0] rfl (wk_X6_greatestDivisor_3 C hR 2000 _ _ _ _ hf)
set_option maxRecDepth 100000 in
set_option maxHeartbeats 4000000 in
theorem ok_X6_greatestDivisor {p0 : Int64} {p2 : Int64} {S : tq_St} {K : Int64 → tq_St → Prop} (hf : wp_X6_greatestDivisor p0 p2 S K) : tq_Ml yX6_greatestDivisor cX6_greatestDivisor 7 (some .long) 1 (fun a z => [.long p0, .long p2]) S K :=
  tq_mkL (by decide) (fun _ _ => Nat.le_of_ble_eq_true rfl) (fun X C hR => wk_X6_greatestDivisor C hR  hf)
set_option maxRecDepth 100000 in
set_option maxHeartbeats 4000000 in
theorem wk_X6_home_39 {X : tq_Cx} {K : Int32 → tq_St → Prop} (C : tq_C X cX6_home 4 RX6 20) (hR : tq_Ri X cX6_home 4 K) : ∀ (v1 : Int32) (v2 : Int32) (v3 : Int32) (S : tq_St), wp_X6_home_39 K v1 v2 v3 S → Go X 4 S 39 [(0, .ref ((tq_la X).1 27 0)), (1, .int v1), (2, .int v2), (3, .int v3)] [] := by
  intro v1 v2 v3 S hf
  refine go_aload_n (pc := 39) C dX6_home_39 0 rfl rfl ?_
  refine ge_X6_X6_0 (pc := 40) C dX6_home_40 ?_
  refine go_iload_n (pc := 43) C dX6_home_43 1 rfl rfl ?_
  refine go_cVi (pc := 44) C cw_X6_128 (ok_X1_waits (by decide) hf) (rc_X1 C (by decide)) rfl rfl rfl (by decide) rfl dX6_home_44 (fun r7 S8 hf => ?_)
  refine go_if_ne (pc := 47) C dX6_home_47 53 (by decide) (fun c10 => ?_) (fun c10 => ?_)
  · have hf := hf.1 c10
    refine go_aload_n (pc := 53) C dX6_home_53 0 rfl rfl ?_
    refine ge_X6_X6_4 (pc := 54) C dX6_home_54 ?_
    refine go_aload_n (pc := 57) C dX6_home_57 0 rfl rfl ?_
    refine ge_X6_X6_0 (pc := 58) C dX6_home_58 ?_
    refine go_iload_n (pc := 61) C dX6_home_61 1 rfl rfl ?_
    refine go_cVi (pc := 62) C cw_X6_194 (ok_X2_findWayHome (by decide) hf) (rc_X2 C) rfl rfl rfl (by decide) rfl dX6_home_62 (fun r11 S12 hf => ?_)
    refine go_if_ne (pc := 65) C dX6_home_65 71 (by decide) (fun c14 => ?_) (fun c14 => ?_)
    · have hf := hf.1 c14
      refine go_iload_n (pc := 71) C dX6_home_71 3 rfl rfl ?_
      refine go_if_eq (pc := 72) C dX6_home_72 89 (by decide) (fun c15 => ?_) (fun c15 => ?_)
      · have hf := hf.1 c15
        refine go_aload_n (pc := 89) C dX6_home_89 0 rfl rfl ?_
        refine ge_X6_X6_4 (pc := 90) C dX6_home_90 ?_
        refine ge_X6_X2_3 (pc := 93) C dX6_home_93 ?_
        exact hR _ _ _ _ dX6_home_96 hf
      · have hf := hf.2 c15
        refine go_aload_n (pc := 75) C dX6_home_75 0 rfl rfl ?_
        refine ge_X6_X6_4 (pc := 76) C dX6_home_76 ?_
        refine go_iload_n (pc := 79) C dX6_home_79 2 rfl rfl ?_
        refine go_bipush (pc := 80) (v := 10) C dX6_home_80 (by decide) ?_
        refine go_isub (pc := 82) C dX6_home_82 ?_
        refine go_cVi (pc := 83) C cw_X6_185 (ok_X2_foundAt hf) (rc_X2 C) rfl rfl rfl (by decide) rfl dX6_home_83 (fun r16 S17 hf => ?_)
        refine go_goto (pc := 86) C dX6_home_86 96 (by decide) ?_
        exact hR _ _ _ _ dX6_home_96 hf
    · have hf := hf.2 c14
      refine go_bipush (pc := 68) (v := (-4)) C dX6_home_68 (by decide) ?_
      exact hR _ _ _ _ dX6_home_70 hf
  · have hf := hf.2 c10
    refine go_bipush (pc := 50) (v := (-2)) C dX6_home_50 (by decide) ?_
    exact hR _ _ _ _ dX6_home_52 hf
set_option maxRecDepth 100000 in
set_option maxHeartbeats 4000000 in
theorem wk_X6_home_17 {X : tq_Cx} {K : Int32 → tq_St → Prop} (C : tq_C X cX6_home 4 RX6 20) (hR : tq_Ri X cX6_home 4 K) : ∀ (v1 : Int32) (v2 : Int32) (w0 : Int32) (S : tq_St), wp_X6_home_17 K v1 v2 w0 S → Go X 4 S 17 [(0, .ref ((tq_la X).1 27 0)), (1, .int v1), (2, .int v2)] [.int w0] := by
  intro v1 v2 w0 S hf
  refine go_istore_n (pc := 17) C dX6_home_17 [(3, .int w0), (0, .ref ((tq_la X).1 27 0)), (1, .int v1), (2, .int v2)] rfl (by decide) rfl ?_
  refine go_aload_n (pc := 18) C dX6_home_18 1 rfl rfl ?_
  refine ge_X6_X6_0 (pc := 19) C dX6_home_19 ?_
  refine go_iload_n (pc := 22) C dX6_home_22 2 rfl rfl ?_
  refine go_cVi (pc := 23) C cw_X6_112 (ok_X1_isThere (by decide) hf) (rc_X1 C (by decide)) rfl rfl rfl (by decide) rfl dX6_home_23 (fun r2 S3 hf => ?_)
  refine go_if_eq (pc := 26) C dX6_home_26 37 (by decide) (fun c5 => ?_) (fun c5 => ?_)
  · have hf := hf.1 c5
    refine go_iconst (pc := 37) (v := (-1)) C dX6_home_37 (by decide) ?_
    exact hR _ _ _ _ dX6_home_38 hf
  · have hf := hf.2 c5
    refine go_iload_n (pc := 29) C dX6_home_29 3 rfl rfl ?_
    refine go_if_eq (pc := 30) C dX6_home_30 39 (by decide) (fun c6 => ?_) (fun c6 => ?_)
    · have hf := hf.1 c6
      exact go_sub [1, 2, 3, 0] rfl (wk_X6_home_39 C hR _ _ _ _ hf)
    · have hf := hf.2 c6
      refine go_iload_n (pc := 33) C dX6_home_33 0 rfl rfl ?_
      refine go_if_ne (pc := 34) C dX6_home_34 39 (by decide) (fun c19 => ?_) (fun c19 => ?_)
      · have hf := hf.1 c19
        exact go_sub [1, 2, 3, 0] rfl (wk_X6_home_39 C hR _ _ _ _ hf)
      · have hf := hf.2 c19
        refine go_iconst (pc := 37) (v := (-1)) C dX6_home_37 (by decide) ?_
        exact hR _ _ _ _ dX6_home_38 hf
set_option maxRecDepth 100000 in
set_option maxHeartbeats 4000000 in
theorem wk_X6_home_16 {X : tq_Cx} {K : Int32 → tq_St → Prop} (C : tq_C X cX6_home 4 RX6 20) (hR : tq_Ri X cX6_home 4 K) : ∀ (v1 : Int32) (v2 : Int32) (S : tq_St), wp_X6_home_16 K v1 v2 S → Go X 4 S 16 [(0, .ref ((tq_la X).1 27 0)), (1, .int v1), (2, .int v2)] [] := by
  intro v1 v2 S hf
  refine go_iconst (pc := 16) (v := 0) C dX6_home_16 (by decide) ?_
  exact go_sub [0, 1, 2] rfl (wk_X6_home_17 C hR _ _ _ _ hf)
set_option maxRecDepth 100000 in
set_option maxHeartbeats 4000000 in
theorem wk_X6_home {X : tq_Cx} {p1 : Int32} {p2 : Int32} {S : tq_St} {K : Int32 → tq_St → Prop} (C : tq_C X cX6_home 4 RX6 20) (hR : tq_Ri X cX6_home 4 K) (hf : wp_X6_home p1 p2 S K) : Go X 4 S 0 [(0, .ref ((tq_la X).1 27 0)), (1, .int p1), (2, .int p2)] [] := by
  refine go_iload_n (pc := 0) C dX6_home_0 2 rfl rfl ?_
  refine go_bipush (pc := 1) (v := 10) C dX6_home_1 (by decide) ?_
  refine go_ic_lt (pc := 3) C dX6_home_3 16 (by decide) (fun c1 => ?_) (fun c1 => ?_)
  · have hf := hf.1 c1
    exact go_sub [0, 1, 2] rfl (wk_X6_home_16 C hR _ _ _ hf)
  · have hf := hf.2 c1
    refine go_iload_n (pc := 6) C dX6_home_6 2 rfl rfl ?_
    refine go_bipush (pc := 7) (v := 13) C dX6_home_7 (by decide) ?_
    refine go_ic_ge (pc := 9) C dX6_home_9 16 (by decide) (fun c20 => ?_) (fun c20 => ?_)
    · have hf := hf.1 c20
      exact go_sub [0, 1, 2] rfl (wk_X6_home_16 C hR _ _ _ hf)
    · have hf := hf.2 c20
      refine go_iconst (pc := 12) (v := 1) C dX6_home_12 (by decide) ?_
      refine go_goto (pc := 13) C dX6_home_13 17 (by decide) ?_
      exact go_sub [0, 1, 2] rfl (wk_X6_home_17 C hR _ _ _ _ hf)
set_option maxRecDepth 100000 in
set_option maxHeartbeats 4000000 in
theorem ok_X6_home {p1 : Int32} {p2 : Int32} {S : tq_St} {K : Int32 → tq_St → Prop} (hf : wp_X6_home p1 p2 S K) : tq_Mi yX6_home cX6_home 4 (some .int) 20 (fun a z => [.ref (a.1 27 0), .int p1, .int p2]) S K :=
  tq_mkI (by decide) (fun _ _ => Nat.le_of_ble_eq_true rfl) (fun X C hR => wk_X6_home C hR  hf)
set_option maxRecDepth 100000 in
set_option maxHeartbeats 4000000 in
theorem wk_X6_isLane {X : tq_Cx} {p0 : Int32} {S : tq_St} {K : Int32 → tq_St → Prop} (C : tq_C X cX6_isLane 1 RX6 1) (hR : tq_Rz X cX6_isLane 1 K) (hf : wp_X6_isLane p0 S K) : Go X 1 S 0 [(0, .int p0)] [] := by
  refine go_iload_n (pc := 0) C dX6_isLane_0 0 rfl rfl ?_
  refine go_if_lt (pc := 1) C dX6_isLane_1 13 (by decide) (fun c1 => ?_) (fun c1 => ?_)
  · have hf := hf.1 c1
    refine go_iconst (pc := 13) (v := 0) C dX6_isLane_13 (by decide) ?_
    exact hR _ _ _ _ dX6_isLane_14 (Or.inl rfl) hf
  · have hf := hf.2 c1
    refine go_iload_n (pc := 4) C dX6_isLane_4 0 rfl rfl ?_
    refine go_iconst (pc := 5) (v := 3) C dX6_isLane_5 (by decide) ?_
    refine go_ic_ge (pc := 6) C dX6_isLane_6 13 (by decide) (fun c2 => ?_) (fun c2 => ?_)
    · have hf := hf.1 c2
      refine go_iconst (pc := 13) (v := 0) C dX6_isLane_13 (by decide) ?_
      exact hR _ _ _ _ dX6_isLane_14 (Or.inl rfl) hf
    · have hf := hf.2 c2
      refine go_iconst (pc := 9) (v := 1) C dX6_isLane_9 (by decide) ?_
      refine go_goto (pc := 10) C dX6_isLane_10 14 (by decide) ?_
      exact hR _ _ _ _ dX6_isLane_14 (Or.inr rfl) hf
set_option maxRecDepth 100000 in
set_option maxHeartbeats 4000000 in
theorem ok_X6_isLane {p0 : Int32} {S : tq_St} {K : Int32 → tq_St → Prop} (hf : wp_X6_isLane p0 S K) : tq_Mi yX6_isLane cX6_isLane 1 (some .boolean) 1 (fun a z => [.int p0]) S K :=
  tq_mkZ (by decide) (fun _ _ => Nat.le_of_ble_eq_true rfl) (fun X C hR => wk_X6_isLane C hR  hf)
set_option maxRecDepth 100000 in
set_option maxHeartbeats 4000000 in
theorem wk_X6_isSheet {X : tq_Cx} {p0 : Int32} {S : tq_St} {K : Int32 → tq_St → Prop} (C : tq_C X cX6_isSheet 1 RX6 1) (hR : tq_Rz X cX6_isSheet 1 K) (hf : wp_X6_isSheet p0 S K) : Go X 1 S 0 [(0, .int p0)] [] := by
  refine go_iload_n (pc := 0) C dX6_isSheet_0 0 rfl rfl ?_
  refine go_if_lt (pc := 1) C dX6_isSheet_1 13 (by decide) (fun c1 => ?_) (fun c1 => ?_)
  · have hf := hf.1 c1
    refine go_iconst (pc := 13) (v := 0) C dX6_isSheet_13 (by decide) ?_
    exact hR _ _ _ _ dX6_isSheet_14 (Or.inl rfl) hf
  · have hf := hf.2 c1
    refine go_iload_n (pc := 4) C dX6_isSheet_4 0 rfl rfl ?_
    refine go_iconst (pc := 5) (v := 4) C dX6_isSheet_5 (by decide) ?_
    refine go_ic_ge (pc := 6) C dX6_isSheet_6 13 (by decide) (fun c2 => ?_) (fun c2 => ?_)
    · have hf := hf.1 c2
      refine go_iconst (pc := 13) (v := 0) C dX6_isSheet_13 (by decide) ?_
      exact hR _ _ _ _ dX6_isSheet_14 (Or.inl rfl) hf
    · have hf := hf.2 c2
      refine go_iconst (pc := 9) (v := 1) C dX6_isSheet_9 (by decide) ?_
      refine go_goto (pc := 10) C dX6_isSheet_10 14 (by decide) ?_
      exact hR _ _ _ _ dX6_isSheet_14 (Or.inr rfl) hf
set_option maxRecDepth 100000 in
set_option maxHeartbeats 4000000 in
theorem ok_X6_isSheet {p0 : Int32} {S : tq_St} {K : Int32 → tq_St → Prop} (hf : wp_X6_isSheet p0 S K) : tq_Mi yX6_isSheet cX6_isSheet 1 (some .boolean) 1 (fun a z => [.int p0]) S K :=
  tq_mkZ (by decide) (fun _ _ => Nat.le_of_ble_eq_true rfl) (fun X C hR => wk_X6_isSheet C hR  hf)
set_option maxRecDepth 100000 in
set_option maxHeartbeats 4000000 in
theorem wk_X6_joy {X : tq_Cx} {p1 : Int32} {S : tq_St} {K : Int32 → tq_St → Prop} (C : tq_C X cX6_joy 3 RX6 2) (hR : tq_Ri X cX6_joy 3 K) (hf : wp_X6_joy p1 S K) : Go X 3 S 0 [(0, .ref ((tq_la X).1 27 0)), (1, .int p1)] [] := by
  refine go_aload_n (pc := 0) C dX6_joy_0 0 rfl rfl ?_
  refine ge_X6_X6_0 (pc := 1) C dX6_joy_1 ?_
  refine go_iload_n (pc := 4) C dX6_joy_4 1 rfl rfl ?_
  refine go_cVi (pc := 5) C cw_X6_112 (ok_X1_isThere (by decide) hf) (rc_X1 C (by decide)) rfl rfl rfl (by decide) rfl dX6_joy_5 (fun r1 S2 hf => ?_)
  refine go_if_ne (pc := 8) C dX6_joy_8 13 (by decide) (fun c4 => ?_) (fun c4 => ?_)
  · have hf := hf.1 c4
    refine go_aload_n (pc := 13) C dX6_joy_13 0 rfl rfl ?_
    refine ge_X6_X6_0 (pc := 14) C dX6_joy_14 ?_
    refine go_iload_n (pc := 17) C dX6_joy_17 1 rfl rfl ?_
    refine go_cVi (pc := 18) C cw_X6_128 (ok_X1_waits (by decide) hf) (rc_X1 C (by decide)) rfl rfl rfl (by decide) rfl dX6_joy_18 (fun r5 S6 hf => ?_)
    refine go_if_ne (pc := 21) C dX6_joy_21 27 (by decide) (fun c8 => ?_) (fun c8 => ?_)
    · have hf := hf.1 c8
      refine go_aload_n (pc := 27) C dX6_joy_27 0 rfl rfl ?_
      refine ge_X6_X6_0 (pc := 28) C dX6_joy_28 ?_
      refine ge_X6_X1_1 (pc := 31) C (by decide) dX6_joy_31 ?_
      refine go_iload_n (pc := 34) C dX6_joy_34 1 rfl rfl ?_
      refine al_X1_1 (pc := 35) C (by decide) hf.1 dX6_joy_35 ?_
      have hf := hf.2
      refine go_nI (fun x9 e10 => ?_)
      have hf := hf x9 e10
      refine go_istore_n (pc := 36) C dX6_joy_36 [(2, .int x9), (0, .ref ((tq_la X).1 27 0)), (1, .int p1)] rfl (by decide) rfl ?_
      refine go_aload_n (pc := 37) C dX6_joy_37 1 rfl rfl ?_
      refine ge_X6_X6_0 (pc := 38) C dX6_joy_38 ?_
      refine ge_X6_X1_1 (pc := 41) C (by decide) dX6_joy_41 ?_
      refine go_iload_n (pc := 44) C dX6_joy_44 2 rfl rfl ?_
      refine go_iconst (pc := 45) (v := 0) C dX6_joy_45 (by decide) ?_
      refine as_X1_1 (pc := 46) C (by decide) hf.1 dX6_joy_46 (fun S11 e12 => ?_)
      have hf := hf.2 S11 e12
      refine go_aload_n (pc := 47) C dX6_joy_47 1 rfl rfl ?_
      refine ge_X6_X6_0 (pc := 48) C dX6_joy_48 ?_
      refine ge_X6_X1_2 (pc := 51) C (by decide) dX6_joy_51 ?_
      refine go_iload_n (pc := 54) C dX6_joy_54 2 rfl rfl ?_
      refine go_iconst (pc := 55) (v := (-1)) C dX6_joy_55 (by decide) ?_
      refine as_X1_2 (pc := 56) C (by decide) hf.1 dX6_joy_56 (fun S13 e14 => ?_)
      have hf := hf.2 S13 e14
      refine go_iload_n (pc := 57) C dX6_joy_57 0 rfl rfl ?_
      exact hR _ _ _ _ dX6_joy_58 hf
    · have hf := hf.2 c8
      refine go_bipush (pc := 24) (v := (-2)) C dX6_joy_24 (by decide) ?_
      exact hR _ _ _ _ dX6_joy_26 hf
  · have hf := hf.2 c4
    refine go_iconst (pc := 11) (v := (-1)) C dX6_joy_11 (by decide) ?_
    exact hR _ _ _ _ dX6_joy_12 hf
set_option maxRecDepth 100000 in
set_option maxHeartbeats 4000000 in
theorem ok_X6_joy {p1 : Int32} {S : tq_St} {K : Int32 → tq_St → Prop} (hf : wp_X6_joy p1 S K) : tq_Mi yX6_joy cX6_joy 3 (some .int) 2 (fun a z => [.ref (a.1 27 0), .int p1]) S K :=
  tq_mkI (by decide) (fun _ _ => Nat.le_of_ble_eq_true rfl) (fun X C hR => wk_X6_joy C hR  hf)
set_option maxRecDepth 100000 in
set_option maxHeartbeats 4000000 in
theorem wk_X6_keep_25 {X : tq_Cx} {K : Int32 → tq_St → Prop} (C : tq_C X cX6_keep 3 RX6 2) (hR : tq_Ri X cX6_keep 3 K) : ∀ (v1 : Int32) (w0 : Int32) (S : tq_St), wp_X6_keep_25 K v1 w0 S → Go X 3 S 25 [(0, .ref ((tq_la X).1 27 0)), (1, .int v1)] [.int w0] := by
  intro v1 w0 S hf
  refine go_istore_n (pc := 25) C dX6_keep_25 [(2, .int w0), (0, .ref ((tq_la X).1 27 0)), (1, .int v1)] rfl (by decide) rfl ?_
  refine go_aload_n (pc := 26) C dX6_keep_26 1 rfl rfl ?_
  refine ge_X6_X6_6 (pc := 27) C dX6_keep_27 ?_
  refine go_iload_n (pc := 30) C dX6_keep_30 2 rfl rfl ?_
  refine al_X6_6 (pc := 31) C hf.1 dX6_keep_31 ?_
  have h4 : 17 + (v1 : Int32).toNatClampNeg < 19 := tq_le hf.1 (by decide)
  have hf := hf.2
  refine go_aload_n (pc := 32) C dX6_keep_32 1 rfl rfl ?_
  refine ge_X6_X6_0 (pc := 33) C dX6_keep_33 ?_
  refine go_cVv (pc := 36) C cw_X6_84 (ok_X1_copyFrom h4 (by decide) hf) (rc_X1 C h4) rfl rfl rfl (by decide) rfl dX6_keep_36 (fun S6 hf => ?_)
  refine go_aload_n (pc := 39) C dX6_keep_39 1 rfl rfl ?_
  refine ge_X6_X6_7 (pc := 40) C dX6_keep_40 ?_
  refine go_iload_n (pc := 43) C dX6_keep_43 2 rfl rfl ?_
  refine go_iconst (pc := 44) (v := 1) C dX6_keep_44 (by decide) ?_
  refine as_X6_7 (pc := 45) C hf.1 dX6_keep_45 (fun S8 e9 => ?_)
  have hf := hf.2 S8 e9
  refine go_iload_n (pc := 46) C dX6_keep_46 0 rfl rfl ?_
  exact hR _ _ _ _ dX6_keep_47 hf
set_option maxRecDepth 100000 in
set_option maxHeartbeats 4000000 in
theorem wk_X6_keep {X : tq_Cx} {p1 : Int32} {S : tq_St} {K : Int32 → tq_St → Prop} (C : tq_C X cX6_keep 3 RX6 2) (hR : tq_Ri X cX6_keep 3 K) (hf : wp_X6_keep p1 S K) : Go X 3 S 0 [(0, .ref ((tq_la X).1 27 0)), (1, .int p1)] [] := by
  refine go_iload_n (pc := 0) C dX6_keep_0 1 rfl rfl ?_
  refine go_if_lt (pc := 1) C dX6_keep_1 9 (by decide) (fun c1 => ?_) (fun c1 => ?_)
  · have hf := hf.1 c1
    refine go_iconst (pc := 9) (v := (-1)) C dX6_keep_9 (by decide) ?_
    exact hR _ _ _ _ dX6_keep_10 hf
  · have hf := hf.2 c1
    refine go_iload_n (pc := 4) C dX6_keep_4 1 rfl rfl ?_
    refine go_iconst (pc := 5) (v := 2) C dX6_keep_5 (by decide) ?_
    refine go_ic_lt (pc := 6) C dX6_keep_6 11 (by decide) (fun c2 => ?_) (fun c2 => ?_)
    · have hf := hf.1 c2
      refine go_aload_n (pc := 11) C dX6_keep_11 0 rfl rfl ?_
      refine ge_X6_X6_7 (pc := 12) C dX6_keep_12 ?_
      refine go_iload_n (pc := 15) C dX6_keep_15 1 rfl rfl ?_
      refine al_X6_7 (pc := 16) C hf.1 dX6_keep_16 ?_
      have hf := hf.2
      refine go_if_eq (pc := 17) C dX6_keep_17 24 (by decide) (fun c3 => ?_) (fun c3 => ?_)
      · have hf := hf.1 c3
        refine go_iconst (pc := 24) (v := 0) C dX6_keep_24 (by decide) ?_
        exact go_sub [0, 1] rfl (wk_X6_keep_25 C hR _ _ _ hf)
      · have hf := hf.2 c3
        refine go_iconst (pc := 20) (v := 1) C dX6_keep_20 (by decide) ?_
        refine go_goto (pc := 21) C dX6_keep_21 25 (by decide) ?_
        exact go_sub [0, 1] rfl (wk_X6_keep_25 C hR _ _ _ hf)
    · have hf := hf.2 c2
      refine go_iconst (pc := 9) (v := (-1)) C dX6_keep_9 (by decide) ?_
      exact hR _ _ _ _ dX6_keep_10 hf
set_option maxRecDepth 100000 in
set_option maxHeartbeats 4000000 in
theorem ok_X6_keep {p1 : Int32} {S : tq_St} {K : Int32 → tq_St → Prop} (hf : wp_X6_keep p1 S K) : tq_Mi yX6_keep cX6_keep 3 (some .int) 2 (fun a z => [.ref (a.1 27 0), .int p1]) S K :=
  tq_mkI (by decide) (fun _ _ => Nat.le_of_ble_eq_true rfl) (fun X C hR => wk_X6_keep C hR  hf)
set_option maxRecDepth 100000 in
set_option maxHeartbeats 4000000 in
theorem wk_X6_kinds_17 {X : tq_Cx} {K : Int32 → tq_St → Prop} (C : tq_C X cX6_kinds 4 RX6 7) (hR : tq_Ri X cX6_kinds 4 K) : ∀ (n : Nat) (v1 : Int32) (v2 : Int32) (v3 : Int32) (S : tq_St), wp_X6_kinds_17 K n v1 v2 v3 S → Go X 4 S 17 [(0, .ref ((tq_la X).1 27 0)), (1, .int v1), (2, .int v2), (3, .int v3)] [] := by
  intro n
  induction n with
  | zero => intros; contradiction
  | succ n ih =>
    intro v1 v2 v3 S hf
    refine go_iload_n (pc := 17) C dX6_kinds_17 3 rfl rfl ?_
    refine go_iconst (pc := 18) (v := 4) C dX6_kinds_18 (by decide) ?_
    refine go_ic_ge (pc := 19) C dX6_kinds_19 79 (by decide) (fun c5 => ?_) (fun c5 => ?_)
    · have hf := hf.1 c5
      refine go_iload_n (pc := 79) C dX6_kinds_79 2 rfl rfl ?_
      exact hR _ _ _ _ dX6_kinds_80 hf
    · have hf := hf.2 c5
      refine go_aload_n (pc := 22) C dX6_kinds_22 0 rfl rfl ?_
      refine ge_X6_X6_1 (pc := 23) C dX6_kinds_23 ?_
      refine go_aload_n (pc := 26) C dX6_kinds_26 0 rfl rfl ?_
      refine ge_X6_X6_0 (pc := 27) C dX6_kinds_27 ?_
      refine go_cVv (pc := 30) C cw_X6_163 (ok_X1_startFrom (by decide) (by decide) hf) (rc_X1 C (by decide)) rfl rfl rfl (by decide) rfl dX6_kinds_30 (fun S7 hf => ?_)
      refine go_aload_n (pc := 33) C dX6_kinds_33 0 rfl rfl ?_
      refine ge_X6_X6_1 (pc := 34) C dX6_kinds_34 ?_
      refine ge_X6_X1_0 (pc := 37) C (by decide) dX6_kinds_37 ?_
      refine go_iload_n (pc := 40) C dX6_kinds_40 1 rfl rfl ?_
      refine go_iload_n (pc := 41) C dX6_kinds_41 3 rfl rfl ?_
      refine as_X1_0 (pc := 42) C (by decide) hf.1 dX6_kinds_42 (fun S9 e10 => ?_)
      have hf := hf.2 S9 e10
      refine go_aload_n (pc := 43) C dX6_kinds_43 0 rfl rfl ?_
      refine ge_X6_X6_1 (pc := 44) C dX6_kinds_44 ?_
      refine go_cVv (pc := 47) C cw_X6_166 (ok_X1_followPlan (by decide) hf) (rc_X1 C (by decide)) rfl rfl rfl (by decide) rfl dX6_kinds_47 (fun S12 hf => ?_)
      refine go_aload_n (pc := 50) C dX6_kinds_50 0 rfl rfl ?_
      refine ge_X6_X6_3 (pc := 51) C dX6_kinds_51 ?_
      refine go_aload_n (pc := 54) C dX6_kinds_54 0 rfl rfl ?_
      refine ge_X6_X6_1 (pc := 55) C dX6_kinds_55 ?_
      refine ge_X6_X1_6 (pc := 58) C (by decide) dX6_kinds_58 ?_
      refine go_cVi (pc := 61) C cw_X6_226 (ok_X4_agreeWith hf) (rc_X4 C) rfl rfl rfl (by decide) rfl dX6_kinds_61 (fun r14 S15 hf => ?_)
      refine go_if_eq (pc := 64) C dX6_kinds_64 73 (by decide) (fun c17 => ?_) (fun c17 => ?_)
      · have hf := hf.1 c17
        obtain ⟨x18, e19⟩ : ∃ q9 : Int32, q9 = v3 + 1 := ⟨_, rfl⟩
        refine go_iinc (pc := 73) (j := 3) (v := x18) C dX6_kinds_73 [(3, .int x18), (0, .ref ((tq_la X).1 27 0)), (1, .int v1), (2, .int v2)] rfl (by rw [e19]; rfl) (by decide) rfl ?_
        have hf := hf x18 e19
        refine go_goto (pc := 76) C dX6_kinds_76 17 (by decide) ?_
        exact go_sub [1, 2, 3, 0] rfl (ih _ _ _ _ hf)
      · have hf := hf.2 c17
        refine go_iload_n (pc := 67) C dX6_kinds_67 2 rfl rfl ?_
        refine go_iconst (pc := 68) (v := 1) C dX6_kinds_68 (by decide) ?_
        refine go_iload_n (pc := 69) C dX6_kinds_69 3 rfl rfl ?_
        refine go_ishl (pc := 70) C dX6_kinds_70 ?_
        refine go_ior (pc := 71) C dX6_kinds_71 ?_
        refine go_nI (fun x20 e21 => ?_)
        have hf := hf x20 e21
        refine go_istore_n (pc := 72) C dX6_kinds_72 [(2, .int x20), (0, .ref ((tq_la X).1 27 0)), (1, .int v1), (3, .int v3)] rfl (by decide) rfl ?_
        obtain ⟨x22, e23⟩ : ∃ q9 : Int32, q9 = v3 + 1 := ⟨_, rfl⟩
        refine go_iinc (pc := 73) (j := 3) (v := x22) C dX6_kinds_73 [(3, .int x22), (2, .int x20), (0, .ref ((tq_la X).1 27 0)), (1, .int v1)] rfl (by rw [e23]; rfl) (by decide) rfl ?_
        have hf := hf x22 e23
        refine go_goto (pc := 76) C dX6_kinds_76 17 (by decide) ?_
        exact go_sub [2, 3, 1, 0] rfl (ih _ _ _ _ hf)
set_option maxRecDepth 100000 in
set_option maxHeartbeats 4000000 in
theorem wk_X6_kinds {X : tq_Cx} {p1 : Int32} {S : tq_St} {K : Int32 → tq_St → Prop} (C : tq_C X cX6_kinds 4 RX6 7) (hR : tq_Ri X cX6_kinds 4 K) (hf : wp_X6_kinds p1 S K) : Go X 4 S 0 [(0, .ref ((tq_la X).1 27 0)), (1, .int p1)] [] := by
  refine go_aload_n (pc := 0) C dX6_kinds_0 0 rfl rfl ?_
  refine ge_X6_X6_0 (pc := 1) C dX6_kinds_1 ?_
  refine go_iload_n (pc := 4) C dX6_kinds_4 1 rfl rfl ?_
  refine go_cVi (pc := 5) C cw_X6_112 (ok_X1_isThere (by decide) hf) (rc_X1 C (by decide)) rfl rfl rfl (by decide) rfl dX6_kinds_5 (fun r1 S2 hf => ?_)
  refine go_if_ne (pc := 8) C dX6_kinds_8 13 (by decide) (fun c4 => ?_) (fun c4 => ?_)
  · have hf := hf.1 c4
    refine go_iconst (pc := 13) (v := 0) C dX6_kinds_13 (by decide) ?_
    refine go_istore_n (pc := 14) C dX6_kinds_14 [(2, .int 0), (0, .ref ((tq_la X).1 27 0)), (1, .int p1)] rfl (by decide) rfl ?_
    refine go_iconst (pc := 15) (v := 0) C dX6_kinds_15 (by decide) ?_
    refine go_istore_n (pc := 16) C dX6_kinds_16 [(3, .int 0), (2, .int 0), (0, .ref ((tq_la X).1 27 0)), (1, .int p1)] rfl (by decide) rfl ?_
    exact go_sub [2, 3, 1, 0] rfl (wk_X6_kinds_17 C hR 2000 _ _ _ _ hf)
  · have hf := hf.2 c4
    refine go_iconst (pc := 11) (v := (-1)) C dX6_kinds_11 (by decide) ?_
    exact hR _ _ _ _ dX6_kinds_12 hf
set_option maxRecDepth 100000 in
set_option maxHeartbeats 4000000 in
theorem ok_X6_kinds {p1 : Int32} {S : tq_St} {K : Int32 → tq_St → Prop} (hf : wp_X6_kinds p1 S K) : tq_Mi yX6_kinds cX6_kinds 4 (some .int) 7 (fun a z => [.ref (a.1 27 0), .int p1]) S K :=
  tq_mkI (by decide) (fun _ _ => Nat.le_of_ble_eq_true rfl) (fun X C hR => wk_X6_kinds C hR  hf)
set_option maxRecDepth 100000 in
set_option maxHeartbeats 4000000 in
theorem wk_X6_lay {X : tq_Cx} {p1 : Int32} {p2 : Int32} {p3 : Int32} {S : tq_St} {K : Int32 → tq_St → Prop} (C : tq_C X cX6_lay 6 RX6 2) (hR : tq_Ri X cX6_lay 6 K) (hf : wp_X6_lay p1 p2 p3 S K) : Go X 6 S 0 [(0, .ref ((tq_la X).1 27 0)), (1, .int p1), (2, .int p2), (3, .int p3)] [] := by
  refine go_iload_n (pc := 0) C dX6_lay_0 1 rfl rfl ?_
  refine go_cSi (pc := 1) C cs_X6_239 (ok_X6_isSheet hf) rfl rfl rfl (by decide) rfl dX6_lay_1 (fun r1 S2 hf => ?_)
  refine go_if_ne (pc := 4) C dX6_lay_4 9 (by decide) (fun c4 => ?_) (fun c4 => ?_)
  · have hf := hf.1 c4
    refine go_aload_n (pc := 9) C dX6_lay_9 0 rfl rfl ?_
    refine ge_X6_X6_8 (pc := 10) C dX6_lay_10 ?_
    refine go_iload_n (pc := 13) C dX6_lay_13 1 rfl rfl ?_
    refine al_X6_8 (pc := 14) C hf.1 dX6_lay_14 ?_
    have h5 : 23 ≤ 23 + (p1 : Int32).toNatClampNeg ∧ 23 + (p1 : Int32).toNatClampNeg < 27 := tq_ls hf.1
    have hf := hf.2
    obtain ⟨y6, e7⟩ : ∃ q9 : Nat, q9 = 23 + (p1 : Int32).toNatClampNeg := ⟨_, rfl⟩
    rw [← e7]
    have hf := hf y6 e7
    have hy6 : 23 ≤ y6 ∧ y6 < 27 := by rw [e7]; exact h5
    refine go_astore (pc := 15) C dX6_lay_15 [(4, .ref ((tq_la X).1 y6 0)), (0, .ref ((tq_la X).1 27 0)), (1, .int p1), (2, .int p2), (3, .int p3)] (by decide) rfl ?_
    refine go_aload (pc := 17) C dX6_lay_17 0 rfl ?_
    refine go_aload (pc := 19) C dX6_lay_19 0 rfl ?_
    refine ge_X6_X3_2 (pc := 21) C hy6 dX6_lay_21 ?_
    refine go_iload_n (pc := 24) C dX6_lay_24 3 rfl rfl ?_
    refine go_cVi (pc := 25) C cw_X6_252 (ok_X3_faultAt hy6 hf) (rc_X3 C hy6) rfl rfl rfl (by decide) rfl dX6_lay_25 (fun r8 S9 hf => ?_)
    refine go_istore (pc := 28) C dX6_lay_28 [(5, .int r8), (4, .ref ((tq_la X).1 y6 0)), (0, .ref ((tq_la X).1 27 0)), (1, .int p1), (2, .int p2), (3, .int p3)] (by decide) rfl ?_
    refine go_iload (pc := 30) C dX6_lay_30 0 rfl ?_
    refine go_if_eq (pc := 32) C dX6_lay_32 41 (by decide) (fun c11 => ?_) (fun c11 => ?_)
    · have hf := hf.1 c11
      refine go_aload (pc := 41) C dX6_lay_41 1 rfl ?_
      refine go_iload_n (pc := 43) C dX6_lay_43 4 rfl rfl ?_
      refine go_iload_n (pc := 44) C dX6_lay_44 5 rfl rfl ?_
      refine go_cVv (pc := 45) C cw_X6_255 (ok_X3_put hy6 hf) (rc_X3 C hy6) rfl rfl rfl (by decide) rfl dX6_lay_45 (fun S13 hf => ?_)
      refine go_iconst (pc := 48) (v := 1) C dX6_lay_48 (by decide) ?_
      exact hR _ _ _ _ dX6_lay_49 hf
    · have hf := hf.2 c11
      refine go_bipush (pc := 35) (v := (-10)) C dX6_lay_35 (by decide) ?_
      refine go_iload (pc := 37) C dX6_lay_37 0 rfl ?_
      refine go_isub (pc := 39) C dX6_lay_39 ?_
      exact hR _ _ _ _ dX6_lay_40 hf
  · have hf := hf.2 c4
    refine go_iconst (pc := 7) (v := (-1)) C dX6_lay_7 (by decide) ?_
    exact hR _ _ _ _ dX6_lay_8 hf
set_option maxRecDepth 100000 in
set_option maxHeartbeats 4000000 in
theorem ok_X6_lay {p1 : Int32} {p2 : Int32} {p3 : Int32} {S : tq_St} {K : Int32 → tq_St → Prop} (hf : wp_X6_lay p1 p2 p3 S K) : tq_Mi yX6_lay cX6_lay 6 (some .int) 2 (fun a z => [.ref (a.1 27 0), .int p1, .int p2, .int p3]) S K :=
  tq_mkI (by decide) (fun _ _ => Nat.le_of_ble_eq_true rfl) (fun X C hR => wk_X6_lay C hR  hf)
set_option maxRecDepth 100000 in
set_option maxHeartbeats 4000000 in
theorem wk_X6_partOfFraction_17 {X : tq_Cx} {K : Int64 → tq_St → Prop} (C : tq_C X cX6_partOfFraction 9 RX6 2) (hR : tq_Rl X cX6_partOfFraction 9 K) : ∀ (v5 : Int64) (w0 : Int64) (S : tq_St), wp_X6_partOfFraction_17 K v5 w0 S → Go X 9 S 17 [(5, .long v5)] [.long w0] := by
  intro v5 w0 S hf
  refine go_lstore (pc := 17) C dX6_partOfFraction_17 [(7, .long w0), (5, .long v5)] (by decide) rfl ?_
  refine go_lload (pc := 19) C dX6_partOfFraction_19 1 rfl ?_
  refine go_lconst (pc := 21) (v := 1) C dX6_partOfFraction_21 (by decide) ?_
  refine go_lcmp (pc := 22) C dX6_partOfFraction_22 ?_
  refine go_if_ge (pc := 23) C dX6_partOfFraction_23 31 (by decide) (fun c5 => ?_) (fun c5 => ?_)
  · have hf := hf.1 c5
    refine go_lload (pc := 31) C dX6_partOfFraction_31 0 rfl ?_
    refine go_lload (pc := 33) C dX6_partOfFraction_33 1 rfl ?_
    refine go_ldiv (pc := 35) C dX6_partOfFraction_35 hf.1 ?_
    have hf := hf.2
    exact hR _ _ _ _ dX6_partOfFraction_36 hf
  · have hf := hf.2 c5
    refine go_lload (pc := 26) C dX6_partOfFraction_26 0 rfl ?_
    refine go_goto (pc := 28) C dX6_partOfFraction_28 36 (by decide) ?_
    exact hR _ _ _ _ dX6_partOfFraction_36 hf
set_option maxRecDepth 100000 in
set_option maxHeartbeats 4000000 in
theorem wk_X6_partOfFraction {X : tq_Cx} {p0 : Int64} {p2 : Int64} {p4 : Int32} {S : tq_St} {K : Int64 → tq_St → Prop} (C : tq_C X cX6_partOfFraction 9 RX6 2) (hR : tq_Rl X cX6_partOfFraction 9 K) (hf : wp_X6_partOfFraction p0 p2 p4 S K) : Go X 9 S 0 [(0, .long p0), (2, .long p2), (4, .int p4)] [] := by
  refine go_lload_n (pc := 0) C dX6_partOfFraction_0 0 rfl rfl ?_
  refine go_lload_n (pc := 1) C dX6_partOfFraction_1 1 rfl rfl ?_
  refine go_cSl (pc := 2) C cs_X6_283 (ok_X6_greatestDivisor hf) rfl rfl rfl (by decide) rfl dX6_partOfFraction_2 (fun r1 S2 hf => ?_)
  refine go_lstore (pc := 5) C dX6_partOfFraction_5 [(5, .long r1), (0, .long p0), (2, .long p2), (4, .int p4)] (by decide) rfl ?_
  refine go_iload (pc := 7) C dX6_partOfFraction_7 3 rfl ?_
  refine go_if_ne (pc := 9) C dX6_partOfFraction_9 16 (by decide) (fun c4 => ?_) (fun c4 => ?_)
  · have hf := hf.1 c4
    refine go_lload_n (pc := 16) C dX6_partOfFraction_16 2 rfl rfl ?_
    exact go_sub [0] rfl (wk_X6_partOfFraction_17 C hR _ _ _ hf)
  · have hf := hf.2 c4
    refine go_lload_n (pc := 12) C dX6_partOfFraction_12 1 rfl rfl ?_
    refine go_goto (pc := 13) C dX6_partOfFraction_13 17 (by decide) ?_
    exact go_sub [0] rfl (wk_X6_partOfFraction_17 C hR _ _ _ hf)
set_option maxRecDepth 100000 in
set_option maxHeartbeats 4000000 in
theorem ok_X6_partOfFraction {p0 : Int64} {p2 : Int64} {p4 : Int32} {S : tq_St} {K : Int64 → tq_St → Prop} (hf : wp_X6_partOfFraction p0 p2 p4 S K) : tq_Ml yX6_partOfFraction cX6_partOfFraction 9 (some .long) 2 (fun a z => [.long p0, .long p2, .int p4]) S K :=
  tq_mkL (by decide) (fun _ _ => Nat.le_of_ble_eq_true rfl) (fun X C hR => wk_X6_partOfFraction C hR  hf)
set_option maxRecDepth 100000 in
set_option maxHeartbeats 4000000 in
theorem wk_X6_luck {X : tq_Cx} {p1 : Int32} {p2 : Int32} {p3 : Int32} {S : tq_St} {K : Int64 → tq_St → Prop} (C : tq_C X cX6_luck 4 RX6 20) (hR : tq_Rl X cX6_luck 4 K) (hf : wp_X6_luck p1 p2 p3 S K) : Go X 4 S 0 [(0, .ref ((tq_la X).1 27 0)), (1, .int p1), (2, .int p2), (3, .int p3)] [] := by
  refine go_iload_n (pc := 0) C dX6_luck_0 1 rfl rfl ?_
  refine go_if_lt (pc := 1) C dX6_luck_1 28 (by decide) (fun c1 => ?_) (fun c1 => ?_)
  · have hf := hf.1 c1
    refine go_ldc2 (pc := 28) C kl_X6_205 dX6_luck_28 ?_
    exact hR _ _ _ _ dX6_luck_31 hf
  · have hf := hf.2 c1
    refine go_iload_n (pc := 4) C dX6_luck_4 1 rfl rfl ?_
    refine go_bipush (pc := 5) (v := 10) C dX6_luck_5 (by decide) ?_
    refine go_ic_gt (pc := 7) C dX6_luck_7 28 (by decide) (fun c2 => ?_) (fun c2 => ?_)
    · have hf := hf.1 c2
      refine go_ldc2 (pc := 28) C kl_X6_205 dX6_luck_28 ?_
      exact hR _ _ _ _ dX6_luck_31 hf
    · have hf := hf.2 c2
      refine go_aload_n (pc := 10) C dX6_luck_10 0 rfl rfl ?_
      refine ge_X6_X6_0 (pc := 11) C dX6_luck_11 ?_
      refine go_iload_n (pc := 14) C dX6_luck_14 2 rfl rfl ?_
      refine go_cVi (pc := 15) C cw_X6_112 (ok_X1_isThere (by decide) hf) (rc_X1 C (by decide)) rfl rfl rfl (by decide) rfl dX6_luck_15 (fun r3 S4 hf => ?_)
      refine go_if_eq (pc := 18) C dX6_luck_18 28 (by decide) (fun c6 => ?_) (fun c6 => ?_)
      · have hf := hf.1 c6
        refine go_ldc2 (pc := 28) C kl_X6_205 dX6_luck_28 ?_
        exact hR _ _ _ _ dX6_luck_31 hf
      · have hf := hf.2 c6
        refine go_iload_n (pc := 21) C dX6_luck_21 3 rfl rfl ?_
        refine go_cSi (pc := 22) C cs_X6_178 (ok_X6_isZeroOrOne hf) rfl rfl rfl (by decide) rfl dX6_luck_22 (fun r7 S8 hf => ?_)
        refine go_if_ne (pc := 25) C dX6_luck_25 32 (by decide) (fun c10 => ?_) (fun c10 => ?_)
        · have hf := hf.1 c10
          refine go_aload_n (pc := 32) C dX6_luck_32 0 rfl rfl ?_
          refine ge_X6_X6_5 (pc := 33) C dX6_luck_33 ?_
          refine go_aload_n (pc := 36) C dX6_luck_36 0 rfl rfl ?_
          refine ge_X6_X6_0 (pc := 37) C dX6_luck_37 ?_
          refine go_iload_n (pc := 40) C dX6_luck_40 1 rfl rfl ?_
          refine go_cVv (pc := 41) C cw_X6_207 (ok_X0_weighPlan (by decide) hf) (rc_X0 C) rfl rfl rfl (by decide) rfl dX6_luck_41 (fun S12 hf => ?_)
          refine go_aload_n (pc := 44) C dX6_luck_44 0 rfl rfl ?_
          refine ge_X6_X6_5 (pc := 45) C dX6_luck_45 ?_
          refine go_iload_n (pc := 48) C dX6_luck_48 2 rfl rfl ?_
          refine go_cVl (pc := 49) C cw_X6_210 (ok_X0_weightOf hf) (rc_X0 C) rfl rfl rfl (by decide) rfl dX6_luck_49 (fun r14 S15 hf => ?_)
          refine go_aload_n (pc := 52) C dX6_luck_52 0 rfl rfl ?_
          refine ge_X6_X6_5 (pc := 53) C dX6_luck_53 ?_
          refine ge_X6_X0_2 (pc := 56) C dX6_luck_56 ?_
          refine go_iload_n (pc := 59) C dX6_luck_59 3 rfl rfl ?_
          refine go_cSl (pc := 60) C cs_X6_218 (ok_X6_partOfFraction hf) rfl rfl rfl (by decide) rfl dX6_luck_60 (fun r17 S18 hf => ?_)
          exact hR _ _ _ _ dX6_luck_63 hf
        · have hf := hf.2 c10
          refine go_ldc2 (pc := 28) C kl_X6_205 dX6_luck_28 ?_
          exact hR _ _ _ _ dX6_luck_31 hf
set_option maxRecDepth 100000 in
set_option maxHeartbeats 4000000 in
theorem ok_X6_luck {p1 : Int32} {p2 : Int32} {p3 : Int32} {S : tq_St} {K : Int64 → tq_St → Prop} (hf : wp_X6_luck p1 p2 p3 S K) : tq_Ml yX6_luck cX6_luck 4 (some .long) 20 (fun a z => [.ref (a.1 27 0), .int p1, .int p2, .int p3]) S K :=
  tq_mkL (by decide) (fun _ _ => Nat.le_of_ble_eq_true rfl) (fun X C hR => wk_X6_luck C hR  hf)
set_option maxRecDepth 100000 in
set_option maxHeartbeats 4000000 in
theorem wk_X6_mean_38 {X : tq_Cx} {K : Int64 → tq_St → Prop} (C : tq_C X cX6_mean 6 RX6 20) (hR : tq_Rl X cX6_mean 6 K) : ∀ (n : Nat) (v2 : Int32) (v3 : Int64) (v5 : Int32) (S : tq_St), wp_X6_mean_38 K n v2 v3 v5 S → Go X 6 S 38 [(0, .ref ((tq_la X).1 27 0)), (2, .int v2), (3, .long v3), (5, .int v5)] [] := by
  intro n
  induction n with
  | zero => intros; contradiction
  | succ n ih =>
    intro v2 v3 v5 S hf
    refine go_iload (pc := 38) C dX6_mean_38 3 rfl ?_
    refine go_aload_n (pc := 40) C dX6_mean_40 0 rfl rfl ?_
    refine ge_X6_X6_0 (pc := 41) C dX6_mean_41 ?_
    refine ge_X6_X1_5 (pc := 44) C (by decide) dX6_mean_44 ?_
    refine go_ic_ge (pc := 47) C dX6_mean_47 68 (by decide) (fun c10 => ?_) (fun c10 => ?_)
    · have hf := hf.1 c10
      refine go_lload_n (pc := 68) C dX6_mean_68 2 rfl rfl ?_
      refine go_aload_n (pc := 69) C dX6_mean_69 0 rfl rfl ?_
      refine ge_X6_X6_5 (pc := 70) C dX6_mean_70 ?_
      refine ge_X6_X0_2 (pc := 73) C dX6_mean_73 ?_
      refine go_iload_n (pc := 76) C dX6_mean_76 1 rfl rfl ?_
      refine go_cSl (pc := 77) C cs_X6_218 (ok_X6_partOfFraction hf) rfl rfl rfl (by decide) rfl dX6_mean_77 (fun r11 S12 hf => ?_)
      exact hR _ _ _ _ dX6_mean_80 hf
    · have hf := hf.2 c10
      refine go_lload_n (pc := 50) C dX6_mean_50 2 rfl rfl ?_
      refine go_aload_n (pc := 51) C dX6_mean_51 0 rfl rfl ?_
      refine ge_X6_X6_5 (pc := 52) C dX6_mean_52 ?_
      refine go_iload (pc := 55) C dX6_mean_55 3 rfl ?_
      refine go_cVl (pc := 57) C cw_X6_210 (ok_X0_weightOf hf) (rc_X0 C) rfl rfl rfl (by decide) rfl dX6_mean_57 (fun r14 S15 hf => ?_)
      refine go_ladd (pc := 60) C dX6_mean_60 ?_
      refine go_nL (fun x17 e18 => ?_)
      have hf := hf x17 e18
      refine go_lstore_n (pc := 61) C dX6_mean_61 [(3, .long x17), (0, .ref ((tq_la X).1 27 0)), (2, .int v2), (5, .int v5)] rfl (by decide) rfl ?_
      obtain ⟨x19, e20⟩ : ∃ q9 : Int32, q9 = v5 + 1 := ⟨_, rfl⟩
      refine go_iinc (pc := 62) (j := 3) (v := x19) C dX6_mean_62 [(5, .int x19), (3, .long x17), (0, .ref ((tq_la X).1 27 0)), (2, .int v2)] rfl (by rw [e20]; rfl) (by decide) rfl ?_
      have hf := hf x19 e20
      refine go_goto (pc := 65) C dX6_mean_65 38 (by decide) ?_
      exact go_sub [2, 3, 1, 0] rfl (ih _ _ _ _ hf)
set_option maxRecDepth 100000 in
set_option maxHeartbeats 4000000 in
theorem wk_X6_mean {X : tq_Cx} {p1 : Int32} {p2 : Int32} {S : tq_St} {K : Int64 → tq_St → Prop} (C : tq_C X cX6_mean 6 RX6 20) (hR : tq_Rl X cX6_mean 6 K) (hf : wp_X6_mean p1 p2 S K) : Go X 6 S 0 [(0, .ref ((tq_la X).1 27 0)), (1, .int p1), (2, .int p2)] [] := by
  refine go_iload_n (pc := 0) C dX6_mean_0 1 rfl rfl ?_
  refine go_if_lt (pc := 1) C dX6_mean_1 17 (by decide) (fun c1 => ?_) (fun c1 => ?_)
  · have hf := hf.1 c1
    refine go_ldc2 (pc := 17) C kl_X6_205 dX6_mean_17 ?_
    exact hR _ _ _ _ dX6_mean_20 hf
  · have hf := hf.2 c1
    refine go_iload_n (pc := 4) C dX6_mean_4 1 rfl rfl ?_
    refine go_bipush (pc := 5) (v := 10) C dX6_mean_5 (by decide) ?_
    refine go_ic_gt (pc := 7) C dX6_mean_7 17 (by decide) (fun c2 => ?_) (fun c2 => ?_)
    · have hf := hf.1 c2
      refine go_ldc2 (pc := 17) C kl_X6_205 dX6_mean_17 ?_
      exact hR _ _ _ _ dX6_mean_20 hf
    · have hf := hf.2 c2
      refine go_iload_n (pc := 10) C dX6_mean_10 2 rfl rfl ?_
      refine go_cSi (pc := 11) C cs_X6_178 (ok_X6_isZeroOrOne hf) rfl rfl rfl (by decide) rfl dX6_mean_11 (fun r3 S4 hf => ?_)
      refine go_if_ne (pc := 14) C dX6_mean_14 21 (by decide) (fun c6 => ?_) (fun c6 => ?_)
      · have hf := hf.1 c6
        refine go_aload_n (pc := 21) C dX6_mean_21 0 rfl rfl ?_
        refine ge_X6_X6_5 (pc := 22) C dX6_mean_22 ?_
        refine go_aload_n (pc := 25) C dX6_mean_25 0 rfl rfl ?_
        refine ge_X6_X6_0 (pc := 26) C dX6_mean_26 ?_
        refine go_iload_n (pc := 29) C dX6_mean_29 1 rfl rfl ?_
        refine go_cVv (pc := 30) C cw_X6_207 (ok_X0_weighPlan (by decide) hf) (rc_X0 C) rfl rfl rfl (by decide) rfl dX6_mean_30 (fun S8 hf => ?_)
        refine go_lconst (pc := 33) (v := 0) C dX6_mean_33 (by decide) ?_
        refine go_lstore_n (pc := 34) C dX6_mean_34 [(3, .long 0), (0, .ref ((tq_la X).1 27 0)), (1, .int p1), (2, .int p2)] rfl (by decide) rfl ?_
        refine go_iconst (pc := 35) (v := 0) C dX6_mean_35 (by decide) ?_
        refine go_istore (pc := 36) C dX6_mean_36 [(5, .int 0), (3, .long 0), (0, .ref ((tq_la X).1 27 0)), (1, .int p1), (2, .int p2)] (by decide) rfl ?_
        exact go_sub [2, 4, 1, 0] rfl (wk_X6_mean_38 C hR 2000 _ _ _ _ hf)
      · have hf := hf.2 c6
        refine go_ldc2 (pc := 17) C kl_X6_205 dX6_mean_17 ?_
        exact hR _ _ _ _ dX6_mean_20 hf
set_option maxRecDepth 100000 in
set_option maxHeartbeats 4000000 in
theorem ok_X6_mean {p1 : Int32} {p2 : Int32} {S : tq_St} {K : Int64 → tq_St → Prop} (hf : wp_X6_mean p1 p2 S K) : tq_Ml yX6_mean cX6_mean 6 (some .long) 20 (fun a z => [.ref (a.1 27 0), .int p1, .int p2]) S K :=
  tq_mkL (by decide) (fun _ _ => Nat.le_of_ble_eq_true rfl) (fun X C hR => wk_X6_mean C hR  hf)
set_option maxRecDepth 100000 in
set_option maxHeartbeats 4000000 in
theorem wk_X6_minutes_14 {X : tq_Cx} {K : Int32 → tq_St → Prop} (C : tq_C X cX6_minutes 3 RX6 3) (hR : tq_Ri X cX6_minutes 3 K) : ∀ (n : Nat) (v1 : Int32) (v2 : Int32) (S : tq_St), wp_X6_minutes_14 K n v1 v2 S → Go X 3 S 14 [(0, .ref ((tq_la X).1 27 0)), (1, .int v1), (2, .int v2)] [] := by
  intro n
  induction n with
  | zero => intros; contradiction
  | succ n ih =>
    intro v1 v2 S hf
    refine go_iload_n (pc := 14) C dX6_minutes_14 2 rfl rfl ?_
    refine go_iload_n (pc := 15) C dX6_minutes_15 1 rfl rfl ?_
    refine go_ic_ge (pc := 16) C dX6_minutes_16 32 (by decide) (fun c3 => ?_) (fun c3 => ?_)
    · have hf := hf.1 c3
      refine go_aload_n (pc := 32) C dX6_minutes_32 0 rfl rfl ?_
      refine ge_X6_X6_0 (pc := 33) C dX6_minutes_33 ?_
      refine go_cVi (pc := 36) C cw_X6_109 (ok_X1_allSorrow (by decide) hf) (rc_X1 C (by decide)) rfl rfl rfl (by decide) rfl dX6_minutes_36 (fun r4 S5 hf => ?_)
      exact hR _ _ _ _ dX6_minutes_39 hf
    · have hf := hf.2 c3
      refine go_aload_n (pc := 19) C dX6_minutes_19 0 rfl rfl ?_
      refine ge_X6_X6_0 (pc := 20) C dX6_minutes_20 ?_
      refine go_cVv (pc := 23) C cw_X6_146 (ok_X1_dry (by decide) hf) (rc_X1 C (by decide)) rfl rfl rfl (by decide) rfl dX6_minutes_23 (fun S8 hf => ?_)
      obtain ⟨x10, e11⟩ : ∃ q9 : Int32, q9 = v2 + 1 := ⟨_, rfl⟩
      refine go_iinc (pc := 26) (j := 2) (v := x10) C dX6_minutes_26 [(2, .int x10), (0, .ref ((tq_la X).1 27 0)), (1, .int v1)] rfl (by rw [e11]; rfl) (by decide) rfl ?_
      have hf := hf x10 e11
      refine go_goto (pc := 29) C dX6_minutes_29 14 (by decide) ?_
      exact go_sub [1, 2, 0] rfl (ih _ _ _ hf)
set_option maxRecDepth 100000 in
set_option maxHeartbeats 4000000 in
theorem wk_X6_minutes {X : tq_Cx} {p1 : Int32} {S : tq_St} {K : Int32 → tq_St → Prop} (C : tq_C X cX6_minutes 3 RX6 3) (hR : tq_Ri X cX6_minutes 3 K) (hf : wp_X6_minutes p1 S K) : Go X 3 S 0 [(0, .ref ((tq_la X).1 27 0)), (1, .int p1)] [] := by
  refine go_iload_n (pc := 0) C dX6_minutes_0 1 rfl rfl ?_
  refine go_if_lt (pc := 1) C dX6_minutes_1 10 (by decide) (fun c1 => ?_) (fun c1 => ?_)
  · have hf := hf.1 c1
    refine go_iconst (pc := 10) (v := (-1)) C dX6_minutes_10 (by decide) ?_
    exact hR _ _ _ _ dX6_minutes_11 hf
  · have hf := hf.2 c1
    refine go_iload_n (pc := 4) C dX6_minutes_4 1 rfl rfl ?_
    refine go_bipush (pc := 5) (v := 60) C dX6_minutes_5 (by decide) ?_
    refine go_ic_le (pc := 7) C dX6_minutes_7 12 (by decide) (fun c2 => ?_) (fun c2 => ?_)
    · have hf := hf.1 c2
      refine go_iconst (pc := 12) (v := 0) C dX6_minutes_12 (by decide) ?_
      refine go_istore_n (pc := 13) C dX6_minutes_13 [(2, .int 0), (0, .ref ((tq_la X).1 27 0)), (1, .int p1)] rfl (by decide) rfl ?_
      exact go_sub [1, 2, 0] rfl (wk_X6_minutes_14 C hR 2000 _ _ _ hf)
    · have hf := hf.2 c2
      refine go_iconst (pc := 10) (v := (-1)) C dX6_minutes_10 (by decide) ?_
      exact hR _ _ _ _ dX6_minutes_11 hf
set_option maxRecDepth 100000 in
set_option maxHeartbeats 4000000 in
theorem ok_X6_minutes {p1 : Int32} {S : tq_St} {K : Int32 → tq_St → Prop} (hf : wp_X6_minutes p1 S K) : tq_Mi yX6_minutes cX6_minutes 3 (some .int) 3 (fun a z => [.ref (a.1 27 0), .int p1]) S K :=
  tq_mkI (by decide) (fun _ _ => Nat.le_of_ble_eq_true rfl) (fun X C hR => wk_X6_minutes C hR  hf)
set_option maxRecDepth 100000 in
set_option maxHeartbeats 4000000 in
theorem wk_X6_one {X : tq_Cx} {p1 : Int32} {p2 : Int32} {S : tq_St} {K : Int32 → tq_St → Prop} (C : tq_C X cX6_one 3 RX6 2) (hR : tq_Ri X cX6_one 3 K) (hf : wp_X6_one p1 p2 S K) : Go X 3 S 0 [(0, .ref ((tq_la X).1 27 0)), (1, .int p1), (2, .int p2)] [] := by
  refine go_aload_n (pc := 0) C dX6_one_0 0 rfl rfl ?_
  refine ge_X6_X6_0 (pc := 1) C dX6_one_1 ?_
  refine go_iload_n (pc := 4) C dX6_one_4 1 rfl rfl ?_
  refine go_cVi (pc := 5) C cw_X6_112 (ok_X1_isThere (by decide) hf) (rc_X1 C (by decide)) rfl rfl rfl (by decide) rfl dX6_one_5 (fun r1 S2 hf => ?_)
  refine go_if_ne (pc := 8) C dX6_one_8 13 (by decide) (fun c4 => ?_) (fun c4 => ?_)
  · have hf := hf.1 c4
    refine go_iload_n (pc := 13) C dX6_one_13 2 rfl rfl ?_
    rcases tq_sw (x := p2) (0) (4) with c5 | c5
    · have hf := hf.1 c5
      refine go_tabOut (pc := 14) C dX6_one_14 103 (by decide) c5 ?_
      refine go_iconst (pc := 103) (v := (-1)) C dX6_one_103 (by decide) ?_
      exact hR _ _ _ _ dX6_one_104 hf
    · have c5 := tq_lt5 c5
      rcases c5 with c5 | c5 | c5 | c5 | c5
      · have hf := hf.2.1 c5
        refine go_tabIn (pc := 14) C dX6_one_14 48 (34) (by decide) (by rw [c5]; decide) (by rw [c5]; decide) (by rw [c5]; rfl) ?_
        refine go_aload_n (pc := 48) C dX6_one_48 0 rfl rfl ?_
        refine ge_X6_X6_0 (pc := 49) C dX6_one_49 ?_
        refine ge_X6_X1_0 (pc := 52) C (by decide) dX6_one_52 ?_
        refine go_iload_n (pc := 55) C dX6_one_55 1 rfl rfl ?_
        refine al_X1_0 (pc := 56) C (by decide) hf.1 dX6_one_56 ?_
        have hf := hf.2
        exact hR _ _ _ _ dX6_one_57 hf
      · have hf := hf.2.2.1 c5
        refine go_tabIn (pc := 14) C dX6_one_14 58 (44) (by decide) (by rw [c5]; decide) (by rw [c5]; decide) (by rw [c5]; rfl) ?_
        refine go_aload_n (pc := 58) C dX6_one_58 0 rfl rfl ?_
        refine ge_X6_X6_0 (pc := 59) C dX6_one_59 ?_
        refine ge_X6_X1_1 (pc := 62) C (by decide) dX6_one_62 ?_
        refine go_iload_n (pc := 65) C dX6_one_65 1 rfl rfl ?_
        refine al_X1_1 (pc := 66) C (by decide) hf.1 dX6_one_66 ?_
        have hf := hf.2
        exact hR _ _ _ _ dX6_one_67 hf
      · have hf := hf.2.2.2.1 c5
        refine go_tabIn (pc := 14) C dX6_one_14 68 (54) (by decide) (by rw [c5]; decide) (by rw [c5]; decide) (by rw [c5]; rfl) ?_
        refine go_aload_n (pc := 68) C dX6_one_68 0 rfl rfl ?_
        refine ge_X6_X6_0 (pc := 69) C dX6_one_69 ?_
        refine go_iload_n (pc := 72) C dX6_one_72 1 rfl rfl ?_
        refine go_cVi (pc := 73) C cw_X6_121 (ok_X1_weptOrNone (by decide) hf) (rc_X1 C (by decide)) rfl rfl rfl (by decide) rfl dX6_one_73 (fun r6 S7 hf => ?_)
        exact hR _ _ _ _ dX6_one_76 hf
      · have hf := hf.2.2.2.2.1 c5
        refine go_tabIn (pc := 14) C dX6_one_14 77 (63) (by decide) (by rw [c5]; decide) (by rw [c5]; decide) (by rw [c5]; rfl) ?_
        refine go_aload_n (pc := 77) C dX6_one_77 0 rfl rfl ?_
        refine ge_X6_X6_0 (pc := 78) C dX6_one_78 ?_
        refine go_iload_n (pc := 81) C dX6_one_81 1 rfl rfl ?_
        refine go_cVi (pc := 82) C cw_X6_125 (ok_X1_brim (by decide) hf) (rc_X1 C (by decide)) rfl rfl rfl (by decide) rfl dX6_one_82 (fun r9 S10 hf => ?_)
        exact hR _ _ _ _ dX6_one_85 hf
      · have hf := hf.2.2.2.2.2 c5
        refine go_tabIn (pc := 14) C dX6_one_14 86 (72) (by decide) (by rw [c5]; decide) (by rw [c5]; decide) (by rw [c5]; rfl) ?_
        refine go_aload_n (pc := 86) C dX6_one_86 0 rfl rfl ?_
        refine ge_X6_X6_0 (pc := 87) C dX6_one_87 ?_
        refine go_iload_n (pc := 90) C dX6_one_90 1 rfl rfl ?_
        refine go_cVi (pc := 91) C cw_X6_128 (ok_X1_waits (by decide) hf) (rc_X1 C (by decide)) rfl rfl rfl (by decide) rfl dX6_one_91 (fun r12 S13 hf => ?_)
        refine go_if_eq (pc := 94) C dX6_one_94 101 (by decide) (fun c15 => ?_) (fun c15 => ?_)
        · have hf := hf.1 c15
          refine go_iconst (pc := 101) (v := 1) C dX6_one_101 (by decide) ?_
          exact hR _ _ _ _ dX6_one_102 hf
        · have hf := hf.2 c15
          refine go_iconst (pc := 97) (v := 0) C dX6_one_97 (by decide) ?_
          refine go_goto (pc := 98) C dX6_one_98 102 (by decide) ?_
          exact hR _ _ _ _ dX6_one_102 hf
  · have hf := hf.2 c4
    refine go_iconst (pc := 11) (v := (-1)) C dX6_one_11 (by decide) ?_
    exact hR _ _ _ _ dX6_one_12 hf
set_option maxRecDepth 100000 in
set_option maxHeartbeats 4000000 in
theorem ok_X6_one {p1 : Int32} {p2 : Int32} {S : tq_St} {K : Int32 → tq_St → Prop} (hf : wp_X6_one p1 p2 S K) : tq_Mi yX6_one cX6_one 3 (some .int) 2 (fun a z => [.ref (a.1 27 0), .int p1, .int p2]) S K :=
  tq_mkI (by decide) (fun _ _ => Nat.le_of_ble_eq_true rfl) (fun X C hR => wk_X6_one C hR  hf)
set_option maxRecDepth 100000 in
set_option maxHeartbeats 4000000 in
theorem wk_X6_plan {X : tq_Cx} {p1 : Int32} {S : tq_St} {K : Int32 → tq_St → Prop} (C : tq_C X cX6_plan 2 RX6 3) (hR : tq_Ri X cX6_plan 2 K) (hf : wp_X6_plan p1 S K) : Go X 2 S 0 [(0, .ref ((tq_la X).1 27 0)), (1, .int p1)] [] := by
  refine go_aload_n (pc := 0) C dX6_plan_0 0 rfl rfl ?_
  refine ge_X6_X6_0 (pc := 1) C dX6_plan_1 ?_
  refine go_iload_n (pc := 4) C dX6_plan_4 1 rfl rfl ?_
  refine go_cVi (pc := 5) C cw_X6_137 (ok_X1_isAct (by decide) hf) (rc_X1 C (by decide)) rfl rfl rfl (by decide) rfl dX6_plan_5 (fun r1 S2 hf => ?_)
  refine go_if_ne (pc := 8) C dX6_plan_8 13 (by decide) (fun c4 => ?_) (fun c4 => ?_)
  · have hf := hf.1 c4
    refine go_aload_n (pc := 13) C dX6_plan_13 0 rfl rfl ?_
    refine ge_X6_X6_0 (pc := 14) C dX6_plan_14 ?_
    refine go_iload_n (pc := 17) C dX6_plan_17 1 rfl rfl ?_
    refine go_cVi (pc := 18) C cw_X6_140 (ok_X1_addAct (by decide) hf) (rc_X1 C (by decide)) rfl rfl rfl (by decide) rfl dX6_plan_18 (fun r5 S6 hf => ?_)
    refine go_if_eq (pc := 21) C dX6_plan_21 34 (by decide) (fun c8 => ?_) (fun c8 => ?_)
    · have hf := hf.1 c8
      refine go_bipush (pc := 34) (v := (-3)) C dX6_plan_34 (by decide) ?_
      exact hR _ _ _ _ dX6_plan_36 hf
    · have hf := hf.2 c8
      refine go_aload_n (pc := 24) C dX6_plan_24 0 rfl rfl ?_
      refine ge_X6_X6_0 (pc := 25) C dX6_plan_25 ?_
      refine ge_X6_X1_10 (pc := 28) C (by decide) dX6_plan_28 ?_
      refine go_goto (pc := 31) C dX6_plan_31 36 (by decide) ?_
      exact hR _ _ _ _ dX6_plan_36 hf
  · have hf := hf.2 c4
    refine go_iconst (pc := 11) (v := (-1)) C dX6_plan_11 (by decide) ?_
    exact hR _ _ _ _ dX6_plan_12 hf
set_option maxRecDepth 100000 in
set_option maxHeartbeats 4000000 in
theorem ok_X6_plan {p1 : Int32} {S : tq_St} {K : Int32 → tq_St → Prop} (hf : wp_X6_plan p1 S K) : tq_Mi yX6_plan cX6_plan 2 (some .int) 3 (fun a z => [.ref (a.1 27 0), .int p1]) S K :=
  tq_mkI (by decide) (fun _ _ => Nat.le_of_ble_eq_true rfl) (fun X C hR => wk_X6_plan C hR  hf)
set_option maxRecDepth 100000 in
set_option maxHeartbeats 4000000 in
theorem wk_X6_queue {X : tq_Cx} {p1 : Int32} {S : tq_St} {K : Int32 → tq_St → Prop} (C : tq_C X cX6_queue 2 RX6 4) (hR : tq_Ri X cX6_queue 2 K) (hf : wp_X6_queue p1 S K) : Go X 2 S 0 [(0, .ref ((tq_la X).1 27 0)), (1, .int p1)] [] := by
  refine go_iload_n (pc := 0) C dX6_queue_0 1 rfl rfl ?_
  refine go_if_lt (pc := 1) C dX6_queue_1 9 (by decide) (fun c1 => ?_) (fun c1 => ?_)
  · have hf := hf.1 c1
    refine go_iconst (pc := 9) (v := (-1)) C dX6_queue_9 (by decide) ?_
    refine go_goto (pc := 10) C dX6_queue_10 21 (by decide) ?_
    exact hR _ _ _ _ dX6_queue_21 hf
  · have hf := hf.2 c1
    refine go_iload_n (pc := 4) C dX6_queue_4 1 rfl rfl ?_
    refine go_iconst (pc := 5) (v := 5) C dX6_queue_5 (by decide) ?_
    refine go_ic_lt (pc := 6) C dX6_queue_6 13 (by decide) (fun c2 => ?_) (fun c2 => ?_)
    · have hf := hf.1 c2
      refine go_aload_n (pc := 13) C dX6_queue_13 0 rfl rfl ?_
      refine ge_X6_X6_0 (pc := 14) C dX6_queue_14 ?_
      refine go_iload_n (pc := 17) C dX6_queue_17 1 rfl rfl ?_
      refine go_cVi (pc := 18) C cw_X6_134 (ok_X1_inLine (by decide) hf) (rc_X1 C (by decide)) rfl rfl rfl (by decide) rfl dX6_queue_18 (fun r3 S4 hf => ?_)
      exact hR _ _ _ _ dX6_queue_21 hf
    · have hf := hf.2 c2
      refine go_iconst (pc := 9) (v := (-1)) C dX6_queue_9 (by decide) ?_
      refine go_goto (pc := 10) C dX6_queue_10 21 (by decide) ?_
      exact hR _ _ _ _ dX6_queue_21 hf
set_option maxRecDepth 100000 in
set_option maxHeartbeats 4000000 in
theorem ok_X6_queue {p1 : Int32} {S : tq_St} {K : Int32 → tq_St → Prop} (hf : wp_X6_queue p1 S K) : tq_Mi yX6_queue cX6_queue 2 (some .int) 4 (fun a z => [.ref (a.1 27 0), .int p1]) S K :=
  tq_mkI (by decide) (fun _ _ => Nat.le_of_ble_eq_true rfl) (fun X C hR => wk_X6_queue C hR  hf)
set_option maxRecDepth 100000 in
set_option maxHeartbeats 4000000 in
theorem wk_X6_read_128 {X : tq_Cx} {K : Int32 → tq_St → Prop} (C : tq_C X cX6_read 8 RX6 6) (hR : tq_Ri X cX6_read 8 K) : ∀ (v5 : Int32) (v6 : Int32) (S : tq_St), wp_X6_read_128 K v5 v6 S → Go X 8 S 128 [(0, .ref ((tq_la X).1 27 0)), (5, .int v5), (6, .int v6)] [] := by
  intro v5 v6 S hf
  refine go_aload_n (pc := 128) C dX6_read_128 0 rfl rfl ?_
  refine ge_X6_X6_0 (pc := 129) C dX6_read_129 ?_
  refine go_aload_n (pc := 132) C dX6_read_132 0 rfl rfl ?_
  refine ge_X6_X6_1 (pc := 133) C dX6_read_133 ?_
  refine go_cVv (pc := 136) C cw_X6_84 (ok_X1_copyFrom (by decide) (by decide) hf) (rc_X1 C (by decide)) rfl rfl rfl (by decide) rfl dX6_read_136 (fun S16 hf => ?_)
  refine go_aload_n (pc := 139) C dX6_read_139 0 rfl rfl ?_
  refine go_iload (pc := 140) C dX6_read_140 1 rfl ?_
  refine pu_X6_X6_10 (pc := 142) C dX6_read_142 (fun S18 e19 => ?_)
  have hf := hf S18 e19
  refine go_iload (pc := 145) C dX6_read_145 2 rfl ?_
  exact hR _ _ _ _ dX6_read_147 hf
set_option maxRecDepth 100000 in
set_option maxHeartbeats 4000000 in
theorem wk_X6_read_45 {X : tq_Cx} {K : Int32 → tq_St → Prop} (C : tq_C X cX6_read 8 RX6 6) (hR : tq_Ri X cX6_read 8 K) : ∀ (n : Nat) (v1 : Int32) (v2 : Int32) (v3 : Int32) (v4 : Int32) (v5 : Int32) (v6 : Int32) (S : tq_St), wp_X6_read_45 K n v1 v2 v3 v4 v5 v6 S → Go X 8 S 45 [(0, .ref ((tq_la X).1 27 0)), (1, .int v1), (2, .int v2), (3, .int v3), (4, .int v4), (5, .int v5), (6, .int v6)] [] := by
  intro n
  induction n with
  | zero => intros; contradiction
  | succ n ih =>
    intro v1 v2 v3 v4 v5 v6 S hf
    refine go_iload (pc := 45) C dX6_read_45 6 rfl ?_
    refine go_iload (pc := 47) C dX6_read_47 4 rfl ?_
    refine go_ic_ge (pc := 49) C dX6_read_49 128 (by decide) (fun c14 => ?_) (fun c14 => ?_)
    · have hf := hf.1 c14
      exact go_sub [0, 5, 6] rfl (wk_X6_read_128 C hR _ _ _ hf)
    · have hf := hf.2 c14
      refine go_aload_n (pc := 52) C dX6_read_52 0 rfl rfl ?_
      refine ge_X6_X6_8 (pc := 53) C dX6_read_53 ?_
      refine go_iload_n (pc := 56) C dX6_read_56 1 rfl rfl ?_
      refine al_X6_8 (pc := 57) C hf.1 dX6_read_57 ?_
      have h20 : 23 ≤ 23 + (v1 : Int32).toNatClampNeg ∧ 23 + (v1 : Int32).toNatClampNeg < 27 := tq_ls hf.1
      have hf := hf.2
      refine go_iload_n (pc := 58) C dX6_read_58 2 rfl rfl ?_
      refine go_iload_n (pc := 59) C dX6_read_59 3 rfl rfl ?_
      refine go_iload (pc := 60) C dX6_read_60 6 rfl ?_
      refine go_iadd (pc := 62) C dX6_read_62 ?_
      refine go_cVi (pc := 63) C cw_X6_252 (ok_X3_faultAt h20 hf) (rc_X3 C h20) rfl rfl rfl (by decide) rfl dX6_read_63 (fun r21 S22 hf => ?_)
      refine go_istore (pc := 66) C dX6_read_66 [(5, .int r21), (0, .ref ((tq_la X).1 27 0)), (1, .int v1), (2, .int v2), (3, .int v3), (4, .int v4), (6, .int v6)] (by decide) rfl ?_
      refine go_iload (pc := 68) C dX6_read_68 0 rfl ?_
      refine go_if_eq (pc := 70) C dX6_read_70 76 (by decide) (fun c24 => ?_) (fun c24 => ?_)
      · have hf := hf.1 c24
        refine go_aload_n (pc := 76) C dX6_read_76 1 rfl rfl ?_
        refine ge_X6_X6_8 (pc := 77) C dX6_read_77 ?_
        refine go_iload_n (pc := 80) C dX6_read_80 2 rfl rfl ?_
        refine al_X6_8 (pc := 81) C hf.1 dX6_read_81 ?_
        have h25 : 23 ≤ 23 + (v1 : Int32).toNatClampNeg ∧ 23 + (v1 : Int32).toNatClampNeg < 27 := tq_ls hf.1
        have hf := hf.2
        refine ge_X6_X3_0 (pc := 82) C h25 dX6_read_82 ?_
        refine go_iload_n (pc := 85) C dX6_read_85 4 rfl rfl ?_
        refine go_iload (pc := 86) C dX6_read_86 6 rfl ?_
        refine go_iadd (pc := 88) C dX6_read_88 ?_
        refine al_X3_0 (pc := 89) C h25 hf.1 dX6_read_89 ?_
        have hf := hf.2
        refine go_nI (fun x26 e27 => ?_)
        have hf := hf x26 e27
        refine go_istore (pc := 90) C dX6_read_90 [(7, .int x26), (5, .int r21), (0, .ref ((tq_la X).1 27 0)), (1, .int v1), (2, .int v2), (3, .int v3), (4, .int v4), (6, .int v6)] (by decide) rfl ?_
        refine go_aload_n (pc := 92) C dX6_read_92 2 rfl rfl ?_
        refine ge_X6_X6_1 (pc := 93) C dX6_read_93 ?_
        refine go_iload (pc := 96) C dX6_read_96 0 rfl ?_
        refine go_cVi (pc := 98) C cw_X6_137 (ok_X1_isAct (by decide) hf) (rc_X1 C (by decide)) rfl rfl rfl (by decide) rfl dX6_read_98 (fun r28 S29 hf => ?_)
        refine go_if_eq (pc := 101) C dX6_read_101 116 (by decide) (fun c31 => ?_) (fun c31 => ?_)
        · have hf := hf.1 c31
          refine go_bipush (pc := 116) (v := (-20)) C dX6_read_116 (by decide) ?_
          refine go_iload (pc := 118) C dX6_read_118 7 rfl ?_
          refine go_isub (pc := 120) C dX6_read_120 ?_
          exact hR _ _ _ _ dX6_read_121 hf
        · have hf := hf.2 c31
          refine go_aload_n (pc := 104) C dX6_read_104 2 rfl rfl ?_
          refine ge_X6_X6_1 (pc := 105) C dX6_read_105 ?_
          refine go_iload (pc := 108) C dX6_read_108 0 rfl ?_
          refine go_cVi (pc := 110) C cw_X6_236 (ok_X1_play (by decide) hf) (rc_X1 C (by decide)) rfl rfl rfl (by decide) rfl dX6_read_110 (fun r32 S33 hf => ?_)
          refine go_if_ne (pc := 113) C dX6_read_113 122 (by decide) (fun c35 => ?_) (fun c35 => ?_)
          · have hf := hf.1 c35
            obtain ⟨x36, e37⟩ : ∃ q9 : Int32, q9 = v6 + 1 := ⟨_, rfl⟩
            refine go_iinc (pc := 122) (j := 7) (v := x36) C dX6_read_122 [(6, .int x36), (7, .int x26), (5, .int r21), (0, .ref ((tq_la X).1 27 0)), (1, .int v1), (2, .int v2), (3, .int v3), (4, .int v4)] rfl (by rw [e37]; rfl) (by decide) rfl ?_
            have hf := hf x36 e37
            refine go_goto (pc := 125) C dX6_read_125 45 (by decide) ?_
            exact go_sub [3, 4, 5, 6, 7, 2, 0] rfl (ih _ _ _ _ _ _ _ hf)
          · have hf := hf.2 c35
            refine go_bipush (pc := 116) (v := (-20)) C dX6_read_116 (by decide) ?_
            refine go_iload (pc := 118) C dX6_read_118 7 rfl ?_
            refine go_isub (pc := 120) C dX6_read_120 ?_
            exact hR _ _ _ _ dX6_read_121 hf
      · have hf := hf.2 c24
        refine go_goto (pc := 73) C dX6_read_73 128 (by decide) ?_
        exact go_sub [1, 0, 6] rfl (wk_X6_read_128 C hR _ _ _ hf)
set_option maxRecDepth 100000 in
set_option maxHeartbeats 4000000 in
theorem wk_X6_read {X : tq_Cx} {p1 : Int32} {p2 : Int32} {p3 : Int32} {p4 : Int32} {S : tq_St} {K : Int32 → tq_St → Prop} (C : tq_C X cX6_read 8 RX6 6) (hR : tq_Ri X cX6_read 8 K) (hf : wp_X6_read p1 p2 p3 p4 S K) : Go X 8 S 0 [(0, .ref ((tq_la X).1 27 0)), (1, .int p1), (2, .int p2), (3, .int p3), (4, .int p4)] [] := by
  refine go_iload_n (pc := 0) C dX6_read_0 1 rfl rfl ?_
  refine go_cSi (pc := 1) C cs_X6_239 (ok_X6_isSheet hf) rfl rfl rfl (by decide) rfl dX6_read_1 (fun r1 S2 hf => ?_)
  refine go_if_eq (pc := 4) C dX6_read_4 26 (by decide) (fun c4 => ?_) (fun c4 => ?_)
  · have hf := hf.1 c4
    refine go_iconst (pc := 26) (v := (-1)) C dX6_read_26 (by decide) ?_
    exact hR _ _ _ _ dX6_read_27 hf
  · have hf := hf.2 c4
    refine go_iload_n (pc := 7) C dX6_read_7 2 rfl rfl ?_
    refine go_cSi (pc := 8) C cs_X6_242 (ok_X6_isLane hf) rfl rfl rfl (by decide) rfl dX6_read_8 (fun r5 S6 hf => ?_)
    refine go_if_eq (pc := 11) C dX6_read_11 26 (by decide) (fun c8 => ?_) (fun c8 => ?_)
    · have hf := hf.1 c8
      refine go_iconst (pc := 26) (v := (-1)) C dX6_read_26 (by decide) ?_
      exact hR _ _ _ _ dX6_read_27 hf
    · have hf := hf.2 c8
      refine go_iload (pc := 14) C dX6_read_14 4 rfl ?_
      refine go_if_lt (pc := 16) C dX6_read_16 26 (by decide) (fun c9 => ?_) (fun c9 => ?_)
      · have hf := hf.1 c9
        refine go_iconst (pc := 26) (v := (-1)) C dX6_read_26 (by decide) ?_
        exact hR _ _ _ _ dX6_read_27 hf
      · have hf := hf.2 c9
        refine go_iload (pc := 19) C dX6_read_19 4 rfl ?_
        refine go_bipush (pc := 21) (v := 20) C dX6_read_21 (by decide) ?_
        refine go_ic_le (pc := 23) C dX6_read_23 28 (by decide) (fun c10 => ?_) (fun c10 => ?_)
        · have hf := hf.1 c10
          refine go_aload_n (pc := 28) C dX6_read_28 0 rfl rfl ?_
          refine ge_X6_X6_1 (pc := 29) C dX6_read_29 ?_
          refine go_aload_n (pc := 32) C dX6_read_32 0 rfl rfl ?_
          refine ge_X6_X6_0 (pc := 33) C dX6_read_33 ?_
          refine go_cVv (pc := 36) C cw_X6_163 (ok_X1_startFrom (by decide) (by decide) hf) (rc_X1 C (by decide)) rfl rfl rfl (by decide) rfl dX6_read_36 (fun S12 hf => ?_)
          refine go_iconst (pc := 39) (v := 0) C dX6_read_39 (by decide) ?_
          refine go_istore (pc := 40) C dX6_read_40 [(5, .int 0), (0, .ref ((tq_la X).1 27 0)), (1, .int p1), (2, .int p2), (3, .int p3), (4, .int p4)] (by decide) rfl ?_
          refine go_iconst (pc := 42) (v := 0) C dX6_read_42 (by decide) ?_
          refine go_istore (pc := 43) C dX6_read_43 [(6, .int 0), (5, .int 0), (0, .ref ((tq_la X).1 27 0)), (1, .int p1), (2, .int p2), (3, .int p3), (4, .int p4)] (by decide) rfl ?_
          exact go_sub [2, 3, 4, 5, 6, 1, 0] rfl (wk_X6_read_45 C hR 2000 _ _ _ _ _ _ _ hf)
        · have hf := hf.2 c10
          refine go_iconst (pc := 26) (v := (-1)) C dX6_read_26 (by decide) ?_
          exact hR _ _ _ _ dX6_read_27 hf
set_option maxRecDepth 100000 in
set_option maxHeartbeats 4000000 in
theorem ok_X6_read {p1 : Int32} {p2 : Int32} {p3 : Int32} {p4 : Int32} {S : tq_St} {K : Int32 → tq_St → Prop} (hf : wp_X6_read p1 p2 p3 p4 S K) : tq_Mi yX6_read cX6_read 8 (some .int) 6 (fun a z => [.ref (a.1 27 0), .int p1, .int p2, .int p3, .int p4]) S K :=
  tq_mkI (by decide) (fun _ _ => Nat.le_of_ble_eq_true rfl) (fun X C hR => wk_X6_read C hR  hf)
set_option maxRecDepth 100000 in
set_option maxHeartbeats 4000000 in
theorem wk_X6_room {X : tq_Cx} {p1 : Int32} {S : tq_St} {K : Int32 → tq_St → Prop} (C : tq_C X cX6_room 3 RX6 1) (hR : tq_Ri X cX6_room 3 K) (hf : wp_X6_room p1 S K) : Go X 3 S 0 [(0, .ref ((tq_la X).1 27 0)), (1, .int p1)] [] := by
  refine go_iload_n (pc := 0) C dX6_room_0 1 rfl rfl ?_
  refine go_iconst (pc := 1) (v := 1) C dX6_room_1 (by decide) ?_
  refine go_ic_lt (pc := 2) C dX6_room_2 10 (by decide) (fun c1 => ?_) (fun c1 => ?_)
  · have hf := hf.1 c1
    refine go_iconst (pc := 10) (v := (-1)) C dX6_room_10 (by decide) ?_
    exact hR _ _ _ _ dX6_room_11 hf
  · have hf := hf.2 c1
    refine go_iload_n (pc := 5) C dX6_room_5 1 rfl rfl ?_
    refine go_iconst (pc := 6) (v := 5) C dX6_room_6 (by decide) ?_
    refine go_ic_le (pc := 7) C dX6_room_7 12 (by decide) (fun c2 => ?_) (fun c2 => ?_)
    · have hf := hf.1 c2
      refine go_aload_n (pc := 12) C dX6_room_12 0 rfl rfl ?_
      refine ge_X6_X6_0 (pc := 13) C dX6_room_13 ?_
      refine ge_X6_X1_8 (pc := 16) C (by decide) dX6_room_16 ?_
      refine go_nI (fun x3 e4 => ?_)
      have hf := hf x3 e4
      refine go_istore_n (pc := 19) C dX6_room_19 [(2, .int x3), (0, .ref ((tq_la X).1 27 0)), (1, .int p1)] rfl (by decide) rfl ?_
      refine go_aload_n (pc := 20) C dX6_room_20 1 rfl rfl ?_
      refine ge_X6_X6_0 (pc := 21) C dX6_room_21 ?_
      refine go_iload_n (pc := 24) C dX6_room_24 2 rfl rfl ?_
      refine pu_X6_X1_8 (pc := 25) C (by decide) dX6_room_25 (fun S5 e6 => ?_)
      have hf := hf S5 e6
      refine go_iload_n (pc := 28) C dX6_room_28 0 rfl rfl ?_
      exact hR _ _ _ _ dX6_room_29 hf
    · have hf := hf.2 c2
      refine go_iconst (pc := 10) (v := (-1)) C dX6_room_10 (by decide) ?_
      exact hR _ _ _ _ dX6_room_11 hf
set_option maxRecDepth 100000 in
set_option maxHeartbeats 4000000 in
theorem ok_X6_room {p1 : Int32} {S : tq_St} {K : Int32 → tq_St → Prop} (hf : wp_X6_room p1 S K) : tq_Mi yX6_room cX6_room 3 (some .int) 1 (fun a z => [.ref (a.1 27 0), .int p1]) S K :=
  tq_mkI (by decide) (fun _ _ => Nat.le_of_ble_eq_true rfl) (fun X C hR => wk_X6_room C hR  hf)
set_option maxRecDepth 100000 in
set_option maxHeartbeats 4000000 in
theorem wk_X6_rule {X : tq_Cx} {p1 : Int32} {S : tq_St} {K : Int32 → tq_St → Prop} (C : tq_C X cX6_rule 2 RX6 3) (hR : tq_Ri X cX6_rule 2 K) (hf : wp_X6_rule p1 S K) : Go X 2 S 0 [(0, .ref ((tq_la X).1 27 0)), (1, .int p1)] [] := by
  refine go_iload_n (pc := 0) C dX6_rule_0 1 rfl rfl ?_
  rcases tq_sw (x := p1) (0) (6) with c1 | c1
  · have hf := hf.1 c1
    refine go_tabOut (pc := 1) C dX6_rule_1 100 (by decide) c1 ?_
    refine go_iconst (pc := 100) (v := (-1)) C dX6_rule_100 (by decide) ?_
    exact hR _ _ _ _ dX6_rule_101 hf
  · have c1 := tq_lt7 c1
    rcases c1 with c1 | c1 | c1 | c1 | c1 | c1 | c1
    · have hf := hf.2.1 c1
      refine go_tabIn (pc := 1) C dX6_rule_1 44 (43) (by decide) (by rw [c1]; decide) (by rw [c1]; decide) (by rw [c1]; rfl) ?_
      refine go_aload_n (pc := 44) C dX6_rule_44 0 rfl rfl ?_
      refine ge_X6_X6_0 (pc := 45) C dX6_rule_45 ?_
      refine ge_X6_X1_5 (pc := 48) C (by decide) dX6_rule_48 ?_
      exact hR _ _ _ _ dX6_rule_51 hf
    · have hf := hf.2.2.1 c1
      refine go_tabIn (pc := 1) C dX6_rule_1 52 (51) (by decide) (by rw [c1]; decide) (by rw [c1]; decide) (by rw [c1]; rfl) ?_
      refine go_aload_n (pc := 52) C dX6_rule_52 0 rfl rfl ?_
      refine ge_X6_X6_0 (pc := 53) C dX6_rule_53 ?_
      refine ge_X6_X1_7 (pc := 56) C (by decide) dX6_rule_56 ?_
      exact hR _ _ _ _ dX6_rule_59 hf
    · have hf := hf.2.2.2.1 c1
      refine go_tabIn (pc := 1) C dX6_rule_1 60 (59) (by decide) (by rw [c1]; decide) (by rw [c1]; decide) (by rw [c1]; rfl) ?_
      refine go_aload_n (pc := 60) C dX6_rule_60 0 rfl rfl ?_
      refine ge_X6_X6_0 (pc := 61) C dX6_rule_61 ?_
      refine ge_X6_X1_8 (pc := 64) C (by decide) dX6_rule_64 ?_
      exact hR _ _ _ _ dX6_rule_67 hf
    · have hf := hf.2.2.2.2.1 c1
      refine go_tabIn (pc := 1) C dX6_rule_1 68 (67) (by decide) (by rw [c1]; decide) (by rw [c1]; decide) (by rw [c1]; rfl) ?_
      refine go_aload_n (pc := 68) C dX6_rule_68 0 rfl rfl ?_
      refine ge_X6_X6_0 (pc := 69) C dX6_rule_69 ?_
      refine ge_X6_X1_9 (pc := 72) C (by decide) dX6_rule_72 ?_
      exact hR _ _ _ _ dX6_rule_75 hf
    · have hf := hf.2.2.2.2.2.1 c1
      refine go_tabIn (pc := 1) C dX6_rule_1 76 (75) (by decide) (by rw [c1]; decide) (by rw [c1]; decide) (by rw [c1]; rfl) ?_
      refine go_aload_n (pc := 76) C dX6_rule_76 0 rfl rfl ?_
      refine ge_X6_X6_0 (pc := 77) C dX6_rule_77 ?_
      refine ge_X6_X1_10 (pc := 80) C (by decide) dX6_rule_80 ?_
      exact hR _ _ _ _ dX6_rule_83 hf
    · have hf := hf.2.2.2.2.2.2.1 c1
      refine go_tabIn (pc := 1) C dX6_rule_1 84 (83) (by decide) (by rw [c1]; decide) (by rw [c1]; decide) (by rw [c1]; rfl) ?_
      refine go_aload_n (pc := 84) C dX6_rule_84 0 rfl rfl ?_
      refine ge_X6_X6_0 (pc := 85) C dX6_rule_85 ?_
      refine go_cVi (pc := 88) C cw_X6_106 (ok_X1_waitingBits (by decide) hf) (rc_X1 C (by decide)) rfl rfl rfl (by decide) rfl dX6_rule_88 (fun r2 S3 hf => ?_)
      exact hR _ _ _ _ dX6_rule_91 hf
    · have hf := hf.2.2.2.2.2.2.2 c1
      refine go_tabIn (pc := 1) C dX6_rule_1 92 (91) (by decide) (by rw [c1]; decide) (by rw [c1]; decide) (by rw [c1]; rfl) ?_
      refine go_aload_n (pc := 92) C dX6_rule_92 0 rfl rfl ?_
      refine ge_X6_X6_0 (pc := 93) C dX6_rule_93 ?_
      refine go_cVi (pc := 96) C cw_X6_109 (ok_X1_allSorrow (by decide) hf) (rc_X1 C (by decide)) rfl rfl rfl (by decide) rfl dX6_rule_96 (fun r5 S6 hf => ?_)
      exact hR _ _ _ _ dX6_rule_99 hf
set_option maxRecDepth 100000 in
set_option maxHeartbeats 4000000 in
theorem ok_X6_rule {p1 : Int32} {S : tq_St} {K : Int32 → tq_St → Prop} (hf : wp_X6_rule p1 S K) : tq_Mi yX6_rule cX6_rule 2 (some .int) 3 (fun a z => [.ref (a.1 27 0), .int p1]) S K :=
  tq_mkI (by decide) (fun _ _ => Nat.le_of_ble_eq_true rfl) (fun X C hR => wk_X6_rule C hR  hf)
set_option maxRecDepth 100000 in
set_option maxHeartbeats 4000000 in
theorem wk_X6_runs {X : tq_Cx} {p1 : Int32} {S : tq_St} {K : Int32 → tq_St → Prop} (C : tq_C X cX6_runs 2 RX6 7) (hR : tq_Ri X cX6_runs 2 K) (hf : wp_X6_runs p1 S K) : Go X 2 S 0 [(0, .ref ((tq_la X).1 27 0)), (1, .int p1)] [] := by
  refine go_iload_n (pc := 0) C dX6_runs_0 1 rfl rfl ?_
  refine go_if_lt (pc := 1) C dX6_runs_1 9 (by decide) (fun c1 => ?_) (fun c1 => ?_)
  · have hf := hf.1 c1
    refine go_iconst (pc := 9) (v := (-1)) C dX6_runs_9 (by decide) ?_
    exact hR _ _ _ _ dX6_runs_10 hf
  · have hf := hf.2 c1
    refine go_iload_n (pc := 4) C dX6_runs_4 1 rfl rfl ?_
    refine go_iconst (pc := 5) (v := 4) C dX6_runs_5 (by decide) ?_
    refine go_ic_le (pc := 6) C dX6_runs_6 11 (by decide) (fun c2 => ?_) (fun c2 => ?_)
    · have hf := hf.1 c2
      refine go_aload_n (pc := 11) C dX6_runs_11 0 rfl rfl ?_
      refine ge_X6_X6_1 (pc := 12) C dX6_runs_12 ?_
      refine go_aload_n (pc := 15) C dX6_runs_15 0 rfl rfl ?_
      refine ge_X6_X6_0 (pc := 16) C dX6_runs_16 ?_
      refine go_cVv (pc := 19) C cw_X6_163 (ok_X1_startFrom (by decide) (by decide) hf) (rc_X1 C (by decide)) rfl rfl rfl (by decide) rfl dX6_runs_19 (fun S4 hf => ?_)
      refine go_aload_n (pc := 22) C dX6_runs_22 0 rfl rfl ?_
      refine ge_X6_X6_1 (pc := 23) C dX6_runs_23 ?_
      refine go_cVv (pc := 26) C cw_X6_166 (ok_X1_followPlan (by decide) hf) (rc_X1 C (by decide)) rfl rfl rfl (by decide) rfl dX6_runs_26 (fun S7 hf => ?_)
      refine go_iload_n (pc := 29) C dX6_runs_29 1 rfl rfl ?_
      rcases tq_sw (x := p1) (0) (3) with c9 | c9
      · have hf := hf.1 c9
        refine go_tabOut (pc := 30) C dX6_runs_30 92 (by decide) c9 ?_
        refine go_aload_n (pc := 92) C dX6_runs_92 0 rfl rfl ?_
        refine ge_X6_X6_1 (pc := 93) C dX6_runs_93 ?_
        refine go_cVi (pc := 96) C cw_X6_109 (ok_X1_allSorrow (by decide) hf) (rc_X1 C (by decide)) rfl rfl rfl (by decide) rfl dX6_runs_96 (fun r10 S11 hf => ?_)
        exact hR _ _ _ _ dX6_runs_99 hf
      · have c9 := tq_lt4 c9
        rcases c9 with c9 | c9 | c9 | c9
        · have hf := hf.2.1 c9
          refine go_tabIn (pc := 30) C dX6_runs_30 60 (30) (by decide) (by rw [c9]; decide) (by rw [c9]; decide) (by rw [c9]; rfl) ?_
          refine go_aload_n (pc := 60) C dX6_runs_60 0 rfl rfl ?_
          refine ge_X6_X6_1 (pc := 61) C dX6_runs_61 ?_
          refine ge_X6_X1_6 (pc := 64) C (by decide) dX6_runs_64 ?_
          exact hR _ _ _ _ dX6_runs_67 hf
        · have hf := hf.2.2.1 c9
          refine go_tabIn (pc := 30) C dX6_runs_30 68 (38) (by decide) (by rw [c9]; decide) (by rw [c9]; decide) (by rw [c9]; rfl) ?_
          refine go_aload_n (pc := 68) C dX6_runs_68 0 rfl rfl ?_
          refine ge_X6_X6_1 (pc := 69) C dX6_runs_69 ?_
          refine ge_X6_X1_11 (pc := 72) C (by decide) dX6_runs_72 ?_
          exact hR _ _ _ _ dX6_runs_75 hf
        · have hf := hf.2.2.2.1 c9
          refine go_tabIn (pc := 30) C dX6_runs_30 76 (46) (by decide) (by rw [c9]; decide) (by rw [c9]; decide) (by rw [c9]; rfl) ?_
          refine go_aload_n (pc := 76) C dX6_runs_76 0 rfl rfl ?_
          refine ge_X6_X6_1 (pc := 77) C dX6_runs_77 ?_
          refine ge_X6_X1_12 (pc := 80) C (by decide) dX6_runs_80 ?_
          exact hR _ _ _ _ dX6_runs_83 hf
        · have hf := hf.2.2.2.2 c9
          refine go_tabIn (pc := 30) C dX6_runs_30 84 (54) (by decide) (by rw [c9]; decide) (by rw [c9]; decide) (by rw [c9]; rfl) ?_
          refine go_aload_n (pc := 84) C dX6_runs_84 0 rfl rfl ?_
          refine ge_X6_X6_1 (pc := 85) C dX6_runs_85 ?_
          refine ge_X6_X1_13 (pc := 88) C (by decide) dX6_runs_88 ?_
          exact hR _ _ _ _ dX6_runs_91 hf
    · have hf := hf.2 c2
      refine go_iconst (pc := 9) (v := (-1)) C dX6_runs_9 (by decide) ?_
      exact hR _ _ _ _ dX6_runs_10 hf
set_option maxRecDepth 100000 in
set_option maxHeartbeats 4000000 in
theorem ok_X6_runs {p1 : Int32} {S : tq_St} {K : Int32 → tq_St → Prop} (hf : wp_X6_runs p1 S K) : tq_Mi yX6_runs cX6_runs 2 (some .int) 7 (fun a z => [.ref (a.1 27 0), .int p1]) S K :=
  tq_mkI (by decide) (fun _ _ => Nat.le_of_ble_eq_true rfl) (fun X C hR => wk_X6_runs C hR  hf)
set_option maxRecDepth 100000 in
set_option maxHeartbeats 4000000 in
theorem wk_X6_second {X : tq_Cx} {S : tq_St} {K : Int32 → tq_St → Prop} (C : tq_C X cX6_second 2 RX6 2) (hR : tq_Ri X cX6_second 2 K) (hf : wp_X6_second S K) : Go X 2 S 0 [(0, .ref ((tq_la X).1 27 0))] [] := by
  refine go_aload_n (pc := 0) C dX6_second_0 0 rfl rfl ?_
  refine ge_X6_X6_0 (pc := 1) C dX6_second_1 ?_
  refine ge_X6_X1_6 (pc := 4) C (by decide) dX6_second_4 ?_
  refine go_cSi (pc := 7) C cs_X6_158 (ok_J6_bitCount_0f7a4 hf) rfl rfl rfl (by decide) rfl dX6_second_7 (fun r1 S2 hf => ?_)
  refine go_istore_n (pc := 10) C dX6_second_10 [(1, .int r1), (0, .ref ((tq_la X).1 27 0))] rfl (by decide) rfl ?_
  refine go_aload_n (pc := 11) C dX6_second_11 1 rfl rfl ?_
  refine ge_X6_X6_0 (pc := 12) C dX6_second_12 ?_
  refine go_iconst (pc := 15) (v := 0) C dX6_second_15 (by decide) ?_
  refine pu_X6_X1_6 (pc := 16) C (by decide) dX6_second_16 (fun S4 e5 => ?_)
  have hf := hf S4 e5
  refine go_iload_n (pc := 19) C dX6_second_19 0 rfl rfl ?_
  exact hR _ _ _ _ dX6_second_20 hf
set_option maxRecDepth 100000 in
set_option maxHeartbeats 4000000 in
theorem ok_X6_second {S : tq_St} {K : Int32 → tq_St → Prop} (hf : wp_X6_second S K) : tq_Mi yX6_second cX6_second 2 (some .int) 2 (fun a z => [.ref (a.1 27 0)]) S K :=
  tq_mkI (by decide) (fun _ _ => Nat.le_of_ble_eq_true rfl) (fun X C hR => wk_X6_second C hR  hf)
set_option maxRecDepth 100000 in
set_option maxHeartbeats 4000000 in
theorem wk_X6_see {X : tq_Cx} {p1 : Int32} {p2 : Int32} {S : tq_St} {K : Int32 → tq_St → Prop} (C : tq_C X cX6_see 3 RX6 2) (hR : tq_Ri X cX6_see 3 K) (hf : wp_X6_see p1 p2 S K) : Go X 3 S 0 [(0, .ref ((tq_la X).1 27 0)), (1, .int p1), (2, .int p2)] [] := by
  refine go_aload_n (pc := 0) C dX6_see_0 0 rfl rfl ?_
  refine ge_X6_X6_0 (pc := 1) C dX6_see_1 ?_
  refine go_iload_n (pc := 4) C dX6_see_4 1 rfl rfl ?_
  refine go_cVi (pc := 5) C cw_X6_112 (ok_X1_isThere (by decide) hf) (rc_X1 C (by decide)) rfl rfl rfl (by decide) rfl dX6_see_5 (fun r1 S2 hf => ?_)
  refine go_if_ne (pc := 8) C dX6_see_8 13 (by decide) (fun c4 => ?_) (fun c4 => ?_)
  · have hf := hf.1 c4
    refine go_aload_n (pc := 13) C dX6_see_13 0 rfl rfl ?_
    refine ge_X6_X6_3 (pc := 14) C dX6_see_14 ?_
    refine go_iload_n (pc := 17) C dX6_see_17 1 rfl rfl ?_
    refine go_iload_n (pc := 18) C dX6_see_18 2 rfl rfl ?_
    refine go_cVi (pc := 19) C cw_X6_222 (ok_X4_add hf) (rc_X4 C) rfl rfl rfl (by decide) rfl dX6_see_19 (fun r5 S6 hf => ?_)
    refine go_if_eq (pc := 22) C dX6_see_22 35 (by decide) (fun c8 => ?_) (fun c8 => ?_)
    · have hf := hf.1 c8
      refine go_bipush (pc := 35) (v := (-3)) C dX6_see_35 (by decide) ?_
      exact hR _ _ _ _ dX6_see_37 hf
    · have hf := hf.2 c8
      refine go_aload_n (pc := 25) C dX6_see_25 0 rfl rfl ?_
      refine ge_X6_X6_3 (pc := 26) C dX6_see_26 ?_
      refine ge_X6_X4_2 (pc := 29) C dX6_see_29 ?_
      refine go_goto (pc := 32) C dX6_see_32 37 (by decide) ?_
      exact hR _ _ _ _ dX6_see_37 hf
  · have hf := hf.2 c4
    refine go_iconst (pc := 11) (v := (-1)) C dX6_see_11 (by decide) ?_
    exact hR _ _ _ _ dX6_see_12 hf
set_option maxRecDepth 100000 in
set_option maxHeartbeats 4000000 in
theorem ok_X6_see {p1 : Int32} {p2 : Int32} {S : tq_St} {K : Int32 → tq_St → Prop} (hf : wp_X6_see p1 p2 S K) : tq_Mi yX6_see cX6_see 3 (some .int) 2 (fun a z => [.ref (a.1 27 0), .int p1, .int p2]) S K :=
  tq_mkI (by decide) (fun _ _ => Nat.le_of_ble_eq_true rfl) (fun X C hR => wk_X6_see C hR  hf)
set_option maxRecDepth 100000 in
set_option maxHeartbeats 4000000 in
theorem wk_X6_sheet {X : tq_Cx} {p1 : Int32} {p2 : Int32} {p3 : Int32} {S : tq_St} {K : Int32 → tq_St → Prop} (C : tq_C X cX6_sheet 4 RX6 3) (hR : tq_Ri X cX6_sheet 4 K) (hf : wp_X6_sheet p1 p2 p3 S K) : Go X 4 S 0 [(0, .ref ((tq_la X).1 27 0)), (1, .int p1), (2, .int p2), (3, .int p3)] [] := by
  refine go_iload_n (pc := 0) C dX6_sheet_0 1 rfl rfl ?_
  refine go_cSi (pc := 1) C cs_X6_239 (ok_X6_isSheet hf) rfl rfl rfl (by decide) rfl dX6_sheet_1 (fun r1 S2 hf => ?_)
  refine go_if_eq (pc := 4) C dX6_sheet_4 20 (by decide) (fun c4 => ?_) (fun c4 => ?_)
  · have hf := hf.1 c4
    refine go_iconst (pc := 20) (v := (-1)) C dX6_sheet_20 (by decide) ?_
    exact hR _ _ _ _ dX6_sheet_21 hf
  · have hf := hf.2 c4
    refine go_iload_n (pc := 7) C dX6_sheet_7 2 rfl rfl ?_
    refine go_cSi (pc := 8) C cs_X6_242 (ok_X6_isLane hf) rfl rfl rfl (by decide) rfl dX6_sheet_8 (fun r5 S6 hf => ?_)
    refine go_if_eq (pc := 11) C dX6_sheet_11 20 (by decide) (fun c8 => ?_) (fun c8 => ?_)
    · have hf := hf.1 c8
      refine go_iconst (pc := 20) (v := (-1)) C dX6_sheet_20 (by decide) ?_
      exact hR _ _ _ _ dX6_sheet_21 hf
    · have hf := hf.2 c8
      refine go_iload_n (pc := 14) C dX6_sheet_14 3 rfl rfl ?_
      refine go_bipush (pc := 15) (v := 40) C dX6_sheet_15 (by decide) ?_
      refine go_ic_le (pc := 17) C dX6_sheet_17 22 (by decide) (fun c9 => ?_) (fun c9 => ?_)
      · have hf := hf.1 c9
        refine go_iload_n (pc := 22) C dX6_sheet_22 3 rfl rfl ?_
        refine go_if_ge (pc := 23) C dX6_sheet_23 29 (by decide) (fun c10 => ?_) (fun c10 => ?_)
        · have hf := hf.1 c10
          refine go_aload_n (pc := 29) C dX6_sheet_29 0 rfl rfl ?_
          refine ge_X6_X6_8 (pc := 30) C dX6_sheet_30 ?_
          refine go_iload_n (pc := 33) C dX6_sheet_33 1 rfl rfl ?_
          refine al_X6_8 (pc := 34) C hf.1 dX6_sheet_34 ?_
          have h11 : 23 ≤ 23 + (p1 : Int32).toNatClampNeg ∧ 23 + (p1 : Int32).toNatClampNeg < 27 := tq_ls hf.1
          have hf := hf.2
          refine go_iload_n (pc := 35) C dX6_sheet_35 2 rfl rfl ?_
          refine go_iload_n (pc := 36) C dX6_sheet_36 3 rfl rfl ?_
          refine go_cVv (pc := 37) C cw_X6_245 (ok_X3_renew h11 hf) (rc_X3 C h11) rfl rfl rfl (by decide) rfl dX6_sheet_37 (fun S13 hf => ?_)
          refine go_iconst (pc := 40) (v := 1) C dX6_sheet_40 (by decide) ?_
          exact hR _ _ _ _ dX6_sheet_41 hf
        · have hf := hf.2 c10
          refine go_bipush (pc := 26) (v := (-14)) C dX6_sheet_26 (by decide) ?_
          exact hR _ _ _ _ dX6_sheet_28 hf
      · have hf := hf.2 c9
        refine go_iconst (pc := 20) (v := (-1)) C dX6_sheet_20 (by decide) ?_
        exact hR _ _ _ _ dX6_sheet_21 hf
set_option maxRecDepth 100000 in
set_option maxHeartbeats 4000000 in
theorem ok_X6_sheet {p1 : Int32} {p2 : Int32} {p3 : Int32} {S : tq_St} {K : Int32 → tq_St → Prop} (hf : wp_X6_sheet p1 p2 p3 S K) : tq_Mi yX6_sheet cX6_sheet 4 (some .int) 3 (fun a z => [.ref (a.1 27 0), .int p1, .int p2, .int p3]) S K :=
  tq_mkI (by decide) (fun _ _ => Nat.le_of_ble_eq_true rfl) (fun X C hR => wk_X6_sheet C hR  hf)
set_option maxRecDepth 100000 in
set_option maxHeartbeats 4000000 in
theorem wk_X6_soon_40 {X : tq_Cx} {K : Int32 → tq_St → Prop} (C : tq_C X cX6_soon 3 RX6 5) (hR : tq_Ri X cX6_soon 3 K) : ∀ (n : Nat) (v1 : Int32) (v2 : Int32) (S : tq_St), wp_X6_soon_40 K n v1 v2 S → Go X 3 S 40 [(0, .ref ((tq_la X).1 27 0)), (1, .int v1), (2, .int v2)] [] := by
  intro n
  induction n with
  | zero => intros; contradiction
  | succ n ih =>
    intro v1 v2 S hf
    refine go_iload_n (pc := 40) C dX6_soon_40 2 rfl rfl ?_
    refine go_bipush (pc := 41) (v := 9) C dX6_soon_41 (by decide) ?_
    refine go_ic_gt (pc := 43) C dX6_soon_43 75 (by decide) (fun c12 => ?_) (fun c12 => ?_)
    · have hf := hf.1 c12
      refine go_bipush (pc := 75) (v := (-4)) C dX6_soon_75 (by decide) ?_
      exact hR _ _ _ _ dX6_soon_77 hf
    · have hf := hf.2 c12
      refine go_aload_n (pc := 46) C dX6_soon_46 0 rfl rfl ?_
      refine ge_X6_X6_1 (pc := 47) C dX6_soon_47 ?_
      refine go_iconst (pc := 50) (v := 0) C dX6_soon_50 (by decide) ?_
      refine go_cVi (pc := 51) C cw_X6_134 (ok_X1_inLine (by decide) hf) (rc_X1 C (by decide)) rfl rfl rfl (by decide) rfl dX6_soon_51 (fun r13 S14 hf => ?_)
      refine go_iload_n (pc := 54) C dX6_soon_54 1 rfl rfl ?_
      refine go_ic_ne (pc := 55) C dX6_soon_55 60 (by decide) (fun c16 => ?_) (fun c16 => ?_)
      · have hf := hf.1 c16
        refine go_aload_n (pc := 60) C dX6_soon_60 0 rfl rfl ?_
        refine ge_X6_X6_1 (pc := 61) C dX6_soon_61 ?_
        refine go_iload_n (pc := 64) C dX6_soon_64 1 rfl rfl ?_
        refine go_cVi (pc := 65) C cw_X6_143 (ok_X1_thinkAndWeep (by decide) hf) (rc_X1 C (by decide)) rfl rfl rfl (by decide) rfl dX6_soon_65 (fun r17 S18 hf => ?_)
        refine go_pop (pc := 68) C dX6_soon_68 rfl ?_
        obtain ⟨x20, e21⟩ : ∃ q9 : Int32, q9 = v2 + 1 := ⟨_, rfl⟩
        refine go_iinc (pc := 69) (j := 2) (v := x20) C dX6_soon_69 [(2, .int x20), (0, .ref ((tq_la X).1 27 0)), (1, .int v1)] rfl (by rw [e21]; rfl) (by decide) rfl ?_
        have hf := hf x20 e21
        refine go_goto (pc := 72) C dX6_soon_72 40 (by decide) ?_
        exact go_sub [1, 2, 0] rfl (ih _ _ _ hf)
      · have hf := hf.2 c16
        refine go_iload_n (pc := 58) C dX6_soon_58 2 rfl rfl ?_
        exact hR _ _ _ _ dX6_soon_59 hf
set_option maxRecDepth 100000 in
set_option maxHeartbeats 4000000 in
theorem wk_X6_soon {X : tq_Cx} {p1 : Int32} {S : tq_St} {K : Int32 → tq_St → Prop} (C : tq_C X cX6_soon 3 RX6 5) (hR : tq_Ri X cX6_soon 3 K) (hf : wp_X6_soon p1 S K) : Go X 3 S 0 [(0, .ref ((tq_la X).1 27 0)), (1, .int p1)] [] := by
  refine go_aload_n (pc := 0) C dX6_soon_0 0 rfl rfl ?_
  refine ge_X6_X6_0 (pc := 1) C dX6_soon_1 ?_
  refine go_iload_n (pc := 4) C dX6_soon_4 1 rfl rfl ?_
  refine go_cVi (pc := 5) C cw_X6_112 (ok_X1_isThere (by decide) hf) (rc_X1 C (by decide)) rfl rfl rfl (by decide) rfl dX6_soon_5 (fun r1 S2 hf => ?_)
  refine go_if_ne (pc := 8) C dX6_soon_8 13 (by decide) (fun c4 => ?_) (fun c4 => ?_)
  · have hf := hf.1 c4
    refine go_aload_n (pc := 13) C dX6_soon_13 0 rfl rfl ?_
    refine ge_X6_X6_0 (pc := 14) C dX6_soon_14 ?_
    refine go_iload_n (pc := 17) C dX6_soon_17 1 rfl rfl ?_
    refine go_cVi (pc := 18) C cw_X6_128 (ok_X1_waits (by decide) hf) (rc_X1 C (by decide)) rfl rfl rfl (by decide) rfl dX6_soon_18 (fun r5 S6 hf => ?_)
    refine go_if_ne (pc := 21) C dX6_soon_21 27 (by decide) (fun c8 => ?_) (fun c8 => ?_)
    · have hf := hf.1 c8
      refine go_aload_n (pc := 27) C dX6_soon_27 0 rfl rfl ?_
      refine ge_X6_X6_1 (pc := 28) C dX6_soon_28 ?_
      refine go_aload_n (pc := 31) C dX6_soon_31 0 rfl rfl ?_
      refine ge_X6_X6_0 (pc := 32) C dX6_soon_32 ?_
      refine go_cVv (pc := 35) C cw_X6_163 (ok_X1_startFrom (by decide) (by decide) hf) (rc_X1 C (by decide)) rfl rfl rfl (by decide) rfl dX6_soon_35 (fun S10 hf => ?_)
      refine go_iconst (pc := 38) (v := 0) C dX6_soon_38 (by decide) ?_
      refine go_istore_n (pc := 39) C dX6_soon_39 [(2, .int 0), (0, .ref ((tq_la X).1 27 0)), (1, .int p1)] rfl (by decide) rfl ?_
      exact go_sub [1, 2, 0] rfl (wk_X6_soon_40 C hR 2000 _ _ _ hf)
    · have hf := hf.2 c8
      refine go_bipush (pc := 24) (v := (-4)) C dX6_soon_24 (by decide) ?_
      exact hR _ _ _ _ dX6_soon_26 hf
  · have hf := hf.2 c4
    refine go_iconst (pc := 11) (v := (-1)) C dX6_soon_11 (by decide) ?_
    exact hR _ _ _ _ dX6_soon_12 hf
set_option maxRecDepth 100000 in
set_option maxHeartbeats 4000000 in
theorem ok_X6_soon {p1 : Int32} {S : tq_St} {K : Int32 → tq_St → Prop} (hf : wp_X6_soon p1 S K) : tq_Mi yX6_soon cX6_soon 3 (some .int) 5 (fun a z => [.ref (a.1 27 0), .int p1]) S K :=
  tq_mkI (by decide) (fun _ _ => Nat.le_of_ble_eq_true rfl) (fun X C hR => wk_X6_soon C hR  hf)
set_option maxRecDepth 100000 in
set_option maxHeartbeats 4000000 in
theorem wk_X6_sorrows {X : tq_Cx} {p1 : Int32} {S : tq_St} {K : Int32 → tq_St → Prop} (C : tq_C X cX6_sorrows 2 RX6 8) (hR : tq_Ri X cX6_sorrows 2 K) (hf : wp_X6_sorrows p1 S K) : Go X 2 S 0 [(0, .ref ((tq_la X).1 27 0)), (1, .int p1)] [] := by
  refine go_aload_n (pc := 0) C dX6_sorrows_0 0 rfl rfl ?_
  refine ge_X6_X6_0 (pc := 1) C dX6_sorrows_1 ?_
  refine go_iload_n (pc := 4) C dX6_sorrows_4 1 rfl rfl ?_
  refine go_cVi (pc := 5) C cw_X6_112 (ok_X1_isThere (by decide) hf) (rc_X1 C (by decide)) rfl rfl rfl (by decide) rfl dX6_sorrows_5 (fun r1 S2 hf => ?_)
  refine go_if_eq (pc := 8) C dX6_sorrows_8 19 (by decide) (fun c4 => ?_) (fun c4 => ?_)
  · have hf := hf.1 c4
    refine go_iconst (pc := 19) (v := (-1)) C dX6_sorrows_19 (by decide) ?_
    exact hR _ _ _ _ dX6_sorrows_20 hf
  · have hf := hf.2 c4
    refine go_aload_n (pc := 11) C dX6_sorrows_11 0 rfl rfl ?_
    refine go_iload_n (pc := 12) C dX6_sorrows_12 1 rfl rfl ?_
    refine go_cVi (pc := 13) C cw_X6_229 (ok_X6_possibleSorrows hf) (rc_X6 C) rfl rfl rfl (by decide) rfl dX6_sorrows_13 (fun r5 S6 hf => ?_)
    refine go_goto (pc := 16) C dX6_sorrows_16 20 (by decide) ?_
    exact hR _ _ _ _ dX6_sorrows_20 hf
set_option maxRecDepth 100000 in
set_option maxHeartbeats 4000000 in
theorem ok_X6_sorrows {p1 : Int32} {S : tq_St} {K : Int32 → tq_St → Prop} (hf : wp_X6_sorrows p1 S K) : tq_Mi yX6_sorrows cX6_sorrows 2 (some .int) 8 (fun a z => [.ref (a.1 27 0), .int p1]) S K :=
  tq_mkI (by decide) (fun _ _ => Nat.le_of_ble_eq_true rfl) (fun X C hR => wk_X6_sorrows C hR  hf)
set_option maxRecDepth 100000 in
set_option maxHeartbeats 4000000 in
theorem wk_X6_swap_40 {X : tq_Cx} {K : Int32 → tq_St → Prop} (C : tq_C X cX6_swap 7 RX6 8) (hR : tq_Ri X cX6_swap 7 K) {rec22 : Int32 → Int32 → Int32 → Int32 → tq_St → Prop} (hrec22 : ∀ (v1 : Int32) (v2 : Int32) (v3 : Int32) (v4 : Int32) (S : tq_St), rec22 v1 v2 v3 v4 S → Go X 7 S 22 [(0, .ref ((tq_la X).1 27 0)), (1, .int v1), (2, .int v2), (3, .int v3), (4, .int v4)] []) : ∀ (n : Nat) (v1 : Int32) (v2 : Int32) (v3 : Int32) (v4 : Int32) (v5 : Int32) (S : tq_St), wp_X6_swap_40 K rec22 n v1 v2 v3 v4 v5 S → Go X 7 S 40 [(0, .ref ((tq_la X).1 27 0)), (1, .int v1), (2, .int v2), (3, .int v3), (4, .int v4), (5, .int v5)] [] := by
  intro n
  induction n with
  | zero => intros; contradiction
  | succ n ih =>
    intro v1 v2 v3 v4 v5 S hf
    refine go_iload (pc := 40) C dX6_swap_40 5 rfl ?_
    refine go_aload_n (pc := 42) C dX6_swap_42 0 rfl rfl ?_
    refine ge_X6_X6_0 (pc := 43) C dX6_swap_43 ?_
    refine ge_X6_X1_10 (pc := 46) C (by decide) dX6_swap_46 ?_
    refine go_ic_ge (pc := 49) C dX6_swap_49 86 (by decide) (fun c13 => ?_) (fun c13 => ?_)
    · have hf := hf.1 c13
      obtain ⟨x14, e15⟩ : ∃ q9 : Int32, q9 = v4 + 1 := ⟨_, rfl⟩
      refine go_iinc (pc := 86) (j := 4) (v := x14) C dX6_swap_86 [(4, .int x14), (0, .ref ((tq_la X).1 27 0)), (1, .int v1), (2, .int v2), (3, .int v3), (5, .int v5)] rfl (by rw [e15]; rfl) (by decide) rfl ?_
      have hf := hf x14 e15
      refine go_goto (pc := 89) C dX6_swap_89 22 (by decide) ?_
      exact go_sub [1, 2, 3, 4, 0] rfl (hrec22 _ _ _ _ _ hf)
    · have hf := hf.2 c13
      refine go_aload_n (pc := 52) C dX6_swap_52 0 rfl rfl ?_
      refine go_iload (pc := 53) C dX6_swap_53 4 rfl ?_
      refine go_iload (pc := 55) C dX6_swap_55 5 rfl ?_
      refine go_cVi (pc := 57) C cw_X6_201 (ok_X6_goneByChangedPlan hf) (rc_X6 C) rfl rfl rfl (by decide) rfl dX6_swap_57 (fun r16 S17 hf => ?_)
      refine go_istore (pc := 60) C dX6_swap_60 [(6, .int r16), (0, .ref ((tq_la X).1 27 0)), (1, .int v1), (2, .int v2), (3, .int v3), (4, .int v4), (5, .int v5)] (by decide) rfl ?_
      refine go_iload (pc := 62) C dX6_swap_62 0 rfl ?_
      refine go_iload_n (pc := 64) C dX6_swap_64 3 rfl rfl ?_
      refine go_ic_le (pc := 65) C dX6_swap_65 80 (by decide) (fun c19 => ?_) (fun c19 => ?_)
      · have hf := hf.1 c19
        obtain ⟨x20, e21⟩ : ∃ q9 : Int32, q9 = v5 + 1 := ⟨_, rfl⟩
        refine go_iinc (pc := 80) (j := 6) (v := x20) C dX6_swap_80 [(5, .int x20), (6, .int r16), (0, .ref ((tq_la X).1 27 0)), (1, .int v1), (2, .int v2), (3, .int v3), (4, .int v4)] rfl (by rw [e21]; rfl) (by decide) rfl ?_
        have hf := hf x20 e21
        refine go_goto (pc := 83) C dX6_swap_83 40 (by decide) ?_
        exact go_sub [2, 3, 4, 5, 6, 0] rfl (ih _ _ _ _ _ _ hf)
      · have hf := hf.2 c19
        refine go_iload (pc := 68) C dX6_swap_68 0 rfl ?_
        refine go_istore_n (pc := 70) C dX6_swap_70 [(2, .int r16), (6, .int r16), (0, .ref ((tq_la X).1 27 0)), (1, .int v1), (3, .int v3), (4, .int v4), (5, .int v5)] rfl (by decide) rfl ?_
        refine go_bipush (pc := 71) (v := 10) C dX6_swap_71 (by decide) ?_
        refine go_iload (pc := 73) C dX6_swap_73 5 rfl ?_
        refine go_imul (pc := 75) C dX6_swap_75 ?_
        refine go_iload (pc := 76) C dX6_swap_76 6 rfl ?_
        refine go_iadd (pc := 78) C dX6_swap_78 ?_
        refine go_nI (fun x22 e23 => ?_)
        have hf := hf x22 e23
        refine go_istore_n (pc := 79) C dX6_swap_79 [(3, .int x22), (2, .int r16), (6, .int r16), (0, .ref ((tq_la X).1 27 0)), (1, .int v1), (4, .int v4), (5, .int v5)] rfl (by decide) rfl ?_
        obtain ⟨x24, e25⟩ : ∃ q9 : Int32, q9 = v5 + 1 := ⟨_, rfl⟩
        refine go_iinc (pc := 80) (j := 6) (v := x24) C dX6_swap_80 [(5, .int x24), (3, .int x22), (2, .int r16), (6, .int r16), (0, .ref ((tq_la X).1 27 0)), (1, .int v1), (4, .int v4)] rfl (by rw [e25]; rfl) (by decide) rfl ?_
        have hf := hf x24 e25
        refine go_goto (pc := 83) C dX6_swap_83 40 (by decide) ?_
        exact go_sub [4, 5, 2, 1, 6, 0] rfl (ih _ _ _ _ _ _ hf)
set_option maxRecDepth 100000 in
set_option maxHeartbeats 4000000 in
theorem wk_X6_swap_22 {X : tq_Cx} {K : Int32 → tq_St → Prop} (C : tq_C X cX6_swap 7 RX6 8) (hR : tq_Ri X cX6_swap 7 K) : ∀ (n : Nat) (v1 : Int32) (v2 : Int32) (v3 : Int32) (v4 : Int32) (S : tq_St), wp_X6_swap_22 K n v1 v2 v3 v4 S → Go X 7 S 22 [(0, .ref ((tq_la X).1 27 0)), (1, .int v1), (2, .int v2), (3, .int v3), (4, .int v4)] [] := by
  intro n
  induction n with
  | zero => intros; contradiction
  | succ n ih =>
    intro v1 v2 v3 v4 S hf
    refine go_iload (pc := 22) C dX6_swap_22 4 rfl ?_
    refine go_aload_n (pc := 24) C dX6_swap_24 0 rfl rfl ?_
    refine ge_X6_X6_0 (pc := 25) C dX6_swap_25 ?_
    refine ge_X6_X1_10 (pc := 28) C (by decide) dX6_swap_28 ?_
    refine go_ic_ge (pc := 31) C dX6_swap_31 92 (by decide) (fun c8 => ?_) (fun c8 => ?_)
    · have hf := hf.1 c8
      refine go_iload_n (pc := 92) C dX6_swap_92 1 rfl rfl ?_
      refine go_if_eq (pc := 93) C dX6_swap_93 102 (by decide) (fun c9 => ?_) (fun c9 => ?_)
      · have hf := hf.1 c9
        refine go_iload_n (pc := 102) C dX6_swap_102 3 rfl rfl ?_
        refine go_goto (pc := 103) C dX6_swap_103 107 (by decide) ?_
        exact hR _ _ _ _ dX6_swap_107 hf
      · have hf := hf.2 c9
        refine go_iload_n (pc := 96) C dX6_swap_96 3 rfl rfl ?_
        refine go_bipush (pc := 97) (v := (-4)) C dX6_swap_97 (by decide) ?_
        refine go_ic_ne (pc := 99) C dX6_swap_99 106 (by decide) (fun c10 => ?_) (fun c10 => ?_)
        · have hf := hf.1 c10
          refine go_iload_n (pc := 106) C dX6_swap_106 2 rfl rfl ?_
          exact hR _ _ _ _ dX6_swap_107 hf
        · have hf := hf.2 c10
          refine go_iload_n (pc := 102) C dX6_swap_102 3 rfl rfl ?_
          refine go_goto (pc := 103) C dX6_swap_103 107 (by decide) ?_
          exact hR _ _ _ _ dX6_swap_107 hf
    · have hf := hf.2 c8
      refine go_iload (pc := 34) C dX6_swap_34 4 rfl ?_
      refine go_iconst (pc := 36) (v := 1) C dX6_swap_36 (by decide) ?_
      refine go_iadd (pc := 37) C dX6_swap_37 ?_
      refine go_nI (fun x11 e12 => ?_)
      have hf := hf x11 e12
      refine go_istore (pc := 38) C dX6_swap_38 [(5, .int x11), (0, .ref ((tq_la X).1 27 0)), (1, .int v1), (2, .int v2), (3, .int v3), (4, .int v4)] (by decide) rfl ?_
      exact go_sub [1, 2, 3, 4, 5, 0] rfl (wk_X6_swap_40 C hR ih 2000 _ _ _ _ _ _ hf)
set_option maxRecDepth 100000 in
set_option maxHeartbeats 4000000 in
theorem wk_X6_swap {X : tq_Cx} {p1 : Int32} {S : tq_St} {K : Int32 → tq_St → Prop} (C : tq_C X cX6_swap 7 RX6 8) (hR : tq_Ri X cX6_swap 7 K) (hf : wp_X6_swap p1 S K) : Go X 7 S 0 [(0, .ref ((tq_la X).1 27 0)), (1, .int p1)] [] := by
  refine go_iload_n (pc := 0) C dX6_swap_0 1 rfl rfl ?_
  refine go_cSi (pc := 1) C cs_X6_178 (ok_X6_isZeroOrOne hf) rfl rfl rfl (by decide) rfl dX6_swap_1 (fun r1 S2 hf => ?_)
  refine go_if_ne (pc := 4) C dX6_swap_4 9 (by decide) (fun c4 => ?_) (fun c4 => ?_)
  · have hf := hf.1 c4
    refine go_aload_n (pc := 9) C dX6_swap_9 0 rfl rfl ?_
    refine go_iconst (pc := 10) (v := 0) C dX6_swap_10 (by decide) ?_
    refine go_iconst (pc := 11) (v := 0) C dX6_swap_11 (by decide) ?_
    refine go_cVi (pc := 12) C cw_X6_201 (ok_X6_goneByChangedPlan hf) (rc_X6 C) rfl rfl rfl (by decide) rfl dX6_swap_12 (fun r5 S6 hf => ?_)
    refine go_istore_n (pc := 15) C dX6_swap_15 [(2, .int r5), (0, .ref ((tq_la X).1 27 0)), (1, .int p1)] rfl (by decide) rfl ?_
    refine go_bipush (pc := 16) (v := (-4)) C dX6_swap_16 (by decide) ?_
    refine go_istore_n (pc := 18) C dX6_swap_18 [(3, .int (-4)), (2, .int r5), (0, .ref ((tq_la X).1 27 0)), (1, .int p1)] rfl (by decide) rfl ?_
    refine go_iconst (pc := 19) (v := 0) C dX6_swap_19 (by decide) ?_
    refine go_istore (pc := 20) C dX6_swap_20 [(4, .int 0), (3, .int (-4)), (2, .int r5), (0, .ref ((tq_la X).1 27 0)), (1, .int p1)] (by decide) rfl ?_
    exact go_sub [3, 4, 2, 1, 0] rfl (wk_X6_swap_22 C hR 2000 _ _ _ _ _ hf)
  · have hf := hf.2 c4
    refine go_iconst (pc := 7) (v := (-1)) C dX6_swap_7 (by decide) ?_
    exact hR _ _ _ _ dX6_swap_8 hf
set_option maxRecDepth 100000 in
set_option maxHeartbeats 4000000 in
theorem ok_X6_swap {p1 : Int32} {S : tq_St} {K : Int32 → tq_St → Prop} (hf : wp_X6_swap p1 S K) : tq_Mi yX6_swap cX6_swap 7 (some .int) 8 (fun a z => [.ref (a.1 27 0), .int p1]) S K :=
  tq_mkI (by decide) (fun _ _ => Nat.le_of_ble_eq_true rfl) (fun X C hR => wk_X6_swap C hR  hf)
set_option maxRecDepth 100000 in
set_option maxHeartbeats 4000000 in
theorem wk_X6_text_42 {X : tq_Cx} {K : Int32 → tq_St → Prop} (C : tq_C X cX6_text 3 RX6 10) (hR : tq_Ri X cX6_text 3 K) : ∀ (n : Nat) (v1 : Int32) (v2 : Int32) (S : tq_St), wp_X6_text_42 K n v1 v2 S → Go X 3 S 42 [(0, .ref ((tq_la X).1 27 0)), (1, .int v1), (2, .int v2)] [] := by
  intro n
  induction n with
  | zero => intros; contradiction
  | succ n ih =>
    intro v1 v2 S hf
    refine go_iload_n (pc := 42) C dX6_text_42 2 rfl rfl ?_
    refine go_iconst (pc := 43) (v := 2) C dX6_text_43 (by decide) ?_
    refine go_ic_ge (pc := 44) C dX6_text_44 60 (by decide) (fun c10 => ?_) (fun c10 => ?_)
    · have hf := hf.1 c10
      refine go_iload_n (pc := 60) C dX6_text_60 1 rfl rfl ?_
      exact hR _ _ _ _ dX6_text_61 hf
    · have hf := hf.2 c10
      refine go_aload_n (pc := 47) C dX6_text_47 0 rfl rfl ?_
      refine ge_X6_X6_7 (pc := 48) C dX6_text_48 ?_
      refine go_iload_n (pc := 51) C dX6_text_51 2 rfl rfl ?_
      refine go_iconst (pc := 52) (v := 0) C dX6_text_52 (by decide) ?_
      refine as_X6_7 (pc := 53) C hf.1 dX6_text_53 (fun S11 e12 => ?_)
      have hf := hf.2 S11 e12
      obtain ⟨x13, e14⟩ : ∃ q9 : Int32, q9 = v2 + 1 := ⟨_, rfl⟩
      refine go_iinc (pc := 54) (j := 2) (v := x13) C dX6_text_54 [(2, .int x13), (0, .ref ((tq_la X).1 27 0)), (1, .int v1)] rfl (by rw [e14]; rfl) (by decide) rfl ?_
      have hf := hf x13 e14
      refine go_goto (pc := 57) C dX6_text_57 42 (by decide) ?_
      exact go_sub [1, 2, 0] rfl (ih _ _ _ hf)
set_option maxRecDepth 100000 in
set_option maxHeartbeats 4000000 in
theorem wk_X6_text {X : tq_Cx} {S : tq_St} {K : Int32 → tq_St → Prop} (C : tq_C X cX6_text 3 RX6 10) (hR : tq_Ri X cX6_text 3 K) (hf : wp_X6_text S K) : Go X 3 S 0 [(0, .ref ((tq_la X).1 27 0))] [] := by
  refine go_aload_n (pc := 0) C dX6_text_0 0 rfl rfl ?_
  refine ge_X6_X6_2 (pc := 1) C dX6_text_1 ?_
  refine go_cVi (pc := 4) C cw_X6_74 (ok_X5_tellAll hf) (rc_X5 C) rfl rfl rfl (by decide) rfl dX6_text_4 (fun r1 S2 hf => ?_)
  refine go_istore_n (pc := 7) C dX6_text_7 [(1, .int r1), (0, .ref ((tq_la X).1 27 0))] rfl (by decide) rfl ?_
  refine go_aload_n (pc := 8) C dX6_text_8 1 rfl rfl ?_
  refine ge_X6_X6_2 (pc := 9) C dX6_text_9 ?_
  refine ge_X6_X5_3 (pc := 12) C dX6_text_12 ?_
  refine go_if_ne (pc := 15) C dX6_text_15 60 (by decide) (fun c4 => ?_) (fun c4 => ?_)
  · have hf := hf.1 c4
    refine go_iload_n (pc := 60) C dX6_text_60 0 rfl rfl ?_
    exact hR _ _ _ _ dX6_text_61 hf
  · have hf := hf.2 c4
    refine go_aload_n (pc := 18) C dX6_text_18 1 rfl rfl ?_
    refine ge_X6_X6_0 (pc := 19) C dX6_text_19 ?_
    refine go_aload_n (pc := 22) C dX6_text_22 1 rfl rfl ?_
    refine ge_X6_X6_2 (pc := 23) C dX6_text_23 ?_
    refine ge_X6_X5_1 (pc := 26) C dX6_text_26 ?_
    refine go_cVv (pc := 29) C cw_X6_84 (ok_X1_copyFrom (by decide) (by decide) hf) (rc_X1 C (by decide)) rfl rfl rfl (by decide) rfl dX6_text_29 (fun S6 hf => ?_)
    refine go_aload_n (pc := 32) C dX6_text_32 1 rfl rfl ?_
    refine ge_X6_X6_3 (pc := 33) C dX6_text_33 ?_
    refine go_iconst (pc := 36) (v := 0) C dX6_text_36 (by decide) ?_
    refine pu_X6_X4_2 (pc := 37) C dX6_text_37 (fun S8 e9 => ?_)
    have hf := hf S8 e9
    refine go_iconst (pc := 40) (v := 0) C dX6_text_40 (by decide) ?_
    refine go_istore_n (pc := 41) C dX6_text_41 [(2, .int 0), (1, .int r1), (0, .ref ((tq_la X).1 27 0))] rfl (by decide) rfl ?_
    exact go_sub [2, 1, 0] rfl (wk_X6_text_42 C hR 2000 _ _ _ hf)
set_option maxRecDepth 100000 in
set_option maxHeartbeats 4000000 in
theorem ok_X6_text {S : tq_St} {K : Int32 → tq_St → Prop} (hf : wp_X6_text S K) : tq_Mi yX6_text cX6_text 3 (some .int) 10 (fun a z => [.ref (a.1 27 0)]) S K :=
  tq_mkI (by decide) (fun _ _ => Nat.le_of_ble_eq_true rfl) (fun X C hR => wk_X6_text C hR  hf)
set_option maxRecDepth 100000 in
set_option maxHeartbeats 4000000 in
theorem wk_X6_think {X : tq_Cx} {p1 : Int32} {S : tq_St} {K : Int32 → tq_St → Prop} (C : tq_C X cX6_think 3 RX6 1) (hR : tq_Ri X cX6_think 3 K) (hf : wp_X6_think p1 S K) : Go X 3 S 0 [(0, .ref ((tq_la X).1 27 0)), (1, .int p1)] [] := by
  refine go_iload_n (pc := 0) C dX6_think_0 1 rfl rfl ?_
  refine go_iconst (pc := 1) (v := 1) C dX6_think_1 (by decide) ?_
  refine go_ic_lt (pc := 2) C dX6_think_2 11 (by decide) (fun c1 => ?_) (fun c1 => ?_)
  · have hf := hf.1 c1
    refine go_iconst (pc := 11) (v := (-1)) C dX6_think_11 (by decide) ?_
    exact hR _ _ _ _ dX6_think_12 hf
  · have hf := hf.2 c1
    refine go_iload_n (pc := 5) C dX6_think_5 1 rfl rfl ?_
    refine go_bipush (pc := 6) (v := 9) C dX6_think_6 (by decide) ?_
    refine go_ic_le (pc := 8) C dX6_think_8 13 (by decide) (fun c2 => ?_) (fun c2 => ?_)
    · have hf := hf.1 c2
      refine go_aload_n (pc := 13) C dX6_think_13 0 rfl rfl ?_
      refine ge_X6_X6_0 (pc := 14) C dX6_think_14 ?_
      refine ge_X6_X1_9 (pc := 17) C (by decide) dX6_think_17 ?_
      refine go_nI (fun x3 e4 => ?_)
      have hf := hf x3 e4
      refine go_istore_n (pc := 20) C dX6_think_20 [(2, .int x3), (0, .ref ((tq_la X).1 27 0)), (1, .int p1)] rfl (by decide) rfl ?_
      refine go_aload_n (pc := 21) C dX6_think_21 1 rfl rfl ?_
      refine ge_X6_X6_0 (pc := 22) C dX6_think_22 ?_
      refine go_iload_n (pc := 25) C dX6_think_25 2 rfl rfl ?_
      refine pu_X6_X1_9 (pc := 26) C (by decide) dX6_think_26 (fun S5 e6 => ?_)
      have hf := hf S5 e6
      refine go_iload_n (pc := 29) C dX6_think_29 0 rfl rfl ?_
      exact hR _ _ _ _ dX6_think_30 hf
    · have hf := hf.2 c2
      refine go_iconst (pc := 11) (v := (-1)) C dX6_think_11 (by decide) ?_
      exact hR _ _ _ _ dX6_think_12 hf
set_option maxRecDepth 100000 in
set_option maxHeartbeats 4000000 in
theorem ok_X6_think {p1 : Int32} {S : tq_St} {K : Int32 → tq_St → Prop} (hf : wp_X6_think p1 S K) : tq_Mi yX6_think cX6_think 3 (some .int) 1 (fun a z => [.ref (a.1 27 0), .int p1]) S K :=
  tq_mkI (by decide) (fun _ _ => Nat.le_of_ble_eq_true rfl) (fun X C hR => wk_X6_think C hR  hf)
set_option maxRecDepth 100000 in
set_option maxHeartbeats 4000000 in
theorem wk_X6_thinks {X : tq_Cx} {p1 : Int32} {S : tq_St} {K : Int32 → tq_St → Prop} (C : tq_C X cX6_thinks 2 RX6 5) (hR : tq_Ri X cX6_thinks 2 K) (hf : wp_X6_thinks p1 S K) : Go X 2 S 0 [(0, .ref ((tq_la X).1 27 0)), (1, .int p1)] [] := by
  refine go_aload_n (pc := 0) C dX6_thinks_0 0 rfl rfl ?_
  refine ge_X6_X6_0 (pc := 1) C dX6_thinks_1 ?_
  refine go_iload_n (pc := 4) C dX6_thinks_4 1 rfl rfl ?_
  refine go_cVi (pc := 5) C cw_X6_112 (ok_X1_isThere (by decide) hf) (rc_X1 C (by decide)) rfl rfl rfl (by decide) rfl dX6_thinks_5 (fun r1 S2 hf => ?_)
  refine go_if_ne (pc := 8) C dX6_thinks_8 13 (by decide) (fun c4 => ?_) (fun c4 => ?_)
  · have hf := hf.1 c4
    refine go_aload_n (pc := 13) C dX6_thinks_13 0 rfl rfl ?_
    refine ge_X6_X6_0 (pc := 14) C dX6_thinks_14 ?_
    refine go_iload_n (pc := 17) C dX6_thinks_17 1 rfl rfl ?_
    refine go_cVi (pc := 18) C cw_X6_128 (ok_X1_waits (by decide) hf) (rc_X1 C (by decide)) rfl rfl rfl (by decide) rfl dX6_thinks_18 (fun r5 S6 hf => ?_)
    refine go_if_eq (pc := 21) C dX6_thinks_21 35 (by decide) (fun c8 => ?_) (fun c8 => ?_)
    · have hf := hf.1 c8
      refine go_bipush (pc := 35) (v := (-2)) C dX6_thinks_35 (by decide) ?_
      exact hR _ _ _ _ dX6_thinks_37 hf
    · have hf := hf.2 c8
      refine go_aload_n (pc := 24) C dX6_thinks_24 0 rfl rfl ?_
      refine ge_X6_X6_0 (pc := 25) C dX6_thinks_25 ?_
      refine go_iload_n (pc := 28) C dX6_thinks_28 1 rfl rfl ?_
      refine go_cVi (pc := 29) C cw_X6_143 (ok_X1_thinkAndWeep (by decide) hf) (rc_X1 C (by decide)) rfl rfl rfl (by decide) rfl dX6_thinks_29 (fun r9 S10 hf => ?_)
      refine go_goto (pc := 32) C dX6_thinks_32 37 (by decide) ?_
      exact hR _ _ _ _ dX6_thinks_37 hf
  · have hf := hf.2 c4
    refine go_iconst (pc := 11) (v := (-1)) C dX6_thinks_11 (by decide) ?_
    exact hR _ _ _ _ dX6_thinks_12 hf
set_option maxRecDepth 100000 in
set_option maxHeartbeats 4000000 in
theorem ok_X6_thinks {p1 : Int32} {S : tq_St} {K : Int32 → tq_St → Prop} (hf : wp_X6_thinks p1 S K) : tq_Mi yX6_thinks cX6_thinks 2 (some .int) 5 (fun a z => [.ref (a.1 27 0), .int p1]) S K :=
  tq_mkI (by decide) (fun _ _ => Nat.le_of_ble_eq_true rfl) (fun X C hR => wk_X6_thinks C hR  hf)
set_option maxRecDepth 100000 in
set_option maxHeartbeats 4000000 in
theorem wk_X6_torn {X : tq_Cx} {S : tq_St} {K : Int32 → tq_St → Prop} (C : tq_C X cX6_torn 1 RX6 1) (hR : tq_Ri X cX6_torn 1 K) (hf : wp_X6_torn S K) : Go X 1 S 0 [(0, .ref ((tq_la X).1 27 0))] [] := by
  refine go_aload_n (pc := 0) C dX6_torn_0 0 rfl rfl ?_
  refine ge_X6_X6_10 (pc := 1) C dX6_torn_1 ?_
  exact hR _ _ _ _ dX6_torn_4 hf
set_option maxRecDepth 100000 in
set_option maxHeartbeats 4000000 in
theorem ok_X6_torn {S : tq_St} {K : Int32 → tq_St → Prop} (hf : wp_X6_torn S K) : tq_Mi yX6_torn cX6_torn 1 (some .int) 1 (fun a z => [.ref (a.1 27 0)]) S K :=
  tq_mkI (by decide) (fun _ _ => Nat.le_of_ble_eq_true rfl) (fun X C hR => wk_X6_torn C hR  hf)
set_option maxRecDepth 100000 in
set_option maxHeartbeats 4000000 in
theorem wk_X6_tram {X : tq_Cx} {S : tq_St} {K : Int32 → tq_St → Prop} (C : tq_C X cX6_tram 1 RX6 4) (hR : tq_Ri X cX6_tram 1 K) (hf : wp_X6_tram S K) : Go X 1 S 0 [(0, .ref ((tq_la X).1 27 0))] [] := by
  refine go_aload_n (pc := 0) C dX6_tram_0 0 rfl rfl ?_
  refine ge_X6_X6_0 (pc := 1) C dX6_tram_1 ?_
  refine go_cVi (pc := 4) C cw_X6_149 (ok_X1_board (by decide) hf) (rc_X1 C (by decide)) rfl rfl rfl (by decide) rfl dX6_tram_4 (fun r1 S2 hf => ?_)
  exact hR _ _ _ _ dX6_tram_7 hf
set_option maxRecDepth 100000 in
set_option maxHeartbeats 4000000 in
theorem ok_X6_tram {S : tq_St} {K : Int32 → tq_St → Prop} (hf : wp_X6_tram S K) : tq_Mi yX6_tram cX6_tram 1 (some .int) 4 (fun a z => [.ref (a.1 27 0)]) S K :=
  tq_mkI (by decide) (fun _ _ => Nat.le_of_ble_eq_true rfl) (fun X C hR => wk_X6_tram C hR  hf)
end
section
set_option maxRecDepth 100000 in
set_option maxHeartbeats 4000000 in
theorem wk_X7_in {X : tq_Cx} {p0 : Int64} {p2 : Int64} {p4 : Int64} {S : tq_St} {K : Int32 → tq_St → Prop} (C : tq_C X cX7_in 6 RX7 1) (hR : tq_Rz X cX7_in 6 K) (hf : wp_X7_in p0 p2 p4 S K) : Go X 6 S 0 [(0, .long p0), (2, .long p2), (4, .long p4)] [] := by
  refine go_lload_n (pc := 0) C dX7_in_0 0 rfl rfl ?_
  refine go_lload_n (pc := 1) C dX7_in_1 1 rfl rfl ?_
  refine go_lcmp (pc := 2) C dX7_in_2 ?_
  refine go_if_lt (pc := 3) C dX7_in_3 17 (by decide) (fun c1 => ?_) (fun c1 => ?_)
  · have hf := hf.1 c1
    refine go_iconst (pc := 17) (v := 0) C dX7_in_17 (by decide) ?_
    exact hR _ _ _ _ dX7_in_18 (Or.inl rfl) hf
  · have hf := hf.2 c1
    refine go_lload_n (pc := 6) C dX7_in_6 0 rfl rfl ?_
    refine go_lload (pc := 7) C dX7_in_7 2 rfl ?_
    refine go_lcmp (pc := 9) C dX7_in_9 ?_
    refine go_if_gt (pc := 10) C dX7_in_10 17 (by decide) (fun c2 => ?_) (fun c2 => ?_)
    · have hf := hf.1 c2
      refine go_iconst (pc := 17) (v := 0) C dX7_in_17 (by decide) ?_
      exact hR _ _ _ _ dX7_in_18 (Or.inl rfl) hf
    · have hf := hf.2 c2
      refine go_iconst (pc := 13) (v := 1) C dX7_in_13 (by decide) ?_
      refine go_goto (pc := 14) C dX7_in_14 18 (by decide) ?_
      exact hR _ _ _ _ dX7_in_18 (Or.inr rfl) hf
set_option maxRecDepth 100000 in
set_option maxHeartbeats 4000000 in
theorem ok_X7_in {p0 : Int64} {p2 : Int64} {p4 : Int64} {S : tq_St} {K : Int32 → tq_St → Prop} (hf : wp_X7_in p0 p2 p4 S K) : tq_Mi yX7_in cX7_in 6 (some .boolean) 1 (fun a z => [.long p0, .long p2, .long p4]) S K :=
  tq_mkZ (by decide) (fun _ _ => Nat.le_of_ble_eq_true rfl) (fun X C hR => wk_X7_in C hR  hf)
set_option maxRecDepth 100000 in
set_option maxHeartbeats 4000000 in
theorem wk_X7_act {X : tq_Cx} {p1 : Int32} {S : tq_St} {K : Int32 → tq_St → Prop} (C : tq_C X cX7_act 2 RX7 2) (hR : tq_Ri X cX7_act 2 K) (hf : wp_X7_act p1 S K) : Go X 2 S 0 [(0, .ref ((tq_la X).1 28 0)), (1, .int p1)] [] := by
  refine go_iload_n (pc := 0) C dX7_act_0 1 rfl rfl ?_
  refine go_i2l (pc := 1) C dX7_act_1 ?_
  refine go_lconst (pc := 2) (v := 0) C dX7_act_2 (by decide) ?_
  refine go_aload_n (pc := 3) C dX7_act_3 0 rfl rfl ?_
  refine ge_X7_X7_0 (pc := 4) C dX7_act_4 ?_
  refine go_bipush (pc := 7) (v := 27) C dX7_act_7 (by decide) ?_
  refine al_X7_0 (pc := 9) C hf.1 dX7_act_9 ?_
  have hf := hf.2
  refine go_iconst (pc := 10) (v := 1) C dX7_act_10 (by decide) ?_
  refine go_isub (pc := 11) C dX7_act_11 ?_
  refine go_i2l (pc := 12) C dX7_act_12 ?_
  refine go_cSi (pc := 13) C cs_X7_49 (ok_X7_in hf) rfl rfl rfl (by decide) rfl dX7_act_13 (fun r1 S2 hf => ?_)
  refine go_if_eq (pc := 16) C dX7_act_16 31 (by decide) (fun c4 => ?_) (fun c4 => ?_)
  · have hf := hf.1 c4
    refine go_iconst (pc := 31) (v := (-1)) C dX7_act_31 (by decide) ?_
    exact hR _ _ _ _ dX7_act_32 hf
  · have hf := hf.2 c4
    refine go_aload_n (pc := 19) C dX7_act_19 0 rfl rfl ?_
    refine ge_X7_X7_0 (pc := 20) C dX7_act_20 ?_
    refine go_bipush (pc := 23) (v := 19) C dX7_act_23 (by decide) ?_
    refine go_iload_n (pc := 25) C dX7_act_25 1 rfl rfl ?_
    refine go_iadd (pc := 26) C dX7_act_26 ?_
    refine al_X7_0 (pc := 27) C hf.1 dX7_act_27 ?_
    have hf := hf.2
    refine go_goto (pc := 28) C dX7_act_28 32 (by decide) ?_
    exact hR _ _ _ _ dX7_act_32 hf
set_option maxRecDepth 100000 in
set_option maxHeartbeats 4000000 in
theorem ok_X7_act {p1 : Int32} {S : tq_St} {K : Int32 → tq_St → Prop} (hf : wp_X7_act p1 S K) : tq_Mi yX7_act cX7_act 2 (some .int) 2 (fun a z => [.ref (a.1 28 0), .int p1]) S K :=
  tq_mkI (by decide) (fun _ _ => Nat.le_of_ble_eq_true rfl) (fun X C hR => wk_X7_act C hR  hf)
set_option maxRecDepth 100000 in
set_option maxHeartbeats 4000000 in
theorem wk_X7_waits {X : tq_Cx} {p1 : Int32} {p2 : Int32} {S : tq_St} {K : Int32 → tq_St → Prop} (C : tq_C X cX7_waits 3 RX7 1) (hR : tq_Rz X cX7_waits 3 K) (hf : wp_X7_waits p1 p2 S K) : Go X 3 S 0 [(0, .ref ((tq_la X).1 28 0)), (1, .int p1), (2, .int p2)] [] := by
  refine go_aload_n (pc := 0) C dX7_waits_0 0 rfl rfl ?_
  refine ge_X7_X7_0 (pc := 1) C dX7_waits_1 ?_
  refine go_iload_n (pc := 4) C dX7_waits_4 1 rfl rfl ?_
  refine go_bipush (pc := 5) (v := 15) C dX7_waits_5 (by decide) ?_
  refine go_iadd (pc := 7) C dX7_waits_7 ?_
  refine al_X7_0 (pc := 8) C hf.1 dX7_waits_8 ?_
  have hf := hf.2
  refine go_iload_n (pc := 9) C dX7_waits_9 2 rfl rfl ?_
  refine go_ishr (pc := 10) C dX7_waits_10 ?_
  refine go_iconst (pc := 11) (v := 1) C dX7_waits_11 (by decide) ?_
  refine go_iand (pc := 12) C dX7_waits_12 ?_
  refine go_if_ne (pc := 13) C dX7_waits_13 20 (by decide) (fun c1 => ?_) (fun c1 => ?_)
  · have hf := hf.1 c1
    refine go_iconst (pc := 20) (v := 0) C dX7_waits_20 (by decide) ?_
    exact hR _ _ _ _ dX7_waits_21 (Or.inl rfl) hf
  · have hf := hf.2 c1
    refine go_iconst (pc := 16) (v := 1) C dX7_waits_16 (by decide) ?_
    refine go_goto (pc := 17) C dX7_waits_17 21 (by decide) ?_
    exact hR _ _ _ _ dX7_waits_21 (Or.inr rfl) hf
set_option maxRecDepth 100000 in
set_option maxHeartbeats 4000000 in
theorem ok_X7_waits {p1 : Int32} {p2 : Int32} {S : tq_St} {K : Int32 → tq_St → Prop} (hf : wp_X7_waits p1 p2 S K) : tq_Mi yX7_waits cX7_waits 3 (some .boolean) 1 (fun a z => [.ref (a.1 28 0), .int p1, .int p2]) S K :=
  tq_mkZ (by decide) (fun _ _ => Nat.le_of_ble_eq_true rfl) (fun X C hR => wk_X7_waits C hR  hf)
set_option maxRecDepth 100000 in
set_option maxHeartbeats 4000000 in
theorem wk_X7_minuteOn_48 {X : tq_Cx} {K : tq_St → Prop} (C : tq_C X cX7_minuteOn 3 RX7 2) (hR : tq_Rv X cX7_minuteOn 3 K) {rec2 : Int32 → Int32 → tq_St → Prop} (hrec2 : ∀ (v1 : Int32) (v2 : Int32) (S : tq_St), rec2 v1 v2 S → Go X 3 S 2 [(0, .ref ((tq_la X).1 28 0)), (1, .int v1), (2, .int v2)] []) : ∀ (v1 : Int32) (v2 : Int32) (w1 : Int32) (w2 : Int32) (w3 : Int32) (S : tq_St), wp_X7_minuteOn_48 K rec2 v1 v2 w1 w2 w3 S → Go X 3 S 48 [(0, .ref ((tq_la X).1 28 0)), (1, .int v1), (2, .int v2)] [.int w3, .int w2, .int w1, .ref ((tq_la X).1 28 1)] := by
  intro v1 v2 w1 w2 w3 S hf
  refine go_isub (pc := 48) C dX7_minuteOn_48 ?_
  refine as_X7_0 (pc := 49) C hf.1 dX7_minuteOn_49 (fun S11 e12 => ?_)
  have hf := hf.2 S11 e12
  obtain ⟨x13, e14⟩ : ∃ q9 : Int32, q9 = v2 + 1 := ⟨_, rfl⟩
  refine go_iinc (pc := 50) (j := 2) (v := x13) C dX7_minuteOn_50 [(2, .int x13), (0, .ref ((tq_la X).1 28 0)), (1, .int v1)] rfl (by rw [e14]; rfl) (by decide) rfl ?_
  have hf := hf x13 e14
  refine go_goto (pc := 53) C dX7_minuteOn_53 2 (by decide) ?_
  exact go_sub [1, 2, 0] rfl (hrec2 _ _ _ hf)
set_option maxRecDepth 100000 in
set_option maxHeartbeats 4000000 in
theorem wk_X7_minuteOn_47 {X : tq_Cx} {K : tq_St → Prop} (C : tq_C X cX7_minuteOn 3 RX7 2) (hR : tq_Rv X cX7_minuteOn 3 K) {rec2 : Int32 → Int32 → tq_St → Prop} (hrec2 : ∀ (v1 : Int32) (v2 : Int32) (S : tq_St), rec2 v1 v2 S → Go X 3 S 2 [(0, .ref ((tq_la X).1 28 0)), (1, .int v1), (2, .int v2)] []) : ∀ (v1 : Int32) (v2 : Int32) (w1 : Int32) (w2 : Int32) (S : tq_St), wp_X7_minuteOn_47 K rec2 v1 v2 w1 w2 S → Go X 3 S 47 [(0, .ref ((tq_la X).1 28 0)), (1, .int v1), (2, .int v2)] [.int w2, .int w1, .ref ((tq_la X).1 28 1)] := by
  intro v1 v2 w1 w2 S hf
  refine go_iconst (pc := 47) (v := 0) C dX7_minuteOn_47 (by decide) ?_
  exact go_sub [0, 1, 2] rfl (wk_X7_minuteOn_48 C hR hrec2 _ _ _ _ _ _ hf)
set_option maxRecDepth 100000 in
set_option maxHeartbeats 4000000 in
theorem wk_X7_minuteOn_2 {X : tq_Cx} {K : tq_St → Prop} (C : tq_C X cX7_minuteOn 3 RX7 2) (hR : tq_Rv X cX7_minuteOn 3 K) : ∀ (n : Nat) (v1 : Int32) (v2 : Int32) (S : tq_St), wp_X7_minuteOn_2 K n v1 v2 S → Go X 3 S 2 [(0, .ref ((tq_la X).1 28 0)), (1, .int v1), (2, .int v2)] [] := by
  intro n
  induction n with
  | zero => intros; contradiction
  | succ n ih =>
    intro v1 v2 S hf
    refine go_iload_n (pc := 2) C dX7_minuteOn_2 2 rfl rfl ?_
    refine go_aload_n (pc := 3) C dX7_minuteOn_3 0 rfl rfl ?_
    refine ge_X7_X7_2 (pc := 4) C dX7_minuteOn_4 ?_
    refine go_ic_ge (pc := 7) C dX7_minuteOn_7 56 (by decide) (fun c1 => ?_) (fun c1 => ?_)
    · have hf := hf.1 c1
      refine go_aload_n (pc := 56) C dX7_minuteOn_56 0 rfl rfl ?_
      refine ge_X7_X7_0 (pc := 57) C dX7_minuteOn_57 ?_
      refine go_iload_n (pc := 60) C dX7_minuteOn_60 1 rfl rfl ?_
      refine go_bipush (pc := 61) (v := 16) C dX7_minuteOn_61 (by decide) ?_
      refine go_iadd (pc := 63) C dX7_minuteOn_63 ?_
      refine go_dup2 (pc := 64) C dX7_minuteOn_64 rfl rfl ?_
      refine al_X7_0 (pc := 65) C hf.1 dX7_minuteOn_65 ?_
      have hf := hf.2
      refine go_aload_n (pc := 66) C dX7_minuteOn_66 0 rfl rfl ?_
      refine ge_X7_X7_0 (pc := 67) C dX7_minuteOn_67 ?_
      refine go_iload_n (pc := 70) C dX7_minuteOn_70 1 rfl rfl ?_
      refine go_bipush (pc := 71) (v := 16) C dX7_minuteOn_71 (by decide) ?_
      refine go_iadd (pc := 73) C dX7_minuteOn_73 ?_
      refine al_X7_0 (pc := 74) C hf.1 dX7_minuteOn_74 ?_
      have hf := hf.2
      refine go_sipush (pc := 75) (v := 999) C dX7_minuteOn_75 (by decide) ?_
      refine go_ic_ge (pc := 78) C dX7_minuteOn_78 85 (by decide) (fun c2 => ?_) (fun c2 => ?_)
      · have hf := hf.1 c2
        refine go_iconst (pc := 85) (v := 0) C dX7_minuteOn_85 (by decide) ?_
        refine go_iadd (pc := 86) C dX7_minuteOn_86 ?_
        refine as_X7_0 (pc := 87) C hf.1 dX7_minuteOn_87 (fun S3 e4 => ?_)
        have hf := hf.2 S3 e4
        exact hR _ _ _ dX7_minuteOn_88 hf
      · have hf := hf.2 c2
        refine go_iconst (pc := 81) (v := 1) C dX7_minuteOn_81 (by decide) ?_
        refine go_goto (pc := 82) C dX7_minuteOn_82 86 (by decide) ?_
        refine go_iadd (pc := 86) C dX7_minuteOn_86 ?_
        refine as_X7_0 (pc := 87) C hf.1 dX7_minuteOn_87 (fun S5 e6 => ?_)
        have hf := hf.2 S5 e6
        exact hR _ _ _ dX7_minuteOn_88 hf
    · have hf := hf.2 c1
      refine go_aload_n (pc := 10) C dX7_minuteOn_10 0 rfl rfl ?_
      refine ge_X7_X7_0 (pc := 11) C dX7_minuteOn_11 ?_
      refine go_iload_n (pc := 14) C dX7_minuteOn_14 1 rfl rfl ?_
      refine go_iconst (pc := 15) (v := 5) C dX7_minuteOn_15 (by decide) ?_
      refine go_iadd (pc := 16) C dX7_minuteOn_16 ?_
      refine go_iload_n (pc := 17) C dX7_minuteOn_17 2 rfl rfl ?_
      refine go_iadd (pc := 18) C dX7_minuteOn_18 ?_
      refine go_dup2 (pc := 19) C dX7_minuteOn_19 rfl rfl ?_
      refine al_X7_0 (pc := 20) C hf.1 dX7_minuteOn_20 ?_
      have hf := hf.2
      refine go_aload_n (pc := 21) C dX7_minuteOn_21 0 rfl rfl ?_
      refine go_iload_n (pc := 22) C dX7_minuteOn_22 1 rfl rfl ?_
      refine go_iload_n (pc := 23) C dX7_minuteOn_23 2 rfl rfl ?_
      refine go_cVi (pc := 24) C cw_X7_131 (ok_X7_waits hf) (rc_X7 C) rfl rfl rfl (by decide) rfl dX7_minuteOn_24 (fun r7 S8 hf => ?_)
      refine go_if_eq (pc := 27) C dX7_minuteOn_27 47 (by decide) (fun c10 => ?_) (fun c10 => ?_)
      · have hf := hf.1 c10
        exact go_sub [0, 1, 2] rfl (wk_X7_minuteOn_47 C hR ih _ _ _ _ _ hf)
      · have hf := hf.2 c10
        refine go_aload_n (pc := 30) C dX7_minuteOn_30 0 rfl rfl ?_
        refine ge_X7_X7_0 (pc := 31) C dX7_minuteOn_31 ?_
        refine go_iload_n (pc := 34) C dX7_minuteOn_34 1 rfl rfl ?_
        refine go_iconst (pc := 35) (v := 5) C dX7_minuteOn_35 (by decide) ?_
        refine go_iadd (pc := 36) C dX7_minuteOn_36 ?_
        refine go_iload_n (pc := 37) C dX7_minuteOn_37 2 rfl rfl ?_
        refine go_iadd (pc := 38) C dX7_minuteOn_38 ?_
        refine al_X7_0 (pc := 39) C hf.1 dX7_minuteOn_39 ?_
        have hf := hf.2
        refine go_if_le (pc := 40) C dX7_minuteOn_40 47 (by decide) (fun c15 => ?_) (fun c15 => ?_)
        · have hf := hf.1 c15
          exact go_sub [0, 1, 2] rfl (wk_X7_minuteOn_47 C hR ih _ _ _ _ _ hf)
        · have hf := hf.2 c15
          refine go_iconst (pc := 43) (v := 1) C dX7_minuteOn_43 (by decide) ?_
          refine go_goto (pc := 44) C dX7_minuteOn_44 48 (by decide) ?_
          exact go_sub [0, 1, 2] rfl (wk_X7_minuteOn_48 C hR ih _ _ _ _ _ _ hf)
set_option maxRecDepth 100000 in
set_option maxHeartbeats 4000000 in
theorem wk_X7_minuteOn {X : tq_Cx} {p1 : Int32} {S : tq_St} {K : tq_St → Prop} (C : tq_C X cX7_minuteOn 3 RX7 2) (hR : tq_Rv X cX7_minuteOn 3 K) (hf : wp_X7_minuteOn p1 S K) : Go X 3 S 0 [(0, .ref ((tq_la X).1 28 0)), (1, .int p1)] [] := by
  refine go_iconst (pc := 0) (v := 0) C dX7_minuteOn_0 (by decide) ?_
  refine go_istore_n (pc := 1) C dX7_minuteOn_1 [(2, .int 0), (0, .ref ((tq_la X).1 28 0)), (1, .int p1)] rfl (by decide) rfl ?_
  exact go_sub [1, 2, 0] rfl (wk_X7_minuteOn_2 C hR 2000 _ _ _ hf)
set_option maxRecDepth 100000 in
set_option maxHeartbeats 4000000 in
theorem ok_X7_minuteOn {p1 : Int32} {S : tq_St} {K : tq_St → Prop} (hf : wp_X7_minuteOn p1 S K) : tq_Mv yX7_minuteOn cX7_minuteOn 3 none 2 (fun a z => [.ref (a.1 28 0), .int p1]) S K :=
  tq_mkV (by decide) (fun _ _ => Nat.le_of_ble_eq_true rfl) (fun X C hR => wk_X7_minuteOn C hR  hf)
set_option maxRecDepth 100000 in
set_option maxHeartbeats 4000000 in
theorem wk_X7_placeOn_30 {X : tq_Cx} {K : Int32 → tq_St → Prop} (C : tq_C X cX7_placeOn 4 RX7 1) (hR : tq_Ri X cX7_placeOn 4 K) : ∀ (v1 : Int32) (v2 : Int32) (w0 : Int32) (S : tq_St), wp_X7_placeOn_30 K v1 v2 w0 S → Go X 4 S 30 [(0, .ref ((tq_la X).1 28 0)), (1, .int v1), (2, .int v2)] [.int w0] := by
  intro v1 v2 w0 S hf
  refine go_istore_n (pc := 30) C dX7_placeOn_30 [(3, .int w0), (0, .ref ((tq_la X).1 28 0)), (1, .int v1), (2, .int v2)] rfl (by decide) rfl ?_
  refine go_iload_n (pc := 31) C dX7_placeOn_31 0 rfl rfl ?_
  refine go_if_eq (pc := 32) C dX7_placeOn_32 39 (by decide) (fun c2 => ?_) (fun c2 => ?_)
  · have hf := hf.1 c2
    refine go_aload_n (pc := 39) C dX7_placeOn_39 1 rfl rfl ?_
    refine ge_X7_X7_0 (pc := 40) C dX7_placeOn_40 ?_
    refine go_iload_n (pc := 43) C dX7_placeOn_43 2 rfl rfl ?_
    refine go_bipush (pc := 44) (v := 10) C dX7_placeOn_44 (by decide) ?_
    refine go_iadd (pc := 46) C dX7_placeOn_46 ?_
    refine go_iload_n (pc := 47) C dX7_placeOn_47 3 rfl rfl ?_
    refine go_iadd (pc := 48) C dX7_placeOn_48 ?_
    refine al_X7_0 (pc := 49) C hf.1 dX7_placeOn_49 ?_
    have hf := hf.2
    exact hR _ _ _ _ dX7_placeOn_50 hf
  · have hf := hf.2 c2
    refine go_iconst (pc := 35) (v := (-1)) C dX7_placeOn_35 (by decide) ?_
    refine go_goto (pc := 36) C dX7_placeOn_36 50 (by decide) ?_
    exact hR _ _ _ _ dX7_placeOn_50 hf
set_option maxRecDepth 100000 in
set_option maxHeartbeats 4000000 in
theorem wk_X7_placeOn_29 {X : tq_Cx} {K : Int32 → tq_St → Prop} (C : tq_C X cX7_placeOn 4 RX7 1) (hR : tq_Ri X cX7_placeOn 4 K) : ∀ (v1 : Int32) (v2 : Int32) (S : tq_St), wp_X7_placeOn_29 K v1 v2 S → Go X 4 S 29 [(0, .ref ((tq_la X).1 28 0)), (1, .int v1), (2, .int v2)] [] := by
  intro v1 v2 S hf
  refine go_iconst (pc := 29) (v := 0) C dX7_placeOn_29 (by decide) ?_
  exact go_sub [0, 1, 2] rfl (wk_X7_placeOn_30 C hR _ _ _ _ hf)
set_option maxRecDepth 100000 in
set_option maxHeartbeats 4000000 in
theorem wk_X7_placeOn {X : tq_Cx} {p1 : Int32} {p2 : Int32} {S : tq_St} {K : Int32 → tq_St → Prop} (C : tq_C X cX7_placeOn 4 RX7 1) (hR : tq_Ri X cX7_placeOn 4 K) (hf : wp_X7_placeOn p1 p2 S K) : Go X 4 S 0 [(0, .ref ((tq_la X).1 28 0)), (1, .int p1), (2, .int p2)] [] := by
  refine go_aload_n (pc := 0) C dX7_placeOn_0 0 rfl rfl ?_
  refine ge_X7_X7_0 (pc := 1) C dX7_placeOn_1 ?_
  refine go_iload_n (pc := 4) C dX7_placeOn_4 1 rfl rfl ?_
  refine go_iload_n (pc := 5) C dX7_placeOn_5 2 rfl rfl ?_
  refine go_iadd (pc := 6) C dX7_placeOn_6 ?_
  refine al_X7_0 (pc := 7) C hf.1 dX7_placeOn_7 ?_
  have hf := hf.2
  refine go_iconst (pc := 8) (v := 2) C dX7_placeOn_8 (by decide) ?_
  refine go_ic_ne (pc := 9) C dX7_placeOn_9 29 (by decide) (fun c1 => ?_) (fun c1 => ?_)
  · have hf := hf.1 c1
    exact go_sub [0, 1, 2] rfl (wk_X7_placeOn_29 C hR _ _ _ hf)
  · have hf := hf.2 c1
    refine go_aload_n (pc := 12) C dX7_placeOn_12 0 rfl rfl ?_
    refine ge_X7_X7_0 (pc := 13) C dX7_placeOn_13 ?_
    refine go_iload_n (pc := 16) C dX7_placeOn_16 1 rfl rfl ?_
    refine go_iconst (pc := 17) (v := 5) C dX7_placeOn_17 (by decide) ?_
    refine go_iadd (pc := 18) C dX7_placeOn_18 ?_
    refine go_iload_n (pc := 19) C dX7_placeOn_19 2 rfl rfl ?_
    refine go_iadd (pc := 20) C dX7_placeOn_20 ?_
    refine al_X7_0 (pc := 21) C hf.1 dX7_placeOn_21 ?_
    have hf := hf.2
    refine go_if_ne (pc := 22) C dX7_placeOn_22 29 (by decide) (fun c3 => ?_) (fun c3 => ?_)
    · have hf := hf.1 c3
      exact go_sub [0, 1, 2] rfl (wk_X7_placeOn_29 C hR _ _ _ hf)
    · have hf := hf.2 c3
      refine go_iconst (pc := 25) (v := 1) C dX7_placeOn_25 (by decide) ?_
      refine go_goto (pc := 26) C dX7_placeOn_26 30 (by decide) ?_
      exact go_sub [0, 1, 2] rfl (wk_X7_placeOn_30 C hR _ _ _ _ hf)
set_option maxRecDepth 100000 in
set_option maxHeartbeats 4000000 in
theorem ok_X7_placeOn {p1 : Int32} {p2 : Int32} {S : tq_St} {K : Int32 → tq_St → Prop} (hf : wp_X7_placeOn p1 p2 S K) : tq_Mi yX7_placeOn cX7_placeOn 4 (some .int) 1 (fun a z => [.ref (a.1 28 0), .int p1, .int p2]) S K :=
  tq_mkI (by decide) (fun _ _ => Nat.le_of_ble_eq_true rfl) (fun X C hR => wk_X7_placeOn C hR  hf)
set_option maxRecDepth 100000 in
set_option maxHeartbeats 4000000 in
theorem wk_X7_nextOn_73 {X : tq_Cx} {K : Int32 → tq_St → Prop} (C : tq_C X cX7_nextOn 6 RX7 2) (hR : tq_Ri X cX7_nextOn 6 K) {rec6 : Int32 → Int32 → Int32 → Int32 → tq_St → Prop} (hrec6 : ∀ (v1 : Int32) (v2 : Int32) (v3 : Int32) (v4 : Int32) (S : tq_St), rec6 v1 v2 v3 v4 S → Go X 6 S 6 [(0, .ref ((tq_la X).1 28 0)), (1, .int v1), (2, .int v2), (3, .int v3), (4, .int v4)] []) : ∀ (v1 : Int32) (v2 : Int32) (v3 : Int32) (v4 : Int32) (S : tq_St), wp_X7_nextOn_73 K rec6 v1 v2 v3 v4 S → Go X 6 S 73 [(0, .ref ((tq_la X).1 28 0)), (1, .int v1), (2, .int v2), (3, .int v3), (4, .int v4)] [] := by
  intro v1 v2 v3 v4 S hf
  refine go_iload_n (pc := 73) C dX7_nextOn_73 3 rfl rfl ?_
  refine go_istore_n (pc := 74) C dX7_nextOn_74 [(3, .int v3), (0, .ref ((tq_la X).1 28 0)), (1, .int v1), (2, .int v2), (4, .int v4)] rfl (by decide) rfl ?_
  obtain ⟨x7, e8⟩ : ∃ q9 : Int32, q9 = v4 + 1 := ⟨_, rfl⟩
  refine go_iinc (pc := 75) (j := 4) (v := x7) C dX7_nextOn_75 [(4, .int x7), (3, .int v3), (0, .ref ((tq_la X).1 28 0)), (1, .int v1), (2, .int v2)] rfl (by rw [e8]; rfl) (by decide) rfl ?_
  have hf := hf x7 e8
  refine go_goto (pc := 78) C dX7_nextOn_78 6 (by decide) ?_
  exact go_sub [2, 3, 4, 1, 0] rfl (hrec6 _ _ _ _ _ hf)
set_option maxRecDepth 100000 in
set_option maxHeartbeats 4000000 in
theorem wk_X7_nextOn_68 {X : tq_Cx} {K : Int32 → tq_St → Prop} (C : tq_C X cX7_nextOn 6 RX7 2) (hR : tq_Ri X cX7_nextOn 6 K) {rec6 : Int32 → Int32 → Int32 → Int32 → tq_St → Prop} (hrec6 : ∀ (v1 : Int32) (v2 : Int32) (v3 : Int32) (v4 : Int32) (S : tq_St), rec6 v1 v2 v3 v4 S → Go X 6 S 6 [(0, .ref ((tq_la X).1 28 0)), (1, .int v1), (2, .int v2), (3, .int v3), (4, .int v4)] []) : ∀ (v1 : Int32) (v2 : Int32) (v4 : Int32) (S : tq_St), wp_X7_nextOn_68 K rec6 v1 v2 v4 S → Go X 6 S 68 [(0, .ref ((tq_la X).1 28 0)), (1, .int v1), (2, .int v2), (4, .int v4)] [] := by
  intro v1 v2 v4 S hf
  refine go_iload (pc := 68) C dX7_nextOn_68 3 rfl ?_
  refine go_goto (pc := 70) C dX7_nextOn_70 74 (by decide) ?_
  refine go_istore_n (pc := 74) C dX7_nextOn_74 [(3, .int v4), (0, .ref ((tq_la X).1 28 0)), (1, .int v1), (2, .int v2), (4, .int v4)] rfl (by decide) rfl ?_
  obtain ⟨x10, e11⟩ : ∃ q9 : Int32, q9 = v4 + 1 := ⟨_, rfl⟩
  refine go_iinc (pc := 75) (j := 4) (v := x10) C dX7_nextOn_75 [(4, .int x10), (3, .int v4), (0, .ref ((tq_la X).1 28 0)), (1, .int v1), (2, .int v2)] rfl (by rw [e11]; rfl) (by decide) rfl ?_
  have hf := hf x10 e11
  refine go_goto (pc := 78) C dX7_nextOn_78 6 (by decide) ?_
  exact go_sub [2, 3, 4, 1, 0] rfl (hrec6 _ _ _ _ _ hf)
set_option maxRecDepth 100000 in
set_option maxHeartbeats 4000000 in
theorem wk_X7_nextOn_39 {X : tq_Cx} {K : Int32 → tq_St → Prop} (C : tq_C X cX7_nextOn 6 RX7 2) (hR : tq_Ri X cX7_nextOn 6 K) {rec6 : Int32 → Int32 → Int32 → Int32 → tq_St → Prop} (hrec6 : ∀ (v1 : Int32) (v2 : Int32) (v3 : Int32) (v4 : Int32) (S : tq_St), rec6 v1 v2 v3 v4 S → Go X 6 S 6 [(0, .ref ((tq_la X).1 28 0)), (1, .int v1), (2, .int v2), (3, .int v3), (4, .int v4)] []) : ∀ (v1 : Int32) (v2 : Int32) (v3 : Int32) (v4 : Int32) (w0 : Int32) (S : tq_St), wp_X7_nextOn_39 K rec6 v1 v2 v3 v4 w0 S → Go X 6 S 39 [(0, .ref ((tq_la X).1 28 0)), (1, .int v1), (2, .int v2), (3, .int v3), (4, .int v4)] [.int w0] := by
  intro v1 v2 v3 v4 w0 S hf
  refine go_istore (pc := 39) C dX7_nextOn_39 [(5, .int w0), (0, .ref ((tq_la X).1 28 0)), (1, .int v1), (2, .int v2), (3, .int v3), (4, .int v4)] (by decide) rfl ?_
  refine go_iload (pc := 41) C dX7_nextOn_41 0 rfl ?_
  refine go_if_eq (pc := 43) C dX7_nextOn_43 73 (by decide) (fun c6 => ?_) (fun c6 => ?_)
  · have hf := hf.1 c6
    exact go_sub [1, 2, 3, 4, 5] rfl (wk_X7_nextOn_73 C hR hrec6 _ _ _ _ _ hf)
  · have hf := hf.2 c6
    refine go_iload_n (pc := 46) C dX7_nextOn_46 4 rfl rfl ?_
    refine go_bipush (pc := 47) (v := (-4)) C dX7_nextOn_47 (by decide) ?_
    refine go_ic_eq (pc := 49) C dX7_nextOn_49 68 (by decide) (fun c9 => ?_) (fun c9 => ?_)
    · have hf := hf.1 c9
      exact go_sub [1, 2, 3, 5] rfl (wk_X7_nextOn_68 C hR hrec6 _ _ _ _ hf)
    · have hf := hf.2 c9
      refine go_aload_n (pc := 52) C dX7_nextOn_52 1 rfl rfl ?_
      refine go_iload_n (pc := 53) C dX7_nextOn_53 2 rfl rfl ?_
      refine go_iload (pc := 54) C dX7_nextOn_54 5 rfl ?_
      refine go_cVi (pc := 56) C cw_X7_146 (ok_X7_placeOn hf) (rc_X7 C) rfl rfl rfl (by decide) rfl dX7_nextOn_56 (fun r12 S13 hf => ?_)
      refine go_aload_n (pc := 59) C dX7_nextOn_59 1 rfl rfl ?_
      refine go_iload_n (pc := 60) C dX7_nextOn_60 2 rfl rfl ?_
      refine go_iload_n (pc := 61) C dX7_nextOn_61 4 rfl rfl ?_
      refine go_cVi (pc := 62) C cw_X7_146 (ok_X7_placeOn hf) (rc_X7 C) rfl rfl rfl (by decide) rfl dX7_nextOn_62 (fun r15 S16 hf => ?_)
      refine go_ic_le (pc := 65) C dX7_nextOn_65 73 (by decide) (fun c18 => ?_) (fun c18 => ?_)
      · have hf := hf.1 c18
        exact go_sub [1, 2, 3, 4, 5] rfl (wk_X7_nextOn_73 C hR hrec6 _ _ _ _ _ hf)
      · have hf := hf.2 c18
        exact go_sub [1, 2, 3, 5] rfl (wk_X7_nextOn_68 C hR hrec6 _ _ _ _ hf)
set_option maxRecDepth 100000 in
set_option maxHeartbeats 4000000 in
theorem wk_X7_nextOn_38 {X : tq_Cx} {K : Int32 → tq_St → Prop} (C : tq_C X cX7_nextOn 6 RX7 2) (hR : tq_Ri X cX7_nextOn 6 K) {rec6 : Int32 → Int32 → Int32 → Int32 → tq_St → Prop} (hrec6 : ∀ (v1 : Int32) (v2 : Int32) (v3 : Int32) (v4 : Int32) (S : tq_St), rec6 v1 v2 v3 v4 S → Go X 6 S 6 [(0, .ref ((tq_la X).1 28 0)), (1, .int v1), (2, .int v2), (3, .int v3), (4, .int v4)] []) : ∀ (v1 : Int32) (v2 : Int32) (v3 : Int32) (v4 : Int32) (S : tq_St), wp_X7_nextOn_38 K rec6 v1 v2 v3 v4 S → Go X 6 S 38 [(0, .ref ((tq_la X).1 28 0)), (1, .int v1), (2, .int v2), (3, .int v3), (4, .int v4)] [] := by
  intro v1 v2 v3 v4 S hf
  refine go_iconst (pc := 38) (v := 0) C dX7_nextOn_38 (by decide) ?_
  exact go_sub [0, 1, 2, 3, 4] rfl (wk_X7_nextOn_39 C hR hrec6 _ _ _ _ _ _ hf)
set_option maxRecDepth 100000 in
set_option maxHeartbeats 4000000 in
theorem wk_X7_nextOn_6 {X : tq_Cx} {K : Int32 → tq_St → Prop} (C : tq_C X cX7_nextOn 6 RX7 2) (hR : tq_Ri X cX7_nextOn 6 K) : ∀ (n : Nat) (v1 : Int32) (v2 : Int32) (v3 : Int32) (v4 : Int32) (S : tq_St), wp_X7_nextOn_6 K n v1 v2 v3 v4 S → Go X 6 S 6 [(0, .ref ((tq_la X).1 28 0)), (1, .int v1), (2, .int v2), (3, .int v3), (4, .int v4)] [] := by
  intro n
  induction n with
  | zero => intros; contradiction
  | succ n ih =>
    intro v1 v2 v3 v4 S hf
    refine go_iload (pc := 6) C dX7_nextOn_6 4 rfl ?_
    refine go_aload_n (pc := 8) C dX7_nextOn_8 0 rfl rfl ?_
    refine ge_X7_X7_2 (pc := 9) C dX7_nextOn_9 ?_
    refine go_ic_ge (pc := 12) C dX7_nextOn_12 81 (by decide) (fun c1 => ?_) (fun c1 => ?_)
    · have hf := hf.1 c1
      refine go_iload_n (pc := 81) C dX7_nextOn_81 3 rfl rfl ?_
      exact hR _ _ _ _ dX7_nextOn_82 hf
    · have hf := hf.2 c1
      refine go_aload_n (pc := 15) C dX7_nextOn_15 0 rfl rfl ?_
      refine go_iload_n (pc := 16) C dX7_nextOn_16 1 rfl rfl ?_
      refine go_iload (pc := 17) C dX7_nextOn_17 4 rfl ?_
      refine go_cVi (pc := 19) C cw_X7_131 (ok_X7_waits hf) (rc_X7 C) rfl rfl rfl (by decide) rfl dX7_nextOn_19 (fun r2 S3 hf => ?_)
      refine go_if_eq (pc := 22) C dX7_nextOn_22 38 (by decide) (fun c5 => ?_) (fun c5 => ?_)
      · have hf := hf.1 c5
        exact go_sub [0, 1, 2, 3, 4] rfl (wk_X7_nextOn_38 C hR ih _ _ _ _ _ hf)
      · have hf := hf.2 c5
        refine go_iload_n (pc := 25) C dX7_nextOn_25 2 rfl rfl ?_
        refine go_iload (pc := 26) C dX7_nextOn_26 4 rfl ?_
        refine go_ishr (pc := 28) C dX7_nextOn_28 ?_
        refine go_iconst (pc := 29) (v := 1) C dX7_nextOn_29 (by decide) ?_
        refine go_iand (pc := 30) C dX7_nextOn_30 ?_
        refine go_if_ne (pc := 31) C dX7_nextOn_31 38 (by decide) (fun c19 => ?_) (fun c19 => ?_)
        · have hf := hf.1 c19
          exact go_sub [0, 1, 2, 3, 4] rfl (wk_X7_nextOn_38 C hR ih _ _ _ _ _ hf)
        · have hf := hf.2 c19
          refine go_iconst (pc := 34) (v := 1) C dX7_nextOn_34 (by decide) ?_
          refine go_goto (pc := 35) C dX7_nextOn_35 39 (by decide) ?_
          exact go_sub [0, 1, 2, 3, 4] rfl (wk_X7_nextOn_39 C hR ih _ _ _ _ _ _ hf)
set_option maxRecDepth 100000 in
set_option maxHeartbeats 4000000 in
theorem wk_X7_nextOn {X : tq_Cx} {p1 : Int32} {p2 : Int32} {S : tq_St} {K : Int32 → tq_St → Prop} (C : tq_C X cX7_nextOn 6 RX7 2) (hR : tq_Ri X cX7_nextOn 6 K) (hf : wp_X7_nextOn p1 p2 S K) : Go X 6 S 0 [(0, .ref ((tq_la X).1 28 0)), (1, .int p1), (2, .int p2)] [] := by
  refine go_bipush (pc := 0) (v := (-4)) C dX7_nextOn_0 (by decide) ?_
  refine go_istore_n (pc := 2) C dX7_nextOn_2 [(3, .int (-4)), (0, .ref ((tq_la X).1 28 0)), (1, .int p1), (2, .int p2)] rfl (by decide) rfl ?_
  refine go_iconst (pc := 3) (v := 0) C dX7_nextOn_3 (by decide) ?_
  refine go_istore (pc := 4) C dX7_nextOn_4 [(4, .int 0), (3, .int (-4)), (0, .ref ((tq_la X).1 28 0)), (1, .int p1), (2, .int p2)] (by decide) rfl ?_
  exact go_sub [2, 3, 4, 1, 0] rfl (wk_X7_nextOn_6 C hR 2000 _ _ _ _ _ hf)
set_option maxRecDepth 100000 in
set_option maxHeartbeats 4000000 in
theorem ok_X7_nextOn {p1 : Int32} {p2 : Int32} {S : tq_St} {K : Int32 → tq_St → Prop} (hf : wp_X7_nextOn p1 p2 S K) : tq_Mi yX7_nextOn cX7_nextOn 6 (some .int) 2 (fun a z => [.ref (a.1 28 0), .int p1, .int p2]) S K :=
  tq_mkI (by decide) (fun _ _ => Nat.le_of_ble_eq_true rfl) (fun X C hR => wk_X7_nextOn C hR  hf)
set_option maxRecDepth 100000 in
set_option maxHeartbeats 4000000 in
theorem wk_X7_tramOn_43 {X : tq_Cx} {K : Int32 → tq_St → Prop} (C : tq_C X cX7_tramOn 5 RX7 3) (hR : tq_Ri X cX7_tramOn 5 K) {rec4 : Int32 → Int32 → Int32 → tq_St → Prop} (hrec4 : ∀ (v1 : Int32) (v2 : Int32) (v3 : Int32) (S : tq_St), rec4 v1 v2 v3 S → Go X 5 S 4 [(0, .ref ((tq_la X).1 28 0)), (1, .int v1), (2, .int v2), (3, .int v3)] []) : ∀ (v1 : Int32) (v3 : Int32) (w0 : Int32) (w1 : Int32) (S : tq_St), wp_X7_tramOn_43 K rec4 v1 v3 w0 w1 S → Go X 5 S 43 [(0, .ref ((tq_la X).1 28 0)), (1, .int v1), (3, .int v3)] [.int w1, .int w0] := by
  intro v1 v3 w0 w1 S hf
  refine go_ior (pc := 43) C dX7_tramOn_43 ?_
  refine go_nI (fun x8 e9 => ?_)
  have hf := hf x8 e9
  refine go_istore_n (pc := 44) C dX7_tramOn_44 [(2, .int x8), (0, .ref ((tq_la X).1 28 0)), (1, .int v1), (3, .int v3)] rfl (by decide) rfl ?_
  obtain ⟨x10, e11⟩ : ∃ q9 : Int32, q9 = v3 + 1 := ⟨_, rfl⟩
  refine go_iinc (pc := 45) (j := 3) (v := x10) C dX7_tramOn_45 [(3, .int x10), (2, .int x8), (0, .ref ((tq_la X).1 28 0)), (1, .int v1)] rfl (by rw [e11]; rfl) (by decide) rfl ?_
  have hf := hf x10 e11
  refine go_goto (pc := 48) C dX7_tramOn_48 4 (by decide) ?_
  exact go_sub [2, 3, 1, 0] rfl (hrec4 _ _ _ _ hf)
set_option maxRecDepth 100000 in
set_option maxHeartbeats 4000000 in
theorem wk_X7_tramOn_4 {X : tq_Cx} {K : Int32 → tq_St → Prop} (C : tq_C X cX7_tramOn 5 RX7 3) (hR : tq_Ri X cX7_tramOn 5 K) : ∀ (n : Nat) (v1 : Int32) (v2 : Int32) (v3 : Int32) (S : tq_St), wp_X7_tramOn_4 K n v1 v2 v3 S → Go X 5 S 4 [(0, .ref ((tq_la X).1 28 0)), (1, .int v1), (2, .int v2), (3, .int v3)] [] := by
  intro n
  induction n with
  | zero => intros; contradiction
  | succ n ih =>
    intro v1 v2 v3 S hf
    refine go_iload_n (pc := 4) C dX7_tramOn_4 3 rfl rfl ?_
    refine go_aload_n (pc := 5) C dX7_tramOn_5 0 rfl rfl ?_
    refine ge_X7_X7_0 (pc := 6) C dX7_tramOn_6 ?_
    refine go_iload_n (pc := 9) C dX7_tramOn_9 1 rfl rfl ?_
    refine go_bipush (pc := 10) (v := 17) C dX7_tramOn_10 (by decide) ?_
    refine go_iadd (pc := 12) C dX7_tramOn_12 ?_
    refine al_X7_0 (pc := 13) C hf.1 dX7_tramOn_13 ?_
    have hf := hf.2
    refine go_iconst (pc := 14) (v := 2) C dX7_tramOn_14 (by decide) ?_
    refine go_iadd (pc := 15) C dX7_tramOn_15 ?_
    refine go_ic_ge (pc := 16) C dX7_tramOn_16 51 (by decide) (fun c1 => ?_) (fun c1 => ?_)
    · have hf := hf.1 c1
      refine go_aload_n (pc := 51) C dX7_tramOn_51 0 rfl rfl ?_
      refine ge_X7_X7_0 (pc := 52) C dX7_tramOn_52 ?_
      refine go_iload_n (pc := 55) C dX7_tramOn_55 1 rfl rfl ?_
      refine go_bipush (pc := 56) (v := 15) C dX7_tramOn_56 (by decide) ?_
      refine go_iadd (pc := 58) C dX7_tramOn_58 ?_
      refine go_dup2 (pc := 59) C dX7_tramOn_59 rfl rfl ?_
      refine al_X7_0 (pc := 60) C hf.1 dX7_tramOn_60 ?_
      have hf := hf.2
      refine go_iload_n (pc := 61) C dX7_tramOn_61 2 rfl rfl ?_
      refine go_ior (pc := 62) C dX7_tramOn_62 ?_
      refine as_X7_0 (pc := 63) C hf.1 dX7_tramOn_63 (fun S2 e3 => ?_)
      have hf := hf.2 S2 e3
      refine go_iload_n (pc := 64) C dX7_tramOn_64 2 rfl rfl ?_
      exact hR _ _ _ _ dX7_tramOn_65 hf
    · have hf := hf.2 c1
      refine go_aload_n (pc := 19) C dX7_tramOn_19 0 rfl rfl ?_
      refine go_iload_n (pc := 20) C dX7_tramOn_20 1 rfl rfl ?_
      refine go_iload_n (pc := 21) C dX7_tramOn_21 2 rfl rfl ?_
      refine go_cVi (pc := 22) C cw_X7_149 (ok_X7_nextOn hf) (rc_X7 C) rfl rfl rfl (by decide) rfl dX7_tramOn_22 (fun r4 S5 hf => ?_)
      refine go_istore (pc := 25) C dX7_tramOn_25 [(4, .int r4), (0, .ref ((tq_la X).1 28 0)), (1, .int v1), (2, .int v2), (3, .int v3)] (by decide) rfl ?_
      refine go_iload_n (pc := 27) C dX7_tramOn_27 3 rfl rfl ?_
      refine go_iload (pc := 28) C dX7_tramOn_28 0 rfl ?_
      refine go_bipush (pc := 30) (v := (-4)) C dX7_tramOn_30 (by decide) ?_
      refine go_ic_ne (pc := 32) C dX7_tramOn_32 39 (by decide) (fun c7 => ?_) (fun c7 => ?_)
      · have hf := hf.1 c7
        refine go_iconst (pc := 39) (v := 1) C dX7_tramOn_39 (by decide) ?_
        refine go_iload (pc := 40) C dX7_tramOn_40 0 rfl ?_
        refine go_ishl (pc := 42) C dX7_tramOn_42 ?_
        exact go_sub [1, 2, 4] rfl (wk_X7_tramOn_43 C hR ih _ _ _ _ _ hf)
      · have hf := hf.2 c7
        refine go_iconst (pc := 35) (v := 0) C dX7_tramOn_35 (by decide) ?_
        refine go_goto (pc := 36) C dX7_tramOn_36 43 (by decide) ?_
        exact go_sub [1, 2, 4] rfl (wk_X7_tramOn_43 C hR ih _ _ _ _ _ hf)
set_option maxRecDepth 100000 in
set_option maxHeartbeats 4000000 in
theorem wk_X7_tramOn {X : tq_Cx} {p1 : Int32} {S : tq_St} {K : Int32 → tq_St → Prop} (C : tq_C X cX7_tramOn 5 RX7 3) (hR : tq_Ri X cX7_tramOn 5 K) (hf : wp_X7_tramOn p1 S K) : Go X 5 S 0 [(0, .ref ((tq_la X).1 28 0)), (1, .int p1)] [] := by
  refine go_iconst (pc := 0) (v := 0) C dX7_tramOn_0 (by decide) ?_
  refine go_istore_n (pc := 1) C dX7_tramOn_1 [(2, .int 0), (0, .ref ((tq_la X).1 28 0)), (1, .int p1)] rfl (by decide) rfl ?_
  refine go_iconst (pc := 2) (v := 0) C dX7_tramOn_2 (by decide) ?_
  refine go_istore_n (pc := 3) C dX7_tramOn_3 [(3, .int 0), (2, .int 0), (0, .ref ((tq_la X).1 28 0)), (1, .int p1)] rfl (by decide) rfl ?_
  exact go_sub [2, 3, 1, 0] rfl (wk_X7_tramOn_4 C hR 2000 _ _ _ _ hf)
set_option maxRecDepth 100000 in
set_option maxHeartbeats 4000000 in
theorem ok_X7_tramOn {p1 : Int32} {S : tq_St} {K : Int32 → tq_St → Prop} (hf : wp_X7_tramOn p1 S K) : tq_Mi yX7_tramOn cX7_tramOn 5 (some .int) 3 (fun a z => [.ref (a.1 28 0), .int p1]) S K :=
  tq_mkI (by decide) (fun _ _ => Nat.le_of_ble_eq_true rfl) (fun X C hR => wk_X7_tramOn C hR  hf)
set_option maxRecDepth 100000 in
set_option maxHeartbeats 4000000 in
theorem wk_X7_grieves {X : tq_Cx} {p1 : Int32} {p2 : Int32} {p3 : Int32} {S : tq_St} {K : tq_St → Prop} (C : tq_C X cX7_grieves 5 RX7 1) (hR : tq_Rv X cX7_grieves 5 K) (hf : wp_X7_grieves p1 p2 p3 S K) : Go X 5 S 0 [(0, .ref ((tq_la X).1 28 0)), (1, .int p1), (2, .int p2), (3, .int p3)] [] := by
  refine go_aload_n (pc := 0) C dX7_grieves_0 0 rfl rfl ?_
  refine ge_X7_X7_0 (pc := 1) C dX7_grieves_1 ?_
  refine go_iload_n (pc := 4) C dX7_grieves_4 1 rfl rfl ?_
  refine go_iconst (pc := 5) (v := 5) C dX7_grieves_5 (by decide) ?_
  refine go_iadd (pc := 6) C dX7_grieves_6 ?_
  refine go_iload_n (pc := 7) C dX7_grieves_7 2 rfl rfl ?_
  refine go_iadd (pc := 8) C dX7_grieves_8 ?_
  refine al_X7_0 (pc := 9) C hf.1 dX7_grieves_9 ?_
  have hf := hf.2
  refine go_iload_n (pc := 10) C dX7_grieves_10 3 rfl rfl ?_
  refine go_iadd (pc := 11) C dX7_grieves_11 ?_
  refine go_nI (fun x1 e2 => ?_)
  have hf := hf x1 e2
  refine go_istore (pc := 12) C dX7_grieves_12 [(4, .int x1), (0, .ref ((tq_la X).1 28 0)), (1, .int p1), (2, .int p2), (3, .int p3)] (by decide) rfl ?_
  refine go_aload_n (pc := 14) C dX7_grieves_14 1 rfl rfl ?_
  refine ge_X7_X7_0 (pc := 15) C dX7_grieves_15 ?_
  refine go_iload_n (pc := 18) C dX7_grieves_18 2 rfl rfl ?_
  refine go_iconst (pc := 19) (v := 5) C dX7_grieves_19 (by decide) ?_
  refine go_iadd (pc := 20) C dX7_grieves_20 ?_
  refine go_iload_n (pc := 21) C dX7_grieves_21 3 rfl rfl ?_
  refine go_iadd (pc := 22) C dX7_grieves_22 ?_
  refine go_iload (pc := 23) C dX7_grieves_23 0 rfl ?_
  refine go_bipush (pc := 25) (v := 40) C dX7_grieves_25 (by decide) ?_
  refine go_ic_le (pc := 27) C dX7_grieves_27 35 (by decide) (fun c3 => ?_) (fun c3 => ?_)
  · have hf := hf.1 c3
    refine go_iload (pc := 35) C dX7_grieves_35 0 rfl ?_
    refine as_X7_0 (pc := 37) C hf.1 dX7_grieves_37 (fun S4 e5 => ?_)
    have hf := hf.2 S4 e5
    exact hR _ _ _ dX7_grieves_38 hf
  · have hf := hf.2 c3
    refine go_bipush (pc := 30) (v := 40) C dX7_grieves_30 (by decide) ?_
    refine go_goto (pc := 32) C dX7_grieves_32 37 (by decide) ?_
    refine as_X7_0 (pc := 37) C hf.1 dX7_grieves_37 (fun S6 e7 => ?_)
    have hf := hf.2 S6 e7
    exact hR _ _ _ dX7_grieves_38 hf
set_option maxRecDepth 100000 in
set_option maxHeartbeats 4000000 in
theorem ok_X7_grieves {p1 : Int32} {p2 : Int32} {p3 : Int32} {S : tq_St} {K : tq_St → Prop} (hf : wp_X7_grieves p1 p2 p3 S K) : tq_Mv yX7_grieves cX7_grieves 5 none 1 (fun a z => [.ref (a.1 28 0), .int p1, .int p2, .int p3]) S K :=
  tq_mkV (by decide) (fun _ _ => Nat.le_of_ble_eq_true rfl) (fun X C hR => wk_X7_grieves C hR  hf)
set_option maxRecDepth 100000 in
set_option maxHeartbeats 4000000 in
theorem wk_X7_nextToWeep_2 {X : tq_Cx} {K : Int32 → tq_St → Prop} (C : tq_C X cX7_nextToWeep 4 RX7 2) (hR : tq_Ri X cX7_nextToWeep 4 K) : ∀ (n : Nat) (v1 : Int32) (v2 : Int32) (v3 : Int32) (S : tq_St), wp_X7_nextToWeep_2 K n v1 v2 v3 S → Go X 4 S 2 [(0, .ref ((tq_la X).1 28 0)), (1, .int v1), (2, .int v2), (3, .int v3)] [] := by
  intro n
  induction n with
  | zero => intros; contradiction
  | succ n ih =>
    intro v1 v2 v3 S hf
    refine go_iload_n (pc := 2) C dX7_nextToWeep_2 3 rfl rfl ?_
    refine go_aload_n (pc := 3) C dX7_nextToWeep_3 0 rfl rfl ?_
    refine ge_X7_X7_2 (pc := 4) C dX7_nextToWeep_4 ?_
    refine go_ic_ge (pc := 7) C dX7_nextToWeep_7 61 (by decide) (fun c1 => ?_) (fun c1 => ?_)
    · have hf := hf.1 c1
      refine go_bipush (pc := 61) (v := (-4)) C dX7_nextToWeep_61 (by decide) ?_
      exact hR _ _ _ _ dX7_nextToWeep_63 hf
    · have hf := hf.2 c1
      refine go_aload_n (pc := 10) C dX7_nextToWeep_10 0 rfl rfl ?_
      refine go_iload_n (pc := 11) C dX7_nextToWeep_11 1 rfl rfl ?_
      refine go_iload_n (pc := 12) C dX7_nextToWeep_12 3 rfl rfl ?_
      refine go_cVi (pc := 13) C cw_X7_131 (ok_X7_waits hf) (rc_X7 C) rfl rfl rfl (by decide) rfl dX7_nextToWeep_13 (fun r2 S3 hf => ?_)
      refine go_if_eq (pc := 16) C dX7_nextToWeep_16 55 (by decide) (fun c5 => ?_) (fun c5 => ?_)
      · have hf := hf.1 c5
        obtain ⟨x6, e7⟩ : ∃ q9 : Int32, q9 = v3 + 1 := ⟨_, rfl⟩
        refine go_iinc (pc := 55) (j := 3) (v := x6) C dX7_nextToWeep_55 [(3, .int x6), (0, .ref ((tq_la X).1 28 0)), (1, .int v1), (2, .int v2)] rfl (by rw [e7]; rfl) (by decide) rfl ?_
        have hf := hf x6 e7
        refine go_goto (pc := 58) C dX7_nextToWeep_58 2 (by decide) ?_
        exact go_sub [1, 2, 3, 0] rfl (ih _ _ _ _ hf)
      · have hf := hf.2 c5
        refine go_iload_n (pc := 19) C dX7_nextToWeep_19 2 rfl rfl ?_
        refine go_iload_n (pc := 20) C dX7_nextToWeep_20 3 rfl rfl ?_
        refine go_ishr (pc := 21) C dX7_nextToWeep_21 ?_
        refine go_iconst (pc := 22) (v := 1) C dX7_nextToWeep_22 (by decide) ?_
        refine go_iand (pc := 23) C dX7_nextToWeep_23 ?_
        refine go_if_ne (pc := 24) C dX7_nextToWeep_24 55 (by decide) (fun c8 => ?_) (fun c8 => ?_)
        · have hf := hf.1 c8
          obtain ⟨x9, e10⟩ : ∃ q9 : Int32, q9 = v3 + 1 := ⟨_, rfl⟩
          refine go_iinc (pc := 55) (j := 3) (v := x9) C dX7_nextToWeep_55 [(3, .int x9), (0, .ref ((tq_la X).1 28 0)), (1, .int v1), (2, .int v2)] rfl (by rw [e10]; rfl) (by decide) rfl ?_
          have hf := hf x9 e10
          refine go_goto (pc := 58) C dX7_nextToWeep_58 2 (by decide) ?_
          exact go_sub [1, 2, 3, 0] rfl (ih _ _ _ _ hf)
        · have hf := hf.2 c8
          refine go_aload_n (pc := 27) C dX7_nextToWeep_27 0 rfl rfl ?_
          refine ge_X7_X7_0 (pc := 28) C dX7_nextToWeep_28 ?_
          refine go_iload_n (pc := 31) C dX7_nextToWeep_31 1 rfl rfl ?_
          refine go_iconst (pc := 32) (v := 5) C dX7_nextToWeep_32 (by decide) ?_
          refine go_iadd (pc := 33) C dX7_nextToWeep_33 ?_
          refine go_iload_n (pc := 34) C dX7_nextToWeep_34 3 rfl rfl ?_
          refine go_iadd (pc := 35) C dX7_nextToWeep_35 ?_
          refine al_X7_0 (pc := 36) C hf.1 dX7_nextToWeep_36 ?_
          have hf := hf.2
          refine go_aload_n (pc := 37) C dX7_nextToWeep_37 0 rfl rfl ?_
          refine ge_X7_X7_1 (pc := 38) C dX7_nextToWeep_38 ?_
          refine go_aload_n (pc := 41) C dX7_nextToWeep_41 0 rfl rfl ?_
          refine ge_X7_X7_0 (pc := 42) C dX7_nextToWeep_42 ?_
          refine go_iload_n (pc := 45) C dX7_nextToWeep_45 1 rfl rfl ?_
          refine go_iload_n (pc := 46) C dX7_nextToWeep_46 3 rfl rfl ?_
          refine go_iadd (pc := 47) C dX7_nextToWeep_47 ?_
          refine al_X7_0 (pc := 48) C hf.1 dX7_nextToWeep_48 ?_
          have hf := hf.2
          refine al_X7_1 (pc := 49) C hf.1 dX7_nextToWeep_49 ?_
          have hf := hf.2
          refine go_ic_lt (pc := 50) C dX7_nextToWeep_50 55 (by decide) (fun c11 => ?_) (fun c11 => ?_)
          · have hf := hf.1 c11
            obtain ⟨x12, e13⟩ : ∃ q9 : Int32, q9 = v3 + 1 := ⟨_, rfl⟩
            refine go_iinc (pc := 55) (j := 3) (v := x12) C dX7_nextToWeep_55 [(3, .int x12), (0, .ref ((tq_la X).1 28 0)), (1, .int v1), (2, .int v2)] rfl (by rw [e13]; rfl) (by decide) rfl ?_
            have hf := hf x12 e13
            refine go_goto (pc := 58) C dX7_nextToWeep_58 2 (by decide) ?_
            exact go_sub [1, 2, 3, 0] rfl (ih _ _ _ _ hf)
          · have hf := hf.2 c11
            refine go_iload_n (pc := 53) C dX7_nextToWeep_53 3 rfl rfl ?_
            exact hR _ _ _ _ dX7_nextToWeep_54 hf
set_option maxRecDepth 100000 in
set_option maxHeartbeats 4000000 in
theorem wk_X7_nextToWeep {X : tq_Cx} {p1 : Int32} {p2 : Int32} {S : tq_St} {K : Int32 → tq_St → Prop} (C : tq_C X cX7_nextToWeep 4 RX7 2) (hR : tq_Ri X cX7_nextToWeep 4 K) (hf : wp_X7_nextToWeep p1 p2 S K) : Go X 4 S 0 [(0, .ref ((tq_la X).1 28 0)), (1, .int p1), (2, .int p2)] [] := by
  refine go_iconst (pc := 0) (v := 0) C dX7_nextToWeep_0 (by decide) ?_
  refine go_istore_n (pc := 1) C dX7_nextToWeep_1 [(3, .int 0), (0, .ref ((tq_la X).1 28 0)), (1, .int p1), (2, .int p2)] rfl (by decide) rfl ?_
  exact go_sub [1, 2, 3, 0] rfl (wk_X7_nextToWeep_2 C hR 2000 _ _ _ _ hf)
set_option maxRecDepth 100000 in
set_option maxHeartbeats 4000000 in
theorem ok_X7_nextToWeep {p1 : Int32} {p2 : Int32} {S : tq_St} {K : Int32 → tq_St → Prop} (hf : wp_X7_nextToWeep p1 p2 S K) : tq_Mi yX7_nextToWeep cX7_nextToWeep 4 (some .int) 2 (fun a z => [.ref (a.1 28 0), .int p1, .int p2]) S K :=
  tq_mkI (by decide) (fun _ _ => Nat.le_of_ble_eq_true rfl) (fun X C hR => wk_X7_nextToWeep C hR  hf)
set_option maxRecDepth 100000 in
set_option maxHeartbeats 4000000 in
theorem wk_X7_setsOff_64 {X : tq_Cx} {K : tq_St → Prop} (C : tq_C X cX7_setsOff 5 RX7 2) (hR : tq_Rv X cX7_setsOff 5 K) : ∀ (v1 : Int32) (v4 : Int32) (S : tq_St), wp_X7_setsOff_64 K v1 v4 S → Go X 5 S 64 [(0, .ref ((tq_la X).1 28 0)), (1, .int v1), (4, .int v4)] [] := by
  intro v1 v4 S hf
  refine go_iload (pc := 64) C dX7_setsOff_64 2 rfl ?_
  refine go_aload_n (pc := 66) C dX7_setsOff_66 0 rfl rfl ?_
  refine ge_X7_X7_2 (pc := 67) C dX7_setsOff_67 ?_
  refine go_ic_ge (pc := 70) C dX7_setsOff_70 81 (by decide) (fun c8 => ?_) (fun c8 => ?_)
  · have hf := hf.1 c8
    exact hR _ _ _ dX7_setsOff_81 hf
  · have hf := hf.2 c8
    refine go_aload_n (pc := 73) C dX7_setsOff_73 0 rfl rfl ?_
    refine go_iload_n (pc := 74) C dX7_setsOff_74 1 rfl rfl ?_
    refine go_iload (pc := 75) C dX7_setsOff_75 2 rfl ?_
    refine go_iconst (pc := 77) (v := 2) C dX7_setsOff_77 (by decide) ?_
    refine go_cVv (pc := 78) C cw_X7_135 (ok_X7_grieves hf) (rc_X7 C) rfl rfl rfl (by decide) rfl dX7_setsOff_78 (fun S10 hf => ?_)
    exact hR _ _ _ dX7_setsOff_81 hf
set_option maxRecDepth 100000 in
set_option maxHeartbeats 4000000 in
theorem wk_X7_setsOff_53 {X : tq_Cx} {K : tq_St → Prop} (C : tq_C X cX7_setsOff 5 RX7 2) (hR : tq_Rv X cX7_setsOff 5 K) : ∀ (v1 : Int32) (v3 : Int32) (v4 : Int32) (S : tq_St), wp_X7_setsOff_53 K v1 v3 v4 S → Go X 5 S 53 [(0, .ref ((tq_la X).1 28 0)), (1, .int v1), (3, .int v3), (4, .int v4)] [] := by
  intro v1 v3 v4 S hf
  refine go_iload_n (pc := 53) C dX7_setsOff_53 2 rfl rfl ?_
  refine go_if_lt (pc := 54) C dX7_setsOff_54 64 (by decide) (fun c7 => ?_) (fun c7 => ?_)
  · have hf := hf.1 c7
    exact go_sub [0, 1, 3] rfl (wk_X7_setsOff_64 C hR _ _ _ hf)
  · have hf := hf.2 c7
    refine go_aload_n (pc := 57) C dX7_setsOff_57 0 rfl rfl ?_
    refine go_iload_n (pc := 58) C dX7_setsOff_58 1 rfl rfl ?_
    refine go_iload_n (pc := 59) C dX7_setsOff_59 2 rfl rfl ?_
    refine go_iconst (pc := 60) (v := 2) C dX7_setsOff_60 (by decide) ?_
    refine go_cVv (pc := 61) C cw_X7_135 (ok_X7_grieves hf) (rc_X7 C) rfl rfl rfl (by decide) rfl dX7_setsOff_61 (fun S13 hf => ?_)
    exact go_sub [0, 1, 3] rfl (wk_X7_setsOff_64 C hR _ _ _ hf)
set_option maxRecDepth 100000 in
set_option maxHeartbeats 4000000 in
theorem wk_X7_setsOff_28 {X : tq_Cx} {K : tq_St → Prop} (C : tq_C X cX7_setsOff 5 RX7 2) (hR : tq_Rv X cX7_setsOff 5 K) : ∀ (n : Nat) (v1 : Int32) (v3 : Int32) (v4 : Int32) (S : tq_St), wp_X7_setsOff_28 K n v1 v3 v4 S → Go X 5 S 28 [(0, .ref ((tq_la X).1 28 0)), (1, .int v1), (3, .int v3), (4, .int v4)] [] := by
  intro n
  induction n with
  | zero => intros; contradiction
  | succ n ih =>
    intro v1 v3 v4 S hf
    refine go_iload (pc := 28) C dX7_setsOff_28 3 rfl ?_
    refine go_aload_n (pc := 30) C dX7_setsOff_30 0 rfl rfl ?_
    refine ge_X7_X7_2 (pc := 31) C dX7_setsOff_31 ?_
    refine go_ic_ge (pc := 34) C dX7_setsOff_34 53 (by decide) (fun c6 => ?_) (fun c6 => ?_)
    · have hf := hf.1 c6
      exact go_sub [0, 1, 2, 3] rfl (wk_X7_setsOff_53 C hR _ _ _ _ hf)
    · have hf := hf.2 c6
      refine go_aload_n (pc := 37) C dX7_setsOff_37 0 rfl rfl ?_
      refine go_iload_n (pc := 38) C dX7_setsOff_38 1 rfl rfl ?_
      refine go_iload (pc := 39) C dX7_setsOff_39 3 rfl ?_
      refine go_cVi (pc := 41) C cw_X7_131 (ok_X7_waits hf) (rc_X7 C) rfl rfl rfl (by decide) rfl dX7_setsOff_41 (fun r15 S16 hf => ?_)
      refine go_if_ne (pc := 44) C dX7_setsOff_44 53 (by decide) (fun c18 => ?_) (fun c18 => ?_)
      · have hf := hf.1 c18
        exact go_sub [0, 1, 2, 3] rfl (wk_X7_setsOff_53 C hR _ _ _ _ hf)
      · have hf := hf.2 c18
        obtain ⟨x19, e20⟩ : ∃ q9 : Int32, q9 = v4 + 1 := ⟨_, rfl⟩
        refine go_iinc (pc := 47) (j := 3) (v := x19) C dX7_setsOff_47 [(4, .int x19), (0, .ref ((tq_la X).1 28 0)), (1, .int v1), (3, .int v3)] rfl (by rw [e20]; rfl) (by decide) rfl ?_
        have hf := hf x19 e20
        refine go_goto (pc := 50) C dX7_setsOff_50 28 (by decide) ?_
        exact go_sub [1, 2, 3, 0] rfl (ih _ _ _ _ hf)
set_option maxRecDepth 100000 in
set_option maxHeartbeats 4000000 in
theorem wk_X7_setsOff_23 {X : tq_Cx} {K : tq_St → Prop} (C : tq_C X cX7_setsOff 5 RX7 2) (hR : tq_Rv X cX7_setsOff 5 K) : ∀ (v1 : Int32) (v2 : Int32) (v3 : Int32) (S : tq_St), wp_X7_setsOff_23 K v1 v2 v3 S → Go X 5 S 23 [(0, .ref ((tq_la X).1 28 0)), (1, .int v1), (2, .int v2), (3, .int v3)] [] := by
  intro v1 v2 v3 S hf
  refine go_iload_n (pc := 23) C dX7_setsOff_23 2 rfl rfl ?_
  refine go_iconst (pc := 24) (v := 1) C dX7_setsOff_24 (by decide) ?_
  refine go_iadd (pc := 25) C dX7_setsOff_25 ?_
  refine go_nI (fun x4 e5 => ?_)
  have hf := hf x4 e5
  refine go_istore (pc := 26) C dX7_setsOff_26 [(4, .int x4), (0, .ref ((tq_la X).1 28 0)), (1, .int v1), (2, .int v2), (3, .int v3)] (by decide) rfl ?_
  exact go_sub [1, 2, 4, 0] rfl (wk_X7_setsOff_28 C hR 2000 _ _ _ _ hf)
set_option maxRecDepth 100000 in
set_option maxHeartbeats 4000000 in
theorem wk_X7_setsOff_4 {X : tq_Cx} {K : tq_St → Prop} (C : tq_C X cX7_setsOff 5 RX7 2) (hR : tq_Rv X cX7_setsOff 5 K) : ∀ (n : Nat) (v1 : Int32) (v2 : Int32) (v3 : Int32) (S : tq_St), wp_X7_setsOff_4 K n v1 v2 v3 S → Go X 5 S 4 [(0, .ref ((tq_la X).1 28 0)), (1, .int v1), (2, .int v2), (3, .int v3)] [] := by
  intro n
  induction n with
  | zero => intros; contradiction
  | succ n ih =>
    intro v1 v2 v3 S hf
    refine go_iload_n (pc := 4) C dX7_setsOff_4 3 rfl rfl ?_
    refine go_if_lt (pc := 5) C dX7_setsOff_5 23 (by decide) (fun c3 => ?_) (fun c3 => ?_)
    · have hf := hf.1 c3
      exact go_sub [0, 1, 2, 3] rfl (wk_X7_setsOff_23 C hR _ _ _ _ hf)
    · have hf := hf.2 c3
      refine go_aload_n (pc := 8) C dX7_setsOff_8 0 rfl rfl ?_
      refine go_iload_n (pc := 9) C dX7_setsOff_9 1 rfl rfl ?_
      refine go_iload_n (pc := 10) C dX7_setsOff_10 3 rfl rfl ?_
      refine go_cVi (pc := 11) C cw_X7_131 (ok_X7_waits hf) (rc_X7 C) rfl rfl rfl (by decide) rfl dX7_setsOff_11 (fun r21 S22 hf => ?_)
      refine go_if_ne (pc := 14) C dX7_setsOff_14 23 (by decide) (fun c24 => ?_) (fun c24 => ?_)
      · have hf := hf.1 c24
        exact go_sub [0, 1, 2, 3] rfl (wk_X7_setsOff_23 C hR _ _ _ _ hf)
      · have hf := hf.2 c24
        obtain ⟨x25, e26⟩ : ∃ q9 : Int32, q9 = v3 + (-1) := ⟨_, rfl⟩
        refine go_iinc (pc := 17) (j := 3) (v := x25) C dX7_setsOff_17 [(3, .int x25), (0, .ref ((tq_la X).1 28 0)), (1, .int v1), (2, .int v2)] rfl (by rw [e26]; rfl) (by decide) rfl ?_
        have hf := hf x25 e26
        refine go_goto (pc := 20) C dX7_setsOff_20 4 (by decide) ?_
        exact go_sub [1, 2, 3, 0] rfl (ih _ _ _ _ hf)
set_option maxRecDepth 100000 in
set_option maxHeartbeats 4000000 in
theorem wk_X7_setsOff {X : tq_Cx} {p1 : Int32} {p2 : Int32} {S : tq_St} {K : tq_St → Prop} (C : tq_C X cX7_setsOff 5 RX7 2) (hR : tq_Rv X cX7_setsOff 5 K) (hf : wp_X7_setsOff p1 p2 S K) : Go X 5 S 0 [(0, .ref ((tq_la X).1 28 0)), (1, .int p1), (2, .int p2)] [] := by
  refine go_iload_n (pc := 0) C dX7_setsOff_0 2 rfl rfl ?_
  refine go_iconst (pc := 1) (v := 1) C dX7_setsOff_1 (by decide) ?_
  refine go_isub (pc := 2) C dX7_setsOff_2 ?_
  refine go_nI (fun x1 e2 => ?_)
  have hf := hf x1 e2
  refine go_istore_n (pc := 3) C dX7_setsOff_3 [(3, .int x1), (0, .ref ((tq_la X).1 28 0)), (1, .int p1), (2, .int p2)] rfl (by decide) rfl ?_
  exact go_sub [1, 2, 3, 0] rfl (wk_X7_setsOff_4 C hR 2000 _ _ _ _ hf)
set_option maxRecDepth 100000 in
set_option maxHeartbeats 4000000 in
theorem ok_X7_setsOff {p1 : Int32} {p2 : Int32} {S : tq_St} {K : tq_St → Prop} (hf : wp_X7_setsOff p1 p2 S K) : tq_Mv yX7_setsOff cX7_setsOff 5 none 2 (fun a z => [.ref (a.1 28 0), .int p1, .int p2]) S K :=
  tq_mkV (by decide) (fun _ _ => Nat.le_of_ble_eq_true rfl) (fun X C hR => wk_X7_setsOff C hR  hf)
set_option maxRecDepth 100000 in
set_option maxHeartbeats 4000000 in
theorem wk_X7_thinksOn_27 {X : tq_Cx} {K : Int32 → tq_St → Prop} (C : tq_C X cX7_thinksOn 5 RX7 3) (hR : tq_Ri X cX7_thinksOn 5 K) : ∀ (n : Nat) (v1 : Int32) (v3 : Int32) (v4 : Int32) (S : tq_St), wp_X7_thinksOn_27 K n v1 v3 v4 S → Go X 5 S 27 [(0, .ref ((tq_la X).1 28 0)), (1, .int v1), (3, .int v3), (4, .int v4)] [] := by
  intro n
  induction n with
  | zero => intros; contradiction
  | succ n ih =>
    intro v1 v3 v4 S hf
    refine go_iload (pc := 27) C dX7_thinksOn_27 3 rfl ?_
    refine go_bipush (pc := 29) (v := (-4)) C dX7_thinksOn_29 (by decide) ?_
    refine go_ic_eq (pc := 31) C dX7_thinksOn_31 94 (by decide) (fun c7 => ?_) (fun c7 => ?_)
    · have hf := hf.1 c7
      refine go_iload_n (pc := 94) C dX7_thinksOn_94 2 rfl rfl ?_
      exact hR _ _ _ _ dX7_thinksOn_95 hf
    · have hf := hf.2 c7
      refine go_iload_n (pc := 34) C dX7_thinksOn_34 2 rfl rfl ?_
      refine go_iconst (pc := 35) (v := 1) C dX7_thinksOn_35 (by decide) ?_
      refine go_iload (pc := 36) C dX7_thinksOn_36 3 rfl ?_
      refine go_ishl (pc := 38) C dX7_thinksOn_38 ?_
      refine go_ior (pc := 39) C dX7_thinksOn_39 ?_
      refine go_nI (fun x8 e9 => ?_)
      have hf := hf x8 e9
      refine go_istore_n (pc := 40) C dX7_thinksOn_40 [(3, .int x8), (0, .ref ((tq_la X).1 28 0)), (1, .int v1), (4, .int v4)] rfl (by decide) rfl ?_
      refine go_aload_n (pc := 41) C dX7_thinksOn_41 1 rfl rfl ?_
      refine ge_X7_X7_0 (pc := 42) C dX7_thinksOn_42 ?_
      refine go_iload_n (pc := 45) C dX7_thinksOn_45 2 rfl rfl ?_
      refine go_bipush (pc := 46) (v := 10) C dX7_thinksOn_46 (by decide) ?_
      refine go_iadd (pc := 48) C dX7_thinksOn_48 ?_
      refine go_iload (pc := 49) C dX7_thinksOn_49 3 rfl ?_
      refine go_iadd (pc := 51) C dX7_thinksOn_51 ?_
      refine go_aload_n (pc := 52) C dX7_thinksOn_52 1 rfl rfl ?_
      refine ge_X7_X7_0 (pc := 53) C dX7_thinksOn_53 ?_
      refine go_iload_n (pc := 56) C dX7_thinksOn_56 2 rfl rfl ?_
      refine go_bipush (pc := 57) (v := 16) C dX7_thinksOn_57 (by decide) ?_
      refine go_iadd (pc := 59) C dX7_thinksOn_59 ?_
      refine al_X7_0 (pc := 60) C hf.1 dX7_thinksOn_60 ?_
      have hf := hf.2
      refine go_iconst (pc := 61) (v := 1) C dX7_thinksOn_61 (by decide) ?_
      refine go_iadd (pc := 62) C dX7_thinksOn_62 ?_
      refine as_X7_0 (pc := 63) C hf.1 dX7_thinksOn_63 (fun S10 e11 => ?_)
      have hf := hf.2 S10 e11
      refine go_aload_n (pc := 64) C dX7_thinksOn_64 1 rfl rfl ?_
      refine ge_X7_X7_0 (pc := 65) C dX7_thinksOn_65 ?_
      refine go_iload_n (pc := 68) C dX7_thinksOn_68 2 rfl rfl ?_
      refine go_iconst (pc := 69) (v := 5) C dX7_thinksOn_69 (by decide) ?_
      refine go_iadd (pc := 70) C dX7_thinksOn_70 ?_
      refine go_iload (pc := 71) C dX7_thinksOn_71 3 rfl ?_
      refine go_iadd (pc := 73) C dX7_thinksOn_73 ?_
      refine go_iconst (pc := 74) (v := 0) C dX7_thinksOn_74 (by decide) ?_
      refine as_X7_0 (pc := 75) C hf.1 dX7_thinksOn_75 (fun S12 e13 => ?_)
      have hf := hf.2 S12 e13
      refine go_aload_n (pc := 76) C dX7_thinksOn_76 1 rfl rfl ?_
      refine go_iload_n (pc := 77) C dX7_thinksOn_77 2 rfl rfl ?_
      refine go_iload (pc := 78) C dX7_thinksOn_78 3 rfl ?_
      refine go_cVv (pc := 80) C cw_X7_142 (ok_X7_setsOff hf) (rc_X7 C) rfl rfl rfl (by decide) rfl dX7_thinksOn_80 (fun S15 hf => ?_)
      refine go_aload_n (pc := 83) C dX7_thinksOn_83 1 rfl rfl ?_
      refine go_iload_n (pc := 84) C dX7_thinksOn_84 2 rfl rfl ?_
      refine go_iload_n (pc := 85) C dX7_thinksOn_85 0 rfl rfl ?_
      refine go_cVi (pc := 86) C cw_X7_139 (ok_X7_nextToWeep hf) (rc_X7 C) rfl rfl rfl (by decide) rfl dX7_thinksOn_86 (fun r17 S18 hf => ?_)
      refine go_istore (pc := 89) C dX7_thinksOn_89 [(4, .int r17), (3, .int x8), (0, .ref ((tq_la X).1 28 0)), (1, .int v1)] (by decide) rfl ?_
      refine go_goto (pc := 91) C dX7_thinksOn_91 27 (by decide) ?_
      exact go_sub [2, 3, 1, 0] rfl (ih _ _ _ _ hf)
set_option maxRecDepth 100000 in
set_option maxHeartbeats 4000000 in
theorem wk_X7_thinksOn {X : tq_Cx} {p1 : Int32} {p2 : Int32} {S : tq_St} {K : Int32 → tq_St → Prop} (C : tq_C X cX7_thinksOn 5 RX7 3) (hR : tq_Ri X cX7_thinksOn 5 K) (hf : wp_X7_thinksOn p1 p2 S K) : Go X 5 S 0 [(0, .ref ((tq_la X).1 28 0)), (1, .int p1), (2, .int p2)] [] := by
  refine go_aload_n (pc := 0) C dX7_thinksOn_0 0 rfl rfl ?_
  refine go_iload_n (pc := 1) C dX7_thinksOn_1 1 rfl rfl ?_
  refine go_iload_n (pc := 2) C dX7_thinksOn_2 2 rfl rfl ?_
  refine go_aload_n (pc := 3) C dX7_thinksOn_3 0 rfl rfl ?_
  refine ge_X7_X7_0 (pc := 4) C dX7_thinksOn_4 ?_
  refine go_iload_n (pc := 7) C dX7_thinksOn_7 1 rfl rfl ?_
  refine go_bipush (pc := 8) (v := 18) C dX7_thinksOn_8 (by decide) ?_
  refine go_iadd (pc := 10) C dX7_thinksOn_10 ?_
  refine al_X7_0 (pc := 11) C hf.1 dX7_thinksOn_11 ?_
  have hf := hf.2
  refine go_iconst (pc := 12) (v := 4) C dX7_thinksOn_12 (by decide) ?_
  refine go_iadd (pc := 13) C dX7_thinksOn_13 ?_
  refine go_cVv (pc := 14) C cw_X7_135 (ok_X7_grieves hf) (rc_X7 C) rfl rfl rfl (by decide) rfl dX7_thinksOn_14 (fun S2 hf => ?_)
  refine go_iconst (pc := 17) (v := 0) C dX7_thinksOn_17 (by decide) ?_
  refine go_istore_n (pc := 18) C dX7_thinksOn_18 [(3, .int 0), (0, .ref ((tq_la X).1 28 0)), (1, .int p1), (2, .int p2)] rfl (by decide) rfl ?_
  refine go_aload_n (pc := 19) C dX7_thinksOn_19 1 rfl rfl ?_
  refine go_iload_n (pc := 20) C dX7_thinksOn_20 2 rfl rfl ?_
  refine go_iload_n (pc := 21) C dX7_thinksOn_21 0 rfl rfl ?_
  refine go_cVi (pc := 22) C cw_X7_139 (ok_X7_nextToWeep hf) (rc_X7 C) rfl rfl rfl (by decide) rfl dX7_thinksOn_22 (fun r4 S5 hf => ?_)
  refine go_istore (pc := 25) C dX7_thinksOn_25 [(4, .int r4), (3, .int 0), (0, .ref ((tq_la X).1 28 0)), (1, .int p1), (2, .int p2)] (by decide) rfl ?_
  exact go_sub [2, 3, 1, 0] rfl (wk_X7_thinksOn_27 C hR 2000 _ _ _ _ hf)
set_option maxRecDepth 100000 in
set_option maxHeartbeats 4000000 in
theorem ok_X7_thinksOn {p1 : Int32} {p2 : Int32} {S : tq_St} {K : Int32 → tq_St → Prop} (hf : wp_X7_thinksOn p1 p2 S K) : tq_Mi yX7_thinksOn cX7_thinksOn 5 (some .int) 3 (fun a z => [.ref (a.1 28 0), .int p1, .int p2]) S K :=
  tq_mkI (by decide) (fun _ _ => Nat.le_of_ble_eq_true rfl) (fun X C hR => wk_X7_thinksOn C hR  hf)
set_option maxRecDepth 100000 in
set_option maxHeartbeats 4000000 in
theorem wk_X7_bitsOf_4 {X : tq_Cx} {K : Int32 → tq_St → Prop} (C : tq_C X cX7_bitsOf 3 RX7 1) (hR : tq_Ri X cX7_bitsOf 3 K) : ∀ (n : Nat) (v1 : Int32) (v2 : Int32) (S : tq_St), wp_X7_bitsOf_4 K n v1 v2 S → Go X 3 S 4 [(1, .int v1), (2, .int v2)] [] := by
  intro n
  induction n with
  | zero => intros; contradiction
  | succ n ih =>
    intro v1 v2 S hf
    refine go_iload_n (pc := 4) C dX7_bitsOf_4 1 rfl rfl ?_
    refine go_if_le (pc := 5) C dX7_bitsOf_5 21 (by decide) (fun c1 => ?_) (fun c1 => ?_)
    · have hf := hf.1 c1
      refine go_iload_n (pc := 21) C dX7_bitsOf_21 0 rfl rfl ?_
      exact hR _ _ _ _ dX7_bitsOf_22 hf
    · have hf := hf.2 c1
      refine go_iload_n (pc := 8) C dX7_bitsOf_8 0 rfl rfl ?_
      refine go_iload_n (pc := 9) C dX7_bitsOf_9 1 rfl rfl ?_
      refine go_iconst (pc := 10) (v := 1) C dX7_bitsOf_10 (by decide) ?_
      refine go_iand (pc := 11) C dX7_bitsOf_11 ?_
      refine go_iadd (pc := 12) C dX7_bitsOf_12 ?_
      refine go_nI (fun x2 e3 => ?_)
      have hf := hf x2 e3
      refine go_istore_n (pc := 13) C dX7_bitsOf_13 [(1, .int x2), (2, .int v2)] rfl (by decide) rfl ?_
      refine go_iload_n (pc := 14) C dX7_bitsOf_14 1 rfl rfl ?_
      refine go_iconst (pc := 15) (v := 1) C dX7_bitsOf_15 (by decide) ?_
      refine go_ishr (pc := 16) C dX7_bitsOf_16 ?_
      refine go_nI (fun x4 e5 => ?_)
      have hf := hf x4 e5
      refine go_istore_n (pc := 17) C dX7_bitsOf_17 [(2, .int x4), (1, .int x2)] rfl (by decide) rfl ?_
      refine go_goto (pc := 18) C dX7_bitsOf_18 4 (by decide) ?_
      exact go_sub [1, 0] rfl (ih _ _ _ hf)
set_option maxRecDepth 100000 in
set_option maxHeartbeats 4000000 in
theorem wk_X7_bitsOf {X : tq_Cx} {p0 : Int32} {S : tq_St} {K : Int32 → tq_St → Prop} (C : tq_C X cX7_bitsOf 3 RX7 1) (hR : tq_Ri X cX7_bitsOf 3 K) (hf : wp_X7_bitsOf p0 S K) : Go X 3 S 0 [(0, .int p0)] [] := by
  refine go_iconst (pc := 0) (v := 0) C dX7_bitsOf_0 (by decide) ?_
  refine go_istore_n (pc := 1) C dX7_bitsOf_1 [(1, .int 0), (0, .int p0)] rfl (by decide) rfl ?_
  refine go_iload_n (pc := 2) C dX7_bitsOf_2 1 rfl rfl ?_
  refine go_istore_n (pc := 3) C dX7_bitsOf_3 [(2, .int p0), (1, .int 0), (0, .int p0)] rfl (by decide) rfl ?_
  exact go_sub [1, 0] rfl (wk_X7_bitsOf_4 C hR 2000 _ _ _ hf)
set_option maxRecDepth 100000 in
set_option maxHeartbeats 4000000 in
theorem ok_X7_bitsOf {p0 : Int32} {S : tq_St} {K : Int32 → tq_St → Prop} (hf : wp_X7_bitsOf p0 S K) : tq_Mi yX7_bitsOf cX7_bitsOf 3 (some .int) 1 (fun a z => [.int p0]) S K :=
  tq_mkI (by decide) (fun _ _ => Nat.le_of_ble_eq_true rfl) (fun X C hR => wk_X7_bitsOf C hR  hf)
set_option maxRecDepth 100000 in
set_option maxHeartbeats 4000000 in
theorem wk_X7_acts {X : tq_Cx} {p1 : Int32} {S : tq_St} {K : Int32 → tq_St → Prop} (C : tq_C X cX7_acts 3 RX7 4) (hR : tq_Rz X cX7_acts 3 K) (hf : wp_X7_acts p1 S K) : Go X 3 S 0 [(0, .ref ((tq_la X).1 28 0)), (1, .int p1)] [] := by
  refine go_iload_n (pc := 0) C dX7_acts_0 1 rfl rfl ?_
  refine go_iconst (pc := 1) (v := 5) C dX7_acts_1 (by decide) ?_
  refine go_ic_ne (pc := 2) C dX7_acts_2 14 (by decide) (fun c1 => ?_) (fun c1 => ?_)
  · have hf := hf.1 c1
    refine go_iload_n (pc := 14) C dX7_acts_14 1 rfl rfl ?_
    refine go_bipush (pc := 15) (v := 6) C dX7_acts_15 (by decide) ?_
    refine go_ic_ne (pc := 17) C dX7_acts_17 30 (by decide) (fun c2 => ?_) (fun c2 => ?_)
    · have hf := hf.1 c2
      refine go_aload_n (pc := 30) C dX7_acts_30 0 rfl rfl ?_
      refine go_bipush (pc := 31) (v := 112) C dX7_acts_31 (by decide) ?_
      refine go_iload_n (pc := 33) C dX7_acts_33 1 rfl rfl ?_
      refine go_cVi (pc := 34) C cw_X7_131 (ok_X7_waits hf) (rc_X7 C) rfl rfl rfl (by decide) rfl dX7_acts_34 (fun r3 S4 hf => ?_)
      refine go_if_eq (pc := 37) C dX7_acts_37 74 (by decide) (fun c6 => ?_) (fun c6 => ?_)
      · have hf := hf.1 c6
        refine go_iconst (pc := 74) (v := 0) C dX7_acts_74 (by decide) ?_
        exact hR _ _ _ _ dX7_acts_75 (Or.inl rfl) hf
      · have hf := hf.2 c6
        refine go_aload_n (pc := 40) C dX7_acts_40 0 rfl rfl ?_
        refine go_bipush (pc := 41) (v := 112) C dX7_acts_41 (by decide) ?_
        refine go_iload_n (pc := 43) C dX7_acts_43 1 rfl rfl ?_
        refine go_cVi (pc := 44) C cw_X7_182 (ok_X7_thinksOn hf) (rc_X7 C) rfl rfl rfl (by decide) rfl dX7_acts_44 (fun r7 S8 hf => ?_)
        refine go_istore_n (pc := 47) C dX7_acts_47 [(2, .int r7), (0, .ref ((tq_la X).1 28 0)), (1, .int p1)] rfl (by decide) rfl ?_
        refine go_aload_n (pc := 48) C dX7_acts_48 1 rfl rfl ?_
        refine go_dup (pc := 49) C dX7_acts_49 rfl ?_
        refine ge_X7_X7_18 (pc := 50) C dX7_acts_50 ?_
        refine go_iload_n (pc := 53) C dX7_acts_53 0 rfl rfl ?_
        refine go_ior (pc := 54) C dX7_acts_54 ?_
        refine pu_X7_X7_18 (pc := 55) C dX7_acts_55 (fun S10 e11 => ?_)
        have hf := hf S10 e11
        refine go_aload_n (pc := 58) C dX7_acts_58 1 rfl rfl ?_
        refine go_dup (pc := 59) C dX7_acts_59 rfl ?_
        refine ge_X7_X7_19 (pc := 60) C dX7_acts_60 ?_
        refine go_iload_n (pc := 63) C dX7_acts_63 0 rfl rfl ?_
        refine go_cSi (pc := 64) C cs_X7_193 (ok_X7_bitsOf hf) rfl rfl rfl (by decide) rfl dX7_acts_64 (fun r12 S13 hf => ?_)
        refine go_iadd (pc := 67) C dX7_acts_67 ?_
        refine pu_X7_X7_19 (pc := 68) C dX7_acts_68 (fun S15 e16 => ?_)
        have hf := hf S15 e16
        refine go_goto (pc := 71) C dX7_acts_71 76 (by decide) ?_
        refine go_iconst (pc := 76) (v := 1) C dX7_acts_76 (by decide) ?_
        exact hR _ _ _ _ dX7_acts_77 (Or.inr rfl) hf
    · have hf := hf.2 c2
      refine go_aload_n (pc := 20) C dX7_acts_20 0 rfl rfl ?_
      refine go_bipush (pc := 21) (v := 112) C dX7_acts_21 (by decide) ?_
      refine go_cVi (pc := 23) C cw_X7_190 (ok_X7_tramOn hf) (rc_X7 C) rfl rfl rfl (by decide) rfl dX7_acts_23 (fun r17 S18 hf => ?_)
      refine go_pop (pc := 26) C dX7_acts_26 rfl ?_
      refine go_goto (pc := 27) C dX7_acts_27 76 (by decide) ?_
      refine go_iconst (pc := 76) (v := 1) C dX7_acts_76 (by decide) ?_
      exact hR _ _ _ _ dX7_acts_77 (Or.inr rfl) hf
  · have hf := hf.2 c1
    refine go_aload_n (pc := 5) C dX7_acts_5 0 rfl rfl ?_
    refine go_bipush (pc := 6) (v := 112) C dX7_acts_6 (by decide) ?_
    refine go_cVv (pc := 8) C cw_X7_187 (ok_X7_minuteOn hf) (rc_X7 C) rfl rfl rfl (by decide) rfl dX7_acts_8 (fun S21 hf => ?_)
    refine go_goto (pc := 11) C dX7_acts_11 76 (by decide) ?_
    refine go_iconst (pc := 76) (v := 1) C dX7_acts_76 (by decide) ?_
    exact hR _ _ _ _ dX7_acts_77 (Or.inr rfl) hf
set_option maxRecDepth 100000 in
set_option maxHeartbeats 4000000 in
theorem ok_X7_acts {p1 : Int32} {S : tq_St} {K : Int32 → tq_St → Prop} (hf : wp_X7_acts p1 S K) : tq_Mi yX7_acts cX7_acts 3 (some .boolean) 4 (fun a z => [.ref (a.1 28 0), .int p1]) S K :=
  tq_mkZ (by decide) (fun _ _ => Nat.le_of_ble_eq_true rfl) (fun X C hR => wk_X7_acts C hR  hf)
set_option maxRecDepth 100000 in
set_option maxHeartbeats 4000000 in
theorem wk_X7_isOne {X : tq_Cx} {p1 : Int32} {S : tq_St} {K : Int32 → tq_St → Prop} (C : tq_C X cX7_isOne 2 RX7 2) (hR : tq_Rz X cX7_isOne 2 K) (hf : wp_X7_isOne p1 S K) : Go X 2 S 0 [(0, .ref ((tq_la X).1 28 0)), (1, .int p1)] [] := by
  refine go_iload_n (pc := 0) C dX7_isOne_0 1 rfl rfl ?_
  refine go_i2l (pc := 1) C dX7_isOne_1 ?_
  refine go_lconst (pc := 2) (v := 0) C dX7_isOne_2 (by decide) ?_
  refine go_aload_n (pc := 3) C dX7_isOne_3 0 rfl rfl ?_
  refine ge_X7_X7_2 (pc := 4) C dX7_isOne_4 ?_
  refine go_iconst (pc := 7) (v := 1) C dX7_isOne_7 (by decide) ?_
  refine go_isub (pc := 8) C dX7_isOne_8 ?_
  refine go_i2l (pc := 9) C dX7_isOne_9 ?_
  refine go_cSi (pc := 10) C cs_X7_49 (ok_X7_in hf) rfl rfl rfl (by decide) rfl dX7_isOne_10 (fun r1 S2 hf => ?_)
  exact hR _ _ _ _ dX7_isOne_13 hf.1 hf.2
set_option maxRecDepth 100000 in
set_option maxHeartbeats 4000000 in
theorem ok_X7_isOne {p1 : Int32} {S : tq_St} {K : Int32 → tq_St → Prop} (hf : wp_X7_isOne p1 S K) : tq_Mi yX7_isOne cX7_isOne 2 (some .boolean) 2 (fun a z => [.ref (a.1 28 0), .int p1]) S K :=
  tq_mkZ (by decide) (fun _ _ => Nat.le_of_ble_eq_true rfl) (fun X C hR => wk_X7_isOne C hR  hf)
set_option maxRecDepth 100000 in
set_option maxHeartbeats 4000000 in
theorem wk_X7_copies_2 {X : tq_Cx} {K : tq_St → Prop} (C : tq_C X cX7_copies 4 RX7 1) (hR : tq_Rv X cX7_copies 4 K) : ∀ (n : Nat) (v1 : Int32) (v2 : Int32) (v3 : Int32) (S : tq_St), wp_X7_copies_2 K n v1 v2 v3 S → Go X 4 S 2 [(0, .ref ((tq_la X).1 28 0)), (1, .int v1), (2, .int v2), (3, .int v3)] [] := by
  intro n
  induction n with
  | zero => intros; contradiction
  | succ n ih =>
    intro v1 v2 v3 S hf
    refine go_iload_n (pc := 2) C dX7_copies_2 3 rfl rfl ?_
    refine go_bipush (pc := 3) (v := 28) C dX7_copies_3 (by decide) ?_
    refine go_ic_ge (pc := 5) C dX7_copies_5 30 (by decide) (fun c1 => ?_) (fun c1 => ?_)
    · have hf := hf.1 c1
      exact hR _ _ _ dX7_copies_30 hf
    · have hf := hf.2 c1
      refine go_aload_n (pc := 8) C dX7_copies_8 0 rfl rfl ?_
      refine ge_X7_X7_0 (pc := 9) C dX7_copies_9 ?_
      refine go_iload_n (pc := 12) C dX7_copies_12 2 rfl rfl ?_
      refine go_iload_n (pc := 13) C dX7_copies_13 3 rfl rfl ?_
      refine go_iadd (pc := 14) C dX7_copies_14 ?_
      refine go_aload_n (pc := 15) C dX7_copies_15 0 rfl rfl ?_
      refine ge_X7_X7_0 (pc := 16) C dX7_copies_16 ?_
      refine go_iload_n (pc := 19) C dX7_copies_19 1 rfl rfl ?_
      refine go_iload_n (pc := 20) C dX7_copies_20 3 rfl rfl ?_
      refine go_iadd (pc := 21) C dX7_copies_21 ?_
      refine al_X7_0 (pc := 22) C hf.1 dX7_copies_22 ?_
      have hf := hf.2
      refine as_X7_0 (pc := 23) C hf.1 dX7_copies_23 (fun S2 e3 => ?_)
      have hf := hf.2 S2 e3
      obtain ⟨x4, e5⟩ : ∃ q9 : Int32, q9 = v3 + 1 := ⟨_, rfl⟩
      refine go_iinc (pc := 24) (j := 3) (v := x4) C dX7_copies_24 [(3, .int x4), (0, .ref ((tq_la X).1 28 0)), (1, .int v1), (2, .int v2)] rfl (by rw [e5]; rfl) (by decide) rfl ?_
      have hf := hf x4 e5
      refine go_goto (pc := 27) C dX7_copies_27 2 (by decide) ?_
      exact go_sub [1, 2, 3, 0] rfl (ih _ _ _ _ hf)
set_option maxRecDepth 100000 in
set_option maxHeartbeats 4000000 in
theorem wk_X7_copies {X : tq_Cx} {p1 : Int32} {p2 : Int32} {S : tq_St} {K : tq_St → Prop} (C : tq_C X cX7_copies 4 RX7 1) (hR : tq_Rv X cX7_copies 4 K) (hf : wp_X7_copies p1 p2 S K) : Go X 4 S 0 [(0, .ref ((tq_la X).1 28 0)), (1, .int p1), (2, .int p2)] [] := by
  refine go_iconst (pc := 0) (v := 0) C dX7_copies_0 (by decide) ?_
  refine go_istore_n (pc := 1) C dX7_copies_1 [(3, .int 0), (0, .ref ((tq_la X).1 28 0)), (1, .int p1), (2, .int p2)] rfl (by decide) rfl ?_
  exact go_sub [1, 2, 3, 0] rfl (wk_X7_copies_2 C hR 2000 _ _ _ _ hf)
set_option maxRecDepth 100000 in
set_option maxHeartbeats 4000000 in
theorem ok_X7_copies {p1 : Int32} {p2 : Int32} {S : tq_St} {K : tq_St → Prop} (hf : wp_X7_copies p1 p2 S K) : tq_Mv yX7_copies cX7_copies 4 none 1 (fun a z => [.ref (a.1 28 0), .int p1, .int p2]) S K :=
  tq_mkV (by decide) (fun _ _ => Nat.le_of_ble_eq_true rfl) (fun X C hR => wk_X7_copies C hR  hf)
set_option maxRecDepth 100000 in
set_option maxHeartbeats 4000000 in
theorem wk_X7_begins {X : tq_Cx} {p1 : Int32} {S : tq_St} {K : tq_St → Prop} (C : tq_C X cX7_begins 2 RX7 2) (hR : tq_Rv X cX7_begins 2 K) (hf : wp_X7_begins p1 S K) : Go X 2 S 0 [(0, .ref ((tq_la X).1 28 0)), (1, .int p1)] [] := by
  refine go_aload_n (pc := 0) C dX7_begins_0 0 rfl rfl ?_
  refine go_iload_n (pc := 1) C dX7_begins_1 1 rfl rfl ?_
  refine go_bipush (pc := 2) (v := 112) C dX7_begins_2 (by decide) ?_
  refine go_cVv (pc := 4) C cw_X7_196 (ok_X7_copies hf) (rc_X7 C) rfl rfl rfl (by decide) rfl dX7_begins_4 (fun S2 hf => ?_)
  refine go_aload_n (pc := 7) C dX7_begins_7 0 rfl rfl ?_
  refine go_iconst (pc := 8) (v := 0) C dX7_begins_8 (by decide) ?_
  refine pu_X7_X7_18 (pc := 9) C dX7_begins_9 (fun S4 e5 => ?_)
  have hf := hf S4 e5
  refine go_aload_n (pc := 12) C dX7_begins_12 0 rfl rfl ?_
  refine go_iconst (pc := 13) (v := 0) C dX7_begins_13 (by decide) ?_
  refine pu_X7_X7_19 (pc := 14) C dX7_begins_14 (fun S6 e7 => ?_)
  have hf := hf S6 e7
  refine go_aload_n (pc := 17) C dX7_begins_17 0 rfl rfl ?_
  refine go_bipush (pc := 18) (v := (-4)) C dX7_begins_18 (by decide) ?_
  refine pu_X7_X7_20 (pc := 20) C dX7_begins_20 (fun S8 e9 => ?_)
  have hf := hf S8 e9
  exact hR _ _ _ dX7_begins_23 hf
set_option maxRecDepth 100000 in
set_option maxHeartbeats 4000000 in
theorem ok_X7_begins {p1 : Int32} {S : tq_St} {K : tq_St → Prop} (hf : wp_X7_begins p1 S K) : tq_Mv yX7_begins cX7_begins 2 none 2 (fun a z => [.ref (a.1 28 0), .int p1]) S K :=
  tq_mkV (by decide) (fun _ _ => Nat.le_of_ble_eq_true rfl) (fun X C hR => wk_X7_begins C hR  hf)
set_option maxRecDepth 100000 in
set_option maxHeartbeats 4000000 in
theorem wk_X7_planGoes_7 {X : tq_Cx} {K : tq_St → Prop} (C : tq_C X cX7_planGoes 4 RX7 5) (hR : tq_Rv X cX7_planGoes 4 K) : ∀ (n : Nat) (v1 : Int32) (v2 : Int32) (v3 : Int32) (S : tq_St), wp_X7_planGoes_7 K n v1 v2 v3 S → Go X 4 S 7 [(0, .ref ((tq_la X).1 28 0)), (1, .int v1), (2, .int v2), (3, .int v3)] [] := by
  intro n
  induction n with
  | zero => intros; contradiction
  | succ n ih =>
    intro v1 v2 v3 S hf
    refine go_iload_n (pc := 7) C dX7_planGoes_7 3 rfl rfl ?_
    refine go_aload_n (pc := 8) C dX7_planGoes_8 0 rfl rfl ?_
    refine ge_X7_X7_0 (pc := 9) C dX7_planGoes_9 ?_
    refine go_iload_n (pc := 12) C dX7_planGoes_12 1 rfl rfl ?_
    refine go_bipush (pc := 13) (v := 27) C dX7_planGoes_13 (by decide) ?_
    refine go_iadd (pc := 15) C dX7_planGoes_15 ?_
    refine al_X7_0 (pc := 16) C hf.1 dX7_planGoes_16 ?_
    have hf := hf.2
    refine go_ic_ge (pc := 17) C dX7_planGoes_17 73 (by decide) (fun c4 => ?_) (fun c4 => ?_)
    · have hf := hf.1 c4
      exact hR _ _ _ dX7_planGoes_73 hf
    · have hf := hf.2 c4
      refine go_iload_n (pc := 20) C dX7_planGoes_20 2 rfl rfl ?_
      refine go_iload_n (pc := 21) C dX7_planGoes_21 3 rfl rfl ?_
      refine go_ishr (pc := 22) C dX7_planGoes_22 ?_
      refine go_iconst (pc := 23) (v := 1) C dX7_planGoes_23 (by decide) ?_
      refine go_iand (pc := 24) C dX7_planGoes_24 ?_
      refine go_if_ne (pc := 25) C dX7_planGoes_25 67 (by decide) (fun c5 => ?_) (fun c5 => ?_)
      · have hf := hf.1 c5
        obtain ⟨x6, e7⟩ : ∃ q9 : Int32, q9 = v3 + 1 := ⟨_, rfl⟩
        refine go_iinc (pc := 67) (j := 3) (v := x6) C dX7_planGoes_67 [(3, .int x6), (0, .ref ((tq_la X).1 28 0)), (1, .int v1), (2, .int v2)] rfl (by rw [e7]; rfl) (by decide) rfl ?_
        have hf := hf x6 e7
        refine go_goto (pc := 70) C dX7_planGoes_70 7 (by decide) ?_
        exact go_sub [1, 2, 3, 0] rfl (ih _ _ _ _ hf)
      · have hf := hf.2 c5
        refine go_aload_n (pc := 28) C dX7_planGoes_28 0 rfl rfl ?_
        refine go_aload_n (pc := 29) C dX7_planGoes_29 0 rfl rfl ?_
        refine ge_X7_X7_0 (pc := 30) C dX7_planGoes_30 ?_
        refine go_iload_n (pc := 33) C dX7_planGoes_33 1 rfl rfl ?_
        refine go_bipush (pc := 34) (v := 19) C dX7_planGoes_34 (by decide) ?_
        refine go_iadd (pc := 36) C dX7_planGoes_36 ?_
        refine go_iload_n (pc := 37) C dX7_planGoes_37 3 rfl rfl ?_
        refine go_iadd (pc := 38) C dX7_planGoes_38 ?_
        refine al_X7_0 (pc := 39) C hf.1 dX7_planGoes_39 ?_
        have hf := hf.2
        refine go_cVi (pc := 40) C cw_X7_211 (ok_X7_acts hf) (rc_X7 C) rfl rfl rfl (by decide) rfl dX7_planGoes_40 (fun r8 S9 hf => ?_)
        refine go_if_ne (pc := 43) C dX7_planGoes_43 67 (by decide) (fun c11 => ?_) (fun c11 => ?_)
        · have hf := hf.1 c11
          obtain ⟨x12, e13⟩ : ∃ q9 : Int32, q9 = v3 + 1 := ⟨_, rfl⟩
          refine go_iinc (pc := 67) (j := 3) (v := x12) C dX7_planGoes_67 [(3, .int x12), (0, .ref ((tq_la X).1 28 0)), (1, .int v1), (2, .int v2)] rfl (by rw [e13]; rfl) (by decide) rfl ?_
          have hf := hf x12 e13
          refine go_goto (pc := 70) C dX7_planGoes_70 7 (by decide) ?_
          exact go_sub [1, 2, 3, 0] rfl (ih _ _ _ _ hf)
        · have hf := hf.2 c11
          refine go_aload_n (pc := 46) C dX7_planGoes_46 0 rfl rfl ?_
          refine go_aload_n (pc := 47) C dX7_planGoes_47 0 rfl rfl ?_
          refine ge_X7_X7_20 (pc := 48) C dX7_planGoes_48 ?_
          refine go_bipush (pc := 51) (v := (-4)) C dX7_planGoes_51 (by decide) ?_
          refine go_ic_ne (pc := 53) C dX7_planGoes_53 60 (by decide) (fun c14 => ?_) (fun c14 => ?_)
          · have hf := hf.1 c14
            refine go_aload_n (pc := 60) C dX7_planGoes_60 0 rfl rfl ?_
            refine ge_X7_X7_20 (pc := 61) C dX7_planGoes_61 ?_
            refine pu_X7_X7_20 (pc := 64) C dX7_planGoes_64 (fun S15 e16 => ?_)
            have hf := hf S15 e16
            obtain ⟨x17, e18⟩ : ∃ q9 : Int32, q9 = v3 + 1 := ⟨_, rfl⟩
            refine go_iinc (pc := 67) (j := 3) (v := x17) C dX7_planGoes_67 [(3, .int x17), (0, .ref ((tq_la X).1 28 0)), (1, .int v1), (2, .int v2)] rfl (by rw [e18]; rfl) (by decide) rfl ?_
            have hf := hf x17 e18
            refine go_goto (pc := 70) C dX7_planGoes_70 7 (by decide) ?_
            exact go_sub [1, 2, 3, 0] rfl (ih _ _ _ _ hf)
          · have hf := hf.2 c14
            refine go_iload_n (pc := 56) C dX7_planGoes_56 3 rfl rfl ?_
            refine go_goto (pc := 57) C dX7_planGoes_57 64 (by decide) ?_
            refine pu_X7_X7_20 (pc := 64) C dX7_planGoes_64 (fun S19 e20 => ?_)
            have hf := hf S19 e20
            obtain ⟨x21, e22⟩ : ∃ q9 : Int32, q9 = v3 + 1 := ⟨_, rfl⟩
            refine go_iinc (pc := 67) (j := 3) (v := x21) C dX7_planGoes_67 [(3, .int x21), (0, .ref ((tq_la X).1 28 0)), (1, .int v1), (2, .int v2)] rfl (by rw [e22]; rfl) (by decide) rfl ?_
            have hf := hf x21 e22
            refine go_goto (pc := 70) C dX7_planGoes_70 7 (by decide) ?_
            exact go_sub [1, 2, 3, 0] rfl (ih _ _ _ _ hf)
set_option maxRecDepth 100000 in
set_option maxHeartbeats 4000000 in
theorem wk_X7_planGoes {X : tq_Cx} {p1 : Int32} {p2 : Int32} {S : tq_St} {K : tq_St → Prop} (C : tq_C X cX7_planGoes 4 RX7 5) (hR : tq_Rv X cX7_planGoes 4 K) (hf : wp_X7_planGoes p1 p2 S K) : Go X 4 S 0 [(0, .ref ((tq_la X).1 28 0)), (1, .int p1), (2, .int p2)] [] := by
  refine go_aload_n (pc := 0) C dX7_planGoes_0 0 rfl rfl ?_
  refine go_iload_n (pc := 1) C dX7_planGoes_1 1 rfl rfl ?_
  refine go_cVv (pc := 2) C cw_X7_208 (ok_X7_begins hf) (rc_X7 C) rfl rfl rfl (by decide) rfl dX7_planGoes_2 (fun S2 hf => ?_)
  refine go_iconst (pc := 5) (v := 0) C dX7_planGoes_5 (by decide) ?_
  refine go_istore_n (pc := 6) C dX7_planGoes_6 [(3, .int 0), (0, .ref ((tq_la X).1 28 0)), (1, .int p1), (2, .int p2)] rfl (by decide) rfl ?_
  exact go_sub [1, 2, 3, 0] rfl (wk_X7_planGoes_7 C hR 2000 _ _ _ _ hf)
set_option maxRecDepth 100000 in
set_option maxHeartbeats 4000000 in
theorem ok_X7_planGoes {p1 : Int32} {p2 : Int32} {S : tq_St} {K : tq_St → Prop} (hf : wp_X7_planGoes p1 p2 S K) : tq_Mv yX7_planGoes cX7_planGoes 4 none 5 (fun a z => [.ref (a.1 28 0), .int p1, .int p2]) S K :=
  tq_mkV (by decide) (fun _ _ => Nat.le_of_ble_eq_true rfl) (fun X C hR => wk_X7_planGoes C hR  hf)
set_option maxRecDepth 100000 in
set_option maxHeartbeats 4000000 in
theorem wk_X7_orNone {X : tq_Cx} {p0 : Int32} {S : tq_St} {K : Int32 → tq_St → Prop} (C : tq_C X cX7_orNone 1 RX7 1) (hR : tq_Ri X cX7_orNone 1 K) (hf : wp_X7_orNone p0 S K) : Go X 1 S 0 [(0, .int p0)] [] := by
  refine go_iload_n (pc := 0) C dX7_orNone_0 0 rfl rfl ?_
  refine go_if_ne (pc := 1) C dX7_orNone_1 9 (by decide) (fun c1 => ?_) (fun c1 => ?_)
  · have hf := hf.1 c1
    refine go_iload_n (pc := 9) C dX7_orNone_9 0 rfl rfl ?_
    refine go_iconst (pc := 10) (v := 1) C dX7_orNone_10 (by decide) ?_
    refine go_isub (pc := 11) C dX7_orNone_11 ?_
    exact hR _ _ _ _ dX7_orNone_12 hf
  · have hf := hf.2 c1
    refine go_bipush (pc := 4) (v := (-4)) C dX7_orNone_4 (by decide) ?_
    refine go_goto (pc := 6) C dX7_orNone_6 12 (by decide) ?_
    exact hR _ _ _ _ dX7_orNone_12 hf
set_option maxRecDepth 100000 in
set_option maxHeartbeats 4000000 in
theorem ok_X7_orNone {p0 : Int32} {S : tq_St} {K : Int32 → tq_St → Prop} (hf : wp_X7_orNone p0 S K) : tq_Mi yX7_orNone cX7_orNone 1 (some .int) 1 (fun a z => [.int p0]) S K :=
  tq_mkI (by decide) (fun _ _ => Nat.le_of_ble_eq_true rfl) (fun X C hR => wk_X7_orNone C hR  hf)
set_option maxRecDepth 100000 in
set_option maxHeartbeats 4000000 in
theorem wk_X7_ahead {X : tq_Cx} {p1 : Int32} {p2 : Int32} {S : tq_St} {K : Int32 → tq_St → Prop} (C : tq_C X cX7_ahead 3 RX7 6) (hR : tq_Ri X cX7_ahead 3 K) (hf : wp_X7_ahead p1 p2 S K) : Go X 3 S 0 [(0, .ref ((tq_la X).1 28 0)), (1, .int p1), (2, .int p2)] [] := by
  refine go_aload_n (pc := 0) C dX7_ahead_0 0 rfl rfl ?_
  refine go_iload_n (pc := 1) C dX7_ahead_1 1 rfl rfl ?_
  refine go_cVi (pc := 2) C cw_X7_158 (ok_X7_isOne hf) (rc_X7 C) rfl rfl rfl (by decide) rfl dX7_ahead_2 (fun r1 S2 hf => ?_)
  refine go_if_eq (pc := 5) C dX7_ahead_5 18 (by decide) (fun c4 => ?_) (fun c4 => ?_)
  · have hf := hf.1 c4
    refine go_iconst (pc := 18) (v := (-1)) C dX7_ahead_18 (by decide) ?_
    exact hR _ _ _ _ dX7_ahead_19 hf
  · have hf := hf.2 c4
    refine go_iload_n (pc := 8) C dX7_ahead_8 2 rfl rfl ?_
    refine go_i2l (pc := 9) C dX7_ahead_9 ?_
    refine go_lconst (pc := 10) (v := 0) C dX7_ahead_10 (by decide) ?_
    refine go_lconst (pc := 11) (v := 1) C dX7_ahead_11 (by decide) ?_
    refine go_cSi (pc := 12) C cs_X7_49 (ok_X7_in hf) rfl rfl rfl (by decide) rfl dX7_ahead_12 (fun r5 S6 hf => ?_)
    refine go_if_ne (pc := 15) C dX7_ahead_15 20 (by decide) (fun c8 => ?_) (fun c8 => ?_)
    · have hf := hf.1 c8
      refine go_aload_n (pc := 20) C dX7_ahead_20 0 rfl rfl ?_
      refine go_iconst (pc := 21) (v := 0) C dX7_ahead_21 (by decide) ?_
      refine go_iconst (pc := 22) (v := 0) C dX7_ahead_22 (by decide) ?_
      refine go_cVv (pc := 23) C cw_X7_214 (ok_X7_planGoes hf) (rc_X7 C) rfl rfl rfl (by decide) rfl dX7_ahead_23 (fun S10 hf => ?_)
      refine go_iload_n (pc := 26) C dX7_ahead_26 2 rfl rfl ?_
      refine go_if_ne (pc := 27) C dX7_ahead_27 42 (by decide) (fun c12 => ?_) (fun c12 => ?_)
      · have hf := hf.1 c12
        refine go_aload_n (pc := 42) C dX7_ahead_42 0 rfl rfl ?_
        refine ge_X7_X7_0 (pc := 43) C dX7_ahead_43 ?_
        refine go_bipush (pc := 46) (v := 122) C dX7_ahead_46 (by decide) ?_
        refine go_iload_n (pc := 48) C dX7_ahead_48 1 rfl rfl ?_
        refine go_iadd (pc := 49) C dX7_ahead_49 ?_
        refine al_X7_0 (pc := 50) C hf.1 dX7_ahead_50 ?_
        have hf := hf.2
        refine go_cSi (pc := 51) C cs_X7_162 (ok_X7_orNone hf) rfl rfl rfl (by decide) rfl dX7_ahead_51 (fun r13 S14 hf => ?_)
        exact hR _ _ _ _ dX7_ahead_54 hf
      · have hf := hf.2 c12
        refine go_aload_n (pc := 30) C dX7_ahead_30 0 rfl rfl ?_
        refine ge_X7_X7_0 (pc := 31) C dX7_ahead_31 ?_
        refine go_bipush (pc := 34) (v := 117) C dX7_ahead_34 (by decide) ?_
        refine go_iload_n (pc := 36) C dX7_ahead_36 1 rfl rfl ?_
        refine go_iadd (pc := 37) C dX7_ahead_37 ?_
        refine al_X7_0 (pc := 38) C hf.1 dX7_ahead_38 ?_
        have hf := hf.2
        refine go_goto (pc := 39) C dX7_ahead_39 54 (by decide) ?_
        exact hR _ _ _ _ dX7_ahead_54 hf
    · have hf := hf.2 c8
      refine go_iconst (pc := 18) (v := (-1)) C dX7_ahead_18 (by decide) ?_
      exact hR _ _ _ _ dX7_ahead_19 hf
set_option maxRecDepth 100000 in
set_option maxHeartbeats 4000000 in
theorem ok_X7_ahead {p1 : Int32} {p2 : Int32} {S : tq_St} {K : Int32 → tq_St → Prop} (hf : wp_X7_ahead p1 p2 S K) : tq_Mi yX7_ahead cX7_ahead 3 (some .int) 6 (fun a z => [.ref (a.1 28 0), .int p1, .int p2]) S K :=
  tq_mkI (by decide) (fun _ _ => Nat.le_of_ble_eq_true rfl) (fun X C hR => wk_X7_ahead C hR  hf)
set_option maxRecDepth 100000 in
set_option maxHeartbeats 4000000 in
theorem wk_X7_puts {X : tq_Cx} {p1 : Int32} {p2 : Int32} {p3 : Int32} {p4 : Int32} {S : tq_St} {K : Int32 → tq_St → Prop} (C : tq_C X cX7_puts 6 RX7 1) (hR : tq_Ri X cX7_puts 6 K) (hf : wp_X7_puts p1 p2 p3 p4 S K) : Go X 6 S 0 [(0, .ref ((tq_la X).1 28 0)), (1, .int p1), (2, .int p2), (3, .int p3), (4, .int p4)] [] := by
  refine go_iload_n (pc := 0) C dX7_puts_0 1 rfl rfl ?_
  refine go_if_ne (pc := 1) C dX7_puts_1 6 (by decide) (fun c1 => ?_) (fun c1 => ?_)
  · have hf := hf.1 c1
    refine go_aload_n (pc := 6) C dX7_puts_6 0 rfl rfl ?_
    refine ge_X7_X7_0 (pc := 7) C dX7_puts_7 ?_
    refine go_iload_n (pc := 10) C dX7_puts_10 2 rfl rfl ?_
    refine al_X7_0 (pc := 11) C hf.1 dX7_puts_11 ?_
    have hf := hf.2
    refine go_iload (pc := 12) C dX7_puts_12 4 rfl ?_
    refine go_iadd (pc := 14) C dX7_puts_14 ?_
    refine go_nI (fun x2 e3 => ?_)
    have hf := hf x2 e3
    refine go_istore (pc := 15) C dX7_puts_15 [(5, .int x2), (0, .ref ((tq_la X).1 28 0)), (1, .int p1), (2, .int p2), (3, .int p3), (4, .int p4)] (by decide) rfl ?_
    refine go_aload_n (pc := 17) C dX7_puts_17 1 rfl rfl ?_
    refine ge_X7_X7_0 (pc := 18) C dX7_puts_18 ?_
    refine go_iload_n (pc := 21) C dX7_puts_21 3 rfl rfl ?_
    refine go_iload_n (pc := 22) C dX7_puts_22 4 rfl rfl ?_
    refine go_iload (pc := 23) C dX7_puts_23 5 rfl ?_
    refine go_isub (pc := 25) C dX7_puts_25 ?_
    refine as_X7_0 (pc := 26) C hf.1 dX7_puts_26 (fun S4 e5 => ?_)
    have hf := hf.2 S4 e5
    refine go_iload (pc := 27) C dX7_puts_27 0 rfl ?_
    exact hR _ _ _ _ dX7_puts_29 hf
  · have hf := hf.2 c1
    refine go_iconst (pc := 4) (v := (-1)) C dX7_puts_4 (by decide) ?_
    exact hR _ _ _ _ dX7_puts_5 hf
set_option maxRecDepth 100000 in
set_option maxHeartbeats 4000000 in
theorem ok_X7_puts {p1 : Int32} {p2 : Int32} {p3 : Int32} {p4 : Int32} {S : tq_St} {K : Int32 → tq_St → Prop} (hf : wp_X7_puts p1 p2 p3 p4 S K) : tq_Mi yX7_puts cX7_puts 6 (some .int) 1 (fun a z => [.ref (a.1 28 0), .int p1, .int p2, .int p3, .int p4]) S K :=
  tq_mkI (by decide) (fun _ _ => Nat.le_of_ble_eq_true rfl) (fun X C hR => wk_X7_puts C hR  hf)
set_option maxRecDepth 100000 in
set_option maxHeartbeats 4000000 in
theorem wk_X7_alter_47 {X : tq_Cx} {K : Int32 → tq_St → Prop} (C : tq_C X cX7_alter 4 RX7 3) (hR : tq_Ri X cX7_alter 4 K) : ∀ (v1 : Int32) (v2 : Int32) (v3 : Int32) (w1 : Int32) (S : tq_St), wp_X7_alter_47 K v1 v2 v3 w1 S → Go X 4 S 47 [(1, .int v1), (2, .int v2), (3, .int v3)] [.int w1, .ref ((tq_la X).1 28 0)] := by
  intro v1 v2 v3 w1 S hf
  refine go_iconst (pc := 47) (v := 5) C dX7_alter_47 (by decide) ?_
  refine go_iload_n (pc := 48) C dX7_alter_48 1 rfl rfl ?_
  refine go_imul (pc := 49) C dX7_alter_49 ?_
  refine go_iload_n (pc := 50) C dX7_alter_50 0 rfl rfl ?_
  refine go_iadd (pc := 51) C dX7_alter_51 ?_
  refine go_iload_n (pc := 52) C dX7_alter_52 2 rfl rfl ?_
  refine go_iconst (pc := 53) (v := 0) C dX7_alter_53 (by decide) ?_
  refine go_cVi (pc := 54) C cw_X7_171 (ok_X7_puts hf) (rc_X7 C) rfl rfl rfl (by decide) rfl dX7_alter_54 (fun r5 S6 hf => ?_)
  exact hR _ _ _ _ dX7_alter_57 hf
set_option maxRecDepth 100000 in
set_option maxHeartbeats 4000000 in
theorem wk_X7_alter_46 {X : tq_Cx} {K : Int32 → tq_St → Prop} (C : tq_C X cX7_alter 4 RX7 3) (hR : tq_Ri X cX7_alter 4 K) : ∀ (v1 : Int32) (v2 : Int32) (v3 : Int32) (S : tq_St), wp_X7_alter_46 K v1 v2 v3 S → Go X 4 S 46 [(1, .int v1), (2, .int v2), (3, .int v3)] [.ref ((tq_la X).1 28 0)] := by
  intro v1 v2 v3 S hf
  refine go_iconst (pc := 46) (v := 0) C dX7_alter_46 (by decide) ?_
  exact go_sub [0, 1, 2] rfl (wk_X7_alter_47 C hR _ _ _ _ _ hf)
set_option maxRecDepth 100000 in
set_option maxHeartbeats 4000000 in
theorem wk_X7_alter_42 {X : tq_Cx} {K : Int32 → tq_St → Prop} (C : tq_C X cX7_alter 4 RX7 3) (hR : tq_Ri X cX7_alter 4 K) : ∀ (v1 : Int32) (v2 : Int32) (v3 : Int32) (S : tq_St), wp_X7_alter_42 K v1 v2 v3 S → Go X 4 S 42 [(1, .int v1), (2, .int v2), (3, .int v3)] [.ref ((tq_la X).1 28 0)] := by
  intro v1 v2 v3 S hf
  refine go_iconst (pc := 42) (v := 1) C dX7_alter_42 (by decide) ?_
  refine go_goto (pc := 43) C dX7_alter_43 47 (by decide) ?_
  exact go_sub [0, 1, 2] rfl (wk_X7_alter_47 C hR _ _ _ _ _ hf)
set_option maxRecDepth 100000 in
set_option maxHeartbeats 4000000 in
theorem wk_X7_alter_25 {X : tq_Cx} {K : Int32 → tq_St → Prop} (C : tq_C X cX7_alter 4 RX7 3) (hR : tq_Ri X cX7_alter 4 K) : ∀ (v1 : Int32) (v2 : Int32) (v3 : Int32) (S : tq_St), wp_X7_alter_25 K v1 v2 v3 S → Go X 4 S 25 [(1, .int v1), (2, .int v2), (3, .int v3)] [.ref ((tq_la X).1 28 0)] := by
  intro v1 v2 v3 S hf
  refine go_iload_n (pc := 25) C dX7_alter_25 1 rfl rfl ?_
  refine go_iconst (pc := 26) (v := 1) C dX7_alter_26 (by decide) ?_
  refine go_ic_ne (pc := 27) C dX7_alter_27 46 (by decide) (fun c9 => ?_) (fun c9 => ?_)
  · have hf := hf.1 c9
    exact go_sub [0, 1, 2] rfl (wk_X7_alter_46 C hR _ _ _ _ hf)
  · have hf := hf.2 c9
    refine go_iload_n (pc := 30) C dX7_alter_30 2 rfl rfl ?_
    refine go_i2l (pc := 31) C dX7_alter_31 ?_
    refine go_lconst (pc := 32) (v := 0) C dX7_alter_32 (by decide) ?_
    refine go_ldc2 (pc := 33) C kl_X7_169 dX7_alter_33 ?_
    refine go_cSi (pc := 36) C cs_X7_49 (ok_X7_in hf) rfl rfl rfl (by decide) rfl dX7_alter_36 (fun r10 S11 hf => ?_)
    refine go_if_eq (pc := 39) C dX7_alter_39 46 (by decide) (fun c13 => ?_) (fun c13 => ?_)
    · have hf := hf.1 c13
      exact go_sub [0, 1, 2] rfl (wk_X7_alter_46 C hR _ _ _ _ hf)
    · have hf := hf.2 c13
      exact go_sub [0, 1, 2] rfl (wk_X7_alter_42 C hR _ _ _ _ hf)
set_option maxRecDepth 100000 in
set_option maxHeartbeats 4000000 in
theorem wk_X7_alter {X : tq_Cx} {p1 : Int32} {p2 : Int32} {p3 : Int32} {S : tq_St} {K : Int32 → tq_St → Prop} (C : tq_C X cX7_alter 4 RX7 3) (hR : tq_Ri X cX7_alter 4 K) (hf : wp_X7_alter p1 p2 p3 S K) : Go X 4 S 0 [(0, .ref ((tq_la X).1 28 0)), (1, .int p1), (2, .int p2), (3, .int p3)] [] := by
  refine go_aload_n (pc := 0) C dX7_alter_0 0 rfl rfl ?_
  refine go_aload_n (pc := 1) C dX7_alter_1 0 rfl rfl ?_
  refine go_iload_n (pc := 2) C dX7_alter_2 1 rfl rfl ?_
  refine go_cVi (pc := 3) C cw_X7_158 (ok_X7_isOne hf) (rc_X7 C) rfl rfl rfl (by decide) rfl dX7_alter_3 (fun r1 S2 hf => ?_)
  refine go_if_eq (pc := 6) C dX7_alter_6 46 (by decide) (fun c4 => ?_) (fun c4 => ?_)
  · have hf := hf.1 c4
    exact go_sub [1, 2, 3] rfl (wk_X7_alter_46 C hR _ _ _ _ hf)
  · have hf := hf.2 c4
    refine go_iload_n (pc := 9) C dX7_alter_9 2 rfl rfl ?_
    refine go_if_ne (pc := 10) C dX7_alter_10 25 (by decide) (fun c8 => ?_) (fun c8 => ?_)
    · have hf := hf.1 c8
      exact go_sub [1, 2, 3] rfl (wk_X7_alter_25 C hR _ _ _ _ hf)
    · have hf := hf.2 c8
      refine go_iload_n (pc := 13) C dX7_alter_13 3 rfl rfl ?_
      refine go_i2l (pc := 14) C dX7_alter_14 ?_
      refine go_lconst (pc := 15) (v := 0) C dX7_alter_15 (by decide) ?_
      refine go_ldc2 (pc := 16) C kl_X7_167 dX7_alter_16 ?_
      refine go_cSi (pc := 19) C cs_X7_49 (ok_X7_in hf) rfl rfl rfl (by decide) rfl dX7_alter_19 (fun r14 S15 hf => ?_)
      refine go_if_ne (pc := 22) C dX7_alter_22 42 (by decide) (fun c17 => ?_) (fun c17 => ?_)
      · have hf := hf.1 c17
        exact go_sub [1, 2, 3] rfl (wk_X7_alter_42 C hR _ _ _ _ hf)
      · have hf := hf.2 c17
        exact go_sub [1, 2, 3] rfl (wk_X7_alter_25 C hR _ _ _ _ hf)
set_option maxRecDepth 100000 in
set_option maxHeartbeats 4000000 in
theorem ok_X7_alter {p1 : Int32} {p2 : Int32} {p3 : Int32} {S : tq_St} {K : Int32 → tq_St → Prop} (hf : wp_X7_alter p1 p2 p3 S K) : tq_Mi yX7_alter cX7_alter 4 (some .int) 3 (fun a z => [.ref (a.1 28 0), .int p1, .int p2, .int p3]) S K :=
  tq_mkI (by decide) (fun _ _ => Nat.le_of_ble_eq_true rfl) (fun X C hR => wk_X7_alter C hR  hf)
set_option maxRecDepth 100000 in
set_option maxHeartbeats 4000000 in
theorem wk_X7_isAsSeen_57 {X : tq_Cx} {K : Int32 → tq_St → Prop} (C : tq_C X cX7_isAsSeen 3 RX7 6) (hR : tq_Rz X cX7_isAsSeen 3 K) {rec10 : Int32 → Int32 → tq_St → Prop} (hrec10 : ∀ (v1 : Int32) (v2 : Int32) (S : tq_St), rec10 v1 v2 S → Go X 3 S 10 [(0, .ref ((tq_la X).1 28 0)), (1, .int v1), (2, .int v2)] []) : ∀ (v2 : Int32) (S : tq_St), wp_X7_isAsSeen_57 K rec10 v2 S → Go X 3 S 57 [(0, .ref ((tq_la X).1 28 0)), (2, .int v2)] [] := by
  intro v2 S hf
  refine go_iconst (pc := 57) (v := 0) C dX7_isAsSeen_57 (by decide) ?_
  refine go_istore_n (pc := 58) C dX7_isAsSeen_58 [(1, .int 0), (0, .ref ((tq_la X).1 28 0)), (2, .int v2)] rfl (by decide) rfl ?_
  obtain ⟨x6, e7⟩ : ∃ q9 : Int32, q9 = v2 + 1 := ⟨_, rfl⟩
  refine go_iinc (pc := 59) (j := 2) (v := x6) C dX7_isAsSeen_59 [(2, .int x6), (1, .int 0), (0, .ref ((tq_la X).1 28 0))] rfl (by rw [e7]; rfl) (by decide) rfl ?_
  have hf := hf x6 e7
  refine go_goto (pc := 62) C dX7_isAsSeen_62 10 (by decide) ?_
  exact go_sub [2, 1, 0] rfl (hrec10 _ _ _ hf)
set_option maxRecDepth 100000 in
set_option maxHeartbeats 4000000 in
theorem wk_X7_isAsSeen_10 {X : tq_Cx} {K : Int32 → tq_St → Prop} (C : tq_C X cX7_isAsSeen 3 RX7 6) (hR : tq_Rz X cX7_isAsSeen 3 K) : ∀ (n : Nat) (v1 : Int32) (v2 : Int32) (S : tq_St), wp_X7_isAsSeen_10 K n v1 v2 S → Go X 3 S 10 [(0, .ref ((tq_la X).1 28 0)), (1, .int v1), (2, .int v2)] [] := by
  intro n
  induction n with
  | zero => intros; contradiction
  | succ n ih =>
    intro v1 v2 S hf
    refine go_iload_n (pc := 10) C dX7_isAsSeen_10 2 rfl rfl ?_
    refine go_aload_n (pc := 11) C dX7_isAsSeen_11 0 rfl rfl ?_
    refine ge_X7_X7_22 (pc := 12) C dX7_isAsSeen_12 ?_
    refine go_ic_ge (pc := 15) C dX7_isAsSeen_15 65 (by decide) (fun c4 => ?_) (fun c4 => ?_)
    · have hf := hf.1 c4
      refine go_iload_n (pc := 65) C dX7_isAsSeen_65 1 rfl rfl ?_
      exact hR _ _ _ _ dX7_isAsSeen_66 hf.1 hf.2
    · have hf := hf.2 c4
      refine go_iload_n (pc := 18) C dX7_isAsSeen_18 1 rfl rfl ?_
      refine go_if_eq (pc := 19) C dX7_isAsSeen_19 57 (by decide) (fun c5 => ?_) (fun c5 => ?_)
      · have hf := hf.1 c5
        exact go_sub [0, 2] rfl (wk_X7_isAsSeen_57 C hR ih _ _ hf)
      · have hf := hf.2 c5
        refine go_aload_n (pc := 22) C dX7_isAsSeen_22 0 rfl rfl ?_
        refine ge_X7_X7_0 (pc := 23) C dX7_isAsSeen_23 ?_
        refine go_bipush (pc := 26) (v := 127) C dX7_isAsSeen_26 (by decide) ?_
        refine al_X7_0 (pc := 28) C hf.1 dX7_isAsSeen_28 ?_
        have hf := hf.2
        refine go_aload_n (pc := 29) C dX7_isAsSeen_29 0 rfl rfl ?_
        refine ge_X7_X7_21 (pc := 30) C dX7_isAsSeen_30 ?_
        refine go_iconst (pc := 33) (v := 2) C dX7_isAsSeen_33 (by decide) ?_
        refine go_iload_n (pc := 34) C dX7_isAsSeen_34 2 rfl rfl ?_
        refine go_imul (pc := 35) C dX7_isAsSeen_35 ?_
        refine al_X7_21 (pc := 36) C hf.1 dX7_isAsSeen_36 ?_
        have hf := hf.2
        refine go_ishr (pc := 37) C dX7_isAsSeen_37 ?_
        refine go_iconst (pc := 38) (v := 1) C dX7_isAsSeen_38 (by decide) ?_
        refine go_iand (pc := 39) C dX7_isAsSeen_39 ?_
        refine go_aload_n (pc := 40) C dX7_isAsSeen_40 0 rfl rfl ?_
        refine ge_X7_X7_21 (pc := 41) C dX7_isAsSeen_41 ?_
        refine go_iconst (pc := 44) (v := 2) C dX7_isAsSeen_44 (by decide) ?_
        refine go_iload_n (pc := 45) C dX7_isAsSeen_45 2 rfl rfl ?_
        refine go_imul (pc := 46) C dX7_isAsSeen_46 ?_
        refine go_iconst (pc := 47) (v := 1) C dX7_isAsSeen_47 (by decide) ?_
        refine go_iadd (pc := 48) C dX7_isAsSeen_48 ?_
        refine al_X7_21 (pc := 49) C hf.1 dX7_isAsSeen_49 ?_
        have hf := hf.2
        refine go_ic_ne (pc := 50) C dX7_isAsSeen_50 57 (by decide) (fun c8 => ?_) (fun c8 => ?_)
        · have hf := hf.1 c8
          exact go_sub [0, 2] rfl (wk_X7_isAsSeen_57 C hR ih _ _ hf)
        · have hf := hf.2 c8
          refine go_iconst (pc := 53) (v := 1) C dX7_isAsSeen_53 (by decide) ?_
          refine go_goto (pc := 54) C dX7_isAsSeen_54 58 (by decide) ?_
          refine go_istore_n (pc := 58) C dX7_isAsSeen_58 [(1, .int 1), (0, .ref ((tq_la X).1 28 0)), (2, .int v2)] rfl (by decide) rfl ?_
          obtain ⟨x9, e10⟩ : ∃ q9 : Int32, q9 = v2 + 1 := ⟨_, rfl⟩
          refine go_iinc (pc := 59) (j := 2) (v := x9) C dX7_isAsSeen_59 [(2, .int x9), (1, .int 1), (0, .ref ((tq_la X).1 28 0))] rfl (by rw [e10]; rfl) (by decide) rfl ?_
          have hf := hf x9 e10
          refine go_goto (pc := 62) C dX7_isAsSeen_62 10 (by decide) ?_
          exact go_sub [2, 1, 0] rfl (ih _ _ _ hf)
set_option maxRecDepth 100000 in
set_option maxHeartbeats 4000000 in
theorem wk_X7_isAsSeen {X : tq_Cx} {S : tq_St} {K : Int32 → tq_St → Prop} (C : tq_C X cX7_isAsSeen 3 RX7 6) (hR : tq_Rz X cX7_isAsSeen 3 K) (hf : wp_X7_isAsSeen S K) : Go X 3 S 0 [(0, .ref ((tq_la X).1 28 0))] [] := by
  refine go_aload_n (pc := 0) C dX7_isAsSeen_0 0 rfl rfl ?_
  refine go_iconst (pc := 1) (v := 0) C dX7_isAsSeen_1 (by decide) ?_
  refine go_iconst (pc := 2) (v := 0) C dX7_isAsSeen_2 (by decide) ?_
  refine go_cVv (pc := 3) C cw_X7_214 (ok_X7_planGoes hf) (rc_X7 C) rfl rfl rfl (by decide) rfl dX7_isAsSeen_3 (fun S2 hf => ?_)
  refine go_iconst (pc := 6) (v := 1) C dX7_isAsSeen_6 (by decide) ?_
  refine go_istore_n (pc := 7) C dX7_isAsSeen_7 [(1, .int 1), (0, .ref ((tq_la X).1 28 0))] rfl (by decide) rfl ?_
  refine go_iconst (pc := 8) (v := 0) C dX7_isAsSeen_8 (by decide) ?_
  refine go_istore_n (pc := 9) C dX7_isAsSeen_9 [(2, .int 0), (1, .int 1), (0, .ref ((tq_la X).1 28 0))] rfl (by decide) rfl ?_
  exact go_sub [2, 1, 0] rfl (wk_X7_isAsSeen_10 C hR 2000 _ _ _ hf)
set_option maxRecDepth 100000 in
set_option maxHeartbeats 4000000 in
theorem ok_X7_isAsSeen {S : tq_St} {K : Int32 → tq_St → Prop} (hf : wp_X7_isAsSeen S K) : tq_Mi yX7_isAsSeen cX7_isAsSeen 3 (some .boolean) 6 (fun a z => [.ref (a.1 28 0)]) S K :=
  tq_mkZ (by decide) (fun _ _ => Nat.le_of_ble_eq_true rfl) (fun X C hR => wk_X7_isAsSeen C hR  hf)
set_option maxRecDepth 100000 in
set_option maxHeartbeats 4000000 in
theorem wk_X7_sorrowsOf_47 {X : tq_Cx} {K : Int32 → tq_St → Prop} (C : tq_C X cX7_sorrowsOf 5 RX7 7) (hR : tq_Ri X cX7_sorrowsOf 5 K) {rec14 : Int32 → Int32 → Int32 → Int32 → tq_St → Prop} (hrec14 : ∀ (v1 : Int32) (v2 : Int32) (v3 : Int32) (v4 : Int32) (S : tq_St), rec14 v1 v2 v3 v4 S → Go X 5 S 14 [(0, .ref ((tq_la X).1 28 0)), (1, .int v1), (2, .int v2), (3, .int v3), (4, .int v4)] []) : ∀ (v1 : Int32) (v2 : Int32) (v4 : Int32) (w0 : Int32) (w1 : Int32) (S : tq_St), wp_X7_sorrowsOf_47 K rec14 v1 v2 v4 w0 w1 S → Go X 5 S 47 [(0, .ref ((tq_la X).1 28 0)), (1, .int v1), (2, .int v2), (4, .int v4)] [.int w1, .int w0] := by
  intro v1 v2 v4 w0 w1 S hf
  refine go_ior (pc := 47) C dX7_sorrowsOf_47 ?_
  refine go_nI (fun x12 e13 => ?_)
  have hf := hf x12 e13
  refine go_istore_n (pc := 48) C dX7_sorrowsOf_48 [(3, .int x12), (0, .ref ((tq_la X).1 28 0)), (1, .int v1), (2, .int v2), (4, .int v4)] rfl (by decide) rfl ?_
  refine go_aload_n (pc := 49) C dX7_sorrowsOf_49 1 rfl rfl ?_
  refine ge_X7_X7_23 (pc := 50) C dX7_sorrowsOf_50 ?_
  refine go_iload (pc := 53) C dX7_sorrowsOf_53 4 rfl ?_
  refine go_aload_n (pc := 55) C dX7_sorrowsOf_55 1 rfl rfl ?_
  refine ge_X7_X7_0 (pc := 56) C dX7_sorrowsOf_56 ?_
  refine go_bipush (pc := 59) (v := 127) C dX7_sorrowsOf_59 (by decide) ?_
  refine al_X7_0 (pc := 61) C hf.1 dX7_sorrowsOf_61 ?_
  have hf := hf.2
  refine as_X7_23 (pc := 62) C hf.1 dX7_sorrowsOf_62 (fun S14 e15 => ?_)
  have hf := hf.2 S14 e15
  obtain ⟨x16, e17⟩ : ∃ q9 : Int32, q9 = v4 + 1 := ⟨_, rfl⟩
  refine go_iinc (pc := 63) (j := 4) (v := x16) C dX7_sorrowsOf_63 [(4, .int x16), (3, .int x12), (0, .ref ((tq_la X).1 28 0)), (1, .int v1), (2, .int v2)] rfl (by rw [e17]; rfl) (by decide) rfl ?_
  have hf := hf x16 e17
  refine go_goto (pc := 66) C dX7_sorrowsOf_66 14 (by decide) ?_
  exact go_sub [2, 3, 4, 1, 0] rfl (hrec14 _ _ _ _ _ hf)
set_option maxRecDepth 100000 in
set_option maxHeartbeats 4000000 in
theorem wk_X7_sorrowsOf_14 {X : tq_Cx} {K : Int32 → tq_St → Prop} (C : tq_C X cX7_sorrowsOf 5 RX7 7) (hR : tq_Ri X cX7_sorrowsOf 5 K) : ∀ (n : Nat) (v1 : Int32) (v2 : Int32) (v3 : Int32) (v4 : Int32) (S : tq_St), wp_X7_sorrowsOf_14 K n v1 v2 v3 v4 S → Go X 5 S 14 [(0, .ref ((tq_la X).1 28 0)), (1, .int v1), (2, .int v2), (3, .int v3), (4, .int v4)] [] := by
  intro n
  induction n with
  | zero => intros; contradiction
  | succ n ih =>
    intro v1 v2 v3 v4 S hf
    refine go_iload (pc := 14) C dX7_sorrowsOf_14 4 rfl ?_
    refine go_bipush (pc := 16) (v := 20) C dX7_sorrowsOf_16 (by decide) ?_
    refine go_ic_gt (pc := 18) C dX7_sorrowsOf_18 69 (by decide) (fun c3 => ?_) (fun c3 => ?_)
    · have hf := hf.1 c3
      refine go_aload_n (pc := 69) C dX7_sorrowsOf_69 0 rfl rfl ?_
      refine ge_X7_X7_0 (pc := 70) C dX7_sorrowsOf_70 ?_
      refine go_iconst (pc := 73) (v := 5) C dX7_sorrowsOf_73 (by decide) ?_
      refine go_iload_n (pc := 74) C dX7_sorrowsOf_74 1 rfl rfl ?_
      refine go_iadd (pc := 75) C dX7_sorrowsOf_75 ?_
      refine go_iload_n (pc := 76) C dX7_sorrowsOf_76 2 rfl rfl ?_
      refine as_X7_0 (pc := 77) C hf.1 dX7_sorrowsOf_77 (fun S4 e5 => ?_)
      have hf := hf.2 S4 e5
      refine go_iload_n (pc := 78) C dX7_sorrowsOf_78 3 rfl rfl ?_
      exact hR _ _ _ _ dX7_sorrowsOf_79 hf
    · have hf := hf.2 c3
      refine go_aload_n (pc := 21) C dX7_sorrowsOf_21 0 rfl rfl ?_
      refine ge_X7_X7_0 (pc := 22) C dX7_sorrowsOf_22 ?_
      refine go_iconst (pc := 25) (v := 5) C dX7_sorrowsOf_25 (by decide) ?_
      refine go_iload_n (pc := 26) C dX7_sorrowsOf_26 1 rfl rfl ?_
      refine go_iadd (pc := 27) C dX7_sorrowsOf_27 ?_
      refine go_iload (pc := 28) C dX7_sorrowsOf_28 4 rfl ?_
      refine as_X7_0 (pc := 30) C hf.1 dX7_sorrowsOf_30 (fun S6 e7 => ?_)
      have hf := hf.2 S6 e7
      refine go_iload_n (pc := 31) C dX7_sorrowsOf_31 3 rfl rfl ?_
      refine go_aload_n (pc := 32) C dX7_sorrowsOf_32 0 rfl rfl ?_
      refine go_cVi (pc := 33) C cw_X7_247 (ok_X7_isAsSeen hf) (rc_X7 C) rfl rfl rfl (by decide) rfl dX7_sorrowsOf_33 (fun r8 S9 hf => ?_)
      refine go_if_eq (pc := 36) C dX7_sorrowsOf_36 46 (by decide) (fun c11 => ?_) (fun c11 => ?_)
      · have hf := hf.1 c11
        refine go_iconst (pc := 46) (v := 0) C dX7_sorrowsOf_46 (by decide) ?_
        exact go_sub [0, 1, 2, 4] rfl (wk_X7_sorrowsOf_47 C hR ih _ _ _ _ _ _ hf)
      · have hf := hf.2 c11
        refine go_iconst (pc := 39) (v := 1) C dX7_sorrowsOf_39 (by decide) ?_
        refine go_iload (pc := 40) C dX7_sorrowsOf_40 4 rfl ?_
        refine go_ishl (pc := 42) C dX7_sorrowsOf_42 ?_
        refine go_goto (pc := 43) C dX7_sorrowsOf_43 47 (by decide) ?_
        exact go_sub [0, 1, 2, 4] rfl (wk_X7_sorrowsOf_47 C hR ih _ _ _ _ _ _ hf)
set_option maxRecDepth 100000 in
set_option maxHeartbeats 4000000 in
theorem wk_X7_sorrowsOf {X : tq_Cx} {p1 : Int32} {S : tq_St} {K : Int32 → tq_St → Prop} (C : tq_C X cX7_sorrowsOf 5 RX7 7) (hR : tq_Ri X cX7_sorrowsOf 5 K) (hf : wp_X7_sorrowsOf p1 S K) : Go X 5 S 0 [(0, .ref ((tq_la X).1 28 0)), (1, .int p1)] [] := by
  refine go_aload_n (pc := 0) C dX7_sorrowsOf_0 0 rfl rfl ?_
  refine ge_X7_X7_0 (pc := 1) C dX7_sorrowsOf_1 ?_
  refine go_iconst (pc := 4) (v := 5) C dX7_sorrowsOf_4 (by decide) ?_
  refine go_iload_n (pc := 5) C dX7_sorrowsOf_5 1 rfl rfl ?_
  refine go_iadd (pc := 6) C dX7_sorrowsOf_6 ?_
  refine al_X7_0 (pc := 7) C hf.1 dX7_sorrowsOf_7 ?_
  have hf := hf.2
  refine go_nI (fun x1 e2 => ?_)
  have hf := hf x1 e2
  refine go_istore_n (pc := 8) C dX7_sorrowsOf_8 [(2, .int x1), (0, .ref ((tq_la X).1 28 0)), (1, .int p1)] rfl (by decide) rfl ?_
  refine go_iconst (pc := 9) (v := 0) C dX7_sorrowsOf_9 (by decide) ?_
  refine go_istore_n (pc := 10) C dX7_sorrowsOf_10 [(3, .int 0), (2, .int x1), (0, .ref ((tq_la X).1 28 0)), (1, .int p1)] rfl (by decide) rfl ?_
  refine go_iconst (pc := 11) (v := 0) C dX7_sorrowsOf_11 (by decide) ?_
  refine go_istore (pc := 12) C dX7_sorrowsOf_12 [(4, .int 0), (3, .int 0), (2, .int x1), (0, .ref ((tq_la X).1 28 0)), (1, .int p1)] (by decide) rfl ?_
  exact go_sub [3, 4, 2, 1, 0] rfl (wk_X7_sorrowsOf_14 C hR 2000 _ _ _ _ _ hf)
set_option maxRecDepth 100000 in
set_option maxHeartbeats 4000000 in
theorem ok_X7_sorrowsOf {p1 : Int32} {S : tq_St} {K : Int32 → tq_St → Prop} (hf : wp_X7_sorrowsOf p1 S K) : tq_Mi yX7_sorrowsOf cX7_sorrowsOf 5 (some .int) 7 (fun a z => [.ref (a.1 28 0), .int p1]) S K :=
  tq_mkI (by decide) (fun _ _ => Nat.le_of_ble_eq_true rfl) (fun X C hR => wk_X7_sorrowsOf C hR  hf)
set_option maxRecDepth 100000 in
set_option maxHeartbeats 4000000 in
theorem wk_X7_ask_138 {X : tq_Cx} {K : Int32 → tq_St → Prop} (C : tq_C X cX7_ask 10 RX7 8) (hR : tq_Ri X cX7_ask 10 K) {rec43 : Int32 → Int32 → Int32 → Int32 → Int32 → Int32 → tq_St → Prop} (hrec43 : ∀ (v2 : Int32) (v3 : Int32) (v4 : Int32) (v5 : Int32) (v6 : Int32) (v7 : Int32) (S : tq_St), rec43 v2 v3 v4 v5 v6 v7 S → Go X 10 S 43 [(0, .ref ((tq_la X).1 28 0)), (2, .int v2), (3, .int v3), (4, .int v4), (5, .int v5), (6, .int v6), (7, .int v7)] []) : ∀ (v2 : Int32) (v3 : Int32) (v4 : Int32) (v5 : Int32) (v7 : Int32) (v9 : Int32) (w0 : Int32) (S : tq_St), wp_X7_ask_138 K rec43 v2 v3 v4 v5 v7 v9 w0 S → Go X 10 S 138 [(0, .ref ((tq_la X).1 28 0)), (2, .int v2), (3, .int v3), (4, .int v4), (5, .int v5), (7, .int v7), (9, .int v9)] [.int w0] := by
  intro v2 v3 v4 v5 v7 v9 w0 S hf
  refine go_istore (pc := 138) C dX7_ask_138 [(6, .int w0), (0, .ref ((tq_la X).1 28 0)), (2, .int v2), (3, .int v3), (4, .int v4), (5, .int v5), (7, .int v7), (9, .int v9)] (by decide) rfl ?_
  refine go_iload (pc := 140) C dX7_ask_140 7 rfl ?_
  refine go_iload (pc := 142) C dX7_ask_142 5 rfl ?_
  refine go_ic_ge (pc := 144) C dX7_ask_144 152 (by decide) (fun c21 => ?_) (fun c21 => ?_)
  · have hf := hf.1 c21
    refine go_iload (pc := 152) C dX7_ask_152 5 rfl ?_
    refine go_istore (pc := 154) C dX7_ask_154 [(5, .int v5), (6, .int w0), (0, .ref ((tq_la X).1 28 0)), (2, .int v2), (3, .int v3), (4, .int v4), (7, .int v7), (9, .int v9)] (by decide) rfl ?_
    obtain ⟨x22, e23⟩ : ∃ q9 : Int32, q9 = v7 + 1 := ⟨_, rfl⟩
    refine go_iinc (pc := 156) (j := 6) (v := x22) C dX7_ask_156 [(7, .int x22), (5, .int v5), (6, .int w0), (0, .ref ((tq_la X).1 28 0)), (2, .int v2), (3, .int v3), (4, .int v4), (9, .int v9)] rfl (by rw [e23]; rfl) (by decide) rfl ?_
    have hf := hf x22 e23
    refine go_goto (pc := 159) C dX7_ask_159 43 (by decide) ?_
    exact go_sub [3, 4, 5, 6, 1, 2, 0] rfl (hrec43 _ _ _ _ _ _ _ hf)
  · have hf := hf.2 c21
    refine go_iload (pc := 147) C dX7_ask_147 7 rfl ?_
    refine go_goto (pc := 149) C dX7_ask_149 154 (by decide) ?_
    refine go_istore (pc := 154) C dX7_ask_154 [(5, .int v9), (6, .int w0), (0, .ref ((tq_la X).1 28 0)), (2, .int v2), (3, .int v3), (4, .int v4), (7, .int v7), (9, .int v9)] (by decide) rfl ?_
    obtain ⟨x24, e25⟩ : ∃ q9 : Int32, q9 = v7 + 1 := ⟨_, rfl⟩
    refine go_iinc (pc := 156) (j := 6) (v := x24) C dX7_ask_156 [(7, .int x24), (5, .int v9), (6, .int w0), (0, .ref ((tq_la X).1 28 0)), (2, .int v2), (3, .int v3), (4, .int v4), (9, .int v9)] rfl (by rw [e25]; rfl) (by decide) rfl ?_
    have hf := hf x24 e25
    refine go_goto (pc := 159) C dX7_ask_159 43 (by decide) ?_
    exact go_sub [3, 4, 5, 6, 1, 2, 0] rfl (hrec43 _ _ _ _ _ _ _ hf)
set_option maxRecDepth 100000 in
set_option maxHeartbeats 4000000 in
theorem wk_X7_ask_122 {X : tq_Cx} {K : Int32 → tq_St → Prop} (C : tq_C X cX7_ask 10 RX7 8) (hR : tq_Ri X cX7_ask 10 K) {rec43 : Int32 → Int32 → Int32 → Int32 → Int32 → Int32 → tq_St → Prop} (hrec43 : ∀ (v2 : Int32) (v3 : Int32) (v4 : Int32) (v5 : Int32) (v6 : Int32) (v7 : Int32) (S : tq_St), rec43 v2 v3 v4 v5 v6 v7 S → Go X 10 S 43 [(0, .ref ((tq_la X).1 28 0)), (2, .int v2), (3, .int v3), (4, .int v4), (5, .int v5), (6, .int v6), (7, .int v7)] []) : ∀ (v2 : Int32) (v3 : Int32) (v4 : Int32) (v5 : Int32) (v6 : Int32) (v7 : Int32) (w0 : Int32) (S : tq_St), wp_X7_ask_122 K rec43 v2 v3 v4 v5 v6 v7 w0 S → Go X 10 S 122 [(0, .ref ((tq_la X).1 28 0)), (2, .int v2), (3, .int v3), (4, .int v4), (5, .int v5), (6, .int v6), (7, .int v7)] [.int w0] := by
  intro v2 v3 v4 v5 v6 v7 w0 S hf
  refine go_istore (pc := 122) C dX7_ask_122 [(9, .int w0), (0, .ref ((tq_la X).1 28 0)), (2, .int v2), (3, .int v3), (4, .int v4), (5, .int v5), (6, .int v6), (7, .int v7)] (by decide) rfl ?_
  refine go_iload (pc := 124) C dX7_ask_124 0 rfl ?_
  refine go_iload (pc := 126) C dX7_ask_126 5 rfl ?_
  refine go_ic_ge (pc := 128) C dX7_ask_128 136 (by decide) (fun c20 => ?_) (fun c20 => ?_)
  · have hf := hf.1 c20
    refine go_iload (pc := 136) C dX7_ask_136 6 rfl ?_
    exact go_sub [1, 2, 3, 4, 5, 7, 0] rfl (wk_X7_ask_138 C hR hrec43 _ _ _ _ _ _ _ _ hf)
  · have hf := hf.2 c20
    refine go_iload (pc := 131) C dX7_ask_131 7 rfl ?_
    refine go_goto (pc := 133) C dX7_ask_133 138 (by decide) ?_
    exact go_sub [1, 2, 3, 4, 5, 7, 0] rfl (wk_X7_ask_138 C hR hrec43 _ _ _ _ _ _ _ _ hf)
set_option maxRecDepth 100000 in
set_option maxHeartbeats 4000000 in
theorem wk_X7_ask_93 {X : tq_Cx} {K : Int32 → tq_St → Prop} (C : tq_C X cX7_ask 10 RX7 8) (hR : tq_Ri X cX7_ask 10 K) {rec58 : Int32 → Int32 → Int32 → Int32 → Int32 → Int32 → Int32 → Int32 → tq_St → Prop} (hrec58 : ∀ (v2 : Int32) (v3 : Int32) (v4 : Int32) (v5 : Int32) (v6 : Int32) (v7 : Int32) (v8 : Int32) (v9 : Int32) (S : tq_St), rec58 v2 v3 v4 v5 v6 v7 v8 v9 S → Go X 10 S 58 [(0, .ref ((tq_la X).1 28 0)), (2, .int v2), (3, .int v3), (4, .int v4), (5, .int v5), (6, .int v6), (7, .int v7), (8, .int v8), (9, .int v9)] []) {rec43 : Int32 → Int32 → Int32 → Int32 → Int32 → Int32 → tq_St → Prop} (hrec43 : ∀ (v2 : Int32) (v3 : Int32) (v4 : Int32) (v5 : Int32) (v6 : Int32) (v7 : Int32) (S : tq_St), rec43 v2 v3 v4 v5 v6 v7 S → Go X 10 S 43 [(0, .ref ((tq_la X).1 28 0)), (2, .int v2), (3, .int v3), (4, .int v4), (5, .int v5), (6, .int v6), (7, .int v7)] []) : ∀ (v2 : Int32) (v3 : Int32) (v4 : Int32) (v5 : Int32) (v6 : Int32) (v7 : Int32) (v9 : Int32) (w0 : Int32) (w1 : Int32) (S : tq_St), wp_X7_ask_93 K rec58 rec43 v2 v3 v4 v5 v6 v7 v9 w0 w1 S → Go X 10 S 93 [(0, .ref ((tq_la X).1 28 0)), (2, .int v2), (3, .int v3), (4, .int v4), (5, .int v5), (6, .int v6), (7, .int v7), (9, .int v9)] [.int w1, .int w0] := by
  intro v2 v3 v4 v5 v6 v7 v9 w0 w1 S hf
  refine go_iadd (pc := 93) C dX7_ask_93 ?_
  refine go_nI (fun x27 e28 => ?_)
  have hf := hf x27 e28
  refine go_istore (pc := 94) C dX7_ask_94 [(8, .int x27), (0, .ref ((tq_la X).1 28 0)), (2, .int v2), (3, .int v3), (4, .int v4), (5, .int v5), (6, .int v6), (7, .int v7), (9, .int v9)] (by decide) rfl ?_
  obtain ⟨x29, e30⟩ : ∃ q9 : Int32, q9 = v9 + 1 := ⟨_, rfl⟩
  refine go_iinc (pc := 96) (j := 8) (v := x29) C dX7_ask_96 [(9, .int x29), (8, .int x27), (0, .ref ((tq_la X).1 28 0)), (2, .int v2), (3, .int v3), (4, .int v4), (5, .int v5), (6, .int v6), (7, .int v7)] rfl (by rw [e30]; rfl) (by decide) rfl ?_
  have hf := hf x29 e30
  refine go_goto (pc := 99) C dX7_ask_99 58 (by decide) ?_
  exact go_sub [2, 3, 4, 5, 6, 7, 8, 1, 0] rfl (hrec58 _ _ _ _ _ _ _ _ _ hf)
set_option maxRecDepth 100000 in
set_option maxHeartbeats 4000000 in
theorem wk_X7_ask_58 {X : tq_Cx} {K : Int32 → tq_St → Prop} (C : tq_C X cX7_ask 10 RX7 8) (hR : tq_Ri X cX7_ask 10 K) {rec43 : Int32 → Int32 → Int32 → Int32 → Int32 → Int32 → tq_St → Prop} (hrec43 : ∀ (v2 : Int32) (v3 : Int32) (v4 : Int32) (v5 : Int32) (v6 : Int32) (v7 : Int32) (S : tq_St), rec43 v2 v3 v4 v5 v6 v7 S → Go X 10 S 43 [(0, .ref ((tq_la X).1 28 0)), (2, .int v2), (3, .int v3), (4, .int v4), (5, .int v5), (6, .int v6), (7, .int v7)] []) : ∀ (n : Nat) (v2 : Int32) (v3 : Int32) (v4 : Int32) (v5 : Int32) (v6 : Int32) (v7 : Int32) (v8 : Int32) (v9 : Int32) (S : tq_St), wp_X7_ask_58 K rec43 n v2 v3 v4 v5 v6 v7 v8 v9 S → Go X 10 S 58 [(0, .ref ((tq_la X).1 28 0)), (2, .int v2), (3, .int v3), (4, .int v4), (5, .int v5), (6, .int v6), (7, .int v7), (8, .int v8), (9, .int v9)] [] := by
  intro n
  induction n with
  | zero => intros; contradiction
  | succ n ih =>
    intro v2 v3 v4 v5 v6 v7 v8 v9 S hf
    refine go_iload (pc := 58) C dX7_ask_58 8 rfl ?_
    refine go_bipush (pc := 60) (v := 20) C dX7_ask_60 (by decide) ?_
    refine go_ic_gt (pc := 62) C dX7_ask_62 102 (by decide) (fun c18 => ?_) (fun c18 => ?_)
    · have hf := hf.1 c18
      refine go_iload (pc := 102) C dX7_ask_102 7 rfl ?_
      refine go_iload (pc := 104) C dX7_ask_104 3 rfl ?_
      refine go_iload (pc := 106) C dX7_ask_106 7 rfl ?_
      refine go_isub (pc := 108) C dX7_ask_108 ?_
      refine go_ic_le (pc := 109) C dX7_ask_109 117 (by decide) (fun c19 => ?_) (fun c19 => ?_)
      · have hf := hf.1 c19
        refine go_iload (pc := 117) C dX7_ask_117 3 rfl ?_
        refine go_iload (pc := 119) C dX7_ask_119 7 rfl ?_
        refine go_isub (pc := 121) C dX7_ask_121 ?_
        exact go_sub [0, 1, 2, 3, 4, 5, 6] rfl (wk_X7_ask_122 C hR hrec43 _ _ _ _ _ _ _ _ hf)
      · have hf := hf.2 c19
        refine go_iload (pc := 112) C dX7_ask_112 7 rfl ?_
        refine go_goto (pc := 114) C dX7_ask_114 122 (by decide) ?_
        exact go_sub [0, 1, 2, 3, 4, 5, 6] rfl (wk_X7_ask_122 C hR hrec43 _ _ _ _ _ _ _ _ hf)
    · have hf := hf.2 c18
      refine go_iload (pc := 65) C dX7_ask_65 7 rfl ?_
      refine go_iload_n (pc := 67) C dX7_ask_67 2 rfl rfl ?_
      refine go_iload (pc := 68) C dX7_ask_68 8 rfl ?_
      refine go_ishr (pc := 70) C dX7_ask_70 ?_
      refine go_iconst (pc := 71) (v := 1) C dX7_ask_71 (by decide) ?_
      refine go_iand (pc := 72) C dX7_ask_72 ?_
      refine go_iconst (pc := 73) (v := 1) C dX7_ask_73 (by decide) ?_
      refine go_ic_ne (pc := 74) C dX7_ask_74 92 (by decide) (fun c26 => ?_) (fun c26 => ?_)
      · have hf := hf.1 c26
        refine go_iconst (pc := 92) (v := 0) C dX7_ask_92 (by decide) ?_
        exact go_sub [0, 1, 2, 3, 4, 5, 6, 8] rfl (wk_X7_ask_93 C hR ih hrec43 _ _ _ _ _ _ _ _ _ _ hf)
      · have hf := hf.2 c26
        refine go_aload_n (pc := 77) C dX7_ask_77 0 rfl rfl ?_
        refine ge_X7_X7_23 (pc := 78) C dX7_ask_78 ?_
        refine go_iload (pc := 81) C dX7_ask_81 8 rfl ?_
        refine al_X7_23 (pc := 83) C hf.1 dX7_ask_83 ?_
        have hf := hf.2
        refine go_iload (pc := 84) C dX7_ask_84 6 rfl ?_
        refine go_ishr (pc := 86) C dX7_ask_86 ?_
        refine go_iconst (pc := 87) (v := 1) C dX7_ask_87 (by decide) ?_
        refine go_iand (pc := 88) C dX7_ask_88 ?_
        refine go_goto (pc := 89) C dX7_ask_89 93 (by decide) ?_
        exact go_sub [0, 1, 2, 3, 4, 5, 6, 8] rfl (wk_X7_ask_93 C hR ih hrec43 _ _ _ _ _ _ _ _ _ _ hf)
set_option maxRecDepth 100000 in
set_option maxHeartbeats 4000000 in
theorem wk_X7_ask_43 {X : tq_Cx} {K : Int32 → tq_St → Prop} (C : tq_C X cX7_ask 10 RX7 8) (hR : tq_Ri X cX7_ask 10 K) : ∀ (n : Nat) (v2 : Int32) (v3 : Int32) (v4 : Int32) (v5 : Int32) (v6 : Int32) (v7 : Int32) (S : tq_St), wp_X7_ask_43 K n v2 v3 v4 v5 v6 v7 S → Go X 10 S 43 [(0, .ref ((tq_la X).1 28 0)), (2, .int v2), (3, .int v3), (4, .int v4), (5, .int v5), (6, .int v6), (7, .int v7)] [] := by
  intro n
  induction n with
  | zero => intros; contradiction
  | succ n ih =>
    intro v2 v3 v4 v5 v6 v7 S hf
    refine go_iload (pc := 43) C dX7_ask_43 6 rfl ?_
    refine go_aload_n (pc := 45) C dX7_ask_45 0 rfl rfl ?_
    refine ge_X7_X7_2 (pc := 46) C dX7_ask_46 ?_
    refine go_ic_ge (pc := 49) C dX7_ask_49 162 (by decide) (fun c15 => ?_) (fun c15 => ?_)
    · have hf := hf.1 c15
      refine go_iload (pc := 162) C dX7_ask_162 5 rfl ?_
      refine go_bipush (pc := 164) (v := (-4)) C dX7_ask_164 (by decide) ?_
      refine go_ic_eq (pc := 166) C dX7_ask_166 173 (by decide) (fun c16 => ?_) (fun c16 => ?_)
      · have hf := hf.1 c16
        refine go_iload (pc := 173) C dX7_ask_173 5 rfl ?_
        refine go_goto (pc := 175) C dX7_ask_175 180 (by decide) ?_
        exact hR _ _ _ _ dX7_ask_180 hf
      · have hf := hf.2 c16
        refine go_iload_n (pc := 169) C dX7_ask_169 1 rfl rfl ?_
        refine go_if_ne (pc := 170) C dX7_ask_170 178 (by decide) (fun c17 => ?_) (fun c17 => ?_)
        · have hf := hf.1 c17
          refine go_iload (pc := 178) C dX7_ask_178 4 rfl ?_
          exact hR _ _ _ _ dX7_ask_180 hf
        · have hf := hf.2 c17
          refine go_iload (pc := 173) C dX7_ask_173 5 rfl ?_
          refine go_goto (pc := 175) C dX7_ask_175 180 (by decide) ?_
          exact hR _ _ _ _ dX7_ask_180 hf
    · have hf := hf.2 c15
      refine go_iconst (pc := 52) (v := 0) C dX7_ask_52 (by decide) ?_
      refine go_istore (pc := 53) C dX7_ask_53 [(8, .int 0), (0, .ref ((tq_la X).1 28 0)), (2, .int v2), (3, .int v3), (4, .int v4), (5, .int v5), (6, .int v6), (7, .int v7)] (by decide) rfl ?_
      refine go_iconst (pc := 55) (v := 0) C dX7_ask_55 (by decide) ?_
      refine go_istore (pc := 56) C dX7_ask_56 [(9, .int 0), (8, .int 0), (0, .ref ((tq_la X).1 28 0)), (2, .int v2), (3, .int v3), (4, .int v4), (5, .int v5), (6, .int v6), (7, .int v7)] (by decide) rfl ?_
      exact go_sub [2, 3, 4, 5, 6, 7, 8, 1, 0] rfl (wk_X7_ask_58 C hR ih 2000 _ _ _ _ _ _ _ _ _ hf)
set_option maxRecDepth 100000 in
set_option maxHeartbeats 4000000 in
theorem wk_X7_ask {X : tq_Cx} {p1 : Int32} {p2 : Int32} {S : tq_St} {K : Int32 → tq_St → Prop} (C : tq_C X cX7_ask 10 RX7 8) (hR : tq_Ri X cX7_ask 10 K) (hf : wp_X7_ask p1 p2 S K) : Go X 10 S 0 [(0, .ref ((tq_la X).1 28 0)), (1, .int p1), (2, .int p2)] [] := by
  refine go_aload_n (pc := 0) C dX7_ask_0 0 rfl rfl ?_
  refine go_iload_n (pc := 1) C dX7_ask_1 1 rfl rfl ?_
  refine go_cVi (pc := 2) C cw_X7_158 (ok_X7_isOne hf) (rc_X7 C) rfl rfl rfl (by decide) rfl dX7_ask_2 (fun r1 S2 hf => ?_)
  refine go_if_eq (pc := 5) C dX7_ask_5 18 (by decide) (fun c4 => ?_) (fun c4 => ?_)
  · have hf := hf.1 c4
    refine go_iconst (pc := 18) (v := (-1)) C dX7_ask_18 (by decide) ?_
    exact hR _ _ _ _ dX7_ask_19 hf
  · have hf := hf.2 c4
    refine go_iload_n (pc := 8) C dX7_ask_8 2 rfl rfl ?_
    refine go_i2l (pc := 9) C dX7_ask_9 ?_
    refine go_lconst (pc := 10) (v := 0) C dX7_ask_10 (by decide) ?_
    refine go_lconst (pc := 11) (v := 1) C dX7_ask_11 (by decide) ?_
    refine go_cSi (pc := 12) C cs_X7_49 (ok_X7_in hf) rfl rfl rfl (by decide) rfl dX7_ask_12 (fun r5 S6 hf => ?_)
    refine go_if_ne (pc := 15) C dX7_ask_15 20 (by decide) (fun c8 => ?_) (fun c8 => ?_)
    · have hf := hf.1 c8
      refine go_aload_n (pc := 20) C dX7_ask_20 0 rfl rfl ?_
      refine go_iload_n (pc := 21) C dX7_ask_21 1 rfl rfl ?_
      refine go_cVi (pc := 22) C cw_X7_251 (ok_X7_sorrowsOf hf) (rc_X7 C) rfl rfl rfl (by decide) rfl dX7_ask_22 (fun r9 S10 hf => ?_)
      refine go_istore_n (pc := 25) C dX7_ask_25 [(3, .int r9), (0, .ref ((tq_la X).1 28 0)), (1, .int p1), (2, .int p2)] rfl (by decide) rfl ?_
      refine go_iload_n (pc := 26) C dX7_ask_26 0 rfl rfl ?_
      refine go_cSi (pc := 27) C cs_X7_193 (ok_X7_bitsOf hf) rfl rfl rfl (by decide) rfl dX7_ask_27 (fun r12 S13 hf => ?_)
      refine go_istore (pc := 30) C dX7_ask_30 [(4, .int r12), (3, .int r9), (0, .ref ((tq_la X).1 28 0)), (1, .int p1), (2, .int p2)] (by decide) rfl ?_
      refine go_iload (pc := 32) C dX7_ask_32 0 rfl ?_
      refine go_istore (pc := 34) C dX7_ask_34 [(5, .int r12), (4, .int r12), (3, .int r9), (0, .ref ((tq_la X).1 28 0)), (1, .int p1), (2, .int p2)] (by decide) rfl ?_
      refine go_bipush (pc := 36) (v := (-4)) C dX7_ask_36 (by decide) ?_
      refine go_istore (pc := 38) C dX7_ask_38 [(6, .int (-4)), (5, .int r12), (4, .int r12), (3, .int r9), (0, .ref ((tq_la X).1 28 0)), (1, .int p1), (2, .int p2)] (by decide) rfl ?_
      refine go_iconst (pc := 40) (v := 0) C dX7_ask_40 (by decide) ?_
      refine go_istore (pc := 41) C dX7_ask_41 [(7, .int 0), (6, .int (-4)), (5, .int r12), (4, .int r12), (3, .int r9), (0, .ref ((tq_la X).1 28 0)), (1, .int p1), (2, .int p2)] (by decide) rfl ?_
      exact go_sub [5, 7, 4, 3, 2, 1, 0] rfl (wk_X7_ask_43 C hR 2000 _ _ _ _ _ _ _ hf)
    · have hf := hf.2 c8
      refine go_iconst (pc := 18) (v := (-1)) C dX7_ask_18 (by decide) ?_
      exact hR _ _ _ _ dX7_ask_19 hf
set_option maxRecDepth 100000 in
set_option maxHeartbeats 4000000 in
theorem ok_X7_ask {p1 : Int32} {p2 : Int32} {S : tq_St} {K : Int32 → tq_St → Prop} (hf : wp_X7_ask p1 p2 S K) : tq_Mi yX7_ask cX7_ask 10 (some .int) 8 (fun a z => [.ref (a.1 28 0), .int p1, .int p2]) S K :=
  tq_mkI (by decide) (fun _ _ => Nat.le_of_ble_eq_true rfl) (fun X C hR => wk_X7_ask C hR  hf)
set_option maxRecDepth 100000 in
set_option maxHeartbeats 4000000 in
theorem wk_X7_back {X : tq_Cx} {p1 : Int32} {S : tq_St} {K : Int32 → tq_St → Prop} (C : tq_C X cX7_back 2 RX7 2) (hR : tq_Ri X cX7_back 2 K) (hf : wp_X7_back p1 S K) : Go X 2 S 0 [(0, .ref ((tq_la X).1 28 0)), (1, .int p1)] [] := by
  refine go_iload_n (pc := 0) C dX7_back_0 1 rfl rfl ?_
  refine go_i2l (pc := 1) C dX7_back_1 ?_
  refine go_lconst (pc := 2) (v := 0) C dX7_back_2 (by decide) ?_
  refine go_lconst (pc := 3) (v := 1) C dX7_back_3 (by decide) ?_
  refine go_cSi (pc := 4) C cs_X7_49 (ok_X7_in hf) rfl rfl rfl (by decide) rfl dX7_back_4 (fun r1 S2 hf => ?_)
  refine go_if_ne (pc := 7) C dX7_back_7 12 (by decide) (fun c4 => ?_) (fun c4 => ?_)
  · have hf := hf.1 c4
    refine go_aload_n (pc := 12) C dX7_back_12 0 rfl rfl ?_
    refine ge_X7_X7_24 (pc := 13) C dX7_back_13 ?_
    refine go_iload_n (pc := 16) C dX7_back_16 1 rfl rfl ?_
    refine al_X7_24 (pc := 17) C hf.1 dX7_back_17 ?_
    have hf := hf.2
    refine go_if_ne (pc := 18) C dX7_back_18 24 (by decide) (fun c5 => ?_) (fun c5 => ?_)
    · have hf := hf.1 c5
      refine go_aload_n (pc := 24) C dX7_back_24 0 rfl rfl ?_
      refine go_bipush (pc := 25) (v := 28) C dX7_back_25 (by decide) ?_
      refine go_iload_n (pc := 27) C dX7_back_27 1 rfl rfl ?_
      refine go_iconst (pc := 28) (v := 1) C dX7_back_28 (by decide) ?_
      refine go_iadd (pc := 29) C dX7_back_29 ?_
      refine go_imul (pc := 30) C dX7_back_30 ?_
      refine go_iconst (pc := 31) (v := 0) C dX7_back_31 (by decide) ?_
      refine go_cVv (pc := 32) C cw_X7_196 (ok_X7_copies hf) (rc_X7 C) rfl rfl rfl (by decide) rfl dX7_back_32 (fun S7 hf => ?_)
      refine go_aload_n (pc := 35) C dX7_back_35 0 rfl rfl ?_
      refine ge_X7_X7_0 (pc := 36) C dX7_back_36 ?_
      refine go_bipush (pc := 39) (v := 16) C dX7_back_39 (by decide) ?_
      refine al_X7_0 (pc := 41) C hf.1 dX7_back_41 ?_
      have hf := hf.2
      exact hR _ _ _ _ dX7_back_42 hf
    · have hf := hf.2 c5
      refine go_bipush (pc := 21) (v := (-2)) C dX7_back_21 (by decide) ?_
      exact hR _ _ _ _ dX7_back_23 hf
  · have hf := hf.2 c4
    refine go_iconst (pc := 10) (v := (-1)) C dX7_back_10 (by decide) ?_
    exact hR _ _ _ _ dX7_back_11 hf
set_option maxRecDepth 100000 in
set_option maxHeartbeats 4000000 in
theorem ok_X7_back {p1 : Int32} {S : tq_St} {K : Int32 → tq_St → Prop} (hf : wp_X7_back p1 S K) : tq_Mi yX7_back cX7_back 2 (some .int) 2 (fun a z => [.ref (a.1 28 0), .int p1]) S K :=
  tq_mkI (by decide) (fun _ _ => Nat.le_of_ble_eq_true rfl) (fun X C hR => wk_X7_back C hR  hf)
set_option maxRecDepth 100000 in
set_option maxHeartbeats 4000000 in
theorem wk_X7_powerOf_4 {X : tq_Cx} {K : Int32 → tq_St → Prop} (C : tq_C X cX7_powerOf 4 RX7 1) (hR : tq_Ri X cX7_powerOf 4 K) : ∀ (n : Nat) (v0 : Int32) (v1 : Int32) (v2 : Int32) (v3 : Int32) (S : tq_St), wp_X7_powerOf_4 K n v0 v1 v2 v3 S → Go X 4 S 4 [(0, .int v0), (1, .int v1), (2, .int v2), (3, .int v3)] [] := by
  intro n
  induction n with
  | zero => intros; contradiction
  | succ n ih =>
    intro v0 v1 v2 v3 S hf
    refine go_iload_n (pc := 4) C dX7_powerOf_4 3 rfl rfl ?_
    refine go_iload_n (pc := 5) C dX7_powerOf_5 1 rfl rfl ?_
    refine go_ic_ge (pc := 6) C dX7_powerOf_6 19 (by decide) (fun c1 => ?_) (fun c1 => ?_)
    · have hf := hf.1 c1
      refine go_iload_n (pc := 19) C dX7_powerOf_19 2 rfl rfl ?_
      exact hR _ _ _ _ dX7_powerOf_20 hf
    · have hf := hf.2 c1
      refine go_iload_n (pc := 9) C dX7_powerOf_9 2 rfl rfl ?_
      refine go_iload_n (pc := 10) C dX7_powerOf_10 0 rfl rfl ?_
      refine go_imul (pc := 11) C dX7_powerOf_11 ?_
      refine go_nI (fun x2 e3 => ?_)
      have hf := hf x2 e3
      refine go_istore_n (pc := 12) C dX7_powerOf_12 [(2, .int x2), (0, .int v0), (1, .int v1), (3, .int v3)] rfl (by decide) rfl ?_
      obtain ⟨x4, e5⟩ : ∃ q9 : Int32, q9 = v3 + 1 := ⟨_, rfl⟩
      refine go_iinc (pc := 13) (j := 3) (v := x4) C dX7_powerOf_13 [(3, .int x4), (2, .int x2), (0, .int v0), (1, .int v1)] rfl (by rw [e5]; rfl) (by decide) rfl ?_
      have hf := hf x4 e5
      refine go_goto (pc := 16) C dX7_powerOf_16 4 (by decide) ?_
      exact go_sub [2, 3, 1, 0] rfl (ih _ _ _ _ _ hf)
set_option maxRecDepth 100000 in
set_option maxHeartbeats 4000000 in
theorem wk_X7_powerOf {X : tq_Cx} {p0 : Int32} {p1 : Int32} {S : tq_St} {K : Int32 → tq_St → Prop} (C : tq_C X cX7_powerOf 4 RX7 1) (hR : tq_Ri X cX7_powerOf 4 K) (hf : wp_X7_powerOf p0 p1 S K) : Go X 4 S 0 [(0, .int p0), (1, .int p1)] [] := by
  refine go_iconst (pc := 0) (v := 1) C dX7_powerOf_0 (by decide) ?_
  refine go_istore_n (pc := 1) C dX7_powerOf_1 [(2, .int 1), (0, .int p0), (1, .int p1)] rfl (by decide) rfl ?_
  refine go_iconst (pc := 2) (v := 0) C dX7_powerOf_2 (by decide) ?_
  refine go_istore_n (pc := 3) C dX7_powerOf_3 [(3, .int 0), (2, .int 1), (0, .int p0), (1, .int p1)] rfl (by decide) rfl ?_
  exact go_sub [2, 3, 1, 0] rfl (wk_X7_powerOf_4 C hR 2000 _ _ _ _ _ hf)
set_option maxRecDepth 100000 in
set_option maxHeartbeats 4000000 in
theorem ok_X7_powerOf {p0 : Int32} {p1 : Int32} {S : tq_St} {K : Int32 → tq_St → Prop} (hf : wp_X7_powerOf p0 p1 S K) : tq_Mi yX7_powerOf cX7_powerOf 4 (some .int) 1 (fun a z => [.int p0, .int p1]) S K :=
  tq_mkI (by decide) (fun _ _ => Nat.le_of_ble_eq_true rfl) (fun X C hR => wk_X7_powerOf C hR  hf)
set_option maxRecDepth 100000 in
set_option maxHeartbeats 4000000 in
theorem wk_X7_figureOf {X : tq_Cx} {p0 : Int32} {p1 : Int32} {p2 : Int32} {p3 : Int32} {S : tq_St} {K : Int32 → tq_St → Prop} (C : tq_C X cX7_figureOf 4 RX7 2) (hR : tq_Ri X cX7_figureOf 4 K) (hf : wp_X7_figureOf p0 p1 p2 p3 S K) : Go X 4 S 0 [(0, .int p0), (1, .int p1), (2, .int p2), (3, .int p3)] [] := by
  refine go_iload_n (pc := 0) C dX7_figureOf_0 0 rfl rfl ?_
  refine go_iload_n (pc := 1) C dX7_figureOf_1 1 rfl rfl ?_
  refine go_iload_n (pc := 2) C dX7_figureOf_2 2 rfl rfl ?_
  refine go_iconst (pc := 3) (v := 1) C dX7_figureOf_3 (by decide) ?_
  refine go_isub (pc := 4) C dX7_figureOf_4 ?_
  refine go_iload_n (pc := 5) C dX7_figureOf_5 3 rfl rfl ?_
  refine go_isub (pc := 6) C dX7_figureOf_6 ?_
  refine go_cSi (pc := 7) C cs_X7_217 (ok_X7_powerOf hf) rfl rfl rfl (by decide) rfl dX7_figureOf_7 (fun r1 S2 hf => ?_)
  refine go_idiv (pc := 10) C dX7_figureOf_10 hf.1 ?_
  have hf := hf.2
  refine go_iload_n (pc := 11) C dX7_figureOf_11 1 rfl rfl ?_
  refine go_irem (pc := 12) C dX7_figureOf_12 hf.1 ?_
  have hf := hf.2
  exact hR _ _ _ _ dX7_figureOf_13 hf
set_option maxRecDepth 100000 in
set_option maxHeartbeats 4000000 in
theorem ok_X7_figureOf {p0 : Int32} {p1 : Int32} {p2 : Int32} {p3 : Int32} {S : tq_St} {K : Int32 → tq_St → Prop} (hf : wp_X7_figureOf p0 p1 p2 p3 S K) : tq_Mi yX7_figureOf cX7_figureOf 4 (some .int) 2 (fun a z => [.int p0, .int p1, .int p2, .int p3]) S K :=
  tq_mkI (by decide) (fun _ _ => Nat.le_of_ble_eq_true rfl) (fun X C hR => wk_X7_figureOf C hR  hf)
set_option maxRecDepth 100000 in
set_option maxHeartbeats 4000000 in
theorem wk_X7_isAct {X : tq_Cx} {p1 : Int32} {S : tq_St} {K : Int32 → tq_St → Prop} (C : tq_C X cX7_isAct 2 RX7 3) (hR : tq_Rz X cX7_isAct 2 K) (hf : wp_X7_isAct p1 S K) : Go X 2 S 0 [(0, .ref ((tq_la X).1 28 0)), (1, .int p1)] [] := by
  refine go_aload_n (pc := 0) C dX7_isAct_0 0 rfl rfl ?_
  refine go_iload_n (pc := 1) C dX7_isAct_1 1 rfl rfl ?_
  refine go_cVi (pc := 2) C cw_X7_158 (ok_X7_isOne hf) (rc_X7 C) rfl rfl rfl (by decide) rfl dX7_isAct_2 (fun r1 S2 hf => ?_)
  refine go_if_ne (pc := 5) C dX7_isAct_5 19 (by decide) (fun c4 => ?_) (fun c4 => ?_)
  · have hf := hf.1 c4
    refine go_iconst (pc := 19) (v := 1) C dX7_isAct_19 (by decide) ?_
    refine go_goto (pc := 20) C dX7_isAct_20 24 (by decide) ?_
    exact hR _ _ _ _ dX7_isAct_24 (Or.inr rfl) hf
  · have hf := hf.2 c4
    refine go_iload_n (pc := 8) C dX7_isAct_8 1 rfl rfl ?_
    refine go_iconst (pc := 9) (v := 5) C dX7_isAct_9 (by decide) ?_
    refine go_ic_eq (pc := 10) C dX7_isAct_10 19 (by decide) (fun c5 => ?_) (fun c5 => ?_)
    · have hf := hf.1 c5
      refine go_iconst (pc := 19) (v := 1) C dX7_isAct_19 (by decide) ?_
      refine go_goto (pc := 20) C dX7_isAct_20 24 (by decide) ?_
      exact hR _ _ _ _ dX7_isAct_24 (Or.inr rfl) hf
    · have hf := hf.2 c5
      refine go_iload_n (pc := 13) C dX7_isAct_13 1 rfl rfl ?_
      refine go_bipush (pc := 14) (v := 6) C dX7_isAct_14 (by decide) ?_
      refine go_ic_ne (pc := 16) C dX7_isAct_16 23 (by decide) (fun c6 => ?_) (fun c6 => ?_)
      · have hf := hf.1 c6
        refine go_iconst (pc := 23) (v := 0) C dX7_isAct_23 (by decide) ?_
        exact hR _ _ _ _ dX7_isAct_24 (Or.inl rfl) hf
      · have hf := hf.2 c6
        refine go_iconst (pc := 19) (v := 1) C dX7_isAct_19 (by decide) ?_
        refine go_goto (pc := 20) C dX7_isAct_20 24 (by decide) ?_
        exact hR _ _ _ _ dX7_isAct_24 (Or.inr rfl) hf
set_option maxRecDepth 100000 in
set_option maxHeartbeats 4000000 in
theorem ok_X7_isAct {p1 : Int32} {S : tq_St} {K : Int32 → tq_St → Prop} (hf : wp_X7_isAct p1 S K) : tq_Mi yX7_isAct cX7_isAct 2 (some .boolean) 3 (fun a z => [.ref (a.1 28 0), .int p1]) S K :=
  tq_mkZ (by decide) (fun _ _ => Nat.le_of_ble_eq_true rfl) (fun X C hR => wk_X7_isAct C hR  hf)
set_option maxRecDepth 100000 in
set_option maxHeartbeats 4000000 in
theorem wk_X7_rowGoes_8 {X : tq_Cx} {K : Int32 → tq_St → Prop} (C : tq_C X cX7_rowGoes 6 RX7 5) (hR : tq_Rz X cX7_rowGoes 6 K) : ∀ (n : Nat) (v1 : Int32) (v2 : Int32) (v3 : Int32) (v4 : Int32) (S : tq_St), wp_X7_rowGoes_8 K n v1 v2 v3 v4 S → Go X 6 S 8 [(0, .ref ((tq_la X).1 28 0)), (1, .int v1), (2, .int v2), (3, .int v3), (4, .int v4)] [] := by
  intro n
  induction n with
  | zero => intros; contradiction
  | succ n ih =>
    intro v1 v2 v3 v4 S hf
    refine go_iload (pc := 8) C dX7_rowGoes_8 4 rfl ?_
    refine go_iload_n (pc := 10) C dX7_rowGoes_10 3 rfl rfl ?_
    refine go_ic_ge (pc := 11) C dX7_rowGoes_11 48 (by decide) (fun c4 => ?_) (fun c4 => ?_)
    · have hf := hf.1 c4
      refine go_iconst (pc := 48) (v := 1) C dX7_rowGoes_48 (by decide) ?_
      exact hR _ _ _ _ dX7_rowGoes_49 (Or.inr rfl) hf
    · have hf := hf.2 c4
      refine go_iload_n (pc := 14) C dX7_rowGoes_14 1 rfl rfl ?_
      refine go_iload_n (pc := 15) C dX7_rowGoes_15 2 rfl rfl ?_
      refine go_iload_n (pc := 16) C dX7_rowGoes_16 3 rfl rfl ?_
      refine go_iload (pc := 17) C dX7_rowGoes_17 4 rfl ?_
      refine go_cSi (pc := 19) C cs_X7_220 (ok_X7_figureOf hf) rfl rfl rfl (by decide) rfl dX7_rowGoes_19 (fun r5 S6 hf => ?_)
      refine go_istore (pc := 22) C dX7_rowGoes_22 [(5, .int r5), (0, .ref ((tq_la X).1 28 0)), (1, .int v1), (2, .int v2), (3, .int v3), (4, .int v4)] (by decide) rfl ?_
      refine go_aload_n (pc := 24) C dX7_rowGoes_24 1 rfl rfl ?_
      refine go_iload (pc := 25) C dX7_rowGoes_25 0 rfl ?_
      refine go_cVi (pc := 27) C cw_X7_179 (ok_X7_isAct hf) (rc_X7 C) rfl rfl rfl (by decide) rfl dX7_rowGoes_27 (fun r8 S9 hf => ?_)
      refine go_if_ne (pc := 30) C dX7_rowGoes_30 35 (by decide) (fun c11 => ?_) (fun c11 => ?_)
      · have hf := hf.1 c11
        refine go_aload_n (pc := 35) C dX7_rowGoes_35 1 rfl rfl ?_
        refine go_iload (pc := 36) C dX7_rowGoes_36 0 rfl ?_
        refine go_cVi (pc := 38) C cw_X7_211 (ok_X7_acts hf) (rc_X7 C) rfl rfl rfl (by decide) rfl dX7_rowGoes_38 (fun r12 S13 hf => ?_)
        refine go_pop (pc := 41) C dX7_rowGoes_41 rfl ?_
        obtain ⟨x15, e16⟩ : ∃ q9 : Int32, q9 = v4 + 1 := ⟨_, rfl⟩
        refine go_iinc (pc := 42) (j := 5) (v := x15) C dX7_rowGoes_42 [(4, .int x15), (5, .int r5), (0, .ref ((tq_la X).1 28 0)), (1, .int v1), (2, .int v2), (3, .int v3)] rfl (by rw [e16]; rfl) (by decide) rfl ?_
        have hf := hf x15 e16
        refine go_goto (pc := 45) C dX7_rowGoes_45 8 (by decide) ?_
        exact go_sub [2, 3, 4, 5, 0] rfl (ih _ _ _ _ _ hf)
      · have hf := hf.2 c11
        refine go_iconst (pc := 33) (v := 0) C dX7_rowGoes_33 (by decide) ?_
        exact hR _ _ _ _ dX7_rowGoes_34 (Or.inl rfl) hf
set_option maxRecDepth 100000 in
set_option maxHeartbeats 4000000 in
theorem wk_X7_rowGoes {X : tq_Cx} {p1 : Int32} {p2 : Int32} {p3 : Int32} {S : tq_St} {K : Int32 → tq_St → Prop} (C : tq_C X cX7_rowGoes 6 RX7 5) (hR : tq_Rz X cX7_rowGoes 6 K) (hf : wp_X7_rowGoes p1 p2 p3 S K) : Go X 6 S 0 [(0, .ref ((tq_la X).1 28 0)), (1, .int p1), (2, .int p2), (3, .int p3)] [] := by
  refine go_aload_n (pc := 0) C dX7_rowGoes_0 0 rfl rfl ?_
  refine go_iconst (pc := 1) (v := 0) C dX7_rowGoes_1 (by decide) ?_
  refine go_cVv (pc := 2) C cw_X7_208 (ok_X7_begins hf) (rc_X7 C) rfl rfl rfl (by decide) rfl dX7_rowGoes_2 (fun S2 hf => ?_)
  refine go_iconst (pc := 5) (v := 0) C dX7_rowGoes_5 (by decide) ?_
  refine go_istore (pc := 6) C dX7_rowGoes_6 [(4, .int 0), (0, .ref ((tq_la X).1 28 0)), (1, .int p1), (2, .int p2), (3, .int p3)] (by decide) rfl ?_
  exact go_sub [1, 2, 3, 4, 0] rfl (wk_X7_rowGoes_8 C hR 2000 _ _ _ _ _ hf)
set_option maxRecDepth 100000 in
set_option maxHeartbeats 4000000 in
theorem ok_X7_rowGoes {p1 : Int32} {p2 : Int32} {p3 : Int32} {S : tq_St} {K : Int32 → tq_St → Prop} (hf : wp_X7_rowGoes p1 p2 p3 S K) : tq_Mi yX7_rowGoes cX7_rowGoes 6 (some .boolean) 5 (fun a z => [.ref (a.1 28 0), .int p1, .int p2, .int p3]) S K :=
  tq_mkZ (by decide) (fun _ _ => Nat.le_of_ble_eq_true rfl) (fun X C hR => wk_X7_rowGoes C hR  hf)
set_option maxRecDepth 100000 in
set_option maxHeartbeats 4000000 in
theorem wk_X7_best_134 {X : tq_Cx} {K : Int32 → tq_St → Prop} (C : tq_C X cX7_best 9 RX7 6) (hR : tq_Ri X cX7_best 9 K) {rec49 : Int32 → Int32 → Int32 → Int32 → Int32 → Int32 → tq_St → Prop} (hrec49 : ∀ (v1 : Int32) (v2 : Int32) (v3 : Int32) (v4 : Int32) (v5 : Int32) (v6 : Int32) (S : tq_St), rec49 v1 v2 v3 v4 v5 v6 S → Go X 9 S 49 [(0, .ref ((tq_la X).1 28 0)), (1, .int v1), (2, .int v2), (3, .int v3), (4, .int v4), (5, .int v5), (6, .int v6)] []) : ∀ (v1 : Int32) (v2 : Int32) (v4 : Int32) (v5 : Int32) (v6 : Int32) (v8 : Int32) (w0 : Int32) (S : tq_St), wp_X7_best_134 K rec49 v1 v2 v4 v5 v6 v8 w0 S → Go X 9 S 134 [(0, .ref ((tq_la X).1 28 0)), (1, .int v1), (2, .int v2), (4, .int v4), (5, .int v5), (6, .int v6), (8, .int v8)] [.int w0] := by
  intro v1 v2 v4 v5 v6 v8 w0 S hf
  refine go_istore_n (pc := 134) C dX7_best_134 [(3, .int w0), (0, .ref ((tq_la X).1 28 0)), (1, .int v1), (2, .int v2), (4, .int v4), (5, .int v5), (6, .int v6), (8, .int v8)] rfl (by decide) rfl ?_
  refine go_iload (pc := 135) C dX7_best_135 7 rfl ?_
  refine go_if_eq (pc := 137) C dX7_best_137 147 (by decide) (fun c31 => ?_) (fun c31 => ?_)
  · have hf := hf.1 c31
    refine go_iload (pc := 147) C dX7_best_147 4 rfl ?_
    refine go_istore (pc := 149) C dX7_best_149 [(4, .int v4), (3, .int w0), (0, .ref ((tq_la X).1 28 0)), (1, .int v1), (2, .int v2), (5, .int v5), (6, .int v6), (8, .int v8)] (by decide) rfl ?_
    obtain ⟨x32, e33⟩ : ∃ q9 : Int32, q9 = v6 + 1 := ⟨_, rfl⟩
    refine go_iinc (pc := 151) (j := 6) (v := x32) C dX7_best_151 [(6, .int x32), (4, .int v4), (3, .int w0), (0, .ref ((tq_la X).1 28 0)), (1, .int v1), (2, .int v2), (5, .int v5), (8, .int v8)] rfl (by rw [e33]; rfl) (by decide) rfl ?_
    have hf := hf x32 e33
    refine go_goto (pc := 154) C dX7_best_154 49 (by decide) ?_
    exact go_sub [3, 4, 5, 2, 1, 6, 0] rfl (hrec49 _ _ _ _ _ _ _ hf)
  · have hf := hf.2 c31
    refine go_aload_n (pc := 140) C dX7_best_140 1 rfl rfl ?_
    refine ge_X7_X7_19 (pc := 141) C dX7_best_141 ?_
    refine go_goto (pc := 144) C dX7_best_144 149 (by decide) ?_
    refine go_nI (fun x34 e35 => ?_)
    have hf := hf x34 e35
    refine go_istore (pc := 149) C dX7_best_149 [(4, .int x34), (3, .int w0), (0, .ref ((tq_la X).1 28 0)), (1, .int v1), (2, .int v2), (5, .int v5), (6, .int v6), (8, .int v8)] (by decide) rfl ?_
    obtain ⟨x36, e37⟩ : ∃ q9 : Int32, q9 = v6 + 1 := ⟨_, rfl⟩
    refine go_iinc (pc := 151) (j := 6) (v := x36) C dX7_best_151 [(6, .int x36), (4, .int x34), (3, .int w0), (0, .ref ((tq_la X).1 28 0)), (1, .int v1), (2, .int v2), (5, .int v5), (8, .int v8)] rfl (by rw [e37]; rfl) (by decide) rfl ?_
    have hf := hf x36 e37
    refine go_goto (pc := 154) C dX7_best_154 49 (by decide) ?_
    exact go_sub [3, 4, 5, 2, 1, 6, 0] rfl (hrec49 _ _ _ _ _ _ _ hf)
set_option maxRecDepth 100000 in
set_option maxHeartbeats 4000000 in
theorem wk_X7_best_121 {X : tq_Cx} {K : Int32 → tq_St → Prop} (C : tq_C X cX7_best 9 RX7 6) (hR : tq_Ri X cX7_best 9 K) {rec49 : Int32 → Int32 → Int32 → Int32 → Int32 → Int32 → tq_St → Prop} (hrec49 : ∀ (v1 : Int32) (v2 : Int32) (v3 : Int32) (v4 : Int32) (v5 : Int32) (v6 : Int32) (S : tq_St), rec49 v1 v2 v3 v4 v5 v6 S → Go X 9 S 49 [(0, .ref ((tq_la X).1 28 0)), (1, .int v1), (2, .int v2), (3, .int v3), (4, .int v4), (5, .int v5), (6, .int v6)] []) : ∀ (v1 : Int32) (v2 : Int32) (v3 : Int32) (v4 : Int32) (v6 : Int32) (v7 : Int32) (v8 : Int32) (w0 : Int32) (S : tq_St), wp_X7_best_121 K rec49 v1 v2 v3 v4 v6 v7 v8 w0 S → Go X 9 S 121 [(0, .ref ((tq_la X).1 28 0)), (1, .int v1), (2, .int v2), (3, .int v3), (4, .int v4), (6, .int v6), (7, .int v7), (8, .int v8)] [.int w0] := by
  intro v1 v2 v3 v4 v6 v7 v8 w0 S hf
  refine go_istore (pc := 121) C dX7_best_121 [(5, .int w0), (0, .ref ((tq_la X).1 28 0)), (1, .int v1), (2, .int v2), (3, .int v3), (4, .int v4), (6, .int v6), (7, .int v7), (8, .int v8)] (by decide) rfl ?_
  refine go_iload (pc := 123) C dX7_best_123 8 rfl ?_
  refine go_if_eq (pc := 125) C dX7_best_125 133 (by decide) (fun c30 => ?_) (fun c30 => ?_)
  · have hf := hf.1 c30
    refine go_iload_n (pc := 133) C dX7_best_133 4 rfl rfl ?_
    exact go_sub [1, 2, 3, 5, 0, 6, 8] rfl (wk_X7_best_134 C hR hrec49 _ _ _ _ _ _ _ _ hf)
  · have hf := hf.2 c30
    refine go_iload (pc := 128) C dX7_best_128 7 rfl ?_
    refine go_goto (pc := 130) C dX7_best_130 134 (by decide) ?_
    exact go_sub [1, 2, 3, 5, 0, 6, 8] rfl (wk_X7_best_134 C hR hrec49 _ _ _ _ _ _ _ _ hf)
set_option maxRecDepth 100000 in
set_option maxHeartbeats 4000000 in
theorem wk_X7_best_107 {X : tq_Cx} {K : Int32 → tq_St → Prop} (C : tq_C X cX7_best 9 RX7 6) (hR : tq_Ri X cX7_best 9 K) {rec49 : Int32 → Int32 → Int32 → Int32 → Int32 → Int32 → tq_St → Prop} (hrec49 : ∀ (v1 : Int32) (v2 : Int32) (v3 : Int32) (v4 : Int32) (v5 : Int32) (v6 : Int32) (S : tq_St), rec49 v1 v2 v3 v4 v5 v6 S → Go X 9 S 49 [(0, .ref ((tq_la X).1 28 0)), (1, .int v1), (2, .int v2), (3, .int v3), (4, .int v4), (5, .int v5), (6, .int v6)] []) : ∀ (v1 : Int32) (v2 : Int32) (v3 : Int32) (v4 : Int32) (v5 : Int32) (v6 : Int32) (v7 : Int32) (w0 : Int32) (S : tq_St), wp_X7_best_107 K rec49 v1 v2 v3 v4 v5 v6 v7 w0 S → Go X 9 S 107 [(0, .ref ((tq_la X).1 28 0)), (1, .int v1), (2, .int v2), (3, .int v3), (4, .int v4), (5, .int v5), (6, .int v6), (7, .int v7)] [.int w0] := by
  intro v1 v2 v3 v4 v5 v6 v7 w0 S hf
  refine go_istore (pc := 107) C dX7_best_107 [(8, .int w0), (0, .ref ((tq_la X).1 28 0)), (1, .int v1), (2, .int v2), (3, .int v3), (4, .int v4), (5, .int v5), (6, .int v6), (7, .int v7)] (by decide) rfl ?_
  refine go_iload (pc := 109) C dX7_best_109 0 rfl ?_
  refine go_if_eq (pc := 111) C dX7_best_111 119 (by decide) (fun c29 => ?_) (fun c29 => ?_)
  · have hf := hf.1 c29
    refine go_iload (pc := 119) C dX7_best_119 6 rfl ?_
    exact go_sub [1, 2, 3, 4, 5, 7, 8, 0] rfl (wk_X7_best_121 C hR hrec49 _ _ _ _ _ _ _ _ _ hf)
  · have hf := hf.2 c29
    refine go_iload (pc := 114) C dX7_best_114 7 rfl ?_
    refine go_goto (pc := 116) C dX7_best_116 121 (by decide) ?_
    exact go_sub [1, 2, 3, 4, 5, 7, 8, 0] rfl (wk_X7_best_121 C hR hrec49 _ _ _ _ _ _ _ _ _ hf)
set_option maxRecDepth 100000 in
set_option maxHeartbeats 4000000 in
theorem wk_X7_best_102 {X : tq_Cx} {K : Int32 → tq_St → Prop} (C : tq_C X cX7_best 9 RX7 6) (hR : tq_Ri X cX7_best 9 K) {rec49 : Int32 → Int32 → Int32 → Int32 → Int32 → Int32 → tq_St → Prop} (hrec49 : ∀ (v1 : Int32) (v2 : Int32) (v3 : Int32) (v4 : Int32) (v5 : Int32) (v6 : Int32) (S : tq_St), rec49 v1 v2 v3 v4 v5 v6 S → Go X 9 S 49 [(0, .ref ((tq_la X).1 28 0)), (1, .int v1), (2, .int v2), (3, .int v3), (4, .int v4), (5, .int v5), (6, .int v6)] []) : ∀ (v1 : Int32) (v2 : Int32) (v3 : Int32) (v4 : Int32) (v5 : Int32) (v6 : Int32) (v7 : Int32) (S : tq_St), wp_X7_best_102 K rec49 v1 v2 v3 v4 v5 v6 v7 S → Go X 9 S 102 [(0, .ref ((tq_la X).1 28 0)), (1, .int v1), (2, .int v2), (3, .int v3), (4, .int v4), (5, .int v5), (6, .int v6), (7, .int v7)] [] := by
  intro v1 v2 v3 v4 v5 v6 v7 S hf
  refine go_iconst (pc := 102) (v := 1) C dX7_best_102 (by decide) ?_
  refine go_goto (pc := 103) C dX7_best_103 107 (by decide) ?_
  exact go_sub [0, 1, 2, 3, 4, 5, 6, 7] rfl (wk_X7_best_107 C hR hrec49 _ _ _ _ _ _ _ _ _ hf)
set_option maxRecDepth 100000 in
set_option maxHeartbeats 4000000 in
theorem wk_X7_best_106 {X : tq_Cx} {K : Int32 → tq_St → Prop} (C : tq_C X cX7_best 9 RX7 6) (hR : tq_Ri X cX7_best 9 K) {rec49 : Int32 → Int32 → Int32 → Int32 → Int32 → Int32 → tq_St → Prop} (hrec49 : ∀ (v1 : Int32) (v2 : Int32) (v3 : Int32) (v4 : Int32) (v5 : Int32) (v6 : Int32) (S : tq_St), rec49 v1 v2 v3 v4 v5 v6 S → Go X 9 S 49 [(0, .ref ((tq_la X).1 28 0)), (1, .int v1), (2, .int v2), (3, .int v3), (4, .int v4), (5, .int v5), (6, .int v6)] []) : ∀ (v1 : Int32) (v2 : Int32) (v3 : Int32) (v4 : Int32) (v5 : Int32) (v6 : Int32) (v7 : Int32) (S : tq_St), wp_X7_best_106 K rec49 v1 v2 v3 v4 v5 v6 v7 S → Go X 9 S 106 [(0, .ref ((tq_la X).1 28 0)), (1, .int v1), (2, .int v2), (3, .int v3), (4, .int v4), (5, .int v5), (6, .int v6), (7, .int v7)] [] := by
  intro v1 v2 v3 v4 v5 v6 v7 S hf
  refine go_iconst (pc := 106) (v := 0) C dX7_best_106 (by decide) ?_
  exact go_sub [0, 1, 2, 3, 4, 5, 6, 7] rfl (wk_X7_best_107 C hR hrec49 _ _ _ _ _ _ _ _ _ hf)
set_option maxRecDepth 100000 in
set_option maxHeartbeats 4000000 in
theorem wk_X7_best_49 {X : tq_Cx} {K : Int32 → tq_St → Prop} (C : tq_C X cX7_best 9 RX7 6) (hR : tq_Ri X cX7_best 9 K) : ∀ (n : Nat) (v1 : Int32) (v2 : Int32) (v3 : Int32) (v4 : Int32) (v5 : Int32) (v6 : Int32) (S : tq_St), wp_X7_best_49 K n v1 v2 v3 v4 v5 v6 S → Go X 9 S 49 [(0, .ref ((tq_la X).1 28 0)), (1, .int v1), (2, .int v2), (3, .int v3), (4, .int v4), (5, .int v5), (6, .int v6)] [] := by
  intro n
  induction n with
  | zero => intros; contradiction
  | succ n ih =>
    intro v1 v2 v3 v4 v5 v6 S hf
    refine go_iload (pc := 49) C dX7_best_49 6 rfl ?_
    refine go_bipush (pc := 51) (v := 6) C dX7_best_51 (by decide) ?_
    refine go_iload_n (pc := 53) C dX7_best_53 1 rfl rfl ?_
    refine go_cSi (pc := 54) C cs_X7_217 (ok_X7_powerOf hf) rfl rfl rfl (by decide) rfl dX7_best_54 (fun r9 S10 hf => ?_)
    refine go_ic_ge (pc := 57) C dX7_best_57 157 (by decide) (fun c12 => ?_) (fun c12 => ?_)
    · have hf := hf.1 c12
      refine go_iload_n (pc := 157) C dX7_best_157 2 rfl rfl ?_
      refine go_if_ne (pc := 158) C dX7_best_158 165 (by decide) (fun c13 => ?_) (fun c13 => ?_)
      · have hf := hf.1 c13
        refine go_iload_n (pc := 165) C dX7_best_165 2 rfl rfl ?_
        refine go_iconst (pc := 166) (v := 1) C dX7_best_166 (by decide) ?_
        refine go_ic_ne (pc := 167) C dX7_best_167 175 (by decide) (fun c14 => ?_) (fun c14 => ?_)
        · have hf := hf.1 c14
          refine go_iload_n (pc := 175) C dX7_best_175 2 rfl rfl ?_
          refine go_bipush (pc := 176) (v := 10) C dX7_best_176 (by decide) ?_
          refine go_isub (pc := 178) C dX7_best_178 ?_
          refine go_iload_n (pc := 179) C dX7_best_179 1 rfl rfl ?_
          refine go_ic_ge (pc := 180) C dX7_best_180 198 (by decide) (fun c15 => ?_) (fun c15 => ?_)
          · have hf := hf.1 c15
            refine go_bipush (pc := 198) (v := (-4)) C dX7_best_198 (by decide) ?_
            exact hR _ _ _ _ dX7_best_200 hf
          · have hf := hf.2 c15
            refine go_iload (pc := 183) C dX7_best_183 5 rfl ?_
            refine go_bipush (pc := 185) (v := 6) C dX7_best_185 (by decide) ?_
            refine go_iload_n (pc := 187) C dX7_best_187 1 rfl rfl ?_
            refine go_iload_n (pc := 188) C dX7_best_188 2 rfl rfl ?_
            refine go_bipush (pc := 189) (v := 10) C dX7_best_189 (by decide) ?_
            refine go_isub (pc := 191) C dX7_best_191 ?_
            refine go_cSi (pc := 192) C cs_X7_220 (ok_X7_figureOf hf) rfl rfl rfl (by decide) rfl dX7_best_192 (fun r16 S17 hf => ?_)
            refine go_goto (pc := 195) C dX7_best_195 200 (by decide) ?_
            exact hR _ _ _ _ dX7_best_200 hf
        · have hf := hf.2 c14
          refine go_iload (pc := 170) C dX7_best_170 4 rfl ?_
          refine go_goto (pc := 172) C dX7_best_172 200 (by decide) ?_
          exact hR _ _ _ _ dX7_best_200 hf
      · have hf := hf.2 c13
        refine go_iload_n (pc := 161) C dX7_best_161 3 rfl rfl ?_
        refine go_goto (pc := 162) C dX7_best_162 200 (by decide) ?_
        exact hR _ _ _ _ dX7_best_200 hf
    · have hf := hf.2 c12
      refine go_aload_n (pc := 60) C dX7_best_60 0 rfl rfl ?_
      refine go_iload (pc := 61) C dX7_best_61 6 rfl ?_
      refine go_bipush (pc := 63) (v := 6) C dX7_best_63 (by decide) ?_
      refine go_iload_n (pc := 65) C dX7_best_65 1 rfl rfl ?_
      refine go_cVi (pc := 66) C cw_X7_228 (ok_X7_rowGoes hf) (rc_X7 C) rfl rfl rfl (by decide) rfl dX7_best_66 (fun r19 S20 hf => ?_)
      refine go_if_eq (pc := 69) C dX7_best_69 151 (by decide) (fun c22 => ?_) (fun c22 => ?_)
      · have hf := hf.1 c22
        obtain ⟨x23, e24⟩ : ∃ q9 : Int32, q9 = v6 + 1 := ⟨_, rfl⟩
        refine go_iinc (pc := 151) (j := 6) (v := x23) C dX7_best_151 [(6, .int x23), (0, .ref ((tq_la X).1 28 0)), (1, .int v1), (2, .int v2), (3, .int v3), (4, .int v4), (5, .int v5)] rfl (by rw [e24]; rfl) (by decide) rfl ?_
        have hf := hf x23 e24
        refine go_goto (pc := 154) C dX7_best_154 49 (by decide) ?_
        exact go_sub [1, 2, 3, 4, 5, 6, 0] rfl (ih _ _ _ _ _ _ _ hf)
      · have hf := hf.2 c22
        refine go_aload_n (pc := 72) C dX7_best_72 0 rfl rfl ?_
        refine ge_X7_X7_18 (pc := 73) C dX7_best_73 ?_
        refine go_cSi (pc := 76) C cs_X7_193 (ok_X7_bitsOf hf) rfl rfl rfl (by decide) rfl dX7_best_76 (fun r25 S26 hf => ?_)
        refine go_istore (pc := 79) C dX7_best_79 [(7, .int r25), (0, .ref ((tq_la X).1 28 0)), (1, .int v1), (2, .int v2), (3, .int v3), (4, .int v4), (5, .int v5), (6, .int v6)] (by decide) rfl ?_
        refine go_iload (pc := 81) C dX7_best_81 0 rfl ?_
        refine go_iload_n (pc := 83) C dX7_best_83 4 rfl rfl ?_
        refine go_ic_gt (pc := 84) C dX7_best_84 102 (by decide) (fun c28 => ?_) (fun c28 => ?_)
        · have hf := hf.1 c28
          exact go_sub [1, 2, 3, 4, 5, 6, 7, 0] rfl (wk_X7_best_102 C hR ih _ _ _ _ _ _ _ _ hf)
        · have hf := hf.2 c28
          refine go_iload (pc := 87) C dX7_best_87 0 rfl ?_
          refine go_iload_n (pc := 89) C dX7_best_89 4 rfl rfl ?_
          refine go_ic_ne (pc := 90) C dX7_best_90 106 (by decide) (fun c38 => ?_) (fun c38 => ?_)
          · have hf := hf.1 c38
            exact go_sub [1, 2, 3, 4, 5, 6, 7, 0] rfl (wk_X7_best_106 C hR ih _ _ _ _ _ _ _ _ hf)
          · have hf := hf.2 c38
            refine go_aload_n (pc := 93) C dX7_best_93 1 rfl rfl ?_
            refine ge_X7_X7_19 (pc := 94) C dX7_best_94 ?_
            refine go_iload (pc := 97) C dX7_best_97 5 rfl ?_
            refine go_ic_le (pc := 99) C dX7_best_99 106 (by decide) (fun c39 => ?_) (fun c39 => ?_)
            · have hf := hf.1 c39
              exact go_sub [1, 2, 3, 4, 5, 6, 7, 0] rfl (wk_X7_best_106 C hR ih _ _ _ _ _ _ _ _ hf)
            · have hf := hf.2 c39
              exact go_sub [1, 2, 3, 4, 5, 6, 7, 0] rfl (wk_X7_best_102 C hR ih _ _ _ _ _ _ _ _ hf)
set_option maxRecDepth 100000 in
set_option maxHeartbeats 4000000 in
theorem wk_X7_best_38 {X : tq_Cx} {K : Int32 → tq_St → Prop} (C : tq_C X cX7_best 9 RX7 6) (hR : tq_Ri X cX7_best 9 K) : ∀ (v1 : Int32) (v2 : Int32) (S : tq_St), wp_X7_best_38 K v1 v2 S → Go X 9 S 38 [(0, .ref ((tq_la X).1 28 0)), (1, .int v1), (2, .int v2)] [] := by
  intro v1 v2 S hf
  refine go_iconst (pc := 38) (v := (-1)) C dX7_best_38 (by decide) ?_
  refine go_istore_n (pc := 39) C dX7_best_39 [(3, .int (-1)), (0, .ref ((tq_la X).1 28 0)), (1, .int v1), (2, .int v2)] rfl (by decide) rfl ?_
  refine go_iconst (pc := 40) (v := (-1)) C dX7_best_40 (by decide) ?_
  refine go_istore (pc := 41) C dX7_best_41 [(4, .int (-1)), (3, .int (-1)), (0, .ref ((tq_la X).1 28 0)), (1, .int v1), (2, .int v2)] (by decide) rfl ?_
  refine go_iconst (pc := 43) (v := 0) C dX7_best_43 (by decide) ?_
  refine go_istore (pc := 44) C dX7_best_44 [(5, .int 0), (4, .int (-1)), (3, .int (-1)), (0, .ref ((tq_la X).1 28 0)), (1, .int v1), (2, .int v2)] (by decide) rfl ?_
  refine go_iconst (pc := 46) (v := 0) C dX7_best_46 (by decide) ?_
  refine go_istore (pc := 47) C dX7_best_47 [(6, .int 0), (5, .int 0), (4, .int (-1)), (3, .int (-1)), (0, .ref ((tq_la X).1 28 0)), (1, .int v1), (2, .int v2)] (by decide) rfl ?_
  exact go_sub [4, 5, 6, 3, 2, 1, 0] rfl (wk_X7_best_49 C hR 2000 _ _ _ _ _ _ _ hf)
set_option maxRecDepth 100000 in
set_option maxHeartbeats 4000000 in
theorem wk_X7_best {X : tq_Cx} {p1 : Int32} {p2 : Int32} {S : tq_St} {K : Int32 → tq_St → Prop} (C : tq_C X cX7_best 9 RX7 6) (hR : tq_Ri X cX7_best 9 K) (hf : wp_X7_best p1 p2 S K) : Go X 9 S 0 [(0, .ref ((tq_la X).1 28 0)), (1, .int p1), (2, .int p2)] [] := by
  refine go_iload_n (pc := 0) C dX7_best_0 1 rfl rfl ?_
  refine go_i2l (pc := 1) C dX7_best_1 ?_
  refine go_lconst (pc := 2) (v := 0) C dX7_best_2 (by decide) ?_
  refine go_ldc2 (pc := 3) C kl_X7_165 dX7_best_3 ?_
  refine go_cSi (pc := 6) C cs_X7_49 (ok_X7_in hf) rfl rfl rfl (by decide) rfl dX7_best_6 (fun r1 S2 hf => ?_)
  refine go_if_eq (pc := 9) C dX7_best_9 36 (by decide) (fun c4 => ?_) (fun c4 => ?_)
  · have hf := hf.1 c4
    refine go_iconst (pc := 36) (v := (-1)) C dX7_best_36 (by decide) ?_
    exact hR _ _ _ _ dX7_best_37 hf
  · have hf := hf.2 c4
    refine go_iload_n (pc := 12) C dX7_best_12 2 rfl rfl ?_
    refine go_i2l (pc := 13) C dX7_best_13 ?_
    refine go_lconst (pc := 14) (v := 0) C dX7_best_14 (by decide) ?_
    refine go_lconst (pc := 15) (v := 1) C dX7_best_15 (by decide) ?_
    refine go_cSi (pc := 16) C cs_X7_49 (ok_X7_in hf) rfl rfl rfl (by decide) rfl dX7_best_16 (fun r5 S6 hf => ?_)
    refine go_if_ne (pc := 19) C dX7_best_19 38 (by decide) (fun c8 => ?_) (fun c8 => ?_)
    · have hf := hf.1 c8
      exact go_sub [0, 1, 2] rfl (wk_X7_best_38 C hR _ _ _ hf)
    · have hf := hf.2 c8
      refine go_iload_n (pc := 22) C dX7_best_22 2 rfl rfl ?_
      refine go_i2l (pc := 23) C dX7_best_23 ?_
      refine go_ldc2 (pc := 24) C kl_X7_224 dX7_best_24 ?_
      refine go_ldc2 (pc := 27) C kl_X7_226 dX7_best_27 ?_
      refine go_cSi (pc := 30) C cs_X7_49 (ok_X7_in hf) rfl rfl rfl (by decide) rfl dX7_best_30 (fun r40 S41 hf => ?_)
      refine go_if_ne (pc := 33) C dX7_best_33 38 (by decide) (fun c43 => ?_) (fun c43 => ?_)
      · have hf := hf.1 c43
        exact go_sub [0, 1, 2] rfl (wk_X7_best_38 C hR _ _ _ hf)
      · have hf := hf.2 c43
        refine go_iconst (pc := 36) (v := (-1)) C dX7_best_36 (by decide) ?_
        exact hR _ _ _ _ dX7_best_37 hf
set_option maxRecDepth 100000 in
set_option maxHeartbeats 4000000 in
theorem ok_X7_best {p1 : Int32} {p2 : Int32} {S : tq_St} {K : Int32 → tq_St → Prop} (hf : wp_X7_best p1 p2 S K) : tq_Mi yX7_best cX7_best 9 (some .int) 6 (fun a z => [.ref (a.1 28 0), .int p1, .int p2]) S K :=
  tq_mkI (by decide) (fun _ _ => Nat.le_of_ble_eq_true rfl) (fun X C hR => wk_X7_best C hR  hf)
set_option maxRecDepth 100000 in
set_option maxHeartbeats 4000000 in
theorem wk_X7_goneThen {X : tq_Cx} {S : tq_St} {K : Int32 → tq_St → Prop} (C : tq_C X cX7_goneThen 1 RX7 2) (hR : tq_Ri X cX7_goneThen 1 K) (hf : wp_X7_goneThen S K) : Go X 1 S 0 [(0, .ref ((tq_la X).1 28 0))] [] := by
  refine go_aload_n (pc := 0) C dX7_goneThen_0 0 rfl rfl ?_
  refine ge_X7_X7_0 (pc := 1) C dX7_goneThen_1 ?_
  refine go_bipush (pc := 4) (v := 127) C dX7_goneThen_4 (by decide) ?_
  refine al_X7_0 (pc := 6) C hf.1 dX7_goneThen_6 ?_
  have hf := hf.2
  refine go_cSi (pc := 7) C cs_X7_193 (ok_X7_bitsOf hf) rfl rfl rfl (by decide) rfl dX7_goneThen_7 (fun r1 S2 hf => ?_)
  exact hR _ _ _ _ dX7_goneThen_10 hf
set_option maxRecDepth 100000 in
set_option maxHeartbeats 4000000 in
theorem ok_X7_goneThen {S : tq_St} {K : Int32 → tq_St → Prop} (hf : wp_X7_goneThen S K) : tq_Mi yX7_goneThen cX7_goneThen 1 (some .int) 2 (fun a z => [.ref (a.1 28 0)]) S K :=
  tq_mkI (by decide) (fun _ _ => Nat.le_of_ble_eq_true rfl) (fun X C hR => wk_X7_goneThen C hR  hf)
set_option maxRecDepth 100000 in
set_option maxHeartbeats 4000000 in
theorem wk_X7_lowest_6 {X : tq_Cx} {K : Int64 → tq_St → Prop} (C : tq_C X cX7_lowest 11 RX7 1) (hR : tq_Rl X cX7_lowest 11 K) : ∀ (n : Nat) (v0 : Int64) (v2 : Int64) (v4 : Int32) (v5 : Int64) (v7 : Int64) (S : tq_St), wp_X7_lowest_6 K n v0 v2 v4 v5 v7 S → Go X 11 S 6 [(0, .long v0), (2, .long v2), (4, .int v4), (5, .long v5), (7, .long v7)] [] := by
  intro n
  induction n with
  | zero => intros; contradiction
  | succ n ih =>
    intro v0 v2 v4 v5 v7 S hf
    refine go_lload (pc := 6) C dX7_lowest_6 4 rfl ?_
    refine go_lconst (pc := 8) (v := 0) C dX7_lowest_8 (by decide) ?_
    refine go_lcmp (pc := 9) C dX7_lowest_9 ?_
    refine go_if_eq (pc := 10) C dX7_lowest_10 31 (by decide) (fun c1 => ?_) (fun c1 => ?_)
    · have hf := hf.1 c1
      refine go_iload (pc := 31) C dX7_lowest_31 2 rfl ?_
      refine go_if_ne (pc := 33) C dX7_lowest_33 40 (by decide) (fun c2 => ?_) (fun c2 => ?_)
      · have hf := hf.1 c2
        refine go_lload_n (pc := 40) C dX7_lowest_40 1 rfl rfl ?_
        refine go_lload (pc := 41) C dX7_lowest_41 3 rfl ?_
        refine go_ldiv (pc := 43) C dX7_lowest_43 hf.1 ?_
        have hf := hf.2
        exact hR _ _ _ _ dX7_lowest_44 hf
      · have hf := hf.2 c2
        refine go_lload_n (pc := 36) C dX7_lowest_36 0 rfl rfl ?_
        refine go_goto (pc := 37) C dX7_lowest_37 41 (by decide) ?_
        refine go_lload (pc := 41) C dX7_lowest_41 3 rfl ?_
        refine go_ldiv (pc := 43) C dX7_lowest_43 hf.1 ?_
        have hf := hf.2
        exact hR _ _ _ _ dX7_lowest_44 hf
    · have hf := hf.2 c1
      refine go_lload (pc := 13) C dX7_lowest_13 3 rfl ?_
      refine go_lload (pc := 15) C dX7_lowest_15 4 rfl ?_
      refine go_lrem (pc := 17) C dX7_lowest_17 hf.1 ?_
      have hf := hf.2
      refine go_nL (fun x3 e4 => ?_)
      have hf := hf x3 e4
      refine go_lstore (pc := 18) C dX7_lowest_18 [(9, .long x3), (0, .long v0), (2, .long v2), (4, .int v4), (5, .long v5), (7, .long v7)] (by decide) rfl ?_
      refine go_lload (pc := 20) C dX7_lowest_20 5 rfl ?_
      refine go_lstore (pc := 22) C dX7_lowest_22 [(5, .long v7), (9, .long x3), (0, .long v0), (2, .long v2), (4, .int v4), (7, .long v7)] (by decide) rfl ?_
      refine go_lload (pc := 24) C dX7_lowest_24 1 rfl ?_
      refine go_lstore (pc := 26) C dX7_lowest_26 [(7, .long x3), (5, .long v7), (9, .long x3), (0, .long v0), (2, .long v2), (4, .int v4)] (by decide) rfl ?_
      refine go_goto (pc := 28) C dX7_lowest_28 6 (by decide) ?_
      exact go_sub [3, 4, 5, 1, 0] rfl (ih _ _ _ _ _ _ hf)
set_option maxRecDepth 100000 in
set_option maxHeartbeats 4000000 in
theorem wk_X7_lowest {X : tq_Cx} {p0 : Int64} {p2 : Int64} {p4 : Int32} {S : tq_St} {K : Int64 → tq_St → Prop} (C : tq_C X cX7_lowest 11 RX7 1) (hR : tq_Rl X cX7_lowest 11 K) (hf : wp_X7_lowest p0 p2 p4 S K) : Go X 11 S 0 [(0, .long p0), (2, .long p2), (4, .int p4)] [] := by
  refine go_lload_n (pc := 0) C dX7_lowest_0 0 rfl rfl ?_
  refine go_lstore (pc := 1) C dX7_lowest_1 [(5, .long p0), (0, .long p0), (2, .long p2), (4, .int p4)] (by decide) rfl ?_
  refine go_lload_n (pc := 3) C dX7_lowest_3 2 rfl rfl ?_
  refine go_lstore (pc := 4) C dX7_lowest_4 [(7, .long p2), (5, .long p0), (0, .long p0), (2, .long p2), (4, .int p4)] (by decide) rfl ?_
  exact go_sub [2, 3, 4, 1, 0] rfl (wk_X7_lowest_6 C hR 2000 _ _ _ _ _ _ hf)
set_option maxRecDepth 100000 in
set_option maxHeartbeats 4000000 in
theorem ok_X7_lowest {p0 : Int64} {p2 : Int64} {p4 : Int32} {S : tq_St} {K : Int64 → tq_St → Prop} (hf : wp_X7_lowest p0 p2 p4 S K) : tq_Ml yX7_lowest cX7_lowest 11 (some .long) 1 (fun a z => [.long p0, .long p2, .int p4]) S K :=
  tq_mkL (by decide) (fun _ _ => Nat.le_of_ble_eq_true rfl) (fun X C hR => wk_X7_lowest C hR  hf)
set_option maxRecDepth 100000 in
set_option maxHeartbeats 4000000 in
theorem wk_X7_byFails_211 {X : tq_Cx} {K : Int64 → tq_St → Prop} (C : tq_C X cX7_byFails 13 RX7 6) (hR : tq_Rl X cX7_byFails 13 K) {rec99 : Int32 → Int32 → Int32 → Int32 → Int64 → Int64 → Int32 → tq_St → Prop} (hrec99 : ∀ (v1 : Int32) (v2 : Int32) (v3 : Int32) (v4 : Int32) (v5 : Int64) (v7 : Int64) (v9 : Int32) (S : tq_St), rec99 v1 v2 v3 v4 v5 v7 v9 S → Go X 13 S 99 [(0, .ref ((tq_la X).1 28 0)), (1, .int v1), (2, .int v2), (3, .int v3), (4, .int v4), (5, .long v5), (7, .long v7), (9, .int v9)] []) : ∀ (v1 : Int32) (v2 : Int32) (v3 : Int32) (v4 : Int32) (v7 : Int64) (v9 : Int32) (w0 : Int64) (w1 : Int64) (w2 : Int32) (S : tq_St), wp_X7_byFails_211 K rec99 v1 v2 v3 v4 v7 v9 w0 w1 w2 S → Go X 13 S 211 [(0, .ref ((tq_la X).1 28 0)), (1, .int v1), (2, .int v2), (3, .int v3), (4, .int v4), (7, .long v7), (9, .int v9)] [.int w2, .long w1, .long w0] := by
  intro v1 v2 v3 v4 v7 v9 w0 w1 w2 S hf
  refine go_i2l (pc := 211) C dX7_byFails_211 ?_
  refine go_lmul (pc := 212) C dX7_byFails_212 ?_
  refine go_ladd (pc := 213) C dX7_byFails_213 ?_
  refine go_nL (fun x15 e16 => ?_)
  have hf := hf x15 e16
  refine go_lstore (pc := 214) C dX7_byFails_214 [(5, .long x15), (0, .ref ((tq_la X).1 28 0)), (1, .int v1), (2, .int v2), (3, .int v3), (4, .int v4), (7, .long v7), (9, .int v9)] (by decide) rfl ?_
  obtain ⟨x17, e18⟩ : ∃ q9 : Int32, q9 = v9 + 1 := ⟨_, rfl⟩
  refine go_iinc (pc := 216) (j := 7) (v := x17) C dX7_byFails_216 [(9, .int x17), (5, .long x15), (0, .ref ((tq_la X).1 28 0)), (1, .int v1), (2, .int v2), (3, .int v3), (4, .int v4), (7, .long v7)] rfl (by rw [e18]; rfl) (by decide) rfl ?_
  have hf := hf x17 e18
  refine go_goto (pc := 219) C dX7_byFails_219 99 (by decide) ?_
  exact go_sub [2, 3, 4, 5, 6, 1, 7, 0] rfl (hrec99 _ _ _ _ _ _ _ _ hf)
set_option maxRecDepth 100000 in
set_option maxHeartbeats 4000000 in
theorem wk_X7_byFails_167 {X : tq_Cx} {K : Int64 → tq_St → Prop} (C : tq_C X cX7_byFails 13 RX7 6) (hR : tq_Rl X cX7_byFails 13 K) {rec123 : Int32 → Int32 → Int32 → Int32 → Int64 → Int64 → Int32 → Int64 → Int32 → tq_St → Prop} (hrec123 : ∀ (v1 : Int32) (v2 : Int32) (v3 : Int32) (v4 : Int32) (v5 : Int64) (v7 : Int64) (v9 : Int32) (v10 : Int64) (v12 : Int32) (S : tq_St), rec123 v1 v2 v3 v4 v5 v7 v9 v10 v12 S → Go X 13 S 123 [(0, .ref ((tq_la X).1 28 0)), (1, .int v1), (2, .int v2), (3, .int v3), (4, .int v4), (5, .long v5), (7, .long v7), (9, .int v9), (10, .long v10), (12, .int v12)] []) {rec99 : Int32 → Int32 → Int32 → Int32 → Int64 → Int64 → Int32 → tq_St → Prop} (hrec99 : ∀ (v1 : Int32) (v2 : Int32) (v3 : Int32) (v4 : Int32) (v5 : Int64) (v7 : Int64) (v9 : Int32) (S : tq_St), rec99 v1 v2 v3 v4 v5 v7 v9 S → Go X 13 S 99 [(0, .ref ((tq_la X).1 28 0)), (1, .int v1), (2, .int v2), (3, .int v3), (4, .int v4), (5, .long v5), (7, .long v7), (9, .int v9)] []) : ∀ (v1 : Int32) (v2 : Int32) (v3 : Int32) (v4 : Int32) (v5 : Int64) (v7 : Int64) (v9 : Int32) (v12 : Int32) (w0 : Int64) (w1 : Int64) (S : tq_St), wp_X7_byFails_167 K rec123 rec99 v1 v2 v3 v4 v5 v7 v9 v12 w0 w1 S → Go X 13 S 167 [(0, .ref ((tq_la X).1 28 0)), (1, .int v1), (2, .int v2), (3, .int v3), (4, .int v4), (5, .long v5), (7, .long v7), (9, .int v9), (12, .int v12)] [.long w1, .long w0] := by
  intro v1 v2 v3 v4 v5 v7 v9 v12 w0 w1 S hf
  refine go_lmul (pc := 167) C dX7_byFails_167 ?_
  refine go_nL (fun x24 e25 => ?_)
  have hf := hf x24 e25
  refine go_lstore (pc := 168) C dX7_byFails_168 [(10, .long x24), (0, .ref ((tq_la X).1 28 0)), (1, .int v1), (2, .int v2), (3, .int v3), (4, .int v4), (5, .long v5), (7, .long v7), (9, .int v9), (12, .int v12)] (by decide) rfl ?_
  obtain ⟨x26, e27⟩ : ∃ q9 : Int32, q9 = v12 + 1 := ⟨_, rfl⟩
  refine go_iinc (pc := 170) (j := 9) (v := x26) C dX7_byFails_170 [(12, .int x26), (10, .long x24), (0, .ref ((tq_la X).1 28 0)), (1, .int v1), (2, .int v2), (3, .int v3), (4, .int v4), (5, .long v5), (7, .long v7), (9, .int v9)] rfl (by rw [e27]; rfl) (by decide) rfl ?_
  have hf := hf x26 e27
  refine go_goto (pc := 173) C dX7_byFails_173 123 (by decide) ?_
  exact go_sub [2, 3, 4, 5, 6, 7, 8, 9, 1, 0] rfl (hrec123 _ _ _ _ _ _ _ _ _ _ hf)
set_option maxRecDepth 100000 in
set_option maxHeartbeats 4000000 in
theorem wk_X7_byFails_123 {X : tq_Cx} {K : Int64 → tq_St → Prop} (C : tq_C X cX7_byFails 13 RX7 6) (hR : tq_Rl X cX7_byFails 13 K) {rec99 : Int32 → Int32 → Int32 → Int32 → Int64 → Int64 → Int32 → tq_St → Prop} (hrec99 : ∀ (v1 : Int32) (v2 : Int32) (v3 : Int32) (v4 : Int32) (v5 : Int64) (v7 : Int64) (v9 : Int32) (S : tq_St), rec99 v1 v2 v3 v4 v5 v7 v9 S → Go X 13 S 99 [(0, .ref ((tq_la X).1 28 0)), (1, .int v1), (2, .int v2), (3, .int v3), (4, .int v4), (5, .long v5), (7, .long v7), (9, .int v9)] []) : ∀ (n : Nat) (v1 : Int32) (v2 : Int32) (v3 : Int32) (v4 : Int32) (v5 : Int64) (v7 : Int64) (v9 : Int32) (v10 : Int64) (v12 : Int32) (S : tq_St), wp_X7_byFails_123 K rec99 n v1 v2 v3 v4 v5 v7 v9 v10 v12 S → Go X 13 S 123 [(0, .ref ((tq_la X).1 28 0)), (1, .int v1), (2, .int v2), (3, .int v3), (4, .int v4), (5, .long v5), (7, .long v7), (9, .int v9), (10, .long v10), (12, .int v12)] [] := by
  intro n
  induction n with
  | zero => intros; contradiction
  | succ n ih =>
    intro v1 v2 v3 v4 v5 v7 v9 v10 v12 S hf
    refine go_iload (pc := 123) C dX7_byFails_123 9 rfl ?_
    refine go_bipush (pc := 125) (v := 8) C dX7_byFails_125 (by decide) ?_
    refine go_ic_ge (pc := 127) C dX7_byFails_127 176 (by decide) (fun c10 => ?_) (fun c10 => ?_)
    · have hf := hf.1 c10
      refine go_aload_n (pc := 176) C dX7_byFails_176 0 rfl rfl ?_
      refine go_iconst (pc := 177) (v := 0) C dX7_byFails_177 (by decide) ?_
      refine go_iload (pc := 178) C dX7_byFails_178 7 rfl ?_
      refine go_cVv (pc := 180) C cw_X7_214 (ok_X7_planGoes hf) (rc_X7 C) rfl rfl rfl (by decide) rfl dX7_byFails_180 (fun S12 hf => ?_)
      refine go_lload (pc := 183) C dX7_byFails_183 5 rfl ?_
      refine go_lload (pc := 185) C dX7_byFails_185 8 rfl ?_
      refine go_iload_n (pc := 187) C dX7_byFails_187 2 rfl rfl ?_
      refine go_bipush (pc := 188) (v := (-4)) C dX7_byFails_188 (by decide) ?_
      refine go_ic_ne (pc := 190) C dX7_byFails_190 200 (by decide) (fun c14 => ?_) (fun c14 => ?_)
      · have hf := hf.1 c14
        refine go_aload_n (pc := 200) C dX7_byFails_200 0 rfl rfl ?_
        refine ge_X7_X7_0 (pc := 201) C dX7_byFails_201 ?_
        refine go_bipush (pc := 204) (v := 127) C dX7_byFails_204 (by decide) ?_
        refine al_X7_0 (pc := 206) C hf.1 dX7_byFails_206 ?_
        have hf := hf.2
        refine go_iload_n (pc := 207) C dX7_byFails_207 2 rfl rfl ?_
        refine go_ishr (pc := 208) C dX7_byFails_208 ?_
        refine go_iconst (pc := 209) (v := 1) C dX7_byFails_209 (by decide) ?_
        refine go_iand (pc := 210) C dX7_byFails_210 ?_
        exact go_sub [0, 1, 2, 3, 4, 6, 7] rfl (wk_X7_byFails_211 C hR hrec99 _ _ _ _ _ _ _ _ _ _ hf)
      · have hf := hf.2 c14
        refine go_aload_n (pc := 193) C dX7_byFails_193 0 rfl rfl ?_
        refine go_cVi (pc := 194) C cw_X7_234 (ok_X7_goneThen hf) (rc_X7 C) rfl rfl rfl (by decide) rfl dX7_byFails_194 (fun r19 S20 hf => ?_)
        refine go_goto (pc := 197) C dX7_byFails_197 211 (by decide) ?_
        exact go_sub [0, 1, 2, 3, 4, 6, 7] rfl (wk_X7_byFails_211 C hR hrec99 _ _ _ _ _ _ _ _ _ _ hf)
    · have hf := hf.2 c10
      refine go_lload (pc := 130) C dX7_byFails_130 8 rfl ?_
      refine go_iload (pc := 132) C dX7_byFails_132 4 rfl ?_
      refine go_iload (pc := 134) C dX7_byFails_134 9 rfl ?_
      refine go_ishr (pc := 136) C dX7_byFails_136 ?_
      refine go_iconst (pc := 137) (v := 1) C dX7_byFails_137 (by decide) ?_
      refine go_iand (pc := 138) C dX7_byFails_138 ?_
      refine go_if_ne (pc := 139) C dX7_byFails_139 146 (by decide) (fun c22 => ?_) (fun c22 => ?_)
      · have hf := hf.1 c22
        refine go_iload (pc := 146) C dX7_byFails_146 7 rfl ?_
        refine go_iload (pc := 148) C dX7_byFails_148 9 rfl ?_
        refine go_ishr (pc := 150) C dX7_byFails_150 ?_
        refine go_iconst (pc := 151) (v := 1) C dX7_byFails_151 (by decide) ?_
        refine go_iand (pc := 152) C dX7_byFails_152 ?_
        refine go_iconst (pc := 153) (v := 1) C dX7_byFails_153 (by decide) ?_
        refine go_ic_ne (pc := 154) C dX7_byFails_154 162 (by decide) (fun c23 => ?_) (fun c23 => ?_)
        · have hf := hf.1 c23
          refine go_bipush (pc := 162) (v := 10) C dX7_byFails_162 (by decide) ?_
          refine go_iload_n (pc := 164) C dX7_byFails_164 1 rfl rfl ?_
          refine go_isub (pc := 165) C dX7_byFails_165 ?_
          refine go_i2l (pc := 166) C dX7_byFails_166 ?_
          exact go_sub [0, 1, 2, 3, 4, 5, 6, 7, 9] rfl (wk_X7_byFails_167 C hR ih hrec99 _ _ _ _ _ _ _ _ _ _ _ hf)
        · have hf := hf.2 c23
          refine go_iload_n (pc := 157) C dX7_byFails_157 1 rfl rfl ?_
          refine go_i2l (pc := 158) C dX7_byFails_158 ?_
          refine go_goto (pc := 159) C dX7_byFails_159 167 (by decide) ?_
          exact go_sub [0, 1, 2, 3, 4, 5, 6, 7, 9] rfl (wk_X7_byFails_167 C hR ih hrec99 _ _ _ _ _ _ _ _ _ _ _ hf)
      · have hf := hf.2 c22
        refine go_lconst (pc := 142) (v := 1) C dX7_byFails_142 (by decide) ?_
        refine go_goto (pc := 143) C dX7_byFails_143 167 (by decide) ?_
        exact go_sub [0, 1, 2, 3, 4, 5, 6, 7, 9] rfl (wk_X7_byFails_167 C hR ih hrec99 _ _ _ _ _ _ _ _ _ _ _ hf)
set_option maxRecDepth 100000 in
set_option maxHeartbeats 4000000 in
theorem wk_X7_byFails_99 {X : tq_Cx} {K : Int64 → tq_St → Prop} (C : tq_C X cX7_byFails 13 RX7 6) (hR : tq_Rl X cX7_byFails 13 K) : ∀ (n : Nat) (v1 : Int32) (v2 : Int32) (v3 : Int32) (v4 : Int32) (v5 : Int64) (v7 : Int64) (v9 : Int32) (S : tq_St), wp_X7_byFails_99 K n v1 v2 v3 v4 v5 v7 v9 S → Go X 13 S 99 [(0, .ref ((tq_la X).1 28 0)), (1, .int v1), (2, .int v2), (3, .int v3), (4, .int v4), (5, .long v5), (7, .long v7), (9, .int v9)] [] := by
  intro n
  induction n with
  | zero => intros; contradiction
  | succ n ih =>
    intro v1 v2 v3 v4 v5 v7 v9 S hf
    refine go_iload (pc := 99) C dX7_byFails_99 7 rfl ?_
    refine go_sipush (pc := 101) (v := 256) C dX7_byFails_101 (by decide) ?_
    refine go_ic_ge (pc := 104) C dX7_byFails_104 222 (by decide) (fun c3 => ?_) (fun c3 => ?_)
    · have hf := hf.1 c3
      refine go_lload (pc := 222) C dX7_byFails_222 5 rfl ?_
      refine go_lload (pc := 224) C dX7_byFails_224 6 rfl ?_
      refine go_iload_n (pc := 226) C dX7_byFails_226 3 rfl rfl ?_
      refine go_cSl (pc := 227) C cs_X7_237 (ok_X7_lowest hf) rfl rfl rfl (by decide) rfl dX7_byFails_227 (fun r4 S5 hf => ?_)
      exact hR _ _ _ _ dX7_byFails_230 hf
    · have hf := hf.2 c3
      refine go_iload (pc := 107) C dX7_byFails_107 7 rfl ?_
      refine go_iload (pc := 109) C dX7_byFails_109 4 rfl ?_
      refine go_iconst (pc := 111) (v := (-1)) C dX7_byFails_111 (by decide) ?_
      refine go_ixor (pc := 112) C dX7_byFails_112 ?_
      refine go_iand (pc := 113) C dX7_byFails_113 ?_
      refine go_if_ne (pc := 114) C dX7_byFails_114 216 (by decide) (fun c7 => ?_) (fun c7 => ?_)
      · have hf := hf.1 c7
        obtain ⟨x8, e9⟩ : ∃ q9 : Int32, q9 = v9 + 1 := ⟨_, rfl⟩
        refine go_iinc (pc := 216) (j := 7) (v := x8) C dX7_byFails_216 [(9, .int x8), (0, .ref ((tq_la X).1 28 0)), (1, .int v1), (2, .int v2), (3, .int v3), (4, .int v4), (5, .long v5), (7, .long v7)] rfl (by rw [e9]; rfl) (by decide) rfl ?_
        have hf := hf x8 e9
        refine go_goto (pc := 219) C dX7_byFails_219 99 (by decide) ?_
        exact go_sub [1, 2, 3, 4, 5, 6, 7, 0] rfl (ih _ _ _ _ _ _ _ _ hf)
      · have hf := hf.2 c7
        refine go_lconst (pc := 117) (v := 1) C dX7_byFails_117 (by decide) ?_
        refine go_lstore (pc := 118) C dX7_byFails_118 [(10, .long 1), (0, .ref ((tq_la X).1 28 0)), (1, .int v1), (2, .int v2), (3, .int v3), (4, .int v4), (5, .long v5), (7, .long v7), (9, .int v9)] (by decide) rfl ?_
        refine go_iconst (pc := 120) (v := 0) C dX7_byFails_120 (by decide) ?_
        refine go_istore (pc := 121) C dX7_byFails_121 [(12, .int 0), (10, .long 1), (0, .ref ((tq_la X).1 28 0)), (1, .int v1), (2, .int v2), (3, .int v3), (4, .int v4), (5, .long v5), (7, .long v7), (9, .int v9)] (by decide) rfl ?_
        exact go_sub [2, 3, 4, 5, 6, 7, 8, 9, 1, 0] rfl (wk_X7_byFails_123 C hR ih 2000 _ _ _ _ _ _ _ _ _ _ hf)
set_option maxRecDepth 100000 in
set_option maxHeartbeats 4000000 in
theorem wk_X7_byFails_87 {X : tq_Cx} {K : Int64 → tq_St → Prop} (C : tq_C X cX7_byFails 13 RX7 6) (hR : tq_Rl X cX7_byFails 13 K) {rec60 : Int32 → Int32 → Int32 → Int32 → Int64 → Int64 → Int32 → tq_St → Prop} (hrec60 : ∀ (v1 : Int32) (v2 : Int32) (v3 : Int32) (v4 : Int32) (v5 : Int64) (v7 : Int64) (v9 : Int32) (S : tq_St), rec60 v1 v2 v3 v4 v5 v7 v9 S → Go X 13 S 60 [(0, .ref ((tq_la X).1 28 0)), (1, .int v1), (2, .int v2), (3, .int v3), (4, .int v4), (5, .long v5), (7, .long v7), (9, .int v9)] []) : ∀ (v1 : Int32) (v2 : Int32) (v3 : Int32) (v4 : Int32) (v5 : Int64) (v9 : Int32) (w0 : Int64) (w1 : Int64) (S : tq_St), wp_X7_byFails_87 K rec60 v1 v2 v3 v4 v5 v9 w0 w1 S → Go X 13 S 87 [(0, .ref ((tq_la X).1 28 0)), (1, .int v1), (2, .int v2), (3, .int v3), (4, .int v4), (5, .long v5), (9, .int v9)] [.long w1, .long w0] := by
  intro v1 v2 v3 v4 v5 v9 w0 w1 S hf
  refine go_lmul (pc := 87) C dX7_byFails_87 ?_
  refine go_nL (fun x29 e30 => ?_)
  have hf := hf x29 e30
  refine go_lstore (pc := 88) C dX7_byFails_88 [(7, .long x29), (0, .ref ((tq_la X).1 28 0)), (1, .int v1), (2, .int v2), (3, .int v3), (4, .int v4), (5, .long v5), (9, .int v9)] (by decide) rfl ?_
  obtain ⟨x31, e32⟩ : ∃ q9 : Int32, q9 = v9 + 1 := ⟨_, rfl⟩
  refine go_iinc (pc := 90) (j := 7) (v := x31) C dX7_byFails_90 [(9, .int x31), (7, .long x29), (0, .ref ((tq_la X).1 28 0)), (1, .int v1), (2, .int v2), (3, .int v3), (4, .int v4), (5, .long v5)] rfl (by rw [e32]; rfl) (by decide) rfl ?_
  have hf := hf x31 e32
  refine go_goto (pc := 93) C dX7_byFails_93 60 (by decide) ?_
  exact go_sub [2, 3, 4, 5, 6, 7, 1, 0] rfl (hrec60 _ _ _ _ _ _ _ _ hf)
set_option maxRecDepth 100000 in
set_option maxHeartbeats 4000000 in
theorem wk_X7_byFails_60 {X : tq_Cx} {K : Int64 → tq_St → Prop} (C : tq_C X cX7_byFails 13 RX7 6) (hR : tq_Rl X cX7_byFails 13 K) : ∀ (n : Nat) (v1 : Int32) (v2 : Int32) (v3 : Int32) (v4 : Int32) (v5 : Int64) (v7 : Int64) (v9 : Int32) (S : tq_St), wp_X7_byFails_60 K n v1 v2 v3 v4 v5 v7 v9 S → Go X 13 S 60 [(0, .ref ((tq_la X).1 28 0)), (1, .int v1), (2, .int v2), (3, .int v3), (4, .int v4), (5, .long v5), (7, .long v7), (9, .int v9)] [] := by
  intro n
  induction n with
  | zero => intros; contradiction
  | succ n ih =>
    intro v1 v2 v3 v4 v5 v7 v9 S hf
    refine go_iload (pc := 60) C dX7_byFails_60 7 rfl ?_
    refine go_bipush (pc := 62) (v := 8) C dX7_byFails_62 (by decide) ?_
    refine go_ic_ge (pc := 64) C dX7_byFails_64 96 (by decide) (fun c2 => ?_) (fun c2 => ?_)
    · have hf := hf.1 c2
      refine go_iconst (pc := 96) (v := 0) C dX7_byFails_96 (by decide) ?_
      refine go_istore (pc := 97) C dX7_byFails_97 [(9, .int 0), (0, .ref ((tq_la X).1 28 0)), (1, .int v1), (2, .int v2), (3, .int v3), (4, .int v4), (5, .long v5), (7, .long v7)] (by decide) rfl ?_
      exact go_sub [1, 2, 3, 4, 5, 6, 7, 0] rfl (wk_X7_byFails_99 C hR 2000 _ _ _ _ _ _ _ _ hf)
    · have hf := hf.2 c2
      refine go_lload (pc := 67) C dX7_byFails_67 6 rfl ?_
      refine go_iload (pc := 69) C dX7_byFails_69 4 rfl ?_
      refine go_iload (pc := 71) C dX7_byFails_71 7 rfl ?_
      refine go_ishr (pc := 73) C dX7_byFails_73 ?_
      refine go_iconst (pc := 74) (v := 1) C dX7_byFails_74 (by decide) ?_
      refine go_iand (pc := 75) C dX7_byFails_75 ?_
      refine go_iconst (pc := 76) (v := 1) C dX7_byFails_76 (by decide) ?_
      refine go_ic_ne (pc := 77) C dX7_byFails_77 86 (by decide) (fun c28 => ?_) (fun c28 => ?_)
      · have hf := hf.1 c28
        refine go_lconst (pc := 86) (v := 1) C dX7_byFails_86 (by decide) ?_
        exact go_sub [0, 1, 2, 3, 4, 5, 7] rfl (wk_X7_byFails_87 C hR ih _ _ _ _ _ _ _ _ _ hf)
      · have hf := hf.2 c28
        refine go_ldc2 (pc := 80) C kl_X7_224 dX7_byFails_80 ?_
        refine go_goto (pc := 83) C dX7_byFails_83 87 (by decide) ?_
        exact go_sub [0, 1, 2, 3, 4, 5, 7] rfl (wk_X7_byFails_87 C hR ih _ _ _ _ _ _ _ _ _ hf)
set_option maxRecDepth 100000 in
set_option maxHeartbeats 4000000 in
theorem wk_X7_byFails_42 {X : tq_Cx} {K : Int64 → tq_St → Prop} (C : tq_C X cX7_byFails 13 RX7 6) (hR : tq_Rl X cX7_byFails 13 K) {rec6 : Int32 → Int32 → Int32 → Int32 → Int32 → tq_St → Prop} (hrec6 : ∀ (v1 : Int32) (v2 : Int32) (v3 : Int32) (v4 : Int32) (v5 : Int32) (S : tq_St), rec6 v1 v2 v3 v4 v5 S → Go X 13 S 6 [(0, .ref ((tq_la X).1 28 0)), (1, .int v1), (2, .int v2), (3, .int v3), (4, .int v4), (5, .int v5)] []) : ∀ (v1 : Int32) (v2 : Int32) (v3 : Int32) (v5 : Int32) (w0 : Int32) (w1 : Int32) (S : tq_St), wp_X7_byFails_42 K rec6 v1 v2 v3 v5 w0 w1 S → Go X 13 S 42 [(0, .ref ((tq_la X).1 28 0)), (1, .int v1), (2, .int v2), (3, .int v3), (5, .int v5)] [.int w1, .int w0] := by
  intro v1 v2 v3 v5 w0 w1 S hf
  refine go_ior (pc := 42) C dX7_byFails_42 ?_
  refine go_nI (fun x34 e35 => ?_)
  have hf := hf x34 e35
  refine go_istore (pc := 43) C dX7_byFails_43 [(4, .int x34), (0, .ref ((tq_la X).1 28 0)), (1, .int v1), (2, .int v2), (3, .int v3), (5, .int v5)] (by decide) rfl ?_
  obtain ⟨x36, e37⟩ : ∃ q9 : Int32, q9 = v5 + 1 := ⟨_, rfl⟩
  refine go_iinc (pc := 45) (j := 5) (v := x36) C dX7_byFails_45 [(5, .int x36), (4, .int x34), (0, .ref ((tq_la X).1 28 0)), (1, .int v1), (2, .int v2), (3, .int v3)] rfl (by rw [e37]; rfl) (by decide) rfl ?_
  have hf := hf x36 e37
  refine go_goto (pc := 48) C dX7_byFails_48 6 (by decide) ?_
  exact go_sub [2, 3, 4, 5, 1, 0] rfl (hrec6 _ _ _ _ _ _ hf)
set_option maxRecDepth 100000 in
set_option maxHeartbeats 4000000 in
theorem wk_X7_byFails_6 {X : tq_Cx} {K : Int64 → tq_St → Prop} (C : tq_C X cX7_byFails 13 RX7 6) (hR : tq_Rl X cX7_byFails 13 K) : ∀ (n : Nat) (v1 : Int32) (v2 : Int32) (v3 : Int32) (v4 : Int32) (v5 : Int32) (S : tq_St), wp_X7_byFails_6 K n v1 v2 v3 v4 v5 S → Go X 13 S 6 [(0, .ref ((tq_la X).1 28 0)), (1, .int v1), (2, .int v2), (3, .int v3), (4, .int v4), (5, .int v5)] [] := by
  intro n
  induction n with
  | zero => intros; contradiction
  | succ n ih =>
    intro v1 v2 v3 v4 v5 S hf
    refine go_iload (pc := 6) C dX7_byFails_6 5 rfl ?_
    refine go_aload_n (pc := 8) C dX7_byFails_8 0 rfl rfl ?_
    refine ge_X7_X7_0 (pc := 9) C dX7_byFails_9 ?_
    refine go_bipush (pc := 12) (v := 27) C dX7_byFails_12 (by decide) ?_
    refine al_X7_0 (pc := 14) C hf.1 dX7_byFails_14 ?_
    have hf := hf.2
    refine go_ic_ge (pc := 15) C dX7_byFails_15 51 (by decide) (fun c1 => ?_) (fun c1 => ?_)
    · have hf := hf.1 c1
      refine go_lconst (pc := 51) (v := 0) C dX7_byFails_51 (by decide) ?_
      refine go_lstore (pc := 52) C dX7_byFails_52 [(5, .long 0), (0, .ref ((tq_la X).1 28 0)), (1, .int v1), (2, .int v2), (3, .int v3), (4, .int v4)] (by decide) rfl ?_
      refine go_lconst (pc := 54) (v := 1) C dX7_byFails_54 (by decide) ?_
      refine go_lstore (pc := 55) C dX7_byFails_55 [(7, .long 1), (5, .long 0), (0, .ref ((tq_la X).1 28 0)), (1, .int v1), (2, .int v2), (3, .int v3), (4, .int v4)] (by decide) rfl ?_
      refine go_iconst (pc := 57) (v := 0) C dX7_byFails_57 (by decide) ?_
      refine go_istore (pc := 58) C dX7_byFails_58 [(9, .int 0), (7, .long 1), (5, .long 0), (0, .ref ((tq_la X).1 28 0)), (1, .int v1), (2, .int v2), (3, .int v3), (4, .int v4)] (by decide) rfl ?_
      exact go_sub [3, 4, 5, 6, 7, 2, 1, 0] rfl (wk_X7_byFails_60 C hR 2000 _ _ _ _ _ _ _ _ hf)
    · have hf := hf.2 c1
      refine go_iload (pc := 18) C dX7_byFails_18 4 rfl ?_
      refine go_aload_n (pc := 20) C dX7_byFails_20 0 rfl rfl ?_
      refine ge_X7_X7_0 (pc := 21) C dX7_byFails_21 ?_
      refine go_bipush (pc := 24) (v := 19) C dX7_byFails_24 (by decide) ?_
      refine go_iload (pc := 26) C dX7_byFails_26 5 rfl ?_
      refine go_iadd (pc := 28) C dX7_byFails_28 ?_
      refine al_X7_0 (pc := 29) C hf.1 dX7_byFails_29 ?_
      have hf := hf.2
      refine go_iconst (pc := 30) (v := 5) C dX7_byFails_30 (by decide) ?_
      refine go_ic_ge (pc := 31) C dX7_byFails_31 41 (by decide) (fun c33 => ?_) (fun c33 => ?_)
      · have hf := hf.1 c33
        refine go_iconst (pc := 41) (v := 0) C dX7_byFails_41 (by decide) ?_
        exact go_sub [0, 1, 2, 3, 5] rfl (wk_X7_byFails_42 C hR ih _ _ _ _ _ _ _ hf)
      · have hf := hf.2 c33
        refine go_iconst (pc := 34) (v := 1) C dX7_byFails_34 (by decide) ?_
        refine go_iload (pc := 35) C dX7_byFails_35 5 rfl ?_
        refine go_ishl (pc := 37) C dX7_byFails_37 ?_
        refine go_goto (pc := 38) C dX7_byFails_38 42 (by decide) ?_
        exact go_sub [0, 1, 2, 3, 5] rfl (wk_X7_byFails_42 C hR ih _ _ _ _ _ _ _ hf)
set_option maxRecDepth 100000 in
set_option maxHeartbeats 4000000 in
theorem wk_X7_byFails {X : tq_Cx} {p1 : Int32} {p2 : Int32} {p3 : Int32} {S : tq_St} {K : Int64 → tq_St → Prop} (C : tq_C X cX7_byFails 13 RX7 6) (hR : tq_Rl X cX7_byFails 13 K) (hf : wp_X7_byFails p1 p2 p3 S K) : Go X 13 S 0 [(0, .ref ((tq_la X).1 28 0)), (1, .int p1), (2, .int p2), (3, .int p3)] [] := by
  refine go_iconst (pc := 0) (v := 0) C dX7_byFails_0 (by decide) ?_
  refine go_istore (pc := 1) C dX7_byFails_1 [(4, .int 0), (0, .ref ((tq_la X).1 28 0)), (1, .int p1), (2, .int p2), (3, .int p3)] (by decide) rfl ?_
  refine go_iconst (pc := 3) (v := 0) C dX7_byFails_3 (by decide) ?_
  refine go_istore (pc := 4) C dX7_byFails_4 [(5, .int 0), (4, .int 0), (0, .ref ((tq_la X).1 28 0)), (1, .int p1), (2, .int p2), (3, .int p3)] (by decide) rfl ?_
  exact go_sub [2, 3, 4, 5, 1, 0] rfl (wk_X7_byFails_6 C hR 2000 _ _ _ _ _ _ hf)
set_option maxRecDepth 100000 in
set_option maxHeartbeats 4000000 in
theorem ok_X7_byFails {p1 : Int32} {p2 : Int32} {p3 : Int32} {S : tq_St} {K : Int64 → tq_St → Prop} (hf : wp_X7_byFails p1 p2 p3 S K) : tq_Ml yX7_byFails cX7_byFails 13 (some .long) 6 (fun a z => [.ref (a.1 28 0), .int p1, .int p2, .int p3]) S K :=
  tq_mkL (by decide) (fun _ _ => Nat.le_of_ble_eq_true rfl) (fun X C hR => wk_X7_byFails C hR  hf)
set_option maxRecDepth 100000 in
set_option maxHeartbeats 4000000 in
theorem wk_X7_byteAt {X : tq_Cx} {p1 : Int32} {S : tq_St} {K : Int32 → tq_St → Prop} (C : tq_C X cX7_byteAt 2 RX7 1) (hR : tq_Ri X cX7_byteAt 2 K) (hf : wp_X7_byteAt p1 S K) : Go X 2 S 0 [(0, .ref ((tq_la X).1 28 0)), (1, .int p1)] [] := by
  refine go_iload_n (pc := 0) C dX7_byteAt_0 1 rfl rfl ?_
  refine go_aload_n (pc := 1) C dX7_byteAt_1 0 rfl rfl ?_
  refine ge_X7_X7_8 (pc := 2) C dX7_byteAt_2 ?_
  refine go_ic_ge (pc := 5) C dX7_byteAt_5 17 (by decide) (fun c1 => ?_) (fun c1 => ?_)
  · have hf := hf.1 c1
    refine go_bipush (pc := 17) (v := (-4)) C dX7_byteAt_17 (by decide) ?_
    exact hR _ _ _ _ dX7_byteAt_19 hf
  · have hf := hf.2 c1
    refine go_aload_n (pc := 8) C dX7_byteAt_8 0 rfl rfl ?_
    refine ge_X7_X7_7 (pc := 9) C dX7_byteAt_9 ?_
    refine go_iload_n (pc := 12) C dX7_byteAt_12 1 rfl rfl ?_
    refine al_X7_7 (pc := 13) C hf.1 dX7_byteAt_13 ?_
    have hf := hf.2
    refine go_goto (pc := 14) C dX7_byteAt_14 19 (by decide) ?_
    exact hR _ _ _ _ dX7_byteAt_19 hf
set_option maxRecDepth 100000 in
set_option maxHeartbeats 4000000 in
theorem ok_X7_byteAt {p1 : Int32} {S : tq_St} {K : Int32 → tq_St → Prop} (hf : wp_X7_byteAt p1 S K) : tq_Mi yX7_byteAt cX7_byteAt 2 (some .int) 1 (fun a z => [.ref (a.1 28 0), .int p1]) S K :=
  tq_mkI (by decide) (fun _ _ => Nat.le_of_ble_eq_true rfl) (fun X C hR => wk_X7_byteAt C hR  hf)
set_option maxRecDepth 100000 in
set_option maxHeartbeats 4000000 in
theorem wk_X7_count_147 {X : tq_Cx} {K : Int32 → tq_St → Prop} (C : tq_C X cX7_count 5 RX7 1) (hR : tq_Ri X cX7_count 5 K) : ∀ (w0 : Int32) (S : tq_St), wp_X7_count_147 K w0 S → Go X 5 S 147 [(0, .ref ((tq_la X).1 28 0))] [.int w0] := by
  intro w0 S hf
  refine go_aload_n (pc := 147) C dX7_count_147 0 rfl rfl ?_
  refine ge_X7_X7_24 (pc := 148) C dX7_count_148 ?_
  refine go_iconst (pc := 151) (v := 1) C dX7_count_151 (by decide) ?_
  refine al_X7_24 (pc := 152) C hf.1 dX7_count_152 ?_
  have hf := hf.2
  refine go_if_eq (pc := 153) C dX7_count_153 160 (by decide) (fun c5 => ?_) (fun c5 => ?_)
  · have hf := hf.1 c5
    refine go_iconst (pc := 160) (v := 0) C dX7_count_160 (by decide) ?_
    refine go_iadd (pc := 161) C dX7_count_161 ?_
    exact hR _ _ _ _ dX7_count_162 hf
  · have hf := hf.2 c5
    refine go_iconst (pc := 156) (v := 1) C dX7_count_156 (by decide) ?_
    refine go_goto (pc := 157) C dX7_count_157 161 (by decide) ?_
    refine go_iadd (pc := 161) C dX7_count_161 ?_
    exact hR _ _ _ _ dX7_count_162 hf
set_option maxRecDepth 100000 in
set_option maxHeartbeats 4000000 in
theorem wk_X7_count_79 {X : tq_Cx} {K : Int32 → tq_St → Prop} (C : tq_C X cX7_count 5 RX7 1) (hR : tq_Ri X cX7_count 5 K) {rec46 : Int32 → Int32 → Int32 → Int32 → tq_St → Prop} (hrec46 : ∀ (v1 : Int32) (v2 : Int32) (v3 : Int32) (v4 : Int32) (S : tq_St), rec46 v1 v2 v3 v4 S → Go X 5 S 46 [(0, .ref ((tq_la X).1 28 0)), (1, .int v1), (2, .int v2), (3, .int v3), (4, .int v4)] []) : ∀ (v1 : Int32) (v2 : Int32) (v4 : Int32) (w0 : Int32) (w1 : Int32) (S : tq_St), wp_X7_count_79 K rec46 v1 v2 v4 w0 w1 S → Go X 5 S 79 [(0, .ref ((tq_la X).1 28 0)), (1, .int v1), (2, .int v2), (4, .int v4)] [.int w1, .int w0] := by
  intro v1 v2 v4 w0 w1 S hf
  refine go_iadd (pc := 79) C dX7_count_79 ?_
  refine go_nI (fun x8 e9 => ?_)
  have hf := hf x8 e9
  refine go_istore_n (pc := 80) C dX7_count_80 [(3, .int x8), (0, .ref ((tq_la X).1 28 0)), (1, .int v1), (2, .int v2), (4, .int v4)] rfl (by decide) rfl ?_
  obtain ⟨x10, e11⟩ : ∃ q9 : Int32, q9 = v4 + 1 := ⟨_, rfl⟩
  refine go_iinc (pc := 81) (j := 4) (v := x10) C dX7_count_81 [(4, .int x10), (3, .int x8), (0, .ref ((tq_la X).1 28 0)), (1, .int v1), (2, .int v2)] rfl (by rw [e11]; rfl) (by decide) rfl ?_
  have hf := hf x10 e11
  refine go_goto (pc := 84) C dX7_count_84 46 (by decide) ?_
  exact go_sub [2, 3, 4, 1, 0] rfl (hrec46 _ _ _ _ _ hf)
set_option maxRecDepth 100000 in
set_option maxHeartbeats 4000000 in
theorem wk_X7_count_46 {X : tq_Cx} {K : Int32 → tq_St → Prop} (C : tq_C X cX7_count 5 RX7 1) (hR : tq_Ri X cX7_count 5 K) : ∀ (n : Nat) (v1 : Int32) (v2 : Int32) (v3 : Int32) (v4 : Int32) (S : tq_St), wp_X7_count_46 K n v1 v2 v3 v4 S → Go X 5 S 46 [(0, .ref ((tq_la X).1 28 0)), (1, .int v1), (2, .int v2), (3, .int v3), (4, .int v4)] [] := by
  intro n
  induction n with
  | zero => intros; contradiction
  | succ n ih =>
    intro v1 v2 v3 v4 S hf
    refine go_iload (pc := 46) C dX7_count_46 4 rfl ?_
    refine go_aload_n (pc := 48) C dX7_count_48 0 rfl rfl ?_
    refine ge_X7_X7_0 (pc := 49) C dX7_count_49 ?_
    refine go_bipush (pc := 52) (v := 27) C dX7_count_52 (by decide) ?_
    refine al_X7_0 (pc := 54) C hf.1 dX7_count_54 ?_
    have hf := hf.2
    refine go_ic_ge (pc := 55) C dX7_count_55 87 (by decide) (fun c2 => ?_) (fun c2 => ?_)
    · have hf := hf.1 c2
      refine go_iload_n (pc := 87) C dX7_count_87 1 rfl rfl ?_
      rcases tq_sw (x := v1) (0) (5) with c3 | c3
      · have hf := hf.1 c3
        refine go_tabOut (pc := 88) C dX7_count_88 195 (by decide) c3 ?_
        refine go_iconst (pc := 195) (v := (-1)) C dX7_count_195 (by decide) ?_
        exact hR _ _ _ _ dX7_count_196 hf
      · have c3 := tq_lt6 c3
        rcases c3 with c3 | c3 | c3 | c3 | c3 | c3
        · have hf := hf.2.1 c3
          refine go_tabIn (pc := 88) C dX7_count_88 128 (40) (by decide) (by rw [c3]; decide) (by rw [c3]; decide) (by rw [c3]; rfl) ?_
          refine go_aload_n (pc := 128) C dX7_count_128 0 rfl rfl ?_
          refine ge_X7_X7_22 (pc := 129) C dX7_count_129 ?_
          exact hR _ _ _ _ dX7_count_132 hf
        · have hf := hf.2.2.1 c3
          refine go_tabIn (pc := 88) C dX7_count_88 133 (45) (by decide) (by rw [c3]; decide) (by rw [c3]; decide) (by rw [c3]; rfl) ?_
          refine go_aload_n (pc := 133) C dX7_count_133 0 rfl rfl ?_
          refine ge_X7_X7_24 (pc := 134) C dX7_count_134 ?_
          refine go_iconst (pc := 137) (v := 0) C dX7_count_137 (by decide) ?_
          refine al_X7_24 (pc := 138) C hf.1 dX7_count_138 ?_
          have hf := hf.2
          refine go_if_eq (pc := 139) C dX7_count_139 146 (by decide) (fun c4 => ?_) (fun c4 => ?_)
          · have hf := hf.1 c4
            refine go_iconst (pc := 146) (v := 0) C dX7_count_146 (by decide) ?_
            exact go_sub [0] rfl (wk_X7_count_147 C hR _ _ hf)
          · have hf := hf.2 c4
            refine go_iconst (pc := 142) (v := 1) C dX7_count_142 (by decide) ?_
            refine go_goto (pc := 143) C dX7_count_143 147 (by decide) ?_
            exact go_sub [0] rfl (wk_X7_count_147 C hR _ _ hf)
        · have hf := hf.2.2.2.1 c3
          refine go_tabIn (pc := 88) C dX7_count_88 163 (75) (by decide) (by rw [c3]; decide) (by rw [c3]; decide) (by rw [c3]; rfl) ?_
          refine go_aload_n (pc := 163) C dX7_count_163 0 rfl rfl ?_
          refine ge_X7_X7_8 (pc := 164) C dX7_count_164 ?_
          exact hR _ _ _ _ dX7_count_167 hf
        · have hf := hf.2.2.2.2.1 c3
          refine go_tabIn (pc := 88) C dX7_count_88 168 (80) (by decide) (by rw [c3]; decide) (by rw [c3]; decide) (by rw [c3]; rfl) ?_
          refine go_aload_n (pc := 168) C dX7_count_168 0 rfl rfl ?_
          refine ge_X7_X7_25 (pc := 169) C dX7_count_169 ?_
          refine go_iconst (pc := 172) (v := 0) C dX7_count_172 (by decide) ?_
          refine al_X7_25 (pc := 173) C hf.1 dX7_count_173 ?_
          have hf := hf.2
          refine go_bipush (pc := 174) (v := (-4)) C dX7_count_174 (by decide) ?_
          refine go_ic_ne (pc := 176) C dX7_count_176 184 (by decide) (fun c6 => ?_) (fun c6 => ?_)
          · have hf := hf.1 c6
            refine go_aload_n (pc := 184) C dX7_count_184 0 rfl rfl ?_
            refine ge_X7_X7_26 (pc := 185) C dX7_count_185 ?_
            refine go_iconst (pc := 188) (v := 0) C dX7_count_188 (by decide) ?_
            refine al_X7_26 (pc := 189) C hf.1 dX7_count_189 ?_
            have hf := hf.2
            exact hR _ _ _ _ dX7_count_190 hf
          · have hf := hf.2 c6
            refine go_bipush (pc := 179) (v := (-4)) C dX7_count_179 (by decide) ?_
            refine go_goto (pc := 181) C dX7_count_181 190 (by decide) ?_
            exact hR _ _ _ _ dX7_count_190 hf
        · have hf := hf.2.2.2.2.2.1 c3
          refine go_tabIn (pc := 88) C dX7_count_88 191 (103) (by decide) (by rw [c3]; decide) (by rw [c3]; decide) (by rw [c3]; rfl) ?_
          refine go_iload_n (pc := 191) C dX7_count_191 2 rfl rfl ?_
          exact hR _ _ _ _ dX7_count_192 hf
        · have hf := hf.2.2.2.2.2.2 c3
          refine go_tabIn (pc := 88) C dX7_count_88 193 (105) (by decide) (by rw [c3]; decide) (by rw [c3]; decide) (by rw [c3]; rfl) ?_
          refine go_iload_n (pc := 193) C dX7_count_193 3 rfl rfl ?_
          exact hR _ _ _ _ dX7_count_194 hf
    · have hf := hf.2 c2
      refine go_iload_n (pc := 58) C dX7_count_58 3 rfl rfl ?_
      refine go_aload_n (pc := 59) C dX7_count_59 0 rfl rfl ?_
      refine ge_X7_X7_0 (pc := 60) C dX7_count_60 ?_
      refine go_bipush (pc := 63) (v := 19) C dX7_count_63 (by decide) ?_
      refine go_iload (pc := 65) C dX7_count_65 4 rfl ?_
      refine go_iadd (pc := 67) C dX7_count_67 ?_
      refine al_X7_0 (pc := 68) C hf.1 dX7_count_68 ?_
      have hf := hf.2
      refine go_bipush (pc := 69) (v := 6) C dX7_count_69 (by decide) ?_
      refine go_ic_ne (pc := 71) C dX7_count_71 78 (by decide) (fun c7 => ?_) (fun c7 => ?_)
      · have hf := hf.1 c7
        refine go_iconst (pc := 78) (v := 0) C dX7_count_78 (by decide) ?_
        exact go_sub [0, 1, 2, 4] rfl (wk_X7_count_79 C hR ih _ _ _ _ _ _ hf)
      · have hf := hf.2 c7
        refine go_iconst (pc := 74) (v := 1) C dX7_count_74 (by decide) ?_
        refine go_goto (pc := 75) C dX7_count_75 79 (by decide) ?_
        exact go_sub [0, 1, 2, 4] rfl (wk_X7_count_79 C hR ih _ _ _ _ _ _ hf)
set_option maxRecDepth 100000 in
set_option maxHeartbeats 4000000 in
theorem wk_X7_count_35 {X : tq_Cx} {K : Int32 → tq_St → Prop} (C : tq_C X cX7_count 5 RX7 1) (hR : tq_Ri X cX7_count 5 K) {rec7 : Int32 → Int32 → Int32 → Int32 → tq_St → Prop} (hrec7 : ∀ (v1 : Int32) (v2 : Int32) (v3 : Int32) (v4 : Int32) (S : tq_St), rec7 v1 v2 v3 v4 S → Go X 5 S 7 [(0, .ref ((tq_la X).1 28 0)), (1, .int v1), (2, .int v2), (3, .int v3), (4, .int v4)] []) : ∀ (v1 : Int32) (v3 : Int32) (v4 : Int32) (w0 : Int32) (w1 : Int32) (S : tq_St), wp_X7_count_35 K rec7 v1 v3 v4 w0 w1 S → Go X 5 S 35 [(0, .ref ((tq_la X).1 28 0)), (1, .int v1), (3, .int v3), (4, .int v4)] [.int w1, .int w0] := by
  intro v1 v3 v4 w0 w1 S hf
  refine go_iadd (pc := 35) C dX7_count_35 ?_
  refine go_nI (fun x13 e14 => ?_)
  have hf := hf x13 e14
  refine go_istore_n (pc := 36) C dX7_count_36 [(2, .int x13), (0, .ref ((tq_la X).1 28 0)), (1, .int v1), (3, .int v3), (4, .int v4)] rfl (by decide) rfl ?_
  obtain ⟨x15, e16⟩ : ∃ q9 : Int32, q9 = v4 + 1 := ⟨_, rfl⟩
  refine go_iinc (pc := 37) (j := 4) (v := x15) C dX7_count_37 [(4, .int x15), (2, .int x13), (0, .ref ((tq_la X).1 28 0)), (1, .int v1), (3, .int v3)] rfl (by rw [e16]; rfl) (by decide) rfl ?_
  have hf := hf x15 e16
  refine go_goto (pc := 40) C dX7_count_40 7 (by decide) ?_
  exact go_sub [2, 3, 1, 4, 0] rfl (hrec7 _ _ _ _ _ hf)
set_option maxRecDepth 100000 in
set_option maxHeartbeats 4000000 in
theorem wk_X7_count_7 {X : tq_Cx} {K : Int32 → tq_St → Prop} (C : tq_C X cX7_count 5 RX7 1) (hR : tq_Ri X cX7_count 5 K) : ∀ (n : Nat) (v1 : Int32) (v2 : Int32) (v3 : Int32) (v4 : Int32) (S : tq_St), wp_X7_count_7 K n v1 v2 v3 v4 S → Go X 5 S 7 [(0, .ref ((tq_la X).1 28 0)), (1, .int v1), (2, .int v2), (3, .int v3), (4, .int v4)] [] := by
  intro n
  induction n with
  | zero => intros; contradiction
  | succ n ih =>
    intro v1 v2 v3 v4 S hf
    refine go_iload (pc := 7) C dX7_count_7 4 rfl ?_
    refine go_aload_n (pc := 9) C dX7_count_9 0 rfl rfl ?_
    refine ge_X7_X7_2 (pc := 10) C dX7_count_10 ?_
    refine go_ic_ge (pc := 13) C dX7_count_13 43 (by decide) (fun c1 => ?_) (fun c1 => ?_)
    · have hf := hf.1 c1
      refine go_iconst (pc := 43) (v := 0) C dX7_count_43 (by decide) ?_
      refine go_istore (pc := 44) C dX7_count_44 [(4, .int 0), (0, .ref ((tq_la X).1 28 0)), (1, .int v1), (2, .int v2), (3, .int v3)] (by decide) rfl ?_
      exact go_sub [1, 2, 3, 4, 0] rfl (wk_X7_count_46 C hR 2000 _ _ _ _ _ hf)
    · have hf := hf.2 c1
      refine go_iload_n (pc := 16) C dX7_count_16 2 rfl rfl ?_
      refine go_aload_n (pc := 17) C dX7_count_17 0 rfl rfl ?_
      refine ge_X7_X7_0 (pc := 18) C dX7_count_18 ?_
      refine go_bipush (pc := 21) (v := 10) C dX7_count_21 (by decide) ?_
      refine go_iload (pc := 23) C dX7_count_23 4 rfl ?_
      refine go_iadd (pc := 25) C dX7_count_25 ?_
      refine al_X7_0 (pc := 26) C hf.1 dX7_count_26 ?_
      have hf := hf.2
      refine go_if_le (pc := 27) C dX7_count_27 34 (by decide) (fun c12 => ?_) (fun c12 => ?_)
      · have hf := hf.1 c12
        refine go_iconst (pc := 34) (v := 0) C dX7_count_34 (by decide) ?_
        exact go_sub [0, 1, 3, 4] rfl (wk_X7_count_35 C hR ih _ _ _ _ _ _ hf)
      · have hf := hf.2 c12
        refine go_iconst (pc := 30) (v := 1) C dX7_count_30 (by decide) ?_
        refine go_goto (pc := 31) C dX7_count_31 35 (by decide) ?_
        exact go_sub [0, 1, 3, 4] rfl (wk_X7_count_35 C hR ih _ _ _ _ _ _ hf)
set_option maxRecDepth 100000 in
set_option maxHeartbeats 4000000 in
theorem wk_X7_count {X : tq_Cx} {p1 : Int32} {S : tq_St} {K : Int32 → tq_St → Prop} (C : tq_C X cX7_count 5 RX7 1) (hR : tq_Ri X cX7_count 5 K) (hf : wp_X7_count p1 S K) : Go X 5 S 0 [(0, .ref ((tq_la X).1 28 0)), (1, .int p1)] [] := by
  refine go_iconst (pc := 0) (v := 0) C dX7_count_0 (by decide) ?_
  refine go_istore_n (pc := 1) C dX7_count_1 [(2, .int 0), (0, .ref ((tq_la X).1 28 0)), (1, .int p1)] rfl (by decide) rfl ?_
  refine go_iconst (pc := 2) (v := 0) C dX7_count_2 (by decide) ?_
  refine go_istore_n (pc := 3) C dX7_count_3 [(3, .int 0), (2, .int 0), (0, .ref ((tq_la X).1 28 0)), (1, .int p1)] rfl (by decide) rfl ?_
  refine go_iconst (pc := 4) (v := 0) C dX7_count_4 (by decide) ?_
  refine go_istore (pc := 5) C dX7_count_5 [(4, .int 0), (3, .int 0), (2, .int 0), (0, .ref ((tq_la X).1 28 0)), (1, .int p1)] (by decide) rfl ?_
  exact go_sub [3, 4, 2, 1, 0] rfl (wk_X7_count_7 C hR 2000 _ _ _ _ _ hf)
set_option maxRecDepth 100000 in
set_option maxHeartbeats 4000000 in
theorem ok_X7_count {p1 : Int32} {S : tq_St} {K : Int32 → tq_St → Prop} (hf : wp_X7_count p1 S K) : tq_Mi yX7_count cX7_count 5 (some .int) 1 (fun a z => [.ref (a.1 28 0), .int p1]) S K :=
  tq_mkI (by decide) (fun _ _ => Nat.le_of_ble_eq_true rfl) (fun X C hR => wk_X7_count C hR  hf)
set_option maxRecDepth 100000 in
set_option maxHeartbeats 4000000 in
theorem wk_X7_cut {X : tq_Cx} {p1 : Int32} {S : tq_St} {K : Int32 → tq_St → Prop} (C : tq_C X cX7_cut 2 RX7 2) (hR : tq_Ri X cX7_cut 2 K) (hf : wp_X7_cut p1 S K) : Go X 2 S 0 [(0, .ref ((tq_la X).1 28 0)), (1, .int p1)] [] := by
  refine go_aload_n (pc := 0) C dX7_cut_0 0 rfl rfl ?_
  refine go_iload_n (pc := 1) C dX7_cut_1 1 rfl rfl ?_
  refine go_i2l (pc := 2) C dX7_cut_2 ?_
  refine go_lconst (pc := 3) (v := 0) C dX7_cut_3 (by decide) ?_
  refine go_aload_n (pc := 4) C dX7_cut_4 0 rfl rfl ?_
  refine ge_X7_X7_0 (pc := 5) C dX7_cut_5 ?_
  refine go_bipush (pc := 8) (v := 27) C dX7_cut_8 (by decide) ?_
  refine al_X7_0 (pc := 10) C hf.1 dX7_cut_10 ?_
  have hf := hf.2
  refine go_i2l (pc := 11) C dX7_cut_11 ?_
  refine go_cSi (pc := 12) C cs_X7_49 (ok_X7_in hf) rfl rfl rfl (by decide) rfl dX7_cut_12 (fun r1 S2 hf => ?_)
  refine go_bipush (pc := 15) (v := 27) C dX7_cut_15 (by decide) ?_
  refine go_iload_n (pc := 17) C dX7_cut_17 1 rfl rfl ?_
  refine go_iconst (pc := 18) (v := 0) C dX7_cut_18 (by decide) ?_
  refine go_cVi (pc := 19) C cw_X7_171 (ok_X7_puts hf) (rc_X7 C) rfl rfl rfl (by decide) rfl dX7_cut_19 (fun r4 S5 hf => ?_)
  exact hR _ _ _ _ dX7_cut_22 hf
set_option maxRecDepth 100000 in
set_option maxHeartbeats 4000000 in
theorem ok_X7_cut {p1 : Int32} {S : tq_St} {K : Int32 → tq_St → Prop} (hf : wp_X7_cut p1 S K) : tq_Mi yX7_cut cX7_cut 2 (some .int) 2 (fun a z => [.ref (a.1 28 0), .int p1]) S K :=
  tq_mkI (by decide) (fun _ _ => Nat.le_of_ble_eq_true rfl) (fun X C hR => wk_X7_cut C hR  hf)
set_option maxRecDepth 100000 in
set_option maxHeartbeats 4000000 in
theorem wk_X7_does_24 {X : tq_Cx} {K : Int32 → tq_St → Prop} (C : tq_C X cX7_does 2 RX7 4) (hR : tq_Rz X cX7_does 2 K) : ∀ (v1 : Int32) (S : tq_St), wp_X7_does_24 K v1 S → Go X 2 S 24 [(0, .ref ((tq_la X).1 28 0)), (1, .int v1)] [] := by
  intro v1 S hf
  refine go_iload_n (pc := 24) C dX7_does_24 1 rfl rfl ?_
  refine go_iconst (pc := 25) (v := 5) C dX7_does_25 (by decide) ?_
  refine go_ic_ne (pc := 26) C dX7_does_26 37 (by decide) (fun c6 => ?_) (fun c6 => ?_)
  · have hf := hf.1 c6
    refine go_iload_n (pc := 37) C dX7_does_37 1 rfl rfl ?_
    refine go_bipush (pc := 38) (v := 6) C dX7_does_38 (by decide) ?_
    refine go_ic_ne (pc := 40) C dX7_does_40 52 (by decide) (fun c7 => ?_) (fun c7 => ?_)
    · have hf := hf.1 c7
      refine go_aload_n (pc := 52) C dX7_does_52 0 rfl rfl ?_
      refine go_iconst (pc := 53) (v := 0) C dX7_does_53 (by decide) ?_
      refine go_iload_n (pc := 54) C dX7_does_54 1 rfl rfl ?_
      refine go_cVi (pc := 55) C cw_X7_182 (ok_X7_thinksOn hf) (rc_X7 C) rfl rfl rfl (by decide) rfl dX7_does_55 (fun r8 S9 hf => ?_)
      refine go_pop (pc := 58) C dX7_does_58 rfl ?_
      refine go_iconst (pc := 59) (v := 1) C dX7_does_59 (by decide) ?_
      exact hR _ _ _ _ dX7_does_60 (Or.inr rfl) hf
    · have hf := hf.2 c7
      refine go_aload_n (pc := 43) C dX7_does_43 0 rfl rfl ?_
      refine go_iconst (pc := 44) (v := 0) C dX7_does_44 (by decide) ?_
      refine go_cVi (pc := 45) C cw_X7_190 (ok_X7_tramOn hf) (rc_X7 C) rfl rfl rfl (by decide) rfl dX7_does_45 (fun r11 S12 hf => ?_)
      refine go_pop (pc := 48) C dX7_does_48 rfl ?_
      refine go_goto (pc := 49) C dX7_does_49 59 (by decide) ?_
      refine go_iconst (pc := 59) (v := 1) C dX7_does_59 (by decide) ?_
      exact hR _ _ _ _ dX7_does_60 (Or.inr rfl) hf
  · have hf := hf.2 c6
    refine go_aload_n (pc := 29) C dX7_does_29 0 rfl rfl ?_
    refine go_iconst (pc := 30) (v := 0) C dX7_does_30 (by decide) ?_
    refine go_cVv (pc := 31) C cw_X7_187 (ok_X7_minuteOn hf) (rc_X7 C) rfl rfl rfl (by decide) rfl dX7_does_31 (fun S15 hf => ?_)
    refine go_goto (pc := 34) C dX7_does_34 59 (by decide) ?_
    refine go_iconst (pc := 59) (v := 1) C dX7_does_59 (by decide) ?_
    exact hR _ _ _ _ dX7_does_60 (Or.inr rfl) hf
set_option maxRecDepth 100000 in
set_option maxHeartbeats 4000000 in
theorem wk_X7_does {X : tq_Cx} {p1 : Int32} {S : tq_St} {K : Int32 → tq_St → Prop} (C : tq_C X cX7_does 2 RX7 4) (hR : tq_Rz X cX7_does 2 K) (hf : wp_X7_does p1 S K) : Go X 2 S 0 [(0, .ref ((tq_la X).1 28 0)), (1, .int p1)] [] := by
  refine go_aload_n (pc := 0) C dX7_does_0 0 rfl rfl ?_
  refine go_iload_n (pc := 1) C dX7_does_1 1 rfl rfl ?_
  refine go_cVi (pc := 2) C cw_X7_179 (ok_X7_isAct hf) (rc_X7 C) rfl rfl rfl (by decide) rfl dX7_does_2 (fun r1 S2 hf => ?_)
  refine go_if_eq (pc := 5) C dX7_does_5 22 (by decide) (fun c4 => ?_) (fun c4 => ?_)
  · have hf := hf.1 c4
    refine go_iconst (pc := 22) (v := 0) C dX7_does_22 (by decide) ?_
    exact hR _ _ _ _ dX7_does_23 (Or.inl rfl) hf
  · have hf := hf.2 c4
    refine go_iload_n (pc := 8) C dX7_does_8 1 rfl rfl ?_
    refine go_iconst (pc := 9) (v := 5) C dX7_does_9 (by decide) ?_
    refine go_ic_ge (pc := 10) C dX7_does_10 24 (by decide) (fun c5 => ?_) (fun c5 => ?_)
    · have hf := hf.1 c5
      exact go_sub [0, 1] rfl (wk_X7_does_24 C hR _ _ hf)
    · have hf := hf.2 c5
      refine go_aload_n (pc := 13) C dX7_does_13 0 rfl rfl ?_
      refine go_iconst (pc := 14) (v := 0) C dX7_does_14 (by decide) ?_
      refine go_iload_n (pc := 15) C dX7_does_15 1 rfl rfl ?_
      refine go_cVi (pc := 16) C cw_X7_131 (ok_X7_waits hf) (rc_X7 C) rfl rfl rfl (by decide) rfl dX7_does_16 (fun r17 S18 hf => ?_)
      refine go_if_ne (pc := 19) C dX7_does_19 24 (by decide) (fun c20 => ?_) (fun c20 => ?_)
      · have hf := hf.1 c20
        exact go_sub [0, 1] rfl (wk_X7_does_24 C hR _ _ hf)
      · have hf := hf.2 c20
        refine go_iconst (pc := 22) (v := 0) C dX7_does_22 (by decide) ?_
        exact hR _ _ _ _ dX7_does_23 (Or.inl rfl) hf
set_option maxRecDepth 100000 in
set_option maxHeartbeats 4000000 in
theorem ok_X7_does {p1 : Int32} {S : tq_St} {K : Int32 → tq_St → Prop} (hf : wp_X7_does p1 S K) : tq_Mi yX7_does cX7_does 2 (some .boolean) 4 (fun a z => [.ref (a.1 28 0), .int p1]) S K :=
  tq_mkZ (by decide) (fun _ _ => Nat.le_of_ble_eq_true rfl) (fun X C hR => wk_X7_does C hR  hf)
set_option maxRecDepth 100000 in
set_option maxHeartbeats 4000000 in
theorem wk_X7_drift_96 {X : tq_Cx} {K : Int32 → tq_St → Prop} (C : tq_C X cX7_drift 7 RX7 5) (hR : tq_Ri X cX7_drift 7 K) {rec45 : Int32 → Int32 → Int32 → Int32 → tq_St → Prop} (hrec45 : ∀ (v2 : Int32) (v3 : Int32) (v4 : Int32) (v5 : Int32) (S : tq_St), rec45 v2 v3 v4 v5 S → Go X 7 S 45 [(0, .ref ((tq_la X).1 28 0)), (2, .int v2), (3, .int v3), (4, .int v4), (5, .int v5)] []) : ∀ (v2 : Int32) (v3 : Int32) (v4 : Int32) (v5 : Int32) (w1 : Int32) (S : tq_St), wp_X7_drift_96 K rec45 v2 v3 v4 v5 w1 S → Go X 7 S 96 [(0, .ref ((tq_la X).1 28 0)), (2, .int v2), (3, .int v3), (4, .int v4), (5, .int v5)] [.int w1, .ref ((tq_la X).1 28 0)] := by
  intro v2 v3 v4 v5 w1 S hf
  refine go_cVi (pc := 96) C cw_X7_211 (ok_X7_acts hf) (rc_X7 C) rfl rfl rfl (by decide) rfl dX7_drift_96 (fun r23 S24 hf => ?_)
  refine go_pop (pc := 99) C dX7_drift_99 rfl ?_
  obtain ⟨x26, e27⟩ : ∃ q9 : Int32, q9 = v5 + 1 := ⟨_, rfl⟩
  refine go_iinc (pc := 100) (j := 4) (v := x26) C dX7_drift_100 [(5, .int x26), (0, .ref ((tq_la X).1 28 0)), (2, .int v2), (3, .int v3), (4, .int v4)] rfl (by rw [e27]; rfl) (by decide) rfl ?_
  have hf := hf x26 e27
  refine go_goto (pc := 103) C dX7_drift_103 45 (by decide) ?_
  exact go_sub [1, 2, 3, 4, 0] rfl (hrec45 _ _ _ _ _ hf)
set_option maxRecDepth 100000 in
set_option maxHeartbeats 4000000 in
theorem wk_X7_drift_45 {X : tq_Cx} {K : Int32 → tq_St → Prop} (C : tq_C X cX7_drift 7 RX7 5) (hR : tq_Ri X cX7_drift 7 K) : ∀ (n : Nat) (v2 : Int32) (v3 : Int32) (v4 : Int32) (v5 : Int32) (S : tq_St), wp_X7_drift_45 K n v2 v3 v4 v5 S → Go X 7 S 45 [(0, .ref ((tq_la X).1 28 0)), (2, .int v2), (3, .int v3), (4, .int v4), (5, .int v5)] [] := by
  intro n
  induction n with
  | zero => intros; contradiction
  | succ n ih =>
    intro v2 v3 v4 v5 S hf
    refine go_iload (pc := 45) C dX7_drift_45 4 rfl ?_
    refine go_iload_n (pc := 47) C dX7_drift_47 1 rfl rfl ?_
    refine go_ic_ge (pc := 48) C dX7_drift_48 106 (by decide) (fun c13 => ?_) (fun c13 => ?_)
    · have hf := hf.1 c13
      refine go_iload_n (pc := 106) C dX7_drift_106 2 rfl rfl ?_
      refine go_if_ne (pc := 107) C dX7_drift_107 117 (by decide) (fun c14 => ?_) (fun c14 => ?_)
      · have hf := hf.1 c14
        refine go_aload_n (pc := 117) C dX7_drift_117 0 rfl rfl ?_
        refine go_bipush (pc := 118) (v := 112) C dX7_drift_118 (by decide) ?_
        refine go_iconst (pc := 120) (v := 0) C dX7_drift_120 (by decide) ?_
        refine go_cVi (pc := 121) C cw_X7_149 (ok_X7_nextOn hf) (rc_X7 C) rfl rfl rfl (by decide) rfl dX7_drift_121 (fun r15 S16 hf => ?_)
        exact hR _ _ _ _ dX7_drift_124 hf
      · have hf := hf.2 c14
        refine go_aload_n (pc := 110) C dX7_drift_110 0 rfl rfl ?_
        refine ge_X7_X7_19 (pc := 111) C dX7_drift_111 ?_
        refine go_goto (pc := 114) C dX7_drift_114 124 (by decide) ?_
        exact hR _ _ _ _ dX7_drift_124 hf
    · have hf := hf.2 c13
      refine go_iload (pc := 51) C dX7_drift_51 3 rfl ?_
      refine go_ldc (pc := 53) C kc_X7_254 dX7_drift_53 ?_
      refine go_imul (pc := 55) C dX7_drift_55 ?_
      refine go_sipush (pc := 56) (v := 12345) C dX7_drift_56 (by decide) ?_
      refine go_iadd (pc := 59) C dX7_drift_59 ?_
      refine go_nI (fun x18 e19 => ?_)
      have hf := hf x18 e19
      refine go_istore (pc := 60) C dX7_drift_60 [(4, .int x18), (0, .ref ((tq_la X).1 28 0)), (2, .int v2), (3, .int v3), (5, .int v5)] (by decide) rfl ?_
      refine go_iload (pc := 62) C dX7_drift_62 0 rfl ?_
      refine go_bipush (pc := 64) (v := 16) C dX7_drift_64 (by decide) ?_
      refine go_ishr (pc := 66) C dX7_drift_66 ?_
      refine go_sipush (pc := 67) (v := 32767) C dX7_drift_67 (by decide) ?_
      refine go_iand (pc := 70) C dX7_drift_70 ?_
      refine go_aload_n (pc := 71) C dX7_drift_71 1 rfl rfl ?_
      refine ge_X7_X7_2 (pc := 72) C dX7_drift_72 ?_
      refine go_iconst (pc := 75) (v := 1) C dX7_drift_75 (by decide) ?_
      refine go_iadd (pc := 76) C dX7_drift_76 ?_
      refine go_irem (pc := 77) C dX7_drift_77 hf.1 ?_
      have hf := hf.2
      refine go_nI (fun x20 e21 => ?_)
      have hf := hf x20 e21
      refine go_istore (pc := 78) C dX7_drift_78 [(6, .int x20), (4, .int x18), (0, .ref ((tq_la X).1 28 0)), (2, .int v2), (3, .int v3), (5, .int v5)] (by decide) rfl ?_
      refine go_aload_n (pc := 80) C dX7_drift_80 2 rfl rfl ?_
      refine go_iload (pc := 81) C dX7_drift_81 0 rfl ?_
      refine go_aload_n (pc := 83) C dX7_drift_83 2 rfl rfl ?_
      refine ge_X7_X7_2 (pc := 84) C dX7_drift_84 ?_
      refine go_ic_ne (pc := 87) C dX7_drift_87 94 (by decide) (fun c22 => ?_) (fun c22 => ?_)
      · have hf := hf.1 c22
        refine go_iload (pc := 94) C dX7_drift_94 0 rfl ?_
        exact go_sub [2, 3, 4, 1, 5] rfl (wk_X7_drift_96 C hR ih _ _ _ _ _ _ hf)
      · have hf := hf.2 c22
        refine go_iconst (pc := 90) (v := 5) C dX7_drift_90 (by decide) ?_
        refine go_goto (pc := 91) C dX7_drift_91 96 (by decide) ?_
        exact go_sub [2, 3, 4, 1, 5] rfl (wk_X7_drift_96 C hR ih _ _ _ _ _ _ hf)
set_option maxRecDepth 100000 in
set_option maxHeartbeats 4000000 in
theorem wk_X7_drift {X : tq_Cx} {p1 : Int32} {p2 : Int32} {p3 : Int32} {S : tq_St} {K : Int32 → tq_St → Prop} (C : tq_C X cX7_drift 7 RX7 5) (hR : tq_Ri X cX7_drift 7 K) (hf : wp_X7_drift p1 p2 p3 S K) : Go X 7 S 0 [(0, .ref ((tq_la X).1 28 0)), (1, .int p1), (2, .int p2), (3, .int p3)] [] := by
  refine go_iload_n (pc := 0) C dX7_drift_0 2 rfl rfl ?_
  refine go_i2l (pc := 1) C dX7_drift_1 ?_
  refine go_lconst (pc := 2) (v := 1) C dX7_drift_2 (by decide) ?_
  refine go_ldc2 (pc := 3) C kl_X7_185 dX7_drift_3 ?_
  refine go_cSi (pc := 6) C cs_X7_49 (ok_X7_in hf) rfl rfl rfl (by decide) rfl dX7_drift_6 (fun r1 S2 hf => ?_)
  refine go_if_eq (pc := 9) C dX7_drift_9 22 (by decide) (fun c4 => ?_) (fun c4 => ?_)
  · have hf := hf.1 c4
    refine go_iconst (pc := 22) (v := (-1)) C dX7_drift_22 (by decide) ?_
    exact hR _ _ _ _ dX7_drift_23 hf
  · have hf := hf.2 c4
    refine go_iload_n (pc := 12) C dX7_drift_12 3 rfl rfl ?_
    refine go_i2l (pc := 13) C dX7_drift_13 ?_
    refine go_lconst (pc := 14) (v := 0) C dX7_drift_14 (by decide) ?_
    refine go_lconst (pc := 15) (v := 1) C dX7_drift_15 (by decide) ?_
    refine go_cSi (pc := 16) C cs_X7_49 (ok_X7_in hf) rfl rfl rfl (by decide) rfl dX7_drift_16 (fun r5 S6 hf => ?_)
    refine go_if_ne (pc := 19) C dX7_drift_19 24 (by decide) (fun c8 => ?_) (fun c8 => ?_)
    · have hf := hf.1 c8
      refine go_aload_n (pc := 24) C dX7_drift_24 0 rfl rfl ?_
      refine ge_X7_X7_2 (pc := 25) C dX7_drift_25 ?_
      refine go_if_ne (pc := 28) C dX7_drift_28 34 (by decide) (fun c9 => ?_) (fun c9 => ?_)
      · have hf := hf.1 c9
        refine go_aload_n (pc := 34) C dX7_drift_34 0 rfl rfl ?_
        refine go_iconst (pc := 35) (v := 0) C dX7_drift_35 (by decide) ?_
        refine go_cVv (pc := 36) C cw_X7_208 (ok_X7_begins hf) (rc_X7 C) rfl rfl rfl (by decide) rfl dX7_drift_36 (fun S11 hf => ?_)
        refine go_iload_n (pc := 39) C dX7_drift_39 1 rfl rfl ?_
        refine go_istore (pc := 40) C dX7_drift_40 [(4, .int p1), (0, .ref ((tq_la X).1 28 0)), (1, .int p1), (2, .int p2), (3, .int p3)] (by decide) rfl ?_
        refine go_iconst (pc := 42) (v := 0) C dX7_drift_42 (by decide) ?_
        refine go_istore (pc := 43) C dX7_drift_43 [(5, .int 0), (4, .int p1), (0, .ref ((tq_la X).1 28 0)), (1, .int p1), (2, .int p2), (3, .int p3)] (by decide) rfl ?_
        exact go_sub [2, 4, 5, 1, 0] rfl (wk_X7_drift_45 C hR 2000 _ _ _ _ _ hf)
      · have hf := hf.2 c9
        refine go_bipush (pc := 31) (v := (-2)) C dX7_drift_31 (by decide) ?_
        exact hR _ _ _ _ dX7_drift_33 hf
    · have hf := hf.2 c8
      refine go_iconst (pc := 22) (v := (-1)) C dX7_drift_22 (by decide) ?_
      exact hR _ _ _ _ dX7_drift_23 hf
set_option maxRecDepth 100000 in
set_option maxHeartbeats 4000000 in
theorem ok_X7_drift {p1 : Int32} {p2 : Int32} {p3 : Int32} {S : tq_St} {K : Int32 → tq_St → Prop} (hf : wp_X7_drift p1 p2 p3 S K) : tq_Mi yX7_drift cX7_drift 7 (some .int) 5 (fun a z => [.ref (a.1 28 0), .int p1, .int p2, .int p3]) S K :=
  tq_mkI (by decide) (fun _ _ => Nat.le_of_ble_eq_true rfl) (fun X C hR => wk_X7_drift C hR  hf)
set_option maxRecDepth 100000 in
set_option maxHeartbeats 4000000 in
theorem wk_X7_end {X : tq_Cx} {p1 : Int32} {S : tq_St} {K : Int32 → tq_St → Prop} (C : tq_C X cX7_end 3 RX7 2) (hR : tq_Ri X cX7_end 3 K) (hf : wp_X7_end p1 S K) : Go X 3 S 0 [(0, .ref ((tq_la X).1 28 0)), (1, .int p1)] [] := by
  refine go_iload_n (pc := 0) C dX7_end_0 1 rfl rfl ?_
  refine go_i2l (pc := 1) C dX7_end_1 ?_
  refine go_lconst (pc := 2) (v := 0) C dX7_end_2 (by decide) ?_
  refine go_aload_n (pc := 3) C dX7_end_3 0 rfl rfl ?_
  refine ge_X7_X7_8 (pc := 4) C dX7_end_4 ?_
  refine go_i2l (pc := 7) C dX7_end_7 ?_
  refine go_cSi (pc := 8) C cs_X7_49 (ok_X7_in hf) rfl rfl rfl (by decide) rfl dX7_end_8 (fun r1 S2 hf => ?_)
  refine go_if_ne (pc := 11) C dX7_end_11 16 (by decide) (fun c4 => ?_) (fun c4 => ?_)
  · have hf := hf.1 c4
    refine go_aload_n (pc := 16) C dX7_end_16 0 rfl rfl ?_
    refine ge_X7_X7_8 (pc := 17) C dX7_end_17 ?_
    refine go_nI (fun x5 e6 => ?_)
    have hf := hf x5 e6
    refine go_istore_n (pc := 20) C dX7_end_20 [(2, .int x5), (0, .ref ((tq_la X).1 28 0)), (1, .int p1)] rfl (by decide) rfl ?_
    refine go_aload_n (pc := 21) C dX7_end_21 1 rfl rfl ?_
    refine go_iload_n (pc := 22) C dX7_end_22 2 rfl rfl ?_
    refine pu_X7_X7_8 (pc := 23) C dX7_end_23 (fun S7 e8 => ?_)
    have hf := hf S7 e8
    refine go_iload_n (pc := 26) C dX7_end_26 0 rfl rfl ?_
    exact hR _ _ _ _ dX7_end_27 hf
  · have hf := hf.2 c4
    refine go_iconst (pc := 14) (v := (-1)) C dX7_end_14 (by decide) ?_
    exact hR _ _ _ _ dX7_end_15 hf
set_option maxRecDepth 100000 in
set_option maxHeartbeats 4000000 in
theorem ok_X7_end {p1 : Int32} {S : tq_St} {K : Int32 → tq_St → Prop} (hf : wp_X7_end p1 S K) : tq_Mi yX7_end cX7_end 3 (some .int) 2 (fun a z => [.ref (a.1 28 0), .int p1]) S K :=
  tq_mkI (by decide) (fun _ _ => Nat.le_of_ble_eq_true rfl) (fun X C hR => wk_X7_end C hR  hf)
set_option maxRecDepth 100000 in
set_option maxHeartbeats 4000000 in
theorem wk_X7_waitingOn {X : tq_Cx} {p1 : Int32} {S : tq_St} {K : Int32 → tq_St → Prop} (C : tq_C X cX7_waitingOn 2 RX7 1) (hR : tq_Ri X cX7_waitingOn 2 K) (hf : wp_X7_waitingOn p1 S K) : Go X 2 S 0 [(0, .ref ((tq_la X).1 28 0)), (1, .int p1)] [] := by
  refine go_iconst (pc := 0) (v := 1) C dX7_waitingOn_0 (by decide) ?_
  refine go_aload_n (pc := 1) C dX7_waitingOn_1 0 rfl rfl ?_
  refine ge_X7_X7_2 (pc := 2) C dX7_waitingOn_2 ?_
  refine go_ishl (pc := 5) C dX7_waitingOn_5 ?_
  refine go_iconst (pc := 6) (v := 1) C dX7_waitingOn_6 (by decide) ?_
  refine go_isub (pc := 7) C dX7_waitingOn_7 ?_
  refine go_aload_n (pc := 8) C dX7_waitingOn_8 0 rfl rfl ?_
  refine ge_X7_X7_0 (pc := 9) C dX7_waitingOn_9 ?_
  refine go_iload_n (pc := 12) C dX7_waitingOn_12 1 rfl rfl ?_
  refine go_bipush (pc := 13) (v := 15) C dX7_waitingOn_13 (by decide) ?_
  refine go_iadd (pc := 15) C dX7_waitingOn_15 ?_
  refine al_X7_0 (pc := 16) C hf.1 dX7_waitingOn_16 ?_
  have hf := hf.2
  refine go_iconst (pc := 17) (v := (-1)) C dX7_waitingOn_17 (by decide) ?_
  refine go_ixor (pc := 18) C dX7_waitingOn_18 ?_
  refine go_iand (pc := 19) C dX7_waitingOn_19 ?_
  exact hR _ _ _ _ dX7_waitingOn_20 hf
set_option maxRecDepth 100000 in
set_option maxHeartbeats 4000000 in
theorem ok_X7_waitingOn {p1 : Int32} {S : tq_St} {K : Int32 → tq_St → Prop} (hf : wp_X7_waitingOn p1 S K) : tq_Mi yX7_waitingOn cX7_waitingOn 2 (some .int) 1 (fun a z => [.ref (a.1 28 0), .int p1]) S K :=
  tq_mkI (by decide) (fun _ _ => Nat.le_of_ble_eq_true rfl) (fun X C hR => wk_X7_waitingOn C hR  hf)
set_option maxRecDepth 100000 in
set_option maxHeartbeats 4000000 in
theorem wk_X7_enough_2 {X : tq_Cx} {K : Int32 → tq_St → Prop} (C : tq_C X cX7_enough 2 RX7 6) (hR : tq_Ri X cX7_enough 2 K) : ∀ (n : Nat) (v1 : Int32) (S : tq_St), wp_X7_enough_2 K n v1 S → Go X 2 S 2 [(0, .ref ((tq_la X).1 28 0)), (1, .int v1)] [] := by
  intro n
  induction n with
  | zero => intros; contradiction
  | succ n ih =>
    intro v1 S hf
    refine go_iload_n (pc := 2) C dX7_enough_2 1 rfl rfl ?_
    refine go_iconst (pc := 3) (v := 5) C dX7_enough_3 (by decide) ?_
    refine go_ic_gt (pc := 4) C dX7_enough_4 51 (by decide) (fun c1 => ?_) (fun c1 => ?_)
    · have hf := hf.1 c1
      refine go_bipush (pc := 51) (v := (-4)) C dX7_enough_51 (by decide) ?_
      exact hR _ _ _ _ dX7_enough_53 hf
    · have hf := hf.2 c1
      refine go_aload_n (pc := 7) C dX7_enough_7 0 rfl rfl ?_
      refine go_iconst (pc := 8) (v := 0) C dX7_enough_8 (by decide) ?_
      refine go_sipush (pc := 9) (v := 140) C dX7_enough_9 (by decide) ?_
      refine go_cVv (pc := 12) C cw_X7_196 (ok_X7_copies hf) (rc_X7 C) rfl rfl rfl (by decide) rfl dX7_enough_12 (fun S3 hf => ?_)
      refine go_aload_n (pc := 15) C dX7_enough_15 0 rfl rfl ?_
      refine ge_X7_X7_0 (pc := 16) C dX7_enough_16 ?_
      refine go_sipush (pc := 19) (v := 157) C dX7_enough_19 (by decide) ?_
      refine go_iload_n (pc := 22) C dX7_enough_22 1 rfl rfl ?_
      refine go_iconst (pc := 23) (v := 2) C dX7_enough_23 (by decide) ?_
      refine go_isub (pc := 24) C dX7_enough_24 ?_
      refine as_X7_0 (pc := 25) C hf.1 dX7_enough_25 (fun S5 e6 => ?_)
      have hf := hf.2 S5 e6
      refine go_aload_n (pc := 26) C dX7_enough_26 0 rfl rfl ?_
      refine go_sipush (pc := 27) (v := 140) C dX7_enough_27 (by decide) ?_
      refine go_iconst (pc := 30) (v := 0) C dX7_enough_30 (by decide) ?_
      refine go_cVv (pc := 31) C cw_X7_214 (ok_X7_planGoes hf) (rc_X7 C) rfl rfl rfl (by decide) rfl dX7_enough_31 (fun S8 hf => ?_)
      refine go_aload_n (pc := 34) C dX7_enough_34 0 rfl rfl ?_
      refine go_bipush (pc := 35) (v := 112) C dX7_enough_35 (by decide) ?_
      refine go_cVi (pc := 37) C cw_X7_152 (ok_X7_waitingOn hf) (rc_X7 C) rfl rfl rfl (by decide) rfl dX7_enough_37 (fun r10 S11 hf => ?_)
      refine go_if_ne (pc := 40) C dX7_enough_40 45 (by decide) (fun c13 => ?_) (fun c13 => ?_)
      · have hf := hf.1 c13
        obtain ⟨x14, e15⟩ : ∃ q9 : Int32, q9 = v1 + 1 := ⟨_, rfl⟩
        refine go_iinc (pc := 45) (j := 1) (v := x14) C dX7_enough_45 [(1, .int x14), (0, .ref ((tq_la X).1 28 0))] rfl (by rw [e15]; rfl) (by decide) rfl ?_
        have hf := hf x14 e15
        refine go_goto (pc := 48) C dX7_enough_48 2 (by decide) ?_
        exact go_sub [1, 0] rfl (ih _ _ hf)
      · have hf := hf.2 c13
        refine go_iload_n (pc := 43) C dX7_enough_43 1 rfl rfl ?_
        exact hR _ _ _ _ dX7_enough_44 hf
set_option maxRecDepth 100000 in
set_option maxHeartbeats 4000000 in
theorem wk_X7_enough {X : tq_Cx} {S : tq_St} {K : Int32 → tq_St → Prop} (C : tq_C X cX7_enough 2 RX7 6) (hR : tq_Ri X cX7_enough 2 K) (hf : wp_X7_enough S K) : Go X 2 S 0 [(0, .ref ((tq_la X).1 28 0))] [] := by
  refine go_iconst (pc := 0) (v := 1) C dX7_enough_0 (by decide) ?_
  refine go_istore_n (pc := 1) C dX7_enough_1 [(1, .int 1), (0, .ref ((tq_la X).1 28 0))] rfl (by decide) rfl ?_
  exact go_sub [1, 0] rfl (wk_X7_enough_2 C hR 2000 _ _ hf)
set_option maxRecDepth 100000 in
set_option maxHeartbeats 4000000 in
theorem ok_X7_enough {S : tq_St} {K : Int32 → tq_St → Prop} (hf : wp_X7_enough S K) : tq_Mi yX7_enough cX7_enough 2 (some .int) 6 (fun a z => [.ref (a.1 28 0)]) S K :=
  tq_mkI (by decide) (fun _ _ => Nat.le_of_ble_eq_true rfl) (fun X C hR => wk_X7_enough C hR  hf)
set_option maxRecDepth 100000 in
set_option maxHeartbeats 4000000 in
theorem wk_X7_fails {X : tq_Cx} {p1 : Int32} {S : tq_St} {K : tq_St → Prop} (C : tq_C X cX7_fails 2 RX7 1) (hR : tq_Rv X cX7_fails 2 K) (hf : wp_X7_fails p1 S K) : Go X 2 S 0 [(0, .ref ((tq_la X).1 28 0)), (1, .int p1)] [] := by
  refine go_aload_n (pc := 0) C dX7_fails_0 0 rfl rfl ?_
  refine ge_X7_X7_10 (pc := 1) C dX7_fails_1 ?_
  refine go_if_ne (pc := 4) C dX7_fails_4 20 (by decide) (fun c1 => ?_) (fun c1 => ?_)
  · have hf := hf.1 c1
    exact hR _ _ _ dX7_fails_20 hf
  · have hf := hf.2 c1
    refine go_aload_n (pc := 7) C dX7_fails_7 0 rfl rfl ?_
    refine go_iload_n (pc := 8) C dX7_fails_8 1 rfl rfl ?_
    refine pu_X7_X7_10 (pc := 9) C dX7_fails_9 (fun S2 e3 => ?_)
    have hf := hf S2 e3
    refine go_aload_n (pc := 12) C dX7_fails_12 0 rfl rfl ?_
    refine go_aload_n (pc := 13) C dX7_fails_13 0 rfl rfl ?_
    refine ge_X7_X7_13 (pc := 14) C dX7_fails_14 ?_
    refine pu_X7_X7_11 (pc := 17) C dX7_fails_17 (fun S4 e5 => ?_)
    have hf := hf S4 e5
    exact hR _ _ _ dX7_fails_20 hf
set_option maxRecDepth 100000 in
set_option maxHeartbeats 4000000 in
theorem ok_X7_fails {p1 : Int32} {S : tq_St} {K : tq_St → Prop} (hf : wp_X7_fails p1 S K) : tq_Mv yX7_fails cX7_fails 2 none 1 (fun a z => [.ref (a.1 28 0), .int p1]) S K :=
  tq_mkV (by decide) (fun _ _ => Nat.le_of_ble_eq_true rfl) (fun X C hR => wk_X7_fails C hR  hf)
set_option maxRecDepth 100000 in
set_option maxHeartbeats 4000000 in
theorem wk_X7_fault {X : tq_Cx} {S : tq_St} {K : Int32 → tq_St → Prop} (C : tq_C X cX7_fault 1 RX7 1) (hR : tq_Ri X cX7_fault 1 K) (hf : wp_X7_fault S K) : Go X 1 S 0 [(0, .ref ((tq_la X).1 28 0))] [] := by
  refine go_aload_n (pc := 0) C dX7_fault_0 0 rfl rfl ?_
  refine ge_X7_X7_9 (pc := 1) C dX7_fault_1 ?_
  exact hR _ _ _ _ dX7_fault_4 hf
set_option maxRecDepth 100000 in
set_option maxHeartbeats 4000000 in
theorem ok_X7_fault {S : tq_St} {K : Int32 → tq_St → Prop} (hf : wp_X7_fault S K) : tq_Mi yX7_fault cX7_fault 1 (some .int) 1 (fun a z => [.ref (a.1 28 0)]) S K :=
  tq_mkI (by decide) (fun _ _ => Nat.le_of_ble_eq_true rfl) (fun X C hR => wk_X7_fault C hR  hf)
set_option maxRecDepth 100000 in
set_option maxHeartbeats 4000000 in
theorem wk_X7_feed {X : tq_Cx} {p1 : Int32} {S : tq_St} {K : Int32 → tq_St → Prop} (C : tq_C X cX7_feed 2 RX7 2) (hR : tq_Ri X cX7_feed 2 K) (hf : wp_X7_feed p1 S K) : Go X 2 S 0 [(0, .ref ((tq_la X).1 28 0)), (1, .int p1)] [] := by
  refine go_iload_n (pc := 0) C dX7_feed_0 1 rfl rfl ?_
  refine go_i2l (pc := 1) C dX7_feed_1 ?_
  refine go_lconst (pc := 2) (v := 0) C dX7_feed_2 (by decide) ?_
  refine go_ldc2 (pc := 3) C kl_X7_47 dX7_feed_3 ?_
  refine go_cSi (pc := 6) C cs_X7_49 (ok_X7_in hf) rfl rfl rfl (by decide) rfl dX7_feed_6 (fun r1 S2 hf => ?_)
  refine go_if_ne (pc := 9) C dX7_feed_9 14 (by decide) (fun c4 => ?_) (fun c4 => ?_)
  · have hf := hf.1 c4
    refine go_aload_n (pc := 14) C dX7_feed_14 0 rfl rfl ?_
    refine ge_X7_X7_8 (pc := 15) C dX7_feed_15 ?_
    refine go_sipush (pc := 18) (v := 160) C dX7_feed_18 (by decide) ?_
    refine go_ic_ne (pc := 21) C dX7_feed_21 27 (by decide) (fun c5 => ?_) (fun c5 => ?_)
    · have hf := hf.1 c5
      refine go_aload_n (pc := 27) C dX7_feed_27 0 rfl rfl ?_
      refine ge_X7_X7_7 (pc := 28) C dX7_feed_28 ?_
      refine go_aload_n (pc := 31) C dX7_feed_31 0 rfl rfl ?_
      refine ge_X7_X7_8 (pc := 32) C dX7_feed_32 ?_
      refine go_iload_n (pc := 35) C dX7_feed_35 1 rfl rfl ?_
      refine as_X7_7 (pc := 36) C hf.1 dX7_feed_36 (fun S6 e7 => ?_)
      have hf := hf.2 S6 e7
      refine go_aload_n (pc := 37) C dX7_feed_37 0 rfl rfl ?_
      refine go_dup (pc := 38) C dX7_feed_38 rfl ?_
      refine ge_X7_X7_8 (pc := 39) C dX7_feed_39 ?_
      refine go_iconst (pc := 42) (v := 1) C dX7_feed_42 (by decide) ?_
      refine go_iadd (pc := 43) C dX7_feed_43 ?_
      refine pu_X7_X7_8 (pc := 44) C dX7_feed_44 (fun S8 e9 => ?_)
      have hf := hf S8 e9
      refine go_aload_n (pc := 47) C dX7_feed_47 0 rfl rfl ?_
      refine ge_X7_X7_8 (pc := 48) C dX7_feed_48 ?_
      exact hR _ _ _ _ dX7_feed_51 hf
    · have hf := hf.2 c5
      refine go_bipush (pc := 24) (v := (-3)) C dX7_feed_24 (by decide) ?_
      exact hR _ _ _ _ dX7_feed_26 hf
  · have hf := hf.2 c4
    refine go_iconst (pc := 12) (v := (-1)) C dX7_feed_12 (by decide) ?_
    exact hR _ _ _ _ dX7_feed_13 hf
set_option maxRecDepth 100000 in
set_option maxHeartbeats 4000000 in
theorem ok_X7_feed {p1 : Int32} {S : tq_St} {K : Int32 → tq_St → Prop} (hf : wp_X7_feed p1 S K) : tq_Mi yX7_feed cX7_feed 2 (some .int) 2 (fun a z => [.ref (a.1 28 0), .int p1]) S K :=
  tq_mkI (by decide) (fun _ _ => Nat.le_of_ble_eq_true rfl) (fun X C hR => wk_X7_feed C hR  hf)
set_option maxRecDepth 100000 in
set_option maxHeartbeats 4000000 in
theorem wk_X7_forget {X : tq_Cx} {p1 : Int32} {S : tq_St} {K : Int32 → tq_St → Prop} (C : tq_C X cX7_forget 3 RX7 2) (hR : tq_Ri X cX7_forget 3 K) (hf : wp_X7_forget p1 S K) : Go X 3 S 0 [(0, .ref ((tq_la X).1 28 0)), (1, .int p1)] [] := by
  refine go_iload_n (pc := 0) C dX7_forget_0 1 rfl rfl ?_
  refine go_i2l (pc := 1) C dX7_forget_1 ?_
  refine go_lconst (pc := 2) (v := 0) C dX7_forget_2 (by decide) ?_
  refine go_aload_n (pc := 3) C dX7_forget_3 0 rfl rfl ?_
  refine ge_X7_X7_22 (pc := 4) C dX7_forget_4 ?_
  refine go_i2l (pc := 7) C dX7_forget_7 ?_
  refine go_cSi (pc := 8) C cs_X7_49 (ok_X7_in hf) rfl rfl rfl (by decide) rfl dX7_forget_8 (fun r1 S2 hf => ?_)
  refine go_if_ne (pc := 11) C dX7_forget_11 16 (by decide) (fun c4 => ?_) (fun c4 => ?_)
  · have hf := hf.1 c4
    refine go_aload_n (pc := 16) C dX7_forget_16 0 rfl rfl ?_
    refine ge_X7_X7_22 (pc := 17) C dX7_forget_17 ?_
    refine go_nI (fun x5 e6 => ?_)
    have hf := hf x5 e6
    refine go_istore_n (pc := 20) C dX7_forget_20 [(2, .int x5), (0, .ref ((tq_la X).1 28 0)), (1, .int p1)] rfl (by decide) rfl ?_
    refine go_aload_n (pc := 21) C dX7_forget_21 1 rfl rfl ?_
    refine go_iload_n (pc := 22) C dX7_forget_22 2 rfl rfl ?_
    refine pu_X7_X7_22 (pc := 23) C dX7_forget_23 (fun S7 e8 => ?_)
    have hf := hf S7 e8
    refine go_iload_n (pc := 26) C dX7_forget_26 0 rfl rfl ?_
    exact hR _ _ _ _ dX7_forget_27 hf
  · have hf := hf.2 c4
    refine go_iconst (pc := 14) (v := (-1)) C dX7_forget_14 (by decide) ?_
    exact hR _ _ _ _ dX7_forget_15 hf
set_option maxRecDepth 100000 in
set_option maxHeartbeats 4000000 in
theorem ok_X7_forget {p1 : Int32} {S : tq_St} {K : Int32 → tq_St → Prop} (hf : wp_X7_forget p1 S K) : tq_Mi yX7_forget cX7_forget 3 (some .int) 2 (fun a z => [.ref (a.1 28 0), .int p1]) S K :=
  tq_mkI (by decide) (fun _ _ => Nat.le_of_ble_eq_true rfl) (fun X C hR => wk_X7_forget C hR  hf)
set_option maxRecDepth 100000 in
set_option maxHeartbeats 4000000 in
theorem wk_X7_home_50 {X : tq_Cx} {K : Int32 → tq_St → Prop} (C : tq_C X cX7_home 5 RX7 6) (hR : tq_Ri X cX7_home 5 K) {rec42 : Int32 → Int32 → Int32 → tq_St → Prop} (hrec42 : ∀ (v1 : Int32) (v2 : Int32) (v3 : Int32) (S : tq_St), rec42 v1 v2 v3 S → Go X 5 S 42 [(0, .ref ((tq_la X).1 28 0)), (1, .int v1), (2, .int v2), (3, .int v3)] []) : ∀ (n : Nat) (v1 : Int32) (v2 : Int32) (v3 : Int32) (v4 : Int32) (S : tq_St), wp_X7_home_50 K rec42 n v1 v2 v3 v4 S → Go X 5 S 50 [(0, .ref ((tq_la X).1 28 0)), (1, .int v1), (2, .int v2), (3, .int v3), (4, .int v4)] [] := by
  intro n
  induction n with
  | zero => intros; contradiction
  | succ n ih =>
    intro v1 v2 v3 v4 S hf
    refine go_iload (pc := 50) C dX7_home_50 4 rfl ?_
    refine go_iconst (pc := 52) (v := 5) C dX7_home_52 (by decide) ?_
    refine go_iload_n (pc := 53) C dX7_home_53 3 rfl rfl ?_
    refine go_cSi (pc := 54) C cs_X7_217 (ok_X7_powerOf hf) rfl rfl rfl (by decide) rfl dX7_home_54 (fun r11 S12 hf => ?_)
    refine go_ic_ge (pc := 57) C dX7_home_57 124 (by decide) (fun c14 => ?_) (fun c14 => ?_)
    · have hf := hf.1 c14
      obtain ⟨x15, e16⟩ : ∃ q9 : Int32, q9 = v3 + 1 := ⟨_, rfl⟩
      refine go_iinc (pc := 124) (j := 3) (v := x15) C dX7_home_124 [(3, .int x15), (0, .ref ((tq_la X).1 28 0)), (1, .int v1), (2, .int v2), (4, .int v4)] rfl (by rw [e16]; rfl) (by decide) rfl ?_
      have hf := hf x15 e16
      refine go_goto (pc := 127) C dX7_home_127 42 (by decide) ?_
      exact go_sub [1, 2, 3, 0] rfl (hrec42 _ _ _ _ hf)
    · have hf := hf.2 c14
      refine go_aload_n (pc := 60) C dX7_home_60 0 rfl rfl ?_
      refine go_iload (pc := 61) C dX7_home_61 4 rfl ?_
      refine go_iconst (pc := 63) (v := 5) C dX7_home_63 (by decide) ?_
      refine go_iload_n (pc := 64) C dX7_home_64 3 rfl rfl ?_
      refine go_cVi (pc := 65) C cw_X7_228 (ok_X7_rowGoes hf) (rc_X7 C) rfl rfl rfl (by decide) rfl dX7_home_65 (fun r17 S18 hf => ?_)
      refine go_if_eq (pc := 68) C dX7_home_68 118 (by decide) (fun c20 => ?_) (fun c20 => ?_)
      · have hf := hf.1 c20
        obtain ⟨x21, e22⟩ : ∃ q9 : Int32, q9 = v4 + 1 := ⟨_, rfl⟩
        refine go_iinc (pc := 118) (j := 4) (v := x21) C dX7_home_118 [(4, .int x21), (0, .ref ((tq_la X).1 28 0)), (1, .int v1), (2, .int v2), (3, .int v3)] rfl (by rw [e22]; rfl) (by decide) rfl ?_
        have hf := hf x21 e22
        refine go_goto (pc := 121) C dX7_home_121 50 (by decide) ?_
        exact go_sub [1, 2, 3, 4, 0] rfl (ih _ _ _ _ _ hf)
      · have hf := hf.2 c20
        refine go_aload_n (pc := 71) C dX7_home_71 0 rfl rfl ?_
        refine go_bipush (pc := 72) (v := 112) C dX7_home_72 (by decide) ?_
        refine go_cVi (pc := 74) C cw_X7_190 (ok_X7_tramOn hf) (rc_X7 C) rfl rfl rfl (by decide) rfl dX7_home_74 (fun r23 S24 hf => ?_)
        refine go_iload_n (pc := 77) C dX7_home_77 1 rfl rfl ?_
        refine go_ishr (pc := 78) C dX7_home_78 ?_
        refine go_iconst (pc := 79) (v := 1) C dX7_home_79 (by decide) ?_
        refine go_iand (pc := 80) C dX7_home_80 ?_
        refine go_iconst (pc := 81) (v := 1) C dX7_home_81 (by decide) ?_
        refine go_ic_ne (pc := 82) C dX7_home_82 118 (by decide) (fun c26 => ?_) (fun c26 => ?_)
        · have hf := hf.1 c26
          obtain ⟨x27, e28⟩ : ∃ q9 : Int32, q9 = v4 + 1 := ⟨_, rfl⟩
          refine go_iinc (pc := 118) (j := 4) (v := x27) C dX7_home_118 [(4, .int x27), (0, .ref ((tq_la X).1 28 0)), (1, .int v1), (2, .int v2), (3, .int v3)] rfl (by rw [e28]; rfl) (by decide) rfl ?_
          have hf := hf x27 e28
          refine go_goto (pc := 121) C dX7_home_121 50 (by decide) ?_
          exact go_sub [1, 2, 3, 4, 0] rfl (ih _ _ _ _ _ hf)
        · have hf := hf.2 c26
          refine go_iload_n (pc := 85) C dX7_home_85 2 rfl rfl ?_
          refine go_if_ne (pc := 86) C dX7_home_86 93 (by decide) (fun c29 => ?_) (fun c29 => ?_)
          · have hf := hf.1 c29
            refine go_iload_n (pc := 93) C dX7_home_93 2 rfl rfl ?_
            refine go_bipush (pc := 94) (v := 10) C dX7_home_94 (by decide) ?_
            refine go_isub (pc := 96) C dX7_home_96 ?_
            refine go_iload_n (pc := 97) C dX7_home_97 3 rfl rfl ?_
            refine go_ic_ge (pc := 98) C dX7_home_98 115 (by decide) (fun c30 => ?_) (fun c30 => ?_)
            · have hf := hf.1 c30
              refine go_bipush (pc := 115) (v := (-4)) C dX7_home_115 (by decide) ?_
              exact hR _ _ _ _ dX7_home_117 hf
            · have hf := hf.2 c30
              refine go_iload (pc := 101) C dX7_home_101 4 rfl ?_
              refine go_iconst (pc := 103) (v := 5) C dX7_home_103 (by decide) ?_
              refine go_iload_n (pc := 104) C dX7_home_104 3 rfl rfl ?_
              refine go_iload_n (pc := 105) C dX7_home_105 2 rfl rfl ?_
              refine go_bipush (pc := 106) (v := 10) C dX7_home_106 (by decide) ?_
              refine go_isub (pc := 108) C dX7_home_108 ?_
              refine go_cSi (pc := 109) C cs_X7_220 (ok_X7_figureOf hf) rfl rfl rfl (by decide) rfl dX7_home_109 (fun r31 S32 hf => ?_)
              refine go_goto (pc := 112) C dX7_home_112 117 (by decide) ?_
              exact hR _ _ _ _ dX7_home_117 hf
          · have hf := hf.2 c29
            refine go_iload_n (pc := 89) C dX7_home_89 3 rfl rfl ?_
            refine go_goto (pc := 90) C dX7_home_90 117 (by decide) ?_
            exact hR _ _ _ _ dX7_home_117 hf
set_option maxRecDepth 100000 in
set_option maxHeartbeats 4000000 in
theorem wk_X7_home_42 {X : tq_Cx} {K : Int32 → tq_St → Prop} (C : tq_C X cX7_home 5 RX7 6) (hR : tq_Ri X cX7_home 5 K) : ∀ (n : Nat) (v1 : Int32) (v2 : Int32) (v3 : Int32) (S : tq_St), wp_X7_home_42 K n v1 v2 v3 S → Go X 5 S 42 [(0, .ref ((tq_la X).1 28 0)), (1, .int v1), (2, .int v2), (3, .int v3)] [] := by
  intro n
  induction n with
  | zero => intros; contradiction
  | succ n ih =>
    intro v1 v2 v3 S hf
    refine go_iload_n (pc := 42) C dX7_home_42 3 rfl rfl ?_
    refine go_iconst (pc := 43) (v := 4) C dX7_home_43 (by decide) ?_
    refine go_ic_ge (pc := 44) C dX7_home_44 130 (by decide) (fun c10 => ?_) (fun c10 => ?_)
    · have hf := hf.1 c10
      refine go_bipush (pc := 130) (v := (-4)) C dX7_home_130 (by decide) ?_
      exact hR _ _ _ _ dX7_home_132 hf
    · have hf := hf.2 c10
      refine go_iconst (pc := 47) (v := 0) C dX7_home_47 (by decide) ?_
      refine go_istore (pc := 48) C dX7_home_48 [(4, .int 0), (0, .ref ((tq_la X).1 28 0)), (1, .int v1), (2, .int v2), (3, .int v3)] (by decide) rfl ?_
      exact go_sub [1, 2, 3, 4, 0] rfl (wk_X7_home_50 C hR ih 2000 _ _ _ _ _ hf)
set_option maxRecDepth 100000 in
set_option maxHeartbeats 4000000 in
theorem wk_X7_home_28 {X : tq_Cx} {K : Int32 → tq_St → Prop} (C : tq_C X cX7_home 5 RX7 6) (hR : tq_Ri X cX7_home 5 K) : ∀ (v1 : Int32) (v2 : Int32) (S : tq_St), wp_X7_home_28 K v1 v2 S → Go X 5 S 28 [(0, .ref ((tq_la X).1 28 0)), (1, .int v1), (2, .int v2)] [] := by
  intro v1 v2 S hf
  refine go_aload_n (pc := 28) C dX7_home_28 0 rfl rfl ?_
  refine go_iconst (pc := 29) (v := 0) C dX7_home_29 (by decide) ?_
  refine go_iload_n (pc := 30) C dX7_home_30 1 rfl rfl ?_
  refine go_cVi (pc := 31) C cw_X7_131 (ok_X7_waits hf) (rc_X7 C) rfl rfl rfl (by decide) rfl dX7_home_31 (fun r6 S7 hf => ?_)
  refine go_if_ne (pc := 34) C dX7_home_34 40 (by decide) (fun c9 => ?_) (fun c9 => ?_)
  · have hf := hf.1 c9
    refine go_iconst (pc := 40) (v := 0) C dX7_home_40 (by decide) ?_
    refine go_istore_n (pc := 41) C dX7_home_41 [(3, .int 0), (0, .ref ((tq_la X).1 28 0)), (1, .int v1), (2, .int v2)] rfl (by decide) rfl ?_
    exact go_sub [1, 2, 3, 0] rfl (wk_X7_home_42 C hR 2000 _ _ _ _ hf)
  · have hf := hf.2 c9
    refine go_bipush (pc := 37) (v := (-2)) C dX7_home_37 (by decide) ?_
    exact hR _ _ _ _ dX7_home_39 hf
set_option maxRecDepth 100000 in
set_option maxHeartbeats 4000000 in
theorem wk_X7_home {X : tq_Cx} {p1 : Int32} {p2 : Int32} {S : tq_St} {K : Int32 → tq_St → Prop} (C : tq_C X cX7_home 5 RX7 6) (hR : tq_Ri X cX7_home 5 K) (hf : wp_X7_home p1 p2 S K) : Go X 5 S 0 [(0, .ref ((tq_la X).1 28 0)), (1, .int p1), (2, .int p2)] [] := by
  refine go_aload_n (pc := 0) C dX7_home_0 0 rfl rfl ?_
  refine go_iload_n (pc := 1) C dX7_home_1 1 rfl rfl ?_
  refine go_cVi (pc := 2) C cw_X7_158 (ok_X7_isOne hf) (rc_X7 C) rfl rfl rfl (by decide) rfl dX7_home_2 (fun r1 S2 hf => ?_)
  refine go_if_eq (pc := 5) C dX7_home_5 26 (by decide) (fun c4 => ?_) (fun c4 => ?_)
  · have hf := hf.1 c4
    refine go_iconst (pc := 26) (v := (-1)) C dX7_home_26 (by decide) ?_
    exact hR _ _ _ _ dX7_home_27 hf
  · have hf := hf.2 c4
    refine go_iload_n (pc := 8) C dX7_home_8 2 rfl rfl ?_
    refine go_if_eq (pc := 9) C dX7_home_9 28 (by decide) (fun c5 => ?_) (fun c5 => ?_)
    · have hf := hf.1 c5
      exact go_sub [0, 1, 2] rfl (wk_X7_home_28 C hR _ _ _ hf)
    · have hf := hf.2 c5
      refine go_iload_n (pc := 12) C dX7_home_12 2 rfl rfl ?_
      refine go_i2l (pc := 13) C dX7_home_13 ?_
      refine go_ldc2 (pc := 14) C kl_X7_224 dX7_home_14 ?_
      refine go_ldc2 (pc := 17) C kl_X7_232 dX7_home_17 ?_
      refine go_cSi (pc := 20) C cs_X7_49 (ok_X7_in hf) rfl rfl rfl (by decide) rfl dX7_home_20 (fun r34 S35 hf => ?_)
      refine go_if_ne (pc := 23) C dX7_home_23 28 (by decide) (fun c37 => ?_) (fun c37 => ?_)
      · have hf := hf.1 c37
        exact go_sub [0, 1, 2] rfl (wk_X7_home_28 C hR _ _ _ hf)
      · have hf := hf.2 c37
        refine go_iconst (pc := 26) (v := (-1)) C dX7_home_26 (by decide) ?_
        exact hR _ _ _ _ dX7_home_27 hf
set_option maxRecDepth 100000 in
set_option maxHeartbeats 4000000 in
theorem ok_X7_home {p1 : Int32} {p2 : Int32} {S : tq_St} {K : Int32 → tq_St → Prop} (hf : wp_X7_home p1 p2 S K) : tq_Mi yX7_home cX7_home 5 (some .int) 6 (fun a z => [.ref (a.1 28 0), .int p1, .int p2]) S K :=
  tq_mkI (by decide) (fun _ _ => Nat.le_of_ble_eq_true rfl) (fun X C hR => wk_X7_home C hR  hf)
set_option maxRecDepth 100000 in
set_option maxHeartbeats 4000000 in
theorem wk_X7_joy {X : tq_Cx} {p1 : Int32} {S : tq_St} {K : Int32 → tq_St → Prop} (C : tq_C X cX7_joy 3 RX7 3) (hR : tq_Ri X cX7_joy 3 K) (hf : wp_X7_joy p1 S K) : Go X 3 S 0 [(0, .ref ((tq_la X).1 28 0)), (1, .int p1)] [] := by
  refine go_aload_n (pc := 0) C dX7_joy_0 0 rfl rfl ?_
  refine go_iload_n (pc := 1) C dX7_joy_1 1 rfl rfl ?_
  refine go_cVi (pc := 2) C cw_X7_158 (ok_X7_isOne hf) (rc_X7 C) rfl rfl rfl (by decide) rfl dX7_joy_2 (fun r1 S2 hf => ?_)
  refine go_if_ne (pc := 5) C dX7_joy_5 10 (by decide) (fun c4 => ?_) (fun c4 => ?_)
  · have hf := hf.1 c4
    refine go_aload_n (pc := 10) C dX7_joy_10 0 rfl rfl ?_
    refine go_iconst (pc := 11) (v := 0) C dX7_joy_11 (by decide) ?_
    refine go_iload_n (pc := 12) C dX7_joy_12 1 rfl rfl ?_
    refine go_cVi (pc := 13) C cw_X7_131 (ok_X7_waits hf) (rc_X7 C) rfl rfl rfl (by decide) rfl dX7_joy_13 (fun r5 S6 hf => ?_)
    refine go_if_ne (pc := 16) C dX7_joy_16 22 (by decide) (fun c8 => ?_) (fun c8 => ?_)
    · have hf := hf.1 c8
      refine go_aload_n (pc := 22) C dX7_joy_22 0 rfl rfl ?_
      refine ge_X7_X7_0 (pc := 23) C dX7_joy_23 ?_
      refine go_iconst (pc := 26) (v := 5) C dX7_joy_26 (by decide) ?_
      refine go_iload_n (pc := 27) C dX7_joy_27 1 rfl rfl ?_
      refine go_iadd (pc := 28) C dX7_joy_28 ?_
      refine al_X7_0 (pc := 29) C hf.1 dX7_joy_29 ?_
      have hf := hf.2
      refine go_nI (fun x9 e10 => ?_)
      have hf := hf x9 e10
      refine go_istore_n (pc := 30) C dX7_joy_30 [(2, .int x9), (0, .ref ((tq_la X).1 28 0)), (1, .int p1)] rfl (by decide) rfl ?_
      refine go_aload_n (pc := 31) C dX7_joy_31 1 rfl rfl ?_
      refine ge_X7_X7_0 (pc := 32) C dX7_joy_32 ?_
      refine go_iconst (pc := 35) (v := 5) C dX7_joy_35 (by decide) ?_
      refine go_iload_n (pc := 36) C dX7_joy_36 2 rfl rfl ?_
      refine go_iadd (pc := 37) C dX7_joy_37 ?_
      refine go_iconst (pc := 38) (v := 0) C dX7_joy_38 (by decide) ?_
      refine as_X7_0 (pc := 39) C hf.1 dX7_joy_39 (fun S11 e12 => ?_)
      have hf := hf.2 S11 e12
      refine go_aload_n (pc := 40) C dX7_joy_40 1 rfl rfl ?_
      refine ge_X7_X7_0 (pc := 41) C dX7_joy_41 ?_
      refine go_bipush (pc := 44) (v := 10) C dX7_joy_44 (by decide) ?_
      refine go_iload_n (pc := 46) C dX7_joy_46 2 rfl rfl ?_
      refine go_iadd (pc := 47) C dX7_joy_47 ?_
      refine go_iconst (pc := 48) (v := 0) C dX7_joy_48 (by decide) ?_
      refine as_X7_0 (pc := 49) C hf.1 dX7_joy_49 (fun S13 e14 => ?_)
      have hf := hf.2 S13 e14
      refine go_iload_n (pc := 50) C dX7_joy_50 0 rfl rfl ?_
      exact hR _ _ _ _ dX7_joy_51 hf
    · have hf := hf.2 c8
      refine go_bipush (pc := 19) (v := (-2)) C dX7_joy_19 (by decide) ?_
      exact hR _ _ _ _ dX7_joy_21 hf
  · have hf := hf.2 c4
    refine go_iconst (pc := 8) (v := (-1)) C dX7_joy_8 (by decide) ?_
    exact hR _ _ _ _ dX7_joy_9 hf
set_option maxRecDepth 100000 in
set_option maxHeartbeats 4000000 in
theorem ok_X7_joy {p1 : Int32} {S : tq_St} {K : Int32 → tq_St → Prop} (hf : wp_X7_joy p1 S K) : tq_Mi yX7_joy cX7_joy 3 (some .int) 3 (fun a z => [.ref (a.1 28 0), .int p1]) S K :=
  tq_mkI (by decide) (fun _ _ => Nat.le_of_ble_eq_true rfl) (fun X C hR => wk_X7_joy C hR  hf)
set_option maxRecDepth 100000 in
set_option maxHeartbeats 4000000 in
theorem wk_X7_keep_37 {X : tq_Cx} {K : Int32 → tq_St → Prop} (C : tq_C X cX7_keep 3 RX7 2) (hR : tq_Ri X cX7_keep 3 K) : ∀ (v1 : Int32) (w0 : Int32) (S : tq_St), wp_X7_keep_37 K v1 w0 S → Go X 3 S 37 [(0, .ref ((tq_la X).1 28 0)), (1, .int v1)] [.int w0] := by
  intro v1 w0 S hf
  refine go_istore_n (pc := 37) C dX7_keep_37 [(2, .int w0), (0, .ref ((tq_la X).1 28 0)), (1, .int v1)] rfl (by decide) rfl ?_
  refine go_aload_n (pc := 38) C dX7_keep_38 1 rfl rfl ?_
  refine ge_X7_X7_24 (pc := 39) C dX7_keep_39 ?_
  refine go_iload_n (pc := 42) C dX7_keep_42 2 rfl rfl ?_
  refine go_iconst (pc := 43) (v := 1) C dX7_keep_43 (by decide) ?_
  refine as_X7_24 (pc := 44) C hf.1 dX7_keep_44 (fun S9 e10 => ?_)
  have hf := hf.2 S9 e10
  refine go_iload_n (pc := 45) C dX7_keep_45 0 rfl rfl ?_
  exact hR _ _ _ _ dX7_keep_46 hf
set_option maxRecDepth 100000 in
set_option maxHeartbeats 4000000 in
theorem wk_X7_keep {X : tq_Cx} {p1 : Int32} {S : tq_St} {K : Int32 → tq_St → Prop} (C : tq_C X cX7_keep 3 RX7 2) (hR : tq_Ri X cX7_keep 3 K) (hf : wp_X7_keep p1 S K) : Go X 3 S 0 [(0, .ref ((tq_la X).1 28 0)), (1, .int p1)] [] := by
  refine go_iload_n (pc := 0) C dX7_keep_0 1 rfl rfl ?_
  refine go_i2l (pc := 1) C dX7_keep_1 ?_
  refine go_lconst (pc := 2) (v := 0) C dX7_keep_2 (by decide) ?_
  refine go_lconst (pc := 3) (v := 1) C dX7_keep_3 (by decide) ?_
  refine go_cSi (pc := 4) C cs_X7_49 (ok_X7_in hf) rfl rfl rfl (by decide) rfl dX7_keep_4 (fun r1 S2 hf => ?_)
  refine go_if_ne (pc := 7) C dX7_keep_7 12 (by decide) (fun c4 => ?_) (fun c4 => ?_)
  · have hf := hf.1 c4
    refine go_aload_n (pc := 12) C dX7_keep_12 0 rfl rfl ?_
    refine go_iconst (pc := 13) (v := 0) C dX7_keep_13 (by decide) ?_
    refine go_bipush (pc := 14) (v := 28) C dX7_keep_14 (by decide) ?_
    refine go_iload_n (pc := 16) C dX7_keep_16 1 rfl rfl ?_
    refine go_iconst (pc := 17) (v := 1) C dX7_keep_17 (by decide) ?_
    refine go_iadd (pc := 18) C dX7_keep_18 ?_
    refine go_imul (pc := 19) C dX7_keep_19 ?_
    refine go_cVv (pc := 20) C cw_X7_196 (ok_X7_copies hf) (rc_X7 C) rfl rfl rfl (by decide) rfl dX7_keep_20 (fun S6 hf => ?_)
    refine go_aload_n (pc := 23) C dX7_keep_23 0 rfl rfl ?_
    refine ge_X7_X7_24 (pc := 24) C dX7_keep_24 ?_
    refine go_iload_n (pc := 27) C dX7_keep_27 1 rfl rfl ?_
    refine al_X7_24 (pc := 28) C hf.1 dX7_keep_28 ?_
    have hf := hf.2
    refine go_if_eq (pc := 29) C dX7_keep_29 36 (by decide) (fun c8 => ?_) (fun c8 => ?_)
    · have hf := hf.1 c8
      refine go_iconst (pc := 36) (v := 0) C dX7_keep_36 (by decide) ?_
      exact go_sub [0, 1] rfl (wk_X7_keep_37 C hR _ _ _ hf)
    · have hf := hf.2 c8
      refine go_iconst (pc := 32) (v := 1) C dX7_keep_32 (by decide) ?_
      refine go_goto (pc := 33) C dX7_keep_33 37 (by decide) ?_
      exact go_sub [0, 1] rfl (wk_X7_keep_37 C hR _ _ _ hf)
  · have hf := hf.2 c4
    refine go_iconst (pc := 10) (v := (-1)) C dX7_keep_10 (by decide) ?_
    exact hR _ _ _ _ dX7_keep_11 hf
set_option maxRecDepth 100000 in
set_option maxHeartbeats 4000000 in
theorem ok_X7_keep {p1 : Int32} {S : tq_St} {K : Int32 → tq_St → Prop} (hf : wp_X7_keep p1 S K) : tq_Mi yX7_keep cX7_keep 3 (some .int) 2 (fun a z => [.ref (a.1 28 0), .int p1]) S K :=
  tq_mkI (by decide) (fun _ _ => Nat.le_of_ble_eq_true rfl) (fun X C hR => wk_X7_keep C hR  hf)
set_option maxRecDepth 100000 in
set_option maxHeartbeats 4000000 in
theorem wk_X7_kinds_52 {X : tq_Cx} {K : Int32 → tq_St → Prop} (C : tq_C X cX7_kinds 5 RX7 7) (hR : tq_Ri X cX7_kinds 5 K) {rec22 : Int32 → Int32 → Int32 → Int32 → tq_St → Prop} (hrec22 : ∀ (v1 : Int32) (v2 : Int32) (v3 : Int32) (v4 : Int32) (S : tq_St), rec22 v1 v2 v3 v4 S → Go X 5 S 22 [(0, .ref ((tq_la X).1 28 0)), (1, .int v1), (2, .int v2), (3, .int v3), (4, .int v4)] []) : ∀ (v1 : Int32) (v2 : Int32) (v4 : Int32) (w0 : Int32) (w1 : Int32) (S : tq_St), wp_X7_kinds_52 K rec22 v1 v2 v4 w0 w1 S → Go X 5 S 52 [(0, .ref ((tq_la X).1 28 0)), (1, .int v1), (2, .int v2), (4, .int v4)] [.int w1, .int w0] := by
  intro v1 v2 v4 w0 w1 S hf
  refine go_ior (pc := 52) C dX7_kinds_52 ?_
  refine go_nI (fun x16 e17 => ?_)
  have hf := hf x16 e17
  refine go_istore_n (pc := 53) C dX7_kinds_53 [(3, .int x16), (0, .ref ((tq_la X).1 28 0)), (1, .int v1), (2, .int v2), (4, .int v4)] rfl (by decide) rfl ?_
  obtain ⟨x18, e19⟩ : ∃ q9 : Int32, q9 = v4 + 1 := ⟨_, rfl⟩
  refine go_iinc (pc := 54) (j := 4) (v := x18) C dX7_kinds_54 [(4, .int x18), (3, .int x16), (0, .ref ((tq_la X).1 28 0)), (1, .int v1), (2, .int v2)] rfl (by rw [e19]; rfl) (by decide) rfl ?_
  have hf := hf x18 e19
  refine go_goto (pc := 57) C dX7_kinds_57 22 (by decide) ?_
  exact go_sub [2, 3, 4, 1, 0] rfl (hrec22 _ _ _ _ _ hf)
set_option maxRecDepth 100000 in
set_option maxHeartbeats 4000000 in
theorem wk_X7_kinds_22 {X : tq_Cx} {K : Int32 → tq_St → Prop} (C : tq_C X cX7_kinds 5 RX7 7) (hR : tq_Ri X cX7_kinds 5 K) : ∀ (n : Nat) (v1 : Int32) (v2 : Int32) (v3 : Int32) (v4 : Int32) (S : tq_St), wp_X7_kinds_22 K n v1 v2 v3 v4 S → Go X 5 S 22 [(0, .ref ((tq_la X).1 28 0)), (1, .int v1), (2, .int v2), (3, .int v3), (4, .int v4)] [] := by
  intro n
  induction n with
  | zero => intros; contradiction
  | succ n ih =>
    intro v1 v2 v3 v4 S hf
    refine go_iload (pc := 22) C dX7_kinds_22 4 rfl ?_
    refine go_iconst (pc := 24) (v := 4) C dX7_kinds_24 (by decide) ?_
    refine go_ic_ge (pc := 25) C dX7_kinds_25 60 (by decide) (fun c7 => ?_) (fun c7 => ?_)
    · have hf := hf.1 c7
      refine go_aload_n (pc := 60) C dX7_kinds_60 0 rfl rfl ?_
      refine ge_X7_X7_0 (pc := 61) C dX7_kinds_61 ?_
      refine go_iload_n (pc := 64) C dX7_kinds_64 1 rfl rfl ?_
      refine go_iload_n (pc := 65) C dX7_kinds_65 2 rfl rfl ?_
      refine as_X7_0 (pc := 66) C hf.1 dX7_kinds_66 (fun S8 e9 => ?_)
      have hf := hf.2 S8 e9
      refine go_iload_n (pc := 67) C dX7_kinds_67 3 rfl rfl ?_
      exact hR _ _ _ _ dX7_kinds_68 hf
    · have hf := hf.2 c7
      refine go_aload_n (pc := 28) C dX7_kinds_28 0 rfl rfl ?_
      refine ge_X7_X7_0 (pc := 29) C dX7_kinds_29 ?_
      refine go_iload_n (pc := 32) C dX7_kinds_32 1 rfl rfl ?_
      refine go_iload (pc := 33) C dX7_kinds_33 4 rfl ?_
      refine as_X7_0 (pc := 35) C hf.1 dX7_kinds_35 (fun S10 e11 => ?_)
      have hf := hf.2 S10 e11
      refine go_iload_n (pc := 36) C dX7_kinds_36 3 rfl rfl ?_
      refine go_aload_n (pc := 37) C dX7_kinds_37 0 rfl rfl ?_
      refine go_cVi (pc := 38) C cw_X7_247 (ok_X7_isAsSeen hf) (rc_X7 C) rfl rfl rfl (by decide) rfl dX7_kinds_38 (fun r12 S13 hf => ?_)
      refine go_if_eq (pc := 41) C dX7_kinds_41 51 (by decide) (fun c15 => ?_) (fun c15 => ?_)
      · have hf := hf.1 c15
        refine go_iconst (pc := 51) (v := 0) C dX7_kinds_51 (by decide) ?_
        exact go_sub [0, 1, 2, 4] rfl (wk_X7_kinds_52 C hR ih _ _ _ _ _ _ hf)
      · have hf := hf.2 c15
        refine go_iconst (pc := 44) (v := 1) C dX7_kinds_44 (by decide) ?_
        refine go_iload (pc := 45) C dX7_kinds_45 4 rfl ?_
        refine go_ishl (pc := 47) C dX7_kinds_47 ?_
        refine go_goto (pc := 48) C dX7_kinds_48 52 (by decide) ?_
        exact go_sub [0, 1, 2, 4] rfl (wk_X7_kinds_52 C hR ih _ _ _ _ _ _ hf)
set_option maxRecDepth 100000 in
set_option maxHeartbeats 4000000 in
theorem wk_X7_kinds {X : tq_Cx} {p1 : Int32} {S : tq_St} {K : Int32 → tq_St → Prop} (C : tq_C X cX7_kinds 5 RX7 7) (hR : tq_Ri X cX7_kinds 5 K) (hf : wp_X7_kinds p1 S K) : Go X 5 S 0 [(0, .ref ((tq_la X).1 28 0)), (1, .int p1)] [] := by
  refine go_aload_n (pc := 0) C dX7_kinds_0 0 rfl rfl ?_
  refine go_iload_n (pc := 1) C dX7_kinds_1 1 rfl rfl ?_
  refine go_cVi (pc := 2) C cw_X7_158 (ok_X7_isOne hf) (rc_X7 C) rfl rfl rfl (by decide) rfl dX7_kinds_2 (fun r1 S2 hf => ?_)
  refine go_if_ne (pc := 5) C dX7_kinds_5 10 (by decide) (fun c4 => ?_) (fun c4 => ?_)
  · have hf := hf.1 c4
    refine go_aload_n (pc := 10) C dX7_kinds_10 0 rfl rfl ?_
    refine ge_X7_X7_0 (pc := 11) C dX7_kinds_11 ?_
    refine go_iload_n (pc := 14) C dX7_kinds_14 1 rfl rfl ?_
    refine al_X7_0 (pc := 15) C hf.1 dX7_kinds_15 ?_
    have hf := hf.2
    refine go_nI (fun x5 e6 => ?_)
    have hf := hf x5 e6
    refine go_istore_n (pc := 16) C dX7_kinds_16 [(2, .int x5), (0, .ref ((tq_la X).1 28 0)), (1, .int p1)] rfl (by decide) rfl ?_
    refine go_iconst (pc := 17) (v := 0) C dX7_kinds_17 (by decide) ?_
    refine go_istore_n (pc := 18) C dX7_kinds_18 [(3, .int 0), (2, .int x5), (0, .ref ((tq_la X).1 28 0)), (1, .int p1)] rfl (by decide) rfl ?_
    refine go_iconst (pc := 19) (v := 0) C dX7_kinds_19 (by decide) ?_
    refine go_istore (pc := 20) C dX7_kinds_20 [(4, .int 0), (3, .int 0), (2, .int x5), (0, .ref ((tq_la X).1 28 0)), (1, .int p1)] (by decide) rfl ?_
    exact go_sub [3, 4, 2, 1, 0] rfl (wk_X7_kinds_22 C hR 2000 _ _ _ _ _ hf)
  · have hf := hf.2 c4
    refine go_iconst (pc := 8) (v := (-1)) C dX7_kinds_8 (by decide) ?_
    exact hR _ _ _ _ dX7_kinds_9 hf
set_option maxRecDepth 100000 in
set_option maxHeartbeats 4000000 in
theorem ok_X7_kinds {p1 : Int32} {S : tq_St} {K : Int32 → tq_St → Prop} (hf : wp_X7_kinds p1 S K) : tq_Mi yX7_kinds cX7_kinds 5 (some .int) 7 (fun a z => [.ref (a.1 28 0), .int p1]) S K :=
  tq_mkI (by decide) (fun _ _ => Nat.le_of_ble_eq_true rfl) (fun X C hR => wk_X7_kinds C hR  hf)
set_option maxRecDepth 100000 in
set_option maxHeartbeats 4000000 in
theorem wk_X7_lay {X : tq_Cx} {p1 : Int32} {p2 : Int32} {p3 : Int32} {S : tq_St} {K : Int32 → tq_St → Prop} (C : tq_C X cX7_lay 4 RX7 2) (hR : tq_Ri X cX7_lay 4 K) (hf : wp_X7_lay p1 p2 p3 S K) : Go X 4 S 0 [(0, .ref ((tq_la X).1 28 0)), (1, .int p1), (2, .int p2), (3, .int p3)] [] := by
  refine go_iload_n (pc := 0) C dX7_lay_0 1 rfl rfl ?_
  refine go_i2l (pc := 1) C dX7_lay_1 ?_
  refine go_lconst (pc := 2) (v := 0) C dX7_lay_2 (by decide) ?_
  refine go_ldc2 (pc := 3) C kl_X7_167 dX7_lay_3 ?_
  refine go_cSi (pc := 6) C cs_X7_49 (ok_X7_in hf) rfl rfl rfl (by decide) rfl dX7_lay_6 (fun r1 S2 hf => ?_)
  refine go_if_ne (pc := 9) C dX7_lay_9 14 (by decide) (fun c4 => ?_) (fun c4 => ?_)
  · have hf := hf.1 c4
    refine go_aload_n (pc := 14) C dX7_lay_14 0 rfl rfl ?_
    refine ge_X7_X7_25 (pc := 15) C dX7_lay_15 ?_
    refine go_iload_n (pc := 18) C dX7_lay_18 1 rfl rfl ?_
    refine al_X7_25 (pc := 19) C hf.1 dX7_lay_19 ?_
    have hf := hf.2
    refine go_bipush (pc := 20) (v := (-4)) C dX7_lay_20 (by decide) ?_
    refine go_ic_ne (pc := 22) C dX7_lay_22 28 (by decide) (fun c5 => ?_) (fun c5 => ?_)
    · have hf := hf.1 c5
      refine go_iload_n (pc := 28) C dX7_lay_28 2 rfl rfl ?_
      refine go_i2l (pc := 29) C dX7_lay_29 ?_
      refine go_lconst (pc := 30) (v := 0) C dX7_lay_30 (by decide) ?_
      refine go_aload_n (pc := 31) C dX7_lay_31 0 rfl rfl ?_
      refine ge_X7_X7_26 (pc := 32) C dX7_lay_32 ?_
      refine go_iload_n (pc := 35) C dX7_lay_35 1 rfl rfl ?_
      refine al_X7_26 (pc := 36) C hf.1 dX7_lay_36 ?_
      have hf := hf.2
      refine go_iconst (pc := 37) (v := 1) C dX7_lay_37 (by decide) ?_
      refine go_isub (pc := 38) C dX7_lay_38 ?_
      refine go_i2l (pc := 39) C dX7_lay_39 ?_
      refine go_cSi (pc := 40) C cs_X7_49 (ok_X7_in hf) rfl rfl rfl (by decide) rfl dX7_lay_40 (fun r6 S7 hf => ?_)
      refine go_if_ne (pc := 43) C dX7_lay_43 49 (by decide) (fun c9 => ?_) (fun c9 => ?_)
      · have hf := hf.1 c9
        refine go_aload_n (pc := 49) C dX7_lay_49 0 rfl rfl ?_
        refine ge_X7_X7_27 (pc := 50) C dX7_lay_50 ?_
        refine go_bipush (pc := 53) (v := 40) C dX7_lay_53 (by decide) ?_
        refine go_iload_n (pc := 55) C dX7_lay_55 1 rfl rfl ?_
        refine go_imul (pc := 56) C dX7_lay_56 ?_
        refine go_iload_n (pc := 57) C dX7_lay_57 2 rfl rfl ?_
        refine go_iadd (pc := 58) C dX7_lay_58 ?_
        refine go_aload_n (pc := 59) C dX7_lay_59 0 rfl rfl ?_
        refine ge_X7_X7_25 (pc := 60) C dX7_lay_60 ?_
        refine go_iload_n (pc := 63) C dX7_lay_63 1 rfl rfl ?_
        refine al_X7_25 (pc := 64) C hf.1 dX7_lay_64 ?_
        have hf := hf.2
        refine go_if_ne (pc := 65) C dX7_lay_65 78 (by decide) (fun c10 => ?_) (fun c10 => ?_)
        · have hf := hf.1 c10
          refine go_aload_n (pc := 78) C dX7_lay_78 0 rfl rfl ?_
          refine ge_X7_X7_25 (pc := 79) C dX7_lay_79 ?_
          refine go_iload_n (pc := 82) C dX7_lay_82 1 rfl rfl ?_
          refine al_X7_25 (pc := 83) C hf.1 dX7_lay_83 ?_
          have hf := hf.2
          refine go_iconst (pc := 84) (v := 1) C dX7_lay_84 (by decide) ?_
          refine go_ic_ne (pc := 85) C dX7_lay_85 98 (by decide) (fun c11 => ?_) (fun c11 => ?_)
          · have hf := hf.1 c11
            refine go_iload_n (pc := 98) C dX7_lay_98 3 rfl rfl ?_
            refine as_X7_27 (pc := 99) C hf.1 dX7_lay_99 (fun S12 e13 => ?_)
            have hf := hf.2 S12 e13
            refine go_iconst (pc := 100) (v := 1) C dX7_lay_100 (by decide) ?_
            exact hR _ _ _ _ dX7_lay_101 hf
          · have hf := hf.2 c11
            refine go_iload_n (pc := 88) C dX7_lay_88 3 rfl rfl ?_
            refine go_bipush (pc := 89) (v := 16) C dX7_lay_89 (by decide) ?_
            refine go_ishl (pc := 91) C dX7_lay_91 ?_
            refine go_bipush (pc := 92) (v := 16) C dX7_lay_92 (by decide) ?_
            refine go_ishr (pc := 94) C dX7_lay_94 ?_
            refine go_goto (pc := 95) C dX7_lay_95 99 (by decide) ?_
            refine as_X7_27 (pc := 99) C hf.1 dX7_lay_99 (fun S14 e15 => ?_)
            have hf := hf.2 S14 e15
            refine go_iconst (pc := 100) (v := 1) C dX7_lay_100 (by decide) ?_
            exact hR _ _ _ _ dX7_lay_101 hf
        · have hf := hf.2 c10
          refine go_iload_n (pc := 68) C dX7_lay_68 3 rfl rfl ?_
          refine go_bipush (pc := 69) (v := 24) C dX7_lay_69 (by decide) ?_
          refine go_ishl (pc := 71) C dX7_lay_71 ?_
          refine go_bipush (pc := 72) (v := 24) C dX7_lay_72 (by decide) ?_
          refine go_ishr (pc := 74) C dX7_lay_74 ?_
          refine go_goto (pc := 75) C dX7_lay_75 99 (by decide) ?_
          refine as_X7_27 (pc := 99) C hf.1 dX7_lay_99 (fun S16 e17 => ?_)
          have hf := hf.2 S16 e17
          refine go_iconst (pc := 100) (v := 1) C dX7_lay_100 (by decide) ?_
          exact hR _ _ _ _ dX7_lay_101 hf
      · have hf := hf.2 c9
        refine go_bipush (pc := 46) (v := (-12)) C dX7_lay_46 (by decide) ?_
        exact hR _ _ _ _ dX7_lay_48 hf
    · have hf := hf.2 c5
      refine go_bipush (pc := 25) (v := (-11)) C dX7_lay_25 (by decide) ?_
      exact hR _ _ _ _ dX7_lay_27 hf
  · have hf := hf.2 c4
    refine go_iconst (pc := 12) (v := (-1)) C dX7_lay_12 (by decide) ?_
    exact hR _ _ _ _ dX7_lay_13 hf
set_option maxRecDepth 100000 in
set_option maxHeartbeats 4000000 in
theorem ok_X7_lay {p1 : Int32} {p2 : Int32} {p3 : Int32} {S : tq_St} {K : Int32 → tq_St → Prop} (hf : wp_X7_lay p1 p2 p3 S K) : tq_Mi yX7_lay cX7_lay 4 (some .int) 2 (fun a z => [.ref (a.1 28 0), .int p1, .int p2, .int p3]) S K :=
  tq_mkI (by decide) (fun _ _ => Nat.le_of_ble_eq_true rfl) (fun X C hR => wk_X7_lay C hR  hf)
set_option maxRecDepth 100000 in
set_option maxHeartbeats 4000000 in
theorem wk_X7_luck {X : tq_Cx} {p1 : Int32} {p2 : Int32} {p3 : Int32} {S : tq_St} {K : Int64 → tq_St → Prop} (C : tq_C X cX7_luck 4 RX7 7) (hR : tq_Rl X cX7_luck 4 K) (hf : wp_X7_luck p1 p2 p3 S K) : Go X 4 S 0 [(0, .ref ((tq_la X).1 28 0)), (1, .int p1), (2, .int p2), (3, .int p3)] [] := by
  refine go_iload_n (pc := 0) C dX7_luck_0 1 rfl rfl ?_
  refine go_i2l (pc := 1) C dX7_luck_1 ?_
  refine go_lconst (pc := 2) (v := 0) C dX7_luck_2 (by decide) ?_
  refine go_ldc2 (pc := 3) C kl_X7_224 dX7_luck_3 ?_
  refine go_cSi (pc := 6) C cs_X7_49 (ok_X7_in hf) rfl rfl rfl (by decide) rfl dX7_luck_6 (fun r1 S2 hf => ?_)
  refine go_if_eq (pc := 9) C dX7_luck_9 40 (by decide) (fun c4 => ?_) (fun c4 => ?_)
  · have hf := hf.1 c4
    refine go_ldc2 (pc := 40) C kl_X7_245 dX7_luck_40 ?_
    exact hR _ _ _ _ dX7_luck_43 hf
  · have hf := hf.2 c4
    refine go_aload_n (pc := 12) C dX7_luck_12 0 rfl rfl ?_
    refine go_iload_n (pc := 13) C dX7_luck_13 2 rfl rfl ?_
    refine go_cVi (pc := 14) C cw_X7_158 (ok_X7_isOne hf) (rc_X7 C) rfl rfl rfl (by decide) rfl dX7_luck_14 (fun r5 S6 hf => ?_)
    refine go_if_eq (pc := 17) C dX7_luck_17 40 (by decide) (fun c8 => ?_) (fun c8 => ?_)
    · have hf := hf.1 c8
      refine go_ldc2 (pc := 40) C kl_X7_245 dX7_luck_40 ?_
      exact hR _ _ _ _ dX7_luck_43 hf
    · have hf := hf.2 c8
      refine go_iload_n (pc := 20) C dX7_luck_20 3 rfl rfl ?_
      refine go_i2l (pc := 21) C dX7_luck_21 ?_
      refine go_lconst (pc := 22) (v := 0) C dX7_luck_22 (by decide) ?_
      refine go_lconst (pc := 23) (v := 1) C dX7_luck_23 (by decide) ?_
      refine go_cSi (pc := 24) C cs_X7_49 (ok_X7_in hf) rfl rfl rfl (by decide) rfl dX7_luck_24 (fun r9 S10 hf => ?_)
      refine go_if_eq (pc := 27) C dX7_luck_27 40 (by decide) (fun c12 => ?_) (fun c12 => ?_)
      · have hf := hf.1 c12
        refine go_ldc2 (pc := 40) C kl_X7_245 dX7_luck_40 ?_
        exact hR _ _ _ _ dX7_luck_43 hf
      · have hf := hf.2 c12
        refine go_aload_n (pc := 30) C dX7_luck_30 0 rfl rfl ?_
        refine go_iload_n (pc := 31) C dX7_luck_31 1 rfl rfl ?_
        refine go_iload_n (pc := 32) C dX7_luck_32 2 rfl rfl ?_
        refine go_iload_n (pc := 33) C dX7_luck_33 3 rfl rfl ?_
        refine go_cVl (pc := 34) C cw_X7_241 (ok_X7_byFails hf) (rc_X7 C) rfl rfl rfl (by decide) rfl dX7_luck_34 (fun r13 S14 hf => ?_)
        refine go_goto (pc := 37) C dX7_luck_37 43 (by decide) ?_
        exact hR _ _ _ _ dX7_luck_43 hf
set_option maxRecDepth 100000 in
set_option maxHeartbeats 4000000 in
theorem ok_X7_luck {p1 : Int32} {p2 : Int32} {p3 : Int32} {S : tq_St} {K : Int64 → tq_St → Prop} (hf : wp_X7_luck p1 p2 p3 S K) : tq_Ml yX7_luck cX7_luck 4 (some .long) 7 (fun a z => [.ref (a.1 28 0), .int p1, .int p2, .int p3]) S K :=
  tq_mkL (by decide) (fun _ _ => Nat.le_of_ble_eq_true rfl) (fun X C hR => wk_X7_luck C hR  hf)
set_option maxRecDepth 100000 in
set_option maxHeartbeats 4000000 in
theorem wk_X7_mean {X : tq_Cx} {p1 : Int32} {p2 : Int32} {S : tq_St} {K : Int64 → tq_St → Prop} (C : tq_C X cX7_mean 3 RX7 7) (hR : tq_Rl X cX7_mean 3 K) (hf : wp_X7_mean p1 p2 S K) : Go X 3 S 0 [(0, .ref ((tq_la X).1 28 0)), (1, .int p1), (2, .int p2)] [] := by
  refine go_iload_n (pc := 0) C dX7_mean_0 1 rfl rfl ?_
  refine go_i2l (pc := 1) C dX7_mean_1 ?_
  refine go_lconst (pc := 2) (v := 0) C dX7_mean_2 (by decide) ?_
  refine go_ldc2 (pc := 3) C kl_X7_224 dX7_mean_3 ?_
  refine go_cSi (pc := 6) C cs_X7_49 (ok_X7_in hf) rfl rfl rfl (by decide) rfl dX7_mean_6 (fun r1 S2 hf => ?_)
  refine go_if_eq (pc := 9) C dX7_mean_9 33 (by decide) (fun c4 => ?_) (fun c4 => ?_)
  · have hf := hf.1 c4
    refine go_ldc2 (pc := 33) C kl_X7_245 dX7_mean_33 ?_
    exact hR _ _ _ _ dX7_mean_36 hf
  · have hf := hf.2 c4
    refine go_iload_n (pc := 12) C dX7_mean_12 2 rfl rfl ?_
    refine go_i2l (pc := 13) C dX7_mean_13 ?_
    refine go_lconst (pc := 14) (v := 0) C dX7_mean_14 (by decide) ?_
    refine go_lconst (pc := 15) (v := 1) C dX7_mean_15 (by decide) ?_
    refine go_cSi (pc := 16) C cs_X7_49 (ok_X7_in hf) rfl rfl rfl (by decide) rfl dX7_mean_16 (fun r5 S6 hf => ?_)
    refine go_if_eq (pc := 19) C dX7_mean_19 33 (by decide) (fun c8 => ?_) (fun c8 => ?_)
    · have hf := hf.1 c8
      refine go_ldc2 (pc := 33) C kl_X7_245 dX7_mean_33 ?_
      exact hR _ _ _ _ dX7_mean_36 hf
    · have hf := hf.2 c8
      refine go_aload_n (pc := 22) C dX7_mean_22 0 rfl rfl ?_
      refine go_iload_n (pc := 23) C dX7_mean_23 1 rfl rfl ?_
      refine go_bipush (pc := 24) (v := (-4)) C dX7_mean_24 (by decide) ?_
      refine go_iload_n (pc := 26) C dX7_mean_26 2 rfl rfl ?_
      refine go_cVl (pc := 27) C cw_X7_241 (ok_X7_byFails hf) (rc_X7 C) rfl rfl rfl (by decide) rfl dX7_mean_27 (fun r9 S10 hf => ?_)
      refine go_goto (pc := 30) C dX7_mean_30 36 (by decide) ?_
      exact hR _ _ _ _ dX7_mean_36 hf
set_option maxRecDepth 100000 in
set_option maxHeartbeats 4000000 in
theorem ok_X7_mean {p1 : Int32} {p2 : Int32} {S : tq_St} {K : Int64 → tq_St → Prop} (hf : wp_X7_mean p1 p2 S K) : tq_Ml yX7_mean cX7_mean 3 (some .long) 7 (fun a z => [.ref (a.1 28 0), .int p1, .int p2]) S K :=
  tq_mkL (by decide) (fun _ _ => Nat.le_of_ble_eq_true rfl) (fun X C hR => wk_X7_mean C hR  hf)
set_option maxRecDepth 100000 in
set_option maxHeartbeats 4000000 in
theorem wk_X7_sorrowOn_36 {X : tq_Cx} {K : Int32 → tq_St → Prop} (C : tq_C X cX7_sorrowOn 4 RX7 2) (hR : tq_Ri X cX7_sorrowOn 4 K) {rec4 : Int32 → Int32 → Int32 → tq_St → Prop} (hrec4 : ∀ (v1 : Int32) (v2 : Int32) (v3 : Int32) (S : tq_St), rec4 v1 v2 v3 S → Go X 4 S 4 [(0, .ref ((tq_la X).1 28 0)), (1, .int v1), (2, .int v2), (3, .int v3)] []) : ∀ (v1 : Int32) (v3 : Int32) (w0 : Int32) (w1 : Int32) (S : tq_St), wp_X7_sorrowOn_36 K rec4 v1 v3 w0 w1 S → Go X 4 S 36 [(0, .ref ((tq_la X).1 28 0)), (1, .int v1), (3, .int v3)] [.int w1, .int w0] := by
  intro v1 v3 w0 w1 S hf
  refine go_iadd (pc := 36) C dX7_sorrowOn_36 ?_
  refine go_nI (fun x6 e7 => ?_)
  have hf := hf x6 e7
  refine go_istore_n (pc := 37) C dX7_sorrowOn_37 [(2, .int x6), (0, .ref ((tq_la X).1 28 0)), (1, .int v1), (3, .int v3)] rfl (by decide) rfl ?_
  obtain ⟨x8, e9⟩ : ∃ q9 : Int32, q9 = v3 + 1 := ⟨_, rfl⟩
  refine go_iinc (pc := 38) (j := 3) (v := x8) C dX7_sorrowOn_38 [(3, .int x8), (2, .int x6), (0, .ref ((tq_la X).1 28 0)), (1, .int v1)] rfl (by rw [e9]; rfl) (by decide) rfl ?_
  have hf := hf x8 e9
  refine go_goto (pc := 41) C dX7_sorrowOn_41 4 (by decide) ?_
  exact go_sub [2, 3, 1, 0] rfl (hrec4 _ _ _ _ hf)
set_option maxRecDepth 100000 in
set_option maxHeartbeats 4000000 in
theorem wk_X7_sorrowOn_4 {X : tq_Cx} {K : Int32 → tq_St → Prop} (C : tq_C X cX7_sorrowOn 4 RX7 2) (hR : tq_Ri X cX7_sorrowOn 4 K) : ∀ (n : Nat) (v1 : Int32) (v2 : Int32) (v3 : Int32) (S : tq_St), wp_X7_sorrowOn_4 K n v1 v2 v3 S → Go X 4 S 4 [(0, .ref ((tq_la X).1 28 0)), (1, .int v1), (2, .int v2), (3, .int v3)] [] := by
  intro n
  induction n with
  | zero => intros; contradiction
  | succ n ih =>
    intro v1 v2 v3 S hf
    refine go_iload_n (pc := 4) C dX7_sorrowOn_4 3 rfl rfl ?_
    refine go_aload_n (pc := 5) C dX7_sorrowOn_5 0 rfl rfl ?_
    refine ge_X7_X7_2 (pc := 6) C dX7_sorrowOn_6 ?_
    refine go_ic_ge (pc := 9) C dX7_sorrowOn_9 44 (by decide) (fun c1 => ?_) (fun c1 => ?_)
    · have hf := hf.1 c1
      refine go_iload_n (pc := 44) C dX7_sorrowOn_44 2 rfl rfl ?_
      exact hR _ _ _ _ dX7_sorrowOn_45 hf
    · have hf := hf.2 c1
      refine go_iload_n (pc := 12) C dX7_sorrowOn_12 2 rfl rfl ?_
      refine go_aload_n (pc := 13) C dX7_sorrowOn_13 0 rfl rfl ?_
      refine go_iload_n (pc := 14) C dX7_sorrowOn_14 1 rfl rfl ?_
      refine go_iload_n (pc := 15) C dX7_sorrowOn_15 3 rfl rfl ?_
      refine go_cVi (pc := 16) C cw_X7_131 (ok_X7_waits hf) (rc_X7 C) rfl rfl rfl (by decide) rfl dX7_sorrowOn_16 (fun r2 S3 hf => ?_)
      refine go_if_eq (pc := 19) C dX7_sorrowOn_19 35 (by decide) (fun c5 => ?_) (fun c5 => ?_)
      · have hf := hf.1 c5
        refine go_iconst (pc := 35) (v := 0) C dX7_sorrowOn_35 (by decide) ?_
        exact go_sub [0, 1, 3] rfl (wk_X7_sorrowOn_36 C hR ih _ _ _ _ _ hf)
      · have hf := hf.2 c5
        refine go_aload_n (pc := 22) C dX7_sorrowOn_22 0 rfl rfl ?_
        refine ge_X7_X7_0 (pc := 23) C dX7_sorrowOn_23 ?_
        refine go_iload_n (pc := 26) C dX7_sorrowOn_26 1 rfl rfl ?_
        refine go_iconst (pc := 27) (v := 5) C dX7_sorrowOn_27 (by decide) ?_
        refine go_iadd (pc := 28) C dX7_sorrowOn_28 ?_
        refine go_iload_n (pc := 29) C dX7_sorrowOn_29 3 rfl rfl ?_
        refine go_iadd (pc := 30) C dX7_sorrowOn_30 ?_
        refine al_X7_0 (pc := 31) C hf.1 dX7_sorrowOn_31 ?_
        have hf := hf.2
        refine go_goto (pc := 32) C dX7_sorrowOn_32 36 (by decide) ?_
        exact go_sub [0, 1, 3] rfl (wk_X7_sorrowOn_36 C hR ih _ _ _ _ _ hf)
set_option maxRecDepth 100000 in
set_option maxHeartbeats 4000000 in
theorem wk_X7_sorrowOn {X : tq_Cx} {p1 : Int32} {S : tq_St} {K : Int32 → tq_St → Prop} (C : tq_C X cX7_sorrowOn 4 RX7 2) (hR : tq_Ri X cX7_sorrowOn 4 K) (hf : wp_X7_sorrowOn p1 S K) : Go X 4 S 0 [(0, .ref ((tq_la X).1 28 0)), (1, .int p1)] [] := by
  refine go_iconst (pc := 0) (v := 0) C dX7_sorrowOn_0 (by decide) ?_
  refine go_istore_n (pc := 1) C dX7_sorrowOn_1 [(2, .int 0), (0, .ref ((tq_la X).1 28 0)), (1, .int p1)] rfl (by decide) rfl ?_
  refine go_iconst (pc := 2) (v := 0) C dX7_sorrowOn_2 (by decide) ?_
  refine go_istore_n (pc := 3) C dX7_sorrowOn_3 [(3, .int 0), (2, .int 0), (0, .ref ((tq_la X).1 28 0)), (1, .int p1)] rfl (by decide) rfl ?_
  exact go_sub [2, 3, 1, 0] rfl (wk_X7_sorrowOn_4 C hR 2000 _ _ _ _ hf)
set_option maxRecDepth 100000 in
set_option maxHeartbeats 4000000 in
theorem ok_X7_sorrowOn {p1 : Int32} {S : tq_St} {K : Int32 → tq_St → Prop} (hf : wp_X7_sorrowOn p1 S K) : tq_Mi yX7_sorrowOn cX7_sorrowOn 4 (some .int) 2 (fun a z => [.ref (a.1 28 0), .int p1]) S K :=
  tq_mkI (by decide) (fun _ _ => Nat.le_of_ble_eq_true rfl) (fun X C hR => wk_X7_sorrowOn C hR  hf)
set_option maxRecDepth 100000 in
set_option maxHeartbeats 4000000 in
theorem wk_X7_minutes_16 {X : tq_Cx} {K : Int32 → tq_St → Prop} (C : tq_C X cX7_minutes 3 RX7 3) (hR : tq_Ri X cX7_minutes 3 K) : ∀ (n : Nat) (v1 : Int32) (v2 : Int32) (S : tq_St), wp_X7_minutes_16 K n v1 v2 S → Go X 3 S 16 [(0, .ref ((tq_la X).1 28 0)), (1, .int v1), (2, .int v2)] [] := by
  intro n
  induction n with
  | zero => intros; contradiction
  | succ n ih =>
    intro v1 v2 S hf
    refine go_iload_n (pc := 16) C dX7_minutes_16 2 rfl rfl ?_
    refine go_iload_n (pc := 17) C dX7_minutes_17 1 rfl rfl ?_
    refine go_ic_ge (pc := 18) C dX7_minutes_18 32 (by decide) (fun c5 => ?_) (fun c5 => ?_)
    · have hf := hf.1 c5
      refine go_aload_n (pc := 32) C dX7_minutes_32 0 rfl rfl ?_
      refine go_iconst (pc := 33) (v := 0) C dX7_minutes_33 (by decide) ?_
      refine go_cVi (pc := 34) C cw_X7_155 (ok_X7_sorrowOn hf) (rc_X7 C) rfl rfl rfl (by decide) rfl dX7_minutes_34 (fun r6 S7 hf => ?_)
      exact hR _ _ _ _ dX7_minutes_37 hf
    · have hf := hf.2 c5
      refine go_aload_n (pc := 21) C dX7_minutes_21 0 rfl rfl ?_
      refine go_iconst (pc := 22) (v := 0) C dX7_minutes_22 (by decide) ?_
      refine go_cVv (pc := 23) C cw_X7_187 (ok_X7_minuteOn hf) (rc_X7 C) rfl rfl rfl (by decide) rfl dX7_minutes_23 (fun S10 hf => ?_)
      obtain ⟨x12, e13⟩ : ∃ q9 : Int32, q9 = v2 + 1 := ⟨_, rfl⟩
      refine go_iinc (pc := 26) (j := 2) (v := x12) C dX7_minutes_26 [(2, .int x12), (0, .ref ((tq_la X).1 28 0)), (1, .int v1)] rfl (by rw [e13]; rfl) (by decide) rfl ?_
      have hf := hf x12 e13
      refine go_goto (pc := 29) C dX7_minutes_29 16 (by decide) ?_
      exact go_sub [1, 2, 0] rfl (ih _ _ _ hf)
set_option maxRecDepth 100000 in
set_option maxHeartbeats 4000000 in
theorem wk_X7_minutes {X : tq_Cx} {p1 : Int32} {S : tq_St} {K : Int32 → tq_St → Prop} (C : tq_C X cX7_minutes 3 RX7 3) (hR : tq_Ri X cX7_minutes 3 K) (hf : wp_X7_minutes p1 S K) : Go X 3 S 0 [(0, .ref ((tq_la X).1 28 0)), (1, .int p1)] [] := by
  refine go_iload_n (pc := 0) C dX7_minutes_0 1 rfl rfl ?_
  refine go_i2l (pc := 1) C dX7_minutes_1 ?_
  refine go_lconst (pc := 2) (v := 0) C dX7_minutes_2 (by decide) ?_
  refine go_ldc2 (pc := 3) C kl_X7_185 dX7_minutes_3 ?_
  refine go_cSi (pc := 6) C cs_X7_49 (ok_X7_in hf) rfl rfl rfl (by decide) rfl dX7_minutes_6 (fun r1 S2 hf => ?_)
  refine go_if_ne (pc := 9) C dX7_minutes_9 14 (by decide) (fun c4 => ?_) (fun c4 => ?_)
  · have hf := hf.1 c4
    refine go_iconst (pc := 14) (v := 0) C dX7_minutes_14 (by decide) ?_
    refine go_istore_n (pc := 15) C dX7_minutes_15 [(2, .int 0), (0, .ref ((tq_la X).1 28 0)), (1, .int p1)] rfl (by decide) rfl ?_
    exact go_sub [1, 2, 0] rfl (wk_X7_minutes_16 C hR 2000 _ _ _ hf)
  · have hf := hf.2 c4
    refine go_iconst (pc := 12) (v := (-1)) C dX7_minutes_12 (by decide) ?_
    exact hR _ _ _ _ dX7_minutes_13 hf
set_option maxRecDepth 100000 in
set_option maxHeartbeats 4000000 in
theorem ok_X7_minutes {p1 : Int32} {S : tq_St} {K : Int32 → tq_St → Prop} (hf : wp_X7_minutes p1 S K) : tq_Mi yX7_minutes cX7_minutes 3 (some .int) 3 (fun a z => [.ref (a.1 28 0), .int p1]) S K :=
  tq_mkI (by decide) (fun _ _ => Nat.le_of_ble_eq_true rfl) (fun X C hR => wk_X7_minutes C hR  hf)
set_option maxRecDepth 100000 in
set_option maxHeartbeats 4000000 in
theorem wk_X7_nameHere_106 {X : tq_Cx} {K : Int32 → tq_St → Prop} (C : tq_C X cX7_nameHere 4 RX7 2) (hR : tq_Ri X cX7_nameHere 4 K) {rec2 : Int32 → tq_St → Prop} (hrec2 : ∀ (v1 : Int32) (S : tq_St), rec2 v1 S → Go X 4 S 2 [(0, .ref ((tq_la X).1 28 0)), (1, .int v1)] []) : ∀ (v1 : Int32) (v2 : Int32) (S : tq_St), wp_X7_nameHere_106 K rec2 v1 v2 S → Go X 4 S 106 [(0, .ref ((tq_la X).1 28 0)), (1, .int v1), (2, .int v2)] [] := by
  intro v1 v2 S hf
  refine go_iload_n (pc := 106) C dX7_nameHere_106 2 rfl rfl ?_
  refine go_if_eq (pc := 107) C dX7_nameHere_107 112 (by decide) (fun c5 => ?_) (fun c5 => ?_)
  · have hf := hf.1 c5
    obtain ⟨x6, e7⟩ : ∃ q9 : Int32, q9 = v1 + 1 := ⟨_, rfl⟩
    refine go_iinc (pc := 112) (j := 1) (v := x6) C dX7_nameHere_112 [(1, .int x6), (0, .ref ((tq_la X).1 28 0)), (2, .int v2)] rfl (by rw [e7]; rfl) (by decide) rfl ?_
    have hf := hf x6 e7
    refine go_goto (pc := 115) C dX7_nameHere_115 2 (by decide) ?_
    exact go_sub [1, 0] rfl (hrec2 _ _ hf)
  · have hf := hf.2 c5
    refine go_iload_n (pc := 110) C dX7_nameHere_110 1 rfl rfl ?_
    exact hR _ _ _ _ dX7_nameHere_111 hf
set_option maxRecDepth 100000 in
set_option maxHeartbeats 4000000 in
theorem wk_X7_nameHere_51 {X : tq_Cx} {K : Int32 → tq_St → Prop} (C : tq_C X cX7_nameHere 4 RX7 2) (hR : tq_Ri X cX7_nameHere 4 K) {rec2 : Int32 → tq_St → Prop} (hrec2 : ∀ (v1 : Int32) (S : tq_St), rec2 v1 S → Go X 4 S 2 [(0, .ref ((tq_la X).1 28 0)), (1, .int v1)] []) : ∀ (n : Nat) (v1 : Int32) (v2 : Int32) (v3 : Int32) (S : tq_St), wp_X7_nameHere_51 K rec2 n v1 v2 v3 S → Go X 4 S 51 [(0, .ref ((tq_la X).1 28 0)), (1, .int v1), (2, .int v2), (3, .int v3)] [] := by
  intro n
  induction n with
  | zero => intros; contradiction
  | succ n ih =>
    intro v1 v2 v3 S hf
    refine go_iload_n (pc := 51) C dX7_nameHere_51 2 rfl rfl ?_
    refine go_if_eq (pc := 52) C dX7_nameHere_52 106 (by decide) (fun c4 => ?_) (fun c4 => ?_)
    · have hf := hf.1 c4
      exact go_sub [0, 1, 2] rfl (wk_X7_nameHere_106 C hR hrec2 _ _ _ hf)
    · have hf := hf.2 c4
      refine go_iload_n (pc := 55) C dX7_nameHere_55 3 rfl rfl ?_
      refine go_aload_n (pc := 56) C dX7_nameHere_56 0 rfl rfl ?_
      refine ge_X7_X7_12 (pc := 57) C dX7_nameHere_57 ?_
      refine go_aload_n (pc := 60) C dX7_nameHere_60 0 rfl rfl ?_
      refine ge_X7_X7_13 (pc := 61) C dX7_nameHere_61 ?_
      refine go_isub (pc := 64) C dX7_nameHere_64 ?_
      refine go_ic_ge (pc := 65) C dX7_nameHere_65 106 (by decide) (fun c8 => ?_) (fun c8 => ?_)
      · have hf := hf.1 c8
        exact go_sub [0, 1, 2] rfl (wk_X7_nameHere_106 C hR hrec2 _ _ _ hf)
      · have hf := hf.2 c8
        refine go_aload_n (pc := 68) C dX7_nameHere_68 0 rfl rfl ?_
        refine go_aload_n (pc := 69) C dX7_nameHere_69 0 rfl rfl ?_
        refine ge_X7_X7_13 (pc := 70) C dX7_nameHere_70 ?_
        refine go_iload_n (pc := 73) C dX7_nameHere_73 3 rfl rfl ?_
        refine go_iadd (pc := 74) C dX7_nameHere_74 ?_
        refine go_cVi (pc := 75) C cw_X7_72 (ok_X7_byteAt hf) (rc_X7 C) rfl rfl rfl (by decide) rfl dX7_nameHere_75 (fun r9 S10 hf => ?_)
        refine go_aload_n (pc := 78) C dX7_nameHere_78 0 rfl rfl ?_
        refine ge_X7_X7_17 (pc := 79) C dX7_nameHere_79 ?_
        refine go_aload_n (pc := 82) C dX7_nameHere_82 0 rfl rfl ?_
        refine ge_X7_X7_16 (pc := 83) C dX7_nameHere_83 ?_
        refine go_iload_n (pc := 86) C dX7_nameHere_86 1 rfl rfl ?_
        refine al_X7_16 (pc := 87) C hf.1 dX7_nameHere_87 ?_
        have hf := hf.2
        refine go_iload_n (pc := 88) C dX7_nameHere_88 3 rfl rfl ?_
        refine go_iadd (pc := 89) C dX7_nameHere_89 ?_
        refine al_X7_17 (pc := 90) C hf.1 dX7_nameHere_90 ?_
        have hf := hf.2
        refine go_ic_ne (pc := 91) C dX7_nameHere_91 98 (by decide) (fun c12 => ?_) (fun c12 => ?_)
        · have hf := hf.1 c12
          refine go_iconst (pc := 98) (v := 0) C dX7_nameHere_98 (by decide) ?_
          refine go_istore_n (pc := 99) C dX7_nameHere_99 [(2, .int 0), (0, .ref ((tq_la X).1 28 0)), (1, .int v1), (3, .int v3)] rfl (by decide) rfl ?_
          obtain ⟨x13, e14⟩ : ∃ q9 : Int32, q9 = v3 + 1 := ⟨_, rfl⟩
          refine go_iinc (pc := 100) (j := 3) (v := x13) C dX7_nameHere_100 [(3, .int x13), (2, .int 0), (0, .ref ((tq_la X).1 28 0)), (1, .int v1)] rfl (by rw [e14]; rfl) (by decide) rfl ?_
          have hf := hf x13 e14
          refine go_goto (pc := 103) C dX7_nameHere_103 51 (by decide) ?_
          exact go_sub [2, 3, 1, 0] rfl (ih _ _ _ _ hf)
        · have hf := hf.2 c12
          refine go_iconst (pc := 94) (v := 1) C dX7_nameHere_94 (by decide) ?_
          refine go_goto (pc := 95) C dX7_nameHere_95 99 (by decide) ?_
          refine go_istore_n (pc := 99) C dX7_nameHere_99 [(2, .int 1), (0, .ref ((tq_la X).1 28 0)), (1, .int v1), (3, .int v3)] rfl (by decide) rfl ?_
          obtain ⟨x15, e16⟩ : ∃ q9 : Int32, q9 = v3 + 1 := ⟨_, rfl⟩
          refine go_iinc (pc := 100) (j := 3) (v := x15) C dX7_nameHere_100 [(3, .int x15), (2, .int 1), (0, .ref ((tq_la X).1 28 0)), (1, .int v1)] rfl (by rw [e16]; rfl) (by decide) rfl ?_
          have hf := hf x15 e16
          refine go_goto (pc := 103) C dX7_nameHere_103 51 (by decide) ?_
          exact go_sub [2, 3, 1, 0] rfl (ih _ _ _ _ hf)
set_option maxRecDepth 100000 in
set_option maxHeartbeats 4000000 in
theorem wk_X7_nameHere_2 {X : tq_Cx} {K : Int32 → tq_St → Prop} (C : tq_C X cX7_nameHere 4 RX7 2) (hR : tq_Ri X cX7_nameHere 4 K) : ∀ (n : Nat) (v1 : Int32) (S : tq_St), wp_X7_nameHere_2 K n v1 S → Go X 4 S 2 [(0, .ref ((tq_la X).1 28 0)), (1, .int v1)] [] := by
  intro n
  induction n with
  | zero => intros; contradiction
  | succ n ih =>
    intro v1 S hf
    refine go_iload_n (pc := 2) C dX7_nameHere_2 1 rfl rfl ?_
    refine go_bipush (pc := 3) (v := 7) C dX7_nameHere_3 (by decide) ?_
    refine go_ic_ge (pc := 5) C dX7_nameHere_5 118 (by decide) (fun c1 => ?_) (fun c1 => ?_)
    · have hf := hf.1 c1
      refine go_bipush (pc := 118) (v := (-4)) C dX7_nameHere_118 (by decide) ?_
      exact hR _ _ _ _ dX7_nameHere_120 hf
    · have hf := hf.2 c1
      refine go_aload_n (pc := 8) C dX7_nameHere_8 0 rfl rfl ?_
      refine ge_X7_X7_14 (pc := 9) C dX7_nameHere_9 ?_
      refine go_iconst (pc := 12) (v := 1) C dX7_nameHere_12 (by decide) ?_
      refine go_ic_ne (pc := 13) C dX7_nameHere_13 118 (by decide) (fun c2 => ?_) (fun c2 => ?_)
      · have hf := hf.1 c2
        refine go_bipush (pc := 118) (v := (-4)) C dX7_nameHere_118 (by decide) ?_
        exact hR _ _ _ _ dX7_nameHere_120 hf
      · have hf := hf.2 c2
        refine go_aload_n (pc := 16) C dX7_nameHere_16 0 rfl rfl ?_
        refine ge_X7_X7_12 (pc := 17) C dX7_nameHere_17 ?_
        refine go_aload_n (pc := 20) C dX7_nameHere_20 0 rfl rfl ?_
        refine ge_X7_X7_13 (pc := 21) C dX7_nameHere_21 ?_
        refine go_isub (pc := 24) C dX7_nameHere_24 ?_
        refine go_aload_n (pc := 25) C dX7_nameHere_25 0 rfl rfl ?_
        refine ge_X7_X7_16 (pc := 26) C dX7_nameHere_26 ?_
        refine go_iload_n (pc := 29) C dX7_nameHere_29 1 rfl rfl ?_
        refine go_iconst (pc := 30) (v := 1) C dX7_nameHere_30 (by decide) ?_
        refine go_iadd (pc := 31) C dX7_nameHere_31 ?_
        refine al_X7_16 (pc := 32) C hf.1 dX7_nameHere_32 ?_
        have hf := hf.2
        refine go_aload_n (pc := 33) C dX7_nameHere_33 0 rfl rfl ?_
        refine ge_X7_X7_16 (pc := 34) C dX7_nameHere_34 ?_
        refine go_iload_n (pc := 37) C dX7_nameHere_37 1 rfl rfl ?_
        refine al_X7_16 (pc := 38) C hf.1 dX7_nameHere_38 ?_
        have hf := hf.2
        refine go_isub (pc := 39) C dX7_nameHere_39 ?_
        refine go_ic_ne (pc := 40) C dX7_nameHere_40 47 (by decide) (fun c3 => ?_) (fun c3 => ?_)
        · have hf := hf.1 c3
          refine go_iconst (pc := 47) (v := 0) C dX7_nameHere_47 (by decide) ?_
          refine go_istore_n (pc := 48) C dX7_nameHere_48 [(2, .int 0), (0, .ref ((tq_la X).1 28 0)), (1, .int v1)] rfl (by decide) rfl ?_
          refine go_iconst (pc := 49) (v := 0) C dX7_nameHere_49 (by decide) ?_
          refine go_istore_n (pc := 50) C dX7_nameHere_50 [(3, .int 0), (2, .int 0), (0, .ref ((tq_la X).1 28 0)), (1, .int v1)] rfl (by decide) rfl ?_
          exact go_sub [2, 3, 1, 0] rfl (wk_X7_nameHere_51 C hR ih 2000 _ _ _ _ hf)
        · have hf := hf.2 c3
          refine go_iconst (pc := 43) (v := 1) C dX7_nameHere_43 (by decide) ?_
          refine go_goto (pc := 44) C dX7_nameHere_44 48 (by decide) ?_
          refine go_istore_n (pc := 48) C dX7_nameHere_48 [(2, .int 1), (0, .ref ((tq_la X).1 28 0)), (1, .int v1)] rfl (by decide) rfl ?_
          refine go_iconst (pc := 49) (v := 0) C dX7_nameHere_49 (by decide) ?_
          refine go_istore_n (pc := 50) C dX7_nameHere_50 [(3, .int 0), (2, .int 1), (0, .ref ((tq_la X).1 28 0)), (1, .int v1)] rfl (by decide) rfl ?_
          exact go_sub [2, 3, 1, 0] rfl (wk_X7_nameHere_51 C hR ih 2000 _ _ _ _ hf)
set_option maxRecDepth 100000 in
set_option maxHeartbeats 4000000 in
theorem wk_X7_nameHere {X : tq_Cx} {S : tq_St} {K : Int32 → tq_St → Prop} (C : tq_C X cX7_nameHere 4 RX7 2) (hR : tq_Ri X cX7_nameHere 4 K) (hf : wp_X7_nameHere S K) : Go X 4 S 0 [(0, .ref ((tq_la X).1 28 0))] [] := by
  refine go_iconst (pc := 0) (v := 0) C dX7_nameHere_0 (by decide) ?_
  refine go_istore_n (pc := 1) C dX7_nameHere_1 [(1, .int 0), (0, .ref ((tq_la X).1 28 0))] rfl (by decide) rfl ?_
  exact go_sub [1, 0] rfl (wk_X7_nameHere_2 C hR 2000 _ _ hf)
set_option maxRecDepth 100000 in
set_option maxHeartbeats 4000000 in
theorem ok_X7_nameHere {S : tq_St} {K : Int32 → tq_St → Prop} (hf : wp_X7_nameHere S K) : tq_Mi yX7_nameHere cX7_nameHere 4 (some .int) 2 (fun a z => [.ref (a.1 28 0)]) S K :=
  tq_mkI (by decide) (fun _ _ => Nat.le_of_ble_eq_true rfl) (fun X C hR => wk_X7_nameHere C hR  hf)
set_option maxRecDepth 100000 in
set_option maxHeartbeats 4000000 in
theorem wk_X7_step_201 {X : tq_Cx} {K : tq_St → Prop} (C : tq_C X cX7_step 2 RX7 2) (hR : tq_Rv X cX7_step 2 K) {rec140 : tq_St → Prop} (hrec140 : ∀ (S : tq_St), rec140 S → Go X 2 S 140 [(0, .ref ((tq_la X).1 28 0))] []) : ∀ (w1 : Int32) (S : tq_St), wp_X7_step_201 K rec140 w1 S → Go X 2 S 201 [(0, .ref ((tq_la X).1 28 0))] [.int w1, .ref ((tq_la X).1 28 0)] := by
  intro w1 S hf
  refine pu_X7_X7_15 (pc := 201) C dX7_step_201 (fun S44 e45 => ?_)
  have hf := hf S44 e45
  refine go_aload_n (pc := 204) C dX7_step_204 0 rfl rfl ?_
  refine go_dup (pc := 205) C dX7_step_205 rfl ?_
  refine ge_X7_X7_12 (pc := 206) C dX7_step_206 ?_
  refine go_iconst (pc := 209) (v := 1) C dX7_step_209 (by decide) ?_
  refine go_iadd (pc := 210) C dX7_step_210 ?_
  refine pu_X7_X7_12 (pc := 211) C dX7_step_211 (fun S46 e47 => ?_)
  have hf := hf S46 e47
  refine go_goto (pc := 214) C dX7_step_214 140 (by decide) ?_
  exact go_sub [0] rfl (hrec140 _ hf)
set_option maxRecDepth 100000 in
set_option maxHeartbeats 4000000 in
theorem wk_X7_step_140 {X : tq_Cx} {K : tq_St → Prop} (C : tq_C X cX7_step 2 RX7 2) (hR : tq_Rv X cX7_step 2 K) : ∀ (n : Nat) (S : tq_St), wp_X7_step_140 K n S → Go X 2 S 140 [(0, .ref ((tq_la X).1 28 0))] [] := by
  intro n
  induction n with
  | zero => intros; contradiction
  | succ n ih =>
    intro S hf
    refine go_aload_n (pc := 140) C dX7_step_140 0 rfl rfl ?_
    refine go_aload_n (pc := 141) C dX7_step_141 0 rfl rfl ?_
    refine ge_X7_X7_12 (pc := 142) C dX7_step_142 ?_
    refine go_cVi (pc := 145) C cw_X7_72 (ok_X7_byteAt hf) (rc_X7 C) rfl rfl rfl (by decide) rfl dX7_step_145 (fun r30 S31 hf => ?_)
    refine go_i2l (pc := 148) C dX7_step_148 ?_
    refine go_ldc2 (pc := 149) C kl_X7_83 dX7_step_149 ?_
    refine go_ldc2 (pc := 152) C kl_X7_85 dX7_step_152 ?_
    refine go_cSi (pc := 155) C cs_X7_49 (ok_X7_in hf) rfl rfl rfl (by decide) rfl dX7_step_155 (fun r33 S34 hf => ?_)
    refine go_if_eq (pc := 158) C dX7_step_158 217 (by decide) (fun c36 => ?_) (fun c36 => ?_)
    · have hf := hf.1 c36
      refine go_aload_n (pc := 217) C dX7_step_217 0 rfl rfl ?_
      refine go_iconst (pc := 218) (v := 2) C dX7_step_218 (by decide) ?_
      refine pu_X7_X7_14 (pc := 219) C dX7_step_219 (fun S37 e38 => ?_)
      have hf := hf S37 e38
      refine go_aload_n (pc := 222) C dX7_step_222 0 rfl rfl ?_
      refine ge_X7_X7_12 (pc := 223) C dX7_step_223 ?_
      refine go_aload_n (pc := 226) C dX7_step_226 0 rfl rfl ?_
      refine ge_X7_X7_13 (pc := 227) C dX7_step_227 ?_
      refine go_isub (pc := 230) C dX7_step_230 ?_
      refine go_iconst (pc := 231) (v := 2) C dX7_step_231 (by decide) ?_
      refine go_ic_le (pc := 232) C dX7_step_232 269 (by decide) (fun c39 => ?_) (fun c39 => ?_)
      · have hf := hf.1 c39
        exact hR _ _ _ dX7_step_269 hf
      · have hf := hf.2 c39
        refine go_aload_n (pc := 235) C dX7_step_235 0 rfl rfl ?_
        refine go_iconst (pc := 236) (v := 1) C dX7_step_236 (by decide) ?_
        refine go_cVv (pc := 237) C cw_X7_87 (ok_X7_fails hf) (rc_X7 C) rfl rfl rfl (by decide) rfl dX7_step_237 (fun S41 hf => ?_)
        refine go_goto (pc := 240) C dX7_step_240 269 (by decide) ?_
        exact hR _ _ _ dX7_step_269 hf
    · have hf := hf.2 c36
      refine go_aload_n (pc := 161) C dX7_step_161 0 rfl rfl ?_
      refine go_aload_n (pc := 162) C dX7_step_162 0 rfl rfl ?_
      refine ge_X7_X7_12 (pc := 163) C dX7_step_163 ?_
      refine go_aload_n (pc := 166) C dX7_step_166 0 rfl rfl ?_
      refine ge_X7_X7_13 (pc := 167) C dX7_step_167 ?_
      refine go_isub (pc := 170) C dX7_step_170 ?_
      refine go_iconst (pc := 171) (v := 2) C dX7_step_171 (by decide) ?_
      refine go_ic_ge (pc := 172) C dX7_step_172 197 (by decide) (fun c43 => ?_) (fun c43 => ?_)
      · have hf := hf.1 c43
        refine go_aload_n (pc := 197) C dX7_step_197 0 rfl rfl ?_
        refine ge_X7_X7_15 (pc := 198) C dX7_step_198 ?_
        exact go_sub [0] rfl (wk_X7_step_201 C hR ih _ _ hf)
      · have hf := hf.2 c43
        refine go_bipush (pc := 175) (v := 10) C dX7_step_175 (by decide) ?_
        refine go_aload_n (pc := 177) C dX7_step_177 0 rfl rfl ?_
        refine ge_X7_X7_15 (pc := 178) C dX7_step_178 ?_
        refine go_imul (pc := 181) C dX7_step_181 ?_
        refine go_aload_n (pc := 182) C dX7_step_182 0 rfl rfl ?_
        refine go_aload_n (pc := 183) C dX7_step_183 0 rfl rfl ?_
        refine ge_X7_X7_12 (pc := 184) C dX7_step_184 ?_
        refine go_cVi (pc := 187) C cw_X7_72 (ok_X7_byteAt hf) (rc_X7 C) rfl rfl rfl (by decide) rfl dX7_step_187 (fun r48 S49 hf => ?_)
        refine go_iadd (pc := 190) C dX7_step_190 ?_
        refine go_bipush (pc := 191) (v := 48) C dX7_step_191 (by decide) ?_
        refine go_isub (pc := 193) C dX7_step_193 ?_
        refine go_goto (pc := 194) C dX7_step_194 201 (by decide) ?_
        exact go_sub [0] rfl (wk_X7_step_201 C hR ih _ _ hf)
set_option maxRecDepth 100000 in
set_option maxHeartbeats 4000000 in
theorem wk_X7_step_84 {X : tq_Cx} {K : tq_St → Prop} (C : tq_C X cX7_step 2 RX7 2) (hR : tq_Rv X cX7_step 2 K) : ∀ (n : Nat) (S : tq_St), wp_X7_step_84 K n S → Go X 2 S 84 [(0, .ref ((tq_la X).1 28 0))] [] := by
  intro n
  induction n with
  | zero => intros; contradiction
  | succ n ih =>
    intro S hf
    refine go_aload_n (pc := 84) C dX7_step_84 0 rfl rfl ?_
    refine go_aload_n (pc := 85) C dX7_step_85 0 rfl rfl ?_
    refine ge_X7_X7_12 (pc := 86) C dX7_step_86 ?_
    refine go_cVi (pc := 89) C cw_X7_72 (ok_X7_byteAt hf) (rc_X7 C) rfl rfl rfl (by decide) rfl dX7_step_89 (fun r51 S52 hf => ?_)
    refine go_i2l (pc := 92) C dX7_step_92 ?_
    refine go_ldc2 (pc := 93) C kl_X7_79 dX7_step_93 ?_
    refine go_ldc2 (pc := 96) C kl_X7_81 dX7_step_96 ?_
    refine go_cSi (pc := 99) C cs_X7_49 (ok_X7_in hf) rfl rfl rfl (by decide) rfl dX7_step_99 (fun r54 S55 hf => ?_)
    refine go_if_eq (pc := 102) C dX7_step_102 118 (by decide) (fun c57 => ?_) (fun c57 => ?_)
    · have hf := hf.1 c57
      refine go_aload_n (pc := 118) C dX7_step_118 0 rfl rfl ?_
      refine go_iconst (pc := 119) (v := 1) C dX7_step_119 (by decide) ?_
      refine pu_X7_X7_14 (pc := 120) C dX7_step_120 (fun S58 e59 => ?_)
      have hf := hf S58 e59
      refine go_goto (pc := 123) C dX7_step_123 269 (by decide) ?_
      exact hR _ _ _ dX7_step_269 hf
    · have hf := hf.2 c57
      refine go_aload_n (pc := 105) C dX7_step_105 0 rfl rfl ?_
      refine go_dup (pc := 106) C dX7_step_106 rfl ?_
      refine ge_X7_X7_12 (pc := 107) C dX7_step_107 ?_
      refine go_iconst (pc := 110) (v := 1) C dX7_step_110 (by decide) ?_
      refine go_iadd (pc := 111) C dX7_step_111 ?_
      refine pu_X7_X7_12 (pc := 112) C dX7_step_112 (fun S60 e61 => ?_)
      have hf := hf S60 e61
      refine go_goto (pc := 115) C dX7_step_115 84 (by decide) ?_
      exact go_sub [0] rfl (ih _ hf)
set_option maxRecDepth 100000 in
set_option maxHeartbeats 4000000 in
theorem wk_X7_step_8 {X : tq_Cx} {K : tq_St → Prop} (C : tq_C X cX7_step 2 RX7 2) (hR : tq_Rv X cX7_step 2 K) : ∀ (n : Nat) (S : tq_St), wp_X7_step_8 K n S → Go X 2 S 8 [(0, .ref ((tq_la X).1 28 0))] [] := by
  intro n
  induction n with
  | zero => intros; contradiction
  | succ n ih =>
    intro S hf
    refine go_aload_n (pc := 8) C dX7_step_8 0 rfl rfl ?_
    refine go_aload_n (pc := 9) C dX7_step_9 0 rfl rfl ?_
    refine ge_X7_X7_12 (pc := 10) C dX7_step_10 ?_
    refine go_cVi (pc := 13) C cw_X7_72 (ok_X7_byteAt hf) (rc_X7 C) rfl rfl rfl (by decide) rfl dX7_step_13 (fun r2 S3 hf => ?_)
    refine go_bipush (pc := 16) (v := 32) C dX7_step_16 (by decide) ?_
    refine go_ic_ne (pc := 18) C dX7_step_18 34 (by decide) (fun c5 => ?_) (fun c5 => ?_)
    · have hf := hf.1 c5
      refine go_aload_n (pc := 34) C dX7_step_34 0 rfl rfl ?_
      refine go_aload_n (pc := 35) C dX7_step_35 0 rfl rfl ?_
      refine ge_X7_X7_12 (pc := 36) C dX7_step_36 ?_
      refine pu_X7_X7_13 (pc := 39) C dX7_step_39 (fun S6 e7 => ?_)
      have hf := hf S6 e7
      refine go_aload_n (pc := 42) C dX7_step_42 0 rfl rfl ?_
      refine go_aload_n (pc := 43) C dX7_step_43 0 rfl rfl ?_
      refine ge_X7_X7_12 (pc := 44) C dX7_step_44 ?_
      refine go_cVi (pc := 47) C cw_X7_72 (ok_X7_byteAt hf) (rc_X7 C) rfl rfl rfl (by decide) rfl dX7_step_47 (fun r8 S9 hf => ?_)
      refine go_istore_n (pc := 50) C dX7_step_50 [(1, .int r8), (0, .ref ((tq_la X).1 28 0))] rfl (by decide) rfl ?_
      refine go_aload_n (pc := 51) C dX7_step_51 1 rfl rfl ?_
      refine go_iconst (pc := 52) (v := 0) C dX7_step_52 (by decide) ?_
      refine pu_X7_X7_15 (pc := 53) C dX7_step_53 (fun S11 e12 => ?_)
      have hf := hf S11 e12
      refine go_iload_n (pc := 56) C dX7_step_56 0 rfl rfl ?_
      refine go_bipush (pc := 57) (v := (-4)) C dX7_step_57 (by decide) ?_
      refine go_ic_ne (pc := 59) C dX7_step_59 70 (by decide) (fun c13 => ?_) (fun c13 => ?_)
      · have hf := hf.1 c13
        refine go_iload_n (pc := 70) C dX7_step_70 0 rfl rfl ?_
        refine go_i2l (pc := 71) C dX7_step_71 ?_
        refine go_ldc2 (pc := 72) C kl_X7_79 dX7_step_72 ?_
        refine go_ldc2 (pc := 75) C kl_X7_81 dX7_step_75 ?_
        refine go_cSi (pc := 78) C cs_X7_49 (ok_X7_in hf) rfl rfl rfl (by decide) rfl dX7_step_78 (fun r14 S15 hf => ?_)
        refine go_if_eq (pc := 81) C dX7_step_81 126 (by decide) (fun c17 => ?_) (fun c17 => ?_)
        · have hf := hf.1 c17
          refine go_iload_n (pc := 126) C dX7_step_126 0 rfl rfl ?_
          refine go_i2l (pc := 127) C dX7_step_127 ?_
          refine go_ldc2 (pc := 128) C kl_X7_83 dX7_step_128 ?_
          refine go_ldc2 (pc := 131) C kl_X7_85 dX7_step_131 ?_
          refine go_cSi (pc := 134) C cs_X7_49 (ok_X7_in hf) rfl rfl rfl (by decide) rfl dX7_step_134 (fun r18 S19 hf => ?_)
          refine go_if_eq (pc := 137) C dX7_step_137 243 (by decide) (fun c21 => ?_) (fun c21 => ?_)
          · have hf := hf.1 c21
            refine go_aload_n (pc := 243) C dX7_step_243 1 rfl rfl ?_
            refine go_iconst (pc := 244) (v := 3) C dX7_step_244 (by decide) ?_
            refine pu_X7_X7_14 (pc := 245) C dX7_step_245 (fun S22 e23 => ?_)
            have hf := hf S22 e23
            refine go_aload_n (pc := 248) C dX7_step_248 1 rfl rfl ?_
            refine go_dup (pc := 249) C dX7_step_249 rfl ?_
            refine ge_X7_X7_12 (pc := 250) C dX7_step_250 ?_
            refine go_iconst (pc := 253) (v := 1) C dX7_step_253 (by decide) ?_
            refine go_iadd (pc := 254) C dX7_step_254 ?_
            refine pu_X7_X7_12 (pc := 255) C dX7_step_255 (fun S24 e25 => ?_)
            have hf := hf S24 e25
            refine go_iload_n (pc := 258) C dX7_step_258 0 rfl rfl ?_
            refine go_bipush (pc := 259) (v := 59) C dX7_step_259 (by decide) ?_
            refine go_ic_eq (pc := 261) C dX7_step_261 269 (by decide) (fun c26 => ?_) (fun c26 => ?_)
            · have hf := hf.1 c26
              exact hR _ _ _ dX7_step_269 hf
            · have hf := hf.2 c26
              refine go_aload_n (pc := 264) C dX7_step_264 1 rfl rfl ?_
              refine go_iconst (pc := 265) (v := 1) C dX7_step_265 (by decide) ?_
              refine go_cVv (pc := 266) C cw_X7_87 (ok_X7_fails hf) (rc_X7 C) rfl rfl rfl (by decide) rfl dX7_step_266 (fun S28 hf => ?_)
              exact hR _ _ _ dX7_step_269 hf
          · have hf := hf.2 c21
            exact go_sub [1] rfl (wk_X7_step_140 C hR 2000 _ hf)
        · have hf := hf.2 c17
          exact go_sub [1] rfl (wk_X7_step_84 C hR 2000 _ hf)
      · have hf := hf.2 c13
        refine go_aload_n (pc := 62) C dX7_step_62 1 rfl rfl ?_
        refine go_iconst (pc := 63) (v := 0) C dX7_step_63 (by decide) ?_
        refine pu_X7_X7_14 (pc := 64) C dX7_step_64 (fun S62 e63 => ?_)
        have hf := hf S62 e63
        refine go_goto (pc := 67) C dX7_step_67 269 (by decide) ?_
        exact hR _ _ _ dX7_step_269 hf
    · have hf := hf.2 c5
      refine go_aload_n (pc := 21) C dX7_step_21 0 rfl rfl ?_
      refine go_dup (pc := 22) C dX7_step_22 rfl ?_
      refine ge_X7_X7_12 (pc := 23) C dX7_step_23 ?_
      refine go_iconst (pc := 26) (v := 1) C dX7_step_26 (by decide) ?_
      refine go_iadd (pc := 27) C dX7_step_27 ?_
      refine pu_X7_X7_12 (pc := 28) C dX7_step_28 (fun S64 e65 => ?_)
      have hf := hf S64 e65
      refine go_goto (pc := 31) C dX7_step_31 8 (by decide) ?_
      exact go_sub [0] rfl (ih _ hf)
set_option maxRecDepth 100000 in
set_option maxHeartbeats 4000000 in
theorem wk_X7_step {X : tq_Cx} {S : tq_St} {K : tq_St → Prop} (C : tq_C X cX7_step 2 RX7 2) (hR : tq_Rv X cX7_step 2 K) (hf : wp_X7_step S K) : Go X 2 S 0 [(0, .ref ((tq_la X).1 28 0))] [] := by
  refine go_aload_n (pc := 0) C dX7_step_0 0 rfl rfl ?_
  refine ge_X7_X7_10 (pc := 1) C dX7_step_1 ?_
  refine go_if_le (pc := 4) C dX7_step_4 8 (by decide) (fun c1 => ?_) (fun c1 => ?_)
  · have hf := hf.1 c1
    exact go_sub [0] rfl (wk_X7_step_8 C hR 2000 _ hf)
  · have hf := hf.2 c1
    exact hR _ _ _ dX7_step_7 hf
set_option maxRecDepth 100000 in
set_option maxHeartbeats 4000000 in
theorem ok_X7_step {S : tq_St} {K : tq_St → Prop} (hf : wp_X7_step S K) : tq_Mv yX7_step cX7_step 2 none 2 (fun a z => [.ref (a.1 28 0)]) S K :=
  tq_mkV (by decide) (fun _ _ => Nat.le_of_ble_eq_true rfl) (fun X C hR => wk_X7_step C hR  hf)
set_option maxRecDepth 100000 in
set_option maxHeartbeats 4000000 in
theorem wk_X7_number_62 {X : tq_Cx} {K : Int32 → tq_St → Prop} (C : tq_C X cX7_number 4 RX7 3) (hR : tq_Ri X cX7_number 4 K) : ∀ (w0 : Int32) (S : tq_St), wp_X7_number_62 K w0 S → Go X 4 S 62 [(0, .ref ((tq_la X).1 28 0))] [.int w0] := by
  intro w0 S hf
  refine go_istore_n (pc := 62) C dX7_number_62 [(3, .int w0), (0, .ref ((tq_la X).1 28 0))] rfl (by decide) rfl ?_
  refine go_aload_n (pc := 63) C dX7_number_63 1 rfl rfl ?_
  refine go_cVv (pc := 64) C cw_X7_91 (ok_X7_step hf) (rc_X7 C) rfl rfl rfl (by decide) rfl dX7_number_64 (fun S5 hf => ?_)
  refine go_iload_n (pc := 67) C dX7_number_67 0 rfl rfl ?_
  exact hR _ _ _ _ dX7_number_68 hf
set_option maxRecDepth 100000 in
set_option maxHeartbeats 4000000 in
theorem wk_X7_number_47 {X : tq_Cx} {K : Int32 → tq_St → Prop} (C : tq_C X cX7_number 4 RX7 3) (hR : tq_Ri X cX7_number 4 K) : ∀ (v1 : Int32) (S : tq_St), wp_X7_number_47 K v1 S → Go X 4 S 47 [(0, .ref ((tq_la X).1 28 0)), (1, .int v1)] [] := by
  intro v1 S hf
  refine go_aload_n (pc := 47) C dX7_number_47 0 rfl rfl ?_
  refine ge_X7_X7_10 (pc := 48) C dX7_number_48 ?_
  refine go_if_ne (pc := 51) C dX7_number_51 61 (by decide) (fun c3 => ?_) (fun c3 => ?_)
  · have hf := hf.1 c3
    refine go_iload_n (pc := 61) C dX7_number_61 1 rfl rfl ?_
    exact go_sub [0] rfl (wk_X7_number_62 C hR _ _ hf)
  · have hf := hf.2 c3
    refine go_aload_n (pc := 54) C dX7_number_54 0 rfl rfl ?_
    refine ge_X7_X7_15 (pc := 55) C dX7_number_55 ?_
    refine go_goto (pc := 58) C dX7_number_58 62 (by decide) ?_
    exact go_sub [0] rfl (wk_X7_number_62 C hR _ _ hf)
set_option maxRecDepth 100000 in
set_option maxHeartbeats 4000000 in
theorem wk_X7_number_20 {X : tq_Cx} {K : Int32 → tq_St → Prop} (C : tq_C X cX7_number 4 RX7 3) (hR : tq_Ri X cX7_number 4 K) : ∀ (v1 : Int32) (v2 : Int32) (S : tq_St), wp_X7_number_20 K v1 v2 S → Go X 4 S 20 [(0, .ref ((tq_la X).1 28 0)), (1, .int v1), (2, .int v2)] [] := by
  intro v1 v2 S hf
  refine go_aload_n (pc := 20) C dX7_number_20 0 rfl rfl ?_
  refine ge_X7_X7_10 (pc := 21) C dX7_number_21 ?_
  refine go_if_ne (pc := 24) C dX7_number_24 47 (by decide) (fun c2 => ?_) (fun c2 => ?_)
  · have hf := hf.1 c2
    exact go_sub [0, 1] rfl (wk_X7_number_47 C hR _ _ hf)
  · have hf := hf.2 c2
    refine go_aload_n (pc := 27) C dX7_number_27 0 rfl rfl ?_
    refine ge_X7_X7_15 (pc := 28) C dX7_number_28 ?_
    refine go_i2l (pc := 31) C dX7_number_31 ?_
    refine go_iload_n (pc := 32) C dX7_number_32 1 rfl rfl ?_
    refine go_i2l (pc := 33) C dX7_number_33 ?_
    refine go_iload_n (pc := 34) C dX7_number_34 2 rfl rfl ?_
    refine go_i2l (pc := 35) C dX7_number_35 ?_
    refine go_cSi (pc := 36) C cs_X7_49 (ok_X7_in hf) rfl rfl rfl (by decide) rfl dX7_number_36 (fun r7 S8 hf => ?_)
    refine go_if_ne (pc := 39) C dX7_number_39 47 (by decide) (fun c10 => ?_) (fun c10 => ?_)
    · have hf := hf.1 c10
      exact go_sub [0, 1] rfl (wk_X7_number_47 C hR _ _ hf)
    · have hf := hf.2 c10
      refine go_aload_n (pc := 42) C dX7_number_42 0 rfl rfl ?_
      refine go_iconst (pc := 43) (v := 3) C dX7_number_43 (by decide) ?_
      refine go_cVv (pc := 44) C cw_X7_87 (ok_X7_fails hf) (rc_X7 C) rfl rfl rfl (by decide) rfl dX7_number_44 (fun S12 hf => ?_)
      exact go_sub [0, 1] rfl (wk_X7_number_47 C hR _ _ hf)
set_option maxRecDepth 100000 in
set_option maxHeartbeats 4000000 in
theorem wk_X7_number {X : tq_Cx} {p1 : Int32} {p2 : Int32} {S : tq_St} {K : Int32 → tq_St → Prop} (C : tq_C X cX7_number 4 RX7 3) (hR : tq_Ri X cX7_number 4 K) (hf : wp_X7_number p1 p2 S K) : Go X 4 S 0 [(0, .ref ((tq_la X).1 28 0)), (1, .int p1), (2, .int p2)] [] := by
  refine go_aload_n (pc := 0) C dX7_number_0 0 rfl rfl ?_
  refine ge_X7_X7_10 (pc := 1) C dX7_number_1 ?_
  refine go_if_ne (pc := 4) C dX7_number_4 20 (by decide) (fun c1 => ?_) (fun c1 => ?_)
  · have hf := hf.1 c1
    exact go_sub [0, 1, 2] rfl (wk_X7_number_20 C hR _ _ _ hf)
  · have hf := hf.2 c1
    refine go_aload_n (pc := 7) C dX7_number_7 0 rfl rfl ?_
    refine ge_X7_X7_14 (pc := 8) C dX7_number_8 ?_
    refine go_iconst (pc := 11) (v := 2) C dX7_number_11 (by decide) ?_
    refine go_ic_eq (pc := 12) C dX7_number_12 20 (by decide) (fun c14 => ?_) (fun c14 => ?_)
    · have hf := hf.1 c14
      exact go_sub [0, 1, 2] rfl (wk_X7_number_20 C hR _ _ _ hf)
    · have hf := hf.2 c14
      refine go_aload_n (pc := 15) C dX7_number_15 0 rfl rfl ?_
      refine go_iconst (pc := 16) (v := 2) C dX7_number_16 (by decide) ?_
      refine go_cVv (pc := 17) C cw_X7_87 (ok_X7_fails hf) (rc_X7 C) rfl rfl rfl (by decide) rfl dX7_number_17 (fun S16 hf => ?_)
      exact go_sub [0, 1, 2] rfl (wk_X7_number_20 C hR _ _ _ hf)
set_option maxRecDepth 100000 in
set_option maxHeartbeats 4000000 in
theorem ok_X7_number {p1 : Int32} {p2 : Int32} {S : tq_St} {K : Int32 → tq_St → Prop} (hf : wp_X7_number p1 p2 S K) : tq_Mi yX7_number cX7_number 4 (some .int) 3 (fun a z => [.ref (a.1 28 0), .int p1, .int p2]) S K :=
  tq_mkI (by decide) (fun _ _ => Nat.le_of_ble_eq_true rfl) (fun X C hR => wk_X7_number C hR  hf)
set_option maxRecDepth 100000 in
set_option maxHeartbeats 4000000 in
theorem wk_X7_one_44 {X : tq_Cx} {K : Int32 → tq_St → Prop} (C : tq_C X cX7_one 3 RX7 3) (hR : tq_Ri X cX7_one 3 K) : ∀ (v1 : Int32) (v2 : Int32) (S : tq_St), wp_X7_one_44 K v1 v2 S → Go X 3 S 44 [(0, .ref ((tq_la X).1 28 0)), (1, .int v1), (2, .int v2)] [] := by
  intro v1 v2 S hf
  refine go_aload_n (pc := 44) C dX7_one_44 0 rfl rfl ?_
  refine ge_X7_X7_0 (pc := 45) C dX7_one_45 ?_
  refine go_iconst (pc := 48) (v := 5) C dX7_one_48 (by decide) ?_
  refine go_iload_n (pc := 49) C dX7_one_49 2 rfl rfl ?_
  refine go_imul (pc := 50) C dX7_one_50 ?_
  refine go_iload_n (pc := 51) C dX7_one_51 1 rfl rfl ?_
  refine go_iadd (pc := 52) C dX7_one_52 ?_
  refine al_X7_0 (pc := 53) C hf.1 dX7_one_53 ?_
  have hf := hf.2
  exact hR _ _ _ _ dX7_one_54 hf
set_option maxRecDepth 100000 in
set_option maxHeartbeats 4000000 in
theorem wk_X7_one {X : tq_Cx} {p1 : Int32} {p2 : Int32} {S : tq_St} {K : Int32 → tq_St → Prop} (C : tq_C X cX7_one 3 RX7 3) (hR : tq_Ri X cX7_one 3 K) (hf : wp_X7_one p1 p2 S K) : Go X 3 S 0 [(0, .ref ((tq_la X).1 28 0)), (1, .int p1), (2, .int p2)] [] := by
  refine go_aload_n (pc := 0) C dX7_one_0 0 rfl rfl ?_
  refine go_iload_n (pc := 1) C dX7_one_1 1 rfl rfl ?_
  refine go_cVi (pc := 2) C cw_X7_158 (ok_X7_isOne hf) (rc_X7 C) rfl rfl rfl (by decide) rfl dX7_one_2 (fun r1 S2 hf => ?_)
  refine go_if_ne (pc := 5) C dX7_one_5 10 (by decide) (fun c4 => ?_) (fun c4 => ?_)
  · have hf := hf.1 c4
    refine go_iload_n (pc := 10) C dX7_one_10 2 rfl rfl ?_
    rcases tq_sw (x := p2) (0) (4) with c5 | c5
    · have hf := hf.1 c5
      refine go_tabOut (pc := 11) C dX7_one_11 92 (by decide) c5 ?_
      refine go_iconst (pc := 92) (v := (-1)) C dX7_one_92 (by decide) ?_
      exact hR _ _ _ _ dX7_one_93 hf
    · have c5 := tq_lt5 c5
      rcases c5 with c5 | c5 | c5 | c5 | c5
      · have hf := hf.2.1 c5
        refine go_tabIn (pc := 11) C dX7_one_11 44 (33) (by decide) (by rw [c5]; decide) (by rw [c5]; decide) (by rw [c5]; rfl) ?_
        exact go_sub [0, 1, 2] rfl (wk_X7_one_44 C hR _ _ _ hf)
      · have hf := hf.2.2.1 c5
        refine go_tabIn (pc := 11) C dX7_one_11 44 (33) (by decide) (by rw [c5]; decide) (by rw [c5]; decide) (by rw [c5]; rfl) ?_
        exact go_sub [0, 1, 2] rfl (wk_X7_one_44 C hR _ _ _ hf)
      · have hf := hf.2.2.2.1 c5
        refine go_tabIn (pc := 11) C dX7_one_11 55 (44) (by decide) (by rw [c5]; decide) (by rw [c5]; decide) (by rw [c5]; rfl) ?_
        refine go_aload_n (pc := 55) C dX7_one_55 0 rfl rfl ?_
        refine ge_X7_X7_0 (pc := 56) C dX7_one_56 ?_
        refine go_bipush (pc := 59) (v := 10) C dX7_one_59 (by decide) ?_
        refine go_iload_n (pc := 61) C dX7_one_61 1 rfl rfl ?_
        refine go_iadd (pc := 62) C dX7_one_62 ?_
        refine al_X7_0 (pc := 63) C hf.1 dX7_one_63 ?_
        have hf := hf.2
        refine go_cSi (pc := 64) C cs_X7_162 (ok_X7_orNone hf) rfl rfl rfl (by decide) rfl dX7_one_64 (fun r6 S7 hf => ?_)
        exact hR _ _ _ _ dX7_one_67 hf
      · have hf := hf.2.2.2.2.1 c5
        refine go_tabIn (pc := 11) C dX7_one_11 68 (57) (by decide) (by rw [c5]; decide) (by rw [c5]; decide) (by rw [c5]; rfl) ?_
        refine go_aload_n (pc := 68) C dX7_one_68 0 rfl rfl ?_
        refine ge_X7_X7_1 (pc := 69) C dX7_one_69 ?_
        refine go_aload_n (pc := 72) C dX7_one_72 0 rfl rfl ?_
        refine ge_X7_X7_0 (pc := 73) C dX7_one_73 ?_
        refine go_iload_n (pc := 76) C dX7_one_76 1 rfl rfl ?_
        refine al_X7_0 (pc := 77) C hf.1 dX7_one_77 ?_
        have hf := hf.2
        refine al_X7_1 (pc := 78) C hf.1 dX7_one_78 ?_
        have hf := hf.2
        exact hR _ _ _ _ dX7_one_79 hf
      · have hf := hf.2.2.2.2.2 c5
        refine go_tabIn (pc := 11) C dX7_one_11 80 (69) (by decide) (by rw [c5]; decide) (by rw [c5]; decide) (by rw [c5]; rfl) ?_
        refine go_aload_n (pc := 80) C dX7_one_80 0 rfl rfl ?_
        refine ge_X7_X7_0 (pc := 81) C dX7_one_81 ?_
        refine go_bipush (pc := 84) (v := 15) C dX7_one_84 (by decide) ?_
        refine al_X7_0 (pc := 86) C hf.1 dX7_one_86 ?_
        have hf := hf.2
        refine go_iload_n (pc := 87) C dX7_one_87 1 rfl rfl ?_
        refine go_ishr (pc := 88) C dX7_one_88 ?_
        refine go_iconst (pc := 89) (v := 1) C dX7_one_89 (by decide) ?_
        refine go_iand (pc := 90) C dX7_one_90 ?_
        exact hR _ _ _ _ dX7_one_91 hf
  · have hf := hf.2 c4
    refine go_iconst (pc := 8) (v := (-1)) C dX7_one_8 (by decide) ?_
    exact hR _ _ _ _ dX7_one_9 hf
set_option maxRecDepth 100000 in
set_option maxHeartbeats 4000000 in
theorem ok_X7_one {p1 : Int32} {p2 : Int32} {S : tq_St} {K : Int32 → tq_St → Prop} (hf : wp_X7_one p1 p2 S K) : tq_Mi yX7_one cX7_one 3 (some .int) 3 (fun a z => [.ref (a.1 28 0), .int p1, .int p2]) S K :=
  tq_mkI (by decide) (fun _ _ => Nat.le_of_ble_eq_true rfl) (fun X C hR => wk_X7_one C hR  hf)
set_option maxRecDepth 100000 in
set_option maxHeartbeats 4000000 in
theorem wk_X7_plan {X : tq_Cx} {p1 : Int32} {S : tq_St} {K : Int32 → tq_St → Prop} (C : tq_C X cX7_plan 2 RX7 4) (hR : tq_Ri X cX7_plan 2 K) (hf : wp_X7_plan p1 S K) : Go X 2 S 0 [(0, .ref ((tq_la X).1 28 0)), (1, .int p1)] [] := by
  refine go_aload_n (pc := 0) C dX7_plan_0 0 rfl rfl ?_
  refine go_iload_n (pc := 1) C dX7_plan_1 1 rfl rfl ?_
  refine go_cVi (pc := 2) C cw_X7_179 (ok_X7_isAct hf) (rc_X7 C) rfl rfl rfl (by decide) rfl dX7_plan_2 (fun r1 S2 hf => ?_)
  refine go_if_ne (pc := 5) C dX7_plan_5 10 (by decide) (fun c4 => ?_) (fun c4 => ?_)
  · have hf := hf.1 c4
    refine go_aload_n (pc := 10) C dX7_plan_10 0 rfl rfl ?_
    refine ge_X7_X7_0 (pc := 11) C dX7_plan_11 ?_
    refine go_bipush (pc := 14) (v := 27) C dX7_plan_14 (by decide) ?_
    refine al_X7_0 (pc := 16) C hf.1 dX7_plan_16 ?_
    have hf := hf.2
    refine go_bipush (pc := 17) (v := 8) C dX7_plan_17 (by decide) ?_
    refine go_ic_ne (pc := 19) C dX7_plan_19 25 (by decide) (fun c5 => ?_) (fun c5 => ?_)
    · have hf := hf.1 c5
      refine go_aload_n (pc := 25) C dX7_plan_25 0 rfl rfl ?_
      refine ge_X7_X7_0 (pc := 26) C dX7_plan_26 ?_
      refine go_bipush (pc := 29) (v := 19) C dX7_plan_29 (by decide) ?_
      refine go_aload_n (pc := 31) C dX7_plan_31 0 rfl rfl ?_
      refine ge_X7_X7_0 (pc := 32) C dX7_plan_32 ?_
      refine go_bipush (pc := 35) (v := 27) C dX7_plan_35 (by decide) ?_
      refine al_X7_0 (pc := 37) C hf.1 dX7_plan_37 ?_
      have hf := hf.2
      refine go_iadd (pc := 38) C dX7_plan_38 ?_
      refine go_iload_n (pc := 39) C dX7_plan_39 1 rfl rfl ?_
      refine as_X7_0 (pc := 40) C hf.1 dX7_plan_40 (fun S6 e7 => ?_)
      have hf := hf.2 S6 e7
      refine go_aload_n (pc := 41) C dX7_plan_41 0 rfl rfl ?_
      refine ge_X7_X7_0 (pc := 42) C dX7_plan_42 ?_
      refine go_bipush (pc := 45) (v := 27) C dX7_plan_45 (by decide) ?_
      refine go_dup2 (pc := 47) C dX7_plan_47 rfl rfl ?_
      refine al_X7_0 (pc := 48) C hf.1 dX7_plan_48 ?_
      have hf := hf.2
      refine go_iconst (pc := 49) (v := 1) C dX7_plan_49 (by decide) ?_
      refine go_iadd (pc := 50) C dX7_plan_50 ?_
      refine as_X7_0 (pc := 51) C hf.1 dX7_plan_51 (fun S8 e9 => ?_)
      have hf := hf.2 S8 e9
      refine go_aload_n (pc := 52) C dX7_plan_52 0 rfl rfl ?_
      refine ge_X7_X7_0 (pc := 53) C dX7_plan_53 ?_
      refine go_bipush (pc := 56) (v := 27) C dX7_plan_56 (by decide) ?_
      refine al_X7_0 (pc := 58) C hf.1 dX7_plan_58 ?_
      have hf := hf.2
      exact hR _ _ _ _ dX7_plan_59 hf
    · have hf := hf.2 c5
      refine go_bipush (pc := 22) (v := (-3)) C dX7_plan_22 (by decide) ?_
      exact hR _ _ _ _ dX7_plan_24 hf
  · have hf := hf.2 c4
    refine go_iconst (pc := 8) (v := (-1)) C dX7_plan_8 (by decide) ?_
    exact hR _ _ _ _ dX7_plan_9 hf
set_option maxRecDepth 100000 in
set_option maxHeartbeats 4000000 in
theorem ok_X7_plan {p1 : Int32} {S : tq_St} {K : Int32 → tq_St → Prop} (hf : wp_X7_plan p1 S K) : tq_Mi yX7_plan cX7_plan 2 (some .int) 4 (fun a z => [.ref (a.1 28 0), .int p1]) S K :=
  tq_mkI (by decide) (fun _ _ => Nat.le_of_ble_eq_true rfl) (fun X C hR => wk_X7_plan C hR  hf)
set_option maxRecDepth 100000 in
set_option maxHeartbeats 4000000 in
theorem wk_X7_queue_26 {X : tq_Cx} {K : Int32 → tq_St → Prop} (C : tq_C X cX7_queue 5 RX7 3) (hR : tq_Ri X cX7_queue 5 K) : ∀ (n : Nat) (v1 : Int32) (v2 : Int32) (v3 : Int32) (v4 : Int32) (S : tq_St), wp_X7_queue_26 K n v1 v2 v3 v4 S → Go X 5 S 26 [(0, .ref ((tq_la X).1 28 0)), (1, .int v1), (2, .int v2), (3, .int v3), (4, .int v4)] [] := by
  intro n
  induction n with
  | zero => intros; contradiction
  | succ n ih =>
    intro v1 v2 v3 v4 S hf
    refine go_iload (pc := 26) C dX7_queue_26 4 rfl ?_
    refine go_iload_n (pc := 28) C dX7_queue_28 1 rfl rfl ?_
    refine go_ic_ge (pc := 29) C dX7_queue_29 57 (by decide) (fun c8 => ?_) (fun c8 => ?_)
    · have hf := hf.1 c8
      refine go_iload_n (pc := 57) C dX7_queue_57 3 rfl rfl ?_
      exact hR _ _ _ _ dX7_queue_58 hf
    · have hf := hf.2 c8
      refine go_iload_n (pc := 32) C dX7_queue_32 3 rfl rfl ?_
      refine go_bipush (pc := 33) (v := (-4)) C dX7_queue_33 (by decide) ?_
      refine go_ic_eq (pc := 35) C dX7_queue_35 57 (by decide) (fun c9 => ?_) (fun c9 => ?_)
      · have hf := hf.1 c9
        refine go_iload_n (pc := 57) C dX7_queue_57 3 rfl rfl ?_
        exact hR _ _ _ _ dX7_queue_58 hf
      · have hf := hf.2 c9
        refine go_iload_n (pc := 38) C dX7_queue_38 2 rfl rfl ?_
        refine go_iconst (pc := 39) (v := 1) C dX7_queue_39 (by decide) ?_
        refine go_iload_n (pc := 40) C dX7_queue_40 3 rfl rfl ?_
        refine go_ishl (pc := 41) C dX7_queue_41 ?_
        refine go_ior (pc := 42) C dX7_queue_42 ?_
        refine go_nI (fun x10 e11 => ?_)
        have hf := hf x10 e11
        refine go_istore_n (pc := 43) C dX7_queue_43 [(2, .int x10), (0, .ref ((tq_la X).1 28 0)), (1, .int v1), (3, .int v3), (4, .int v4)] rfl (by decide) rfl ?_
        refine go_aload_n (pc := 44) C dX7_queue_44 1 rfl rfl ?_
        refine go_iconst (pc := 45) (v := 0) C dX7_queue_45 (by decide) ?_
        refine go_iload_n (pc := 46) C dX7_queue_46 0 rfl rfl ?_
        refine go_cVi (pc := 47) C cw_X7_149 (ok_X7_nextOn hf) (rc_X7 C) rfl rfl rfl (by decide) rfl dX7_queue_47 (fun r12 S13 hf => ?_)
        refine go_istore_n (pc := 50) C dX7_queue_50 [(3, .int r12), (2, .int x10), (0, .ref ((tq_la X).1 28 0)), (1, .int v1), (4, .int v4)] rfl (by decide) rfl ?_
        obtain ⟨x15, e16⟩ : ∃ q9 : Int32, q9 = v4 + 1 := ⟨_, rfl⟩
        refine go_iinc (pc := 51) (j := 4) (v := x15) C dX7_queue_51 [(4, .int x15), (3, .int r12), (2, .int x10), (0, .ref ((tq_la X).1 28 0)), (1, .int v1)] rfl (by rw [e16]; rfl) (by decide) rfl ?_
        have hf := hf x15 e16
        refine go_goto (pc := 54) C dX7_queue_54 26 (by decide) ?_
        exact go_sub [3, 4, 2, 1, 0] rfl (ih _ _ _ _ _ hf)
set_option maxRecDepth 100000 in
set_option maxHeartbeats 4000000 in
theorem wk_X7_queue {X : tq_Cx} {p1 : Int32} {S : tq_St} {K : Int32 → tq_St → Prop} (C : tq_C X cX7_queue 5 RX7 3) (hR : tq_Ri X cX7_queue 5 K) (hf : wp_X7_queue p1 S K) : Go X 5 S 0 [(0, .ref ((tq_la X).1 28 0)), (1, .int p1)] [] := by
  refine go_iload_n (pc := 0) C dX7_queue_0 1 rfl rfl ?_
  refine go_i2l (pc := 1) C dX7_queue_1 ?_
  refine go_lconst (pc := 2) (v := 0) C dX7_queue_2 (by decide) ?_
  refine go_ldc2 (pc := 3) C kl_X7_165 dX7_queue_3 ?_
  refine go_cSi (pc := 6) C cs_X7_49 (ok_X7_in hf) rfl rfl rfl (by decide) rfl dX7_queue_6 (fun r1 S2 hf => ?_)
  refine go_if_ne (pc := 9) C dX7_queue_9 14 (by decide) (fun c4 => ?_) (fun c4 => ?_)
  · have hf := hf.1 c4
    refine go_iconst (pc := 14) (v := 0) C dX7_queue_14 (by decide) ?_
    refine go_istore_n (pc := 15) C dX7_queue_15 [(2, .int 0), (0, .ref ((tq_la X).1 28 0)), (1, .int p1)] rfl (by decide) rfl ?_
    refine go_aload_n (pc := 16) C dX7_queue_16 1 rfl rfl ?_
    refine go_iconst (pc := 17) (v := 0) C dX7_queue_17 (by decide) ?_
    refine go_iload_n (pc := 18) C dX7_queue_18 0 rfl rfl ?_
    refine go_cVi (pc := 19) C cw_X7_149 (ok_X7_nextOn hf) (rc_X7 C) rfl rfl rfl (by decide) rfl dX7_queue_19 (fun r5 S6 hf => ?_)
    refine go_istore_n (pc := 22) C dX7_queue_22 [(3, .int r5), (2, .int 0), (0, .ref ((tq_la X).1 28 0)), (1, .int p1)] rfl (by decide) rfl ?_
    refine go_iconst (pc := 23) (v := 0) C dX7_queue_23 (by decide) ?_
    refine go_istore (pc := 24) C dX7_queue_24 [(4, .int 0), (3, .int r5), (2, .int 0), (0, .ref ((tq_la X).1 28 0)), (1, .int p1)] (by decide) rfl ?_
    exact go_sub [3, 4, 2, 1, 0] rfl (wk_X7_queue_26 C hR 2000 _ _ _ _ _ hf)
  · have hf := hf.2 c4
    refine go_iconst (pc := 12) (v := (-1)) C dX7_queue_12 (by decide) ?_
    exact hR _ _ _ _ dX7_queue_13 hf
set_option maxRecDepth 100000 in
set_option maxHeartbeats 4000000 in
theorem ok_X7_queue {p1 : Int32} {S : tq_St} {K : Int32 → tq_St → Prop} (hf : wp_X7_queue p1 S K) : tq_Mi yX7_queue cX7_queue 5 (some .int) 3 (fun a z => [.ref (a.1 28 0), .int p1]) S K :=
  tq_mkI (by decide) (fun _ _ => Nat.le_of_ble_eq_true rfl) (fun X C hR => wk_X7_queue C hR  hf)
set_option maxRecDepth 100000 in
set_option maxHeartbeats 4000000 in
theorem wk_X7_read_123 {X : tq_Cx} {K : Int32 → tq_St → Prop} (C : tq_C X cX7_read 8 RX7 5) (hR : tq_Ri X cX7_read 8 K) {rec55 : Int32 → Int32 → Int32 → Int32 → Int32 → Int32 → Int32 → tq_St → Prop} (hrec55 : ∀ (v1 : Int32) (v2 : Int32) (v3 : Int32) (v4 : Int32) (v5 : Int32) (v6 : Int32) (v7 : Int32) (S : tq_St), rec55 v1 v2 v3 v4 v5 v6 v7 S → Go X 8 S 55 [(0, .ref ((tq_la X).1 28 0)), (1, .int v1), (2, .int v2), (3, .int v3), (4, .int v4), (5, .int v5), (6, .int v6), (7, .int v7)] []) : ∀ (v1 : Int32) (v2 : Int32) (v3 : Int32) (v4 : Int32) (v6 : Int32) (v7 : Int32) (w0 : Int32) (S : tq_St), wp_X7_read_123 K rec55 v1 v2 v3 v4 v6 v7 w0 S → Go X 8 S 123 [(0, .ref ((tq_la X).1 28 0)), (1, .int v1), (2, .int v2), (3, .int v3), (4, .int v4), (6, .int v6), (7, .int v7)] [.int w0] := by
  intro v1 v2 v3 v4 v6 v7 w0 S hf
  refine go_istore (pc := 123) C dX7_read_123 [(5, .int w0), (0, .ref ((tq_la X).1 28 0)), (1, .int v1), (2, .int v2), (3, .int v3), (4, .int v4), (6, .int v6), (7, .int v7)] (by decide) rfl ?_
  refine go_iload (pc := 125) C dX7_read_125 0 rfl ?_
  refine go_if_ne (pc := 127) C dX7_read_127 167 (by decide) (fun c28 => ?_) (fun c28 => ?_)
  · have hf := hf.1 c28
    obtain ⟨x29, e30⟩ : ∃ q9 : Int32, q9 = v7 + 1 := ⟨_, rfl⟩
    refine go_iinc (pc := 167) (j := 7) (v := x29) C dX7_read_167 [(7, .int x29), (5, .int w0), (0, .ref ((tq_la X).1 28 0)), (1, .int v1), (2, .int v2), (3, .int v3), (4, .int v4), (6, .int v6)] rfl (by rw [e30]; rfl) (by decide) rfl ?_
    have hf := hf x29 e30
    refine go_goto (pc := 170) C dX7_read_170 55 (by decide) ?_
    exact go_sub [2, 3, 4, 5, 6, 1, 7, 0] rfl (hrec55 _ _ _ _ _ _ _ _ hf)
  · have hf := hf.2 c28
    refine go_aload_n (pc := 130) C dX7_read_130 1 rfl rfl ?_
    refine go_aload_n (pc := 131) C dX7_read_131 1 rfl rfl ?_
    refine ge_X7_X7_27 (pc := 132) C dX7_read_132 ?_
    refine go_bipush (pc := 135) (v := 40) C dX7_read_135 (by decide) ?_
    refine go_iload_n (pc := 137) C dX7_read_137 2 rfl rfl ?_
    refine go_imul (pc := 138) C dX7_read_138 ?_
    refine go_iload_n (pc := 139) C dX7_read_139 4 rfl rfl ?_
    refine go_iadd (pc := 140) C dX7_read_140 ?_
    refine go_iload (pc := 141) C dX7_read_141 7 rfl ?_
    refine go_iadd (pc := 143) C dX7_read_143 ?_
    refine al_X7_27 (pc := 144) C hf.1 dX7_read_144 ?_
    have hf := hf.2
    refine go_cVi (pc := 145) C cw_X7_259 (ok_X7_does hf) (rc_X7 C) rfl rfl rfl (by decide) rfl dX7_read_145 (fun r31 S32 hf => ?_)
    refine go_if_ne (pc := 148) C dX7_read_148 164 (by decide) (fun c34 => ?_) (fun c34 => ?_)
    · have hf := hf.1 c34
      obtain ⟨x35, e36⟩ : ∃ q9 : Int32, q9 = v6 + 1 := ⟨_, rfl⟩
      refine go_iinc (pc := 164) (j := 6) (v := x35) C dX7_read_164 [(6, .int x35), (5, .int w0), (0, .ref ((tq_la X).1 28 0)), (1, .int v1), (2, .int v2), (3, .int v3), (4, .int v4), (7, .int v7)] rfl (by rw [e36]; rfl) (by decide) rfl ?_
      have hf := hf x35 e36
      obtain ⟨x37, e38⟩ : ∃ q9 : Int32, q9 = v7 + 1 := ⟨_, rfl⟩
      refine go_iinc (pc := 167) (j := 7) (v := x37) C dX7_read_167 [(7, .int x37), (6, .int x35), (5, .int w0), (0, .ref ((tq_la X).1 28 0)), (1, .int v1), (2, .int v2), (3, .int v3), (4, .int v4)] rfl (by rw [e38]; rfl) (by decide) rfl ?_
      have hf := hf x37 e38
      refine go_goto (pc := 170) C dX7_read_170 55 (by decide) ?_
      exact go_sub [3, 4, 5, 6, 7, 2, 1, 0] rfl (hrec55 _ _ _ _ _ _ _ _ hf)
    · have hf := hf.2 c34
      refine go_aload_n (pc := 151) C dX7_read_151 1 rfl rfl ?_
      refine go_bipush (pc := 152) (v := 84) C dX7_read_152 (by decide) ?_
      refine go_iconst (pc := 154) (v := 0) C dX7_read_154 (by decide) ?_
      refine go_cVv (pc := 155) C cw_X7_196 (ok_X7_copies hf) (rc_X7 C) rfl rfl rfl (by decide) rfl dX7_read_155 (fun S40 hf => ?_)
      refine go_bipush (pc := 158) (v := (-20)) C dX7_read_158 (by decide) ?_
      refine go_iload (pc := 160) C dX7_read_160 6 rfl ?_
      refine go_isub (pc := 162) C dX7_read_162 ?_
      exact hR _ _ _ _ dX7_read_163 hf
set_option maxRecDepth 100000 in
set_option maxHeartbeats 4000000 in
theorem wk_X7_read_55 {X : tq_Cx} {K : Int32 → tq_St → Prop} (C : tq_C X cX7_read 8 RX7 5) (hR : tq_Ri X cX7_read 8 K) : ∀ (n : Nat) (v1 : Int32) (v2 : Int32) (v3 : Int32) (v4 : Int32) (v5 : Int32) (v6 : Int32) (v7 : Int32) (S : tq_St), wp_X7_read_55 K n v1 v2 v3 v4 v5 v6 v7 S → Go X 8 S 55 [(0, .ref ((tq_la X).1 28 0)), (1, .int v1), (2, .int v2), (3, .int v3), (4, .int v4), (5, .int v5), (6, .int v6), (7, .int v7)] [] := by
  intro n
  induction n with
  | zero => intros; contradiction
  | succ n ih =>
    intro v1 v2 v3 v4 v5 v6 v7 S hf
    refine go_iload (pc := 55) C dX7_read_55 7 rfl ?_
    refine go_iload (pc := 57) C dX7_read_57 4 rfl ?_
    refine go_ic_ge (pc := 59) C dX7_read_59 173 (by decide) (fun c16 => ?_) (fun c16 => ?_)
    · have hf := hf.1 c16
      refine go_aload_n (pc := 173) C dX7_read_173 0 rfl rfl ?_
      refine go_iload (pc := 174) C dX7_read_174 5 rfl ?_
      refine pu_X7_X7_28 (pc := 176) C dX7_read_176 (fun S17 e18 => ?_)
      have hf := hf S17 e18
      refine go_iload (pc := 179) C dX7_read_179 6 rfl ?_
      exact hR _ _ _ _ dX7_read_181 hf
    · have hf := hf.2 c16
      refine go_iload (pc := 62) C dX7_read_62 5 rfl ?_
      refine go_if_ne (pc := 64) C dX7_read_64 173 (by decide) (fun c19 => ?_) (fun c19 => ?_)
      · have hf := hf.1 c19
        refine go_aload_n (pc := 173) C dX7_read_173 0 rfl rfl ?_
        refine go_iload (pc := 174) C dX7_read_174 5 rfl ?_
        refine pu_X7_X7_28 (pc := 176) C dX7_read_176 (fun S20 e21 => ?_)
        have hf := hf S20 e21
        refine go_iload (pc := 179) C dX7_read_179 6 rfl ?_
        exact hR _ _ _ _ dX7_read_181 hf
      · have hf := hf.2 c19
        refine go_aload_n (pc := 67) C dX7_read_67 0 rfl rfl ?_
        refine ge_X7_X7_25 (pc := 68) C dX7_read_68 ?_
        refine go_iload_n (pc := 71) C dX7_read_71 1 rfl rfl ?_
        refine al_X7_25 (pc := 72) C hf.1 dX7_read_72 ?_
        have hf := hf.2
        refine go_bipush (pc := 73) (v := (-4)) C dX7_read_73 (by decide) ?_
        refine go_ic_ne (pc := 75) C dX7_read_75 82 (by decide) (fun c22 => ?_) (fun c22 => ?_)
        · have hf := hf.1 c22
          refine go_aload_n (pc := 82) C dX7_read_82 0 rfl rfl ?_
          refine ge_X7_X7_25 (pc := 83) C dX7_read_83 ?_
          refine go_iload_n (pc := 86) C dX7_read_86 1 rfl rfl ?_
          refine al_X7_25 (pc := 87) C hf.1 dX7_read_87 ?_
          have hf := hf.2
          refine go_iload_n (pc := 88) C dX7_read_88 2 rfl rfl ?_
          refine go_ic_eq (pc := 89) C dX7_read_89 96 (by decide) (fun c23 => ?_) (fun c23 => ?_)
          · have hf := hf.1 c23
            refine go_iload_n (pc := 96) C dX7_read_96 3 rfl rfl ?_
            refine go_i2l (pc := 97) C dX7_read_97 ?_
            refine go_iload (pc := 98) C dX7_read_98 7 rfl ?_
            refine go_i2l (pc := 100) C dX7_read_100 ?_
            refine go_ladd (pc := 101) C dX7_read_101 ?_
            refine go_lconst (pc := 102) (v := 0) C dX7_read_102 (by decide) ?_
            refine go_aload_n (pc := 103) C dX7_read_103 0 rfl rfl ?_
            refine ge_X7_X7_26 (pc := 104) C dX7_read_104 ?_
            refine go_iload_n (pc := 107) C dX7_read_107 1 rfl rfl ?_
            refine al_X7_26 (pc := 108) C hf.1 dX7_read_108 ?_
            have hf := hf.2
            refine go_iconst (pc := 109) (v := 1) C dX7_read_109 (by decide) ?_
            refine go_isub (pc := 110) C dX7_read_110 ?_
            refine go_i2l (pc := 111) C dX7_read_111 ?_
            refine go_cSi (pc := 112) C cs_X7_49 (ok_X7_in hf) rfl rfl rfl (by decide) rfl dX7_read_112 (fun r24 S25 hf => ?_)
            refine go_if_ne (pc := 115) C dX7_read_115 122 (by decide) (fun c27 => ?_) (fun c27 => ?_)
            · have hf := hf.1 c27
              refine go_iconst (pc := 122) (v := 0) C dX7_read_122 (by decide) ?_
              exact go_sub [0, 1, 2, 3, 4, 6, 7] rfl (wk_X7_read_123 C hR ih _ _ _ _ _ _ _ _ hf)
            · have hf := hf.2 c27
              refine go_iconst (pc := 118) (v := 2) C dX7_read_118 (by decide) ?_
              refine go_goto (pc := 119) C dX7_read_119 123 (by decide) ?_
              exact go_sub [0, 1, 2, 3, 4, 6, 7] rfl (wk_X7_read_123 C hR ih _ _ _ _ _ _ _ _ hf)
          · have hf := hf.2 c23
            refine go_iconst (pc := 92) (v := 3) C dX7_read_92 (by decide) ?_
            refine go_goto (pc := 93) C dX7_read_93 123 (by decide) ?_
            exact go_sub [0, 1, 2, 3, 4, 6, 7] rfl (wk_X7_read_123 C hR ih _ _ _ _ _ _ _ _ hf)
        · have hf := hf.2 c22
          refine go_iconst (pc := 78) (v := 1) C dX7_read_78 (by decide) ?_
          refine go_goto (pc := 79) C dX7_read_79 123 (by decide) ?_
          exact go_sub [0, 1, 2, 3, 4, 6, 7] rfl (wk_X7_read_123 C hR ih _ _ _ _ _ _ _ _ hf)
set_option maxRecDepth 100000 in
set_option maxHeartbeats 4000000 in
theorem wk_X7_read {X : tq_Cx} {p1 : Int32} {p2 : Int32} {p3 : Int32} {p4 : Int32} {S : tq_St} {K : Int32 → tq_St → Prop} (C : tq_C X cX7_read 8 RX7 5) (hR : tq_Ri X cX7_read 8 K) (hf : wp_X7_read p1 p2 p3 p4 S K) : Go X 8 S 0 [(0, .ref ((tq_la X).1 28 0)), (1, .int p1), (2, .int p2), (3, .int p3), (4, .int p4)] [] := by
  refine go_iload_n (pc := 0) C dX7_read_0 1 rfl rfl ?_
  refine go_i2l (pc := 1) C dX7_read_1 ?_
  refine go_lconst (pc := 2) (v := 0) C dX7_read_2 (by decide) ?_
  refine go_ldc2 (pc := 3) C kl_X7_167 dX7_read_3 ?_
  refine go_cSi (pc := 6) C cs_X7_49 (ok_X7_in hf) rfl rfl rfl (by decide) rfl dX7_read_6 (fun r1 S2 hf => ?_)
  refine go_if_eq (pc := 9) C dX7_read_9 37 (by decide) (fun c4 => ?_) (fun c4 => ?_)
  · have hf := hf.1 c4
    refine go_iconst (pc := 37) (v := (-1)) C dX7_read_37 (by decide) ?_
    exact hR _ _ _ _ dX7_read_38 hf
  · have hf := hf.2 c4
    refine go_iload_n (pc := 12) C dX7_read_12 2 rfl rfl ?_
    refine go_i2l (pc := 13) C dX7_read_13 ?_
    refine go_lconst (pc := 14) (v := 0) C dX7_read_14 (by decide) ?_
    refine go_ldc2 (pc := 15) C kl_X7_255 dX7_read_15 ?_
    refine go_cSi (pc := 18) C cs_X7_49 (ok_X7_in hf) rfl rfl rfl (by decide) rfl dX7_read_18 (fun r5 S6 hf => ?_)
    refine go_if_eq (pc := 21) C dX7_read_21 37 (by decide) (fun c8 => ?_) (fun c8 => ?_)
    · have hf := hf.1 c8
      refine go_iconst (pc := 37) (v := (-1)) C dX7_read_37 (by decide) ?_
      exact hR _ _ _ _ dX7_read_38 hf
    · have hf := hf.2 c8
      refine go_iload (pc := 24) C dX7_read_24 4 rfl ?_
      refine go_i2l (pc := 26) C dX7_read_26 ?_
      refine go_lconst (pc := 27) (v := 0) C dX7_read_27 (by decide) ?_
      refine go_ldc2 (pc := 28) C kl_X7_257 dX7_read_28 ?_
      refine go_cSi (pc := 31) C cs_X7_49 (ok_X7_in hf) rfl rfl rfl (by decide) rfl dX7_read_31 (fun r9 S10 hf => ?_)
      refine go_if_ne (pc := 34) C dX7_read_34 39 (by decide) (fun c12 => ?_) (fun c12 => ?_)
      · have hf := hf.1 c12
        refine go_aload_n (pc := 39) C dX7_read_39 0 rfl rfl ?_
        refine go_iconst (pc := 40) (v := 0) C dX7_read_40 (by decide) ?_
        refine go_bipush (pc := 41) (v := 84) C dX7_read_41 (by decide) ?_
        refine go_cVv (pc := 43) C cw_X7_196 (ok_X7_copies hf) (rc_X7 C) rfl rfl rfl (by decide) rfl dX7_read_43 (fun S14 hf => ?_)
        refine go_iconst (pc := 46) (v := 0) C dX7_read_46 (by decide) ?_
        refine go_istore (pc := 47) C dX7_read_47 [(5, .int 0), (0, .ref ((tq_la X).1 28 0)), (1, .int p1), (2, .int p2), (3, .int p3), (4, .int p4)] (by decide) rfl ?_
        refine go_iconst (pc := 49) (v := 0) C dX7_read_49 (by decide) ?_
        refine go_istore (pc := 50) C dX7_read_50 [(6, .int 0), (5, .int 0), (0, .ref ((tq_la X).1 28 0)), (1, .int p1), (2, .int p2), (3, .int p3), (4, .int p4)] (by decide) rfl ?_
        refine go_iconst (pc := 52) (v := 0) C dX7_read_52 (by decide) ?_
        refine go_istore (pc := 53) C dX7_read_53 [(7, .int 0), (6, .int 0), (5, .int 0), (0, .ref ((tq_la X).1 28 0)), (1, .int p1), (2, .int p2), (3, .int p3), (4, .int p4)] (by decide) rfl ?_
        exact go_sub [3, 4, 5, 6, 7, 2, 1, 0] rfl (wk_X7_read_55 C hR 2000 _ _ _ _ _ _ _ _ hf)
      · have hf := hf.2 c12
        refine go_iconst (pc := 37) (v := (-1)) C dX7_read_37 (by decide) ?_
        exact hR _ _ _ _ dX7_read_38 hf
set_option maxRecDepth 100000 in
set_option maxHeartbeats 4000000 in
theorem ok_X7_read {p1 : Int32} {p2 : Int32} {p3 : Int32} {p4 : Int32} {S : tq_St} {K : Int32 → tq_St → Prop} (hf : wp_X7_read p1 p2 p3 p4 S K) : tq_Mi yX7_read cX7_read 8 (some .int) 5 (fun a z => [.ref (a.1 28 0), .int p1, .int p2, .int p3, .int p4]) S K :=
  tq_mkI (by decide) (fun _ _ => Nat.le_of_ble_eq_true rfl) (fun X C hR => wk_X7_read C hR  hf)
set_option maxRecDepth 100000 in
set_option maxHeartbeats 4000000 in
theorem wk_X7_readPlan_65 {X : tq_Cx} {K : tq_St → Prop} (C : tq_C X cX7_readPlan 2 RX7 4) (hR : tq_Rv X cX7_readPlan 2 K) {rec0 : tq_St → Prop} (hrec0 : ∀ (S : tq_St), rec0 S → Go X 2 S 0 [(0, .ref ((tq_la X).1 28 0))] []) : ∀ (v1 : Int32) (w1 : Int32) (S : tq_St), wp_X7_readPlan_65 K rec0 v1 w1 S → Go X 2 S 65 [(0, .ref ((tq_la X).1 28 0)), (1, .int v1)] [.int w1, .ref ((tq_la X).1 28 0)] := by
  intro v1 w1 S hf
  refine pu_X7_X7_6 (pc := 65) C dX7_readPlan_65 (fun S8 e9 => ?_)
  have hf := hf S8 e9
  refine go_aload_n (pc := 68) C dX7_readPlan_68 0 rfl rfl ?_
  refine ge_X7_X7_3 (pc := 69) C dX7_readPlan_69 ?_
  refine go_bipush (pc := 72) (v := 19) C dX7_readPlan_72 (by decide) ?_
  refine go_aload_n (pc := 74) C dX7_readPlan_74 0 rfl rfl ?_
  refine ge_X7_X7_3 (pc := 75) C dX7_readPlan_75 ?_
  refine go_bipush (pc := 78) (v := 27) C dX7_readPlan_78 (by decide) ?_
  refine al_X7_3 (pc := 80) C hf.1 dX7_readPlan_80 ?_
  have hf := hf.2
  refine go_iadd (pc := 81) C dX7_readPlan_81 ?_
  refine go_iload_n (pc := 82) C dX7_readPlan_82 1 rfl rfl ?_
  refine as_X7_3 (pc := 83) C hf.1 dX7_readPlan_83 (fun S10 e11 => ?_)
  have hf := hf.2 S10 e11
  refine go_aload_n (pc := 84) C dX7_readPlan_84 0 rfl rfl ?_
  refine ge_X7_X7_3 (pc := 85) C dX7_readPlan_85 ?_
  refine go_bipush (pc := 88) (v := 27) C dX7_readPlan_88 (by decide) ?_
  refine go_dup2 (pc := 90) C dX7_readPlan_90 rfl rfl ?_
  refine al_X7_3 (pc := 91) C hf.1 dX7_readPlan_91 ?_
  have hf := hf.2
  refine go_iconst (pc := 92) (v := 1) C dX7_readPlan_92 (by decide) ?_
  refine go_iadd (pc := 93) C dX7_readPlan_93 ?_
  refine as_X7_3 (pc := 94) C hf.1 dX7_readPlan_94 (fun S12 e13 => ?_)
  have hf := hf.2 S12 e13
  refine go_goto (pc := 95) C dX7_readPlan_95 0 (by decide) ?_
  exact go_sub [0] rfl (hrec0 _ hf)
set_option maxRecDepth 100000 in
set_option maxHeartbeats 4000000 in
theorem wk_X7_readPlan_61 {X : tq_Cx} {K : tq_St → Prop} (C : tq_C X cX7_readPlan 2 RX7 4) (hR : tq_Rv X cX7_readPlan 2 K) {rec0 : tq_St → Prop} (hrec0 : ∀ (S : tq_St), rec0 S → Go X 2 S 0 [(0, .ref ((tq_la X).1 28 0))] []) : ∀ (v1 : Int32) (S : tq_St), wp_X7_readPlan_61 K rec0 v1 S → Go X 2 S 61 [(0, .ref ((tq_la X).1 28 0)), (1, .int v1)] [.ref ((tq_la X).1 28 0)] := by
  intro v1 S hf
  refine go_aload_n (pc := 61) C dX7_readPlan_61 0 rfl rfl ?_
  refine ge_X7_X7_6 (pc := 62) C dX7_readPlan_62 ?_
  exact go_sub [0, 1] rfl (wk_X7_readPlan_65 C hR hrec0 _ _ _ hf)
set_option maxRecDepth 100000 in
set_option maxHeartbeats 4000000 in
theorem wk_X7_readPlan_0 {X : tq_Cx} {K : tq_St → Prop} (C : tq_C X cX7_readPlan 2 RX7 4) (hR : tq_Rv X cX7_readPlan 2 K) : ∀ (n : Nat) (S : tq_St), wp_X7_readPlan_0 K n S → Go X 2 S 0 [(0, .ref ((tq_la X).1 28 0))] [] := by
  intro n
  induction n with
  | zero => intros; contradiction
  | succ n ih =>
    intro S hf
    refine go_aload_n (pc := 0) C dX7_readPlan_0 0 rfl rfl ?_
    refine ge_X7_X7_10 (pc := 1) C dX7_readPlan_1 ?_
    refine go_if_ne (pc := 4) C dX7_readPlan_4 98 (by decide) (fun c1 => ?_) (fun c1 => ?_)
    · have hf := hf.1 c1
      exact hR _ _ _ dX7_readPlan_98 hf
    · have hf := hf.2 c1
      refine go_aload_n (pc := 7) C dX7_readPlan_7 0 rfl rfl ?_
      refine ge_X7_X7_14 (pc := 8) C dX7_readPlan_8 ?_
      refine go_iconst (pc := 11) (v := 2) C dX7_readPlan_11 (by decide) ?_
      refine go_ic_ne (pc := 12) C dX7_readPlan_12 98 (by decide) (fun c2 => ?_) (fun c2 => ?_)
      · have hf := hf.1 c2
        exact hR _ _ _ dX7_readPlan_98 hf
      · have hf := hf.2 c2
        refine go_aload_n (pc := 15) C dX7_readPlan_15 0 rfl rfl ?_
        refine ge_X7_X7_3 (pc := 16) C dX7_readPlan_16 ?_
        refine go_bipush (pc := 19) (v := 27) C dX7_readPlan_19 (by decide) ?_
        refine al_X7_3 (pc := 21) C hf.1 dX7_readPlan_21 ?_
        have hf := hf.2
        refine go_bipush (pc := 22) (v := 8) C dX7_readPlan_22 (by decide) ?_
        refine go_ic_ne (pc := 24) C dX7_readPlan_24 35 (by decide) (fun c3 => ?_) (fun c3 => ?_)
        · have hf := hf.1 c3
          refine go_aload_n (pc := 35) C dX7_readPlan_35 0 rfl rfl ?_
          refine go_iconst (pc := 36) (v := 0) C dX7_readPlan_36 (by decide) ?_
          refine go_bipush (pc := 37) (v := 6) C dX7_readPlan_37 (by decide) ?_
          refine go_cVi (pc := 39) C cw_X7_94 (ok_X7_number hf) (rc_X7 C) rfl rfl rfl (by decide) rfl dX7_readPlan_39 (fun r4 S5 hf => ?_)
          refine go_istore_n (pc := 42) C dX7_readPlan_42 [(1, .int r4), (0, .ref ((tq_la X).1 28 0))] rfl (by decide) rfl ?_
          refine go_aload_n (pc := 43) C dX7_readPlan_43 1 rfl rfl ?_
          refine go_iload_n (pc := 44) C dX7_readPlan_44 0 rfl rfl ?_
          refine go_iconst (pc := 45) (v := 5) C dX7_readPlan_45 (by decide) ?_
          refine go_ic_ge (pc := 46) C dX7_readPlan_46 61 (by decide) (fun c7 => ?_) (fun c7 => ?_)
          · have hf := hf.1 c7
            exact go_sub [1, 0] rfl (wk_X7_readPlan_61 C hR ih _ _ hf)
          · have hf := hf.2 c7
            refine go_iload_n (pc := 49) C dX7_readPlan_49 0 rfl rfl ?_
            refine go_aload_n (pc := 50) C dX7_readPlan_50 1 rfl rfl ?_
            refine ge_X7_X7_6 (pc := 51) C dX7_readPlan_51 ?_
            refine go_ic_le (pc := 54) C dX7_readPlan_54 61 (by decide) (fun c14 => ?_) (fun c14 => ?_)
            · have hf := hf.1 c14
              exact go_sub [1, 0] rfl (wk_X7_readPlan_61 C hR ih _ _ hf)
            · have hf := hf.2 c14
              refine go_iload_n (pc := 57) C dX7_readPlan_57 0 rfl rfl ?_
              refine go_goto (pc := 58) C dX7_readPlan_58 65 (by decide) ?_
              exact go_sub [1, 0] rfl (wk_X7_readPlan_65 C hR ih _ _ _ hf)
        · have hf := hf.2 c3
          refine go_aload_n (pc := 27) C dX7_readPlan_27 0 rfl rfl ?_
          refine go_iconst (pc := 28) (v := 5) C dX7_readPlan_28 (by decide) ?_
          refine go_cVv (pc := 29) C cw_X7_87 (ok_X7_fails hf) (rc_X7 C) rfl rfl rfl (by decide) rfl dX7_readPlan_29 (fun S16 hf => ?_)
          refine go_goto (pc := 32) C dX7_readPlan_32 0 (by decide) ?_
          exact go_sub [0] rfl (ih _ hf)
set_option maxRecDepth 100000 in
set_option maxHeartbeats 4000000 in
theorem wk_X7_readPlan {X : tq_Cx} {S : tq_St} {K : tq_St → Prop} (C : tq_C X cX7_readPlan 2 RX7 4) (hR : tq_Rv X cX7_readPlan 2 K) (hf : wp_X7_readPlan S K) : Go X 2 S 0 [(0, .ref ((tq_la X).1 28 0))] [] := by
  exact go_sub [0] rfl (wk_X7_readPlan_0 C hR 2000 _ hf)
set_option maxRecDepth 100000 in
set_option maxHeartbeats 4000000 in
theorem ok_X7_readPlan {S : tq_St} {K : tq_St → Prop} (hf : wp_X7_readPlan S K) : tq_Mv yX7_readPlan cX7_readPlan 2 none 4 (fun a z => [.ref (a.1 28 0)]) S K :=
  tq_mkV (by decide) (fun _ _ => Nat.le_of_ble_eq_true rfl) (fun X C hR => wk_X7_readPlan C hR  hf)
set_option maxRecDepth 100000 in
set_option maxHeartbeats 4000000 in
theorem wk_X7_readMore_41 {X : tq_Cx} {K : tq_St → Prop} (C : tq_C X cX7_readMore 2 RX7 5) (hR : tq_Rv X cX7_readMore 2 K) : ∀ (S : tq_St), wp_X7_readMore_41 K S → Go X 2 S 41 [(0, .ref ((tq_la X).1 28 0))] [] := by
  intro S hf
  refine go_aload_n (pc := 41) C dX7_readMore_41 0 rfl rfl ?_
  refine go_dup (pc := 42) C dX7_readMore_42 rfl ?_
  refine ge_X7_X7_4 (pc := 43) C dX7_readMore_43 ?_
  refine go_iconst (pc := 46) (v := 1) C dX7_readMore_46 (by decide) ?_
  refine go_iadd (pc := 47) C dX7_readMore_47 ?_
  refine pu_X7_X7_4 (pc := 48) C dX7_readMore_48 (fun S20 e21 => ?_)
  have hf := hf S20 e21
  refine go_goto (pc := 51) C dX7_readMore_51 105 (by decide) ?_
  exact hR _ _ _ dX7_readMore_105 hf
set_option maxRecDepth 100000 in
set_option maxHeartbeats 4000000 in
theorem wk_X7_readMore {X : tq_Cx} {p1 : Int32} {S : tq_St} {K : tq_St → Prop} (C : tq_C X cX7_readMore 2 RX7 5) (hR : tq_Rv X cX7_readMore 2 K) (hf : wp_X7_readMore p1 S K) : Go X 2 S 0 [(0, .ref ((tq_la X).1 28 0)), (1, .int p1)] [] := by
  refine go_iload_n (pc := 0) C dX7_readMore_0 1 rfl rfl ?_
  refine go_iconst (pc := 1) (v := 3) C dX7_readMore_1 (by decide) ?_
  refine go_ic_gt (pc := 2) C dX7_readMore_2 54 (by decide) (fun c1 => ?_) (fun c1 => ?_)
  · have hf := hf.1 c1
    refine go_iload_n (pc := 54) C dX7_readMore_54 1 rfl rfl ?_
    refine go_iconst (pc := 55) (v := 4) C dX7_readMore_55 (by decide) ?_
    refine go_ic_ne (pc := 56) C dX7_readMore_56 77 (by decide) (fun c2 => ?_) (fun c2 => ?_)
    · have hf := hf.1 c2
      refine go_iload_n (pc := 77) C dX7_readMore_77 1 rfl rfl ?_
      refine go_iconst (pc := 78) (v := 5) C dX7_readMore_78 (by decide) ?_
      refine go_ic_ne (pc := 79) C dX7_readMore_79 101 (by decide) (fun c3 => ?_) (fun c3 => ?_)
      · have hf := hf.1 c3
        refine go_aload_n (pc := 101) C dX7_readMore_101 0 rfl rfl ?_
        refine go_cVv (pc := 102) C cw_X7_104 (ok_X7_readPlan hf) (rc_X7 C) rfl rfl rfl (by decide) rfl dX7_readMore_102 (fun S5 hf => ?_)
        exact hR _ _ _ dX7_readMore_105 hf
      · have hf := hf.2 c3
        refine go_aload_n (pc := 82) C dX7_readMore_82 0 rfl rfl ?_
        refine ge_X7_X7_3 (pc := 83) C dX7_readMore_83 ?_
        refine go_bipush (pc := 86) (v := 18) C dX7_readMore_86 (by decide) ?_
        refine go_aload_n (pc := 88) C dX7_readMore_88 0 rfl rfl ?_
        refine go_iconst (pc := 89) (v := 1) C dX7_readMore_89 (by decide) ?_
        refine go_bipush (pc := 90) (v := 9) C dX7_readMore_90 (by decide) ?_
        refine go_cVi (pc := 92) C cw_X7_94 (ok_X7_number hf) (rc_X7 C) rfl rfl rfl (by decide) rfl dX7_readMore_92 (fun r7 S8 hf => ?_)
        refine go_iconst (pc := 95) (v := 4) C dX7_readMore_95 (by decide) ?_
        refine go_isub (pc := 96) C dX7_readMore_96 ?_
        refine as_X7_3 (pc := 97) C hf.1 dX7_readMore_97 (fun S10 e11 => ?_)
        have hf := hf.2 S10 e11
        refine go_goto (pc := 98) C dX7_readMore_98 105 (by decide) ?_
        exact hR _ _ _ dX7_readMore_105 hf
    · have hf := hf.2 c2
      refine go_aload_n (pc := 59) C dX7_readMore_59 0 rfl rfl ?_
      refine ge_X7_X7_3 (pc := 60) C dX7_readMore_60 ?_
      refine go_bipush (pc := 63) (v := 17) C dX7_readMore_63 (by decide) ?_
      refine go_aload_n (pc := 65) C dX7_readMore_65 0 rfl rfl ?_
      refine go_iconst (pc := 66) (v := 1) C dX7_readMore_66 (by decide) ?_
      refine go_iconst (pc := 67) (v := 5) C dX7_readMore_67 (by decide) ?_
      refine go_cVi (pc := 68) C cw_X7_94 (ok_X7_number hf) (rc_X7 C) rfl rfl rfl (by decide) rfl dX7_readMore_68 (fun r12 S13 hf => ?_)
      refine go_iconst (pc := 71) (v := 2) C dX7_readMore_71 (by decide) ?_
      refine go_isub (pc := 72) C dX7_readMore_72 ?_
      refine as_X7_3 (pc := 73) C hf.1 dX7_readMore_73 (fun S15 e16 => ?_)
      have hf := hf.2 S15 e16
      refine go_goto (pc := 74) C dX7_readMore_74 105 (by decide) ?_
      exact hR _ _ _ dX7_readMore_105 hf
  · have hf := hf.2 c1
    refine go_aload_n (pc := 5) C dX7_readMore_5 0 rfl rfl ?_
    refine ge_X7_X7_3 (pc := 6) C dX7_readMore_6 ?_
    refine go_aload_n (pc := 9) C dX7_readMore_9 0 rfl rfl ?_
    refine ge_X7_X7_4 (pc := 10) C dX7_readMore_10 ?_
    refine go_iload_n (pc := 13) C dX7_readMore_13 1 rfl rfl ?_
    refine as_X7_3 (pc := 14) C hf.1 dX7_readMore_14 (fun S17 e18 => ?_)
    have hf := hf.2 S17 e18
    refine go_aload_n (pc := 15) C dX7_readMore_15 0 rfl rfl ?_
    refine ge_X7_X7_14 (pc := 16) C dX7_readMore_16 ?_
    refine go_iconst (pc := 19) (v := 2) C dX7_readMore_19 (by decide) ?_
    refine go_ic_ne (pc := 20) C dX7_readMore_20 41 (by decide) (fun c19 => ?_) (fun c19 => ?_)
    · have hf := hf.1 c19
      exact go_sub [0] rfl (wk_X7_readMore_41 C hR _ hf)
    · have hf := hf.2 c19
      refine go_aload_n (pc := 23) C dX7_readMore_23 0 rfl rfl ?_
      refine ge_X7_X7_3 (pc := 24) C dX7_readMore_24 ?_
      refine go_iconst (pc := 27) (v := 5) C dX7_readMore_27 (by decide) ?_
      refine go_aload_n (pc := 28) C dX7_readMore_28 0 rfl rfl ?_
      refine ge_X7_X7_4 (pc := 29) C dX7_readMore_29 ?_
      refine go_iadd (pc := 32) C dX7_readMore_32 ?_
      refine go_aload_n (pc := 33) C dX7_readMore_33 0 rfl rfl ?_
      refine go_iconst (pc := 34) (v := 0) C dX7_readMore_34 (by decide) ?_
      refine go_bipush (pc := 35) (v := 40) C dX7_readMore_35 (by decide) ?_
      refine go_cVi (pc := 37) C cw_X7_94 (ok_X7_number hf) (rc_X7 C) rfl rfl rfl (by decide) rfl dX7_readMore_37 (fun r22 S23 hf => ?_)
      refine as_X7_3 (pc := 40) C hf.1 dX7_readMore_40 (fun S25 e26 => ?_)
      have hf := hf.2 S25 e26
      exact go_sub [0] rfl (wk_X7_readMore_41 C hR _ hf)
set_option maxRecDepth 100000 in
set_option maxHeartbeats 4000000 in
theorem ok_X7_readMore {p1 : Int32} {S : tq_St} {K : tq_St → Prop} (hf : wp_X7_readMore p1 S K) : tq_Mv yX7_readMore cX7_readMore 2 none 5 (fun a z => [.ref (a.1 28 0), .int p1]) S K :=
  tq_mkV (by decide) (fun _ _ => Nat.le_of_ble_eq_true rfl) (fun X C hR => wk_X7_readMore C hR  hf)
set_option maxRecDepth 100000 in
set_option maxHeartbeats 4000000 in
theorem wk_X7_readLine_112 {X : tq_Cx} {K : tq_St → Prop} (C : tq_C X cX7_readLine 2 RX7 6) (hR : tq_Rv X cX7_readLine 2 K) : ∀ (S : tq_St), wp_X7_readLine_112 K S → Go X 2 S 112 [(0, .ref ((tq_la X).1 28 0))] [] := by
  intro S hf
  refine go_aload_n (pc := 112) C dX7_readLine_112 0 rfl rfl ?_
  refine go_cVv (pc := 113) C cw_X7_91 (ok_X7_step hf) (rc_X7 C) rfl rfl rfl (by decide) rfl dX7_readLine_113 (fun S21 hf => ?_)
  exact hR _ _ _ dX7_readLine_116 hf
set_option maxRecDepth 100000 in
set_option maxHeartbeats 4000000 in
theorem wk_X7_readLine_63 {X : tq_Cx} {K : tq_St → Prop} (C : tq_C X cX7_readLine 2 RX7 6) (hR : tq_Rv X cX7_readLine 2 K) : ∀ (v1 : Int32) (S : tq_St), wp_X7_readLine_63 K v1 S → Go X 2 S 63 [(0, .ref ((tq_la X).1 28 0)), (1, .int v1)] [] := by
  intro v1 S hf
  refine go_aload_n (pc := 63) C dX7_readLine_63 0 rfl rfl ?_
  refine go_dup (pc := 64) C dX7_readLine_64 rfl ?_
  refine ge_X7_X7_5 (pc := 65) C dX7_readLine_65 ?_
  refine go_iconst (pc := 68) (v := 1) C dX7_readLine_68 (by decide) ?_
  refine go_iload_n (pc := 69) C dX7_readLine_69 1 rfl rfl ?_
  refine go_ishl (pc := 70) C dX7_readLine_70 ?_
  refine go_ior (pc := 71) C dX7_readLine_71 ?_
  refine pu_X7_X7_5 (pc := 72) C dX7_readLine_72 (fun S10 e11 => ?_)
  have hf := hf S10 e11
  refine go_aload_n (pc := 75) C dX7_readLine_75 0 rfl rfl ?_
  refine go_cVv (pc := 76) C cw_X7_91 (ok_X7_step hf) (rc_X7 C) rfl rfl rfl (by decide) rfl dX7_readLine_76 (fun S13 hf => ?_)
  refine go_aload_n (pc := 79) C dX7_readLine_79 0 rfl rfl ?_
  refine ge_X7_X7_10 (pc := 80) C dX7_readLine_80 ?_
  refine go_if_le (pc := 83) C dX7_readLine_83 87 (by decide) (fun c15 => ?_) (fun c15 => ?_)
  · have hf := hf.1 c15
    refine go_aload_n (pc := 87) C dX7_readLine_87 0 rfl rfl ?_
    refine go_iload_n (pc := 88) C dX7_readLine_88 1 rfl rfl ?_
    refine go_cVv (pc := 89) C cw_X7_116 (ok_X7_readMore hf) (rc_X7 C) rfl rfl rfl (by decide) rfl dX7_readLine_89 (fun S17 hf => ?_)
    refine go_aload_n (pc := 92) C dX7_readLine_92 0 rfl rfl ?_
    refine ge_X7_X7_10 (pc := 93) C dX7_readLine_93 ?_
    refine go_if_ne (pc := 96) C dX7_readLine_96 112 (by decide) (fun c19 => ?_) (fun c19 => ?_)
    · have hf := hf.1 c19
      exact go_sub [0] rfl (wk_X7_readLine_112 C hR _ hf)
    · have hf := hf.2 c19
      refine go_aload_n (pc := 99) C dX7_readLine_99 0 rfl rfl ?_
      refine ge_X7_X7_14 (pc := 100) C dX7_readLine_100 ?_
      refine go_iconst (pc := 103) (v := 3) C dX7_readLine_103 (by decide) ?_
      refine go_ic_eq (pc := 104) C dX7_readLine_104 112 (by decide) (fun c23 => ?_) (fun c23 => ?_)
      · have hf := hf.1 c23
        exact go_sub [0] rfl (wk_X7_readLine_112 C hR _ hf)
      · have hf := hf.2 c23
        refine go_aload_n (pc := 107) C dX7_readLine_107 0 rfl rfl ?_
        refine go_iconst (pc := 108) (v := 2) C dX7_readLine_108 (by decide) ?_
        refine go_cVv (pc := 109) C cw_X7_87 (ok_X7_fails hf) (rc_X7 C) rfl rfl rfl (by decide) rfl dX7_readLine_109 (fun S25 hf => ?_)
        exact go_sub [0] rfl (wk_X7_readLine_112 C hR _ hf)
  · have hf := hf.2 c15
    exact hR _ _ _ dX7_readLine_86 hf
set_option maxRecDepth 100000 in
set_option maxHeartbeats 4000000 in
theorem wk_X7_readLine_41 {X : tq_Cx} {K : tq_St → Prop} (C : tq_C X cX7_readLine 2 RX7 6) (hR : tq_Rv X cX7_readLine 2 K) : ∀ (v1 : Int32) (S : tq_St), wp_X7_readLine_41 K v1 S → Go X 2 S 41 [(0, .ref ((tq_la X).1 28 0)), (1, .int v1)] [] := by
  intro v1 S hf
  refine go_iload_n (pc := 41) C dX7_readLine_41 1 rfl rfl ?_
  refine go_iconst (pc := 42) (v := 4) C dX7_readLine_42 (by decide) ?_
  refine go_ic_lt (pc := 43) C dX7_readLine_43 63 (by decide) (fun c9 => ?_) (fun c9 => ?_)
  · have hf := hf.1 c9
    exact go_sub [0, 1] rfl (wk_X7_readLine_63 C hR _ _ hf)
  · have hf := hf.2 c9
    refine go_aload_n (pc := 46) C dX7_readLine_46 0 rfl rfl ?_
    refine ge_X7_X7_5 (pc := 47) C dX7_readLine_47 ?_
    refine go_iload_n (pc := 50) C dX7_readLine_50 1 rfl rfl ?_
    refine go_ishr (pc := 51) C dX7_readLine_51 ?_
    refine go_iconst (pc := 52) (v := 1) C dX7_readLine_52 (by decide) ?_
    refine go_iand (pc := 53) C dX7_readLine_53 ?_
    refine go_iconst (pc := 54) (v := 1) C dX7_readLine_54 (by decide) ?_
    refine go_ic_ne (pc := 55) C dX7_readLine_55 63 (by decide) (fun c27 => ?_) (fun c27 => ?_)
    · have hf := hf.1 c27
      exact go_sub [0, 1] rfl (wk_X7_readLine_63 C hR _ _ hf)
    · have hf := hf.2 c27
      refine go_aload_n (pc := 58) C dX7_readLine_58 0 rfl rfl ?_
      refine go_iconst (pc := 59) (v := 4) C dX7_readLine_59 (by decide) ?_
      refine go_cVv (pc := 60) C cw_X7_87 (ok_X7_fails hf) (rc_X7 C) rfl rfl rfl (by decide) rfl dX7_readLine_60 (fun S29 hf => ?_)
      exact go_sub [0, 1] rfl (wk_X7_readLine_63 C hR _ _ hf)
set_option maxRecDepth 100000 in
set_option maxHeartbeats 4000000 in
theorem wk_X7_readLine {X : tq_Cx} {S : tq_St} {K : tq_St → Prop} (C : tq_C X cX7_readLine 2 RX7 6) (hR : tq_Rv X cX7_readLine 2 K) (hf : wp_X7_readLine S K) : Go X 2 S 0 [(0, .ref ((tq_la X).1 28 0))] [] := by
  refine go_aload_n (pc := 0) C dX7_readLine_0 0 rfl rfl ?_
  refine go_cVi (pc := 1) C cw_X7_107 (ok_X7_nameHere hf) (rc_X7 C) rfl rfl rfl (by decide) rfl dX7_readLine_1 (fun r1 S2 hf => ?_)
  refine go_istore_n (pc := 4) C dX7_readLine_4 [(1, .int r1), (0, .ref ((tq_la X).1 28 0))] rfl (by decide) rfl ?_
  refine go_iload_n (pc := 5) C dX7_readLine_5 0 rfl rfl ?_
  refine go_i2l (pc := 6) C dX7_readLine_6 ?_
  refine go_lconst (pc := 7) (v := 0) C dX7_readLine_7 (by decide) ?_
  refine go_ldc2 (pc := 8) C kl_X7_111 dX7_readLine_8 ?_
  refine go_cSi (pc := 11) C cs_X7_49 (ok_X7_in hf) rfl rfl rfl (by decide) rfl dX7_readLine_11 (fun r4 S5 hf => ?_)
  refine go_if_ne (pc := 14) C dX7_readLine_14 23 (by decide) (fun c7 => ?_) (fun c7 => ?_)
  · have hf := hf.1 c7
    refine go_iload_n (pc := 23) C dX7_readLine_23 0 rfl rfl ?_
    refine go_iconst (pc := 24) (v := 3) C dX7_readLine_24 (by decide) ?_
    refine go_ic_gt (pc := 25) C dX7_readLine_25 41 (by decide) (fun c8 => ?_) (fun c8 => ?_)
    · have hf := hf.1 c8
      exact go_sub [1, 0] rfl (wk_X7_readLine_41 C hR _ _ hf)
    · have hf := hf.2 c8
      refine go_aload_n (pc := 28) C dX7_readLine_28 1 rfl rfl ?_
      refine ge_X7_X7_4 (pc := 29) C dX7_readLine_29 ?_
      refine go_iconst (pc := 32) (v := 5) C dX7_readLine_32 (by decide) ?_
      refine go_ic_ne (pc := 33) C dX7_readLine_33 41 (by decide) (fun c31 => ?_) (fun c31 => ?_)
      · have hf := hf.1 c31
        exact go_sub [1, 0] rfl (wk_X7_readLine_41 C hR _ _ hf)
      · have hf := hf.2 c31
        refine go_aload_n (pc := 36) C dX7_readLine_36 1 rfl rfl ?_
        refine go_iconst (pc := 37) (v := 5) C dX7_readLine_37 (by decide) ?_
        refine go_cVv (pc := 38) C cw_X7_87 (ok_X7_fails hf) (rc_X7 C) rfl rfl rfl (by decide) rfl dX7_readLine_38 (fun S33 hf => ?_)
        exact go_sub [1, 0] rfl (wk_X7_readLine_41 C hR _ _ hf)
  · have hf := hf.2 c7
    refine go_aload_n (pc := 17) C dX7_readLine_17 1 rfl rfl ?_
    refine go_iconst (pc := 18) (v := 2) C dX7_readLine_18 (by decide) ?_
    refine go_cVv (pc := 19) C cw_X7_87 (ok_X7_fails hf) (rc_X7 C) rfl rfl rfl (by decide) rfl dX7_readLine_19 (fun S36 hf => ?_)
    exact hR _ _ _ dX7_readLine_22 hf
set_option maxRecDepth 100000 in
set_option maxHeartbeats 4000000 in
theorem ok_X7_readLine {S : tq_St} {K : tq_St → Prop} (hf : wp_X7_readLine S K) : tq_Mv yX7_readLine cX7_readLine 2 none 6 (fun a z => [.ref (a.1 28 0)]) S K :=
  tq_mkV (by decide) (fun _ _ => Nat.le_of_ble_eq_true rfl) (fun X C hR => wk_X7_readLine C hR  hf)
set_option maxRecDepth 100000 in
set_option maxHeartbeats 4000000 in
theorem wk_X7_room {X : tq_Cx} {p1 : Int32} {S : tq_St} {K : Int32 → tq_St → Prop} (C : tq_C X cX7_room 2 RX7 2) (hR : tq_Ri X cX7_room 2 K) (hf : wp_X7_room p1 S K) : Go X 2 S 0 [(0, .ref ((tq_la X).1 28 0)), (1, .int p1)] [] := by
  refine go_aload_n (pc := 0) C dX7_room_0 0 rfl rfl ?_
  refine go_iload_n (pc := 1) C dX7_room_1 1 rfl rfl ?_
  refine go_i2l (pc := 2) C dX7_room_2 ?_
  refine go_lconst (pc := 3) (v := 1) C dX7_room_3 (by decide) ?_
  refine go_ldc2 (pc := 4) C kl_X7_175 dX7_room_4 ?_
  refine go_cSi (pc := 7) C cs_X7_49 (ok_X7_in hf) rfl rfl rfl (by decide) rfl dX7_room_7 (fun r1 S2 hf => ?_)
  refine go_bipush (pc := 10) (v := 17) C dX7_room_10 (by decide) ?_
  refine go_iload_n (pc := 12) C dX7_room_12 1 rfl rfl ?_
  refine go_iconst (pc := 13) (v := 2) C dX7_room_13 (by decide) ?_
  refine go_cVi (pc := 14) C cw_X7_171 (ok_X7_puts hf) (rc_X7 C) rfl rfl rfl (by decide) rfl dX7_room_14 (fun r4 S5 hf => ?_)
  exact hR _ _ _ _ dX7_room_17 hf
set_option maxRecDepth 100000 in
set_option maxHeartbeats 4000000 in
theorem ok_X7_room {p1 : Int32} {S : tq_St} {K : Int32 → tq_St → Prop} (hf : wp_X7_room p1 S K) : tq_Mi yX7_room cX7_room 2 (some .int) 2 (fun a z => [.ref (a.1 28 0), .int p1]) S K :=
  tq_mkI (by decide) (fun _ _ => Nat.le_of_ble_eq_true rfl) (fun X C hR => wk_X7_room C hR  hf)
set_option maxRecDepth 100000 in
set_option maxHeartbeats 4000000 in
theorem wk_X7_rule {X : tq_Cx} {p1 : Int32} {S : tq_St} {K : Int32 → tq_St → Prop} (C : tq_C X cX7_rule 2 RX7 3) (hR : tq_Ri X cX7_rule 2 K) (hf : wp_X7_rule p1 S K) : Go X 2 S 0 [(0, .ref ((tq_la X).1 28 0)), (1, .int p1)] [] := by
  refine go_iload_n (pc := 0) C dX7_rule_0 1 rfl rfl ?_
  rcases tq_sw (x := p1) (0) (6) with c1 | c1
  · have hf := hf.1 c1
    refine go_tabOut (pc := 1) C dX7_rule_1 97 (by decide) c1 ?_
    refine go_iconst (pc := 97) (v := (-1)) C dX7_rule_97 (by decide) ?_
    exact hR _ _ _ _ dX7_rule_98 hf
  · have c1 := tq_lt7 c1
    rcases c1 with c1 | c1 | c1 | c1 | c1 | c1 | c1
    · have hf := hf.2.1 c1
      refine go_tabIn (pc := 1) C dX7_rule_1 44 (43) (by decide) (by rw [c1]; decide) (by rw [c1]; decide) (by rw [c1]; rfl) ?_
      refine go_aload_n (pc := 44) C dX7_rule_44 0 rfl rfl ?_
      refine ge_X7_X7_2 (pc := 45) C dX7_rule_45 ?_
      exact hR _ _ _ _ dX7_rule_48 hf
    · have hf := hf.2.2.1 c1
      refine go_tabIn (pc := 1) C dX7_rule_1 49 (48) (by decide) (by rw [c1]; decide) (by rw [c1]; decide) (by rw [c1]; rfl) ?_
      refine go_aload_n (pc := 49) C dX7_rule_49 0 rfl rfl ?_
      refine ge_X7_X7_0 (pc := 50) C dX7_rule_50 ?_
      refine go_bipush (pc := 53) (v := 16) C dX7_rule_53 (by decide) ?_
      refine al_X7_0 (pc := 55) C hf.1 dX7_rule_55 ?_
      have hf := hf.2
      exact hR _ _ _ _ dX7_rule_56 hf
    · have hf := hf.2.2.2.1 c1
      refine go_tabIn (pc := 1) C dX7_rule_1 57 (56) (by decide) (by rw [c1]; decide) (by rw [c1]; decide) (by rw [c1]; rfl) ?_
      refine go_aload_n (pc := 57) C dX7_rule_57 0 rfl rfl ?_
      refine ge_X7_X7_0 (pc := 58) C dX7_rule_58 ?_
      refine go_bipush (pc := 61) (v := 17) C dX7_rule_61 (by decide) ?_
      refine al_X7_0 (pc := 63) C hf.1 dX7_rule_63 ?_
      have hf := hf.2
      refine go_iconst (pc := 64) (v := 2) C dX7_rule_64 (by decide) ?_
      refine go_iadd (pc := 65) C dX7_rule_65 ?_
      exact hR _ _ _ _ dX7_rule_66 hf
    · have hf := hf.2.2.2.2.1 c1
      refine go_tabIn (pc := 1) C dX7_rule_1 67 (66) (by decide) (by rw [c1]; decide) (by rw [c1]; decide) (by rw [c1]; rfl) ?_
      refine go_aload_n (pc := 67) C dX7_rule_67 0 rfl rfl ?_
      refine ge_X7_X7_0 (pc := 68) C dX7_rule_68 ?_
      refine go_bipush (pc := 71) (v := 18) C dX7_rule_71 (by decide) ?_
      refine al_X7_0 (pc := 73) C hf.1 dX7_rule_73 ?_
      have hf := hf.2
      refine go_iconst (pc := 74) (v := 4) C dX7_rule_74 (by decide) ?_
      refine go_iadd (pc := 75) C dX7_rule_75 ?_
      exact hR _ _ _ _ dX7_rule_76 hf
    · have hf := hf.2.2.2.2.2.1 c1
      refine go_tabIn (pc := 1) C dX7_rule_1 77 (76) (by decide) (by rw [c1]; decide) (by rw [c1]; decide) (by rw [c1]; rfl) ?_
      refine go_aload_n (pc := 77) C dX7_rule_77 0 rfl rfl ?_
      refine ge_X7_X7_0 (pc := 78) C dX7_rule_78 ?_
      refine go_bipush (pc := 81) (v := 27) C dX7_rule_81 (by decide) ?_
      refine al_X7_0 (pc := 83) C hf.1 dX7_rule_83 ?_
      have hf := hf.2
      exact hR _ _ _ _ dX7_rule_84 hf
    · have hf := hf.2.2.2.2.2.2.1 c1
      refine go_tabIn (pc := 1) C dX7_rule_1 85 (84) (by decide) (by rw [c1]; decide) (by rw [c1]; decide) (by rw [c1]; rfl) ?_
      refine go_aload_n (pc := 85) C dX7_rule_85 0 rfl rfl ?_
      refine go_iconst (pc := 86) (v := 0) C dX7_rule_86 (by decide) ?_
      refine go_cVi (pc := 87) C cw_X7_152 (ok_X7_waitingOn hf) (rc_X7 C) rfl rfl rfl (by decide) rfl dX7_rule_87 (fun r2 S3 hf => ?_)
      exact hR _ _ _ _ dX7_rule_90 hf
    · have hf := hf.2.2.2.2.2.2.2 c1
      refine go_tabIn (pc := 1) C dX7_rule_1 91 (90) (by decide) (by rw [c1]; decide) (by rw [c1]; decide) (by rw [c1]; rfl) ?_
      refine go_aload_n (pc := 91) C dX7_rule_91 0 rfl rfl ?_
      refine go_iconst (pc := 92) (v := 0) C dX7_rule_92 (by decide) ?_
      refine go_cVi (pc := 93) C cw_X7_155 (ok_X7_sorrowOn hf) (rc_X7 C) rfl rfl rfl (by decide) rfl dX7_rule_93 (fun r5 S6 hf => ?_)
      exact hR _ _ _ _ dX7_rule_96 hf
set_option maxRecDepth 100000 in
set_option maxHeartbeats 4000000 in
theorem ok_X7_rule {p1 : Int32} {S : tq_St} {K : Int32 → tq_St → Prop} (hf : wp_X7_rule p1 S K) : tq_Mi yX7_rule cX7_rule 2 (some .int) 3 (fun a z => [.ref (a.1 28 0), .int p1]) S K :=
  tq_mkI (by decide) (fun _ _ => Nat.le_of_ble_eq_true rfl) (fun X C hR => wk_X7_rule C hR  hf)
set_option maxRecDepth 100000 in
set_option maxHeartbeats 4000000 in
theorem wk_X7_runs {X : tq_Cx} {p1 : Int32} {S : tq_St} {K : Int32 → tq_St → Prop} (C : tq_C X cX7_runs 2 RX7 6) (hR : tq_Ri X cX7_runs 2 K) (hf : wp_X7_runs p1 S K) : Go X 2 S 0 [(0, .ref ((tq_la X).1 28 0)), (1, .int p1)] [] := by
  refine go_iload_n (pc := 0) C dX7_runs_0 1 rfl rfl ?_
  refine go_i2l (pc := 1) C dX7_runs_1 ?_
  refine go_lconst (pc := 2) (v := 0) C dX7_runs_2 (by decide) ?_
  refine go_ldc2 (pc := 3) C kl_X7_165 dX7_runs_3 ?_
  refine go_cSi (pc := 6) C cs_X7_49 (ok_X7_in hf) rfl rfl rfl (by decide) rfl dX7_runs_6 (fun r1 S2 hf => ?_)
  refine go_if_ne (pc := 9) C dX7_runs_9 14 (by decide) (fun c4 => ?_) (fun c4 => ?_)
  · have hf := hf.1 c4
    refine go_aload_n (pc := 14) C dX7_runs_14 0 rfl rfl ?_
    refine go_iconst (pc := 15) (v := 0) C dX7_runs_15 (by decide) ?_
    refine go_iconst (pc := 16) (v := 0) C dX7_runs_16 (by decide) ?_
    refine go_cVv (pc := 17) C cw_X7_214 (ok_X7_planGoes hf) (rc_X7 C) rfl rfl rfl (by decide) rfl dX7_runs_17 (fun S6 hf => ?_)
    refine go_iload_n (pc := 20) C dX7_runs_20 1 rfl rfl ?_
    rcases tq_sw (x := p1) (0) (3) with c8 | c8
    · have hf := hf.1 c8
      refine go_tabOut (pc := 21) C dX7_runs_21 75 (by decide) c8 ?_
      refine go_aload_n (pc := 75) C dX7_runs_75 0 rfl rfl ?_
      refine go_bipush (pc := 76) (v := 112) C dX7_runs_76 (by decide) ?_
      refine go_cVi (pc := 78) C cw_X7_155 (ok_X7_sorrowOn hf) (rc_X7 C) rfl rfl rfl (by decide) rfl dX7_runs_78 (fun r9 S10 hf => ?_)
      exact hR _ _ _ _ dX7_runs_81 hf
    · have c8 := tq_lt4 c8
      rcases c8 with c8 | c8 | c8 | c8
      · have hf := hf.2.1 c8
        refine go_tabIn (pc := 21) C dX7_runs_21 52 (31) (by decide) (by rw [c8]; decide) (by rw [c8]; decide) (by rw [c8]; rfl) ?_
        refine go_aload_n (pc := 52) C dX7_runs_52 0 rfl rfl ?_
        refine ge_X7_X7_0 (pc := 53) C dX7_runs_53 ?_
        refine go_bipush (pc := 56) (v := 127) C dX7_runs_56 (by decide) ?_
        refine al_X7_0 (pc := 58) C hf.1 dX7_runs_58 ?_
        have hf := hf.2
        exact hR _ _ _ _ dX7_runs_59 hf
      · have hf := hf.2.2.1 c8
        refine go_tabIn (pc := 21) C dX7_runs_21 60 (39) (by decide) (by rw [c8]; decide) (by rw [c8]; decide) (by rw [c8]; rfl) ?_
        refine go_aload_n (pc := 60) C dX7_runs_60 0 rfl rfl ?_
        refine ge_X7_X7_18 (pc := 61) C dX7_runs_61 ?_
        exact hR _ _ _ _ dX7_runs_64 hf
      · have hf := hf.2.2.2.1 c8
        refine go_tabIn (pc := 21) C dX7_runs_21 65 (44) (by decide) (by rw [c8]; decide) (by rw [c8]; decide) (by rw [c8]; rfl) ?_
        refine go_aload_n (pc := 65) C dX7_runs_65 0 rfl rfl ?_
        refine ge_X7_X7_19 (pc := 66) C dX7_runs_66 ?_
        exact hR _ _ _ _ dX7_runs_69 hf
      · have hf := hf.2.2.2.2 c8
        refine go_tabIn (pc := 21) C dX7_runs_21 70 (49) (by decide) (by rw [c8]; decide) (by rw [c8]; decide) (by rw [c8]; rfl) ?_
        refine go_aload_n (pc := 70) C dX7_runs_70 0 rfl rfl ?_
        refine ge_X7_X7_20 (pc := 71) C dX7_runs_71 ?_
        exact hR _ _ _ _ dX7_runs_74 hf
  · have hf := hf.2 c4
    refine go_iconst (pc := 12) (v := (-1)) C dX7_runs_12 (by decide) ?_
    exact hR _ _ _ _ dX7_runs_13 hf
set_option maxRecDepth 100000 in
set_option maxHeartbeats 4000000 in
theorem ok_X7_runs {p1 : Int32} {S : tq_St} {K : Int32 → tq_St → Prop} (hf : wp_X7_runs p1 S K) : tq_Mi yX7_runs cX7_runs 2 (some .int) 6 (fun a z => [.ref (a.1 28 0), .int p1]) S K :=
  tq_mkI (by decide) (fun _ _ => Nat.le_of_ble_eq_true rfl) (fun X C hR => wk_X7_runs C hR  hf)
set_option maxRecDepth 100000 in
set_option maxHeartbeats 4000000 in
theorem wk_X7_second {X : tq_Cx} {S : tq_St} {K : Int32 → tq_St → Prop} (C : tq_C X cX7_second 2 RX7 2) (hR : tq_Ri X cX7_second 2 K) (hf : wp_X7_second S K) : Go X 2 S 0 [(0, .ref ((tq_la X).1 28 0))] [] := by
  refine go_aload_n (pc := 0) C dX7_second_0 0 rfl rfl ?_
  refine ge_X7_X7_0 (pc := 1) C dX7_second_1 ?_
  refine go_bipush (pc := 4) (v := 15) C dX7_second_4 (by decide) ?_
  refine al_X7_0 (pc := 6) C hf.1 dX7_second_6 ?_
  have hf := hf.2
  refine go_cSi (pc := 7) C cs_X7_193 (ok_X7_bitsOf hf) rfl rfl rfl (by decide) rfl dX7_second_7 (fun r1 S2 hf => ?_)
  refine go_istore_n (pc := 10) C dX7_second_10 [(1, .int r1), (0, .ref ((tq_la X).1 28 0))] rfl (by decide) rfl ?_
  refine go_aload_n (pc := 11) C dX7_second_11 1 rfl rfl ?_
  refine ge_X7_X7_0 (pc := 12) C dX7_second_12 ?_
  refine go_bipush (pc := 15) (v := 15) C dX7_second_15 (by decide) ?_
  refine go_iconst (pc := 17) (v := 0) C dX7_second_17 (by decide) ?_
  refine as_X7_0 (pc := 18) C hf.1 dX7_second_18 (fun S4 e5 => ?_)
  have hf := hf.2 S4 e5
  refine go_iload_n (pc := 19) C dX7_second_19 0 rfl rfl ?_
  exact hR _ _ _ _ dX7_second_20 hf
set_option maxRecDepth 100000 in
set_option maxHeartbeats 4000000 in
theorem ok_X7_second {S : tq_St} {K : Int32 → tq_St → Prop} (hf : wp_X7_second S K) : tq_Mi yX7_second cX7_second 2 (some .int) 2 (fun a z => [.ref (a.1 28 0)]) S K :=
  tq_mkI (by decide) (fun _ _ => Nat.le_of_ble_eq_true rfl) (fun X C hR => wk_X7_second C hR  hf)
set_option maxRecDepth 100000 in
set_option maxHeartbeats 4000000 in
theorem wk_X7_see_55 {X : tq_Cx} {K : Int32 → tq_St → Prop} (C : tq_C X cX7_see 3 RX7 3) (hR : tq_Ri X cX7_see 3 K) : ∀ (w1 : Int32) (w2 : Int32) (S : tq_St), wp_X7_see_55 K w1 w2 S → Go X 3 S 55 [(0, .ref ((tq_la X).1 28 0))] [.int w2, .int w1, .ref ((tq_la X).1 28 22)] := by
  intro w1 w2 S hf
  refine as_X7_21 (pc := 55) C hf.1 dX7_see_55 (fun S9 e10 => ?_)
  have hf := hf.2 S9 e10
  refine go_aload_n (pc := 56) C dX7_see_56 0 rfl rfl ?_
  refine go_dup (pc := 57) C dX7_see_57 rfl ?_
  refine ge_X7_X7_22 (pc := 58) C dX7_see_58 ?_
  refine go_iconst (pc := 61) (v := 1) C dX7_see_61 (by decide) ?_
  refine go_iadd (pc := 62) C dX7_see_62 ?_
  refine pu_X7_X7_22 (pc := 63) C dX7_see_63 (fun S11 e12 => ?_)
  have hf := hf S11 e12
  refine go_aload_n (pc := 66) C dX7_see_66 0 rfl rfl ?_
  refine ge_X7_X7_22 (pc := 67) C dX7_see_67 ?_
  exact hR _ _ _ _ dX7_see_70 hf
set_option maxRecDepth 100000 in
set_option maxHeartbeats 4000000 in
theorem wk_X7_see {X : tq_Cx} {p1 : Int32} {p2 : Int32} {S : tq_St} {K : Int32 → tq_St → Prop} (C : tq_C X cX7_see 3 RX7 3) (hR : tq_Ri X cX7_see 3 K) (hf : wp_X7_see p1 p2 S K) : Go X 3 S 0 [(0, .ref ((tq_la X).1 28 0)), (1, .int p1), (2, .int p2)] [] := by
  refine go_aload_n (pc := 0) C dX7_see_0 0 rfl rfl ?_
  refine go_iload_n (pc := 1) C dX7_see_1 1 rfl rfl ?_
  refine go_cVi (pc := 2) C cw_X7_158 (ok_X7_isOne hf) (rc_X7 C) rfl rfl rfl (by decide) rfl dX7_see_2 (fun r1 S2 hf => ?_)
  refine go_if_ne (pc := 5) C dX7_see_5 10 (by decide) (fun c4 => ?_) (fun c4 => ?_)
  · have hf := hf.1 c4
    refine go_aload_n (pc := 10) C dX7_see_10 0 rfl rfl ?_
    refine ge_X7_X7_22 (pc := 11) C dX7_see_11 ?_
    refine go_bipush (pc := 14) (v := 6) C dX7_see_14 (by decide) ?_
    refine go_ic_ne (pc := 16) C dX7_see_16 22 (by decide) (fun c5 => ?_) (fun c5 => ?_)
    · have hf := hf.1 c5
      refine go_aload_n (pc := 22) C dX7_see_22 0 rfl rfl ?_
      refine ge_X7_X7_21 (pc := 23) C dX7_see_23 ?_
      refine go_iconst (pc := 26) (v := 2) C dX7_see_26 (by decide) ?_
      refine go_aload_n (pc := 27) C dX7_see_27 0 rfl rfl ?_
      refine ge_X7_X7_22 (pc := 28) C dX7_see_28 ?_
      refine go_imul (pc := 31) C dX7_see_31 ?_
      refine go_iload_n (pc := 32) C dX7_see_32 1 rfl rfl ?_
      refine as_X7_21 (pc := 33) C hf.1 dX7_see_33 (fun S6 e7 => ?_)
      have hf := hf.2 S6 e7
      refine go_aload_n (pc := 34) C dX7_see_34 0 rfl rfl ?_
      refine ge_X7_X7_21 (pc := 35) C dX7_see_35 ?_
      refine go_iconst (pc := 38) (v := 2) C dX7_see_38 (by decide) ?_
      refine go_aload_n (pc := 39) C dX7_see_39 0 rfl rfl ?_
      refine ge_X7_X7_22 (pc := 40) C dX7_see_40 ?_
      refine go_imul (pc := 43) C dX7_see_43 ?_
      refine go_iconst (pc := 44) (v := 1) C dX7_see_44 (by decide) ?_
      refine go_iadd (pc := 45) C dX7_see_45 ?_
      refine go_iload_n (pc := 46) C dX7_see_46 2 rfl rfl ?_
      refine go_if_eq (pc := 47) C dX7_see_47 54 (by decide) (fun c8 => ?_) (fun c8 => ?_)
      · have hf := hf.1 c8
        refine go_iconst (pc := 54) (v := 0) C dX7_see_54 (by decide) ?_
        exact go_sub [0] rfl (wk_X7_see_55 C hR _ _ _ hf)
      · have hf := hf.2 c8
        refine go_iconst (pc := 50) (v := 1) C dX7_see_50 (by decide) ?_
        refine go_goto (pc := 51) C dX7_see_51 55 (by decide) ?_
        exact go_sub [0] rfl (wk_X7_see_55 C hR _ _ _ hf)
    · have hf := hf.2 c5
      refine go_bipush (pc := 19) (v := (-3)) C dX7_see_19 (by decide) ?_
      exact hR _ _ _ _ dX7_see_21 hf
  · have hf := hf.2 c4
    refine go_iconst (pc := 8) (v := (-1)) C dX7_see_8 (by decide) ?_
    exact hR _ _ _ _ dX7_see_9 hf
set_option maxRecDepth 100000 in
set_option maxHeartbeats 4000000 in
theorem ok_X7_see {p1 : Int32} {p2 : Int32} {S : tq_St} {K : Int32 → tq_St → Prop} (hf : wp_X7_see p1 p2 S K) : tq_Mi yX7_see cX7_see 3 (some .int) 3 (fun a z => [.ref (a.1 28 0), .int p1, .int p2]) S K :=
  tq_mkI (by decide) (fun _ _ => Nat.le_of_ble_eq_true rfl) (fun X C hR => wk_X7_see C hR  hf)
set_option maxRecDepth 100000 in
set_option maxHeartbeats 4000000 in
theorem wk_X7_sheet_56 {X : tq_Cx} {K : Int32 → tq_St → Prop} (C : tq_C X cX7_sheet 5 RX7 2) (hR : tq_Ri X cX7_sheet 5 K) : ∀ (n : Nat) (v1 : Int32) (v4 : Int32) (S : tq_St), wp_X7_sheet_56 K n v1 v4 S → Go X 5 S 56 [(0, .ref ((tq_la X).1 28 0)), (1, .int v1), (4, .int v4)] [] := by
  intro n
  induction n with
  | zero => intros; contradiction
  | succ n ih =>
    intro v1 v4 S hf
    refine go_iload (pc := 56) C dX7_sheet_56 2 rfl ?_
    refine go_bipush (pc := 58) (v := 40) C dX7_sheet_58 (by decide) ?_
    refine go_ic_ge (pc := 60) C dX7_sheet_60 82 (by decide) (fun c15 => ?_) (fun c15 => ?_)
    · have hf := hf.1 c15
      refine go_iconst (pc := 82) (v := 1) C dX7_sheet_82 (by decide) ?_
      exact hR _ _ _ _ dX7_sheet_83 hf
    · have hf := hf.2 c15
      refine go_aload_n (pc := 63) C dX7_sheet_63 0 rfl rfl ?_
      refine ge_X7_X7_27 (pc := 64) C dX7_sheet_64 ?_
      refine go_bipush (pc := 67) (v := 40) C dX7_sheet_67 (by decide) ?_
      refine go_iload_n (pc := 69) C dX7_sheet_69 1 rfl rfl ?_
      refine go_imul (pc := 70) C dX7_sheet_70 ?_
      refine go_iload (pc := 71) C dX7_sheet_71 2 rfl ?_
      refine go_iadd (pc := 73) C dX7_sheet_73 ?_
      refine go_iconst (pc := 74) (v := 0) C dX7_sheet_74 (by decide) ?_
      refine as_X7_27 (pc := 75) C hf.1 dX7_sheet_75 (fun S16 e17 => ?_)
      have hf := hf.2 S16 e17
      obtain ⟨x18, e19⟩ : ∃ q9 : Int32, q9 = v4 + 1 := ⟨_, rfl⟩
      refine go_iinc (pc := 76) (j := 2) (v := x18) C dX7_sheet_76 [(4, .int x18), (0, .ref ((tq_la X).1 28 0)), (1, .int v1)] rfl (by rw [e19]; rfl) (by decide) rfl ?_
      have hf := hf x18 e19
      refine go_goto (pc := 79) C dX7_sheet_79 56 (by decide) ?_
      exact go_sub [1, 2, 0] rfl (ih _ _ _ hf)
set_option maxRecDepth 100000 in
set_option maxHeartbeats 4000000 in
theorem wk_X7_sheet {X : tq_Cx} {p1 : Int32} {p2 : Int32} {p3 : Int32} {S : tq_St} {K : Int32 → tq_St → Prop} (C : tq_C X cX7_sheet 5 RX7 2) (hR : tq_Ri X cX7_sheet 5 K) (hf : wp_X7_sheet p1 p2 p3 S K) : Go X 5 S 0 [(0, .ref ((tq_la X).1 28 0)), (1, .int p1), (2, .int p2), (3, .int p3)] [] := by
  refine go_iload_n (pc := 0) C dX7_sheet_0 1 rfl rfl ?_
  refine go_i2l (pc := 1) C dX7_sheet_1 ?_
  refine go_lconst (pc := 2) (v := 0) C dX7_sheet_2 (by decide) ?_
  refine go_ldc2 (pc := 3) C kl_X7_167 dX7_sheet_3 ?_
  refine go_cSi (pc := 6) C cs_X7_49 (ok_X7_in hf) rfl rfl rfl (by decide) rfl dX7_sheet_6 (fun r1 S2 hf => ?_)
  refine go_if_eq (pc := 9) C dX7_sheet_9 30 (by decide) (fun c4 => ?_) (fun c4 => ?_)
  · have hf := hf.1 c4
    refine go_iconst (pc := 30) (v := (-1)) C dX7_sheet_30 (by decide) ?_
    exact hR _ _ _ _ dX7_sheet_31 hf
  · have hf := hf.2 c4
    refine go_iload_n (pc := 12) C dX7_sheet_12 2 rfl rfl ?_
    refine go_i2l (pc := 13) C dX7_sheet_13 ?_
    refine go_lconst (pc := 14) (v := 0) C dX7_sheet_14 (by decide) ?_
    refine go_ldc2 (pc := 15) C kl_X7_255 dX7_sheet_15 ?_
    refine go_cSi (pc := 18) C cs_X7_49 (ok_X7_in hf) rfl rfl rfl (by decide) rfl dX7_sheet_18 (fun r5 S6 hf => ?_)
    refine go_if_eq (pc := 21) C dX7_sheet_21 30 (by decide) (fun c8 => ?_) (fun c8 => ?_)
    · have hf := hf.1 c8
      refine go_iconst (pc := 30) (v := (-1)) C dX7_sheet_30 (by decide) ?_
      exact hR _ _ _ _ dX7_sheet_31 hf
    · have hf := hf.2 c8
      refine go_iload_n (pc := 24) C dX7_sheet_24 3 rfl rfl ?_
      refine go_bipush (pc := 25) (v := 40) C dX7_sheet_25 (by decide) ?_
      refine go_ic_le (pc := 27) C dX7_sheet_27 32 (by decide) (fun c9 => ?_) (fun c9 => ?_)
      · have hf := hf.1 c9
        refine go_iload_n (pc := 32) C dX7_sheet_32 3 rfl rfl ?_
        refine go_if_ge (pc := 33) C dX7_sheet_33 39 (by decide) (fun c10 => ?_) (fun c10 => ?_)
        · have hf := hf.1 c10
          refine go_aload_n (pc := 39) C dX7_sheet_39 0 rfl rfl ?_
          refine ge_X7_X7_25 (pc := 40) C dX7_sheet_40 ?_
          refine go_iload_n (pc := 43) C dX7_sheet_43 1 rfl rfl ?_
          refine go_iload_n (pc := 44) C dX7_sheet_44 2 rfl rfl ?_
          refine as_X7_25 (pc := 45) C hf.1 dX7_sheet_45 (fun S11 e12 => ?_)
          have hf := hf.2 S11 e12
          refine go_aload_n (pc := 46) C dX7_sheet_46 0 rfl rfl ?_
          refine ge_X7_X7_26 (pc := 47) C dX7_sheet_47 ?_
          refine go_iload_n (pc := 50) C dX7_sheet_50 1 rfl rfl ?_
          refine go_iload_n (pc := 51) C dX7_sheet_51 3 rfl rfl ?_
          refine as_X7_26 (pc := 52) C hf.1 dX7_sheet_52 (fun S13 e14 => ?_)
          have hf := hf.2 S13 e14
          refine go_iconst (pc := 53) (v := 0) C dX7_sheet_53 (by decide) ?_
          refine go_istore (pc := 54) C dX7_sheet_54 [(4, .int 0), (0, .ref ((tq_la X).1 28 0)), (1, .int p1), (2, .int p2), (3, .int p3)] (by decide) rfl ?_
          exact go_sub [1, 2, 0] rfl (wk_X7_sheet_56 C hR 2000 _ _ _ hf)
        · have hf := hf.2 c10
          refine go_bipush (pc := 36) (v := (-14)) C dX7_sheet_36 (by decide) ?_
          exact hR _ _ _ _ dX7_sheet_38 hf
      · have hf := hf.2 c9
        refine go_iconst (pc := 30) (v := (-1)) C dX7_sheet_30 (by decide) ?_
        exact hR _ _ _ _ dX7_sheet_31 hf
set_option maxRecDepth 100000 in
set_option maxHeartbeats 4000000 in
theorem ok_X7_sheet {p1 : Int32} {p2 : Int32} {p3 : Int32} {S : tq_St} {K : Int32 → tq_St → Prop} (hf : wp_X7_sheet p1 p2 p3 S K) : tq_Mi yX7_sheet cX7_sheet 5 (some .int) 2 (fun a z => [.ref (a.1 28 0), .int p1, .int p2, .int p3]) S K :=
  tq_mkI (by decide) (fun _ _ => Nat.le_of_ble_eq_true rfl) (fun X C hR => wk_X7_sheet C hR  hf)
set_option maxRecDepth 100000 in
set_option maxHeartbeats 4000000 in
theorem wk_X7_soon_17 {X : tq_Cx} {K : Int32 → tq_St → Prop} (C : tq_C X cX7_soon 3 RX7 5) (hR : tq_Ri X cX7_soon 3 K) : ∀ (n : Nat) (v1 : Int32) (v2 : Int32) (S : tq_St), wp_X7_soon_17 K n v1 v2 S → Go X 3 S 17 [(0, .ref ((tq_la X).1 28 0)), (1, .int v1), (2, .int v2)] [] := by
  intro n
  induction n with
  | zero => intros; contradiction
  | succ n ih =>
    intro v1 v2 S hf
    refine go_iload_n (pc := 17) C dX7_soon_17 2 rfl rfl ?_
    refine go_bipush (pc := 18) (v := 9) C dX7_soon_18 (by decide) ?_
    refine go_ic_gt (pc := 20) C dX7_soon_20 57 (by decide) (fun c8 => ?_) (fun c8 => ?_)
    · have hf := hf.1 c8
      refine go_bipush (pc := 57) (v := (-4)) C dX7_soon_57 (by decide) ?_
      exact hR _ _ _ _ dX7_soon_59 hf
    · have hf := hf.2 c8
      refine go_aload_n (pc := 23) C dX7_soon_23 0 rfl rfl ?_
      refine go_iconst (pc := 24) (v := 0) C dX7_soon_24 (by decide) ?_
      refine go_iload_n (pc := 25) C dX7_soon_25 1 rfl rfl ?_
      refine go_cVi (pc := 26) C cw_X7_131 (ok_X7_waits hf) (rc_X7 C) rfl rfl rfl (by decide) rfl dX7_soon_26 (fun r9 S10 hf => ?_)
      refine go_if_eq (pc := 29) C dX7_soon_29 57 (by decide) (fun c12 => ?_) (fun c12 => ?_)
      · have hf := hf.1 c12
        refine go_bipush (pc := 57) (v := (-4)) C dX7_soon_57 (by decide) ?_
        exact hR _ _ _ _ dX7_soon_59 hf
      · have hf := hf.2 c12
        refine go_aload_n (pc := 32) C dX7_soon_32 0 rfl rfl ?_
        refine go_bipush (pc := 33) (v := 112) C dX7_soon_33 (by decide) ?_
        refine go_iconst (pc := 35) (v := 0) C dX7_soon_35 (by decide) ?_
        refine go_cVi (pc := 36) C cw_X7_149 (ok_X7_nextOn hf) (rc_X7 C) rfl rfl rfl (by decide) rfl dX7_soon_36 (fun r13 S14 hf => ?_)
        refine go_iload_n (pc := 39) C dX7_soon_39 1 rfl rfl ?_
        refine go_ic_ne (pc := 40) C dX7_soon_40 45 (by decide) (fun c16 => ?_) (fun c16 => ?_)
        · have hf := hf.1 c16
          refine go_aload_n (pc := 45) C dX7_soon_45 0 rfl rfl ?_
          refine go_iload_n (pc := 46) C dX7_soon_46 1 rfl rfl ?_
          refine go_cVi (pc := 47) C cw_X7_211 (ok_X7_acts hf) (rc_X7 C) rfl rfl rfl (by decide) rfl dX7_soon_47 (fun r17 S18 hf => ?_)
          refine go_pop (pc := 50) C dX7_soon_50 rfl ?_
          obtain ⟨x20, e21⟩ : ∃ q9 : Int32, q9 = v2 + 1 := ⟨_, rfl⟩
          refine go_iinc (pc := 51) (j := 2) (v := x20) C dX7_soon_51 [(2, .int x20), (0, .ref ((tq_la X).1 28 0)), (1, .int v1)] rfl (by rw [e21]; rfl) (by decide) rfl ?_
          have hf := hf x20 e21
          refine go_goto (pc := 54) C dX7_soon_54 17 (by decide) ?_
          exact go_sub [1, 2, 0] rfl (ih _ _ _ hf)
        · have hf := hf.2 c16
          refine go_iload_n (pc := 43) C dX7_soon_43 2 rfl rfl ?_
          exact hR _ _ _ _ dX7_soon_44 hf
set_option maxRecDepth 100000 in
set_option maxHeartbeats 4000000 in
theorem wk_X7_soon {X : tq_Cx} {p1 : Int32} {S : tq_St} {K : Int32 → tq_St → Prop} (C : tq_C X cX7_soon 3 RX7 5) (hR : tq_Ri X cX7_soon 3 K) (hf : wp_X7_soon p1 S K) : Go X 3 S 0 [(0, .ref ((tq_la X).1 28 0)), (1, .int p1)] [] := by
  refine go_aload_n (pc := 0) C dX7_soon_0 0 rfl rfl ?_
  refine go_iload_n (pc := 1) C dX7_soon_1 1 rfl rfl ?_
  refine go_cVi (pc := 2) C cw_X7_158 (ok_X7_isOne hf) (rc_X7 C) rfl rfl rfl (by decide) rfl dX7_soon_2 (fun r1 S2 hf => ?_)
  refine go_if_ne (pc := 5) C dX7_soon_5 10 (by decide) (fun c4 => ?_) (fun c4 => ?_)
  · have hf := hf.1 c4
    refine go_aload_n (pc := 10) C dX7_soon_10 0 rfl rfl ?_
    refine go_iconst (pc := 11) (v := 0) C dX7_soon_11 (by decide) ?_
    refine go_cVv (pc := 12) C cw_X7_208 (ok_X7_begins hf) (rc_X7 C) rfl rfl rfl (by decide) rfl dX7_soon_12 (fun S6 hf => ?_)
    refine go_iconst (pc := 15) (v := 0) C dX7_soon_15 (by decide) ?_
    refine go_istore_n (pc := 16) C dX7_soon_16 [(2, .int 0), (0, .ref ((tq_la X).1 28 0)), (1, .int p1)] rfl (by decide) rfl ?_
    exact go_sub [1, 2, 0] rfl (wk_X7_soon_17 C hR 2000 _ _ _ hf)
  · have hf := hf.2 c4
    refine go_iconst (pc := 8) (v := (-1)) C dX7_soon_8 (by decide) ?_
    exact hR _ _ _ _ dX7_soon_9 hf
set_option maxRecDepth 100000 in
set_option maxHeartbeats 4000000 in
theorem ok_X7_soon {p1 : Int32} {S : tq_St} {K : Int32 → tq_St → Prop} (hf : wp_X7_soon p1 S K) : tq_Mi yX7_soon cX7_soon 3 (some .int) 5 (fun a z => [.ref (a.1 28 0), .int p1]) S K :=
  tq_mkI (by decide) (fun _ _ => Nat.le_of_ble_eq_true rfl) (fun X C hR => wk_X7_soon C hR  hf)
set_option maxRecDepth 100000 in
set_option maxHeartbeats 4000000 in
theorem wk_X7_sorrows {X : tq_Cx} {p1 : Int32} {S : tq_St} {K : Int32 → tq_St → Prop} (C : tq_C X cX7_sorrows 2 RX7 8) (hR : tq_Ri X cX7_sorrows 2 K) (hf : wp_X7_sorrows p1 S K) : Go X 2 S 0 [(0, .ref ((tq_la X).1 28 0)), (1, .int p1)] [] := by
  refine go_aload_n (pc := 0) C dX7_sorrows_0 0 rfl rfl ?_
  refine go_iload_n (pc := 1) C dX7_sorrows_1 1 rfl rfl ?_
  refine go_cVi (pc := 2) C cw_X7_158 (ok_X7_isOne hf) (rc_X7 C) rfl rfl rfl (by decide) rfl dX7_sorrows_2 (fun r1 S2 hf => ?_)
  refine go_if_eq (pc := 5) C dX7_sorrows_5 16 (by decide) (fun c4 => ?_) (fun c4 => ?_)
  · have hf := hf.1 c4
    refine go_iconst (pc := 16) (v := (-1)) C dX7_sorrows_16 (by decide) ?_
    exact hR _ _ _ _ dX7_sorrows_17 hf
  · have hf := hf.2 c4
    refine go_aload_n (pc := 8) C dX7_sorrows_8 0 rfl rfl ?_
    refine go_iload_n (pc := 9) C dX7_sorrows_9 1 rfl rfl ?_
    refine go_cVi (pc := 10) C cw_X7_251 (ok_X7_sorrowsOf hf) (rc_X7 C) rfl rfl rfl (by decide) rfl dX7_sorrows_10 (fun r5 S6 hf => ?_)
    refine go_goto (pc := 13) C dX7_sorrows_13 17 (by decide) ?_
    exact hR _ _ _ _ dX7_sorrows_17 hf
set_option maxRecDepth 100000 in
set_option maxHeartbeats 4000000 in
theorem ok_X7_sorrows {p1 : Int32} {S : tq_St} {K : Int32 → tq_St → Prop} (hf : wp_X7_sorrows p1 S K) : tq_Mi yX7_sorrows cX7_sorrows 2 (some .int) 8 (fun a z => [.ref (a.1 28 0), .int p1]) S K :=
  tq_mkI (by decide) (fun _ _ => Nat.le_of_ble_eq_true rfl) (fun X C hR => wk_X7_sorrows C hR  hf)
set_option maxRecDepth 100000 in
set_option maxHeartbeats 4000000 in
theorem wk_X7_swap_137 {X : tq_Cx} {K : Int32 → tq_St → Prop} (C : tq_C X cX7_swap 6 RX7 6) (hR : tq_Ri X cX7_swap 6 K) {rec47 : Int32 → Int32 → Int32 → Int32 → Int32 → tq_St → Prop} (hrec47 : ∀ (v1 : Int32) (v2 : Int32) (v3 : Int32) (v4 : Int32) (v5 : Int32) (S : tq_St), rec47 v1 v2 v3 v4 v5 S → Go X 6 S 47 [(0, .ref ((tq_la X).1 28 0)), (1, .int v1), (2, .int v2), (3, .int v3), (4, .int v4), (5, .int v5)] []) {rec29 : Int32 → Int32 → Int32 → Int32 → tq_St → Prop} (hrec29 : ∀ (v1 : Int32) (v2 : Int32) (v3 : Int32) (v4 : Int32) (S : tq_St), rec29 v1 v2 v3 v4 S → Go X 6 S 29 [(0, .ref ((tq_la X).1 28 0)), (1, .int v1), (2, .int v2), (3, .int v3), (4, .int v4)] []) : ∀ (v1 : Int32) (v2 : Int32) (v4 : Int32) (v5 : Int32) (w0 : Int32) (S : tq_St), wp_X7_swap_137 K rec47 rec29 v1 v2 v4 v5 w0 S → Go X 6 S 137 [(0, .ref ((tq_la X).1 28 0)), (1, .int v1), (2, .int v2), (4, .int v4), (5, .int v5)] [.int w0] := by
  intro v1 v2 v4 v5 w0 S hf
  refine go_istore_n (pc := 137) C dX7_swap_137 [(3, .int w0), (0, .ref ((tq_la X).1 28 0)), (1, .int v1), (2, .int v2), (4, .int v4), (5, .int v5)] rfl (by decide) rfl ?_
  refine go_aload_n (pc := 138) C dX7_swap_138 1 rfl rfl ?_
  refine go_cVi (pc := 139) C cw_X7_234 (ok_X7_goneThen hf) (rc_X7 C) rfl rfl rfl (by decide) rfl dX7_swap_139 (fun r33 S34 hf => ?_)
  refine go_iload_n (pc := 142) C dX7_swap_142 3 rfl rfl ?_
  refine go_ic_le (pc := 143) C dX7_swap_143 153 (by decide) (fun c36 => ?_) (fun c36 => ?_)
  · have hf := hf.1 c36
    refine go_iload_n (pc := 153) C dX7_swap_153 3 rfl rfl ?_
    refine go_istore_n (pc := 154) C dX7_swap_154 [(2, .int v2), (3, .int w0), (0, .ref ((tq_la X).1 28 0)), (1, .int v1), (4, .int v4), (5, .int v5)] rfl (by decide) rfl ?_
    obtain ⟨x37, e38⟩ : ∃ q9 : Int32, q9 = v5 + 1 := ⟨_, rfl⟩
    refine go_iinc (pc := 155) (j := 5) (v := x37) C dX7_swap_155 [(5, .int x37), (2, .int v2), (3, .int w0), (0, .ref ((tq_la X).1 28 0)), (1, .int v1), (4, .int v4)] rfl (by rw [e38]; rfl) (by decide) rfl ?_
    have hf := hf x37 e38
    refine go_goto (pc := 158) C dX7_swap_158 47 (by decide) ?_
    exact go_sub [3, 4, 1, 2, 5, 0] rfl (hrec47 _ _ _ _ _ _ hf)
  · have hf := hf.2 c36
    refine go_aload_n (pc := 146) C dX7_swap_146 1 rfl rfl ?_
    refine go_cVi (pc := 147) C cw_X7_234 (ok_X7_goneThen hf) (rc_X7 C) rfl rfl rfl (by decide) rfl dX7_swap_147 (fun r39 S40 hf => ?_)
    refine go_goto (pc := 150) C dX7_swap_150 154 (by decide) ?_
    refine go_istore_n (pc := 154) C dX7_swap_154 [(2, .int r39), (3, .int w0), (0, .ref ((tq_la X).1 28 0)), (1, .int v1), (4, .int v4), (5, .int v5)] rfl (by decide) rfl ?_
    obtain ⟨x42, e43⟩ : ∃ q9 : Int32, q9 = v5 + 1 := ⟨_, rfl⟩
    refine go_iinc (pc := 155) (j := 5) (v := x42) C dX7_swap_155 [(5, .int x42), (2, .int r39), (3, .int w0), (0, .ref ((tq_la X).1 28 0)), (1, .int v1), (4, .int v4)] rfl (by rw [e43]; rfl) (by decide) rfl ?_
    have hf := hf x42 e43
    refine go_goto (pc := 158) C dX7_swap_158 47 (by decide) ?_
    exact go_sub [3, 4, 1, 2, 5, 0] rfl (hrec47 _ _ _ _ _ _ hf)
set_option maxRecDepth 100000 in
set_option maxHeartbeats 4000000 in
theorem wk_X7_swap_47 {X : tq_Cx} {K : Int32 → tq_St → Prop} (C : tq_C X cX7_swap 6 RX7 6) (hR : tq_Ri X cX7_swap 6 K) {rec29 : Int32 → Int32 → Int32 → Int32 → tq_St → Prop} (hrec29 : ∀ (v1 : Int32) (v2 : Int32) (v3 : Int32) (v4 : Int32) (S : tq_St), rec29 v1 v2 v3 v4 S → Go X 6 S 29 [(0, .ref ((tq_la X).1 28 0)), (1, .int v1), (2, .int v2), (3, .int v3), (4, .int v4)] []) : ∀ (n : Nat) (v1 : Int32) (v2 : Int32) (v3 : Int32) (v4 : Int32) (v5 : Int32) (S : tq_St), wp_X7_swap_47 K rec29 n v1 v2 v3 v4 v5 S → Go X 6 S 47 [(0, .ref ((tq_la X).1 28 0)), (1, .int v1), (2, .int v2), (3, .int v3), (4, .int v4), (5, .int v5)] [] := by
  intro n
  induction n with
  | zero => intros; contradiction
  | succ n ih =>
    intro v1 v2 v3 v4 v5 S hf
    refine go_iload (pc := 47) C dX7_swap_47 5 rfl ?_
    refine go_aload_n (pc := 49) C dX7_swap_49 0 rfl rfl ?_
    refine ge_X7_X7_0 (pc := 50) C dX7_swap_50 ?_
    refine go_bipush (pc := 53) (v := 27) C dX7_swap_53 (by decide) ?_
    refine al_X7_0 (pc := 55) C hf.1 dX7_swap_55 ?_
    have hf := hf.2
    refine go_ic_ge (pc := 56) C dX7_swap_56 161 (by decide) (fun c16 => ?_) (fun c16 => ?_)
    · have hf := hf.1 c16
      obtain ⟨x17, e18⟩ : ∃ q9 : Int32, q9 = v4 + 1 := ⟨_, rfl⟩
      refine go_iinc (pc := 161) (j := 4) (v := x17) C dX7_swap_161 [(4, .int x17), (0, .ref ((tq_la X).1 28 0)), (1, .int v1), (2, .int v2), (3, .int v3), (5, .int v5)] rfl (by rw [e18]; rfl) (by decide) rfl ?_
      have hf := hf x17 e18
      refine go_goto (pc := 164) C dX7_swap_164 29 (by decide) ?_
      exact go_sub [1, 2, 3, 4, 0] rfl (hrec29 _ _ _ _ _ hf)
    · have hf := hf.2 c16
      refine go_aload_n (pc := 59) C dX7_swap_59 0 rfl rfl ?_
      refine go_iconst (pc := 60) (v := 0) C dX7_swap_60 (by decide) ?_
      refine go_sipush (pc := 61) (v := 140) C dX7_swap_61 (by decide) ?_
      refine go_cVv (pc := 64) C cw_X7_196 (ok_X7_copies hf) (rc_X7 C) rfl rfl rfl (by decide) rfl dX7_swap_64 (fun S20 hf => ?_)
      refine go_aload_n (pc := 67) C dX7_swap_67 0 rfl rfl ?_
      refine ge_X7_X7_0 (pc := 68) C dX7_swap_68 ?_
      refine go_sipush (pc := 71) (v := 159) C dX7_swap_71 (by decide) ?_
      refine go_iload (pc := 74) C dX7_swap_74 4 rfl ?_
      refine go_iadd (pc := 76) C dX7_swap_76 ?_
      refine go_aload_n (pc := 77) C dX7_swap_77 0 rfl rfl ?_
      refine ge_X7_X7_0 (pc := 78) C dX7_swap_78 ?_
      refine go_bipush (pc := 81) (v := 19) C dX7_swap_81 (by decide) ?_
      refine go_iload (pc := 83) C dX7_swap_83 5 rfl ?_
      refine go_iadd (pc := 85) C dX7_swap_85 ?_
      refine al_X7_0 (pc := 86) C hf.1 dX7_swap_86 ?_
      have hf := hf.2
      refine as_X7_0 (pc := 87) C hf.1 dX7_swap_87 (fun S22 e23 => ?_)
      have hf := hf.2 S22 e23
      refine go_aload_n (pc := 88) C dX7_swap_88 0 rfl rfl ?_
      refine ge_X7_X7_0 (pc := 89) C dX7_swap_89 ?_
      refine go_sipush (pc := 92) (v := 159) C dX7_swap_92 (by decide) ?_
      refine go_iload (pc := 95) C dX7_swap_95 5 rfl ?_
      refine go_iadd (pc := 97) C dX7_swap_97 ?_
      refine go_aload_n (pc := 98) C dX7_swap_98 0 rfl rfl ?_
      refine ge_X7_X7_0 (pc := 99) C dX7_swap_99 ?_
      refine go_bipush (pc := 102) (v := 19) C dX7_swap_102 (by decide) ?_
      refine go_iload (pc := 104) C dX7_swap_104 4 rfl ?_
      refine go_iadd (pc := 106) C dX7_swap_106 ?_
      refine al_X7_0 (pc := 107) C hf.1 dX7_swap_107 ?_
      have hf := hf.2
      refine as_X7_0 (pc := 108) C hf.1 dX7_swap_108 (fun S24 e25 => ?_)
      have hf := hf.2 S24 e25
      refine go_aload_n (pc := 109) C dX7_swap_109 0 rfl rfl ?_
      refine go_sipush (pc := 110) (v := 140) C dX7_swap_110 (by decide) ?_
      refine go_iconst (pc := 113) (v := 0) C dX7_swap_113 (by decide) ?_
      refine go_cVv (pc := 114) C cw_X7_214 (ok_X7_planGoes hf) (rc_X7 C) rfl rfl rfl (by decide) rfl dX7_swap_114 (fun S27 hf => ?_)
      refine go_aload_n (pc := 117) C dX7_swap_117 0 rfl rfl ?_
      refine go_cVi (pc := 118) C cw_X7_234 (ok_X7_goneThen hf) (rc_X7 C) rfl rfl rfl (by decide) rfl dX7_swap_118 (fun r29 S30 hf => ?_)
      refine go_iload_n (pc := 121) C dX7_swap_121 2 rfl rfl ?_
      refine go_ic_le (pc := 122) C dX7_swap_122 136 (by decide) (fun c32 => ?_) (fun c32 => ?_)
      · have hf := hf.1 c32
        refine go_iload_n (pc := 136) C dX7_swap_136 3 rfl rfl ?_
        exact go_sub [0, 1, 2, 4, 5] rfl (wk_X7_swap_137 C hR ih hrec29 _ _ _ _ _ _ hf)
      · have hf := hf.2 c32
        refine go_bipush (pc := 125) (v := 10) C dX7_swap_125 (by decide) ?_
        refine go_iload (pc := 127) C dX7_swap_127 4 rfl ?_
        refine go_imul (pc := 129) C dX7_swap_129 ?_
        refine go_iload (pc := 130) C dX7_swap_130 5 rfl ?_
        refine go_iadd (pc := 132) C dX7_swap_132 ?_
        refine go_goto (pc := 133) C dX7_swap_133 137 (by decide) ?_
        exact go_sub [0, 1, 2, 4, 5] rfl (wk_X7_swap_137 C hR ih hrec29 _ _ _ _ _ _ hf)
set_option maxRecDepth 100000 in
set_option maxHeartbeats 4000000 in
theorem wk_X7_swap_29 {X : tq_Cx} {K : Int32 → tq_St → Prop} (C : tq_C X cX7_swap 6 RX7 6) (hR : tq_Ri X cX7_swap 6 K) : ∀ (n : Nat) (v1 : Int32) (v2 : Int32) (v3 : Int32) (v4 : Int32) (S : tq_St), wp_X7_swap_29 K n v1 v2 v3 v4 S → Go X 6 S 29 [(0, .ref ((tq_la X).1 28 0)), (1, .int v1), (2, .int v2), (3, .int v3), (4, .int v4)] [] := by
  intro n
  induction n with
  | zero => intros; contradiction
  | succ n ih =>
    intro v1 v2 v3 v4 S hf
    refine go_iload (pc := 29) C dX7_swap_29 4 rfl ?_
    refine go_aload_n (pc := 31) C dX7_swap_31 0 rfl rfl ?_
    refine ge_X7_X7_0 (pc := 32) C dX7_swap_32 ?_
    refine go_bipush (pc := 35) (v := 27) C dX7_swap_35 (by decide) ?_
    refine al_X7_0 (pc := 37) C hf.1 dX7_swap_37 ?_
    have hf := hf.2
    refine go_ic_ge (pc := 38) C dX7_swap_38 167 (by decide) (fun c11 => ?_) (fun c11 => ?_)
    · have hf := hf.1 c11
      refine go_iload_n (pc := 167) C dX7_swap_167 3 rfl rfl ?_
      refine go_bipush (pc := 168) (v := (-4)) C dX7_swap_168 (by decide) ?_
      refine go_ic_eq (pc := 170) C dX7_swap_170 177 (by decide) (fun c12 => ?_) (fun c12 => ?_)
      · have hf := hf.1 c12
        refine go_iload_n (pc := 177) C dX7_swap_177 3 rfl rfl ?_
        refine go_goto (pc := 178) C dX7_swap_178 182 (by decide) ?_
        exact hR _ _ _ _ dX7_swap_182 hf
      · have hf := hf.2 c12
        refine go_iload_n (pc := 173) C dX7_swap_173 1 rfl rfl ?_
        refine go_if_ne (pc := 174) C dX7_swap_174 181 (by decide) (fun c13 => ?_) (fun c13 => ?_)
        · have hf := hf.1 c13
          refine go_iload_n (pc := 181) C dX7_swap_181 2 rfl rfl ?_
          exact hR _ _ _ _ dX7_swap_182 hf
        · have hf := hf.2 c13
          refine go_iload_n (pc := 177) C dX7_swap_177 3 rfl rfl ?_
          refine go_goto (pc := 178) C dX7_swap_178 182 (by decide) ?_
          exact hR _ _ _ _ dX7_swap_182 hf
    · have hf := hf.2 c11
      refine go_iload (pc := 41) C dX7_swap_41 4 rfl ?_
      refine go_iconst (pc := 43) (v := 1) C dX7_swap_43 (by decide) ?_
      refine go_iadd (pc := 44) C dX7_swap_44 ?_
      refine go_nI (fun x14 e15 => ?_)
      have hf := hf x14 e15
      refine go_istore (pc := 45) C dX7_swap_45 [(5, .int x14), (0, .ref ((tq_la X).1 28 0)), (1, .int v1), (2, .int v2), (3, .int v3), (4, .int v4)] (by decide) rfl ?_
      exact go_sub [1, 2, 3, 4, 5, 0] rfl (wk_X7_swap_47 C hR ih 2000 _ _ _ _ _ _ hf)
set_option maxRecDepth 100000 in
set_option maxHeartbeats 4000000 in
theorem wk_X7_swap {X : tq_Cx} {p1 : Int32} {S : tq_St} {K : Int32 → tq_St → Prop} (C : tq_C X cX7_swap 6 RX7 6) (hR : tq_Ri X cX7_swap 6 K) (hf : wp_X7_swap p1 S K) : Go X 6 S 0 [(0, .ref ((tq_la X).1 28 0)), (1, .int p1)] [] := by
  refine go_iload_n (pc := 0) C dX7_swap_0 1 rfl rfl ?_
  refine go_i2l (pc := 1) C dX7_swap_1 ?_
  refine go_lconst (pc := 2) (v := 0) C dX7_swap_2 (by decide) ?_
  refine go_lconst (pc := 3) (v := 1) C dX7_swap_3 (by decide) ?_
  refine go_cSi (pc := 4) C cs_X7_49 (ok_X7_in hf) rfl rfl rfl (by decide) rfl dX7_swap_4 (fun r1 S2 hf => ?_)
  refine go_if_ne (pc := 7) C dX7_swap_7 12 (by decide) (fun c4 => ?_) (fun c4 => ?_)
  · have hf := hf.1 c4
    refine go_aload_n (pc := 12) C dX7_swap_12 0 rfl rfl ?_
    refine go_iconst (pc := 13) (v := 0) C dX7_swap_13 (by decide) ?_
    refine go_iconst (pc := 14) (v := 0) C dX7_swap_14 (by decide) ?_
    refine go_cVv (pc := 15) C cw_X7_214 (ok_X7_planGoes hf) (rc_X7 C) rfl rfl rfl (by decide) rfl dX7_swap_15 (fun S6 hf => ?_)
    refine go_aload_n (pc := 18) C dX7_swap_18 0 rfl rfl ?_
    refine go_cVi (pc := 19) C cw_X7_234 (ok_X7_goneThen hf) (rc_X7 C) rfl rfl rfl (by decide) rfl dX7_swap_19 (fun r8 S9 hf => ?_)
    refine go_istore_n (pc := 22) C dX7_swap_22 [(2, .int r8), (0, .ref ((tq_la X).1 28 0)), (1, .int p1)] rfl (by decide) rfl ?_
    refine go_bipush (pc := 23) (v := (-4)) C dX7_swap_23 (by decide) ?_
    refine go_istore_n (pc := 25) C dX7_swap_25 [(3, .int (-4)), (2, .int r8), (0, .ref ((tq_la X).1 28 0)), (1, .int p1)] rfl (by decide) rfl ?_
    refine go_iconst (pc := 26) (v := 0) C dX7_swap_26 (by decide) ?_
    refine go_istore (pc := 27) C dX7_swap_27 [(4, .int 0), (3, .int (-4)), (2, .int r8), (0, .ref ((tq_la X).1 28 0)), (1, .int p1)] (by decide) rfl ?_
    exact go_sub [3, 4, 2, 1, 0] rfl (wk_X7_swap_29 C hR 2000 _ _ _ _ _ hf)
  · have hf := hf.2 c4
    refine go_iconst (pc := 10) (v := (-1)) C dX7_swap_10 (by decide) ?_
    exact hR _ _ _ _ dX7_swap_11 hf
set_option maxRecDepth 100000 in
set_option maxHeartbeats 4000000 in
theorem ok_X7_swap {p1 : Int32} {S : tq_St} {K : Int32 → tq_St → Prop} (hf : wp_X7_swap p1 S K) : tq_Mi yX7_swap cX7_swap 6 (some .int) 6 (fun a z => [.ref (a.1 28 0), .int p1]) S K :=
  tq_mkI (by decide) (fun _ _ => Nat.le_of_ble_eq_true rfl) (fun X C hR => wk_X7_swap C hR  hf)
set_option maxRecDepth 100000 in
set_option maxHeartbeats 4000000 in
theorem wk_X7_text_130 {X : tq_Cx} {K : Int32 → tq_St → Prop} (C : tq_C X cX7_text 3 RX7 7) (hR : tq_Ri X cX7_text 3 K) : ∀ (n : Nat) (v1 : Int32) (v2 : Int32) (S : tq_St), wp_X7_text_130 K n v1 v2 S → Go X 3 S 130 [(0, .ref ((tq_la X).1 28 0)), (1, .int v1), (2, .int v2)] [] := by
  intro n
  induction n with
  | zero => intros; contradiction
  | succ n ih =>
    intro v1 v2 S hf
    refine go_iload_n (pc := 130) C dX7_text_130 2 rfl rfl ?_
    refine go_bipush (pc := 131) (v := 28) C dX7_text_131 (by decide) ?_
    refine go_ic_ge (pc := 133) C dX7_text_133 154 (by decide) (fun c22 => ?_) (fun c22 => ?_)
    · have hf := hf.1 c22
      refine go_aload_n (pc := 154) C dX7_text_154 0 rfl rfl ?_
      refine go_aload_n (pc := 155) C dX7_text_155 0 rfl rfl ?_
      refine ge_X7_X7_4 (pc := 156) C dX7_text_156 ?_
      refine pu_X7_X7_2 (pc := 159) C dX7_text_159 (fun S23 e24 => ?_)
      have hf := hf S23 e24
      refine go_aload_n (pc := 162) C dX7_text_162 0 rfl rfl ?_
      refine go_iconst (pc := 163) (v := 0) C dX7_text_163 (by decide) ?_
      refine pu_X7_X7_22 (pc := 164) C dX7_text_164 (fun S25 e26 => ?_)
      have hf := hf S25 e26
      refine go_aload_n (pc := 167) C dX7_text_167 0 rfl rfl ?_
      refine ge_X7_X7_24 (pc := 168) C dX7_text_168 ?_
      refine go_iconst (pc := 171) (v := 0) C dX7_text_171 (by decide) ?_
      refine go_iconst (pc := 172) (v := 0) C dX7_text_172 (by decide) ?_
      refine as_X7_24 (pc := 173) C hf.1 dX7_text_173 (fun S27 e28 => ?_)
      have hf := hf.2 S27 e28
      refine go_aload_n (pc := 174) C dX7_text_174 0 rfl rfl ?_
      refine ge_X7_X7_24 (pc := 175) C dX7_text_175 ?_
      refine go_iconst (pc := 178) (v := 1) C dX7_text_178 (by decide) ?_
      refine go_iconst (pc := 179) (v := 0) C dX7_text_179 (by decide) ?_
      refine as_X7_24 (pc := 180) C hf.1 dX7_text_180 (fun S29 e30 => ?_)
      have hf := hf.2 S29 e30
      refine go_iload_n (pc := 181) C dX7_text_181 1 rfl rfl ?_
      exact hR _ _ _ _ dX7_text_182 hf
    · have hf := hf.2 c22
      refine go_aload_n (pc := 136) C dX7_text_136 0 rfl rfl ?_
      refine ge_X7_X7_0 (pc := 137) C dX7_text_137 ?_
      refine go_iload_n (pc := 140) C dX7_text_140 2 rfl rfl ?_
      refine go_aload_n (pc := 141) C dX7_text_141 0 rfl rfl ?_
      refine ge_X7_X7_3 (pc := 142) C dX7_text_142 ?_
      refine go_iload_n (pc := 145) C dX7_text_145 2 rfl rfl ?_
      refine al_X7_3 (pc := 146) C hf.1 dX7_text_146 ?_
      have hf := hf.2
      refine as_X7_0 (pc := 147) C hf.1 dX7_text_147 (fun S31 e32 => ?_)
      have hf := hf.2 S31 e32
      obtain ⟨x33, e34⟩ : ∃ q9 : Int32, q9 = v2 + 1 := ⟨_, rfl⟩
      refine go_iinc (pc := 148) (j := 2) (v := x33) C dX7_text_148 [(2, .int x33), (0, .ref ((tq_la X).1 28 0)), (1, .int v1)] rfl (by rw [e34]; rfl) (by decide) rfl ?_
      have hf := hf x33 e34
      refine go_goto (pc := 151) C dX7_text_151 130 (by decide) ?_
      exact go_sub [1, 2, 0] rfl (ih _ _ _ hf)
set_option maxRecDepth 100000 in
set_option maxHeartbeats 4000000 in
theorem wk_X7_text_100 {X : tq_Cx} {K : Int32 → tq_St → Prop} (C : tq_C X cX7_text 3 RX7 7) (hR : tq_Ri X cX7_text 3 K) : ∀ (v1 : Int32) (S : tq_St), wp_X7_text_100 K v1 S → Go X 3 S 100 [(0, .ref ((tq_la X).1 28 0)), (1, .int v1)] [] := by
  intro v1 S hf
  refine go_aload_n (pc := 100) C dX7_text_100 0 rfl rfl ?_
  refine go_iconst (pc := 101) (v := 0) C dX7_text_101 (by decide) ?_
  refine pu_X7_X7_8 (pc := 102) C dX7_text_102 (fun S17 e18 => ?_)
  have hf := hf S17 e18
  refine go_aload_n (pc := 105) C dX7_text_105 0 rfl rfl ?_
  refine go_aload_n (pc := 106) C dX7_text_106 0 rfl rfl ?_
  refine ge_X7_X7_10 (pc := 107) C dX7_text_107 ?_
  refine pu_X7_X7_9 (pc := 110) C dX7_text_110 (fun S19 e20 => ?_)
  have hf := hf S19 e20
  refine go_aload_n (pc := 113) C dX7_text_113 0 rfl rfl ?_
  refine ge_X7_X7_10 (pc := 114) C dX7_text_114 ?_
  refine go_if_le (pc := 117) C dX7_text_117 128 (by decide) (fun c21 => ?_) (fun c21 => ?_)
  · have hf := hf.1 c21
    refine go_iconst (pc := 128) (v := 0) C dX7_text_128 (by decide) ?_
    refine go_istore_n (pc := 129) C dX7_text_129 [(2, .int 0), (0, .ref ((tq_la X).1 28 0)), (1, .int v1)] rfl (by decide) rfl ?_
    exact go_sub [1, 2, 0] rfl (wk_X7_text_130 C hR 2000 _ _ _ hf)
  · have hf := hf.2 c21
    refine go_bipush (pc := 120) (v := (-10)) C dX7_text_120 (by decide) ?_
    refine go_aload_n (pc := 122) C dX7_text_122 0 rfl rfl ?_
    refine ge_X7_X7_11 (pc := 123) C dX7_text_123 ?_
    refine go_isub (pc := 126) C dX7_text_126 ?_
    exact hR _ _ _ _ dX7_text_127 hf
set_option maxRecDepth 100000 in
set_option maxHeartbeats 4000000 in
theorem wk_X7_text_76 {X : tq_Cx} {K : Int32 → tq_St → Prop} (C : tq_C X cX7_text 3 RX7 7) (hR : tq_Ri X cX7_text 3 K) : ∀ (v1 : Int32) (S : tq_St), wp_X7_text_76 K v1 S → Go X 3 S 76 [(0, .ref ((tq_la X).1 28 0)), (1, .int v1)] [] := by
  intro v1 S hf
  refine go_aload_n (pc := 76) C dX7_text_76 0 rfl rfl ?_
  refine ge_X7_X7_10 (pc := 77) C dX7_text_77 ?_
  refine go_if_ne (pc := 80) C dX7_text_80 100 (by decide) (fun c16 => ?_) (fun c16 => ?_)
  · have hf := hf.1 c16
    exact go_sub [0, 1] rfl (wk_X7_text_100 C hR _ _ hf)
  · have hf := hf.2 c16
    refine go_aload_n (pc := 83) C dX7_text_83 0 rfl rfl ?_
    refine ge_X7_X7_6 (pc := 84) C dX7_text_84 ?_
    refine go_aload_n (pc := 87) C dX7_text_87 0 rfl rfl ?_
    refine ge_X7_X7_4 (pc := 88) C dX7_text_88 ?_
    refine go_ic_lt (pc := 91) C dX7_text_91 100 (by decide) (fun c35 => ?_) (fun c35 => ?_)
    · have hf := hf.1 c35
      exact go_sub [0, 1] rfl (wk_X7_text_100 C hR _ _ hf)
    · have hf := hf.2 c35
      refine go_aload_n (pc := 94) C dX7_text_94 0 rfl rfl ?_
      refine go_bipush (pc := 95) (v := 6) C dX7_text_95 (by decide) ?_
      refine go_cVv (pc := 97) C cw_X7_87 (ok_X7_fails hf) (rc_X7 C) rfl rfl rfl (by decide) rfl dX7_text_97 (fun S37 hf => ?_)
      exact go_sub [0, 1] rfl (wk_X7_text_100 C hR _ _ hf)
set_option maxRecDepth 100000 in
set_option maxHeartbeats 4000000 in
theorem wk_X7_text_52 {X : tq_Cx} {K : Int32 → tq_St → Prop} (C : tq_C X cX7_text 3 RX7 7) (hR : tq_Ri X cX7_text 3 K) : ∀ (n : Nat) (v1 : Int32) (S : tq_St), wp_X7_text_52 K n v1 S → Go X 3 S 52 [(0, .ref ((tq_la X).1 28 0)), (1, .int v1)] [] := by
  intro n
  induction n with
  | zero => intros; contradiction
  | succ n ih =>
    intro v1 S hf
    refine go_aload_n (pc := 52) C dX7_text_52 0 rfl rfl ?_
    refine ge_X7_X7_10 (pc := 53) C dX7_text_53 ?_
    refine go_if_ne (pc := 56) C dX7_text_56 76 (by decide) (fun c15 => ?_) (fun c15 => ?_)
    · have hf := hf.1 c15
      exact go_sub [0, 1] rfl (wk_X7_text_76 C hR _ _ hf)
    · have hf := hf.2 c15
      refine go_aload_n (pc := 59) C dX7_text_59 0 rfl rfl ?_
      refine ge_X7_X7_14 (pc := 60) C dX7_text_60 ?_
      refine go_if_eq (pc := 63) C dX7_text_63 76 (by decide) (fun c39 => ?_) (fun c39 => ?_)
      · have hf := hf.1 c39
        exact go_sub [0, 1] rfl (wk_X7_text_76 C hR _ _ hf)
      · have hf := hf.2 c39
        refine go_aload_n (pc := 66) C dX7_text_66 0 rfl rfl ?_
        refine go_cVv (pc := 67) C cw_X7_119 (ok_X7_readLine hf) (rc_X7 C) rfl rfl rfl (by decide) rfl dX7_text_67 (fun S41 hf => ?_)
        obtain ⟨x43, e44⟩ : ∃ q9 : Int32, q9 = v1 + 1 := ⟨_, rfl⟩
        refine go_iinc (pc := 70) (j := 1) (v := x43) C dX7_text_70 [(1, .int x43), (0, .ref ((tq_la X).1 28 0))] rfl (by rw [e44]; rfl) (by decide) rfl ?_
        have hf := hf x43 e44
        refine go_goto (pc := 73) C dX7_text_73 52 (by decide) ?_
        exact go_sub [1, 0] rfl (ih _ _ hf)
set_option maxRecDepth 100000 in
set_option maxHeartbeats 4000000 in
theorem wk_X7_text_29 {X : tq_Cx} {K : Int32 → tq_St → Prop} (C : tq_C X cX7_text 3 RX7 7) (hR : tq_Ri X cX7_text 3 K) : ∀ (n : Nat) (v1 : Int32) (v2 : Int32) (S : tq_St), wp_X7_text_29 K n v1 v2 S → Go X 3 S 29 [(0, .ref ((tq_la X).1 28 0)), (1, .int v1), (2, .int v2)] [] := by
  intro n
  induction n with
  | zero => intros; contradiction
  | succ n ih =>
    intro v1 v2 S hf
    refine go_iload_n (pc := 29) C dX7_text_29 2 rfl rfl ?_
    refine go_bipush (pc := 30) (v := 28) C dX7_text_30 (by decide) ?_
    refine go_ic_ge (pc := 32) C dX7_text_32 48 (by decide) (fun c11 => ?_) (fun c11 => ?_)
    · have hf := hf.1 c11
      refine go_aload_n (pc := 48) C dX7_text_48 0 rfl rfl ?_
      refine go_cVv (pc := 49) C cw_X7_91 (ok_X7_step hf) (rc_X7 C) rfl rfl rfl (by decide) rfl dX7_text_49 (fun S13 hf => ?_)
      exact go_sub [0, 1] rfl (wk_X7_text_52 C hR 2000 _ _ hf)
    · have hf := hf.2 c11
      refine go_aload_n (pc := 35) C dX7_text_35 0 rfl rfl ?_
      refine ge_X7_X7_3 (pc := 36) C dX7_text_36 ?_
      refine go_iload_n (pc := 39) C dX7_text_39 2 rfl rfl ?_
      refine go_iconst (pc := 40) (v := 0) C dX7_text_40 (by decide) ?_
      refine as_X7_3 (pc := 41) C hf.1 dX7_text_41 (fun S45 e46 => ?_)
      have hf := hf.2 S45 e46
      obtain ⟨x47, e48⟩ : ∃ q9 : Int32, q9 = v2 + 1 := ⟨_, rfl⟩
      refine go_iinc (pc := 42) (j := 2) (v := x47) C dX7_text_42 [(2, .int x47), (0, .ref ((tq_la X).1 28 0)), (1, .int v1)] rfl (by rw [e48]; rfl) (by decide) rfl ?_
      have hf := hf x47 e48
      refine go_goto (pc := 45) C dX7_text_45 29 (by decide) ?_
      exact go_sub [1, 2, 0] rfl (ih _ _ _ hf)
set_option maxRecDepth 100000 in
set_option maxHeartbeats 4000000 in
theorem wk_X7_text {X : tq_Cx} {S : tq_St} {K : Int32 → tq_St → Prop} (C : tq_C X cX7_text 3 RX7 7) (hR : tq_Ri X cX7_text 3 K) (hf : wp_X7_text S K) : Go X 3 S 0 [(0, .ref ((tq_la X).1 28 0))] [] := by
  refine go_aload_n (pc := 0) C dX7_text_0 0 rfl rfl ?_
  refine go_iconst (pc := 1) (v := 0) C dX7_text_1 (by decide) ?_
  refine pu_X7_X7_10 (pc := 2) C dX7_text_2 (fun S1 e2 => ?_)
  have hf := hf S1 e2
  refine go_aload_n (pc := 5) C dX7_text_5 0 rfl rfl ?_
  refine go_iconst (pc := 6) (v := 0) C dX7_text_6 (by decide) ?_
  refine pu_X7_X7_12 (pc := 7) C dX7_text_7 (fun S3 e4 => ?_)
  have hf := hf S3 e4
  refine go_aload_n (pc := 10) C dX7_text_10 0 rfl rfl ?_
  refine go_iconst (pc := 11) (v := 0) C dX7_text_11 (by decide) ?_
  refine pu_X7_X7_4 (pc := 12) C dX7_text_12 (fun S5 e6 => ?_)
  have hf := hf S5 e6
  refine go_aload_n (pc := 15) C dX7_text_15 0 rfl rfl ?_
  refine go_iconst (pc := 16) (v := 0) C dX7_text_16 (by decide) ?_
  refine pu_X7_X7_5 (pc := 17) C dX7_text_17 (fun S7 e8 => ?_)
  have hf := hf S7 e8
  refine go_aload_n (pc := 20) C dX7_text_20 0 rfl rfl ?_
  refine go_iconst (pc := 21) (v := (-1)) C dX7_text_21 (by decide) ?_
  refine pu_X7_X7_6 (pc := 22) C dX7_text_22 (fun S9 e10 => ?_)
  have hf := hf S9 e10
  refine go_iconst (pc := 25) (v := 0) C dX7_text_25 (by decide) ?_
  refine go_istore_n (pc := 26) C dX7_text_26 [(1, .int 0), (0, .ref ((tq_la X).1 28 0))] rfl (by decide) rfl ?_
  refine go_iconst (pc := 27) (v := 0) C dX7_text_27 (by decide) ?_
  refine go_istore_n (pc := 28) C dX7_text_28 [(2, .int 0), (1, .int 0), (0, .ref ((tq_la X).1 28 0))] rfl (by decide) rfl ?_
  exact go_sub [2, 1, 0] rfl (wk_X7_text_29 C hR 2000 _ _ _ hf)
set_option maxRecDepth 100000 in
set_option maxHeartbeats 4000000 in
theorem ok_X7_text {S : tq_St} {K : Int32 → tq_St → Prop} (hf : wp_X7_text S K) : tq_Mi yX7_text cX7_text 3 (some .int) 7 (fun a z => [.ref (a.1 28 0)]) S K :=
  tq_mkI (by decide) (fun _ _ => Nat.le_of_ble_eq_true rfl) (fun X C hR => wk_X7_text C hR  hf)
set_option maxRecDepth 100000 in
set_option maxHeartbeats 4000000 in
theorem wk_X7_think {X : tq_Cx} {p1 : Int32} {S : tq_St} {K : Int32 → tq_St → Prop} (C : tq_C X cX7_think 2 RX7 2) (hR : tq_Ri X cX7_think 2 K) (hf : wp_X7_think p1 S K) : Go X 2 S 0 [(0, .ref ((tq_la X).1 28 0)), (1, .int p1)] [] := by
  refine go_aload_n (pc := 0) C dX7_think_0 0 rfl rfl ?_
  refine go_iload_n (pc := 1) C dX7_think_1 1 rfl rfl ?_
  refine go_i2l (pc := 2) C dX7_think_2 ?_
  refine go_lconst (pc := 3) (v := 1) C dX7_think_3 (by decide) ?_
  refine go_ldc2 (pc := 4) C kl_X7_177 dX7_think_4 ?_
  refine go_cSi (pc := 7) C cs_X7_49 (ok_X7_in hf) rfl rfl rfl (by decide) rfl dX7_think_7 (fun r1 S2 hf => ?_)
  refine go_bipush (pc := 10) (v := 18) C dX7_think_10 (by decide) ?_
  refine go_iload_n (pc := 12) C dX7_think_12 1 rfl rfl ?_
  refine go_iconst (pc := 13) (v := 4) C dX7_think_13 (by decide) ?_
  refine go_cVi (pc := 14) C cw_X7_171 (ok_X7_puts hf) (rc_X7 C) rfl rfl rfl (by decide) rfl dX7_think_14 (fun r4 S5 hf => ?_)
  exact hR _ _ _ _ dX7_think_17 hf
set_option maxRecDepth 100000 in
set_option maxHeartbeats 4000000 in
theorem ok_X7_think {p1 : Int32} {S : tq_St} {K : Int32 → tq_St → Prop} (hf : wp_X7_think p1 S K) : tq_Mi yX7_think cX7_think 2 (some .int) 2 (fun a z => [.ref (a.1 28 0), .int p1]) S K :=
  tq_mkI (by decide) (fun _ _ => Nat.le_of_ble_eq_true rfl) (fun X C hR => wk_X7_think C hR  hf)
set_option maxRecDepth 100000 in
set_option maxHeartbeats 4000000 in
theorem wk_X7_thinks {X : tq_Cx} {p1 : Int32} {S : tq_St} {K : Int32 → tq_St → Prop} (C : tq_C X cX7_thinks 2 RX7 4) (hR : tq_Ri X cX7_thinks 2 K) (hf : wp_X7_thinks p1 S K) : Go X 2 S 0 [(0, .ref ((tq_la X).1 28 0)), (1, .int p1)] [] := by
  refine go_aload_n (pc := 0) C dX7_thinks_0 0 rfl rfl ?_
  refine go_iload_n (pc := 1) C dX7_thinks_1 1 rfl rfl ?_
  refine go_cVi (pc := 2) C cw_X7_158 (ok_X7_isOne hf) (rc_X7 C) rfl rfl rfl (by decide) rfl dX7_thinks_2 (fun r1 S2 hf => ?_)
  refine go_if_ne (pc := 5) C dX7_thinks_5 10 (by decide) (fun c4 => ?_) (fun c4 => ?_)
  · have hf := hf.1 c4
    refine go_aload_n (pc := 10) C dX7_thinks_10 0 rfl rfl ?_
    refine go_iconst (pc := 11) (v := 0) C dX7_thinks_11 (by decide) ?_
    refine go_iload_n (pc := 12) C dX7_thinks_12 1 rfl rfl ?_
    refine go_cVi (pc := 13) C cw_X7_131 (ok_X7_waits hf) (rc_X7 C) rfl rfl rfl (by decide) rfl dX7_thinks_13 (fun r5 S6 hf => ?_)
    refine go_if_eq (pc := 16) C dX7_thinks_16 28 (by decide) (fun c8 => ?_) (fun c8 => ?_)
    · have hf := hf.1 c8
      refine go_bipush (pc := 28) (v := (-2)) C dX7_thinks_28 (by decide) ?_
      exact hR _ _ _ _ dX7_thinks_30 hf
    · have hf := hf.2 c8
      refine go_aload_n (pc := 19) C dX7_thinks_19 0 rfl rfl ?_
      refine go_iconst (pc := 20) (v := 0) C dX7_thinks_20 (by decide) ?_
      refine go_iload_n (pc := 21) C dX7_thinks_21 1 rfl rfl ?_
      refine go_cVi (pc := 22) C cw_X7_182 (ok_X7_thinksOn hf) (rc_X7 C) rfl rfl rfl (by decide) rfl dX7_thinks_22 (fun r9 S10 hf => ?_)
      refine go_goto (pc := 25) C dX7_thinks_25 30 (by decide) ?_
      exact hR _ _ _ _ dX7_thinks_30 hf
  · have hf := hf.2 c4
    refine go_iconst (pc := 8) (v := (-1)) C dX7_thinks_8 (by decide) ?_
    exact hR _ _ _ _ dX7_thinks_9 hf
set_option maxRecDepth 100000 in
set_option maxHeartbeats 4000000 in
theorem ok_X7_thinks {p1 : Int32} {S : tq_St} {K : Int32 → tq_St → Prop} (hf : wp_X7_thinks p1 S K) : tq_Mi yX7_thinks cX7_thinks 2 (some .int) 4 (fun a z => [.ref (a.1 28 0), .int p1]) S K :=
  tq_mkI (by decide) (fun _ _ => Nat.le_of_ble_eq_true rfl) (fun X C hR => wk_X7_thinks C hR  hf)
set_option maxRecDepth 100000 in
set_option maxHeartbeats 4000000 in
theorem wk_X7_torn {X : tq_Cx} {S : tq_St} {K : Int32 → tq_St → Prop} (C : tq_C X cX7_torn 1 RX7 1) (hR : tq_Ri X cX7_torn 1 K) (hf : wp_X7_torn S K) : Go X 1 S 0 [(0, .ref ((tq_la X).1 28 0))] [] := by
  refine go_aload_n (pc := 0) C dX7_torn_0 0 rfl rfl ?_
  refine ge_X7_X7_28 (pc := 1) C dX7_torn_1 ?_
  exact hR _ _ _ _ dX7_torn_4 hf
set_option maxRecDepth 100000 in
set_option maxHeartbeats 4000000 in
theorem ok_X7_torn {S : tq_St} {K : Int32 → tq_St → Prop} (hf : wp_X7_torn S K) : tq_Mi yX7_torn cX7_torn 1 (some .int) 1 (fun a z => [.ref (a.1 28 0)]) S K :=
  tq_mkI (by decide) (fun _ _ => Nat.le_of_ble_eq_true rfl) (fun X C hR => wk_X7_torn C hR  hf)
set_option maxRecDepth 100000 in
set_option maxHeartbeats 4000000 in
theorem wk_X7_tram {X : tq_Cx} {S : tq_St} {K : Int32 → tq_St → Prop} (C : tq_C X cX7_tram 1 RX7 4) (hR : tq_Ri X cX7_tram 1 K) (hf : wp_X7_tram S K) : Go X 1 S 0 [(0, .ref ((tq_la X).1 28 0))] [] := by
  refine go_aload_n (pc := 0) C dX7_tram_0 0 rfl rfl ?_
  refine go_iconst (pc := 1) (v := 0) C dX7_tram_1 (by decide) ?_
  refine go_cVi (pc := 2) C cw_X7_190 (ok_X7_tramOn hf) (rc_X7 C) rfl rfl rfl (by decide) rfl dX7_tram_2 (fun r1 S2 hf => ?_)
  exact hR _ _ _ _ dX7_tram_5 hf
set_option maxRecDepth 100000 in
set_option maxHeartbeats 4000000 in
theorem ok_X7_tram {S : tq_St} {K : Int32 → tq_St → Prop} (hf : wp_X7_tram S K) : tq_Mi yX7_tram cX7_tram 1 (some .int) 4 (fun a z => [.ref (a.1 28 0)]) S K :=
  tq_mkI (by decide) (fun _ _ => Nat.le_of_ble_eq_true rfl) (fun X C hR => wk_X7_tram C hR  hf)
end
