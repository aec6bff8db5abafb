theorem lx_tab {x : Int32} (h : (0 : Int) ≤ x.toInt ∧ x.toInt ≤ 39) : ∃ k : Nat, k < 40 ∧ x = nI k := by
  refine ⟨x.toInt.toNat, by omega, tq_ofI ?_⟩
  rw [nI_toInt (by omega)]
  omega
set_option maxRecDepth 100000 in
set_option maxHeartbeats 4000000 in
theorem lc_sw {X : tq_Cx} {S : tq_St} {b L i : Nat} {xs : Nat → Int32} {J : tq_St → Prop} (C : tq_C X cL_law 4 RL 40) (HX : tq_SX X b L xs) (hi : i + 5 ≤ L) (hL : L ≤ 320) (hA : st_all J) (hJ : J S) (g : ∀ S2 : tq_St, J S2 → Go X 4 S2 1284 [(3, .int (nI i)), (2, .ref ((tq_la X).1 28 0)), (1, .ref ((tq_la X).1 27 0)), (0, .ref b)] []) {x : Int32} : Go X 4 S 32 [(3, .int (nI i)), (2, .ref ((tq_la X).1 28 0)), (1, .ref ((tq_la X).1 27 0)), (0, .ref b)] [.int x] := by
  rcases tq_sw (x := x) 0 39 with c | c
  · exact go_tabOut (pc := 32) C dL_law_32 1284 (by decide) c (g S hJ)
  obtain ⟨k, hk, rfl⟩ := lx_tab c
  clear c
  match k, hk with
  | 0, _ => exact go_tabIn (pc := 32) C dL_law_32 208 (176) (by decide) (by decide) (by decide) rfl (lc_0 C HX hi hL hA.1 hJ g)
  | 1, _ => exact go_tabIn (pc := 32) C dL_law_32 231 (199) (by decide) (by decide) (by decide) rfl (lc_1 C HX hi hL hA.2.1 hJ g)
  | 2, _ => exact go_tabIn (pc := 32) C dL_law_32 254 (222) (by decide) (by decide) (by decide) rfl (lc_2 C HX hi hL hA.2.2.1 hJ g)
  | 3, _ => exact go_tabIn (pc := 32) C dL_law_32 267 (235) (by decide) (by decide) (by decide) rfl (lc_3 C HX hi hL hA.2.2.2.1 hJ g)
  | 4, _ => exact go_tabIn (pc := 32) C dL_law_32 280 (248) (by decide) (by decide) (by decide) rfl (lc_4 C HX hi hL hA.2.2.2.2.1 hJ g)
  | 5, _ => exact go_tabIn (pc := 32) C dL_law_32 303 (271) (by decide) (by decide) (by decide) rfl (lc_5 C HX hi hL hA.2.2.2.2.2.1 hJ g)
  | 6, _ => exact go_tabIn (pc := 32) C dL_law_32 336 (304) (by decide) (by decide) (by decide) rfl (lc_6 C HX hi hL hA.2.2.2.2.2.2.1 hJ g)
  | 7, _ => exact go_tabIn (pc := 32) C dL_law_32 359 (327) (by decide) (by decide) (by decide) rfl (lc_7 C HX hi hL hA.2.2.2.2.2.2.2.1 hJ g)
  | 8, _ => exact go_tabIn (pc := 32) C dL_law_32 382 (350) (by decide) (by decide) (by decide) rfl (lc_8 C HX hi hL hA.2.2.2.2.2.2.2.2.1 hJ g)
  | 9, _ => exact go_tabIn (pc := 32) C dL_law_32 425 (393) (by decide) (by decide) (by decide) rfl (lc_9 C HX hi hL hA.2.2.2.2.2.2.2.2.2.1 hJ g)
  | 10, _ => exact go_tabIn (pc := 32) C dL_law_32 448 (416) (by decide) (by decide) (by decide) rfl (lc_10 C HX hi hL hA.2.2.2.2.2.2.2.2.2.2.1 hJ g)
  | 11, _ => exact go_tabIn (pc := 32) C dL_law_32 471 (439) (by decide) (by decide) (by decide) rfl (lc_11 C HX hi hL hA.2.2.2.2.2.2.2.2.2.2.2.1 hJ g)
  | 12, _ => exact go_tabIn (pc := 32) C dL_law_32 494 (462) (by decide) (by decide) (by decide) rfl (lc_12 C HX hi hL hA.2.2.2.2.2.2.2.2.2.2.2.2.1 hJ g)
  | 13, _ => exact go_tabIn (pc := 32) C dL_law_32 517 (485) (by decide) (by decide) (by decide) rfl (lc_13 C HX hi hL hA.2.2.2.2.2.2.2.2.2.2.2.2.2.1 hJ g)
  | 14, _ => exact go_tabIn (pc := 32) C dL_law_32 540 (508) (by decide) (by decide) (by decide) rfl (lc_14 C HX hi hL hA.2.2.2.2.2.2.2.2.2.2.2.2.2.2.1 hJ g)
  | 15, _ => exact go_tabIn (pc := 32) C dL_law_32 563 (531) (by decide) (by decide) (by decide) rfl (lc_15 C HX hi hL hA.2.2.2.2.2.2.2.2.2.2.2.2.2.2.2.1 hJ g)
  | 16, _ => exact go_tabIn (pc := 32) C dL_law_32 576 (544) (by decide) (by decide) (by decide) rfl (lc_16 C HX hi hL hA.2.2.2.2.2.2.2.2.2.2.2.2.2.2.2.2.1 hJ g)
  | 17, _ => exact go_tabIn (pc := 32) C dL_law_32 599 (567) (by decide) (by decide) (by decide) rfl (lc_17 C HX hi hL hA.2.2.2.2.2.2.2.2.2.2.2.2.2.2.2.2.2.1 hJ g)
  | 18, _ => exact go_tabIn (pc := 32) C dL_law_32 612 (580) (by decide) (by decide) (by decide) rfl (lc_18 C HX hi hL hA.2.2.2.2.2.2.2.2.2.2.2.2.2.2.2.2.2.2.1 hJ g)
  | 19, _ => exact go_tabIn (pc := 32) C dL_law_32 635 (603) (by decide) (by decide) (by decide) rfl (lc_19 C HX hi hL hA.2.2.2.2.2.2.2.2.2.2.2.2.2.2.2.2.2.2.2.1 hJ g)
  | 20, _ => exact go_tabIn (pc := 32) C dL_law_32 668 (636) (by decide) (by decide) (by decide) rfl (lc_20 C HX hi hL hA.2.2.2.2.2.2.2.2.2.2.2.2.2.2.2.2.2.2.2.2.1 hJ g)
  | 21, _ => exact go_tabIn (pc := 32) C dL_law_32 691 (659) (by decide) (by decide) (by decide) rfl (lc_21 C HX hi hL hA.2.2.2.2.2.2.2.2.2.2.2.2.2.2.2.2.2.2.2.2.2.1 hJ g)
  | 22, _ => exact go_tabIn (pc := 32) C dL_law_32 724 (692) (by decide) (by decide) (by decide) rfl (lc_22 C HX hi hL hA.2.2.2.2.2.2.2.2.2.2.2.2.2.2.2.2.2.2.2.2.2.2.1 hJ g)
  | 23, _ => exact go_tabIn (pc := 32) C dL_law_32 757 (725) (by decide) (by decide) (by decide) rfl (lc_23 C HX hi hL hA.2.2.2.2.2.2.2.2.2.2.2.2.2.2.2.2.2.2.2.2.2.2.2.1 hJ g)
  | 24, _ => exact go_tabIn (pc := 32) C dL_law_32 780 (748) (by decide) (by decide) (by decide) rfl (lc_24 C HX hi hL hA.2.2.2.2.2.2.2.2.2.2.2.2.2.2.2.2.2.2.2.2.2.2.2.2.1 hJ g)
  | 25, _ => exact go_tabIn (pc := 32) C dL_law_32 793 (761) (by decide) (by decide) (by decide) rfl (lc_25 C HX hi hL hA.2.2.2.2.2.2.2.2.2.2.2.2.2.2.2.2.2.2.2.2.2.2.2.2.2.1 hJ g)
  | 26, _ => exact go_tabIn (pc := 32) C dL_law_32 836 (804) (by decide) (by decide) (by decide) rfl (lc_26 C HX hi hL hA.2.2.2.2.2.2.2.2.2.2.2.2.2.2.2.2.2.2.2.2.2.2.2.2.2.2.1 hJ g)
  | 27, _ => exact go_tabIn (pc := 32) C dL_law_32 869 (837) (by decide) (by decide) (by decide) rfl (lc_27 C HX hi hL hA.2.2.2.2.2.2.2.2.2.2.2.2.2.2.2.2.2.2.2.2.2.2.2.2.2.2.2.1 hJ g)
  | 28, _ => exact go_tabIn (pc := 32) C dL_law_32 918 (886) (by decide) (by decide) (by decide) rfl (lc_28 C HX hi hL hA.2.2.2.2.2.2.2.2.2.2.2.2.2.2.2.2.2.2.2.2.2.2.2.2.2.2.2.2.1 hJ g)
  | 29, _ => exact go_tabIn (pc := 32) C dL_law_32 941 (909) (by decide) (by decide) (by decide) rfl (lc_29 C HX hi hL hA.2.2.2.2.2.2.2.2.2.2.2.2.2.2.2.2.2.2.2.2.2.2.2.2.2.2.2.2.2.1 hJ g)
  | 30, _ => exact go_tabIn (pc := 32) C dL_law_32 964 (932) (by decide) (by decide) (by decide) rfl (lc_30 C HX hi hL hA.2.2.2.2.2.2.2.2.2.2.2.2.2.2.2.2.2.2.2.2.2.2.2.2.2.2.2.2.2.2.1 hJ g)
  | 31, _ => exact go_tabIn (pc := 32) C dL_law_32 987 (955) (by decide) (by decide) (by decide) rfl (lc_31 C HX hi hL hA.2.2.2.2.2.2.2.2.2.2.2.2.2.2.2.2.2.2.2.2.2.2.2.2.2.2.2.2.2.2.2.1 hJ g)
  | 32, _ => exact go_tabIn (pc := 32) C dL_law_32 1020 (988) (by decide) (by decide) (by decide) rfl (lc_32 C HX hi hL hA.2.2.2.2.2.2.2.2.2.2.2.2.2.2.2.2.2.2.2.2.2.2.2.2.2.2.2.2.2.2.2.2.1 hJ g)
  | 33, _ => exact go_tabIn (pc := 32) C dL_law_32 1063 (1031) (by decide) (by decide) (by decide) rfl (lc_33 C HX hi hL hA.2.2.2.2.2.2.2.2.2.2.2.2.2.2.2.2.2.2.2.2.2.2.2.2.2.2.2.2.2.2.2.2.2.1 hJ g)
  | 34, _ => exact go_tabIn (pc := 32) C dL_law_32 1086 (1054) (by decide) (by decide) (by decide) rfl (lc_34 C HX hi hL hA.2.2.2.2.2.2.2.2.2.2.2.2.2.2.2.2.2.2.2.2.2.2.2.2.2.2.2.2.2.2.2.2.2.2.1 hJ g)
  | 35, _ => exact go_tabIn (pc := 32) C dL_law_32 1109 (1077) (by decide) (by decide) (by decide) rfl (lc_35 C HX hi hL hA.2.2.2.2.2.2.2.2.2.2.2.2.2.2.2.2.2.2.2.2.2.2.2.2.2.2.2.2.2.2.2.2.2.2.2.1 hJ g)
  | 36, _ => exact go_tabIn (pc := 32) C dL_law_32 1152 (1120) (by decide) (by decide) (by decide) rfl (lc_36 C HX hi hL hA.2.2.2.2.2.2.2.2.2.2.2.2.2.2.2.2.2.2.2.2.2.2.2.2.2.2.2.2.2.2.2.2.2.2.2.2.1 hJ g)
  | 37, _ => exact go_tabIn (pc := 32) C dL_law_32 1195 (1163) (by decide) (by decide) (by decide) rfl (lc_37 C HX hi hL hA.2.2.2.2.2.2.2.2.2.2.2.2.2.2.2.2.2.2.2.2.2.2.2.2.2.2.2.2.2.2.2.2.2.2.2.2.2.1 hJ g)
  | 38, _ => exact go_tabIn (pc := 32) C dL_law_32 1248 (1216) (by decide) (by decide) (by decide) rfl (lc_38 C HX hi hL hA.2.2.2.2.2.2.2.2.2.2.2.2.2.2.2.2.2.2.2.2.2.2.2.2.2.2.2.2.2.2.2.2.2.2.2.2.2.2.1 hJ g)
  | 39, _ => exact go_tabIn (pc := 32) C dL_law_32 1261 (1229) (by decide) (by decide) (by decide) rfl (lc_39 C HX hi hL hA.2.2.2.2.2.2.2.2.2.2.2.2.2.2.2.2.2.2.2.2.2.2.2.2.2.2.2.2.2.2.2.2.2.2.2.2.2.2.2 hJ g)
  | k + 40, hk => exact absurd hk (by omega)
theorem lx_gt {i L : Nat} (h : L < i + 5) (hi : i ≤ 400) (hL : L ≤ 320) : nI L - 5 < nI i := by
  rw [Int32.lt_iff_toInt_lt, nI_toInt (by omega)]
  have h1 := pk_sub_toInt (a := L) (b := 5) (by omega) (by omega)
  have e : nI 5 = (5 : Int32) := rfl
  rw [e] at h1
  omega
set_option maxRecDepth 100000 in
set_option maxHeartbeats 4000000 in
theorem lc_loop {X : tq_Cx} {b L : Nat} {xs : Nat → Int32} {J : tq_St → Prop} (C : tq_C X cL_law 4 RL 40) (HX : tq_SX X b L xs) (hL : L ≤ 320) (hA : st_all J) (hend : ∀ (S : tq_St) (lv : List (Nat × Value)), J S → Go X 4 S 1291 lv [.int 1]) : ∀ (f i : Nat) (S : tq_St), L + 5 ≤ i + 5 * f + 4 → i ≤ 400 → J S → Go X 4 S 18 [(3, .int (nI i)), (2, .ref ((tq_la X).1 28 0)), (1, .ref ((tq_la X).1 27 0)), (0, .ref b)] [] := by
  intro f
  induction f with
  | zero =>
    intro i S h1 h2 hJ
    refine go_iload_n (pc := 18) C dL_law_18 0 rfl rfl ?_
    refine go_aload_n (pc := 19) C dL_law_19 3 rfl rfl ?_
    refine go_slen (pc := 20) C HX dL_law_20 ?_
    refine go_iconst (pc := 21) (v := 5) C dL_law_21 (by decide) ?_
    refine go_isub (pc := 22) C dL_law_22 ?_
    refine go_ic_gt (pc := 23) C dL_law_23 1290 (by decide) (fun c => ?_) (fun c => absurd (lx_gt (by omega) (by omega) (by omega)) c)
    refine go_iconst (pc := 1290) (v := 1) C dL_law_1290 (by decide) ?_
    exact hend S _ hJ
  | succ f ih =>
    intro i S h1 h2 hJ
    refine go_iload_n (pc := 18) C dL_law_18 0 rfl rfl ?_
    refine go_aload_n (pc := 19) C dL_law_19 3 rfl rfl ?_
    refine go_slen (pc := 20) C HX dL_law_20 ?_
    refine go_iconst (pc := 21) (v := 5) C dL_law_21 (by decide) ?_
    refine go_isub (pc := 22) C dL_law_22 ?_
    refine go_ic_gt (pc := 23) C dL_law_23 1290 (by decide) (fun c => ?_) (fun c => ?_)
    · refine go_iconst (pc := 1290) (v := 1) C dL_law_1290 (by decide) ?_
      exact hend S _ hJ
    · have hi : i + 5 ≤ L := by
        rcases Nat.lt_or_ge L (i + 5) with z | z
        · exact absurd (lx_gt z (by omega) (by omega)) c
        · exact z
      refine go_aload_n (pc := 26) C dL_law_26 3 rfl rfl ?_
      refine go_iload_n (pc := 27) C dL_law_27 0 rfl rfl ?_
      refine go_sld (pc := 28) C HX (vp_in_nI (by omega) (by omega)) dL_law_28 ?_
      refine go_bipush (pc := 29) (v := 63) C dL_law_29 (by decide) ?_
      refine go_iand (pc := 31) C dL_law_31 ?_
      refine lc_sw C HX hi hL hA hJ (fun S2 hJ2 => ?_)
      refine go_iinc (pc := 1284) (j := 0) (v := nI (i + 5)) C dL_law_1284 [(3, .int (nI (i + 5))), (2, .ref ((tq_la X).1 28 0)), (1, .ref ((tq_la X).1 27 0)), (0, .ref b)] rfl (nI_add i 5) (by decide) rfl ?_
      refine go_goto (pc := 1287) C dL_law_1287 18 (by decide) ?_
      exact ih (i + 5) S2 (by omega) (by omega) hJ2
