section LAW
variable {X : tq_Cx} {cc : ByteArray} {nL : Nat} {own : String} {kr : Nat} {S : tq_St} {pc : Nat} {lv : List (Nat × Value)} {st : List Value} {b L : Nat} {xs : Nat → Int32}
/-- the script -/
def tq_SX (X : tq_Cx) (b L : Nat) (xs : Nat → Int32) : Prop := match X with
  | (_, _, _, _, s, _, _, _, _, _, A, _, _, _) => va_X b L xs s s.heap ∧ b < s.heap.size ∧ ¬ A b
theorem go_sld (C : tq_C X cc nL own kr) (HX : tq_SX X b L xs) {i : Int32} (hin : vp_in i L) (hd : decode cc pc = .ok (.iaload, 1)) (g : Go X nL S (pc + 1) lv (.int (xs i.toNatClampNeg) :: st)) : Go X nL S pc lv (.int i :: .ref b :: st) := by
  obtain ⟨p, l, e, R, s, m, args, below, meth, c, A, a, z, Q⟩ := X
  exact fun H locs ls hP hD hS hl => va_sld C.1 C.2.1 HX.1 HX.2.1 HX.2.2 hS hin hd (g H locs ls hP hD hS hl)
theorem go_slen (C : tq_C X cc nL own kr) (HX : tq_SX X b L xs) (hd : decode cc pc = .ok (.arraylength, 1)) (g : Go X nL S (pc + 1) lv (.int (nI L) :: st)) : Go X nL S pc lv (.ref b :: st) := by
  obtain ⟨p, l, e, R, s, m, args, below, meth, c, A, a, z, Q⟩ := X
  exact fun H locs ls hP hD hS hl => va_slen C.1 C.2.1 HX.1 HX.2.1 HX.2.2 hS hd (g H locs ls hP hD hS hl)
theorem lx_in {i k L : Nat} (hi : i + 5 ≤ L) (hk : k < 5) (hL : L ≤ 320) : vp_in (nI i + nI k) L := by
  rw [nI_add]
  exact vp_in_nI (by omega) (by omega)
theorem lx_cmp {x y : Int64} (h : x = y) : lg_cmp x y = 0 := by subst h; simp [lg_cmp]
end LAW
theorem cw_L_13 : tq_Wv RL 13 RX6 yX6_feed cX6_feed 2 (some .int) 1 := tq_wv (tb_2 (List.mem_of_getElem? (i := 27) rfl)) (tb_2 (List.mem_of_getElem? (i := 28) rfl)) (tb_2 (List.mem_of_getElem? (i := 29) rfl)) (tb_1 (List.mem_of_getElem? (i := 1) rfl)) (tb_2 (List.mem_of_getElem? (i := 30) rfl)) (by decide +kernel)
theorem cw_L_17 : tq_Wv RL 17 RX7 yX7_feed cX7_feed 2 (some .int) 1 := tq_wv (tb_4 (List.mem_of_getElem? (i := 158) rfl)) (tb_4 (List.mem_of_getElem? (i := 159) rfl)) (tb_4 (List.mem_of_getElem? (i := 160) rfl)) (tb_1 (List.mem_of_getElem? (i := 8) rfl)) (tb_4 (List.mem_of_getElem? (i := 161) rfl)) (by decide +kernel)
theorem cw_L_18 : tq_Wv RL 18 RX6 yX6_end cX6_end 3 (some .int) 1 := tq_wv (tb_2 (List.mem_of_getElem? (i := 35) rfl)) (tb_2 (List.mem_of_getElem? (i := 36) rfl)) (tb_2 (List.mem_of_getElem? (i := 37) rfl)) (tb_1 (List.mem_of_getElem? (i := 1) rfl)) (tb_2 (List.mem_of_getElem? (i := 38) rfl)) (by decide +kernel)
theorem cw_L_21 : tq_Wv RL 21 RX7 yX7_end cX7_end 3 (some .int) 1 := tq_wv (tb_4 (List.mem_of_getElem? (i := 166) rfl)) (tb_4 (List.mem_of_getElem? (i := 167) rfl)) (tb_4 (List.mem_of_getElem? (i := 168) rfl)) (tb_1 (List.mem_of_getElem? (i := 8) rfl)) (tb_4 (List.mem_of_getElem? (i := 169) rfl)) (by decide +kernel)
theorem cw_L_22 : tq_Wv RL 22 RX6 yX6_text cX6_text 3 (some .int) 0 := tq_wv (tb_2 (List.mem_of_getElem? (i := 39) rfl)) (tb_2 (List.mem_of_getElem? (i := 40) rfl)) (tb_2 (List.mem_of_getElem? (i := 41) rfl)) (tb_1 (List.mem_of_getElem? (i := 1) rfl)) (tb_2 (List.mem_of_getElem? (i := 42) rfl)) (by decide +kernel)
theorem cw_L_26 : tq_Wv RL 26 RX7 yX7_text cX7_text 3 (some .int) 0 := tq_wv (tb_4 (List.mem_of_getElem? (i := 170) rfl)) (tb_4 (List.mem_of_getElem? (i := 171) rfl)) (tb_4 (List.mem_of_getElem? (i := 172) rfl)) (tb_1 (List.mem_of_getElem? (i := 8) rfl)) (tb_4 (List.mem_of_getElem? (i := 173) rfl)) (by decide +kernel)
theorem cw_L_27 : tq_Wv RL 27 RX6 yX6_fault cX6_fault 1 (some .int) 0 := tq_wv (tb_2 (List.mem_of_getElem? (i := 179) rfl)) (tb_2 (List.mem_of_getElem? (i := 180) rfl)) (tb_2 (List.mem_of_getElem? (i := 181) rfl)) (tb_1 (List.mem_of_getElem? (i := 1) rfl)) (tb_2 (List.mem_of_getElem? (i := 182) rfl)) (by decide +kernel)
theorem cw_L_30 : tq_Wv RL 30 RX7 yX7_fault cX7_fault 1 (some .int) 0 := tq_wv (tb_4 (List.mem_of_getElem? (i := 211) rfl)) (tb_4 (List.mem_of_getElem? (i := 212) rfl)) (tb_4 (List.mem_of_getElem? (i := 213) rfl)) (tb_1 (List.mem_of_getElem? (i := 8) rfl)) (tb_4 (List.mem_of_getElem? (i := 214) rfl)) (by decide +kernel)
theorem cw_L_31 : tq_Wv RL 31 RX6 yX6_rule cX6_rule 2 (some .int) 1 := tq_wv (tb_2 (List.mem_of_getElem? (i := 183) rfl)) (tb_2 (List.mem_of_getElem? (i := 184) rfl)) (tb_2 (List.mem_of_getElem? (i := 185) rfl)) (tb_1 (List.mem_of_getElem? (i := 1) rfl)) (tb_2 (List.mem_of_getElem? (i := 186) rfl)) (by decide +kernel)
theorem cw_L_34 : tq_Wv RL 34 RX7 yX7_rule cX7_rule 2 (some .int) 1 := tq_wv (tb_4 (List.mem_of_getElem? (i := 215) rfl)) (tb_4 (List.mem_of_getElem? (i := 216) rfl)) (tb_4 (List.mem_of_getElem? (i := 217) rfl)) (tb_1 (List.mem_of_getElem? (i := 8) rfl)) (tb_4 (List.mem_of_getElem? (i := 218) rfl)) (by decide +kernel)
theorem cw_L_35 : tq_Wv RL 35 RX6 yX6_one cX6_one 3 (some .int) 2 := tq_wv (tb_2 (List.mem_of_getElem? (i := 199) rfl)) (tb_2 (List.mem_of_getElem? (i := 200) rfl)) (tb_2 (List.mem_of_getElem? (i := 201) rfl)) (tb_1 (List.mem_of_getElem? (i := 1) rfl)) (tb_2 (List.mem_of_getElem? (i := 202) rfl)) (by decide +kernel)
theorem cw_L_39 : tq_Wv RL 39 RX7 yX7_one cX7_one 3 (some .int) 2 := tq_wv (tb_4 (List.mem_of_getElem? (i := 231) rfl)) (tb_4 (List.mem_of_getElem? (i := 232) rfl)) (tb_4 (List.mem_of_getElem? (i := 233) rfl)) (tb_1 (List.mem_of_getElem? (i := 8) rfl)) (tb_4 (List.mem_of_getElem? (i := 234) rfl)) (by decide +kernel)
theorem cw_L_40 : tq_Wv RL 40 RX6 yX6_act cX6_act 2 (some .int) 1 := tq_wv (tb_2 (List.mem_of_getElem? (i := 215) rfl)) (tb_2 (List.mem_of_getElem? (i := 216) rfl)) (tb_2 (List.mem_of_getElem? (i := 217) rfl)) (tb_1 (List.mem_of_getElem? (i := 1) rfl)) (tb_2 (List.mem_of_getElem? (i := 218) rfl)) (by decide +kernel)
theorem cw_L_43 : tq_Wv RL 43 RX7 yX7_act cX7_act 2 (some .int) 1 := tq_wv (tb_5 (List.mem_of_getElem? (i := 2) rfl)) (tb_5 (List.mem_of_getElem? (i := 3) rfl)) (tb_5 (List.mem_of_getElem? (i := 4) rfl)) (tb_1 (List.mem_of_getElem? (i := 8) rfl)) (tb_5 (List.mem_of_getElem? (i := 5) rfl)) (by decide +kernel)
theorem cw_L_44 : tq_Wv RL 44 RX6 yX6_queue cX6_queue 2 (some .int) 1 := tq_wv (tb_2 (List.mem_of_getElem? (i := 219) rfl)) (tb_2 (List.mem_of_getElem? (i := 220) rfl)) (tb_2 (List.mem_of_getElem? (i := 221) rfl)) (tb_1 (List.mem_of_getElem? (i := 1) rfl)) (tb_2 (List.mem_of_getElem? (i := 222) rfl)) (by decide +kernel)
theorem cw_L_47 : tq_Wv RL 47 RX7 yX7_queue cX7_queue 5 (some .int) 1 := tq_wv (tb_5 (List.mem_of_getElem? (i := 6) rfl)) (tb_5 (List.mem_of_getElem? (i := 7) rfl)) (tb_5 (List.mem_of_getElem? (i := 8) rfl)) (tb_1 (List.mem_of_getElem? (i := 8) rfl)) (tb_5 (List.mem_of_getElem? (i := 9) rfl)) (by decide +kernel)
theorem cw_L_48 : tq_Wv RL 48 RX6 yX6_alter cX6_alter 5 (some .int) 3 := tq_wv (tb_2 (List.mem_of_getElem? (i := 235) rfl)) (tb_2 (List.mem_of_getElem? (i := 236) rfl)) (tb_2 (List.mem_of_getElem? (i := 237) rfl)) (tb_1 (List.mem_of_getElem? (i := 1) rfl)) (tb_2 (List.mem_of_getElem? (i := 238) rfl)) (by decide +kernel)
theorem cw_L_52 : tq_Wv RL 52 RX7 yX7_alter cX7_alter 4 (some .int) 3 := tq_wv (tb_5 (List.mem_of_getElem? (i := 19) rfl)) (tb_5 (List.mem_of_getElem? (i := 20) rfl)) (tb_5 (List.mem_of_getElem? (i := 21) rfl)) (tb_1 (List.mem_of_getElem? (i := 8) rfl)) (tb_5 (List.mem_of_getElem? (i := 22) rfl)) (by decide +kernel)
theorem cw_L_53 : tq_Wv RL 53 RX6 yX6_room cX6_room 3 (some .int) 1 := tq_wv (tb_2 (List.mem_of_getElem? (i := 239) rfl)) (tb_3 (List.mem_of_getElem? (i := 0) rfl)) (tb_3 (List.mem_of_getElem? (i := 1) rfl)) (tb_1 (List.mem_of_getElem? (i := 1) rfl)) (tb_3 (List.mem_of_getElem? (i := 2) rfl)) (by decide +kernel)
theorem cw_L_56 : tq_Wv RL 56 RX7 yX7_room cX7_room 2 (some .int) 1 := tq_wv (tb_5 (List.mem_of_getElem? (i := 29) rfl)) (tb_5 (List.mem_of_getElem? (i := 30) rfl)) (tb_5 (List.mem_of_getElem? (i := 31) rfl)) (tb_1 (List.mem_of_getElem? (i := 8) rfl)) (tb_5 (List.mem_of_getElem? (i := 32) rfl)) (by decide +kernel)
theorem cw_L_57 : tq_Wv RL 57 RX6 yX6_think cX6_think 3 (some .int) 1 := tq_wv (tb_3 (List.mem_of_getElem? (i := 3) rfl)) (tb_3 (List.mem_of_getElem? (i := 4) rfl)) (tb_3 (List.mem_of_getElem? (i := 5) rfl)) (tb_1 (List.mem_of_getElem? (i := 1) rfl)) (tb_3 (List.mem_of_getElem? (i := 6) rfl)) (by decide +kernel)
theorem cw_L_60 : tq_Wv RL 60 RX7 yX7_think cX7_think 2 (some .int) 1 := tq_wv (tb_5 (List.mem_of_getElem? (i := 34) rfl)) (tb_5 (List.mem_of_getElem? (i := 35) rfl)) (tb_5 (List.mem_of_getElem? (i := 36) rfl)) (tb_1 (List.mem_of_getElem? (i := 8) rfl)) (tb_5 (List.mem_of_getElem? (i := 37) rfl)) (by decide +kernel)
theorem cw_L_61 : tq_Wv RL 61 RX6 yX6_plan cX6_plan 2 (some .int) 1 := tq_wv (tb_3 (List.mem_of_getElem? (i := 7) rfl)) (tb_3 (List.mem_of_getElem? (i := 8) rfl)) (tb_3 (List.mem_of_getElem? (i := 9) rfl)) (tb_1 (List.mem_of_getElem? (i := 1) rfl)) (tb_3 (List.mem_of_getElem? (i := 10) rfl)) (by decide +kernel)
theorem cw_L_64 : tq_Wv RL 64 RX7 yX7_plan cX7_plan 2 (some .int) 1 := tq_wv (tb_5 (List.mem_of_getElem? (i := 39) rfl)) (tb_5 (List.mem_of_getElem? (i := 40) rfl)) (tb_5 (List.mem_of_getElem? (i := 41) rfl)) (tb_1 (List.mem_of_getElem? (i := 8) rfl)) (tb_5 (List.mem_of_getElem? (i := 42) rfl)) (by decide +kernel)
theorem cw_L_65 : tq_Wv RL 65 RX6 yX6_cut cX6_cut 3 (some .int) 1 := tq_wv (tb_3 (List.mem_of_getElem? (i := 13) rfl)) (tb_3 (List.mem_of_getElem? (i := 14) rfl)) (tb_3 (List.mem_of_getElem? (i := 15) rfl)) (tb_1 (List.mem_of_getElem? (i := 1) rfl)) (tb_3 (List.mem_of_getElem? (i := 16) rfl)) (by decide +kernel)
theorem cw_L_68 : tq_Wv RL 68 RX7 yX7_cut cX7_cut 2 (some .int) 1 := tq_wv (tb_5 (List.mem_of_getElem? (i := 47) rfl)) (tb_5 (List.mem_of_getElem? (i := 48) rfl)) (tb_5 (List.mem_of_getElem? (i := 49) rfl)) (tb_1 (List.mem_of_getElem? (i := 8) rfl)) (tb_5 (List.mem_of_getElem? (i := 50) rfl)) (by decide +kernel)
theorem cw_L_69 : tq_Wv RL 69 RX6 yX6_thinks cX6_thinks 2 (some .int) 1 := tq_wv (tb_3 (List.mem_of_getElem? (i := 17) rfl)) (tb_3 (List.mem_of_getElem? (i := 18) rfl)) (tb_3 (List.mem_of_getElem? (i := 19) rfl)) (tb_1 (List.mem_of_getElem? (i := 1) rfl)) (tb_3 (List.mem_of_getElem? (i := 20) rfl)) (by decide +kernel)
theorem cw_L_72 : tq_Wv RL 72 RX7 yX7_thinks cX7_thinks 2 (some .int) 1 := tq_wv (tb_5 (List.mem_of_getElem? (i := 51) rfl)) (tb_5 (List.mem_of_getElem? (i := 52) rfl)) (tb_5 (List.mem_of_getElem? (i := 53) rfl)) (tb_1 (List.mem_of_getElem? (i := 8) rfl)) (tb_5 (List.mem_of_getElem? (i := 54) rfl)) (by decide +kernel)
theorem cw_L_73 : tq_Wv RL 73 RX6 yX6_minutes cX6_minutes 3 (some .int) 1 := tq_wv (tb_3 (List.mem_of_getElem? (i := 51) rfl)) (tb_3 (List.mem_of_getElem? (i := 52) rfl)) (tb_3 (List.mem_of_getElem? (i := 53) rfl)) (tb_1 (List.mem_of_getElem? (i := 1) rfl)) (tb_3 (List.mem_of_getElem? (i := 54) rfl)) (by decide +kernel)
theorem cw_L_76 : tq_Wv RL 76 RX7 yX7_minutes cX7_minutes 3 (some .int) 1 := tq_wv (tb_5 (List.mem_of_getElem? (i := 71) rfl)) (tb_5 (List.mem_of_getElem? (i := 72) rfl)) (tb_5 (List.mem_of_getElem? (i := 73) rfl)) (tb_1 (List.mem_of_getElem? (i := 8) rfl)) (tb_5 (List.mem_of_getElem? (i := 74) rfl)) (by decide +kernel)
theorem cw_L_77 : tq_Wv RL 77 RX6 yX6_tram cX6_tram 1 (some .int) 0 := tq_wv (tb_3 (List.mem_of_getElem? (i := 62) rfl)) (tb_3 (List.mem_of_getElem? (i := 63) rfl)) (tb_3 (List.mem_of_getElem? (i := 64) rfl)) (tb_1 (List.mem_of_getElem? (i := 1) rfl)) (tb_3 (List.mem_of_getElem? (i := 65) rfl)) (by decide +kernel)
theorem cw_L_80 : tq_Wv RL 80 RX7 yX7_tram cX7_tram 1 (some .int) 0 := tq_wv (tb_5 (List.mem_of_getElem? (i := 80) rfl)) (tb_5 (List.mem_of_getElem? (i := 81) rfl)) (tb_5 (List.mem_of_getElem? (i := 82) rfl)) (tb_1 (List.mem_of_getElem? (i := 8) rfl)) (tb_5 (List.mem_of_getElem? (i := 83) rfl)) (by decide +kernel)
theorem cw_L_81 : tq_Wv RL 81 RX6 yX6_joy cX6_joy 3 (some .int) 1 := tq_wv (tb_3 (List.mem_of_getElem? (i := 70) rfl)) (tb_3 (List.mem_of_getElem? (i := 71) rfl)) (tb_3 (List.mem_of_getElem? (i := 72) rfl)) (tb_1 (List.mem_of_getElem? (i := 1) rfl)) (tb_3 (List.mem_of_getElem? (i := 73) rfl)) (by decide +kernel)
theorem cw_L_84 : tq_Wv RL 84 RX7 yX7_joy cX7_joy 3 (some .int) 1 := tq_wv (tb_5 (List.mem_of_getElem? (i := 88) rfl)) (tb_5 (List.mem_of_getElem? (i := 89) rfl)) (tb_5 (List.mem_of_getElem? (i := 90) rfl)) (tb_1 (List.mem_of_getElem? (i := 8) rfl)) (tb_5 (List.mem_of_getElem? (i := 91) rfl)) (by decide +kernel)
theorem cw_L_85 : tq_Wv RL 85 RX6 yX6_second cX6_second 2 (some .int) 0 := tq_wv (tb_3 (List.mem_of_getElem? (i := 74) rfl)) (tb_3 (List.mem_of_getElem? (i := 75) rfl)) (tb_3 (List.mem_of_getElem? (i := 76) rfl)) (tb_1 (List.mem_of_getElem? (i := 1) rfl)) (tb_3 (List.mem_of_getElem? (i := 77) rfl)) (by decide +kernel)
theorem cw_L_88 : tq_Wv RL 88 RX7 yX7_second cX7_second 2 (some .int) 0 := tq_wv (tb_5 (List.mem_of_getElem? (i := 92) rfl)) (tb_5 (List.mem_of_getElem? (i := 93) rfl)) (tb_5 (List.mem_of_getElem? (i := 94) rfl)) (tb_1 (List.mem_of_getElem? (i := 8) rfl)) (tb_5 (List.mem_of_getElem? (i := 95) rfl)) (by decide +kernel)
theorem cw_L_89 : tq_Wv RL 89 RX6 yX6_runs cX6_runs 2 (some .int) 1 := tq_wv (tb_3 (List.mem_of_getElem? (i := 79) rfl)) (tb_3 (List.mem_of_getElem? (i := 80) rfl)) (tb_3 (List.mem_of_getElem? (i := 81) rfl)) (tb_1 (List.mem_of_getElem? (i := 1) rfl)) (tb_3 (List.mem_of_getElem? (i := 82) rfl)) (by decide +kernel)
theorem cw_L_92 : tq_Wv RL 92 RX7 yX7_runs cX7_runs 2 (some .int) 1 := tq_wv (tb_5 (List.mem_of_getElem? (i := 99) rfl)) (tb_5 (List.mem_of_getElem? (i := 100) rfl)) (tb_5 (List.mem_of_getElem? (i := 101) rfl)) (tb_1 (List.mem_of_getElem? (i := 8) rfl)) (tb_5 (List.mem_of_getElem? (i := 102) rfl)) (by decide +kernel)
theorem cw_L_93 : tq_Wv RL 93 RX6 yX6_ahead cX6_ahead 3 (some .int) 2 := tq_wv (tb_3 (List.mem_of_getElem? (i := 99) rfl)) (tb_3 (List.mem_of_getElem? (i := 100) rfl)) (tb_3 (List.mem_of_getElem? (i := 101) rfl)) (tb_1 (List.mem_of_getElem? (i := 1) rfl)) (tb_3 (List.mem_of_getElem? (i := 102) rfl)) (by decide +kernel)
theorem cw_L_96 : tq_Wv RL 96 RX7 yX7_ahead cX7_ahead 3 (some .int) 2 := tq_wv (tb_5 (List.mem_of_getElem? (i := 119) rfl)) (tb_5 (List.mem_of_getElem? (i := 120) rfl)) (tb_5 (List.mem_of_getElem? (i := 121) rfl)) (tb_1 (List.mem_of_getElem? (i := 8) rfl)) (tb_5 (List.mem_of_getElem? (i := 122) rfl)) (by decide +kernel)
theorem cw_L_97 : tq_Wv RL 97 RX6 yX6_soon cX6_soon 3 (some .int) 1 := tq_wv (tb_3 (List.mem_of_getElem? (i := 106) rfl)) (tb_3 (List.mem_of_getElem? (i := 107) rfl)) (tb_3 (List.mem_of_getElem? (i := 108) rfl)) (tb_1 (List.mem_of_getElem? (i := 1) rfl)) (tb_3 (List.mem_of_getElem? (i := 109) rfl)) (by decide +kernel)
theorem cw_L_100 : tq_Wv RL 100 RX7 yX7_soon cX7_soon 3 (some .int) 1 := tq_wv (tb_5 (List.mem_of_getElem? (i := 123) rfl)) (tb_5 (List.mem_of_getElem? (i := 124) rfl)) (tb_5 (List.mem_of_getElem? (i := 125) rfl)) (tb_1 (List.mem_of_getElem? (i := 8) rfl)) (tb_5 (List.mem_of_getElem? (i := 126) rfl)) (by decide +kernel)
theorem cw_L_101 : tq_Wv RL 101 RX6 yX6_best cX6_best 3 (some .int) 2 := tq_wv (tb_3 (List.mem_of_getElem? (i := 110) rfl)) (tb_3 (List.mem_of_getElem? (i := 111) rfl)) (tb_3 (List.mem_of_getElem? (i := 112) rfl)) (tb_1 (List.mem_of_getElem? (i := 1) rfl)) (tb_3 (List.mem_of_getElem? (i := 113) rfl)) (by decide +kernel)
theorem cw_L_104 : tq_Wv RL 104 RX7 yX7_best cX7_best 9 (some .int) 2 := tq_wv (tb_5 (List.mem_of_getElem? (i := 127) rfl)) (tb_5 (List.mem_of_getElem? (i := 128) rfl)) (tb_5 (List.mem_of_getElem? (i := 129) rfl)) (tb_1 (List.mem_of_getElem? (i := 8) rfl)) (tb_5 (List.mem_of_getElem? (i := 130) rfl)) (by decide +kernel)
theorem cw_L_105 : tq_Wv RL 105 RX6 yX6_home cX6_home 4 (some .int) 2 := tq_wv (tb_3 (List.mem_of_getElem? (i := 135) rfl)) (tb_3 (List.mem_of_getElem? (i := 136) rfl)) (tb_3 (List.mem_of_getElem? (i := 137) rfl)) (tb_1 (List.mem_of_getElem? (i := 1) rfl)) (tb_3 (List.mem_of_getElem? (i := 138) rfl)) (by decide +kernel)
theorem cw_L_108 : tq_Wv RL 108 RX7 yX7_home cX7_home 5 (some .int) 2 := tq_wv (tb_5 (List.mem_of_getElem? (i := 143) rfl)) (tb_5 (List.mem_of_getElem? (i := 144) rfl)) (tb_5 (List.mem_of_getElem? (i := 145) rfl)) (tb_1 (List.mem_of_getElem? (i := 8) rfl)) (tb_5 (List.mem_of_getElem? (i := 146) rfl)) (by decide +kernel)
theorem cw_L_109 : tq_Wv RL 109 RX6 yX6_swap cX6_swap 7 (some .int) 1 := tq_wv (tb_3 (List.mem_of_getElem? (i := 149) rfl)) (tb_3 (List.mem_of_getElem? (i := 150) rfl)) (tb_3 (List.mem_of_getElem? (i := 151) rfl)) (tb_1 (List.mem_of_getElem? (i := 1) rfl)) (tb_3 (List.mem_of_getElem? (i := 152) rfl)) (by decide +kernel)
theorem cw_L_112 : tq_Wv RL 112 RX7 yX7_swap cX7_swap 6 (some .int) 1 := tq_wv (tb_5 (List.mem_of_getElem? (i := 148) rfl)) (tb_5 (List.mem_of_getElem? (i := 149) rfl)) (tb_5 (List.mem_of_getElem? (i := 150) rfl)) (tb_1 (List.mem_of_getElem? (i := 8) rfl)) (tb_5 (List.mem_of_getElem? (i := 151) rfl)) (by decide +kernel)
theorem cw_L_113 : tq_Wv RL 113 RX6 yX6_enough cX6_enough 2 (some .int) 0 := tq_wv (tb_3 (List.mem_of_getElem? (i := 161) rfl)) (tb_3 (List.mem_of_getElem? (i := 162) rfl)) (tb_3 (List.mem_of_getElem? (i := 163) rfl)) (tb_1 (List.mem_of_getElem? (i := 1) rfl)) (tb_3 (List.mem_of_getElem? (i := 164) rfl)) (by decide +kernel)
theorem cw_L_116 : tq_Wv RL 116 RX7 yX7_enough cX7_enough 2 (some .int) 0 := tq_wv (tb_5 (List.mem_of_getElem? (i := 156) rfl)) (tb_5 (List.mem_of_getElem? (i := 157) rfl)) (tb_5 (List.mem_of_getElem? (i := 158) rfl)) (tb_1 (List.mem_of_getElem? (i := 8) rfl)) (tb_5 (List.mem_of_getElem? (i := 159) rfl)) (by decide +kernel)
theorem cw_L_117 : tq_Wv RL 117 RX6 yX6_luck cX6_luck 4 (some .long) 3 := tq_wv (tb_3 (List.mem_of_getElem? (i := 165) rfl)) (tb_3 (List.mem_of_getElem? (i := 166) rfl)) (tb_3 (List.mem_of_getElem? (i := 167) rfl)) (tb_1 (List.mem_of_getElem? (i := 1) rfl)) (tb_3 (List.mem_of_getElem? (i := 168) rfl)) (by decide +kernel)
theorem cw_L_121 : tq_Wv RL 121 RX7 yX7_luck cX7_luck 4 (some .long) 3 := tq_wv (tb_5 (List.mem_of_getElem? (i := 160) rfl)) (tb_5 (List.mem_of_getElem? (i := 161) rfl)) (tb_5 (List.mem_of_getElem? (i := 162) rfl)) (tb_1 (List.mem_of_getElem? (i := 8) rfl)) (tb_5 (List.mem_of_getElem? (i := 163) rfl)) (by decide +kernel)
theorem cw_L_122 : tq_Wv RL 122 RX6 yX6_mean cX6_mean 6 (some .long) 2 := tq_wv (tb_3 (List.mem_of_getElem? (i := 200) rfl)) (tb_3 (List.mem_of_getElem? (i := 201) rfl)) (tb_3 (List.mem_of_getElem? (i := 202) rfl)) (tb_1 (List.mem_of_getElem? (i := 1) rfl)) (tb_3 (List.mem_of_getElem? (i := 203) rfl)) (by decide +kernel)
theorem cw_L_126 : tq_Wv RL 126 RX7 yX7_mean cX7_mean 3 (some .long) 2 := tq_wv (tb_5 (List.mem_of_getElem? (i := 172) rfl)) (tb_5 (List.mem_of_getElem? (i := 173) rfl)) (tb_5 (List.mem_of_getElem? (i := 174) rfl)) (tb_1 (List.mem_of_getElem? (i := 8) rfl)) (tb_5 (List.mem_of_getElem? (i := 175) rfl)) (by decide +kernel)
theorem cw_L_127 : tq_Wv RL 127 RX6 yX6_see cX6_see 3 (some .int) 2 := tq_wv (tb_3 (List.mem_of_getElem? (i := 204) rfl)) (tb_3 (List.mem_of_getElem? (i := 205) rfl)) (tb_3 (List.mem_of_getElem? (i := 206) rfl)) (tb_1 (List.mem_of_getElem? (i := 1) rfl)) (tb_3 (List.mem_of_getElem? (i := 207) rfl)) (by decide +kernel)
theorem cw_L_131 : tq_Wv RL 131 RX7 yX7_see cX7_see 3 (some .int) 2 := tq_wv (tb_5 (List.mem_of_getElem? (i := 176) rfl)) (tb_5 (List.mem_of_getElem? (i := 177) rfl)) (tb_5 (List.mem_of_getElem? (i := 178) rfl)) (tb_1 (List.mem_of_getElem? (i := 8) rfl)) (tb_5 (List.mem_of_getElem? (i := 179) rfl)) (by decide +kernel)
theorem cw_L_132 : tq_Wv RL 132 RX6 yX6_forget cX6_forget 3 (some .int) 1 := tq_wv (tb_3 (List.mem_of_getElem? (i := 212) rfl)) (tb_3 (List.mem_of_getElem? (i := 213) rfl)) (tb_3 (List.mem_of_getElem? (i := 214) rfl)) (tb_1 (List.mem_of_getElem? (i := 1) rfl)) (tb_3 (List.mem_of_getElem? (i := 215) rfl)) (by decide +kernel)
theorem cw_L_135 : tq_Wv RL 135 RX7 yX7_forget cX7_forget 3 (some .int) 1 := tq_wv (tb_5 (List.mem_of_getElem? (i := 180) rfl)) (tb_5 (List.mem_of_getElem? (i := 181) rfl)) (tb_5 (List.mem_of_getElem? (i := 182) rfl)) (tb_1 (List.mem_of_getElem? (i := 8) rfl)) (tb_5 (List.mem_of_getElem? (i := 183) rfl)) (by decide +kernel)
theorem cw_L_136 : tq_Wv RL 136 RX6 yX6_kinds cX6_kinds 4 (some .int) 1 := tq_wv (tb_3 (List.mem_of_getElem? (i := 216) rfl)) (tb_3 (List.mem_of_getElem? (i := 217) rfl)) (tb_3 (List.mem_of_getElem? (i := 218) rfl)) (tb_1 (List.mem_of_getElem? (i := 1) rfl)) (tb_3 (List.mem_of_getElem? (i := 219) rfl)) (by decide +kernel)
theorem cw_L_139 : tq_Wv RL 139 RX7 yX7_kinds cX7_kinds 5 (some .int) 1 := tq_wv (tb_5 (List.mem_of_getElem? (i := 184) rfl)) (tb_5 (List.mem_of_getElem? (i := 185) rfl)) (tb_5 (List.mem_of_getElem? (i := 186) rfl)) (tb_1 (List.mem_of_getElem? (i := 8) rfl)) (tb_5 (List.mem_of_getElem? (i := 187) rfl)) (by decide +kernel)
theorem cw_L_140 : tq_Wv RL 140 RX6 yX6_sorrows cX6_sorrows 2 (some .int) 1 := tq_wv (tb_3 (List.mem_of_getElem? (i := 224) rfl)) (tb_3 (List.mem_of_getElem? (i := 225) rfl)) (tb_3 (List.mem_of_getElem? (i := 226) rfl)) (tb_1 (List.mem_of_getElem? (i := 1) rfl)) (tb_3 (List.mem_of_getElem? (i := 227) rfl)) (by decide +kernel)
theorem cw_L_143 : tq_Wv RL 143 RX7 yX7_sorrows cX7_sorrows 2 (some .int) 1 := tq_wv (tb_5 (List.mem_of_getElem? (i := 192) rfl)) (tb_5 (List.mem_of_getElem? (i := 193) rfl)) (tb_5 (List.mem_of_getElem? (i := 194) rfl)) (tb_1 (List.mem_of_getElem? (i := 8) rfl)) (tb_5 (List.mem_of_getElem? (i := 195) rfl)) (by decide +kernel)
theorem cw_L_144 : tq_Wv RL 144 RX6 yX6_ask cX6_ask 8 (some .int) 2 := tq_wv (tb_3 (List.mem_of_getElem? (i := 232) rfl)) (tb_3 (List.mem_of_getElem? (i := 233) rfl)) (tb_3 (List.mem_of_getElem? (i := 234) rfl)) (tb_1 (List.mem_of_getElem? (i := 1) rfl)) (tb_3 (List.mem_of_getElem? (i := 235) rfl)) (by decide +kernel)
theorem cw_L_147 : tq_Wv RL 147 RX7 yX7_ask cX7_ask 10 (some .int) 2 := tq_wv (tb_5 (List.mem_of_getElem? (i := 200) rfl)) (tb_5 (List.mem_of_getElem? (i := 201) rfl)) (tb_5 (List.mem_of_getElem? (i := 202) rfl)) (tb_1 (List.mem_of_getElem? (i := 8) rfl)) (tb_5 (List.mem_of_getElem? (i := 203) rfl)) (by decide +kernel)
theorem cw_L_148 : tq_Wv RL 148 RX6 yX6_drift cX6_drift 8 (some .int) 3 := tq_wv (tb_4 (List.mem_of_getElem? (i := 1) rfl)) (tb_4 (List.mem_of_getElem? (i := 2) rfl)) (tb_4 (List.mem_of_getElem? (i := 3) rfl)) (tb_1 (List.mem_of_getElem? (i := 1) rfl)) (tb_4 (List.mem_of_getElem? (i := 4) rfl)) (by decide +kernel)
theorem cw_L_151 : tq_Wv RL 151 RX7 yX7_drift cX7_drift 7 (some .int) 3 := tq_wv (tb_5 (List.mem_of_getElem? (i := 204) rfl)) (tb_5 (List.mem_of_getElem? (i := 205) rfl)) (tb_5 (List.mem_of_getElem? (i := 206) rfl)) (tb_1 (List.mem_of_getElem? (i := 8) rfl)) (tb_5 (List.mem_of_getElem? (i := 207) rfl)) (by decide +kernel)
theorem cw_L_152 : tq_Wv RL 152 RX6 yX6_keep cX6_keep 3 (some .int) 1 := tq_wv (tb_4 (List.mem_of_getElem? (i := 7) rfl)) (tb_4 (List.mem_of_getElem? (i := 8) rfl)) (tb_4 (List.mem_of_getElem? (i := 9) rfl)) (tb_1 (List.mem_of_getElem? (i := 1) rfl)) (tb_4 (List.mem_of_getElem? (i := 10) rfl)) (by decide +kernel)
theorem cw_L_155 : tq_Wv RL 155 RX7 yX7_keep cX7_keep 3 (some .int) 1 := tq_wv (tb_5 (List.mem_of_getElem? (i := 209) rfl)) (tb_5 (List.mem_of_getElem? (i := 210) rfl)) (tb_5 (List.mem_of_getElem? (i := 211) rfl)) (tb_1 (List.mem_of_getElem? (i := 8) rfl)) (tb_5 (List.mem_of_getElem? (i := 212) rfl)) (by decide +kernel)
theorem cw_L_156 : tq_Wv RL 156 RX6 yX6_back cX6_back 2 (some .int) 1 := tq_wv (tb_4 (List.mem_of_getElem? (i := 11) rfl)) (tb_4 (List.mem_of_getElem? (i := 12) rfl)) (tb_4 (List.mem_of_getElem? (i := 13) rfl)) (tb_1 (List.mem_of_getElem? (i := 1) rfl)) (tb_4 (List.mem_of_getElem? (i := 14) rfl)) (by decide +kernel)
theorem cw_L_159 : tq_Wv RL 159 RX7 yX7_back cX7_back 2 (some .int) 1 := tq_wv (tb_5 (List.mem_of_getElem? (i := 213) rfl)) (tb_5 (List.mem_of_getElem? (i := 214) rfl)) (tb_5 (List.mem_of_getElem? (i := 215) rfl)) (tb_1 (List.mem_of_getElem? (i := 8) rfl)) (tb_5 (List.mem_of_getElem? (i := 216) rfl)) (by decide +kernel)
theorem cw_L_160 : tq_Wv RL 160 RX6 yX6_sheet cX6_sheet 4 (some .int) 3 := tq_wv (tb_4 (List.mem_of_getElem? (i := 15) rfl)) (tb_4 (List.mem_of_getElem? (i := 16) rfl)) (tb_4 (List.mem_of_getElem? (i := 17) rfl)) (tb_1 (List.mem_of_getElem? (i := 1) rfl)) (tb_4 (List.mem_of_getElem? (i := 18) rfl)) (by decide +kernel)
theorem cw_L_163 : tq_Wv RL 163 RX7 yX7_sheet cX7_sheet 5 (some .int) 3 := tq_wv (tb_5 (List.mem_of_getElem? (i := 217) rfl)) (tb_5 (List.mem_of_getElem? (i := 218) rfl)) (tb_5 (List.mem_of_getElem? (i := 219) rfl)) (tb_1 (List.mem_of_getElem? (i := 8) rfl)) (tb_5 (List.mem_of_getElem? (i := 220) rfl)) (by decide +kernel)
theorem cw_L_164 : tq_Wv RL 164 RX6 yX6_lay cX6_lay 6 (some .int) 3 := tq_wv (tb_4 (List.mem_of_getElem? (i := 32) rfl)) (tb_4 (List.mem_of_getElem? (i := 33) rfl)) (tb_4 (List.mem_of_getElem? (i := 34) rfl)) (tb_1 (List.mem_of_getElem? (i := 1) rfl)) (tb_4 (List.mem_of_getElem? (i := 35) rfl)) (by decide +kernel)
theorem cw_L_167 : tq_Wv RL 167 RX7 yX7_lay cX7_lay 4 (some .int) 3 := tq_wv (tb_5 (List.mem_of_getElem? (i := 222) rfl)) (tb_5 (List.mem_of_getElem? (i := 223) rfl)) (tb_5 (List.mem_of_getElem? (i := 224) rfl)) (tb_1 (List.mem_of_getElem? (i := 8) rfl)) (tb_5 (List.mem_of_getElem? (i := 225) rfl)) (by decide +kernel)
theorem cw_L_168 : tq_Wv RL 168 RX6 yX6_read cX6_read 8 (some .int) 4 := tq_wv (tb_4 (List.mem_of_getElem? (i := 44) rfl)) (tb_4 (List.mem_of_getElem? (i := 45) rfl)) (tb_4 (List.mem_of_getElem? (i := 46) rfl)) (tb_1 (List.mem_of_getElem? (i := 1) rfl)) (tb_4 (List.mem_of_getElem? (i := 47) rfl)) (by decide +kernel)
theorem cw_L_172 : tq_Wv RL 172 RX7 yX7_read cX7_read 8 (some .int) 4 := tq_wv (tb_5 (List.mem_of_getElem? (i := 226) rfl)) (tb_5 (List.mem_of_getElem? (i := 227) rfl)) (tb_5 (List.mem_of_getElem? (i := 228) rfl)) (tb_1 (List.mem_of_getElem? (i := 8) rfl)) (tb_5 (List.mem_of_getElem? (i := 229) rfl)) (by decide +kernel)
theorem cw_L_173 : tq_Wv RL 173 RX6 yX6_torn cX6_torn 1 (some .int) 0 := tq_wv (tb_4 (List.mem_of_getElem? (i := 48) rfl)) (tb_4 (List.mem_of_getElem? (i := 49) rfl)) (tb_4 (List.mem_of_getElem? (i := 50) rfl)) (tb_1 (List.mem_of_getElem? (i := 1) rfl)) (tb_4 (List.mem_of_getElem? (i := 51) rfl)) (by decide +kernel)
theorem cw_L_176 : tq_Wv RL 176 RX7 yX7_torn cX7_torn 1 (some .int) 0 := tq_wv (tb_5 (List.mem_of_getElem? (i := 235) rfl)) (tb_5 (List.mem_of_getElem? (i := 236) rfl)) (tb_5 (List.mem_of_getElem? (i := 237) rfl)) (tb_1 (List.mem_of_getElem? (i := 8) rfl)) (tb_5 (List.mem_of_getElem? (i := 238) rfl)) (by decide +kernel)
theorem cw_L_177 : tq_Wv RL 177 RX6 yX6_count cX6_count 2 (some .int) 1 := tq_wv (tb_4 (List.mem_of_getElem? (i := 52) rfl)) (tb_4 (List.mem_of_getElem? (i := 53) rfl)) (tb_4 (List.mem_of_getElem? (i := 54) rfl)) (tb_1 (List.mem_of_getElem? (i := 1) rfl)) (tb_4 (List.mem_of_getElem? (i := 55) rfl)) (by decide +kernel)
theorem cw_L_180 : tq_Wv RL 180 RX7 yX7_count cX7_count 5 (some .int) 1 := tq_wv (tb_5 (List.mem_of_getElem? (i := 239) rfl)) (tb_6 (List.mem_of_getElem? (i := 0) rfl)) (tb_6 (List.mem_of_getElem? (i := 1) rfl)) (tb_1 (List.mem_of_getElem? (i := 8) rfl)) (tb_6 (List.mem_of_getElem? (i := 2) rfl)) (by decide +kernel)
set_option maxRecDepth 100000 in
set_option maxHeartbeats 4000000 in
theorem lc_0 {X : tq_Cx} {S : tq_St} {b L i : Nat} {xs : Nat → Int32} {J : tq_St → Prop} (C : tq_C X cL_law 4 RL 40) (HX : tq_SX X b L xs) (hi : i + 5 ≤ L) (hL : L ≤ 320) (h : st_feed J) (hJ : J S) (g : ∀ S2 : tq_St, J S2 → Go X 4 S2 1284 [(3, .int (nI i)), (2, .ref ((tq_la X).1 28 0)), (1, .ref ((tq_la X).1 27 0)), (0, .ref b)] []) : Go X 4 S 208 [(3, .int (nI i)), (2, .ref ((tq_la X).1 28 0)), (1, .ref ((tq_la X).1 27 0)), (0, .ref b)] [] := by
  refine go_aload_n (pc := 208) C dL_law_208 2 rfl rfl ?_
  refine go_aload_n (pc := 209) C dL_law_209 3 rfl rfl ?_
  refine go_iload_n (pc := 210) C dL_law_210 0 rfl rfl ?_
  refine go_iconst (pc := 211) (v := 1) C dL_law_211 (by decide) ?_
  refine go_iadd (pc := 212) C dL_law_212 ?_
  refine go_sld (pc := 213) C HX (lx_in (k := 1) hi (by decide) hL) dL_law_213 ?_
  refine go_cVi (pc := 214) C cw_L_13 (ok_X6_feed (h (xs (nI i + 1 : Int32).toNatClampNeg) _ hJ)) (rc_X6 C) rfl rfl rfl (by decide) rfl dL_law_214 (fun r1 S1 hf => ?_)
  refine go_pop (pc := 217) C dL_law_217 rfl ?_
  refine go_aload_n (pc := 218) C dL_law_218 1 rfl rfl ?_
  refine go_aload_n (pc := 219) C dL_law_219 3 rfl rfl ?_
  refine go_iload_n (pc := 220) C dL_law_220 0 rfl rfl ?_
  refine go_iconst (pc := 221) (v := 1) C dL_law_221 (by decide) ?_
  refine go_iadd (pc := 222) C dL_law_222 ?_
  refine go_sld (pc := 223) C HX (lx_in (k := 1) hi (by decide) hL) dL_law_223 ?_
  refine go_cVi (pc := 224) C cw_L_17 (ok_X7_feed hf) (rc_X7 C) rfl rfl rfl (by decide) rfl dL_law_224 (fun r2 S2 hf => ?_)
  refine go_pop (pc := 227) C dL_law_227 rfl ?_
  refine go_goto (pc := 228) C dL_law_228 1284 (by decide) ?_
  exact g _ hf
set_option maxRecDepth 100000 in
set_option maxHeartbeats 4000000 in
theorem lc_1 {X : tq_Cx} {S : tq_St} {b L i : Nat} {xs : Nat → Int32} {J : tq_St → Prop} (C : tq_C X cL_law 4 RL 40) (HX : tq_SX X b L xs) (hi : i + 5 ≤ L) (hL : L ≤ 320) (h : st_end J) (hJ : J S) (g : ∀ S2 : tq_St, J S2 → Go X 4 S2 1284 [(3, .int (nI i)), (2, .ref ((tq_la X).1 28 0)), (1, .ref ((tq_la X).1 27 0)), (0, .ref b)] []) : Go X 4 S 231 [(3, .int (nI i)), (2, .ref ((tq_la X).1 28 0)), (1, .ref ((tq_la X).1 27 0)), (0, .ref b)] [] := by
  refine go_aload_n (pc := 231) C dL_law_231 2 rfl rfl ?_
  refine go_aload_n (pc := 232) C dL_law_232 3 rfl rfl ?_
  refine go_iload_n (pc := 233) C dL_law_233 0 rfl rfl ?_
  refine go_iconst (pc := 234) (v := 1) C dL_law_234 (by decide) ?_
  refine go_iadd (pc := 235) C dL_law_235 ?_
  refine go_sld (pc := 236) C HX (lx_in (k := 1) hi (by decide) hL) dL_law_236 ?_
  refine go_cVi (pc := 237) C cw_L_18 (ok_X6_end (h (xs (nI i + 1 : Int32).toNatClampNeg) _ hJ)) (rc_X6 C) rfl rfl rfl (by decide) rfl dL_law_237 (fun r1 S1 hf => ?_)
  refine go_pop (pc := 240) C dL_law_240 rfl ?_
  refine go_aload_n (pc := 241) C dL_law_241 1 rfl rfl ?_
  refine go_aload_n (pc := 242) C dL_law_242 3 rfl rfl ?_
  refine go_iload_n (pc := 243) C dL_law_243 0 rfl rfl ?_
  refine go_iconst (pc := 244) (v := 1) C dL_law_244 (by decide) ?_
  refine go_iadd (pc := 245) C dL_law_245 ?_
  refine go_sld (pc := 246) C HX (lx_in (k := 1) hi (by decide) hL) dL_law_246 ?_
  refine go_cVi (pc := 247) C cw_L_21 (ok_X7_end hf) (rc_X7 C) rfl rfl rfl (by decide) rfl dL_law_247 (fun r2 S2 hf => ?_)
  refine go_pop (pc := 250) C dL_law_250 rfl ?_
  refine go_goto (pc := 251) C dL_law_251 1284 (by decide) ?_
  exact g _ hf
set_option maxRecDepth 100000 in
set_option maxHeartbeats 4000000 in
theorem lc_2 {X : tq_Cx} {S : tq_St} {b L i : Nat} {xs : Nat → Int32} {J : tq_St → Prop} (C : tq_C X cL_law 4 RL 40) (HX : tq_SX X b L xs) (hi : i + 5 ≤ L) (hL : L ≤ 320) (h : st_text J) (hJ : J S) (g : ∀ S2 : tq_St, J S2 → Go X 4 S2 1284 [(3, .int (nI i)), (2, .ref ((tq_la X).1 28 0)), (1, .ref ((tq_la X).1 27 0)), (0, .ref b)] []) : Go X 4 S 254 [(3, .int (nI i)), (2, .ref ((tq_la X).1 28 0)), (1, .ref ((tq_la X).1 27 0)), (0, .ref b)] [] := by
  refine go_aload_n (pc := 254) C dL_law_254 2 rfl rfl ?_
  refine go_cVi (pc := 255) C cw_L_22 (ok_X6_text (h _ hJ)) (rc_X6 C) rfl rfl rfl (by decide) rfl dL_law_255 (fun r1 S1 hf => ?_)
  refine go_pop (pc := 258) C dL_law_258 rfl ?_
  refine go_aload_n (pc := 259) C dL_law_259 1 rfl rfl ?_
  refine go_cVi (pc := 260) C cw_L_26 (ok_X7_text hf) (rc_X7 C) rfl rfl rfl (by decide) rfl dL_law_260 (fun r2 S2 hf => ?_)
  refine go_pop (pc := 263) C dL_law_263 rfl ?_
  refine go_goto (pc := 264) C dL_law_264 1284 (by decide) ?_
  exact g _ hf
set_option maxRecDepth 100000 in
set_option maxHeartbeats 4000000 in
theorem lc_3 {X : tq_Cx} {S : tq_St} {b L i : Nat} {xs : Nat → Int32} {J : tq_St → Prop} (C : tq_C X cL_law 4 RL 40) (HX : tq_SX X b L xs) (hi : i + 5 ≤ L) (hL : L ≤ 320) (h : st_fault J) (hJ : J S) (g : ∀ S2 : tq_St, J S2 → Go X 4 S2 1284 [(3, .int (nI i)), (2, .ref ((tq_la X).1 28 0)), (1, .ref ((tq_la X).1 27 0)), (0, .ref b)] []) : Go X 4 S 267 [(3, .int (nI i)), (2, .ref ((tq_la X).1 28 0)), (1, .ref ((tq_la X).1 27 0)), (0, .ref b)] [] := by
  refine go_aload_n (pc := 267) C dL_law_267 2 rfl rfl ?_
  refine go_cVi (pc := 268) C cw_L_27 (ok_X6_fault (h _ hJ)) (rc_X6 C) rfl rfl rfl (by decide) rfl dL_law_268 (fun r1 S1 hf => ?_)
  refine go_pop (pc := 271) C dL_law_271 rfl ?_
  refine go_aload_n (pc := 272) C dL_law_272 1 rfl rfl ?_
  refine go_cVi (pc := 273) C cw_L_30 (ok_X7_fault hf) (rc_X7 C) rfl rfl rfl (by decide) rfl dL_law_273 (fun r2 S2 hf => ?_)
  refine go_pop (pc := 276) C dL_law_276 rfl ?_
  refine go_goto (pc := 277) C dL_law_277 1284 (by decide) ?_
  exact g _ hf
set_option maxRecDepth 100000 in
set_option maxHeartbeats 4000000 in
theorem lc_4 {X : tq_Cx} {S : tq_St} {b L i : Nat} {xs : Nat → Int32} {J : tq_St → Prop} (C : tq_C X cL_law 4 RL 40) (HX : tq_SX X b L xs) (hi : i + 5 ≤ L) (hL : L ≤ 320) (h : st_rule J) (hJ : J S) (g : ∀ S2 : tq_St, J S2 → Go X 4 S2 1284 [(3, .int (nI i)), (2, .ref ((tq_la X).1 28 0)), (1, .ref ((tq_la X).1 27 0)), (0, .ref b)] []) : Go X 4 S 280 [(3, .int (nI i)), (2, .ref ((tq_la X).1 28 0)), (1, .ref ((tq_la X).1 27 0)), (0, .ref b)] [] := by
  refine go_aload_n (pc := 280) C dL_law_280 2 rfl rfl ?_
  refine go_aload_n (pc := 281) C dL_law_281 3 rfl rfl ?_
  refine go_iload_n (pc := 282) C dL_law_282 0 rfl rfl ?_
  refine go_iconst (pc := 283) (v := 1) C dL_law_283 (by decide) ?_
  refine go_iadd (pc := 284) C dL_law_284 ?_
  refine go_sld (pc := 285) C HX (lx_in (k := 1) hi (by decide) hL) dL_law_285 ?_
  refine go_cVi (pc := 286) C cw_L_31 (ok_X6_rule (h (xs (nI i + 1 : Int32).toNatClampNeg) _ hJ)) (rc_X6 C) rfl rfl rfl (by decide) rfl dL_law_286 (fun r1 S1 hf => ?_)
  refine go_pop (pc := 289) C dL_law_289 rfl ?_
  refine go_aload_n (pc := 290) C dL_law_290 1 rfl rfl ?_
  refine go_aload_n (pc := 291) C dL_law_291 3 rfl rfl ?_
  refine go_iload_n (pc := 292) C dL_law_292 0 rfl rfl ?_
  refine go_iconst (pc := 293) (v := 1) C dL_law_293 (by decide) ?_
  refine go_iadd (pc := 294) C dL_law_294 ?_
  refine go_sld (pc := 295) C HX (lx_in (k := 1) hi (by decide) hL) dL_law_295 ?_
  refine go_cVi (pc := 296) C cw_L_34 (ok_X7_rule hf) (rc_X7 C) rfl rfl rfl (by decide) rfl dL_law_296 (fun r2 S2 hf => ?_)
  refine go_pop (pc := 299) C dL_law_299 rfl ?_
  refine go_goto (pc := 300) C dL_law_300 1284 (by decide) ?_
  exact g _ hf
set_option maxRecDepth 100000 in
set_option maxHeartbeats 4000000 in
theorem lc_5 {X : tq_Cx} {S : tq_St} {b L i : Nat} {xs : Nat → Int32} {J : tq_St → Prop} (C : tq_C X cL_law 4 RL 40) (HX : tq_SX X b L xs) (hi : i + 5 ≤ L) (hL : L ≤ 320) (h : st_one J) (hJ : J S) (g : ∀ S2 : tq_St, J S2 → Go X 4 S2 1284 [(3, .int (nI i)), (2, .ref ((tq_la X).1 28 0)), (1, .ref ((tq_la X).1 27 0)), (0, .ref b)] []) : Go X 4 S 303 [(3, .int (nI i)), (2, .ref ((tq_la X).1 28 0)), (1, .ref ((tq_la X).1 27 0)), (0, .ref b)] [] := by
  refine go_aload_n (pc := 303) C dL_law_303 2 rfl rfl ?_
  refine go_aload_n (pc := 304) C dL_law_304 3 rfl rfl ?_
  refine go_iload_n (pc := 305) C dL_law_305 0 rfl rfl ?_
  refine go_iconst (pc := 306) (v := 1) C dL_law_306 (by decide) ?_
  refine go_iadd (pc := 307) C dL_law_307 ?_
  refine go_sld (pc := 308) C HX (lx_in (k := 1) hi (by decide) hL) dL_law_308 ?_
  refine go_aload_n (pc := 309) C dL_law_309 3 rfl rfl ?_
  refine go_iload_n (pc := 310) C dL_law_310 0 rfl rfl ?_
  refine go_iconst (pc := 311) (v := 2) C dL_law_311 (by decide) ?_
  refine go_iadd (pc := 312) C dL_law_312 ?_
  refine go_sld (pc := 313) C HX (lx_in (k := 2) hi (by decide) hL) dL_law_313 ?_
  refine go_cVi (pc := 314) C cw_L_35 (ok_X6_one (h (xs (nI i + 1 : Int32).toNatClampNeg) (xs (nI i + 2 : Int32).toNatClampNeg) _ hJ)) (rc_X6 C) rfl rfl rfl (by decide) rfl dL_law_314 (fun r1 S1 hf => ?_)
  refine go_pop (pc := 317) C dL_law_317 rfl ?_
  refine go_aload_n (pc := 318) C dL_law_318 1 rfl rfl ?_
  refine go_aload_n (pc := 319) C dL_law_319 3 rfl rfl ?_
  refine go_iload_n (pc := 320) C dL_law_320 0 rfl rfl ?_
  refine go_iconst (pc := 321) (v := 1) C dL_law_321 (by decide) ?_
  refine go_iadd (pc := 322) C dL_law_322 ?_
  refine go_sld (pc := 323) C HX (lx_in (k := 1) hi (by decide) hL) dL_law_323 ?_
  refine go_aload_n (pc := 324) C dL_law_324 3 rfl rfl ?_
  refine go_iload_n (pc := 325) C dL_law_325 0 rfl rfl ?_
  refine go_iconst (pc := 326) (v := 2) C dL_law_326 (by decide) ?_
  refine go_iadd (pc := 327) C dL_law_327 ?_
  refine go_sld (pc := 328) C HX (lx_in (k := 2) hi (by decide) hL) dL_law_328 ?_
  refine go_cVi (pc := 329) C cw_L_39 (ok_X7_one hf) (rc_X7 C) rfl rfl rfl (by decide) rfl dL_law_329 (fun r2 S2 hf => ?_)
  refine go_pop (pc := 332) C dL_law_332 rfl ?_
  refine go_goto (pc := 333) C dL_law_333 1284 (by decide) ?_
  exact g _ hf
set_option maxRecDepth 100000 in
set_option maxHeartbeats 4000000 in
theorem lc_6 {X : tq_Cx} {S : tq_St} {b L i : Nat} {xs : Nat → Int32} {J : tq_St → Prop} (C : tq_C X cL_law 4 RL 40) (HX : tq_SX X b L xs) (hi : i + 5 ≤ L) (hL : L ≤ 320) (h : st_act J) (hJ : J S) (g : ∀ S2 : tq_St, J S2 → Go X 4 S2 1284 [(3, .int (nI i)), (2, .ref ((tq_la X).1 28 0)), (1, .ref ((tq_la X).1 27 0)), (0, .ref b)] []) : Go X 4 S 336 [(3, .int (nI i)), (2, .ref ((tq_la X).1 28 0)), (1, .ref ((tq_la X).1 27 0)), (0, .ref b)] [] := by
  refine go_aload_n (pc := 336) C dL_law_336 2 rfl rfl ?_
  refine go_aload_n (pc := 337) C dL_law_337 3 rfl rfl ?_
  refine go_iload_n (pc := 338) C dL_law_338 0 rfl rfl ?_
  refine go_iconst (pc := 339) (v := 1) C dL_law_339 (by decide) ?_
  refine go_iadd (pc := 340) C dL_law_340 ?_
  refine go_sld (pc := 341) C HX (lx_in (k := 1) hi (by decide) hL) dL_law_341 ?_
  refine go_cVi (pc := 342) C cw_L_40 (ok_X6_act (h (xs (nI i + 1 : Int32).toNatClampNeg) _ hJ)) (rc_X6 C) rfl rfl rfl (by decide) rfl dL_law_342 (fun r1 S1 hf => ?_)
  refine go_pop (pc := 345) C dL_law_345 rfl ?_
  refine go_aload_n (pc := 346) C dL_law_346 1 rfl rfl ?_
  refine go_aload_n (pc := 347) C dL_law_347 3 rfl rfl ?_
  refine go_iload_n (pc := 348) C dL_law_348 0 rfl rfl ?_
  refine go_iconst (pc := 349) (v := 1) C dL_law_349 (by decide) ?_
  refine go_iadd (pc := 350) C dL_law_350 ?_
  refine go_sld (pc := 351) C HX (lx_in (k := 1) hi (by decide) hL) dL_law_351 ?_
  refine go_cVi (pc := 352) C cw_L_43 (ok_X7_act hf) (rc_X7 C) rfl rfl rfl (by decide) rfl dL_law_352 (fun r2 S2 hf => ?_)
  refine go_pop (pc := 355) C dL_law_355 rfl ?_
  refine go_goto (pc := 356) C dL_law_356 1284 (by decide) ?_
  exact g _ hf
set_option maxRecDepth 100000 in
set_option maxHeartbeats 4000000 in
theorem lc_7 {X : tq_Cx} {S : tq_St} {b L i : Nat} {xs : Nat → Int32} {J : tq_St → Prop} (C : tq_C X cL_law 4 RL 40) (HX : tq_SX X b L xs) (hi : i + 5 ≤ L) (hL : L ≤ 320) (h : st_queue J) (hJ : J S) (g : ∀ S2 : tq_St, J S2 → Go X 4 S2 1284 [(3, .int (nI i)), (2, .ref ((tq_la X).1 28 0)), (1, .ref ((tq_la X).1 27 0)), (0, .ref b)] []) : Go X 4 S 359 [(3, .int (nI i)), (2, .ref ((tq_la X).1 28 0)), (1, .ref ((tq_la X).1 27 0)), (0, .ref b)] [] := by
  refine go_aload_n (pc := 359) C dL_law_359 2 rfl rfl ?_
  refine go_aload_n (pc := 360) C dL_law_360 3 rfl rfl ?_
  refine go_iload_n (pc := 361) C dL_law_361 0 rfl rfl ?_
  refine go_iconst (pc := 362) (v := 1) C dL_law_362 (by decide) ?_
  refine go_iadd (pc := 363) C dL_law_363 ?_
  refine go_sld (pc := 364) C HX (lx_in (k := 1) hi (by decide) hL) dL_law_364 ?_
  refine go_cVi (pc := 365) C cw_L_44 (ok_X6_queue (h (xs (nI i + 1 : Int32).toNatClampNeg) _ hJ)) (rc_X6 C) rfl rfl rfl (by decide) rfl dL_law_365 (fun r1 S1 hf => ?_)
  refine go_pop (pc := 368) C dL_law_368 rfl ?_
  refine go_aload_n (pc := 369) C dL_law_369 1 rfl rfl ?_
  refine go_aload_n (pc := 370) C dL_law_370 3 rfl rfl ?_
  refine go_iload_n (pc := 371) C dL_law_371 0 rfl rfl ?_
  refine go_iconst (pc := 372) (v := 1) C dL_law_372 (by decide) ?_
  refine go_iadd (pc := 373) C dL_law_373 ?_
  refine go_sld (pc := 374) C HX (lx_in (k := 1) hi (by decide) hL) dL_law_374 ?_
  refine go_cVi (pc := 375) C cw_L_47 (ok_X7_queue hf) (rc_X7 C) rfl rfl rfl (by decide) rfl dL_law_375 (fun r2 S2 hf => ?_)
  refine go_pop (pc := 378) C dL_law_378 rfl ?_
  refine go_goto (pc := 379) C dL_law_379 1284 (by decide) ?_
  exact g _ hf
set_option maxRecDepth 100000 in
set_option maxHeartbeats 4000000 in
theorem lc_8 {X : tq_Cx} {S : tq_St} {b L i : Nat} {xs : Nat → Int32} {J : tq_St → Prop} (C : tq_C X cL_law 4 RL 40) (HX : tq_SX X b L xs) (hi : i + 5 ≤ L) (hL : L ≤ 320) (h : st_alter J) (hJ : J S) (g : ∀ S2 : tq_St, J S2 → Go X 4 S2 1284 [(3, .int (nI i)), (2, .ref ((tq_la X).1 28 0)), (1, .ref ((tq_la X).1 27 0)), (0, .ref b)] []) : Go X 4 S 382 [(3, .int (nI i)), (2, .ref ((tq_la X).1 28 0)), (1, .ref ((tq_la X).1 27 0)), (0, .ref b)] [] := by
  refine go_aload_n (pc := 382) C dL_law_382 2 rfl rfl ?_
  refine go_aload_n (pc := 383) C dL_law_383 3 rfl rfl ?_
  refine go_iload_n (pc := 384) C dL_law_384 0 rfl rfl ?_
  refine go_iconst (pc := 385) (v := 1) C dL_law_385 (by decide) ?_
  refine go_iadd (pc := 386) C dL_law_386 ?_
  refine go_sld (pc := 387) C HX (lx_in (k := 1) hi (by decide) hL) dL_law_387 ?_
  refine go_aload_n (pc := 388) C dL_law_388 3 rfl rfl ?_
  refine go_iload_n (pc := 389) C dL_law_389 0 rfl rfl ?_
  refine go_iconst (pc := 390) (v := 2) C dL_law_390 (by decide) ?_
  refine go_iadd (pc := 391) C dL_law_391 ?_
  refine go_sld (pc := 392) C HX (lx_in (k := 2) hi (by decide) hL) dL_law_392 ?_
  refine go_aload_n (pc := 393) C dL_law_393 3 rfl rfl ?_
  refine go_iload_n (pc := 394) C dL_law_394 0 rfl rfl ?_
  refine go_iconst (pc := 395) (v := 3) C dL_law_395 (by decide) ?_
  refine go_iadd (pc := 396) C dL_law_396 ?_
  refine go_sld (pc := 397) C HX (lx_in (k := 3) hi (by decide) hL) dL_law_397 ?_
  refine go_cVi (pc := 398) C cw_L_48 (ok_X6_alter (h (xs (nI i + 1 : Int32).toNatClampNeg) (xs (nI i + 2 : Int32).toNatClampNeg) (xs (nI i + 3 : Int32).toNatClampNeg) _ hJ)) (rc_X6 C) rfl rfl rfl (by decide) rfl dL_law_398 (fun r1 S1 hf => ?_)
  refine go_pop (pc := 401) C dL_law_401 rfl ?_
  refine go_aload_n (pc := 402) C dL_law_402 1 rfl rfl ?_
  refine go_aload_n (pc := 403) C dL_law_403 3 rfl rfl ?_
  refine go_iload_n (pc := 404) C dL_law_404 0 rfl rfl ?_
  refine go_iconst (pc := 405) (v := 1) C dL_law_405 (by decide) ?_
  refine go_iadd (pc := 406) C dL_law_406 ?_
  refine go_sld (pc := 407) C HX (lx_in (k := 1) hi (by decide) hL) dL_law_407 ?_
  refine go_aload_n (pc := 408) C dL_law_408 3 rfl rfl ?_
  refine go_iload_n (pc := 409) C dL_law_409 0 rfl rfl ?_
  refine go_iconst (pc := 410) (v := 2) C dL_law_410 (by decide) ?_
  refine go_iadd (pc := 411) C dL_law_411 ?_
  refine go_sld (pc := 412) C HX (lx_in (k := 2) hi (by decide) hL) dL_law_412 ?_
  refine go_aload_n (pc := 413) C dL_law_413 3 rfl rfl ?_
  refine go_iload_n (pc := 414) C dL_law_414 0 rfl rfl ?_
  refine go_iconst (pc := 415) (v := 3) C dL_law_415 (by decide) ?_
  refine go_iadd (pc := 416) C dL_law_416 ?_
  refine go_sld (pc := 417) C HX (lx_in (k := 3) hi (by decide) hL) dL_law_417 ?_
  refine go_cVi (pc := 418) C cw_L_52 (ok_X7_alter hf) (rc_X7 C) rfl rfl rfl (by decide) rfl dL_law_418 (fun r2 S2 hf => ?_)
  refine go_pop (pc := 421) C dL_law_421 rfl ?_
  refine go_goto (pc := 422) C dL_law_422 1284 (by decide) ?_
  exact g _ hf
set_option maxRecDepth 100000 in
set_option maxHeartbeats 4000000 in
theorem lc_9 {X : tq_Cx} {S : tq_St} {b L i : Nat} {xs : Nat → Int32} {J : tq_St → Prop} (C : tq_C X cL_law 4 RL 40) (HX : tq_SX X b L xs) (hi : i + 5 ≤ L) (hL : L ≤ 320) (h : st_room J) (hJ : J S) (g : ∀ S2 : tq_St, J S2 → Go X 4 S2 1284 [(3, .int (nI i)), (2, .ref ((tq_la X).1 28 0)), (1, .ref ((tq_la X).1 27 0)), (0, .ref b)] []) : Go X 4 S 425 [(3, .int (nI i)), (2, .ref ((tq_la X).1 28 0)), (1, .ref ((tq_la X).1 27 0)), (0, .ref b)] [] := by
  refine go_aload_n (pc := 425) C dL_law_425 2 rfl rfl ?_
  refine go_aload_n (pc := 426) C dL_law_426 3 rfl rfl ?_
  refine go_iload_n (pc := 427) C dL_law_427 0 rfl rfl ?_
  refine go_iconst (pc := 428) (v := 1) C dL_law_428 (by decide) ?_
  refine go_iadd (pc := 429) C dL_law_429 ?_
  refine go_sld (pc := 430) C HX (lx_in (k := 1) hi (by decide) hL) dL_law_430 ?_
  refine go_cVi (pc := 431) C cw_L_53 (ok_X6_room (h (xs (nI i + 1 : Int32).toNatClampNeg) _ hJ)) (rc_X6 C) rfl rfl rfl (by decide) rfl dL_law_431 (fun r1 S1 hf => ?_)
  refine go_pop (pc := 434) C dL_law_434 rfl ?_
  refine go_aload_n (pc := 435) C dL_law_435 1 rfl rfl ?_
  refine go_aload_n (pc := 436) C dL_law_436 3 rfl rfl ?_
  refine go_iload_n (pc := 437) C dL_law_437 0 rfl rfl ?_
  refine go_iconst (pc := 438) (v := 1) C dL_law_438 (by decide) ?_
  refine go_iadd (pc := 439) C dL_law_439 ?_
  refine go_sld (pc := 440) C HX (lx_in (k := 1) hi (by decide) hL) dL_law_440 ?_
  refine go_cVi (pc := 441) C cw_L_56 (ok_X7_room hf) (rc_X7 C) rfl rfl rfl (by decide) rfl dL_law_441 (fun r2 S2 hf => ?_)
  refine go_pop (pc := 444) C dL_law_444 rfl ?_
  refine go_goto (pc := 445) C dL_law_445 1284 (by decide) ?_
  exact g _ hf
set_option maxRecDepth 100000 in
set_option maxHeartbeats 4000000 in
theorem lc_10 {X : tq_Cx} {S : tq_St} {b L i : Nat} {xs : Nat → Int32} {J : tq_St → Prop} (C : tq_C X cL_law 4 RL 40) (HX : tq_SX X b L xs) (hi : i + 5 ≤ L) (hL : L ≤ 320) (h : st_think J) (hJ : J S) (g : ∀ S2 : tq_St, J S2 → Go X 4 S2 1284 [(3, .int (nI i)), (2, .ref ((tq_la X).1 28 0)), (1, .ref ((tq_la X).1 27 0)), (0, .ref b)] []) : Go X 4 S 448 [(3, .int (nI i)), (2, .ref ((tq_la X).1 28 0)), (1, .ref ((tq_la X).1 27 0)), (0, .ref b)] [] := by
  refine go_aload_n (pc := 448) C dL_law_448 2 rfl rfl ?_
  refine go_aload_n (pc := 449) C dL_law_449 3 rfl rfl ?_
  refine go_iload_n (pc := 450) C dL_law_450 0 rfl rfl ?_
  refine go_iconst (pc := 451) (v := 1) C dL_law_451 (by decide) ?_
  refine go_iadd (pc := 452) C dL_law_452 ?_
  refine go_sld (pc := 453) C HX (lx_in (k := 1) hi (by decide) hL) dL_law_453 ?_
  refine go_cVi (pc := 454) C cw_L_57 (ok_X6_think (h (xs (nI i + 1 : Int32).toNatClampNeg) _ hJ)) (rc_X6 C) rfl rfl rfl (by decide) rfl dL_law_454 (fun r1 S1 hf => ?_)
  refine go_pop (pc := 457) C dL_law_457 rfl ?_
  refine go_aload_n (pc := 458) C dL_law_458 1 rfl rfl ?_
  refine go_aload_n (pc := 459) C dL_law_459 3 rfl rfl ?_
  refine go_iload_n (pc := 460) C dL_law_460 0 rfl rfl ?_
  refine go_iconst (pc := 461) (v := 1) C dL_law_461 (by decide) ?_
  refine go_iadd (pc := 462) C dL_law_462 ?_
  refine go_sld (pc := 463) C HX (lx_in (k := 1) hi (by decide) hL) dL_law_463 ?_
  refine go_cVi (pc := 464) C cw_L_60 (ok_X7_think hf) (rc_X7 C) rfl rfl rfl (by decide) rfl dL_law_464 (fun r2 S2 hf => ?_)
  refine go_pop (pc := 467) C dL_law_467 rfl ?_
  refine go_goto (pc := 468) C dL_law_468 1284 (by decide) ?_
  exact g _ hf
set_option maxRecDepth 100000 in
set_option maxHeartbeats 4000000 in
theorem lc_11 {X : tq_Cx} {S : tq_St} {b L i : Nat} {xs : Nat → Int32} {J : tq_St → Prop} (C : tq_C X cL_law 4 RL 40) (HX : tq_SX X b L xs) (hi : i + 5 ≤ L) (hL : L ≤ 320) (h : st_plan J) (hJ : J S) (g : ∀ S2 : tq_St, J S2 → Go X 4 S2 1284 [(3, .int (nI i)), (2, .ref ((tq_la X).1 28 0)), (1, .ref ((tq_la X).1 27 0)), (0, .ref b)] []) : Go X 4 S 471 [(3, .int (nI i)), (2, .ref ((tq_la X).1 28 0)), (1, .ref ((tq_la X).1 27 0)), (0, .ref b)] [] := by
  refine go_aload_n (pc := 471) C dL_law_471 2 rfl rfl ?_
  refine go_aload_n (pc := 472) C dL_law_472 3 rfl rfl ?_
  refine go_iload_n (pc := 473) C dL_law_473 0 rfl rfl ?_
  refine go_iconst (pc := 474) (v := 1) C dL_law_474 (by decide) ?_
  refine go_iadd (pc := 475) C dL_law_475 ?_
  refine go_sld (pc := 476) C HX (lx_in (k := 1) hi (by decide) hL) dL_law_476 ?_
  refine go_cVi (pc := 477) C cw_L_61 (ok_X6_plan (h (xs (nI i + 1 : Int32).toNatClampNeg) _ hJ)) (rc_X6 C) rfl rfl rfl (by decide) rfl dL_law_477 (fun r1 S1 hf => ?_)
  refine go_pop (pc := 480) C dL_law_480 rfl ?_
  refine go_aload_n (pc := 481) C dL_law_481 1 rfl rfl ?_
  refine go_aload_n (pc := 482) C dL_law_482 3 rfl rfl ?_
  refine go_iload_n (pc := 483) C dL_law_483 0 rfl rfl ?_
  refine go_iconst (pc := 484) (v := 1) C dL_law_484 (by decide) ?_
  refine go_iadd (pc := 485) C dL_law_485 ?_
  refine go_sld (pc := 486) C HX (lx_in (k := 1) hi (by decide) hL) dL_law_486 ?_
  refine go_cVi (pc := 487) C cw_L_64 (ok_X7_plan hf) (rc_X7 C) rfl rfl rfl (by decide) rfl dL_law_487 (fun r2 S2 hf => ?_)
  refine go_pop (pc := 490) C dL_law_490 rfl ?_
  refine go_goto (pc := 491) C dL_law_491 1284 (by decide) ?_
  exact g _ hf
set_option maxRecDepth 100000 in
set_option maxHeartbeats 4000000 in
theorem lc_12 {X : tq_Cx} {S : tq_St} {b L i : Nat} {xs : Nat → Int32} {J : tq_St → Prop} (C : tq_C X cL_law 4 RL 40) (HX : tq_SX X b L xs) (hi : i + 5 ≤ L) (hL : L ≤ 320) (h : st_cut J) (hJ : J S) (g : ∀ S2 : tq_St, J S2 → Go X 4 S2 1284 [(3, .int (nI i)), (2, .ref ((tq_la X).1 28 0)), (1, .ref ((tq_la X).1 27 0)), (0, .ref b)] []) : Go X 4 S 494 [(3, .int (nI i)), (2, .ref ((tq_la X).1 28 0)), (1, .ref ((tq_la X).1 27 0)), (0, .ref b)] [] := by
  refine go_aload_n (pc := 494) C dL_law_494 2 rfl rfl ?_
  refine go_aload_n (pc := 495) C dL_law_495 3 rfl rfl ?_
  refine go_iload_n (pc := 496) C dL_law_496 0 rfl rfl ?_
  refine go_iconst (pc := 497) (v := 1) C dL_law_497 (by decide) ?_
  refine go_iadd (pc := 498) C dL_law_498 ?_
  refine go_sld (pc := 499) C HX (lx_in (k := 1) hi (by decide) hL) dL_law_499 ?_
  refine go_cVi (pc := 500) C cw_L_65 (ok_X6_cut (h (xs (nI i + 1 : Int32).toNatClampNeg) _ hJ)) (rc_X6 C) rfl rfl rfl (by decide) rfl dL_law_500 (fun r1 S1 hf => ?_)
  refine go_pop (pc := 503) C dL_law_503 rfl ?_
  refine go_aload_n (pc := 504) C dL_law_504 1 rfl rfl ?_
  refine go_aload_n (pc := 505) C dL_law_505 3 rfl rfl ?_
  refine go_iload_n (pc := 506) C dL_law_506 0 rfl rfl ?_
  refine go_iconst (pc := 507) (v := 1) C dL_law_507 (by decide) ?_
  refine go_iadd (pc := 508) C dL_law_508 ?_
  refine go_sld (pc := 509) C HX (lx_in (k := 1) hi (by decide) hL) dL_law_509 ?_
  refine go_cVi (pc := 510) C cw_L_68 (ok_X7_cut hf) (rc_X7 C) rfl rfl rfl (by decide) rfl dL_law_510 (fun r2 S2 hf => ?_)
  refine go_pop (pc := 513) C dL_law_513 rfl ?_
  refine go_goto (pc := 514) C dL_law_514 1284 (by decide) ?_
  exact g _ hf
set_option maxRecDepth 100000 in
set_option maxHeartbeats 4000000 in
theorem lc_13 {X : tq_Cx} {S : tq_St} {b L i : Nat} {xs : Nat → Int32} {J : tq_St → Prop} (C : tq_C X cL_law 4 RL 40) (HX : tq_SX X b L xs) (hi : i + 5 ≤ L) (hL : L ≤ 320) (h : st_thinks J) (hJ : J S) (g : ∀ S2 : tq_St, J S2 → Go X 4 S2 1284 [(3, .int (nI i)), (2, .ref ((tq_la X).1 28 0)), (1, .ref ((tq_la X).1 27 0)), (0, .ref b)] []) : Go X 4 S 517 [(3, .int (nI i)), (2, .ref ((tq_la X).1 28 0)), (1, .ref ((tq_la X).1 27 0)), (0, .ref b)] [] := by
  refine go_aload_n (pc := 517) C dL_law_517 2 rfl rfl ?_
  refine go_aload_n (pc := 518) C dL_law_518 3 rfl rfl ?_
  refine go_iload_n (pc := 519) C dL_law_519 0 rfl rfl ?_
  refine go_iconst (pc := 520) (v := 1) C dL_law_520 (by decide) ?_
  refine go_iadd (pc := 521) C dL_law_521 ?_
  refine go_sld (pc := 522) C HX (lx_in (k := 1) hi (by decide) hL) dL_law_522 ?_
  refine go_cVi (pc := 523) C cw_L_69 (ok_X6_thinks (h (xs (nI i + 1 : Int32).toNatClampNeg) _ hJ)) (rc_X6 C) rfl rfl rfl (by decide) rfl dL_law_523 (fun r1 S1 hf => ?_)
  refine go_pop (pc := 526) C dL_law_526 rfl ?_
  refine go_aload_n (pc := 527) C dL_law_527 1 rfl rfl ?_
  refine go_aload_n (pc := 528) C dL_law_528 3 rfl rfl ?_
  refine go_iload_n (pc := 529) C dL_law_529 0 rfl rfl ?_
  refine go_iconst (pc := 530) (v := 1) C dL_law_530 (by decide) ?_
  refine go_iadd (pc := 531) C dL_law_531 ?_
  refine go_sld (pc := 532) C HX (lx_in (k := 1) hi (by decide) hL) dL_law_532 ?_
  refine go_cVi (pc := 533) C cw_L_72 (ok_X7_thinks hf) (rc_X7 C) rfl rfl rfl (by decide) rfl dL_law_533 (fun r2 S2 hf => ?_)
  refine go_pop (pc := 536) C dL_law_536 rfl ?_
  refine go_goto (pc := 537) C dL_law_537 1284 (by decide) ?_
  exact g _ hf
set_option maxRecDepth 100000 in
set_option maxHeartbeats 4000000 in
theorem lc_14 {X : tq_Cx} {S : tq_St} {b L i : Nat} {xs : Nat → Int32} {J : tq_St → Prop} (C : tq_C X cL_law 4 RL 40) (HX : tq_SX X b L xs) (hi : i + 5 ≤ L) (hL : L ≤ 320) (h : st_minutes J) (hJ : J S) (g : ∀ S2 : tq_St, J S2 → Go X 4 S2 1284 [(3, .int (nI i)), (2, .ref ((tq_la X).1 28 0)), (1, .ref ((tq_la X).1 27 0)), (0, .ref b)] []) : Go X 4 S 540 [(3, .int (nI i)), (2, .ref ((tq_la X).1 28 0)), (1, .ref ((tq_la X).1 27 0)), (0, .ref b)] [] := by
  refine go_aload_n (pc := 540) C dL_law_540 2 rfl rfl ?_
  refine go_aload_n (pc := 541) C dL_law_541 3 rfl rfl ?_
  refine go_iload_n (pc := 542) C dL_law_542 0 rfl rfl ?_
  refine go_iconst (pc := 543) (v := 1) C dL_law_543 (by decide) ?_
  refine go_iadd (pc := 544) C dL_law_544 ?_
  refine go_sld (pc := 545) C HX (lx_in (k := 1) hi (by decide) hL) dL_law_545 ?_
  refine go_cVi (pc := 546) C cw_L_73 (ok_X6_minutes (h (xs (nI i + 1 : Int32).toNatClampNeg) _ hJ)) (rc_X6 C) rfl rfl rfl (by decide) rfl dL_law_546 (fun r1 S1 hf => ?_)
  refine go_pop (pc := 549) C dL_law_549 rfl ?_
  refine go_aload_n (pc := 550) C dL_law_550 1 rfl rfl ?_
  refine go_aload_n (pc := 551) C dL_law_551 3 rfl rfl ?_
  refine go_iload_n (pc := 552) C dL_law_552 0 rfl rfl ?_
  refine go_iconst (pc := 553) (v := 1) C dL_law_553 (by decide) ?_
  refine go_iadd (pc := 554) C dL_law_554 ?_
  refine go_sld (pc := 555) C HX (lx_in (k := 1) hi (by decide) hL) dL_law_555 ?_
  refine go_cVi (pc := 556) C cw_L_76 (ok_X7_minutes hf) (rc_X7 C) rfl rfl rfl (by decide) rfl dL_law_556 (fun r2 S2 hf => ?_)
  refine go_pop (pc := 559) C dL_law_559 rfl ?_
  refine go_goto (pc := 560) C dL_law_560 1284 (by decide) ?_
  exact g _ hf
set_option maxRecDepth 100000 in
set_option maxHeartbeats 4000000 in
theorem lc_15 {X : tq_Cx} {S : tq_St} {b L i : Nat} {xs : Nat → Int32} {J : tq_St → Prop} (C : tq_C X cL_law 4 RL 40) (HX : tq_SX X b L xs) (hi : i + 5 ≤ L) (hL : L ≤ 320) (h : st_tram J) (hJ : J S) (g : ∀ S2 : tq_St, J S2 → Go X 4 S2 1284 [(3, .int (nI i)), (2, .ref ((tq_la X).1 28 0)), (1, .ref ((tq_la X).1 27 0)), (0, .ref b)] []) : Go X 4 S 563 [(3, .int (nI i)), (2, .ref ((tq_la X).1 28 0)), (1, .ref ((tq_la X).1 27 0)), (0, .ref b)] [] := by
  refine go_aload_n (pc := 563) C dL_law_563 2 rfl rfl ?_
  refine go_cVi (pc := 564) C cw_L_77 (ok_X6_tram (h _ hJ)) (rc_X6 C) rfl rfl rfl (by decide) rfl dL_law_564 (fun r1 S1 hf => ?_)
  refine go_pop (pc := 567) C dL_law_567 rfl ?_
  refine go_aload_n (pc := 568) C dL_law_568 1 rfl rfl ?_
  refine go_cVi (pc := 569) C cw_L_80 (ok_X7_tram hf) (rc_X7 C) rfl rfl rfl (by decide) rfl dL_law_569 (fun r2 S2 hf => ?_)
  refine go_pop (pc := 572) C dL_law_572 rfl ?_
  refine go_goto (pc := 573) C dL_law_573 1284 (by decide) ?_
  exact g _ hf
set_option maxRecDepth 100000 in
set_option maxHeartbeats 4000000 in
theorem lc_16 {X : tq_Cx} {S : tq_St} {b L i : Nat} {xs : Nat → Int32} {J : tq_St → Prop} (C : tq_C X cL_law 4 RL 40) (HX : tq_SX X b L xs) (hi : i + 5 ≤ L) (hL : L ≤ 320) (h : st_joy J) (hJ : J S) (g : ∀ S2 : tq_St, J S2 → Go X 4 S2 1284 [(3, .int (nI i)), (2, .ref ((tq_la X).1 28 0)), (1, .ref ((tq_la X).1 27 0)), (0, .ref b)] []) : Go X 4 S 576 [(3, .int (nI i)), (2, .ref ((tq_la X).1 28 0)), (1, .ref ((tq_la X).1 27 0)), (0, .ref b)] [] := by
  refine go_aload_n (pc := 576) C dL_law_576 2 rfl rfl ?_
  refine go_aload_n (pc := 577) C dL_law_577 3 rfl rfl ?_
  refine go_iload_n (pc := 578) C dL_law_578 0 rfl rfl ?_
  refine go_iconst (pc := 579) (v := 1) C dL_law_579 (by decide) ?_
  refine go_iadd (pc := 580) C dL_law_580 ?_
  refine go_sld (pc := 581) C HX (lx_in (k := 1) hi (by decide) hL) dL_law_581 ?_
  refine go_cVi (pc := 582) C cw_L_81 (ok_X6_joy (h (xs (nI i + 1 : Int32).toNatClampNeg) _ hJ)) (rc_X6 C) rfl rfl rfl (by decide) rfl dL_law_582 (fun r1 S1 hf => ?_)
  refine go_pop (pc := 585) C dL_law_585 rfl ?_
  refine go_aload_n (pc := 586) C dL_law_586 1 rfl rfl ?_
  refine go_aload_n (pc := 587) C dL_law_587 3 rfl rfl ?_
  refine go_iload_n (pc := 588) C dL_law_588 0 rfl rfl ?_
  refine go_iconst (pc := 589) (v := 1) C dL_law_589 (by decide) ?_
  refine go_iadd (pc := 590) C dL_law_590 ?_
  refine go_sld (pc := 591) C HX (lx_in (k := 1) hi (by decide) hL) dL_law_591 ?_
  refine go_cVi (pc := 592) C cw_L_84 (ok_X7_joy hf) (rc_X7 C) rfl rfl rfl (by decide) rfl dL_law_592 (fun r2 S2 hf => ?_)
  refine go_pop (pc := 595) C dL_law_595 rfl ?_
  refine go_goto (pc := 596) C dL_law_596 1284 (by decide) ?_
  exact g _ hf
set_option maxRecDepth 100000 in
set_option maxHeartbeats 4000000 in
theorem lc_17 {X : tq_Cx} {S : tq_St} {b L i : Nat} {xs : Nat → Int32} {J : tq_St → Prop} (C : tq_C X cL_law 4 RL 40) (HX : tq_SX X b L xs) (hi : i + 5 ≤ L) (hL : L ≤ 320) (h : st_second J) (hJ : J S) (g : ∀ S2 : tq_St, J S2 → Go X 4 S2 1284 [(3, .int (nI i)), (2, .ref ((tq_la X).1 28 0)), (1, .ref ((tq_la X).1 27 0)), (0, .ref b)] []) : Go X 4 S 599 [(3, .int (nI i)), (2, .ref ((tq_la X).1 28 0)), (1, .ref ((tq_la X).1 27 0)), (0, .ref b)] [] := by
  refine go_aload_n (pc := 599) C dL_law_599 2 rfl rfl ?_
  refine go_cVi (pc := 600) C cw_L_85 (ok_X6_second (h _ hJ)) (rc_X6 C) rfl rfl rfl (by decide) rfl dL_law_600 (fun r1 S1 hf => ?_)
  refine go_pop (pc := 603) C dL_law_603 rfl ?_
  refine go_aload_n (pc := 604) C dL_law_604 1 rfl rfl ?_
  refine go_cVi (pc := 605) C cw_L_88 (ok_X7_second hf) (rc_X7 C) rfl rfl rfl (by decide) rfl dL_law_605 (fun r2 S2 hf => ?_)
  refine go_pop (pc := 608) C dL_law_608 rfl ?_
  refine go_goto (pc := 609) C dL_law_609 1284 (by decide) ?_
  exact g _ hf
set_option maxRecDepth 100000 in
set_option maxHeartbeats 4000000 in
theorem lc_18 {X : tq_Cx} {S : tq_St} {b L i : Nat} {xs : Nat → Int32} {J : tq_St → Prop} (C : tq_C X cL_law 4 RL 40) (HX : tq_SX X b L xs) (hi : i + 5 ≤ L) (hL : L ≤ 320) (h : st_runs J) (hJ : J S) (g : ∀ S2 : tq_St, J S2 → Go X 4 S2 1284 [(3, .int (nI i)), (2, .ref ((tq_la X).1 28 0)), (1, .ref ((tq_la X).1 27 0)), (0, .ref b)] []) : Go X 4 S 612 [(3, .int (nI i)), (2, .ref ((tq_la X).1 28 0)), (1, .ref ((tq_la X).1 27 0)), (0, .ref b)] [] := by
  refine go_aload_n (pc := 612) C dL_law_612 2 rfl rfl ?_
  refine go_aload_n (pc := 613) C dL_law_613 3 rfl rfl ?_
  refine go_iload_n (pc := 614) C dL_law_614 0 rfl rfl ?_
  refine go_iconst (pc := 615) (v := 1) C dL_law_615 (by decide) ?_
  refine go_iadd (pc := 616) C dL_law_616 ?_
  refine go_sld (pc := 617) C HX (lx_in (k := 1) hi (by decide) hL) dL_law_617 ?_
  refine go_cVi (pc := 618) C cw_L_89 (ok_X6_runs (h (xs (nI i + 1 : Int32).toNatClampNeg) _ hJ)) (rc_X6 C) rfl rfl rfl (by decide) rfl dL_law_618 (fun r1 S1 hf => ?_)
  refine go_pop (pc := 621) C dL_law_621 rfl ?_
  refine go_aload_n (pc := 622) C dL_law_622 1 rfl rfl ?_
  refine go_aload_n (pc := 623) C dL_law_623 3 rfl rfl ?_
  refine go_iload_n (pc := 624) C dL_law_624 0 rfl rfl ?_
  refine go_iconst (pc := 625) (v := 1) C dL_law_625 (by decide) ?_
  refine go_iadd (pc := 626) C dL_law_626 ?_
  refine go_sld (pc := 627) C HX (lx_in (k := 1) hi (by decide) hL) dL_law_627 ?_
  refine go_cVi (pc := 628) C cw_L_92 (ok_X7_runs hf) (rc_X7 C) rfl rfl rfl (by decide) rfl dL_law_628 (fun r2 S2 hf => ?_)
  refine go_pop (pc := 631) C dL_law_631 rfl ?_
  refine go_goto (pc := 632) C dL_law_632 1284 (by decide) ?_
  exact g _ hf
set_option maxRecDepth 100000 in
set_option maxHeartbeats 4000000 in
theorem lc_19 {X : tq_Cx} {S : tq_St} {b L i : Nat} {xs : Nat → Int32} {J : tq_St → Prop} (C : tq_C X cL_law 4 RL 40) (HX : tq_SX X b L xs) (hi : i + 5 ≤ L) (hL : L ≤ 320) (h : st_ahead J) (hJ : J S) (g : ∀ S2 : tq_St, J S2 → Go X 4 S2 1284 [(3, .int (nI i)), (2, .ref ((tq_la X).1 28 0)), (1, .ref ((tq_la X).1 27 0)), (0, .ref b)] []) : Go X 4 S 635 [(3, .int (nI i)), (2, .ref ((tq_la X).1 28 0)), (1, .ref ((tq_la X).1 27 0)), (0, .ref b)] [] := by
  refine go_aload_n (pc := 635) C dL_law_635 2 rfl rfl ?_
  refine go_aload_n (pc := 636) C dL_law_636 3 rfl rfl ?_
  refine go_iload_n (pc := 637) C dL_law_637 0 rfl rfl ?_
  refine go_iconst (pc := 638) (v := 1) C dL_law_638 (by decide) ?_
  refine go_iadd (pc := 639) C dL_law_639 ?_
  refine go_sld (pc := 640) C HX (lx_in (k := 1) hi (by decide) hL) dL_law_640 ?_
  refine go_aload_n (pc := 641) C dL_law_641 3 rfl rfl ?_
  refine go_iload_n (pc := 642) C dL_law_642 0 rfl rfl ?_
  refine go_iconst (pc := 643) (v := 2) C dL_law_643 (by decide) ?_
  refine go_iadd (pc := 644) C dL_law_644 ?_
  refine go_sld (pc := 645) C HX (lx_in (k := 2) hi (by decide) hL) dL_law_645 ?_
  refine go_cVi (pc := 646) C cw_L_93 (ok_X6_ahead (h (xs (nI i + 1 : Int32).toNatClampNeg) (xs (nI i + 2 : Int32).toNatClampNeg) _ hJ)) (rc_X6 C) rfl rfl rfl (by decide) rfl dL_law_646 (fun r1 S1 hf => ?_)
  refine go_pop (pc := 649) C dL_law_649 rfl ?_
  refine go_aload_n (pc := 650) C dL_law_650 1 rfl rfl ?_
  refine go_aload_n (pc := 651) C dL_law_651 3 rfl rfl ?_
  refine go_iload_n (pc := 652) C dL_law_652 0 rfl rfl ?_
  refine go_iconst (pc := 653) (v := 1) C dL_law_653 (by decide) ?_
  refine go_iadd (pc := 654) C dL_law_654 ?_
  refine go_sld (pc := 655) C HX (lx_in (k := 1) hi (by decide) hL) dL_law_655 ?_
  refine go_aload_n (pc := 656) C dL_law_656 3 rfl rfl ?_
  refine go_iload_n (pc := 657) C dL_law_657 0 rfl rfl ?_
  refine go_iconst (pc := 658) (v := 2) C dL_law_658 (by decide) ?_
  refine go_iadd (pc := 659) C dL_law_659 ?_
  refine go_sld (pc := 660) C HX (lx_in (k := 2) hi (by decide) hL) dL_law_660 ?_
  refine go_cVi (pc := 661) C cw_L_96 (ok_X7_ahead hf) (rc_X7 C) rfl rfl rfl (by decide) rfl dL_law_661 (fun r2 S2 hf => ?_)
  refine go_pop (pc := 664) C dL_law_664 rfl ?_
  refine go_goto (pc := 665) C dL_law_665 1284 (by decide) ?_
  exact g _ hf
set_option maxRecDepth 100000 in
set_option maxHeartbeats 4000000 in
theorem lc_20 {X : tq_Cx} {S : tq_St} {b L i : Nat} {xs : Nat → Int32} {J : tq_St → Prop} (C : tq_C X cL_law 4 RL 40) (HX : tq_SX X b L xs) (hi : i + 5 ≤ L) (hL : L ≤ 320) (h : st_soon J) (hJ : J S) (g : ∀ S2 : tq_St, J S2 → Go X 4 S2 1284 [(3, .int (nI i)), (2, .ref ((tq_la X).1 28 0)), (1, .ref ((tq_la X).1 27 0)), (0, .ref b)] []) : Go X 4 S 668 [(3, .int (nI i)), (2, .ref ((tq_la X).1 28 0)), (1, .ref ((tq_la X).1 27 0)), (0, .ref b)] [] := by
  refine go_aload_n (pc := 668) C dL_law_668 2 rfl rfl ?_
  refine go_aload_n (pc := 669) C dL_law_669 3 rfl rfl ?_
  refine go_iload_n (pc := 670) C dL_law_670 0 rfl rfl ?_
  refine go_iconst (pc := 671) (v := 1) C dL_law_671 (by decide) ?_
  refine go_iadd (pc := 672) C dL_law_672 ?_
  refine go_sld (pc := 673) C HX (lx_in (k := 1) hi (by decide) hL) dL_law_673 ?_
  refine go_cVi (pc := 674) C cw_L_97 (ok_X6_soon (h (xs (nI i + 1 : Int32).toNatClampNeg) _ hJ)) (rc_X6 C) rfl rfl rfl (by decide) rfl dL_law_674 (fun r1 S1 hf => ?_)
  refine go_pop (pc := 677) C dL_law_677 rfl ?_
  refine go_aload_n (pc := 678) C dL_law_678 1 rfl rfl ?_
  refine go_aload_n (pc := 679) C dL_law_679 3 rfl rfl ?_
  refine go_iload_n (pc := 680) C dL_law_680 0 rfl rfl ?_
  refine go_iconst (pc := 681) (v := 1) C dL_law_681 (by decide) ?_
  refine go_iadd (pc := 682) C dL_law_682 ?_
  refine go_sld (pc := 683) C HX (lx_in (k := 1) hi (by decide) hL) dL_law_683 ?_
  refine go_cVi (pc := 684) C cw_L_100 (ok_X7_soon hf) (rc_X7 C) rfl rfl rfl (by decide) rfl dL_law_684 (fun r2 S2 hf => ?_)
  refine go_pop (pc := 687) C dL_law_687 rfl ?_
  refine go_goto (pc := 688) C dL_law_688 1284 (by decide) ?_
  exact g _ hf
set_option maxRecDepth 100000 in
set_option maxHeartbeats 4000000 in
theorem lc_21 {X : tq_Cx} {S : tq_St} {b L i : Nat} {xs : Nat → Int32} {J : tq_St → Prop} (C : tq_C X cL_law 4 RL 40) (HX : tq_SX X b L xs) (hi : i + 5 ≤ L) (hL : L ≤ 320) (h : st_best J) (hJ : J S) (g : ∀ S2 : tq_St, J S2 → Go X 4 S2 1284 [(3, .int (nI i)), (2, .ref ((tq_la X).1 28 0)), (1, .ref ((tq_la X).1 27 0)), (0, .ref b)] []) : Go X 4 S 691 [(3, .int (nI i)), (2, .ref ((tq_la X).1 28 0)), (1, .ref ((tq_la X).1 27 0)), (0, .ref b)] [] := by
  refine go_aload_n (pc := 691) C dL_law_691 2 rfl rfl ?_
  refine go_aload_n (pc := 692) C dL_law_692 3 rfl rfl ?_
  refine go_iload_n (pc := 693) C dL_law_693 0 rfl rfl ?_
  refine go_iconst (pc := 694) (v := 1) C dL_law_694 (by decide) ?_
  refine go_iadd (pc := 695) C dL_law_695 ?_
  refine go_sld (pc := 696) C HX (lx_in (k := 1) hi (by decide) hL) dL_law_696 ?_
  refine go_aload_n (pc := 697) C dL_law_697 3 rfl rfl ?_
  refine go_iload_n (pc := 698) C dL_law_698 0 rfl rfl ?_
  refine go_iconst (pc := 699) (v := 2) C dL_law_699 (by decide) ?_
  refine go_iadd (pc := 700) C dL_law_700 ?_
  refine go_sld (pc := 701) C HX (lx_in (k := 2) hi (by decide) hL) dL_law_701 ?_
  refine go_cVi (pc := 702) C cw_L_101 (ok_X6_best (h (xs (nI i + 1 : Int32).toNatClampNeg) (xs (nI i + 2 : Int32).toNatClampNeg) _ hJ)) (rc_X6 C) rfl rfl rfl (by decide) rfl dL_law_702 (fun r1 S1 hf => ?_)
  refine go_pop (pc := 705) C dL_law_705 rfl ?_
  refine go_aload_n (pc := 706) C dL_law_706 1 rfl rfl ?_
  refine go_aload_n (pc := 707) C dL_law_707 3 rfl rfl ?_
  refine go_iload_n (pc := 708) C dL_law_708 0 rfl rfl ?_
  refine go_iconst (pc := 709) (v := 1) C dL_law_709 (by decide) ?_
  refine go_iadd (pc := 710) C dL_law_710 ?_
  refine go_sld (pc := 711) C HX (lx_in (k := 1) hi (by decide) hL) dL_law_711 ?_
  refine go_aload_n (pc := 712) C dL_law_712 3 rfl rfl ?_
  refine go_iload_n (pc := 713) C dL_law_713 0 rfl rfl ?_
  refine go_iconst (pc := 714) (v := 2) C dL_law_714 (by decide) ?_
  refine go_iadd (pc := 715) C dL_law_715 ?_
  refine go_sld (pc := 716) C HX (lx_in (k := 2) hi (by decide) hL) dL_law_716 ?_
  refine go_cVi (pc := 717) C cw_L_104 (ok_X7_best hf) (rc_X7 C) rfl rfl rfl (by decide) rfl dL_law_717 (fun r2 S2 hf => ?_)
  refine go_pop (pc := 720) C dL_law_720 rfl ?_
  refine go_goto (pc := 721) C dL_law_721 1284 (by decide) ?_
  exact g _ hf
set_option maxRecDepth 100000 in
set_option maxHeartbeats 4000000 in
theorem lc_22 {X : tq_Cx} {S : tq_St} {b L i : Nat} {xs : Nat → Int32} {J : tq_St → Prop} (C : tq_C X cL_law 4 RL 40) (HX : tq_SX X b L xs) (hi : i + 5 ≤ L) (hL : L ≤ 320) (h : st_home J) (hJ : J S) (g : ∀ S2 : tq_St, J S2 → Go X 4 S2 1284 [(3, .int (nI i)), (2, .ref ((tq_la X).1 28 0)), (1, .ref ((tq_la X).1 27 0)), (0, .ref b)] []) : Go X 4 S 724 [(3, .int (nI i)), (2, .ref ((tq_la X).1 28 0)), (1, .ref ((tq_la X).1 27 0)), (0, .ref b)] [] := by
  refine go_aload_n (pc := 724) C dL_law_724 2 rfl rfl ?_
  refine go_aload_n (pc := 725) C dL_law_725 3 rfl rfl ?_
  refine go_iload_n (pc := 726) C dL_law_726 0 rfl rfl ?_
  refine go_iconst (pc := 727) (v := 1) C dL_law_727 (by decide) ?_
  refine go_iadd (pc := 728) C dL_law_728 ?_
  refine go_sld (pc := 729) C HX (lx_in (k := 1) hi (by decide) hL) dL_law_729 ?_
  refine go_aload_n (pc := 730) C dL_law_730 3 rfl rfl ?_
  refine go_iload_n (pc := 731) C dL_law_731 0 rfl rfl ?_
  refine go_iconst (pc := 732) (v := 2) C dL_law_732 (by decide) ?_
  refine go_iadd (pc := 733) C dL_law_733 ?_
  refine go_sld (pc := 734) C HX (lx_in (k := 2) hi (by decide) hL) dL_law_734 ?_
  refine go_cVi (pc := 735) C cw_L_105 (ok_X6_home (h (xs (nI i + 1 : Int32).toNatClampNeg) (xs (nI i + 2 : Int32).toNatClampNeg) _ hJ)) (rc_X6 C) rfl rfl rfl (by decide) rfl dL_law_735 (fun r1 S1 hf => ?_)
  refine go_pop (pc := 738) C dL_law_738 rfl ?_
  refine go_aload_n (pc := 739) C dL_law_739 1 rfl rfl ?_
  refine go_aload_n (pc := 740) C dL_law_740 3 rfl rfl ?_
  refine go_iload_n (pc := 741) C dL_law_741 0 rfl rfl ?_
  refine go_iconst (pc := 742) (v := 1) C dL_law_742 (by decide) ?_
  refine go_iadd (pc := 743) C dL_law_743 ?_
  refine go_sld (pc := 744) C HX (lx_in (k := 1) hi (by decide) hL) dL_law_744 ?_
  refine go_aload_n (pc := 745) C dL_law_745 3 rfl rfl ?_
  refine go_iload_n (pc := 746) C dL_law_746 0 rfl rfl ?_
  refine go_iconst (pc := 747) (v := 2) C dL_law_747 (by decide) ?_
  refine go_iadd (pc := 748) C dL_law_748 ?_
  refine go_sld (pc := 749) C HX (lx_in (k := 2) hi (by decide) hL) dL_law_749 ?_
  refine go_cVi (pc := 750) C cw_L_108 (ok_X7_home hf) (rc_X7 C) rfl rfl rfl (by decide) rfl dL_law_750 (fun r2 S2 hf => ?_)
  refine go_pop (pc := 753) C dL_law_753 rfl ?_
  refine go_goto (pc := 754) C dL_law_754 1284 (by decide) ?_
  exact g _ hf
set_option maxRecDepth 100000 in
set_option maxHeartbeats 4000000 in
theorem lc_23 {X : tq_Cx} {S : tq_St} {b L i : Nat} {xs : Nat → Int32} {J : tq_St → Prop} (C : tq_C X cL_law 4 RL 40) (HX : tq_SX X b L xs) (hi : i + 5 ≤ L) (hL : L ≤ 320) (h : st_swap J) (hJ : J S) (g : ∀ S2 : tq_St, J S2 → Go X 4 S2 1284 [(3, .int (nI i)), (2, .ref ((tq_la X).1 28 0)), (1, .ref ((tq_la X).1 27 0)), (0, .ref b)] []) : Go X 4 S 757 [(3, .int (nI i)), (2, .ref ((tq_la X).1 28 0)), (1, .ref ((tq_la X).1 27 0)), (0, .ref b)] [] := by
  refine go_aload_n (pc := 757) C dL_law_757 2 rfl rfl ?_
  refine go_aload_n (pc := 758) C dL_law_758 3 rfl rfl ?_
  refine go_iload_n (pc := 759) C dL_law_759 0 rfl rfl ?_
  refine go_iconst (pc := 760) (v := 1) C dL_law_760 (by decide) ?_
  refine go_iadd (pc := 761) C dL_law_761 ?_
  refine go_sld (pc := 762) C HX (lx_in (k := 1) hi (by decide) hL) dL_law_762 ?_
  refine go_cVi (pc := 763) C cw_L_109 (ok_X6_swap (h (xs (nI i + 1 : Int32).toNatClampNeg) _ hJ)) (rc_X6 C) rfl rfl rfl (by decide) rfl dL_law_763 (fun r1 S1 hf => ?_)
  refine go_pop (pc := 766) C dL_law_766 rfl ?_
  refine go_aload_n (pc := 767) C dL_law_767 1 rfl rfl ?_
  refine go_aload_n (pc := 768) C dL_law_768 3 rfl rfl ?_
  refine go_iload_n (pc := 769) C dL_law_769 0 rfl rfl ?_
  refine go_iconst (pc := 770) (v := 1) C dL_law_770 (by decide) ?_
  refine go_iadd (pc := 771) C dL_law_771 ?_
  refine go_sld (pc := 772) C HX (lx_in (k := 1) hi (by decide) hL) dL_law_772 ?_
  refine go_cVi (pc := 773) C cw_L_112 (ok_X7_swap hf) (rc_X7 C) rfl rfl rfl (by decide) rfl dL_law_773 (fun r2 S2 hf => ?_)
  refine go_pop (pc := 776) C dL_law_776 rfl ?_
  refine go_goto (pc := 777) C dL_law_777 1284 (by decide) ?_
  exact g _ hf
set_option maxRecDepth 100000 in
set_option maxHeartbeats 4000000 in
theorem lc_24 {X : tq_Cx} {S : tq_St} {b L i : Nat} {xs : Nat → Int32} {J : tq_St → Prop} (C : tq_C X cL_law 4 RL 40) (HX : tq_SX X b L xs) (hi : i + 5 ≤ L) (hL : L ≤ 320) (h : st_enough J) (hJ : J S) (g : ∀ S2 : tq_St, J S2 → Go X 4 S2 1284 [(3, .int (nI i)), (2, .ref ((tq_la X).1 28 0)), (1, .ref ((tq_la X).1 27 0)), (0, .ref b)] []) : Go X 4 S 780 [(3, .int (nI i)), (2, .ref ((tq_la X).1 28 0)), (1, .ref ((tq_la X).1 27 0)), (0, .ref b)] [] := by
  refine go_aload_n (pc := 780) C dL_law_780 2 rfl rfl ?_
  refine go_cVi (pc := 781) C cw_L_113 (ok_X6_enough (h _ hJ)) (rc_X6 C) rfl rfl rfl (by decide) rfl dL_law_781 (fun r1 S1 hf => ?_)
  refine go_pop (pc := 784) C dL_law_784 rfl ?_
  refine go_aload_n (pc := 785) C dL_law_785 1 rfl rfl ?_
  refine go_cVi (pc := 786) C cw_L_116 (ok_X7_enough hf) (rc_X7 C) rfl rfl rfl (by decide) rfl dL_law_786 (fun r2 S2 hf => ?_)
  refine go_pop (pc := 789) C dL_law_789 rfl ?_
  refine go_goto (pc := 790) C dL_law_790 1284 (by decide) ?_
  exact g _ hf
set_option maxRecDepth 100000 in
set_option maxHeartbeats 4000000 in
theorem lc_25 {X : tq_Cx} {S : tq_St} {b L i : Nat} {xs : Nat → Int32} {J : tq_St → Prop} (C : tq_C X cL_law 4 RL 40) (HX : tq_SX X b L xs) (hi : i + 5 ≤ L) (hL : L ≤ 320) (h : st_luck J) (hJ : J S) (g : ∀ S2 : tq_St, J S2 → Go X 4 S2 1284 [(3, .int (nI i)), (2, .ref ((tq_la X).1 28 0)), (1, .ref ((tq_la X).1 27 0)), (0, .ref b)] []) : Go X 4 S 793 [(3, .int (nI i)), (2, .ref ((tq_la X).1 28 0)), (1, .ref ((tq_la X).1 27 0)), (0, .ref b)] [] := by
  refine go_aload_n (pc := 793) C dL_law_793 2 rfl rfl ?_
  refine go_aload_n (pc := 794) C dL_law_794 3 rfl rfl ?_
  refine go_iload_n (pc := 795) C dL_law_795 0 rfl rfl ?_
  refine go_iconst (pc := 796) (v := 1) C dL_law_796 (by decide) ?_
  refine go_iadd (pc := 797) C dL_law_797 ?_
  refine go_sld (pc := 798) C HX (lx_in (k := 1) hi (by decide) hL) dL_law_798 ?_
  refine go_aload_n (pc := 799) C dL_law_799 3 rfl rfl ?_
  refine go_iload_n (pc := 800) C dL_law_800 0 rfl rfl ?_
  refine go_iconst (pc := 801) (v := 2) C dL_law_801 (by decide) ?_
  refine go_iadd (pc := 802) C dL_law_802 ?_
  refine go_sld (pc := 803) C HX (lx_in (k := 2) hi (by decide) hL) dL_law_803 ?_
  refine go_aload_n (pc := 804) C dL_law_804 3 rfl rfl ?_
  refine go_iload_n (pc := 805) C dL_law_805 0 rfl rfl ?_
  refine go_iconst (pc := 806) (v := 3) C dL_law_806 (by decide) ?_
  refine go_iadd (pc := 807) C dL_law_807 ?_
  refine go_sld (pc := 808) C HX (lx_in (k := 3) hi (by decide) hL) dL_law_808 ?_
  refine go_cVl (pc := 809) C cw_L_117 (ok_X6_luck (h (xs (nI i + 1 : Int32).toNatClampNeg) (xs (nI i + 2 : Int32).toNatClampNeg) (xs (nI i + 3 : Int32).toNatClampNeg) _ hJ)) (rc_X6 C) rfl rfl rfl (by decide) rfl dL_law_809 (fun r1 S1 hf => ?_)
  refine go_pop2 (pc := 812) C dL_law_812 rfl ?_
  refine go_aload_n (pc := 813) C dL_law_813 1 rfl rfl ?_
  refine go_aload_n (pc := 814) C dL_law_814 3 rfl rfl ?_
  refine go_iload_n (pc := 815) C dL_law_815 0 rfl rfl ?_
  refine go_iconst (pc := 816) (v := 1) C dL_law_816 (by decide) ?_
  refine go_iadd (pc := 817) C dL_law_817 ?_
  refine go_sld (pc := 818) C HX (lx_in (k := 1) hi (by decide) hL) dL_law_818 ?_
  refine go_aload_n (pc := 819) C dL_law_819 3 rfl rfl ?_
  refine go_iload_n (pc := 820) C dL_law_820 0 rfl rfl ?_
  refine go_iconst (pc := 821) (v := 2) C dL_law_821 (by decide) ?_
  refine go_iadd (pc := 822) C dL_law_822 ?_
  refine go_sld (pc := 823) C HX (lx_in (k := 2) hi (by decide) hL) dL_law_823 ?_
  refine go_aload_n (pc := 824) C dL_law_824 3 rfl rfl ?_
  refine go_iload_n (pc := 825) C dL_law_825 0 rfl rfl ?_
  refine go_iconst (pc := 826) (v := 3) C dL_law_826 (by decide) ?_
  refine go_iadd (pc := 827) C dL_law_827 ?_
  refine go_sld (pc := 828) C HX (lx_in (k := 3) hi (by decide) hL) dL_law_828 ?_
  refine go_cVl (pc := 829) C cw_L_121 (ok_X7_luck hf) (rc_X7 C) rfl rfl rfl (by decide) rfl dL_law_829 (fun r2 S2 hf => ?_)
  refine go_pop2 (pc := 832) C dL_law_832 rfl ?_
  refine go_goto (pc := 833) C dL_law_833 1284 (by decide) ?_
  exact g _ hf
set_option maxRecDepth 100000 in
set_option maxHeartbeats 4000000 in
theorem lc_26 {X : tq_Cx} {S : tq_St} {b L i : Nat} {xs : Nat → Int32} {J : tq_St → Prop} (C : tq_C X cL_law 4 RL 40) (HX : tq_SX X b L xs) (hi : i + 5 ≤ L) (hL : L ≤ 320) (h : st_mean J) (hJ : J S) (g : ∀ S2 : tq_St, J S2 → Go X 4 S2 1284 [(3, .int (nI i)), (2, .ref ((tq_la X).1 28 0)), (1, .ref ((tq_la X).1 27 0)), (0, .ref b)] []) : Go X 4 S 836 [(3, .int (nI i)), (2, .ref ((tq_la X).1 28 0)), (1, .ref ((tq_la X).1 27 0)), (0, .ref b)] [] := by
  refine go_aload_n (pc := 836) C dL_law_836 2 rfl rfl ?_
  refine go_aload_n (pc := 837) C dL_law_837 3 rfl rfl ?_
  refine go_iload_n (pc := 838) C dL_law_838 0 rfl rfl ?_
  refine go_iconst (pc := 839) (v := 1) C dL_law_839 (by decide) ?_
  refine go_iadd (pc := 840) C dL_law_840 ?_
  refine go_sld (pc := 841) C HX (lx_in (k := 1) hi (by decide) hL) dL_law_841 ?_
  refine go_aload_n (pc := 842) C dL_law_842 3 rfl rfl ?_
  refine go_iload_n (pc := 843) C dL_law_843 0 rfl rfl ?_
  refine go_iconst (pc := 844) (v := 2) C dL_law_844 (by decide) ?_
  refine go_iadd (pc := 845) C dL_law_845 ?_
  refine go_sld (pc := 846) C HX (lx_in (k := 2) hi (by decide) hL) dL_law_846 ?_
  refine go_cVl (pc := 847) C cw_L_122 (ok_X6_mean (h (xs (nI i + 1 : Int32).toNatClampNeg) (xs (nI i + 2 : Int32).toNatClampNeg) _ hJ)) (rc_X6 C) rfl rfl rfl (by decide) rfl dL_law_847 (fun r1 S1 hf => ?_)
  refine go_pop2 (pc := 850) C dL_law_850 rfl ?_
  refine go_aload_n (pc := 851) C dL_law_851 1 rfl rfl ?_
  refine go_aload_n (pc := 852) C dL_law_852 3 rfl rfl ?_
  refine go_iload_n (pc := 853) C dL_law_853 0 rfl rfl ?_
  refine go_iconst (pc := 854) (v := 1) C dL_law_854 (by decide) ?_
  refine go_iadd (pc := 855) C dL_law_855 ?_
  refine go_sld (pc := 856) C HX (lx_in (k := 1) hi (by decide) hL) dL_law_856 ?_
  refine go_aload_n (pc := 857) C dL_law_857 3 rfl rfl ?_
  refine go_iload_n (pc := 858) C dL_law_858 0 rfl rfl ?_
  refine go_iconst (pc := 859) (v := 2) C dL_law_859 (by decide) ?_
  refine go_iadd (pc := 860) C dL_law_860 ?_
  refine go_sld (pc := 861) C HX (lx_in (k := 2) hi (by decide) hL) dL_law_861 ?_
  refine go_cVl (pc := 862) C cw_L_126 (ok_X7_mean hf) (rc_X7 C) rfl rfl rfl (by decide) rfl dL_law_862 (fun r2 S2 hf => ?_)
  refine go_pop2 (pc := 865) C dL_law_865 rfl ?_
  refine go_goto (pc := 866) C dL_law_866 1284 (by decide) ?_
  exact g _ hf
set_option maxRecDepth 100000 in
set_option maxHeartbeats 4000000 in
theorem lc_27 {X : tq_Cx} {S : tq_St} {b L i : Nat} {xs : Nat → Int32} {J : tq_St → Prop} (C : tq_C X cL_law 4 RL 40) (HX : tq_SX X b L xs) (hi : i + 5 ≤ L) (hL : L ≤ 320) (h : st_see J) (hJ : J S) (g : ∀ S2 : tq_St, J S2 → Go X 4 S2 1284 [(3, .int (nI i)), (2, .ref ((tq_la X).1 28 0)), (1, .ref ((tq_la X).1 27 0)), (0, .ref b)] []) : Go X 4 S 869 [(3, .int (nI i)), (2, .ref ((tq_la X).1 28 0)), (1, .ref ((tq_la X).1 27 0)), (0, .ref b)] [] := by
  refine go_aload_n (pc := 869) C dL_law_869 2 rfl rfl ?_
  refine go_aload_n (pc := 870) C dL_law_870 3 rfl rfl ?_
  refine go_iload_n (pc := 871) C dL_law_871 0 rfl rfl ?_
  refine go_iconst (pc := 872) (v := 1) C dL_law_872 (by decide) ?_
  refine go_iadd (pc := 873) C dL_law_873 ?_
  refine go_sld (pc := 874) C HX (lx_in (k := 1) hi (by decide) hL) dL_law_874 ?_
  refine go_aload_n (pc := 875) C dL_law_875 3 rfl rfl ?_
  refine go_iload_n (pc := 876) C dL_law_876 0 rfl rfl ?_
  refine go_iconst (pc := 877) (v := 2) C dL_law_877 (by decide) ?_
  refine go_iadd (pc := 878) C dL_law_878 ?_
  refine go_sld (pc := 879) C HX (lx_in (k := 2) hi (by decide) hL) dL_law_879 ?_
  refine go_if_eq (pc := 880) C dL_law_880 887 (by decide) (fun cz => ?_) (fun cz => ?_)
  · refine go_iconst (pc := 887) (v := 0) C dL_law_887 (by decide) ?_
    refine go_cVi (pc := 888) C cw_L_127 (ok_X6_see (h (xs (nI i + 1 : Int32).toNatClampNeg) (0) _ (Or.inl rfl) hJ)) (rc_X6 C) rfl rfl rfl (by decide) rfl dL_law_888 (fun r1 S1 hf => ?_)
    refine go_pop (pc := 891) C dL_law_891 rfl ?_
    refine go_aload_n (pc := 892) C dL_law_892 1 rfl rfl ?_
    refine go_aload_n (pc := 893) C dL_law_893 3 rfl rfl ?_
    refine go_iload_n (pc := 894) C dL_law_894 0 rfl rfl ?_
    refine go_iconst (pc := 895) (v := 1) C dL_law_895 (by decide) ?_
    refine go_iadd (pc := 896) C dL_law_896 ?_
    refine go_sld (pc := 897) C HX (lx_in (k := 1) hi (by decide) hL) dL_law_897 ?_
    refine go_aload_n (pc := 898) C dL_law_898 3 rfl rfl ?_
    refine go_iload_n (pc := 899) C dL_law_899 0 rfl rfl ?_
    refine go_iconst (pc := 900) (v := 2) C dL_law_900 (by decide) ?_
    refine go_iadd (pc := 901) C dL_law_901 ?_
    refine go_sld (pc := 902) C HX (lx_in (k := 2) hi (by decide) hL) dL_law_902 ?_
    refine go_if_eq (pc := 903) C dL_law_903 910 (by decide) (fun c => ?_) (fun c => absurd cz c)
    refine go_iconst (pc := 910) (v := 0) C dL_law_910 (by decide) ?_
    refine go_cVi (pc := 911) C cw_L_131 (ok_X7_see hf) (rc_X7 C) rfl rfl rfl (by decide) rfl dL_law_911 (fun r2 S2 hf => ?_)
    refine go_pop (pc := 914) C dL_law_914 rfl ?_
    refine go_goto (pc := 915) C dL_law_915 1284 (by decide) ?_
    exact g _ hf
  · refine go_iconst (pc := 883) (v := 1) C dL_law_883 (by decide) ?_
    refine go_goto (pc := 884) C dL_law_884 888 (by decide) ?_
    refine go_cVi (pc := 888) C cw_L_127 (ok_X6_see (h (xs (nI i + 1 : Int32).toNatClampNeg) (1) _ (Or.inr rfl) hJ)) (rc_X6 C) rfl rfl rfl (by decide) rfl dL_law_888 (fun r1 S1 hf => ?_)
    refine go_pop (pc := 891) C dL_law_891 rfl ?_
    refine go_aload_n (pc := 892) C dL_law_892 1 rfl rfl ?_
    refine go_aload_n (pc := 893) C dL_law_893 3 rfl rfl ?_
    refine go_iload_n (pc := 894) C dL_law_894 0 rfl rfl ?_
    refine go_iconst (pc := 895) (v := 1) C dL_law_895 (by decide) ?_
    refine go_iadd (pc := 896) C dL_law_896 ?_
    refine go_sld (pc := 897) C HX (lx_in (k := 1) hi (by decide) hL) dL_law_897 ?_
    refine go_aload_n (pc := 898) C dL_law_898 3 rfl rfl ?_
    refine go_iload_n (pc := 899) C dL_law_899 0 rfl rfl ?_
    refine go_iconst (pc := 900) (v := 2) C dL_law_900 (by decide) ?_
    refine go_iadd (pc := 901) C dL_law_901 ?_
    refine go_sld (pc := 902) C HX (lx_in (k := 2) hi (by decide) hL) dL_law_902 ?_
    refine go_if_eq (pc := 903) C dL_law_903 910 (by decide) (fun c => absurd c cz) (fun c => ?_)
    refine go_iconst (pc := 906) (v := 1) C dL_law_906 (by decide) ?_
    refine go_goto (pc := 907) C dL_law_907 911 (by decide) ?_
    refine go_cVi (pc := 911) C cw_L_131 (ok_X7_see hf) (rc_X7 C) rfl rfl rfl (by decide) rfl dL_law_911 (fun r2 S2 hf => ?_)
    refine go_pop (pc := 914) C dL_law_914 rfl ?_
    refine go_goto (pc := 915) C dL_law_915 1284 (by decide) ?_
    exact g _ hf
set_option maxRecDepth 100000 in
set_option maxHeartbeats 4000000 in
theorem lc_28 {X : tq_Cx} {S : tq_St} {b L i : Nat} {xs : Nat → Int32} {J : tq_St → Prop} (C : tq_C X cL_law 4 RL 40) (HX : tq_SX X b L xs) (hi : i + 5 ≤ L) (hL : L ≤ 320) (h : st_forget J) (hJ : J S) (g : ∀ S2 : tq_St, J S2 → Go X 4 S2 1284 [(3, .int (nI i)), (2, .ref ((tq_la X).1 28 0)), (1, .ref ((tq_la X).1 27 0)), (0, .ref b)] []) : Go X 4 S 918 [(3, .int (nI i)), (2, .ref ((tq_la X).1 28 0)), (1, .ref ((tq_la X).1 27 0)), (0, .ref b)] [] := by
  refine go_aload_n (pc := 918) C dL_law_918 2 rfl rfl ?_
  refine go_aload_n (pc := 919) C dL_law_919 3 rfl rfl ?_
  refine go_iload_n (pc := 920) C dL_law_920 0 rfl rfl ?_
  refine go_iconst (pc := 921) (v := 1) C dL_law_921 (by decide) ?_
  refine go_iadd (pc := 922) C dL_law_922 ?_
  refine go_sld (pc := 923) C HX (lx_in (k := 1) hi (by decide) hL) dL_law_923 ?_
  refine go_cVi (pc := 924) C cw_L_132 (ok_X6_forget (h (xs (nI i + 1 : Int32).toNatClampNeg) _ hJ)) (rc_X6 C) rfl rfl rfl (by decide) rfl dL_law_924 (fun r1 S1 hf => ?_)
  refine go_pop (pc := 927) C dL_law_927 rfl ?_
  refine go_aload_n (pc := 928) C dL_law_928 1 rfl rfl ?_
  refine go_aload_n (pc := 929) C dL_law_929 3 rfl rfl ?_
  refine go_iload_n (pc := 930) C dL_law_930 0 rfl rfl ?_
  refine go_iconst (pc := 931) (v := 1) C dL_law_931 (by decide) ?_
  refine go_iadd (pc := 932) C dL_law_932 ?_
  refine go_sld (pc := 933) C HX (lx_in (k := 1) hi (by decide) hL) dL_law_933 ?_
  refine go_cVi (pc := 934) C cw_L_135 (ok_X7_forget hf) (rc_X7 C) rfl rfl rfl (by decide) rfl dL_law_934 (fun r2 S2 hf => ?_)
  refine go_pop (pc := 937) C dL_law_937 rfl ?_
  refine go_goto (pc := 938) C dL_law_938 1284 (by decide) ?_
  exact g _ hf
set_option maxRecDepth 100000 in
set_option maxHeartbeats 4000000 in
theorem lc_29 {X : tq_Cx} {S : tq_St} {b L i : Nat} {xs : Nat → Int32} {J : tq_St → Prop} (C : tq_C X cL_law 4 RL 40) (HX : tq_SX X b L xs) (hi : i + 5 ≤ L) (hL : L ≤ 320) (h : st_kinds J) (hJ : J S) (g : ∀ S2 : tq_St, J S2 → Go X 4 S2 1284 [(3, .int (nI i)), (2, .ref ((tq_la X).1 28 0)), (1, .ref ((tq_la X).1 27 0)), (0, .ref b)] []) : Go X 4 S 941 [(3, .int (nI i)), (2, .ref ((tq_la X).1 28 0)), (1, .ref ((tq_la X).1 27 0)), (0, .ref b)] [] := by
  refine go_aload_n (pc := 941) C dL_law_941 2 rfl rfl ?_
  refine go_aload_n (pc := 942) C dL_law_942 3 rfl rfl ?_
  refine go_iload_n (pc := 943) C dL_law_943 0 rfl rfl ?_
  refine go_iconst (pc := 944) (v := 1) C dL_law_944 (by decide) ?_
  refine go_iadd (pc := 945) C dL_law_945 ?_
  refine go_sld (pc := 946) C HX (lx_in (k := 1) hi (by decide) hL) dL_law_946 ?_
  refine go_cVi (pc := 947) C cw_L_136 (ok_X6_kinds (h (xs (nI i + 1 : Int32).toNatClampNeg) _ hJ)) (rc_X6 C) rfl rfl rfl (by decide) rfl dL_law_947 (fun r1 S1 hf => ?_)
  refine go_pop (pc := 950) C dL_law_950 rfl ?_
  refine go_aload_n (pc := 951) C dL_law_951 1 rfl rfl ?_
  refine go_aload_n (pc := 952) C dL_law_952 3 rfl rfl ?_
  refine go_iload_n (pc := 953) C dL_law_953 0 rfl rfl ?_
  refine go_iconst (pc := 954) (v := 1) C dL_law_954 (by decide) ?_
  refine go_iadd (pc := 955) C dL_law_955 ?_
  refine go_sld (pc := 956) C HX (lx_in (k := 1) hi (by decide) hL) dL_law_956 ?_
  refine go_cVi (pc := 957) C cw_L_139 (ok_X7_kinds hf) (rc_X7 C) rfl rfl rfl (by decide) rfl dL_law_957 (fun r2 S2 hf => ?_)
  refine go_pop (pc := 960) C dL_law_960 rfl ?_
  refine go_goto (pc := 961) C dL_law_961 1284 (by decide) ?_
  exact g _ hf
set_option maxRecDepth 100000 in
set_option maxHeartbeats 4000000 in
theorem lc_30 {X : tq_Cx} {S : tq_St} {b L i : Nat} {xs : Nat → Int32} {J : tq_St → Prop} (C : tq_C X cL_law 4 RL 40) (HX : tq_SX X b L xs) (hi : i + 5 ≤ L) (hL : L ≤ 320) (h : st_sorrows J) (hJ : J S) (g : ∀ S2 : tq_St, J S2 → Go X 4 S2 1284 [(3, .int (nI i)), (2, .ref ((tq_la X).1 28 0)), (1, .ref ((tq_la X).1 27 0)), (0, .ref b)] []) : Go X 4 S 964 [(3, .int (nI i)), (2, .ref ((tq_la X).1 28 0)), (1, .ref ((tq_la X).1 27 0)), (0, .ref b)] [] := by
  refine go_aload_n (pc := 964) C dL_law_964 2 rfl rfl ?_
  refine go_aload_n (pc := 965) C dL_law_965 3 rfl rfl ?_
  refine go_iload_n (pc := 966) C dL_law_966 0 rfl rfl ?_
  refine go_iconst (pc := 967) (v := 1) C dL_law_967 (by decide) ?_
  refine go_iadd (pc := 968) C dL_law_968 ?_
  refine go_sld (pc := 969) C HX (lx_in (k := 1) hi (by decide) hL) dL_law_969 ?_
  refine go_cVi (pc := 970) C cw_L_140 (ok_X6_sorrows (h (xs (nI i + 1 : Int32).toNatClampNeg) _ hJ)) (rc_X6 C) rfl rfl rfl (by decide) rfl dL_law_970 (fun r1 S1 hf => ?_)
  refine go_pop (pc := 973) C dL_law_973 rfl ?_
  refine go_aload_n (pc := 974) C dL_law_974 1 rfl rfl ?_
  refine go_aload_n (pc := 975) C dL_law_975 3 rfl rfl ?_
  refine go_iload_n (pc := 976) C dL_law_976 0 rfl rfl ?_
  refine go_iconst (pc := 977) (v := 1) C dL_law_977 (by decide) ?_
  refine go_iadd (pc := 978) C dL_law_978 ?_
  refine go_sld (pc := 979) C HX (lx_in (k := 1) hi (by decide) hL) dL_law_979 ?_
  refine go_cVi (pc := 980) C cw_L_143 (ok_X7_sorrows hf) (rc_X7 C) rfl rfl rfl (by decide) rfl dL_law_980 (fun r2 S2 hf => ?_)
  refine go_pop (pc := 983) C dL_law_983 rfl ?_
  refine go_goto (pc := 984) C dL_law_984 1284 (by decide) ?_
  exact g _ hf
set_option maxRecDepth 100000 in
set_option maxHeartbeats 4000000 in
theorem lc_31 {X : tq_Cx} {S : tq_St} {b L i : Nat} {xs : Nat → Int32} {J : tq_St → Prop} (C : tq_C X cL_law 4 RL 40) (HX : tq_SX X b L xs) (hi : i + 5 ≤ L) (hL : L ≤ 320) (h : st_ask J) (hJ : J S) (g : ∀ S2 : tq_St, J S2 → Go X 4 S2 1284 [(3, .int (nI i)), (2, .ref ((tq_la X).1 28 0)), (1, .ref ((tq_la X).1 27 0)), (0, .ref b)] []) : Go X 4 S 987 [(3, .int (nI i)), (2, .ref ((tq_la X).1 28 0)), (1, .ref ((tq_la X).1 27 0)), (0, .ref b)] [] := by
  refine go_aload_n (pc := 987) C dL_law_987 2 rfl rfl ?_
  refine go_aload_n (pc := 988) C dL_law_988 3 rfl rfl ?_
  refine go_iload_n (pc := 989) C dL_law_989 0 rfl rfl ?_
  refine go_iconst (pc := 990) (v := 1) C dL_law_990 (by decide) ?_
  refine go_iadd (pc := 991) C dL_law_991 ?_
  refine go_sld (pc := 992) C HX (lx_in (k := 1) hi (by decide) hL) dL_law_992 ?_
  refine go_aload_n (pc := 993) C dL_law_993 3 rfl rfl ?_
  refine go_iload_n (pc := 994) C dL_law_994 0 rfl rfl ?_
  refine go_iconst (pc := 995) (v := 2) C dL_law_995 (by decide) ?_
  refine go_iadd (pc := 996) C dL_law_996 ?_
  refine go_sld (pc := 997) C HX (lx_in (k := 2) hi (by decide) hL) dL_law_997 ?_
  refine go_cVi (pc := 998) C cw_L_144 (ok_X6_ask (h (xs (nI i + 1 : Int32).toNatClampNeg) (xs (nI i + 2 : Int32).toNatClampNeg) _ hJ)) (rc_X6 C) rfl rfl rfl (by decide) rfl dL_law_998 (fun r1 S1 hf => ?_)
  refine go_pop (pc := 1001) C dL_law_1001 rfl ?_
  refine go_aload_n (pc := 1002) C dL_law_1002 1 rfl rfl ?_
  refine go_aload_n (pc := 1003) C dL_law_1003 3 rfl rfl ?_
  refine go_iload_n (pc := 1004) C dL_law_1004 0 rfl rfl ?_
  refine go_iconst (pc := 1005) (v := 1) C dL_law_1005 (by decide) ?_
  refine go_iadd (pc := 1006) C dL_law_1006 ?_
  refine go_sld (pc := 1007) C HX (lx_in (k := 1) hi (by decide) hL) dL_law_1007 ?_
  refine go_aload_n (pc := 1008) C dL_law_1008 3 rfl rfl ?_
  refine go_iload_n (pc := 1009) C dL_law_1009 0 rfl rfl ?_
  refine go_iconst (pc := 1010) (v := 2) C dL_law_1010 (by decide) ?_
  refine go_iadd (pc := 1011) C dL_law_1011 ?_
  refine go_sld (pc := 1012) C HX (lx_in (k := 2) hi (by decide) hL) dL_law_1012 ?_
  refine go_cVi (pc := 1013) C cw_L_147 (ok_X7_ask hf) (rc_X7 C) rfl rfl rfl (by decide) rfl dL_law_1013 (fun r2 S2 hf => ?_)
  refine go_pop (pc := 1016) C dL_law_1016 rfl ?_
  refine go_goto (pc := 1017) C dL_law_1017 1284 (by decide) ?_
  exact g _ hf
set_option maxRecDepth 100000 in
set_option maxHeartbeats 4000000 in
theorem lc_32 {X : tq_Cx} {S : tq_St} {b L i : Nat} {xs : Nat → Int32} {J : tq_St → Prop} (C : tq_C X cL_law 4 RL 40) (HX : tq_SX X b L xs) (hi : i + 5 ≤ L) (hL : L ≤ 320) (h : st_drift J) (hJ : J S) (g : ∀ S2 : tq_St, J S2 → Go X 4 S2 1284 [(3, .int (nI i)), (2, .ref ((tq_la X).1 28 0)), (1, .ref ((tq_la X).1 27 0)), (0, .ref b)] []) : Go X 4 S 1020 [(3, .int (nI i)), (2, .ref ((tq_la X).1 28 0)), (1, .ref ((tq_la X).1 27 0)), (0, .ref b)] [] := by
  refine go_aload_n (pc := 1020) C dL_law_1020 2 rfl rfl ?_
  refine go_aload_n (pc := 1021) C dL_law_1021 3 rfl rfl ?_
  refine go_iload_n (pc := 1022) C dL_law_1022 0 rfl rfl ?_
  refine go_iconst (pc := 1023) (v := 1) C dL_law_1023 (by decide) ?_
  refine go_iadd (pc := 1024) C dL_law_1024 ?_
  refine go_sld (pc := 1025) C HX (lx_in (k := 1) hi (by decide) hL) dL_law_1025 ?_
  refine go_aload_n (pc := 1026) C dL_law_1026 3 rfl rfl ?_
  refine go_iload_n (pc := 1027) C dL_law_1027 0 rfl rfl ?_
  refine go_iconst (pc := 1028) (v := 2) C dL_law_1028 (by decide) ?_
  refine go_iadd (pc := 1029) C dL_law_1029 ?_
  refine go_sld (pc := 1030) C HX (lx_in (k := 2) hi (by decide) hL) dL_law_1030 ?_
  refine go_aload_n (pc := 1031) C dL_law_1031 3 rfl rfl ?_
  refine go_iload_n (pc := 1032) C dL_law_1032 0 rfl rfl ?_
  refine go_iconst (pc := 1033) (v := 3) C dL_law_1033 (by decide) ?_
  refine go_iadd (pc := 1034) C dL_law_1034 ?_
  refine go_sld (pc := 1035) C HX (lx_in (k := 3) hi (by decide) hL) dL_law_1035 ?_
  refine go_cVi (pc := 1036) C cw_L_148 (ok_X6_drift (h (xs (nI i + 1 : Int32).toNatClampNeg) (xs (nI i + 2 : Int32).toNatClampNeg) (xs (nI i + 3 : Int32).toNatClampNeg) _ hJ)) (rc_X6 C) rfl rfl rfl (by decide) rfl dL_law_1036 (fun r1 S1 hf => ?_)
  refine go_pop (pc := 1039) C dL_law_1039 rfl ?_
  refine go_aload_n (pc := 1040) C dL_law_1040 1 rfl rfl ?_
  refine go_aload_n (pc := 1041) C dL_law_1041 3 rfl rfl ?_
  refine go_iload_n (pc := 1042) C dL_law_1042 0 rfl rfl ?_
  refine go_iconst (pc := 1043) (v := 1) C dL_law_1043 (by decide) ?_
  refine go_iadd (pc := 1044) C dL_law_1044 ?_
  refine go_sld (pc := 1045) C HX (lx_in (k := 1) hi (by decide) hL) dL_law_1045 ?_
  refine go_aload_n (pc := 1046) C dL_law_1046 3 rfl rfl ?_
  refine go_iload_n (pc := 1047) C dL_law_1047 0 rfl rfl ?_
  refine go_iconst (pc := 1048) (v := 2) C dL_law_1048 (by decide) ?_
  refine go_iadd (pc := 1049) C dL_law_1049 ?_
  refine go_sld (pc := 1050) C HX (lx_in (k := 2) hi (by decide) hL) dL_law_1050 ?_
  refine go_aload_n (pc := 1051) C dL_law_1051 3 rfl rfl ?_
  refine go_iload_n (pc := 1052) C dL_law_1052 0 rfl rfl ?_
  refine go_iconst (pc := 1053) (v := 3) C dL_law_1053 (by decide) ?_
  refine go_iadd (pc := 1054) C dL_law_1054 ?_
  refine go_sld (pc := 1055) C HX (lx_in (k := 3) hi (by decide) hL) dL_law_1055 ?_
  refine go_cVi (pc := 1056) C cw_L_151 (ok_X7_drift hf) (rc_X7 C) rfl rfl rfl (by decide) rfl dL_law_1056 (fun r2 S2 hf => ?_)
  refine go_pop (pc := 1059) C dL_law_1059 rfl ?_
  refine go_goto (pc := 1060) C dL_law_1060 1284 (by decide) ?_
  exact g _ hf
set_option maxRecDepth 100000 in
set_option maxHeartbeats 4000000 in
theorem lc_33 {X : tq_Cx} {S : tq_St} {b L i : Nat} {xs : Nat → Int32} {J : tq_St → Prop} (C : tq_C X cL_law 4 RL 40) (HX : tq_SX X b L xs) (hi : i + 5 ≤ L) (hL : L ≤ 320) (h : st_keep J) (hJ : J S) (g : ∀ S2 : tq_St, J S2 → Go X 4 S2 1284 [(3, .int (nI i)), (2, .ref ((tq_la X).1 28 0)), (1, .ref ((tq_la X).1 27 0)), (0, .ref b)] []) : Go X 4 S 1063 [(3, .int (nI i)), (2, .ref ((tq_la X).1 28 0)), (1, .ref ((tq_la X).1 27 0)), (0, .ref b)] [] := by
  refine go_aload_n (pc := 1063) C dL_law_1063 2 rfl rfl ?_
  refine go_aload_n (pc := 1064) C dL_law_1064 3 rfl rfl ?_
  refine go_iload_n (pc := 1065) C dL_law_1065 0 rfl rfl ?_
  refine go_iconst (pc := 1066) (v := 1) C dL_law_1066 (by decide) ?_
  refine go_iadd (pc := 1067) C dL_law_1067 ?_
  refine go_sld (pc := 1068) C HX (lx_in (k := 1) hi (by decide) hL) dL_law_1068 ?_
  refine go_cVi (pc := 1069) C cw_L_152 (ok_X6_keep (h (xs (nI i + 1 : Int32).toNatClampNeg) _ hJ)) (rc_X6 C) rfl rfl rfl (by decide) rfl dL_law_1069 (fun r1 S1 hf => ?_)
  refine go_pop (pc := 1072) C dL_law_1072 rfl ?_
  refine go_aload_n (pc := 1073) C dL_law_1073 1 rfl rfl ?_
  refine go_aload_n (pc := 1074) C dL_law_1074 3 rfl rfl ?_
  refine go_iload_n (pc := 1075) C dL_law_1075 0 rfl rfl ?_
  refine go_iconst (pc := 1076) (v := 1) C dL_law_1076 (by decide) ?_
  refine go_iadd (pc := 1077) C dL_law_1077 ?_
  refine go_sld (pc := 1078) C HX (lx_in (k := 1) hi (by decide) hL) dL_law_1078 ?_
  refine go_cVi (pc := 1079) C cw_L_155 (ok_X7_keep hf) (rc_X7 C) rfl rfl rfl (by decide) rfl dL_law_1079 (fun r2 S2 hf => ?_)
  refine go_pop (pc := 1082) C dL_law_1082 rfl ?_
  refine go_goto (pc := 1083) C dL_law_1083 1284 (by decide) ?_
  exact g _ hf
set_option maxRecDepth 100000 in
set_option maxHeartbeats 4000000 in
theorem lc_34 {X : tq_Cx} {S : tq_St} {b L i : Nat} {xs : Nat → Int32} {J : tq_St → Prop} (C : tq_C X cL_law 4 RL 40) (HX : tq_SX X b L xs) (hi : i + 5 ≤ L) (hL : L ≤ 320) (h : st_back J) (hJ : J S) (g : ∀ S2 : tq_St, J S2 → Go X 4 S2 1284 [(3, .int (nI i)), (2, .ref ((tq_la X).1 28 0)), (1, .ref ((tq_la X).1 27 0)), (0, .ref b)] []) : Go X 4 S 1086 [(3, .int (nI i)), (2, .ref ((tq_la X).1 28 0)), (1, .ref ((tq_la X).1 27 0)), (0, .ref b)] [] := by
  refine go_aload_n (pc := 1086) C dL_law_1086 2 rfl rfl ?_
  refine go_aload_n (pc := 1087) C dL_law_1087 3 rfl rfl ?_
  refine go_iload_n (pc := 1088) C dL_law_1088 0 rfl rfl ?_
  refine go_iconst (pc := 1089) (v := 1) C dL_law_1089 (by decide) ?_
  refine go_iadd (pc := 1090) C dL_law_1090 ?_
  refine go_sld (pc := 1091) C HX (lx_in (k := 1) hi (by decide) hL) dL_law_1091 ?_
  refine go_cVi (pc := 1092) C cw_L_156 (ok_X6_back (h (xs (nI i + 1 : Int32).toNatClampNeg) _ hJ)) (rc_X6 C) rfl rfl rfl (by decide) rfl dL_law_1092 (fun r1 S1 hf => ?_)
  refine go_pop (pc := 1095) C dL_law_1095 rfl ?_
  refine go_aload_n (pc := 1096) C dL_law_1096 1 rfl rfl ?_
  refine go_aload_n (pc := 1097) C dL_law_1097 3 rfl rfl ?_
  refine go_iload_n (pc := 1098) C dL_law_1098 0 rfl rfl ?_
  refine go_iconst (pc := 1099) (v := 1) C dL_law_1099 (by decide) ?_
  refine go_iadd (pc := 1100) C dL_law_1100 ?_
  refine go_sld (pc := 1101) C HX (lx_in (k := 1) hi (by decide) hL) dL_law_1101 ?_
  refine go_cVi (pc := 1102) C cw_L_159 (ok_X7_back hf) (rc_X7 C) rfl rfl rfl (by decide) rfl dL_law_1102 (fun r2 S2 hf => ?_)
  refine go_pop (pc := 1105) C dL_law_1105 rfl ?_
  refine go_goto (pc := 1106) C dL_law_1106 1284 (by decide) ?_
  exact g _ hf
set_option maxRecDepth 100000 in
set_option maxHeartbeats 4000000 in
theorem lc_35 {X : tq_Cx} {S : tq_St} {b L i : Nat} {xs : Nat → Int32} {J : tq_St → Prop} (C : tq_C X cL_law 4 RL 40) (HX : tq_SX X b L xs) (hi : i + 5 ≤ L) (hL : L ≤ 320) (h : st_sheet J) (hJ : J S) (g : ∀ S2 : tq_St, J S2 → Go X 4 S2 1284 [(3, .int (nI i)), (2, .ref ((tq_la X).1 28 0)), (1, .ref ((tq_la X).1 27 0)), (0, .ref b)] []) : Go X 4 S 1109 [(3, .int (nI i)), (2, .ref ((tq_la X).1 28 0)), (1, .ref ((tq_la X).1 27 0)), (0, .ref b)] [] := by
  refine go_aload_n (pc := 1109) C dL_law_1109 2 rfl rfl ?_
  refine go_aload_n (pc := 1110) C dL_law_1110 3 rfl rfl ?_
  refine go_iload_n (pc := 1111) C dL_law_1111 0 rfl rfl ?_
  refine go_iconst (pc := 1112) (v := 1) C dL_law_1112 (by decide) ?_
  refine go_iadd (pc := 1113) C dL_law_1113 ?_
  refine go_sld (pc := 1114) C HX (lx_in (k := 1) hi (by decide) hL) dL_law_1114 ?_
  refine go_aload_n (pc := 1115) C dL_law_1115 3 rfl rfl ?_
  refine go_iload_n (pc := 1116) C dL_law_1116 0 rfl rfl ?_
  refine go_iconst (pc := 1117) (v := 2) C dL_law_1117 (by decide) ?_
  refine go_iadd (pc := 1118) C dL_law_1118 ?_
  refine go_sld (pc := 1119) C HX (lx_in (k := 2) hi (by decide) hL) dL_law_1119 ?_
  refine go_aload_n (pc := 1120) C dL_law_1120 3 rfl rfl ?_
  refine go_iload_n (pc := 1121) C dL_law_1121 0 rfl rfl ?_
  refine go_iconst (pc := 1122) (v := 3) C dL_law_1122 (by decide) ?_
  refine go_iadd (pc := 1123) C dL_law_1123 ?_
  refine go_sld (pc := 1124) C HX (lx_in (k := 3) hi (by decide) hL) dL_law_1124 ?_
  refine go_cVi (pc := 1125) C cw_L_160 (ok_X6_sheet (h (xs (nI i + 1 : Int32).toNatClampNeg) (xs (nI i + 2 : Int32).toNatClampNeg) (xs (nI i + 3 : Int32).toNatClampNeg) _ hJ)) (rc_X6 C) rfl rfl rfl (by decide) rfl dL_law_1125 (fun r1 S1 hf => ?_)
  refine go_pop (pc := 1128) C dL_law_1128 rfl ?_
  refine go_aload_n (pc := 1129) C dL_law_1129 1 rfl rfl ?_
  refine go_aload_n (pc := 1130) C dL_law_1130 3 rfl rfl ?_
  refine go_iload_n (pc := 1131) C dL_law_1131 0 rfl rfl ?_
  refine go_iconst (pc := 1132) (v := 1) C dL_law_1132 (by decide) ?_
  refine go_iadd (pc := 1133) C dL_law_1133 ?_
  refine go_sld (pc := 1134) C HX (lx_in (k := 1) hi (by decide) hL) dL_law_1134 ?_
  refine go_aload_n (pc := 1135) C dL_law_1135 3 rfl rfl ?_
  refine go_iload_n (pc := 1136) C dL_law_1136 0 rfl rfl ?_
  refine go_iconst (pc := 1137) (v := 2) C dL_law_1137 (by decide) ?_
  refine go_iadd (pc := 1138) C dL_law_1138 ?_
  refine go_sld (pc := 1139) C HX (lx_in (k := 2) hi (by decide) hL) dL_law_1139 ?_
  refine go_aload_n (pc := 1140) C dL_law_1140 3 rfl rfl ?_
  refine go_iload_n (pc := 1141) C dL_law_1141 0 rfl rfl ?_
  refine go_iconst (pc := 1142) (v := 3) C dL_law_1142 (by decide) ?_
  refine go_iadd (pc := 1143) C dL_law_1143 ?_
  refine go_sld (pc := 1144) C HX (lx_in (k := 3) hi (by decide) hL) dL_law_1144 ?_
  refine go_cVi (pc := 1145) C cw_L_163 (ok_X7_sheet hf) (rc_X7 C) rfl rfl rfl (by decide) rfl dL_law_1145 (fun r2 S2 hf => ?_)
  refine go_pop (pc := 1148) C dL_law_1148 rfl ?_
  refine go_goto (pc := 1149) C dL_law_1149 1284 (by decide) ?_
  exact g _ hf
set_option maxRecDepth 100000 in
set_option maxHeartbeats 4000000 in
theorem lc_36 {X : tq_Cx} {S : tq_St} {b L i : Nat} {xs : Nat → Int32} {J : tq_St → Prop} (C : tq_C X cL_law 4 RL 40) (HX : tq_SX X b L xs) (hi : i + 5 ≤ L) (hL : L ≤ 320) (h : st_lay J) (hJ : J S) (g : ∀ S2 : tq_St, J S2 → Go X 4 S2 1284 [(3, .int (nI i)), (2, .ref ((tq_la X).1 28 0)), (1, .ref ((tq_la X).1 27 0)), (0, .ref b)] []) : Go X 4 S 1152 [(3, .int (nI i)), (2, .ref ((tq_la X).1 28 0)), (1, .ref ((tq_la X).1 27 0)), (0, .ref b)] [] := by
  refine go_aload_n (pc := 1152) C dL_law_1152 2 rfl rfl ?_
  refine go_aload_n (pc := 1153) C dL_law_1153 3 rfl rfl ?_
  refine go_iload_n (pc := 1154) C dL_law_1154 0 rfl rfl ?_
  refine go_iconst (pc := 1155) (v := 1) C dL_law_1155 (by decide) ?_
  refine go_iadd (pc := 1156) C dL_law_1156 ?_
  refine go_sld (pc := 1157) C HX (lx_in (k := 1) hi (by decide) hL) dL_law_1157 ?_
  refine go_aload_n (pc := 1158) C dL_law_1158 3 rfl rfl ?_
  refine go_iload_n (pc := 1159) C dL_law_1159 0 rfl rfl ?_
  refine go_iconst (pc := 1160) (v := 2) C dL_law_1160 (by decide) ?_
  refine go_iadd (pc := 1161) C dL_law_1161 ?_
  refine go_sld (pc := 1162) C HX (lx_in (k := 2) hi (by decide) hL) dL_law_1162 ?_
  refine go_aload_n (pc := 1163) C dL_law_1163 3 rfl rfl ?_
  refine go_iload_n (pc := 1164) C dL_law_1164 0 rfl rfl ?_
  refine go_iconst (pc := 1165) (v := 3) C dL_law_1165 (by decide) ?_
  refine go_iadd (pc := 1166) C dL_law_1166 ?_
  refine go_sld (pc := 1167) C HX (lx_in (k := 3) hi (by decide) hL) dL_law_1167 ?_
  refine go_cVi (pc := 1168) C cw_L_164 (ok_X6_lay (h (xs (nI i + 1 : Int32).toNatClampNeg) (xs (nI i + 2 : Int32).toNatClampNeg) (xs (nI i + 3 : Int32).toNatClampNeg) _ hJ)) (rc_X6 C) rfl rfl rfl (by decide) rfl dL_law_1168 (fun r1 S1 hf => ?_)
  refine go_pop (pc := 1171) C dL_law_1171 rfl ?_
  refine go_aload_n (pc := 1172) C dL_law_1172 1 rfl rfl ?_
  refine go_aload_n (pc := 1173) C dL_law_1173 3 rfl rfl ?_
  refine go_iload_n (pc := 1174) C dL_law_1174 0 rfl rfl ?_
  refine go_iconst (pc := 1175) (v := 1) C dL_law_1175 (by decide) ?_
  refine go_iadd (pc := 1176) C dL_law_1176 ?_
  refine go_sld (pc := 1177) C HX (lx_in (k := 1) hi (by decide) hL) dL_law_1177 ?_
  refine go_aload_n (pc := 1178) C dL_law_1178 3 rfl rfl ?_
  refine go_iload_n (pc := 1179) C dL_law_1179 0 rfl rfl ?_
  refine go_iconst (pc := 1180) (v := 2) C dL_law_1180 (by decide) ?_
  refine go_iadd (pc := 1181) C dL_law_1181 ?_
  refine go_sld (pc := 1182) C HX (lx_in (k := 2) hi (by decide) hL) dL_law_1182 ?_
  refine go_aload_n (pc := 1183) C dL_law_1183 3 rfl rfl ?_
  refine go_iload_n (pc := 1184) C dL_law_1184 0 rfl rfl ?_
  refine go_iconst (pc := 1185) (v := 3) C dL_law_1185 (by decide) ?_
  refine go_iadd (pc := 1186) C dL_law_1186 ?_
  refine go_sld (pc := 1187) C HX (lx_in (k := 3) hi (by decide) hL) dL_law_1187 ?_
  refine go_cVi (pc := 1188) C cw_L_167 (ok_X7_lay hf) (rc_X7 C) rfl rfl rfl (by decide) rfl dL_law_1188 (fun r2 S2 hf => ?_)
  refine go_pop (pc := 1191) C dL_law_1191 rfl ?_
  refine go_goto (pc := 1192) C dL_law_1192 1284 (by decide) ?_
  exact g _ hf
set_option maxRecDepth 100000 in
set_option maxHeartbeats 4000000 in
theorem lc_37 {X : tq_Cx} {S : tq_St} {b L i : Nat} {xs : Nat → Int32} {J : tq_St → Prop} (C : tq_C X cL_law 4 RL 40) (HX : tq_SX X b L xs) (hi : i + 5 ≤ L) (hL : L ≤ 320) (h : st_read J) (hJ : J S) (g : ∀ S2 : tq_St, J S2 → Go X 4 S2 1284 [(3, .int (nI i)), (2, .ref ((tq_la X).1 28 0)), (1, .ref ((tq_la X).1 27 0)), (0, .ref b)] []) : Go X 4 S 1195 [(3, .int (nI i)), (2, .ref ((tq_la X).1 28 0)), (1, .ref ((tq_la X).1 27 0)), (0, .ref b)] [] := by
  refine go_aload_n (pc := 1195) C dL_law_1195 2 rfl rfl ?_
  refine go_aload_n (pc := 1196) C dL_law_1196 3 rfl rfl ?_
  refine go_iload_n (pc := 1197) C dL_law_1197 0 rfl rfl ?_
  refine go_iconst (pc := 1198) (v := 1) C dL_law_1198 (by decide) ?_
  refine go_iadd (pc := 1199) C dL_law_1199 ?_
  refine go_sld (pc := 1200) C HX (lx_in (k := 1) hi (by decide) hL) dL_law_1200 ?_
  refine go_aload_n (pc := 1201) C dL_law_1201 3 rfl rfl ?_
  refine go_iload_n (pc := 1202) C dL_law_1202 0 rfl rfl ?_
  refine go_iconst (pc := 1203) (v := 2) C dL_law_1203 (by decide) ?_
  refine go_iadd (pc := 1204) C dL_law_1204 ?_
  refine go_sld (pc := 1205) C HX (lx_in (k := 2) hi (by decide) hL) dL_law_1205 ?_
  refine go_aload_n (pc := 1206) C dL_law_1206 3 rfl rfl ?_
  refine go_iload_n (pc := 1207) C dL_law_1207 0 rfl rfl ?_
  refine go_iconst (pc := 1208) (v := 3) C dL_law_1208 (by decide) ?_
  refine go_iadd (pc := 1209) C dL_law_1209 ?_
  refine go_sld (pc := 1210) C HX (lx_in (k := 3) hi (by decide) hL) dL_law_1210 ?_
  refine go_aload_n (pc := 1211) C dL_law_1211 3 rfl rfl ?_
  refine go_iload_n (pc := 1212) C dL_law_1212 0 rfl rfl ?_
  refine go_iconst (pc := 1213) (v := 4) C dL_law_1213 (by decide) ?_
  refine go_iadd (pc := 1214) C dL_law_1214 ?_
  refine go_sld (pc := 1215) C HX (lx_in (k := 4) hi (by decide) hL) dL_law_1215 ?_
  refine go_cVi (pc := 1216) C cw_L_168 (ok_X6_read (h (xs (nI i + 1 : Int32).toNatClampNeg) (xs (nI i + 2 : Int32).toNatClampNeg) (xs (nI i + 3 : Int32).toNatClampNeg) (xs (nI i + 4 : Int32).toNatClampNeg) _ hJ)) (rc_X6 C) rfl rfl rfl (by decide) rfl dL_law_1216 (fun r1 S1 hf => ?_)
  refine go_pop (pc := 1219) C dL_law_1219 rfl ?_
  refine go_aload_n (pc := 1220) C dL_law_1220 1 rfl rfl ?_
  refine go_aload_n (pc := 1221) C dL_law_1221 3 rfl rfl ?_
  refine go_iload_n (pc := 1222) C dL_law_1222 0 rfl rfl ?_
  refine go_iconst (pc := 1223) (v := 1) C dL_law_1223 (by decide) ?_
  refine go_iadd (pc := 1224) C dL_law_1224 ?_
  refine go_sld (pc := 1225) C HX (lx_in (k := 1) hi (by decide) hL) dL_law_1225 ?_
  refine go_aload_n (pc := 1226) C dL_law_1226 3 rfl rfl ?_
  refine go_iload_n (pc := 1227) C dL_law_1227 0 rfl rfl ?_
  refine go_iconst (pc := 1228) (v := 2) C dL_law_1228 (by decide) ?_
  refine go_iadd (pc := 1229) C dL_law_1229 ?_
  refine go_sld (pc := 1230) C HX (lx_in (k := 2) hi (by decide) hL) dL_law_1230 ?_
  refine go_aload_n (pc := 1231) C dL_law_1231 3 rfl rfl ?_
  refine go_iload_n (pc := 1232) C dL_law_1232 0 rfl rfl ?_
  refine go_iconst (pc := 1233) (v := 3) C dL_law_1233 (by decide) ?_
  refine go_iadd (pc := 1234) C dL_law_1234 ?_
  refine go_sld (pc := 1235) C HX (lx_in (k := 3) hi (by decide) hL) dL_law_1235 ?_
  refine go_aload_n (pc := 1236) C dL_law_1236 3 rfl rfl ?_
  refine go_iload_n (pc := 1237) C dL_law_1237 0 rfl rfl ?_
  refine go_iconst (pc := 1238) (v := 4) C dL_law_1238 (by decide) ?_
  refine go_iadd (pc := 1239) C dL_law_1239 ?_
  refine go_sld (pc := 1240) C HX (lx_in (k := 4) hi (by decide) hL) dL_law_1240 ?_
  refine go_cVi (pc := 1241) C cw_L_172 (ok_X7_read hf) (rc_X7 C) rfl rfl rfl (by decide) rfl dL_law_1241 (fun r2 S2 hf => ?_)
  refine go_pop (pc := 1244) C dL_law_1244 rfl ?_
  refine go_goto (pc := 1245) C dL_law_1245 1284 (by decide) ?_
  exact g _ hf
set_option maxRecDepth 100000 in
set_option maxHeartbeats 4000000 in
theorem lc_38 {X : tq_Cx} {S : tq_St} {b L i : Nat} {xs : Nat → Int32} {J : tq_St → Prop} (C : tq_C X cL_law 4 RL 40) (HX : tq_SX X b L xs) (hi : i + 5 ≤ L) (hL : L ≤ 320) (h : st_torn J) (hJ : J S) (g : ∀ S2 : tq_St, J S2 → Go X 4 S2 1284 [(3, .int (nI i)), (2, .ref ((tq_la X).1 28 0)), (1, .ref ((tq_la X).1 27 0)), (0, .ref b)] []) : Go X 4 S 1248 [(3, .int (nI i)), (2, .ref ((tq_la X).1 28 0)), (1, .ref ((tq_la X).1 27 0)), (0, .ref b)] [] := by
  refine go_aload_n (pc := 1248) C dL_law_1248 2 rfl rfl ?_
  refine go_cVi (pc := 1249) C cw_L_173 (ok_X6_torn (h _ hJ)) (rc_X6 C) rfl rfl rfl (by decide) rfl dL_law_1249 (fun r1 S1 hf => ?_)
  refine go_pop (pc := 1252) C dL_law_1252 rfl ?_
  refine go_aload_n (pc := 1253) C dL_law_1253 1 rfl rfl ?_
  refine go_cVi (pc := 1254) C cw_L_176 (ok_X7_torn hf) (rc_X7 C) rfl rfl rfl (by decide) rfl dL_law_1254 (fun r2 S2 hf => ?_)
  refine go_pop (pc := 1257) C dL_law_1257 rfl ?_
  refine go_goto (pc := 1258) C dL_law_1258 1284 (by decide) ?_
  exact g _ hf
set_option maxRecDepth 100000 in
set_option maxHeartbeats 4000000 in
theorem lc_39 {X : tq_Cx} {S : tq_St} {b L i : Nat} {xs : Nat → Int32} {J : tq_St → Prop} (C : tq_C X cL_law 4 RL 40) (HX : tq_SX X b L xs) (hi : i + 5 ≤ L) (hL : L ≤ 320) (h : st_count J) (hJ : J S) (g : ∀ S2 : tq_St, J S2 → Go X 4 S2 1284 [(3, .int (nI i)), (2, .ref ((tq_la X).1 28 0)), (1, .ref ((tq_la X).1 27 0)), (0, .ref b)] []) : Go X 4 S 1261 [(3, .int (nI i)), (2, .ref ((tq_la X).1 28 0)), (1, .ref ((tq_la X).1 27 0)), (0, .ref b)] [] := by
  refine go_aload_n (pc := 1261) C dL_law_1261 2 rfl rfl ?_
  refine go_aload_n (pc := 1262) C dL_law_1262 3 rfl rfl ?_
  refine go_iload_n (pc := 1263) C dL_law_1263 0 rfl rfl ?_
  refine go_iconst (pc := 1264) (v := 1) C dL_law_1264 (by decide) ?_
  refine go_iadd (pc := 1265) C dL_law_1265 ?_
  refine go_sld (pc := 1266) C HX (lx_in (k := 1) hi (by decide) hL) dL_law_1266 ?_
  refine go_cVi (pc := 1267) C cw_L_177 (ok_X6_count (h (xs (nI i + 1 : Int32).toNatClampNeg) _ hJ)) (rc_X6 C) rfl rfl rfl (by decide) rfl dL_law_1267 (fun r1 S1 hf => ?_)
  refine go_aload_n (pc := 1270) C dL_law_1270 1 rfl rfl ?_
  refine go_aload_n (pc := 1271) C dL_law_1271 3 rfl rfl ?_
  refine go_iload_n (pc := 1272) C dL_law_1272 0 rfl rfl ?_
  refine go_iconst (pc := 1273) (v := 1) C dL_law_1273 (by decide) ?_
  refine go_iadd (pc := 1274) C dL_law_1274 ?_
  refine go_sld (pc := 1275) C HX (lx_in (k := 1) hi (by decide) hL) dL_law_1275 ?_
  refine go_cVi (pc := 1276) C cw_L_180 (ok_X7_count hf) (rc_X7 C) rfl rfl rfl (by decide) rfl dL_law_1276 (fun r2 S2 hf => ?_)
  refine go_ic_eq (pc := 1279) C dL_law_1279 1284 (by decide) (fun c => ?_) (fun c => absurd hf.1 c)
  exact g _ (hf.2)
