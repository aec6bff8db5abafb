section
-- ===== PART A: goes FIRST, ahead of the names: the tables' words, and 'selects' of the private methods out of them =====
/-- a private method of a class that the tables say can be made, by its rows of tables_1 -/
def lw_okq (q : MethodName × Nat) : Prop := (q.1.cls ≠ "java/lang/invoke/MethodHandle" ∧ q.1.cls ≠ "java/lang/invoke/VarHandle") ∧ Cond.instantiable q.1.cls q.2 ∈ tables_1 ∧ Cond.privateMethod q.1 ∈ tables_1 ∧ Cond.instanceMethod q.1 ∈ tables_1
theorem lw_p0 : lw_okq (⟨"TearsQueue$Rows", "tryRows", "(II)V"⟩, 6) := ⟨⟨by decide +kernel, by decide +kernel⟩, List.mem_of_getElem? (i := 159) (by decide +kernel), List.mem_of_getElem? (i := 600) (by decide +kernel), List.mem_of_getElem? (i := 601) (by decide +kernel)⟩
theorem lw_p1 : lw_okq (⟨"TearsQueue$Rows", "keepRow", "(I)V"⟩, 6) := ⟨⟨by decide +kernel, by decide +kernel⟩, List.mem_of_getElem? (i := 159) (by decide +kernel), List.mem_of_getElem? (i := 605) (by decide +kernel), List.mem_of_getElem? (i := 606) (by decide +kernel)⟩
theorem lw_p2 : lw_okq (⟨"TearsQueue$Rows", "isHome", "(III)Z"⟩, 6) := ⟨⟨by decide +kernel, by decide +kernel⟩, List.mem_of_getElem? (i := 159) (by decide +kernel), List.mem_of_getElem? (i := 624) (by decide +kernel), List.mem_of_getElem? (i := 625) (by decide +kernel)⟩
theorem lw_p3 : lw_okq (⟨"TearsQueue", "goneByChangedPlan", "(II)I"⟩, 11) := ⟨⟨by decide +kernel, by decide +kernel⟩, List.mem_of_getElem? (i := 18) (by decide +kernel), List.mem_of_getElem? (i := 634) (by decide +kernel), List.mem_of_getElem? (i := 635) (by decide +kernel)⟩
theorem lw_p4 : lw_okq (⟨"TearsQueue$Chances", "weighFrom", "(IJI)V"⟩, 3) := ⟨⟨by decide +kernel, by decide +kernel⟩, List.mem_of_getElem? (i := 190) (by decide +kernel), List.mem_of_getElem? (i := 659) (by decide +kernel), List.mem_of_getElem? (i := 660) (by decide +kernel)⟩
theorem lw_p5 : lw_okq (⟨"TearsQueue$Chances", "addWeight", "(LTearsQueue$Evening;J)V"⟩, 3) := ⟨⟨by decide +kernel, by decide +kernel⟩, List.mem_of_getElem? (i := 190) (by decide +kernel), List.mem_of_getElem? (i := 663) (by decide +kernel), List.mem_of_getElem? (i := 664) (by decide +kernel)⟩
theorem lw_p6 : lw_okq (⟨"TearsQueue", "possibleSorrows", "(I)I"⟩, 11) := ⟨⟨by decide +kernel, by decide +kernel⟩, List.mem_of_getElem? (i := 18) (by decide +kernel), List.mem_of_getElem? (i := 709) (by decide +kernel), List.mem_of_getElem? (i := 710) (by decide +kernel)⟩
theorem lw_p7 : lw_okq (⟨"TearsQueue", "leftAtWorst", "(II)I"⟩, 11) := ⟨⟨by decide +kernel, by decide +kernel⟩, List.mem_of_getElem? (i := 18) (by decide +kernel), List.mem_of_getElem? (i := 717) (by decide +kernel), List.mem_of_getElem? (i := 718) (by decide +kernel)⟩
theorem lw_p8 : lw_okq (⟨"TearsQueueModel", "step", "()V"⟩, 29) := ⟨⟨by decide +kernel, by decide +kernel⟩, List.mem_of_getElem? (i := 785) (by decide +kernel), List.mem_of_getElem? (i := 895) (by decide +kernel), List.mem_of_getElem? (i := 896) (by decide +kernel)⟩
theorem lw_p9 : lw_okq (⟨"TearsQueueModel", "byteAt", "(I)I"⟩, 29) := ⟨⟨by decide +kernel, by decide +kernel⟩, List.mem_of_getElem? (i := 785) (by decide +kernel), List.mem_of_getElem? (i := 899) (by decide +kernel), List.mem_of_getElem? (i := 900) (by decide +kernel)⟩
theorem lw_p10 : lw_okq (⟨"TearsQueueModel", "fails", "(I)V"⟩, 29) := ⟨⟨by decide +kernel, by decide +kernel⟩, List.mem_of_getElem? (i := 785) (by decide +kernel), List.mem_of_getElem? (i := 907) (by decide +kernel), List.mem_of_getElem? (i := 908) (by decide +kernel)⟩
theorem lw_p11 : lw_okq (⟨"TearsQueueModel", "readLine", "()V"⟩, 29) := ⟨⟨by decide +kernel, by decide +kernel⟩, List.mem_of_getElem? (i := 785) (by decide +kernel), List.mem_of_getElem? (i := 911) (by decide +kernel), List.mem_of_getElem? (i := 912) (by decide +kernel)⟩
theorem lw_p12 : lw_okq (⟨"TearsQueueModel", "nameHere", "()I"⟩, 29) := ⟨⟨by decide +kernel, by decide +kernel⟩, List.mem_of_getElem? (i := 785) (by decide +kernel), List.mem_of_getElem? (i := 915) (by decide +kernel), List.mem_of_getElem? (i := 916) (by decide +kernel)⟩
theorem lw_p13 : lw_okq (⟨"TearsQueueModel", "readMore", "(I)V"⟩, 29) := ⟨⟨by decide +kernel, by decide +kernel⟩, List.mem_of_getElem? (i := 785) (by decide +kernel), List.mem_of_getElem? (i := 920) (by decide +kernel), List.mem_of_getElem? (i := 921) (by decide +kernel)⟩
theorem lw_p14 : lw_okq (⟨"TearsQueueModel", "number", "(II)I"⟩, 29) := ⟨⟨by decide +kernel, by decide +kernel⟩, List.mem_of_getElem? (i := 785) (by decide +kernel), List.mem_of_getElem? (i := 924) (by decide +kernel), List.mem_of_getElem? (i := 925) (by decide +kernel)⟩
theorem lw_p15 : lw_okq (⟨"TearsQueueModel", "readPlan", "()V"⟩, 29) := ⟨⟨by decide +kernel, by decide +kernel⟩, List.mem_of_getElem? (i := 785) (by decide +kernel), List.mem_of_getElem? (i := 928) (by decide +kernel), List.mem_of_getElem? (i := 929) (by decide +kernel)⟩
def lw_privs_1 : List (MethodName × Nat) := [(⟨"TearsQueue$Rows", "tryRows", "(II)V"⟩, 6), (⟨"TearsQueue$Rows", "keepRow", "(I)V"⟩, 6), (⟨"TearsQueue$Rows", "isHome", "(III)Z"⟩, 6), (⟨"TearsQueue", "goneByChangedPlan", "(II)I"⟩, 11), (⟨"TearsQueue$Chances", "weighFrom", "(IJI)V"⟩, 3), (⟨"TearsQueue$Chances", "addWeight", "(LTearsQueue$Evening;J)V"⟩, 3), (⟨"TearsQueue", "possibleSorrows", "(I)I"⟩, 11), (⟨"TearsQueue", "leftAtWorst", "(II)I"⟩, 11), (⟨"TearsQueueModel", "step", "()V"⟩, 29), (⟨"TearsQueueModel", "byteAt", "(I)I"⟩, 29), (⟨"TearsQueueModel", "fails", "(I)V"⟩, 29), (⟨"TearsQueueModel", "readLine", "()V"⟩, 29), (⟨"TearsQueueModel", "nameHere", "()I"⟩, 29), (⟨"TearsQueueModel", "readMore", "(I)V"⟩, 29), (⟨"TearsQueueModel", "number", "(II)I"⟩, 29), (⟨"TearsQueueModel", "readPlan", "()V"⟩, 29)]
theorem lw_r1 : ∀ q ∈ lw_privs_1, lw_okq q := List.forall_mem_cons.mpr ⟨lw_p0, List.forall_mem_cons.mpr ⟨lw_p1, List.forall_mem_cons.mpr ⟨lw_p2, List.forall_mem_cons.mpr ⟨lw_p3, List.forall_mem_cons.mpr ⟨lw_p4, List.forall_mem_cons.mpr ⟨lw_p5, List.forall_mem_cons.mpr ⟨lw_p6, List.forall_mem_cons.mpr ⟨lw_p7, List.forall_mem_cons.mpr ⟨lw_p8, List.forall_mem_cons.mpr ⟨lw_p9, List.forall_mem_cons.mpr ⟨lw_p10, List.forall_mem_cons.mpr ⟨lw_p11, List.forall_mem_cons.mpr ⟨lw_p12, List.forall_mem_cons.mpr ⟨lw_p13, List.forall_mem_cons.mpr ⟨lw_p14, List.forall_mem_cons.mpr ⟨lw_p15, fun _ h => absurd h List.not_mem_nil⟩⟩⟩⟩⟩⟩⟩⟩⟩⟩⟩⟩⟩⟩⟩⟩
theorem lw_p16 : lw_okq (⟨"TearsQueueModel", "waitingOn", "(I)I"⟩, 29) := ⟨⟨by decide +kernel, by decide +kernel⟩, List.mem_of_getElem? (i := 785) (by decide +kernel), List.mem_of_getElem? (i := 940) (by decide +kernel), List.mem_of_getElem? (i := 941) (by decide +kernel)⟩
theorem lw_p17 : lw_okq (⟨"TearsQueueModel", "sorrowOn", "(I)I"⟩, 29) := ⟨⟨by decide +kernel, by decide +kernel⟩, List.mem_of_getElem? (i := 785) (by decide +kernel), List.mem_of_getElem? (i := 944) (by decide +kernel), List.mem_of_getElem? (i := 945) (by decide +kernel)⟩
theorem lw_p18 : lw_okq (⟨"TearsQueueModel", "waits", "(II)Z"⟩, 29) := ⟨⟨by decide +kernel, by decide +kernel⟩, List.mem_of_getElem? (i := 785) (by decide +kernel), List.mem_of_getElem? (i := 948) (by decide +kernel), List.mem_of_getElem? (i := 949) (by decide +kernel)⟩
theorem lw_p19 : lw_okq (⟨"TearsQueueModel", "isOne", "(I)Z"⟩, 29) := ⟨⟨by decide +kernel, by decide +kernel⟩, List.mem_of_getElem? (i := 785) (by decide +kernel), List.mem_of_getElem? (i := 956) (by decide +kernel), List.mem_of_getElem? (i := 957) (by decide +kernel)⟩
theorem lw_p20 : lw_okq (⟨"TearsQueueModel", "nextOn", "(II)I"⟩, 29) := ⟨⟨by decide +kernel, by decide +kernel⟩, List.mem_of_getElem? (i := 785) (by decide +kernel), List.mem_of_getElem? (i := 972) (by decide +kernel), List.mem_of_getElem? (i := 973) (by decide +kernel)⟩
theorem lw_p21 : lw_okq (⟨"TearsQueueModel", "placeOn", "(II)I"⟩, 29) := ⟨⟨by decide +kernel, by decide +kernel⟩, List.mem_of_getElem? (i := 785) (by decide +kernel), List.mem_of_getElem? (i := 976) (by decide +kernel), List.mem_of_getElem? (i := 977) (by decide +kernel)⟩
theorem lw_p22 : lw_okq (⟨"TearsQueueModel", "puts", "(ZIII)I"⟩, 29) := ⟨⟨by decide +kernel, by decide +kernel⟩, List.mem_of_getElem? (i := 785) (by decide +kernel), List.mem_of_getElem? (i := 986) (by decide +kernel), List.mem_of_getElem? (i := 987) (by decide +kernel)⟩
theorem lw_p23 : lw_okq (⟨"TearsQueueModel", "isAct", "(I)Z"⟩, 29) := ⟨⟨by decide +kernel, by decide +kernel⟩, List.mem_of_getElem? (i := 785) (by decide +kernel), List.mem_of_getElem? (i := 1004) (by decide +kernel), List.mem_of_getElem? (i := 1005) (by decide +kernel)⟩
theorem lw_p24 : lw_okq (⟨"TearsQueueModel", "thinksOn", "(II)I"⟩, 29) := ⟨⟨by decide +kernel, by decide +kernel⟩, List.mem_of_getElem? (i := 785) (by decide +kernel), List.mem_of_getElem? (i := 1016) (by decide +kernel), List.mem_of_getElem? (i := 1017) (by decide +kernel)⟩
theorem lw_p25 : lw_okq (⟨"TearsQueueModel", "grieves", "(III)V"⟩, 29) := ⟨⟨by decide +kernel, by decide +kernel⟩, List.mem_of_getElem? (i := 785) (by decide +kernel), List.mem_of_getElem? (i := 1020) (by decide +kernel), List.mem_of_getElem? (i := 1021) (by decide +kernel)⟩
theorem lw_p26 : lw_okq (⟨"TearsQueueModel", "nextToWeep", "(II)I"⟩, 29) := ⟨⟨by decide +kernel, by decide +kernel⟩, List.mem_of_getElem? (i := 785) (by decide +kernel), List.mem_of_getElem? (i := 1024) (by decide +kernel), List.mem_of_getElem? (i := 1025) (by decide +kernel)⟩
theorem lw_p27 : lw_okq (⟨"TearsQueueModel", "setsOff", "(II)V"⟩, 29) := ⟨⟨by decide +kernel, by decide +kernel⟩, List.mem_of_getElem? (i := 785) (by decide +kernel), List.mem_of_getElem? (i := 1028) (by decide +kernel), List.mem_of_getElem? (i := 1029) (by decide +kernel)⟩
theorem lw_p28 : lw_okq (⟨"TearsQueueModel", "minuteOn", "(I)V"⟩, 29) := ⟨⟨by decide +kernel, by decide +kernel⟩, List.mem_of_getElem? (i := 785) (by decide +kernel), List.mem_of_getElem? (i := 1037) (by decide +kernel), List.mem_of_getElem? (i := 1038) (by decide +kernel)⟩
theorem lw_p29 : lw_okq (⟨"TearsQueueModel", "tramOn", "(I)I"⟩, 29) := ⟨⟨by decide +kernel, by decide +kernel⟩, List.mem_of_getElem? (i := 785) (by decide +kernel), List.mem_of_getElem? (i := 1045) (by decide +kernel), List.mem_of_getElem? (i := 1046) (by decide +kernel)⟩
theorem lw_p30 : lw_okq (⟨"TearsQueueModel", "planGoes", "(II)V"⟩, 29) := ⟨⟨by decide +kernel, by decide +kernel⟩, List.mem_of_getElem? (i := 785) (by decide +kernel), List.mem_of_getElem? (i := 1064) (by decide +kernel), List.mem_of_getElem? (i := 1065) (by decide +kernel)⟩
theorem lw_p31 : lw_okq (⟨"TearsQueueModel", "begins", "(I)V"⟩, 29) := ⟨⟨by decide +kernel, by decide +kernel⟩, List.mem_of_getElem? (i := 785) (by decide +kernel), List.mem_of_getElem? (i := 1068) (by decide +kernel), List.mem_of_getElem? (i := 1069) (by decide +kernel)⟩
def lw_privs_2 : List (MethodName × Nat) := [(⟨"TearsQueueModel", "waitingOn", "(I)I"⟩, 29), (⟨"TearsQueueModel", "sorrowOn", "(I)I"⟩, 29), (⟨"TearsQueueModel", "waits", "(II)Z"⟩, 29), (⟨"TearsQueueModel", "isOne", "(I)Z"⟩, 29), (⟨"TearsQueueModel", "nextOn", "(II)I"⟩, 29), (⟨"TearsQueueModel", "placeOn", "(II)I"⟩, 29), (⟨"TearsQueueModel", "puts", "(ZIII)I"⟩, 29), (⟨"TearsQueueModel", "isAct", "(I)Z"⟩, 29), (⟨"TearsQueueModel", "thinksOn", "(II)I"⟩, 29), (⟨"TearsQueueModel", "grieves", "(III)V"⟩, 29), (⟨"TearsQueueModel", "nextToWeep", "(II)I"⟩, 29), (⟨"TearsQueueModel", "setsOff", "(II)V"⟩, 29), (⟨"TearsQueueModel", "minuteOn", "(I)V"⟩, 29), (⟨"TearsQueueModel", "tramOn", "(I)I"⟩, 29), (⟨"TearsQueueModel", "planGoes", "(II)V"⟩, 29), (⟨"TearsQueueModel", "begins", "(I)V"⟩, 29)]
theorem lw_r2 : ∀ q ∈ lw_privs_2, lw_okq q := List.forall_mem_cons.mpr ⟨lw_p16, List.forall_mem_cons.mpr ⟨lw_p17, List.forall_mem_cons.mpr ⟨lw_p18, List.forall_mem_cons.mpr ⟨lw_p19, List.forall_mem_cons.mpr ⟨lw_p20, List.forall_mem_cons.mpr ⟨lw_p21, List.forall_mem_cons.mpr ⟨lw_p22, List.forall_mem_cons.mpr ⟨lw_p23, List.forall_mem_cons.mpr ⟨lw_p24, List.forall_mem_cons.mpr ⟨lw_p25, List.forall_mem_cons.mpr ⟨lw_p26, List.forall_mem_cons.mpr ⟨lw_p27, List.forall_mem_cons.mpr ⟨lw_p28, List.forall_mem_cons.mpr ⟨lw_p29, List.forall_mem_cons.mpr ⟨lw_p30, List.forall_mem_cons.mpr ⟨lw_p31, fun _ h => absurd h List.not_mem_nil⟩⟩⟩⟩⟩⟩⟩⟩⟩⟩⟩⟩⟩⟩⟩⟩
theorem lw_p32 : lw_okq (⟨"TearsQueueModel", "copies", "(II)V"⟩, 29) := ⟨⟨by decide +kernel, by decide +kernel⟩, List.mem_of_getElem? (i := 785) (by decide +kernel), List.mem_of_getElem? (i := 1072) (by decide +kernel), List.mem_of_getElem? (i := 1073) (by decide +kernel)⟩
theorem lw_p33 : lw_okq (⟨"TearsQueueModel", "acts", "(I)Z"⟩, 29) := ⟨⟨by decide +kernel, by decide +kernel⟩, List.mem_of_getElem? (i := 785) (by decide +kernel), List.mem_of_getElem? (i := 1076) (by decide +kernel), List.mem_of_getElem? (i := 1077) (by decide +kernel)⟩
theorem lw_p34 : lw_okq (⟨"TearsQueueModel", "rowGoes", "(III)Z"⟩, 29) := ⟨⟨by decide +kernel, by decide +kernel⟩, List.mem_of_getElem? (i := 785) (by decide +kernel), List.mem_of_getElem? (i := 1097) (by decide +kernel), List.mem_of_getElem? (i := 1098) (by decide +kernel)⟩
theorem lw_p35 : lw_okq (⟨"TearsQueueModel", "goneThen", "()I"⟩, 29) := ⟨⟨by decide +kernel, by decide +kernel⟩, List.mem_of_getElem? (i := 785) (by decide +kernel), List.mem_of_getElem? (i := 1113) (by decide +kernel), List.mem_of_getElem? (i := 1114) (by decide +kernel)⟩
theorem lw_p36 : lw_okq (⟨"TearsQueueModel", "byFails", "(III)J"⟩, 29) := ⟨⟨by decide +kernel, by decide +kernel⟩, List.mem_of_getElem? (i := 785) (by decide +kernel), List.mem_of_getElem? (i := 1125) (by decide +kernel), List.mem_of_getElem? (i := 1126) (by decide +kernel)⟩
theorem lw_p37 : lw_okq (⟨"TearsQueueModel", "isAsSeen", "()Z"⟩, 29) := ⟨⟨by decide +kernel, by decide +kernel⟩, List.mem_of_getElem? (i := 785) (by decide +kernel), List.mem_of_getElem? (i := 1149) (by decide +kernel), List.mem_of_getElem? (i := 1150) (by decide +kernel)⟩
theorem lw_p38 : lw_okq (⟨"TearsQueueModel", "sorrowsOf", "(I)I"⟩, 29) := ⟨⟨by decide +kernel, by decide +kernel⟩, List.mem_of_getElem? (i := 785) (by decide +kernel), List.mem_of_getElem? (i := 1157) (by decide +kernel), List.mem_of_getElem? (i := 1158) (by decide +kernel)⟩
theorem lw_p39 : lw_okq (⟨"TearsQueueModel", "does", "(I)Z"⟩, 29) := ⟨⟨by decide +kernel, by decide +kernel⟩, List.mem_of_getElem? (i := 785) (by decide +kernel), List.mem_of_getElem? (i := 1192) (by decide +kernel), List.mem_of_getElem? (i := 1193) (by decide +kernel)⟩
def lw_privs_3 : List (MethodName × Nat) := [(⟨"TearsQueueModel", "copies", "(II)V"⟩, 29), (⟨"TearsQueueModel", "acts", "(I)Z"⟩, 29), (⟨"TearsQueueModel", "rowGoes", "(III)Z"⟩, 29), (⟨"TearsQueueModel", "goneThen", "()I"⟩, 29), (⟨"TearsQueueModel", "byFails", "(III)J"⟩, 29), (⟨"TearsQueueModel", "isAsSeen", "()Z"⟩, 29), (⟨"TearsQueueModel", "sorrowsOf", "(I)I"⟩, 29), (⟨"TearsQueueModel", "does", "(I)Z"⟩, 29)]
theorem lw_r3 : ∀ q ∈ lw_privs_3, lw_okq q := List.forall_mem_cons.mpr ⟨lw_p32, List.forall_mem_cons.mpr ⟨lw_p33, List.forall_mem_cons.mpr ⟨lw_p34, List.forall_mem_cons.mpr ⟨lw_p35, List.forall_mem_cons.mpr ⟨lw_p36, List.forall_mem_cons.mpr ⟨lw_p37, List.forall_mem_cons.mpr ⟨lw_p38, List.forall_mem_cons.mpr ⟨lw_p39, fun _ h => absurd h List.not_mem_nil⟩⟩⟩⟩⟩⟩⟩⟩
def lw_privs : List (MethodName × Nat) := lw_privs_1 ++ (lw_privs_2 ++ (lw_privs_3))
def lw_tbl : List Cond := k2_sels lw_privs ++ tables_1
theorem lw_privs_ok : ∀ q ∈ lw_privs, lw_okq q := by
  show ∀ q ∈ lw_privs_1 ++ (lw_privs_2 ++ (lw_privs_3)), lw_okq q
  exact List.forall_mem_append.mpr ⟨lw_r1, List.forall_mem_append.mpr ⟨lw_r2, lw_r3⟩⟩
end
section
def RX0 : String := "TearsQueue$Chances"
def TX0 : u_T := fun k => match k with
  | 0 => ("TearsQueue$Chances", "levels", "[LTearsQueue$Evening;", true)
  | 1 => ("TearsQueue$Chances", "goneWeight", "[J", true)
  | _ => ("TearsQueue$Chances", "whole", "J", false)
def tyX0 : Nat → FieldType := fun k => match k with
  | 0 => .array (.object "TearsQueue$Evening")
  | 1 => .array .long
  | _ => .long
abbrev wsX00 : List Cond := u_ws RX0 TX0 3
theorem nmX0 : ∀ a, a < 3 → ∀ b, b < 3 → a ≠ b → (TX0 a).2.1 ≠ (TX0 b).2.1 := by decide +kernel
theorem tyX0_ok : ∀ k, k < 3 → parseFieldDescriptor (TX0 k).2.2.1 = some (tyX0 k) := by decide +kernel
abbrev cX0_init : ByteArray := prog_2_method_1_code
def yX0_init : MethodName := ⟨RX0, "<init>", "()V"⟩
abbrev cX0_weightOf : ByteArray := prog_2_method_2_code
def yX0_weightOf : MethodName := ⟨RX0, "weightOf", "(I)J"⟩
abbrev cX0_weighPlan : ByteArray := prog_2_method_3_code
def yX0_weighPlan : MethodName := ⟨RX0, "weighPlan", "(LTearsQueue$Evening;I)V"⟩
abbrev cX0_weighFrom : ByteArray := prog_2_method_4_code
def yX0_weighFrom : MethodName := ⟨RX0, "weighFrom", "(IJI)V"⟩
abbrev cX0_addWeight : ByteArray := prog_2_method_5_code
def yX0_addWeight : MethodName := ⟨RX0, "addWeight", "(LTearsQueue$Evening;J)V"⟩
def RX1 : String := "TearsQueue$Evening"
def TX1 : u_T := fun k => match k with
  | 0 => ("TearsQueue$Evening", "kind", "[I", true)
  | 1 => ("TearsQueue$Evening", "sorrow", "[I", true)
  | 2 => ("TearsQueue$Evening", "weptIn", "[I", true)
  | 3 => ("TearsQueue$Evening", "acts", "[I", true)
  | 4 => ("TearsQueue$Evening", "line", "[I", true)
  | 5 => ("TearsQueue$Evening", "people", "I", false)
  | 6 => ("TearsQueue$Evening", "goneBits", "I", false)
  | 7 => ("TearsQueue$Evening", "minute", "I", false)
  | 8 => ("TearsQueue$Evening", "room", "I", false)
  | 9 => ("TearsQueue$Evening", "think", "I", false)
  | 10 => ("TearsQueue$Evening", "actCount", "I", false)
  | 11 => ("TearsQueue$Evening", "weepers", "I", false)
  | 12 => ("TearsQueue$Evening", "weepings", "I", false)
  | _ => ("TearsQueue$Evening", "passedOver", "I", false)
def tyX1 : Nat → FieldType := fun k => match k with
  | 0 => .array .int
  | 1 => .array .int
  | 2 => .array .int
  | 3 => .array .int
  | 4 => .array .int
  | 5 => .int
  | 6 => .int
  | 7 => .int
  | 8 => .int
  | 9 => .int
  | 10 => .int
  | 11 => .int
  | 12 => .int
  | _ => .int
abbrev wsX10 : List Cond := u_ws RX1 TX1 14
theorem nmX1 : ∀ a, a < 14 → ∀ b, b < 14 → a ≠ b → (TX1 a).2.1 ≠ (TX1 b).2.1 := by decide +kernel
theorem tyX1_ok : ∀ k, k < 14 → parseFieldDescriptor (TX1 k).2.2.1 = some (tyX1 k) := by decide +kernel
abbrev cX1_init : ByteArray := prog_3_method_1_code
def yX1_init : MethodName := ⟨RX1, "<init>", "()V"⟩
abbrev cX1_clear : ByteArray := prog_3_method_2_code
def yX1_clear : MethodName := ⟨RX1, "clear", "()V"⟩
abbrev cX1_clearTally : ByteArray := prog_3_method_3_code
def yX1_clearTally : MethodName := ⟨RX1, "clearTally", "()V"⟩
abbrev cX1_copyFrom : ByteArray := prog_3_method_4_code
def yX1_copyFrom : MethodName := ⟨RX1, "copyFrom", "(LTearsQueue$Evening;)V"⟩
abbrev cX1_startFrom : ByteArray := prog_3_method_5_code
def yX1_startFrom : MethodName := ⟨RX1, "startFrom", "(LTearsQueue$Evening;)V"⟩
abbrev cX1_isThere : ByteArray := prog_3_method_6_code
def yX1_isThere : MethodName := ⟨RX1, "isThere", "(I)Z"⟩
abbrev cX1_waits : ByteArray := prog_3_method_7_code
def yX1_waits : MethodName := ⟨RX1, "waits", "(I)Z"⟩
abbrev cX1_isAct : ByteArray := prog_3_method_8_code
def yX1_isAct : MethodName := ⟨RX1, "isAct", "(I)Z"⟩
abbrev cX1_brim : ByteArray := prog_3_method_9_code
def yX1_brim : MethodName := ⟨RX1, "brim", "(I)I"⟩
abbrev cX1_weptOrNone : ByteArray := prog_3_method_10_code
def yX1_weptOrNone : MethodName := ⟨RX1, "weptOrNone", "(I)I"⟩
abbrev cX1_waitingBits : ByteArray := prog_3_method_11_code
def yX1_waitingBits : MethodName := ⟨RX1, "waitingBits", "()I"⟩
abbrev cX1_allSorrow : ByteArray := prog_3_method_12_code
def yX1_allSorrow : MethodName := ⟨RX1, "allSorrow", "()I"⟩
abbrev cX1_everWept : ByteArray := prog_3_method_13_code
def yX1_everWept : MethodName := ⟨RX1, "everWept", "()I"⟩
abbrev cX1_tramsPlanned : ByteArray := prog_3_method_14_code
def yX1_tramsPlanned : MethodName := ⟨RX1, "tramsPlanned", "()I"⟩
abbrev cX1_addOne : ByteArray := prog_3_method_15_code
def yX1_addOne : MethodName := ⟨RX1, "addOne", "(II)V"⟩
abbrev cX1_addAct : ByteArray := prog_3_method_16_code
def yX1_addAct : MethodName := ⟨RX1, "addAct", "(I)Z"⟩
abbrev cX1_changeActs : ByteArray := prog_3_method_17_code
def yX1_changeActs : MethodName := ⟨RX1, "changeActs", "(II)V"⟩
abbrev cX1_allActsFit : ByteArray := prog_3_method_18_code
def yX1_allActsFit : MethodName := ⟨RX1, "allActsFit", "()Z"⟩
abbrev cX1_followPlan : ByteArray := prog_3_method_19_code
def yX1_followPlan : MethodName := ⟨RX1, "followPlan", "()V"⟩
abbrev cX1_play : ByteArray := prog_3_method_20_code
def yX1_play : MethodName := ⟨RX1, "play", "(I)Z"⟩
abbrev cX1_thinkAndWeep : ByteArray := prog_3_method_21_code
def yX1_thinkAndWeep : MethodName := ⟨RX1, "thinkAndWeep", "(I)I"⟩
abbrev cX1_firstToWeep : ByteArray := prog_3_method_22_code
def yX1_firstToWeep : MethodName := ⟨RX1, "firstToWeep", "(I)I"⟩
abbrev cX1_weep : ByteArray := prog_3_method_23_code
def yX1_weep : MethodName := ⟨RX1, "weep", "(I)V"⟩
abbrev cX1_nearest : ByteArray := prog_3_method_24_code
def yX1_nearest : MethodName := ⟨RX1, "nearest", "(II)I"⟩
abbrev cX1_sadden : ByteArray := prog_3_method_25_code
def yX1_sadden : MethodName := ⟨RX1, "sadden", "(II)V"⟩
abbrev cX1_dry : ByteArray := prog_3_method_26_code
def yX1_dry : MethodName := ⟨RX1, "dry", "()V"⟩
abbrev cX1_board : ByteArray := prog_3_method_27_code
def yX1_board : MethodName := ⟨RX1, "board", "()I"⟩
abbrev cX1_inLine : ByteArray := prog_3_method_28_code
def yX1_inLine : MethodName := ⟨RX1, "inLine", "(I)I"⟩
abbrev cX1_lineUp : ByteArray := prog_3_method_29_code
def yX1_lineUp : MethodName := ⟨RX1, "lineUp", "()I"⟩
abbrev cX1_rank : ByteArray := prog_3_method_30_code
def yX1_rank : MethodName := ⟨RX1, "rank", "(I)I"⟩
def RX2 : String := "TearsQueue$Rows"
def TX2 : u_T := fun k => match k with
  | 0 => ("TearsQueue$Rows", "levels", "[LTearsQueue$Evening;", true)
  | 1 => ("TearsQueue$Rows", "row", "[I", true)
  | 2 => ("TearsQueue$Rows", "found", "[I", true)
  | 3 => ("TearsQueue$Rows", "foundLength", "I", false)
  | 4 => ("TearsQueue$Rows", "foundWeepers", "I", false)
  | _ => ("TearsQueue$Rows", "foundWeepings", "I", false)
def tyX2 : Nat → FieldType := fun k => match k with
  | 0 => .array (.object "TearsQueue$Evening")
  | 1 => .array .int
  | 2 => .array .int
  | 3 => .int
  | 4 => .int
  | _ => .int
abbrev wsX20 : List Cond := u_ws RX2 TX2 6
theorem nmX2 : ∀ a, a < 6 → ∀ b, b < 6 → a ≠ b → (TX2 a).2.1 ≠ (TX2 b).2.1 := by decide +kernel
theorem tyX2_ok : ∀ k, k < 6 → parseFieldDescriptor (TX2 k).2.2.1 = some (tyX2 k) := by decide +kernel
abbrev cX2_init : ByteArray := prog_4_method_1_code
def yX2_init : MethodName := ⟨RX2, "<init>", "()V"⟩
abbrev cX2_foundAt : ByteArray := prog_4_method_2_code
def yX2_foundAt : MethodName := ⟨RX2, "foundAt", "(I)I"⟩
abbrev cX2_findMostTears : ByteArray := prog_4_method_3_code
def yX2_findMostTears : MethodName := ⟨RX2, "findMostTears", "(LTearsQueue$Evening;I)V"⟩
abbrev cX2_tryRows : ByteArray := prog_4_method_4_code
def yX2_tryRows : MethodName := ⟨RX2, "tryRows", "(II)V"⟩
abbrev cX2_findWayHome : ByteArray := prog_4_method_5_code
def yX2_findWayHome : MethodName := ⟨RX2, "findWayHome", "(LTearsQueue$Evening;I)Z"⟩
abbrev cX2_isHome : ByteArray := prog_4_method_6_code
def yX2_isHome : MethodName := ⟨RX2, "isHome", "(III)Z"⟩
abbrev cX2_keepRow : ByteArray := prog_4_method_7_code
def yX2_keepRow : MethodName := ⟨RX2, "keepRow", "(I)V"⟩
def RX3 : String := "TearsQueue$Sheet"
def TX3 : u_T := fun k => match k with
  | 0 => ("TearsQueue$Sheet", "cells", "[I", true)
  | 1 => ("TearsQueue$Sheet", "laid", "Z", false)
  | 2 => ("TearsQueue$Sheet", "lane", "I", false)
  | _ => ("TearsQueue$Sheet", "length", "I", false)
def tyX3 : Nat → FieldType := fun k => match k with
  | 0 => .array .int
  | 1 => .boolean
  | 2 => .int
  | _ => .int
abbrev wsX30 : List Cond := u_ws RX3 TX3 4
theorem nmX3 : ∀ a, a < 4 → ∀ b, b < 4 → a ≠ b → (TX3 a).2.1 ≠ (TX3 b).2.1 := by decide +kernel
theorem tyX3_ok : ∀ k, k < 4 → parseFieldDescriptor (TX3 k).2.2.1 = some (tyX3 k) := by decide +kernel
abbrev cX3_init : ByteArray := prog_5_method_1_code
def yX3_init : MethodName := ⟨RX3, "<init>", "()V"⟩
abbrev cX3_renew : ByteArray := prog_5_method_2_code
def yX3_renew : MethodName := ⟨RX3, "renew", "(II)V"⟩
abbrev cX3_faultAt : ByteArray := prog_5_method_3_code
def yX3_faultAt : MethodName := ⟨RX3, "faultAt", "(II)I"⟩
abbrev cX3_put : ByteArray := prog_5_method_4_code
def yX3_put : MethodName := ⟨RX3, "put", "(II)V"⟩
def RX4 : String := "TearsQueue$Sightings"
def TX4 : u_T := fun k => match k with
  | 0 => ("TearsQueue$Sightings", "who", "[I", true)
  | 1 => ("TearsQueue$Sightings", "isGone", "[Z", true)
  | _ => ("TearsQueue$Sightings", "number", "I", false)
def tyX4 : Nat → FieldType := fun k => match k with
  | 0 => .array .int
  | 1 => .array .boolean
  | _ => .int
abbrev wsX40 : List Cond := u_ws RX4 TX4 3
theorem nmX4 : ∀ a, a < 3 → ∀ b, b < 3 → a ≠ b → (TX4 a).2.1 ≠ (TX4 b).2.1 := by decide +kernel
theorem tyX4_ok : ∀ k, k < 3 → parseFieldDescriptor (TX4 k).2.2.1 = some (tyX4 k) := by decide +kernel
abbrev cX4_init : ByteArray := prog_6_method_1_code
def yX4_init : MethodName := ⟨RX4, "<init>", "()V"⟩
abbrev cX4_add : ByteArray := prog_6_method_2_code
def yX4_add : MethodName := ⟨RX4, "add", "(IZ)Z"⟩
abbrev cX4_agreeWith : ByteArray := prog_6_method_3_code
def yX4_agreeWith : MethodName := ⟨RX4, "agreeWith", "(I)Z"⟩
def RX5 : String := "TearsQueue$Tape"
def TX5 : u_T := fun k => match k with
  | 0 => ("TearsQueue$Tape", "bytes", "[B", true)
  | 1 => ("TearsQueue$Tape", "draft", "LTearsQueue$Evening;", true)
  | 2 => ("TearsQueue$Tape", "length", "I", false)
  | 3 => ("TearsQueue$Tape", "fault", "I", false)
  | 4 => ("TearsQueue$Tape", "faultPlace", "I", false)
  | 5 => ("TearsQueue$Tape", "settingsTold", "I", false)
  | 6 => ("TearsQueue$Tape", "place", "I", false)
  | 7 => ("TearsQueue$Tape", "sort", "I", false)
  | 8 => ("TearsQueue$Tape", "start", "I", false)
  | _ => ("TearsQueue$Tape", "value", "I", false)
def tyX5 : Nat → FieldType := fun k => match k with
  | 0 => .array .byte
  | 1 => .object "TearsQueue$Evening"
  | 2 => .int
  | 3 => .int
  | 4 => .int
  | 5 => .int
  | 6 => .int
  | 7 => .int
  | 8 => .int
  | _ => .int
abbrev wsX50 : List Cond := u_ws RX5 TX5 10
theorem nmX5 : ∀ a, a < 10 → ∀ b, b < 10 → a ≠ b → (TX5 a).2.1 ≠ (TX5 b).2.1 := by decide +kernel
theorem tyX5_ok : ∀ k, k < 10 → parseFieldDescriptor (TX5 k).2.2.1 = some (tyX5 k) := by decide +kernel
abbrev cX5_init : ByteArray := prog_7_method_1_code
def yX5_init : MethodName := ⟨RX5, "<init>", "()V"⟩
abbrev cX5_append : ByteArray := prog_7_method_2_code
def yX5_append : MethodName := ⟨RX5, "append", "(I)Z"⟩
abbrev cX5_tellAll : ByteArray := prog_7_method_3_code
def yX5_tellAll : MethodName := ⟨RX5, "tellAll", "()I"⟩
abbrev cX5_tellLine : ByteArray := prog_7_method_4_code
def yX5_tellLine : MethodName := ⟨RX5, "tellLine", "()V"⟩
abbrev cX5_tellOne : ByteArray := prog_7_method_5_code
def yX5_tellOne : MethodName := ⟨RX5, "tellOne", "(I)V"⟩
abbrev cX5_tellPlan : ByteArray := prog_7_method_6_code
def yX5_tellPlan : MethodName := ⟨RX5, "tellPlan", "()V"⟩
abbrev cX5_takeNumber : ByteArray := prog_7_method_7_code
def yX5_takeNumber : MethodName := ⟨RX5, "takeNumber", "(II)I"⟩
abbrev cX5_takeSemicolon : ByteArray := prog_7_method_8_code
def yX5_takeSemicolon : MethodName := ⟨RX5, "takeSemicolon", "()V"⟩
abbrev cX5_fail : ByteArray := prog_7_method_9_code
def yX5_fail : MethodName := ⟨RX5, "fail", "(II)V"⟩
abbrev cX5_takeToken : ByteArray := prog_7_method_10_code
def yX5_takeToken : MethodName := ⟨RX5, "takeToken", "()V"⟩
abbrev cX5_sortOf : ByteArray := prog_7_method_11_code
def yX5_sortOf : MethodName := ⟨RX5, "sortOf", "(I)I"⟩
abbrev cX5_lineBegun : ByteArray := prog_7_method_12_code
def yX5_lineBegun : MethodName := ⟨RX5, "lineBegun", "()I"⟩
abbrev cX5_nameOf : ByteArray := prog_7_method_13_code
def yX5_nameOf : MethodName := ⟨RX5, "nameOf", "(I)Ljava/lang/String;"⟩
abbrev cX5_isName : ByteArray := prog_7_method_14_code
def yX5_isName : MethodName := ⟨RX5, "isName", "(Ljava/lang/String;)Z"⟩
def RX6 : String := "TearsQueue"
def TX6 : u_T := fun k => match k with
  | 0 => ("TearsQueue", "now", "LTearsQueue$Evening;", true)
  | 1 => ("TearsQueue", "trial", "LTearsQueue$Evening;", true)
  | 2 => ("TearsQueue", "tape", "LTearsQueue$Tape;", true)
  | 3 => ("TearsQueue", "sightings", "LTearsQueue$Sightings;", true)
  | 4 => ("TearsQueue", "rows", "LTearsQueue$Rows;", true)
  | 5 => ("TearsQueue", "chances", "LTearsQueue$Chances;", true)
  | 6 => ("TearsQueue", "images", "[LTearsQueue$Evening;", true)
  | 7 => ("TearsQueue", "kept", "[Z", true)
  | 8 => ("TearsQueue", "sheets", "[LTearsQueue$Sheet;", true)
  | 9 => ("TearsQueue", "outcomes", "[I", true)
  | _ => ("TearsQueue", "tornFault", "I", false)
def tyX6 : Nat → FieldType := fun k => match k with
  | 0 => .object "TearsQueue$Evening"
  | 1 => .object "TearsQueue$Evening"
  | 2 => .object "TearsQueue$Tape"
  | 3 => .object "TearsQueue$Sightings"
  | 4 => .object "TearsQueue$Rows"
  | 5 => .object "TearsQueue$Chances"
  | 6 => .array (.object "TearsQueue$Evening")
  | 7 => .array .boolean
  | 8 => .array (.object "TearsQueue$Sheet")
  | 9 => .array .int
  | _ => .int
abbrev wsX60 : List Cond := u_ws RX6 TX6 11
theorem nmX6 : ∀ a, a < 11 → ∀ b, b < 11 → a ≠ b → (TX6 a).2.1 ≠ (TX6 b).2.1 := by decide +kernel
theorem tyX6_ok : ∀ k, k < 11 → parseFieldDescriptor (TX6 k).2.2.1 = some (tyX6 k) := by decide +kernel
abbrev cX6_init : ByteArray := prog_1_method_1_code
def yX6_init : MethodName := ⟨RX6, "<init>", "()V"⟩
abbrev cX6_feed : ByteArray := prog_1_method_2_code
def yX6_feed : MethodName := ⟨RX6, "feed", "(I)I"⟩
abbrev cX6_end : ByteArray := prog_1_method_3_code
def yX6_end : MethodName := ⟨RX6, "end", "(I)I"⟩
abbrev cX6_text : ByteArray := prog_1_method_4_code
def yX6_text : MethodName := ⟨RX6, "text", "()I"⟩
abbrev cX6_fault : ByteArray := prog_1_method_5_code
def yX6_fault : MethodName := ⟨RX6, "fault", "()I"⟩
abbrev cX6_rule : ByteArray := prog_1_method_6_code
def yX6_rule : MethodName := ⟨RX6, "rule", "(I)I"⟩
abbrev cX6_one : ByteArray := prog_1_method_7_code
def yX6_one : MethodName := ⟨RX6, "one", "(II)I"⟩
abbrev cX6_act : ByteArray := prog_1_method_8_code
def yX6_act : MethodName := ⟨RX6, "act", "(I)I"⟩
abbrev cX6_queue : ByteArray := prog_1_method_9_code
def yX6_queue : MethodName := ⟨RX6, "queue", "(I)I"⟩
abbrev cX6_alter : ByteArray := prog_1_method_10_code
def yX6_alter : MethodName := ⟨RX6, "alter", "(III)I"⟩
abbrev cX6_room : ByteArray := prog_1_method_11_code
def yX6_room : MethodName := ⟨RX6, "room", "(I)I"⟩
abbrev cX6_think : ByteArray := prog_1_method_12_code
def yX6_think : MethodName := ⟨RX6, "think", "(I)I"⟩
abbrev cX6_plan : ByteArray := prog_1_method_13_code
def yX6_plan : MethodName := ⟨RX6, "plan", "(I)I"⟩
abbrev cX6_cut : ByteArray := prog_1_method_14_code
def yX6_cut : MethodName := ⟨RX6, "cut", "(I)I"⟩
abbrev cX6_thinks : ByteArray := prog_1_method_15_code
def yX6_thinks : MethodName := ⟨RX6, "thinks", "(I)I"⟩
abbrev cX6_minutes : ByteArray := prog_1_method_16_code
def yX6_minutes : MethodName := ⟨RX6, "minutes", "(I)I"⟩
abbrev cX6_tram : ByteArray := prog_1_method_17_code
def yX6_tram : MethodName := ⟨RX6, "tram", "()I"⟩
abbrev cX6_joy : ByteArray := prog_1_method_18_code
def yX6_joy : MethodName := ⟨RX6, "joy", "(I)I"⟩
abbrev cX6_second : ByteArray := prog_1_method_19_code
def yX6_second : MethodName := ⟨RX6, "second", "()I"⟩
abbrev cX6_runs : ByteArray := prog_1_method_20_code
def yX6_runs : MethodName := ⟨RX6, "runs", "(I)I"⟩
abbrev cX6_ahead : ByteArray := prog_1_method_21_code
def yX6_ahead : MethodName := ⟨RX6, "ahead", "(II)I"⟩
abbrev cX6_soon : ByteArray := prog_1_method_22_code
def yX6_soon : MethodName := ⟨RX6, "soon", "(I)I"⟩
abbrev cX6_best : ByteArray := prog_1_method_23_code
def yX6_best : MethodName := ⟨RX6, "best", "(II)I"⟩
abbrev cX6_home : ByteArray := prog_1_method_24_code
def yX6_home : MethodName := ⟨RX6, "home", "(II)I"⟩
abbrev cX6_swap : ByteArray := prog_1_method_25_code
def yX6_swap : MethodName := ⟨RX6, "swap", "(I)I"⟩
abbrev cX6_enough : ByteArray := prog_1_method_26_code
def yX6_enough : MethodName := ⟨RX6, "enough", "()I"⟩
abbrev cX6_luck : ByteArray := prog_1_method_27_code
def yX6_luck : MethodName := ⟨RX6, "luck", "(III)J"⟩
abbrev cX6_mean : ByteArray := prog_1_method_28_code
def yX6_mean : MethodName := ⟨RX6, "mean", "(II)J"⟩
abbrev cX6_see : ByteArray := prog_1_method_29_code
def yX6_see : MethodName := ⟨RX6, "see", "(IZ)I"⟩
abbrev cX6_forget : ByteArray := prog_1_method_30_code
def yX6_forget : MethodName := ⟨RX6, "forget", "(I)I"⟩
abbrev cX6_kinds : ByteArray := prog_1_method_31_code
def yX6_kinds : MethodName := ⟨RX6, "kinds", "(I)I"⟩
abbrev cX6_sorrows : ByteArray := prog_1_method_32_code
def yX6_sorrows : MethodName := ⟨RX6, "sorrows", "(I)I"⟩
abbrev cX6_ask : ByteArray := prog_1_method_33_code
def yX6_ask : MethodName := ⟨RX6, "ask", "(II)I"⟩
abbrev cX6_drift : ByteArray := prog_1_method_34_code
def yX6_drift : MethodName := ⟨RX6, "drift", "(III)I"⟩
abbrev cX6_keep : ByteArray := prog_1_method_35_code
def yX6_keep : MethodName := ⟨RX6, "keep", "(I)I"⟩
abbrev cX6_back : ByteArray := prog_1_method_36_code
def yX6_back : MethodName := ⟨RX6, "back", "(I)I"⟩
abbrev cX6_sheet : ByteArray := prog_1_method_37_code
def yX6_sheet : MethodName := ⟨RX6, "sheet", "(III)I"⟩
abbrev cX6_lay : ByteArray := prog_1_method_38_code
def yX6_lay : MethodName := ⟨RX6, "lay", "(III)I"⟩
abbrev cX6_read : ByteArray := prog_1_method_39_code
def yX6_read : MethodName := ⟨RX6, "read", "(IIII)I"⟩
abbrev cX6_torn : ByteArray := prog_1_method_40_code
def yX6_torn : MethodName := ⟨RX6, "torn", "()I"⟩
abbrev cX6_count : ByteArray := prog_1_method_41_code
def yX6_count : MethodName := ⟨RX6, "count", "(I)I"⟩
abbrev cX6_isZeroOrOne : ByteArray := prog_1_method_42_code
def yX6_isZeroOrOne : MethodName := ⟨RX6, "isZeroOrOne", "(I)Z"⟩
abbrev cX6_isSheet : ByteArray := prog_1_method_43_code
def yX6_isSheet : MethodName := ⟨RX6, "isSheet", "(I)Z"⟩
abbrev cX6_isLane : ByteArray := prog_1_method_44_code
def yX6_isLane : MethodName := ⟨RX6, "isLane", "(I)Z"⟩
abbrev cX6_goneByChangedPlan : ByteArray := prog_1_method_45_code
def yX6_goneByChangedPlan : MethodName := ⟨RX6, "goneByChangedPlan", "(II)I"⟩
abbrev cX6_possibleSorrows : ByteArray := prog_1_method_46_code
def yX6_possibleSorrows : MethodName := ⟨RX6, "possibleSorrows", "(I)I"⟩
abbrev cX6_leftAtWorst : ByteArray := prog_1_method_47_code
def yX6_leftAtWorst : MethodName := ⟨RX6, "leftAtWorst", "(II)I"⟩
abbrev cX6_partOfFraction : ByteArray := prog_1_method_48_code
def yX6_partOfFraction : MethodName := ⟨RX6, "partOfFraction", "(JJI)J"⟩
abbrev cX6_greatestDivisor : ByteArray := prog_1_method_49_code
def yX6_greatestDivisor : MethodName := ⟨RX6, "greatestDivisor", "(JJ)J"⟩
def RX7 : String := "TearsQueueModel"
def TX7 : u_T := fun k => match k with
  | 0 => ("TearsQueueModel", "state", "[I", true)
  | 1 => ("TearsQueueModel", "brims", "[I", true)
  | 2 => ("TearsQueueModel", "oneMany", "I", false)
  | 3 => ("TearsQueueModel", "readPage", "[I", true)
  | 4 => ("TearsQueueModel", "readOnes", "I", false)
  | 5 => ("TearsQueueModel", "toldOnce", "I", false)
  | 6 => ("TearsQueueModel", "high", "I", false)
  | 7 => ("TearsQueueModel", "tape", "[I", true)
  | 8 => ("TearsQueueModel", "taped", "I", false)
  | 9 => ("TearsQueueModel", "fault", "I", false)
  | 10 => ("TearsQueueModel", "broken", "I", false)
  | 11 => ("TearsQueueModel", "brokenAt", "I", false)
  | 12 => ("TearsQueueModel", "spot", "I", false)
  | 13 => ("TearsQueueModel", "here", "I", false)
  | 14 => ("TearsQueueModel", "token", "I", false)
  | 15 => ("TearsQueueModel", "value", "I", false)
  | 16 => ("TearsQueueModel", "cuts", "[I", true)
  | 17 => ("TearsQueueModel", "letters", "[I", true)
  | 18 => ("TearsQueueModel", "weptBits", "I", false)
  | 19 => ("TearsQueueModel", "weptTimes", "I", false)
  | 20 => ("TearsQueueModel", "firstNot", "I", false)
  | 21 => ("TearsQueueModel", "seen", "[I", true)
  | 22 => ("TearsQueueModel", "seenMany", "I", false)
  | 23 => ("TearsQueueModel", "goneBy", "[I", true)
  | 24 => ("TearsQueueModel", "isKept", "[Z", true)
  | 25 => ("TearsQueueModel", "lanes", "[I", true)
  | 26 => ("TearsQueueModel", "lengths", "[I", true)
  | 27 => ("TearsQueueModel", "cells", "[I", true)
  | _ => ("TearsQueueModel", "torn", "I", false)
def tyX7 : Nat → FieldType := fun k => match k with
  | 0 => .array .int
  | 1 => .array .int
  | 2 => .int
  | 3 => .array .int
  | 4 => .int
  | 5 => .int
  | 6 => .int
  | 7 => .array .int
  | 8 => .int
  | 9 => .int
  | 10 => .int
  | 11 => .int
  | 12 => .int
  | 13 => .int
  | 14 => .int
  | 15 => .int
  | 16 => .array .int
  | 17 => .array .int
  | 18 => .int
  | 19 => .int
  | 20 => .int
  | 21 => .array .int
  | 22 => .int
  | 23 => .array .int
  | 24 => .array .boolean
  | 25 => .array .int
  | 26 => .array .int
  | 27 => .array .int
  | _ => .int
abbrev wsX70 : List Cond := u_ws RX7 TX7 29
theorem nmX7 : ∀ a, a < 29 → ∀ b, b < 29 → a ≠ b → (TX7 a).2.1 ≠ (TX7 b).2.1 := by decide +kernel
theorem tyX7_ok : ∀ k, k < 29 → parseFieldDescriptor (TX7 k).2.2.1 = some (tyX7 k) := by decide +kernel
abbrev cX7_init : ByteArray := prog_9_method_1_code
def yX7_init : MethodName := ⟨RX7, "<init>", "()V"⟩
abbrev cX7_in : ByteArray := prog_9_method_3_code
def yX7_in : MethodName := ⟨RX7, "in", "(JJJ)Z"⟩
abbrev cX7_feed : ByteArray := prog_9_method_4_code
def yX7_feed : MethodName := ⟨RX7, "feed", "(I)I"⟩
abbrev cX7_end : ByteArray := prog_9_method_5_code
def yX7_end : MethodName := ⟨RX7, "end", "(I)I"⟩
abbrev cX7_byteAt : ByteArray := prog_9_method_6_code
def yX7_byteAt : MethodName := ⟨RX7, "byteAt", "(I)I"⟩
abbrev cX7_fails : ByteArray := prog_9_method_7_code
def yX7_fails : MethodName := ⟨RX7, "fails", "(I)V"⟩
abbrev cX7_nameHere : ByteArray := prog_9_method_8_code
def yX7_nameHere : MethodName := ⟨RX7, "nameHere", "()I"⟩
abbrev cX7_step : ByteArray := prog_9_method_9_code
def yX7_step : MethodName := ⟨RX7, "step", "()V"⟩
abbrev cX7_number : ByteArray := prog_9_method_10_code
def yX7_number : MethodName := ⟨RX7, "number", "(II)I"⟩
abbrev cX7_readPlan : ByteArray := prog_9_method_11_code
def yX7_readPlan : MethodName := ⟨RX7, "readPlan", "()V"⟩
abbrev cX7_readMore : ByteArray := prog_9_method_12_code
def yX7_readMore : MethodName := ⟨RX7, "readMore", "(I)V"⟩
abbrev cX7_readLine : ByteArray := prog_9_method_13_code
def yX7_readLine : MethodName := ⟨RX7, "readLine", "()V"⟩
abbrev cX7_text : ByteArray := prog_9_method_14_code
def yX7_text : MethodName := ⟨RX7, "text", "()I"⟩
abbrev cX7_fault : ByteArray := prog_9_method_15_code
def yX7_fault : MethodName := ⟨RX7, "fault", "()I"⟩
abbrev cX7_isOne : ByteArray := prog_9_method_16_code
def yX7_isOne : MethodName := ⟨RX7, "isOne", "(I)Z"⟩
abbrev cX7_waits : ByteArray := prog_9_method_17_code
def yX7_waits : MethodName := ⟨RX7, "waits", "(II)Z"⟩
abbrev cX7_waitingOn : ByteArray := prog_9_method_18_code
def yX7_waitingOn : MethodName := ⟨RX7, "waitingOn", "(I)I"⟩
abbrev cX7_sorrowOn : ByteArray := prog_9_method_19_code
def yX7_sorrowOn : MethodName := ⟨RX7, "sorrowOn", "(I)I"⟩
abbrev cX7_grieves : ByteArray := prog_9_method_20_code
def yX7_grieves : MethodName := ⟨RX7, "grieves", "(III)V"⟩
abbrev cX7_setsOff : ByteArray := prog_9_method_21_code
def yX7_setsOff : MethodName := ⟨RX7, "setsOff", "(II)V"⟩
abbrev cX7_nextToWeep : ByteArray := prog_9_method_22_code
def yX7_nextToWeep : MethodName := ⟨RX7, "nextToWeep", "(II)I"⟩
abbrev cX7_thinksOn : ByteArray := prog_9_method_23_code
def yX7_thinksOn : MethodName := ⟨RX7, "thinksOn", "(II)I"⟩
abbrev cX7_minuteOn : ByteArray := prog_9_method_24_code
def yX7_minuteOn : MethodName := ⟨RX7, "minuteOn", "(I)V"⟩
abbrev cX7_placeOn : ByteArray := prog_9_method_25_code
def yX7_placeOn : MethodName := ⟨RX7, "placeOn", "(II)I"⟩
abbrev cX7_nextOn : ByteArray := prog_9_method_26_code
def yX7_nextOn : MethodName := ⟨RX7, "nextOn", "(II)I"⟩
abbrev cX7_tramOn : ByteArray := prog_9_method_27_code
def yX7_tramOn : MethodName := ⟨RX7, "tramOn", "(I)I"⟩
abbrev cX7_rule : ByteArray := prog_9_method_28_code
def yX7_rule : MethodName := ⟨RX7, "rule", "(I)I"⟩
abbrev cX7_orNone : ByteArray := prog_9_method_29_code
def yX7_orNone : MethodName := ⟨RX7, "orNone", "(I)I"⟩
abbrev cX7_one : ByteArray := prog_9_method_30_code
def yX7_one : MethodName := ⟨RX7, "one", "(II)I"⟩
abbrev cX7_act : ByteArray := prog_9_method_31_code
def yX7_act : MethodName := ⟨RX7, "act", "(I)I"⟩
abbrev cX7_queue : ByteArray := prog_9_method_32_code
def yX7_queue : MethodName := ⟨RX7, "queue", "(I)I"⟩
abbrev cX7_puts : ByteArray := prog_9_method_33_code
def yX7_puts : MethodName := ⟨RX7, "puts", "(ZIII)I"⟩
abbrev cX7_alter : ByteArray := prog_9_method_34_code
def yX7_alter : MethodName := ⟨RX7, "alter", "(III)I"⟩
abbrev cX7_room : ByteArray := prog_9_method_35_code
def yX7_room : MethodName := ⟨RX7, "room", "(I)I"⟩
abbrev cX7_think : ByteArray := prog_9_method_36_code
def yX7_think : MethodName := ⟨RX7, "think", "(I)I"⟩
abbrev cX7_isAct : ByteArray := prog_9_method_37_code
def yX7_isAct : MethodName := ⟨RX7, "isAct", "(I)Z"⟩
abbrev cX7_plan : ByteArray := prog_9_method_38_code
def yX7_plan : MethodName := ⟨RX7, "plan", "(I)I"⟩
abbrev cX7_cut : ByteArray := prog_9_method_39_code
def yX7_cut : MethodName := ⟨RX7, "cut", "(I)I"⟩
abbrev cX7_thinks : ByteArray := prog_9_method_40_code
def yX7_thinks : MethodName := ⟨RX7, "thinks", "(I)I"⟩
abbrev cX7_minutes : ByteArray := prog_9_method_41_code
def yX7_minutes : MethodName := ⟨RX7, "minutes", "(I)I"⟩
abbrev cX7_tram : ByteArray := prog_9_method_42_code
def yX7_tram : MethodName := ⟨RX7, "tram", "()I"⟩
abbrev cX7_joy : ByteArray := prog_9_method_43_code
def yX7_joy : MethodName := ⟨RX7, "joy", "(I)I"⟩
abbrev cX7_second : ByteArray := prog_9_method_44_code
def yX7_second : MethodName := ⟨RX7, "second", "()I"⟩
abbrev cX7_bitsOf : ByteArray := prog_9_method_45_code
def yX7_bitsOf : MethodName := ⟨RX7, "bitsOf", "(I)I"⟩
abbrev cX7_copies : ByteArray := prog_9_method_46_code
def yX7_copies : MethodName := ⟨RX7, "copies", "(II)V"⟩
abbrev cX7_begins : ByteArray := prog_9_method_47_code
def yX7_begins : MethodName := ⟨RX7, "begins", "(I)V"⟩
abbrev cX7_acts : ByteArray := prog_9_method_48_code
def yX7_acts : MethodName := ⟨RX7, "acts", "(I)Z"⟩
abbrev cX7_planGoes : ByteArray := prog_9_method_49_code
def yX7_planGoes : MethodName := ⟨RX7, "planGoes", "(II)V"⟩
abbrev cX7_goneThen : ByteArray := prog_9_method_50_code
def yX7_goneThen : MethodName := ⟨RX7, "goneThen", "()I"⟩
abbrev cX7_runs : ByteArray := prog_9_method_51_code
def yX7_runs : MethodName := ⟨RX7, "runs", "(I)I"⟩
abbrev cX7_ahead : ByteArray := prog_9_method_52_code
def yX7_ahead : MethodName := ⟨RX7, "ahead", "(II)I"⟩
abbrev cX7_soon : ByteArray := prog_9_method_53_code
def yX7_soon : MethodName := ⟨RX7, "soon", "(I)I"⟩
abbrev cX7_powerOf : ByteArray := prog_9_method_54_code
def yX7_powerOf : MethodName := ⟨RX7, "powerOf", "(II)I"⟩
abbrev cX7_figureOf : ByteArray := prog_9_method_55_code
def yX7_figureOf : MethodName := ⟨RX7, "figureOf", "(IIII)I"⟩
abbrev cX7_rowGoes : ByteArray := prog_9_method_56_code
def yX7_rowGoes : MethodName := ⟨RX7, "rowGoes", "(III)Z"⟩
abbrev cX7_best : ByteArray := prog_9_method_57_code
def yX7_best : MethodName := ⟨RX7, "best", "(II)I"⟩
abbrev cX7_home : ByteArray := prog_9_method_58_code
def yX7_home : MethodName := ⟨RX7, "home", "(II)I"⟩
abbrev cX7_swap : ByteArray := prog_9_method_59_code
def yX7_swap : MethodName := ⟨RX7, "swap", "(I)I"⟩
abbrev cX7_enough : ByteArray := prog_9_method_60_code
def yX7_enough : MethodName := ⟨RX7, "enough", "()I"⟩
abbrev cX7_lowest : ByteArray := prog_9_method_61_code
def yX7_lowest : MethodName := ⟨RX7, "lowest", "(JJI)J"⟩
abbrev cX7_byFails : ByteArray := prog_9_method_62_code
def yX7_byFails : MethodName := ⟨RX7, "byFails", "(III)J"⟩
abbrev cX7_luck : ByteArray := prog_9_method_63_code
def yX7_luck : MethodName := ⟨RX7, "luck", "(III)J"⟩
abbrev cX7_mean : ByteArray := prog_9_method_64_code
def yX7_mean : MethodName := ⟨RX7, "mean", "(II)J"⟩
abbrev cX7_see : ByteArray := prog_9_method_65_code
def yX7_see : MethodName := ⟨RX7, "see", "(IZ)I"⟩
abbrev cX7_forget : ByteArray := prog_9_method_66_code
def yX7_forget : MethodName := ⟨RX7, "forget", "(I)I"⟩
abbrev cX7_isAsSeen : ByteArray := prog_9_method_67_code
def yX7_isAsSeen : MethodName := ⟨RX7, "isAsSeen", "()Z"⟩
abbrev cX7_kinds : ByteArray := prog_9_method_68_code
def yX7_kinds : MethodName := ⟨RX7, "kinds", "(I)I"⟩
abbrev cX7_sorrowsOf : ByteArray := prog_9_method_69_code
def yX7_sorrowsOf : MethodName := ⟨RX7, "sorrowsOf", "(I)I"⟩
abbrev cX7_sorrows : ByteArray := prog_9_method_70_code
def yX7_sorrows : MethodName := ⟨RX7, "sorrows", "(I)I"⟩
abbrev cX7_ask : ByteArray := prog_9_method_71_code
def yX7_ask : MethodName := ⟨RX7, "ask", "(II)I"⟩
abbrev cX7_drift : ByteArray := prog_9_method_72_code
def yX7_drift : MethodName := ⟨RX7, "drift", "(III)I"⟩
abbrev cX7_keep : ByteArray := prog_9_method_73_code
def yX7_keep : MethodName := ⟨RX7, "keep", "(I)I"⟩
abbrev cX7_back : ByteArray := prog_9_method_74_code
def yX7_back : MethodName := ⟨RX7, "back", "(I)I"⟩
abbrev cX7_sheet : ByteArray := prog_9_method_75_code
def yX7_sheet : MethodName := ⟨RX7, "sheet", "(III)I"⟩
abbrev cX7_lay : ByteArray := prog_9_method_76_code
def yX7_lay : MethodName := ⟨RX7, "lay", "(III)I"⟩
abbrev cX7_does : ByteArray := prog_9_method_77_code
def yX7_does : MethodName := ⟨RX7, "does", "(I)Z"⟩
abbrev cX7_read : ByteArray := prog_9_method_78_code
def yX7_read : MethodName := ⟨RX7, "read", "(IIII)I"⟩
abbrev cX7_torn : ByteArray := prog_9_method_79_code
def yX7_torn : MethodName := ⟨RX7, "torn", "()I"⟩
abbrev cX7_count : ByteArray := prog_9_method_80_code
def yX7_count : MethodName := ⟨RX7, "count", "(I)I"⟩
def RJx145de : String := "java/io/Serializable"
def TJx145de : u_T := fun k => match k with
  | _ => ("", "", "", false)
def tyJx145de : Nat → FieldType := fun k => match k with
  | _ => .int
abbrev wsJx145de0 : List Cond := u_ws RJx145de TJx145de 0
theorem nmJx145de : ∀ a, a < 0 → ∀ b, b < 0 → a ≠ b → (TJx145de a).2.1 ≠ (TJx145de b).2.1 := by decide +kernel
theorem tyJx145de_ok : ∀ k, k < 0 → parseFieldDescriptor (TJx145de k).2.2.1 = some (tyJx145de k) := by decide +kernel
def RJx9f9b0 : String := "java/lang/CharSequence"
def TJx9f9b0 : u_T := fun k => match k with
  | _ => ("", "", "", false)
def tyJx9f9b0 : Nat → FieldType := fun k => match k with
  | _ => .int
abbrev wsJx9f9b00 : List Cond := u_ws RJx9f9b0 TJx9f9b0 0
theorem nmJx9f9b0 : ∀ a, a < 0 → ∀ b, b < 0 → a ≠ b → (TJx9f9b0 a).2.1 ≠ (TJx9f9b0 b).2.1 := by decide +kernel
theorem tyJx9f9b0_ok : ∀ k, k < 0 → parseFieldDescriptor (TJx9f9b0 k).2.2.1 = some (tyJx9f9b0 k) := by decide +kernel
def RJxb160c : String := "java/lang/Comparable"
def TJxb160c : u_T := fun k => match k with
  | _ => ("", "", "", false)
def tyJxb160c : Nat → FieldType := fun k => match k with
  | _ => .int
abbrev wsJxb160c0 : List Cond := u_ws RJxb160c TJxb160c 0
theorem nmJxb160c : ∀ a, a < 0 → ∀ b, b < 0 → a ≠ b → (TJxb160c a).2.1 ≠ (TJxb160c b).2.1 := by decide +kernel
theorem tyJxb160c_ok : ∀ k, k < 0 → parseFieldDescriptor (TJxb160c k).2.2.1 = some (tyJxb160c k) := by decide +kernel
def RJ6 : String := "java/lang/Integer"
def TJ6 : u_T := fun k => match k with
  | _ => ("", "", "", false)
def tyJ6 : Nat → FieldType := fun k => match k with
  | _ => .int
abbrev wsJ60 : List Cond := u_ws RJ6 TJ6 0
theorem nmJ6 : ∀ a, a < 0 → ∀ b, b < 0 → a ≠ b → (TJ6 a).2.1 ≠ (TJ6 b).2.1 := by decide +kernel
theorem tyJ6_ok : ∀ k, k < 0 → parseFieldDescriptor (TJ6 k).2.2.1 = some (tyJ6 k) := by decide +kernel
abbrev cJ6_bitCount_0f7a4 : ByteArray := prog_10_method_49_code
def yJ6_bitCount_0f7a4 : MethodName := ⟨RJ6, "bitCount", "(I)I"⟩
def RJ9 : String := "java/lang/Math"
def TJ9 : u_T := fun k => match k with
  | _ => ("", "", "", false)
def tyJ9 : Nat → FieldType := fun k => match k with
  | _ => .int
abbrev wsJ90 : List Cond := u_ws RJ9 TJ9 0
theorem nmJ9 : ∀ a, a < 0 → ∀ b, b < 0 → a ≠ b → (TJ9 a).2.1 ≠ (TJ9 b).2.1 := by decide +kernel
theorem tyJ9_ok : ∀ k, k < 0 → parseFieldDescriptor (TJ9 k).2.2.1 = some (tyJ9 k) := by decide +kernel
abbrev cJ9_max_7cf53 : ByteArray := prog_11_method_65_code
def yJ9_max_7cf53 : MethodName := ⟨RJ9, "max", "(II)I"⟩
abbrev cJ9_min_7cf53 : ByteArray := prog_11_method_69_code
def yJ9_min_7cf53 : MethodName := ⟨RJ9, "min", "(II)I"⟩
def RJ0 : String := "java/lang/String"
def TJ0 : u_T := fun k => match k with
  | _ => ("", "", "", false)
def tyJ0 : Nat → FieldType := fun k => match k with
  | _ => .int
abbrev wsJ00 : List Cond := u_ws RJ0 TJ0 0
theorem nmJ0 : ∀ a, a < 0 → ∀ b, b < 0 → a ≠ b → (TJ0 a).2.1 ≠ (TJ0 b).2.1 := by decide +kernel
theorem tyJ0_ok : ∀ k, k < 0 → parseFieldDescriptor (TJ0 k).2.2.1 = some (tyJ0 k) := by decide +kernel
abbrev cJ0_length_8abf5 : ByteArray := prog_12_method_54_code
def yJ0_length_8abf5 : MethodName := ⟨RJ0, "length", "()I"⟩
abbrev cJ0_charAt_5068e : ByteArray := prog_12_method_56_code
def yJ0_charAt_5068e : MethodName := ⟨RJ0, "charAt", "(I)C"⟩
abbrev cJ0_coder_7d493 : ByteArray := prog_12_method_152_code
def yJ0_coder_7d493 : MethodName := ⟨RJ0, "coder", "()B"⟩
abbrev cJ0_isLatin1_aae02 : ByteArray := prog_12_method_154_code
def yJ0_isLatin1_aae02 : MethodName := ⟨RJ0, "isLatin1", "()Z"⟩
abbrev cJ0_checkIndex_df160 : ByteArray := prog_12_method_155_code
def yJ0_checkIndex_df160 : MethodName := ⟨RJ0, "checkIndex", "(II)V"⟩
def RJ1 : String := "java/lang/StringLatin1"
def TJ1 : u_T := fun k => match k with
  | _ => ("", "", "", false)
def tyJ1 : Nat → FieldType := fun k => match k with
  | _ => .int
abbrev wsJ10 : List Cond := u_ws RJ1 TJ1 0
theorem nmJ1 : ∀ a, a < 0 → ∀ b, b < 0 → a ≠ b → (TJ1 a).2.1 ≠ (TJ1 b).2.1 := by decide +kernel
theorem tyJ1_ok : ∀ k, k < 0 → parseFieldDescriptor (TJ1 k).2.2.1 = some (tyJ1 k) := by decide +kernel
abbrev cJ1_charAt_3b067 : ByteArray := prog_13_method_2_code
def yJ1_charAt_3b067 : MethodName := ⟨RJ1, "charAt", "([BI)C"⟩
def RJ2 : String := "java/lang/StringUTF16"
def TJ2 : u_T := fun k => match k with
  | _ => ("", "", "", false)
def tyJ2 : Nat → FieldType := fun k => match k with
  | _ => .int
abbrev wsJ20 : List Cond := u_ws RJ2 TJ2 0
theorem nmJ2 : ∀ a, a < 0 → ∀ b, b < 0 → a ≠ b → (TJ2 a).2.1 ≠ (TJ2 b).2.1 := by decide +kernel
theorem tyJ2_ok : ∀ k, k < 0 → parseFieldDescriptor (TJ2 k).2.2.1 = some (tyJ2 k) := by decide +kernel
abbrev cJ2_getChar_3b067 : ByteArray := prog_14_method_5_code
def yJ2_getChar_3b067 : MethodName := ⟨RJ2, "getChar", "([BI)C"⟩
abbrev cJ2_length_9d52b : ByteArray := prog_14_method_6_code
def yJ2_length_9d52b : MethodName := ⟨RJ2, "length", "([B)I"⟩
abbrev cJ2_charAt_3b067 : ByteArray := prog_14_method_83_code
def yJ2_charAt_3b067 : MethodName := ⟨RJ2, "charAt", "([BI)C"⟩
abbrev cJ2_checkIndex_2214a : ByteArray := prog_14_method_91_code
def yJ2_checkIndex_2214a : MethodName := ⟨RJ2, "checkIndex", "(I[B)V"⟩
def RJ10 : String := "java/lang/System"
def TJ10 : u_T := fun k => match k with
  | _ => ("", "", "", false)
def tyJ10 : Nat → FieldType := fun k => match k with
  | _ => .int
abbrev wsJ100 : List Cond := u_ws RJ10 TJ10 0
theorem nmJ10 : ∀ a, a < 0 → ∀ b, b < 0 → a ≠ b → (TJ10 a).2.1 ≠ (TJ10 b).2.1 := by decide +kernel
theorem tyJ10_ok : ∀ k, k < 0 → parseFieldDescriptor (TJ10 k).2.2.1 = some (tyJ10 k) := by decide +kernel
def RJxfd54e : String := "java/lang/constant/Constable"
def TJxfd54e : u_T := fun k => match k with
  | _ => ("", "", "", false)
def tyJxfd54e : Nat → FieldType := fun k => match k with
  | _ => .int
abbrev wsJxfd54e0 : List Cond := u_ws RJxfd54e TJxfd54e 0
theorem nmJxfd54e : ∀ a, a < 0 → ∀ b, b < 0 → a ≠ b → (TJxfd54e a).2.1 ≠ (TJxfd54e b).2.1 := by decide +kernel
theorem tyJxfd54e_ok : ∀ k, k < 0 → parseFieldDescriptor (TJxfd54e k).2.2.1 = some (tyJxfd54e k) := by decide +kernel
def RJx3cf43 : String := "java/lang/constant/ConstantDesc"
def TJx3cf43 : u_T := fun k => match k with
  | _ => ("", "", "", false)
def tyJx3cf43 : Nat → FieldType := fun k => match k with
  | _ => .int
abbrev wsJx3cf430 : List Cond := u_ws RJx3cf43 TJx3cf43 0
theorem nmJx3cf43 : ∀ a, a < 0 → ∀ b, b < 0 → a ≠ b → (TJx3cf43 a).2.1 ≠ (TJx3cf43 b).2.1 := by decide +kernel
theorem tyJx3cf43_ok : ∀ k, k < 0 → parseFieldDescriptor (TJx3cf43 k).2.2.1 = some (tyJx3cf43 k) := by decide +kernel
def RJ7 : String := "java/util/Arrays"
def TJ7 : u_T := fun k => match k with
  | _ => ("", "", "", false)
def tyJ7 : Nat → FieldType := fun k => match k with
  | _ => .int
abbrev wsJ70 : List Cond := u_ws RJ7 TJ7 0
theorem nmJ7 : ∀ a, a < 0 → ∀ b, b < 0 → a ≠ b → (TJ7 a).2.1 ≠ (TJ7 b).2.1 := by decide +kernel
theorem tyJ7_ok : ∀ k, k < 0 → parseFieldDescriptor (TJ7 k).2.2.1 = some (tyJ7 k) := by decide +kernel
abbrev cJ7_fill_d0a16 : ByteArray := prog_16_method_101_code
def yJ7_fill_d0a16 : MethodName := ⟨RJ7, "fill", "([JJ)V"⟩
abbrev cJ7_fill_53178 : ByteArray := prog_16_method_103_code
def yJ7_fill_53178 : MethodName := ⟨RJ7, "fill", "([II)V"⟩
def RJ3 : String := "jdk/internal/util/Preconditions"
def TJ3 : u_T := fun k => match k with
  | _ => ("", "", "", false)
def tyJ3 : Nat → FieldType := fun k => match k with
  | _ => .int
abbrev wsJ30 : List Cond := u_ws RJ3 TJ3 0
theorem nmJ3 : ∀ a, a < 0 → ∀ b, b < 0 → a ≠ b → (TJ3 a).2.1 ≠ (TJ3 b).2.1 := by decide +kernel
theorem tyJ3_ok : ∀ k, k < 0 → parseFieldDescriptor (TJ3 k).2.2.1 = some (tyJ3 k) := by decide +kernel
abbrev cJ3_checkIndex_8e157 : ByteArray := prog_17_method_11_code
def yJ3_checkIndex_8e157 : MethodName := ⟨RJ3, "checkIndex", "(IILjava/util/function/BiFunction;)I"⟩
def RL : String := "TearsQueueLaw"
abbrev cL_law : ByteArray := code
def yL_law : MethodName := ⟨RL, "law", "([I)Z"⟩
set_option maxRecDepth 100000 in
theorem inX0 : ∀ w ∈ wsX00, w ∈ lw_tbl := by decide +kernel
set_option maxRecDepth 100000 in
theorem inX1 : ∀ w ∈ wsX10, w ∈ lw_tbl := by decide +kernel
set_option maxRecDepth 100000 in
theorem inX2 : ∀ w ∈ wsX20, w ∈ lw_tbl := by decide +kernel
set_option maxRecDepth 100000 in
theorem inX3 : ∀ w ∈ wsX30, w ∈ lw_tbl := by decide +kernel
set_option maxRecDepth 100000 in
theorem inX4 : ∀ w ∈ wsX40, w ∈ lw_tbl := by decide +kernel
set_option maxRecDepth 100000 in
theorem inX5 : ∀ w ∈ wsX50, w ∈ lw_tbl := by decide +kernel
set_option maxRecDepth 100000 in
theorem inX6 : ∀ w ∈ wsX60, w ∈ lw_tbl := by decide +kernel
set_option maxRecDepth 100000 in
theorem inX7 : ∀ w ∈ wsX70, w ∈ lw_tbl := by decide +kernel
set_option maxRecDepth 100000 in
theorem inJx145de : ∀ w ∈ wsJx145de0, w ∈ lw_tbl := by decide +kernel
set_option maxRecDepth 100000 in
theorem inJx9f9b0 : ∀ w ∈ wsJx9f9b00, w ∈ lw_tbl := by decide +kernel
set_option maxRecDepth 100000 in
theorem inJxb160c : ∀ w ∈ wsJxb160c0, w ∈ lw_tbl := by decide +kernel
set_option maxRecDepth 100000 in
theorem inJ6 : ∀ w ∈ wsJ60, w ∈ lw_tbl := by decide +kernel
set_option maxRecDepth 100000 in
theorem inJ9 : ∀ w ∈ wsJ90, w ∈ lw_tbl := by decide +kernel
set_option maxRecDepth 100000 in
theorem inJ0 : ∀ w ∈ wsJ00, w ∈ lw_tbl := by decide +kernel
set_option maxRecDepth 100000 in
theorem inJ1 : ∀ w ∈ wsJ10, w ∈ lw_tbl := by decide +kernel
set_option maxRecDepth 100000 in
theorem inJ2 : ∀ w ∈ wsJ20, w ∈ lw_tbl := by decide +kernel
set_option maxRecDepth 100000 in
theorem inJ10 : ∀ w ∈ wsJ100, w ∈ lw_tbl := by decide +kernel
set_option maxRecDepth 100000 in
theorem inJxfd54e : ∀ w ∈ wsJxfd54e0, w ∈ lw_tbl := by decide +kernel
set_option maxRecDepth 100000 in
theorem inJx3cf43 : ∀ w ∈ wsJx3cf430, w ∈ lw_tbl := by decide +kernel
set_option maxRecDepth 100000 in
theorem inJ7 : ∀ w ∈ wsJ70, w ∈ lw_tbl := by decide +kernel
set_option maxRecDepth 100000 in
theorem inJ3 : ∀ w ∈ wsJ30, w ∈ lw_tbl := by decide +kernel
abbrev vwCl : List vw_C := [(RX0, TX0, 3), (RX1, TX1, 14), (RX2, TX2, 6), (RX3, TX3, 4), (RX4, TX4, 3), (RX5, TX5, 10), (RX6, TX6, 11), (RX7, TX7, 29)]
end
section
-- THE STATE: ints by object and field; int, byte and boolean arrays by object and field; Chances.whole; Chances.goneWeight
abbrev tq_St : Type := (Nat → Nat → Int32) × (Nat → Nat → Nat → Int32) × Int64 × (Nat → Int64)
def sI (S : tq_St) (o k : Nat) (v : Int32) : tq_St := (fun o' => if o' = o then upd (S.1 o) k v else S.1 o', S.2)
def sC (S : tq_St) (o k : Nat) (f : Nat → Int32) : tq_St := (S.1, fun o' => if o' = o then (fun k' => if k' = k then f else S.2.1 o k') else S.2.1 o', S.2.2)
def sA (S : tq_St) (o k i : Nat) (v : Int32) : tq_St := sC S o k (upd (S.2.1 o k) i v)
def sW (S : tq_St) (v : Int64) : tq_St := (S.1, S.2.1, v, S.2.2.2)
def sG (S : tq_St) (i : Nat) (v : Int64) : tq_St := (S.1, S.2.1, S.2.2.1, vp_updL S.2.2.2 i v)
-- THE LAYOUT: the address of each cell (object o: place 0; the array in its field k: place k + 1), the classes' numbers, the array classes
abbrev tq_La : Type := (Nat → Nat → Nat) × va_G × (Nat → ClassId)
def tq_ty (a : tq_La) : List (ClassId × FieldType) := [(a.2.2 0, .int), (a.2.2 1, .byte), (a.2.2 2, .boolean), (a.2.2 3, .long), (a.2.2 4, .object "TearsQueue$Evening"), (a.2.2 5, .object "TearsQueue$Sheet")]
-- the cells of each object
def gcE (a : tq_La) (o : Nat) (I : Nat → Int32) (B : Nat → Nat → Int32) (r : Nat) : va_E := match r with
  | 0 => .inr (1, [.ref (a.1 o 1), .ref (a.1 o 2), .ref (a.1 o 3), .ref (a.1 o 4), .ref (a.1 o 5), .int (I 5), .int (I 6), .int (I 7), .int (I 8), .int (I 9), .int (I 10), .int (I 11), .int (I 12), .int (I 13)])
  | 4 => .inl (a.2.2 0, 8, .inl (B 3))
  | k + 1 => .inl (a.2.2 0, 5, .inl (B k))
def gcS (a : tq_La) (o : Nat) (I : Nat → Int32) (B : Nat → Nat → Int32) (r : Nat) : va_E := match r with
  | 0 => .inr (3, [.ref (a.1 o 1), .int (I 1), .int (I 2), .int (I 3)])
  | _ => .inl (a.2.2 0, 40, .inl (B 0))
def gcT (a : tq_La) (I : Nat → Int32) (B : Nat → Nat → Int32) (r : Nat) : va_E := match r with
  | 0 => .inr (5, [.ref (a.1 19 1), .ref (a.1 2 0), .int (I 2), .int (I 3), .int (I 4), .int (I 5), .int (I 6), .int (I 7), .int (I 8), .int (I 9)])
  | _ => .inl (a.2.2 1, 160, .inl (B 0))
def gcG (a : tq_La) (I : Nat → Int32) (B : Nat → Nat → Int32) (r : Nat) : va_E := match r with
  | 0 => .inr (4, [.ref (a.1 20 1), .ref (a.1 20 2), .int (I 2)])
  | 1 => .inl (a.2.2 0, 6, .inl (B 0))
  | _ => .inl (a.2.2 2, 6, .inl (B 1))
def gcR (a : tq_La) (I : Nat → Int32) (B : Nat → Nat → Int32) (r : Nat) : va_E := match r with
  | 0 => .inr (2, [.ref (a.1 21 1), .ref (a.1 21 2), .ref (a.1 21 3), .int (I 3), .int (I 4), .int (I 5)])
  | 1 => .inl (a.2.2 4, 5, .inr (.inr (.inr (.inr (fun i => some (a.1 (3 + i) 0))))))
  | 2 => .inl (a.2.2 0, 4, .inl (B 1))
  | _ => .inl (a.2.2 0, 4, .inl (B 2))
def gcC (a : tq_La) (w : Int64) (g : Nat → Int64) (r : Nat) : va_E := match r with
  | 0 => .inr (0, [.ref (a.1 22 1), .ref (a.1 22 2), .long w])
  | 1 => .inl (a.2.2 4, 9, .inr (.inr (.inr (.inr (fun i => some (a.1 (8 + i) 0))))))
  | _ => .inl (a.2.2 3, 5, .inr (.inl g))
def gcQ (a : tq_La) (I : Nat → Int32) (B : Nat → Nat → Int32) (r : Nat) : va_E := match r with
  | 0 => .inr (6, [.ref (a.1 0 0), .ref (a.1 1 0), .ref (a.1 19 0), .ref (a.1 20 0), .ref (a.1 21 0), .ref (a.1 22 0), .ref (a.1 27 7), .ref (a.1 27 8), .ref (a.1 27 9), .ref (a.1 27 10), .int (I 10)])
  | 7 => .inl (a.2.2 4, 2, .inr (.inr (.inr (.inr (fun i => some (a.1 (17 + i) 0))))))
  | 8 => .inl (a.2.2 2, 2, .inl (B 7))
  | 9 => .inl (a.2.2 5, 4, .inr (.inr (.inr (.inr (fun i => some (a.1 (23 + i) 0))))))
  | _ => .inl (a.2.2 0, 21, .inl (B 9))
def gcM (a : tq_La) (I : Nat → Int32) (B : Nat → Nat → Int32) (r : Nat) : va_E := match r with
  | 0 => .inr (7, [.ref (a.1 28 1), .ref (a.1 28 2), .int (I 2), .ref (a.1 28 4), .int (I 4), .int (I 5), .int (I 6), .ref (a.1 28 8), .int (I 8), .int (I 9), .int (I 10), .int (I 11), .int (I 12), .int (I 13), .int (I 14), .int (I 15), .ref (a.1 28 17), .ref (a.1 28 18), .int (I 18), .int (I 19), .int (I 20), .ref (a.1 28 22), .int (I 22), .ref (a.1 28 24), .ref (a.1 28 25), .ref (a.1 28 26), .ref (a.1 28 27), .ref (a.1 28 28), .int (I 28)])
  | 1 => .inl (a.2.2 0, 168, .inl (B 0))
  | 2 => .inl (a.2.2 0, 4, .inl (B 1))
  | 4 => .inl (a.2.2 0, 28, .inl (B 3))
  | 8 => .inl (a.2.2 0, 160, .inl (B 7))
  | 17 => .inl (a.2.2 0, 8, .inl (B 16))
  | 18 => .inl (a.2.2 0, 29, .inl (B 17))
  | 22 => .inl (a.2.2 0, 12, .inl (B 21))
  | 24 => .inl (a.2.2 0, 21, .inl (B 23))
  | 25 => .inl (a.2.2 2, 2, .inl (B 24))
  | 26 => .inl (a.2.2 0, 4, .inl (B 25))
  | 27 => .inl (a.2.2 0, 4, .inl (B 26))
  | _ => .inl (a.2.2 0, 160, .inl (B 27))
def gcx (a : tq_La) (o : Nat) (I : Nat → Int32) (B : Nat → Nat → Int32) (w : Int64) (g : Nat → Int64) (r : Nat) : va_E :=
  if o < 19 then gcE a o I B r else match o with
  | 19 => gcT a I B r
  | 20 => gcG a I B r
  | 21 => gcR a I B r
  | 22 => gcC a w g r
  | 27 => gcQ a I B r
  | 28 => gcM a I B r
  | _ => gcS a o I B r
def tq_gc (a : tq_La) (S : tq_St) (o r : Nat) : va_E := gcx a o (S.1 o) (S.2.1 o) S.2.2.1 S.2.2.2 r
def tq_evc : List (Nat × Nat) := (List.range 19).flatMap (fun o => (List.range 6).map (fun r => (o, r)))
def tq_otc : List (Nat × Nat) := [(19, 0), (19, 1), (20, 0), (20, 1), (20, 2), (21, 0), (21, 1), (21, 2), (21, 3), (22, 0), (22, 1), (22, 2), (23, 0), (23, 1), (24, 0), (24, 1), (25, 0), (25, 1), (26, 0), (26, 1), (27, 0), (27, 7), (27, 8), (27, 9), (27, 10), (28, 0), (28, 1), (28, 2), (28, 4), (28, 8), (28, 17), (28, 18), (28, 22), (28, 24), (28, 25), (28, 26), (28, 27), (28, 28)]
def tq_cids : List (Nat × Nat) := tq_evc ++ tq_otc
def tq_W (a : tq_La) (S : tq_St) : va_W := tq_cids.map (fun q => (a.1 q.1 q.2, tq_gc a S q.1 q.2))
theorem tq_nodup : tq_cids.Nodup := by decide +kernel
theorem tq_ndi {α : Type} {l : List α} (h : l.Nodup) {i j : Nat} {x : α} (hi : l[i]? = some x) (hj : l[j]? = some x) : i = j := by
  induction l generalizing i j with
  | nil => simp at hi
  | cons y t ih =>
    obtain ⟨h1, h2⟩ := List.nodup_cons.mp h
    cases i with
    | zero => cases j with
      | zero => rfl
      | succ j => simp at hi hj; subst hi; exact absurd (List.mem_of_getElem? hj) h1
    | succ i => cases j with
      | zero => simp at hi hj; subst hj; exact absurd (List.mem_of_getElem? hi) h1
      | succ j => simp at hi hj; rw [ih h2 hi hj]
theorem tq_inE {o : Nat} (h : o < 19) : ∀ r, r < 6 → (o, r) ∈ tq_cids := by
  have h1 : ∀ o, o < 19 → ∀ r, r < 6 → (o, r) ∈ tq_cids := by decide +kernel
  exact h1 o h
theorem tq_inS {o : Nat} (h : 23 ≤ o ∧ o < 27) : ∀ r, r < 2 → (o, r) ∈ tq_cids := by
  have h1 : ∀ o, o < 4 → ∀ r, r < 2 → (23 + o, r) ∈ tq_cids := by decide +kernel
  have h2 := h1 (o - 23) (by omega)
  rwa [show 23 + (o - 23) = o by omega] at h2
theorem tq_at (a : tq_La) (S : tq_St) {o r : Nat} (h : (o, r) ∈ tq_cids) : ∃ k : Nat, tq_cids[k]? = some (o, r) ∧ (tq_W a S)[k]? = some (a.1 o r, tq_gc a S o r) := by
  obtain ⟨k, hk⟩ := List.mem_iff_getElem?.mp h
  exact ⟨k, hk, by simp [tq_W, hk]⟩
theorem tq_set (a : tq_La) (S S' : tq_St) {o r k : Nat} {x : va_E} (hk : tq_cids[k]? = some (o, r)) (hx : tq_gc a S' o r = x) (hn : ∀ o' r', (o', r') ∈ tq_cids → ¬ (o' = o ∧ r' = r) → tq_gc a S' o' r' = tq_gc a S o' r') : (tq_W a S).set k (a.1 o r, x) = tq_W a S' := by
  apply List.ext_getElem?
  intro j
  rw [List.getElem?_set]
  by_cases hj : k = j
  · subst hj
    have hl : k < (tq_W a S).length := by
      have := (List.getElem?_eq_some_iff.mp hk).1
      simpa [tq_W] using this
    rw [if_pos rfl, if_pos hl]
    simp [tq_W, hk, hx]
  · rw [if_neg hj]
    cases hc : tq_cids[j]? with
    | none => simp [tq_W, hc]
    | some q =>
      have hq : ¬ (q.1 = o ∧ q.2 = r) := by
        rintro ⟨h1, h2⟩
        have hqe : q = (o, r) := Prod.ext h1 h2
        subst hqe
        exact hj (tq_ndi tq_nodup hk hc)
      simp [tq_W, hc, hn q.1 q.2 (List.mem_of_getElem? hc) hq]
end
section
-- what each store does to the cells
theorem gcx_ne0 (a : tq_La) (o : Nat) (I I' : Nat → Int32) (B : Nat → Nat → Int32) (w w' : Int64) (g : Nat → Int64) {r : Nat} (hr : r ≠ 0) : gcx a o I B w g r = gcx a o I' B w' g r := by
  obtain ⟨k, rfl⟩ : ∃ k, r = k + 1 := ⟨r - 1, by omega⟩
  unfold gcx
  by_cases h : o < 19
  · rw [if_pos h, if_pos h]; unfold gcE; split <;> simp_all
  · rw [if_neg h, if_neg h]
    split
    · unfold gcT; rfl
    · unfold gcG; split <;> simp_all
    · unfold gcR; split <;> simp_all
    · unfold gcC; split <;> simp_all
    · unfold gcQ; split <;> simp_all
    · unfold gcM; split <;> simp_all
    · unfold gcS; rfl
theorem tq_gcI (a : tq_La) (S : tq_St) (o k : Nat) (v : Int32) : ∀ o' r', (o', r') ∈ tq_cids → ¬ (o' = o ∧ r' = 0) → tq_gc a (sI S o k v) o' r' = tq_gc a S o' r' := by
  intro o' r' hm h
  unfold tq_gc sI
  by_cases ho : o' = o
  · subst ho
    exact gcx_ne0 a o' _ _ _ _ _ _ (fun hr => h ⟨rfl, hr⟩)
  · simp only [if_neg ho]
theorem tq_gcW (a : tq_La) (S : tq_St) (v : Int64) : ∀ o' r', (o', r') ∈ tq_cids → ¬ (o' = 22 ∧ r' = 0) → tq_gc a (sW S v) o' r' = tq_gc a S o' r' := by
  intro o' r' hm h
  unfold tq_gc sW
  by_cases hr : r' = 0
  · subst hr
    have ho : o' ≠ 22 := fun e => h ⟨e, rfl⟩
    unfold gcx
    by_cases h1 : o' < 19
    · rw [if_pos h1, if_pos h1]
    · rw [if_neg h1, if_neg h1]
      split <;> simp_all
  · exact gcx_ne0 a o' _ _ _ _ _ _ hr
/-- the cell of an array depends on that array alone -/
def tq_arr (o k : Nat) : Prop := ∀ (a : tq_La) (I : Nat → Int32) (B : Nat → Nat → Int32) (f : Nat → Int32) (w : Int64) (g : Nat → Int64) (r : Nat), (o, r) ∈ tq_cids → r ≠ k + 1 → gcx a o I (fun k' => if k' = k then f else B k') w g r = gcx a o I B w g r
theorem tq_gcA (a : tq_La) (S : tq_St) {o k : Nat} (hk : tq_arr o k) (f : Nat → Int32) : ∀ o' r', (o', r') ∈ tq_cids → ¬ (o' = o ∧ r' = k + 1) → tq_gc a (sC S o k f) o' r' = tq_gc a S o' r' := by
  intro o' r' hm h
  unfold tq_gc sC
  by_cases ho : o' = o
  · subst ho
    simp only [if_true]
    exact hk a _ _ f _ _ r' hm (fun hr => h ⟨rfl, hr⟩)
  · simp only [if_neg ho]
theorem tq_gcG (a : tq_La) (S : tq_St) (i : Nat) (v : Int64) : ∀ o' r', (o', r') ∈ tq_cids → ¬ (o' = 22 ∧ r' = 2) → tq_gc a (sG S i v) o' r' = tq_gc a S o' r' := by
  intro o' r' hm h
  unfold tq_gc sG gcx
  by_cases h1 : o' < 19
  · rw [if_pos h1, if_pos h1]
  · rw [if_neg h1, if_neg h1]
    split
    · rfl
    · rfl
    · rfl
    · unfold gcC
      have hr : r' ≠ 2 := fun e => h ⟨rfl, e⟩
      have hr3 : r' < 3 := by
        have : ∀ q ∈ tq_cids, q.1 = 22 → q.2 < 3 := by decide +kernel
        exact this _ hm rfl
      have h01 : r' = 0 ∨ r' = 1 := by omega
      rcases h01 with rfl | rfl <;> rfl
    · rfl
    · rfl
    · rfl
theorem gcx_E (a : tq_La) {o : Nat} (h : o < 19) (I : Nat → Int32) (B : Nat → Nat → Int32) (w : Int64) (g : Nat → Int64) (r : Nat) : gcx a o I B w g r = gcE a o I B r := by unfold gcx; rw [if_pos h]
theorem gcx_S (a : tq_La) {o : Nat} (h : 23 ≤ o ∧ o < 27) (I : Nat → Int32) (B : Nat → Nat → Int32) (w : Int64) (g : Nat → Int64) (r : Nat) : gcx a o I B w g r = gcS a o I B r := by
  unfold gcx
  rw [if_neg (by omega)]
  have h1 : o = 23 ∨ o = 24 ∨ o = 25 ∨ o = 26 := by omega
  rcases h1 with rfl | rfl | rfl | rfl <;> rfl
theorem tq_arrE {o k : Nat} (h : o < 19) : tq_arr o k := by
  intro a I B f w g r hm hr
  rw [gcx_E a h, gcx_E a h]
  unfold gcE
  split
  · rfl
  · rename_i h4
    have hk : ¬ 3 = k := by omega
    simp only [if_neg hk]
  · rename_i j h4
    have hk : ¬ j = k := by omega
    simp only [if_neg hk]
theorem tq_arrS {o : Nat} (h : 23 ≤ o ∧ o < 27) : tq_arr o 0 := by
  intro a I B f w g r hm hr
  rw [gcx_S a h, gcx_S a h]
  unfold gcS
  have hr2 : r < 2 := by
    have h9 : ∀ q ∈ tq_cids, 23 ≤ q.1 → q.1 < 27 → q.2 < 2 := by decide +kernel
    exact h9 _ hm h.1 h.2
  have h01 : r = 0 := by omega
  subst h01
  rfl
/-- for an object whose number is known -/
def tq_arrD (o k : Nat) : Prop := ∀ r ∈ ((tq_cids.filter (fun q => q.1 == o)).map (fun q => q.2)), r ≠ k + 1 → ∀ (a : tq_La) (I : Nat → Int32) (B : Nat → Nat → Int32) (f : Nat → Int32) (w : Int64) (g : Nat → Int64), gcx a o I (fun k' => if k' = k then f else B k') w g r = gcx a o I B w g r
theorem tq_arr_of {o k : Nat} (h : tq_arrD o k) : tq_arr o k := by
  intro a I B f w g r hm hr
  exact h r (List.mem_map.mpr ⟨(o, r), List.mem_filter.mpr ⟨hm, by simp⟩, rfl⟩) hr a I B f w g
theorem tq_all1 {P : Nat → Prop} {x : Nat} {l : List Nat} (h : P x) (t : ∀ r ∈ l, P r) : ∀ r ∈ x :: l, P r := fun r hr => by
  rcases List.mem_cons.mp hr with rfl | h2
  · exact h
  · exact t r h2
theorem tq_arr19_0 : tq_arr 19 0 := tq_arr_of (by
  unfold tq_arrD
  rw [show (tq_cids.filter (fun q => q.1 == 19)).map (fun q => q.2) = [0, 1] by decide +kernel]
  intro r hr hk a I B f w g
  simp only [List.mem_cons, List.not_mem_nil, or_false] at hr
  rcases hr with rfl | rfl <;> first | rfl | exact absurd rfl hk)
theorem tq_arr20_0 : tq_arr 20 0 := tq_arr_of (by
  unfold tq_arrD
  rw [show (tq_cids.filter (fun q => q.1 == 20)).map (fun q => q.2) = [0, 1, 2] by decide +kernel]
  intro r hr hk a I B f w g
  simp only [List.mem_cons, List.not_mem_nil, or_false] at hr
  rcases hr with rfl | rfl | rfl <;> first | rfl | exact absurd rfl hk)
theorem tq_arr20_1 : tq_arr 20 1 := tq_arr_of (by
  unfold tq_arrD
  rw [show (tq_cids.filter (fun q => q.1 == 20)).map (fun q => q.2) = [0, 1, 2] by decide +kernel]
  intro r hr hk a I B f w g
  simp only [List.mem_cons, List.not_mem_nil, or_false] at hr
  rcases hr with rfl | rfl | rfl <;> first | rfl | exact absurd rfl hk)
theorem tq_arr21_1 : tq_arr 21 1 := tq_arr_of (by
  unfold tq_arrD
  rw [show (tq_cids.filter (fun q => q.1 == 21)).map (fun q => q.2) = [0, 1, 2, 3] by decide +kernel]
  intro r hr hk a I B f w g
  simp only [List.mem_cons, List.not_mem_nil, or_false] at hr
  rcases hr with rfl | rfl | rfl | rfl <;> first | rfl | exact absurd rfl hk)
theorem tq_arr21_2 : tq_arr 21 2 := tq_arr_of (by
  unfold tq_arrD
  rw [show (tq_cids.filter (fun q => q.1 == 21)).map (fun q => q.2) = [0, 1, 2, 3] by decide +kernel]
  intro r hr hk a I B f w g
  simp only [List.mem_cons, List.not_mem_nil, or_false] at hr
  rcases hr with rfl | rfl | rfl | rfl <;> first | rfl | exact absurd rfl hk)
theorem tq_arr27_7 : tq_arr 27 7 := tq_arr_of (by
  unfold tq_arrD
  rw [show (tq_cids.filter (fun q => q.1 == 27)).map (fun q => q.2) = [0, 7, 8, 9, 10] by decide +kernel]
  intro r hr hk a I B f w g
  simp only [List.mem_cons, List.not_mem_nil, or_false] at hr
  rcases hr with rfl | rfl | rfl | rfl | rfl <;> first | rfl | exact absurd rfl hk)
theorem tq_arr27_9 : tq_arr 27 9 := tq_arr_of (by
  unfold tq_arrD
  rw [show (tq_cids.filter (fun q => q.1 == 27)).map (fun q => q.2) = [0, 7, 8, 9, 10] by decide +kernel]
  intro r hr hk a I B f w g
  simp only [List.mem_cons, List.not_mem_nil, or_false] at hr
  rcases hr with rfl | rfl | rfl | rfl | rfl <;> first | rfl | exact absurd rfl hk)
theorem tq_arr28_0 : tq_arr 28 0 := tq_arr_of (by
  unfold tq_arrD
  rw [show (tq_cids.filter (fun q => q.1 == 28)).map (fun q => q.2) = [0, 1, 2, 4, 8, 17, 18, 22, 24, 25, 26, 27, 28] by decide +kernel]
  intro r hr hk a I B f w g
  simp only [List.mem_cons, List.not_mem_nil, or_false] at hr
  rcases hr with rfl | rfl | rfl | rfl | rfl | rfl | rfl | rfl | rfl | rfl | rfl | rfl | rfl <;> first | rfl | exact absurd rfl hk)
theorem tq_arr28_1 : tq_arr 28 1 := tq_arr_of (by
  unfold tq_arrD
  rw [show (tq_cids.filter (fun q => q.1 == 28)).map (fun q => q.2) = [0, 1, 2, 4, 8, 17, 18, 22, 24, 25, 26, 27, 28] by decide +kernel]
  intro r hr hk a I B f w g
  simp only [List.mem_cons, List.not_mem_nil, or_false] at hr
  rcases hr with rfl | rfl | rfl | rfl | rfl | rfl | rfl | rfl | rfl | rfl | rfl | rfl | rfl <;> first | rfl | exact absurd rfl hk)
theorem tq_arr28_3 : tq_arr 28 3 := tq_arr_of (by
  unfold tq_arrD
  rw [show (tq_cids.filter (fun q => q.1 == 28)).map (fun q => q.2) = [0, 1, 2, 4, 8, 17, 18, 22, 24, 25, 26, 27, 28] by decide +kernel]
  intro r hr hk a I B f w g
  simp only [List.mem_cons, List.not_mem_nil, or_false] at hr
  rcases hr with rfl | rfl | rfl | rfl | rfl | rfl | rfl | rfl | rfl | rfl | rfl | rfl | rfl <;> first | rfl | exact absurd rfl hk)
theorem tq_arr28_7 : tq_arr 28 7 := tq_arr_of (by
  unfold tq_arrD
  rw [show (tq_cids.filter (fun q => q.1 == 28)).map (fun q => q.2) = [0, 1, 2, 4, 8, 17, 18, 22, 24, 25, 26, 27, 28] by decide +kernel]
  intro r hr hk a I B f w g
  simp only [List.mem_cons, List.not_mem_nil, or_false] at hr
  rcases hr with rfl | rfl | rfl | rfl | rfl | rfl | rfl | rfl | rfl | rfl | rfl | rfl | rfl <;> first | rfl | exact absurd rfl hk)
theorem tq_arr28_16 : tq_arr 28 16 := tq_arr_of (by
  unfold tq_arrD
  rw [show (tq_cids.filter (fun q => q.1 == 28)).map (fun q => q.2) = [0, 1, 2, 4, 8, 17, 18, 22, 24, 25, 26, 27, 28] by decide +kernel]
  intro r hr hk a I B f w g
  simp only [List.mem_cons, List.not_mem_nil, or_false] at hr
  rcases hr with rfl | rfl | rfl | rfl | rfl | rfl | rfl | rfl | rfl | rfl | rfl | rfl | rfl <;> first | rfl | exact absurd rfl hk)
theorem tq_arr28_17 : tq_arr 28 17 := tq_arr_of (by
  unfold tq_arrD
  rw [show (tq_cids.filter (fun q => q.1 == 28)).map (fun q => q.2) = [0, 1, 2, 4, 8, 17, 18, 22, 24, 25, 26, 27, 28] by decide +kernel]
  intro r hr hk a I B f w g
  simp only [List.mem_cons, List.not_mem_nil, or_false] at hr
  rcases hr with rfl | rfl | rfl | rfl | rfl | rfl | rfl | rfl | rfl | rfl | rfl | rfl | rfl <;> first | rfl | exact absurd rfl hk)
theorem tq_arr28_21 : tq_arr 28 21 := tq_arr_of (by
  unfold tq_arrD
  rw [show (tq_cids.filter (fun q => q.1 == 28)).map (fun q => q.2) = [0, 1, 2, 4, 8, 17, 18, 22, 24, 25, 26, 27, 28] by decide +kernel]
  intro r hr hk a I B f w g
  simp only [List.mem_cons, List.not_mem_nil, or_false] at hr
  rcases hr with rfl | rfl | rfl | rfl | rfl | rfl | rfl | rfl | rfl | rfl | rfl | rfl | rfl <;> first | rfl | exact absurd rfl hk)
theorem tq_arr28_23 : tq_arr 28 23 := tq_arr_of (by
  unfold tq_arrD
  rw [show (tq_cids.filter (fun q => q.1 == 28)).map (fun q => q.2) = [0, 1, 2, 4, 8, 17, 18, 22, 24, 25, 26, 27, 28] by decide +kernel]
  intro r hr hk a I B f w g
  simp only [List.mem_cons, List.not_mem_nil, or_false] at hr
  rcases hr with rfl | rfl | rfl | rfl | rfl | rfl | rfl | rfl | rfl | rfl | rfl | rfl | rfl <;> first | rfl | exact absurd rfl hk)
theorem tq_arr28_24 : tq_arr 28 24 := tq_arr_of (by
  unfold tq_arrD
  rw [show (tq_cids.filter (fun q => q.1 == 28)).map (fun q => q.2) = [0, 1, 2, 4, 8, 17, 18, 22, 24, 25, 26, 27, 28] by decide +kernel]
  intro r hr hk a I B f w g
  simp only [List.mem_cons, List.not_mem_nil, or_false] at hr
  rcases hr with rfl | rfl | rfl | rfl | rfl | rfl | rfl | rfl | rfl | rfl | rfl | rfl | rfl <;> first | rfl | exact absurd rfl hk)
theorem tq_arr28_25 : tq_arr 28 25 := tq_arr_of (by
  unfold tq_arrD
  rw [show (tq_cids.filter (fun q => q.1 == 28)).map (fun q => q.2) = [0, 1, 2, 4, 8, 17, 18, 22, 24, 25, 26, 27, 28] by decide +kernel]
  intro r hr hk a I B f w g
  simp only [List.mem_cons, List.not_mem_nil, or_false] at hr
  rcases hr with rfl | rfl | rfl | rfl | rfl | rfl | rfl | rfl | rfl | rfl | rfl | rfl | rfl <;> first | rfl | exact absurd rfl hk)
theorem tq_arr28_26 : tq_arr 28 26 := tq_arr_of (by
  unfold tq_arrD
  rw [show (tq_cids.filter (fun q => q.1 == 28)).map (fun q => q.2) = [0, 1, 2, 4, 8, 17, 18, 22, 24, 25, 26, 27, 28] by decide +kernel]
  intro r hr hk a I B f w g
  simp only [List.mem_cons, List.not_mem_nil, or_false] at hr
  rcases hr with rfl | rfl | rfl | rfl | rfl | rfl | rfl | rfl | rfl | rfl | rfl | rfl | rfl <;> first | rfl | exact absurd rfl hk)
theorem tq_arr28_27 : tq_arr 28 27 := tq_arr_of (by
  unfold tq_arrD
  rw [show (tq_cids.filter (fun q => q.1 == 28)).map (fun q => q.2) = [0, 1, 2, 4, 8, 17, 18, 22, 24, 25, 26, 27, 28] by decide +kernel]
  intro r hr hk a I B f w g
  simp only [List.mem_cons, List.not_mem_nil, or_false] at hr
  rcases hr with rfl | rfl | rfl | rfl | rfl | rfl | rfl | rfl | rfl | rfl | rfl | rfl | rfl <;> first | rfl | exact absurd rfl hk)
end
section
-- THE WORDS: those of the tables that a call hands on
def tq_tbl : List Cond := lw_tbl.filter goodWord
theorem tq_mem {w : Cond} (h : w ∈ lw_tbl) (hg : goodWord w = true) : w ∈ tq_tbl := List.mem_filter.mpr ⟨h, hg⟩
abbrev tq_ws (y : MethodName) (cc : ByteArray) (n : Nat) (ret : Option FieldType) : List Cond := Cond.code y cc n ret :: tq_tbl
abbrev tq_rm (k : Nat) : Room := { frames := k, cells := 0, slots := 0, locals := 100 * k }
-- WHAT NOBODY WRITES: the static array BRIMS, the constant texts
abbrev tq_Zl : Type := Nat × (Nat → Nat) × (Nat → Nat)
def tq_brL : List Int32 := [10, 5, 4, 20]
def tq_txL : List (Nat × String) := [(110, "plain"), (112, "soft"), (114, "sham"), (116, "dry"), (118, "room"), (119, "think"), (120, "plan")]
def tq_byt : List (List Int32) := [[112, 108, 97, 105, 110], [115, 111, 102, 116], [115, 104, 97, 109], [100, 114, 121], [114, 111, 111, 109], [116, 104, 105, 110, 107], [112, 108, 97, 110]]
def tq_len : List Nat := [5, 4, 4, 3, 4, 5, 4]
def tq_Z (z : tq_Zl) (A : Nat → Prop) (U : State) (H : Heap) : Prop :=
  va_Z "TearsQueue" "BRIMS" "[I" (.ref z.1) A U H ∧ va_T .int z.1 4 (fun j => .int (tq_brL.getD j 0)) A U H ∧ va_Nw (.fieldLinkNest RX1 72 "TearsQueue" "BRIMS" "[I" "TearsQueue") U ∧
  vk_S 7 tq_len tq_byt z.2.1 z.2.2 A U H ∧ (∀ i, i < 7 → vk_R RX5 (tq_txL.getD i (0, "")).1 (tq_txL.getD i (0, "")).2 (z.2.1 i) U) ∧ va_Z "java/lang/String" "COMPACT_STRINGS" "Z" (.int 1) A U H
theorem tq_Z.to {z : tq_Zl} {A : Nat → Prop} {s U : State} {H : Heap} {locs : List Loc} (h : tq_Z z A s s.heap) (hS : va_S A s.heap H locs) (hU : U.heap = H) (hW : s.WarmedH U.vm) : tq_Z z A U U.heap := by
  obtain ⟨h1, h2, h3, h4, h5, h6⟩ := h
  rw [hU]
  exact ⟨(h1.kept hS.2.1).moved hW.alike, (h2.kept hS.2.1).moved hW.alike, va_Nw.warmF hW h3, (h4.kept hS.2.1).moved hW.alike, fun i hi => vk_R.warm hW (h5 i hi), (h6.kept hS.2.1).moved hW.alike⟩
theorem tq_Z.blind {z : tq_Zl} {A : Nat → Prop} {U : State} (g : JFrame) (mk : MethodId) (a : Array Value) (h : tq_Z z A U U.heap) : tq_Z z A (U.calling g mk a) (U.calling g mk a).heap := by
  obtain ⟨h1, h2, h3, h4, h5, h6⟩ := h
  have hv : U.vm.Alike (U.calling g mk a).vm := Vm.Alike.refl U.vm
  exact ⟨h1.moved hv, h2.moved hv, va_Nw.same rfl rfl h3, h4.moved hv, fun i hi => vk_R.same rfl (h5 i hi), h6.moved hv⟩
-- A METHOD'S START AND END
def tq_Pre (a : tq_La) (z : tq_Zl) (A : Nat → Prop) (S : tq_St) (U : State) : Prop := va_P a.2.1 vwCl (tq_W a S) U.heap ∧ va_K a.2.1 vwCl (tq_ty a) U ∧ va_D A (tq_W a S) ∧ tq_Z z A U U.heap
def tq_Post (a : tq_La) (A : Nat → Prop) (S : tq_St) (t : State) : Prop := va_P a.2.1 vwCl (tq_W a S) t.heap ∧ va_D A (tq_W a S)
theorem tq_blind {av : List Value} {a : tq_La} {z : tq_Zl} {A : Nat → Prop} {S : tq_St} : FrameBlind (va_Pc av (tq_Pre a z A S)) := by
  intro v U g mk h
  obtain ⟨h0, h1, h2, h3, h4⟩ := h
  exact ⟨h0, h1, va_K.moved (u := U) (U := U.calling g mk v) (Vm.Alike.refl U.vm) h2, h3, h4.blind g mk v⟩
def tq_Mi (y : MethodName) (cc : ByteArray) (n : Nat) (ret : Option FieldType) (k : Nat) (av : tq_La → tq_Zl → List Value) (S : tq_St) (K : Int32 → tq_St → Prop) : Prop :=
  ∀ (l : Launch) (A : Nat → Prop) (a : tq_La) (z : tq_Zl), Met l y (tq_ws y cc n ret) (tq_rm k) (va_Pc (av a z) (tq_Pre a z A S)) (va_Qi K (tq_Post a A) A) 0 0 A
def tq_Ml (y : MethodName) (cc : ByteArray) (n : Nat) (ret : Option FieldType) (k : Nat) (av : tq_La → tq_Zl → List Value) (S : tq_St) (K : Int64 → tq_St → Prop) : Prop :=
  ∀ (l : Launch) (A : Nat → Prop) (a : tq_La) (z : tq_Zl), Met l y (tq_ws y cc n ret) (tq_rm k) (va_Pc (av a z) (tq_Pre a z A S)) (va_Ql K (tq_Post a A) A) 0 0 A
def tq_Mv (y : MethodName) (cc : ByteArray) (n : Nat) (ret : Option FieldType) (k : Nat) (av : tq_La → tq_Zl → List Value) (S : tq_St) (K : tq_St → Prop) : Prop :=
  ∀ (l : Launch) (A : Nat → Prop) (a : tq_La) (z : tq_Zl), Met l y (tq_ws y cc n ret) (tq_rm k) (va_Pc (av a z) (tq_Pre a z A S)) (va_Qv K (tq_Post a A) A) 0 0 A
/-- the answer is the i-th constant text -/
def tq_Mr (y : MethodName) (cc : ByteArray) (n : Nat) (ret : Option FieldType) (k : Nat) (av : tq_La → tq_Zl → List Value) (S : tq_St) (K : Nat → tq_St → Prop) : Prop :=
  ∀ (l : Launch) (A : Nat → Prop) (a : tq_La) (z : tq_Zl), Met l y (tq_ws y cc n ret) (tq_rm k) (va_Pc (av a z) (tq_Pre a z A S)) (va_Qr (fun u : Nat × tq_St => K u.1 u.2) (fun u q t => q = z.2.1 u.1 ∧ tq_Post a A u.2 t) A) 0 0 A
-- THE MACHINE AT A METHOD'S BODY
abbrev tq_Cx : Type := Program × Launch × Env × Room × State × MethodId × Array Value × List Frame × Method × Code × (Nat → Prop) × tq_La × tq_Zl × (State → Prop)
def tq_la (X : tq_Cx) : tq_La := X.2.2.2.2.2.2.2.2.2.2.2.1
def tq_zl (X : tq_Cx) : tq_Zl := X.2.2.2.2.2.2.2.2.2.2.2.2.1
/-- what holds at a method's body: its code, its class, its room -/
def tq_C (X : tq_Cx) (cc : ByteArray) (nL : Nat) (own : String) (k : Nat) : Prop := match X with
  | (p, _, _, R, s, m, args, _, meth, c, A, a, z, _) => p.tables.exec = Jvm.exec ∧ c.code = cc ∧ c.maxLocals = nL ∧ s.vm.findClass own = some m.cls ∧ (∀ w ∈ tq_tbl, w.before args s = true) ∧ va_K a.2.1 vwCl (tq_ty a) s ∧ tq_Z z A s s.heap ∧ R = tq_rm k ∧ meth.locks = false
/-- from here the machine comes to its end -/
def Go (X : tq_Cx) (nL : Nat) (S : tq_St) (pc : Nat) (lv : List (Nat × Value)) (st : List Value) : Prop := match X with
  | (p, l, e, R, s, m, args, below, meth, c, A, a, _, Q) => ∀ (H : Heap) (locs : List Loc) (ls : Array Slot), va_P a.2.1 vwCl (tq_W a S) H → va_D A (tq_W a S) → va_S A s.heap H locs → lv_has ls nL lv → W p l e R s m args below meth c H locs 0 0 Q (F0 m pc ls st)
-- THE ENDS
def tq_Ri (X : tq_Cx) (cc : ByteArray) (nL : Nat) (K : Int32 → tq_St → Prop) : Prop := ∀ (r : Int32) (S : tq_St) (pc : Nat) (lv : List (Nat × Value)), decode cc pc = .ok (.ireturn, 1) → K r S → Go X nL S pc lv [.int r]
def tq_Rl (X : tq_Cx) (cc : ByteArray) (nL : Nat) (K : Int64 → tq_St → Prop) : Prop := ∀ (r : Int64) (S : tq_St) (pc : Nat) (lv : List (Nat × Value)), decode cc pc = .ok (.lreturn, 1) → K r S → Go X nL S pc lv [.long r]
def tq_Rv (X : tq_Cx) (cc : ByteArray) (nL : Nat) (K : tq_St → Prop) : Prop := ∀ (S : tq_St) (pc : Nat) (lv : List (Nat × Value)), decode cc pc = .ok (.return_, 1) → K S → Go X nL S pc lv []
def tq_Rz (X : tq_Cx) (cc : ByteArray) (nL : Nat) (K : Int32 → tq_St → Prop) : Prop := ∀ (r : Int32) (S : tq_St) (pc : Nat) (lv : List (Nat × Value)), decode cc pc = .ok (.ireturn, 1) → (r = 0 ∨ r = 1) → K r S → Go X nL S pc lv [.int r]
def tq_Rr (X : tq_Cx) (cc : ByteArray) (nL : Nat) (K : Nat → tq_St → Prop) : Prop := ∀ (i : Nat) (S : tq_St) (pc : Nat) (lv : List (Nat × Value)), decode cc pc = .ok (.areturn, 1) → K i S → Go X nL S pc lv [.ref ((tq_zl X).2.1 i)]
-- A CONTRACT OUT OF A WALK
section MK
variable {y : MethodName} {cc : ByteArray} {n k : Nat} {av : tq_La → tq_Zl → List Value} {S : tq_St}
theorem tq_mk {ret : Option FieldType} (hy : plainName y.cls = true) (hlen : ∀ a z, (lg_sl (av a z)).length ≤ n) {Qc : tq_La → tq_Zl → (Nat → Prop) → Array Value → State → Outcome → State → Prop}
    (h : ∀ X : tq_Cx, tq_C X cc n y.cls k → (∃ (s : State) (args : Array Value) (below : List Frame), X.2.2.2.2.1 = s ∧ X.2.2.2.2.2.2.1 = args ∧ X.2.2.2.2.2.2.2.2.1.sig.returnType = ret ∧ X.2.2.2.2.2.2.2.2.2.2.2.2.2 = MQ below (Qc (tq_la X) (tq_zl X) X.2.2.2.2.2.2.2.2.2.2.1) args s 0 0 X.2.2.2.2.2.2.2.2.2.2.1 ∧ X.2.2.2.2.2.2.2.1 = below) → Go X n S 0 (lv_args 0 (av (tq_la X) (tq_zl X))) []) :
    ∀ (l : Launch) (A : Nat → Prop) (a : tq_La) (z : tq_Zl), Met l y (tq_ws y cc n ret) (tq_rm k) (va_Pc (av a z) (tq_Pre a z A S)) (Qc a z A) 0 0 A := by
  intro l A a z
  refine Met.ofW (cc := cc) (maxL := n) (ret := ret) hy rfl ?_
  intro p e s m args below meth c s₁ B hml hv
  obtain ⟨rfl, hP, hK, hD, hZ⟩ := hv
  have hts := atoms_spec (ws := tq_ws y cc n ret) B.pre
  have hown : s.vm.findClass y.cls = some m.cls := findClass_of_methodNamed B.named
  have hg := h (p, l, e, (headSpec (tq_ws y cc n ret) (tq_rm k)).room, s, m, (av a z).toArray, below, meth, c, A, a, z, MQ below (Qc a z A) (av a z).toArray s 0 0 A) ⟨B.exec, B.bytes, hml, hown, fun w hw => hts w (List.mem_cons_of_mem _ hw), hK, hZ, rfl, B.notSynchronized⟩ ⟨s, _, below, rfl, rfl, B.returns, rfl, rfl⟩
  have hl := lv_entry (av a z) (n := n) (hlen a z)
  rw [lg_entry_eq]
  exact hg s.heap [] _ hP hD va_S.rf hl
end MK
end
section
theorem go_iconst {X : tq_Cx} {cc : ByteArray} {nL : Nat} {own : String} {kr : Nat} {S : tq_St} {pc : Nat} {lv : List (Nat × Value)} {st : List Value} (C : tq_C X cc nL own kr) {n : Int} {v : Int32} (hv : Int32.ofInt n = v) (hd : decode cc pc = .ok (.iconst n, 1)) (g : Go X nL S (pc + 1) lv (.int v :: st)) : Go X nL S pc lv (st) := by
  obtain ⟨p, l, e, R, s, m, args, below, meth, c, A, a, z, Q⟩ := X
  exact fun H locs ls hP hD hS hl => lv_iconst C.1 C.2.1 hd hv (g H locs ls hP hD hS hl)
theorem go_bipush {X : tq_Cx} {cc : ByteArray} {nL : Nat} {own : String} {kr : Nat} {S : tq_St} {pc : Nat} {lv : List (Nat × Value)} {st : List Value} (C : tq_C X cc nL own kr) {n : Int} {v : Int32} (hv : (Int8.ofInt n).toInt32 = v) (hd : decode cc pc = .ok (.bipush n, 2)) (g : Go X nL S (pc + 2) lv (.int v :: st)) : Go X nL S pc lv (st) := by
  obtain ⟨p, l, e, R, s, m, args, below, meth, c, A, a, z, Q⟩ := X
  exact fun H locs ls hP hD hS hl => lv_bipush C.1 C.2.1 hd hv (g H locs ls hP hD hS hl)
theorem go_sipush {X : tq_Cx} {cc : ByteArray} {nL : Nat} {own : String} {kr : Nat} {S : tq_St} {pc : Nat} {lv : List (Nat × Value)} {st : List Value} (C : tq_C X cc nL own kr) {n : Int} {v : Int32} (hv : (Int16.ofInt n).toInt32 = v) (hd : decode cc pc = .ok (.sipush n, 3)) (g : Go X nL S (pc + 3) lv (.int v :: st)) : Go X nL S pc lv (st) := by
  obtain ⟨p, l, e, R, s, m, args, below, meth, c, A, a, z, Q⟩ := X
  exact fun H locs ls hP hD hS hl => lv_sipush C.1 C.2.1 hd hv (g H locs ls hP hD hS hl)
theorem go_lconst {X : tq_Cx} {cc : ByteArray} {nL : Nat} {own : String} {kr : Nat} {S : tq_St} {pc : Nat} {lv : List (Nat × Value)} {st : List Value} (C : tq_C X cc nL own kr) {n : Fin 2} {v : Int64} (hv : Int64.ofNat n = v) (hd : decode cc pc = .ok (.lconst n, 1)) (g : Go X nL S (pc + 1) lv (.long v :: st)) : Go X nL S pc lv (st) := by
  obtain ⟨p, l, e, R, s, m, args, below, meth, c, A, a, z, Q⟩ := X
  exact fun H locs ls hP hD hS hl => lv_lconst C.1 C.2.1 hd hv (g H locs ls hP hD hS hl)
theorem go_iadd {X : tq_Cx} {cc : ByteArray} {nL : Nat} {own : String} {kr : Nat} {S : tq_St} {pc : Nat} {lv : List (Nat × Value)} {st : List Value} (C : tq_C X cc nL own kr) {x y : Int32} (hd : decode cc pc = .ok (.iadd, 1)) (g : Go X nL S (pc + 1) lv (.int (x + y) :: st)) : Go X nL S pc lv (.int y :: .int x :: st) := by
  obtain ⟨p, l, e, R, s, m, args, below, meth, c, A, a, z, Q⟩ := X
  exact fun H locs ls hP hD hS hl => lv_iadd C.1 C.2.1 hd (g H locs ls hP hD hS hl)
theorem go_isub {X : tq_Cx} {cc : ByteArray} {nL : Nat} {own : String} {kr : Nat} {S : tq_St} {pc : Nat} {lv : List (Nat × Value)} {st : List Value} (C : tq_C X cc nL own kr) {x y : Int32} (hd : decode cc pc = .ok (.isub, 1)) (g : Go X nL S (pc + 1) lv (.int (x - y) :: st)) : Go X nL S pc lv (.int y :: .int x :: st) := by
  obtain ⟨p, l, e, R, s, m, args, below, meth, c, A, a, z, Q⟩ := X
  exact fun H locs ls hP hD hS hl => lv_isub C.1 C.2.1 hd (g H locs ls hP hD hS hl)
theorem go_imul {X : tq_Cx} {cc : ByteArray} {nL : Nat} {own : String} {kr : Nat} {S : tq_St} {pc : Nat} {lv : List (Nat × Value)} {st : List Value} (C : tq_C X cc nL own kr) {x y : Int32} (hd : decode cc pc = .ok (.imul, 1)) (g : Go X nL S (pc + 1) lv (.int (x * y) :: st)) : Go X nL S pc lv (.int y :: .int x :: st) := by
  obtain ⟨p, l, e, R, s, m, args, below, meth, c, A, a, z, Q⟩ := X
  exact fun H locs ls hP hD hS hl => lv_imul C.1 C.2.1 hd (g H locs ls hP hD hS hl)
theorem go_iand {X : tq_Cx} {cc : ByteArray} {nL : Nat} {own : String} {kr : Nat} {S : tq_St} {pc : Nat} {lv : List (Nat × Value)} {st : List Value} (C : tq_C X cc nL own kr) {x y : Int32} (hd : decode cc pc = .ok (.iand, 1)) (g : Go X nL S (pc + 1) lv (.int (x &&& y) :: st)) : Go X nL S pc lv (.int y :: .int x :: st) := by
  obtain ⟨p, l, e, R, s, m, args, below, meth, c, A, a, z, Q⟩ := X
  exact fun H locs ls hP hD hS hl => lv_iand C.1 C.2.1 hd (g H locs ls hP hD hS hl)
theorem go_ior {X : tq_Cx} {cc : ByteArray} {nL : Nat} {own : String} {kr : Nat} {S : tq_St} {pc : Nat} {lv : List (Nat × Value)} {st : List Value} (C : tq_C X cc nL own kr) {x y : Int32} (hd : decode cc pc = .ok (.ior, 1)) (g : Go X nL S (pc + 1) lv (.int (x ||| y) :: st)) : Go X nL S pc lv (.int y :: .int x :: st) := by
  obtain ⟨p, l, e, R, s, m, args, below, meth, c, A, a, z, Q⟩ := X
  exact fun H locs ls hP hD hS hl => lv_ior C.1 C.2.1 hd (g H locs ls hP hD hS hl)
theorem go_ixor {X : tq_Cx} {cc : ByteArray} {nL : Nat} {own : String} {kr : Nat} {S : tq_St} {pc : Nat} {lv : List (Nat × Value)} {st : List Value} (C : tq_C X cc nL own kr) {x y : Int32} (hd : decode cc pc = .ok (.ixor, 1)) (g : Go X nL S (pc + 1) lv (.int (x ^^^ y) :: st)) : Go X nL S pc lv (.int y :: .int x :: st) := by
  obtain ⟨p, l, e, R, s, m, args, below, meth, c, A, a, z, Q⟩ := X
  exact fun H locs ls hP hD hS hl => lv_ixor C.1 C.2.1 hd (g H locs ls hP hD hS hl)
theorem go_ishl {X : tq_Cx} {cc : ByteArray} {nL : Nat} {own : String} {kr : Nat} {S : tq_St} {pc : Nat} {lv : List (Nat × Value)} {st : List Value} (C : tq_C X cc nL own kr) {x y : Int32} (hd : decode cc pc = .ok (.ishl, 1)) (g : Go X nL S (pc + 1) lv (.int (x <<< (y &&& 31)) :: st)) : Go X nL S pc lv (.int y :: .int x :: st) := by
  obtain ⟨p, l, e, R, s, m, args, below, meth, c, A, a, z, Q⟩ := X
  exact fun H locs ls hP hD hS hl => lv_ishl C.1 C.2.1 hd (g H locs ls hP hD hS hl)
theorem go_ishr {X : tq_Cx} {cc : ByteArray} {nL : Nat} {own : String} {kr : Nat} {S : tq_St} {pc : Nat} {lv : List (Nat × Value)} {st : List Value} (C : tq_C X cc nL own kr) {x y : Int32} (hd : decode cc pc = .ok (.ishr, 1)) (g : Go X nL S (pc + 1) lv (.int (x >>> (y &&& 31)) :: st)) : Go X nL S pc lv (.int y :: .int x :: st) := by
  obtain ⟨p, l, e, R, s, m, args, below, meth, c, A, a, z, Q⟩ := X
  exact fun H locs ls hP hD hS hl => lv_ishr C.1 C.2.1 hd (g H locs ls hP hD hS hl)
theorem go_iushr {X : tq_Cx} {cc : ByteArray} {nL : Nat} {own : String} {kr : Nat} {S : tq_St} {pc : Nat} {lv : List (Nat × Value)} {st : List Value} (C : tq_C X cc nL own kr) {x y : Int32} (hd : decode cc pc = .ok (.iushr, 1)) (g : Go X nL S (pc + 1) lv (.int ((x.toUInt32 >>> (y.toUInt32 &&& Int32.toUInt32 31)).toInt32) :: st)) : Go X nL S pc lv (.int y :: .int x :: st) := by
  obtain ⟨p, l, e, R, s, m, args, below, meth, c, A, a, z, Q⟩ := X
  exact fun H locs ls hP hD hS hl => lv_iushr C.1 C.2.1 hd rfl (g H locs ls hP hD hS hl)
theorem go_idiv {X : tq_Cx} {cc : ByteArray} {nL : Nat} {own : String} {kr : Nat} {S : tq_St} {pc : Nat} {lv : List (Nat × Value)} {st : List Value} (C : tq_C X cc nL own kr) {x y : Int32} (hy : ¬ y = 0) (hd : decode cc pc = .ok (.idiv, 1)) (g : Go X nL S (pc + 1) lv (.int (x / y) :: st)) : Go X nL S pc lv (.int y :: .int x :: st) := by
  obtain ⟨p, l, e, R, s, m, args, below, meth, c, A, a, z, Q⟩ := X
  exact fun H locs ls hP hD hS hl => lv_idiv C.1 C.2.1 hd hy (g H locs ls hP hD hS hl)
theorem go_irem {X : tq_Cx} {cc : ByteArray} {nL : Nat} {own : String} {kr : Nat} {S : tq_St} {pc : Nat} {lv : List (Nat × Value)} {st : List Value} (C : tq_C X cc nL own kr) {x y : Int32} (hy : ¬ y = 0) (hd : decode cc pc = .ok (.irem, 1)) (g : Go X nL S (pc + 1) lv (.int (x - x / y * y) :: st)) : Go X nL S pc lv (.int y :: .int x :: st) := by
  obtain ⟨p, l, e, R, s, m, args, below, meth, c, A, a, z, Q⟩ := X
  exact fun H locs ls hP hD hS hl => lv_irem C.1 C.2.1 hd hy (g H locs ls hP hD hS hl)
theorem go_ladd {X : tq_Cx} {cc : ByteArray} {nL : Nat} {own : String} {kr : Nat} {S : tq_St} {pc : Nat} {lv : List (Nat × Value)} {st : List Value} (C : tq_C X cc nL own kr) {x y : Int64} (hd : decode cc pc = .ok (.ladd, 1)) (g : Go X nL S (pc + 1) lv (.long (x + y) :: st)) : Go X nL S pc lv (.long y :: .long x :: st) := by
  obtain ⟨p, l, e, R, s, m, args, below, meth, c, A, a, z, Q⟩ := X
  exact fun H locs ls hP hD hS hl => lv_ladd C.1 C.2.1 hd (g H locs ls hP hD hS hl)
theorem go_lmul {X : tq_Cx} {cc : ByteArray} {nL : Nat} {own : String} {kr : Nat} {S : tq_St} {pc : Nat} {lv : List (Nat × Value)} {st : List Value} (C : tq_C X cc nL own kr) {x y : Int64} (hd : decode cc pc = .ok (.lmul, 1)) (g : Go X nL S (pc + 1) lv (.long (x * y) :: st)) : Go X nL S pc lv (.long y :: .long x :: st) := by
  obtain ⟨p, l, e, R, s, m, args, below, meth, c, A, a, z, Q⟩ := X
  exact fun H locs ls hP hD hS hl => lv_lmul C.1 C.2.1 hd (g H locs ls hP hD hS hl)
theorem go_ldiv {X : tq_Cx} {cc : ByteArray} {nL : Nat} {own : String} {kr : Nat} {S : tq_St} {pc : Nat} {lv : List (Nat × Value)} {st : List Value} (C : tq_C X cc nL own kr) {x y : Int64} (hy : ¬ y = 0) (hd : decode cc pc = .ok (.ldiv, 1)) (g : Go X nL S (pc + 1) lv (.long (x / y) :: st)) : Go X nL S pc lv (.long y :: .long x :: st) := by
  obtain ⟨p, l, e, R, s, m, args, below, meth, c, A, a, z, Q⟩ := X
  exact fun H locs ls hP hD hS hl => lv_ldiv C.1 C.2.1 hd hy (g H locs ls hP hD hS hl)
theorem go_lrem {X : tq_Cx} {cc : ByteArray} {nL : Nat} {own : String} {kr : Nat} {S : tq_St} {pc : Nat} {lv : List (Nat × Value)} {st : List Value} (C : tq_C X cc nL own kr) {x y : Int64} (hy : ¬ y = 0) (hd : decode cc pc = .ok (.lrem, 1)) (g : Go X nL S (pc + 1) lv (.long (x - x / y * y) :: st)) : Go X nL S pc lv (.long y :: .long x :: st) := by
  obtain ⟨p, l, e, R, s, m, args, below, meth, c, A, a, z, Q⟩ := X
  exact fun H locs ls hP hD hS hl => lv_lrem C.1 C.2.1 hd hy (g H locs ls hP hD hS hl)
theorem go_i2l {X : tq_Cx} {cc : ByteArray} {nL : Nat} {own : String} {kr : Nat} {S : tq_St} {pc : Nat} {lv : List (Nat × Value)} {st : List Value} (C : tq_C X cc nL own kr) {x : Int32} (hd : decode cc pc = .ok (.i2l, 1)) (g : Go X nL S (pc + 1) lv (.long x.toInt64 :: st)) : Go X nL S pc lv (.int x :: st) := by
  obtain ⟨p, l, e, R, s, m, args, below, meth, c, A, a, z, Q⟩ := X
  exact fun H locs ls hP hD hS hl => lv_i2l C.1 C.2.1 hd rfl (g H locs ls hP hD hS hl)
theorem go_i2b {X : tq_Cx} {cc : ByteArray} {nL : Nat} {own : String} {kr : Nat} {S : tq_St} {pc : Nat} {lv : List (Nat × Value)} {st : List Value} (C : tq_C X cc nL own kr) {x : Int32} (hd : decode cc pc = .ok (.i2b, 1)) (g : Go X nL S (pc + 1) lv (.int x.toInt8.toInt32 :: st)) : Go X nL S pc lv (.int x :: st) := by
  obtain ⟨p, l, e, R, s, m, args, below, meth, c, A, a, z, Q⟩ := X
  exact fun H locs ls hP hD hS hl => lv_i2b C.1 C.2.1 hd rfl (g H locs ls hP hD hS hl)
theorem go_i2s {X : tq_Cx} {cc : ByteArray} {nL : Nat} {own : String} {kr : Nat} {S : tq_St} {pc : Nat} {lv : List (Nat × Value)} {st : List Value} (C : tq_C X cc nL own kr) {x : Int32} (hd : decode cc pc = .ok (.i2s, 1)) (g : Go X nL S (pc + 1) lv (.int x.toInt16.toInt32 :: st)) : Go X nL S pc lv (.int x :: st) := by
  obtain ⟨p, l, e, R, s, m, args, below, meth, c, A, a, z, Q⟩ := X
  exact fun H locs ls hP hD hS hl => lv_i2s C.1 C.2.1 hd rfl (g H locs ls hP hD hS hl)
theorem go_lcmp {X : tq_Cx} {cc : ByteArray} {nL : Nat} {own : String} {kr : Nat} {S : tq_St} {pc : Nat} {lv : List (Nat × Value)} {st : List Value} (C : tq_C X cc nL own kr) {x y : Int64} (hd : decode cc pc = .ok (.lcmp, 1)) (g : Go X nL S (pc + 1) lv (.int (lg_cmp x y) :: st)) : Go X nL S pc lv (.long y :: .long x :: st) := by
  obtain ⟨p, l, e, R, s, m, args, below, meth, c, A, a, z, Q⟩ := X
  exact fun H locs ls hP hD hS hl => W.lcmp C.1 C.2.1 hd (g H locs ls hP hD hS hl)
theorem go_dup {X : tq_Cx} {cc : ByteArray} {nL : Nat} {own : String} {kr : Nat} {S : tq_St} {pc : Nat} {lv : List (Nat × Value)} {st : List Value} (C : tq_C X cc nL own kr) {v : Value} (hv : v.category = 1) (hd : decode cc pc = .ok (.dup, 1)) (g : Go X nL S (pc + 1) lv (v :: v :: st)) : Go X nL S pc lv (v :: st) := by
  obtain ⟨p, l, e, R, s, m, args, below, meth, c, A, a, z, Q⟩ := X
  exact fun H locs ls hP hD hS hl => lv_dup C.1 C.2.1 hd hv (g H locs ls hP hD hS hl)
theorem go_pop {X : tq_Cx} {cc : ByteArray} {nL : Nat} {own : String} {kr : Nat} {S : tq_St} {pc : Nat} {lv : List (Nat × Value)} {st : List Value} (C : tq_C X cc nL own kr) {v : Value} (hv : v.category = 1) (hd : decode cc pc = .ok (.pop, 1)) (g : Go X nL S (pc + 1) lv (st)) : Go X nL S pc lv (v :: st) := by
  obtain ⟨p, l, e, R, s, m, args, below, meth, c, A, a, z, Q⟩ := X
  exact fun H locs ls hP hD hS hl => lv_pop C.1 C.2.1 hd hv (g H locs ls hP hD hS hl)
theorem go_pop2 {X : tq_Cx} {cc : ByteArray} {nL : Nat} {own : String} {kr : Nat} {S : tq_St} {pc : Nat} {lv : List (Nat × Value)} {st : List Value} (C : tq_C X cc nL own kr) {v : Value} (hv : v.category = 2) (hd : decode cc pc = .ok (.pop2, 1)) (g : Go X nL S (pc + 1) lv (st)) : Go X nL S pc lv (v :: st) := by
  obtain ⟨p, l, e, R, s, m, args, below, meth, c, A, a, z, Q⟩ := X
  exact fun H locs ls hP hD hS hl => lv_pop2_2 C.1 C.2.1 hd hv (g H locs ls hP hD hS hl)
theorem go_dup2 {X : tq_Cx} {cc : ByteArray} {nL : Nat} {own : String} {kr : Nat} {S : tq_St} {pc : Nat} {lv : List (Nat × Value)} {st : List Value} (C : tq_C X cc nL own kr) {v u : Value} (hv : v.category = 1) (hu : u.category = 1) (hd : decode cc pc = .ok (.dup2, 1)) (g : Go X nL S (pc + 1) lv (v :: u :: v :: u :: st)) : Go X nL S pc lv (v :: u :: st) := by
  obtain ⟨p, l, e, R, s, m, args, below, meth, c, A, a, z, Q⟩ := X
  exact fun H locs ls hP hD hS hl => lv_dup2_11 C.1 C.2.1 hd hv hu (g H locs ls hP hD hS hl)
theorem go_iload_n {X : tq_Cx} {cc : ByteArray} {nL : Nat} {own : String} {kr : Nat} {S : tq_St} {pc : Nat} {lv : List (Nat × Value)} {st : List Value} (C : tq_C X cc nL own kr) {q : Fin 4} {i : Nat} {x : Int32} (j : Nat) (hi : (q : Nat) = i) (hj : lv[j]? = some (i, .int x)) (hd : decode cc pc = .ok (.iload_n q, 1)) (g : Go X nL S (pc + 1) lv (.int x :: st)) : Go X nL S pc lv (st) := by
  obtain ⟨p, l, e, R, s, m, args, below, meth, c, A, a, z, Q⟩ := X
  exact fun H locs ls hP hD hS hl => lv_iload_n C.1 C.2.1 hd hi (lv_at hl j hj) (g H locs ls hP hD hS hl)
theorem go_iload {X : tq_Cx} {cc : ByteArray} {nL : Nat} {own : String} {kr : Nat} {S : tq_St} {pc : Nat} {lv : List (Nat × Value)} {st : List Value} (C : tq_C X cc nL own kr) {i : Nat} {x : Int32} (j : Nat) (hj : lv[j]? = some (i, .int x)) (hd : decode cc pc = .ok (.iload i, 2)) (g : Go X nL S (pc + 2) lv (.int x :: st)) : Go X nL S pc lv (st) := by
  obtain ⟨p, l, e, R, s, m, args, below, meth, c, A, a, z, Q⟩ := X
  exact fun H locs ls hP hD hS hl => lv_iload C.1 C.2.1 hd (lv_at hl j hj) (g H locs ls hP hD hS hl)
theorem go_lload_n {X : tq_Cx} {cc : ByteArray} {nL : Nat} {own : String} {kr : Nat} {S : tq_St} {pc : Nat} {lv : List (Nat × Value)} {st : List Value} (C : tq_C X cc nL own kr) {q : Fin 4} {i : Nat} {x : Int64} (j : Nat) (hi : (q : Nat) = i) (hj : lv[j]? = some (i, .long x)) (hd : decode cc pc = .ok (.lload_n q, 1)) (g : Go X nL S (pc + 1) lv (.long x :: st)) : Go X nL S pc lv (st) := by
  obtain ⟨p, l, e, R, s, m, args, below, meth, c, A, a, z, Q⟩ := X
  exact fun H locs ls hP hD hS hl => lv_lload_n C.1 C.2.1 hd hi (lv_at hl j hj) (g H locs ls hP hD hS hl)
theorem go_lload {X : tq_Cx} {cc : ByteArray} {nL : Nat} {own : String} {kr : Nat} {S : tq_St} {pc : Nat} {lv : List (Nat × Value)} {st : List Value} (C : tq_C X cc nL own kr) {i : Nat} {x : Int64} (j : Nat) (hj : lv[j]? = some (i, .long x)) (hd : decode cc pc = .ok (.lload i, 2)) (g : Go X nL S (pc + 2) lv (.long x :: st)) : Go X nL S pc lv (st) := by
  obtain ⟨p, l, e, R, s, m, args, below, meth, c, A, a, z, Q⟩ := X
  exact fun H locs ls hP hD hS hl => lv_lload C.1 C.2.1 hd (lv_at hl j hj) (g H locs ls hP hD hS hl)
theorem go_aload_n {X : tq_Cx} {cc : ByteArray} {nL : Nat} {own : String} {kr : Nat} {S : tq_St} {pc : Nat} {lv : List (Nat × Value)} {st : List Value} (C : tq_C X cc nL own kr) {q : Fin 4} {i : Nat} {x : Nat} (j : Nat) (hi : (q : Nat) = i) (hj : lv[j]? = some (i, .ref x)) (hd : decode cc pc = .ok (.aload_n q, 1)) (g : Go X nL S (pc + 1) lv (.ref x :: st)) : Go X nL S pc lv (st) := by
  obtain ⟨p, l, e, R, s, m, args, below, meth, c, A, a, z, Q⟩ := X
  exact fun H locs ls hP hD hS hl => lv_aload_n C.1 C.2.1 hd hi (lv_at hl j hj) (g H locs ls hP hD hS hl)
theorem go_aload {X : tq_Cx} {cc : ByteArray} {nL : Nat} {own : String} {kr : Nat} {S : tq_St} {pc : Nat} {lv : List (Nat × Value)} {st : List Value} (C : tq_C X cc nL own kr) {i : Nat} {x : Nat} (j : Nat) (hj : lv[j]? = some (i, .ref x)) (hd : decode cc pc = .ok (.aload i, 2)) (g : Go X nL S (pc + 2) lv (.ref x :: st)) : Go X nL S pc lv (st) := by
  obtain ⟨p, l, e, R, s, m, args, below, meth, c, A, a, z, Q⟩ := X
  exact fun H locs ls hP hD hS hl => lv_aload C.1 C.2.1 hd (lv_at hl j hj) (g H locs ls hP hD hS hl)
theorem go_istore_n {X : tq_Cx} {cc : ByteArray} {nL : Nat} {own : String} {kr : Nat} {S : tq_St} {pc : Nat} {lv : List (Nat × Value)} {st : List Value} (C : tq_C X cc nL own kr) {q : Fin 4} {i : Nat} {x : Int32} (lv' : List (Nat × Value)) (hi : (q : Nat) = i) (hn : i < nL) (hl' : (i, Value.int x) :: lv.filter (fun q => !(q.1 == i) && !(q.1 + 1 == i && q.2.category == 2)) = lv') (hd : decode cc pc = .ok (.istore_n q, 1)) (g : Go X nL S (pc + 1) lv' st) : Go X nL S pc lv (.int x :: st) := by
  obtain ⟨p, l, e, R, s, m, args, below, meth, c, A, a, z, Q⟩ := X
  exact fun H locs ls hP hD hS hl => lv_istore_n C.1 C.2.1 hd hi hl hn hl' (fun ls' hl2 => g H locs ls' hP hD hS hl2)
theorem go_istore {X : tq_Cx} {cc : ByteArray} {nL : Nat} {own : String} {kr : Nat} {S : tq_St} {pc : Nat} {lv : List (Nat × Value)} {st : List Value} (C : tq_C X cc nL own kr) {i : Nat} {x : Int32} (lv' : List (Nat × Value)) (hn : i < nL) (hl' : (i, Value.int x) :: lv.filter (fun q => !(q.1 == i) && !(q.1 + 1 == i && q.2.category == 2)) = lv') (hd : decode cc pc = .ok (.istore i, 2)) (g : Go X nL S (pc + 2) lv' st) : Go X nL S pc lv (.int x :: st) := by
  obtain ⟨p, l, e, R, s, m, args, below, meth, c, A, a, z, Q⟩ := X
  exact fun H locs ls hP hD hS hl => lv_istore C.1 C.2.1 hd hl hn hl' (fun ls' hl2 => g H locs ls' hP hD hS hl2)
theorem go_lstore_n {X : tq_Cx} {cc : ByteArray} {nL : Nat} {own : String} {kr : Nat} {S : tq_St} {pc : Nat} {lv : List (Nat × Value)} {st : List Value} (C : tq_C X cc nL own kr) {q : Fin 4} {i : Nat} {x : Int64} (lv' : List (Nat × Value)) (hi : (q : Nat) = i) (hn : i + 1 < nL) (hl' : (i, Value.long x) :: lv.filter (fun q => !(q.1 == i) && (!(q.1 == i + 1) && !(q.1 + 1 == i && q.2.category == 2))) = lv') (hd : decode cc pc = .ok (.lstore_n q, 1)) (g : Go X nL S (pc + 1) lv' st) : Go X nL S pc lv (.long x :: st) := by
  obtain ⟨p, l, e, R, s, m, args, below, meth, c, A, a, z, Q⟩ := X
  exact fun H locs ls hP hD hS hl => lv_lstore_n C.1 C.2.1 hd hi hl hn hl' (fun ls' hl2 => g H locs ls' hP hD hS hl2)
theorem go_lstore {X : tq_Cx} {cc : ByteArray} {nL : Nat} {own : String} {kr : Nat} {S : tq_St} {pc : Nat} {lv : List (Nat × Value)} {st : List Value} (C : tq_C X cc nL own kr) {i : Nat} {x : Int64} (lv' : List (Nat × Value)) (hn : i + 1 < nL) (hl' : (i, Value.long x) :: lv.filter (fun q => !(q.1 == i) && (!(q.1 == i + 1) && !(q.1 + 1 == i && q.2.category == 2))) = lv') (hd : decode cc pc = .ok (.lstore i, 2)) (g : Go X nL S (pc + 2) lv' st) : Go X nL S pc lv (.long x :: st) := by
  obtain ⟨p, l, e, R, s, m, args, below, meth, c, A, a, z, Q⟩ := X
  exact fun H locs ls hP hD hS hl => lv_lstore C.1 C.2.1 hd hl hn hl' (fun ls' hl2 => g H locs ls' hP hD hS hl2)
theorem go_astore_n {X : tq_Cx} {cc : ByteArray} {nL : Nat} {own : String} {kr : Nat} {S : tq_St} {pc : Nat} {lv : List (Nat × Value)} {st : List Value} (C : tq_C X cc nL own kr) {q : Fin 4} {i : Nat} {x : Nat} (lv' : List (Nat × Value)) (hi : (q : Nat) = i) (hn : i < nL) (hl' : (i, Value.ref x) :: lv.filter (fun q => !(q.1 == i) && !(q.1 + 1 == i && q.2.category == 2)) = lv') (hd : decode cc pc = .ok (.astore_n q, 1)) (g : Go X nL S (pc + 1) lv' st) : Go X nL S pc lv (.ref x :: st) := by
  obtain ⟨p, l, e, R, s, m, args, below, meth, c, A, a, z, Q⟩ := X
  exact fun H locs ls hP hD hS hl => lv_astore_n C.1 C.2.1 hd hi hl hn hl' (fun ls' hl2 => g H locs ls' hP hD hS hl2)
theorem go_astore {X : tq_Cx} {cc : ByteArray} {nL : Nat} {own : String} {kr : Nat} {S : tq_St} {pc : Nat} {lv : List (Nat × Value)} {st : List Value} (C : tq_C X cc nL own kr) {i : Nat} {x : Nat} (lv' : List (Nat × Value)) (hn : i < nL) (hl' : (i, Value.ref x) :: lv.filter (fun q => !(q.1 == i) && !(q.1 + 1 == i && q.2.category == 2)) = lv') (hd : decode cc pc = .ok (.astore i, 2)) (g : Go X nL S (pc + 2) lv' st) : Go X nL S pc lv (.ref x :: st) := by
  obtain ⟨p, l, e, R, s, m, args, below, meth, c, A, a, z, Q⟩ := X
  exact fun H locs ls hP hD hS hl => lv_astore C.1 C.2.1 hd hl hn hl' (fun ls' hl2 => g H locs ls' hP hD hS hl2)
theorem go_iinc {X : tq_Cx} {cc : ByteArray} {nL : Nat} {own : String} {kr : Nat} {S : tq_St} {pc : Nat} {lv : List (Nat × Value)} {st : List Value} (C : tq_C X cc nL own kr) {i j : Nat} {n : Int} {x v : Int32} (lv' : List (Nat × Value)) (hj : lv[j]? = some (i, .int x)) (hv : x + Int32.ofInt n = v) (hn : i < nL) (hl' : (i, Value.int v) :: lv.filter (fun q => !(q.1 == i) && !(q.1 + 1 == i && q.2.category == 2)) = lv') (hd : decode cc pc = .ok (.iinc i n, 3)) (g : Go X nL S (pc + 3) lv' st) : Go X nL S pc lv st := by
  obtain ⟨p, l, e, R, s, m, args, below, meth, c, A, a, z, Q⟩ := X
  exact fun H locs ls hP hD hS hl => lv_iinc C.1 C.2.1 hd hl hj hv hn hl' (fun ls' hl2 => g H locs ls' hP hD hS hl2)
theorem go_if_eq {X : tq_Cx} {cc : ByteArray} {nL : Nat} {own : String} {kr : Nat} {S : tq_St} {pc : Nat} {lv : List (Nat × Value)} {st : List Value} (C : tq_C X cc nL own kr) {x : Int32} {off : Int} (tgt : Nat) (ht : (pc : Int) + off = (tgt : Int)) (hd : decode cc pc = .ok (.ifCond .eq off, 3)) (g1 : x = 0 → Go X nL S tgt lv st) (g2 : ¬ x = 0 → Go X nL S (pc + 3) lv st) : Go X nL S pc lv (.int x :: st) := by
  obtain ⟨p, l, e, R, s, m, args, below, meth, c, A, a, z, Q⟩ := X
  exact fun H locs ls hP hD hS hl => lv_if_eq C.1 C.2.1 hd ht (fun h => g1 h H locs ls hP hD hS hl) (fun h => g2 h H locs ls hP hD hS hl)
theorem go_if_ne {X : tq_Cx} {cc : ByteArray} {nL : Nat} {own : String} {kr : Nat} {S : tq_St} {pc : Nat} {lv : List (Nat × Value)} {st : List Value} (C : tq_C X cc nL own kr) {x : Int32} {off : Int} (tgt : Nat) (ht : (pc : Int) + off = (tgt : Int)) (hd : decode cc pc = .ok (.ifCond .ne off, 3)) (g1 : ¬ x = 0 → Go X nL S tgt lv st) (g2 : x = 0 → Go X nL S (pc + 3) lv st) : Go X nL S pc lv (.int x :: st) := by
  obtain ⟨p, l, e, R, s, m, args, below, meth, c, A, a, z, Q⟩ := X
  exact fun H locs ls hP hD hS hl => lv_if_ne C.1 C.2.1 hd ht (fun h => g1 h H locs ls hP hD hS hl) (fun h => g2 h H locs ls hP hD hS hl)
theorem go_if_lt {X : tq_Cx} {cc : ByteArray} {nL : Nat} {own : String} {kr : Nat} {S : tq_St} {pc : Nat} {lv : List (Nat × Value)} {st : List Value} (C : tq_C X cc nL own kr) {x : Int32} {off : Int} (tgt : Nat) (ht : (pc : Int) + off = (tgt : Int)) (hd : decode cc pc = .ok (.ifCond .lt off, 3)) (g1 : x < 0 → Go X nL S tgt lv st) (g2 : ¬ x < 0 → Go X nL S (pc + 3) lv st) : Go X nL S pc lv (.int x :: st) := by
  obtain ⟨p, l, e, R, s, m, args, below, meth, c, A, a, z, Q⟩ := X
  exact fun H locs ls hP hD hS hl => lv_if_lt C.1 C.2.1 hd ht (fun h => g1 h H locs ls hP hD hS hl) (fun h => g2 h H locs ls hP hD hS hl)
theorem go_if_ge {X : tq_Cx} {cc : ByteArray} {nL : Nat} {own : String} {kr : Nat} {S : tq_St} {pc : Nat} {lv : List (Nat × Value)} {st : List Value} (C : tq_C X cc nL own kr) {x : Int32} {off : Int} (tgt : Nat) (ht : (pc : Int) + off = (tgt : Int)) (hd : decode cc pc = .ok (.ifCond .ge off, 3)) (g1 : 0 ≤ x → Go X nL S tgt lv st) (g2 : ¬ 0 ≤ x → Go X nL S (pc + 3) lv st) : Go X nL S pc lv (.int x :: st) := by
  obtain ⟨p, l, e, R, s, m, args, below, meth, c, A, a, z, Q⟩ := X
  exact fun H locs ls hP hD hS hl => lv_if_ge C.1 C.2.1 hd ht (fun h => g1 h H locs ls hP hD hS hl) (fun h => g2 h H locs ls hP hD hS hl)
theorem go_if_gt {X : tq_Cx} {cc : ByteArray} {nL : Nat} {own : String} {kr : Nat} {S : tq_St} {pc : Nat} {lv : List (Nat × Value)} {st : List Value} (C : tq_C X cc nL own kr) {x : Int32} {off : Int} (tgt : Nat) (ht : (pc : Int) + off = (tgt : Int)) (hd : decode cc pc = .ok (.ifCond .gt off, 3)) (g1 : 0 < x → Go X nL S tgt lv st) (g2 : ¬ 0 < x → Go X nL S (pc + 3) lv st) : Go X nL S pc lv (.int x :: st) := by
  obtain ⟨p, l, e, R, s, m, args, below, meth, c, A, a, z, Q⟩ := X
  exact fun H locs ls hP hD hS hl => lv_if_gt C.1 C.2.1 hd ht (fun h => g1 h H locs ls hP hD hS hl) (fun h => g2 h H locs ls hP hD hS hl)
theorem go_if_le {X : tq_Cx} {cc : ByteArray} {nL : Nat} {own : String} {kr : Nat} {S : tq_St} {pc : Nat} {lv : List (Nat × Value)} {st : List Value} (C : tq_C X cc nL own kr) {x : Int32} {off : Int} (tgt : Nat) (ht : (pc : Int) + off = (tgt : Int)) (hd : decode cc pc = .ok (.ifCond .le off, 3)) (g1 : x ≤ 0 → Go X nL S tgt lv st) (g2 : ¬ x ≤ 0 → Go X nL S (pc + 3) lv st) : Go X nL S pc lv (.int x :: st) := by
  obtain ⟨p, l, e, R, s, m, args, below, meth, c, A, a, z, Q⟩ := X
  exact fun H locs ls hP hD hS hl => lv_if_le C.1 C.2.1 hd ht (fun h => g1 h H locs ls hP hD hS hl) (fun h => g2 h H locs ls hP hD hS hl)
theorem go_ic_eq {X : tq_Cx} {cc : ByteArray} {nL : Nat} {own : String} {kr : Nat} {S : tq_St} {pc : Nat} {lv : List (Nat × Value)} {st : List Value} (C : tq_C X cc nL own kr) {x y : Int32} {off : Int} (tgt : Nat) (ht : (pc : Int) + off = (tgt : Int)) (hd : decode cc pc = .ok (.if_icmp .eq off, 3)) (g1 : x = y → Go X nL S tgt lv st) (g2 : ¬ x = y → Go X nL S (pc + 3) lv st) : Go X nL S pc lv (.int y :: .int x :: st) := by
  obtain ⟨p, l, e, R, s, m, args, below, meth, c, A, a, z, Q⟩ := X
  exact fun H locs ls hP hD hS hl => lv_icmp_eq C.1 C.2.1 hd ht (fun h => g1 h H locs ls hP hD hS hl) (fun h => g2 h H locs ls hP hD hS hl)
theorem go_ic_ne {X : tq_Cx} {cc : ByteArray} {nL : Nat} {own : String} {kr : Nat} {S : tq_St} {pc : Nat} {lv : List (Nat × Value)} {st : List Value} (C : tq_C X cc nL own kr) {x y : Int32} {off : Int} (tgt : Nat) (ht : (pc : Int) + off = (tgt : Int)) (hd : decode cc pc = .ok (.if_icmp .ne off, 3)) (g1 : ¬ x = y → Go X nL S tgt lv st) (g2 : x = y → Go X nL S (pc + 3) lv st) : Go X nL S pc lv (.int y :: .int x :: st) := by
  obtain ⟨p, l, e, R, s, m, args, below, meth, c, A, a, z, Q⟩ := X
  exact fun H locs ls hP hD hS hl => lv_icmp_ne C.1 C.2.1 hd ht (fun h => g1 h H locs ls hP hD hS hl) (fun h => g2 h H locs ls hP hD hS hl)
theorem go_ic_lt {X : tq_Cx} {cc : ByteArray} {nL : Nat} {own : String} {kr : Nat} {S : tq_St} {pc : Nat} {lv : List (Nat × Value)} {st : List Value} (C : tq_C X cc nL own kr) {x y : Int32} {off : Int} (tgt : Nat) (ht : (pc : Int) + off = (tgt : Int)) (hd : decode cc pc = .ok (.if_icmp .lt off, 3)) (g1 : x < y → Go X nL S tgt lv st) (g2 : ¬ x < y → Go X nL S (pc + 3) lv st) : Go X nL S pc lv (.int y :: .int x :: st) := by
  obtain ⟨p, l, e, R, s, m, args, below, meth, c, A, a, z, Q⟩ := X
  exact fun H locs ls hP hD hS hl => lv_icmp_lt C.1 C.2.1 hd ht (fun h => g1 h H locs ls hP hD hS hl) (fun h => g2 h H locs ls hP hD hS hl)
theorem go_ic_ge {X : tq_Cx} {cc : ByteArray} {nL : Nat} {own : String} {kr : Nat} {S : tq_St} {pc : Nat} {lv : List (Nat × Value)} {st : List Value} (C : tq_C X cc nL own kr) {x y : Int32} {off : Int} (tgt : Nat) (ht : (pc : Int) + off = (tgt : Int)) (hd : decode cc pc = .ok (.if_icmp .ge off, 3)) (g1 : y ≤ x → Go X nL S tgt lv st) (g2 : ¬ y ≤ x → Go X nL S (pc + 3) lv st) : Go X nL S pc lv (.int y :: .int x :: st) := by
  obtain ⟨p, l, e, R, s, m, args, below, meth, c, A, a, z, Q⟩ := X
  exact fun H locs ls hP hD hS hl => lv_icmp_ge C.1 C.2.1 hd ht (fun h => g1 h H locs ls hP hD hS hl) (fun h => g2 h H locs ls hP hD hS hl)
theorem go_ic_gt {X : tq_Cx} {cc : ByteArray} {nL : Nat} {own : String} {kr : Nat} {S : tq_St} {pc : Nat} {lv : List (Nat × Value)} {st : List Value} (C : tq_C X cc nL own kr) {x y : Int32} {off : Int} (tgt : Nat) (ht : (pc : Int) + off = (tgt : Int)) (hd : decode cc pc = .ok (.if_icmp .gt off, 3)) (g1 : y < x → Go X nL S tgt lv st) (g2 : ¬ y < x → Go X nL S (pc + 3) lv st) : Go X nL S pc lv (.int y :: .int x :: st) := by
  obtain ⟨p, l, e, R, s, m, args, below, meth, c, A, a, z, Q⟩ := X
  exact fun H locs ls hP hD hS hl => lv_icmp_gt C.1 C.2.1 hd ht (fun h => g1 h H locs ls hP hD hS hl) (fun h => g2 h H locs ls hP hD hS hl)
theorem go_ic_le {X : tq_Cx} {cc : ByteArray} {nL : Nat} {own : String} {kr : Nat} {S : tq_St} {pc : Nat} {lv : List (Nat × Value)} {st : List Value} (C : tq_C X cc nL own kr) {x y : Int32} {off : Int} (tgt : Nat) (ht : (pc : Int) + off = (tgt : Int)) (hd : decode cc pc = .ok (.if_icmp .le off, 3)) (g1 : x ≤ y → Go X nL S tgt lv st) (g2 : ¬ x ≤ y → Go X nL S (pc + 3) lv st) : Go X nL S pc lv (.int y :: .int x :: st) := by
  obtain ⟨p, l, e, R, s, m, args, below, meth, c, A, a, z, Q⟩ := X
  exact fun H locs ls hP hD hS hl => lv_icmp_le C.1 C.2.1 hd ht (fun h => g1 h H locs ls hP hD hS hl) (fun h => g2 h H locs ls hP hD hS hl)
theorem go_goto {X : tq_Cx} {cc : ByteArray} {nL : Nat} {own : String} {kr : Nat} {S : tq_St} {pc : Nat} {lv : List (Nat × Value)} {st : List Value} (C : tq_C X cc nL own kr) {off : Int} (tgt : Nat) (ht : (pc : Int) + off = (tgt : Int)) (hd : decode cc pc = .ok (.goto off, 3)) (g : Go X nL S tgt lv st) : Go X nL S pc lv st := by
  obtain ⟨p, l, e, R, s, m, args, below, meth, c, A, a, z, Q⟩ := X
  exact fun H locs ls hP hD hS hl => lv_goto C.1 C.2.1 hd ht (g H locs ls hP hD hS hl)
theorem go_tabOut {X : tq_Cx} {cc : ByteArray} {nL : Nat} {own : String} {kr : Nat} {S : tq_St} {pc : Nat} {lv : List (Nat × Value)} {st : List Value} (C : tq_C X cc nL own kr) {dflt lo hi : Int} {offs : Array Int} {len : Nat} {x : Int32} (tgt : Nat) (ht : (pc : Int) + dflt = (tgt : Int)) (h : x.toInt < lo ∨ hi < x.toInt) (hd : decode cc pc = .ok (.tableswitch dflt lo hi offs, len)) (g : Go X nL S tgt lv st) : Go X nL S pc lv (.int x :: st) := by
  obtain ⟨p, l, e, R, s, m, args, below, meth, c, A, a, z, Q⟩ := X
  exact fun H locs ls hP hD hS hl => lv_tableOut C.1 C.2.1 hd h ht (g H locs ls hP hD hS hl)
theorem go_tabIn {X : tq_Cx} {cc : ByteArray} {nL : Nat} {own : String} {kr : Nat} {S : tq_St} {pc : Nat} {lv : List (Nat × Value)} {st : List Value} (C : tq_C X cc nL own kr) {dflt lo hi off : Int} {offs : Array Int} {len : Nat} {x : Int32} (tgt : Nat) (ht : (pc : Int) + off = (tgt : Int)) (h1 : ¬ x.toInt < lo) (h2 : ¬ hi < x.toInt) (ho : offs[(x.toInt - lo).toNat]? = some off) (hd : decode cc pc = .ok (.tableswitch dflt lo hi offs, len)) (g : Go X nL S tgt lv st) : Go X nL S pc lv (.int x :: st) := by
  obtain ⟨p, l, e, R, s, m, args, below, meth, c, A, a, z, Q⟩ := X
  exact fun H locs ls hP hD hS hl => lv_tableIn C.1 C.2.1 hd h1 h2 ho ht (g H locs ls hP hD hS hl)
theorem go_sub {X : tq_Cx} {nL : Nat} {S : tq_St} {pc : Nat} {lv lv' : List (Nat × Value)} {st : List Value} (ks : List Nat) (h : lv_pick lv ks = lv') (g : Go X nL S pc lv' st) : Go X nL S pc lv st := by
  obtain ⟨p, l, e, R, s, m, args, below, meth, c, A, a, z, Q⟩ := X
  exact fun H locs ls hP hD hS hl => g H locs ls hP hD hS (lv_sub hl ks h)
theorem go_ldc {X : tq_Cx} {cc : ByteArray} {nL : Nat} {own : String} {kr : Nat} {S : tq_St} {pc : Nat} {lv : List (Nat × Value)} {st : List Value} (C : tq_C X cc nL own kr) {index : Nat} {v : Int32} (hw : Cond.constant own index v ∈ tq_tbl) (hd : decode cc pc = .ok (.ldc index, 2)) (g : Go X nL S (pc + 2) lv (.int v :: st)) : Go X nL S pc lv st := by
  obtain ⟨p, l, e, R, s, m, args, below, meth, c, A, a, z, Q⟩ := X
  exact fun H locs ls hP hD hS hl => lv_ldc C.1 C.2.1 C.2.2.2.1 (C.2.2.2.2.1 _ hw) hd (g H locs ls hP hD hS hl)
theorem go_ldc2 {X : tq_Cx} {cc : ByteArray} {nL : Nat} {own : String} {kr : Nat} {S : tq_St} {pc : Nat} {lv : List (Nat × Value)} {st : List Value} (C : tq_C X cc nL own kr) {index : Nat} {v : Int64} (hw : Cond.constantLong own index v ∈ tq_tbl) (hd : decode cc pc = .ok (.ldc2_w index, 3)) (g : Go X nL S (pc + 3) lv (.long v :: st)) : Go X nL S pc lv st := by
  obtain ⟨p, l, e, R, s, m, args, below, meth, c, A, a, z, Q⟩ := X
  exact fun H locs ls hP hD hS hl => lv_ldc2 C.1 C.2.1 C.2.2.2.1 (C.2.2.2.2.1 _ hw) hd (g H locs ls hP hD hS hl)
end
section
-- FIELDS AND ARRAYS
section HP
variable {X : tq_Cx} {cc : ByteArray} {nL : Nat} {own : String} {kr : Nat} {S : tq_St} {pc : Nat} {lv : List (Nat × Value)} {st : List Value}
theorem go_get (C : tq_C X cc nL own kr) {o ci : Nat} (hq : (o, 0) ∈ tq_cids) {fs : List Value} (hc : tq_gc (tq_la X) S o 0 = .inr (ci, fs)) {Cn : String} {T : u_T} {N : Nat} (hcl : vwCl[ci]? = some (Cn, T, N)) (hin : ∀ w ∈ u_ws Cn T N, w ∈ tq_tbl) (k : Nat) (hk : k < N) {index : Nat} (hlink : Cond.fieldLink own index (T k).1 (T k).2.1 (T k).2.2.1 ∈ tq_tbl) {v : Value} (hv : fs[k]? = some v) (hd : decode cc pc = .ok (.getfield index, 3)) (g : Go X nL S (pc + 3) lv (v :: st)) : Go X nL S pc lv (.ref ((tq_la X).1 o 0) :: st) := by
  obtain ⟨p, l, e, R, s, m, args, below, meth, c, A, a, z, Q⟩ := X
  intro H locs ls hP hD hS hl
  obtain ⟨q0, -, hq0⟩ := tq_at a S hq
  have hc : tq_gc a S o 0 = .inr (ci, fs) := hc
  rw [hc] at hq0
  exact va_get (D := a.2.1) (cl := vwCl) (ci := ci) (v := v) (C := Cn) (T := T) (N := N) C.1 C.2.1 C.2.2.2.2.1 hin C.2.2.2.1 C.2.2.2.2.2.1 hP q0 hq0 hcl k hk (C.2.2.2.2.1 _ hlink) (fun _ h9 => h9) hv hd (g H locs ls hP hD hS hl)
theorem go_put (C : tq_C X cc nL own kr) {o ci : Nat} (hq : (o, 0) ∈ tq_cids) {fs : List Value} (hc : tq_gc (tq_la X) S o 0 = .inr (ci, fs)) {Cn : String} {T : u_T} {N : Nat} (hcl : vwCl[ci]? = some (Cn, T, N)) (hin : ∀ w ∈ u_ws Cn T N, w ∈ tq_tbl) (ty0 : Nat → FieldType) (hty : ∀ k, k < N → parseFieldDescriptor (T k).2.2.1 = some (ty0 k)) (hnm : ∀ a, a < N → ∀ b, b < N → a ≠ b → (T a).2.1 ≠ (T b).2.1) (k : Nat) (hk : k < N) {index : Nat} (hlink : Cond.fieldLink own index (T k).1 (T k).2.1 (T k).2.2.1 ∈ tq_tbl) (hfin : (T k).2.2.2 = false) {ty : FieldType} {v : Value} (hdc : parseFieldDescriptor (T k).2.2.1 = some ty) (hn : narrow ty v = v) (hfit : fits ty v = true) (hlen : k < fs.length) {S' : tq_St} (hx : tq_gc (tq_la X) S' o 0 = .inr (ci, fs.set k v)) (hne : ∀ o' r', (o', r') ∈ tq_cids → ¬ (o' = o ∧ r' = 0) → tq_gc (tq_la X) S' o' r' = tq_gc (tq_la X) S o' r') (hd : decode cc pc = .ok (.putfield index, 3)) (g : Go X nL S' (pc + 3) lv st) : Go X nL S pc lv (v :: .ref ((tq_la X).1 o 0) :: st) := by
  obtain ⟨p, l, e, R, s, m, args, below, meth, c, A, a, z, Q⟩ := X
  intro H locs ls hP hD hS hl
  obtain ⟨q0, hk0, hq0⟩ := tq_at a S hq
  have hc : tq_gc a S o 0 = .inr (ci, fs) := hc
  rw [hc] at hq0
  have hset := tq_set a S S' hk0 hx hne
  exact va_put (D := a.2.1) (cl := vwCl) (ci := ci) (v := v) (ty := ty) (C := Cn) (T := T) (N := N) C.1 C.2.1 C.2.2.2.2.1 hin ty0 hty hnm C.2.2.2.1 C.2.2.2.2.2.1 hP hD hS q0 hq0 hcl k hk (C.2.2.2.2.1 _ hlink) (fun _ h9 => h9) hfin hdc hn hfit hlen hd (fun H2 locs2 hP2 hD2 hS2 => g H2 locs2 ls (by rw [← hset]; exact hP2) (by rw [← hset]; exact hD2) hS2 hl)
theorem go_iald (C : tq_C X cc nL own kr) {o k n : Nat} (hq : (o, k + 1) ∈ tq_cids) (hc : tq_gc (tq_la X) S o (k + 1) = .inl ((tq_la X).2.2 0, n, .inl (S.2.1 o k))) {i : Int32} (hin : vp_in i n) (hd : decode cc pc = .ok (.iaload, 1)) (g : Go X nL S (pc + 1) lv (.int (S.2.1 o k i.toNatClampNeg) :: st)) : Go X nL S pc lv (.int i :: .ref ((tq_la X).1 o (k + 1)) :: st) := by
  obtain ⟨p, l, e, R, s, m, args, below, meth, c, A, a, z, Q⟩ := X
  intro H locs ls hP hD hS hl
  obtain ⟨q0, -, hq0⟩ := tq_at a S hq
  have hc : tq_gc a S o (k + 1) = _ := hc
  rw [hc] at hq0
  exact va_iald C.1 C.2.1 C.2.2.2.2.2.1 hP q0 0 hq0 rfl hin hd (g H locs ls hP hD hS hl)
theorem go_bald (C : tq_C X cc nL own kr) {o k n : Nat} (hq : (o, k + 1) ∈ tq_cids) (hc : tq_gc (tq_la X) S o (k + 1) = .inl ((tq_la X).2.2 1, n, .inl (S.2.1 o k))) {i : Int32} (hin : vp_in i n) (hd : decode cc pc = .ok (.baload, 1)) (g : Go X nL S (pc + 1) lv (.int (S.2.1 o k i.toNatClampNeg) :: st)) : Go X nL S pc lv (.int i :: .ref ((tq_la X).1 o (k + 1)) :: st) := by
  obtain ⟨p, l, e, R, s, m, args, below, meth, c, A, a, z, Q⟩ := X
  intro H locs ls hP hD hS hl
  obtain ⟨q0, -, hq0⟩ := tq_at a S hq
  have hc : tq_gc a S o (k + 1) = _ := hc
  rw [hc] at hq0
  exact va_bald C.1 C.2.1 C.2.2.2.2.2.1 hP q0 1 hq0 rfl hin hd (g H locs ls hP hD hS hl)
theorem go_zald (C : tq_C X cc nL own kr) {o k n : Nat} (hq : (o, k + 1) ∈ tq_cids) (hc : tq_gc (tq_la X) S o (k + 1) = .inl ((tq_la X).2.2 2, n, .inl (S.2.1 o k))) {i : Int32} (hin : vp_in i n) (hd : decode cc pc = .ok (.baload, 1)) (g : Go X nL S (pc + 1) lv (.int (S.2.1 o k i.toNatClampNeg) :: st)) : Go X nL S pc lv (.int i :: .ref ((tq_la X).1 o (k + 1)) :: st) := by
  obtain ⟨p, l, e, R, s, m, args, below, meth, c, A, a, z, Q⟩ := X
  intro H locs ls hP hD hS hl
  obtain ⟨q0, -, hq0⟩ := tq_at a S hq
  have hc : tq_gc a S o (k + 1) = _ := hc
  rw [hc] at hq0
  exact va_zald C.1 C.2.1 C.2.2.2.2.2.1 hP q0 2 hq0 rfl hin hd (g H locs ls hP hD hS hl)
theorem go_lald (C : tq_C X cc nL own kr) {i : Int32} (hin : vp_in i 5) (hd : decode cc pc = .ok (.laload, 1)) (g : Go X nL S (pc + 1) lv (.long (S.2.2.2 i.toNatClampNeg) :: st)) : Go X nL S pc lv (.int i :: .ref ((tq_la X).1 22 2) :: st) := by
  obtain ⟨p, l, e, R, s, m, args, below, meth, c, A, a, z, Q⟩ := X
  intro H locs ls hP hD hS hl
  obtain ⟨q0, -, hq0⟩ := tq_at a S (o := 22) (r := 2) (by decide +kernel)
  exact va_lald C.1 C.2.1 C.2.2.2.2.2.1 hP q0 3 hq0 rfl hin hd (g H locs ls hP hD hS hl)
theorem go_aald (C : tq_C X cc nL own kr) {o r n t b : Nat} {Cn : String} (hq : (o, r) ∈ tq_cids) (hc : tq_gc (tq_la X) S o r = .inl ((tq_la X).2.2 t, n, .inr (.inr (.inr (.inr (fun i => some ((tq_la X).1 (b + i) 0))))))) (ht : (tq_ty (tq_la X))[t]? = some ((tq_la X).2.2 t, .object Cn)) {i : Int32} (hin : vp_in i n) (hd : decode cc pc = .ok (.aaload, 1)) (g : Go X nL S (pc + 1) lv (.ref ((tq_la X).1 (b + i.toNatClampNeg) 0) :: st)) : Go X nL S pc lv (.int i :: .ref ((tq_la X).1 o r) :: st) := by
  obtain ⟨p, l, e, R, s, m, args, below, meth, c, A, a, z, Q⟩ := X
  intro H locs ls hP hD hS hl
  obtain ⟨q0, -, hq0⟩ := tq_at a S hq
  have hc : tq_gc a S o r = _ := hc
  rw [hc] at hq0
  exact va_aldq C.1 C.2.1 C.2.2.2.2.2.1 hP q0 t hq0 ht hin hd (g H locs ls hP hD hS hl)
theorem go_iast (C : tq_C X cc nL own kr) {o k n : Nat} (hq : (o, k + 1) ∈ tq_cids) (hc : ∀ S : tq_St, tq_gc (tq_la X) S o (k + 1) = .inl ((tq_la X).2.2 0, n, .inl (S.2.1 o k))) (hk : tq_arr o k) {i x : Int32} (hin : vp_in i n) (hd : decode cc pc = .ok (.iastore, 1)) (g : Go X nL (sA S o k i.toNatClampNeg x) (pc + 1) lv st) : Go X nL S pc lv (.int x :: .int i :: .ref ((tq_la X).1 o (k + 1)) :: st) := by
  obtain ⟨p, l, e, R, s, m, args, below, meth, c, A, a, z, Q⟩ := X
  intro H locs ls hP hD hS hl
  obtain ⟨q0, hk0, hq0⟩ := tq_at a S hq
  have hc : ∀ S : tq_St, tq_gc a S o (k + 1) = .inl (a.2.2 0, n, .inl (S.2.1 o k)) := hc
  rw [hc] at hq0
  have hset := tq_set a S (sA S o k i.toNatClampNeg x) (x := .inl (a.2.2 0, n, .inl (upd (S.2.1 o k) i.toNatClampNeg x))) hk0 (by rw [hc]; simp [sA, sC]) (tq_gcA a S hk _)
  exact va_iast C.1 C.2.1 C.2.2.2.2.2.1 hP hD hS q0 0 hq0 rfl hin hd (fun H2 locs2 hP2 hD2 hS2 => g H2 locs2 ls (by rw [← hset]; exact hP2) (by rw [← hset]; exact hD2) hS2 hl)
theorem go_bast (C : tq_C X cc nL own kr) {o k n : Nat} (hq : (o, k + 1) ∈ tq_cids) (hc : ∀ S : tq_St, tq_gc (tq_la X) S o (k + 1) = .inl ((tq_la X).2.2 1, n, .inl (S.2.1 o k))) (hk : tq_arr o k) {i x : Int32} (hin : vp_in i n) (hd : decode cc pc = .ok (.bastore, 1)) (g : Go X nL (sA S o k i.toNatClampNeg (vp_nar .byte x)) (pc + 1) lv st) : Go X nL S pc lv (.int x :: .int i :: .ref ((tq_la X).1 o (k + 1)) :: st) := by
  obtain ⟨p, l, e, R, s, m, args, below, meth, c, A, a, z, Q⟩ := X
  intro H locs ls hP hD hS hl
  obtain ⟨q0, hk0, hq0⟩ := tq_at a S hq
  have hc : ∀ S : tq_St, tq_gc a S o (k + 1) = .inl (a.2.2 1, n, .inl (S.2.1 o k)) := hc
  rw [hc] at hq0
  have hset := tq_set a S (sA S o k i.toNatClampNeg (vp_nar .byte x)) (x := .inl (a.2.2 1, n, .inl (upd (S.2.1 o k) i.toNatClampNeg (vp_nar .byte x)))) hk0 (by rw [hc]; simp [sA, sC]) (tq_gcA a S hk _)
  exact va_bast C.1 C.2.1 C.2.2.2.2.2.1 hP hD hS q0 1 hq0 rfl hin hd (fun H2 locs2 hP2 hD2 hS2 => g H2 locs2 ls (by rw [← hset]; exact hP2) (by rw [← hset]; exact hD2) hS2 hl)
theorem go_zast (C : tq_C X cc nL own kr) {o k n : Nat} (hq : (o, k + 1) ∈ tq_cids) (hc : ∀ S : tq_St, tq_gc (tq_la X) S o (k + 1) = .inl ((tq_la X).2.2 2, n, .inl (S.2.1 o k))) (hk : tq_arr o k) {i x : Int32} (hin : vp_in i n) (hd : decode cc pc = .ok (.bastore, 1)) (g : Go X nL (sA S o k i.toNatClampNeg (vp_nar .boolean x)) (pc + 1) lv st) : Go X nL S pc lv (.int x :: .int i :: .ref ((tq_la X).1 o (k + 1)) :: st) := by
  obtain ⟨p, l, e, R, s, m, args, below, meth, c, A, a, z, Q⟩ := X
  intro H locs ls hP hD hS hl
  obtain ⟨q0, hk0, hq0⟩ := tq_at a S hq
  have hc : ∀ S : tq_St, tq_gc a S o (k + 1) = .inl (a.2.2 2, n, .inl (S.2.1 o k)) := hc
  rw [hc] at hq0
  have hset := tq_set a S (sA S o k i.toNatClampNeg (vp_nar .boolean x)) (x := .inl (a.2.2 2, n, .inl (upd (S.2.1 o k) i.toNatClampNeg (vp_nar .boolean x)))) hk0 (by rw [hc]; simp [sA, sC]) (tq_gcA a S hk _)
  exact va_zast C.1 C.2.1 C.2.2.2.2.2.1 hP hD hS q0 2 hq0 rfl hin hd (fun H2 locs2 hP2 hD2 hS2 => g H2 locs2 ls (by rw [← hset]; exact hP2) (by rw [← hset]; exact hD2) hS2 hl)
theorem go_last (C : tq_C X cc nL own kr) {i : Int32} {x : Int64} (hin : vp_in i 5) (hd : decode cc pc = .ok (.lastore, 1)) (g : Go X nL (sG S i.toNatClampNeg x) (pc + 1) lv st) : Go X nL S pc lv (.long x :: .int i :: .ref ((tq_la X).1 22 2) :: st) := by
  obtain ⟨p, l, e, R, s, m, args, below, meth, c, A, a, z, Q⟩ := X
  intro H locs ls hP hD hS hl
  obtain ⟨q0, hk0, hq0⟩ := tq_at a S (o := 22) (r := 2) (by decide +kernel)
  have hset := tq_set a S (sG S i.toNatClampNeg x) (x := .inl (a.2.2 3, 5, .inr (.inl (vp_updL S.2.2.2 i.toNatClampNeg x)))) hk0 rfl (tq_gcG a S _ _)
  exact va_last C.1 C.2.1 C.2.2.2.2.2.1 hP hD hS q0 3 hq0 rfl hin hd (fun H2 locs2 hP2 hD2 hS2 => g H2 locs2 ls (by rw [← hset]; exact hP2) (by rw [← hset]; exact hD2) hS2 hl)
theorem go_copy (C : tq_C X cc nL own kr) (hkr : 1 ≤ kr) {o k n o2 k2 n2 : Nat} (hq : (o, k + 1) ∈ tq_cids) (hc : tq_gc (tq_la X) S o (k + 1) = .inl ((tq_la X).2.2 0, n, .inl (S.2.1 o k))) (hq2 : (o2, k2 + 1) ∈ tq_cids) (hc2 : ∀ S : tq_St, tq_gc (tq_la X) S o2 (k2 + 1) = .inl ((tq_la X).2.2 0, n2, .inl (S.2.1 o2 k2))) (hk2 : tq_arr o2 k2) {index : Nat} (hlink : Cond.methodLink own index arraycopyName ∈ tq_tbl) (hnat : Cond.native arraycopyName ∈ tq_tbl) (hstat : Cond.static arraycopyName ∈ tq_tbl) (hini : Cond.initialized "java/lang/System" ∈ tq_tbl) {ln : Int32} (h3 : ¬ ln < 0) (h4 : ln.toNatClampNeg ≤ n) (h5 : ln.toNatClampNeg ≤ n2) (hst : st = []) (hd : decode cc pc = .ok (.invokestatic index, 3)) (g : Go X nL (sC S o2 k2 (va_cpy (S.2.1 o k) (S.2.1 o2 k2) 0 0 ln.toNatClampNeg)) (pc + 3) lv st) : Go X nL S pc lv (.int ln :: .int 0 :: .ref ((tq_la X).1 o2 (k2 + 1)) :: .int 0 :: .ref ((tq_la X).1 o (k + 1)) :: st) := by
  subst hst
  obtain ⟨p, l, e, R, s, m, args, below, meth, c, A, a, z, Q⟩ := X
  intro H locs ls hP hD hS hl
  obtain ⟨q0, -, hq0⟩ := tq_at a S hq
  have hc : tq_gc a S o (k + 1) = _ := hc
  rw [hc] at hq0
  obtain ⟨q1, hk1, hq1⟩ := tq_at a S hq2
  have hc2 : ∀ S : tq_St, tq_gc a S o2 (k2 + 1) = .inl (a.2.2 0, n2, .inl (S.2.1 o2 k2)) := hc2
  rw [hc2] at hq1
  have hset := tq_set a S (sC S o2 k2 (va_cpy (S.2.1 o k) (S.2.1 o2 k2) 0 0 ln.toNatClampNeg)) (x := .inl (a.2.2 0, n2, .inl (va_cpy (S.2.1 o k) (S.2.1 o2 k2) 0 0 ln.toNatClampNeg))) hk1 (by rw [hc2]; simp [sC]) (tq_gcA a S hk2 _)
  have hR : R = tq_rm kr := C.2.2.2.2.2.2.2.1
  refine va_copyi (ty := .int) C.1 C.2.1 (by rw [hl.1]; exact C.2.2.1) C.2.2.2.1 (C.2.2.2.2.1 _ hlink) (C.2.2.2.2.1 _ hnat) (C.2.2.2.2.1 _ hstat) (C.2.2.2.2.1 _ hini) C.2.2.2.2.2.1 hP hD hS q0 q1 0 0 hq0 hq1 rfl rfl rfl (sp := 0) (dp := 0) (n := ln) (by decide) (by decide) h3 (by rw [show (0 : Int32).toNatClampNeg = 0 by decide]; omega) (by rw [show (0 : Int32).toNatClampNeg = 0 by decide]; omega) (fun _ _ => rfl) ?_ ?_ hd (fun H2 locs2 hP2 hD2 hS2 => g H2 locs2 ls (by rw [← hset]; exact hP2) (by rw [← hset]; exact hD2) hS2 hl)
  · rw [hR]; exact hkr
  · rw [hR]
    show _ ≤ 100 * kr
    have h9 : (([] : List Value).map fun v => v.category).sum + (nativeFrameWords "java/lang/System" "arraycopy" 5 + 11) ≤ 100 := by decide +kernel
    omega
theorem go_max (C : tq_C X cc nL own kr) (hkr : 1 ≤ kr) {index : Nat} (hlink : Cond.methodLink own index Lib.Math.max.name ∈ tq_tbl) (hstat : Cond.static Lib.Math.max.name ∈ tq_tbl) (hini : Cond.initialized "java/lang/Math" ∈ tq_tbl) (hcode : Cond.code Lib.Math.max.name Lib.Math.max.code 2 (some .int) ∈ tq_tbl) {x y : Int32} (hst : (st.map fun v => v.category).sum ≤ 80) (hd : decode cc pc = .ok (.invokestatic index, 3)) (g : Go X nL S (pc + 3) lv (.int (if x < y then y else x) :: st)) : Go X nL S pc lv (.int y :: .int x :: st) := by
  obtain ⟨p, l, e, R, s, m, args, below, meth, c, A, a, z, Q⟩ := X
  intro H locs ls hP hD hS hl
  have hR : R = tq_rm kr := C.2.2.2.2.2.2.2.1
  exact va_mmax C.1 C.2.1 (by rw [hl.1]; exact C.2.2.1) C.2.2.2.1 (C.2.2.2.2.1 _ hlink) (C.2.2.2.2.1 _ hstat) (C.2.2.2.2.1 _ hini) (C.2.2.2.2.1 _ hcode) (by rw [hR]; exact hkr) (by rw [hR]; show _ ≤ 100 * kr; omega) (Nat.zero_le _) (Nat.zero_le _) hd (g H locs ls hP hD hS hl)
theorem go_min (C : tq_C X cc nL own kr) (hkr : 1 ≤ kr) {index : Nat} (hlink : Cond.methodLink own index Lib.Math.min.name ∈ tq_tbl) (hstat : Cond.static Lib.Math.min.name ∈ tq_tbl) (hini : Cond.initialized "java/lang/Math" ∈ tq_tbl) (hcode : Cond.code Lib.Math.min.name Lib.Math.min.code 2 (some .int) ∈ tq_tbl) {x y : Int32} (hst : (st.map fun v => v.category).sum ≤ 80) (hd : decode cc pc = .ok (.invokestatic index, 3)) (g : Go X nL S (pc + 3) lv (.int (if y < x then y else x) :: st)) : Go X nL S pc lv (.int y :: .int x :: st) := by
  obtain ⟨p, l, e, R, s, m, args, below, meth, c, A, a, z, Q⟩ := X
  intro H locs ls hP hD hS hl
  have hR : R = tq_rm kr := C.2.2.2.2.2.2.2.1
  exact va_mmin C.1 C.2.1 (by rw [hl.1]; exact C.2.2.1) C.2.2.2.1 (C.2.2.2.2.1 _ hlink) (C.2.2.2.2.1 _ hstat) (C.2.2.2.2.1 _ hini) (C.2.2.2.2.1 _ hcode) (by rw [hR]; exact hkr) (by rw [hR]; show _ ≤ 100 * kr; omega) (Nat.zero_le _) (Nat.zero_le _) hd (g H locs ls hP hD hS hl)
theorem go_brims (C : tq_C X cc nL RX1 kr) (hd : decode cc pc = .ok (.getstatic 72, 3)) (g : Go X nL S (pc + 3) lv (.ref (tq_zl X).1 :: st)) : Go X nL S pc lv st := by
  obtain ⟨p, l, e, R, s, m, args, below, meth, c, A, a, z, Q⟩ := X
  intro H locs ls hP hD hS hl
  have hZ : tq_Z z A s s.heap := C.2.2.2.2.2.2.1
  exact va_getsN C.1 C.2.1 hZ.1 hS C.2.2.2.1 (va_Nw.use rfl hZ.2.2.1) (fun _ h9 => h9) hd (g H locs ls hP hD hS hl)
theorem go_brald (C : tq_C X cc nL own kr) {i : Int32} (hin : vp_in i 4) (hd : decode cc pc = .ok (.iaload, 1)) (g : Go X nL S (pc + 1) lv (.int (tq_brL.getD i.toNatClampNeg 0) :: st)) : Go X nL S pc lv (.int i :: .ref (tq_zl X).1 :: st) := by
  obtain ⟨p, l, e, R, s, m, args, below, meth, c, A, a, z, Q⟩ := X
  intro H locs ls hP hD hS hl
  have hZ : tq_Z z A s s.heap := C.2.2.2.2.2.2.1
  exact va_ti C.1 C.2.1 hZ.2.1 hS hin rfl hd (g H locs ls hP hD hS hl)
end HP
end
section
-- CONTRACTS OUT OF WALKS, BY THE KIND OF THE ANSWER
section MK2
variable {y : MethodName} {cc : ByteArray} {n k : Nat} {av : tq_La → tq_Zl → List Value} {S : tq_St}
theorem tq_mkI {K : Int32 → tq_St → Prop} (hy : plainName y.cls = true) (hlen : ∀ a z, (lg_sl (av a z)).length ≤ n) (h : ∀ X : tq_Cx, tq_C X cc n y.cls k → tq_Ri X cc n K → Go X n S 0 (lv_args 0 (av (tq_la X) (tq_zl X))) []) : tq_Mi y cc n (some .int) k av S K := by
  refine tq_mk (Qc := fun a z A => va_Qi K (tq_Post a A) A) hy hlen ?_
  rintro ⟨p, l, e, R, s, m, args, below, meth, c, A, a, z, Q⟩ C ⟨s', args', below', h1, h2, h3, h4, h5⟩
  refine h _ C ?_
  intro r S' pc lv hd hK H locs ls hP hD hS hl
  have hr : meth.sig.returnType = some .int := h3
  have hQ : Q = MQ below' (va_Qi K (tq_Post a A) A) args' s' 0 0 A := h4
  have e1 : s = s' := h1
  have e2 : args = args' := h2
  have e3 : below = below' := h5
  subst e1; subst e2; subst e3; subst hQ
  exact W.iret C.1 C.2.1 hr (fun t ht hW => ⟨⟨r, S', rfl, hK, by rw [tq_Post, ht]; exact ⟨hP, hD⟩⟩, hS.F ht⟩) hS.2.2 hd C.2.2.2.2.2.2.2.2
theorem tq_mkZ {K : Int32 → tq_St → Prop} (hy : plainName y.cls = true) (hlen : ∀ a z, (lg_sl (av a z)).length ≤ n) (h : ∀ X : tq_Cx, tq_C X cc n y.cls k → tq_Rz X cc n K → Go X n S 0 (lv_args 0 (av (tq_la X) (tq_zl X))) []) : tq_Mi y cc n (some .boolean) k av S K := by
  refine tq_mk (Qc := fun a z A => va_Qi K (tq_Post a A) A) hy hlen ?_
  rintro ⟨p, l, e, R, s, m, args, below, meth, c, A, a, z, Q⟩ C ⟨s', args', below', h1, h2, h3, h4, h5⟩
  refine h _ C ?_
  intro r S' pc lv hd h01 hK H locs ls hP hD hS hl
  have hr : meth.sig.returnType = some .boolean := h3
  have hQ : Q = MQ below' (va_Qi K (tq_Post a A) A) args' s' 0 0 A := h4
  have e1 : s = s' := h1
  have e2 : args = args' := h2
  have e3 : below = below' := h5
  subst e1; subst e2; subst e3; subst hQ
  exact W.zret C.1 C.2.1 hr (by rcases h01 with rfl | rfl <;> decide +kernel) (fun t ht hW => ⟨⟨r, S', rfl, hK, by rw [tq_Post, ht]; exact ⟨hP, hD⟩⟩, hS.F ht⟩) hS.2.2 hd C.2.2.2.2.2.2.2.2
theorem tq_mkL {K : Int64 → tq_St → Prop} (hy : plainName y.cls = true) (hlen : ∀ a z, (lg_sl (av a z)).length ≤ n) (h : ∀ X : tq_Cx, tq_C X cc n y.cls k → tq_Rl X cc n K → Go X n S 0 (lv_args 0 (av (tq_la X) (tq_zl X))) []) : tq_Ml y cc n (some .long) k av S K := by
  refine tq_mk (Qc := fun a z A => va_Ql K (tq_Post a A) A) hy hlen ?_
  rintro ⟨p, l, e, R, s, m, args, below, meth, c, A, a, z, Q⟩ C ⟨s', args', below', h1, h2, h3, h4, h5⟩
  refine h _ C ?_
  intro r S' pc lv hd hK H locs ls hP hD hS hl
  have hr : meth.sig.returnType = some .long := h3
  have hQ : Q = MQ below' (va_Ql K (tq_Post a A) A) args' s' 0 0 A := h4
  have e1 : s = s' := h1
  have e2 : args = args' := h2
  have e3 : below = below' := h5
  subst e1; subst e2; subst e3; subst hQ
  exact W.lret C.1 C.2.1 hr (fun t ht hW => ⟨⟨r, S', rfl, hK, by rw [tq_Post, ht]; exact ⟨hP, hD⟩⟩, hS.F ht⟩) hS.2.2 hd C.2.2.2.2.2.2.2.2
theorem tq_mkV {K : tq_St → Prop} (hy : plainName y.cls = true) (hlen : ∀ a z, (lg_sl (av a z)).length ≤ n) (h : ∀ X : tq_Cx, tq_C X cc n y.cls k → tq_Rv X cc n K → Go X n S 0 (lv_args 0 (av (tq_la X) (tq_zl X))) []) : tq_Mv y cc n none k av S K := by
  refine tq_mk (Qc := fun a z A => va_Qv K (tq_Post a A) A) hy hlen ?_
  rintro ⟨p, l, e, R, s, m, args, below, meth, c, A, a, z, Q⟩ C ⟨s', args', below', h1, h2, h3, h4, h5⟩
  refine h _ C ?_
  intro S' pc lv hd hK H locs ls hP hD hS hl
  have hr : meth.sig.returnType = none := h3
  have hQ : Q = MQ below' (va_Qv K (tq_Post a A) A) args' s' 0 0 A := h4
  have e1 : s = s' := h1
  have e2 : args = args' := h2
  have e3 : below = below' := h5
  subst e1; subst e2; subst e3; subst hQ
  exact W.vret C.1 C.2.1 hr (fun t ht hW => ⟨⟨S', rfl, hK, by rw [tq_Post, ht]; exact ⟨hP, hD⟩⟩, hS.F ht⟩) hS.2.2 hd C.2.2.2.2.2.2.2.2
end MK2
-- CALLS
/-- the words of a virtual call -/
def tq_Wv (own : String) (index : Nat) (Cn : String) (y : MethodName) (cc : ByteArray) (n : Nat) (ret : Option FieldType) (np : Nat) : Prop :=
  GoodIn tq_tbl (wsV own index Cn y (tq_ws y cc n ret)) ∧ y.cls = Cn ∧ y.cls ≠ "java/lang/invoke/MethodHandle" ∧ y.cls ≠ "java/lang/invoke/VarHandle" ∧ (parseMethodDescriptor y.desc).map (fun d => d.parameters.length) = some np
def tq_Wst (own : String) (index : Nat) (y : MethodName) (cc : ByteArray) (n : Nat) (ret : Option FieldType) (np : Nat) : Prop :=
  GoodIn tq_tbl (va_wsS own index y (tq_ws y cc n ret)) ∧ y.cls ≠ "java/lang/invoke/MethodHandle" ∧ y.cls ≠ "java/lang/invoke/VarHandle" ∧ (parseMethodDescriptor y.desc).map (fun d => d.parameters.length) = some np
theorem tq_g1 {w : Cond} (h : w ∈ lw_tbl) (hg : goodWord w = true) : w ∈ tq_tbl ∧ ((w.onTables && w.keeps) = true ∨ ∃ ty, w = .arrayClass ty) := ⟨tq_mem h hg, good_of_word hg⟩
theorem tq_gT : GoodIn tq_tbl tq_tbl := fun w h => ⟨h, good_of_word (List.mem_filter.mp h).2⟩
theorem tq_gC {w : Cond} {l : List Cond} (h : w ∈ lw_tbl) (hg : goodWord w = true) (t : GoodIn tq_tbl l) : GoodIn tq_tbl (w :: l) := fun v hv => by
  rcases List.mem_cons.mp hv with rfl | h2
  · exact tq_g1 h hg
  · exact t v h2
theorem tq_wv {own : String} {index : Nat} {Cn : String} {y : MethodName} {cc : ByteArray} {n np : Nat} {ret : Option FieldType} (h1 : Cond.methodLink own index y ∈ lw_tbl) (h2 : Cond.instanceMethod y ∈ lw_tbl) (h3 : Cond.selects Cn y y ∈ lw_tbl) (h4 : Cond.initialized Cn ∈ lw_tbl) (h5 : Cond.code y cc n ret ∈ lw_tbl) (hd : y.cls = Cn ∧ y.cls ≠ "java/lang/invoke/MethodHandle" ∧ y.cls ≠ "java/lang/invoke/VarHandle" ∧ (parseMethodDescriptor y.desc).map (fun d => d.parameters.length) = some np) : tq_Wv own index Cn y cc n ret np :=
  ⟨tq_gC h1 rfl (tq_gC h2 rfl (tq_gC h3 rfl (tq_gC h4 rfl (tq_gC h5 rfl tq_gT)))), hd⟩
theorem tq_wst {own : String} {index : Nat} {y : MethodName} {cc : ByteArray} {n np : Nat} {ret : Option FieldType} (h1 : Cond.methodLink own index y ∈ lw_tbl) (h2 : Cond.static y ∈ lw_tbl) (h4 : Cond.initialized y.cls ∈ lw_tbl) (h5 : Cond.code y cc n ret ∈ lw_tbl) (hd : y.cls ≠ "java/lang/invoke/MethodHandle" ∧ y.cls ≠ "java/lang/invoke/VarHandle" ∧ (parseMethodDescriptor y.desc).map (fun d => d.parameters.length) = some np) : tq_Wst own index y cc n ret np :=
  ⟨tq_gC h1 rfl (tq_gC h2 rfl (tq_gC h4 rfl (tq_gC h5 rfl tq_gT))), hd⟩
/-- the room of a call -/
def tq_rk (k kr n : Nat) : Bool := Nat.ble (k + 1) kr && Nat.ble (8 + (n + 11) + 100 * k) (100 * kr)
theorem tq_rk_ok {k kr n : Nat} (h : tq_rk k kr n = true) : k + 1 ≤ kr ∧ 8 + (n + 11) + 100 * k ≤ 100 * kr := by
  unfold tq_rk at h
  simp only [Bool.and_eq_true] at h
  exact ⟨Nat.le_of_ble_eq_true h.1, Nat.le_of_ble_eq_true h.2⟩
section CL
variable {X : tq_Cx} {cc : ByteArray} {nL : Nat} {own : String} {kr : Nat} {S : tq_St} {pc : Nat} {lv : List (Nat × Value)} {st st0 : List Value}
variable {y : MethodName} {cy : ByteArray} {n np k : Nat} {ret : Option FieldType} {av : tq_La → tq_Zl → List Value}
/-- the receiver of a virtual call -/
def tq_rec (X : tq_Cx) (S : tq_St) (b : Nat) (Cn : String) : Prop := match X with
  | (_, _, _, _, s, _, _, _, _, _, A, a, _, _) => ∀ (H : Heap) (locs : List Loc), va_P a.2.1 vwCl (tq_W a S) H → va_S A s.heap H locs → ∃ cellB : Cell, H[b]? = some cellB ∧ cellB.vm.isStatics = false ∧ s.vm.findClass Cn = some cellB.cls
theorem tq_rec_of (C : tq_C X cc nL own kr) {o ci : Nat} (hq : (o, 0) ∈ tq_cids) {fs : List Value} (hc : tq_gc (tq_la X) S o 0 = .inr (ci, fs)) {Cn : String} {T : u_T} {N : Nat} (hcl : vwCl[ci]? = some (Cn, T, N)) : tq_rec X S ((tq_la X).1 o 0) Cn := by
  obtain ⟨p, l, e, R, s, m, args, below, meth, c, A, a, z, Q⟩ := X
  intro H locs hP hS
  obtain ⟨q0, -, hq0⟩ := tq_at a S hq
  have hc : tq_gc a S o 0 = .inr (ci, fs) := hc
  rw [hc] at hq0
  exact va_recv C.2.2.2.2.2.1 hP hcl hq0
theorem go_cVi {K : Int32 → tq_St → Prop} (C : tq_C X cc nL own kr) {index b : Nat} {Cn : String} {As : List Value} (hw : tq_Wv own index Cn y cy n ret np) (hM : tq_Mi y cy n ret k av S K) (hrc : tq_rec X S b Cn) (hav : av (tq_la X) (tq_zl X) = .ref b :: As) (hst : st0 = As.reverse ++ .ref b :: st) (hn : As.length = np) (hrk : tq_rk k kr n = true) (hrm : Nat.ble ((st.map fun v => v.category).sum) 8 = true) (hd : decode cc pc = .ok (.invokevirtual index, 3)) (g : ∀ r S', K r S' → Go X nL S' (pc + 3) lv (.int r :: st)) : Go X nL S pc lv st0 := by
  obtain ⟨p, l, e, R, s, m, args, below, meth, c, A, a, z, Q⟩ := X
  intro H locs ls hP hD hS hl
  have hR : R = tq_rm kr := C.2.2.2.2.2.2.2.1
  subst hR
  have hav : av a z = .ref b :: As := hav
  have hM := hM l A a z
  rw [hav] at hM
  refine va_calli (va_runV (As := As) (rest := st) ⟨C.1, C.2.1, C.2.2.1, C.2.2.2.1, C.2.2.2.2.1⟩ hM (cwV np C.2.2.2.2.1 hw.1 rfl rfl rfl hw.2 (tq_rk_ok hrk)) ⟨tq_blind, hrc H locs hP hS, fun U hU hW => ⟨rfl, by rw [hU]; exact hP, va_K.moved hW.alike C.2.2.2.2.2.1, hD, (C.2.2.2.2.2.2.1).to hS hU hW⟩⟩ rfl hn hl.1 hst (lv_room (Nat.le_of_ble_eq_true hrm)) hd ⟨Nat.zero_le _, Nat.zero_le _⟩) hS (fun q _ h => h) (fun q h => h) (fun r u t H1 locs1 ht hvm hw2 hB hz1 hk1 hS1 => ?_)
  obtain ⟨hP1, hD1⟩ := hB
  rw [ht] at hP1
  exact g r u hw2 H1 locs1 ls hP1 hD1 hS1 hl
theorem go_cVl {K : Int64 → tq_St → Prop} (C : tq_C X cc nL own kr) {index b : Nat} {Cn : String} {As : List Value} (hw : tq_Wv own index Cn y cy n ret np) (hM : tq_Ml y cy n ret k av S K) (hrc : tq_rec X S b Cn) (hav : av (tq_la X) (tq_zl X) = .ref b :: As) (hst : st0 = As.reverse ++ .ref b :: st) (hn : As.length = np) (hrk : tq_rk k kr n = true) (hrm : Nat.ble ((st.map fun v => v.category).sum) 8 = true) (hd : decode cc pc = .ok (.invokevirtual index, 3)) (g : ∀ r S', K r S' → Go X nL S' (pc + 3) lv (.long r :: st)) : Go X nL S pc lv st0 := by
  obtain ⟨p, l, e, R, s, m, args, below, meth, c, A, a, z, Q⟩ := X
  intro H locs ls hP hD hS hl
  have hR : R = tq_rm kr := C.2.2.2.2.2.2.2.1
  subst hR
  have hav : av a z = .ref b :: As := hav
  have hM := hM l A a z
  rw [hav] at hM
  refine va_calll (va_runV (As := As) (rest := st) ⟨C.1, C.2.1, C.2.2.1, C.2.2.2.1, C.2.2.2.2.1⟩ hM (cwV np C.2.2.2.2.1 hw.1 rfl rfl rfl hw.2 (tq_rk_ok hrk)) ⟨tq_blind, hrc H locs hP hS, fun U hU hW => ⟨rfl, by rw [hU]; exact hP, va_K.moved hW.alike C.2.2.2.2.2.1, hD, (C.2.2.2.2.2.2.1).to hS hU hW⟩⟩ rfl hn hl.1 hst (lv_room (Nat.le_of_ble_eq_true hrm)) hd ⟨Nat.zero_le _, Nat.zero_le _⟩) hS (fun q _ h => h) (fun q h => h) (fun r u t H1 locs1 ht hvm hw2 hB hz1 hk1 hS1 => ?_)
  obtain ⟨hP1, hD1⟩ := hB
  rw [ht] at hP1
  exact g r u hw2 H1 locs1 ls hP1 hD1 hS1 hl
theorem go_cVv {K : tq_St → Prop} (C : tq_C X cc nL own kr) {index b : Nat} {Cn : String} {As : List Value} (hw : tq_Wv own index Cn y cy n ret np) (hM : tq_Mv y cy n ret k av S K) (hrc : tq_rec X S b Cn) (hav : av (tq_la X) (tq_zl X) = .ref b :: As) (hst : st0 = As.reverse ++ .ref b :: st) (hn : As.length = np) (hrk : tq_rk k kr n = true) (hrm : Nat.ble ((st.map fun v => v.category).sum) 8 = true) (hd : decode cc pc = .ok (.invokevirtual index, 3)) (g : ∀ S', K S' → Go X nL S' (pc + 3) lv st) : Go X nL S pc lv st0 := by
  obtain ⟨p, l, e, R, s, m, args, below, meth, c, A, a, z, Q⟩ := X
  intro H locs ls hP hD hS hl
  have hR : R = tq_rm kr := C.2.2.2.2.2.2.2.1
  subst hR
  have hav : av a z = .ref b :: As := hav
  have hM := hM l A a z
  rw [hav] at hM
  refine va_callv (va_runV (As := As) (rest := st) ⟨C.1, C.2.1, C.2.2.1, C.2.2.2.1, C.2.2.2.2.1⟩ hM (cwV np C.2.2.2.2.1 hw.1 rfl rfl rfl hw.2 (tq_rk_ok hrk)) ⟨tq_blind, hrc H locs hP hS, fun U hU hW => ⟨rfl, by rw [hU]; exact hP, va_K.moved hW.alike C.2.2.2.2.2.1, hD, (C.2.2.2.2.2.2.1).to hS hU hW⟩⟩ rfl hn hl.1 hst (lv_room (Nat.le_of_ble_eq_true hrm)) hd ⟨Nat.zero_le _, Nat.zero_le _⟩) hS (fun q _ h => h) (fun q h => h) (fun u t H1 locs1 ht hvm hw2 hB hz1 hk1 hS1 => ?_)
  obtain ⟨hP1, hD1⟩ := hB
  rw [ht] at hP1
  exact g u hw2 H1 locs1 ls hP1 hD1 hS1 hl
end CL
end
section
-- STATIC CALLS, THE CONSTANT TEXTS
section CS
variable {X : tq_Cx} {cc : ByteArray} {nL : Nat} {own : String} {kr : Nat} {S : tq_St} {pc : Nat} {lv : List (Nat × Value)} {st st0 : List Value}
variable {y : MethodName} {cy : ByteArray} {n np k : Nat} {ret : Option FieldType} {av : tq_La → tq_Zl → List Value}
theorem go_cSi {K : Int32 → tq_St → Prop} (C : tq_C X cc nL own kr) {index : Nat} {As : List Value} (hw : tq_Wst own index y cy n ret np) (hM : tq_Mi y cy n ret k av S K) (hav : av (tq_la X) (tq_zl X) = As) (hst : st0 = As.reverse ++ st) (hn : As.length = np) (hrk : tq_rk k kr n = true) (hrm : Nat.ble ((st.map fun v => v.category).sum) 8 = true) (hd : decode cc pc = .ok (.invokestatic index, 3)) (g : ∀ r S', K r S' → Go X nL S' (pc + 3) lv (.int r :: st)) : Go X nL S pc lv st0 := by
  obtain ⟨p, l, e, R, s, m, args, below, meth, c, A, a, z, Q⟩ := X
  intro H locs ls hP hD hS hl
  have hR : R = tq_rm kr := C.2.2.2.2.2.2.2.1
  subst hR
  have hav : av a z = As := hav
  have hM := hM l A a z
  rw [hav] at hM
  refine va_calli (va_runS (As := As) (rest := st) ⟨C.1, C.2.1, C.2.2.1, C.2.2.2.1, C.2.2.2.2.1⟩ hM (va_cwS np C.2.2.2.2.1 hw.1 rfl rfl rfl hw.2 (tq_rk_ok hrk)) ⟨tq_blind, fun U hU hW => ⟨rfl, by rw [hU]; exact hP, va_K.moved hW.alike C.2.2.2.2.2.1, hD, (C.2.2.2.2.2.2.1).to hS hU hW⟩⟩ rfl hn hl.1 hst (lv_room (Nat.le_of_ble_eq_true hrm)) hd ⟨Nat.zero_le _, Nat.zero_le _⟩) hS (fun q _ h => h) (fun q h => h) (fun r u t H1 locs1 ht hvm hw2 hB hz1 hk1 hS1 => ?_)
  obtain ⟨hP1, hD1⟩ := hB
  rw [ht] at hP1
  exact g r u hw2 H1 locs1 ls hP1 hD1 hS1 hl
theorem go_cSl {K : Int64 → tq_St → Prop} (C : tq_C X cc nL own kr) {index : Nat} {As : List Value} (hw : tq_Wst own index y cy n ret np) (hM : tq_Ml y cy n ret k av S K) (hav : av (tq_la X) (tq_zl X) = As) (hst : st0 = As.reverse ++ st) (hn : As.length = np) (hrk : tq_rk k kr n = true) (hrm : Nat.ble ((st.map fun v => v.category).sum) 8 = true) (hd : decode cc pc = .ok (.invokestatic index, 3)) (g : ∀ r S', K r S' → Go X nL S' (pc + 3) lv (.long r :: st)) : Go X nL S pc lv st0 := by
  obtain ⟨p, l, e, R, s, m, args, below, meth, c, A, a, z, Q⟩ := X
  intro H locs ls hP hD hS hl
  have hR : R = tq_rm kr := C.2.2.2.2.2.2.2.1
  subst hR
  have hav : av a z = As := hav
  have hM := hM l A a z
  rw [hav] at hM
  refine va_calll (va_runS (As := As) (rest := st) ⟨C.1, C.2.1, C.2.2.1, C.2.2.2.1, C.2.2.2.2.1⟩ hM (va_cwS np C.2.2.2.2.1 hw.1 rfl rfl rfl hw.2 (tq_rk_ok hrk)) ⟨tq_blind, fun U hU hW => ⟨rfl, by rw [hU]; exact hP, va_K.moved hW.alike C.2.2.2.2.2.1, hD, (C.2.2.2.2.2.2.1).to hS hU hW⟩⟩ rfl hn hl.1 hst (lv_room (Nat.le_of_ble_eq_true hrm)) hd ⟨Nat.zero_le _, Nat.zero_le _⟩) hS (fun q _ h => h) (fun q h => h) (fun r u t H1 locs1 ht hvm hw2 hB hz1 hk1 hS1 => ?_)
  obtain ⟨hP1, hD1⟩ := hB
  rw [ht] at hP1
  exact g r u hw2 H1 locs1 ls hP1 hD1 hS1 hl
theorem go_cSv {K : tq_St → Prop} (C : tq_C X cc nL own kr) {index : Nat} {As : List Value} (hw : tq_Wst own index y cy n ret np) (hM : tq_Mv y cy n ret k av S K) (hav : av (tq_la X) (tq_zl X) = As) (hst : st0 = As.reverse ++ st) (hn : As.length = np) (hrk : tq_rk k kr n = true) (hrm : Nat.ble ((st.map fun v => v.category).sum) 8 = true) (hd : decode cc pc = .ok (.invokestatic index, 3)) (g : ∀  S', K  S' → Go X nL S' (pc + 3) lv (st)) : Go X nL S pc lv st0 := by
  obtain ⟨p, l, e, R, s, m, args, below, meth, c, A, a, z, Q⟩ := X
  intro H locs ls hP hD hS hl
  have hR : R = tq_rm kr := C.2.2.2.2.2.2.2.1
  subst hR
  have hav : av a z = As := hav
  have hM := hM l A a z
  rw [hav] at hM
  refine va_callv (va_runS (As := As) (rest := st) ⟨C.1, C.2.1, C.2.2.1, C.2.2.2.1, C.2.2.2.2.1⟩ hM (va_cwS np C.2.2.2.2.1 hw.1 rfl rfl rfl hw.2 (tq_rk_ok hrk)) ⟨tq_blind, fun U hU hW => ⟨rfl, by rw [hU]; exact hP, va_K.moved hW.alike C.2.2.2.2.2.1, hD, (C.2.2.2.2.2.2.1).to hS hU hW⟩⟩ rfl hn hl.1 hst (lv_room (Nat.le_of_ble_eq_true hrm)) hd ⟨Nat.zero_le _, Nat.zero_le _⟩) hS (fun q _ h => h) (fun q h => h) (fun  u t H1 locs1 ht hvm hw2 hB hz1 hk1 hS1 => ?_)
  obtain ⟨hP1, hD1⟩ := hB
  rw [ht] at hP1
  exact g  u hw2 H1 locs1 ls hP1 hD1 hS1 hl
theorem go_cSr {K : Nat → tq_St → Prop} (C : tq_C X cc nL own kr) {index : Nat} {As : List Value} (hw : tq_Wst own index y cy n ret np) (hM : tq_Mr y cy n ret k av S K) (hav : av (tq_la X) (tq_zl X) = As) (hst : st0 = As.reverse ++ st) (hn : As.length = np) (hrk : tq_rk k kr n = true) (hrm : Nat.ble ((st.map fun v => v.category).sum) 8 = true) (hd : decode cc pc = .ok (.invokestatic index, 3)) (g : ∀ i S', K i S' → Go X nL S' (pc + 3) lv (.ref ((tq_zl X).2.1 i) :: st)) : Go X nL S pc lv st0 := by
  obtain ⟨p, l, e, R, s, m, args, below, meth, c, A, a, z, Q⟩ := X
  intro H locs ls hP hD hS hl
  have hR : R = tq_rm kr := C.2.2.2.2.2.2.2.1
  subst hR
  have hav : av a z = As := hav
  have hM := hM l A a z
  rw [hav] at hM
  refine va_callr (va_runS (As := As) (rest := st) ⟨C.1, C.2.1, C.2.2.1, C.2.2.2.1, C.2.2.2.2.1⟩ hM (va_cwS np C.2.2.2.2.1 hw.1 rfl rfl rfl hw.2 (tq_rk_ok hrk)) ⟨tq_blind, fun U hU hW => ⟨rfl, by rw [hU]; exact hP, va_K.moved hW.alike C.2.2.2.2.2.1, hD, (C.2.2.2.2.2.2.1).to hS hU hW⟩⟩ rfl hn hl.1 hst (lv_room (Nat.le_of_ble_eq_true hrm)) hd ⟨Nat.zero_le _, Nat.zero_le _⟩) hS (fun q _ h => h) (fun q h => h) (fun u ra t H1 locs1 ht hvm hw2 hB hz1 hk1 hS1 => ?_)
  obtain ⟨hra, hP1, hD1⟩ := hB
  rw [ht] at hP1
  subst hra
  exact g u.1 u.2 hw2 H1 locs1 ls hP1 hD1 hS1 hl
theorem tq_mkR {K : Nat → tq_St → Prop} {C9 : String} (hy : plainName y.cls = true) (hlen : ∀ a z, (lg_sl (av a z)).length ≤ n) (h : ∀ X : tq_Cx, tq_C X cc n y.cls k → tq_Rr X cc n K → Go X n S 0 (lv_args 0 (av (tq_la X) (tq_zl X))) []) : tq_Mr y cc n (some (.object C9)) k av S K := by
  refine tq_mk (Qc := fun a z A => va_Qr (fun u : Nat × tq_St => K u.1 u.2) (fun u q t => q = z.2.1 u.1 ∧ tq_Post a A u.2 t) A) hy hlen ?_
  rintro ⟨p, l, e, R, s, m, args, below, meth, c, A, a, z, Q⟩ C ⟨s', args', below', h1, h2, h3, h4, h5⟩
  refine h _ C ?_
  intro r S' pc lv hd hK H locs ls hP hD hS hl
  have hr : meth.sig.returnType = some (.object C9) := h3
  have hQ : Q = MQ below' (va_Qr (fun u : Nat × tq_St => K u.1 u.2) (fun u q t => q = z.2.1 u.1 ∧ tq_Post a A u.2 t) A) args' s' 0 0 A := h4
  have e1 : s = s' := h1
  have e2 : args = args' := h2
  have e3 : below = below' := h5
  subst e1; subst e2; subst e3; subst hQ
  exact W.aret C.1 C.2.1 hr (Or.inl ⟨_, rfl⟩) (Or.inr ⟨_, rfl⟩) (fun t ht hW => ⟨⟨(r, S'), z.2.1 r, rfl, hK, rfl, by rw [tq_Post, ht]; exact ⟨hP, hD⟩⟩, hS.F ht⟩) hS.2.2 hd C.2.2.2.2.2.2.2.2
theorem go_ldcS (C : tq_C X cc nL RX5 kr) (i : Nat) (hi : i < 7) {index : Nat} (hx : (tq_txL.getD i (0, "")).1 = index) (hd : decode cc pc = .ok (.ldc index, 2)) (g : Go X nL S (pc + 2) lv (.ref ((tq_zl X).2.1 i) :: st)) : Go X nL S pc lv st := by
  obtain ⟨p, l, e, R, s, m, args, below, meth, c, A, a, z, Q⟩ := X
  subst hx
  intro H locs ls hP hD hS hl
  have hZ : tq_Z z A s s.heap := C.2.2.2.2.2.2.1
  exact va_ldcS C.1 C.2.1 C.2.2.2.1 (hZ.2.2.2.2.1 i hi) hd (g H locs ls hP hD hS hl)
theorem tq_recS (C : tq_C X cc nL own kr) {i : Nat} (hi : i < 7) : tq_rec X S ((tq_zl X).2.1 i) "java/lang/String" := by
  obtain ⟨p, l, e, R, s, m, args, below, meth, c, A, a, z, Q⟩ := X
  intro H locs hP hS
  have hZ : tq_Z z A s s.heap := C.2.2.2.2.2.2.1
  exact vk_recv hZ.2.2.2.1 hi hS
theorem go_strV (C : tq_C X cc nL own kr) {i : Nat} (hi : i < 7) {index : Nat} (hlink : Cond.fieldLink own index "java/lang/String" "value" "[B" ∈ tq_tbl) (hd : decode cc pc = .ok (.getfield index, 3)) (g : Go X nL S (pc + 3) lv (.ref ((tq_zl X).2.2 i) :: st)) : Go X nL S pc lv (.ref ((tq_zl X).2.1 i) :: st) := by
  obtain ⟨p, l, e, R, s, m, args, below, meth, c, A, a, z, Q⟩ := X
  intro H locs ls hP hD hS hl
  have hZ : tq_Z z A s s.heap := C.2.2.2.2.2.2.1
  exact vk_getf C.1 C.2.1 (hZ.2.2.2.1.1 i hi).2.2.1 hS C.2.2.2.1 (C.2.2.2.2.1 _ hlink) (fun _ h9 => h9) hd (g H locs ls hP hD hS hl)
theorem go_strC (C : tq_C X cc nL own kr) {i : Nat} (hi : i < 7) {index : Nat} (hlink : Cond.fieldLink own index "java/lang/String" "coder" "B" ∈ tq_tbl) (hd : decode cc pc = .ok (.getfield index, 3)) (g : Go X nL S (pc + 3) lv (.int 0 :: st)) : Go X nL S pc lv (.ref ((tq_zl X).2.1 i) :: st) := by
  obtain ⟨p, l, e, R, s, m, args, below, meth, c, A, a, z, Q⟩ := X
  intro H locs ls hP hD hS hl
  have hZ : tq_Z z A s s.heap := C.2.2.2.2.2.2.1
  exact vk_getf C.1 C.2.1 (hZ.2.2.2.1.1 i hi).2.1 hS C.2.2.2.1 (C.2.2.2.2.1 _ hlink) (fun _ h9 => h9) hd (g H locs ls hP hD hS hl)
theorem go_strK (C : tq_C X cc nL own kr) {index : Nat} (hlink : Cond.fieldLink own index "java/lang/String" "COMPACT_STRINGS" "Z" ∈ tq_tbl) (hd : decode cc pc = .ok (.getstatic index, 3)) (g : Go X nL S (pc + 3) lv (.int 1 :: st)) : Go X nL S pc lv st := by
  obtain ⟨p, l, e, R, s, m, args, below, meth, c, A, a, z, Q⟩ := X
  intro H locs ls hP hD hS hl
  have hZ : tq_Z z A s s.heap := C.2.2.2.2.2.2.1
  exact va_gets C.1 C.2.1 hZ.2.2.2.2.2 hS C.2.2.2.1 (C.2.2.2.2.1 _ hlink) (fun _ h9 => h9) hd (g H locs ls hP hD hS hl)
theorem go_strN (C : tq_C X cc nL own kr) {i : Nat} (hi : i < 7) (hd : decode cc pc = .ok (.arraylength, 1)) (g : Go X nL S (pc + 1) lv (.int (nI (tq_len.getD i 0)) :: st)) : Go X nL S pc lv (.ref ((tq_zl X).2.2 i) :: st) := by
  obtain ⟨p, l, e, R, s, m, args, below, meth, c, A, a, z, Q⟩ := X
  intro H locs ls hP hD hS hl
  have hZ : tq_Z z A s s.heap := C.2.2.2.2.2.2.1
  exact va_tlen C.1 C.2.1 (hZ.2.2.2.1.1 i hi).2.2.2 hS rfl hd (g H locs ls hP hD hS hl)
theorem go_strB (C : tq_C X cc nL own kr) {i : Nat} (hi : i < 7) {x : Int32} (hin : vp_in x (tq_len.getD i 0)) (hd : decode cc pc = .ok (.baload, 1)) (g : Go X nL S (pc + 1) lv (.int ((tq_byt.getD i []).getD x.toNatClampNeg 0) :: st)) : Go X nL S pc lv (.int x :: .ref ((tq_zl X).2.2 i) :: st) := by
  obtain ⟨p, l, e, R, s, m, args, below, meth, c, A, a, z, Q⟩ := X
  intro H locs ls hP hD hS hl
  have hZ : tq_Z z A s s.heap := C.2.2.2.2.2.2.1
  exact va_tb C.1 C.2.1 (hZ.2.2.2.1.1 i hi).2.2.2 hS hin rfl hd (g H locs ls hP hD hS hl)
end CS
end
