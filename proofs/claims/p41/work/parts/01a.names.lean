def RX0 : String := "TearsQueue$Chances"
def TX0 : u_T := fun k => match k with
  | 0 => ("TearsQueue$Chances", "levels", "[LTearsQueue$Evening;", true)
  | 1 => ("TearsQueue$Chances", "goneWeight", "[J", true)
  | _ => ("TearsQueue$Chances", "whole", "J", false)
def tyX0 : Nat → FieldType := fun k => match k with
  | 0 => .array (.object "TearsQueue$Evening")
  | 1 => .array .long
  | _ => .long
abbrev wsX00 : List Cond := u_ws RX0 TX0 3
theorem nmX0 : ∀ a, a < 3 → ∀ b, b < 3 → a ≠ b → (TX0 a).2.1 ≠ (TX0 b).2.1 := by decide +kernel
theorem tyX0_ok : ∀ k, k < 3 → parseFieldDescriptor (TX0 k).2.2.1 = some (tyX0 k) := by decide +kernel
abbrev cX0_init : ByteArray := prog_2_method_1_code
def yX0_init : MethodName := ⟨RX0, "<init>", "()V"⟩
abbrev cX0_weightOf : ByteArray := prog_2_method_2_code
def yX0_weightOf : MethodName := ⟨RX0, "weightOf", "(I)J"⟩
abbrev cX0_weighPlan : ByteArray := prog_2_method_3_code
def yX0_weighPlan : MethodName := ⟨RX0, "weighPlan", "(LTearsQueue$Evening;I)V"⟩
abbrev cX0_weighFrom : ByteArray := prog_2_method_4_code
def yX0_weighFrom : MethodName := ⟨RX0, "weighFrom", "(IJI)V"⟩
abbrev cX0_addWeight : ByteArray := prog_2_method_5_code
def yX0_addWeight : MethodName := ⟨RX0, "addWeight", "(LTearsQueue$Evening;J)V"⟩
def RX1 : String := "TearsQueue$Evening"
def TX1 : u_T := fun k => match k with
  | 0 => ("TearsQueue$Evening", "kind", "[I", true)
  | 1 => ("TearsQueue$Evening", "sorrow", "[I", true)
  | 2 => ("TearsQueue$Evening", "weptIn", "[I", true)
  | 3 => ("TearsQueue$Evening", "acts", "[I", true)
  | 4 => ("TearsQueue$Evening", "line", "[I", true)
  | 5 => ("TearsQueue$Evening", "people", "I", false)
  | 6 => ("TearsQueue$Evening", "goneBits", "I", false)
  | 7 => ("TearsQueue$Evening", "minute", "I", false)
  | 8 => ("TearsQueue$Evening", "room", "I", false)
  | 9 => ("TearsQueue$Evening", "think", "I", false)
  | 10 => ("TearsQueue$Evening", "actCount", "I", false)
  | 11 => ("TearsQueue$Evening", "weepers", "I", false)
  | 12 => ("TearsQueue$Evening", "weepings", "I", false)
  | _ => ("TearsQueue$Evening", "passedOver", "I", false)
def tyX1 : Nat → FieldType := fun k => match k with
  | 0 => .array .int
  | 1 => .array .int
  | 2 => .array .int
  | 3 => .array .int
  | 4 => .array .int
  | 5 => .int
  | 6 => .int
  | 7 => .int
  | 8 => .int
  | 9 => .int
  | 10 => .int
  | 11 => .int
  | 12 => .int
  | _ => .int
abbrev wsX10 : List Cond := u_ws RX1 TX1 14
theorem nmX1 : ∀ a, a < 14 → ∀ b, b < 14 → a ≠ b → (TX1 a).2.1 ≠ (TX1 b).2.1 := by decide +kernel
theorem tyX1_ok : ∀ k, k < 14 → parseFieldDescriptor (TX1 k).2.2.1 = some (tyX1 k) := by decide +kernel
abbrev cX1_init : ByteArray := prog_3_method_1_code
def yX1_init : MethodName := ⟨RX1, "<init>", "()V"⟩
abbrev cX1_clear : ByteArray := prog_3_method_2_code
def yX1_clear : MethodName := ⟨RX1, "clear", "()V"⟩
abbrev cX1_clearTally : ByteArray := prog_3_method_3_code
def yX1_clearTally : MethodName := ⟨RX1, "clearTally", "()V"⟩
abbrev cX1_copyFrom : ByteArray := prog_3_method_4_code
def yX1_copyFrom : MethodName := ⟨RX1, "copyFrom", "(LTearsQueue$Evening;)V"⟩
abbrev cX1_startFrom : ByteArray := prog_3_method_5_code
def yX1_startFrom : MethodName := ⟨RX1, "startFrom", "(LTearsQueue$Evening;)V"⟩
abbrev cX1_isThere : ByteArray := prog_3_method_6_code
def yX1_isThere : MethodName := ⟨RX1, "isThere", "(I)Z"⟩
abbrev cX1_waits : ByteArray := prog_3_method_7_code
def yX1_waits : MethodName := ⟨RX1, "waits", "(I)Z"⟩
abbrev cX1_isAct : ByteArray := prog_3_method_8_code
def yX1_isAct : MethodName := ⟨RX1, "isAct", "(I)Z"⟩
abbrev cX1_brim : ByteArray := prog_3_method_9_code
def yX1_brim : MethodName := ⟨RX1, "brim", "(I)I"⟩
abbrev cX1_weptOrNone : ByteArray := prog_3_method_10_code
def yX1_weptOrNone : MethodName := ⟨RX1, "weptOrNone", "(I)I"⟩
abbrev cX1_waitingBits : ByteArray := prog_3_method_11_code
def yX1_waitingBits : MethodName := ⟨RX1, "waitingBits", "()I"⟩
abbrev cX1_allSorrow : ByteArray := prog_3_method_12_code
def yX1_allSorrow : MethodName := ⟨RX1, "allSorrow", "()I"⟩
abbrev cX1_everWept : ByteArray := prog_3_method_13_code
def yX1_everWept : MethodName := ⟨RX1, "everWept", "()I"⟩
abbrev cX1_tramsPlanned : ByteArray := prog_3_method_14_code
def yX1_tramsPlanned : MethodName := ⟨RX1, "tramsPlanned", "()I"⟩
abbrev cX1_addOne : ByteArray := prog_3_method_15_code
def yX1_addOne : MethodName := ⟨RX1, "addOne", "(II)V"⟩
abbrev cX1_addAct : ByteArray := prog_3_method_16_code
def yX1_addAct : MethodName := ⟨RX1, "addAct", "(I)Z"⟩
abbrev cX1_changeActs : ByteArray := prog_3_method_17_code
def yX1_changeActs : MethodName := ⟨RX1, "changeActs", "(II)V"⟩
abbrev cX1_allActsFit : ByteArray := prog_3_method_18_code
def yX1_allActsFit : MethodName := ⟨RX1, "allActsFit", "()Z"⟩
abbrev cX1_followPlan : ByteArray := prog_3_method_19_code
def yX1_followPlan : MethodName := ⟨RX1, "followPlan", "()V"⟩
abbrev cX1_play : ByteArray := prog_3_method_20_code
def yX1_play : MethodName := ⟨RX1, "play", "(I)Z"⟩
abbrev cX1_thinkAndWeep : ByteArray := prog_3_method_21_code
def yX1_thinkAndWeep : MethodName := ⟨RX1, "thinkAndWeep", "(I)I"⟩
abbrev cX1_firstToWeep : ByteArray := prog_3_method_22_code
def yX1_firstToWeep : MethodName := ⟨RX1, "firstToWeep", "(I)I"⟩
abbrev cX1_weep : ByteArray := prog_3_method_23_code
def yX1_weep : MethodName := ⟨RX1, "weep", "(I)V"⟩
abbrev cX1_nearest : ByteArray := prog_3_method_24_code
def yX1_nearest : MethodName := ⟨RX1, "nearest", "(II)I"⟩
abbrev cX1_sadden : ByteArray := prog_3_method_25_code
def yX1_sadden : MethodName := ⟨RX1, "sadden", "(II)V"⟩
abbrev cX1_dry : ByteArray := prog_3_method_26_code
def yX1_dry : MethodName := ⟨RX1, "dry", "()V"⟩
abbrev cX1_board : ByteArray := prog_3_method_27_code
def yX1_board : MethodName := ⟨RX1, "board", "()I"⟩
abbrev cX1_inLine : ByteArray := prog_3_method_28_code
def yX1_inLine : MethodName := ⟨RX1, "inLine", "(I)I"⟩
abbrev cX1_lineUp : ByteArray := prog_3_method_29_code
def yX1_lineUp : MethodName := ⟨RX1, "lineUp", "()I"⟩
abbrev cX1_rank : ByteArray := prog_3_method_30_code
def yX1_rank : MethodName := ⟨RX1, "rank", "(I)I"⟩
def RX2 : String := "TearsQueue$Rows"
def TX2 : u_T := fun k => match k with
  | 0 => ("TearsQueue$Rows", "levels", "[LTearsQueue$Evening;", true)
  | 1 => ("TearsQueue$Rows", "row", "[I", true)
  | 2 => ("TearsQueue$Rows", "found", "[I", true)
  | 3 => ("TearsQueue$Rows", "foundLength", "I", false)
  | 4 => ("TearsQueue$Rows", "foundWeepers", "I", false)
  | _ => ("TearsQueue$Rows", "foundWeepings", "I", false)
def tyX2 : Nat → FieldType := fun k => match k with
  | 0 => .array (.object "TearsQueue$Evening")
  | 1 => .array .int
  | 2 => .array .int
  | 3 => .int
  | 4 => .int
  | _ => .int
abbrev wsX20 : List Cond := u_ws RX2 TX2 6
theorem nmX2 : ∀ a, a < 6 → ∀ b, b < 6 → a ≠ b → (TX2 a).2.1 ≠ (TX2 b).2.1 := by decide +kernel
theorem tyX2_ok : ∀ k, k < 6 → parseFieldDescriptor (TX2 k).2.2.1 = some (tyX2 k) := by decide +kernel
abbrev cX2_init : ByteArray := prog_4_method_1_code
def yX2_init : MethodName := ⟨RX2, "<init>", "()V"⟩
abbrev cX2_foundAt : ByteArray := prog_4_method_2_code
def yX2_foundAt : MethodName := ⟨RX2, "foundAt", "(I)I"⟩
abbrev cX2_findMostTears : ByteArray := prog_4_method_3_code
def yX2_findMostTears : MethodName := ⟨RX2, "findMostTears", "(LTearsQueue$Evening;I)V"⟩
abbrev cX2_tryRows : ByteArray := prog_4_method_4_code
def yX2_tryRows : MethodName := ⟨RX2, "tryRows", "(II)V"⟩
abbrev cX2_findWayHome : ByteArray := prog_4_method_5_code
def yX2_findWayHome : MethodName := ⟨RX2, "findWayHome", "(LTearsQueue$Evening;I)Z"⟩
abbrev cX2_isHome : ByteArray := prog_4_method_6_code
def yX2_isHome : MethodName := ⟨RX2, "isHome", "(III)Z"⟩
abbrev cX2_keepRow : ByteArray := prog_4_method_7_code
def yX2_keepRow : MethodName := ⟨RX2, "keepRow", "(I)V"⟩
def RX3 : String := "TearsQueue$Sheet"
def TX3 : u_T := fun k => match k with
  | 0 => ("TearsQueue$Sheet", "cells", "[I", true)
  | 1 => ("TearsQueue$Sheet", "laid", "Z", false)
  | 2 => ("TearsQueue$Sheet", "lane", "I", false)
  | _ => ("TearsQueue$Sheet", "length", "I", false)
def tyX3 : Nat → FieldType := fun k => match k with
  | 0 => .array .int
  | 1 => .boolean
  | 2 => .int
  | _ => .int
abbrev wsX30 : List Cond := u_ws RX3 TX3 4
theorem nmX3 : ∀ a, a < 4 → ∀ b, b < 4 → a ≠ b → (TX3 a).2.1 ≠ (TX3 b).2.1 := by decide +kernel
theorem tyX3_ok : ∀ k, k < 4 → parseFieldDescriptor (TX3 k).2.2.1 = some (tyX3 k) := by decide +kernel
abbrev cX3_init : ByteArray := prog_5_method_1_code
def yX3_init : MethodName := ⟨RX3, "<init>", "()V"⟩
abbrev cX3_renew : ByteArray := prog_5_method_2_code
def yX3_renew : MethodName := ⟨RX3, "renew", "(II)V"⟩
abbrev cX3_faultAt : ByteArray := prog_5_method_3_code
def yX3_faultAt : MethodName := ⟨RX3, "faultAt", "(II)I"⟩
abbrev cX3_put : ByteArray := prog_5_method_4_code
def yX3_put : MethodName := ⟨RX3, "put", "(II)V"⟩
def RX4 : String := "TearsQueue$Sightings"
def TX4 : u_T := fun k => match k with
  | 0 => ("TearsQueue$Sightings", "who", "[I", true)
  | 1 => ("TearsQueue$Sightings", "isGone", "[Z", true)
  | _ => ("TearsQueue$Sightings", "number", "I", false)
def tyX4 : Nat → FieldType := fun k => match k with
  | 0 => .array .int
  | 1 => .array .boolean
  | _ => .int
abbrev wsX40 : List Cond := u_ws RX4 TX4 3
theorem nmX4 : ∀ a, a < 3 → ∀ b, b < 3 → a ≠ b → (TX4 a).2.1 ≠ (TX4 b).2.1 := by decide +kernel
theorem tyX4_ok : ∀ k, k < 3 → parseFieldDescriptor (TX4 k).2.2.1 = some (tyX4 k) := by decide +kernel
abbrev cX4_init : ByteArray := prog_6_method_1_code
def yX4_init : MethodName := ⟨RX4, "<init>", "()V"⟩
abbrev cX4_add : ByteArray := prog_6_method_2_code
def yX4_add : MethodName := ⟨RX4, "add", "(IZ)Z"⟩
abbrev cX4_agreeWith : ByteArray := prog_6_method_3_code
def yX4_agreeWith : MethodName := ⟨RX4, "agreeWith", "(I)Z"⟩
def RX5 : String := "TearsQueue$Tape"
def TX5 : u_T := fun k => match k with
  | 0 => ("TearsQueue$Tape", "bytes", "[B", true)
  | 1 => ("TearsQueue$Tape", "draft", "LTearsQueue$Evening;", true)
  | 2 => ("TearsQueue$Tape", "length", "I", false)
  | 3 => ("TearsQueue$Tape", "fault", "I", false)
  | 4 => ("TearsQueue$Tape", "faultPlace", "I", false)
  | 5 => ("TearsQueue$Tape", "settingsTold", "I", false)
  | 6 => ("TearsQueue$Tape", "place", "I", false)
  | 7 => ("TearsQueue$Tape", "sort", "I", false)
  | 8 => ("TearsQueue$Tape", "start", "I", false)
  | _ => ("TearsQueue$Tape", "value", "I", false)
def tyX5 : Nat → FieldType := fun k => match k with
  | 0 => .array .byte
  | 1 => .object "TearsQueue$Evening"
  | 2 => .int
  | 3 => .int
  | 4 => .int
  | 5 => .int
  | 6 => .int
  | 7 => .int
  | 8 => .int
  | _ => .int
abbrev wsX50 : List Cond := u_ws RX5 TX5 10
theorem nmX5 : ∀ a, a < 10 → ∀ b, b < 10 → a ≠ b → (TX5 a).2.1 ≠ (TX5 b).2.1 := by decide +kernel
theorem tyX5_ok : ∀ k, k < 10 → parseFieldDescriptor (TX5 k).2.2.1 = some (tyX5 k) := by decide +kernel
abbrev cX5_init : ByteArray := prog_7_method_1_code
def yX5_init : MethodName := ⟨RX5, "<init>", "()V"⟩
abbrev cX5_append : ByteArray := prog_7_method_2_code
def yX5_append : MethodName := ⟨RX5, "append", "(I)Z"⟩
abbrev cX5_tellAll : ByteArray := prog_7_method_3_code
def yX5_tellAll : MethodName := ⟨RX5, "tellAll", "()I"⟩
abbrev cX5_tellLine : ByteArray := prog_7_method_4_code
def yX5_tellLine : MethodName := ⟨RX5, "tellLine", "()V"⟩
abbrev cX5_tellOne : ByteArray := prog_7_method_5_code
def yX5_tellOne : MethodName := ⟨RX5, "tellOne", "(I)V"⟩
abbrev cX5_tellPlan : ByteArray := prog_7_method_6_code
def yX5_tellPlan : MethodName := ⟨RX5, "tellPlan", "()V"⟩
abbrev cX5_takeNumber : ByteArray := prog_7_method_7_code
def yX5_takeNumber : MethodName := ⟨RX5, "takeNumber", "(II)I"⟩
abbrev cX5_takeSemicolon : ByteArray := prog_7_method_8_code
def yX5_takeSemicolon : MethodName := ⟨RX5, "takeSemicolon", "()V"⟩
abbrev cX5_fail : ByteArray := prog_7_method_9_code
def yX5_fail : MethodName := ⟨RX5, "fail", "(II)V"⟩
abbrev cX5_takeToken : ByteArray := prog_7_method_10_code
def yX5_takeToken : MethodName := ⟨RX5, "takeToken", "()V"⟩
abbrev cX5_sortOf : ByteArray := prog_7_method_11_code
def yX5_sortOf : MethodName := ⟨RX5, "sortOf", "(I)I"⟩
abbrev cX5_lineBegun : ByteArray := prog_7_method_12_code
def yX5_lineBegun : MethodName := ⟨RX5, "lineBegun", "()I"⟩
abbrev cX5_nameOf : ByteArray := prog_7_method_13_code
def yX5_nameOf : MethodName := ⟨RX5, "nameOf", "(I)Ljava/lang/String;"⟩
abbrev cX5_isName : ByteArray := prog_7_method_14_code
def yX5_isName : MethodName := ⟨RX5, "isName", "(Ljava/lang/String;)Z"⟩
def RX6 : String := "TearsQueue"
def TX6 : u_T := fun k => match k with
  | 0 => ("TearsQueue", "now", "LTearsQueue$Evening;", true)
  | 1 => ("TearsQueue", "trial", "LTearsQueue$Evening;", true)
  | 2 => ("TearsQueue", "tape", "LTearsQueue$Tape;", true)
  | 3 => ("TearsQueue", "sightings", "LTearsQueue$Sightings;", true)
  | 4 => ("TearsQueue", "rows", "LTearsQueue$Rows;", true)
  | 5 => ("TearsQueue", "chances", "LTearsQueue$Chances;", true)
  | 6 => ("TearsQueue", "images", "[LTearsQueue$Evening;", true)
  | 7 => ("TearsQueue", "kept", "[Z", true)
  | 8 => ("TearsQueue", "sheets", "[LTearsQueue$Sheet;", true)
  | 9 => ("TearsQueue", "outcomes", "[I", true)
  | _ => ("TearsQueue", "tornFault", "I", false)
def tyX6 : Nat → FieldType := fun k => match k with
  | 0 => .object "TearsQueue$Evening"
  | 1 => .object "TearsQueue$Evening"
  | 2 => .object "TearsQueue$Tape"
  | 3 => .object "TearsQueue$Sightings"
  | 4 => .object "TearsQueue$Rows"
  | 5 => .object "TearsQueue$Chances"
  | 6 => .array (.object "TearsQueue$Evening")
  | 7 => .array .boolean
  | 8 => .array (.object "TearsQueue$Sheet")
  | 9 => .array .int
  | _ => .int
abbrev wsX60 : List Cond := u_ws RX6 TX6 11
theorem nmX6 : ∀ a, a < 11 → ∀ b, b < 11 → a ≠ b → (TX6 a).2.1 ≠ (TX6 b).2.1 := by decide +kernel
theorem tyX6_ok : ∀ k, k < 11 → parseFieldDescriptor (TX6 k).2.2.1 = some (tyX6 k) := by decide +kernel
abbrev cX6_init : ByteArray := prog_1_method_1_code
def yX6_init : MethodName := ⟨RX6, "<init>", "()V"⟩
abbrev cX6_feed : ByteArray := prog_1_method_2_code
def yX6_feed : MethodName := ⟨RX6, "feed", "(I)I"⟩
abbrev cX6_end : ByteArray := prog_1_method_3_code
def yX6_end : MethodName := ⟨RX6, "end", "(I)I"⟩
abbrev cX6_text : ByteArray := prog_1_method_4_code
def yX6_text : MethodName := ⟨RX6, "text", "()I"⟩
abbrev cX6_fault : ByteArray := prog_1_method_5_code
def yX6_fault : MethodName := ⟨RX6, "fault", "()I"⟩
abbrev cX6_rule : ByteArray := prog_1_method_6_code
def yX6_rule : MethodName := ⟨RX6, "rule", "(I)I"⟩
abbrev cX6_one : ByteArray := prog_1_method_7_code
def yX6_one : MethodName := ⟨RX6, "one", "(II)I"⟩
abbrev cX6_act : ByteArray := prog_1_method_8_code
def yX6_act : MethodName := ⟨RX6, "act", "(I)I"⟩
abbrev cX6_queue : ByteArray := prog_1_method_9_code
def yX6_queue : MethodName := ⟨RX6, "queue", "(I)I"⟩
abbrev cX6_alter : ByteArray := prog_1_method_10_code
def yX6_alter : MethodName := ⟨RX6, "alter", "(III)I"⟩
abbrev cX6_room : ByteArray := prog_1_method_11_code
def yX6_room : MethodName := ⟨RX6, "room", "(I)I"⟩
abbrev cX6_think : ByteArray := prog_1_method_12_code
def yX6_think : MethodName := ⟨RX6, "think", "(I)I"⟩
abbrev cX6_plan : ByteArray := prog_1_method_13_code
def yX6_plan : MethodName := ⟨RX6, "plan", "(I)I"⟩
abbrev cX6_cut : ByteArray := prog_1_method_14_code
def yX6_cut : MethodName := ⟨RX6, "cut", "(I)I"⟩
abbrev cX6_thinks : ByteArray := prog_1_method_15_code
def yX6_thinks : MethodName := ⟨RX6, "thinks", "(I)I"⟩
abbrev cX6_minutes : ByteArray := prog_1_method_16_code
def yX6_minutes : MethodName := ⟨RX6, "minutes", "(I)I"⟩
abbrev cX6_tram : ByteArray := prog_1_method_17_code
def yX6_tram : MethodName := ⟨RX6, "tram", "()I"⟩
abbrev cX6_joy : ByteArray := prog_1_method_18_code
def yX6_joy : MethodName := ⟨RX6, "joy", "(I)I"⟩
abbrev cX6_second : ByteArray := prog_1_method_19_code
def yX6_second : MethodName := ⟨RX6, "second", "()I"⟩
abbrev cX6_runs : ByteArray := prog_1_method_20_code
def yX6_runs : MethodName := ⟨RX6, "runs", "(I)I"⟩
abbrev cX6_ahead : ByteArray := prog_1_method_21_code
def yX6_ahead : MethodName := ⟨RX6, "ahead", "(II)I"⟩
abbrev cX6_soon : ByteArray := prog_1_method_22_code
def yX6_soon : MethodName := ⟨RX6, "soon", "(I)I"⟩
abbrev cX6_best : ByteArray := prog_1_method_23_code
def yX6_best : MethodName := ⟨RX6, "best", "(II)I"⟩
abbrev cX6_home : ByteArray := prog_1_method_24_code
def yX6_home : MethodName := ⟨RX6, "home", "(II)I"⟩
abbrev cX6_swap : ByteArray := prog_1_method_25_code
def yX6_swap : MethodName := ⟨RX6, "swap", "(I)I"⟩
abbrev cX6_enough : ByteArray := prog_1_method_26_code
def yX6_enough : MethodName := ⟨RX6, "enough", "()I"⟩
abbrev cX6_luck : ByteArray := prog_1_method_27_code
def yX6_luck : MethodName := ⟨RX6, "luck", "(III)J"⟩
abbrev cX6_mean : ByteArray := prog_1_method_28_code
def yX6_mean : MethodName := ⟨RX6, "mean", "(II)J"⟩
abbrev cX6_see : ByteArray := prog_1_method_29_code
def yX6_see : MethodName := ⟨RX6, "see", "(IZ)I"⟩
abbrev cX6_forget : ByteArray := prog_1_method_30_code
def yX6_forget : MethodName := ⟨RX6, "forget", "(I)I"⟩
abbrev cX6_kinds : ByteArray := prog_1_method_31_code
def yX6_kinds : MethodName := ⟨RX6, "kinds", "(I)I"⟩
abbrev cX6_sorrows : ByteArray := prog_1_method_32_code
def yX6_sorrows : MethodName := ⟨RX6, "sorrows", "(I)I"⟩
abbrev cX6_ask : ByteArray := prog_1_method_33_code
def yX6_ask : MethodName := ⟨RX6, "ask", "(II)I"⟩
abbrev cX6_drift : ByteArray := prog_1_method_34_code
def yX6_drift : MethodName := ⟨RX6, "drift", "(III)I"⟩
abbrev cX6_keep : ByteArray := prog_1_method_35_code
def yX6_keep : MethodName := ⟨RX6, "keep", "(I)I"⟩
abbrev cX6_back : ByteArray := prog_1_method_36_code
def yX6_back : MethodName := ⟨RX6, "back", "(I)I"⟩
abbrev cX6_sheet : ByteArray := prog_1_method_37_code
def yX6_sheet : MethodName := ⟨RX6, "sheet", "(III)I"⟩
abbrev cX6_lay : ByteArray := prog_1_method_38_code
def yX6_lay : MethodName := ⟨RX6, "lay", "(III)I"⟩
abbrev cX6_read : ByteArray := prog_1_method_39_code
def yX6_read : MethodName := ⟨RX6, "read", "(IIII)I"⟩
abbrev cX6_torn : ByteArray := prog_1_method_40_code
def yX6_torn : MethodName := ⟨RX6, "torn", "()I"⟩
abbrev cX6_count : ByteArray := prog_1_method_41_code
def yX6_count : MethodName := ⟨RX6, "count", "(I)I"⟩
abbrev cX6_isZeroOrOne : ByteArray := prog_1_method_42_code
def yX6_isZeroOrOne : MethodName := ⟨RX6, "isZeroOrOne", "(I)Z"⟩
abbrev cX6_isSheet : ByteArray := prog_1_method_43_code
def yX6_isSheet : MethodName := ⟨RX6, "isSheet", "(I)Z"⟩
abbrev cX6_isLane : ByteArray := prog_1_method_44_code
def yX6_isLane : MethodName := ⟨RX6, "isLane", "(I)Z"⟩
abbrev cX6_goneByChangedPlan : ByteArray := prog_1_method_45_code
def yX6_goneByChangedPlan : MethodName := ⟨RX6, "goneByChangedPlan", "(II)I"⟩
abbrev cX6_possibleSorrows : ByteArray := prog_1_method_46_code
def yX6_possibleSorrows : MethodName := ⟨RX6, "possibleSorrows", "(I)I"⟩
abbrev cX6_leftAtWorst : ByteArray := prog_1_method_47_code
def yX6_leftAtWorst : MethodName := ⟨RX6, "leftAtWorst", "(II)I"⟩
abbrev cX6_partOfFraction : ByteArray := prog_1_method_48_code
def yX6_partOfFraction : MethodName := ⟨RX6, "partOfFraction", "(JJI)J"⟩
abbrev cX6_greatestDivisor : ByteArray := prog_1_method_49_code
def yX6_greatestDivisor : MethodName := ⟨RX6, "greatestDivisor", "(JJ)J"⟩
def RX7 : String := "TearsQueueModel"
def TX7 : u_T := fun k => match k with
  | 0 => ("TearsQueueModel", "state", "[I", true)
  | 1 => ("TearsQueueModel", "brims", "[I", true)
  | 2 => ("TearsQueueModel", "oneMany", "I", false)
  | 3 => ("TearsQueueModel", "readPage", "[I", true)
  | 4 => ("TearsQueueModel", "readOnes", "I", false)
  | 5 => ("TearsQueueModel", "toldOnce", "I", false)
  | 6 => ("TearsQueueModel", "high", "I", false)
  | 7 => ("TearsQueueModel", "tape", "[I", true)
  | 8 => ("TearsQueueModel", "taped", "I", false)
  | 9 => ("TearsQueueModel", "fault", "I", false)
  | 10 => ("TearsQueueModel", "broken", "I", false)
  | 11 => ("TearsQueueModel", "brokenAt", "I", false)
  | 12 => ("TearsQueueModel", "spot", "I", false)
  | 13 => ("TearsQueueModel", "here", "I", false)
  | 14 => ("TearsQueueModel", "token", "I", false)
  | 15 => ("TearsQueueModel", "value", "I", false)
  | 16 => ("TearsQueueModel", "cuts", "[I", true)
  | 17 => ("TearsQueueModel", "letters", "[I", true)
  | 18 => ("TearsQueueModel", "weptBits", "I", false)
  | 19 => ("TearsQueueModel", "weptTimes", "I", false)
  | 20 => ("TearsQueueModel", "firstNot", "I", false)
  | 21 => ("TearsQueueModel", "seen", "[I", true)
  | 22 => ("TearsQueueModel", "seenMany", "I", false)
  | 23 => ("TearsQueueModel", "goneBy", "[I", true)
  | 24 => ("TearsQueueModel", "isKept", "[Z", true)
  | 25 => ("TearsQueueModel", "lanes", "[I", true)
  | 26 => ("TearsQueueModel", "lengths", "[I", true)
  | 27 => ("TearsQueueModel", "cells", "[I", true)
  | _ => ("TearsQueueModel", "torn", "I", false)
def tyX7 : Nat → FieldType := fun k => match k with
  | 0 => .array .int
  | 1 => .array .int
  | 2 => .int
  | 3 => .array .int
  | 4 => .int
  | 5 => .int
  | 6 => .int
  | 7 => .array .int
  | 8 => .int
  | 9 => .int
  | 10 => .int
  | 11 => .int
  | 12 => .int
  | 13 => .int
  | 14 => .int
  | 15 => .int
  | 16 => .array .int
  | 17 => .array .int
  | 18 => .int
  | 19 => .int
  | 20 => .int
  | 21 => .array .int
  | 22 => .int
  | 23 => .array .int
  | 24 => .array .boolean
  | 25 => .array .int
  | 26 => .array .int
  | 27 => .array .int
  | _ => .int
abbrev wsX70 : List Cond := u_ws RX7 TX7 29
theorem nmX7 : ∀ a, a < 29 → ∀ b, b < 29 → a ≠ b → (TX7 a).2.1 ≠ (TX7 b).2.1 := by decide +kernel
theorem tyX7_ok : ∀ k, k < 29 → parseFieldDescriptor (TX7 k).2.2.1 = some (tyX7 k) := by decide +kernel
abbrev cX7_init : ByteArray := prog_9_method_1_code
def yX7_init : MethodName := ⟨RX7, "<init>", "()V"⟩
abbrev cX7_in : ByteArray := prog_9_method_3_code
def yX7_in : MethodName := ⟨RX7, "in", "(JJJ)Z"⟩
abbrev cX7_feed : ByteArray := prog_9_method_4_code
def yX7_feed : MethodName := ⟨RX7, "feed", "(I)I"⟩
abbrev cX7_end : ByteArray := prog_9_method_5_code
def yX7_end : MethodName := ⟨RX7, "end", "(I)I"⟩
abbrev cX7_byteAt : ByteArray := prog_9_method_6_code
def yX7_byteAt : MethodName := ⟨RX7, "byteAt", "(I)I"⟩
abbrev cX7_fails : ByteArray := prog_9_method_7_code
def yX7_fails : MethodName := ⟨RX7, "fails", "(I)V"⟩
abbrev cX7_nameHere : ByteArray := prog_9_method_8_code
def yX7_nameHere : MethodName := ⟨RX7, "nameHere", "()I"⟩
abbrev cX7_step : ByteArray := prog_9_method_9_code
def yX7_step : MethodName := ⟨RX7, "step", "()V"⟩
abbrev cX7_number : ByteArray := prog_9_method_10_code
def yX7_number : MethodName := ⟨RX7, "number", "(II)I"⟩
abbrev cX7_readPlan : ByteArray := prog_9_method_11_code
def yX7_readPlan : MethodName := ⟨RX7, "readPlan", "()V"⟩
abbrev cX7_readMore : ByteArray := prog_9_method_12_code
def yX7_readMore : MethodName := ⟨RX7, "readMore", "(I)V"⟩
abbrev cX7_readLine : ByteArray := prog_9_method_13_code
def yX7_readLine : MethodName := ⟨RX7, "readLine", "()V"⟩
abbrev cX7_text : ByteArray := prog_9_method_14_code
def yX7_text : MethodName := ⟨RX7, "text", "()I"⟩
abbrev cX7_fault : ByteArray := prog_9_method_15_code
def yX7_fault : MethodName := ⟨RX7, "fault", "()I"⟩
abbrev cX7_isOne : ByteArray := prog_9_method_16_code
def yX7_isOne : MethodName := ⟨RX7, "isOne", "(I)Z"⟩
abbrev cX7_waits : ByteArray := prog_9_method_17_code
def yX7_waits : MethodName := ⟨RX7, "waits", "(II)Z"⟩
abbrev cX7_waitingOn : ByteArray := prog_9_method_18_code
def yX7_waitingOn : MethodName := ⟨RX7, "waitingOn", "(I)I"⟩
abbrev cX7_sorrowOn : ByteArray := prog_9_method_19_code
def yX7_sorrowOn : MethodName := ⟨RX7, "sorrowOn", "(I)I"⟩
abbrev cX7_grieves : ByteArray := prog_9_method_20_code
def yX7_grieves : MethodName := ⟨RX7, "grieves", "(III)V"⟩
abbrev cX7_setsOff : ByteArray := prog_9_method_21_code
def yX7_setsOff : MethodName := ⟨RX7, "setsOff", "(II)V"⟩
abbrev cX7_nextToWeep : ByteArray := prog_9_method_22_code
def yX7_nextToWeep : MethodName := ⟨RX7, "nextToWeep", "(II)I"⟩
abbrev cX7_thinksOn : ByteArray := prog_9_method_23_code
def yX7_thinksOn : MethodName := ⟨RX7, "thinksOn", "(II)I"⟩
abbrev cX7_minuteOn : ByteArray := prog_9_method_24_code
def yX7_minuteOn : MethodName := ⟨RX7, "minuteOn", "(I)V"⟩
abbrev cX7_placeOn : ByteArray := prog_9_method_25_code
def yX7_placeOn : MethodName := ⟨RX7, "placeOn", "(II)I"⟩
abbrev cX7_nextOn : ByteArray := prog_9_method_26_code
def yX7_nextOn : MethodName := ⟨RX7, "nextOn", "(II)I"⟩
abbrev cX7_tramOn : ByteArray := prog_9_method_27_code
def yX7_tramOn : MethodName := ⟨RX7, "tramOn", "(I)I"⟩
abbrev cX7_rule : ByteArray := prog_9_method_28_code
def yX7_rule : MethodName := ⟨RX7, "rule", "(I)I"⟩
abbrev cX7_orNone : ByteArray := prog_9_method_29_code
def yX7_orNone : MethodName := ⟨RX7, "orNone", "(I)I"⟩
abbrev cX7_one : ByteArray := prog_9_method_30_code
def yX7_one : MethodName := ⟨RX7, "one", "(II)I"⟩
abbrev cX7_act : ByteArray := prog_9_method_31_code
def yX7_act : MethodName := ⟨RX7, "act", "(I)I"⟩
abbrev cX7_queue : ByteArray := prog_9_method_32_code
def yX7_queue : MethodName := ⟨RX7, "queue", "(I)I"⟩
abbrev cX7_puts : ByteArray := prog_9_method_33_code
def yX7_puts : MethodName := ⟨RX7, "puts", "(ZIII)I"⟩
abbrev cX7_alter : ByteArray := prog_9_method_34_code
def yX7_alter : MethodName := ⟨RX7, "alter", "(III)I"⟩
abbrev cX7_room : ByteArray := prog_9_method_35_code
def yX7_room : MethodName := ⟨RX7, "room", "(I)I"⟩
abbrev cX7_think : ByteArray := prog_9_method_36_code
def yX7_think : MethodName := ⟨RX7, "think", "(I)I"⟩
abbrev cX7_isAct : ByteArray := prog_9_method_37_code
def yX7_isAct : MethodName := ⟨RX7, "isAct", "(I)Z"⟩
abbrev cX7_plan : ByteArray := prog_9_method_38_code
def yX7_plan : MethodName := ⟨RX7, "plan", "(I)I"⟩
abbrev cX7_cut : ByteArray := prog_9_method_39_code
def yX7_cut : MethodName := ⟨RX7, "cut", "(I)I"⟩
abbrev cX7_thinks : ByteArray := prog_9_method_40_code
def yX7_thinks : MethodName := ⟨RX7, "thinks", "(I)I"⟩
abbrev cX7_minutes : ByteArray := prog_9_method_41_code
def yX7_minutes : MethodName := ⟨RX7, "minutes", "(I)I"⟩
abbrev cX7_tram : ByteArray := prog_9_method_42_code
def yX7_tram : MethodName := ⟨RX7, "tram", "()I"⟩
abbrev cX7_joy : ByteArray := prog_9_method_43_code
def yX7_joy : MethodName := ⟨RX7, "joy", "(I)I"⟩
abbrev cX7_second : ByteArray := prog_9_method_44_code
def yX7_second : MethodName := ⟨RX7, "second", "()I"⟩
abbrev cX7_bitsOf : ByteArray := prog_9_method_45_code
def yX7_bitsOf : MethodName := ⟨RX7, "bitsOf", "(I)I"⟩
abbrev cX7_copies : ByteArray := prog_9_method_46_code
def yX7_copies : MethodName := ⟨RX7, "copies", "(II)V"⟩
abbrev cX7_begins : ByteArray := prog_9_method_47_code
def yX7_begins : MethodName := ⟨RX7, "begins", "(I)V"⟩
abbrev cX7_acts : ByteArray := prog_9_method_48_code
def yX7_acts : MethodName := ⟨RX7, "acts", "(I)Z"⟩
abbrev cX7_planGoes : ByteArray := prog_9_method_49_code
def yX7_planGoes : MethodName := ⟨RX7, "planGoes", "(II)V"⟩
abbrev cX7_goneThen : ByteArray := prog_9_method_50_code
def yX7_goneThen : MethodName := ⟨RX7, "goneThen", "()I"⟩
abbrev cX7_runs : ByteArray := prog_9_method_51_code
def yX7_runs : MethodName := ⟨RX7, "runs", "(I)I"⟩
abbrev cX7_ahead : ByteArray := prog_9_method_52_code
def yX7_ahead : MethodName := ⟨RX7, "ahead", "(II)I"⟩
abbrev cX7_soon : ByteArray := prog_9_method_53_code
def yX7_soon : MethodName := ⟨RX7, "soon", "(I)I"⟩
abbrev cX7_powerOf : ByteArray := prog_9_method_54_code
def yX7_powerOf : MethodName := ⟨RX7, "powerOf", "(II)I"⟩
abbrev cX7_figureOf : ByteArray := prog_9_method_55_code
def yX7_figureOf : MethodName := ⟨RX7, "figureOf", "(IIII)I"⟩
abbrev cX7_rowGoes : ByteArray := prog_9_method_56_code
def yX7_rowGoes : MethodName := ⟨RX7, "rowGoes", "(III)Z"⟩
abbrev cX7_best : ByteArray := prog_9_method_57_code
def yX7_best : MethodName := ⟨RX7, "best", "(II)I"⟩
abbrev cX7_home : ByteArray := prog_9_method_58_code
def yX7_home : MethodName := ⟨RX7, "home", "(II)I"⟩
abbrev cX7_swap : ByteArray := prog_9_method_59_code
def yX7_swap : MethodName := ⟨RX7, "swap", "(I)I"⟩
abbrev cX7_enough : ByteArray := prog_9_method_60_code
def yX7_enough : MethodName := ⟨RX7, "enough", "()I"⟩
abbrev cX7_lowest : ByteArray := prog_9_method_61_code
def yX7_lowest : MethodName := ⟨RX7, "lowest", "(JJI)J"⟩
abbrev cX7_byFails : ByteArray := prog_9_method_62_code
def yX7_byFails : MethodName := ⟨RX7, "byFails", "(III)J"⟩
abbrev cX7_luck : ByteArray := prog_9_method_63_code
def yX7_luck : MethodName := ⟨RX7, "luck", "(III)J"⟩
abbrev cX7_mean : ByteArray := prog_9_method_64_code
def yX7_mean : MethodName := ⟨RX7, "mean", "(II)J"⟩
abbrev cX7_see : ByteArray := prog_9_method_65_code
def yX7_see : MethodName := ⟨RX7, "see", "(IZ)I"⟩
abbrev cX7_forget : ByteArray := prog_9_method_66_code
def yX7_forget : MethodName := ⟨RX7, "forget", "(I)I"⟩
abbrev cX7_isAsSeen : ByteArray := prog_9_method_67_code
def yX7_isAsSeen : MethodName := ⟨RX7, "isAsSeen", "()Z"⟩
abbrev cX7_kinds : ByteArray := prog_9_method_68_code
def yX7_kinds : MethodName := ⟨RX7, "kinds", "(I)I"⟩
abbrev cX7_sorrowsOf : ByteArray := prog_9_method_69_code
def yX7_sorrowsOf : MethodName := ⟨RX7, "sorrowsOf", "(I)I"⟩
abbrev cX7_sorrows : ByteArray := prog_9_method_70_code
def yX7_sorrows : MethodName := ⟨RX7, "sorrows", "(I)I"⟩
abbrev cX7_ask : ByteArray := prog_9_method_71_code
def yX7_ask : MethodName := ⟨RX7, "ask", "(II)I"⟩
abbrev cX7_drift : ByteArray := prog_9_method_72_code
def yX7_drift : MethodName := ⟨RX7, "drift", "(III)I"⟩
abbrev cX7_keep : ByteArray := prog_9_method_73_code
def yX7_keep : MethodName := ⟨RX7, "keep", "(I)I"⟩
abbrev cX7_back : ByteArray := prog_9_method_74_code
def yX7_back : MethodName := ⟨RX7, "back", "(I)I"⟩
abbrev cX7_sheet : ByteArray := prog_9_method_75_code
def yX7_sheet : MethodName := ⟨RX7, "sheet", "(III)I"⟩
abbrev cX7_lay : ByteArray := prog_9_method_76_code
def yX7_lay : MethodName := ⟨RX7, "lay", "(III)I"⟩
abbrev cX7_does : ByteArray := prog_9_method_77_code
def yX7_does : MethodName := ⟨RX7, "does", "(I)Z"⟩
abbrev cX7_read : ByteArray := prog_9_method_78_code
def yX7_read : MethodName := ⟨RX7, "read", "(IIII)I"⟩
abbrev cX7_torn : ByteArray := prog_9_method_79_code
def yX7_torn : MethodName := ⟨RX7, "torn", "()I"⟩
abbrev cX7_count : ByteArray := prog_9_method_80_code
def yX7_count : MethodName := ⟨RX7, "count", "(I)I"⟩
def RJx145de : String := "java/io/Serializable"
def TJx145de : u_T := fun k => match k with
  | _ => ("", "", "", false)
def tyJx145de : Nat → FieldType := fun k => match k with
  | _ => .int
abbrev wsJx145de0 : List Cond := u_ws RJx145de TJx145de 0
theorem nmJx145de : ∀ a, a < 0 → ∀ b, b < 0 → a ≠ b → (TJx145de a).2.1 ≠ (TJx145de b).2.1 := by decide +kernel
theorem tyJx145de_ok : ∀ k, k < 0 → parseFieldDescriptor (TJx145de k).2.2.1 = some (tyJx145de k) := by decide +kernel
def RJx9f9b0 : String := "java/lang/CharSequence"
def TJx9f9b0 : u_T := fun k => match k with
  | _ => ("", "", "", false)
def tyJx9f9b0 : Nat → FieldType := fun k => match k with
  | _ => .int
abbrev wsJx9f9b00 : List Cond := u_ws RJx9f9b0 TJx9f9b0 0
theorem nmJx9f9b0 : ∀ a, a < 0 → ∀ b, b < 0 → a ≠ b → (TJx9f9b0 a).2.1 ≠ (TJx9f9b0 b).2.1 := by decide +kernel
theorem tyJx9f9b0_ok : ∀ k, k < 0 → parseFieldDescriptor (TJx9f9b0 k).2.2.1 = some (tyJx9f9b0 k) := by decide +kernel
def RJxb160c : String := "java/lang/Comparable"
def TJxb160c : u_T := fun k => match k with
  | _ => ("", "", "", false)
def tyJxb160c : Nat → FieldType := fun k => match k with
  | _ => .int
abbrev wsJxb160c0 : List Cond := u_ws RJxb160c TJxb160c 0
theorem nmJxb160c : ∀ a, a < 0 → ∀ b, b < 0 → a ≠ b → (TJxb160c a).2.1 ≠ (TJxb160c b).2.1 := by decide +kernel
theorem tyJxb160c_ok : ∀ k, k < 0 → parseFieldDescriptor (TJxb160c k).2.2.1 = some (tyJxb160c k) := by decide +kernel
def RJ6 : String := "java/lang/Integer"
def TJ6 : u_T := fun k => match k with
  | _ => ("", "", "", false)
def tyJ6 : Nat → FieldType := fun k => match k with
  | _ => .int
abbrev wsJ60 : List Cond := u_ws RJ6 TJ6 0
theorem nmJ6 : ∀ a, a < 0 → ∀ b, b < 0 → a ≠ b → (TJ6 a).2.1 ≠ (TJ6 b).2.1 := by decide +kernel
theorem tyJ6_ok : ∀ k, k < 0 → parseFieldDescriptor (TJ6 k).2.2.1 = some (tyJ6 k) := by decide +kernel
abbrev cJ6_bitCount_0f7a4 : ByteArray := prog_10_method_49_code
def yJ6_bitCount_0f7a4 : MethodName := ⟨RJ6, "bitCount", "(I)I"⟩
def RJ9 : String := "java/lang/Math"
def TJ9 : u_T := fun k => match k with
  | _ => ("", "", "", false)
def tyJ9 : Nat → FieldType := fun k => match k with
  | _ => .int
abbrev wsJ90 : List Cond := u_ws RJ9 TJ9 0
theorem nmJ9 : ∀ a, a < 0 → ∀ b, b < 0 → a ≠ b → (TJ9 a).2.1 ≠ (TJ9 b).2.1 := by decide +kernel
theorem tyJ9_ok : ∀ k, k < 0 → parseFieldDescriptor (TJ9 k).2.2.1 = some (tyJ9 k) := by decide +kernel
abbrev cJ9_max_7cf53 : ByteArray := prog_11_method_65_code
def yJ9_max_7cf53 : MethodName := ⟨RJ9, "max", "(II)I"⟩
abbrev cJ9_min_7cf53 : ByteArray := prog_11_method_69_code
def yJ9_min_7cf53 : MethodName := ⟨RJ9, "min", "(II)I"⟩
def RJ0 : String := "java/lang/String"
def TJ0 : u_T := fun k => match k with
  | _ => ("", "", "", false)
def tyJ0 : Nat → FieldType := fun k => match k with
  | _ => .int
abbrev wsJ00 : List Cond := u_ws RJ0 TJ0 0
theorem nmJ0 : ∀ a, a < 0 → ∀ b, b < 0 → a ≠ b → (TJ0 a).2.1 ≠ (TJ0 b).2.1 := by decide +kernel
theorem tyJ0_ok : ∀ k, k < 0 → parseFieldDescriptor (TJ0 k).2.2.1 = some (tyJ0 k) := by decide +kernel
abbrev cJ0_length_8abf5 : ByteArray := prog_12_method_54_code
def yJ0_length_8abf5 : MethodName := ⟨RJ0, "length", "()I"⟩
abbrev cJ0_charAt_5068e : ByteArray := prog_12_method_56_code
def yJ0_charAt_5068e : MethodName := ⟨RJ0, "charAt", "(I)C"⟩
abbrev cJ0_coder_7d493 : ByteArray := prog_12_method_152_code
def yJ0_coder_7d493 : MethodName := ⟨RJ0, "coder", "()B"⟩
abbrev cJ0_isLatin1_aae02 : ByteArray := prog_12_method_154_code
def yJ0_isLatin1_aae02 : MethodName := ⟨RJ0, "isLatin1", "()Z"⟩
abbrev cJ0_checkIndex_df160 : ByteArray := prog_12_method_155_code
def yJ0_checkIndex_df160 : MethodName := ⟨RJ0, "checkIndex", "(II)V"⟩
def RJ1 : String := "java/lang/StringLatin1"
def TJ1 : u_T := fun k => match k with
  | _ => ("", "", "", false)
def tyJ1 : Nat → FieldType := fun k => match k with
  | _ => .int
abbrev wsJ10 : List Cond := u_ws RJ1 TJ1 0
theorem nmJ1 : ∀ a, a < 0 → ∀ b, b < 0 → a ≠ b → (TJ1 a).2.1 ≠ (TJ1 b).2.1 := by decide +kernel
theorem tyJ1_ok : ∀ k, k < 0 → parseFieldDescriptor (TJ1 k).2.2.1 = some (tyJ1 k) := by decide +kernel
abbrev cJ1_charAt_3b067 : ByteArray := prog_13_method_2_code
def yJ1_charAt_3b067 : MethodName := ⟨RJ1, "charAt", "([BI)C"⟩
def RJ2 : String := "java/lang/StringUTF16"
def TJ2 : u_T := fun k => match k with
  | _ => ("", "", "", false)
def tyJ2 : Nat → FieldType := fun k => match k with
  | _ => .int
abbrev wsJ20 : List Cond := u_ws RJ2 TJ2 0
theorem nmJ2 : ∀ a, a < 0 → ∀ b, b < 0 → a ≠ b → (TJ2 a).2.1 ≠ (TJ2 b).2.1 := by decide +kernel
theorem tyJ2_ok : ∀ k, k < 0 → parseFieldDescriptor (TJ2 k).2.2.1 = some (tyJ2 k) := by decide +kernel
abbrev cJ2_getChar_3b067 : ByteArray := prog_14_method_5_code
def yJ2_getChar_3b067 : MethodName := ⟨RJ2, "getChar", "([BI)C"⟩
abbrev cJ2_length_9d52b : ByteArray := prog_14_method_6_code
def yJ2_length_9d52b : MethodName := ⟨RJ2, "length", "([B)I"⟩
abbrev cJ2_charAt_3b067 : ByteArray := prog_14_method_83_code
def yJ2_charAt_3b067 : MethodName := ⟨RJ2, "charAt", "([BI)C"⟩
abbrev cJ2_checkIndex_2214a : ByteArray := prog_14_method_91_code
def yJ2_checkIndex_2214a : MethodName := ⟨RJ2, "checkIndex", "(I[B)V"⟩
def RJ10 : String := "java/lang/System"
def TJ10 : u_T := fun k => match k with
  | _ => ("", "", "", false)
def tyJ10 : Nat → FieldType := fun k => match k with
  | _ => .int
abbrev wsJ100 : List Cond := u_ws RJ10 TJ10 0
theorem nmJ10 : ∀ a, a < 0 → ∀ b, b < 0 → a ≠ b → (TJ10 a).2.1 ≠ (TJ10 b).2.1 := by decide +kernel
theorem tyJ10_ok : ∀ k, k < 0 → parseFieldDescriptor (TJ10 k).2.2.1 = some (tyJ10 k) := by decide +kernel
def RJxfd54e : String := "java/lang/constant/Constable"
def TJxfd54e : u_T := fun k => match k with
  | _ => ("", "", "", false)
def tyJxfd54e : Nat → FieldType := fun k => match k with
  | _ => .int
abbrev wsJxfd54e0 : List Cond := u_ws RJxfd54e TJxfd54e 0
theorem nmJxfd54e : ∀ a, a < 0 → ∀ b, b < 0 → a ≠ b → (TJxfd54e a).2.1 ≠ (TJxfd54e b).2.1 := by decide +kernel
theorem tyJxfd54e_ok : ∀ k, k < 0 → parseFieldDescriptor (TJxfd54e k).2.2.1 = some (tyJxfd54e k) := by decide +kernel
def RJx3cf43 : String := "java/lang/constant/ConstantDesc"
def TJx3cf43 : u_T := fun k => match k with
  | _ => ("", "", "", false)
def tyJx3cf43 : Nat → FieldType := fun k => match k with
  | _ => .int
abbrev wsJx3cf430 : List Cond := u_ws RJx3cf43 TJx3cf43 0
theorem nmJx3cf43 : ∀ a, a < 0 → ∀ b, b < 0 → a ≠ b → (TJx3cf43 a).2.1 ≠ (TJx3cf43 b).2.1 := by decide +kernel
theorem tyJx3cf43_ok : ∀ k, k < 0 → parseFieldDescriptor (TJx3cf43 k).2.2.1 = some (tyJx3cf43 k) := by decide +kernel
def RJ7 : String := "java/util/Arrays"
def TJ7 : u_T := fun k => match k with
  | _ => ("", "", "", false)
def tyJ7 : Nat → FieldType := fun k => match k with
  | _ => .int
abbrev wsJ70 : List Cond := u_ws RJ7 TJ7 0
theorem nmJ7 : ∀ a, a < 0 → ∀ b, b < 0 → a ≠ b → (TJ7 a).2.1 ≠ (TJ7 b).2.1 := by decide +kernel
theorem tyJ7_ok : ∀ k, k < 0 → parseFieldDescriptor (TJ7 k).2.2.1 = some (tyJ7 k) := by decide +kernel
abbrev cJ7_fill_d0a16 : ByteArray := prog_16_method_101_code
def yJ7_fill_d0a16 : MethodName := ⟨RJ7, "fill", "([JJ)V"⟩
abbrev cJ7_fill_53178 : ByteArray := prog_16_method_103_code
def yJ7_fill_53178 : MethodName := ⟨RJ7, "fill", "([II)V"⟩
def RJ3 : String := "jdk/internal/util/Preconditions"
def TJ3 : u_T := fun k => match k with
  | _ => ("", "", "", false)
def tyJ3 : Nat → FieldType := fun k => match k with
  | _ => .int
abbrev wsJ30 : List Cond := u_ws RJ3 TJ3 0
theorem nmJ3 : ∀ a, a < 0 → ∀ b, b < 0 → a ≠ b → (TJ3 a).2.1 ≠ (TJ3 b).2.1 := by decide +kernel
theorem tyJ3_ok : ∀ k, k < 0 → parseFieldDescriptor (TJ3 k).2.2.1 = some (tyJ3 k) := by decide +kernel
abbrev cJ3_checkIndex_8e157 : ByteArray := prog_17_method_11_code
def yJ3_checkIndex_8e157 : MethodName := ⟨RJ3, "checkIndex", "(IILjava/util/function/BiFunction;)I"⟩
def RL : String := "TearsQueueLaw"
abbrev cL_law : ByteArray := code
def yL_law : MethodName := ⟨RL, "law", "([I)Z"⟩
set_option maxRecDepth 100000 in
theorem inX0 : ∀ w ∈ wsX00, w ∈ lw_tbl := by decide +kernel
set_option maxRecDepth 100000 in
theorem inX1 : ∀ w ∈ wsX10, w ∈ lw_tbl := by decide +kernel
set_option maxRecDepth 100000 in
theorem inX2 : ∀ w ∈ wsX20, w ∈ lw_tbl := by decide +kernel
set_option maxRecDepth 100000 in
theorem inX3 : ∀ w ∈ wsX30, w ∈ lw_tbl := by decide +kernel
set_option maxRecDepth 100000 in
theorem inX4 : ∀ w ∈ wsX40, w ∈ lw_tbl := by decide +kernel
set_option maxRecDepth 100000 in
theorem inX5 : ∀ w ∈ wsX50, w ∈ lw_tbl := by decide +kernel
set_option maxRecDepth 100000 in
theorem inX6 : ∀ w ∈ wsX60, w ∈ lw_tbl := by decide +kernel
set_option maxRecDepth 100000 in
theorem inX7 : ∀ w ∈ wsX70, w ∈ lw_tbl := by decide +kernel
set_option maxRecDepth 100000 in
theorem inJx145de : ∀ w ∈ wsJx145de0, w ∈ lw_tbl := by decide +kernel
set_option maxRecDepth 100000 in
theorem inJx9f9b0 : ∀ w ∈ wsJx9f9b00, w ∈ lw_tbl := by decide +kernel
set_option maxRecDepth 100000 in
theorem inJxb160c : ∀ w ∈ wsJxb160c0, w ∈ lw_tbl := by decide +kernel
set_option maxRecDepth 100000 in
theorem inJ6 : ∀ w ∈ wsJ60, w ∈ lw_tbl := by decide +kernel
set_option maxRecDepth 100000 in
theorem inJ9 : ∀ w ∈ wsJ90, w ∈ lw_tbl := by decide +kernel
set_option maxRecDepth 100000 in
theorem inJ0 : ∀ w ∈ wsJ00, w ∈ lw_tbl := by decide +kernel
set_option maxRecDepth 100000 in
theorem inJ1 : ∀ w ∈ wsJ10, w ∈ lw_tbl := by decide +kernel
set_option maxRecDepth 100000 in
theorem inJ2 : ∀ w ∈ wsJ20, w ∈ lw_tbl := by decide +kernel
set_option maxRecDepth 100000 in
theorem inJ10 : ∀ w ∈ wsJ100, w ∈ lw_tbl := by decide +kernel
set_option maxRecDepth 100000 in
theorem inJxfd54e : ∀ w ∈ wsJxfd54e0, w ∈ lw_tbl := by decide +kernel
set_option maxRecDepth 100000 in
theorem inJx3cf43 : ∀ w ∈ wsJx3cf430, w ∈ lw_tbl := by decide +kernel
set_option maxRecDepth 100000 in
theorem inJ7 : ∀ w ∈ wsJ70, w ∈ lw_tbl := by decide +kernel
set_option maxRecDepth 100000 in
theorem inJ3 : ∀ w ∈ wsJ30, w ∈ lw_tbl := by decide +kernel
abbrev vwCl : List vw_C := [(RX0, TX0, 3), (RX1, TX1, 14), (RX2, TX2, 6), (RX3, TX3, 4), (RX4, TX4, 3), (RX5, TX5, 10), (RX6, TX6, 11), (RX7, TX7, 29)]
