def RX0 : String := "SwordPeace$Abacus"
def TX0 : u_T := fun k => match k with
  | 0 => ("SwordPeace$Abacus", "rods", "[I", true)
  | 1 => ("SwordPeace$Abacus", "anger", "I", false)
  | 2 => ("SwordPeace$Abacus", "length", "I", false)
  | 3 => ("SwordPeace$Abacus", "day", "I", false)
  | 4 => ("SwordPeace$Abacus", "foes", "I", false)
  | 5 => ("SwordPeace$Abacus", "within", "I", false)
  | _ => ("SwordPeace$Abacus", "above", "I", false)
def tyX0 : Nat → FieldType := fun k => match k with
  | 0 => .array .int
  | 1 => .int
  | 2 => .int
  | 3 => .int
  | 4 => .int
  | 5 => .int
  | _ => .int
abbrev wsX00 : List Cond := u_ws RX0 TX0 7
theorem nmX0 : ∀ a, a < 7 → ∀ b, b < 7 → a ≠ b → (TX0 a).2.1 ≠ (TX0 b).2.1 := by decide +kernel
theorem tyX0_ok : ∀ k, k < 7 → parseFieldDescriptor (TX0 k).2.2.1 = some (tyX0 k) := by decide +kernel
abbrev cX0_init : ByteArray := prog_2_method_1_code
def yX0_init : MethodName := ⟨RX0, "<init>", "()V"⟩
abbrev cX0_setForAll : ByteArray := prog_2_method_2_code
def yX0_setForAll : MethodName := ⟨RX0, "setForAll", "(IIII)V"⟩
abbrev cX0_setForCools : ByteArray := prog_2_method_3_code
def yX0_setForCools : MethodName := ⟨RX0, "setForCools", "(II)V"⟩
abbrev cX0_work : ByteArray := prog_2_method_4_code
def yX0_work : MethodName := ⟨RX0, "work", "([III)I"⟩
abbrev cX0_valueOf : ByteArray := prog_2_method_5_code
def yX0_valueOf : MethodName := ⟨RX0, "valueOf", "(I)I"⟩
abbrev cX0_join : ByteArray := prog_2_method_6_code
def yX0_join : MethodName := ⟨RX0, "join", "(III)I"⟩
def RX1 : String := "SwordPeace$Chronicle"
def TX1 : u_T := fun k => match k with
  | 0 => ("SwordPeace$Chronicle", "scene", "LSwordPeace$Scene;", true)
  | 1 => ("SwordPeace$Chronicle", "sights", "LSwordPeace$Sights;", true)
  | 2 => ("SwordPeace$Chronicle", "refused", "[I", true)
  | 3 => ("SwordPeace$Chronicle", "rows", "[I", true)
  | 4 => ("SwordPeace$Chronicle", "nextRow", "I", false)
  | _ => ("SwordPeace$Chronicle", "actsKept", "I", false)
def tyX1 : Nat → FieldType := fun k => match k with
  | 0 => .object "SwordPeace$Scene"
  | 1 => .object "SwordPeace$Sights"
  | 2 => .array .int
  | 3 => .array .int
  | 4 => .int
  | _ => .int
abbrev wsX10 : List Cond := u_ws RX1 TX1 6
theorem nmX1 : ∀ a, a < 6 → ∀ b, b < 6 → a ≠ b → (TX1 a).2.1 ≠ (TX1 b).2.1 := by decide +kernel
theorem tyX1_ok : ∀ k, k < 6 → parseFieldDescriptor (TX1 k).2.2.1 = some (tyX1 k) := by decide +kernel
abbrev cX1_init : ByteArray := prog_3_method_1_code
def yX1_init : MethodName := ⟨RX1, "<init>", "(LSwordPeace$City;)V"⟩
abbrev cX1_begin : ByteArray := prog_3_method_2_code
def yX1_begin : MethodName := ⟨RX1, "begin", "(LSwordPeace$City;)V"⟩
abbrev cX1_keepAct : ByteArray := prog_3_method_3_code
def yX1_keepAct : MethodName := ⟨RX1, "keepAct", "()V"⟩
abbrev cX1_takeActBack : ByteArray := prog_3_method_4_code
def yX1_takeActBack : MethodName := ⟨RX1, "takeActBack", "()V"⟩
abbrev cX1_copy : ByteArray := prog_3_method_5_code
def yX1_copy : MethodName := ⟨RX1, "copy", "(LSwordPeace$Chronicle;)V"⟩
def RX2 : String := "SwordPeace$City"
def TX2 : u_T := fun k => match k with
  | 0 => ("SwordPeace$City", "house", "[I", true)
  | 1 => ("SwordPeace$City", "length", "[I", true)
  | 2 => ("SwordPeace$City", "anger", "[I", true)
  | 3 => ("SwordPeace$City", "bladesOf", "[I", true)
  | 4 => ("SwordPeace$City", "room", "[I", true)
  | 5 => ("SwordPeace$City", "hiccups", "[I", true)
  | 6 => ("SwordPeace$City", "foesOf", "[I", true)
  | 7 => ("SwordPeace$City", "code", "[I", true)
  | 8 => ("SwordPeace$City", "codes", "I", false)
  | 9 => ("SwordPeace$City", "coolsFrom", "I", false)
  | 10 => ("SwordPeace$City", "coolsTo", "I", false)
  | 11 => ("SwordPeace$City", "risesFrom", "I", false)
  | 12 => ("SwordPeace$City", "risesTo", "I", false)
  | 13 => ("SwordPeace$City", "blades", "I", false)
  | 14 => ("SwordPeace$City", "swallowers", "I", false)
  | 15 => ("SwordPeace$City", "feuds", "I", false)
  | 16 => ("SwordPeace$City", "patience", "I", false)
  | _ => ("SwordPeace$City", "patienceTold", "Z", false)
def tyX2 : Nat → FieldType := fun k => match k with
  | 0 => .array .int
  | 1 => .array .int
  | 2 => .array .int
  | 3 => .array .int
  | 4 => .array .int
  | 5 => .array .int
  | 6 => .array .int
  | 7 => .array .int
  | 8 => .int
  | 9 => .int
  | 10 => .int
  | 11 => .int
  | 12 => .int
  | 13 => .int
  | 14 => .int
  | 15 => .int
  | 16 => .int
  | _ => .boolean
abbrev wsX20 : List Cond := u_ws RX2 TX2 18
theorem nmX2 : ∀ a, a < 18 → ∀ b, b < 18 → a ≠ b → (TX2 a).2.1 ≠ (TX2 b).2.1 := by decide +kernel
theorem tyX2_ok : ∀ k, k < 18 → parseFieldDescriptor (TX2 k).2.2.1 = some (tyX2 k) := by decide +kernel
abbrev cX2_init : ByteArray := prog_4_method_1_code
def yX2_init : MethodName := ⟨RX2, "<init>", "()V"⟩
abbrev cX2_clear : ByteArray := prog_4_method_2_code
def yX2_clear : MethodName := ⟨RX2, "clear", "()V"⟩
abbrev cX2_coolsTold : ByteArray := prog_4_method_3_code
def yX2_coolsTold : MethodName := ⟨RX2, "coolsTold", "()Z"⟩
abbrev cX2_risesTold : ByteArray := prog_4_method_4_code
def yX2_risesTold : MethodName := ⟨RX2, "risesTold", "()Z"⟩
abbrev cX2_addCode : ByteArray := prog_4_method_5_code
def yX2_addCode : MethodName := ⟨RX2, "addCode", "(I)V"⟩
def RX3 : String := "SwordPeace$Doubt"
def TX3 : u_T := fun k => match k with
  | 0 => ("SwordPeace$Doubt", "now", "LSwordPeace$Scene;", true)
  | 1 => ("SwordPeace$Doubt", "sights", "LSwordPeace$Sights;", true)
  | 2 => ("SwordPeace$Doubt", "dream", "LSwordPeace$Scene;", true)
  | 3 => ("SwordPeace$Doubt", "angers", "[J", true)
  | 4 => ("SwordPeace$Doubt", "nextBlade", "I", false)
  | _ => ("SwordPeace$Doubt", "unlike", "I", false)
def tyX3 : Nat → FieldType := fun k => match k with
  | 0 => .object "SwordPeace$Scene"
  | 1 => .object "SwordPeace$Sights"
  | 2 => .object "SwordPeace$Scene"
  | 3 => .array .long
  | 4 => .int
  | _ => .int
abbrev wsX30 : List Cond := u_ws RX3 TX3 6
theorem nmX3 : ∀ a, a < 6 → ∀ b, b < 6 → a ≠ b → (TX3 a).2.1 ≠ (TX3 b).2.1 := by decide +kernel
theorem tyX3_ok : ∀ k, k < 6 → parseFieldDescriptor (TX3 k).2.2.1 = some (tyX3 k) := by decide +kernel
abbrev cX3_init : ByteArray := prog_5_method_1_code
def yX3_init : MethodName := ⟨RX3, "<init>", "(LSwordPeace$Scene;LSwordPeace$Sights;LSwordPeace$Scene;)V"⟩
abbrev cX3_fitsAsItIs : ByteArray := prog_5_method_2_code
def yX3_fitsAsItIs : MethodName := ⟨RX3, "fitsAsItIs", "()Z"⟩
abbrev cX3_howMany : ByteArray := prog_5_method_3_code
def yX3_howMany : MethodName := ⟨RX3, "howMany", "()I"⟩
abbrev cX3_first : ByteArray := prog_5_method_4_code
def yX3_first : MethodName := ⟨RX3, "first", "()I"⟩
abbrev cX3_seekNext : ByteArray := prog_5_method_5_code
def yX3_seekNext : MethodName := ⟨RX3, "seekNext", "()V"⟩
abbrev cX3_fits : ByteArray := prog_5_method_6_code
def yX3_fits : MethodName := ⟨RX3, "fits", "(II)Z"⟩
abbrev cX3_dreamFitsOn : ByteArray := prog_5_method_7_code
def yX3_dreamFitsOn : MethodName := ⟨RX3, "dreamFitsOn", "(I)Z"⟩
abbrev cX3_markAngers : ByteArray := prog_5_method_8_code
def yX3_markAngers : MethodName := ⟨RX3, "markAngers", "(II)V"⟩
def RX4 : String := "SwordPeace$Forecast"
def TX4 : u_T := fun k => match k with
  | 0 => ("SwordPeace$Forecast", "now", "LSwordPeace$Scene;", true)
  | 1 => ("SwordPeace$Forecast", "dream", "LSwordPeace$Scene;", true)
  | 2 => ("SwordPeace$Forecast", "firstLoses", "[I", true)
  | 3 => ("SwordPeace$Forecast", "otherLoses", "[I", true)
  | 4 => ("SwordPeace$Forecast", "seed", "I", false)
  | 5 => ("SwordPeace$Forecast", "calmingBlade", "I", false)
  | 6 => ("SwordPeace$Forecast", "delay", "I", false)
  | 7 => ("SwordPeace$Forecast", "restingCouples", "I", false)
  | _ => ("SwordPeace$Forecast", "firstCouple", "I", false)
def tyX4 : Nat → FieldType := fun k => match k with
  | 0 => .object "SwordPeace$Scene"
  | 1 => .object "SwordPeace$Scene"
  | 2 => .array .int
  | 3 => .array .int
  | 4 => .int
  | 5 => .int
  | 6 => .int
  | 7 => .int
  | _ => .int
abbrev wsX40 : List Cond := u_ws RX4 TX4 9
theorem nmX4 : ∀ a, a < 9 → ∀ b, b < 9 → a ≠ b → (TX4 a).2.1 ≠ (TX4 b).2.1 := by decide +kernel
theorem tyX4_ok : ∀ k, k < 9 → parseFieldDescriptor (TX4 k).2.2.1 = some (tyX4 k) := by decide +kernel
abbrev cX4_init : ByteArray := prog_6_method_1_code
def yX4_init : MethodName := ⟨RX4, "<init>", "(LSwordPeace$Scene;LSwordPeace$Scene;)V"⟩
abbrev cX4_after : ByteArray := prog_6_method_2_code
def yX4_after : MethodName := ⟨RX4, "after", "(I)LSwordPeace$Scene;"⟩
abbrev cX4_fightsDreamt : ByteArray := prog_6_method_3_code
def yX4_fightsDreamt : MethodName := ⟨RX4, "fightsDreamt", "()I"⟩
abbrev cX4_firstFight : ByteArray := prog_6_method_4_code
def yX4_firstFight : MethodName := ⟨RX4, "firstFight", "()I"⟩
abbrev cX4_dreamFirstFight : ByteArray := prog_6_method_5_code
def yX4_dreamFirstFight : MethodName := ⟨RX4, "dreamFirstFight", "()I"⟩
abbrev cX4_daysToRest : ByteArray := prog_6_method_6_code
def yX4_daysToRest : MethodName := ⟨RX4, "daysToRest", "(I)I"⟩
abbrev cX4_worstHouse : ByteArray := prog_6_method_7_code
def yX4_worstHouse : MethodName := ⟨RX4, "worstHouse", "(I)I"⟩
abbrev cX4_seekCalmingBlade : ByteArray := prog_6_method_8_code
def yX4_seekCalmingBlade : MethodName := ⟨RX4, "seekCalmingBlade", "()V"⟩
abbrev cX4_play : ByteArray := prog_6_method_9_code
def yX4_play : MethodName := ⟨RX4, "play", "(II)V"⟩
abbrev cX4_dreamSwallowing : ByteArray := prog_6_method_10_code
def yX4_dreamSwallowing : MethodName := ⟨RX4, "dreamSwallowing", "(I)V"⟩
abbrev cX4_lossOf : ByteArray := prog_6_method_11_code
def yX4_lossOf : MethodName := ⟨RX4, "lossOf", "(I)I"⟩
abbrev cX4_summerEnd : ByteArray := prog_6_method_12_code
def yX4_summerEnd : MethodName := ⟨RX4, "summerEnd", "(II)LSwordPeace$Scene;"⟩
abbrev cX4_drawOf : ByteArray := prog_6_method_13_code
def yX4_drawOf : MethodName := ⟨RX4, "drawOf", "(I)I"⟩
abbrev cX4_angerOne : ByteArray := prog_6_method_14_code
def yX4_angerOne : MethodName := ⟨RX4, "angerOne", "()V"⟩
abbrev cX4_laugh : ByteArray := prog_6_method_15_code
def yX4_laugh : MethodName := ⟨RX4, "laugh", "()V"⟩
def RX5 : String := "SwordPeace$Packing"
def TX5 : u_T := fun k => match k with
  | 0 => ("SwordPeace$Packing", "scene", "LSwordPeace$Scene;", true)
  | 1 => ("SwordPeace$Packing", "filling", "[I", true)
  | 2 => ("SwordPeace$Packing", "most", "[I", true)
  | 3 => ("SwordPeace$Packing", "rooms", "[I", true)
  | _ => ("SwordPeace$Packing", "manyRooms", "I", false)
def tyX5 : Nat → FieldType := fun k => match k with
  | 0 => .object "SwordPeace$Scene"
  | 1 => .array .int
  | 2 => .array .int
  | 3 => .array .int
  | _ => .int
abbrev wsX50 : List Cond := u_ws RX5 TX5 5
theorem nmX5 : ∀ a, a < 5 → ∀ b, b < 5 → a ≠ b → (TX5 a).2.1 ≠ (TX5 b).2.1 := by decide +kernel
theorem tyX5_ok : ∀ k, k < 5 → parseFieldDescriptor (TX5 k).2.2.1 = some (tyX5 k) := by decide +kernel
abbrev cX5_init : ByteArray := prog_7_method_1_code
def yX5_init : MethodName := ⟨RX5, "<init>", "(LSwordPeace$Scene;)V"⟩
abbrev cX5_mostAnger : ByteArray := prog_7_method_2_code
def yX5_mostAnger : MethodName := ⟨RX5, "mostAnger", "()I"⟩
abbrev cX5_bestSwallower : ByteArray := prog_7_method_3_code
def yX5_bestSwallower : MethodName := ⟨RX5, "bestSwallower", "(I)I"⟩
abbrev cX5_fewestSwallowers : ByteArray := prog_7_method_4_code
def yX5_fewestSwallowers : MethodName := ⟨RX5, "fewestSwallowers", "()I"⟩
abbrev cX5_goesInto : ByteArray := prog_7_method_5_code
def yX5_goesInto : MethodName := ⟨RX5, "goesInto", "(I)Z"⟩
abbrev cX5_leastSet : ByteArray := prog_7_method_6_code
def yX5_leastSet : MethodName := ⟨RX5, "leastSet", "(III)I"⟩
abbrev cX5_weighFrom : ByteArray := prog_7_method_7_code
def yX5_weighFrom : MethodName := ⟨RX5, "weighFrom", "(II)V"⟩
abbrev cX5_mostWithoutOne : ByteArray := prog_7_method_8_code
def yX5_mostWithoutOne : MethodName := ⟨RX5, "mostWithoutOne", "(I)I"⟩
abbrev cX5_roomIn : ByteArray := prog_7_method_9_code
def yX5_roomIn : MethodName := ⟨RX5, "roomIn", "(I)I"⟩
abbrev cX5_fill : ByteArray := prog_7_method_10_code
def yX5_fill : MethodName := ⟨RX5, "fill", "(I)V"⟩
abbrev cX5_leastFilling : ByteArray := prog_7_method_11_code
def yX5_leastFilling : MethodName := ⟨RX5, "leastFilling", "(I)I"⟩
abbrev cX5_fillingWith : ByteArray := prog_7_method_12_code
def yX5_fillingWith : MethodName := ⟨RX5, "fillingWith", "(II)I"⟩
abbrev cX5_angerOf : ByteArray := prog_7_method_13_code
def yX5_angerOf : MethodName := ⟨RX5, "angerOf", "(I)I"⟩
abbrev cX5_lengthOf : ByteArray := prog_7_method_14_code
def yX5_lengthOf : MethodName := ⟨RX5, "lengthOf", "(I)I"⟩
def RX6 : String := "SwordPeace$Quarrels"
def TX6 : u_T := fun k => match k with
  | 0 => ("SwordPeace$Quarrels", "cells", "[I", true)
  | _ => ("SwordPeace$Quarrels", "couplesIn", "[I", true)
def tyX6 : Nat → FieldType := fun k => match k with
  | 0 => .array .int
  | _ => .array .int
abbrev wsX60 : List Cond := u_ws RX6 TX6 2
theorem nmX6 : ∀ a, a < 2 → ∀ b, b < 2 → a ≠ b → (TX6 a).2.1 ≠ (TX6 b).2.1 := by decide +kernel
theorem tyX6_ok : ∀ k, k < 2 → parseFieldDescriptor (TX6 k).2.2.1 = some (tyX6 k) := by decide +kernel
abbrev cX6_init : ByteArray := prog_8_method_1_code
def yX6_init : MethodName := ⟨RX6, "<init>", "([I)V"⟩
abbrev cX6_between : ByteArray := prog_8_method_2_code
def yX6_between : MethodName := ⟨RX6, "between", "(II)Z"⟩
abbrev cX6_howMany : ByteArray := prog_8_method_3_code
def yX6_howMany : MethodName := ⟨RX6, "howMany", "()I"⟩
abbrev cX6_foesOfSet : ByteArray := prog_8_method_4_code
def yX6_foesOfSet : MethodName := ⟨RX6, "foesOfSet", "(I)I"⟩
abbrev cX6_campOf : ByteArray := prog_8_method_5_code
def yX6_campOf : MethodName := ⟨RX6, "campOf", "(I)I"⟩
abbrev cX6_firstCamp : ByteArray := prog_8_method_6_code
def yX6_firstCamp : MethodName := ⟨RX6, "firstCamp", "()I"⟩
abbrev cX6_parties : ByteArray := prog_8_method_7_code
def yX6_parties : MethodName := ⟨RX6, "parties", "()I"⟩
abbrev cX6_mostCouples : ByteArray := prog_8_method_8_code
def yX6_mostCouples : MethodName := ⟨RX6, "mostCouples", "()I"⟩
abbrev cX6_mostCouplesIn : ByteArray := prog_8_method_9_code
def yX6_mostCouplesIn : MethodName := ⟨RX6, "mostCouplesIn", "(I)I"⟩
def RX7 : String := "SwordPeace$Reader"
def TX7 : u_T := fun k => match k with
  | 0 => ("SwordPeace$Reader", "tokens", "LSwordPeace$Tokens;", true)
  | 1 => ("SwordPeace$Reader", "city", "LSwordPeace$City;", false)
  | 2 => ("SwordPeace$Reader", "fault", "I", false)
  | 3 => ("SwordPeace$Reader", "cooling", "Z", false)
  | _ => ("SwordPeace$Reader", "place", "I", false)
def tyX7 : Nat → FieldType := fun k => match k with
  | 0 => .object "SwordPeace$Tokens"
  | 1 => .object "SwordPeace$City"
  | 2 => .int
  | 3 => .boolean
  | _ => .int
abbrev wsX70 : List Cond := u_ws RX7 TX7 5
theorem nmX7 : ∀ a, a < 5 → ∀ b, b < 5 → a ≠ b → (TX7 a).2.1 ≠ (TX7 b).2.1 := by decide +kernel
theorem tyX7_ok : ∀ k, k < 5 → parseFieldDescriptor (TX7 k).2.2.1 = some (tyX7 k) := by decide +kernel
abbrev cX7_init : ByteArray := prog_9_method_1_code
def yX7_init : MethodName := ⟨RX7, "<init>", "(LSwordPeace$Tokens;LSwordPeace$City;)V"⟩
abbrev cX7_tell : ByteArray := prog_9_method_2_code
def yX7_tell : MethodName := ⟨RX7, "tell", "(ILSwordPeace$City;)I"⟩
abbrev cX7_fail : ByteArray := prog_9_method_3_code
def yX7_fail : MethodName := ⟨RX7, "fail", "(I)Z"⟩
abbrev cX7_line : ByteArray := prog_9_method_4_code
def yX7_line : MethodName := ⟨RX7, "line", "()Z"⟩
abbrev cX7_feudLine : ByteArray := prog_9_method_5_code
def yX7_feudLine : MethodName := ⟨RX7, "feudLine", "()Z"⟩
abbrev cX7_swallowerLine : ByteArray := prog_9_method_6_code
def yX7_swallowerLine : MethodName := ⟨RX7, "swallowerLine", "()Z"⟩
abbrev cX7_bladeLine : ByteArray := prog_9_method_7_code
def yX7_bladeLine : MethodName := ⟨RX7, "bladeLine", "()Z"⟩
abbrev cX7_patienceLine : ByteArray := prog_9_method_8_code
def yX7_patienceLine : MethodName := ⟨RX7, "patienceLine", "()Z"⟩
abbrev cX7_coolsLine : ByteArray := prog_9_method_9_code
def yX7_coolsLine : MethodName := ⟨RX7, "coolsLine", "()Z"⟩
abbrev cX7_risesLine : ByteArray := prog_9_method_10_code
def yX7_risesLine : MethodName := ⟨RX7, "risesLine", "()Z"⟩
abbrev cX7_passSign : ByteArray := prog_9_method_11_code
def yX7_passSign : MethodName := ⟨RX7, "passSign", "(C)Z"⟩
abbrev cX7_isNumber : ByteArray := prog_9_method_12_code
def yX7_isNumber : MethodName := ⟨RX7, "isNumber", "(II)Z"⟩
abbrev cX7_either : ByteArray := prog_9_method_13_code
def yX7_either : MethodName := ⟨RX7, "either", "(I)Z"⟩
abbrev cX7_partMayStart : ByteArray := prog_9_method_14_code
def yX7_partMayStart : MethodName := ⟨RX7, "partMayStart", "()Z"⟩
abbrev cX7_both : ByteArray := prog_9_method_15_code
def yX7_both : MethodName := ⟨RX7, "both", "(I)Z"⟩
abbrev cX7_perhapsNot : ByteArray := prog_9_method_16_code
def yX7_perhapsNot : MethodName := ⟨RX7, "perhapsNot", "(I)Z"⟩
abbrev cX7_test : ByteArray := prog_9_method_17_code
def yX7_test : MethodName := ⟨RX7, "test", "(I)Z"⟩
abbrev cX7_sum : ByteArray := prog_9_method_18_code
def yX7_sum : MethodName := ⟨RX7, "sum", "(I)Z"⟩
abbrev cX7_product : ByteArray := prog_9_method_19_code
def yX7_product : MethodName := ⟨RX7, "product", "(I)Z"⟩
abbrev cX7_part : ByteArray := prog_9_method_20_code
def yX7_part : MethodName := ⟨RX7, "part", "(I)Z"⟩
abbrev cX7_valueNamed : ByteArray := prog_9_method_21_code
def yX7_valueNamed : MethodName := ⟨RX7, "valueNamed", "()I"⟩
def RX8 : String := "SwordPeace$Scene"
def TX8 : u_T := fun k => match k with
  | 0 => ("SwordPeace$Scene", "city", "LSwordPeace$City;", false)
  | 1 => ("SwordPeace$Scene", "cells", "[I", true)
  | 2 => ("SwordPeace$Scene", "fightsOf", "[I", true)
  | 3 => ("SwordPeace$Scene", "atPlace", "[I", true)
  | 4 => ("SwordPeace$Scene", "change", "[I", true)
  | _ => ("SwordPeace$Scene", "abacus", "LSwordPeace$Abacus;", true)
def tyX8 : Nat → FieldType := fun k => match k with
  | 0 => .object "SwordPeace$City"
  | 1 => .array .int
  | 2 => .array .int
  | 3 => .array .int
  | 4 => .array .int
  | _ => .object "SwordPeace$Abacus"
abbrev wsX80 : List Cond := u_ws RX8 TX8 6
theorem nmX8 : ∀ a, a < 6 → ∀ b, b < 6 → a ≠ b → (TX8 a).2.1 ≠ (TX8 b).2.1 := by decide +kernel
theorem tyX8_ok : ∀ k, k < 6 → parseFieldDescriptor (TX8 k).2.2.1 = some (tyX8 k) := by decide +kernel
abbrev cX8_init : ByteArray := prog_10_method_1_code
def yX8_init : MethodName := ⟨RX8, "<init>", "(LSwordPeace$City;)V"⟩
abbrev cX8_begin : ByteArray := prog_10_method_2_code
def yX8_begin : MethodName := ⟨RX8, "begin", "(LSwordPeace$City;)V"⟩
abbrev cX8_turnFeud : ByteArray := prog_10_method_3_code
def yX8_turnFeud : MethodName := ⟨RX8, "turnFeud", "(II)V"⟩
abbrev cX8_copy : ByteArray := prog_10_method_4_code
def yX8_copy : MethodName := ⟨RX8, "copy", "(LSwordPeace$Scene;)V"⟩
abbrev cX8_isOut : ByteArray := prog_10_method_5_code
def yX8_isOut : MethodName := ⟨RX8, "isOut", "(I)Z"⟩
abbrev cX8_isIn : ByteArray := prog_10_method_6_code
def yX8_isIn : MethodName := ⟨RX8, "isIn", "(I)Z"⟩
abbrev cX8_state : ByteArray := prog_10_method_7_code
def yX8_state : MethodName := ⟨RX8, "state", "(I)I"⟩
abbrev cX8_swallowerOf : ByteArray := prog_10_method_8_code
def yX8_swallowerOf : MethodName := ⟨RX8, "swallowerOf", "(I)I"⟩
abbrev cX8_bladesAt : ByteArray := prog_10_method_9_code
def yX8_bladesAt : MethodName := ⟨RX8, "bladesAt", "(I)I"⟩
abbrev cX8_bladesOut : ByteArray := prog_10_method_10_code
def yX8_bladesOut : MethodName := ⟨RX8, "bladesOut", "()I"⟩
abbrev cX8_bladesAtRest : ByteArray := prog_10_method_11_code
def yX8_bladesAtRest : MethodName := ⟨RX8, "bladesAtRest", "()I"⟩
abbrev cX8_bladesIn : ByteArray := prog_10_method_12_code
def yX8_bladesIn : MethodName := ⟨RX8, "bladesIn", "()I"⟩
abbrev cX8_left : ByteArray := prog_10_method_13_code
def yX8_left : MethodName := ⟨RX8, "left", "(I)I"⟩
abbrev cX8_hasRoom : ByteArray := prog_10_method_14_code
def yX8_hasRoom : MethodName := ⟨RX8, "hasRoom", "(II)Z"⟩
abbrev cX8_top : ByteArray := prog_10_method_15_code
def yX8_top : MethodName := ⟨RX8, "top", "(I)I"⟩
abbrev cX8_bladesAbove : ByteArray := prog_10_method_16_code
def yX8_bladesAbove : MethodName := ⟨RX8, "bladesAbove", "(I)I"⟩
abbrev cX8_putInto : ByteArray := prog_10_method_17_code
def yX8_putInto : MethodName := ⟨RX8, "putInto", "(II)V"⟩
abbrev cX8_putIntoLeast : ByteArray := prog_10_method_18_code
def yX8_putIntoLeast : MethodName := ⟨RX8, "putIntoLeast", "(I)V"⟩
abbrev cX8_letTopOut : ByteArray := prog_10_method_19_code
def yX8_letTopOut : MethodName := ⟨RX8, "letTopOut", "(I)V"⟩
abbrev cX8_angerOfAll : ByteArray := prog_10_method_20_code
def yX8_angerOfAll : MethodName := ⟨RX8, "angerOfAll", "()I"⟩
abbrev cX8_foesNow : ByteArray := prog_10_method_21_code
def yX8_foesNow : MethodName := ⟨RX8, "foesNow", "(I)I"⟩
abbrev cX8_changeNow : ByteArray := prog_10_method_22_code
def yX8_changeNow : MethodName := ⟨RX8, "changeNow", "(I)I"⟩
abbrev cX8_passDays : ByteArray := prog_10_method_23_code
def yX8_passDays : MethodName := ⟨RX8, "passDays", "(I)V"⟩
abbrev cX8_passDay : ByteArray := prog_10_method_24_code
def yX8_passDay : MethodName := ⟨RX8, "passDay", "()V"⟩
abbrev cX8_lookRound : ByteArray := prog_10_method_25_code
def yX8_lookRound : MethodName := ⟨RX8, "lookRound", "()V"⟩
abbrev cX8_foesWith : ByteArray := prog_10_method_26_code
def yX8_foesWith : MethodName := ⟨RX8, "foesWith", "(I)I"⟩
abbrev cX8_changeOf : ByteArray := prog_10_method_27_code
def yX8_changeOf : MethodName := ⟨RX8, "changeOf", "(I)I"⟩
abbrev cX8_changeAngers : ByteArray := prog_10_method_28_code
def yX8_changeAngers : MethodName := ⟨RX8, "changeAngers", "()V"⟩
abbrev cX8_layToRest : ByteArray := prog_10_method_29_code
def yX8_layToRest : MethodName := ⟨RX8, "layToRest", "()V"⟩
abbrev cX8_hiccupAll : ByteArray := prog_10_method_30_code
def yX8_hiccupAll : MethodName := ⟨RX8, "hiccupAll", "()V"⟩
abbrev cX8_fightAll : ByteArray := prog_10_method_31_code
def yX8_fightAll : MethodName := ⟨RX8, "fightAll", "()V"⟩
abbrev cX8_firstFoe : ByteArray := prog_10_method_32_code
def yX8_firstFoe : MethodName := ⟨RX8, "firstFoe", "(II)I"⟩
abbrev cX8_fight : ByteArray := prog_10_method_33_code
def yX8_fight : MethodName := ⟨RX8, "fight", "(II)V"⟩
def RX9 : String := "SwordPeace$Sights"
def TX9 : u_T := fun k => match k with
  | 0 => ("SwordPeace$Sights", "blade", "[I", true)
  | 1 => ("SwordPeace$Sights", "days", "[I", true)
  | 2 => ("SwordPeace$Sights", "anger", "[I", true)
  | _ => ("SwordPeace$Sights", "many", "I", false)
def tyX9 : Nat → FieldType := fun k => match k with
  | 0 => .array .int
  | 1 => .array .int
  | 2 => .array .int
  | _ => .int
abbrev wsX90 : List Cond := u_ws RX9 TX9 4
theorem nmX9 : ∀ a, a < 4 → ∀ b, b < 4 → a ≠ b → (TX9 a).2.1 ≠ (TX9 b).2.1 := by decide +kernel
theorem tyX9_ok : ∀ k, k < 4 → parseFieldDescriptor (TX9 k).2.2.1 = some (tyX9 k) := by decide +kernel
abbrev cX9_init : ByteArray := prog_11_method_1_code
def yX9_init : MethodName := ⟨RX9, "<init>", "()V"⟩
abbrev cX9_note : ByteArray := prog_11_method_2_code
def yX9_note : MethodName := ⟨RX9, "note", "(III)V"⟩
abbrev cX9_lastDay : ByteArray := prog_11_method_3_code
def yX9_lastDay : MethodName := ⟨RX9, "lastDay", "()I"⟩
abbrev cX9_copy : ByteArray := prog_11_method_4_code
def yX9_copy : MethodName := ⟨RX9, "copy", "(LSwordPeace$Sights;)V"⟩
def RX10 : String := "SwordPeace$Tokens"
def TX10 : u_T := fun k => match k with
  | 0 => ("SwordPeace$Tokens", "text", "[I", true)
  | 1 => ("SwordPeace$Tokens", "length", "I", false)
  | 2 => ("SwordPeace$Tokens", "end", "I", false)
  | 3 => ("SwordPeace$Tokens", "start", "I", false)
  | 4 => ("SwordPeace$Tokens", "kind", "I", false)
  | _ => ("SwordPeace$Tokens", "value", "I", false)
def tyX10 : Nat → FieldType := fun k => match k with
  | 0 => .array .int
  | 1 => .int
  | 2 => .int
  | 3 => .int
  | 4 => .int
  | _ => .int
abbrev wsX100 : List Cond := u_ws RX10 TX10 6
theorem nmX10 : ∀ a, a < 6 → ∀ b, b < 6 → a ≠ b → (TX10 a).2.1 ≠ (TX10 b).2.1 := by decide +kernel
theorem tyX10_ok : ∀ k, k < 6 → parseFieldDescriptor (TX10 k).2.2.1 = some (tyX10 k) := by decide +kernel
abbrev cX10_init : ByteArray := prog_12_method_1_code
def yX10_init : MethodName := ⟨RX10, "<init>", "([I)V"⟩
abbrev cX10_open : ByteArray := prog_12_method_2_code
def yX10_open : MethodName := ⟨RX10, "open", "(I)V"⟩
abbrev cX10_next : ByteArray := prog_12_method_3_code
def yX10_next : MethodName := ⟨RX10, "next", "()V"⟩
abbrev cX10_isWord : ByteArray := prog_12_method_4_code
def yX10_isWord : MethodName := ⟨RX10, "isWord", "(Ljava/lang/String;)Z"⟩
abbrev cX10_blanksEnd : ByteArray := prog_12_method_5_code
def yX10_blanksEnd : MethodName := ⟨RX10, "blanksEnd", "(I)I"⟩
abbrev cX10_lettersEnd : ByteArray := prog_12_method_6_code
def yX10_lettersEnd : MethodName := ⟨RX10, "lettersEnd", "(I)I"⟩
abbrev cX10_digitsEnd : ByteArray := prog_12_method_7_code
def yX10_digitsEnd : MethodName := ⟨RX10, "digitsEnd", "(I)I"⟩
abbrev cX10_valueOf : ByteArray := prog_12_method_8_code
def yX10_valueOf : MethodName := ⟨RX10, "valueOf", "(II)I"⟩
abbrev cX10_isLetter : ByteArray := prog_12_method_9_code
def yX10_isLetter : MethodName := ⟨RX10, "isLetter", "(I)Z"⟩
abbrev cX10_isDigit : ByteArray := prog_12_method_10_code
def yX10_isDigit : MethodName := ⟨RX10, "isDigit", "(I)Z"⟩
abbrev cX10_isSign : ByteArray := prog_12_method_11_code
def yX10_isSign : MethodName := ⟨RX10, "isSign", "(I)Z"⟩
def RX11 : String := "SwordPeace"
def TX11 : u_T := fun k => match k with
  | 0 => ("SwordPeace", "tape", "[I", true)
  | 1 => ("SwordPeace", "onTape", "I", false)
  | 2 => ("SwordPeace", "faultPlace", "I", false)
  | 3 => ("SwordPeace", "city", "LSwordPeace$City;", false)
  | 4 => ("SwordPeace", "spare", "LSwordPeace$City;", false)
  | 5 => ("SwordPeace", "reader", "LSwordPeace$Reader;", true)
  | 6 => ("SwordPeace", "now", "LSwordPeace$Chronicle;", true)
  | 7 => ("SwordPeace", "image", "LSwordPeace$Chronicle;", true)
  | 8 => ("SwordPeace", "imageKept", "Z", false)
  | 9 => ("SwordPeace", "forecast", "LSwordPeace$Forecast;", true)
  | 10 => ("SwordPeace", "packing", "LSwordPeace$Packing;", true)
  | 11 => ("SwordPeace", "doubt", "LSwordPeace$Doubt;", true)
  | _ => ("SwordPeace", "quarrels", "LSwordPeace$Quarrels;", true)
def tyX11 : Nat → FieldType := fun k => match k with
  | 0 => .array .int
  | 1 => .int
  | 2 => .int
  | 3 => .object "SwordPeace$City"
  | 4 => .object "SwordPeace$City"
  | 5 => .object "SwordPeace$Reader"
  | 6 => .object "SwordPeace$Chronicle"
  | 7 => .object "SwordPeace$Chronicle"
  | 8 => .boolean
  | 9 => .object "SwordPeace$Forecast"
  | 10 => .object "SwordPeace$Packing"
  | 11 => .object "SwordPeace$Doubt"
  | _ => .object "SwordPeace$Quarrels"
abbrev wsX110 : List Cond := u_ws RX11 TX11 13
theorem nmX11 : ∀ a, a < 13 → ∀ b, b < 13 → a ≠ b → (TX11 a).2.1 ≠ (TX11 b).2.1 := by decide +kernel
theorem tyX11_ok : ∀ k, k < 13 → parseFieldDescriptor (TX11 k).2.2.1 = some (tyX11 k) := by decide +kernel
abbrev cX11_init : ByteArray := prog_1_method_1_code
def yX11_init : MethodName := ⟨RX11, "<init>", "()V"⟩
abbrev cX11_feed : ByteArray := prog_1_method_2_code
def yX11_feed : MethodName := ⟨RX11, "feed", "(IIIII)I"⟩
abbrev cX11_feedNumber : ByteArray := prog_1_method_3_code
def yX11_feedNumber : MethodName := ⟨RX11, "feedNumber", "(I)V"⟩
abbrev cX11_city : ByteArray := prog_1_method_4_code
def yX11_city : MethodName := ⟨RX11, "city", "(I)I"⟩
abbrev cX11_fault : ByteArray := prog_1_method_5_code
def yX11_fault : MethodName := ⟨RX11, "fault", "()I"⟩
abbrev cX11_count : ByteArray := prog_1_method_6_code
def yX11_count : MethodName := ⟨RX11, "count", "(I)I"⟩
abbrev cX11_blade : ByteArray := prog_1_method_7_code
def yX11_blade : MethodName := ⟨RX11, "blade", "(II)I"⟩
abbrev cX11_throat : ByteArray := prog_1_method_8_code
def yX11_throat : MethodName := ⟨RX11, "throat", "(II)I"⟩
abbrev cX11_feud : ByteArray := prog_1_method_9_code
def yX11_feud : MethodName := ⟨RX11, "feud", "(II)Z"⟩
abbrev cX11_days : ByteArray := prog_1_method_10_code
def yX11_days : MethodName := ⟨RX11, "days", "(I)I"⟩
abbrev cX11_swallow : ByteArray := prog_1_method_11_code
def yX11_swallow : MethodName := ⟨RX11, "swallow", "(II)I"⟩
abbrev cX11_draw : ByteArray := prog_1_method_12_code
def yX11_draw : MethodName := ⟨RX11, "draw", "(I)I"⟩
abbrev cX11_broth : ByteArray := prog_1_method_13_code
def yX11_broth : MethodName := ⟨RX11, "broth", "(II)I"⟩
abbrev cX11_make : ByteArray := prog_1_method_14_code
def yX11_make : MethodName := ⟨RX11, "make", "(IIZ)Z"⟩
abbrev cX11_undo : ByteArray := prog_1_method_15_code
def yX11_undo : MethodName := ⟨RX11, "undo", "()I"⟩
abbrev cX11_then : ByteArray := prog_1_method_16_code
def yX11_then : MethodName := ⟨RX11, "then", "(III)I"⟩
abbrev cX11_peace : ByteArray := prog_1_method_17_code
def yX11_peace : MethodName := ⟨RX11, "peace", "()I"⟩
abbrev cX11_fights : ByteArray := prog_1_method_18_code
def yX11_fights : MethodName := ⟨RX11, "fights", "(I)I"⟩
abbrev cX11_rests : ByteArray := prog_1_method_19_code
def yX11_rests : MethodName := ⟨RX11, "rests", "(I)I"⟩
abbrev cX11_worst : ByteArray := prog_1_method_20_code
def yX11_worst : MethodName := ⟨RX11, "worst", "(I)I"⟩
abbrev cX11_takeIn : ByteArray := prog_1_method_21_code
def yX11_takeIn : MethodName := ⟨RX11, "takeIn", "(I)I"⟩
abbrev cX11_throats : ByteArray := prog_1_method_22_code
def yX11_throats : MethodName := ⟨RX11, "throats", "()I"⟩
abbrev cX11_toDraw : ByteArray := prog_1_method_23_code
def yX11_toDraw : MethodName := ⟨RX11, "toDraw", "(I)I"⟩
abbrev cX11_toSwallow : ByteArray := prog_1_method_24_code
def yX11_toSwallow : MethodName := ⟨RX11, "toSwallow", "(I)I"⟩
abbrev cX11_camps : ByteArray := prog_1_method_25_code
def yX11_camps : MethodName := ⟨RX11, "camps", "()I"⟩
abbrev cX11_couples : ByteArray := prog_1_method_26_code
def yX11_couples : MethodName := ⟨RX11, "couples", "()I"⟩
abbrev cX11_grudge : ByteArray := prog_1_method_27_code
def yX11_grudge : MethodName := ⟨RX11, "grudge", "(I)I"⟩
abbrev cX11_foes : ByteArray := prog_1_method_28_code
def yX11_foes : MethodName := ⟨RX11, "foes", "(II)I"⟩
abbrev cX11_parts : ByteArray := prog_1_method_29_code
def yX11_parts : MethodName := ⟨RX11, "parts", "()I"⟩
abbrev cX11_calm : ByteArray := prog_1_method_30_code
def yX11_calm : MethodName := ⟨RX11, "calm", "(I)I"⟩
abbrev cX11_lacks : ByteArray := prog_1_method_31_code
def yX11_lacks : MethodName := ⟨RX11, "lacks", "(I)I"⟩
abbrev cX11_above : ByteArray := prog_1_method_32_code
def yX11_above : MethodName := ⟨RX11, "above", "(I)I"⟩
abbrev cX11_hiccup : ByteArray := prog_1_method_33_code
def yX11_hiccup : MethodName := ⟨RX11, "hiccup", "(I)I"⟩
abbrev cX11_see : ByteArray := prog_1_method_34_code
def yX11_see : MethodName := ⟨RX11, "see", "(III)I"⟩
abbrev cX11_wrong : ByteArray := prog_1_method_35_code
def yX11_wrong : MethodName := ⟨RX11, "wrong", "(I)I"⟩
abbrev cX11_look : ByteArray := prog_1_method_36_code
def yX11_look : MethodName := ⟨RX11, "look", "(I)I"⟩
abbrev cX11_forget : ByteArray := prog_1_method_37_code
def yX11_forget : MethodName := ⟨RX11, "forget", "()V"⟩
abbrev cX11_game : ByteArray := prog_1_method_38_code
def yX11_game : MethodName := ⟨RX11, "game", "(III)I"⟩
abbrev cX11_summer : ByteArray := prog_1_method_39_code
def yX11_summer : MethodName := ⟨RX11, "summer", "(III)I"⟩
abbrev cX11_image : ByteArray := prog_1_method_40_code
def yX11_image : MethodName := ⟨RX11, "image", "()V"⟩
abbrev cX11_restore : ByteArray := prog_1_method_41_code
def yX11_restore : MethodName := ⟨RX11, "restore", "()Z"⟩
abbrev cX11_refuse : ByteArray := prog_1_method_42_code
def yX11_refuse : MethodName := ⟨RX11, "refuse", "(I)I"⟩
abbrev cX11_needBlade : ByteArray := prog_1_method_43_code
def yX11_needBlade : MethodName := ⟨RX11, "needBlade", "(I)V"⟩
abbrev cX11_needSwallower : ByteArray := prog_1_method_44_code
def yX11_needSwallower : MethodName := ⟨RX11, "needSwallower", "(I)V"⟩
abbrev cX11_needHouse : ByteArray := prog_1_method_45_code
def yX11_needHouse : MethodName := ⟨RX11, "needHouse", "(I)V"⟩
abbrev cX11_needWhat : ByteArray := prog_1_method_46_code
def yX11_needWhat : MethodName := ⟨RX11, "needWhat", "(II)V"⟩
abbrev cX11_needAhead : ByteArray := prog_1_method_47_code
def yX11_needAhead : MethodName := ⟨RX11, "needAhead", "(I)V"⟩
def RX12 : String := "SwordPeaceModel"
def TX12 : u_T := fun k => match k with
  | 0 => ("SwordPeaceModel", "ofCools", "[Ljava/lang/String;", true)
  | 1 => ("SwordPeaceModel", "ofRises", "[Ljava/lang/String;", true)
  | 2 => ("SwordPeaceModel", "values", "[Ljava/lang/String;", false)
  | 3 => ("SwordPeaceModel", "code", "I", false)
  | 4 => ("SwordPeaceModel", "told", "[I", true)
  | 5 => ("SwordPeaceModel", "feudTold", "[I", true)
  | 6 => ("SwordPeaceModel", "roomTold", "[I", true)
  | 7 => ("SwordPeaceModel", "hiccups", "[I", true)
  | 8 => ("SwordPeaceModel", "house", "[I", true)
  | 9 => ("SwordPeaceModel", "length", "[I", true)
  | 10 => ("SwordPeaceModel", "angerTold", "[I", true)
  | 11 => ("SwordPeaceModel", "signsCools", "[I", true)
  | 12 => ("SwordPeaceModel", "signsRises", "[I", true)
  | 13 => ("SwordPeaceModel", "status", "[I", true)
  | 14 => ("SwordPeaceModel", "tape", "[I", true)
  | 15 => ("SwordPeaceModel", "taped", "I", false)
  | 16 => ("SwordPeaceModel", "at", "I", false)
  | 17 => ("SwordPeaceModel", "size", "I", false)
  | 18 => ("SwordPeaceModel", "token", "I", false)
  | 19 => ("SwordPeaceModel", "number", "I", false)
  | 20 => ("SwordPeaceModel", "begins", "I", false)
  | 21 => ("SwordPeaceModel", "stops", "I", false)
  | 22 => ("SwordPeaceModel", "bad", "I", false)
  | 23 => ("SwordPeaceModel", "badPlace", "I", false)
  | 24 => ("SwordPeaceModel", "faultPlace", "I", false)
  | 25 => ("SwordPeaceModel", "ofRise", "Z", false)
  | 26 => ("SwordPeaceModel", "anger", "[I", true)
  | 27 => ("SwordPeaceModel", "where", "[I", true)
  | 28 => ("SwordPeaceModel", "rooms", "[I", true)
  | 29 => ("SwordPeaceModel", "many", "[I", true)
  | 30 => ("SwordPeaceModel", "stacked", "[I", true)
  | 31 => ("SwordPeaceModel", "feuds", "[I", true)
  | 32 => ("SwordPeaceModel", "past", "[I", true)
  | 33 => ("SwordPeaceModel", "day", "I", false)
  | 34 => ("SwordPeaceModel", "fought", "I", false)
  | 35 => ("SwordPeaceModel", "acts", "I", false)
  | 36 => ("SwordPeaceModel", "seen", "I", false)
  | 37 => ("SwordPeaceModel", "asked", "[I", true)
  | 38 => ("SwordPeaceModel", "stack", "[I", true)
  | 39 => ("SwordPeaceModel", "changes", "[I", true)
  | 40 => ("SwordPeaceModel", "houseFights", "[I", true)
  | 41 => ("SwordPeaceModel", "rowThen", "[I", true)
  | 42 => ("SwordPeaceModel", "rowPeace", "[I", true)
  | 43 => ("SwordPeaceModel", "mostBy", "[I", true)
  | 44 => ("SwordPeaceModel", "goes", "[Z", true)
  | 45 => ("SwordPeaceModel", "seenBlade", "[I", true)
  | 46 => ("SwordPeaceModel", "seenIn", "[I", true)
  | 47 => ("SwordPeaceModel", "seenAnger", "[I", true)
  | 48 => ("SwordPeaceModel", "rowSeen", "[I", true)
  | 49 => ("SwordPeaceModel", "fits", "[I", true)
  | 50 => ("SwordPeaceModel", "angersThen", "[I", true)
  | 51 => ("SwordPeaceModel", "fitMany", "I", false)
  | 52 => ("SwordPeaceModel", "told100", "[Z", true)
  | 53 => ("SwordPeaceModel", "losses", "[I", true)
  | 54 => ("SwordPeaceModel", "seedNow", "I", false)
  | 55 => ("SwordPeaceModel", "hasImage", "Z", false)
  | 56 => ("SwordPeaceModel", "actsThen", "I", false)
  | 57 => ("SwordPeaceModel", "seenThen", "I", false)
  | 58 => ("SwordPeaceModel", "imageRow", "[I", true)
  | 59 => ("SwordPeaceModel", "pastThen", "[I", true)
  | 60 => ("SwordPeaceModel", "seenBladeThen", "[I", true)
  | 61 => ("SwordPeaceModel", "seenInThen", "[I", true)
  | 62 => ("SwordPeaceModel", "seenAngerThen", "[I", true)
  | _ => ("SwordPeaceModel", "statusThen", "[I", true)
def tyX12 : Nat → FieldType := fun k => match k with
  | 0 => .array (.object "java/lang/String")
  | 1 => .array (.object "java/lang/String")
  | 2 => .array (.object "java/lang/String")
  | 3 => .int
  | 4 => .array .int
  | 5 => .array .int
  | 6 => .array .int
  | 7 => .array .int
  | 8 => .array .int
  | 9 => .array .int
  | 10 => .array .int
  | 11 => .array .int
  | 12 => .array .int
  | 13 => .array .int
  | 14 => .array .int
  | 15 => .int
  | 16 => .int
  | 17 => .int
  | 18 => .int
  | 19 => .int
  | 20 => .int
  | 21 => .int
  | 22 => .int
  | 23 => .int
  | 24 => .int
  | 25 => .boolean
  | 26 => .array .int
  | 27 => .array .int
  | 28 => .array .int
  | 29 => .array .int
  | 30 => .array .int
  | 31 => .array .int
  | 32 => .array .int
  | 33 => .int
  | 34 => .int
  | 35 => .int
  | 36 => .int
  | 37 => .array .int
  | 38 => .array .int
  | 39 => .array .int
  | 40 => .array .int
  | 41 => .array .int
  | 42 => .array .int
  | 43 => .array .int
  | 44 => .array .boolean
  | 45 => .array .int
  | 46 => .array .int
  | 47 => .array .int
  | 48 => .array .int
  | 49 => .array .int
  | 50 => .array .int
  | 51 => .int
  | 52 => .array .boolean
  | 53 => .array .int
  | 54 => .int
  | 55 => .boolean
  | 56 => .int
  | 57 => .int
  | 58 => .array .int
  | 59 => .array .int
  | 60 => .array .int
  | 61 => .array .int
  | 62 => .array .int
  | _ => .array .int
abbrev wsX120 : List Cond := u_ws RX12 TX12 64
theorem nmX12 : ∀ a, a < 64 → ∀ b, b < 64 → a ≠ b → (TX12 a).2.1 ≠ (TX12 b).2.1 := by decide +kernel
theorem tyX12_ok : ∀ k, k < 64 → parseFieldDescriptor (TX12 k).2.2.1 = some (tyX12 k) := by decide +kernel
abbrev cX12_init : ByteArray := prog_14_method_1_code
def yX12_init : MethodName := ⟨RX12, "<init>", "()V"⟩
abbrev cX12_thrown : ByteArray := prog_14_method_2_code
def yX12_thrown : MethodName := ⟨RX12, "thrown", "()I"⟩
abbrev cX12_fail : ByteArray := prog_14_method_3_code
def yX12_fail : MethodName := ⟨RX12, "fail", "(I)I"⟩
abbrev cX12_failing : ByteArray := prog_14_method_4_code
def yX12_failing : MethodName := ⟨RX12, "failing", "(I)Z"⟩
abbrev cX12_isIn : ByteArray := prog_14_method_5_code
def yX12_isIn : MethodName := ⟨RX12, "isIn", "(JJJ)Z"⟩
abbrev cX12_isOf : ByteArray := prog_14_method_6_code
def yX12_isOf : MethodName := ⟨RX12, "isOf", "(II)Z"⟩
abbrev cX12_bitsOf : ByteArray := prog_14_method_7_code
def yX12_bitsOf : MethodName := ⟨RX12, "bitsOf", "(I)I"⟩
abbrev cX12_isBlade : ByteArray := prog_14_method_8_code
def yX12_isBlade : MethodName := ⟨RX12, "isBlade", "(I)Z"⟩
abbrev cX12_isThroat : ByteArray := prog_14_method_9_code
def yX12_isThroat : MethodName := ⟨RX12, "isThroat", "(I)Z"⟩
abbrev cX12_isHouse : ByteArray := prog_14_method_10_code
def yX12_isHouse : MethodName := ⟨RX12, "isHouse", "(I)Z"⟩
abbrev cX12_feed : ByteArray := prog_14_method_11_code
def yX12_feed : MethodName := ⟨RX12, "feed", "(IIIII)I"⟩
abbrev cX12_byteAt : ByteArray := prog_14_method_12_code
def yX12_byteAt : MethodName := ⟨RX12, "byteAt", "(I)I"⟩
abbrev cX12_isLetter : ByteArray := prog_14_method_13_code
def yX12_isLetter : MethodName := ⟨RX12, "isLetter", "(I)Z"⟩
abbrev cX12_isDigit : ByteArray := prog_14_method_14_code
def yX12_isDigit : MethodName := ⟨RX12, "isDigit", "(I)Z"⟩
abbrev cX12_isMark : ByteArray := prog_14_method_15_code
def yX12_isMark : MethodName := ⟨RX12, "isMark", "(I)Z"⟩
abbrev cX12_stepOn : ByteArray := prog_14_method_16_code
def yX12_stepOn : MethodName := ⟨RX12, "stepOn", "()V"⟩
abbrev cX12_amiss : ByteArray := prog_14_method_17_code
def yX12_amiss : MethodName := ⟨RX12, "amiss", "(I)V"⟩
abbrev cX12_is : ByteArray := prog_14_method_18_code
def yX12_is : MethodName := ⟨RX12, "is", "(Ljava/lang/String;)Z"⟩
abbrev cX12_which : ByteArray := prog_14_method_19_code
def yX12_which : MethodName := ⟨RX12, "which", "([Ljava/lang/String;)I"⟩
abbrev cX12_isMarked : ByteArray := prog_14_method_20_code
def yX12_isMarked : MethodName := ⟨RX12, "isMarked", "(I)Z"⟩
abbrev cX12_mark : ByteArray := prog_14_method_21_code
def yX12_mark : MethodName := ⟨RX12, "mark", "(I)V"⟩
abbrev cX12_numberNow : ByteArray := prog_14_method_22_code
def yX12_numberNow : MethodName := ⟨RX12, "numberNow", "(II)I"⟩
abbrev cX12_readNumber : ByteArray := prog_14_method_23_code
def yX12_readNumber : MethodName := ⟨RX12, "readNumber", "(II)I"⟩
abbrev cX12_lay : ByteArray := prog_14_method_24_code
def yX12_lay : MethodName := ⟨RX12, "lay", "(I)V"⟩
abbrev cX12_readPart : ByteArray := prog_14_method_25_code
def yX12_readPart : MethodName := ⟨RX12, "readPart", "(I)V"⟩
abbrev cX12_readProduct : ByteArray := prog_14_method_26_code
def yX12_readProduct : MethodName := ⟨RX12, "readProduct", "(I)V"⟩
abbrev cX12_readSum : ByteArray := prog_14_method_27_code
def yX12_readSum : MethodName := ⟨RX12, "readSum", "(I)V"⟩
abbrev cX12_readNot : ByteArray := prog_14_method_28_code
def yX12_readNot : MethodName := ⟨RX12, "readNot", "(I)V"⟩
abbrev cX12_readAnd : ByteArray := prog_14_method_29_code
def yX12_readAnd : MethodName := ⟨RX12, "readAnd", "(I)V"⟩
abbrev cX12_readExpression : ByteArray := prog_14_method_30_code
def yX12_readExpression : MethodName := ⟨RX12, "readExpression", "(I)V"⟩
abbrev cX12_another : ByteArray := prog_14_method_31_code
def yX12_another : MethodName := ⟨RX12, "another", "(II)Z"⟩
abbrev cX12_sayFeud : ByteArray := prog_14_method_32_code
def yX12_sayFeud : MethodName := ⟨RX12, "sayFeud", "()V"⟩
abbrev cX12_sayThroat : ByteArray := prog_14_method_33_code
def yX12_sayThroat : MethodName := ⟨RX12, "sayThroat", "()V"⟩
abbrev cX12_sayBlade : ByteArray := prog_14_method_34_code
def yX12_sayBlade : MethodName := ⟨RX12, "sayBlade", "()V"⟩
abbrev cX12_sayRule : ByteArray := prog_14_method_35_code
def yX12_sayRule : MethodName := ⟨RX12, "sayRule", "(Z)V"⟩
abbrev cX12_readLine : ByteArray := prog_14_method_36_code
def yX12_readLine : MethodName := ⟨RX12, "readLine", "(I)I"⟩
abbrev cX12_city : ByteArray := prog_14_method_37_code
def yX12_city : MethodName := ⟨RX12, "city", "(I)I"⟩
abbrev cX12_takeHalf : ByteArray := prog_14_method_38_code
def yX12_takeHalf : MethodName := ⟨RX12, "takeHalf", "([I)V"⟩
abbrev cX12_takeOver : ByteArray := prog_14_method_39_code
def yX12_takeOver : MethodName := ⟨RX12, "takeOver", "()V"⟩
abbrev cX12_fault : ByteArray := prog_14_method_40_code
def yX12_fault : MethodName := ⟨RX12, "fault", "()I"⟩
abbrev cX12_pack : ByteArray := prog_14_method_41_code
def yX12_pack : MethodName := ⟨RX12, "pack", "([II)V"⟩
abbrev cX12_unpack : ByteArray := prog_14_method_42_code
def yX12_unpack : MethodName := ⟨RX12, "unpack", "([II)V"⟩
abbrev cX12_whereSet : ByteArray := prog_14_method_43_code
def yX12_whereSet : MethodName := ⟨RX12, "whereSet", "(I)I"⟩
abbrev cX12_throatOf : ByteArray := prog_14_method_44_code
def yX12_throatOf : MethodName := ⟨RX12, "throatOf", "(I)I"⟩
abbrev cX12_inside : ByteArray := prog_14_method_45_code
def yX12_inside : MethodName := ⟨RX12, "inside", "(I)I"⟩
abbrev cX12_aboveSet : ByteArray := prog_14_method_46_code
def yX12_aboveSet : MethodName := ⟨RX12, "aboveSet", "(I)I"⟩
abbrev cX12_topOf : ByteArray := prog_14_method_47_code
def yX12_topOf : MethodName := ⟨RX12, "topOf", "(I)I"⟩
abbrev cX12_lengths : ByteArray := prog_14_method_48_code
def yX12_lengths : MethodName := ⟨RX12, "lengths", "(I)I"⟩
abbrev cX12_leftOf : ByteArray := prog_14_method_49_code
def yX12_leftOf : MethodName := ⟨RX12, "leftOf", "(I)I"⟩
abbrev cX12_putIn : ByteArray := prog_14_method_50_code
def yX12_putIn : MethodName := ⟨RX12, "putIn", "(II)V"⟩
abbrev cX12_takeOut : ByteArray := prog_14_method_51_code
def yX12_takeOut : MethodName := ⟨RX12, "takeOut", "(II)V"⟩
abbrev cX12_isFeud : ByteArray := prog_14_method_52_code
def yX12_isFeud : MethodName := ⟨RX12, "isFeud", "(II)Z"⟩
abbrev cX12_foesOf : ByteArray := prog_14_method_53_code
def yX12_foesOf : MethodName := ⟨RX12, "foesOf", "(I)I"⟩
abbrev cX12_reckon : ByteArray := prog_14_method_54_code
def yX12_reckon : MethodName := ⟨RX12, "reckon", "(III)I"⟩
abbrev cX12_valueNow : ByteArray := prog_14_method_55_code
def yX12_valueNow : MethodName := ⟨RX12, "valueNow", "([II)I"⟩
abbrev cX12_changeOf : ByteArray := prog_14_method_56_code
def yX12_changeOf : MethodName := ⟨RX12, "changeOf", "(I)I"⟩
abbrev cX12_change : ByteArray := prog_14_method_57_code
def yX12_change : MethodName := ⟨RX12, "change", "()V"⟩
abbrev cX12_isAngry : ByteArray := prog_14_method_58_code
def yX12_isAngry : MethodName := ⟨RX12, "isAngry", "(II)Z"⟩
abbrev cX12_fight : ByteArray := prog_14_method_59_code
def yX12_fight : MethodName := ⟨RX12, "fight", "()V"⟩
abbrev cX12_aDay : ByteArray := prog_14_method_60_code
def yX12_aDay : MethodName := ⟨RX12, "aDay", "()V"⟩
abbrev cX12_goOn : ByteArray := prog_14_method_61_code
def yX12_goOn : MethodName := ⟨RX12, "goOn", "(I)V"⟩
abbrev cX12_feudMany : ByteArray := prog_14_method_62_code
def yX12_feudMany : MethodName := ⟨RX12, "feudMany", "()I"⟩
abbrev cX12_count : ByteArray := prog_14_method_63_code
def yX12_count : MethodName := ⟨RX12, "count", "(I)I"⟩
abbrev cX12_blade : ByteArray := prog_14_method_64_code
def yX12_blade : MethodName := ⟨RX12, "blade", "(II)I"⟩
abbrev cX12_throat : ByteArray := prog_14_method_65_code
def yX12_throat : MethodName := ⟨RX12, "throat", "(II)I"⟩
abbrev cX12_feud : ByteArray := prog_14_method_66_code
def yX12_feud : MethodName := ⟨RX12, "feud", "(II)Z"⟩
abbrev cX12_refuse : ByteArray := prog_14_method_67_code
def yX12_refuse : MethodName := ⟨RX12, "refuse", "(I)I"⟩
abbrev cX12_keep : ByteArray := prog_14_method_68_code
def yX12_keep : MethodName := ⟨RX12, "keep", "()V"⟩
abbrev cX12_days : ByteArray := prog_14_method_69_code
def yX12_days : MethodName := ⟨RX12, "days", "(I)I"⟩
abbrev cX12_swallow : ByteArray := prog_14_method_70_code
def yX12_swallow : MethodName := ⟨RX12, "swallow", "(II)I"⟩
abbrev cX12_draw : ByteArray := prog_14_method_71_code
def yX12_draw : MethodName := ⟨RX12, "draw", "(I)I"⟩
abbrev cX12_broth : ByteArray := prog_14_method_72_code
def yX12_broth : MethodName := ⟨RX12, "broth", "(II)I"⟩
abbrev cX12_make : ByteArray := prog_14_method_73_code
def yX12_make : MethodName := ⟨RX12, "make", "(IIZ)Z"⟩
abbrev cX12_undo : ByteArray := prog_14_method_74_code
def yX12_undo : MethodName := ⟨RX12, "undo", "()I"⟩
abbrev cX12_then : ByteArray := prog_14_method_75_code
def yX12_then : MethodName := ⟨RX12, "then", "(III)I"⟩
abbrev cX12_peaceOf : ByteArray := prog_14_method_76_code
def yX12_peaceOf : MethodName := ⟨RX12, "peaceOf", "()I"⟩
abbrev cX12_peace : ByteArray := prog_14_method_77_code
def yX12_peace : MethodName := ⟨RX12, "peace", "()I"⟩
abbrev cX12_fights : ByteArray := prog_14_method_78_code
def yX12_fights : MethodName := ⟨RX12, "fights", "(I)I"⟩
abbrev cX12_rests : ByteArray := prog_14_method_79_code
def yX12_rests : MethodName := ⟨RX12, "rests", "(I)I"⟩
abbrev cX12_worst : ByteArray := prog_14_method_80_code
def yX12_worst : MethodName := ⟨RX12, "worst", "(I)I"⟩
abbrev cX12_angers : ByteArray := prog_14_method_81_code
def yX12_angers : MethodName := ⟨RX12, "angers", "(I)I"⟩
abbrev cX12_tellMost : ByteArray := prog_14_method_82_code
def yX12_tellMost : MethodName := ⟨RX12, "tellMost", "(I)V"⟩
abbrev cX12_goingTo : ByteArray := prog_14_method_83_code
def yX12_goingTo : MethodName := ⟨RX12, "goingTo", "(II)I"⟩
abbrev cX12_takeIn : ByteArray := prog_14_method_84_code
def yX12_takeIn : MethodName := ⟨RX12, "takeIn", "(I)I"⟩
abbrev cX12_throats : ByteArray := prog_14_method_85_code
def yX12_throats : MethodName := ⟨RX12, "throats", "()I"⟩
abbrev cX12_toDraw : ByteArray := prog_14_method_86_code
def yX12_toDraw : MethodName := ⟨RX12, "toDraw", "(I)I"⟩
abbrev cX12_firstRoom : ByteArray := prog_14_method_87_code
def yX12_firstRoom : MethodName := ⟨RX12, "firstRoom", "(I)I"⟩
abbrev cX12_toSwallow : ByteArray := prog_14_method_88_code
def yX12_toSwallow : MethodName := ⟨RX12, "toSwallow", "(I)I"⟩
abbrev cX12_camps : ByteArray := prog_14_method_89_code
def yX12_camps : MethodName := ⟨RX12, "camps", "()I"⟩
abbrev cX12_couplesOf : ByteArray := prog_14_method_90_code
def yX12_couplesOf : MethodName := ⟨RX12, "couplesOf", "(I)I"⟩
abbrev cX12_couples : ByteArray := prog_14_method_91_code
def yX12_couples : MethodName := ⟨RX12, "couples", "()I"⟩
abbrev cX12_grudge : ByteArray := prog_14_method_92_code
def yX12_grudge : MethodName := ⟨RX12, "grudge", "(I)I"⟩
abbrev cX12_foes : ByteArray := prog_14_method_93_code
def yX12_foes : MethodName := ⟨RX12, "foes", "(II)I"⟩
abbrev cX12_parts : ByteArray := prog_14_method_94_code
def yX12_parts : MethodName := ⟨RX12, "parts", "()I"⟩
abbrev cX12_calm : ByteArray := prog_14_method_95_code
def yX12_calm : MethodName := ⟨RX12, "calm", "(I)I"⟩
abbrev cX12_lacks : ByteArray := prog_14_method_96_code
def yX12_lacks : MethodName := ⟨RX12, "lacks", "(I)I"⟩
abbrev cX12_above : ByteArray := prog_14_method_97_code
def yX12_above : MethodName := ⟨RX12, "above", "(I)I"⟩
abbrev cX12_hiccup : ByteArray := prog_14_method_98_code
def yX12_hiccup : MethodName := ⟨RX12, "hiccup", "(I)I"⟩
abbrev cX12_see : ByteArray := prog_14_method_99_code
def yX12_see : MethodName := ⟨RX12, "see", "(III)I"⟩
abbrev cX12_isAsSeen : ByteArray := prog_14_method_100_code
def yX12_isAsSeen : MethodName := ⟨RX12, "isAsSeen", "()Z"⟩
abbrev cX12_tellFits : ByteArray := prog_14_method_101_code
def yX12_tellFits : MethodName := ⟨RX12, "tellFits", "()V"⟩
abbrev cX12_wrong : ByteArray := prog_14_method_102_code
def yX12_wrong : MethodName := ⟨RX12, "wrong", "(I)I"⟩
abbrev cX12_unlike : ByteArray := prog_14_method_103_code
def yX12_unlike : MethodName := ⟨RX12, "unlike", "(I)I"⟩
abbrev cX12_look : ByteArray := prog_14_method_104_code
def yX12_look : MethodName := ⟨RX12, "look", "(I)I"⟩
abbrev cX12_forget : ByteArray := prog_14_method_105_code
def yX12_forget : MethodName := ⟨RX12, "forget", "()V"⟩
abbrev cX12_insideOf : ByteArray := prog_14_method_106_code
def yX12_insideOf : MethodName := ⟨RX12, "insideOf", "(I)I"⟩
abbrev cX12_tellLosses : ByteArray := prog_14_method_107_code
def yX12_tellLosses : MethodName := ⟨RX12, "tellLosses", "(II)V"⟩
abbrev cX12_game : ByteArray := prog_14_method_108_code
def yX12_game : MethodName := ⟨RX12, "game", "(III)I"⟩
abbrev cX12_drawOf : ByteArray := prog_14_method_109_code
def yX12_drawOf : MethodName := ⟨RX12, "drawOf", "(I)I"⟩
abbrev cX12_something : ByteArray := prog_14_method_110_code
def yX12_something : MethodName := ⟨RX12, "something", "()V"⟩
abbrev cX12_summer : ByteArray := prog_14_method_111_code
def yX12_summer : MethodName := ⟨RX12, "summer", "(III)I"⟩
abbrev cX12_copyTo : ByteArray := prog_14_method_112_code
def yX12_copyTo : MethodName := ⟨RX12, "copyTo", "([I[I)V"⟩
abbrev cX12_image : ByteArray := prog_14_method_113_code
def yX12_image : MethodName := ⟨RX12, "image", "()V"⟩
abbrev cX12_restore : ByteArray := prog_14_method_114_code
def yX12_restore : MethodName := ⟨RX12, "restore", "()Z"⟩
def RJx145de : String := "java/io/Serializable"
def TJx145de : u_T := fun k => match k with
  | _ => ("", "", "", false)
def tyJx145de : Nat → FieldType := fun k => match k with
  | _ => .int
theorem nmJx145de : ∀ a, a < 0 → ∀ b, b < 0 → a ≠ b → (TJx145de a).2.1 ≠ (TJx145de b).2.1 := by decide +kernel
theorem tyJx145de_ok : ∀ k, k < 0 → parseFieldDescriptor (TJx145de k).2.2.1 = some (tyJx145de k) := by decide +kernel
def RJx9f9b0 : String := "java/lang/CharSequence"
def TJx9f9b0 : u_T := fun k => match k with
  | _ => ("", "", "", false)
def tyJx9f9b0 : Nat → FieldType := fun k => match k with
  | _ => .int
theorem nmJx9f9b0 : ∀ a, a < 0 → ∀ b, b < 0 → a ≠ b → (TJx9f9b0 a).2.1 ≠ (TJx9f9b0 b).2.1 := by decide +kernel
theorem tyJx9f9b0_ok : ∀ k, k < 0 → parseFieldDescriptor (TJx9f9b0 k).2.2.1 = some (tyJx9f9b0 k) := by decide +kernel
def RJ11 : String := "java/lang/Character"
def TJ11 : u_T := fun k => match k with
  | _ => ("", "", "", false)
def tyJ11 : Nat → FieldType := fun k => match k with
  | _ => .int
theorem nmJ11 : ∀ a, a < 0 → ∀ b, b < 0 → a ≠ b → (TJ11 a).2.1 ≠ (TJ11 b).2.1 := by decide +kernel
theorem tyJ11_ok : ∀ k, k < 0 → parseFieldDescriptor (TJ11 k).2.2.1 = some (tyJ11 k) := by decide +kernel
abbrev cJ11_isValidCodePoint_9a6ad : ByteArray := prog_17_method_11_code
def yJ11_isValidCodePoint_9a6ad : MethodName := ⟨RJ11, "isValidCodePoint", "(I)Z"⟩
abbrev cJ11_highSurrogate_5068e : ByteArray := prog_17_method_28_code
def yJ11_highSurrogate_5068e : MethodName := ⟨RJ11, "highSurrogate", "(I)C"⟩
abbrev cJ11_lowSurrogate_5068e : ByteArray := prog_17_method_29_code
def yJ11_lowSurrogate_5068e : MethodName := ⟨RJ11, "lowSurrogate", "(I)C"⟩
def RJxb160c : String := "java/lang/Comparable"
def TJxb160c : u_T := fun k => match k with
  | _ => ("", "", "", false)
def tyJxb160c : Nat → FieldType := fun k => match k with
  | _ => .int
theorem nmJxb160c : ∀ a, a < 0 → ∀ b, b < 0 → a ≠ b → (TJxb160c a).2.1 ≠ (TJxb160c b).2.1 := by decide +kernel
theorem tyJxb160c_ok : ∀ k, k < 0 → parseFieldDescriptor (TJxb160c k).2.2.1 = some (tyJxb160c k) := by decide +kernel
def RJ6 : String := "java/lang/Integer"
def TJ6 : u_T := fun k => match k with
  | _ => ("", "", "", false)
def tyJ6 : Nat → FieldType := fun k => match k with
  | _ => .int
theorem nmJ6 : ∀ a, a < 0 → ∀ b, b < 0 → a ≠ b → (TJ6 a).2.1 ≠ (TJ6 b).2.1 := by decide +kernel
theorem tyJ6_ok : ∀ k, k < 0 → parseFieldDescriptor (TJ6 k).2.2.1 = some (tyJ6 k) := by decide +kernel
abbrev cJ6_bitCount_0f7a4 : ByteArray := prog_21_method_49_code
def yJ6_bitCount_0f7a4 : MethodName := ⟨RJ6, "bitCount", "(I)I"⟩
def RJ13 : String := "java/lang/Long"
def TJ13 : u_T := fun k => match k with
  | _ => ("", "", "", false)
def tyJ13 : Nat → FieldType := fun k => match k with
  | _ => .int
theorem nmJ13 : ∀ a, a < 0 → ∀ b, b < 0 → a ≠ b → (TJ13 a).2.1 ≠ (TJ13 b).2.1 := by decide +kernel
theorem tyJ13_ok : ∀ k, k < 0 → parseFieldDescriptor (TJ13 k).2.2.1 = some (tyJ13 k) := by decide +kernel
abbrev cJ13_bitCount_95d88 : ByteArray := prog_22_method_50_code
def yJ13_bitCount_95d88 : MethodName := ⟨RJ13, "bitCount", "(J)I"⟩
def RJ9 : String := "java/lang/Math"
def TJ9 : u_T := fun k => match k with
  | _ => ("", "", "", false)
def tyJ9 : Nat → FieldType := fun k => match k with
  | _ => .int
theorem nmJ9 : ∀ a, a < 0 → ∀ b, b < 0 → a ≠ b → (TJ9 a).2.1 ≠ (TJ9 b).2.1 := by decide +kernel
theorem tyJ9_ok : ∀ k, k < 0 → parseFieldDescriptor (TJ9 k).2.2.1 = some (tyJ9 k) := by decide +kernel
abbrev cJ9_max_7cf53 : ByteArray := prog_23_method_65_code
def yJ9_max_7cf53 : MethodName := ⟨RJ9, "max", "(II)I"⟩
abbrev cJ9_min_7cf53 : ByteArray := prog_23_method_69_code
def yJ9_min_7cf53 : MethodName := ⟨RJ9, "min", "(II)I"⟩
def RJ0 : String := "java/lang/String"
def TJ0 : u_T := fun k => match k with
  | _ => ("", "", "", false)
def tyJ0 : Nat → FieldType := fun k => match k with
  | _ => .int
theorem nmJ0 : ∀ a, a < 0 → ∀ b, b < 0 → a ≠ b → (TJ0 a).2.1 ≠ (TJ0 b).2.1 := by decide +kernel
theorem tyJ0_ok : ∀ k, k < 0 → parseFieldDescriptor (TJ0 k).2.2.1 = some (tyJ0 k) := by decide +kernel
abbrev cJ0_length_8abf5 : ByteArray := prog_25_method_54_code
def yJ0_length_8abf5 : MethodName := ⟨RJ0, "length", "()I"⟩
abbrev cJ0_charAt_5068e : ByteArray := prog_25_method_56_code
def yJ0_charAt_5068e : MethodName := ⟨RJ0, "charAt", "(I)C"⟩
abbrev cJ0_indexOf_0f7a4 : ByteArray := prog_25_method_79_code
def yJ0_indexOf_0f7a4 : MethodName := ⟨RJ0, "indexOf", "(I)I"⟩
abbrev cJ0_indexOf_7cf53 : ByteArray := prog_25_method_80_code
def yJ0_indexOf_7cf53 : MethodName := ⟨RJ0, "indexOf", "(II)I"⟩
abbrev cJ0_coder_7d493 : ByteArray := prog_25_method_152_code
def yJ0_coder_7d493 : MethodName := ⟨RJ0, "coder", "()B"⟩
abbrev cJ0_isLatin1_aae02 : ByteArray := prog_25_method_154_code
def yJ0_isLatin1_aae02 : MethodName := ⟨RJ0, "isLatin1", "()Z"⟩
abbrev cJ0_checkIndex_df160 : ByteArray := prog_25_method_155_code
def yJ0_checkIndex_df160 : MethodName := ⟨RJ0, "checkIndex", "(II)V"⟩
abbrev cJ0_checkBoundsBeginEnd_23922 : ByteArray := prog_25_method_158_code
def yJ0_checkBoundsBeginEnd_23922 : MethodName := ⟨RJ0, "checkBoundsBeginEnd", "(III)V"⟩
def RJ1 : String := "java/lang/StringLatin1"
def TJ1 : u_T := fun k => match k with
  | _ => ("", "", "", false)
def tyJ1 : Nat → FieldType := fun k => match k with
  | _ => .int
theorem nmJ1 : ∀ a, a < 0 → ∀ b, b < 0 → a ≠ b → (TJ1 a).2.1 ≠ (TJ1 b).2.1 := by decide +kernel
theorem tyJ1_ok : ∀ k, k < 0 → parseFieldDescriptor (TJ1 k).2.2.1 = some (tyJ1 k) := by decide +kernel
abbrev cJ1_charAt_3b067 : ByteArray := prog_26_method_2_code
def yJ1_charAt_3b067 : MethodName := ⟨RJ1, "charAt", "([BI)C"⟩
abbrev cJ1_canEncode_9a6ad : ByteArray := prog_26_method_4_code
def yJ1_canEncode_9a6ad : MethodName := ⟨RJ1, "canEncode", "(I)Z"⟩
abbrev cJ1_indexOf_4cfef : ByteArray := prog_26_method_22_code
def yJ1_indexOf_4cfef : MethodName := ⟨RJ1, "indexOf", "([BIII)I"⟩
abbrev cJ1_indexOfChar_4cfef : ByteArray := prog_26_method_23_code
def yJ1_indexOfChar_4cfef : MethodName := ⟨RJ1, "indexOfChar", "([BIII)I"⟩
def RJ2 : String := "java/lang/StringUTF16"
def TJ2 : u_T := fun k => match k with
  | _ => ("", "", "", false)
def tyJ2 : Nat → FieldType := fun k => match k with
  | _ => .int
theorem nmJ2 : ∀ a, a < 0 → ∀ b, b < 0 → a ≠ b → (TJ2 a).2.1 ≠ (TJ2 b).2.1 := by decide +kernel
theorem tyJ2_ok : ∀ k, k < 0 → parseFieldDescriptor (TJ2 k).2.2.1 = some (tyJ2 k) := by decide +kernel
abbrev cJ2_getChar_3b067 : ByteArray := prog_27_method_5_code
def yJ2_getChar_3b067 : MethodName := ⟨RJ2, "getChar", "([BI)C"⟩
abbrev cJ2_length_9d52b : ByteArray := prog_27_method_6_code
def yJ2_length_9d52b : MethodName := ⟨RJ2, "length", "([B)I"⟩
abbrev cJ2_indexOf_4cfef : ByteArray := prog_27_method_40_code
def yJ2_indexOf_4cfef : MethodName := ⟨RJ2, "indexOf", "([BIII)I"⟩
abbrev cJ2_indexOfChar_4cfef : ByteArray := prog_27_method_47_code
def yJ2_indexOfChar_4cfef : MethodName := ⟨RJ2, "indexOfChar", "([BIII)I"⟩
abbrev cJ2_indexOfCharUnsafe_4cfef : ByteArray := prog_27_method_48_code
def yJ2_indexOfCharUnsafe_4cfef : MethodName := ⟨RJ2, "indexOfCharUnsafe", "([BIII)I"⟩
abbrev cJ2_indexOfSupplementary_4cfef : ByteArray := prog_27_method_49_code
def yJ2_indexOfSupplementary_4cfef : MethodName := ⟨RJ2, "indexOfSupplementary", "([BIII)I"⟩
abbrev cJ2_charAt_3b067 : ByteArray := prog_27_method_83_code
def yJ2_charAt_3b067 : MethodName := ⟨RJ2, "charAt", "([BI)C"⟩
abbrev cJ2_checkIndex_2214a : ByteArray := prog_27_method_91_code
def yJ2_checkIndex_2214a : MethodName := ⟨RJ2, "checkIndex", "(I[B)V"⟩
abbrev cJ2_checkBoundsBeginEnd_d044e : ByteArray := prog_27_method_93_code
def yJ2_checkBoundsBeginEnd_d044e : MethodName := ⟨RJ2, "checkBoundsBeginEnd", "(II[B)V"⟩
def RJ10 : String := "java/lang/System"
def TJ10 : u_T := fun k => match k with
  | _ => ("", "", "", false)
def tyJ10 : Nat → FieldType := fun k => match k with
  | _ => .int
theorem nmJ10 : ∀ a, a < 0 → ∀ b, b < 0 → a ≠ b → (TJ10 a).2.1 ≠ (TJ10 b).2.1 := by decide +kernel
theorem tyJ10_ok : ∀ k, k < 0 → parseFieldDescriptor (TJ10 k).2.2.1 = some (tyJ10 k) := by decide +kernel
def RJxfd54e : String := "java/lang/constant/Constable"
def TJxfd54e : u_T := fun k => match k with
  | _ => ("", "", "", false)
def tyJxfd54e : Nat → FieldType := fun k => match k with
  | _ => .int
theorem nmJxfd54e : ∀ a, a < 0 → ∀ b, b < 0 → a ≠ b → (TJxfd54e a).2.1 ≠ (TJxfd54e b).2.1 := by decide +kernel
theorem tyJxfd54e_ok : ∀ k, k < 0 → parseFieldDescriptor (TJxfd54e k).2.2.1 = some (tyJxfd54e k) := by decide +kernel
def RJx3cf43 : String := "java/lang/constant/ConstantDesc"
def TJx3cf43 : u_T := fun k => match k with
  | _ => ("", "", "", false)
def tyJx3cf43 : Nat → FieldType := fun k => match k with
  | _ => .int
theorem nmJx3cf43 : ∀ a, a < 0 → ∀ b, b < 0 → a ≠ b → (TJx3cf43 a).2.1 ≠ (TJx3cf43 b).2.1 := by decide +kernel
theorem tyJx3cf43_ok : ∀ k, k < 0 → parseFieldDescriptor (TJx3cf43 k).2.2.1 = some (tyJx3cf43 k) := by decide +kernel
def RJ3 : String := "jdk/internal/util/Preconditions"
def TJ3 : u_T := fun k => match k with
  | _ => ("", "", "", false)
def tyJ3 : Nat → FieldType := fun k => match k with
  | _ => .int
theorem nmJ3 : ∀ a, a < 0 → ∀ b, b < 0 → a ≠ b → (TJ3 a).2.1 ≠ (TJ3 b).2.1 := by decide +kernel
theorem tyJ3_ok : ∀ k, k < 0 → parseFieldDescriptor (TJ3 k).2.2.1 = some (tyJ3 k) := by decide +kernel
abbrev cJ3_checkIndex_8e157 : ByteArray := prog_33_method_11_code
def yJ3_checkIndex_8e157 : MethodName := ⟨RJ3, "checkIndex", "(IILjava/util/function/BiFunction;)I"⟩
abbrev cJ3_checkFromToIndex_8c36e : ByteArray := prog_33_method_12_code
def yJ3_checkFromToIndex_8c36e : MethodName := ⟨RJ3, "checkFromToIndex", "(IIILjava/util/function/BiFunction;)I"⟩
def RL : String := "SwordPeaceLaw"
abbrev cL_city : ByteArray := method_3_code
def yL_city : MethodName := ⟨RL, "city", "(LSwordPeace;I[J)I"⟩
abbrev cL_count : ByteArray := method_4_code
def yL_count : MethodName := ⟨RL, "count", "(LSwordPeace;I[J)I"⟩
abbrev cL_blade : ByteArray := method_5_code
def yL_blade : MethodName := ⟨RL, "blade", "(LSwordPeace;II[J)I"⟩
abbrev cL_throat : ByteArray := method_6_code
def yL_throat : MethodName := ⟨RL, "throat", "(LSwordPeace;II[J)I"⟩
abbrev cL_feud : ByteArray := method_7_code
def yL_feud : MethodName := ⟨RL, "feud", "(LSwordPeace;II[J)I"⟩
abbrev cL_swallow : ByteArray := method_8_code
def yL_swallow : MethodName := ⟨RL, "swallow", "(LSwordPeace;II[J)I"⟩
abbrev cL_draw : ByteArray := method_9_code
def yL_draw : MethodName := ⟨RL, "draw", "(LSwordPeace;I[J)I"⟩
abbrev cL_broth : ByteArray := method_10_code
def yL_broth : MethodName := ⟨RL, "broth", "(LSwordPeace;II[J)I"⟩
abbrev cL_make : ByteArray := method_11_code
def yL_make : MethodName := ⟨RL, "make", "(LSwordPeace;IIZ[J)I"⟩
abbrev cL_then : ByteArray := method_12_code
def yL_then : MethodName := ⟨RL, "then", "(LSwordPeace;III[J)I"⟩
abbrev cL_fights : ByteArray := method_13_code
def yL_fights : MethodName := ⟨RL, "fights", "(LSwordPeace;I[J)I"⟩
abbrev cL_rests : ByteArray := method_14_code
def yL_rests : MethodName := ⟨RL, "rests", "(LSwordPeace;I[J)I"⟩
abbrev cL_worst : ByteArray := method_15_code
def yL_worst : MethodName := ⟨RL, "worst", "(LSwordPeace;I[J)I"⟩
abbrev cL_takeIn : ByteArray := method_16_code
def yL_takeIn : MethodName := ⟨RL, "takeIn", "(LSwordPeace;I[J)I"⟩
abbrev cL_toDraw : ByteArray := method_17_code
def yL_toDraw : MethodName := ⟨RL, "toDraw", "(LSwordPeace;I[J)I"⟩
abbrev cL_toSwallow : ByteArray := method_18_code
def yL_toSwallow : MethodName := ⟨RL, "toSwallow", "(LSwordPeace;I[J)I"⟩
abbrev cL_grudge : ByteArray := method_19_code
def yL_grudge : MethodName := ⟨RL, "grudge", "(LSwordPeace;I[J)I"⟩
abbrev cL_foes : ByteArray := method_20_code
def yL_foes : MethodName := ⟨RL, "foes", "(LSwordPeace;II[J)I"⟩
abbrev cL_calm : ByteArray := method_21_code
def yL_calm : MethodName := ⟨RL, "calm", "(LSwordPeace;I[J)I"⟩
abbrev cL_lacks : ByteArray := method_22_code
def yL_lacks : MethodName := ⟨RL, "lacks", "(LSwordPeace;I[J)I"⟩
abbrev cL_above : ByteArray := method_23_code
def yL_above : MethodName := ⟨RL, "above", "(LSwordPeace;I[J)I"⟩
abbrev cL_hiccup : ByteArray := method_24_code
def yL_hiccup : MethodName := ⟨RL, "hiccup", "(LSwordPeace;I[J)I"⟩
abbrev cL_see : ByteArray := method_25_code
def yL_see : MethodName := ⟨RL, "see", "(LSwordPeace;III[J)I"⟩
abbrev cL_wrong : ByteArray := method_26_code
def yL_wrong : MethodName := ⟨RL, "wrong", "(LSwordPeace;I[J)I"⟩
abbrev cL_look : ByteArray := method_27_code
def yL_look : MethodName := ⟨RL, "look", "(LSwordPeace;I[J)I"⟩
abbrev cL_game : ByteArray := method_28_code
def yL_game : MethodName := ⟨RL, "game", "(LSwordPeace;III[J)I"⟩
abbrev cL_summer : ByteArray := method_29_code
def yL_summer : MethodName := ⟨RL, "summer", "(LSwordPeace;III[J)I"⟩
abbrev cL_law : ByteArray := code
def yL_law : MethodName := ⟨RL, "law", "([I)Z"⟩
theorem dX0_init_0 : decode cX0_init 0 = .ok (.aload_n 0, 1) := by decide +kernel
theorem dX0_init_1 : decode cX0_init 1 = .ok (.invokespecial 1, 3) := by decide +kernel
theorem dX0_init_4 : decode cX0_init 4 = .ok (.aload_n 0, 1) := by decide +kernel
theorem dX0_init_5 : decode cX0_init 5 = .ok (.bipush 40, 2) := by decide +kernel
theorem dX0_init_7 : decode cX0_init 7 = .ok (.newarray .int, 2) := by decide +kernel
theorem dX0_init_9 : decode cX0_init 9 = .ok (.putfield 9, 3) := by decide +kernel
theorem dX0_init_12 : decode cX0_init 12 = .ok (.return_, 1) := by decide +kernel
theorem dX0_setForAll_0 : decode cX0_setForAll 0 = .ok (.aload_n 0, 1) := by decide +kernel
theorem dX0_setForAll_1 : decode cX0_setForAll 1 = .ok (.iload_n 1, 1) := by decide +kernel
theorem dX0_setForAll_2 : decode cX0_setForAll 2 = .ok (.putfield 13, 3) := by decide +kernel
theorem dX0_setForAll_5 : decode cX0_setForAll 5 = .ok (.aload_n 0, 1) := by decide +kernel
theorem dX0_setForAll_6 : decode cX0_setForAll 6 = .ok (.iload_n 2, 1) := by decide +kernel
theorem dX0_setForAll_7 : decode cX0_setForAll 7 = .ok (.putfield 17, 3) := by decide +kernel
theorem dX0_setForAll_10 : decode cX0_setForAll 10 = .ok (.aload_n 0, 1) := by decide +kernel
theorem dX0_setForAll_11 : decode cX0_setForAll 11 = .ok (.iload_n 3, 1) := by decide +kernel
theorem dX0_setForAll_12 : decode cX0_setForAll 12 = .ok (.putfield 20, 3) := by decide +kernel
theorem dX0_setForAll_15 : decode cX0_setForAll 15 = .ok (.aload_n 0, 1) := by decide +kernel
theorem dX0_setForAll_16 : decode cX0_setForAll 16 = .ok (.iload 4, 2) := by decide +kernel
theorem dX0_setForAll_18 : decode cX0_setForAll 18 = .ok (.putfield 23, 3) := by decide +kernel
theorem dX0_setForAll_21 : decode cX0_setForAll 21 = .ok (.return_, 1) := by decide +kernel
theorem dX0_setForCools_0 : decode cX0_setForCools 0 = .ok (.aload_n 0, 1) := by decide +kernel
theorem dX0_setForCools_1 : decode cX0_setForCools 1 = .ok (.iload_n 1, 1) := by decide +kernel
theorem dX0_setForCools_2 : decode cX0_setForCools 2 = .ok (.putfield 26, 3) := by decide +kernel
theorem dX0_setForCools_5 : decode cX0_setForCools 5 = .ok (.aload_n 0, 1) := by decide +kernel
theorem dX0_setForCools_6 : decode cX0_setForCools 6 = .ok (.iload_n 2, 1) := by decide +kernel
theorem dX0_setForCools_7 : decode cX0_setForCools 7 = .ok (.putfield 29, 3) := by decide +kernel
theorem dX0_setForCools_10 : decode cX0_setForCools 10 = .ok (.return_, 1) := by decide +kernel
theorem dX0_work_0 : decode cX0_work 0 = .ok (.iconst 0, 1) := by decide +kernel
theorem dX0_work_1 : decode cX0_work 1 = .ok (.istore 4, 2) := by decide +kernel
theorem dX0_work_3 : decode cX0_work 3 = .ok (.iconst 0, 1) := by decide +kernel
theorem dX0_work_4 : decode cX0_work 4 = .ok (.iload_n 2, 1) := by decide +kernel
theorem dX0_work_5 : decode cX0_work 5 = .ok (.invokestatic 32, 3) := by decide +kernel
theorem dX0_work_8 : decode cX0_work 8 = .ok (.istore 5, 2) := by decide +kernel
theorem dX0_work_10 : decode cX0_work 10 = .ok (.iload 5, 2) := by decide +kernel
theorem dX0_work_12 : decode cX0_work 12 = .ok (.iload_n 3, 1) := by decide +kernel
theorem dX0_work_13 : decode cX0_work 13 = .ok (.if_icmp .ge 146, 3) := by decide +kernel
theorem dX0_work_16 : decode cX0_work 16 = .ok (.iload 5, 2) := by decide +kernel
theorem dX0_work_18 : decode cX0_work 18 = .ok (.aload_n 1, 1) := by decide +kernel
theorem dX0_work_19 : decode cX0_work 19 = .ok (.arraylength, 1) := by decide +kernel
theorem dX0_work_20 : decode cX0_work 20 = .ok (.if_icmp .ge 139, 3) := by decide +kernel
theorem dX0_work_23 : decode cX0_work 23 = .ok (.aload_n 1, 1) := by decide +kernel
theorem dX0_work_24 : decode cX0_work 24 = .ok (.iload 5, 2) := by decide +kernel
theorem dX0_work_26 : decode cX0_work 26 = .ok (.iaload, 1) := by decide +kernel
theorem dX0_work_27 : decode cX0_work 27 = .ok (.istore 6, 2) := by decide +kernel
theorem dX0_work_29 : decode cX0_work 29 = .ok (.iload 6, 2) := by decide +kernel
theorem dX0_work_31 : decode cX0_work 31 = .ok (.bipush (-6), 2) := by decide +kernel
theorem dX0_work_33 : decode cX0_work 33 = .ok (.if_icmp .lt 39, 3) := by decide +kernel
theorem dX0_work_36 : decode cX0_work 36 = .ok (.iload 4, 2) := by decide +kernel
theorem dX0_work_38 : decode cX0_work 38 = .ok (.bipush 40, 2) := by decide +kernel
theorem dX0_work_40 : decode cX0_work 40 = .ok (.if_icmp .ge 113, 3) := by decide +kernel
theorem dX0_work_43 : decode cX0_work 43 = .ok (.aload_n 0, 1) := by decide +kernel
theorem dX0_work_44 : decode cX0_work 44 = .ok (.getfield 9, 3) := by decide +kernel
theorem dX0_work_47 : decode cX0_work 47 = .ok (.iload 4, 2) := by decide +kernel
theorem dX0_work_49 : decode cX0_work 49 = .ok (.iload 6, 2) := by decide +kernel
theorem dX0_work_51 : decode cX0_work 51 = .ok (.ifCond .lt 8, 3) := by decide +kernel
theorem dX0_work_54 : decode cX0_work 54 = .ok (.iload 6, 2) := by decide +kernel
theorem dX0_work_56 : decode cX0_work 56 = .ok (.goto 9, 3) := by decide +kernel
theorem dX0_work_59 : decode cX0_work 59 = .ok (.aload_n 0, 1) := by decide +kernel
theorem dX0_work_60 : decode cX0_work 60 = .ok (.iload 6, 2) := by decide +kernel
theorem dX0_work_62 : decode cX0_work 62 = .ok (.invokevirtual 38, 3) := by decide +kernel
theorem dX0_work_65 : decode cX0_work 65 = .ok (.iastore, 1) := by decide +kernel
theorem dX0_work_66 : decode cX0_work 66 = .ok (.iinc 4 1, 3) := by decide +kernel
theorem dX0_work_69 : decode cX0_work 69 = .ok (.goto 84, 3) := by decide +kernel
theorem dX0_work_72 : decode cX0_work 72 = .ok (.iload 6, 2) := by decide +kernel
theorem dX0_work_74 : decode cX0_work 74 = .ok (.bipush (-13), 2) := by decide +kernel
theorem dX0_work_76 : decode cX0_work 76 = .ok (.if_icmp .ne 38, 3) := by decide +kernel
theorem dX0_work_79 : decode cX0_work 79 = .ok (.iload 4, 2) := by decide +kernel
theorem dX0_work_81 : decode cX0_work 81 = .ok (.iconst 1, 1) := by decide +kernel
theorem dX0_work_82 : decode cX0_work 82 = .ok (.if_icmp .lt 71, 3) := by decide +kernel
theorem dX0_work_85 : decode cX0_work 85 = .ok (.aload_n 0, 1) := by decide +kernel
theorem dX0_work_86 : decode cX0_work 86 = .ok (.getfield 9, 3) := by decide +kernel
theorem dX0_work_89 : decode cX0_work 89 = .ok (.iload 4, 2) := by decide +kernel
theorem dX0_work_91 : decode cX0_work 91 = .ok (.iconst 1, 1) := by decide +kernel
theorem dX0_work_92 : decode cX0_work 92 = .ok (.isub, 1) := by decide +kernel
theorem dX0_work_93 : decode cX0_work 93 = .ok (.aload_n 0, 1) := by decide +kernel
theorem dX0_work_94 : decode cX0_work 94 = .ok (.getfield 9, 3) := by decide +kernel
theorem dX0_work_97 : decode cX0_work 97 = .ok (.iload 4, 2) := by decide +kernel
theorem dX0_work_99 : decode cX0_work 99 = .ok (.iconst 1, 1) := by decide +kernel
theorem dX0_work_100 : decode cX0_work 100 = .ok (.isub, 1) := by decide +kernel
theorem dX0_work_101 : decode cX0_work 101 = .ok (.iaload, 1) := by decide +kernel
theorem dX0_work_102 : decode cX0_work 102 = .ok (.ifCond .ne 7, 3) := by decide +kernel
theorem dX0_work_105 : decode cX0_work 105 = .ok (.iconst 1, 1) := by decide +kernel
theorem dX0_work_106 : decode cX0_work 106 = .ok (.goto 4, 3) := by decide +kernel
theorem dX0_work_109 : decode cX0_work 109 = .ok (.iconst 0, 1) := by decide +kernel
theorem dX0_work_110 : decode cX0_work 110 = .ok (.iastore, 1) := by decide +kernel
theorem dX0_work_111 : decode cX0_work 111 = .ok (.goto 42, 3) := by decide +kernel
theorem dX0_work_114 : decode cX0_work 114 = .ok (.iload 4, 2) := by decide +kernel
theorem dX0_work_116 : decode cX0_work 116 = .ok (.iconst 2, 1) := by decide +kernel
theorem dX0_work_117 : decode cX0_work 117 = .ok (.if_icmp .lt 36, 3) := by decide +kernel
theorem dX0_work_120 : decode cX0_work 120 = .ok (.iinc 4 (-1), 3) := by decide +kernel
theorem dX0_work_123 : decode cX0_work 123 = .ok (.aload_n 0, 1) := by decide +kernel
theorem dX0_work_124 : decode cX0_work 124 = .ok (.getfield 9, 3) := by decide +kernel
theorem dX0_work_127 : decode cX0_work 127 = .ok (.iload 4, 2) := by decide +kernel
theorem dX0_work_129 : decode cX0_work 129 = .ok (.iconst 1, 1) := by decide +kernel
theorem dX0_work_130 : decode cX0_work 130 = .ok (.isub, 1) := by decide +kernel
theorem dX0_work_131 : decode cX0_work 131 = .ok (.iload 6, 2) := by decide +kernel
theorem dX0_work_133 : decode cX0_work 133 = .ok (.aload_n 0, 1) := by decide +kernel
theorem dX0_work_134 : decode cX0_work 134 = .ok (.getfield 9, 3) := by decide +kernel
theorem dX0_work_137 : decode cX0_work 137 = .ok (.iload 4, 2) := by decide +kernel
theorem dX0_work_139 : decode cX0_work 139 = .ok (.iconst 1, 1) := by decide +kernel
theorem dX0_work_140 : decode cX0_work 140 = .ok (.isub, 1) := by decide +kernel
theorem dX0_work_141 : decode cX0_work 141 = .ok (.iaload, 1) := by decide +kernel
theorem dX0_work_142 : decode cX0_work 142 = .ok (.aload_n 0, 1) := by decide +kernel
theorem dX0_work_143 : decode cX0_work 143 = .ok (.getfield 9, 3) := by decide +kernel
theorem dX0_work_146 : decode cX0_work 146 = .ok (.iload 4, 2) := by decide +kernel
theorem dX0_work_148 : decode cX0_work 148 = .ok (.iaload, 1) := by decide +kernel
theorem dX0_work_149 : decode cX0_work 149 = .ok (.invokestatic 42, 3) := by decide +kernel
theorem dX0_work_152 : decode cX0_work 152 = .ok (.iastore, 1) := by decide +kernel
theorem dX0_work_153 : decode cX0_work 153 = .ok (.iinc 5 1, 3) := by decide +kernel
theorem dX0_work_156 : decode cX0_work 156 = .ok (.goto (-146), 3) := by decide +kernel
theorem dX0_work_159 : decode cX0_work 159 = .ok (.iload 4, 2) := by decide +kernel
theorem dX0_work_161 : decode cX0_work 161 = .ok (.iconst 1, 1) := by decide +kernel
theorem dX0_work_162 : decode cX0_work 162 = .ok (.if_icmp .ne 12, 3) := by decide +kernel
theorem dX0_work_165 : decode cX0_work 165 = .ok (.aload_n 0, 1) := by decide +kernel
theorem dX0_work_166 : decode cX0_work 166 = .ok (.getfield 9, 3) := by decide +kernel
theorem dX0_work_169 : decode cX0_work 169 = .ok (.iconst 0, 1) := by decide +kernel
theorem dX0_work_170 : decode cX0_work 170 = .ok (.iaload, 1) := by decide +kernel
theorem dX0_work_171 : decode cX0_work 171 = .ok (.goto 4, 3) := by decide +kernel
theorem dX0_work_174 : decode cX0_work 174 = .ok (.iconst 0, 1) := by decide +kernel
theorem dX0_work_175 : decode cX0_work 175 = .ok (.ireturn, 1) := by decide +kernel
theorem dX0_valueOf_0 : decode cX0_valueOf 0 = .ok (.iload_n 1, 1) := by decide +kernel
theorem dX0_valueOf_1 : decode cX0_valueOf 1 = .ok (.tableswitch 60 (-5) (-1) #[55, 50, 45, 40, 35], 35) := by decide +kernel
theorem dX0_valueOf_36 : decode cX0_valueOf 36 = .ok (.aload_n 0, 1) := by decide +kernel
theorem dX0_valueOf_37 : decode cX0_valueOf 37 = .ok (.getfield 13, 3) := by decide +kernel
theorem dX0_valueOf_40 : decode cX0_valueOf 40 = .ok (.ireturn, 1) := by decide +kernel
theorem dX0_valueOf_41 : decode cX0_valueOf 41 = .ok (.aload_n 0, 1) := by decide +kernel
theorem dX0_valueOf_42 : decode cX0_valueOf 42 = .ok (.getfield 17, 3) := by decide +kernel
theorem dX0_valueOf_45 : decode cX0_valueOf 45 = .ok (.ireturn, 1) := by decide +kernel
theorem dX0_valueOf_46 : decode cX0_valueOf 46 = .ok (.aload_n 0, 1) := by decide +kernel
theorem dX0_valueOf_47 : decode cX0_valueOf 47 = .ok (.getfield 20, 3) := by decide +kernel
theorem dX0_valueOf_50 : decode cX0_valueOf 50 = .ok (.ireturn, 1) := by decide +kernel
theorem dX0_valueOf_51 : decode cX0_valueOf 51 = .ok (.aload_n 0, 1) := by decide +kernel
theorem dX0_valueOf_52 : decode cX0_valueOf 52 = .ok (.getfield 23, 3) := by decide +kernel
theorem dX0_valueOf_55 : decode cX0_valueOf 55 = .ok (.ireturn, 1) := by decide +kernel
theorem dX0_valueOf_56 : decode cX0_valueOf 56 = .ok (.aload_n 0, 1) := by decide +kernel
theorem dX0_valueOf_57 : decode cX0_valueOf 57 = .ok (.getfield 26, 3) := by decide +kernel
theorem dX0_valueOf_60 : decode cX0_valueOf 60 = .ok (.ireturn, 1) := by decide +kernel
theorem dX0_valueOf_61 : decode cX0_valueOf 61 = .ok (.aload_n 0, 1) := by decide +kernel
theorem dX0_valueOf_62 : decode cX0_valueOf 62 = .ok (.getfield 29, 3) := by decide +kernel
theorem dX0_valueOf_65 : decode cX0_valueOf 65 = .ok (.ireturn, 1) := by decide +kernel
theorem dX0_join_0 : decode cX0_join 0 = .ok (.iload_n 0, 1) := by decide +kernel
theorem dX0_join_1 : decode cX0_join 1 = .ok (.tableswitch 107 (-14) (-7) #[93, 107, 82, 71, 59, 55, 51, 47], 47) := by decide +kernel
theorem dX0_join_48 : decode cX0_join 48 = .ok (.iload_n 1, 1) := by decide +kernel
theorem dX0_join_49 : decode cX0_join 49 = .ok (.iload_n 2, 1) := by decide +kernel
theorem dX0_join_50 : decode cX0_join 50 = .ok (.iadd, 1) := by decide +kernel
theorem dX0_join_51 : decode cX0_join 51 = .ok (.ireturn, 1) := by decide +kernel
theorem dX0_join_52 : decode cX0_join 52 = .ok (.iload_n 1, 1) := by decide +kernel
theorem dX0_join_53 : decode cX0_join 53 = .ok (.iload_n 2, 1) := by decide +kernel
theorem dX0_join_54 : decode cX0_join 54 = .ok (.isub, 1) := by decide +kernel
theorem dX0_join_55 : decode cX0_join 55 = .ok (.ireturn, 1) := by decide +kernel
theorem dX0_join_56 : decode cX0_join 56 = .ok (.iload_n 1, 1) := by decide +kernel
theorem dX0_join_57 : decode cX0_join 57 = .ok (.iload_n 2, 1) := by decide +kernel
theorem dX0_join_58 : decode cX0_join 58 = .ok (.imul, 1) := by decide +kernel
theorem dX0_join_59 : decode cX0_join 59 = .ok (.ireturn, 1) := by decide +kernel
theorem dX0_join_60 : decode cX0_join 60 = .ok (.iload_n 2, 1) := by decide +kernel
theorem dX0_join_61 : decode cX0_join 61 = .ok (.ifCond .ne 7, 3) := by decide +kernel
theorem dX0_join_64 : decode cX0_join 64 = .ok (.iconst 0, 1) := by decide +kernel
theorem dX0_join_65 : decode cX0_join 65 = .ok (.goto 6, 3) := by decide +kernel
theorem dX0_join_68 : decode cX0_join 68 = .ok (.iload_n 1, 1) := by decide +kernel
theorem dX0_join_69 : decode cX0_join 69 = .ok (.iload_n 2, 1) := by decide +kernel
theorem dX0_join_70 : decode cX0_join 70 = .ok (.idiv, 1) := by decide +kernel
theorem dX0_join_71 : decode cX0_join 71 = .ok (.ireturn, 1) := by decide +kernel
theorem dX0_join_72 : decode cX0_join 72 = .ok (.iload_n 1, 1) := by decide +kernel
theorem dX0_join_73 : decode cX0_join 73 = .ok (.iload_n 2, 1) := by decide +kernel
theorem dX0_join_74 : decode cX0_join 74 = .ok (.if_icmp .ge 7, 3) := by decide +kernel
theorem dX0_join_77 : decode cX0_join 77 = .ok (.iconst 1, 1) := by decide +kernel
theorem dX0_join_78 : decode cX0_join 78 = .ok (.goto 4, 3) := by decide +kernel
theorem dX0_join_81 : decode cX0_join 81 = .ok (.iconst 0, 1) := by decide +kernel
theorem dX0_join_82 : decode cX0_join 82 = .ok (.ireturn, 1) := by decide +kernel
theorem dX0_join_83 : decode cX0_join 83 = .ok (.iload_n 1, 1) := by decide +kernel
theorem dX0_join_84 : decode cX0_join 84 = .ok (.iload_n 2, 1) := by decide +kernel
theorem dX0_join_85 : decode cX0_join 85 = .ok (.if_icmp .ne 7, 3) := by decide +kernel
theorem dX0_join_88 : decode cX0_join 88 = .ok (.iconst 1, 1) := by decide +kernel
theorem dX0_join_89 : decode cX0_join 89 = .ok (.goto 4, 3) := by decide +kernel
theorem dX0_join_92 : decode cX0_join 92 = .ok (.iconst 0, 1) := by decide +kernel
theorem dX0_join_93 : decode cX0_join 93 = .ok (.ireturn, 1) := by decide +kernel
theorem dX0_join_94 : decode cX0_join 94 = .ok (.iload_n 1, 1) := by decide +kernel
theorem dX0_join_95 : decode cX0_join 95 = .ok (.ifCond .eq 11, 3) := by decide +kernel
theorem dX0_join_98 : decode cX0_join 98 = .ok (.iload_n 2, 1) := by decide +kernel
theorem dX0_join_99 : decode cX0_join 99 = .ok (.ifCond .eq 7, 3) := by decide +kernel
theorem dX0_join_102 : decode cX0_join 102 = .ok (.iconst 1, 1) := by decide +kernel
theorem dX0_join_103 : decode cX0_join 103 = .ok (.goto 4, 3) := by decide +kernel
theorem dX0_join_106 : decode cX0_join 106 = .ok (.iconst 0, 1) := by decide +kernel
theorem dX0_join_107 : decode cX0_join 107 = .ok (.ireturn, 1) := by decide +kernel
theorem dX0_join_108 : decode cX0_join 108 = .ok (.iload_n 1, 1) := by decide +kernel
theorem dX0_join_109 : decode cX0_join 109 = .ok (.ifCond .ne 7, 3) := by decide +kernel
theorem dX0_join_112 : decode cX0_join 112 = .ok (.iload_n 2, 1) := by decide +kernel
theorem dX0_join_113 : decode cX0_join 113 = .ok (.ifCond .eq 7, 3) := by decide +kernel
theorem dX0_join_116 : decode cX0_join 116 = .ok (.iconst 1, 1) := by decide +kernel
theorem dX0_join_117 : decode cX0_join 117 = .ok (.goto 4, 3) := by decide +kernel
theorem dX0_join_120 : decode cX0_join 120 = .ok (.iconst 0, 1) := by decide +kernel
theorem dX0_join_121 : decode cX0_join 121 = .ok (.ireturn, 1) := by decide +kernel
theorem dX1_init_0 : decode cX1_init 0 = .ok (.aload_n 0, 1) := by decide +kernel
theorem dX1_init_1 : decode cX1_init 1 = .ok (.invokespecial 3, 3) := by decide +kernel
theorem dX1_init_4 : decode cX1_init 4 = .ok (.aload_n 0, 1) := by decide +kernel
theorem dX1_init_5 : decode cX1_init 5 = .ok (.new 9, 3) := by decide +kernel
theorem dX1_init_8 : decode cX1_init 8 = .ok (.dup, 1) := by decide +kernel
theorem dX1_init_9 : decode cX1_init 9 = .ok (.invokespecial 11, 3) := by decide +kernel
theorem dX1_init_12 : decode cX1_init 12 = .ok (.putfield 12, 3) := by decide +kernel
theorem dX1_init_15 : decode cX1_init 15 = .ok (.aload_n 0, 1) := by decide +kernel
theorem dX1_init_16 : decode cX1_init 16 = .ok (.iconst 3, 1) := by decide +kernel
theorem dX1_init_17 : decode cX1_init 17 = .ok (.newarray .int, 2) := by decide +kernel
theorem dX1_init_19 : decode cX1_init 19 = .ok (.putfield 18, 3) := by decide +kernel
theorem dX1_init_22 : decode cX1_init 22 = .ok (.aload_n 0, 1) := by decide +kernel
theorem dX1_init_23 : decode cX1_init 23 = .ok (.sipush 2000, 3) := by decide +kernel
theorem dX1_init_26 : decode cX1_init 26 = .ok (.newarray .int, 2) := by decide +kernel
theorem dX1_init_28 : decode cX1_init 28 = .ok (.putfield 24, 3) := by decide +kernel
theorem dX1_init_31 : decode cX1_init 31 = .ok (.aload_n 0, 1) := by decide +kernel
theorem dX1_init_32 : decode cX1_init 32 = .ok (.new 22, 3) := by decide +kernel
theorem dX1_init_35 : decode cX1_init 35 = .ok (.dup, 1) := by decide +kernel
theorem dX1_init_36 : decode cX1_init 36 = .ok (.aload_n 1, 1) := by decide +kernel
theorem dX1_init_37 : decode cX1_init 37 = .ok (.invokespecial 27, 3) := by decide +kernel
theorem dX1_init_40 : decode cX1_init 40 = .ok (.putfield 30, 3) := by decide +kernel
theorem dX1_init_43 : decode cX1_init 43 = .ok (.return_, 1) := by decide +kernel
theorem dX1_begin_0 : decode cX1_begin 0 = .ok (.aload_n 0, 1) := by decide +kernel
theorem dX1_begin_1 : decode cX1_begin 1 = .ok (.getfield 30, 3) := by decide +kernel
theorem dX1_begin_4 : decode cX1_begin 4 = .ok (.aload_n 1, 1) := by decide +kernel
theorem dX1_begin_5 : decode cX1_begin 5 = .ok (.invokevirtual 34, 3) := by decide +kernel
theorem dX1_begin_8 : decode cX1_begin 8 = .ok (.aload_n 0, 1) := by decide +kernel
theorem dX1_begin_9 : decode cX1_begin 9 = .ok (.getfield 12, 3) := by decide +kernel
theorem dX1_begin_12 : decode cX1_begin 12 = .ok (.iconst 0, 1) := by decide +kernel
theorem dX1_begin_13 : decode cX1_begin 13 = .ok (.putfield 37, 3) := by decide +kernel
theorem dX1_begin_16 : decode cX1_begin 16 = .ok (.aload_n 0, 1) := by decide +kernel
theorem dX1_begin_17 : decode cX1_begin 17 = .ok (.iconst 0, 1) := by decide +kernel
theorem dX1_begin_18 : decode cX1_begin 18 = .ok (.putfield 41, 3) := by decide +kernel
theorem dX1_begin_21 : decode cX1_begin 21 = .ok (.aload_n 0, 1) := by decide +kernel
theorem dX1_begin_22 : decode cX1_begin 22 = .ok (.iconst 0, 1) := by decide +kernel
theorem dX1_begin_23 : decode cX1_begin 23 = .ok (.putfield 44, 3) := by decide +kernel
theorem dX1_begin_26 : decode cX1_begin 26 = .ok (.return_, 1) := by decide +kernel
theorem dX1_keepAct_0 : decode cX1_keepAct 0 = .ok (.aload_n 0, 1) := by decide +kernel
theorem dX1_keepAct_1 : decode cX1_keepAct 1 = .ok (.getfield 30, 3) := by decide +kernel
theorem dX1_keepAct_4 : decode cX1_keepAct 4 = .ok (.getfield 47, 3) := by decide +kernel
theorem dX1_keepAct_7 : decode cX1_keepAct 7 = .ok (.iconst 0, 1) := by decide +kernel
theorem dX1_keepAct_8 : decode cX1_keepAct 8 = .ok (.aload_n 0, 1) := by decide +kernel
theorem dX1_keepAct_9 : decode cX1_keepAct 9 = .ok (.getfield 24, 3) := by decide +kernel
theorem dX1_keepAct_12 : decode cX1_keepAct 12 = .ok (.aload_n 0, 1) := by decide +kernel
theorem dX1_keepAct_13 : decode cX1_keepAct 13 = .ok (.getfield 41, 3) := by decide +kernel
theorem dX1_keepAct_16 : decode cX1_keepAct 16 = .ok (.bipush 50, 2) := by decide +kernel
theorem dX1_keepAct_18 : decode cX1_keepAct 18 = .ok (.imul, 1) := by decide +kernel
theorem dX1_keepAct_19 : decode cX1_keepAct 19 = .ok (.bipush 50, 2) := by decide +kernel
theorem dX1_keepAct_21 : decode cX1_keepAct 21 = .ok (.invokestatic 50, 3) := by decide +kernel
theorem dX1_keepAct_24 : decode cX1_keepAct 24 = .ok (.aload_n 0, 1) := by decide +kernel
theorem dX1_keepAct_25 : decode cX1_keepAct 25 = .ok (.aload_n 0, 1) := by decide +kernel
theorem dX1_keepAct_26 : decode cX1_keepAct 26 = .ok (.getfield 41, 3) := by decide +kernel
theorem dX1_keepAct_29 : decode cX1_keepAct 29 = .ok (.iconst 1, 1) := by decide +kernel
theorem dX1_keepAct_30 : decode cX1_keepAct 30 = .ok (.iadd, 1) := by decide +kernel
theorem dX1_keepAct_31 : decode cX1_keepAct 31 = .ok (.bipush 40, 2) := by decide +kernel
theorem dX1_keepAct_33 : decode cX1_keepAct 33 = .ok (.irem, 1) := by decide +kernel
theorem dX1_keepAct_34 : decode cX1_keepAct 34 = .ok (.putfield 41, 3) := by decide +kernel
theorem dX1_keepAct_37 : decode cX1_keepAct 37 = .ok (.aload_n 0, 1) := by decide +kernel
theorem dX1_keepAct_38 : decode cX1_keepAct 38 = .ok (.bipush 40, 2) := by decide +kernel
theorem dX1_keepAct_40 : decode cX1_keepAct 40 = .ok (.aload_n 0, 1) := by decide +kernel
theorem dX1_keepAct_41 : decode cX1_keepAct 41 = .ok (.getfield 44, 3) := by decide +kernel
theorem dX1_keepAct_44 : decode cX1_keepAct 44 = .ok (.iconst 1, 1) := by decide +kernel
theorem dX1_keepAct_45 : decode cX1_keepAct 45 = .ok (.iadd, 1) := by decide +kernel
theorem dX1_keepAct_46 : decode cX1_keepAct 46 = .ok (.invokestatic 56, 3) := by decide +kernel
theorem dX1_keepAct_49 : decode cX1_keepAct 49 = .ok (.putfield 44, 3) := by decide +kernel
theorem dX1_keepAct_52 : decode cX1_keepAct 52 = .ok (.return_, 1) := by decide +kernel
theorem dX1_takeActBack_0 : decode cX1_takeActBack 0 = .ok (.aload_n 0, 1) := by decide +kernel
theorem dX1_takeActBack_1 : decode cX1_takeActBack 1 = .ok (.getfield 44, 3) := by decide +kernel
theorem dX1_takeActBack_4 : decode cX1_takeActBack 4 = .ok (.ifCond .le 53, 3) := by decide +kernel
theorem dX1_takeActBack_7 : decode cX1_takeActBack 7 = .ok (.aload_n 0, 1) := by decide +kernel
theorem dX1_takeActBack_8 : decode cX1_takeActBack 8 = .ok (.aload_n 0, 1) := by decide +kernel
theorem dX1_takeActBack_9 : decode cX1_takeActBack 9 = .ok (.getfield 41, 3) := by decide +kernel
theorem dX1_takeActBack_12 : decode cX1_takeActBack 12 = .ok (.bipush 40, 2) := by decide +kernel
theorem dX1_takeActBack_14 : decode cX1_takeActBack 14 = .ok (.iadd, 1) := by decide +kernel
theorem dX1_takeActBack_15 : decode cX1_takeActBack 15 = .ok (.iconst 1, 1) := by decide +kernel
theorem dX1_takeActBack_16 : decode cX1_takeActBack 16 = .ok (.isub, 1) := by decide +kernel
theorem dX1_takeActBack_17 : decode cX1_takeActBack 17 = .ok (.bipush 40, 2) := by decide +kernel
theorem dX1_takeActBack_19 : decode cX1_takeActBack 19 = .ok (.irem, 1) := by decide +kernel
theorem dX1_takeActBack_20 : decode cX1_takeActBack 20 = .ok (.putfield 41, 3) := by decide +kernel
theorem dX1_takeActBack_23 : decode cX1_takeActBack 23 = .ok (.aload_n 0, 1) := by decide +kernel
theorem dX1_takeActBack_24 : decode cX1_takeActBack 24 = .ok (.dup, 1) := by decide +kernel
theorem dX1_takeActBack_25 : decode cX1_takeActBack 25 = .ok (.getfield 44, 3) := by decide +kernel
theorem dX1_takeActBack_28 : decode cX1_takeActBack 28 = .ok (.iconst 1, 1) := by decide +kernel
theorem dX1_takeActBack_29 : decode cX1_takeActBack 29 = .ok (.isub, 1) := by decide +kernel
theorem dX1_takeActBack_30 : decode cX1_takeActBack 30 = .ok (.putfield 44, 3) := by decide +kernel
theorem dX1_takeActBack_33 : decode cX1_takeActBack 33 = .ok (.aload_n 0, 1) := by decide +kernel
theorem dX1_takeActBack_34 : decode cX1_takeActBack 34 = .ok (.getfield 24, 3) := by decide +kernel
theorem dX1_takeActBack_37 : decode cX1_takeActBack 37 = .ok (.aload_n 0, 1) := by decide +kernel
theorem dX1_takeActBack_38 : decode cX1_takeActBack 38 = .ok (.getfield 41, 3) := by decide +kernel
theorem dX1_takeActBack_41 : decode cX1_takeActBack 41 = .ok (.bipush 50, 2) := by decide +kernel
theorem dX1_takeActBack_43 : decode cX1_takeActBack 43 = .ok (.imul, 1) := by decide +kernel
theorem dX1_takeActBack_44 : decode cX1_takeActBack 44 = .ok (.aload_n 0, 1) := by decide +kernel
theorem dX1_takeActBack_45 : decode cX1_takeActBack 45 = .ok (.getfield 30, 3) := by decide +kernel
theorem dX1_takeActBack_48 : decode cX1_takeActBack 48 = .ok (.getfield 47, 3) := by decide +kernel
theorem dX1_takeActBack_51 : decode cX1_takeActBack 51 = .ok (.iconst 0, 1) := by decide +kernel
theorem dX1_takeActBack_52 : decode cX1_takeActBack 52 = .ok (.bipush 50, 2) := by decide +kernel
theorem dX1_takeActBack_54 : decode cX1_takeActBack 54 = .ok (.invokestatic 50, 3) := by decide +kernel
theorem dX1_takeActBack_57 : decode cX1_takeActBack 57 = .ok (.return_, 1) := by decide +kernel
theorem dX1_copy_0 : decode cX1_copy 0 = .ok (.aload_n 0, 1) := by decide +kernel
theorem dX1_copy_1 : decode cX1_copy 1 = .ok (.getfield 30, 3) := by decide +kernel
theorem dX1_copy_4 : decode cX1_copy 4 = .ok (.aload_n 1, 1) := by decide +kernel
theorem dX1_copy_5 : decode cX1_copy 5 = .ok (.getfield 30, 3) := by decide +kernel
theorem dX1_copy_8 : decode cX1_copy 8 = .ok (.invokevirtual 62, 3) := by decide +kernel
theorem dX1_copy_11 : decode cX1_copy 11 = .ok (.aload_n 0, 1) := by decide +kernel
theorem dX1_copy_12 : decode cX1_copy 12 = .ok (.getfield 12, 3) := by decide +kernel
theorem dX1_copy_15 : decode cX1_copy 15 = .ok (.aload_n 1, 1) := by decide +kernel
theorem dX1_copy_16 : decode cX1_copy 16 = .ok (.getfield 12, 3) := by decide +kernel
theorem dX1_copy_19 : decode cX1_copy 19 = .ok (.invokevirtual 66, 3) := by decide +kernel
theorem dX1_copy_22 : decode cX1_copy 22 = .ok (.aload_n 1, 1) := by decide +kernel
theorem dX1_copy_23 : decode cX1_copy 23 = .ok (.getfield 18, 3) := by decide +kernel
theorem dX1_copy_26 : decode cX1_copy 26 = .ok (.iconst 0, 1) := by decide +kernel
theorem dX1_copy_27 : decode cX1_copy 27 = .ok (.aload_n 0, 1) := by decide +kernel
theorem dX1_copy_28 : decode cX1_copy 28 = .ok (.getfield 18, 3) := by decide +kernel
theorem dX1_copy_31 : decode cX1_copy 31 = .ok (.iconst 0, 1) := by decide +kernel
theorem dX1_copy_32 : decode cX1_copy 32 = .ok (.aload_n 0, 1) := by decide +kernel
theorem dX1_copy_33 : decode cX1_copy 33 = .ok (.getfield 18, 3) := by decide +kernel
theorem dX1_copy_36 : decode cX1_copy 36 = .ok (.arraylength, 1) := by decide +kernel
theorem dX1_copy_37 : decode cX1_copy 37 = .ok (.invokestatic 50, 3) := by decide +kernel
theorem dX1_copy_40 : decode cX1_copy 40 = .ok (.aload_n 1, 1) := by decide +kernel
theorem dX1_copy_41 : decode cX1_copy 41 = .ok (.getfield 24, 3) := by decide +kernel
theorem dX1_copy_44 : decode cX1_copy 44 = .ok (.iconst 0, 1) := by decide +kernel
theorem dX1_copy_45 : decode cX1_copy 45 = .ok (.aload_n 0, 1) := by decide +kernel
theorem dX1_copy_46 : decode cX1_copy 46 = .ok (.getfield 24, 3) := by decide +kernel
theorem dX1_copy_49 : decode cX1_copy 49 = .ok (.iconst 0, 1) := by decide +kernel
theorem dX1_copy_50 : decode cX1_copy 50 = .ok (.aload_n 0, 1) := by decide +kernel
theorem dX1_copy_51 : decode cX1_copy 51 = .ok (.getfield 24, 3) := by decide +kernel
theorem dX1_copy_54 : decode cX1_copy 54 = .ok (.arraylength, 1) := by decide +kernel
theorem dX1_copy_55 : decode cX1_copy 55 = .ok (.invokestatic 50, 3) := by decide +kernel
theorem dX1_copy_58 : decode cX1_copy 58 = .ok (.aload_n 0, 1) := by decide +kernel
theorem dX1_copy_59 : decode cX1_copy 59 = .ok (.aload_n 1, 1) := by decide +kernel
theorem dX1_copy_60 : decode cX1_copy 60 = .ok (.getfield 41, 3) := by decide +kernel
theorem dX1_copy_63 : decode cX1_copy 63 = .ok (.putfield 41, 3) := by decide +kernel
theorem dX1_copy_66 : decode cX1_copy 66 = .ok (.aload_n 0, 1) := by decide +kernel
theorem dX1_copy_67 : decode cX1_copy 67 = .ok (.aload_n 1, 1) := by decide +kernel
theorem dX1_copy_68 : decode cX1_copy 68 = .ok (.getfield 44, 3) := by decide +kernel
theorem dX1_copy_71 : decode cX1_copy 71 = .ok (.putfield 44, 3) := by decide +kernel
theorem dX1_copy_74 : decode cX1_copy 74 = .ok (.return_, 1) := by decide +kernel
theorem dX2_init_0 : decode cX2_init 0 = .ok (.aload_n 0, 1) := by decide +kernel
theorem dX2_init_1 : decode cX2_init 1 = .ok (.invokespecial 3, 3) := by decide +kernel
theorem dX2_init_4 : decode cX2_init 4 = .ok (.aload_n 0, 1) := by decide +kernel
theorem dX2_init_5 : decode cX2_init 5 = .ok (.bipush 10, 2) := by decide +kernel
theorem dX2_init_7 : decode cX2_init 7 = .ok (.newarray .int, 2) := by decide +kernel
theorem dX2_init_9 : decode cX2_init 9 = .ok (.putfield 9, 3) := by decide +kernel
theorem dX2_init_12 : decode cX2_init 12 = .ok (.aload_n 0, 1) := by decide +kernel
theorem dX2_init_13 : decode cX2_init 13 = .ok (.bipush 10, 2) := by decide +kernel
theorem dX2_init_15 : decode cX2_init 15 = .ok (.newarray .int, 2) := by decide +kernel
theorem dX2_init_17 : decode cX2_init 17 = .ok (.putfield 15, 3) := by decide +kernel
theorem dX2_init_20 : decode cX2_init 20 = .ok (.aload_n 0, 1) := by decide +kernel
theorem dX2_init_21 : decode cX2_init 21 = .ok (.bipush 10, 2) := by decide +kernel
theorem dX2_init_23 : decode cX2_init 23 = .ok (.newarray .int, 2) := by decide +kernel
theorem dX2_init_25 : decode cX2_init 25 = .ok (.putfield 18, 3) := by decide +kernel
theorem dX2_init_28 : decode cX2_init 28 = .ok (.aload_n 0, 1) := by decide +kernel
theorem dX2_init_29 : decode cX2_init 29 = .ok (.bipush 6, 2) := by decide +kernel
theorem dX2_init_31 : decode cX2_init 31 = .ok (.newarray .int, 2) := by decide +kernel
theorem dX2_init_33 : decode cX2_init 33 = .ok (.putfield 21, 3) := by decide +kernel
theorem dX2_init_36 : decode cX2_init 36 = .ok (.aload_n 0, 1) := by decide +kernel
theorem dX2_init_37 : decode cX2_init 37 = .ok (.iconst 5, 1) := by decide +kernel
theorem dX2_init_38 : decode cX2_init 38 = .ok (.newarray .int, 2) := by decide +kernel
theorem dX2_init_40 : decode cX2_init 40 = .ok (.putfield 24, 3) := by decide +kernel
theorem dX2_init_43 : decode cX2_init 43 = .ok (.aload_n 0, 1) := by decide +kernel
theorem dX2_init_44 : decode cX2_init 44 = .ok (.iconst 5, 1) := by decide +kernel
theorem dX2_init_45 : decode cX2_init 45 = .ok (.newarray .int, 2) := by decide +kernel
theorem dX2_init_47 : decode cX2_init 47 = .ok (.putfield 27, 3) := by decide +kernel
theorem dX2_init_50 : decode cX2_init 50 = .ok (.aload_n 0, 1) := by decide +kernel
theorem dX2_init_51 : decode cX2_init 51 = .ok (.bipush 6, 2) := by decide +kernel
theorem dX2_init_53 : decode cX2_init 53 = .ok (.newarray .int, 2) := by decide +kernel
theorem dX2_init_55 : decode cX2_init 55 = .ok (.putfield 30, 3) := by decide +kernel
theorem dX2_init_58 : decode cX2_init 58 = .ok (.aload_n 0, 1) := by decide +kernel
theorem dX2_init_59 : decode cX2_init 59 = .ok (.sipush 700, 3) := by decide +kernel
theorem dX2_init_62 : decode cX2_init 62 = .ok (.newarray .int, 2) := by decide +kernel
theorem dX2_init_64 : decode cX2_init 64 = .ok (.putfield 33, 3) := by decide +kernel
theorem dX2_init_67 : decode cX2_init 67 = .ok (.aload_n 0, 1) := by decide +kernel
theorem dX2_init_68 : decode cX2_init 68 = .ok (.bipush 50, 2) := by decide +kernel
theorem dX2_init_70 : decode cX2_init 70 = .ok (.putfield 36, 3) := by decide +kernel
theorem dX2_init_73 : decode cX2_init 73 = .ok (.return_, 1) := by decide +kernel
theorem dX2_clear_0 : decode cX2_clear 0 = .ok (.iconst 0, 1) := by decide +kernel
theorem dX2_clear_1 : decode cX2_clear 1 = .ok (.istore_n 1, 1) := by decide +kernel
theorem dX2_clear_2 : decode cX2_clear 2 = .ok (.iload_n 1, 1) := by decide +kernel
theorem dX2_clear_3 : decode cX2_clear 3 = .ok (.bipush 6, 2) := by decide +kernel
theorem dX2_clear_5 : decode cX2_clear 5 = .ok (.if_icmp .ge 23, 3) := by decide +kernel
theorem dX2_clear_8 : decode cX2_clear 8 = .ok (.aload_n 0, 1) := by decide +kernel
theorem dX2_clear_9 : decode cX2_clear 9 = .ok (.getfield 21, 3) := by decide +kernel
theorem dX2_clear_12 : decode cX2_clear 12 = .ok (.iload_n 1, 1) := by decide +kernel
theorem dX2_clear_13 : decode cX2_clear 13 = .ok (.iconst 0, 1) := by decide +kernel
theorem dX2_clear_14 : decode cX2_clear 14 = .ok (.iastore, 1) := by decide +kernel
theorem dX2_clear_15 : decode cX2_clear 15 = .ok (.aload_n 0, 1) := by decide +kernel
theorem dX2_clear_16 : decode cX2_clear 16 = .ok (.getfield 30, 3) := by decide +kernel
theorem dX2_clear_19 : decode cX2_clear 19 = .ok (.iload_n 1, 1) := by decide +kernel
theorem dX2_clear_20 : decode cX2_clear 20 = .ok (.iconst 0, 1) := by decide +kernel
theorem dX2_clear_21 : decode cX2_clear 21 = .ok (.iastore, 1) := by decide +kernel
theorem dX2_clear_22 : decode cX2_clear 22 = .ok (.iinc 1 1, 3) := by decide +kernel
theorem dX2_clear_25 : decode cX2_clear 25 = .ok (.goto (-23), 3) := by decide +kernel
theorem dX2_clear_28 : decode cX2_clear 28 = .ok (.aload_n 0, 1) := by decide +kernel
theorem dX2_clear_29 : decode cX2_clear 29 = .ok (.iconst 0, 1) := by decide +kernel
theorem dX2_clear_30 : decode cX2_clear 30 = .ok (.putfield 40, 3) := by decide +kernel
theorem dX2_clear_33 : decode cX2_clear 33 = .ok (.aload_n 0, 1) := by decide +kernel
theorem dX2_clear_34 : decode cX2_clear 34 = .ok (.iconst 0, 1) := by decide +kernel
theorem dX2_clear_35 : decode cX2_clear 35 = .ok (.putfield 43, 3) := by decide +kernel
theorem dX2_clear_38 : decode cX2_clear 38 = .ok (.aload_n 0, 1) := by decide +kernel
theorem dX2_clear_39 : decode cX2_clear 39 = .ok (.iconst 0, 1) := by decide +kernel
theorem dX2_clear_40 : decode cX2_clear 40 = .ok (.putfield 46, 3) := by decide +kernel
theorem dX2_clear_43 : decode cX2_clear 43 = .ok (.aload_n 0, 1) := by decide +kernel
theorem dX2_clear_44 : decode cX2_clear 44 = .ok (.iconst 0, 1) := by decide +kernel
theorem dX2_clear_45 : decode cX2_clear 45 = .ok (.putfield 49, 3) := by decide +kernel
theorem dX2_clear_48 : decode cX2_clear 48 = .ok (.aload_n 0, 1) := by decide +kernel
theorem dX2_clear_49 : decode cX2_clear 49 = .ok (.iconst 0, 1) := by decide +kernel
theorem dX2_clear_50 : decode cX2_clear 50 = .ok (.putfield 52, 3) := by decide +kernel
theorem dX2_clear_53 : decode cX2_clear 53 = .ok (.aload_n 0, 1) := by decide +kernel
theorem dX2_clear_54 : decode cX2_clear 54 = .ok (.iconst 0, 1) := by decide +kernel
theorem dX2_clear_55 : decode cX2_clear 55 = .ok (.putfield 55, 3) := by decide +kernel
theorem dX2_clear_58 : decode cX2_clear 58 = .ok (.aload_n 0, 1) := by decide +kernel
theorem dX2_clear_59 : decode cX2_clear 59 = .ok (.iconst 0, 1) := by decide +kernel
theorem dX2_clear_60 : decode cX2_clear 60 = .ok (.putfield 58, 3) := by decide +kernel
theorem dX2_clear_63 : decode cX2_clear 63 = .ok (.aload_n 0, 1) := by decide +kernel
theorem dX2_clear_64 : decode cX2_clear 64 = .ok (.iconst 0, 1) := by decide +kernel
theorem dX2_clear_65 : decode cX2_clear 65 = .ok (.putfield 61, 3) := by decide +kernel
theorem dX2_clear_68 : decode cX2_clear 68 = .ok (.aload_n 0, 1) := by decide +kernel
theorem dX2_clear_69 : decode cX2_clear 69 = .ok (.bipush 50, 2) := by decide +kernel
theorem dX2_clear_71 : decode cX2_clear 71 = .ok (.putfield 36, 3) := by decide +kernel
theorem dX2_clear_74 : decode cX2_clear 74 = .ok (.aload_n 0, 1) := by decide +kernel
theorem dX2_clear_75 : decode cX2_clear 75 = .ok (.iconst 0, 1) := by decide +kernel
theorem dX2_clear_76 : decode cX2_clear 76 = .ok (.putfield 64, 3) := by decide +kernel
theorem dX2_clear_79 : decode cX2_clear 79 = .ok (.return_, 1) := by decide +kernel
theorem dX2_coolsTold_0 : decode cX2_coolsTold 0 = .ok (.aload_n 0, 1) := by decide +kernel
theorem dX2_coolsTold_1 : decode cX2_coolsTold 1 = .ok (.getfield 46, 3) := by decide +kernel
theorem dX2_coolsTold_4 : decode cX2_coolsTold 4 = .ok (.aload_n 0, 1) := by decide +kernel
theorem dX2_coolsTold_5 : decode cX2_coolsTold 5 = .ok (.getfield 43, 3) := by decide +kernel
theorem dX2_coolsTold_8 : decode cX2_coolsTold 8 = .ok (.if_icmp .le 7, 3) := by decide +kernel
theorem dX2_coolsTold_11 : decode cX2_coolsTold 11 = .ok (.iconst 1, 1) := by decide +kernel
theorem dX2_coolsTold_12 : decode cX2_coolsTold 12 = .ok (.goto 4, 3) := by decide +kernel
theorem dX2_coolsTold_15 : decode cX2_coolsTold 15 = .ok (.iconst 0, 1) := by decide +kernel
theorem dX2_coolsTold_16 : decode cX2_coolsTold 16 = .ok (.ireturn, 1) := by decide +kernel
theorem dX2_risesTold_0 : decode cX2_risesTold 0 = .ok (.aload_n 0, 1) := by decide +kernel
theorem dX2_risesTold_1 : decode cX2_risesTold 1 = .ok (.getfield 52, 3) := by decide +kernel
theorem dX2_risesTold_4 : decode cX2_risesTold 4 = .ok (.aload_n 0, 1) := by decide +kernel
theorem dX2_risesTold_5 : decode cX2_risesTold 5 = .ok (.getfield 49, 3) := by decide +kernel
theorem dX2_risesTold_8 : decode cX2_risesTold 8 = .ok (.if_icmp .le 7, 3) := by decide +kernel
theorem dX2_risesTold_11 : decode cX2_risesTold 11 = .ok (.iconst 1, 1) := by decide +kernel
theorem dX2_risesTold_12 : decode cX2_risesTold 12 = .ok (.goto 4, 3) := by decide +kernel
theorem dX2_risesTold_15 : decode cX2_risesTold 15 = .ok (.iconst 0, 1) := by decide +kernel
theorem dX2_risesTold_16 : decode cX2_risesTold 16 = .ok (.ireturn, 1) := by decide +kernel
theorem dX2_addCode_0 : decode cX2_addCode 0 = .ok (.aload_n 0, 1) := by decide +kernel
theorem dX2_addCode_1 : decode cX2_addCode 1 = .ok (.getfield 40, 3) := by decide +kernel
theorem dX2_addCode_4 : decode cX2_addCode 4 = .ok (.aload_n 0, 1) := by decide +kernel
theorem dX2_addCode_5 : decode cX2_addCode 5 = .ok (.getfield 33, 3) := by decide +kernel
theorem dX2_addCode_8 : decode cX2_addCode 8 = .ok (.arraylength, 1) := by decide +kernel
theorem dX2_addCode_9 : decode cX2_addCode 9 = .ok (.if_icmp .ge 23, 3) := by decide +kernel
theorem dX2_addCode_12 : decode cX2_addCode 12 = .ok (.aload_n 0, 1) := by decide +kernel
theorem dX2_addCode_13 : decode cX2_addCode 13 = .ok (.getfield 33, 3) := by decide +kernel
theorem dX2_addCode_16 : decode cX2_addCode 16 = .ok (.aload_n 0, 1) := by decide +kernel
theorem dX2_addCode_17 : decode cX2_addCode 17 = .ok (.getfield 40, 3) := by decide +kernel
theorem dX2_addCode_20 : decode cX2_addCode 20 = .ok (.iload_n 1, 1) := by decide +kernel
theorem dX2_addCode_21 : decode cX2_addCode 21 = .ok (.iastore, 1) := by decide +kernel
theorem dX2_addCode_22 : decode cX2_addCode 22 = .ok (.aload_n 0, 1) := by decide +kernel
theorem dX2_addCode_23 : decode cX2_addCode 23 = .ok (.dup, 1) := by decide +kernel
theorem dX2_addCode_24 : decode cX2_addCode 24 = .ok (.getfield 40, 3) := by decide +kernel
theorem dX2_addCode_27 : decode cX2_addCode 27 = .ok (.iconst 1, 1) := by decide +kernel
theorem dX2_addCode_28 : decode cX2_addCode 28 = .ok (.iadd, 1) := by decide +kernel
theorem dX2_addCode_29 : decode cX2_addCode 29 = .ok (.putfield 40, 3) := by decide +kernel
theorem dX2_addCode_32 : decode cX2_addCode 32 = .ok (.return_, 1) := by decide +kernel
theorem dX3_init_0 : decode cX3_init 0 = .ok (.aload_n 0, 1) := by decide +kernel
theorem dX3_init_1 : decode cX3_init 1 = .ok (.invokespecial 3, 3) := by decide +kernel
theorem dX3_init_4 : decode cX3_init 4 = .ok (.aload_n 0, 1) := by decide +kernel
theorem dX3_init_5 : decode cX3_init 5 = .ok (.bipush 20, 2) := by decide +kernel
theorem dX3_init_7 : decode cX3_init 7 = .ok (.newarray .long, 2) := by decide +kernel
theorem dX3_init_9 : decode cX3_init 9 = .ok (.putfield 9, 3) := by decide +kernel
theorem dX3_init_12 : decode cX3_init 12 = .ok (.aload_n 0, 1) := by decide +kernel
theorem dX3_init_13 : decode cX3_init 13 = .ok (.aload_n 1, 1) := by decide +kernel
theorem dX3_init_14 : decode cX3_init 14 = .ok (.putfield 15, 3) := by decide +kernel
theorem dX3_init_17 : decode cX3_init 17 = .ok (.aload_n 0, 1) := by decide +kernel
theorem dX3_init_18 : decode cX3_init 18 = .ok (.aload_n 2, 1) := by decide +kernel
theorem dX3_init_19 : decode cX3_init 19 = .ok (.putfield 19, 3) := by decide +kernel
theorem dX3_init_22 : decode cX3_init 22 = .ok (.aload_n 0, 1) := by decide +kernel
theorem dX3_init_23 : decode cX3_init 23 = .ok (.aload_n 3, 1) := by decide +kernel
theorem dX3_init_24 : decode cX3_init 24 = .ok (.putfield 23, 3) := by decide +kernel
theorem dX3_init_27 : decode cX3_init 27 = .ok (.return_, 1) := by decide +kernel
theorem dX3_fitsAsItIs_0 : decode cX3_fitsAsItIs 0 = .ok (.aload_n 0, 1) := by decide +kernel
theorem dX3_fitsAsItIs_1 : decode cX3_fitsAsItIs 1 = .ok (.iconst (-1), 1) := by decide +kernel
theorem dX3_fitsAsItIs_2 : decode cX3_fitsAsItIs 2 = .ok (.iconst 0, 1) := by decide +kernel
theorem dX3_fitsAsItIs_3 : decode cX3_fitsAsItIs 3 = .ok (.invokevirtual 26, 3) := by decide +kernel
theorem dX3_fitsAsItIs_6 : decode cX3_fitsAsItIs 6 = .ok (.ireturn, 1) := by decide +kernel
theorem dX3_howMany_0 : decode cX3_howMany 0 = .ok (.iconst 0, 1) := by decide +kernel
theorem dX3_howMany_1 : decode cX3_howMany 1 = .ok (.istore_n 1, 1) := by decide +kernel
theorem dX3_howMany_2 : decode cX3_howMany 2 = .ok (.iconst 0, 1) := by decide +kernel
theorem dX3_howMany_3 : decode cX3_howMany 3 = .ok (.istore_n 2, 1) := by decide +kernel
theorem dX3_howMany_4 : decode cX3_howMany 4 = .ok (.iload_n 2, 1) := by decide +kernel
theorem dX3_howMany_5 : decode cX3_howMany 5 = .ok (.aload_n 0, 1) := by decide +kernel
theorem dX3_howMany_6 : decode cX3_howMany 6 = .ok (.getfield 15, 3) := by decide +kernel
theorem dX3_howMany_9 : decode cX3_howMany 9 = .ok (.getfield 30, 3) := by decide +kernel
theorem dX3_howMany_12 : decode cX3_howMany 12 = .ok (.getfield 36, 3) := by decide +kernel
theorem dX3_howMany_15 : decode cX3_howMany 15 = .ok (.if_icmp .ge 48, 3) := by decide +kernel
theorem dX3_howMany_18 : decode cX3_howMany 18 = .ok (.iconst 0, 1) := by decide +kernel
theorem dX3_howMany_19 : decode cX3_howMany 19 = .ok (.istore_n 3, 1) := by decide +kernel
theorem dX3_howMany_20 : decode cX3_howMany 20 = .ok (.iload_n 3, 1) := by decide +kernel
theorem dX3_howMany_21 : decode cX3_howMany 21 = .ok (.bipush 99, 2) := by decide +kernel
theorem dX3_howMany_23 : decode cX3_howMany 23 = .ok (.if_icmp .gt 34, 3) := by decide +kernel
theorem dX3_howMany_26 : decode cX3_howMany 26 = .ok (.iload_n 3, 1) := by decide +kernel
theorem dX3_howMany_27 : decode cX3_howMany 27 = .ok (.aload_n 0, 1) := by decide +kernel
theorem dX3_howMany_28 : decode cX3_howMany 28 = .ok (.getfield 15, 3) := by decide +kernel
theorem dX3_howMany_31 : decode cX3_howMany 31 = .ok (.getfield 42, 3) := by decide +kernel
theorem dX3_howMany_34 : decode cX3_howMany 34 = .ok (.iload_n 2, 1) := by decide +kernel
theorem dX3_howMany_35 : decode cX3_howMany 35 = .ok (.iaload, 1) := by decide +kernel
theorem dX3_howMany_36 : decode cX3_howMany 36 = .ok (.if_icmp .eq 15, 3) := by decide +kernel
theorem dX3_howMany_39 : decode cX3_howMany 39 = .ok (.aload_n 0, 1) := by decide +kernel
theorem dX3_howMany_40 : decode cX3_howMany 40 = .ok (.iload_n 2, 1) := by decide +kernel
theorem dX3_howMany_41 : decode cX3_howMany 41 = .ok (.iload_n 3, 1) := by decide +kernel
theorem dX3_howMany_42 : decode cX3_howMany 42 = .ok (.invokevirtual 26, 3) := by decide +kernel
theorem dX3_howMany_45 : decode cX3_howMany 45 = .ok (.ifCond .eq 6, 3) := by decide +kernel
theorem dX3_howMany_48 : decode cX3_howMany 48 = .ok (.iinc 1 1, 3) := by decide +kernel
theorem dX3_howMany_51 : decode cX3_howMany 51 = .ok (.iinc 3 1, 3) := by decide +kernel
theorem dX3_howMany_54 : decode cX3_howMany 54 = .ok (.goto (-34), 3) := by decide +kernel
theorem dX3_howMany_57 : decode cX3_howMany 57 = .ok (.iinc 2 1, 3) := by decide +kernel
theorem dX3_howMany_60 : decode cX3_howMany 60 = .ok (.goto (-56), 3) := by decide +kernel
theorem dX3_howMany_63 : decode cX3_howMany 63 = .ok (.iload_n 1, 1) := by decide +kernel
theorem dX3_howMany_64 : decode cX3_howMany 64 = .ok (.ireturn, 1) := by decide +kernel
theorem dX3_first_0 : decode cX3_first 0 = .ok (.iconst 0, 1) := by decide +kernel
theorem dX3_first_1 : decode cX3_first 1 = .ok (.istore_n 1, 1) := by decide +kernel
theorem dX3_first_2 : decode cX3_first 2 = .ok (.iload_n 1, 1) := by decide +kernel
theorem dX3_first_3 : decode cX3_first 3 = .ok (.aload_n 0, 1) := by decide +kernel
theorem dX3_first_4 : decode cX3_first 4 = .ok (.getfield 15, 3) := by decide +kernel
theorem dX3_first_7 : decode cX3_first 7 = .ok (.getfield 30, 3) := by decide +kernel
theorem dX3_first_10 : decode cX3_first 10 = .ok (.getfield 36, 3) := by decide +kernel
theorem dX3_first_13 : decode cX3_first 13 = .ok (.if_icmp .ge 52, 3) := by decide +kernel
theorem dX3_first_16 : decode cX3_first 16 = .ok (.iconst 0, 1) := by decide +kernel
theorem dX3_first_17 : decode cX3_first 17 = .ok (.istore_n 2, 1) := by decide +kernel
theorem dX3_first_18 : decode cX3_first 18 = .ok (.iload_n 2, 1) := by decide +kernel
theorem dX3_first_19 : decode cX3_first 19 = .ok (.bipush 99, 2) := by decide +kernel
theorem dX3_first_21 : decode cX3_first 21 = .ok (.if_icmp .gt 38, 3) := by decide +kernel
theorem dX3_first_24 : decode cX3_first 24 = .ok (.iload_n 2, 1) := by decide +kernel
theorem dX3_first_25 : decode cX3_first 25 = .ok (.aload_n 0, 1) := by decide +kernel
theorem dX3_first_26 : decode cX3_first 26 = .ok (.getfield 15, 3) := by decide +kernel
theorem dX3_first_29 : decode cX3_first 29 = .ok (.getfield 42, 3) := by decide +kernel
theorem dX3_first_32 : decode cX3_first 32 = .ok (.iload_n 1, 1) := by decide +kernel
theorem dX3_first_33 : decode cX3_first 33 = .ok (.iaload, 1) := by decide +kernel
theorem dX3_first_34 : decode cX3_first 34 = .ok (.if_icmp .eq 19, 3) := by decide +kernel
theorem dX3_first_37 : decode cX3_first 37 = .ok (.aload_n 0, 1) := by decide +kernel
theorem dX3_first_38 : decode cX3_first 38 = .ok (.iload_n 1, 1) := by decide +kernel
theorem dX3_first_39 : decode cX3_first 39 = .ok (.iload_n 2, 1) := by decide +kernel
theorem dX3_first_40 : decode cX3_first 40 = .ok (.invokevirtual 26, 3) := by decide +kernel
theorem dX3_first_43 : decode cX3_first 43 = .ok (.ifCond .eq 10, 3) := by decide +kernel
theorem dX3_first_46 : decode cX3_first 46 = .ok (.bipush 100, 2) := by decide +kernel
theorem dX3_first_48 : decode cX3_first 48 = .ok (.iload_n 1, 1) := by decide +kernel
theorem dX3_first_49 : decode cX3_first 49 = .ok (.imul, 1) := by decide +kernel
theorem dX3_first_50 : decode cX3_first 50 = .ok (.iload_n 2, 1) := by decide +kernel
theorem dX3_first_51 : decode cX3_first 51 = .ok (.iadd, 1) := by decide +kernel
theorem dX3_first_52 : decode cX3_first 52 = .ok (.ireturn, 1) := by decide +kernel
theorem dX3_first_53 : decode cX3_first 53 = .ok (.iinc 2 1, 3) := by decide +kernel
theorem dX3_first_56 : decode cX3_first 56 = .ok (.goto (-38), 3) := by decide +kernel
theorem dX3_first_59 : decode cX3_first 59 = .ok (.iinc 1 1, 3) := by decide +kernel
theorem dX3_first_62 : decode cX3_first 62 = .ok (.goto (-60), 3) := by decide +kernel
theorem dX3_first_65 : decode cX3_first 65 = .ok (.iconst (-1), 1) := by decide +kernel
theorem dX3_first_66 : decode cX3_first 66 = .ok (.ireturn, 1) := by decide +kernel
theorem dX3_seekNext_0 : decode cX3_seekNext 0 = .ok (.iconst 0, 1) := by decide +kernel
theorem dX3_seekNext_1 : decode cX3_seekNext 1 = .ok (.istore_n 1, 1) := by decide +kernel
theorem dX3_seekNext_2 : decode cX3_seekNext 2 = .ok (.iload_n 1, 1) := by decide +kernel
theorem dX3_seekNext_3 : decode cX3_seekNext 3 = .ok (.aload_n 0, 1) := by decide +kernel
theorem dX3_seekNext_4 : decode cX3_seekNext 4 = .ok (.getfield 9, 3) := by decide +kernel
theorem dX3_seekNext_7 : decode cX3_seekNext 7 = .ok (.arraylength, 1) := by decide +kernel
theorem dX3_seekNext_8 : decode cX3_seekNext 8 = .ok (.if_icmp .ge 16, 3) := by decide +kernel
theorem dX3_seekNext_11 : decode cX3_seekNext 11 = .ok (.aload_n 0, 1) := by decide +kernel
theorem dX3_seekNext_12 : decode cX3_seekNext 12 = .ok (.getfield 9, 3) := by decide +kernel
theorem dX3_seekNext_15 : decode cX3_seekNext 15 = .ok (.iload_n 1, 1) := by decide +kernel
theorem dX3_seekNext_16 : decode cX3_seekNext 16 = .ok (.lconst 0, 1) := by decide +kernel
theorem dX3_seekNext_17 : decode cX3_seekNext 17 = .ok (.lastore, 1) := by decide +kernel
theorem dX3_seekNext_18 : decode cX3_seekNext 18 = .ok (.iinc 1 1, 3) := by decide +kernel
theorem dX3_seekNext_21 : decode cX3_seekNext 21 = .ok (.goto (-19), 3) := by decide +kernel
theorem dX3_seekNext_24 : decode cX3_seekNext 24 = .ok (.iconst 0, 1) := by decide +kernel
theorem dX3_seekNext_25 : decode cX3_seekNext 25 = .ok (.istore_n 1, 1) := by decide +kernel
theorem dX3_seekNext_26 : decode cX3_seekNext 26 = .ok (.iload_n 1, 1) := by decide +kernel
theorem dX3_seekNext_27 : decode cX3_seekNext 27 = .ok (.aload_n 0, 1) := by decide +kernel
theorem dX3_seekNext_28 : decode cX3_seekNext 28 = .ok (.getfield 15, 3) := by decide +kernel
theorem dX3_seekNext_31 : decode cX3_seekNext 31 = .ok (.getfield 30, 3) := by decide +kernel
theorem dX3_seekNext_34 : decode cX3_seekNext 34 = .ok (.getfield 36, 3) := by decide +kernel
theorem dX3_seekNext_37 : decode cX3_seekNext 37 = .ok (.if_icmp .ge 51, 3) := by decide +kernel
theorem dX3_seekNext_40 : decode cX3_seekNext 40 = .ok (.iconst 0, 1) := by decide +kernel
theorem dX3_seekNext_41 : decode cX3_seekNext 41 = .ok (.istore_n 2, 1) := by decide +kernel
theorem dX3_seekNext_42 : decode cX3_seekNext 42 = .ok (.iload_n 2, 1) := by decide +kernel
theorem dX3_seekNext_43 : decode cX3_seekNext 43 = .ok (.bipush 99, 2) := by decide +kernel
theorem dX3_seekNext_45 : decode cX3_seekNext 45 = .ok (.if_icmp .gt 37, 3) := by decide +kernel
theorem dX3_seekNext_48 : decode cX3_seekNext 48 = .ok (.iload_n 2, 1) := by decide +kernel
theorem dX3_seekNext_49 : decode cX3_seekNext 49 = .ok (.aload_n 0, 1) := by decide +kernel
theorem dX3_seekNext_50 : decode cX3_seekNext 50 = .ok (.getfield 15, 3) := by decide +kernel
theorem dX3_seekNext_53 : decode cX3_seekNext 53 = .ok (.getfield 42, 3) := by decide +kernel
theorem dX3_seekNext_56 : decode cX3_seekNext 56 = .ok (.iload_n 1, 1) := by decide +kernel
theorem dX3_seekNext_57 : decode cX3_seekNext 57 = .ok (.iaload, 1) := by decide +kernel
theorem dX3_seekNext_58 : decode cX3_seekNext 58 = .ok (.if_icmp .eq 18, 3) := by decide +kernel
theorem dX3_seekNext_61 : decode cX3_seekNext 61 = .ok (.aload_n 0, 1) := by decide +kernel
theorem dX3_seekNext_62 : decode cX3_seekNext 62 = .ok (.iload_n 1, 1) := by decide +kernel
theorem dX3_seekNext_63 : decode cX3_seekNext 63 = .ok (.iload_n 2, 1) := by decide +kernel
theorem dX3_seekNext_64 : decode cX3_seekNext 64 = .ok (.invokevirtual 26, 3) := by decide +kernel
theorem dX3_seekNext_67 : decode cX3_seekNext 67 = .ok (.ifCond .eq 9, 3) := by decide +kernel
theorem dX3_seekNext_70 : decode cX3_seekNext 70 = .ok (.aload_n 0, 1) := by decide +kernel
theorem dX3_seekNext_71 : decode cX3_seekNext 71 = .ok (.iload_n 1, 1) := by decide +kernel
theorem dX3_seekNext_72 : decode cX3_seekNext 72 = .ok (.iload_n 2, 1) := by decide +kernel
theorem dX3_seekNext_73 : decode cX3_seekNext 73 = .ok (.invokevirtual 46, 3) := by decide +kernel
theorem dX3_seekNext_76 : decode cX3_seekNext 76 = .ok (.iinc 2 1, 3) := by decide +kernel
theorem dX3_seekNext_79 : decode cX3_seekNext 79 = .ok (.goto (-37), 3) := by decide +kernel
theorem dX3_seekNext_82 : decode cX3_seekNext 82 = .ok (.iinc 1 1, 3) := by decide +kernel
theorem dX3_seekNext_85 : decode cX3_seekNext 85 = .ok (.goto (-59), 3) := by decide +kernel
theorem dX3_seekNext_88 : decode cX3_seekNext 88 = .ok (.aload_n 0, 1) := by decide +kernel
theorem dX3_seekNext_89 : decode cX3_seekNext 89 = .ok (.iconst (-1), 1) := by decide +kernel
theorem dX3_seekNext_90 : decode cX3_seekNext 90 = .ok (.putfield 50, 3) := by decide +kernel
theorem dX3_seekNext_93 : decode cX3_seekNext 93 = .ok (.aload_n 0, 1) := by decide +kernel
theorem dX3_seekNext_94 : decode cX3_seekNext 94 = .ok (.iconst 0, 1) := by decide +kernel
theorem dX3_seekNext_95 : decode cX3_seekNext 95 = .ok (.putfield 53, 3) := by decide +kernel
theorem dX3_seekNext_98 : decode cX3_seekNext 98 = .ok (.iconst 0, 1) := by decide +kernel
theorem dX3_seekNext_99 : decode cX3_seekNext 99 = .ok (.istore_n 1, 1) := by decide +kernel
theorem dX3_seekNext_100 : decode cX3_seekNext 100 = .ok (.iload_n 1, 1) := by decide +kernel
theorem dX3_seekNext_101 : decode cX3_seekNext 101 = .ok (.aload_n 0, 1) := by decide +kernel
theorem dX3_seekNext_102 : decode cX3_seekNext 102 = .ok (.getfield 15, 3) := by decide +kernel
theorem dX3_seekNext_105 : decode cX3_seekNext 105 = .ok (.getfield 30, 3) := by decide +kernel
theorem dX3_seekNext_108 : decode cX3_seekNext 108 = .ok (.getfield 36, 3) := by decide +kernel
theorem dX3_seekNext_111 : decode cX3_seekNext 111 = .ok (.if_icmp .ge 53, 3) := by decide +kernel
theorem dX3_seekNext_114 : decode cX3_seekNext 114 = .ok (.aload_n 0, 1) := by decide +kernel
theorem dX3_seekNext_115 : decode cX3_seekNext 115 = .ok (.getfield 9, 3) := by decide +kernel
theorem dX3_seekNext_118 : decode cX3_seekNext 118 = .ok (.iconst 2, 1) := by decide +kernel
theorem dX3_seekNext_119 : decode cX3_seekNext 119 = .ok (.iload_n 1, 1) := by decide +kernel
theorem dX3_seekNext_120 : decode cX3_seekNext 120 = .ok (.imul, 1) := by decide +kernel
theorem dX3_seekNext_121 : decode cX3_seekNext 121 = .ok (.laload, 1) := by decide +kernel
theorem dX3_seekNext_122 : decode cX3_seekNext 122 = .ok (.invokestatic 56, 3) := by decide +kernel
theorem dX3_seekNext_125 : decode cX3_seekNext 125 = .ok (.aload_n 0, 1) := by decide +kernel
theorem dX3_seekNext_126 : decode cX3_seekNext 126 = .ok (.getfield 9, 3) := by decide +kernel
theorem dX3_seekNext_129 : decode cX3_seekNext 129 = .ok (.iconst 2, 1) := by decide +kernel
theorem dX3_seekNext_130 : decode cX3_seekNext 130 = .ok (.iload_n 1, 1) := by decide +kernel
theorem dX3_seekNext_131 : decode cX3_seekNext 131 = .ok (.imul, 1) := by decide +kernel
theorem dX3_seekNext_132 : decode cX3_seekNext 132 = .ok (.iconst 1, 1) := by decide +kernel
theorem dX3_seekNext_133 : decode cX3_seekNext 133 = .ok (.iadd, 1) := by decide +kernel
theorem dX3_seekNext_134 : decode cX3_seekNext 134 = .ok (.laload, 1) := by decide +kernel
theorem dX3_seekNext_135 : decode cX3_seekNext 135 = .ok (.invokestatic 56, 3) := by decide +kernel
theorem dX3_seekNext_138 : decode cX3_seekNext 138 = .ok (.iadd, 1) := by decide +kernel
theorem dX3_seekNext_139 : decode cX3_seekNext 139 = .ok (.istore_n 2, 1) := by decide +kernel
theorem dX3_seekNext_140 : decode cX3_seekNext 140 = .ok (.iload_n 2, 1) := by decide +kernel
theorem dX3_seekNext_141 : decode cX3_seekNext 141 = .ok (.aload_n 0, 1) := by decide +kernel
theorem dX3_seekNext_142 : decode cX3_seekNext 142 = .ok (.getfield 53, 3) := by decide +kernel
theorem dX3_seekNext_145 : decode cX3_seekNext 145 = .ok (.if_icmp .le 13, 3) := by decide +kernel
theorem dX3_seekNext_148 : decode cX3_seekNext 148 = .ok (.aload_n 0, 1) := by decide +kernel
theorem dX3_seekNext_149 : decode cX3_seekNext 149 = .ok (.iload_n 2, 1) := by decide +kernel
theorem dX3_seekNext_150 : decode cX3_seekNext 150 = .ok (.putfield 53, 3) := by decide +kernel
theorem dX3_seekNext_153 : decode cX3_seekNext 153 = .ok (.aload_n 0, 1) := by decide +kernel
theorem dX3_seekNext_154 : decode cX3_seekNext 154 = .ok (.iload_n 1, 1) := by decide +kernel
theorem dX3_seekNext_155 : decode cX3_seekNext 155 = .ok (.putfield 50, 3) := by decide +kernel
theorem dX3_seekNext_158 : decode cX3_seekNext 158 = .ok (.iinc 1 1, 3) := by decide +kernel
theorem dX3_seekNext_161 : decode cX3_seekNext 161 = .ok (.goto (-61), 3) := by decide +kernel
theorem dX3_seekNext_164 : decode cX3_seekNext 164 = .ok (.return_, 1) := by decide +kernel
theorem dX3_fits_0 : decode cX3_fits 0 = .ok (.aload_n 0, 1) := by decide +kernel
theorem dX3_fits_1 : decode cX3_fits 1 = .ok (.getfield 23, 3) := by decide +kernel
theorem dX3_fits_4 : decode cX3_fits 4 = .ok (.aload_n 0, 1) := by decide +kernel
theorem dX3_fits_5 : decode cX3_fits 5 = .ok (.getfield 15, 3) := by decide +kernel
theorem dX3_fits_8 : decode cX3_fits 8 = .ok (.invokevirtual 62, 3) := by decide +kernel
theorem dX3_fits_11 : decode cX3_fits 11 = .ok (.iload_n 1, 1) := by decide +kernel
theorem dX3_fits_12 : decode cX3_fits 12 = .ok (.iconst (-1), 1) := by decide +kernel
theorem dX3_fits_13 : decode cX3_fits 13 = .ok (.if_icmp .eq 13, 3) := by decide +kernel
theorem dX3_fits_16 : decode cX3_fits 16 = .ok (.aload_n 0, 1) := by decide +kernel
theorem dX3_fits_17 : decode cX3_fits 17 = .ok (.getfield 23, 3) := by decide +kernel
theorem dX3_fits_20 : decode cX3_fits 20 = .ok (.getfield 42, 3) := by decide +kernel
theorem dX3_fits_23 : decode cX3_fits 23 = .ok (.iload_n 1, 1) := by decide +kernel
theorem dX3_fits_24 : decode cX3_fits 24 = .ok (.iload_n 2, 1) := by decide +kernel
theorem dX3_fits_25 : decode cX3_fits 25 = .ok (.iastore, 1) := by decide +kernel
theorem dX3_fits_26 : decode cX3_fits 26 = .ok (.aload_n 0, 1) := by decide +kernel
theorem dX3_fits_27 : decode cX3_fits 27 = .ok (.getfield 19, 3) := by decide +kernel
theorem dX3_fits_30 : decode cX3_fits 30 = .ok (.invokevirtual 66, 3) := by decide +kernel
theorem dX3_fits_33 : decode cX3_fits 33 = .ok (.istore_n 3, 1) := by decide +kernel
theorem dX3_fits_34 : decode cX3_fits 34 = .ok (.iconst 0, 1) := by decide +kernel
theorem dX3_fits_35 : decode cX3_fits 35 = .ok (.istore 4, 2) := by decide +kernel
theorem dX3_fits_37 : decode cX3_fits 37 = .ok (.iload 4, 2) := by decide +kernel
theorem dX3_fits_39 : decode cX3_fits 39 = .ok (.iload_n 3, 1) := by decide +kernel
theorem dX3_fits_40 : decode cX3_fits 40 = .ok (.if_icmp .gt 32, 3) := by decide +kernel
theorem dX3_fits_43 : decode cX3_fits 43 = .ok (.iload 4, 2) := by decide +kernel
theorem dX3_fits_45 : decode cX3_fits 45 = .ok (.ifCond .le 10, 3) := by decide +kernel
theorem dX3_fits_48 : decode cX3_fits 48 = .ok (.aload_n 0, 1) := by decide +kernel
theorem dX3_fits_49 : decode cX3_fits 49 = .ok (.getfield 23, 3) := by decide +kernel
theorem dX3_fits_52 : decode cX3_fits 52 = .ok (.invokevirtual 72, 3) := by decide +kernel
theorem dX3_fits_55 : decode cX3_fits 55 = .ok (.aload_n 0, 1) := by decide +kernel
theorem dX3_fits_56 : decode cX3_fits 56 = .ok (.iload 4, 2) := by decide +kernel
theorem dX3_fits_58 : decode cX3_fits 58 = .ok (.invokevirtual 75, 3) := by decide +kernel
theorem dX3_fits_61 : decode cX3_fits 61 = .ok (.ifCond .ne 5, 3) := by decide +kernel
theorem dX3_fits_64 : decode cX3_fits 64 = .ok (.iconst 0, 1) := by decide +kernel
theorem dX3_fits_65 : decode cX3_fits 65 = .ok (.ireturn, 1) := by decide +kernel
theorem dX3_fits_66 : decode cX3_fits 66 = .ok (.iinc 4 1, 3) := by decide +kernel
theorem dX3_fits_69 : decode cX3_fits 69 = .ok (.goto (-32), 3) := by decide +kernel
theorem dX3_fits_72 : decode cX3_fits 72 = .ok (.iconst 1, 1) := by decide +kernel
theorem dX3_fits_73 : decode cX3_fits 73 = .ok (.ireturn, 1) := by decide +kernel
theorem dX3_dreamFitsOn_0 : decode cX3_dreamFitsOn 0 = .ok (.iconst 0, 1) := by decide +kernel
theorem dX3_dreamFitsOn_1 : decode cX3_dreamFitsOn 1 = .ok (.istore_n 2, 1) := by decide +kernel
theorem dX3_dreamFitsOn_2 : decode cX3_dreamFitsOn 2 = .ok (.iload_n 2, 1) := by decide +kernel
theorem dX3_dreamFitsOn_3 : decode cX3_dreamFitsOn 3 = .ok (.aload_n 0, 1) := by decide +kernel
theorem dX3_dreamFitsOn_4 : decode cX3_dreamFitsOn 4 = .ok (.getfield 19, 3) := by decide +kernel
theorem dX3_dreamFitsOn_7 : decode cX3_dreamFitsOn 7 = .ok (.getfield 79, 3) := by decide +kernel
theorem dX3_dreamFitsOn_10 : decode cX3_dreamFitsOn 10 = .ok (.if_icmp .ge 53, 3) := by decide +kernel
theorem dX3_dreamFitsOn_13 : decode cX3_dreamFitsOn 13 = .ok (.aload_n 0, 1) := by decide +kernel
theorem dX3_dreamFitsOn_14 : decode cX3_dreamFitsOn 14 = .ok (.getfield 19, 3) := by decide +kernel
theorem dX3_dreamFitsOn_17 : decode cX3_dreamFitsOn 17 = .ok (.getfield 82, 3) := by decide +kernel
theorem dX3_dreamFitsOn_20 : decode cX3_dreamFitsOn 20 = .ok (.iload_n 2, 1) := by decide +kernel
theorem dX3_dreamFitsOn_21 : decode cX3_dreamFitsOn 21 = .ok (.iaload, 1) := by decide +kernel
theorem dX3_dreamFitsOn_22 : decode cX3_dreamFitsOn 22 = .ok (.iload_n 1, 1) := by decide +kernel
theorem dX3_dreamFitsOn_23 : decode cX3_dreamFitsOn 23 = .ok (.if_icmp .ne 34, 3) := by decide +kernel
theorem dX3_dreamFitsOn_26 : decode cX3_dreamFitsOn 26 = .ok (.aload_n 0, 1) := by decide +kernel
theorem dX3_dreamFitsOn_27 : decode cX3_dreamFitsOn 27 = .ok (.getfield 23, 3) := by decide +kernel
theorem dX3_dreamFitsOn_30 : decode cX3_dreamFitsOn 30 = .ok (.getfield 42, 3) := by decide +kernel
theorem dX3_dreamFitsOn_33 : decode cX3_dreamFitsOn 33 = .ok (.aload_n 0, 1) := by decide +kernel
theorem dX3_dreamFitsOn_34 : decode cX3_dreamFitsOn 34 = .ok (.getfield 19, 3) := by decide +kernel
theorem dX3_dreamFitsOn_37 : decode cX3_dreamFitsOn 37 = .ok (.getfield 85, 3) := by decide +kernel
theorem dX3_dreamFitsOn_40 : decode cX3_dreamFitsOn 40 = .ok (.iload_n 2, 1) := by decide +kernel
theorem dX3_dreamFitsOn_41 : decode cX3_dreamFitsOn 41 = .ok (.iaload, 1) := by decide +kernel
theorem dX3_dreamFitsOn_42 : decode cX3_dreamFitsOn 42 = .ok (.iaload, 1) := by decide +kernel
theorem dX3_dreamFitsOn_43 : decode cX3_dreamFitsOn 43 = .ok (.aload_n 0, 1) := by decide +kernel
theorem dX3_dreamFitsOn_44 : decode cX3_dreamFitsOn 44 = .ok (.getfield 19, 3) := by decide +kernel
theorem dX3_dreamFitsOn_47 : decode cX3_dreamFitsOn 47 = .ok (.getfield 88, 3) := by decide +kernel
theorem dX3_dreamFitsOn_50 : decode cX3_dreamFitsOn 50 = .ok (.iload_n 2, 1) := by decide +kernel
theorem dX3_dreamFitsOn_51 : decode cX3_dreamFitsOn 51 = .ok (.iaload, 1) := by decide +kernel
theorem dX3_dreamFitsOn_52 : decode cX3_dreamFitsOn 52 = .ok (.if_icmp .eq 5, 3) := by decide +kernel
theorem dX3_dreamFitsOn_55 : decode cX3_dreamFitsOn 55 = .ok (.iconst 0, 1) := by decide +kernel
theorem dX3_dreamFitsOn_56 : decode cX3_dreamFitsOn 56 = .ok (.ireturn, 1) := by decide +kernel
theorem dX3_dreamFitsOn_57 : decode cX3_dreamFitsOn 57 = .ok (.iinc 2 1, 3) := by decide +kernel
theorem dX3_dreamFitsOn_60 : decode cX3_dreamFitsOn 60 = .ok (.goto (-58), 3) := by decide +kernel
theorem dX3_dreamFitsOn_63 : decode cX3_dreamFitsOn 63 = .ok (.iconst 1, 1) := by decide +kernel
theorem dX3_dreamFitsOn_64 : decode cX3_dreamFitsOn 64 = .ok (.ireturn, 1) := by decide +kernel
theorem dX3_markAngers_0 : decode cX3_markAngers 0 = .ok (.aload_n 0, 1) := by decide +kernel
theorem dX3_markAngers_1 : decode cX3_markAngers 1 = .ok (.getfield 23, 3) := by decide +kernel
theorem dX3_markAngers_4 : decode cX3_markAngers 4 = .ok (.aload_n 0, 1) := by decide +kernel
theorem dX3_markAngers_5 : decode cX3_markAngers 5 = .ok (.getfield 15, 3) := by decide +kernel
theorem dX3_markAngers_8 : decode cX3_markAngers 8 = .ok (.invokevirtual 62, 3) := by decide +kernel
theorem dX3_markAngers_11 : decode cX3_markAngers 11 = .ok (.aload_n 0, 1) := by decide +kernel
theorem dX3_markAngers_12 : decode cX3_markAngers 12 = .ok (.getfield 23, 3) := by decide +kernel
theorem dX3_markAngers_15 : decode cX3_markAngers 15 = .ok (.getfield 42, 3) := by decide +kernel
theorem dX3_markAngers_18 : decode cX3_markAngers 18 = .ok (.iload_n 1, 1) := by decide +kernel
theorem dX3_markAngers_19 : decode cX3_markAngers 19 = .ok (.iload_n 2, 1) := by decide +kernel
theorem dX3_markAngers_20 : decode cX3_markAngers 20 = .ok (.iastore, 1) := by decide +kernel
theorem dX3_markAngers_21 : decode cX3_markAngers 21 = .ok (.iconst 0, 1) := by decide +kernel
theorem dX3_markAngers_22 : decode cX3_markAngers 22 = .ok (.istore_n 3, 1) := by decide +kernel
theorem dX3_markAngers_23 : decode cX3_markAngers 23 = .ok (.iload_n 3, 1) := by decide +kernel
theorem dX3_markAngers_24 : decode cX3_markAngers 24 = .ok (.iconst 3, 1) := by decide +kernel
theorem dX3_markAngers_25 : decode cX3_markAngers 25 = .ok (.if_icmp .ge 16, 3) := by decide +kernel
theorem dX3_markAngers_28 : decode cX3_markAngers 28 = .ok (.aload_n 0, 1) := by decide +kernel
theorem dX3_markAngers_29 : decode cX3_markAngers 29 = .ok (.getfield 23, 3) := by decide +kernel
theorem dX3_markAngers_32 : decode cX3_markAngers 32 = .ok (.invokevirtual 72, 3) := by decide +kernel
theorem dX3_markAngers_35 : decode cX3_markAngers 35 = .ok (.iinc 3 1, 3) := by decide +kernel
theorem dX3_markAngers_38 : decode cX3_markAngers 38 = .ok (.goto (-15), 3) := by decide +kernel
theorem dX3_markAngers_41 : decode cX3_markAngers 41 = .ok (.iconst 0, 1) := by decide +kernel
theorem dX3_markAngers_42 : decode cX3_markAngers 42 = .ok (.istore_n 3, 1) := by decide +kernel
theorem dX3_markAngers_43 : decode cX3_markAngers 43 = .ok (.iload_n 3, 1) := by decide +kernel
theorem dX3_markAngers_44 : decode cX3_markAngers 44 = .ok (.aload_n 0, 1) := by decide +kernel
theorem dX3_markAngers_45 : decode cX3_markAngers 45 = .ok (.getfield 15, 3) := by decide +kernel
theorem dX3_markAngers_48 : decode cX3_markAngers 48 = .ok (.getfield 30, 3) := by decide +kernel
theorem dX3_markAngers_51 : decode cX3_markAngers 51 = .ok (.getfield 36, 3) := by decide +kernel
theorem dX3_markAngers_54 : decode cX3_markAngers 54 = .ok (.if_icmp .ge 44, 3) := by decide +kernel
theorem dX3_markAngers_57 : decode cX3_markAngers 57 = .ok (.aload_n 0, 1) := by decide +kernel
theorem dX3_markAngers_58 : decode cX3_markAngers 58 = .ok (.getfield 23, 3) := by decide +kernel
theorem dX3_markAngers_61 : decode cX3_markAngers 61 = .ok (.getfield 42, 3) := by decide +kernel
theorem dX3_markAngers_64 : decode cX3_markAngers 64 = .ok (.iload_n 3, 1) := by decide +kernel
theorem dX3_markAngers_65 : decode cX3_markAngers 65 = .ok (.iaload, 1) := by decide +kernel
theorem dX3_markAngers_66 : decode cX3_markAngers 66 = .ok (.istore 4, 2) := by decide +kernel
theorem dX3_markAngers_68 : decode cX3_markAngers 68 = .ok (.aload_n 0, 1) := by decide +kernel
theorem dX3_markAngers_69 : decode cX3_markAngers 69 = .ok (.getfield 9, 3) := by decide +kernel
theorem dX3_markAngers_72 : decode cX3_markAngers 72 = .ok (.iconst 2, 1) := by decide +kernel
theorem dX3_markAngers_73 : decode cX3_markAngers 73 = .ok (.iload_n 3, 1) := by decide +kernel
theorem dX3_markAngers_74 : decode cX3_markAngers 74 = .ok (.imul, 1) := by decide +kernel
theorem dX3_markAngers_75 : decode cX3_markAngers 75 = .ok (.iload 4, 2) := by decide +kernel
theorem dX3_markAngers_77 : decode cX3_markAngers 77 = .ok (.bipush 64, 2) := by decide +kernel
theorem dX3_markAngers_79 : decode cX3_markAngers 79 = .ok (.idiv, 1) := by decide +kernel
theorem dX3_markAngers_80 : decode cX3_markAngers 80 = .ok (.iadd, 1) := by decide +kernel
theorem dX3_markAngers_81 : decode cX3_markAngers 81 = .ok (.dup2, 1) := by decide +kernel
theorem dX3_markAngers_82 : decode cX3_markAngers 82 = .ok (.laload, 1) := by decide +kernel
theorem dX3_markAngers_83 : decode cX3_markAngers 83 = .ok (.lconst 1, 1) := by decide +kernel
theorem dX3_markAngers_84 : decode cX3_markAngers 84 = .ok (.iload 4, 2) := by decide +kernel
theorem dX3_markAngers_86 : decode cX3_markAngers 86 = .ok (.bipush 64, 2) := by decide +kernel
theorem dX3_markAngers_88 : decode cX3_markAngers 88 = .ok (.irem, 1) := by decide +kernel
theorem dX3_markAngers_89 : decode cX3_markAngers 89 = .ok (.lshl, 1) := by decide +kernel
theorem dX3_markAngers_90 : decode cX3_markAngers 90 = .ok (.lor, 1) := by decide +kernel
theorem dX3_markAngers_91 : decode cX3_markAngers 91 = .ok (.lastore, 1) := by decide +kernel
theorem dX3_markAngers_92 : decode cX3_markAngers 92 = .ok (.iinc 3 1, 3) := by decide +kernel
theorem dX3_markAngers_95 : decode cX3_markAngers 95 = .ok (.goto (-52), 3) := by decide +kernel
theorem dX3_markAngers_98 : decode cX3_markAngers 98 = .ok (.return_, 1) := by decide +kernel
theorem dX4_init_0 : decode cX4_init 0 = .ok (.aload_n 0, 1) := by decide +kernel
theorem dX4_init_1 : decode cX4_init 1 = .ok (.invokespecial 3, 3) := by decide +kernel
theorem dX4_init_4 : decode cX4_init 4 = .ok (.aload_n 0, 1) := by decide +kernel
theorem dX4_init_5 : decode cX4_init 5 = .ok (.iconst 4, 1) := by decide +kernel
theorem dX4_init_6 : decode cX4_init 6 = .ok (.newarray .int, 2) := by decide +kernel
theorem dX4_init_8 : decode cX4_init 8 = .ok (.putfield 9, 3) := by decide +kernel
theorem dX4_init_11 : decode cX4_init 11 = .ok (.aload_n 0, 1) := by decide +kernel
theorem dX4_init_12 : decode cX4_init 12 = .ok (.iconst 4, 1) := by decide +kernel
theorem dX4_init_13 : decode cX4_init 13 = .ok (.newarray .int, 2) := by decide +kernel
theorem dX4_init_15 : decode cX4_init 15 = .ok (.putfield 15, 3) := by decide +kernel
theorem dX4_init_18 : decode cX4_init 18 = .ok (.aload_n 0, 1) := by decide +kernel
theorem dX4_init_19 : decode cX4_init 19 = .ok (.aload_n 1, 1) := by decide +kernel
theorem dX4_init_20 : decode cX4_init 20 = .ok (.putfield 18, 3) := by decide +kernel
theorem dX4_init_23 : decode cX4_init 23 = .ok (.aload_n 0, 1) := by decide +kernel
theorem dX4_init_24 : decode cX4_init 24 = .ok (.aload_n 2, 1) := by decide +kernel
theorem dX4_init_25 : decode cX4_init 25 = .ok (.putfield 22, 3) := by decide +kernel
theorem dX4_init_28 : decode cX4_init 28 = .ok (.return_, 1) := by decide +kernel
theorem dX4_after_0 : decode cX4_after 0 = .ok (.aload_n 0, 1) := by decide +kernel
theorem dX4_after_1 : decode cX4_after 1 = .ok (.getfield 22, 3) := by decide +kernel
theorem dX4_after_4 : decode cX4_after 4 = .ok (.aload_n 0, 1) := by decide +kernel
theorem dX4_after_5 : decode cX4_after 5 = .ok (.getfield 18, 3) := by decide +kernel
theorem dX4_after_8 : decode cX4_after 8 = .ok (.invokevirtual 25, 3) := by decide +kernel
theorem dX4_after_11 : decode cX4_after 11 = .ok (.iconst 0, 1) := by decide +kernel
theorem dX4_after_12 : decode cX4_after 12 = .ok (.istore_n 2, 1) := by decide +kernel
theorem dX4_after_13 : decode cX4_after 13 = .ok (.iload_n 2, 1) := by decide +kernel
theorem dX4_after_14 : decode cX4_after 14 = .ok (.iload_n 1, 1) := by decide +kernel
theorem dX4_after_15 : decode cX4_after 15 = .ok (.if_icmp .ge 16, 3) := by decide +kernel
theorem dX4_after_18 : decode cX4_after 18 = .ok (.aload_n 0, 1) := by decide +kernel
theorem dX4_after_19 : decode cX4_after 19 = .ok (.getfield 22, 3) := by decide +kernel
theorem dX4_after_22 : decode cX4_after 22 = .ok (.invokevirtual 31, 3) := by decide +kernel
theorem dX4_after_25 : decode cX4_after 25 = .ok (.iinc 2 1, 3) := by decide +kernel
theorem dX4_after_28 : decode cX4_after 28 = .ok (.goto (-15), 3) := by decide +kernel
theorem dX4_after_31 : decode cX4_after 31 = .ok (.aload_n 0, 1) := by decide +kernel
theorem dX4_after_32 : decode cX4_after 32 = .ok (.getfield 22, 3) := by decide +kernel
theorem dX4_after_35 : decode cX4_after 35 = .ok (.areturn, 1) := by decide +kernel
theorem dX4_fightsDreamt_0 : decode cX4_fightsDreamt 0 = .ok (.aload_n 0, 1) := by decide +kernel
theorem dX4_fightsDreamt_1 : decode cX4_fightsDreamt 1 = .ok (.getfield 22, 3) := by decide +kernel
theorem dX4_fightsDreamt_4 : decode cX4_fightsDreamt 4 = .ok (.getfield 34, 3) := by decide +kernel
theorem dX4_fightsDreamt_7 : decode cX4_fightsDreamt 7 = .ok (.bipush 48, 2) := by decide +kernel
theorem dX4_fightsDreamt_9 : decode cX4_fightsDreamt 9 = .ok (.iaload, 1) := by decide +kernel
theorem dX4_fightsDreamt_10 : decode cX4_fightsDreamt 10 = .ok (.aload_n 0, 1) := by decide +kernel
theorem dX4_fightsDreamt_11 : decode cX4_fightsDreamt 11 = .ok (.getfield 18, 3) := by decide +kernel
theorem dX4_fightsDreamt_14 : decode cX4_fightsDreamt 14 = .ok (.getfield 34, 3) := by decide +kernel
theorem dX4_fightsDreamt_17 : decode cX4_fightsDreamt 17 = .ok (.bipush 48, 2) := by decide +kernel
theorem dX4_fightsDreamt_19 : decode cX4_fightsDreamt 19 = .ok (.iaload, 1) := by decide +kernel
theorem dX4_fightsDreamt_20 : decode cX4_fightsDreamt 20 = .ok (.isub, 1) := by decide +kernel
theorem dX4_fightsDreamt_21 : decode cX4_fightsDreamt 21 = .ok (.ireturn, 1) := by decide +kernel
theorem dX4_firstFight_0 : decode cX4_firstFight 0 = .ok (.aload_n 0, 1) := by decide +kernel
theorem dX4_firstFight_1 : decode cX4_firstFight 1 = .ok (.getfield 22, 3) := by decide +kernel
theorem dX4_firstFight_4 : decode cX4_firstFight 4 = .ok (.aload_n 0, 1) := by decide +kernel
theorem dX4_firstFight_5 : decode cX4_firstFight 5 = .ok (.getfield 18, 3) := by decide +kernel
theorem dX4_firstFight_8 : decode cX4_firstFight 8 = .ok (.invokevirtual 25, 3) := by decide +kernel
theorem dX4_firstFight_11 : decode cX4_firstFight 11 = .ok (.aload_n 0, 1) := by decide +kernel
theorem dX4_firstFight_12 : decode cX4_firstFight 12 = .ok (.invokevirtual 37, 3) := by decide +kernel
theorem dX4_firstFight_15 : decode cX4_firstFight 15 = .ok (.istore_n 1, 1) := by decide +kernel
theorem dX4_firstFight_16 : decode cX4_firstFight 16 = .ok (.iload_n 1, 1) := by decide +kernel
theorem dX4_firstFight_17 : decode cX4_firstFight 17 = .ok (.bipush 61, 2) := by decide +kernel
theorem dX4_firstFight_19 : decode cX4_firstFight 19 = .ok (.if_icmp .ne 7, 3) := by decide +kernel
theorem dX4_firstFight_22 : decode cX4_firstFight 22 = .ok (.iconst (-1), 1) := by decide +kernel
theorem dX4_firstFight_23 : decode cX4_firstFight 23 = .ok (.goto 4, 3) := by decide +kernel
theorem dX4_firstFight_26 : decode cX4_firstFight 26 = .ok (.iload_n 1, 1) := by decide +kernel
theorem dX4_firstFight_27 : decode cX4_firstFight 27 = .ok (.ireturn, 1) := by decide +kernel
theorem dX4_dreamFirstFight_0 : decode cX4_dreamFirstFight 0 = .ok (.iconst 1, 1) := by decide +kernel
theorem dX4_dreamFirstFight_1 : decode cX4_dreamFirstFight 1 = .ok (.istore_n 1, 1) := by decide +kernel
theorem dX4_dreamFirstFight_2 : decode cX4_dreamFirstFight 2 = .ok (.iload_n 1, 1) := by decide +kernel
theorem dX4_dreamFirstFight_3 : decode cX4_dreamFirstFight 3 = .ok (.bipush 60, 2) := by decide +kernel
theorem dX4_dreamFirstFight_5 : decode cX4_dreamFirstFight 5 = .ok (.if_icmp .gt 25, 3) := by decide +kernel
theorem dX4_dreamFirstFight_8 : decode cX4_dreamFirstFight 8 = .ok (.aload_n 0, 1) := by decide +kernel
theorem dX4_dreamFirstFight_9 : decode cX4_dreamFirstFight 9 = .ok (.getfield 22, 3) := by decide +kernel
theorem dX4_dreamFirstFight_12 : decode cX4_dreamFirstFight 12 = .ok (.invokevirtual 31, 3) := by decide +kernel
theorem dX4_dreamFirstFight_15 : decode cX4_dreamFirstFight 15 = .ok (.aload_n 0, 1) := by decide +kernel
theorem dX4_dreamFirstFight_16 : decode cX4_dreamFirstFight 16 = .ok (.invokevirtual 41, 3) := by decide +kernel
theorem dX4_dreamFirstFight_19 : decode cX4_dreamFirstFight 19 = .ok (.ifCond .le 5, 3) := by decide +kernel
theorem dX4_dreamFirstFight_22 : decode cX4_dreamFirstFight 22 = .ok (.iload_n 1, 1) := by decide +kernel
theorem dX4_dreamFirstFight_23 : decode cX4_dreamFirstFight 23 = .ok (.ireturn, 1) := by decide +kernel
theorem dX4_dreamFirstFight_24 : decode cX4_dreamFirstFight 24 = .ok (.iinc 1 1, 3) := by decide +kernel
theorem dX4_dreamFirstFight_27 : decode cX4_dreamFirstFight 27 = .ok (.goto (-25), 3) := by decide +kernel
theorem dX4_dreamFirstFight_30 : decode cX4_dreamFirstFight 30 = .ok (.bipush 61, 2) := by decide +kernel
theorem dX4_dreamFirstFight_32 : decode cX4_dreamFirstFight 32 = .ok (.ireturn, 1) := by decide +kernel
theorem dX4_daysToRest_0 : decode cX4_daysToRest 0 = .ok (.aload_n 0, 1) := by decide +kernel
theorem dX4_daysToRest_1 : decode cX4_daysToRest 1 = .ok (.getfield 22, 3) := by decide +kernel
theorem dX4_daysToRest_4 : decode cX4_daysToRest 4 = .ok (.aload_n 0, 1) := by decide +kernel
theorem dX4_daysToRest_5 : decode cX4_daysToRest 5 = .ok (.getfield 18, 3) := by decide +kernel
theorem dX4_daysToRest_8 : decode cX4_daysToRest 8 = .ok (.invokevirtual 25, 3) := by decide +kernel
theorem dX4_daysToRest_11 : decode cX4_daysToRest 11 = .ok (.iconst 0, 1) := by decide +kernel
theorem dX4_daysToRest_12 : decode cX4_daysToRest 12 = .ok (.istore_n 2, 1) := by decide +kernel
theorem dX4_daysToRest_13 : decode cX4_daysToRest 13 = .ok (.iload_n 2, 1) := by decide +kernel
theorem dX4_daysToRest_14 : decode cX4_daysToRest 14 = .ok (.bipush 60, 2) := by decide +kernel
theorem dX4_daysToRest_16 : decode cX4_daysToRest 16 = .ok (.if_icmp .gt 35, 3) := by decide +kernel
theorem dX4_daysToRest_19 : decode cX4_daysToRest 19 = .ok (.aload_n 0, 1) := by decide +kernel
theorem dX4_daysToRest_20 : decode cX4_daysToRest 20 = .ok (.getfield 22, 3) := by decide +kernel
theorem dX4_daysToRest_23 : decode cX4_daysToRest 23 = .ok (.getfield 34, 3) := by decide +kernel
theorem dX4_daysToRest_26 : decode cX4_daysToRest 26 = .ok (.bipush 10, 2) := by decide +kernel
theorem dX4_daysToRest_28 : decode cX4_daysToRest 28 = .ok (.iload_n 1, 1) := by decide +kernel
theorem dX4_daysToRest_29 : decode cX4_daysToRest 29 = .ok (.iadd, 1) := by decide +kernel
theorem dX4_daysToRest_30 : decode cX4_daysToRest 30 = .ok (.iaload, 1) := by decide +kernel
theorem dX4_daysToRest_31 : decode cX4_daysToRest 31 = .ok (.bipush 6, 2) := by decide +kernel
theorem dX4_daysToRest_33 : decode cX4_daysToRest 33 = .ok (.if_icmp .ne 5, 3) := by decide +kernel
theorem dX4_daysToRest_36 : decode cX4_daysToRest 36 = .ok (.iload_n 2, 1) := by decide +kernel
theorem dX4_daysToRest_37 : decode cX4_daysToRest 37 = .ok (.ireturn, 1) := by decide +kernel
theorem dX4_daysToRest_38 : decode cX4_daysToRest 38 = .ok (.aload_n 0, 1) := by decide +kernel
theorem dX4_daysToRest_39 : decode cX4_daysToRest 39 = .ok (.getfield 22, 3) := by decide +kernel
theorem dX4_daysToRest_42 : decode cX4_daysToRest 42 = .ok (.invokevirtual 31, 3) := by decide +kernel
theorem dX4_daysToRest_45 : decode cX4_daysToRest 45 = .ok (.iinc 2 1, 3) := by decide +kernel
theorem dX4_daysToRest_48 : decode cX4_daysToRest 48 = .ok (.goto (-35), 3) := by decide +kernel
theorem dX4_daysToRest_51 : decode cX4_daysToRest 51 = .ok (.iconst (-1), 1) := by decide +kernel
theorem dX4_daysToRest_52 : decode cX4_daysToRest 52 = .ok (.ireturn, 1) := by decide +kernel
theorem dX4_worstHouse_0 : decode cX4_worstHouse 0 = .ok (.aload_n 0, 1) := by decide +kernel
theorem dX4_worstHouse_1 : decode cX4_worstHouse 1 = .ok (.iload_n 1, 1) := by decide +kernel
theorem dX4_worstHouse_2 : decode cX4_worstHouse 2 = .ok (.invokevirtual 44, 3) := by decide +kernel
theorem dX4_worstHouse_5 : decode cX4_worstHouse 5 = .ok (.pop, 1) := by decide +kernel
theorem dX4_worstHouse_6 : decode cX4_worstHouse 6 = .ok (.iconst (-1), 1) := by decide +kernel
theorem dX4_worstHouse_7 : decode cX4_worstHouse 7 = .ok (.istore_n 2, 1) := by decide +kernel
theorem dX4_worstHouse_8 : decode cX4_worstHouse 8 = .ok (.iconst 0, 1) := by decide +kernel
theorem dX4_worstHouse_9 : decode cX4_worstHouse 9 = .ok (.istore_n 3, 1) := by decide +kernel
theorem dX4_worstHouse_10 : decode cX4_worstHouse 10 = .ok (.iconst 0, 1) := by decide +kernel
theorem dX4_worstHouse_11 : decode cX4_worstHouse 11 = .ok (.istore 4, 2) := by decide +kernel
theorem dX4_worstHouse_13 : decode cX4_worstHouse 13 = .ok (.iload 4, 2) := by decide +kernel
theorem dX4_worstHouse_15 : decode cX4_worstHouse 15 = .ok (.bipush 6, 2) := by decide +kernel
theorem dX4_worstHouse_17 : decode cX4_worstHouse 17 = .ok (.if_icmp .ge 37, 3) := by decide +kernel
theorem dX4_worstHouse_20 : decode cX4_worstHouse 20 = .ok (.aload_n 0, 1) := by decide +kernel
theorem dX4_worstHouse_21 : decode cX4_worstHouse 21 = .ok (.getfield 22, 3) := by decide +kernel
theorem dX4_worstHouse_24 : decode cX4_worstHouse 24 = .ok (.getfield 48, 3) := by decide +kernel
theorem dX4_worstHouse_27 : decode cX4_worstHouse 27 = .ok (.iload 4, 2) := by decide +kernel
theorem dX4_worstHouse_29 : decode cX4_worstHouse 29 = .ok (.iaload, 1) := by decide +kernel
theorem dX4_worstHouse_30 : decode cX4_worstHouse 30 = .ok (.iload_n 3, 1) := by decide +kernel
theorem dX4_worstHouse_31 : decode cX4_worstHouse 31 = .ok (.if_icmp .le 17, 3) := by decide +kernel
theorem dX4_worstHouse_34 : decode cX4_worstHouse 34 = .ok (.aload_n 0, 1) := by decide +kernel
theorem dX4_worstHouse_35 : decode cX4_worstHouse 35 = .ok (.getfield 22, 3) := by decide +kernel
theorem dX4_worstHouse_38 : decode cX4_worstHouse 38 = .ok (.getfield 48, 3) := by decide +kernel
theorem dX4_worstHouse_41 : decode cX4_worstHouse 41 = .ok (.iload 4, 2) := by decide +kernel
theorem dX4_worstHouse_43 : decode cX4_worstHouse 43 = .ok (.iaload, 1) := by decide +kernel
theorem dX4_worstHouse_44 : decode cX4_worstHouse 44 = .ok (.istore_n 3, 1) := by decide +kernel
theorem dX4_worstHouse_45 : decode cX4_worstHouse 45 = .ok (.iload 4, 2) := by decide +kernel
theorem dX4_worstHouse_47 : decode cX4_worstHouse 47 = .ok (.istore_n 2, 1) := by decide +kernel
theorem dX4_worstHouse_48 : decode cX4_worstHouse 48 = .ok (.iinc 4 1, 3) := by decide +kernel
theorem dX4_worstHouse_51 : decode cX4_worstHouse 51 = .ok (.goto (-38), 3) := by decide +kernel
theorem dX4_worstHouse_54 : decode cX4_worstHouse 54 = .ok (.iload_n 2, 1) := by decide +kernel
theorem dX4_worstHouse_55 : decode cX4_worstHouse 55 = .ok (.ireturn, 1) := by decide +kernel
theorem dX4_seekCalmingBlade_0 : decode cX4_seekCalmingBlade 0 = .ok (.aload_n 0, 1) := by decide +kernel
theorem dX4_seekCalmingBlade_1 : decode cX4_seekCalmingBlade 1 = .ok (.getfield 22, 3) := by decide +kernel
theorem dX4_seekCalmingBlade_4 : decode cX4_seekCalmingBlade 4 = .ok (.aload_n 0, 1) := by decide +kernel
theorem dX4_seekCalmingBlade_5 : decode cX4_seekCalmingBlade 5 = .ok (.getfield 18, 3) := by decide +kernel
theorem dX4_seekCalmingBlade_8 : decode cX4_seekCalmingBlade 8 = .ok (.invokevirtual 25, 3) := by decide +kernel
theorem dX4_seekCalmingBlade_11 : decode cX4_seekCalmingBlade 11 = .ok (.aload_n 0, 1) := by decide +kernel
theorem dX4_seekCalmingBlade_12 : decode cX4_seekCalmingBlade 12 = .ok (.invokevirtual 37, 3) := by decide +kernel
theorem dX4_seekCalmingBlade_15 : decode cX4_seekCalmingBlade 15 = .ok (.istore_n 1, 1) := by decide +kernel
theorem dX4_seekCalmingBlade_16 : decode cX4_seekCalmingBlade 16 = .ok (.aload_n 0, 1) := by decide +kernel
theorem dX4_seekCalmingBlade_17 : decode cX4_seekCalmingBlade 17 = .ok (.iconst (-1), 1) := by decide +kernel
theorem dX4_seekCalmingBlade_18 : decode cX4_seekCalmingBlade 18 = .ok (.putfield 51, 3) := by decide +kernel
theorem dX4_seekCalmingBlade_21 : decode cX4_seekCalmingBlade 21 = .ok (.aload_n 0, 1) := by decide +kernel
theorem dX4_seekCalmingBlade_22 : decode cX4_seekCalmingBlade 22 = .ok (.iconst (-1), 1) := by decide +kernel
theorem dX4_seekCalmingBlade_23 : decode cX4_seekCalmingBlade 23 = .ok (.putfield 55, 3) := by decide +kernel
theorem dX4_seekCalmingBlade_26 : decode cX4_seekCalmingBlade 26 = .ok (.iconst 0, 1) := by decide +kernel
theorem dX4_seekCalmingBlade_27 : decode cX4_seekCalmingBlade 27 = .ok (.istore_n 2, 1) := by decide +kernel
theorem dX4_seekCalmingBlade_28 : decode cX4_seekCalmingBlade 28 = .ok (.iload_n 2, 1) := by decide +kernel
theorem dX4_seekCalmingBlade_29 : decode cX4_seekCalmingBlade 29 = .ok (.aload_n 0, 1) := by decide +kernel
theorem dX4_seekCalmingBlade_30 : decode cX4_seekCalmingBlade 30 = .ok (.getfield 18, 3) := by decide +kernel
theorem dX4_seekCalmingBlade_33 : decode cX4_seekCalmingBlade 33 = .ok (.getfield 58, 3) := by decide +kernel
theorem dX4_seekCalmingBlade_36 : decode cX4_seekCalmingBlade 36 = .ok (.getfield 62, 3) := by decide +kernel
theorem dX4_seekCalmingBlade_39 : decode cX4_seekCalmingBlade 39 = .ok (.if_icmp .ge 71, 3) := by decide +kernel
theorem dX4_seekCalmingBlade_42 : decode cX4_seekCalmingBlade 42 = .ok (.aload_n 0, 1) := by decide +kernel
theorem dX4_seekCalmingBlade_43 : decode cX4_seekCalmingBlade 43 = .ok (.getfield 18, 3) := by decide +kernel
theorem dX4_seekCalmingBlade_46 : decode cX4_seekCalmingBlade 46 = .ok (.iload_n 2, 1) := by decide +kernel
theorem dX4_seekCalmingBlade_47 : decode cX4_seekCalmingBlade 47 = .ok (.invokevirtual 67, 3) := by decide +kernel
theorem dX4_seekCalmingBlade_50 : decode cX4_seekCalmingBlade 50 = .ok (.ifCond .eq 54, 3) := by decide +kernel
theorem dX4_seekCalmingBlade_53 : decode cX4_seekCalmingBlade 53 = .ok (.aload_n 0, 1) := by decide +kernel
theorem dX4_seekCalmingBlade_54 : decode cX4_seekCalmingBlade 54 = .ok (.getfield 22, 3) := by decide +kernel
theorem dX4_seekCalmingBlade_57 : decode cX4_seekCalmingBlade 57 = .ok (.aload_n 0, 1) := by decide +kernel
theorem dX4_seekCalmingBlade_58 : decode cX4_seekCalmingBlade 58 = .ok (.getfield 18, 3) := by decide +kernel
theorem dX4_seekCalmingBlade_61 : decode cX4_seekCalmingBlade 61 = .ok (.invokevirtual 25, 3) := by decide +kernel
theorem dX4_seekCalmingBlade_64 : decode cX4_seekCalmingBlade 64 = .ok (.aload_n 0, 1) := by decide +kernel
theorem dX4_seekCalmingBlade_65 : decode cX4_seekCalmingBlade 65 = .ok (.getfield 22, 3) := by decide +kernel
theorem dX4_seekCalmingBlade_68 : decode cX4_seekCalmingBlade 68 = .ok (.iload_n 2, 1) := by decide +kernel
theorem dX4_seekCalmingBlade_69 : decode cX4_seekCalmingBlade 69 = .ok (.invokevirtual 71, 3) := by decide +kernel
theorem dX4_seekCalmingBlade_72 : decode cX4_seekCalmingBlade 72 = .ok (.aload_n 0, 1) := by decide +kernel
theorem dX4_seekCalmingBlade_73 : decode cX4_seekCalmingBlade 73 = .ok (.invokevirtual 37, 3) := by decide +kernel
theorem dX4_seekCalmingBlade_76 : decode cX4_seekCalmingBlade 76 = .ok (.istore_n 3, 1) := by decide +kernel
theorem dX4_seekCalmingBlade_77 : decode cX4_seekCalmingBlade 77 = .ok (.iload_n 3, 1) := by decide +kernel
theorem dX4_seekCalmingBlade_78 : decode cX4_seekCalmingBlade 78 = .ok (.iload_n 1, 1) := by decide +kernel
theorem dX4_seekCalmingBlade_79 : decode cX4_seekCalmingBlade 79 = .ok (.if_icmp .le 25, 3) := by decide +kernel
theorem dX4_seekCalmingBlade_82 : decode cX4_seekCalmingBlade 82 = .ok (.iload_n 3, 1) := by decide +kernel
theorem dX4_seekCalmingBlade_83 : decode cX4_seekCalmingBlade 83 = .ok (.istore_n 1, 1) := by decide +kernel
theorem dX4_seekCalmingBlade_84 : decode cX4_seekCalmingBlade 84 = .ok (.aload_n 0, 1) := by decide +kernel
theorem dX4_seekCalmingBlade_85 : decode cX4_seekCalmingBlade 85 = .ok (.iload_n 2, 1) := by decide +kernel
theorem dX4_seekCalmingBlade_86 : decode cX4_seekCalmingBlade 86 = .ok (.putfield 51, 3) := by decide +kernel
theorem dX4_seekCalmingBlade_89 : decode cX4_seekCalmingBlade 89 = .ok (.aload_n 0, 1) := by decide +kernel
theorem dX4_seekCalmingBlade_90 : decode cX4_seekCalmingBlade 90 = .ok (.iload_n 3, 1) := by decide +kernel
theorem dX4_seekCalmingBlade_91 : decode cX4_seekCalmingBlade 91 = .ok (.bipush 61, 2) := by decide +kernel
theorem dX4_seekCalmingBlade_93 : decode cX4_seekCalmingBlade 93 = .ok (.if_icmp .ne 7, 3) := by decide +kernel
theorem dX4_seekCalmingBlade_96 : decode cX4_seekCalmingBlade 96 = .ok (.iconst (-1), 1) := by decide +kernel
theorem dX4_seekCalmingBlade_97 : decode cX4_seekCalmingBlade 97 = .ok (.goto 4, 3) := by decide +kernel
theorem dX4_seekCalmingBlade_100 : decode cX4_seekCalmingBlade 100 = .ok (.iload_n 3, 1) := by decide +kernel
theorem dX4_seekCalmingBlade_101 : decode cX4_seekCalmingBlade 101 = .ok (.putfield 55, 3) := by decide +kernel
theorem dX4_seekCalmingBlade_104 : decode cX4_seekCalmingBlade 104 = .ok (.iinc 2 1, 3) := by decide +kernel
theorem dX4_seekCalmingBlade_107 : decode cX4_seekCalmingBlade 107 = .ok (.goto (-79), 3) := by decide +kernel
theorem dX4_seekCalmingBlade_110 : decode cX4_seekCalmingBlade 110 = .ok (.return_, 1) := by decide +kernel
theorem dX4_play_0 : decode cX4_play 0 = .ok (.iconst 0, 1) := by decide +kernel
theorem dX4_play_1 : decode cX4_play 1 = .ok (.istore_n 3, 1) := by decide +kernel
theorem dX4_play_2 : decode cX4_play 2 = .ok (.iload_n 3, 1) := by decide +kernel
theorem dX4_play_3 : decode cX4_play 3 = .ok (.iconst 4, 1) := by decide +kernel
theorem dX4_play_4 : decode cX4_play 4 = .ok (.if_icmp .ge 110, 3) := by decide +kernel
theorem dX4_play_7 : decode cX4_play 7 = .ok (.aload_n 0, 1) := by decide +kernel
theorem dX4_play_8 : decode cX4_play 8 = .ok (.getfield 22, 3) := by decide +kernel
theorem dX4_play_11 : decode cX4_play 11 = .ok (.aload_n 0, 1) := by decide +kernel
theorem dX4_play_12 : decode cX4_play 12 = .ok (.getfield 18, 3) := by decide +kernel
theorem dX4_play_15 : decode cX4_play 15 = .ok (.invokevirtual 25, 3) := by decide +kernel
theorem dX4_play_18 : decode cX4_play 18 = .ok (.iload_n 3, 1) := by decide +kernel
theorem dX4_play_19 : decode cX4_play 19 = .ok (.iconst 1, 1) := by decide +kernel
theorem dX4_play_20 : decode cX4_play 20 = .ok (.ishr, 1) := by decide +kernel
theorem dX4_play_21 : decode cX4_play 21 = .ok (.iconst 1, 1) := by decide +kernel
theorem dX4_play_22 : decode cX4_play 22 = .ok (.iand, 1) := by decide +kernel
theorem dX4_play_23 : decode cX4_play 23 = .ok (.ifCond .eq 18, 3) := by decide +kernel
theorem dX4_play_26 : decode cX4_play 26 = .ok (.aload_n 0, 1) := by decide +kernel
theorem dX4_play_27 : decode cX4_play 27 = .ok (.getfield 18, 3) := by decide +kernel
theorem dX4_play_30 : decode cX4_play 30 = .ok (.getfield 58, 3) := by decide +kernel
theorem dX4_play_33 : decode cX4_play 33 = .ok (.getfield 75, 3) := by decide +kernel
theorem dX4_play_36 : decode cX4_play 36 = .ok (.iload_n 1, 1) := by decide +kernel
theorem dX4_play_37 : decode cX4_play 37 = .ok (.iaload, 1) := by decide +kernel
theorem dX4_play_38 : decode cX4_play 38 = .ok (.goto 4, 3) := by decide +kernel
theorem dX4_play_41 : decode cX4_play 41 = .ok (.iconst 0, 1) := by decide +kernel
theorem dX4_play_42 : decode cX4_play 42 = .ok (.istore 4, 2) := by decide +kernel
theorem dX4_play_44 : decode cX4_play 44 = .ok (.iload 4, 2) := by decide +kernel
theorem dX4_play_46 : decode cX4_play 46 = .ok (.iload_n 3, 1) := by decide +kernel
theorem dX4_play_47 : decode cX4_play 47 = .ok (.iconst 1, 1) := by decide +kernel
theorem dX4_play_48 : decode cX4_play 48 = .ok (.iand, 1) := by decide +kernel
theorem dX4_play_49 : decode cX4_play 49 = .ok (.ifCond .eq 18, 3) := by decide +kernel
theorem dX4_play_52 : decode cX4_play 52 = .ok (.aload_n 0, 1) := by decide +kernel
theorem dX4_play_53 : decode cX4_play 53 = .ok (.getfield 18, 3) := by decide +kernel
theorem dX4_play_56 : decode cX4_play 56 = .ok (.getfield 58, 3) := by decide +kernel
theorem dX4_play_59 : decode cX4_play 59 = .ok (.getfield 75, 3) := by decide +kernel
theorem dX4_play_62 : decode cX4_play 62 = .ok (.iload_n 2, 1) := by decide +kernel
theorem dX4_play_63 : decode cX4_play 63 = .ok (.iaload, 1) := by decide +kernel
theorem dX4_play_64 : decode cX4_play 64 = .ok (.goto 4, 3) := by decide +kernel
theorem dX4_play_67 : decode cX4_play 67 = .ok (.iconst 0, 1) := by decide +kernel
theorem dX4_play_68 : decode cX4_play 68 = .ok (.ior, 1) := by decide +kernel
theorem dX4_play_69 : decode cX4_play 69 = .ok (.istore 4, 2) := by decide +kernel
theorem dX4_play_71 : decode cX4_play 71 = .ok (.aload_n 0, 1) := by decide +kernel
theorem dX4_play_72 : decode cX4_play 72 = .ok (.iload 4, 2) := by decide +kernel
theorem dX4_play_74 : decode cX4_play 74 = .ok (.invokevirtual 78, 3) := by decide +kernel
theorem dX4_play_77 : decode cX4_play 77 = .ok (.aload_n 0, 1) := by decide +kernel
theorem dX4_play_78 : decode cX4_play 78 = .ok (.getfield 22, 3) := by decide +kernel
theorem dX4_play_81 : decode cX4_play 81 = .ok (.bipush 10, 2) := by decide +kernel
theorem dX4_play_83 : decode cX4_play 83 = .ok (.invokevirtual 81, 3) := by decide +kernel
theorem dX4_play_86 : decode cX4_play 86 = .ok (.aload_n 0, 1) := by decide +kernel
theorem dX4_play_87 : decode cX4_play 87 = .ok (.getfield 9, 3) := by decide +kernel
theorem dX4_play_90 : decode cX4_play 90 = .ok (.iload_n 3, 1) := by decide +kernel
theorem dX4_play_91 : decode cX4_play 91 = .ok (.aload_n 0, 1) := by decide +kernel
theorem dX4_play_92 : decode cX4_play 92 = .ok (.iload_n 1, 1) := by decide +kernel
theorem dX4_play_93 : decode cX4_play 93 = .ok (.invokevirtual 84, 3) := by decide +kernel
theorem dX4_play_96 : decode cX4_play 96 = .ok (.iastore, 1) := by decide +kernel
theorem dX4_play_97 : decode cX4_play 97 = .ok (.aload_n 0, 1) := by decide +kernel
theorem dX4_play_98 : decode cX4_play 98 = .ok (.getfield 15, 3) := by decide +kernel
theorem dX4_play_101 : decode cX4_play 101 = .ok (.iload_n 3, 1) := by decide +kernel
theorem dX4_play_102 : decode cX4_play 102 = .ok (.aload_n 0, 1) := by decide +kernel
theorem dX4_play_103 : decode cX4_play 103 = .ok (.iload_n 2, 1) := by decide +kernel
theorem dX4_play_104 : decode cX4_play 104 = .ok (.invokevirtual 84, 3) := by decide +kernel
theorem dX4_play_107 : decode cX4_play 107 = .ok (.iastore, 1) := by decide +kernel
theorem dX4_play_108 : decode cX4_play 108 = .ok (.iinc 3 1, 3) := by decide +kernel
theorem dX4_play_111 : decode cX4_play 111 = .ok (.goto (-109), 3) := by decide +kernel
theorem dX4_play_114 : decode cX4_play 114 = .ok (.aload_n 0, 1) := by decide +kernel
theorem dX4_play_115 : decode cX4_play 115 = .ok (.iconst 0, 1) := by decide +kernel
theorem dX4_play_116 : decode cX4_play 116 = .ok (.putfield 88, 3) := by decide +kernel
theorem dX4_play_119 : decode cX4_play 119 = .ok (.aload_n 0, 1) := by decide +kernel
theorem dX4_play_120 : decode cX4_play 120 = .ok (.iconst (-1), 1) := by decide +kernel
theorem dX4_play_121 : decode cX4_play 121 = .ok (.putfield 91, 3) := by decide +kernel
theorem dX4_play_124 : decode cX4_play 124 = .ok (.iconst 0, 1) := by decide +kernel
theorem dX4_play_125 : decode cX4_play 125 = .ok (.istore_n 3, 1) := by decide +kernel
theorem dX4_play_126 : decode cX4_play 126 = .ok (.iload_n 3, 1) := by decide +kernel
theorem dX4_play_127 : decode cX4_play 127 = .ok (.iconst 4, 1) := by decide +kernel
theorem dX4_play_128 : decode cX4_play 128 = .ok (.if_icmp .ge 75, 3) := by decide +kernel
theorem dX4_play_131 : decode cX4_play 131 = .ok (.aload_n 0, 1) := by decide +kernel
theorem dX4_play_132 : decode cX4_play 132 = .ok (.getfield 9, 3) := by decide +kernel
theorem dX4_play_135 : decode cX4_play 135 = .ok (.iload_n 3, 1) := by decide +kernel
theorem dX4_play_136 : decode cX4_play 136 = .ok (.iaload, 1) := by decide +kernel
theorem dX4_play_137 : decode cX4_play 137 = .ok (.aload_n 0, 1) := by decide +kernel
theorem dX4_play_138 : decode cX4_play 138 = .ok (.getfield 9, 3) := by decide +kernel
theorem dX4_play_141 : decode cX4_play 141 = .ok (.iload_n 3, 1) := by decide +kernel
theorem dX4_play_142 : decode cX4_play 142 = .ok (.iconst 2, 1) := by decide +kernel
theorem dX4_play_143 : decode cX4_play 143 = .ok (.ixor, 1) := by decide +kernel
theorem dX4_play_144 : decode cX4_play 144 = .ok (.iaload, 1) := by decide +kernel
theorem dX4_play_145 : decode cX4_play 145 = .ok (.if_icmp .gt 52, 3) := by decide +kernel
theorem dX4_play_148 : decode cX4_play 148 = .ok (.aload_n 0, 1) := by decide +kernel
theorem dX4_play_149 : decode cX4_play 149 = .ok (.getfield 15, 3) := by decide +kernel
theorem dX4_play_152 : decode cX4_play 152 = .ok (.iload_n 3, 1) := by decide +kernel
theorem dX4_play_153 : decode cX4_play 153 = .ok (.iaload, 1) := by decide +kernel
theorem dX4_play_154 : decode cX4_play 154 = .ok (.aload_n 0, 1) := by decide +kernel
theorem dX4_play_155 : decode cX4_play 155 = .ok (.getfield 15, 3) := by decide +kernel
theorem dX4_play_158 : decode cX4_play 158 = .ok (.iload_n 3, 1) := by decide +kernel
theorem dX4_play_159 : decode cX4_play 159 = .ok (.iconst 1, 1) := by decide +kernel
theorem dX4_play_160 : decode cX4_play 160 = .ok (.ixor, 1) := by decide +kernel
theorem dX4_play_161 : decode cX4_play 161 = .ok (.iaload, 1) := by decide +kernel
theorem dX4_play_162 : decode cX4_play 162 = .ok (.if_icmp .gt 35, 3) := by decide +kernel
theorem dX4_play_165 : decode cX4_play 165 = .ok (.aload_n 0, 1) := by decide +kernel
theorem dX4_play_166 : decode cX4_play 166 = .ok (.dup, 1) := by decide +kernel
theorem dX4_play_167 : decode cX4_play 167 = .ok (.getfield 88, 3) := by decide +kernel
theorem dX4_play_170 : decode cX4_play 170 = .ok (.iconst 1, 1) := by decide +kernel
theorem dX4_play_171 : decode cX4_play 171 = .ok (.iadd, 1) := by decide +kernel
theorem dX4_play_172 : decode cX4_play 172 = .ok (.putfield 88, 3) := by decide +kernel
theorem dX4_play_175 : decode cX4_play 175 = .ok (.aload_n 0, 1) := by decide +kernel
theorem dX4_play_176 : decode cX4_play 176 = .ok (.getfield 91, 3) := by decide +kernel
theorem dX4_play_179 : decode cX4_play 179 = .ok (.iconst (-1), 1) := by decide +kernel
theorem dX4_play_180 : decode cX4_play 180 = .ok (.if_icmp .ne 17, 3) := by decide +kernel
theorem dX4_play_183 : decode cX4_play 183 = .ok (.aload_n 0, 1) := by decide +kernel
theorem dX4_play_184 : decode cX4_play 184 = .ok (.iload_n 3, 1) := by decide +kernel
theorem dX4_play_185 : decode cX4_play 185 = .ok (.iconst 1, 1) := by decide +kernel
theorem dX4_play_186 : decode cX4_play 186 = .ok (.ishr, 1) := by decide +kernel
theorem dX4_play_187 : decode cX4_play 187 = .ok (.bipush 10, 2) := by decide +kernel
theorem dX4_play_189 : decode cX4_play 189 = .ok (.imul, 1) := by decide +kernel
theorem dX4_play_190 : decode cX4_play 190 = .ok (.iload_n 3, 1) := by decide +kernel
theorem dX4_play_191 : decode cX4_play 191 = .ok (.iconst 1, 1) := by decide +kernel
theorem dX4_play_192 : decode cX4_play 192 = .ok (.iand, 1) := by decide +kernel
theorem dX4_play_193 : decode cX4_play 193 = .ok (.iadd, 1) := by decide +kernel
theorem dX4_play_194 : decode cX4_play 194 = .ok (.putfield 91, 3) := by decide +kernel
theorem dX4_play_197 : decode cX4_play 197 = .ok (.iinc 3 1, 3) := by decide +kernel
theorem dX4_play_200 : decode cX4_play 200 = .ok (.goto (-74), 3) := by decide +kernel
theorem dX4_play_203 : decode cX4_play 203 = .ok (.return_, 1) := by decide +kernel
theorem dX4_dreamSwallowing_0 : decode cX4_dreamSwallowing 0 = .ok (.iconst 0, 1) := by decide +kernel
theorem dX4_dreamSwallowing_1 : decode cX4_dreamSwallowing 1 = .ok (.istore_n 2, 1) := by decide +kernel
theorem dX4_dreamSwallowing_2 : decode cX4_dreamSwallowing 2 = .ok (.iload_n 2, 1) := by decide +kernel
theorem dX4_dreamSwallowing_3 : decode cX4_dreamSwallowing 3 = .ok (.aload_n 0, 1) := by decide +kernel
theorem dX4_dreamSwallowing_4 : decode cX4_dreamSwallowing 4 = .ok (.getfield 22, 3) := by decide +kernel
theorem dX4_dreamSwallowing_7 : decode cX4_dreamSwallowing 7 = .ok (.getfield 58, 3) := by decide +kernel
theorem dX4_dreamSwallowing_10 : decode cX4_dreamSwallowing 10 = .ok (.getfield 62, 3) := by decide +kernel
theorem dX4_dreamSwallowing_13 : decode cX4_dreamSwallowing 13 = .ok (.if_icmp .ge 36, 3) := by decide +kernel
theorem dX4_dreamSwallowing_16 : decode cX4_dreamSwallowing 16 = .ok (.iload_n 1, 1) := by decide +kernel
theorem dX4_dreamSwallowing_17 : decode cX4_dreamSwallowing 17 = .ok (.iload_n 2, 1) := by decide +kernel
theorem dX4_dreamSwallowing_18 : decode cX4_dreamSwallowing 18 = .ok (.ishr, 1) := by decide +kernel
theorem dX4_dreamSwallowing_19 : decode cX4_dreamSwallowing 19 = .ok (.iconst 1, 1) := by decide +kernel
theorem dX4_dreamSwallowing_20 : decode cX4_dreamSwallowing 20 = .ok (.iand, 1) := by decide +kernel
theorem dX4_dreamSwallowing_21 : decode cX4_dreamSwallowing 21 = .ok (.ifCond .eq 22, 3) := by decide +kernel
theorem dX4_dreamSwallowing_24 : decode cX4_dreamSwallowing 24 = .ok (.aload_n 0, 1) := by decide +kernel
theorem dX4_dreamSwallowing_25 : decode cX4_dreamSwallowing 25 = .ok (.getfield 22, 3) := by decide +kernel
theorem dX4_dreamSwallowing_28 : decode cX4_dreamSwallowing 28 = .ok (.iload_n 2, 1) := by decide +kernel
theorem dX4_dreamSwallowing_29 : decode cX4_dreamSwallowing 29 = .ok (.invokevirtual 67, 3) := by decide +kernel
theorem dX4_dreamSwallowing_32 : decode cX4_dreamSwallowing 32 = .ok (.ifCond .eq 11, 3) := by decide +kernel
theorem dX4_dreamSwallowing_35 : decode cX4_dreamSwallowing 35 = .ok (.aload_n 0, 1) := by decide +kernel
theorem dX4_dreamSwallowing_36 : decode cX4_dreamSwallowing 36 = .ok (.getfield 22, 3) := by decide +kernel
theorem dX4_dreamSwallowing_39 : decode cX4_dreamSwallowing 39 = .ok (.iload_n 2, 1) := by decide +kernel
theorem dX4_dreamSwallowing_40 : decode cX4_dreamSwallowing 40 = .ok (.invokevirtual 71, 3) := by decide +kernel
theorem dX4_dreamSwallowing_43 : decode cX4_dreamSwallowing 43 = .ok (.iinc 2 1, 3) := by decide +kernel
theorem dX4_dreamSwallowing_46 : decode cX4_dreamSwallowing 46 = .ok (.goto (-44), 3) := by decide +kernel
theorem dX4_dreamSwallowing_49 : decode cX4_dreamSwallowing 49 = .ok (.return_, 1) := by decide +kernel
theorem dX4_lossOf_0 : decode cX4_lossOf 0 = .ok (.iconst 5, 1) := by decide +kernel
theorem dX4_lossOf_1 : decode cX4_lossOf 1 = .ok (.aload_n 0, 1) := by decide +kernel
theorem dX4_lossOf_2 : decode cX4_lossOf 2 = .ok (.getfield 22, 3) := by decide +kernel
theorem dX4_lossOf_5 : decode cX4_lossOf 5 = .ok (.getfield 48, 3) := by decide +kernel
theorem dX4_lossOf_8 : decode cX4_lossOf 8 = .ok (.iload_n 1, 1) := by decide +kernel
theorem dX4_lossOf_9 : decode cX4_lossOf 9 = .ok (.iaload, 1) := by decide +kernel
theorem dX4_lossOf_10 : decode cX4_lossOf 10 = .ok (.imul, 1) := by decide +kernel
theorem dX4_lossOf_11 : decode cX4_lossOf 11 = .ok (.aload_n 0, 1) := by decide +kernel
theorem dX4_lossOf_12 : decode cX4_lossOf 12 = .ok (.getfield 22, 3) := by decide +kernel
theorem dX4_lossOf_15 : decode cX4_lossOf 15 = .ok (.invokevirtual 94, 3) := by decide +kernel
theorem dX4_lossOf_18 : decode cX4_lossOf 18 = .ok (.aload_n 0, 1) := by decide +kernel
theorem dX4_lossOf_19 : decode cX4_lossOf 19 = .ok (.getfield 22, 3) := by decide +kernel
theorem dX4_lossOf_22 : decode cX4_lossOf 22 = .ok (.getfield 58, 3) := by decide +kernel
theorem dX4_lossOf_25 : decode cX4_lossOf 25 = .ok (.getfield 75, 3) := by decide +kernel
theorem dX4_lossOf_28 : decode cX4_lossOf 28 = .ok (.iload_n 1, 1) := by decide +kernel
theorem dX4_lossOf_29 : decode cX4_lossOf 29 = .ok (.iaload, 1) := by decide +kernel
theorem dX4_lossOf_30 : decode cX4_lossOf 30 = .ok (.iand, 1) := by decide +kernel
theorem dX4_lossOf_31 : decode cX4_lossOf 31 = .ok (.invokestatic 97, 3) := by decide +kernel
theorem dX4_lossOf_34 : decode cX4_lossOf 34 = .ok (.iadd, 1) := by decide +kernel
theorem dX4_lossOf_35 : decode cX4_lossOf 35 = .ok (.ireturn, 1) := by decide +kernel
theorem dX4_summerEnd_0 : decode cX4_summerEnd 0 = .ok (.aload_n 0, 1) := by decide +kernel
theorem dX4_summerEnd_1 : decode cX4_summerEnd 1 = .ok (.iload_n 1, 1) := by decide +kernel
theorem dX4_summerEnd_2 : decode cX4_summerEnd 2 = .ok (.putfield 102, 3) := by decide +kernel
theorem dX4_summerEnd_5 : decode cX4_summerEnd 5 = .ok (.aload_n 0, 1) := by decide +kernel
theorem dX4_summerEnd_6 : decode cX4_summerEnd 6 = .ok (.getfield 22, 3) := by decide +kernel
theorem dX4_summerEnd_9 : decode cX4_summerEnd 9 = .ok (.aload_n 0, 1) := by decide +kernel
theorem dX4_summerEnd_10 : decode cX4_summerEnd 10 = .ok (.getfield 18, 3) := by decide +kernel
theorem dX4_summerEnd_13 : decode cX4_summerEnd 13 = .ok (.invokevirtual 25, 3) := by decide +kernel
theorem dX4_summerEnd_16 : decode cX4_summerEnd 16 = .ok (.iconst 0, 1) := by decide +kernel
theorem dX4_summerEnd_17 : decode cX4_summerEnd 17 = .ok (.istore_n 3, 1) := by decide +kernel
theorem dX4_summerEnd_18 : decode cX4_summerEnd 18 = .ok (.iload_n 3, 1) := by decide +kernel
theorem dX4_summerEnd_19 : decode cX4_summerEnd 19 = .ok (.iload_n 2, 1) := by decide +kernel
theorem dX4_summerEnd_20 : decode cX4_summerEnd 20 = .ok (.if_icmp .ge 46, 3) := by decide +kernel
theorem dX4_summerEnd_23 : decode cX4_summerEnd 23 = .ok (.aload_n 0, 1) := by decide +kernel
theorem dX4_summerEnd_24 : decode cX4_summerEnd 24 = .ok (.bipush 7, 2) := by decide +kernel
theorem dX4_summerEnd_26 : decode cX4_summerEnd 26 = .ok (.invokevirtual 105, 3) := by decide +kernel
theorem dX4_summerEnd_29 : decode cX4_summerEnd 29 = .ok (.istore 4, 2) := by decide +kernel
theorem dX4_summerEnd_31 : decode cX4_summerEnd 31 = .ok (.iload 4, 2) := by decide +kernel
theorem dX4_summerEnd_33 : decode cX4_summerEnd 33 = .ok (.ifCond .ne 10, 3) := by decide +kernel
theorem dX4_summerEnd_36 : decode cX4_summerEnd 36 = .ok (.aload_n 0, 1) := by decide +kernel
theorem dX4_summerEnd_37 : decode cX4_summerEnd 37 = .ok (.invokevirtual 108, 3) := by decide +kernel
theorem dX4_summerEnd_40 : decode cX4_summerEnd 40 = .ok (.goto 13, 3) := by decide +kernel
theorem dX4_summerEnd_43 : decode cX4_summerEnd 43 = .ok (.iload 4, 2) := by decide +kernel
theorem dX4_summerEnd_45 : decode cX4_summerEnd 45 = .ok (.iconst 1, 1) := by decide +kernel
theorem dX4_summerEnd_46 : decode cX4_summerEnd 46 = .ok (.if_icmp .ne 7, 3) := by decide +kernel
theorem dX4_summerEnd_49 : decode cX4_summerEnd 49 = .ok (.aload_n 0, 1) := by decide +kernel
theorem dX4_summerEnd_50 : decode cX4_summerEnd 50 = .ok (.invokevirtual 111, 3) := by decide +kernel
theorem dX4_summerEnd_53 : decode cX4_summerEnd 53 = .ok (.aload_n 0, 1) := by decide +kernel
theorem dX4_summerEnd_54 : decode cX4_summerEnd 54 = .ok (.getfield 22, 3) := by decide +kernel
theorem dX4_summerEnd_57 : decode cX4_summerEnd 57 = .ok (.invokevirtual 31, 3) := by decide +kernel
theorem dX4_summerEnd_60 : decode cX4_summerEnd 60 = .ok (.iinc 3 1, 3) := by decide +kernel
theorem dX4_summerEnd_63 : decode cX4_summerEnd 63 = .ok (.goto (-45), 3) := by decide +kernel
theorem dX4_summerEnd_66 : decode cX4_summerEnd 66 = .ok (.aload_n 0, 1) := by decide +kernel
theorem dX4_summerEnd_67 : decode cX4_summerEnd 67 = .ok (.getfield 22, 3) := by decide +kernel
theorem dX4_summerEnd_70 : decode cX4_summerEnd 70 = .ok (.areturn, 1) := by decide +kernel
theorem dX4_drawOf_0 : decode cX4_drawOf 0 = .ok (.iload_n 1, 1) := by decide +kernel
theorem dX4_drawOf_1 : decode cX4_drawOf 1 = .ok (.ifCond .gt 5, 3) := by decide +kernel
theorem dX4_drawOf_4 : decode cX4_drawOf 4 = .ok (.iconst (-1), 1) := by decide +kernel
theorem dX4_drawOf_5 : decode cX4_drawOf 5 = .ok (.ireturn, 1) := by decide +kernel
theorem dX4_drawOf_6 : decode cX4_drawOf 6 = .ok (.aload_n 0, 1) := by decide +kernel
theorem dX4_drawOf_7 : decode cX4_drawOf 7 = .ok (.aload_n 0, 1) := by decide +kernel
theorem dX4_drawOf_8 : decode cX4_drawOf 8 = .ok (.getfield 102, 3) := by decide +kernel
theorem dX4_drawOf_11 : decode cX4_drawOf 11 = .ok (.ldc 114, 2) := by decide +kernel
theorem dX4_drawOf_13 : decode cX4_drawOf 13 = .ok (.imul, 1) := by decide +kernel
theorem dX4_drawOf_14 : decode cX4_drawOf 14 = .ok (.sipush 12345, 3) := by decide +kernel
theorem dX4_drawOf_17 : decode cX4_drawOf 17 = .ok (.iadd, 1) := by decide +kernel
theorem dX4_drawOf_18 : decode cX4_drawOf 18 = .ok (.putfield 102, 3) := by decide +kernel
theorem dX4_drawOf_21 : decode cX4_drawOf 21 = .ok (.aload_n 0, 1) := by decide +kernel
theorem dX4_drawOf_22 : decode cX4_drawOf 22 = .ok (.getfield 102, 3) := by decide +kernel
theorem dX4_drawOf_25 : decode cX4_drawOf 25 = .ok (.bipush 16, 2) := by decide +kernel
theorem dX4_drawOf_27 : decode cX4_drawOf 27 = .ok (.iushr, 1) := by decide +kernel
theorem dX4_drawOf_28 : decode cX4_drawOf 28 = .ok (.sipush 32767, 3) := by decide +kernel
theorem dX4_drawOf_31 : decode cX4_drawOf 31 = .ok (.iand, 1) := by decide +kernel
theorem dX4_drawOf_32 : decode cX4_drawOf 32 = .ok (.iload_n 1, 1) := by decide +kernel
theorem dX4_drawOf_33 : decode cX4_drawOf 33 = .ok (.irem, 1) := by decide +kernel
theorem dX4_drawOf_34 : decode cX4_drawOf 34 = .ok (.ireturn, 1) := by decide +kernel
theorem dX4_angerOne_0 : decode cX4_angerOne 0 = .ok (.aload_n 0, 1) := by decide +kernel
theorem dX4_angerOne_1 : decode cX4_angerOne 1 = .ok (.aload_n 0, 1) := by decide +kernel
theorem dX4_angerOne_2 : decode cX4_angerOne 2 = .ok (.getfield 22, 3) := by decide +kernel
theorem dX4_angerOne_5 : decode cX4_angerOne 5 = .ok (.getfield 58, 3) := by decide +kernel
theorem dX4_angerOne_8 : decode cX4_angerOne 8 = .ok (.getfield 62, 3) := by decide +kernel
theorem dX4_angerOne_11 : decode cX4_angerOne 11 = .ok (.invokevirtual 105, 3) := by decide +kernel
theorem dX4_angerOne_14 : decode cX4_angerOne 14 = .ok (.istore_n 1, 1) := by decide +kernel
theorem dX4_angerOne_15 : decode cX4_angerOne 15 = .ok (.iload_n 1, 1) := by decide +kernel
theorem dX4_angerOne_16 : decode cX4_angerOne 16 = .ok (.iconst (-1), 1) := by decide +kernel
theorem dX4_angerOne_17 : decode cX4_angerOne 17 = .ok (.if_icmp .eq 40, 3) := by decide +kernel
theorem dX4_angerOne_20 : decode cX4_angerOne 20 = .ok (.aload_n 0, 1) := by decide +kernel
theorem dX4_angerOne_21 : decode cX4_angerOne 21 = .ok (.getfield 22, 3) := by decide +kernel
theorem dX4_angerOne_24 : decode cX4_angerOne 24 = .ok (.iload_n 1, 1) := by decide +kernel
theorem dX4_angerOne_25 : decode cX4_angerOne 25 = .ok (.invokevirtual 67, 3) := by decide +kernel
theorem dX4_angerOne_28 : decode cX4_angerOne 28 = .ok (.ifCond .eq 29, 3) := by decide +kernel
theorem dX4_angerOne_31 : decode cX4_angerOne 31 = .ok (.aload_n 0, 1) := by decide +kernel
theorem dX4_angerOne_32 : decode cX4_angerOne 32 = .ok (.getfield 22, 3) := by decide +kernel
theorem dX4_angerOne_35 : decode cX4_angerOne 35 = .ok (.getfield 34, 3) := by decide +kernel
theorem dX4_angerOne_38 : decode cX4_angerOne 38 = .ok (.iload_n 1, 1) := by decide +kernel
theorem dX4_angerOne_39 : decode cX4_angerOne 39 = .ok (.bipush 99, 2) := by decide +kernel
theorem dX4_angerOne_41 : decode cX4_angerOne 41 = .ok (.aload_n 0, 1) := by decide +kernel
theorem dX4_angerOne_42 : decode cX4_angerOne 42 = .ok (.getfield 22, 3) := by decide +kernel
theorem dX4_angerOne_45 : decode cX4_angerOne 45 = .ok (.getfield 34, 3) := by decide +kernel
theorem dX4_angerOne_48 : decode cX4_angerOne 48 = .ok (.iload_n 1, 1) := by decide +kernel
theorem dX4_angerOne_49 : decode cX4_angerOne 49 = .ok (.iaload, 1) := by decide +kernel
theorem dX4_angerOne_50 : decode cX4_angerOne 50 = .ok (.bipush 20, 2) := by decide +kernel
theorem dX4_angerOne_52 : decode cX4_angerOne 52 = .ok (.iadd, 1) := by decide +kernel
theorem dX4_angerOne_53 : decode cX4_angerOne 53 = .ok (.invokestatic 115, 3) := by decide +kernel
theorem dX4_angerOne_56 : decode cX4_angerOne 56 = .ok (.iastore, 1) := by decide +kernel
theorem dX4_angerOne_57 : decode cX4_angerOne 57 = .ok (.return_, 1) := by decide +kernel
theorem dX4_laugh_0 : decode cX4_laugh 0 = .ok (.aload_n 0, 1) := by decide +kernel
theorem dX4_laugh_1 : decode cX4_laugh 1 = .ok (.aload_n 0, 1) := by decide +kernel
theorem dX4_laugh_2 : decode cX4_laugh 2 = .ok (.getfield 22, 3) := by decide +kernel
theorem dX4_laugh_5 : decode cX4_laugh 5 = .ok (.getfield 58, 3) := by decide +kernel
theorem dX4_laugh_8 : decode cX4_laugh 8 = .ok (.getfield 121, 3) := by decide +kernel
theorem dX4_laugh_11 : decode cX4_laugh 11 = .ok (.invokevirtual 105, 3) := by decide +kernel
theorem dX4_laugh_14 : decode cX4_laugh 14 = .ok (.istore_n 1, 1) := by decide +kernel
theorem dX4_laugh_15 : decode cX4_laugh 15 = .ok (.iload_n 1, 1) := by decide +kernel
theorem dX4_laugh_16 : decode cX4_laugh 16 = .ok (.iconst (-1), 1) := by decide +kernel
theorem dX4_laugh_17 : decode cX4_laugh 17 = .ok (.if_icmp .eq 11, 3) := by decide +kernel
theorem dX4_laugh_20 : decode cX4_laugh 20 = .ok (.aload_n 0, 1) := by decide +kernel
theorem dX4_laugh_21 : decode cX4_laugh 21 = .ok (.getfield 22, 3) := by decide +kernel
theorem dX4_laugh_24 : decode cX4_laugh 24 = .ok (.iload_n 1, 1) := by decide +kernel
theorem dX4_laugh_25 : decode cX4_laugh 25 = .ok (.invokevirtual 124, 3) := by decide +kernel
theorem dX4_laugh_28 : decode cX4_laugh 28 = .ok (.return_, 1) := by decide +kernel
theorem dX5_init_0 : decode cX5_init 0 = .ok (.aload_n 0, 1) := by decide +kernel
theorem dX5_init_1 : decode cX5_init 1 = .ok (.invokespecial 5, 3) := by decide +kernel
theorem dX5_init_4 : decode cX5_init 4 = .ok (.aload_n 0, 1) := by decide +kernel
theorem dX5_init_5 : decode cX5_init 5 = .ok (.sipush 1024, 3) := by decide +kernel
theorem dX5_init_8 : decode cX5_init 8 = .ok (.newarray .int, 2) := by decide +kernel
theorem dX5_init_10 : decode cX5_init 10 = .ok (.putfield 11, 3) := by decide +kernel
theorem dX5_init_13 : decode cX5_init 13 = .ok (.aload_n 0, 1) := by decide +kernel
theorem dX5_init_14 : decode cX5_init 14 = .ok (.sipush 1024, 3) := by decide +kernel
theorem dX5_init_17 : decode cX5_init 17 = .ok (.newarray .int, 2) := by decide +kernel
theorem dX5_init_19 : decode cX5_init 19 = .ok (.putfield 15, 3) := by decide +kernel
theorem dX5_init_22 : decode cX5_init 22 = .ok (.aload_n 0, 1) := by decide +kernel
theorem dX5_init_23 : decode cX5_init 23 = .ok (.iconst 5, 1) := by decide +kernel
theorem dX5_init_24 : decode cX5_init 24 = .ok (.newarray .int, 2) := by decide +kernel
theorem dX5_init_26 : decode cX5_init 26 = .ok (.putfield 18, 3) := by decide +kernel
theorem dX5_init_29 : decode cX5_init 29 = .ok (.aload_n 0, 1) := by decide +kernel
theorem dX5_init_30 : decode cX5_init 30 = .ok (.aload_n 1, 1) := by decide +kernel
theorem dX5_init_31 : decode cX5_init 31 = .ok (.putfield 21, 3) := by decide +kernel
theorem dX5_init_34 : decode cX5_init 34 = .ok (.return_, 1) := by decide +kernel
theorem dX5_mostAnger_0 : decode cX5_mostAnger 0 = .ok (.aload_n 0, 1) := by decide +kernel
theorem dX5_mostAnger_1 : decode cX5_mostAnger 1 = .ok (.getfield 21, 3) := by decide +kernel
theorem dX5_mostAnger_4 : decode cX5_mostAnger 4 = .ok (.invokevirtual 25, 3) := by decide +kernel
theorem dX5_mostAnger_7 : decode cX5_mostAnger 7 = .ok (.istore_n 1, 1) := by decide +kernel
theorem dX5_mostAnger_8 : decode cX5_mostAnger 8 = .ok (.aload_n 0, 1) := by decide +kernel
theorem dX5_mostAnger_9 : decode cX5_mostAnger 9 = .ok (.iconst 0, 1) := by decide +kernel
theorem dX5_mostAnger_10 : decode cX5_mostAnger 10 = .ok (.iload_n 1, 1) := by decide +kernel
theorem dX5_mostAnger_11 : decode cX5_mostAnger 11 = .ok (.invokevirtual 31, 3) := by decide +kernel
theorem dX5_mostAnger_14 : decode cX5_mostAnger 14 = .ok (.aload_n 0, 1) := by decide +kernel
theorem dX5_mostAnger_15 : decode cX5_mostAnger 15 = .ok (.getfield 15, 3) := by decide +kernel
theorem dX5_mostAnger_18 : decode cX5_mostAnger 18 = .ok (.iload_n 1, 1) := by decide +kernel
theorem dX5_mostAnger_19 : decode cX5_mostAnger 19 = .ok (.iaload, 1) := by decide +kernel
theorem dX5_mostAnger_20 : decode cX5_mostAnger 20 = .ok (.ireturn, 1) := by decide +kernel
theorem dX5_bestSwallower_0 : decode cX5_bestSwallower 0 = .ok (.aload_n 0, 1) := by decide +kernel
theorem dX5_bestSwallower_1 : decode cX5_bestSwallower 1 = .ok (.getfield 21, 3) := by decide +kernel
theorem dX5_bestSwallower_4 : decode cX5_bestSwallower 4 = .ok (.invokevirtual 25, 3) := by decide +kernel
theorem dX5_bestSwallower_7 : decode cX5_bestSwallower 7 = .ok (.istore_n 2, 1) := by decide +kernel
theorem dX5_bestSwallower_8 : decode cX5_bestSwallower 8 = .ok (.aload_n 0, 1) := by decide +kernel
theorem dX5_bestSwallower_9 : decode cX5_bestSwallower 9 = .ok (.iconst 0, 1) := by decide +kernel
theorem dX5_bestSwallower_10 : decode cX5_bestSwallower 10 = .ok (.iload_n 2, 1) := by decide +kernel
theorem dX5_bestSwallower_11 : decode cX5_bestSwallower 11 = .ok (.invokevirtual 31, 3) := by decide +kernel
theorem dX5_bestSwallower_14 : decode cX5_bestSwallower 14 = .ok (.aload_n 0, 1) := by decide +kernel
theorem dX5_bestSwallower_15 : decode cX5_bestSwallower 15 = .ok (.getfield 15, 3) := by decide +kernel
theorem dX5_bestSwallower_18 : decode cX5_bestSwallower 18 = .ok (.iload_n 2, 1) := by decide +kernel
theorem dX5_bestSwallower_19 : decode cX5_bestSwallower 19 = .ok (.iaload, 1) := by decide +kernel
theorem dX5_bestSwallower_20 : decode cX5_bestSwallower 20 = .ok (.istore_n 3, 1) := by decide +kernel
theorem dX5_bestSwallower_21 : decode cX5_bestSwallower 21 = .ok (.iconst 0, 1) := by decide +kernel
theorem dX5_bestSwallower_22 : decode cX5_bestSwallower 22 = .ok (.istore 4, 2) := by decide +kernel
theorem dX5_bestSwallower_24 : decode cX5_bestSwallower 24 = .ok (.iload 4, 2) := by decide +kernel
theorem dX5_bestSwallower_26 : decode cX5_bestSwallower 26 = .ok (.aload_n 0, 1) := by decide +kernel
theorem dX5_bestSwallower_27 : decode cX5_bestSwallower 27 = .ok (.getfield 21, 3) := by decide +kernel
theorem dX5_bestSwallower_30 : decode cX5_bestSwallower 30 = .ok (.getfield 35, 3) := by decide +kernel
theorem dX5_bestSwallower_33 : decode cX5_bestSwallower 33 = .ok (.getfield 39, 3) := by decide +kernel
theorem dX5_bestSwallower_36 : decode cX5_bestSwallower 36 = .ok (.if_icmp .ge 56, 3) := by decide +kernel
theorem dX5_bestSwallower_39 : decode cX5_bestSwallower 39 = .ok (.aload_n 0, 1) := by decide +kernel
theorem dX5_bestSwallower_40 : decode cX5_bestSwallower 40 = .ok (.iload 4, 2) := by decide +kernel
theorem dX5_bestSwallower_42 : decode cX5_bestSwallower 42 = .ok (.iconst 1, 1) := by decide +kernel
theorem dX5_bestSwallower_43 : decode cX5_bestSwallower 43 = .ok (.iadd, 1) := by decide +kernel
theorem dX5_bestSwallower_44 : decode cX5_bestSwallower 44 = .ok (.iload_n 2, 1) := by decide +kernel
theorem dX5_bestSwallower_45 : decode cX5_bestSwallower 45 = .ok (.invokevirtual 31, 3) := by decide +kernel
theorem dX5_bestSwallower_48 : decode cX5_bestSwallower 48 = .ok (.aload_n 0, 1) := by decide +kernel
theorem dX5_bestSwallower_49 : decode cX5_bestSwallower 49 = .ok (.iload 4, 2) := by decide +kernel
theorem dX5_bestSwallower_51 : decode cX5_bestSwallower 51 = .ok (.iload_n 2, 1) := by decide +kernel
theorem dX5_bestSwallower_52 : decode cX5_bestSwallower 52 = .ok (.iload_n 3, 1) := by decide +kernel
theorem dX5_bestSwallower_53 : decode cX5_bestSwallower 53 = .ok (.invokevirtual 45, 3) := by decide +kernel
theorem dX5_bestSwallower_56 : decode cX5_bestSwallower 56 = .ok (.istore 5, 2) := by decide +kernel
theorem dX5_bestSwallower_58 : decode cX5_bestSwallower 58 = .ok (.iload 5, 2) := by decide +kernel
theorem dX5_bestSwallower_60 : decode cX5_bestSwallower 60 = .ok (.iload_n 1, 1) := by decide +kernel
theorem dX5_bestSwallower_61 : decode cX5_bestSwallower 61 = .ok (.ishr, 1) := by decide +kernel
theorem dX5_bestSwallower_62 : decode cX5_bestSwallower 62 = .ok (.iconst 1, 1) := by decide +kernel
theorem dX5_bestSwallower_63 : decode cX5_bestSwallower 63 = .ok (.iand, 1) := by decide +kernel
theorem dX5_bestSwallower_64 : decode cX5_bestSwallower 64 = .ok (.ifCond .eq 6, 3) := by decide +kernel
theorem dX5_bestSwallower_67 : decode cX5_bestSwallower 67 = .ok (.iload 4, 2) := by decide +kernel
theorem dX5_bestSwallower_69 : decode cX5_bestSwallower 69 = .ok (.ireturn, 1) := by decide +kernel
theorem dX5_bestSwallower_70 : decode cX5_bestSwallower 70 = .ok (.iload_n 2, 1) := by decide +kernel
theorem dX5_bestSwallower_71 : decode cX5_bestSwallower 71 = .ok (.iload 5, 2) := by decide +kernel
theorem dX5_bestSwallower_73 : decode cX5_bestSwallower 73 = .ok (.iconst (-1), 1) := by decide +kernel
theorem dX5_bestSwallower_74 : decode cX5_bestSwallower 74 = .ok (.ixor, 1) := by decide +kernel
theorem dX5_bestSwallower_75 : decode cX5_bestSwallower 75 = .ok (.iand, 1) := by decide +kernel
theorem dX5_bestSwallower_76 : decode cX5_bestSwallower 76 = .ok (.istore_n 2, 1) := by decide +kernel
theorem dX5_bestSwallower_77 : decode cX5_bestSwallower 77 = .ok (.iload_n 3, 1) := by decide +kernel
theorem dX5_bestSwallower_78 : decode cX5_bestSwallower 78 = .ok (.aload_n 0, 1) := by decide +kernel
theorem dX5_bestSwallower_79 : decode cX5_bestSwallower 79 = .ok (.iload 5, 2) := by decide +kernel
theorem dX5_bestSwallower_81 : decode cX5_bestSwallower 81 = .ok (.invokevirtual 49, 3) := by decide +kernel
theorem dX5_bestSwallower_84 : decode cX5_bestSwallower 84 = .ok (.isub, 1) := by decide +kernel
theorem dX5_bestSwallower_85 : decode cX5_bestSwallower 85 = .ok (.istore_n 3, 1) := by decide +kernel
theorem dX5_bestSwallower_86 : decode cX5_bestSwallower 86 = .ok (.iinc 4 1, 3) := by decide +kernel
theorem dX5_bestSwallower_89 : decode cX5_bestSwallower 89 = .ok (.goto (-65), 3) := by decide +kernel
theorem dX5_bestSwallower_92 : decode cX5_bestSwallower 92 = .ok (.iconst (-1), 1) := by decide +kernel
theorem dX5_bestSwallower_93 : decode cX5_bestSwallower 93 = .ok (.ireturn, 1) := by decide +kernel
theorem dX5_fewestSwallowers_0 : decode cX5_fewestSwallowers 0 = .ok (.aload_n 0, 1) := by decide +kernel
theorem dX5_fewestSwallowers_1 : decode cX5_fewestSwallowers 1 = .ok (.getfield 21, 3) := by decide +kernel
theorem dX5_fewestSwallowers_4 : decode cX5_fewestSwallowers 4 = .ok (.invokevirtual 25, 3) := by decide +kernel
theorem dX5_fewestSwallowers_7 : decode cX5_fewestSwallowers 7 = .ok (.istore_n 1, 1) := by decide +kernel
theorem dX5_fewestSwallowers_8 : decode cX5_fewestSwallowers 8 = .ok (.aload_n 0, 1) := by decide +kernel
theorem dX5_fewestSwallowers_9 : decode cX5_fewestSwallowers 9 = .ok (.iload_n 1, 1) := by decide +kernel
theorem dX5_fewestSwallowers_10 : decode cX5_fewestSwallowers 10 = .ok (.invokevirtual 53, 3) := by decide +kernel
theorem dX5_fewestSwallowers_13 : decode cX5_fewestSwallowers 13 = .ok (.istore_n 2, 1) := by decide +kernel
theorem dX5_fewestSwallowers_14 : decode cX5_fewestSwallowers 14 = .ok (.aload_n 0, 1) := by decide +kernel
theorem dX5_fewestSwallowers_15 : decode cX5_fewestSwallowers 15 = .ok (.getfield 21, 3) := by decide +kernel
theorem dX5_fewestSwallowers_18 : decode cX5_fewestSwallowers 18 = .ok (.getfield 35, 3) := by decide +kernel
theorem dX5_fewestSwallowers_21 : decode cX5_fewestSwallowers 21 = .ok (.getfield 39, 3) := by decide +kernel
theorem dX5_fewestSwallowers_24 : decode cX5_fewestSwallowers 24 = .ok (.istore_n 3, 1) := by decide +kernel
theorem dX5_fewestSwallowers_25 : decode cX5_fewestSwallowers 25 = .ok (.iconst 0, 1) := by decide +kernel
theorem dX5_fewestSwallowers_26 : decode cX5_fewestSwallowers 26 = .ok (.istore 4, 2) := by decide +kernel
theorem dX5_fewestSwallowers_28 : decode cX5_fewestSwallowers 28 = .ok (.iload 4, 2) := by decide +kernel
theorem dX5_fewestSwallowers_30 : decode cX5_fewestSwallowers 30 = .ok (.iload_n 3, 1) := by decide +kernel
theorem dX5_fewestSwallowers_31 : decode cX5_fewestSwallowers 31 = .ok (.if_icmp .gt 57, 3) := by decide +kernel
theorem dX5_fewestSwallowers_34 : decode cX5_fewestSwallowers 34 = .ok (.iconst 0, 1) := by decide +kernel
theorem dX5_fewestSwallowers_35 : decode cX5_fewestSwallowers 35 = .ok (.istore 5, 2) := by decide +kernel
theorem dX5_fewestSwallowers_37 : decode cX5_fewestSwallowers 37 = .ok (.iload 5, 2) := by decide +kernel
theorem dX5_fewestSwallowers_39 : decode cX5_fewestSwallowers 39 = .ok (.iconst 1, 1) := by decide +kernel
theorem dX5_fewestSwallowers_40 : decode cX5_fewestSwallowers 40 = .ok (.iload_n 3, 1) := by decide +kernel
theorem dX5_fewestSwallowers_41 : decode cX5_fewestSwallowers 41 = .ok (.ishl, 1) := by decide +kernel
theorem dX5_fewestSwallowers_42 : decode cX5_fewestSwallowers 42 = .ok (.if_icmp .ge 40, 3) := by decide +kernel
theorem dX5_fewestSwallowers_45 : decode cX5_fewestSwallowers 45 = .ok (.iload 5, 2) := by decide +kernel
theorem dX5_fewestSwallowers_47 : decode cX5_fewestSwallowers 47 = .ok (.invokestatic 56, 3) := by decide +kernel
theorem dX5_fewestSwallowers_50 : decode cX5_fewestSwallowers 50 = .ok (.iload 4, 2) := by decide +kernel
theorem dX5_fewestSwallowers_52 : decode cX5_fewestSwallowers 52 = .ok (.if_icmp .ne 24, 3) := by decide +kernel
theorem dX5_fewestSwallowers_55 : decode cX5_fewestSwallowers 55 = .ok (.aload_n 0, 1) := by decide +kernel
theorem dX5_fewestSwallowers_56 : decode cX5_fewestSwallowers 56 = .ok (.iload 5, 2) := by decide +kernel
theorem dX5_fewestSwallowers_58 : decode cX5_fewestSwallowers 58 = .ok (.invokevirtual 61, 3) := by decide +kernel
theorem dX5_fewestSwallowers_61 : decode cX5_fewestSwallowers 61 = .ok (.iload_n 2, 1) := by decide +kernel
theorem dX5_fewestSwallowers_62 : decode cX5_fewestSwallowers 62 = .ok (.if_icmp .lt 14, 3) := by decide +kernel
theorem dX5_fewestSwallowers_65 : decode cX5_fewestSwallowers 65 = .ok (.aload_n 0, 1) := by decide +kernel
theorem dX5_fewestSwallowers_66 : decode cX5_fewestSwallowers 66 = .ok (.iload_n 1, 1) := by decide +kernel
theorem dX5_fewestSwallowers_67 : decode cX5_fewestSwallowers 67 = .ok (.invokevirtual 64, 3) := by decide +kernel
theorem dX5_fewestSwallowers_70 : decode cX5_fewestSwallowers 70 = .ok (.ifCond .eq 6, 3) := by decide +kernel
theorem dX5_fewestSwallowers_73 : decode cX5_fewestSwallowers 73 = .ok (.iload 5, 2) := by decide +kernel
theorem dX5_fewestSwallowers_75 : decode cX5_fewestSwallowers 75 = .ok (.ireturn, 1) := by decide +kernel
theorem dX5_fewestSwallowers_76 : decode cX5_fewestSwallowers 76 = .ok (.iinc 5 1, 3) := by decide +kernel
theorem dX5_fewestSwallowers_79 : decode cX5_fewestSwallowers 79 = .ok (.goto (-42), 3) := by decide +kernel
theorem dX5_fewestSwallowers_82 : decode cX5_fewestSwallowers 82 = .ok (.iinc 4 1, 3) := by decide +kernel
theorem dX5_fewestSwallowers_85 : decode cX5_fewestSwallowers 85 = .ok (.goto (-57), 3) := by decide +kernel
theorem dX5_fewestSwallowers_88 : decode cX5_fewestSwallowers 88 = .ok (.iconst (-1), 1) := by decide +kernel
theorem dX5_fewestSwallowers_89 : decode cX5_fewestSwallowers 89 = .ok (.ireturn, 1) := by decide +kernel
theorem dX5_goesInto_0 : decode cX5_goesInto 0 = .ok (.aload_n 0, 1) := by decide +kernel
theorem dX5_goesInto_1 : decode cX5_goesInto 1 = .ok (.iload_n 1, 1) := by decide +kernel
theorem dX5_goesInto_2 : decode cX5_goesInto 2 = .ok (.invokevirtual 68, 3) := by decide +kernel
theorem dX5_goesInto_5 : decode cX5_goesInto 5 = .ok (.aload_n 0, 1) := by decide +kernel
theorem dX5_goesInto_6 : decode cX5_goesInto 6 = .ok (.getfield 11, 3) := by decide +kernel
theorem dX5_goesInto_9 : decode cX5_goesInto 9 = .ok (.iload_n 1, 1) := by decide +kernel
theorem dX5_goesInto_10 : decode cX5_goesInto 10 = .ok (.iaload, 1) := by decide +kernel
theorem dX5_goesInto_11 : decode cX5_goesInto 11 = .ok (.sipush 640, 3) := by decide +kernel
theorem dX5_goesInto_14 : decode cX5_goesInto 14 = .ok (.if_icmp .ge 7, 3) := by decide +kernel
theorem dX5_goesInto_17 : decode cX5_goesInto 17 = .ok (.iconst 1, 1) := by decide +kernel
theorem dX5_goesInto_18 : decode cX5_goesInto 18 = .ok (.goto 4, 3) := by decide +kernel
theorem dX5_goesInto_21 : decode cX5_goesInto 21 = .ok (.iconst 0, 1) := by decide +kernel
theorem dX5_goesInto_22 : decode cX5_goesInto 22 = .ok (.ireturn, 1) := by decide +kernel
theorem dX5_leastSet_0 : decode cX5_leastSet 0 = .ok (.aload_n 0, 1) := by decide +kernel
theorem dX5_leastSet_1 : decode cX5_leastSet 1 = .ok (.getfield 21, 3) := by decide +kernel
theorem dX5_leastSet_4 : decode cX5_leastSet 4 = .ok (.iload_n 1, 1) := by decide +kernel
theorem dX5_leastSet_5 : decode cX5_leastSet 5 = .ok (.invokevirtual 72, 3) := by decide +kernel
theorem dX5_leastSet_8 : decode cX5_leastSet 8 = .ok (.istore 4, 2) := by decide +kernel
theorem dX5_leastSet_10 : decode cX5_leastSet 10 = .ok (.iconst 0, 1) := by decide +kernel
theorem dX5_leastSet_11 : decode cX5_leastSet 11 = .ok (.istore 5, 2) := by decide +kernel
theorem dX5_leastSet_13 : decode cX5_leastSet 13 = .ok (.iload 5, 2) := by decide +kernel
theorem dX5_leastSet_15 : decode cX5_leastSet 15 = .ok (.iload_n 2, 1) := by decide +kernel
theorem dX5_leastSet_16 : decode cX5_leastSet 16 = .ok (.if_icmp .gt 62, 3) := by decide +kernel
theorem dX5_leastSet_19 : decode cX5_leastSet 19 = .ok (.iload 5, 2) := by decide +kernel
theorem dX5_leastSet_21 : decode cX5_leastSet 21 = .ok (.sipush 1024, 3) := by decide +kernel
theorem dX5_leastSet_24 : decode cX5_leastSet 24 = .ok (.if_icmp .ge 54, 3) := by decide +kernel
theorem dX5_leastSet_27 : decode cX5_leastSet 27 = .ok (.iload 5, 2) := by decide +kernel
theorem dX5_leastSet_29 : decode cX5_leastSet 29 = .ok (.iload_n 2, 1) := by decide +kernel
theorem dX5_leastSet_30 : decode cX5_leastSet 30 = .ok (.iconst (-1), 1) := by decide +kernel
theorem dX5_leastSet_31 : decode cX5_leastSet 31 = .ok (.ixor, 1) := by decide +kernel
theorem dX5_leastSet_32 : decode cX5_leastSet 32 = .ok (.iand, 1) := by decide +kernel
theorem dX5_leastSet_33 : decode cX5_leastSet 33 = .ok (.ifCond .ne 39, 3) := by decide +kernel
theorem dX5_leastSet_36 : decode cX5_leastSet 36 = .ok (.aload_n 0, 1) := by decide +kernel
theorem dX5_leastSet_37 : decode cX5_leastSet 37 = .ok (.iload 5, 2) := by decide +kernel
theorem dX5_leastSet_39 : decode cX5_leastSet 39 = .ok (.invokevirtual 49, 3) := by decide +kernel
theorem dX5_leastSet_42 : decode cX5_leastSet 42 = .ok (.aload_n 0, 1) := by decide +kernel
theorem dX5_leastSet_43 : decode cX5_leastSet 43 = .ok (.getfield 15, 3) := by decide +kernel
theorem dX5_leastSet_46 : decode cX5_leastSet 46 = .ok (.iload_n 2, 1) := by decide +kernel
theorem dX5_leastSet_47 : decode cX5_leastSet 47 = .ok (.iload 5, 2) := by decide +kernel
theorem dX5_leastSet_49 : decode cX5_leastSet 49 = .ok (.iconst (-1), 1) := by decide +kernel
theorem dX5_leastSet_50 : decode cX5_leastSet 50 = .ok (.ixor, 1) := by decide +kernel
theorem dX5_leastSet_51 : decode cX5_leastSet 51 = .ok (.iand, 1) := by decide +kernel
theorem dX5_leastSet_52 : decode cX5_leastSet 52 = .ok (.iaload, 1) := by decide +kernel
theorem dX5_leastSet_53 : decode cX5_leastSet 53 = .ok (.iadd, 1) := by decide +kernel
theorem dX5_leastSet_54 : decode cX5_leastSet 54 = .ok (.iload_n 3, 1) := by decide +kernel
theorem dX5_leastSet_55 : decode cX5_leastSet 55 = .ok (.if_icmp .ne 17, 3) := by decide +kernel
theorem dX5_leastSet_58 : decode cX5_leastSet 58 = .ok (.aload_n 0, 1) := by decide +kernel
theorem dX5_leastSet_59 : decode cX5_leastSet 59 = .ok (.iload 5, 2) := by decide +kernel
theorem dX5_leastSet_61 : decode cX5_leastSet 61 = .ok (.invokevirtual 53, 3) := by decide +kernel
theorem dX5_leastSet_64 : decode cX5_leastSet 64 = .ok (.iload 4, 2) := by decide +kernel
theorem dX5_leastSet_66 : decode cX5_leastSet 66 = .ok (.if_icmp .gt 6, 3) := by decide +kernel
theorem dX5_leastSet_69 : decode cX5_leastSet 69 = .ok (.iload 5, 2) := by decide +kernel
theorem dX5_leastSet_71 : decode cX5_leastSet 71 = .ok (.ireturn, 1) := by decide +kernel
theorem dX5_leastSet_72 : decode cX5_leastSet 72 = .ok (.iinc 5 1, 3) := by decide +kernel
theorem dX5_leastSet_75 : decode cX5_leastSet 75 = .ok (.goto (-62), 3) := by decide +kernel
theorem dX5_leastSet_78 : decode cX5_leastSet 78 = .ok (.iconst 0, 1) := by decide +kernel
theorem dX5_leastSet_79 : decode cX5_leastSet 79 = .ok (.ireturn, 1) := by decide +kernel
theorem dX5_weighFrom_0 : decode cX5_weighFrom 0 = .ok (.aload_n 0, 1) := by decide +kernel
