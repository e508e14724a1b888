def RX0 : String := "OathPermit$Covering"
def TX0 : u_T := fun k => match k with
  | 0 => ("OathPermit$Covering", "most", "[I", true)
  | 1 => ("OathPermit$Covering", "there", "I", false)
  | 2 => ("OathPermit$Covering", "first", "I", false)
  | _ => ("OathPermit$Covering", "second", "I", false)
def tyX0 : Nat → FieldType := fun k => match k with
  | 0 => .array .int
  | 1 => .int
  | 2 => .int
  | _ => .int
theorem nmX0 : ∀ a, a < 4 → ∀ b, b < 4 → a ≠ b → (TX0 a).2.1 ≠ (TX0 b).2.1 := by decide +kernel
theorem tyX0_ok : ∀ k, k < 4 → parseFieldDescriptor (TX0 k).2.2.1 = some (tyX0 k) := by decide +kernel
abbrev cX0_init : ByteArray := prog_2_method_1_code
def yX0_init : MethodName := ⟨RX0, "<init>", "()V"⟩
abbrev cX0_reckon : ByteArray := prog_2_method_2_code
def yX0_reckon : MethodName := ⟨RX0, "reckon", "(LOathPermit$Town;II)V"⟩
abbrev cX0_best : ByteArray := prog_2_method_3_code
def yX0_best : MethodName := ⟨RX0, "best", "(III)I"⟩
abbrev cX0_byFirst : ByteArray := prog_2_method_4_code
def yX0_byFirst : MethodName := ⟨RX0, "byFirst", "(III)I"⟩
abbrev cX0_bySecond : ByteArray := prog_2_method_5_code
def yX0_bySecond : MethodName := ⟨RX0, "bySecond", "(III)I"⟩
abbrev cX0_mostFrom : ByteArray := prog_2_method_6_code
def yX0_mostFrom : MethodName := ⟨RX0, "mostFrom", "(III)I"⟩
abbrev cX0_holders : ByteArray := prog_2_method_7_code
def yX0_holders : MethodName := ⟨RX0, "holders", "(II)I"⟩
def RX1 : String := "OathPermit$Dealing"
def TX1 : u_T := fun k => match k with
  | 0 => ("OathPermit$Dealing", "alone", "[I", true)
  | 1 => ("OathPermit$Dealing", "fewest", "[I", true)
  | _ => ("OathPermit$Dealing", "there", "I", false)
def tyX1 : Nat → FieldType := fun k => match k with
  | 0 => .array .int
  | 1 => .array .int
  | _ => .int
theorem nmX1 : ∀ a, a < 3 → ∀ b, b < 3 → a ≠ b → (TX1 a).2.1 ≠ (TX1 b).2.1 := by decide +kernel
theorem tyX1_ok : ∀ k, k < 3 → parseFieldDescriptor (TX1 k).2.2.1 = some (tyX1 k) := by decide +kernel
abbrev cX1_init : ByteArray := prog_3_method_1_code
def yX1_init : MethodName := ⟨RX1, "<init>", "()V"⟩
abbrev cX1_reckon : ByteArray := prog_3_method_2_code
def yX1_reckon : MethodName := ⟨RX1, "reckon", "(LOathPermit$Town;LOathPermit$Thrift;)V"⟩
abbrev cX1_leastOver : ByteArray := prog_3_method_3_code
def yX1_leastOver : MethodName := ⟨RX1, "leastOver", "(II)I"⟩
abbrev cX1_mostFor : ByteArray := prog_3_method_4_code
def yX1_mostFor : MethodName := ⟨RX1, "mostFor", "(II)I"⟩
abbrev cX1_withPart : ByteArray := prog_3_method_5_code
def yX1_withPart : MethodName := ⟨RX1, "withPart", "(III)I"⟩
abbrev cX1_fewestFrom : ByteArray := prog_3_method_6_code
def yX1_fewestFrom : MethodName := ⟨RX1, "fewestFrom", "(II)I"⟩
abbrev cX1_partOf : ByteArray := prog_3_method_7_code
def yX1_partOf : MethodName := ⟨RX1, "partOf", "(II)I"⟩
def RX2 : String := "OathPermit$Odds"
def TX2 : u_T := fun k => match k with
  | 0 => ("OathPermit$Odds", "parts", "[J", true)
  | 1 => ("OathPermit$Odds", "next", "[J", true)
  | 2 => ("OathPermit$Odds", "limit", "I", false)
  | 3 => ("OathPermit$Odds", "whole", "J", false)
  | _ => ("OathPermit$Odds", "slips", "J", false)
def tyX2 : Nat → FieldType := fun k => match k with
  | 0 => .array .long
  | 1 => .array .long
  | 2 => .int
  | 3 => .long
  | _ => .long
theorem nmX2 : ∀ a, a < 5 → ∀ b, b < 5 → a ≠ b → (TX2 a).2.1 ≠ (TX2 b).2.1 := by decide +kernel
theorem tyX2_ok : ∀ k, k < 5 → parseFieldDescriptor (TX2 k).2.2.1 = some (tyX2 k) := by decide +kernel
abbrev cX2_init : ByteArray := prog_4_method_1_code
def yX2_init : MethodName := ⟨RX2, "<init>", "()V"⟩
abbrev cX2_begin : ByteArray := prog_4_method_2_code
def yX2_begin : MethodName := ⟨RX2, "begin", "(II)V"⟩
abbrev cX2_passHour : ByteArray := prog_4_method_3_code
def yX2_passHour : MethodName := ⟨RX2, "passHour", "(IIZ)V"⟩
abbrev cX2_calm : ByteArray := prog_4_method_4_code
def yX2_calm : MethodName := ⟨RX2, "calm", "()J"⟩
def RX3 : String := "OathPermit$Pad"
def TX3 : u_T := fun k => match k with
  | 0 => ("OathPermit$Pad", "signs", "[I", true)
  | _ => ("OathPermit$Pad", "count", "I", false)
def tyX3 : Nat → FieldType := fun k => match k with
  | 0 => .array .int
  | _ => .int
theorem nmX3 : ∀ a, a < 2 → ∀ b, b < 2 → a ≠ b → (TX3 a).2.1 ≠ (TX3 b).2.1 := by decide +kernel
theorem tyX3_ok : ∀ k, k < 2 → parseFieldDescriptor (TX3 k).2.2.1 = some (tyX3 k) := by decide +kernel
abbrev cX3_init : ByteArray := prog_5_method_1_code
def yX3_init : MethodName := ⟨RX3, "<init>", "()V"⟩
abbrev cX3_add : ByteArray := prog_5_method_2_code
def yX3_add : MethodName := ⟨RX3, "add", "(I)V"⟩
abbrev cX3_at : ByteArray := prog_5_method_3_code
def yX3_at : MethodName := ⟨RX3, "at", "(I)I"⟩
abbrev cX3_firstFault : ByteArray := prog_5_method_4_code
def yX3_firstFault : MethodName := ⟨RX3, "firstFault", "()I"⟩
abbrev cX3_lengthAt : ByteArray := prog_5_method_5_code
def yX3_lengthAt : MethodName := ⟨RX3, "lengthAt", "(I)I"⟩
abbrev cX3_canStand : ByteArray := prog_5_method_6_code
def yX3_canStand : MethodName := ⟨RX3, "canStand", "(II)Z"⟩
abbrev cX3_oneOf : ByteArray := prog_5_method_7_code
def yX3_oneOf : MethodName := ⟨RX3, "oneOf", "(I)I"⟩
abbrev cX3_causeOf : ByteArray := prog_5_method_8_code
def yX3_causeOf : MethodName := ⟨RX3, "causeOf", "(I)I"⟩
def RX4 : String := "OathPermit$Seating"
def TX4 : u_T := fun k => match k with
  | 0 => ("OathPermit$Seating", "ways", "[I", true)
  | 1 => ("OathPermit$Seating", "tempers", "[I", true)
  | 2 => ("OathPermit$Seating", "most", "I", false)
  | _ => ("OathPermit$Seating", "everybody", "I", false)
def tyX4 : Nat → FieldType := fun k => match k with
  | 0 => .array .int
  | 1 => .array .int
  | 2 => .int
  | _ => .int
theorem nmX4 : ∀ a, a < 4 → ∀ b, b < 4 → a ≠ b → (TX4 a).2.1 ≠ (TX4 b).2.1 := by decide +kernel
theorem tyX4_ok : ∀ k, k < 4 → parseFieldDescriptor (TX4 k).2.2.1 = some (tyX4 k) := by decide +kernel
abbrev cX4_init : ByteArray := prog_6_method_1_code
def yX4_init : MethodName := ⟨RX4, "<init>", "()V"⟩
abbrev cX4_reckon : ByteArray := prog_6_method_2_code
def yX4_reckon : MethodName := ⟨RX4, "reckon", "(LOathPermit$Town;I)V"⟩
abbrev cX4_waysOn : ByteArray := prog_6_method_3_code
def yX4_waysOn : MethodName := ⟨RX4, "waysOn", "(II)I"⟩
abbrev cX4_waysBy : ByteArray := prog_6_method_4_code
def yX4_waysBy : MethodName := ⟨RX4, "waysBy", "(III)I"⟩
abbrev cX4_ways : ByteArray := prog_6_method_5_code
def yX4_ways : MethodName := ⟨RX4, "ways", "(II)I"⟩
abbrev cX4_canFollow : ByteArray := prog_6_method_6_code
def yX4_canFollow : MethodName := ⟨RX4, "canFollow", "(II)Z"⟩
abbrev cX4_rows : ByteArray := prog_6_method_7_code
def yX4_rows : MethodName := ⟨RX4, "rows", "()I"⟩
abbrev cX4_firstRow : ByteArray := prog_6_method_8_code
def yX4_firstRow : MethodName := ⟨RX4, "firstRow", "()I"⟩
def RX5 : String := "OathPermit$Thrift"
def TX5 : u_T := fun k => match k with
  | 0 => ("OathPermit$Thrift", "table", "[I", true)
  | 1 => ("OathPermit$Thrift", "mishaps", "[I", true)
  | _ => ("OathPermit$Thrift", "limit", "I", false)
def tyX5 : Nat → FieldType := fun k => match k with
  | 0 => .array .int
  | 1 => .array .int
  | _ => .int
theorem nmX5 : ∀ a, a < 3 → ∀ b, b < 3 → a ≠ b → (TX5 a).2.1 ≠ (TX5 b).2.1 := by decide +kernel
theorem tyX5_ok : ∀ k, k < 3 → parseFieldDescriptor (TX5 k).2.2.1 = some (tyX5 k) := by decide +kernel
abbrev cX5_init : ByteArray := prog_7_method_1_code
def yX5_init : MethodName := ⟨RX5, "<init>", "()V"⟩
abbrev cX5_reckon : ByteArray := prog_7_method_2_code
def yX5_reckon : MethodName := ⟨RX5, "reckon", "(II)V"⟩
abbrev cX5_reckonFrom : ByteArray := prog_7_method_3_code
def yX5_reckonFrom : MethodName := ⟨RX5, "reckonFrom", "(II)V"⟩
abbrev cX5_cheapest : ByteArray := prog_7_method_4_code
def yX5_cheapest : MethodName := ⟨RX5, "cheapest", "(III)I"⟩
abbrev cX5_afterMishap : ByteArray := prog_7_method_5_code
def yX5_afterMishap : MethodName := ⟨RX5, "afterMishap", "(II)I"⟩
abbrev cX5_slipsLeft : ByteArray := prog_7_method_6_code
def yX5_slipsLeft : MethodName := ⟨RX5, "slipsLeft", "(III)I"⟩
abbrev cX5_slips : ByteArray := prog_7_method_7_code
def yX5_slips : MethodName := ⟨RX5, "slips", "(II)Z"⟩
abbrev cX5_afterHour : ByteArray := prog_7_method_8_code
def yX5_afterHour : MethodName := ⟨RX5, "afterHour", "(II)I"⟩
abbrev cX5_fewestStamps : ByteArray := prog_7_method_9_code
def yX5_fewestStamps : MethodName := ⟨RX5, "fewestStamps", "(III)I"⟩
abbrev cX5_fewestSlips : ByteArray := prog_7_method_10_code
def yX5_fewestSlips : MethodName := ⟨RX5, "fewestSlips", "(II)I"⟩
abbrev cX5_strengths : ByteArray := prog_7_method_11_code
def yX5_strengths : MethodName := ⟨RX5, "strengths", "(II)I"⟩
def RX6 : String := "OathPermit$Town"
def TX6 : u_T := fun k => match k with
  | 0 => ("OathPermit$Town", "facts", "[I", true)
  | 1 => ("OathPermit$Town", "asked", "[I", true)
  | 2 => ("OathPermit$Town", "there", "I", false)
  | 3 => ("OathPermit$Town", "limit", "I", false)
  | 4 => ("OathPermit$Town", "ears", "I", false)
  | 5 => ("OathPermit$Town", "sights", "I", false)
  | _ => ("OathPermit$Town", "heardBits", "I", false)
def tyX6 : Nat → FieldType := fun k => match k with
  | 0 => .array .int
  | 1 => .array .int
  | 2 => .int
  | 3 => .int
  | 4 => .int
  | 5 => .int
  | _ => .int
theorem nmX6 : ∀ a, a < 7 → ∀ b, b < 7 → a ≠ b → (TX6 a).2.1 ≠ (TX6 b).2.1 := by decide +kernel
theorem tyX6_ok : ∀ k, k < 7 → parseFieldDescriptor (TX6 k).2.2.1 = some (tyX6 k) := by decide +kernel
abbrev cX6_init : ByteArray := prog_8_method_1_code
def yX6_init : MethodName := ⟨RX6, "<init>", "()V"⟩
abbrev cX6_takeFrom : ByteArray := prog_8_method_2_code
def yX6_takeFrom : MethodName := ⟨RX6, "takeFrom", "(LOathPermit$Town;)V"⟩
abbrev cX6_has : ByteArray := prog_8_method_3_code
def yX6_has : MethodName := ⟨RX6, "has", "(I)Z"⟩
abbrev cX6_count : ByteArray := prog_8_method_4_code
def yX6_count : MethodName := ⟨RX6, "count", "()I"⟩
abbrev cX6_get : ByteArray := prog_8_method_5_code
def yX6_get : MethodName := ⟨RX6, "get", "(II)I"⟩
abbrev cX6_put : ByteArray := prog_8_method_6_code
def yX6_put : MethodName := ⟨RX6, "put", "(III)V"⟩
abbrev cX6_settle : ByteArray := prog_8_method_7_code
def yX6_settle : MethodName := ⟨RX6, "settle", "(IIIII)V"⟩
abbrev cX6_remove : ByteArray := prog_8_method_8_code
def yX6_remove : MethodName := ⟨RX6, "remove", "(I)V"⟩
abbrev cX6_highestTemper : ByteArray := prog_8_method_9_code
def yX6_highestTemper : MethodName := ⟨RX6, "highestTemper", "()I"⟩
abbrev cX6_allTempers : ByteArray := prog_8_method_10_code
def yX6_allTempers : MethodName := ⟨RX6, "allTempers", "()I"⟩
abbrev cX6_hearers : ByteArray := prog_8_method_11_code
def yX6_hearers : MethodName := ⟨RX6, "hearers", "(I)I"⟩
abbrev cX6_saysHeard : ByteArray := prog_8_method_12_code
def yX6_saysHeard : MethodName := ⟨RX6, "saysHeard", "(II)Z"⟩
abbrev cX6_addSight : ByteArray := prog_8_method_13_code
def yX6_addSight : MethodName := ⟨RX6, "addSight", "(IZ)V"⟩
abbrev cX6_suspects : ByteArray := prog_8_method_14_code
def yX6_suspects : MethodName := ⟨RX6, "suspects", "()I"⟩
abbrev cX6_allSightsFit : ByteArray := prog_8_method_15_code
def yX6_allSightsFit : MethodName := ⟨RX6, "allSightsFit", "(I)Z"⟩
abbrev cX6_mostLeft : ByteArray := prog_8_method_16_code
def yX6_mostLeft : MethodName := ⟨RX6, "mostLeft", "(II)I"⟩
def RX7 : String := "OathPermit$Trial"
def TX7 : u_T := fun k => match k with
  | 0 => ("OathPermit$Trial", "town", "LOathPermit$Town;", true)
  | 1 => ("OathPermit$Trial", "acts", "I", false)
  | 2 => ("OathPermit$Trial", "reason", "I", false)
  | 3 => ("OathPermit$Trial", "slips", "I", false)
  | 4 => ("OathPermit$Trial", "paid", "I", false)
  | 5 => ("OathPermit$Trial", "firstSlip", "I", false)
  | 6 => ("OathPermit$Trial", "firstWho", "I", false)
  | _ => ("OathPermit$Trial", "firstHeard", "I", false)
def tyX7 : Nat → FieldType := fun k => match k with
  | 0 => .object "OathPermit$Town"
  | 1 => .int
  | 2 => .int
  | 3 => .int
  | 4 => .int
  | 5 => .int
  | 6 => .int
  | _ => .int
theorem nmX7 : ∀ a, a < 8 → ∀ b, b < 8 → a ≠ b → (TX7 a).2.1 ≠ (TX7 b).2.1 := by decide +kernel
theorem tyX7_ok : ∀ k, k < 8 → parseFieldDescriptor (TX7 k).2.2.1 = some (tyX7 k) := by decide +kernel
abbrev cX7_init : ByteArray := prog_9_method_1_code
def yX7_init : MethodName := ⟨RX7, "<init>", "()V"⟩
abbrev cX7_begin : ByteArray := prog_9_method_2_code
def yX7_begin : MethodName := ⟨RX7, "begin", "(LOathPermit$Town;)V"⟩
abbrev cX7_attempt : ByteArray := prog_9_method_3_code
def yX7_attempt : MethodName := ⟨RX7, "attempt", "(LOathPermit$Pad;I)V"⟩
abbrev cX7_draw : ByteArray := prog_9_method_4_code
def yX7_draw : MethodName := ⟨RX7, "draw", "(I)V"⟩
abbrev cX7_suffer : ByteArray := prog_9_method_5_code
def yX7_suffer : MethodName := ⟨RX7, "suffer", "(III)I"⟩
abbrev cX7_slip : ByteArray := prog_9_method_6_code
def yX7_slip : MethodName := ⟨RX7, "slip", "(I)V"⟩
abbrev cX7_swear : ByteArray := prog_9_method_7_code
def yX7_swear : MethodName := ⟨RX7, "swear", "(II)I"⟩
abbrev cX7_sell : ByteArray := prog_9_method_8_code
def yX7_sell : MethodName := ⟨RX7, "sell", "(III)I"⟩
abbrev cX7_walk : ByteArray := prog_9_method_9_code
def yX7_walk : MethodName := ⟨RX7, "walk", "(II)I"⟩
abbrev cX7_endHour : ByteArray := prog_9_method_10_code
def yX7_endHour : MethodName := ⟨RX7, "endHour", "()I"⟩
def RX8 : String := "OathPermit"
def TX8 : u_T := fun k => match k with
  | 0 => ("OathPermit", "town", "LOathPermit$Town;", true)
  | 1 => ("OathPermit", "pad", "LOathPermit$Pad;", true)
  | 2 => ("OathPermit", "trial", "LOathPermit$Trial;", true)
  | 3 => ("OathPermit", "images", "[LOathPermit$Town;", true)
  | 4 => ("OathPermit", "thrift", "LOathPermit$Thrift;", true)
  | 5 => ("OathPermit", "dealing", "LOathPermit$Dealing;", true)
  | 6 => ("OathPermit", "seating", "LOathPermit$Seating;", true)
  | 7 => ("OathPermit", "covering", "LOathPermit$Covering;", true)
  | _ => ("OathPermit", "odds", "LOathPermit$Odds;", true)
def tyX8 : Nat → FieldType := fun k => match k with
  | 0 => .object "OathPermit$Town"
  | 1 => .object "OathPermit$Pad"
  | 2 => .object "OathPermit$Trial"
  | 3 => .array (.object "OathPermit$Town")
  | 4 => .object "OathPermit$Thrift"
  | 5 => .object "OathPermit$Dealing"
  | 6 => .object "OathPermit$Seating"
  | 7 => .object "OathPermit$Covering"
  | _ => .object "OathPermit$Odds"
theorem nmX8 : ∀ a, a < 9 → ∀ b, b < 9 → a ≠ b → (TX8 a).2.1 ≠ (TX8 b).2.1 := by decide +kernel
theorem tyX8_ok : ∀ k, k < 9 → parseFieldDescriptor (TX8 k).2.2.1 = some (tyX8 k) := by decide +kernel
abbrev cX8_init : ByteArray := prog_1_method_1_code
def yX8_init : MethodName := ⟨RX8, "<init>", "()V"⟩
abbrev cX8_one : ByteArray := prog_1_method_2_code
def yX8_one : MethodName := ⟨RX8, "one", "(IIIII)I"⟩
abbrev cX8_leave : ByteArray := prog_1_method_3_code
def yX8_leave : MethodName := ⟨RX8, "leave", "(I)I"⟩
abbrev cX8_permit : ByteArray := prog_1_method_4_code
def yX8_permit : MethodName := ⟨RX8, "permit", "(II)I"⟩
abbrev cX8_set : ByteArray := prog_1_method_5_code
def yX8_set : MethodName := ⟨RX8, "set", "(II)I"⟩
abbrev cX8_setLimit : ByteArray := prog_1_method_6_code
def yX8_setLimit : MethodName := ⟨RX8, "setLimit", "(I)I"⟩
abbrev cX8_setEars : ByteArray := prog_1_method_7_code
def yX8_setEars : MethodName := ⟨RX8, "setEars", "(I)I"⟩
abbrev cX8_say : ByteArray := prog_1_method_8_code
def yX8_say : MethodName := ⟨RX8, "say", "(I)I"⟩
abbrev cX8_wipe : ByteArray := prog_1_method_9_code
def yX8_wipe : MethodName := ⟨RX8, "wipe", "()I"⟩
abbrev cX8_fault : ByteArray := prog_1_method_10_code
def yX8_fault : MethodName := ⟨RX8, "fault", "()I"⟩
abbrev cX8_judge : ByteArray := prog_1_method_11_code
def yX8_judge : MethodName := ⟨RX8, "judge", "(I)I"⟩
abbrev cX8_behind : ByteArray := prog_1_method_12_code
def yX8_behind : MethodName := ⟨RX8, "behind", "(II)I"⟩
abbrev cX8_slipped : ByteArray := prog_1_method_13_code
def yX8_slipped : MethodName := ⟨RX8, "slipped", "(I)I"⟩
abbrev cX8_done : ByteArray := prog_1_method_14_code
def yX8_done : MethodName := ⟨RX8, "done", "()I"⟩
abbrev cX8_hears : ByteArray := prog_1_method_15_code
def yX8_hears : MethodName := ⟨RX8, "hears", "(I)I"⟩
abbrev cX8_playPad : ByteArray := prog_1_method_16_code
def yX8_playPad : MethodName := ⟨RX8, "playPad", "()I"⟩
abbrev cX8_spend : ByteArray := prog_1_method_17_code
def yX8_spend : MethodName := ⟨RX8, "spend", "(IIII)I"⟩
abbrev cX8_deal : ByteArray := prog_1_method_18_code
def yX8_deal : MethodName := ⟨RX8, "deal", "(III)I"⟩
abbrev cX8_seats : ByteArray := prog_1_method_19_code
def yX8_seats : MethodName := ⟨RX8, "seats", "(II)I"⟩
abbrev cX8_cover : ByteArray := prog_1_method_20_code
def yX8_cover : MethodName := ⟨RX8, "cover", "(IIIII)I"⟩
abbrev cX8_risk : ByteArray := prog_1_method_21_code
def yX8_risk : MethodName := ⟨RX8, "risk", "(IIIIII)J"⟩
abbrev cX8_commonDivisor : ByteArray := prog_1_method_22_code
def yX8_commonDivisor : MethodName := ⟨RX8, "commonDivisor", "(JJ)J"⟩
abbrev cX8_seen : ByteArray := prog_1_method_23_code
def yX8_seen : MethodName := ⟨RX8, "seen", "(IZ)I"⟩
abbrev cX8_forget : ByteArray := prog_1_method_24_code
def yX8_forget : MethodName := ⟨RX8, "forget", "()I"⟩
abbrev cX8_who : ByteArray := prog_1_method_25_code
def yX8_who : MethodName := ⟨RX8, "who", "()I"⟩
abbrev cX8_ask : ByteArray := prog_1_method_26_code
def yX8_ask : MethodName := ⟨RX8, "ask", "(I)I"⟩
abbrev cX8_quarrel : ByteArray := prog_1_method_27_code
def yX8_quarrel : MethodName := ⟨RX8, "quarrel", "(III)I"⟩
abbrev cX8_year : ByteArray := prog_1_method_28_code
def yX8_year : MethodName := ⟨RX8, "year", "(III)I"⟩
abbrev cX8_image : ByteArray := prog_1_method_29_code
def yX8_image : MethodName := ⟨RX8, "image", "(I)I"⟩
abbrev cX8_restore : ByteArray := prog_1_method_30_code
def yX8_restore : MethodName := ⟨RX8, "restore", "(I)I"⟩
abbrev cX8_told : ByteArray := prog_1_method_31_code
def yX8_told : MethodName := ⟨RX8, "told", "(I)I"⟩
abbrev cX8_toldOfOne : ByteArray := prog_1_method_32_code
def yX8_toldOfOne : MethodName := ⟨RX8, "toldOfOne", "(I)I"⟩
abbrev cX8_within : ByteArray := prog_1_method_33_code
def yX8_within : MethodName := ⟨RX8, "within", "(III)Z"⟩
abbrev cX8_digitOf : ByteArray := prog_1_method_34_code
def yX8_digitOf : MethodName := ⟨RX8, "digitOf", "(II)I"⟩
def RX9 : String := "OathPermitModel"
def TX9 : u_T := fun k => match k with
  | 0 => ("OathPermitModel", "there", "I", false)
  | 1 => ("OathPermitModel", "limit", "I", false)
  | 2 => ("OathPermitModel", "ears", "I", false)
  | 3 => ("OathPermitModel", "temper", "[I", true)
  | 4 => ("OathPermitModel", "permits", "[I", true)
  | 5 => ("OathPermitModel", "stamps", "[I", true)
  | 6 => ("OathPermitModel", "purse", "[I", true)
  | 7 => ("OathPermitModel", "yard", "[I", true)
  | 8 => ("OathPermitModel", "cause", "[I", true)
  | 9 => ("OathPermitModel", "sightOne", "[I", true)
  | 10 => ("OathPermitModel", "sightHeard", "[I", true)
  | 11 => ("OathPermitModel", "sights", "I", false)
  | 12 => ("OathPermitModel", "pad", "[I", true)
  | 13 => ("OathPermitModel", "padMany", "I", false)
  | 14 => ("OathPermitModel", "act", "[I", true)
  | 15 => ("OathPermitModel", "who", "[I", true)
  | 16 => ("OathPermitModel", "other", "[I", true)
  | 17 => ("OathPermitModel", "much", "[I", true)
  | 18 => ("OathPermitModel", "acts", "I", false)
  | 19 => ("OathPermitModel", "slipMany", "I", false)
  | 20 => ("OathPermitModel", "firstSlip", "I", false)
  | 21 => ("OathPermitModel", "firstWho", "I", false)
  | 22 => ("OathPermitModel", "firstHeard", "I", false)
  | 23 => ("OathPermitModel", "paid", "I", false)
  | 24 => ("OathPermitModel", "actNow", "I", false)
  | 25 => ("OathPermitModel", "had", "[I", true)
  | 26 => ("OathPermitModel", "leaves", "[I", true)
  | 27 => ("OathPermitModel", "badAct", "I", false)
  | 28 => ("OathPermitModel", "badWhy", "I", false)
  | 29 => ("OathPermitModel", "weight", "[I", true)
  | 30 => ("OathPermitModel", "costs", "[I", true)
  | 31 => ("OathPermitModel", "slipsFrom", "[I", true)
  | 32 => ("OathPermitModel", "waysOn", "[I", true)
  | 33 => ("OathPermitModel", "coverDigits", "I", false)
  | 34 => ("OathPermitModel", "parts", "[J", true)
  | 35 => ("OathPermitModel", "partsThen", "[J", true)
  | 36 => ("OathPermitModel", "meanParts", "J", false)
  | 37 => ("OathPermitModel", "kept", "[I", true)
  | 38 => ("OathPermitModel", "isKept", "[Z", true)
  | 39 => ("OathPermitModel", "keptAt", "I", false)
  | _ => ("OathPermitModel", "isWriting", "Z", false)
def tyX9 : Nat → FieldType := fun k => match k with
  | 0 => .int
  | 1 => .int
  | 2 => .int
  | 3 => .array .int
  | 4 => .array .int
  | 5 => .array .int
  | 6 => .array .int
  | 7 => .array .int
  | 8 => .array .int
  | 9 => .array .int
  | 10 => .array .int
  | 11 => .int
  | 12 => .array .int
  | 13 => .int
  | 14 => .array .int
  | 15 => .array .int
  | 16 => .array .int
  | 17 => .array .int
  | 18 => .int
  | 19 => .int
  | 20 => .int
  | 21 => .int
  | 22 => .int
  | 23 => .int
  | 24 => .int
  | 25 => .array .int
  | 26 => .array .int
  | 27 => .int
  | 28 => .int
  | 29 => .array .int
  | 30 => .array .int
  | 31 => .array .int
  | 32 => .array .int
  | 33 => .int
  | 34 => .array .long
  | 35 => .array .long
  | 36 => .long
  | 37 => .array .int
  | 38 => .array .boolean
  | 39 => .int
  | _ => .boolean
theorem nmX9 : ∀ a, a < 41 → ∀ b, b < 41 → a ≠ b → (TX9 a).2.1 ≠ (TX9 b).2.1 := by decide +kernel
theorem tyX9_ok : ∀ k, k < 41 → parseFieldDescriptor (TX9 k).2.2.1 = some (tyX9 k) := by decide +kernel
abbrev cX9_init : ByteArray := prog_11_method_1_code
def yX9_init : MethodName := ⟨RX9, "<init>", "()V"⟩
abbrev cX9_in : ByteArray := prog_11_method_3_code
def yX9_in : MethodName := ⟨RX9, "in", "(JJJ)Z"⟩
abbrev cX9_ones : ByteArray := prog_11_method_4_code
def yX9_ones : MethodName := ⟨RX9, "ones", "(I)I"⟩
abbrev cX9_isOne : ByteArray := prog_11_method_5_code
def yX9_isOne : MethodName := ⟨RX9, "isOne", "(I)Z"⟩
abbrev cX9_one : ByteArray := prog_11_method_6_code
def yX9_one : MethodName := ⟨RX9, "one", "(IIIII)I"⟩
abbrev cX9_leave : ByteArray := prog_11_method_7_code
def yX9_leave : MethodName := ⟨RX9, "leave", "(I)I"⟩
abbrev cX9_permit : ByteArray := prog_11_method_8_code
def yX9_permit : MethodName := ⟨RX9, "permit", "(II)I"⟩
abbrev cX9_highest : ByteArray := prog_11_method_9_code
def yX9_highest : MethodName := ⟨RX9, "highest", "()I"⟩
abbrev cX9_set : ByteArray := prog_11_method_10_code
def yX9_set : MethodName := ⟨RX9, "set", "(II)I"⟩
abbrev cX9_say : ByteArray := prog_11_method_11_code
def yX9_say : MethodName := ⟨RX9, "say", "(I)I"⟩
abbrev cX9_wipe : ByteArray := prog_11_method_12_code
def yX9_wipe : MethodName := ⟨RX9, "wipe", "()I"⟩
abbrev cX9_isLetter : ByteArray := prog_11_method_13_code
def yX9_isLetter : MethodName := ⟨RX9, "isLetter", "(I)Z"⟩
abbrev cX9_close : ByteArray := prog_11_method_14_code
def yX9_close : MethodName := ⟨RX9, "close", "()I"⟩
abbrev cX9_begin : ByteArray := prog_11_method_15_code
def yX9_begin : MethodName := ⟨RX9, "begin", "(I)I"⟩
abbrev cX9_deed : ByteArray := prog_11_method_16_code
def yX9_deed : MethodName := ⟨RX9, "deed", "(I)I"⟩
abbrev cX9_readOn : ByteArray := prog_11_method_17_code
def yX9_readOn : MethodName := ⟨RX9, "readOn", "(II)I"⟩
abbrev cX9_fault : ByteArray := prog_11_method_18_code
def yX9_fault : MethodName := ⟨RX9, "fault", "()I"⟩
abbrev cX9_whyNotSell : ByteArray := prog_11_method_19_code
def yX9_whyNotSell : MethodName := ⟨RX9, "whyNotSell", "(III)I"⟩
abbrev cX9_whyNotSwear : ByteArray := prog_11_method_20_code
def yX9_whyNotSwear : MethodName := ⟨RX9, "whyNotSwear", "(II)I"⟩
abbrev cX9_whyNot : ByteArray := prog_11_method_21_code
def yX9_whyNot : MethodName := ⟨RX9, "whyNot", "(IIII)I"⟩
abbrev cX9_isNear : ByteArray := prog_11_method_22_code
def yX9_isNear : MethodName := ⟨RX9, "isNear", "(II)Z"⟩
abbrev cX9_heardBy : ByteArray := prog_11_method_23_code
def yX9_heardBy : MethodName := ⟨RX9, "heardBy", "(I)I"⟩
abbrev cX9_slip : ByteArray := prog_11_method_24_code
def yX9_slip : MethodName := ⟨RX9, "slip", "(I)V"⟩
abbrev cX9_befall : ByteArray := prog_11_method_25_code
def yX9_befall : MethodName := ⟨RX9, "befall", "(III)V"⟩
abbrev cX9_endHour : ByteArray := prog_11_method_26_code
def yX9_endHour : MethodName := ⟨RX9, "endHour", "()V"⟩
abbrev cX9_happen : ByteArray := prog_11_method_27_code
def yX9_happen : MethodName := ⟨RX9, "happen", "(IIII)V"⟩
abbrev cX9_store : ByteArray := prog_11_method_28_code
def yX9_store : MethodName := ⟨RX9, "store", "([I)V"⟩
abbrev cX9_lay : ByteArray := prog_11_method_29_code
def yX9_lay : MethodName := ⟨RX9, "lay", "([I)V"⟩
abbrev cX9_beginCount : ByteArray := prog_11_method_30_code
def yX9_beginCount : MethodName := ⟨RX9, "beginCount", "()V"⟩
abbrev cX9_goHours : ByteArray := prog_11_method_31_code
def yX9_goHours : MethodName := ⟨RX9, "goHours", "()V"⟩
abbrev cX9_refusal : ByteArray := prog_11_method_32_code
def yX9_refusal : MethodName := ⟨RX9, "refusal", "()I"⟩
abbrev cX9_judge : ByteArray := prog_11_method_33_code
def yX9_judge : MethodName := ⟨RX9, "judge", "(I)I"⟩
abbrev cX9_behind : ByteArray := prog_11_method_34_code
def yX9_behind : MethodName := ⟨RX9, "behind", "(II)I"⟩
abbrev cX9_slipped : ByteArray := prog_11_method_35_code
def yX9_slipped : MethodName := ⟨RX9, "slipped", "(I)I"⟩
abbrev cX9_done : ByteArray := prog_11_method_36_code
def yX9_done : MethodName := ⟨RX9, "done", "()I"⟩
abbrev cX9_hears : ByteArray := prog_11_method_37_code
def yX9_hears : MethodName := ⟨RX9, "hears", "(I)I"⟩
abbrev cX9_at : ByteArray := prog_11_method_38_code
def yX9_at : MethodName := ⟨RX9, "at", "(III)I"⟩
abbrev cX9_layWeights : ByteArray := prog_11_method_39_code
def yX9_layWeights : MethodName := ⟨RX9, "layWeights", "(I)V"⟩
abbrev cX9_slipsIn : ByteArray := prog_11_method_40_code
def yX9_slipsIn : MethodName := ⟨RX9, "slipsIn", "(II)Z"⟩
abbrev cX9_costBy : ByteArray := prog_11_method_41_code
def yX9_costBy : MethodName := ⟨RX9, "costBy", "(IIII)I"⟩
abbrev cX9_leastCost : ByteArray := prog_11_method_42_code
def yX9_leastCost : MethodName := ⟨RX9, "leastCost", "(III)I"⟩
abbrev cX9_findCosts : ByteArray := prog_11_method_43_code
def yX9_findCosts : MethodName := ⟨RX9, "findCosts", "(I)V"⟩
abbrev cX9_strengths : ByteArray := prog_11_method_44_code
def yX9_strengths : MethodName := ⟨RX9, "strengths", "(II)I"⟩
abbrev cX9_spend : ByteArray := prog_11_method_45_code
def yX9_spend : MethodName := ⟨RX9, "spend", "(IIII)I"⟩
abbrev cX9_slipsBy : ByteArray := prog_11_method_46_code
def yX9_slipsBy : MethodName := ⟨RX9, "slipsBy", "(III)I"⟩
abbrev cX9_fewestSlips : ByteArray := prog_11_method_47_code
def yX9_fewestSlips : MethodName := ⟨RX9, "fewestSlips", "(II)I"⟩
abbrev cX9_findDeals : ByteArray := prog_11_method_48_code
def yX9_findDeals : MethodName := ⟨RX9, "findDeals", "(I)V"⟩
abbrev cX9_deal : ByteArray := prog_11_method_49_code
def yX9_deal : MethodName := ⟨RX9, "deal", "(III)I"⟩
abbrev cX9_maySit : ByteArray := prog_11_method_50_code
def yX9_maySit : MethodName := ⟨RX9, "maySit", "(III)Z"⟩
abbrev cX9_waysFrom : ByteArray := prog_11_method_51_code
def yX9_waysFrom : MethodName := ⟨RX9, "waysFrom", "(III)I"⟩
abbrev cX9_firstSeats : ByteArray := prog_11_method_52_code
def yX9_firstSeats : MethodName := ⟨RX9, "firstSeats", "(I)I"⟩
abbrev cX9_seats : ByteArray := prog_11_method_53_code
def yX9_seats : MethodName := ⟨RX9, "seats", "(II)I"⟩
abbrev cX9_covered : ByteArray := prog_11_method_54_code
def yX9_covered : MethodName := ⟨RX9, "covered", "(IIIII)I"⟩
abbrev cX9_cover : ByteArray := prog_11_method_55_code
def yX9_cover : MethodName := ⟨RX9, "cover", "(IIIII)I"⟩
abbrev cX9_lowest : ByteArray := prog_11_method_56_code
def yX9_lowest : MethodName := ⟨RX9, "lowest", "(JJI)J"⟩
abbrev cX9_behindHour : ByteArray := prog_11_method_57_code
def yX9_behindHour : MethodName := ⟨RX9, "behindHour", "(I)I"⟩
abbrev cX9_riskHour : ByteArray := prog_11_method_58_code
def yX9_riskHour : MethodName := ⟨RX9, "riskHour", "(IIZ)V"⟩
abbrev cX9_risk : ByteArray := prog_11_method_59_code
def yX9_risk : MethodName := ⟨RX9, "risk", "(IIIIII)J"⟩
abbrev cX9_seen : ByteArray := prog_11_method_60_code
def yX9_seen : MethodName := ⟨RX9, "seen", "(IZ)I"⟩
abbrev cX9_forget : ByteArray := prog_11_method_61_code
def yX9_forget : MethodName := ⟨RX9, "forget", "()I"⟩
abbrev cX9_wouldHear : ByteArray := prog_11_method_62_code
def yX9_wouldHear : MethodName := ⟨RX9, "wouldHear", "(II)Z"⟩
abbrev cX9_fits : ByteArray := prog_11_method_63_code
def yX9_fits : MethodName := ⟨RX9, "fits", "(I)Z"⟩
abbrev cX9_who : ByteArray := prog_11_method_64_code
def yX9_who : MethodName := ⟨RX9, "who", "()I"⟩
abbrev cX9_mostLeft : ByteArray := prog_11_method_65_code
def yX9_mostLeft : MethodName := ⟨RX9, "mostLeft", "(II)I"⟩
abbrev cX9_ask : ByteArray := prog_11_method_66_code
def yX9_ask : MethodName := ⟨RX9, "ask", "(I)I"⟩
abbrev cX9_quarrel : ByteArray := prog_11_method_67_code
def yX9_quarrel : MethodName := ⟨RX9, "quarrel", "(III)I"⟩
abbrev cX9_actBy : ByteArray := prog_11_method_68_code
def yX9_actBy : MethodName := ⟨RX9, "actBy", "(I)I"⟩
abbrev cX9_year : ByteArray := prog_11_method_69_code
def yX9_year : MethodName := ⟨RX9, "year", "(III)I"⟩
abbrev cX9_pass : ByteArray := prog_11_method_70_code
def yX9_pass : MethodName := ⟨RX9, "pass", "(I)I"⟩
abbrev cX9_passAll : ByteArray := prog_11_method_71_code
def yX9_passAll : MethodName := ⟨RX9, "passAll", "()V"⟩
abbrev cX9_image : ByteArray := prog_11_method_72_code
def yX9_image : MethodName := ⟨RX9, "image", "(I)I"⟩
abbrev cX9_restore : ByteArray := prog_11_method_73_code
def yX9_restore : MethodName := ⟨RX9, "restore", "(I)I"⟩
abbrev cX9_toldOf : ByteArray := prog_11_method_74_code
def yX9_toldOf : MethodName := ⟨RX9, "toldOf", "(II)I"⟩
abbrev cX9_told : ByteArray := prog_11_method_75_code
def yX9_told : MethodName := ⟨RX9, "told", "(I)I"⟩
def RJ6 : String := "java/lang/Integer"
abbrev cJ6_bitCount_0f7a4 : ByteArray := prog_12_method_49_code
def yJ6_bitCount_0f7a4 : MethodName := ⟨RJ6, "bitCount", "(I)I"⟩
def RJ9 : String := "java/lang/Math"
abbrev cJ9_abs_0f7a4 : ByteArray := prog_13_method_59_code
def yJ9_abs_0f7a4 : MethodName := ⟨RJ9, "abs", "(I)I"⟩
abbrev cJ9_max_7cf53 : ByteArray := prog_13_method_65_code
def yJ9_max_7cf53 : MethodName := ⟨RJ9, "max", "(II)I"⟩
abbrev cJ9_max_f86c9 : ByteArray := prog_13_method_66_code
def yJ9_max_f86c9 : MethodName := ⟨RJ9, "max", "(JJ)J"⟩
abbrev cJ9_min_7cf53 : ByteArray := prog_13_method_69_code
def yJ9_min_7cf53 : MethodName := ⟨RJ9, "min", "(II)I"⟩
def RJ10 : String := "java/lang/System"
def RL : String := "OathPermitLaw"
abbrev cL_law : ByteArray := code
def yL_law : MethodName := ⟨RL, "law", "([I)Z"⟩
theorem dX0_init_0 : decode cX0_init 0 = .ok (.aload_n 0, 1) := by decide +kernel
theorem dX0_init_1 : decode cX0_init 1 = .ok (.invokespecial 3, 3) := by decide +kernel
theorem dX0_init_4 : decode cX0_init 4 = .ok (.aload_n 0, 1) := by decide +kernel
theorem dX0_init_5 : decode cX0_init 5 = .ok (.sipush 343, 3) := by decide +kernel
theorem dX0_init_8 : decode cX0_init 8 = .ok (.newarray .int, 2) := by decide +kernel
theorem dX0_init_10 : decode cX0_init 10 = .ok (.putfield 11, 3) := by decide +kernel
theorem dX0_init_13 : decode cX0_init 13 = .ok (.aload_n 0, 1) := by decide +kernel
theorem dX0_init_14 : decode cX0_init 14 = .ok (.iconst 0, 1) := by decide +kernel
theorem dX0_init_15 : decode cX0_init 15 = .ok (.putfield 15, 3) := by decide +kernel
theorem dX0_init_18 : decode cX0_init 18 = .ok (.aload_n 0, 1) := by decide +kernel
theorem dX0_init_19 : decode cX0_init 19 = .ok (.iconst 0, 1) := by decide +kernel
theorem dX0_init_20 : decode cX0_init 20 = .ok (.putfield 19, 3) := by decide +kernel
theorem dX0_init_23 : decode cX0_init 23 = .ok (.aload_n 0, 1) := by decide +kernel
theorem dX0_init_24 : decode cX0_init 24 = .ok (.iconst 0, 1) := by decide +kernel
theorem dX0_init_25 : decode cX0_init 25 = .ok (.putfield 22, 3) := by decide +kernel
theorem dX0_init_28 : decode cX0_init 28 = .ok (.return_, 1) := by decide +kernel
theorem dX0_reckon_0 : decode cX0_reckon 0 = .ok (.aload_n 0, 1) := by decide +kernel
theorem dX0_reckon_1 : decode cX0_reckon 1 = .ok (.aload_n 1, 1) := by decide +kernel
theorem dX0_reckon_2 : decode cX0_reckon 2 = .ok (.getfield 25, 3) := by decide +kernel
theorem dX0_reckon_5 : decode cX0_reckon 5 = .ok (.putfield 15, 3) := by decide +kernel
theorem dX0_reckon_8 : decode cX0_reckon 8 = .ok (.aload_n 0, 1) := by decide +kernel
theorem dX0_reckon_9 : decode cX0_reckon 9 = .ok (.iload_n 2, 1) := by decide +kernel
theorem dX0_reckon_10 : decode cX0_reckon 10 = .ok (.putfield 19, 3) := by decide +kernel
theorem dX0_reckon_13 : decode cX0_reckon 13 = .ok (.aload_n 0, 1) := by decide +kernel
theorem dX0_reckon_14 : decode cX0_reckon 14 = .ok (.iload_n 3, 1) := by decide +kernel
theorem dX0_reckon_15 : decode cX0_reckon 15 = .ok (.putfield 22, 3) := by decide +kernel
theorem dX0_reckon_18 : decode cX0_reckon 18 = .ok (.iconst 5, 1) := by decide +kernel
theorem dX0_reckon_19 : decode cX0_reckon 19 = .ok (.istore 4, 2) := by decide +kernel
theorem dX0_reckon_21 : decode cX0_reckon 21 = .ok (.iload 4, 2) := by decide +kernel
theorem dX0_reckon_23 : decode cX0_reckon 23 = .ok (.ifCond .lt 70, 3) := by decide +kernel
theorem dX0_reckon_26 : decode cX0_reckon 26 = .ok (.iconst 0, 1) := by decide +kernel
theorem dX0_reckon_27 : decode cX0_reckon 27 = .ok (.istore 5, 2) := by decide +kernel
theorem dX0_reckon_29 : decode cX0_reckon 29 = .ok (.iload 5, 2) := by decide +kernel
theorem dX0_reckon_31 : decode cX0_reckon 31 = .ok (.bipush 7, 2) := by decide +kernel
theorem dX0_reckon_33 : decode cX0_reckon 33 = .ok (.if_icmp .ge 54, 3) := by decide +kernel
theorem dX0_reckon_36 : decode cX0_reckon 36 = .ok (.iconst 0, 1) := by decide +kernel
theorem dX0_reckon_37 : decode cX0_reckon 37 = .ok (.istore 6, 2) := by decide +kernel
theorem dX0_reckon_39 : decode cX0_reckon 39 = .ok (.iload 6, 2) := by decide +kernel
theorem dX0_reckon_41 : decode cX0_reckon 41 = .ok (.bipush 7, 2) := by decide +kernel
theorem dX0_reckon_43 : decode cX0_reckon 43 = .ok (.if_icmp .ge 38, 3) := by decide +kernel
theorem dX0_reckon_46 : decode cX0_reckon 46 = .ok (.aload_n 0, 1) := by decide +kernel
theorem dX0_reckon_47 : decode cX0_reckon 47 = .ok (.getfield 11, 3) := by decide +kernel
theorem dX0_reckon_50 : decode cX0_reckon 50 = .ok (.iload 4, 2) := by decide +kernel
theorem dX0_reckon_52 : decode cX0_reckon 52 = .ok (.bipush 7, 2) := by decide +kernel
theorem dX0_reckon_54 : decode cX0_reckon 54 = .ok (.imul, 1) := by decide +kernel
theorem dX0_reckon_55 : decode cX0_reckon 55 = .ok (.iload 5, 2) := by decide +kernel
theorem dX0_reckon_57 : decode cX0_reckon 57 = .ok (.iadd, 1) := by decide +kernel
theorem dX0_reckon_58 : decode cX0_reckon 58 = .ok (.bipush 7, 2) := by decide +kernel
theorem dX0_reckon_60 : decode cX0_reckon 60 = .ok (.imul, 1) := by decide +kernel
theorem dX0_reckon_61 : decode cX0_reckon 61 = .ok (.iload 6, 2) := by decide +kernel
theorem dX0_reckon_63 : decode cX0_reckon 63 = .ok (.iadd, 1) := by decide +kernel
theorem dX0_reckon_64 : decode cX0_reckon 64 = .ok (.aload_n 0, 1) := by decide +kernel
theorem dX0_reckon_65 : decode cX0_reckon 65 = .ok (.iload 4, 2) := by decide +kernel
theorem dX0_reckon_67 : decode cX0_reckon 67 = .ok (.iload 5, 2) := by decide +kernel
theorem dX0_reckon_69 : decode cX0_reckon 69 = .ok (.iload 6, 2) := by decide +kernel
theorem dX0_reckon_71 : decode cX0_reckon 71 = .ok (.invokevirtual 28, 3) := by decide +kernel
theorem dX0_reckon_74 : decode cX0_reckon 74 = .ok (.iastore, 1) := by decide +kernel
theorem dX0_reckon_75 : decode cX0_reckon 75 = .ok (.iinc 6 1, 3) := by decide +kernel
theorem dX0_reckon_78 : decode cX0_reckon 78 = .ok (.goto (-39), 3) := by decide +kernel
theorem dX0_reckon_81 : decode cX0_reckon 81 = .ok (.iinc 5 1, 3) := by decide +kernel
theorem dX0_reckon_84 : decode cX0_reckon 84 = .ok (.goto (-55), 3) := by decide +kernel
theorem dX0_reckon_87 : decode cX0_reckon 87 = .ok (.iinc 4 (-1), 3) := by decide +kernel
theorem dX0_reckon_90 : decode cX0_reckon 90 = .ok (.goto (-69), 3) := by decide +kernel
theorem dX0_reckon_93 : decode cX0_reckon 93 = .ok (.return_, 1) := by decide +kernel
theorem dX0_best_0 : decode cX0_best 0 = .ok (.aload_n 0, 1) := by decide +kernel
theorem dX0_best_1 : decode cX0_best 1 = .ok (.iload_n 1, 1) := by decide +kernel
theorem dX0_best_2 : decode cX0_best 2 = .ok (.iconst 1, 1) := by decide +kernel
theorem dX0_best_3 : decode cX0_best 3 = .ok (.iadd, 1) := by decide +kernel
theorem dX0_best_4 : decode cX0_best 4 = .ok (.iload_n 2, 1) := by decide +kernel
theorem dX0_best_5 : decode cX0_best 5 = .ok (.iload_n 3, 1) := by decide +kernel
theorem dX0_best_6 : decode cX0_best 6 = .ok (.invokevirtual 32, 3) := by decide +kernel
theorem dX0_best_9 : decode cX0_best 9 = .ok (.istore 4, 2) := by decide +kernel
theorem dX0_best_11 : decode cX0_best 11 = .ok (.aload_n 0, 1) := by decide +kernel
theorem dX0_best_12 : decode cX0_best 12 = .ok (.getfield 15, 3) := by decide +kernel
theorem dX0_best_15 : decode cX0_best 15 = .ok (.iload_n 1, 1) := by decide +kernel
theorem dX0_best_16 : decode cX0_best 16 = .ok (.ishr, 1) := by decide +kernel
theorem dX0_best_17 : decode cX0_best 17 = .ok (.iconst 1, 1) := by decide +kernel
theorem dX0_best_18 : decode cX0_best 18 = .ok (.iand, 1) := by decide +kernel
theorem dX0_best_19 : decode cX0_best 19 = .ok (.iconst 1, 1) := by decide +kernel
theorem dX0_best_20 : decode cX0_best 20 = .ok (.if_icmp .ne 31, 3) := by decide +kernel
theorem dX0_best_23 : decode cX0_best 23 = .ok (.iload 4, 2) := by decide +kernel
theorem dX0_best_25 : decode cX0_best 25 = .ok (.aload_n 0, 1) := by decide +kernel
theorem dX0_best_26 : decode cX0_best 26 = .ok (.iload_n 1, 1) := by decide +kernel
theorem dX0_best_27 : decode cX0_best 27 = .ok (.iload_n 2, 1) := by decide +kernel
theorem dX0_best_28 : decode cX0_best 28 = .ok (.iload_n 3, 1) := by decide +kernel
theorem dX0_best_29 : decode cX0_best 29 = .ok (.invokevirtual 35, 3) := by decide +kernel
theorem dX0_best_32 : decode cX0_best 32 = .ok (.invokestatic 38, 3) := by decide +kernel
theorem dX0_best_35 : decode cX0_best 35 = .ok (.istore 4, 2) := by decide +kernel
theorem dX0_best_37 : decode cX0_best 37 = .ok (.iload 4, 2) := by decide +kernel
theorem dX0_best_39 : decode cX0_best 39 = .ok (.aload_n 0, 1) := by decide +kernel
theorem dX0_best_40 : decode cX0_best 40 = .ok (.iload_n 1, 1) := by decide +kernel
theorem dX0_best_41 : decode cX0_best 41 = .ok (.iload_n 2, 1) := by decide +kernel
theorem dX0_best_42 : decode cX0_best 42 = .ok (.iload_n 3, 1) := by decide +kernel
theorem dX0_best_43 : decode cX0_best 43 = .ok (.invokevirtual 44, 3) := by decide +kernel
theorem dX0_best_46 : decode cX0_best 46 = .ok (.invokestatic 38, 3) := by decide +kernel
theorem dX0_best_49 : decode cX0_best 49 = .ok (.istore 4, 2) := by decide +kernel
theorem dX0_best_51 : decode cX0_best 51 = .ok (.iload 4, 2) := by decide +kernel
theorem dX0_best_53 : decode cX0_best 53 = .ok (.ireturn, 1) := by decide +kernel
theorem dX0_byFirst_0 : decode cX0_byFirst 0 = .ok (.iload_n 2, 1) := by decide +kernel
theorem dX0_byFirst_1 : decode cX0_byFirst 1 = .ok (.ifCond .le 26, 3) := by decide +kernel
theorem dX0_byFirst_4 : decode cX0_byFirst 4 = .ok (.aload_n 0, 1) := by decide +kernel
theorem dX0_byFirst_5 : decode cX0_byFirst 5 = .ok (.getfield 19, 3) := by decide +kernel
theorem dX0_byFirst_8 : decode cX0_byFirst 8 = .ok (.iload_n 1, 1) := by decide +kernel
theorem dX0_byFirst_9 : decode cX0_byFirst 9 = .ok (.invokestatic 47, 3) := by decide +kernel
theorem dX0_byFirst_12 : decode cX0_byFirst 12 = .ok (.aload_n 0, 1) := by decide +kernel
theorem dX0_byFirst_13 : decode cX0_byFirst 13 = .ok (.iload_n 1, 1) := by decide +kernel
theorem dX0_byFirst_14 : decode cX0_byFirst 14 = .ok (.iconst 1, 1) := by decide +kernel
theorem dX0_byFirst_15 : decode cX0_byFirst 15 = .ok (.iadd, 1) := by decide +kernel
theorem dX0_byFirst_16 : decode cX0_byFirst 16 = .ok (.iload_n 2, 1) := by decide +kernel
theorem dX0_byFirst_17 : decode cX0_byFirst 17 = .ok (.iconst 1, 1) := by decide +kernel
theorem dX0_byFirst_18 : decode cX0_byFirst 18 = .ok (.isub, 1) := by decide +kernel
theorem dX0_byFirst_19 : decode cX0_byFirst 19 = .ok (.iload_n 3, 1) := by decide +kernel
theorem dX0_byFirst_20 : decode cX0_byFirst 20 = .ok (.invokevirtual 32, 3) := by decide +kernel
theorem dX0_byFirst_23 : decode cX0_byFirst 23 = .ok (.iadd, 1) := by decide +kernel
theorem dX0_byFirst_24 : decode cX0_byFirst 24 = .ok (.goto 5, 3) := by decide +kernel
theorem dX0_byFirst_27 : decode cX0_byFirst 27 = .ok (.bipush (-6), 2) := by decide +kernel
theorem dX0_byFirst_29 : decode cX0_byFirst 29 = .ok (.ireturn, 1) := by decide +kernel
theorem dX0_bySecond_0 : decode cX0_bySecond 0 = .ok (.iload_n 3, 1) := by decide +kernel
theorem dX0_bySecond_1 : decode cX0_bySecond 1 = .ok (.ifCond .le 26, 3) := by decide +kernel
theorem dX0_bySecond_4 : decode cX0_bySecond 4 = .ok (.aload_n 0, 1) := by decide +kernel
theorem dX0_bySecond_5 : decode cX0_bySecond 5 = .ok (.getfield 22, 3) := by decide +kernel
theorem dX0_bySecond_8 : decode cX0_bySecond 8 = .ok (.iload_n 1, 1) := by decide +kernel
theorem dX0_bySecond_9 : decode cX0_bySecond 9 = .ok (.invokestatic 47, 3) := by decide +kernel
theorem dX0_bySecond_12 : decode cX0_bySecond 12 = .ok (.aload_n 0, 1) := by decide +kernel
theorem dX0_bySecond_13 : decode cX0_bySecond 13 = .ok (.iload_n 1, 1) := by decide +kernel
theorem dX0_bySecond_14 : decode cX0_bySecond 14 = .ok (.iconst 1, 1) := by decide +kernel
theorem dX0_bySecond_15 : decode cX0_bySecond 15 = .ok (.iadd, 1) := by decide +kernel
theorem dX0_bySecond_16 : decode cX0_bySecond 16 = .ok (.iload_n 2, 1) := by decide +kernel
theorem dX0_bySecond_17 : decode cX0_bySecond 17 = .ok (.iload_n 3, 1) := by decide +kernel
theorem dX0_bySecond_18 : decode cX0_bySecond 18 = .ok (.iconst 1, 1) := by decide +kernel
theorem dX0_bySecond_19 : decode cX0_bySecond 19 = .ok (.isub, 1) := by decide +kernel
theorem dX0_bySecond_20 : decode cX0_bySecond 20 = .ok (.invokevirtual 32, 3) := by decide +kernel
theorem dX0_bySecond_23 : decode cX0_bySecond 23 = .ok (.iadd, 1) := by decide +kernel
theorem dX0_bySecond_24 : decode cX0_bySecond 24 = .ok (.goto 5, 3) := by decide +kernel
theorem dX0_bySecond_27 : decode cX0_bySecond 27 = .ok (.bipush (-6), 2) := by decide +kernel
theorem dX0_bySecond_29 : decode cX0_bySecond 29 = .ok (.ireturn, 1) := by decide +kernel
theorem dX0_mostFrom_0 : decode cX0_mostFrom 0 = .ok (.iload_n 1, 1) := by decide +kernel
theorem dX0_mostFrom_1 : decode cX0_mostFrom 1 = .ok (.iconst 0, 1) := by decide +kernel
theorem dX0_mostFrom_2 : decode cX0_mostFrom 2 = .ok (.bipush 6, 2) := by decide +kernel
theorem dX0_mostFrom_4 : decode cX0_mostFrom 4 = .ok (.invokestatic 50, 3) := by decide +kernel
theorem dX0_mostFrom_7 : decode cX0_mostFrom 7 = .ok (.ifCond .eq 23, 3) := by decide +kernel
theorem dX0_mostFrom_10 : decode cX0_mostFrom 10 = .ok (.iload_n 2, 1) := by decide +kernel
theorem dX0_mostFrom_11 : decode cX0_mostFrom 11 = .ok (.iconst 0, 1) := by decide +kernel
theorem dX0_mostFrom_12 : decode cX0_mostFrom 12 = .ok (.bipush 6, 2) := by decide +kernel
theorem dX0_mostFrom_14 : decode cX0_mostFrom 14 = .ok (.invokestatic 50, 3) := by decide +kernel
theorem dX0_mostFrom_17 : decode cX0_mostFrom 17 = .ok (.ifCond .eq 13, 3) := by decide +kernel
theorem dX0_mostFrom_20 : decode cX0_mostFrom 20 = .ok (.iload_n 3, 1) := by decide +kernel
theorem dX0_mostFrom_21 : decode cX0_mostFrom 21 = .ok (.iconst 0, 1) := by decide +kernel
theorem dX0_mostFrom_22 : decode cX0_mostFrom 22 = .ok (.bipush 6, 2) := by decide +kernel
theorem dX0_mostFrom_24 : decode cX0_mostFrom 24 = .ok (.invokestatic 50, 3) := by decide +kernel
theorem dX0_mostFrom_27 : decode cX0_mostFrom 27 = .ok (.ifCond .ne 5, 3) := by decide +kernel
theorem dX0_mostFrom_30 : decode cX0_mostFrom 30 = .ok (.iconst 0, 1) := by decide +kernel
theorem dX0_mostFrom_31 : decode cX0_mostFrom 31 = .ok (.ireturn, 1) := by decide +kernel
theorem dX0_mostFrom_32 : decode cX0_mostFrom 32 = .ok (.aload_n 0, 1) := by decide +kernel
theorem dX0_mostFrom_33 : decode cX0_mostFrom 33 = .ok (.getfield 11, 3) := by decide +kernel
theorem dX0_mostFrom_36 : decode cX0_mostFrom 36 = .ok (.iload_n 1, 1) := by decide +kernel
theorem dX0_mostFrom_37 : decode cX0_mostFrom 37 = .ok (.bipush 7, 2) := by decide +kernel
theorem dX0_mostFrom_39 : decode cX0_mostFrom 39 = .ok (.imul, 1) := by decide +kernel
theorem dX0_mostFrom_40 : decode cX0_mostFrom 40 = .ok (.iload_n 2, 1) := by decide +kernel
theorem dX0_mostFrom_41 : decode cX0_mostFrom 41 = .ok (.iadd, 1) := by decide +kernel
theorem dX0_mostFrom_42 : decode cX0_mostFrom 42 = .ok (.bipush 7, 2) := by decide +kernel
theorem dX0_mostFrom_44 : decode cX0_mostFrom 44 = .ok (.imul, 1) := by decide +kernel
theorem dX0_mostFrom_45 : decode cX0_mostFrom 45 = .ok (.iload_n 3, 1) := by decide +kernel
theorem dX0_mostFrom_46 : decode cX0_mostFrom 46 = .ok (.iadd, 1) := by decide +kernel
theorem dX0_mostFrom_47 : decode cX0_mostFrom 47 = .ok (.iaload, 1) := by decide +kernel
theorem dX0_mostFrom_48 : decode cX0_mostFrom 48 = .ok (.ireturn, 1) := by decide +kernel
theorem dX0_holders_0 : decode cX0_holders 0 = .ok (.iconst 0, 1) := by decide +kernel
theorem dX0_holders_1 : decode cX0_holders 1 = .ok (.istore_n 3, 1) := by decide +kernel
theorem dX0_holders_2 : decode cX0_holders 2 = .ok (.iload_n 1, 1) := by decide +kernel
theorem dX0_holders_3 : decode cX0_holders 3 = .ok (.istore 4, 2) := by decide +kernel
theorem dX0_holders_5 : decode cX0_holders 5 = .ok (.iload_n 2, 1) := by decide +kernel
theorem dX0_holders_6 : decode cX0_holders 6 = .ok (.istore 5, 2) := by decide +kernel
theorem dX0_holders_8 : decode cX0_holders 8 = .ok (.iconst 0, 1) := by decide +kernel
theorem dX0_holders_9 : decode cX0_holders 9 = .ok (.istore 6, 2) := by decide +kernel
theorem dX0_holders_11 : decode cX0_holders 11 = .ok (.iload 6, 2) := by decide +kernel
theorem dX0_holders_13 : decode cX0_holders 13 = .ok (.bipush 6, 2) := by decide +kernel
theorem dX0_holders_15 : decode cX0_holders 15 = .ok (.if_icmp .ge 95, 3) := by decide +kernel
theorem dX0_holders_18 : decode cX0_holders 18 = .ok (.aload_n 0, 1) := by decide +kernel
theorem dX0_holders_19 : decode cX0_holders 19 = .ok (.iload 6, 2) := by decide +kernel
theorem dX0_holders_21 : decode cX0_holders 21 = .ok (.iload 4, 2) := by decide +kernel
theorem dX0_holders_23 : decode cX0_holders 23 = .ok (.iload 5, 2) := by decide +kernel
theorem dX0_holders_25 : decode cX0_holders 25 = .ok (.invokevirtual 32, 3) := by decide +kernel
theorem dX0_holders_28 : decode cX0_holders 28 = .ok (.istore 7, 2) := by decide +kernel
theorem dX0_holders_30 : decode cX0_holders 30 = .ok (.iconst 2, 1) := by decide +kernel
theorem dX0_holders_31 : decode cX0_holders 31 = .ok (.istore 8, 2) := by decide +kernel
theorem dX0_holders_33 : decode cX0_holders 33 = .ok (.aload_n 0, 1) := by decide +kernel
theorem dX0_holders_34 : decode cX0_holders 34 = .ok (.getfield 15, 3) := by decide +kernel
theorem dX0_holders_37 : decode cX0_holders 37 = .ok (.iload 6, 2) := by decide +kernel
theorem dX0_holders_39 : decode cX0_holders 39 = .ok (.ishr, 1) := by decide +kernel
theorem dX0_holders_40 : decode cX0_holders 40 = .ok (.iconst 1, 1) := by decide +kernel
theorem dX0_holders_41 : decode cX0_holders 41 = .ok (.iand, 1) := by decide +kernel
theorem dX0_holders_42 : decode cX0_holders 42 = .ok (.ifCond .ne 9, 3) := by decide +kernel
theorem dX0_holders_45 : decode cX0_holders 45 = .ok (.iconst 3, 1) := by decide +kernel
theorem dX0_holders_46 : decode cX0_holders 46 = .ok (.istore 8, 2) := by decide +kernel
theorem dX0_holders_48 : decode cX0_holders 48 = .ok (.goto 48, 3) := by decide +kernel
theorem dX0_holders_51 : decode cX0_holders 51 = .ok (.aload_n 0, 1) := by decide +kernel
theorem dX0_holders_52 : decode cX0_holders 52 = .ok (.iload 6, 2) := by decide +kernel
theorem dX0_holders_54 : decode cX0_holders 54 = .ok (.iload 4, 2) := by decide +kernel
theorem dX0_holders_56 : decode cX0_holders 56 = .ok (.iload 5, 2) := by decide +kernel
theorem dX0_holders_58 : decode cX0_holders 58 = .ok (.invokevirtual 35, 3) := by decide +kernel
theorem dX0_holders_61 : decode cX0_holders 61 = .ok (.iload 7, 2) := by decide +kernel
theorem dX0_holders_63 : decode cX0_holders 63 = .ok (.if_icmp .ne 12, 3) := by decide +kernel
theorem dX0_holders_66 : decode cX0_holders 66 = .ok (.iconst 0, 1) := by decide +kernel
theorem dX0_holders_67 : decode cX0_holders 67 = .ok (.istore 8, 2) := by decide +kernel
theorem dX0_holders_69 : decode cX0_holders 69 = .ok (.iinc 4 (-1), 3) := by decide +kernel
theorem dX0_holders_72 : decode cX0_holders 72 = .ok (.goto 24, 3) := by decide +kernel
theorem dX0_holders_75 : decode cX0_holders 75 = .ok (.aload_n 0, 1) := by decide +kernel
theorem dX0_holders_76 : decode cX0_holders 76 = .ok (.iload 6, 2) := by decide +kernel
theorem dX0_holders_78 : decode cX0_holders 78 = .ok (.iload 4, 2) := by decide +kernel
theorem dX0_holders_80 : decode cX0_holders 80 = .ok (.iload 5, 2) := by decide +kernel
theorem dX0_holders_82 : decode cX0_holders 82 = .ok (.invokevirtual 44, 3) := by decide +kernel
theorem dX0_holders_85 : decode cX0_holders 85 = .ok (.iload 7, 2) := by decide +kernel
theorem dX0_holders_87 : decode cX0_holders 87 = .ok (.if_icmp .ne 9, 3) := by decide +kernel
theorem dX0_holders_90 : decode cX0_holders 90 = .ok (.iconst 1, 1) := by decide +kernel
theorem dX0_holders_91 : decode cX0_holders 91 = .ok (.istore 8, 2) := by decide +kernel
theorem dX0_holders_93 : decode cX0_holders 93 = .ok (.iinc 5 (-1), 3) := by decide +kernel
theorem dX0_holders_96 : decode cX0_holders 96 = .ok (.bipush 10, 2) := by decide +kernel
theorem dX0_holders_98 : decode cX0_holders 98 = .ok (.iload_n 3, 1) := by decide +kernel
theorem dX0_holders_99 : decode cX0_holders 99 = .ok (.imul, 1) := by decide +kernel
theorem dX0_holders_100 : decode cX0_holders 100 = .ok (.iload 8, 2) := by decide +kernel
theorem dX0_holders_102 : decode cX0_holders 102 = .ok (.iadd, 1) := by decide +kernel
theorem dX0_holders_103 : decode cX0_holders 103 = .ok (.istore_n 3, 1) := by decide +kernel
theorem dX0_holders_104 : decode cX0_holders 104 = .ok (.iinc 6 1, 3) := by decide +kernel
theorem dX0_holders_107 : decode cX0_holders 107 = .ok (.goto (-96), 3) := by decide +kernel
theorem dX0_holders_110 : decode cX0_holders 110 = .ok (.iload_n 3, 1) := by decide +kernel
theorem dX0_holders_111 : decode cX0_holders 111 = .ok (.ireturn, 1) := by decide +kernel
theorem dX1_init_0 : decode cX1_init 0 = .ok (.aload_n 0, 1) := by decide +kernel
theorem dX1_init_1 : decode cX1_init 1 = .ok (.invokespecial 3, 3) := by decide +kernel
theorem dX1_init_4 : decode cX1_init 4 = .ok (.aload_n 0, 1) := by decide +kernel
theorem dX1_init_5 : decode cX1_init 5 = .ok (.bipush 126, 2) := by decide +kernel
theorem dX1_init_7 : decode cX1_init 7 = .ok (.newarray .int, 2) := by decide +kernel
theorem dX1_init_9 : decode cX1_init 9 = .ok (.putfield 11, 3) := by decide +kernel
theorem dX1_init_12 : decode cX1_init 12 = .ok (.aload_n 0, 1) := by decide +kernel
theorem dX1_init_13 : decode cX1_init 13 = .ok (.sipush 147, 3) := by decide +kernel
theorem dX1_init_16 : decode cX1_init 16 = .ok (.newarray .int, 2) := by decide +kernel
theorem dX1_init_18 : decode cX1_init 18 = .ok (.putfield 15, 3) := by decide +kernel
theorem dX1_init_21 : decode cX1_init 21 = .ok (.aload_n 0, 1) := by decide +kernel
theorem dX1_init_22 : decode cX1_init 22 = .ok (.iconst 0, 1) := by decide +kernel
theorem dX1_init_23 : decode cX1_init 23 = .ok (.putfield 18, 3) := by decide +kernel
theorem dX1_init_26 : decode cX1_init 26 = .ok (.return_, 1) := by decide +kernel
theorem dX1_reckon_0 : decode cX1_reckon 0 = .ok (.aload_n 0, 1) := by decide +kernel
theorem dX1_reckon_1 : decode cX1_reckon 1 = .ok (.aload_n 1, 1) := by decide +kernel
theorem dX1_reckon_2 : decode cX1_reckon 2 = .ok (.getfield 22, 3) := by decide +kernel
theorem dX1_reckon_5 : decode cX1_reckon 5 = .ok (.putfield 18, 3) := by decide +kernel
theorem dX1_reckon_8 : decode cX1_reckon 8 = .ok (.iconst 0, 1) := by decide +kernel
theorem dX1_reckon_9 : decode cX1_reckon 9 = .ok (.istore_n 3, 1) := by decide +kernel
theorem dX1_reckon_10 : decode cX1_reckon 10 = .ok (.iload_n 3, 1) := by decide +kernel
theorem dX1_reckon_11 : decode cX1_reckon 11 = .ok (.bipush 21, 2) := by decide +kernel
theorem dX1_reckon_13 : decode cX1_reckon 13 = .ok (.if_icmp .ge 29, 3) := by decide +kernel
theorem dX1_reckon_16 : decode cX1_reckon 16 = .ok (.aload_n 0, 1) := by decide +kernel
theorem dX1_reckon_17 : decode cX1_reckon 17 = .ok (.getfield 15, 3) := by decide +kernel
theorem dX1_reckon_20 : decode cX1_reckon 20 = .ok (.bipush 126, 2) := by decide +kernel
theorem dX1_reckon_22 : decode cX1_reckon 22 = .ok (.iload_n 3, 1) := by decide +kernel
theorem dX1_reckon_23 : decode cX1_reckon 23 = .ok (.iadd, 1) := by decide +kernel
theorem dX1_reckon_24 : decode cX1_reckon 24 = .ok (.iload_n 3, 1) := by decide +kernel
theorem dX1_reckon_25 : decode cX1_reckon 25 = .ok (.ifCond .ne 7, 3) := by decide +kernel
theorem dX1_reckon_28 : decode cX1_reckon 28 = .ok (.iconst 0, 1) := by decide +kernel
theorem dX1_reckon_29 : decode cX1_reckon 29 = .ok (.goto 6, 3) := by decide +kernel
theorem dX1_reckon_32 : decode cX1_reckon 32 = .ok (.sipush 1000, 3) := by decide +kernel
theorem dX1_reckon_35 : decode cX1_reckon 35 = .ok (.iastore, 1) := by decide +kernel
theorem dX1_reckon_36 : decode cX1_reckon 36 = .ok (.iinc 3 1, 3) := by decide +kernel
theorem dX1_reckon_39 : decode cX1_reckon 39 = .ok (.goto (-29), 3) := by decide +kernel
theorem dX1_reckon_42 : decode cX1_reckon 42 = .ok (.iconst 5, 1) := by decide +kernel
theorem dX1_reckon_43 : decode cX1_reckon 43 = .ok (.istore_n 3, 1) := by decide +kernel
theorem dX1_reckon_44 : decode cX1_reckon 44 = .ok (.iload_n 3, 1) := by decide +kernel
theorem dX1_reckon_45 : decode cX1_reckon 45 = .ok (.ifCond .lt 84, 3) := by decide +kernel
theorem dX1_reckon_48 : decode cX1_reckon 48 = .ok (.iconst 0, 1) := by decide +kernel
theorem dX1_reckon_49 : decode cX1_reckon 49 = .ok (.istore 4, 2) := by decide +kernel
theorem dX1_reckon_51 : decode cX1_reckon 51 = .ok (.iload 4, 2) := by decide +kernel
theorem dX1_reckon_53 : decode cX1_reckon 53 = .ok (.bipush 21, 2) := by decide +kernel
theorem dX1_reckon_55 : decode cX1_reckon 55 = .ok (.if_icmp .ge 33, 3) := by decide +kernel
theorem dX1_reckon_58 : decode cX1_reckon 58 = .ok (.aload_n 0, 1) := by decide +kernel
theorem dX1_reckon_59 : decode cX1_reckon 59 = .ok (.getfield 11, 3) := by decide +kernel
theorem dX1_reckon_62 : decode cX1_reckon 62 = .ok (.iload_n 3, 1) := by decide +kernel
theorem dX1_reckon_63 : decode cX1_reckon 63 = .ok (.bipush 21, 2) := by decide +kernel
theorem dX1_reckon_65 : decode cX1_reckon 65 = .ok (.imul, 1) := by decide +kernel
theorem dX1_reckon_66 : decode cX1_reckon 66 = .ok (.iload 4, 2) := by decide +kernel
theorem dX1_reckon_68 : decode cX1_reckon 68 = .ok (.iadd, 1) := by decide +kernel
theorem dX1_reckon_69 : decode cX1_reckon 69 = .ok (.aload_n 2, 1) := by decide +kernel
theorem dX1_reckon_70 : decode cX1_reckon 70 = .ok (.aload_n 1, 1) := by decide +kernel
theorem dX1_reckon_71 : decode cX1_reckon 71 = .ok (.iload_n 3, 1) := by decide +kernel
theorem dX1_reckon_72 : decode cX1_reckon 72 = .ok (.iconst 0, 1) := by decide +kernel
theorem dX1_reckon_73 : decode cX1_reckon 73 = .ok (.invokevirtual 25, 3) := by decide +kernel
theorem dX1_reckon_76 : decode cX1_reckon 76 = .ok (.iload 4, 2) := by decide +kernel
theorem dX1_reckon_78 : decode cX1_reckon 78 = .ok (.invokevirtual 29, 3) := by decide +kernel
theorem dX1_reckon_81 : decode cX1_reckon 81 = .ok (.iastore, 1) := by decide +kernel
theorem dX1_reckon_82 : decode cX1_reckon 82 = .ok (.iinc 4 1, 3) := by decide +kernel
theorem dX1_reckon_85 : decode cX1_reckon 85 = .ok (.goto (-34), 3) := by decide +kernel
theorem dX1_reckon_88 : decode cX1_reckon 88 = .ok (.iconst 0, 1) := by decide +kernel
theorem dX1_reckon_89 : decode cX1_reckon 89 = .ok (.istore 4, 2) := by decide +kernel
theorem dX1_reckon_91 : decode cX1_reckon 91 = .ok (.iload 4, 2) := by decide +kernel
theorem dX1_reckon_93 : decode cX1_reckon 93 = .ok (.bipush 21, 2) := by decide +kernel
theorem dX1_reckon_95 : decode cX1_reckon 95 = .ok (.if_icmp .ge 28, 3) := by decide +kernel
theorem dX1_reckon_98 : decode cX1_reckon 98 = .ok (.aload_n 0, 1) := by decide +kernel
theorem dX1_reckon_99 : decode cX1_reckon 99 = .ok (.getfield 15, 3) := by decide +kernel
theorem dX1_reckon_102 : decode cX1_reckon 102 = .ok (.iload_n 3, 1) := by decide +kernel
theorem dX1_reckon_103 : decode cX1_reckon 103 = .ok (.bipush 21, 2) := by decide +kernel
theorem dX1_reckon_105 : decode cX1_reckon 105 = .ok (.imul, 1) := by decide +kernel
theorem dX1_reckon_106 : decode cX1_reckon 106 = .ok (.iload 4, 2) := by decide +kernel
theorem dX1_reckon_108 : decode cX1_reckon 108 = .ok (.iadd, 1) := by decide +kernel
theorem dX1_reckon_109 : decode cX1_reckon 109 = .ok (.aload_n 0, 1) := by decide +kernel
theorem dX1_reckon_110 : decode cX1_reckon 110 = .ok (.iload_n 3, 1) := by decide +kernel
theorem dX1_reckon_111 : decode cX1_reckon 111 = .ok (.iload 4, 2) := by decide +kernel
theorem dX1_reckon_113 : decode cX1_reckon 113 = .ok (.invokevirtual 34, 3) := by decide +kernel
theorem dX1_reckon_116 : decode cX1_reckon 116 = .ok (.iastore, 1) := by decide +kernel
theorem dX1_reckon_117 : decode cX1_reckon 117 = .ok (.iinc 4 1, 3) := by decide +kernel
theorem dX1_reckon_120 : decode cX1_reckon 120 = .ok (.goto (-29), 3) := by decide +kernel
theorem dX1_reckon_123 : decode cX1_reckon 123 = .ok (.iinc 3 (-1), 3) := by decide +kernel
theorem dX1_reckon_126 : decode cX1_reckon 126 = .ok (.goto (-82), 3) := by decide +kernel
theorem dX1_reckon_129 : decode cX1_reckon 129 = .ok (.return_, 1) := by decide +kernel
theorem dX1_leastOver_0 : decode cX1_leastOver 0 = .ok (.sipush 1000, 3) := by decide +kernel
theorem dX1_leastOver_3 : decode cX1_leastOver 3 = .ok (.istore_n 3, 1) := by decide +kernel
theorem dX1_leastOver_4 : decode cX1_leastOver 4 = .ok (.iconst 0, 1) := by decide +kernel
theorem dX1_leastOver_5 : decode cX1_leastOver 5 = .ok (.istore 4, 2) := by decide +kernel
theorem dX1_leastOver_7 : decode cX1_leastOver 7 = .ok (.iload 4, 2) := by decide +kernel
theorem dX1_leastOver_9 : decode cX1_leastOver 9 = .ok (.aload_n 0, 1) := by decide +kernel
theorem dX1_leastOver_10 : decode cX1_leastOver 10 = .ok (.iload_n 1, 1) := by decide +kernel
theorem dX1_leastOver_11 : decode cX1_leastOver 11 = .ok (.iload_n 2, 1) := by decide +kernel
theorem dX1_leastOver_12 : decode cX1_leastOver 12 = .ok (.invokevirtual 37, 3) := by decide +kernel
theorem dX1_leastOver_15 : decode cX1_leastOver 15 = .ok (.if_icmp .gt 22, 3) := by decide +kernel
theorem dX1_leastOver_18 : decode cX1_leastOver 18 = .ok (.iload_n 3, 1) := by decide +kernel
theorem dX1_leastOver_19 : decode cX1_leastOver 19 = .ok (.aload_n 0, 1) := by decide +kernel
theorem dX1_leastOver_20 : decode cX1_leastOver 20 = .ok (.iload_n 1, 1) := by decide +kernel
theorem dX1_leastOver_21 : decode cX1_leastOver 21 = .ok (.iload_n 2, 1) := by decide +kernel
theorem dX1_leastOver_22 : decode cX1_leastOver 22 = .ok (.iload 4, 2) := by decide +kernel
theorem dX1_leastOver_24 : decode cX1_leastOver 24 = .ok (.invokevirtual 40, 3) := by decide +kernel
theorem dX1_leastOver_27 : decode cX1_leastOver 27 = .ok (.invokestatic 44, 3) := by decide +kernel
theorem dX1_leastOver_30 : decode cX1_leastOver 30 = .ok (.istore_n 3, 1) := by decide +kernel
theorem dX1_leastOver_31 : decode cX1_leastOver 31 = .ok (.iinc 4 1, 3) := by decide +kernel
theorem dX1_leastOver_34 : decode cX1_leastOver 34 = .ok (.goto (-27), 3) := by decide +kernel
theorem dX1_leastOver_37 : decode cX1_leastOver 37 = .ok (.iload_n 3, 1) := by decide +kernel
theorem dX1_leastOver_38 : decode cX1_leastOver 38 = .ok (.ireturn, 1) := by decide +kernel
theorem dX1_mostFor_0 : decode cX1_mostFor 0 = .ok (.aload_n 0, 1) := by decide +kernel
theorem dX1_mostFor_1 : decode cX1_mostFor 1 = .ok (.getfield 18, 3) := by decide +kernel
theorem dX1_mostFor_4 : decode cX1_mostFor 4 = .ok (.iload_n 1, 1) := by decide +kernel
theorem dX1_mostFor_5 : decode cX1_mostFor 5 = .ok (.ishr, 1) := by decide +kernel
theorem dX1_mostFor_6 : decode cX1_mostFor 6 = .ok (.iconst 1, 1) := by decide +kernel
theorem dX1_mostFor_7 : decode cX1_mostFor 7 = .ok (.iand, 1) := by decide +kernel
theorem dX1_mostFor_8 : decode cX1_mostFor 8 = .ok (.iconst 1, 1) := by decide +kernel
theorem dX1_mostFor_9 : decode cX1_mostFor 9 = .ok (.if_icmp .ne 7, 3) := by decide +kernel
theorem dX1_mostFor_12 : decode cX1_mostFor 12 = .ok (.iload_n 2, 1) := by decide +kernel
theorem dX1_mostFor_13 : decode cX1_mostFor 13 = .ok (.goto 4, 3) := by decide +kernel
theorem dX1_mostFor_16 : decode cX1_mostFor 16 = .ok (.iconst 0, 1) := by decide +kernel
theorem dX1_mostFor_17 : decode cX1_mostFor 17 = .ok (.ireturn, 1) := by decide +kernel
theorem dX1_withPart_0 : decode cX1_withPart 0 = .ok (.aload_n 0, 1) := by decide +kernel
theorem dX1_withPart_1 : decode cX1_withPart 1 = .ok (.getfield 18, 3) := by decide +kernel
theorem dX1_withPart_4 : decode cX1_withPart 4 = .ok (.iload_n 1, 1) := by decide +kernel
theorem dX1_withPart_5 : decode cX1_withPart 5 = .ok (.ishr, 1) := by decide +kernel
theorem dX1_withPart_6 : decode cX1_withPart 6 = .ok (.iconst 1, 1) := by decide +kernel
theorem dX1_withPart_7 : decode cX1_withPart 7 = .ok (.iand, 1) := by decide +kernel
theorem dX1_withPart_8 : decode cX1_withPart 8 = .ok (.iconst 1, 1) := by decide +kernel
theorem dX1_withPart_9 : decode cX1_withPart 9 = .ok (.if_icmp .ne 7, 3) := by decide +kernel
theorem dX1_withPart_12 : decode cX1_withPart 12 = .ok (.iconst 1, 1) := by decide +kernel
theorem dX1_withPart_13 : decode cX1_withPart 13 = .ok (.goto 4, 3) := by decide +kernel
theorem dX1_withPart_16 : decode cX1_withPart 16 = .ok (.iconst 0, 1) := by decide +kernel
theorem dX1_withPart_17 : decode cX1_withPart 17 = .ok (.istore 4, 2) := by decide +kernel
theorem dX1_withPart_19 : decode cX1_withPart 19 = .ok (.iload_n 1, 1) := by decide +kernel
theorem dX1_withPart_20 : decode cX1_withPart 20 = .ok (.iconst 0, 1) := by decide +kernel
theorem dX1_withPart_21 : decode cX1_withPart 21 = .ok (.iconst 5, 1) := by decide +kernel
theorem dX1_withPart_22 : decode cX1_withPart 22 = .ok (.invokestatic 49, 3) := by decide +kernel
theorem dX1_withPart_25 : decode cX1_withPart 25 = .ok (.ifCond .eq 17, 3) := by decide +kernel
theorem dX1_withPart_28 : decode cX1_withPart 28 = .ok (.iload_n 3, 1) := by decide +kernel
theorem dX1_withPart_29 : decode cX1_withPart 29 = .ok (.iconst 0, 1) := by decide +kernel
theorem dX1_withPart_30 : decode cX1_withPart 30 = .ok (.bipush 20, 2) := by decide +kernel
theorem dX1_withPart_32 : decode cX1_withPart 32 = .ok (.invokestatic 49, 3) := by decide +kernel
theorem dX1_withPart_35 : decode cX1_withPart 35 = .ok (.ifCond .eq 7, 3) := by decide +kernel
theorem dX1_withPart_38 : decode cX1_withPart 38 = .ok (.iconst 1, 1) := by decide +kernel
theorem dX1_withPart_39 : decode cX1_withPart 39 = .ok (.goto 4, 3) := by decide +kernel
theorem dX1_withPart_42 : decode cX1_withPart 42 = .ok (.iconst 0, 1) := by decide +kernel
theorem dX1_withPart_43 : decode cX1_withPart 43 = .ok (.istore 5, 2) := by decide +kernel
theorem dX1_withPart_45 : decode cX1_withPart 45 = .ok (.iload 4, 2) := by decide +kernel
theorem dX1_withPart_47 : decode cX1_withPart 47 = .ok (.ifCond .eq 22, 3) := by decide +kernel
theorem dX1_withPart_50 : decode cX1_withPart 50 = .ok (.iload 5, 2) := by decide +kernel
theorem dX1_withPart_52 : decode cX1_withPart 52 = .ok (.ifCond .eq 17, 3) := by decide +kernel
theorem dX1_withPart_55 : decode cX1_withPart 55 = .ok (.aload_n 0, 1) := by decide +kernel
theorem dX1_withPart_56 : decode cX1_withPart 56 = .ok (.getfield 11, 3) := by decide +kernel
theorem dX1_withPart_59 : decode cX1_withPart 59 = .ok (.iload_n 1, 1) := by decide +kernel
theorem dX1_withPart_60 : decode cX1_withPart 60 = .ok (.bipush 21, 2) := by decide +kernel
theorem dX1_withPart_62 : decode cX1_withPart 62 = .ok (.imul, 1) := by decide +kernel
theorem dX1_withPart_63 : decode cX1_withPart 63 = .ok (.iload_n 3, 1) := by decide +kernel
theorem dX1_withPart_64 : decode cX1_withPart 64 = .ok (.iadd, 1) := by decide +kernel
theorem dX1_withPart_65 : decode cX1_withPart 65 = .ok (.iaload, 1) := by decide +kernel
theorem dX1_withPart_66 : decode cX1_withPart 66 = .ok (.goto 4, 3) := by decide +kernel
theorem dX1_withPart_69 : decode cX1_withPart 69 = .ok (.iconst 0, 1) := by decide +kernel
theorem dX1_withPart_70 : decode cX1_withPart 70 = .ok (.aload_n 0, 1) := by decide +kernel
theorem dX1_withPart_71 : decode cX1_withPart 71 = .ok (.iload_n 1, 1) := by decide +kernel
theorem dX1_withPart_72 : decode cX1_withPart 72 = .ok (.iconst 1, 1) := by decide +kernel
theorem dX1_withPart_73 : decode cX1_withPart 73 = .ok (.iadd, 1) := by decide +kernel
theorem dX1_withPart_74 : decode cX1_withPart 74 = .ok (.iload_n 2, 1) := by decide +kernel
theorem dX1_withPart_75 : decode cX1_withPart 75 = .ok (.iload_n 3, 1) := by decide +kernel
theorem dX1_withPart_76 : decode cX1_withPart 76 = .ok (.isub, 1) := by decide +kernel
theorem dX1_withPart_77 : decode cX1_withPart 77 = .ok (.invokevirtual 53, 3) := by decide +kernel
theorem dX1_withPart_80 : decode cX1_withPart 80 = .ok (.iadd, 1) := by decide +kernel
theorem dX1_withPart_81 : decode cX1_withPart 81 = .ok (.ireturn, 1) := by decide +kernel
theorem dX1_fewestFrom_0 : decode cX1_fewestFrom 0 = .ok (.iload_n 1, 1) := by decide +kernel
theorem dX1_fewestFrom_1 : decode cX1_fewestFrom 1 = .ok (.iconst 0, 1) := by decide +kernel
theorem dX1_fewestFrom_2 : decode cX1_fewestFrom 2 = .ok (.bipush 6, 2) := by decide +kernel
theorem dX1_fewestFrom_4 : decode cX1_fewestFrom 4 = .ok (.invokestatic 49, 3) := by decide +kernel
theorem dX1_fewestFrom_7 : decode cX1_fewestFrom 7 = .ok (.ifCond .eq 17, 3) := by decide +kernel
theorem dX1_fewestFrom_10 : decode cX1_fewestFrom 10 = .ok (.iload_n 2, 1) := by decide +kernel
theorem dX1_fewestFrom_11 : decode cX1_fewestFrom 11 = .ok (.iconst 0, 1) := by decide +kernel
theorem dX1_fewestFrom_12 : decode cX1_fewestFrom 12 = .ok (.bipush 20, 2) := by decide +kernel
theorem dX1_fewestFrom_14 : decode cX1_fewestFrom 14 = .ok (.invokestatic 49, 3) := by decide +kernel
theorem dX1_fewestFrom_17 : decode cX1_fewestFrom 17 = .ok (.ifCond .eq 7, 3) := by decide +kernel
theorem dX1_fewestFrom_20 : decode cX1_fewestFrom 20 = .ok (.iconst 1, 1) := by decide +kernel
theorem dX1_fewestFrom_21 : decode cX1_fewestFrom 21 = .ok (.goto 4, 3) := by decide +kernel
theorem dX1_fewestFrom_24 : decode cX1_fewestFrom 24 = .ok (.iconst 0, 1) := by decide +kernel
theorem dX1_fewestFrom_25 : decode cX1_fewestFrom 25 = .ok (.istore_n 3, 1) := by decide +kernel
theorem dX1_fewestFrom_26 : decode cX1_fewestFrom 26 = .ok (.iload_n 3, 1) := by decide +kernel
theorem dX1_fewestFrom_27 : decode cX1_fewestFrom 27 = .ok (.ifCond .eq 17, 3) := by decide +kernel
theorem dX1_fewestFrom_30 : decode cX1_fewestFrom 30 = .ok (.aload_n 0, 1) := by decide +kernel
theorem dX1_fewestFrom_31 : decode cX1_fewestFrom 31 = .ok (.getfield 15, 3) := by decide +kernel
theorem dX1_fewestFrom_34 : decode cX1_fewestFrom 34 = .ok (.iload_n 1, 1) := by decide +kernel
theorem dX1_fewestFrom_35 : decode cX1_fewestFrom 35 = .ok (.bipush 21, 2) := by decide +kernel
theorem dX1_fewestFrom_37 : decode cX1_fewestFrom 37 = .ok (.imul, 1) := by decide +kernel
theorem dX1_fewestFrom_38 : decode cX1_fewestFrom 38 = .ok (.iload_n 2, 1) := by decide +kernel
theorem dX1_fewestFrom_39 : decode cX1_fewestFrom 39 = .ok (.iadd, 1) := by decide +kernel
theorem dX1_fewestFrom_40 : decode cX1_fewestFrom 40 = .ok (.iaload, 1) := by decide +kernel
theorem dX1_fewestFrom_41 : decode cX1_fewestFrom 41 = .ok (.goto 6, 3) := by decide +kernel
theorem dX1_fewestFrom_44 : decode cX1_fewestFrom 44 = .ok (.sipush 1000, 3) := by decide +kernel
theorem dX1_fewestFrom_47 : decode cX1_fewestFrom 47 = .ok (.ireturn, 1) := by decide +kernel
theorem dX1_partOf_0 : decode cX1_partOf 0 = .ok (.iload_n 2, 1) := by decide +kernel
theorem dX1_partOf_1 : decode cX1_partOf 1 = .ok (.istore_n 3, 1) := by decide +kernel
theorem dX1_partOf_2 : decode cX1_partOf 2 = .ok (.iconst 0, 1) := by decide +kernel
theorem dX1_partOf_3 : decode cX1_partOf 3 = .ok (.istore 4, 2) := by decide +kernel
theorem dX1_partOf_5 : decode cX1_partOf 5 = .ok (.iconst 0, 1) := by decide +kernel
theorem dX1_partOf_6 : decode cX1_partOf 6 = .ok (.istore 5, 2) := by decide +kernel
theorem dX1_partOf_8 : decode cX1_partOf 8 = .ok (.iload 5, 2) := by decide +kernel
theorem dX1_partOf_10 : decode cX1_partOf 10 = .ok (.iload_n 1, 1) := by decide +kernel
theorem dX1_partOf_11 : decode cX1_partOf 11 = .ok (.if_icmp .gt 61, 3) := by decide +kernel
theorem dX1_partOf_14 : decode cX1_partOf 14 = .ok (.iload 5, 2) := by decide +kernel
theorem dX1_partOf_16 : decode cX1_partOf 16 = .ok (.bipush 6, 2) := by decide +kernel
theorem dX1_partOf_18 : decode cX1_partOf 18 = .ok (.if_icmp .ge 54, 3) := by decide +kernel
theorem dX1_partOf_21 : decode cX1_partOf 21 = .ok (.iload_n 3, 1) := by decide +kernel
theorem dX1_partOf_22 : decode cX1_partOf 22 = .ok (.iload 4, 2) := by decide +kernel
theorem dX1_partOf_24 : decode cX1_partOf 24 = .ok (.isub, 1) := by decide +kernel
theorem dX1_partOf_25 : decode cX1_partOf 25 = .ok (.istore_n 3, 1) := by decide +kernel
theorem dX1_partOf_26 : decode cX1_partOf 26 = .ok (.iconst 0, 1) := by decide +kernel
theorem dX1_partOf_27 : decode cX1_partOf 27 = .ok (.istore 4, 2) := by decide +kernel
theorem dX1_partOf_29 : decode cX1_partOf 29 = .ok (.iload 4, 2) := by decide +kernel
theorem dX1_partOf_31 : decode cX1_partOf 31 = .ok (.aload_n 0, 1) := by decide +kernel
theorem dX1_partOf_32 : decode cX1_partOf 32 = .ok (.iload 5, 2) := by decide +kernel
theorem dX1_partOf_34 : decode cX1_partOf 34 = .ok (.iload_n 3, 1) := by decide +kernel
theorem dX1_partOf_35 : decode cX1_partOf 35 = .ok (.invokevirtual 37, 3) := by decide +kernel
theorem dX1_partOf_38 : decode cX1_partOf 38 = .ok (.if_icmp .ge 28, 3) := by decide +kernel
theorem dX1_partOf_41 : decode cX1_partOf 41 = .ok (.aload_n 0, 1) := by decide +kernel
theorem dX1_partOf_42 : decode cX1_partOf 42 = .ok (.iload 5, 2) := by decide +kernel
theorem dX1_partOf_44 : decode cX1_partOf 44 = .ok (.iload_n 3, 1) := by decide +kernel
theorem dX1_partOf_45 : decode cX1_partOf 45 = .ok (.iload 4, 2) := by decide +kernel
theorem dX1_partOf_47 : decode cX1_partOf 47 = .ok (.invokevirtual 40, 3) := by decide +kernel
theorem dX1_partOf_50 : decode cX1_partOf 50 = .ok (.aload_n 0, 1) := by decide +kernel
theorem dX1_partOf_51 : decode cX1_partOf 51 = .ok (.iload 5, 2) := by decide +kernel
theorem dX1_partOf_53 : decode cX1_partOf 53 = .ok (.iload_n 3, 1) := by decide +kernel
theorem dX1_partOf_54 : decode cX1_partOf 54 = .ok (.invokevirtual 53, 3) := by decide +kernel
theorem dX1_partOf_57 : decode cX1_partOf 57 = .ok (.if_icmp .eq 9, 3) := by decide +kernel
theorem dX1_partOf_60 : decode cX1_partOf 60 = .ok (.iinc 4 1, 3) := by decide +kernel
theorem dX1_partOf_63 : decode cX1_partOf 63 = .ok (.goto (-34), 3) := by decide +kernel
theorem dX1_partOf_66 : decode cX1_partOf 66 = .ok (.iinc 5 1, 3) := by decide +kernel
theorem dX1_partOf_69 : decode cX1_partOf 69 = .ok (.goto (-61), 3) := by decide +kernel
theorem dX1_partOf_72 : decode cX1_partOf 72 = .ok (.iload 4, 2) := by decide +kernel
theorem dX1_partOf_74 : decode cX1_partOf 74 = .ok (.ireturn, 1) := by decide +kernel
theorem dX2_init_0 : decode cX2_init 0 = .ok (.aload_n 0, 1) := by decide +kernel
theorem dX2_init_1 : decode cX2_init 1 = .ok (.invokespecial 3, 3) := by decide +kernel
theorem dX2_init_4 : decode cX2_init 4 = .ok (.aload_n 0, 1) := by decide +kernel
theorem dX2_init_5 : decode cX2_init 5 = .ok (.bipush 21, 2) := by decide +kernel
theorem dX2_init_7 : decode cX2_init 7 = .ok (.newarray .long, 2) := by decide +kernel
theorem dX2_init_9 : decode cX2_init 9 = .ok (.putfield 9, 3) := by decide +kernel
theorem dX2_init_12 : decode cX2_init 12 = .ok (.aload_n 0, 1) := by decide +kernel
theorem dX2_init_13 : decode cX2_init 13 = .ok (.bipush 21, 2) := by decide +kernel
theorem dX2_init_15 : decode cX2_init 15 = .ok (.newarray .long, 2) := by decide +kernel
theorem dX2_init_17 : decode cX2_init 17 = .ok (.putfield 15, 3) := by decide +kernel
theorem dX2_init_20 : decode cX2_init 20 = .ok (.aload_n 0, 1) := by decide +kernel
theorem dX2_init_21 : decode cX2_init 21 = .ok (.iconst 0, 1) := by decide +kernel
theorem dX2_init_22 : decode cX2_init 22 = .ok (.putfield 18, 3) := by decide +kernel
theorem dX2_init_25 : decode cX2_init 25 = .ok (.aload_n 0, 1) := by decide +kernel
theorem dX2_init_26 : decode cX2_init 26 = .ok (.lconst 1, 1) := by decide +kernel
theorem dX2_init_27 : decode cX2_init 27 = .ok (.putfield 22, 3) := by decide +kernel
theorem dX2_init_30 : decode cX2_init 30 = .ok (.aload_n 0, 1) := by decide +kernel
theorem dX2_init_31 : decode cX2_init 31 = .ok (.lconst 0, 1) := by decide +kernel
theorem dX2_init_32 : decode cX2_init 32 = .ok (.putfield 26, 3) := by decide +kernel
theorem dX2_init_35 : decode cX2_init 35 = .ok (.return_, 1) := by decide +kernel
theorem dX2_begin_0 : decode cX2_begin 0 = .ok (.aload_n 0, 1) := by decide +kernel
theorem dX2_begin_1 : decode cX2_begin 1 = .ok (.iload_n 2, 1) := by decide +kernel
theorem dX2_begin_2 : decode cX2_begin 2 = .ok (.bipush 20, 2) := by decide +kernel
theorem dX2_begin_4 : decode cX2_begin 4 = .ok (.invokestatic 29, 3) := by decide +kernel
theorem dX2_begin_7 : decode cX2_begin 7 = .ok (.putfield 18, 3) := by decide +kernel
theorem dX2_begin_10 : decode cX2_begin 10 = .ok (.aload_n 0, 1) := by decide +kernel
theorem dX2_begin_11 : decode cX2_begin 11 = .ok (.lconst 1, 1) := by decide +kernel
theorem dX2_begin_12 : decode cX2_begin 12 = .ok (.putfield 22, 3) := by decide +kernel
theorem dX2_begin_15 : decode cX2_begin 15 = .ok (.aload_n 0, 1) := by decide +kernel
theorem dX2_begin_16 : decode cX2_begin 16 = .ok (.lconst 0, 1) := by decide +kernel
theorem dX2_begin_17 : decode cX2_begin 17 = .ok (.putfield 26, 3) := by decide +kernel
theorem dX2_begin_20 : decode cX2_begin 20 = .ok (.iconst 0, 1) := by decide +kernel
theorem dX2_begin_21 : decode cX2_begin 21 = .ok (.istore_n 3, 1) := by decide +kernel
theorem dX2_begin_22 : decode cX2_begin 22 = .ok (.iload_n 3, 1) := by decide +kernel
theorem dX2_begin_23 : decode cX2_begin 23 = .ok (.bipush 20, 2) := by decide +kernel
theorem dX2_begin_25 : decode cX2_begin 25 = .ok (.if_icmp .gt 25, 3) := by decide +kernel
theorem dX2_begin_28 : decode cX2_begin 28 = .ok (.aload_n 0, 1) := by decide +kernel
theorem dX2_begin_29 : decode cX2_begin 29 = .ok (.getfield 9, 3) := by decide +kernel
theorem dX2_begin_32 : decode cX2_begin 32 = .ok (.iload_n 3, 1) := by decide +kernel
theorem dX2_begin_33 : decode cX2_begin 33 = .ok (.iload_n 3, 1) := by decide +kernel
theorem dX2_begin_34 : decode cX2_begin 34 = .ok (.iload_n 1, 1) := by decide +kernel
theorem dX2_begin_35 : decode cX2_begin 35 = .ok (.if_icmp .ne 7, 3) := by decide +kernel
theorem dX2_begin_38 : decode cX2_begin 38 = .ok (.lconst 1, 1) := by decide +kernel
theorem dX2_begin_39 : decode cX2_begin 39 = .ok (.goto 4, 3) := by decide +kernel
theorem dX2_begin_42 : decode cX2_begin 42 = .ok (.lconst 0, 1) := by decide +kernel
theorem dX2_begin_43 : decode cX2_begin 43 = .ok (.lastore, 1) := by decide +kernel
theorem dX2_begin_44 : decode cX2_begin 44 = .ok (.iinc 3 1, 3) := by decide +kernel
theorem dX2_begin_47 : decode cX2_begin 47 = .ok (.goto (-25), 3) := by decide +kernel
theorem dX2_begin_50 : decode cX2_begin 50 = .ok (.return_, 1) := by decide +kernel
theorem dX2_passHour_0 : decode cX2_passHour 0 = .ok (.iconst 0, 1) := by decide +kernel
theorem dX2_passHour_1 : decode cX2_passHour 1 = .ok (.istore 4, 2) := by decide +kernel
theorem dX2_passHour_3 : decode cX2_passHour 3 = .ok (.iload 4, 2) := by decide +kernel
theorem dX2_passHour_5 : decode cX2_passHour 5 = .ok (.bipush 20, 2) := by decide +kernel
theorem dX2_passHour_7 : decode cX2_passHour 7 = .ok (.if_icmp .gt 17, 3) := by decide +kernel
theorem dX2_passHour_10 : decode cX2_passHour 10 = .ok (.aload_n 0, 1) := by decide +kernel
theorem dX2_passHour_11 : decode cX2_passHour 11 = .ok (.getfield 15, 3) := by decide +kernel
theorem dX2_passHour_14 : decode cX2_passHour 14 = .ok (.iload 4, 2) := by decide +kernel
theorem dX2_passHour_16 : decode cX2_passHour 16 = .ok (.lconst 0, 1) := by decide +kernel
theorem dX2_passHour_17 : decode cX2_passHour 17 = .ok (.lastore, 1) := by decide +kernel
theorem dX2_passHour_18 : decode cX2_passHour 18 = .ok (.iinc 4 1, 3) := by decide +kernel
theorem dX2_passHour_21 : decode cX2_passHour 21 = .ok (.goto (-18), 3) := by decide +kernel
theorem dX2_passHour_24 : decode cX2_passHour 24 = .ok (.lconst 0, 1) := by decide +kernel
theorem dX2_passHour_25 : decode cX2_passHour 25 = .ok (.lstore 4, 2) := by decide +kernel
theorem dX2_passHour_27 : decode cX2_passHour 27 = .ok (.iconst 0, 1) := by decide +kernel
theorem dX2_passHour_28 : decode cX2_passHour 28 = .ok (.istore 6, 2) := by decide +kernel
theorem dX2_passHour_30 : decode cX2_passHour 30 = .ok (.iload 6, 2) := by decide +kernel
theorem dX2_passHour_32 : decode cX2_passHour 32 = .ok (.aload_n 0, 1) := by decide +kernel
theorem dX2_passHour_33 : decode cX2_passHour 33 = .ok (.getfield 18, 3) := by decide +kernel
theorem dX2_passHour_36 : decode cX2_passHour 36 = .ok (.if_icmp .gt 93, 3) := by decide +kernel
theorem dX2_passHour_39 : decode cX2_passHour 39 = .ok (.aload_n 0, 1) := by decide +kernel
theorem dX2_passHour_40 : decode cX2_passHour 40 = .ok (.getfield 9, 3) := by decide +kernel
theorem dX2_passHour_43 : decode cX2_passHour 43 = .ok (.iload 6, 2) := by decide +kernel
theorem dX2_passHour_45 : decode cX2_passHour 45 = .ok (.laload, 1) := by decide +kernel
theorem dX2_passHour_46 : decode cX2_passHour 46 = .ok (.iload_n 2, 1) := by decide +kernel
theorem dX2_passHour_47 : decode cX2_passHour 47 = .ok (.i2l, 1) := by decide +kernel
theorem dX2_passHour_48 : decode cX2_passHour 48 = .ok (.lmul, 1) := by decide +kernel
theorem dX2_passHour_49 : decode cX2_passHour 49 = .ok (.lstore 7, 2) := by decide +kernel
theorem dX2_passHour_51 : decode cX2_passHour 51 = .ok (.iload 6, 2) := by decide +kernel
theorem dX2_passHour_53 : decode cX2_passHour 53 = .ok (.iload_n 1, 1) := by decide +kernel
theorem dX2_passHour_54 : decode cX2_passHour 54 = .ok (.iadd, 1) := by decide +kernel
theorem dX2_passHour_55 : decode cX2_passHour 55 = .ok (.istore 9, 2) := by decide +kernel
theorem dX2_passHour_57 : decode cX2_passHour 57 = .ok (.aload_n 0, 1) := by decide +kernel
theorem dX2_passHour_58 : decode cX2_passHour 58 = .ok (.getfield 15, 3) := by decide +kernel
theorem dX2_passHour_61 : decode cX2_passHour 61 = .ok (.iconst 0, 1) := by decide +kernel
theorem dX2_passHour_62 : decode cX2_passHour 62 = .ok (.iload 6, 2) := by decide +kernel
theorem dX2_passHour_64 : decode cX2_passHour 64 = .ok (.iconst 1, 1) := by decide +kernel
theorem dX2_passHour_65 : decode cX2_passHour 65 = .ok (.isub, 1) := by decide +kernel
theorem dX2_passHour_66 : decode cX2_passHour 66 = .ok (.invokestatic 35, 3) := by decide +kernel
theorem dX2_passHour_69 : decode cX2_passHour 69 = .ok (.dup2, 1) := by decide +kernel
theorem dX2_passHour_70 : decode cX2_passHour 70 = .ok (.laload, 1) := by decide +kernel
theorem dX2_passHour_71 : decode cX2_passHour 71 = .ok (.aload_n 0, 1) := by decide +kernel
theorem dX2_passHour_72 : decode cX2_passHour 72 = .ok (.getfield 9, 3) := by decide +kernel
theorem dX2_passHour_75 : decode cX2_passHour 75 = .ok (.iload 6, 2) := by decide +kernel
theorem dX2_passHour_77 : decode cX2_passHour 77 = .ok (.laload, 1) := by decide +kernel
theorem dX2_passHour_78 : decode cX2_passHour 78 = .ok (.bipush 10, 2) := by decide +kernel
theorem dX2_passHour_80 : decode cX2_passHour 80 = .ok (.iload_n 2, 1) := by decide +kernel
theorem dX2_passHour_81 : decode cX2_passHour 81 = .ok (.isub, 1) := by decide +kernel
theorem dX2_passHour_82 : decode cX2_passHour 82 = .ok (.i2l, 1) := by decide +kernel
theorem dX2_passHour_83 : decode cX2_passHour 83 = .ok (.lmul, 1) := by decide +kernel
theorem dX2_passHour_84 : decode cX2_passHour 84 = .ok (.ladd, 1) := by decide +kernel
theorem dX2_passHour_85 : decode cX2_passHour 85 = .ok (.lastore, 1) := by decide +kernel
theorem dX2_passHour_86 : decode cX2_passHour 86 = .ok (.iload 9, 2) := by decide +kernel
theorem dX2_passHour_88 : decode cX2_passHour 88 = .ok (.aload_n 0, 1) := by decide +kernel
theorem dX2_passHour_89 : decode cX2_passHour 89 = .ok (.getfield 18, 3) := by decide +kernel
theorem dX2_passHour_92 : decode cX2_passHour 92 = .ok (.if_icmp .le 13, 3) := by decide +kernel
theorem dX2_passHour_95 : decode cX2_passHour 95 = .ok (.lload 4, 2) := by decide +kernel
theorem dX2_passHour_97 : decode cX2_passHour 97 = .ok (.lload 7, 2) := by decide +kernel
theorem dX2_passHour_99 : decode cX2_passHour 99 = .ok (.ladd, 1) := by decide +kernel
theorem dX2_passHour_100 : decode cX2_passHour 100 = .ok (.lstore 4, 2) := by decide +kernel
theorem dX2_passHour_102 : decode cX2_passHour 102 = .ok (.goto 21, 3) := by decide +kernel
theorem dX2_passHour_105 : decode cX2_passHour 105 = .ok (.aload_n 0, 1) := by decide +kernel
theorem dX2_passHour_106 : decode cX2_passHour 106 = .ok (.getfield 15, 3) := by decide +kernel
theorem dX2_passHour_109 : decode cX2_passHour 109 = .ok (.iconst 0, 1) := by decide +kernel
theorem dX2_passHour_110 : decode cX2_passHour 110 = .ok (.iload 9, 2) := by decide +kernel
theorem dX2_passHour_112 : decode cX2_passHour 112 = .ok (.iconst 1, 1) := by decide +kernel
theorem dX2_passHour_113 : decode cX2_passHour 113 = .ok (.isub, 1) := by decide +kernel
theorem dX2_passHour_114 : decode cX2_passHour 114 = .ok (.invokestatic 35, 3) := by decide +kernel
theorem dX2_passHour_117 : decode cX2_passHour 117 = .ok (.dup2, 1) := by decide +kernel
theorem dX2_passHour_118 : decode cX2_passHour 118 = .ok (.laload, 1) := by decide +kernel
theorem dX2_passHour_119 : decode cX2_passHour 119 = .ok (.lload 7, 2) := by decide +kernel
theorem dX2_passHour_121 : decode cX2_passHour 121 = .ok (.ladd, 1) := by decide +kernel
theorem dX2_passHour_122 : decode cX2_passHour 122 = .ok (.lastore, 1) := by decide +kernel
theorem dX2_passHour_123 : decode cX2_passHour 123 = .ok (.iinc 6 1, 3) := by decide +kernel
theorem dX2_passHour_126 : decode cX2_passHour 126 = .ok (.goto (-96), 3) := by decide +kernel
theorem dX2_passHour_129 : decode cX2_passHour 129 = .ok (.iload_n 3, 1) := by decide +kernel
theorem dX2_passHour_130 : decode cX2_passHour 130 = .ok (.ifCond .eq 14, 3) := by decide +kernel
theorem dX2_passHour_133 : decode cX2_passHour 133 = .ok (.aload_n 0, 1) := by decide +kernel
theorem dX2_passHour_134 : decode cX2_passHour 134 = .ok (.getfield 15, 3) := by decide +kernel
theorem dX2_passHour_137 : decode cX2_passHour 137 = .ok (.iconst 0, 1) := by decide +kernel
theorem dX2_passHour_138 : decode cX2_passHour 138 = .ok (.dup2, 1) := by decide +kernel
theorem dX2_passHour_139 : decode cX2_passHour 139 = .ok (.laload, 1) := by decide +kernel
theorem dX2_passHour_140 : decode cX2_passHour 140 = .ok (.lload 4, 2) := by decide +kernel
theorem dX2_passHour_142 : decode cX2_passHour 142 = .ok (.ladd, 1) := by decide +kernel
theorem dX2_passHour_143 : decode cX2_passHour 143 = .ok (.lastore, 1) := by decide +kernel
theorem dX2_passHour_144 : decode cX2_passHour 144 = .ok (.aload_n 0, 1) := by decide +kernel
theorem dX2_passHour_145 : decode cX2_passHour 145 = .ok (.getfield 15, 3) := by decide +kernel
theorem dX2_passHour_148 : decode cX2_passHour 148 = .ok (.iconst 0, 1) := by decide +kernel
theorem dX2_passHour_149 : decode cX2_passHour 149 = .ok (.aload_n 0, 1) := by decide +kernel
theorem dX2_passHour_150 : decode cX2_passHour 150 = .ok (.getfield 9, 3) := by decide +kernel
theorem dX2_passHour_153 : decode cX2_passHour 153 = .ok (.iconst 0, 1) := by decide +kernel
theorem dX2_passHour_154 : decode cX2_passHour 154 = .ok (.bipush 21, 2) := by decide +kernel
theorem dX2_passHour_156 : decode cX2_passHour 156 = .ok (.invokestatic 38, 3) := by decide +kernel
theorem dX2_passHour_159 : decode cX2_passHour 159 = .ok (.aload_n 0, 1) := by decide +kernel
theorem dX2_passHour_160 : decode cX2_passHour 160 = .ok (.aload_n 0, 1) := by decide +kernel
theorem dX2_passHour_161 : decode cX2_passHour 161 = .ok (.getfield 26, 3) := by decide +kernel
theorem dX2_passHour_164 : decode cX2_passHour 164 = .ok (.ldc2_w 44, 3) := by decide +kernel
theorem dX2_passHour_167 : decode cX2_passHour 167 = .ok (.lmul, 1) := by decide +kernel
theorem dX2_passHour_168 : decode cX2_passHour 168 = .ok (.lload 4, 2) := by decide +kernel
theorem dX2_passHour_170 : decode cX2_passHour 170 = .ok (.ladd, 1) := by decide +kernel
theorem dX2_passHour_171 : decode cX2_passHour 171 = .ok (.putfield 26, 3) := by decide +kernel
theorem dX2_passHour_174 : decode cX2_passHour 174 = .ok (.aload_n 0, 1) := by decide +kernel
theorem dX2_passHour_175 : decode cX2_passHour 175 = .ok (.dup, 1) := by decide +kernel
theorem dX2_passHour_176 : decode cX2_passHour 176 = .ok (.getfield 22, 3) := by decide +kernel
theorem dX2_passHour_179 : decode cX2_passHour 179 = .ok (.ldc2_w 44, 3) := by decide +kernel
theorem dX2_passHour_182 : decode cX2_passHour 182 = .ok (.lmul, 1) := by decide +kernel
theorem dX2_passHour_183 : decode cX2_passHour 183 = .ok (.putfield 22, 3) := by decide +kernel
theorem dX2_passHour_186 : decode cX2_passHour 186 = .ok (.return_, 1) := by decide +kernel
theorem dX2_calm_0 : decode cX2_calm 0 = .ok (.lconst 0, 1) := by decide +kernel
theorem dX2_calm_1 : decode cX2_calm 1 = .ok (.lstore_n 1, 1) := by decide +kernel
theorem dX2_calm_2 : decode cX2_calm 2 = .ok (.iconst 0, 1) := by decide +kernel
theorem dX2_calm_3 : decode cX2_calm 3 = .ok (.istore_n 3, 1) := by decide +kernel
theorem dX2_calm_4 : decode cX2_calm 4 = .ok (.iload_n 3, 1) := by decide +kernel
theorem dX2_calm_5 : decode cX2_calm 5 = .ok (.bipush 20, 2) := by decide +kernel
theorem dX2_calm_7 : decode cX2_calm 7 = .ok (.if_icmp .gt 18, 3) := by decide +kernel
theorem dX2_calm_10 : decode cX2_calm 10 = .ok (.lload_n 1, 1) := by decide +kernel
theorem dX2_calm_11 : decode cX2_calm 11 = .ok (.aload_n 0, 1) := by decide +kernel
theorem dX2_calm_12 : decode cX2_calm 12 = .ok (.getfield 9, 3) := by decide +kernel
theorem dX2_calm_15 : decode cX2_calm 15 = .ok (.iload_n 3, 1) := by decide +kernel
theorem dX2_calm_16 : decode cX2_calm 16 = .ok (.laload, 1) := by decide +kernel
theorem dX2_calm_17 : decode cX2_calm 17 = .ok (.ladd, 1) := by decide +kernel
theorem dX2_calm_18 : decode cX2_calm 18 = .ok (.lstore_n 1, 1) := by decide +kernel
theorem dX2_calm_19 : decode cX2_calm 19 = .ok (.iinc 3 1, 3) := by decide +kernel
theorem dX2_calm_22 : decode cX2_calm 22 = .ok (.goto (-18), 3) := by decide +kernel
theorem dX2_calm_25 : decode cX2_calm 25 = .ok (.lload_n 1, 1) := by decide +kernel
theorem dX2_calm_26 : decode cX2_calm 26 = .ok (.lreturn, 1) := by decide +kernel
theorem dX3_init_0 : decode cX3_init 0 = .ok (.aload_n 0, 1) := by decide +kernel
theorem dX3_init_1 : decode cX3_init 1 = .ok (.invokespecial 3, 3) := by decide +kernel
theorem dX3_init_4 : decode cX3_init 4 = .ok (.aload_n 0, 1) := by decide +kernel
theorem dX3_init_5 : decode cX3_init 5 = .ok (.bipush 60, 2) := by decide +kernel
theorem dX3_init_7 : decode cX3_init 7 = .ok (.newarray .int, 2) := by decide +kernel
theorem dX3_init_9 : decode cX3_init 9 = .ok (.putfield 9, 3) := by decide +kernel
theorem dX3_init_12 : decode cX3_init 12 = .ok (.aload_n 0, 1) := by decide +kernel
theorem dX3_init_13 : decode cX3_init 13 = .ok (.iconst 0, 1) := by decide +kernel
theorem dX3_init_14 : decode cX3_init 14 = .ok (.putfield 15, 3) := by decide +kernel
theorem dX3_init_17 : decode cX3_init 17 = .ok (.return_, 1) := by decide +kernel
theorem dX3_add_0 : decode cX3_add 0 = .ok (.aload_n 0, 1) := by decide +kernel
theorem dX3_add_1 : decode cX3_add 1 = .ok (.getfield 15, 3) := by decide +kernel
theorem dX3_add_4 : decode cX3_add 4 = .ok (.iconst 0, 1) := by decide +kernel
theorem dX3_add_5 : decode cX3_add 5 = .ok (.bipush 59, 2) := by decide +kernel
theorem dX3_add_7 : decode cX3_add 7 = .ok (.invokestatic 19, 3) := by decide +kernel
theorem dX3_add_10 : decode cX3_add 10 = .ok (.ifCond .eq 23, 3) := by decide +kernel
theorem dX3_add_13 : decode cX3_add 13 = .ok (.aload_n 0, 1) := by decide +kernel
theorem dX3_add_14 : decode cX3_add 14 = .ok (.getfield 9, 3) := by decide +kernel
theorem dX3_add_17 : decode cX3_add 17 = .ok (.aload_n 0, 1) := by decide +kernel
theorem dX3_add_18 : decode cX3_add 18 = .ok (.getfield 15, 3) := by decide +kernel
theorem dX3_add_21 : decode cX3_add 21 = .ok (.iload_n 1, 1) := by decide +kernel
theorem dX3_add_22 : decode cX3_add 22 = .ok (.iastore, 1) := by decide +kernel
theorem dX3_add_23 : decode cX3_add 23 = .ok (.aload_n 0, 1) := by decide +kernel
theorem dX3_add_24 : decode cX3_add 24 = .ok (.dup, 1) := by decide +kernel
theorem dX3_add_25 : decode cX3_add 25 = .ok (.getfield 15, 3) := by decide +kernel
theorem dX3_add_28 : decode cX3_add 28 = .ok (.iconst 1, 1) := by decide +kernel
theorem dX3_add_29 : decode cX3_add 29 = .ok (.iadd, 1) := by decide +kernel
theorem dX3_add_30 : decode cX3_add 30 = .ok (.putfield 15, 3) := by decide +kernel
theorem dX3_add_33 : decode cX3_add 33 = .ok (.return_, 1) := by decide +kernel
theorem dX3_at_0 : decode cX3_at 0 = .ok (.iload_n 1, 1) := by decide +kernel
theorem dX3_at_1 : decode cX3_at 1 = .ok (.ifCond .lt 26, 3) := by decide +kernel
theorem dX3_at_4 : decode cX3_at 4 = .ok (.iload_n 1, 1) := by decide +kernel
theorem dX3_at_5 : decode cX3_at 5 = .ok (.aload_n 0, 1) := by decide +kernel
theorem dX3_at_6 : decode cX3_at 6 = .ok (.getfield 15, 3) := by decide +kernel
theorem dX3_at_9 : decode cX3_at 9 = .ok (.if_icmp .ge 18, 3) := by decide +kernel
theorem dX3_at_12 : decode cX3_at 12 = .ok (.iload_n 1, 1) := by decide +kernel
theorem dX3_at_13 : decode cX3_at 13 = .ok (.bipush 60, 2) := by decide +kernel
theorem dX3_at_15 : decode cX3_at 15 = .ok (.if_icmp .ge 12, 3) := by decide +kernel
theorem dX3_at_18 : decode cX3_at 18 = .ok (.aload_n 0, 1) := by decide +kernel
theorem dX3_at_19 : decode cX3_at 19 = .ok (.getfield 9, 3) := by decide +kernel
theorem dX3_at_22 : decode cX3_at 22 = .ok (.iload_n 1, 1) := by decide +kernel
theorem dX3_at_23 : decode cX3_at 23 = .ok (.iaload, 1) := by decide +kernel
theorem dX3_at_24 : decode cX3_at 24 = .ok (.goto 4, 3) := by decide +kernel
theorem dX3_at_27 : decode cX3_at 27 = .ok (.iconst 0, 1) := by decide +kernel
theorem dX3_at_28 : decode cX3_at 28 = .ok (.ireturn, 1) := by decide +kernel
theorem dX3_firstFault_0 : decode cX3_firstFault 0 = .ok (.iconst 0, 1) := by decide +kernel
theorem dX3_firstFault_1 : decode cX3_firstFault 1 = .ok (.istore_n 1, 1) := by decide +kernel
theorem dX3_firstFault_2 : decode cX3_firstFault 2 = .ok (.iconst 0, 1) := by decide +kernel
theorem dX3_firstFault_3 : decode cX3_firstFault 3 = .ok (.istore_n 2, 1) := by decide +kernel
theorem dX3_firstFault_4 : decode cX3_firstFault 4 = .ok (.iload_n 2, 1) := by decide +kernel
theorem dX3_firstFault_5 : decode cX3_firstFault 5 = .ok (.aload_n 0, 1) := by decide +kernel
theorem dX3_firstFault_6 : decode cX3_firstFault 6 = .ok (.getfield 15, 3) := by decide +kernel
theorem dX3_firstFault_9 : decode cX3_firstFault 9 = .ok (.if_icmp .ge 37, 3) := by decide +kernel
theorem dX3_firstFault_12 : decode cX3_firstFault 12 = .ok (.aload_n 0, 1) := by decide +kernel
theorem dX3_firstFault_13 : decode cX3_firstFault 13 = .ok (.iload_n 1, 1) := by decide +kernel
theorem dX3_firstFault_14 : decode cX3_firstFault 14 = .ok (.iload_n 2, 1) := by decide +kernel
theorem dX3_firstFault_15 : decode cX3_firstFault 15 = .ok (.invokevirtual 23, 3) := by decide +kernel
theorem dX3_firstFault_18 : decode cX3_firstFault 18 = .ok (.ifCond .ne 5, 3) := by decide +kernel
theorem dX3_firstFault_21 : decode cX3_firstFault 21 = .ok (.iload_n 2, 1) := by decide +kernel
theorem dX3_firstFault_22 : decode cX3_firstFault 22 = .ok (.ireturn, 1) := by decide +kernel
theorem dX3_firstFault_23 : decode cX3_firstFault 23 = .ok (.iload_n 2, 1) := by decide +kernel
theorem dX3_firstFault_24 : decode cX3_firstFault 24 = .ok (.iload_n 1, 1) := by decide +kernel
theorem dX3_firstFault_25 : decode cX3_firstFault 25 = .ok (.isub, 1) := by decide +kernel
theorem dX3_firstFault_26 : decode cX3_firstFault 26 = .ok (.iconst 1, 1) := by decide +kernel
theorem dX3_firstFault_27 : decode cX3_firstFault 27 = .ok (.iadd, 1) := by decide +kernel
theorem dX3_firstFault_28 : decode cX3_firstFault 28 = .ok (.aload_n 0, 1) := by decide +kernel
theorem dX3_firstFault_29 : decode cX3_firstFault 29 = .ok (.iload_n 1, 1) := by decide +kernel
theorem dX3_firstFault_30 : decode cX3_firstFault 30 = .ok (.invokevirtual 27, 3) := by decide +kernel
theorem dX3_firstFault_33 : decode cX3_firstFault 33 = .ok (.if_icmp .ne 7, 3) := by decide +kernel
theorem dX3_firstFault_36 : decode cX3_firstFault 36 = .ok (.iload_n 2, 1) := by decide +kernel
theorem dX3_firstFault_37 : decode cX3_firstFault 37 = .ok (.iconst 1, 1) := by decide +kernel
theorem dX3_firstFault_38 : decode cX3_firstFault 38 = .ok (.iadd, 1) := by decide +kernel
theorem dX3_firstFault_39 : decode cX3_firstFault 39 = .ok (.istore_n 1, 1) := by decide +kernel
theorem dX3_firstFault_40 : decode cX3_firstFault 40 = .ok (.iinc 2 1, 3) := by decide +kernel
theorem dX3_firstFault_43 : decode cX3_firstFault 43 = .ok (.goto (-39), 3) := by decide +kernel
theorem dX3_firstFault_46 : decode cX3_firstFault 46 = .ok (.iload_n 1, 1) := by decide +kernel
theorem dX3_firstFault_47 : decode cX3_firstFault 47 = .ok (.aload_n 0, 1) := by decide +kernel
theorem dX3_firstFault_48 : decode cX3_firstFault 48 = .ok (.getfield 15, 3) := by decide +kernel
theorem dX3_firstFault_51 : decode cX3_firstFault 51 = .ok (.if_icmp .ge 10, 3) := by decide +kernel
theorem dX3_firstFault_54 : decode cX3_firstFault 54 = .ok (.aload_n 0, 1) := by decide +kernel
theorem dX3_firstFault_55 : decode cX3_firstFault 55 = .ok (.getfield 15, 3) := by decide +kernel
theorem dX3_firstFault_58 : decode cX3_firstFault 58 = .ok (.goto 5, 3) := by decide +kernel
theorem dX3_firstFault_61 : decode cX3_firstFault 61 = .ok (.bipush (-6), 2) := by decide +kernel
theorem dX3_firstFault_63 : decode cX3_firstFault 63 = .ok (.ireturn, 1) := by decide +kernel
theorem dX3_lengthAt_0 : decode cX3_lengthAt 0 = .ok (.aload_n 0, 1) := by decide +kernel
theorem dX3_lengthAt_1 : decode cX3_lengthAt 1 = .ok (.iload_n 1, 1) := by decide +kernel
theorem dX3_lengthAt_2 : decode cX3_lengthAt 2 = .ok (.invokevirtual 31, 3) := by decide +kernel
theorem dX3_lengthAt_5 : decode cX3_lengthAt 5 = .ok (.bipush 46, 2) := by decide +kernel
theorem dX3_lengthAt_7 : decode cX3_lengthAt 7 = .ok (.if_icmp .ne 5, 3) := by decide +kernel
theorem dX3_lengthAt_10 : decode cX3_lengthAt 10 = .ok (.iconst 1, 1) := by decide +kernel
theorem dX3_lengthAt_11 : decode cX3_lengthAt 11 = .ok (.ireturn, 1) := by decide +kernel
theorem dX3_lengthAt_12 : decode cX3_lengthAt 12 = .ok (.aload_n 0, 1) := by decide +kernel
theorem dX3_lengthAt_13 : decode cX3_lengthAt 13 = .ok (.iload_n 1, 1) := by decide +kernel
theorem dX3_lengthAt_14 : decode cX3_lengthAt 14 = .ok (.iconst 1, 1) := by decide +kernel
theorem dX3_lengthAt_15 : decode cX3_lengthAt 15 = .ok (.iadd, 1) := by decide +kernel
theorem dX3_lengthAt_16 : decode cX3_lengthAt 16 = .ok (.invokevirtual 31, 3) := by decide +kernel
theorem dX3_lengthAt_19 : decode cX3_lengthAt 19 = .ok (.bipush 62, 2) := by decide +kernel
theorem dX3_lengthAt_21 : decode cX3_lengthAt 21 = .ok (.if_icmp .ne 7, 3) := by decide +kernel
theorem dX3_lengthAt_24 : decode cX3_lengthAt 24 = .ok (.iconst 4, 1) := by decide +kernel
theorem dX3_lengthAt_25 : decode cX3_lengthAt 25 = .ok (.goto 4, 3) := by decide +kernel
theorem dX3_lengthAt_28 : decode cX3_lengthAt 28 = .ok (.iconst 3, 1) := by decide +kernel
theorem dX3_lengthAt_29 : decode cX3_lengthAt 29 = .ok (.ireturn, 1) := by decide +kernel
theorem dX3_canStand_0 : decode cX3_canStand 0 = .ok (.aload_n 0, 1) := by decide +kernel
theorem dX3_canStand_1 : decode cX3_canStand 1 = .ok (.iload_n 2, 1) := by decide +kernel
theorem dX3_canStand_2 : decode cX3_canStand 2 = .ok (.invokevirtual 31, 3) := by decide +kernel
theorem dX3_canStand_5 : decode cX3_canStand 5 = .ok (.istore_n 3, 1) := by decide +kernel
theorem dX3_canStand_6 : decode cX3_canStand 6 = .ok (.iload_n 2, 1) := by decide +kernel
theorem dX3_canStand_7 : decode cX3_canStand 7 = .ok (.iload_n 1, 1) := by decide +kernel
theorem dX3_canStand_8 : decode cX3_canStand 8 = .ok (.isub, 1) := by decide +kernel
theorem dX3_canStand_9 : decode cX3_canStand 9 = .ok (.tableswitch 107 0 2 #[27, 48, 81], 27) := by decide +kernel
theorem dX3_canStand_36 : decode cX3_canStand 36 = .ok (.iload_n 3, 1) := by decide +kernel
theorem dX3_canStand_37 : decode cX3_canStand 37 = .ok (.bipush 46, 2) := by decide +kernel
theorem dX3_canStand_39 : decode cX3_canStand 39 = .ok (.if_icmp .eq 12, 3) := by decide +kernel
theorem dX3_canStand_42 : decode cX3_canStand 42 = .ok (.iload_n 3, 1) := by decide +kernel
theorem dX3_canStand_43 : decode cX3_canStand 43 = .ok (.invokestatic 34, 3) := by decide +kernel
theorem dX3_canStand_46 : decode cX3_canStand 46 = .ok (.bipush (-6), 2) := by decide +kernel
theorem dX3_canStand_48 : decode cX3_canStand 48 = .ok (.if_icmp .eq 7, 3) := by decide +kernel
theorem dX3_canStand_51 : decode cX3_canStand 51 = .ok (.iconst 1, 1) := by decide +kernel
theorem dX3_canStand_52 : decode cX3_canStand 52 = .ok (.goto 4, 3) := by decide +kernel
theorem dX3_canStand_55 : decode cX3_canStand 55 = .ok (.iconst 0, 1) := by decide +kernel
theorem dX3_canStand_56 : decode cX3_canStand 56 = .ok (.ireturn, 1) := by decide +kernel
theorem dX3_canStand_57 : decode cX3_canStand 57 = .ok (.iload_n 3, 1) := by decide +kernel
theorem dX3_canStand_58 : decode cX3_canStand 58 = .ok (.bipush 33, 2) := by decide +kernel
theorem dX3_canStand_60 : decode cX3_canStand 60 = .ok (.if_icmp .eq 24, 3) := by decide +kernel
theorem dX3_canStand_63 : decode cX3_canStand 63 = .ok (.iload_n 3, 1) := by decide +kernel
theorem dX3_canStand_64 : decode cX3_canStand 64 = .ok (.bipush 62, 2) := by decide +kernel
theorem dX3_canStand_66 : decode cX3_canStand 66 = .ok (.if_icmp .eq 18, 3) := by decide +kernel
theorem dX3_canStand_69 : decode cX3_canStand 69 = .ok (.iload_n 3, 1) := by decide +kernel
theorem dX3_canStand_70 : decode cX3_canStand 70 = .ok (.bipush 64, 2) := by decide +kernel
theorem dX3_canStand_72 : decode cX3_canStand 72 = .ok (.if_icmp .eq 12, 3) := by decide +kernel
theorem dX3_canStand_75 : decode cX3_canStand 75 = .ok (.iload_n 3, 1) := by decide +kernel
theorem dX3_canStand_76 : decode cX3_canStand 76 = .ok (.invokestatic 37, 3) := by decide +kernel
theorem dX3_canStand_79 : decode cX3_canStand 79 = .ok (.bipush (-6), 2) := by decide +kernel
theorem dX3_canStand_81 : decode cX3_canStand 81 = .ok (.if_icmp .eq 7, 3) := by decide +kernel
theorem dX3_canStand_84 : decode cX3_canStand 84 = .ok (.iconst 1, 1) := by decide +kernel
theorem dX3_canStand_85 : decode cX3_canStand 85 = .ok (.goto 4, 3) := by decide +kernel
theorem dX3_canStand_88 : decode cX3_canStand 88 = .ok (.iconst 0, 1) := by decide +kernel
theorem dX3_canStand_89 : decode cX3_canStand 89 = .ok (.ireturn, 1) := by decide +kernel
theorem dX3_canStand_90 : decode cX3_canStand 90 = .ok (.iload_n 3, 1) := by decide +kernel
theorem dX3_canStand_91 : decode cX3_canStand 91 = .ok (.aload_n 0, 1) := by decide +kernel
theorem dX3_canStand_92 : decode cX3_canStand 92 = .ok (.iload_n 1, 1) := by decide +kernel
theorem dX3_canStand_93 : decode cX3_canStand 93 = .ok (.iconst 1, 1) := by decide +kernel
theorem dX3_canStand_94 : decode cX3_canStand 94 = .ok (.iadd, 1) := by decide +kernel
theorem dX3_canStand_95 : decode cX3_canStand 95 = .ok (.invokevirtual 31, 3) := by decide +kernel
theorem dX3_canStand_98 : decode cX3_canStand 98 = .ok (.bipush 64, 2) := by decide +kernel
theorem dX3_canStand_100 : decode cX3_canStand 100 = .ok (.if_icmp .ne 8, 3) := by decide +kernel
theorem dX3_canStand_103 : decode cX3_canStand 103 = .ok (.bipush 48, 2) := by decide +kernel
theorem dX3_canStand_105 : decode cX3_canStand 105 = .ok (.goto 5, 3) := by decide +kernel
theorem dX3_canStand_108 : decode cX3_canStand 108 = .ok (.bipush 49, 2) := by decide +kernel
theorem dX3_canStand_110 : decode cX3_canStand 110 = .ok (.bipush 57, 2) := by decide +kernel
theorem dX3_canStand_112 : decode cX3_canStand 112 = .ok (.invokestatic 19, 3) := by decide +kernel
theorem dX3_canStand_115 : decode cX3_canStand 115 = .ok (.ireturn, 1) := by decide +kernel
theorem dX3_canStand_116 : decode cX3_canStand 116 = .ok (.iload_n 3, 1) := by decide +kernel
theorem dX3_canStand_117 : decode cX3_canStand 117 = .ok (.invokestatic 34, 3) := by decide +kernel
theorem dX3_canStand_120 : decode cX3_canStand 120 = .ok (.bipush (-6), 2) := by decide +kernel
theorem dX3_canStand_122 : decode cX3_canStand 122 = .ok (.if_icmp .eq 7, 3) := by decide +kernel
theorem dX3_canStand_125 : decode cX3_canStand 125 = .ok (.iconst 1, 1) := by decide +kernel
theorem dX3_canStand_126 : decode cX3_canStand 126 = .ok (.goto 4, 3) := by decide +kernel
theorem dX3_canStand_129 : decode cX3_canStand 129 = .ok (.iconst 0, 1) := by decide +kernel
theorem dX3_canStand_130 : decode cX3_canStand 130 = .ok (.ireturn, 1) := by decide +kernel
theorem dX3_oneOf_0 : decode cX3_oneOf 0 = .ok (.iload_n 0, 1) := by decide +kernel
theorem dX3_oneOf_1 : decode cX3_oneOf 1 = .ok (.bipush 65, 2) := by decide +kernel
theorem dX3_oneOf_3 : decode cX3_oneOf 3 = .ok (.bipush 70, 2) := by decide +kernel
theorem dX3_oneOf_5 : decode cX3_oneOf 5 = .ok (.invokestatic 19, 3) := by decide +kernel
theorem dX3_oneOf_8 : decode cX3_oneOf 8 = .ok (.ifCond .eq 10, 3) := by decide +kernel
theorem dX3_oneOf_11 : decode cX3_oneOf 11 = .ok (.iload_n 0, 1) := by decide +kernel
theorem dX3_oneOf_12 : decode cX3_oneOf 12 = .ok (.bipush 65, 2) := by decide +kernel
theorem dX3_oneOf_14 : decode cX3_oneOf 14 = .ok (.isub, 1) := by decide +kernel
theorem dX3_oneOf_15 : decode cX3_oneOf 15 = .ok (.goto 5, 3) := by decide +kernel
theorem dX3_oneOf_18 : decode cX3_oneOf 18 = .ok (.bipush (-6), 2) := by decide +kernel
theorem dX3_oneOf_20 : decode cX3_oneOf 20 = .ok (.ireturn, 1) := by decide +kernel
theorem dX3_causeOf_0 : decode cX3_causeOf 0 = .ok (.iload_n 0, 1) := by decide +kernel
theorem dX3_causeOf_1 : decode cX3_causeOf 1 = .ok (.lookupswitch 51 #[(104, 43), (107, 49), (114, 45), (116, 47)], 43) := by decide +kernel
theorem dX3_causeOf_44 : decode cX3_causeOf 44 = .ok (.iconst 0, 1) := by decide +kernel
theorem dX3_causeOf_45 : decode cX3_causeOf 45 = .ok (.ireturn, 1) := by decide +kernel
theorem dX3_causeOf_46 : decode cX3_causeOf 46 = .ok (.iconst 1, 1) := by decide +kernel
theorem dX3_causeOf_47 : decode cX3_causeOf 47 = .ok (.ireturn, 1) := by decide +kernel
theorem dX3_causeOf_48 : decode cX3_causeOf 48 = .ok (.iconst 2, 1) := by decide +kernel
theorem dX3_causeOf_49 : decode cX3_causeOf 49 = .ok (.ireturn, 1) := by decide +kernel
theorem dX3_causeOf_50 : decode cX3_causeOf 50 = .ok (.iconst 3, 1) := by decide +kernel
theorem dX3_causeOf_51 : decode cX3_causeOf 51 = .ok (.ireturn, 1) := by decide +kernel
theorem dX3_causeOf_52 : decode cX3_causeOf 52 = .ok (.bipush (-6), 2) := by decide +kernel
theorem dX3_causeOf_54 : decode cX3_causeOf 54 = .ok (.ireturn, 1) := by decide +kernel
theorem dX4_init_0 : decode cX4_init 0 = .ok (.aload_n 0, 1) := by decide +kernel
theorem dX4_init_1 : decode cX4_init 1 = .ok (.invokespecial 3, 3) := by decide +kernel
theorem dX4_init_4 : decode cX4_init 4 = .ok (.aload_n 0, 1) := by decide +kernel
theorem dX4_init_5 : decode cX4_init 5 = .ok (.sipush 448, 3) := by decide +kernel
theorem dX4_init_8 : decode cX4_init 8 = .ok (.newarray .int, 2) := by decide +kernel
theorem dX4_init_10 : decode cX4_init 10 = .ok (.putfield 11, 3) := by decide +kernel
theorem dX4_init_13 : decode cX4_init 13 = .ok (.aload_n 0, 1) := by decide +kernel
theorem dX4_init_14 : decode cX4_init 14 = .ok (.bipush 6, 2) := by decide +kernel
theorem dX4_init_16 : decode cX4_init 16 = .ok (.newarray .int, 2) := by decide +kernel
theorem dX4_init_18 : decode cX4_init 18 = .ok (.putfield 15, 3) := by decide +kernel
theorem dX4_init_21 : decode cX4_init 21 = .ok (.aload_n 0, 1) := by decide +kernel
theorem dX4_init_22 : decode cX4_init 22 = .ok (.iconst 0, 1) := by decide +kernel
theorem dX4_init_23 : decode cX4_init 23 = .ok (.putfield 18, 3) := by decide +kernel
theorem dX4_init_26 : decode cX4_init 26 = .ok (.aload_n 0, 1) := by decide +kernel
theorem dX4_init_27 : decode cX4_init 27 = .ok (.iconst 0, 1) := by decide +kernel
theorem dX4_init_28 : decode cX4_init 28 = .ok (.putfield 22, 3) := by decide +kernel
theorem dX4_init_31 : decode cX4_init 31 = .ok (.return_, 1) := by decide +kernel
theorem dX4_reckon_0 : decode cX4_reckon 0 = .ok (.aload_n 0, 1) := by decide +kernel
theorem dX4_reckon_1 : decode cX4_reckon 1 = .ok (.iload_n 2, 1) := by decide +kernel
theorem dX4_reckon_2 : decode cX4_reckon 2 = .ok (.putfield 18, 3) := by decide +kernel
theorem dX4_reckon_5 : decode cX4_reckon 5 = .ok (.aload_n 0, 1) := by decide +kernel
theorem dX4_reckon_6 : decode cX4_reckon 6 = .ok (.aload_n 1, 1) := by decide +kernel
theorem dX4_reckon_7 : decode cX4_reckon 7 = .ok (.getfield 25, 3) := by decide +kernel
theorem dX4_reckon_10 : decode cX4_reckon 10 = .ok (.putfield 22, 3) := by decide +kernel
theorem dX4_reckon_13 : decode cX4_reckon 13 = .ok (.iconst 0, 1) := by decide +kernel
theorem dX4_reckon_14 : decode cX4_reckon 14 = .ok (.istore_n 3, 1) := by decide +kernel
theorem dX4_reckon_15 : decode cX4_reckon 15 = .ok (.iload_n 3, 1) := by decide +kernel
theorem dX4_reckon_16 : decode cX4_reckon 16 = .ok (.bipush 6, 2) := by decide +kernel
theorem dX4_reckon_18 : decode cX4_reckon 18 = .ok (.if_icmp .ge 21, 3) := by decide +kernel
theorem dX4_reckon_21 : decode cX4_reckon 21 = .ok (.aload_n 0, 1) := by decide +kernel
theorem dX4_reckon_22 : decode cX4_reckon 22 = .ok (.getfield 15, 3) := by decide +kernel
theorem dX4_reckon_25 : decode cX4_reckon 25 = .ok (.iload_n 3, 1) := by decide +kernel
theorem dX4_reckon_26 : decode cX4_reckon 26 = .ok (.aload_n 1, 1) := by decide +kernel
theorem dX4_reckon_27 : decode cX4_reckon 27 = .ok (.iload_n 3, 1) := by decide +kernel
theorem dX4_reckon_28 : decode cX4_reckon 28 = .ok (.iconst 0, 1) := by decide +kernel
theorem dX4_reckon_29 : decode cX4_reckon 29 = .ok (.invokevirtual 30, 3) := by decide +kernel
theorem dX4_reckon_32 : decode cX4_reckon 32 = .ok (.iastore, 1) := by decide +kernel
theorem dX4_reckon_33 : decode cX4_reckon 33 = .ok (.iinc 3 1, 3) := by decide +kernel
theorem dX4_reckon_36 : decode cX4_reckon 36 = .ok (.goto (-21), 3) := by decide +kernel
theorem dX4_reckon_39 : decode cX4_reckon 39 = .ok (.iconst 0, 1) := by decide +kernel
theorem dX4_reckon_40 : decode cX4_reckon 40 = .ok (.istore_n 3, 1) := by decide +kernel
theorem dX4_reckon_41 : decode cX4_reckon 41 = .ok (.iload_n 3, 1) := by decide +kernel
theorem dX4_reckon_42 : decode cX4_reckon 42 = .ok (.bipush 64, 2) := by decide +kernel
theorem dX4_reckon_44 : decode cX4_reckon 44 = .ok (.if_icmp .ge 75, 3) := by decide +kernel
theorem dX4_reckon_47 : decode cX4_reckon 47 = .ok (.iload_n 3, 1) := by decide +kernel
theorem dX4_reckon_48 : decode cX4_reckon 48 = .ok (.aload_n 0, 1) := by decide +kernel
theorem dX4_reckon_49 : decode cX4_reckon 49 = .ok (.getfield 22, 3) := by decide +kernel
theorem dX4_reckon_52 : decode cX4_reckon 52 = .ok (.iconst (-1), 1) := by decide +kernel
theorem dX4_reckon_53 : decode cX4_reckon 53 = .ok (.ixor, 1) := by decide +kernel
theorem dX4_reckon_54 : decode cX4_reckon 54 = .ok (.iand, 1) := by decide +kernel
theorem dX4_reckon_55 : decode cX4_reckon 55 = .ok (.ifCond .ne 7, 3) := by decide +kernel
theorem dX4_reckon_58 : decode cX4_reckon 58 = .ok (.iconst 1, 1) := by decide +kernel
theorem dX4_reckon_59 : decode cX4_reckon 59 = .ok (.goto 4, 3) := by decide +kernel
theorem dX4_reckon_62 : decode cX4_reckon 62 = .ok (.iconst 0, 1) := by decide +kernel
theorem dX4_reckon_63 : decode cX4_reckon 63 = .ok (.istore 4, 2) := by decide +kernel
theorem dX4_reckon_65 : decode cX4_reckon 65 = .ok (.iconst 0, 1) := by decide +kernel
theorem dX4_reckon_66 : decode cX4_reckon 66 = .ok (.istore 5, 2) := by decide +kernel
theorem dX4_reckon_68 : decode cX4_reckon 68 = .ok (.iload 4, 2) := by decide +kernel
theorem dX4_reckon_70 : decode cX4_reckon 70 = .ok (.ifCond .eq 43, 3) := by decide +kernel
theorem dX4_reckon_73 : decode cX4_reckon 73 = .ok (.iload 5, 2) := by decide +kernel
theorem dX4_reckon_75 : decode cX4_reckon 75 = .ok (.bipush 7, 2) := by decide +kernel
theorem dX4_reckon_77 : decode cX4_reckon 77 = .ok (.if_icmp .ge 36, 3) := by decide +kernel
theorem dX4_reckon_80 : decode cX4_reckon 80 = .ok (.aload_n 0, 1) := by decide +kernel
theorem dX4_reckon_81 : decode cX4_reckon 81 = .ok (.getfield 11, 3) := by decide +kernel
theorem dX4_reckon_84 : decode cX4_reckon 84 = .ok (.iload_n 3, 1) := by decide +kernel
theorem dX4_reckon_85 : decode cX4_reckon 85 = .ok (.bipush 7, 2) := by decide +kernel
theorem dX4_reckon_87 : decode cX4_reckon 87 = .ok (.imul, 1) := by decide +kernel
theorem dX4_reckon_88 : decode cX4_reckon 88 = .ok (.iload 5, 2) := by decide +kernel
theorem dX4_reckon_90 : decode cX4_reckon 90 = .ok (.iadd, 1) := by decide +kernel
theorem dX4_reckon_91 : decode cX4_reckon 91 = .ok (.iload_n 3, 1) := by decide +kernel
theorem dX4_reckon_92 : decode cX4_reckon 92 = .ok (.ifCond .ne 7, 3) := by decide +kernel
theorem dX4_reckon_95 : decode cX4_reckon 95 = .ok (.iconst 1, 1) := by decide +kernel
theorem dX4_reckon_96 : decode cX4_reckon 96 = .ok (.goto 10, 3) := by decide +kernel
theorem dX4_reckon_99 : decode cX4_reckon 99 = .ok (.aload_n 0, 1) := by decide +kernel
theorem dX4_reckon_100 : decode cX4_reckon 100 = .ok (.iload_n 3, 1) := by decide +kernel
theorem dX4_reckon_101 : decode cX4_reckon 101 = .ok (.iload 5, 2) := by decide +kernel
theorem dX4_reckon_103 : decode cX4_reckon 103 = .ok (.invokevirtual 34, 3) := by decide +kernel
theorem dX4_reckon_106 : decode cX4_reckon 106 = .ok (.iastore, 1) := by decide +kernel
theorem dX4_reckon_107 : decode cX4_reckon 107 = .ok (.iinc 5 1, 3) := by decide +kernel
theorem dX4_reckon_110 : decode cX4_reckon 110 = .ok (.goto (-42), 3) := by decide +kernel
theorem dX4_reckon_113 : decode cX4_reckon 113 = .ok (.iinc 3 1, 3) := by decide +kernel
theorem dX4_reckon_116 : decode cX4_reckon 116 = .ok (.goto (-75), 3) := by decide +kernel
theorem dX4_reckon_119 : decode cX4_reckon 119 = .ok (.return_, 1) := by decide +kernel
theorem dX4_waysOn_0 : decode cX4_waysOn 0 = .ok (.iconst 0, 1) := by decide +kernel
theorem dX4_waysOn_1 : decode cX4_waysOn 1 = .ok (.istore_n 3, 1) := by decide +kernel
theorem dX4_waysOn_2 : decode cX4_waysOn 2 = .ok (.iconst 0, 1) := by decide +kernel
theorem dX4_waysOn_3 : decode cX4_waysOn 3 = .ok (.istore 4, 2) := by decide +kernel
theorem dX4_waysOn_5 : decode cX4_waysOn 5 = .ok (.iload 4, 2) := by decide +kernel
theorem dX4_waysOn_7 : decode cX4_waysOn 7 = .ok (.bipush 6, 2) := by decide +kernel
theorem dX4_waysOn_9 : decode cX4_waysOn 9 = .ok (.if_icmp .ge 20, 3) := by decide +kernel
theorem dX4_waysOn_12 : decode cX4_waysOn 12 = .ok (.iload_n 3, 1) := by decide +kernel
theorem dX4_waysOn_13 : decode cX4_waysOn 13 = .ok (.aload_n 0, 1) := by decide +kernel
theorem dX4_waysOn_14 : decode cX4_waysOn 14 = .ok (.iload_n 1, 1) := by decide +kernel
theorem dX4_waysOn_15 : decode cX4_waysOn 15 = .ok (.iload_n 2, 1) := by decide +kernel
theorem dX4_waysOn_16 : decode cX4_waysOn 16 = .ok (.iload 4, 2) := by decide +kernel
theorem dX4_waysOn_18 : decode cX4_waysOn 18 = .ok (.invokevirtual 37, 3) := by decide +kernel
theorem dX4_waysOn_21 : decode cX4_waysOn 21 = .ok (.iadd, 1) := by decide +kernel
theorem dX4_waysOn_22 : decode cX4_waysOn 22 = .ok (.istore_n 3, 1) := by decide +kernel
theorem dX4_waysOn_23 : decode cX4_waysOn 23 = .ok (.iinc 4 1, 3) := by decide +kernel
theorem dX4_waysOn_26 : decode cX4_waysOn 26 = .ok (.goto (-21), 3) := by decide +kernel
theorem dX4_waysOn_29 : decode cX4_waysOn 29 = .ok (.iload_n 3, 1) := by decide +kernel
theorem dX4_waysOn_30 : decode cX4_waysOn 30 = .ok (.ireturn, 1) := by decide +kernel
theorem dX4_waysBy_0 : decode cX4_waysBy 0 = .ok (.iload_n 1, 1) := by decide +kernel
theorem dX4_waysBy_1 : decode cX4_waysBy 1 = .ok (.iload_n 3, 1) := by decide +kernel
theorem dX4_waysBy_2 : decode cX4_waysBy 2 = .ok (.ishr, 1) := by decide +kernel
theorem dX4_waysBy_3 : decode cX4_waysBy 3 = .ok (.iconst 1, 1) := by decide +kernel
theorem dX4_waysBy_4 : decode cX4_waysBy 4 = .ok (.iand, 1) := by decide +kernel
theorem dX4_waysBy_5 : decode cX4_waysBy 5 = .ok (.iconst 1, 1) := by decide +kernel
theorem dX4_waysBy_6 : decode cX4_waysBy 6 = .ok (.if_icmp .ne 7, 3) := by decide +kernel
theorem dX4_waysBy_9 : decode cX4_waysBy 9 = .ok (.iconst 1, 1) := by decide +kernel
theorem dX4_waysBy_10 : decode cX4_waysBy 10 = .ok (.goto 4, 3) := by decide +kernel
theorem dX4_waysBy_13 : decode cX4_waysBy 13 = .ok (.iconst 0, 1) := by decide +kernel
theorem dX4_waysBy_14 : decode cX4_waysBy 14 = .ok (.istore 4, 2) := by decide +kernel
theorem dX4_waysBy_16 : decode cX4_waysBy 16 = .ok (.iload 4, 2) := by decide +kernel
theorem dX4_waysBy_18 : decode cX4_waysBy 18 = .ok (.ifCond .eq 27, 3) := by decide +kernel
theorem dX4_waysBy_21 : decode cX4_waysBy 21 = .ok (.aload_n 0, 1) := by decide +kernel
theorem dX4_waysBy_22 : decode cX4_waysBy 22 = .ok (.iload_n 2, 1) := by decide +kernel
theorem dX4_waysBy_23 : decode cX4_waysBy 23 = .ok (.iload_n 3, 1) := by decide +kernel
theorem dX4_waysBy_24 : decode cX4_waysBy 24 = .ok (.invokevirtual 41, 3) := by decide +kernel
theorem dX4_waysBy_27 : decode cX4_waysBy 27 = .ok (.ifCond .eq 18, 3) := by decide +kernel
theorem dX4_waysBy_30 : decode cX4_waysBy 30 = .ok (.aload_n 0, 1) := by decide +kernel
theorem dX4_waysBy_31 : decode cX4_waysBy 31 = .ok (.iload_n 1, 1) := by decide +kernel
theorem dX4_waysBy_32 : decode cX4_waysBy 32 = .ok (.iconst 1, 1) := by decide +kernel
theorem dX4_waysBy_33 : decode cX4_waysBy 33 = .ok (.iload_n 3, 1) := by decide +kernel
theorem dX4_waysBy_34 : decode cX4_waysBy 34 = .ok (.ishl, 1) := by decide +kernel
theorem dX4_waysBy_35 : decode cX4_waysBy 35 = .ok (.iconst (-1), 1) := by decide +kernel
theorem dX4_waysBy_36 : decode cX4_waysBy 36 = .ok (.ixor, 1) := by decide +kernel
theorem dX4_waysBy_37 : decode cX4_waysBy 37 = .ok (.iand, 1) := by decide +kernel
theorem dX4_waysBy_38 : decode cX4_waysBy 38 = .ok (.iload_n 3, 1) := by decide +kernel
theorem dX4_waysBy_39 : decode cX4_waysBy 39 = .ok (.invokevirtual 45, 3) := by decide +kernel
theorem dX4_waysBy_42 : decode cX4_waysBy 42 = .ok (.goto 4, 3) := by decide +kernel
theorem dX4_waysBy_45 : decode cX4_waysBy 45 = .ok (.iconst 0, 1) := by decide +kernel
theorem dX4_waysBy_46 : decode cX4_waysBy 46 = .ok (.ireturn, 1) := by decide +kernel
theorem dX4_ways_0 : decode cX4_ways 0 = .ok (.iload_n 1, 1) := by decide +kernel
theorem dX4_ways_1 : decode cX4_ways 1 = .ok (.iconst 0, 1) := by decide +kernel
theorem dX4_ways_2 : decode cX4_ways 2 = .ok (.bipush 63, 2) := by decide +kernel
theorem dX4_ways_4 : decode cX4_ways 4 = .ok (.invokestatic 47, 3) := by decide +kernel
theorem dX4_ways_7 : decode cX4_ways 7 = .ok (.ifCond .eq 27, 3) := by decide +kernel
theorem dX4_ways_10 : decode cX4_ways 10 = .ok (.iload_n 2, 1) := by decide +kernel
theorem dX4_ways_11 : decode cX4_ways 11 = .ok (.iconst 0, 1) := by decide +kernel
theorem dX4_ways_12 : decode cX4_ways 12 = .ok (.bipush 6, 2) := by decide +kernel
theorem dX4_ways_14 : decode cX4_ways 14 = .ok (.invokestatic 47, 3) := by decide +kernel
theorem dX4_ways_17 : decode cX4_ways 17 = .ok (.ifCond .eq 17, 3) := by decide +kernel
theorem dX4_ways_20 : decode cX4_ways 20 = .ok (.aload_n 0, 1) := by decide +kernel
theorem dX4_ways_21 : decode cX4_ways 21 = .ok (.getfield 11, 3) := by decide +kernel
theorem dX4_ways_24 : decode cX4_ways 24 = .ok (.iload_n 1, 1) := by decide +kernel
theorem dX4_ways_25 : decode cX4_ways 25 = .ok (.bipush 7, 2) := by decide +kernel
theorem dX4_ways_27 : decode cX4_ways 27 = .ok (.imul, 1) := by decide +kernel
theorem dX4_ways_28 : decode cX4_ways 28 = .ok (.iload_n 2, 1) := by decide +kernel
theorem dX4_ways_29 : decode cX4_ways 29 = .ok (.iadd, 1) := by decide +kernel
theorem dX4_ways_30 : decode cX4_ways 30 = .ok (.iaload, 1) := by decide +kernel
theorem dX4_ways_31 : decode cX4_ways 31 = .ok (.goto 4, 3) := by decide +kernel
theorem dX4_ways_34 : decode cX4_ways 34 = .ok (.iconst 0, 1) := by decide +kernel
theorem dX4_ways_35 : decode cX4_ways 35 = .ok (.ireturn, 1) := by decide +kernel
theorem dX4_canFollow_0 : decode cX4_canFollow 0 = .ok (.iload_n 1, 1) := by decide +kernel
theorem dX4_canFollow_1 : decode cX4_canFollow 1 = .ok (.bipush 6, 2) := by decide +kernel
theorem dX4_canFollow_3 : decode cX4_canFollow 3 = .ok (.if_icmp .eq 23, 3) := by decide +kernel
theorem dX4_canFollow_6 : decode cX4_canFollow 6 = .ok (.aload_n 0, 1) := by decide +kernel
theorem dX4_canFollow_7 : decode cX4_canFollow 7 = .ok (.getfield 15, 3) := by decide +kernel
theorem dX4_canFollow_10 : decode cX4_canFollow 10 = .ok (.iload_n 1, 1) := by decide +kernel
theorem dX4_canFollow_11 : decode cX4_canFollow 11 = .ok (.iaload, 1) := by decide +kernel
theorem dX4_canFollow_12 : decode cX4_canFollow 12 = .ok (.aload_n 0, 1) := by decide +kernel
theorem dX4_canFollow_13 : decode cX4_canFollow 13 = .ok (.getfield 15, 3) := by decide +kernel
theorem dX4_canFollow_16 : decode cX4_canFollow 16 = .ok (.iload_n 2, 1) := by decide +kernel
theorem dX4_canFollow_17 : decode cX4_canFollow 17 = .ok (.iaload, 1) := by decide +kernel
theorem dX4_canFollow_18 : decode cX4_canFollow 18 = .ok (.iadd, 1) := by decide +kernel
theorem dX4_canFollow_19 : decode cX4_canFollow 19 = .ok (.aload_n 0, 1) := by decide +kernel
theorem dX4_canFollow_20 : decode cX4_canFollow 20 = .ok (.getfield 18, 3) := by decide +kernel
theorem dX4_canFollow_23 : decode cX4_canFollow 23 = .ok (.if_icmp .gt 7, 3) := by decide +kernel
theorem dX4_canFollow_26 : decode cX4_canFollow 26 = .ok (.iconst 1, 1) := by decide +kernel
theorem dX4_canFollow_27 : decode cX4_canFollow 27 = .ok (.goto 4, 3) := by decide +kernel
theorem dX4_canFollow_30 : decode cX4_canFollow 30 = .ok (.iconst 0, 1) := by decide +kernel
theorem dX4_canFollow_31 : decode cX4_canFollow 31 = .ok (.ireturn, 1) := by decide +kernel
theorem dX4_rows_0 : decode cX4_rows 0 = .ok (.aload_n 0, 1) := by decide +kernel
theorem dX4_rows_1 : decode cX4_rows 1 = .ok (.aload_n 0, 1) := by decide +kernel
theorem dX4_rows_2 : decode cX4_rows 2 = .ok (.getfield 22, 3) := by decide +kernel
theorem dX4_rows_5 : decode cX4_rows 5 = .ok (.bipush 6, 2) := by decide +kernel
theorem dX4_rows_7 : decode cX4_rows 7 = .ok (.invokevirtual 45, 3) := by decide +kernel
theorem dX4_rows_10 : decode cX4_rows 10 = .ok (.ireturn, 1) := by decide +kernel
theorem dX4_firstRow_0 : decode cX4_firstRow 0 = .ok (.aload_n 0, 1) := by decide +kernel
theorem dX4_firstRow_1 : decode cX4_firstRow 1 = .ok (.invokevirtual 51, 3) := by decide +kernel
theorem dX4_firstRow_4 : decode cX4_firstRow 4 = .ok (.ifCond .ne 6, 3) := by decide +kernel
theorem dX4_firstRow_7 : decode cX4_firstRow 7 = .ok (.bipush (-6), 2) := by decide +kernel
theorem dX4_firstRow_9 : decode cX4_firstRow 9 = .ok (.ireturn, 1) := by decide +kernel
theorem dX4_firstRow_10 : decode cX4_firstRow 10 = .ok (.iconst 0, 1) := by decide +kernel
theorem dX4_firstRow_11 : decode cX4_firstRow 11 = .ok (.istore_n 1, 1) := by decide +kernel
theorem dX4_firstRow_12 : decode cX4_firstRow 12 = .ok (.aload_n 0, 1) := by decide +kernel
theorem dX4_firstRow_13 : decode cX4_firstRow 13 = .ok (.getfield 22, 3) := by decide +kernel
theorem dX4_firstRow_16 : decode cX4_firstRow 16 = .ok (.istore_n 2, 1) := by decide +kernel
theorem dX4_firstRow_17 : decode cX4_firstRow 17 = .ok (.bipush 6, 2) := by decide +kernel
theorem dX4_firstRow_19 : decode cX4_firstRow 19 = .ok (.istore_n 3, 1) := by decide +kernel
theorem dX4_firstRow_20 : decode cX4_firstRow 20 = .ok (.iconst 0, 1) := by decide +kernel
theorem dX4_firstRow_21 : decode cX4_firstRow 21 = .ok (.istore 4, 2) := by decide +kernel
theorem dX4_firstRow_23 : decode cX4_firstRow 23 = .ok (.iload 4, 2) := by decide +kernel
theorem dX4_firstRow_25 : decode cX4_firstRow 25 = .ok (.bipush 6, 2) := by decide +kernel
theorem dX4_firstRow_27 : decode cX4_firstRow 27 = .ok (.if_icmp .ge 59, 3) := by decide +kernel
theorem dX4_firstRow_30 : decode cX4_firstRow 30 = .ok (.iload_n 2, 1) := by decide +kernel
theorem dX4_firstRow_31 : decode cX4_firstRow 31 = .ok (.ifCond .eq 55, 3) := by decide +kernel
theorem dX4_firstRow_34 : decode cX4_firstRow 34 = .ok (.iconst 0, 1) := by decide +kernel
theorem dX4_firstRow_35 : decode cX4_firstRow 35 = .ok (.istore 5, 2) := by decide +kernel
theorem dX4_firstRow_37 : decode cX4_firstRow 37 = .ok (.iload 5, 2) := by decide +kernel
theorem dX4_firstRow_39 : decode cX4_firstRow 39 = .ok (.iconst 5, 1) := by decide +kernel
theorem dX4_firstRow_40 : decode cX4_firstRow 40 = .ok (.if_icmp .ge 20, 3) := by decide +kernel
theorem dX4_firstRow_43 : decode cX4_firstRow 43 = .ok (.aload_n 0, 1) := by decide +kernel
theorem dX4_firstRow_44 : decode cX4_firstRow 44 = .ok (.iload_n 2, 1) := by decide +kernel
theorem dX4_firstRow_45 : decode cX4_firstRow 45 = .ok (.iload_n 3, 1) := by decide +kernel
theorem dX4_firstRow_46 : decode cX4_firstRow 46 = .ok (.iload 5, 2) := by decide +kernel
theorem dX4_firstRow_48 : decode cX4_firstRow 48 = .ok (.invokevirtual 37, 3) := by decide +kernel
theorem dX4_firstRow_51 : decode cX4_firstRow 51 = .ok (.ifCond .ne 9, 3) := by decide +kernel
theorem dX4_firstRow_54 : decode cX4_firstRow 54 = .ok (.iinc 5 1, 3) := by decide +kernel
theorem dX4_firstRow_57 : decode cX4_firstRow 57 = .ok (.goto (-20), 3) := by decide +kernel
theorem dX4_firstRow_60 : decode cX4_firstRow 60 = .ok (.bipush 10, 2) := by decide +kernel
theorem dX4_firstRow_62 : decode cX4_firstRow 62 = .ok (.iload_n 1, 1) := by decide +kernel
theorem dX4_firstRow_63 : decode cX4_firstRow 63 = .ok (.imul, 1) := by decide +kernel
theorem dX4_firstRow_64 : decode cX4_firstRow 64 = .ok (.iload 5, 2) := by decide +kernel
theorem dX4_firstRow_66 : decode cX4_firstRow 66 = .ok (.iadd, 1) := by decide +kernel
theorem dX4_firstRow_67 : decode cX4_firstRow 67 = .ok (.istore_n 1, 1) := by decide +kernel
theorem dX4_firstRow_68 : decode cX4_firstRow 68 = .ok (.iload_n 2, 1) := by decide +kernel
theorem dX4_firstRow_69 : decode cX4_firstRow 69 = .ok (.iconst 1, 1) := by decide +kernel
theorem dX4_firstRow_70 : decode cX4_firstRow 70 = .ok (.iload 5, 2) := by decide +kernel
theorem dX4_firstRow_72 : decode cX4_firstRow 72 = .ok (.ishl, 1) := by decide +kernel
theorem dX4_firstRow_73 : decode cX4_firstRow 73 = .ok (.iconst (-1), 1) := by decide +kernel
theorem dX4_firstRow_74 : decode cX4_firstRow 74 = .ok (.ixor, 1) := by decide +kernel
theorem dX4_firstRow_75 : decode cX4_firstRow 75 = .ok (.iand, 1) := by decide +kernel
theorem dX4_firstRow_76 : decode cX4_firstRow 76 = .ok (.istore_n 2, 1) := by decide +kernel
theorem dX4_firstRow_77 : decode cX4_firstRow 77 = .ok (.iload 5, 2) := by decide +kernel
theorem dX4_firstRow_79 : decode cX4_firstRow 79 = .ok (.istore_n 3, 1) := by decide +kernel
theorem dX4_firstRow_80 : decode cX4_firstRow 80 = .ok (.iinc 4 1, 3) := by decide +kernel
theorem dX4_firstRow_83 : decode cX4_firstRow 83 = .ok (.goto (-60), 3) := by decide +kernel
theorem dX4_firstRow_86 : decode cX4_firstRow 86 = .ok (.iload_n 1, 1) := by decide +kernel
theorem dX4_firstRow_87 : decode cX4_firstRow 87 = .ok (.ireturn, 1) := by decide +kernel
theorem dX5_init_0 : decode cX5_init 0 = .ok (.aload_n 0, 1) := by decide +kernel
theorem dX5_init_1 : decode cX5_init 1 = .ok (.invokespecial 3, 3) := by decide +kernel
theorem dX5_init_4 : decode cX5_init 4 = .ok (.aload_n 0, 1) := by decide +kernel
theorem dX5_init_5 : decode cX5_init 5 = .ok (.sipush 1029, 3) := by decide +kernel
theorem dX5_init_8 : decode cX5_init 8 = .ok (.newarray .int, 2) := by decide +kernel
theorem dX5_init_10 : decode cX5_init 10 = .ok (.putfield 11, 3) := by decide +kernel
theorem dX5_init_13 : decode cX5_init 13 = .ok (.aload_n 0, 1) := by decide +kernel
theorem dX5_init_14 : decode cX5_init 14 = .ok (.bipush 6, 2) := by decide +kernel
theorem dX5_init_16 : decode cX5_init 16 = .ok (.newarray .int, 2) := by decide +kernel
theorem dX5_init_18 : decode cX5_init 18 = .ok (.putfield 15, 3) := by decide +kernel
theorem dX5_init_21 : decode cX5_init 21 = .ok (.aload_n 0, 1) := by decide +kernel
theorem dX5_init_22 : decode cX5_init 22 = .ok (.iconst 0, 1) := by decide +kernel
theorem dX5_init_23 : decode cX5_init 23 = .ok (.putfield 18, 3) := by decide +kernel
theorem dX5_init_26 : decode cX5_init 26 = .ok (.return_, 1) := by decide +kernel
theorem dX5_reckon_0 : decode cX5_reckon 0 = .ok (.aload_n 0, 1) := by decide +kernel
theorem dX5_reckon_1 : decode cX5_reckon 1 = .ok (.iload_n 2, 1) := by decide +kernel
theorem dX5_reckon_2 : decode cX5_reckon 2 = .ok (.bipush 20, 2) := by decide +kernel
theorem dX5_reckon_4 : decode cX5_reckon 4 = .ok (.invokestatic 22, 3) := by decide +kernel
theorem dX5_reckon_7 : decode cX5_reckon 7 = .ok (.putfield 18, 3) := by decide +kernel
theorem dX5_reckon_10 : decode cX5_reckon 10 = .ok (.iconst 5, 1) := by decide +kernel
theorem dX5_reckon_11 : decode cX5_reckon 11 = .ok (.istore_n 3, 1) := by decide +kernel
theorem dX5_reckon_12 : decode cX5_reckon 12 = .ok (.iload_n 3, 1) := by decide +kernel
theorem dX5_reckon_13 : decode cX5_reckon 13 = .ok (.ifCond .lt 45, 3) := by decide +kernel
theorem dX5_reckon_16 : decode cX5_reckon 16 = .ok (.aload_n 0, 1) := by decide +kernel
theorem dX5_reckon_17 : decode cX5_reckon 17 = .ok (.getfield 15, 3) := by decide +kernel
theorem dX5_reckon_20 : decode cX5_reckon 20 = .ok (.iload_n 3, 1) := by decide +kernel
theorem dX5_reckon_21 : decode cX5_reckon 21 = .ok (.iload_n 1, 1) := by decide +kernel
theorem dX5_reckon_22 : decode cX5_reckon 22 = .ok (.iload_n 3, 1) := by decide +kernel
theorem dX5_reckon_23 : decode cX5_reckon 23 = .ok (.invokestatic 28, 3) := by decide +kernel
theorem dX5_reckon_26 : decode cX5_reckon 26 = .ok (.iastore, 1) := by decide +kernel
theorem dX5_reckon_27 : decode cX5_reckon 27 = .ok (.iconst 0, 1) := by decide +kernel
theorem dX5_reckon_28 : decode cX5_reckon 28 = .ok (.istore 4, 2) := by decide +kernel
theorem dX5_reckon_30 : decode cX5_reckon 30 = .ok (.iload 4, 2) := by decide +kernel
theorem dX5_reckon_32 : decode cX5_reckon 32 = .ok (.aload_n 0, 1) := by decide +kernel
theorem dX5_reckon_33 : decode cX5_reckon 33 = .ok (.getfield 18, 3) := by decide +kernel
theorem dX5_reckon_36 : decode cX5_reckon 36 = .ok (.if_icmp .gt 16, 3) := by decide +kernel
theorem dX5_reckon_39 : decode cX5_reckon 39 = .ok (.aload_n 0, 1) := by decide +kernel
theorem dX5_reckon_40 : decode cX5_reckon 40 = .ok (.iload_n 3, 1) := by decide +kernel
theorem dX5_reckon_41 : decode cX5_reckon 41 = .ok (.iload 4, 2) := by decide +kernel
theorem dX5_reckon_43 : decode cX5_reckon 43 = .ok (.invokevirtual 31, 3) := by decide +kernel
theorem dX5_reckon_46 : decode cX5_reckon 46 = .ok (.iinc 4 1, 3) := by decide +kernel
theorem dX5_reckon_49 : decode cX5_reckon 49 = .ok (.goto (-19), 3) := by decide +kernel
theorem dX5_reckon_52 : decode cX5_reckon 52 = .ok (.iinc 3 (-1), 3) := by decide +kernel
theorem dX5_reckon_55 : decode cX5_reckon 55 = .ok (.goto (-43), 3) := by decide +kernel
theorem dX5_reckon_58 : decode cX5_reckon 58 = .ok (.return_, 1) := by decide +kernel
theorem dX5_reckonFrom_0 : decode cX5_reckonFrom 0 = .ok (.aload_n 0, 1) := by decide +kernel
theorem dX5_reckonFrom_1 : decode cX5_reckonFrom 1 = .ok (.iload_n 1, 1) := by decide +kernel
theorem dX5_reckonFrom_2 : decode cX5_reckonFrom 2 = .ok (.iload_n 2, 1) := by decide +kernel
theorem dX5_reckonFrom_3 : decode cX5_reckonFrom 3 = .ok (.invokevirtual 35, 3) := by decide +kernel
theorem dX5_reckonFrom_6 : decode cX5_reckonFrom 6 = .ok (.istore_n 3, 1) := by decide +kernel
theorem dX5_reckonFrom_7 : decode cX5_reckonFrom 7 = .ok (.iload_n 1, 1) := by decide +kernel
theorem dX5_reckonFrom_8 : decode cX5_reckonFrom 8 = .ok (.bipush 21, 2) := by decide +kernel
theorem dX5_reckonFrom_10 : decode cX5_reckonFrom 10 = .ok (.imul, 1) := by decide +kernel
theorem dX5_reckonFrom_11 : decode cX5_reckonFrom 11 = .ok (.iload_n 2, 1) := by decide +kernel
theorem dX5_reckonFrom_12 : decode cX5_reckonFrom 12 = .ok (.iadd, 1) := by decide +kernel
theorem dX5_reckonFrom_13 : decode cX5_reckonFrom 13 = .ok (.bipush 7, 2) := by decide +kernel
theorem dX5_reckonFrom_15 : decode cX5_reckonFrom 15 = .ok (.imul, 1) := by decide +kernel
theorem dX5_reckonFrom_16 : decode cX5_reckonFrom 16 = .ok (.istore 4, 2) := by decide +kernel
theorem dX5_reckonFrom_18 : decode cX5_reckonFrom 18 = .ok (.iconst 0, 1) := by decide +kernel
theorem dX5_reckonFrom_19 : decode cX5_reckonFrom 19 = .ok (.istore 5, 2) := by decide +kernel
theorem dX5_reckonFrom_21 : decode cX5_reckonFrom 21 = .ok (.iload 5, 2) := by decide +kernel
theorem dX5_reckonFrom_23 : decode cX5_reckonFrom 23 = .ok (.bipush 7, 2) := by decide +kernel
theorem dX5_reckonFrom_25 : decode cX5_reckonFrom 25 = .ok (.if_icmp .ge 35, 3) := by decide +kernel
theorem dX5_reckonFrom_28 : decode cX5_reckonFrom 28 = .ok (.aload_n 0, 1) := by decide +kernel
theorem dX5_reckonFrom_29 : decode cX5_reckonFrom 29 = .ok (.getfield 11, 3) := by decide +kernel
theorem dX5_reckonFrom_32 : decode cX5_reckonFrom 32 = .ok (.iload 4, 2) := by decide +kernel
theorem dX5_reckonFrom_34 : decode cX5_reckonFrom 34 = .ok (.iload 5, 2) := by decide +kernel
theorem dX5_reckonFrom_36 : decode cX5_reckonFrom 36 = .ok (.iadd, 1) := by decide +kernel
theorem dX5_reckonFrom_37 : decode cX5_reckonFrom 37 = .ok (.aload_n 0, 1) := by decide +kernel
theorem dX5_reckonFrom_38 : decode cX5_reckonFrom 38 = .ok (.iload_n 1, 1) := by decide +kernel
theorem dX5_reckonFrom_39 : decode cX5_reckonFrom 39 = .ok (.iconst 1, 1) := by decide +kernel
theorem dX5_reckonFrom_40 : decode cX5_reckonFrom 40 = .ok (.iadd, 1) := by decide +kernel
theorem dX5_reckonFrom_41 : decode cX5_reckonFrom 41 = .ok (.iload_n 3, 1) := by decide +kernel
theorem dX5_reckonFrom_42 : decode cX5_reckonFrom 42 = .ok (.aload_n 0, 1) := by decide +kernel
theorem dX5_reckonFrom_43 : decode cX5_reckonFrom 43 = .ok (.iload_n 1, 1) := by decide +kernel
theorem dX5_reckonFrom_44 : decode cX5_reckonFrom 44 = .ok (.iload_n 2, 1) := by decide +kernel
theorem dX5_reckonFrom_45 : decode cX5_reckonFrom 45 = .ok (.iload 5, 2) := by decide +kernel
theorem dX5_reckonFrom_47 : decode cX5_reckonFrom 47 = .ok (.invokevirtual 38, 3) := by decide +kernel
theorem dX5_reckonFrom_50 : decode cX5_reckonFrom 50 = .ok (.invokevirtual 42, 3) := by decide +kernel
theorem dX5_reckonFrom_53 : decode cX5_reckonFrom 53 = .ok (.iastore, 1) := by decide +kernel
theorem dX5_reckonFrom_54 : decode cX5_reckonFrom 54 = .ok (.iinc 5 1, 3) := by decide +kernel
theorem dX5_reckonFrom_57 : decode cX5_reckonFrom 57 = .ok (.goto (-36), 3) := by decide +kernel
theorem dX5_reckonFrom_60 : decode cX5_reckonFrom 60 = .ok (.return_, 1) := by decide +kernel
theorem dX5_cheapest_0 : decode cX5_cheapest 0 = .ok (.iload_n 3, 1) := by decide +kernel
theorem dX5_cheapest_1 : decode cX5_cheapest 1 = .ok (.ifCond .ge 7, 3) := by decide +kernel
theorem dX5_cheapest_4 : decode cX5_cheapest 4 = .ok (.sipush 1000, 3) := by decide +kernel
theorem dX5_cheapest_7 : decode cX5_cheapest 7 = .ok (.ireturn, 1) := by decide +kernel
theorem dX5_cheapest_8 : decode cX5_cheapest 8 = .ok (.bipush 9, 2) := by decide +kernel
theorem dX5_cheapest_10 : decode cX5_cheapest 10 = .ok (.iload_n 2, 1) := by decide +kernel
theorem dX5_cheapest_11 : decode cX5_cheapest 11 = .ok (.invokestatic 22, 3) := by decide +kernel
theorem dX5_cheapest_14 : decode cX5_cheapest 14 = .ok (.istore 4, 2) := by decide +kernel
theorem dX5_cheapest_16 : decode cX5_cheapest 16 = .ok (.sipush 1000, 3) := by decide +kernel
theorem dX5_cheapest_19 : decode cX5_cheapest 19 = .ok (.istore 5, 2) := by decide +kernel
theorem dX5_cheapest_21 : decode cX5_cheapest 21 = .ok (.iconst 0, 1) := by decide +kernel
theorem dX5_cheapest_22 : decode cX5_cheapest 22 = .ok (.istore 6, 2) := by decide +kernel
theorem dX5_cheapest_24 : decode cX5_cheapest 24 = .ok (.iload 6, 2) := by decide +kernel
theorem dX5_cheapest_26 : decode cX5_cheapest 26 = .ok (.iload 4, 2) := by decide +kernel
theorem dX5_cheapest_28 : decode cX5_cheapest 28 = .ok (.if_icmp .gt 35, 3) := by decide +kernel
theorem dX5_cheapest_31 : decode cX5_cheapest 31 = .ok (.aload_n 0, 1) := by decide +kernel
theorem dX5_cheapest_32 : decode cX5_cheapest 32 = .ok (.iload_n 1, 1) := by decide +kernel
theorem dX5_cheapest_33 : decode cX5_cheapest 33 = .ok (.iload_n 2, 1) := by decide +kernel
theorem dX5_cheapest_34 : decode cX5_cheapest 34 = .ok (.iload 6, 2) := by decide +kernel
theorem dX5_cheapest_36 : decode cX5_cheapest 36 = .ok (.invokestatic 45, 3) := by decide +kernel
theorem dX5_cheapest_39 : decode cX5_cheapest 39 = .ok (.iload_n 3, 1) := by decide +kernel
theorem dX5_cheapest_40 : decode cX5_cheapest 40 = .ok (.invokevirtual 48, 3) := by decide +kernel
theorem dX5_cheapest_43 : decode cX5_cheapest 43 = .ok (.istore 7, 2) := by decide +kernel
theorem dX5_cheapest_45 : decode cX5_cheapest 45 = .ok (.iload 5, 2) := by decide +kernel
theorem dX5_cheapest_47 : decode cX5_cheapest 47 = .ok (.iload 6, 2) := by decide +kernel
theorem dX5_cheapest_49 : decode cX5_cheapest 49 = .ok (.iload 7, 2) := by decide +kernel
theorem dX5_cheapest_51 : decode cX5_cheapest 51 = .ok (.iadd, 1) := by decide +kernel
theorem dX5_cheapest_52 : decode cX5_cheapest 52 = .ok (.invokestatic 22, 3) := by decide +kernel
theorem dX5_cheapest_55 : decode cX5_cheapest 55 = .ok (.istore 5, 2) := by decide +kernel
theorem dX5_cheapest_57 : decode cX5_cheapest 57 = .ok (.iinc 6 1, 3) := by decide +kernel
theorem dX5_cheapest_60 : decode cX5_cheapest 60 = .ok (.goto (-36), 3) := by decide +kernel
theorem dX5_cheapest_63 : decode cX5_cheapest 63 = .ok (.iload 5, 2) := by decide +kernel
theorem dX5_cheapest_65 : decode cX5_cheapest 65 = .ok (.ireturn, 1) := by decide +kernel
theorem dX5_afterMishap_0 : decode cX5_afterMishap 0 = .ok (.aload_n 0, 1) := by decide +kernel
theorem dX5_afterMishap_1 : decode cX5_afterMishap 1 = .ok (.iload_n 1, 1) := by decide +kernel
theorem dX5_afterMishap_2 : decode cX5_afterMishap 2 = .ok (.iload_n 2, 1) := by decide +kernel
theorem dX5_afterMishap_3 : decode cX5_afterMishap 3 = .ok (.invokevirtual 51, 3) := by decide +kernel
theorem dX5_afterMishap_6 : decode cX5_afterMishap 6 = .ok (.ifCond .eq 7, 3) := by decide +kernel
theorem dX5_afterMishap_9 : decode cX5_afterMishap 9 = .ok (.iconst 0, 1) := by decide +kernel
theorem dX5_afterMishap_10 : decode cX5_afterMishap 10 = .ok (.goto 11, 3) := by decide +kernel
theorem dX5_afterMishap_13 : decode cX5_afterMishap 13 = .ok (.iload_n 2, 1) := by decide +kernel
theorem dX5_afterMishap_14 : decode cX5_afterMishap 14 = .ok (.aload_n 0, 1) := by decide +kernel
theorem dX5_afterMishap_15 : decode cX5_afterMishap 15 = .ok (.getfield 15, 3) := by decide +kernel
theorem dX5_afterMishap_18 : decode cX5_afterMishap 18 = .ok (.iload_n 1, 1) := by decide +kernel
theorem dX5_afterMishap_19 : decode cX5_afterMishap 19 = .ok (.iaload, 1) := by decide +kernel
theorem dX5_afterMishap_20 : decode cX5_afterMishap 20 = .ok (.iadd, 1) := by decide +kernel
theorem dX5_afterMishap_21 : decode cX5_afterMishap 21 = .ok (.ireturn, 1) := by decide +kernel
theorem dX5_slipsLeft_0 : decode cX5_slipsLeft 0 = .ok (.aload_n 0, 1) := by decide +kernel
theorem dX5_slipsLeft_1 : decode cX5_slipsLeft 1 = .ok (.iload_n 1, 1) := by decide +kernel
theorem dX5_slipsLeft_2 : decode cX5_slipsLeft 2 = .ok (.iload_n 2, 1) := by decide +kernel
theorem dX5_slipsLeft_3 : decode cX5_slipsLeft 3 = .ok (.invokevirtual 51, 3) := by decide +kernel
theorem dX5_slipsLeft_6 : decode cX5_slipsLeft 6 = .ok (.ifCond .eq 9, 3) := by decide +kernel
theorem dX5_slipsLeft_9 : decode cX5_slipsLeft 9 = .ok (.iload_n 3, 1) := by decide +kernel
theorem dX5_slipsLeft_10 : decode cX5_slipsLeft 10 = .ok (.iconst 1, 1) := by decide +kernel
theorem dX5_slipsLeft_11 : decode cX5_slipsLeft 11 = .ok (.isub, 1) := by decide +kernel
theorem dX5_slipsLeft_12 : decode cX5_slipsLeft 12 = .ok (.goto 4, 3) := by decide +kernel
theorem dX5_slipsLeft_15 : decode cX5_slipsLeft 15 = .ok (.iload_n 3, 1) := by decide +kernel
theorem dX5_slipsLeft_16 : decode cX5_slipsLeft 16 = .ok (.ireturn, 1) := by decide +kernel
theorem dX5_slips_0 : decode cX5_slips 0 = .ok (.iload_n 2, 1) := by decide +kernel
theorem dX5_slips_1 : decode cX5_slips 1 = .ok (.aload_n 0, 1) := by decide +kernel
theorem dX5_slips_2 : decode cX5_slips 2 = .ok (.getfield 15, 3) := by decide +kernel
theorem dX5_slips_5 : decode cX5_slips 5 = .ok (.iload_n 1, 1) := by decide +kernel
theorem dX5_slips_6 : decode cX5_slips 6 = .ok (.iaload, 1) := by decide +kernel
theorem dX5_slips_7 : decode cX5_slips 7 = .ok (.iadd, 1) := by decide +kernel
theorem dX5_slips_8 : decode cX5_slips 8 = .ok (.aload_n 0, 1) := by decide +kernel
theorem dX5_slips_9 : decode cX5_slips 9 = .ok (.getfield 18, 3) := by decide +kernel
theorem dX5_slips_12 : decode cX5_slips 12 = .ok (.if_icmp .le 7, 3) := by decide +kernel
theorem dX5_slips_15 : decode cX5_slips 15 = .ok (.iconst 1, 1) := by decide +kernel
theorem dX5_slips_16 : decode cX5_slips 16 = .ok (.goto 4, 3) := by decide +kernel
theorem dX5_slips_19 : decode cX5_slips 19 = .ok (.iconst 0, 1) := by decide +kernel
theorem dX5_slips_20 : decode cX5_slips 20 = .ok (.ireturn, 1) := by decide +kernel
theorem dX5_afterHour_0 : decode cX5_afterHour 0 = .ok (.iconst 0, 1) := by decide +kernel
theorem dX5_afterHour_1 : decode cX5_afterHour 1 = .ok (.iload_n 0, 1) := by decide +kernel
theorem dX5_afterHour_2 : decode cX5_afterHour 2 = .ok (.iload_n 1, 1) := by decide +kernel
theorem dX5_afterHour_3 : decode cX5_afterHour 3 = .ok (.isub, 1) := by decide +kernel
theorem dX5_afterHour_4 : decode cX5_afterHour 4 = .ok (.iconst 1, 1) := by decide +kernel
theorem dX5_afterHour_5 : decode cX5_afterHour 5 = .ok (.isub, 1) := by decide +kernel
theorem dX5_afterHour_6 : decode cX5_afterHour 6 = .ok (.invokestatic 55, 3) := by decide +kernel
theorem dX5_afterHour_9 : decode cX5_afterHour 9 = .ok (.ireturn, 1) := by decide +kernel
theorem dX5_fewestStamps_0 : decode cX5_fewestStamps 0 = .ok (.iload_n 1, 1) := by decide +kernel
theorem dX5_fewestStamps_1 : decode cX5_fewestStamps 1 = .ok (.iconst 0, 1) := by decide +kernel
theorem dX5_fewestStamps_2 : decode cX5_fewestStamps 2 = .ok (.bipush 6, 2) := by decide +kernel
theorem dX5_fewestStamps_4 : decode cX5_fewestStamps 4 = .ok (.invokestatic 58, 3) := by decide +kernel
theorem dX5_fewestStamps_7 : decode cX5_fewestStamps 7 = .ok (.ifCond .eq 23, 3) := by decide +kernel
theorem dX5_fewestStamps_10 : decode cX5_fewestStamps 10 = .ok (.iload_n 2, 1) := by decide +kernel
theorem dX5_fewestStamps_11 : decode cX5_fewestStamps 11 = .ok (.iconst 0, 1) := by decide +kernel
theorem dX5_fewestStamps_12 : decode cX5_fewestStamps 12 = .ok (.bipush 20, 2) := by decide +kernel
theorem dX5_fewestStamps_14 : decode cX5_fewestStamps 14 = .ok (.invokestatic 58, 3) := by decide +kernel
theorem dX5_fewestStamps_17 : decode cX5_fewestStamps 17 = .ok (.ifCond .eq 13, 3) := by decide +kernel
theorem dX5_fewestStamps_20 : decode cX5_fewestStamps 20 = .ok (.iload_n 3, 1) := by decide +kernel
theorem dX5_fewestStamps_21 : decode cX5_fewestStamps 21 = .ok (.iconst 0, 1) := by decide +kernel
theorem dX5_fewestStamps_22 : decode cX5_fewestStamps 22 = .ok (.bipush 6, 2) := by decide +kernel
theorem dX5_fewestStamps_24 : decode cX5_fewestStamps 24 = .ok (.invokestatic 58, 3) := by decide +kernel
theorem dX5_fewestStamps_27 : decode cX5_fewestStamps 27 = .ok (.ifCond .ne 7, 3) := by decide +kernel
theorem dX5_fewestStamps_30 : decode cX5_fewestStamps 30 = .ok (.sipush 1000, 3) := by decide +kernel
theorem dX5_fewestStamps_33 : decode cX5_fewestStamps 33 = .ok (.ireturn, 1) := by decide +kernel
theorem dX5_fewestStamps_34 : decode cX5_fewestStamps 34 = .ok (.aload_n 0, 1) := by decide +kernel
theorem dX5_fewestStamps_35 : decode cX5_fewestStamps 35 = .ok (.getfield 11, 3) := by decide +kernel
theorem dX5_fewestStamps_38 : decode cX5_fewestStamps 38 = .ok (.iload_n 1, 1) := by decide +kernel
theorem dX5_fewestStamps_39 : decode cX5_fewestStamps 39 = .ok (.bipush 21, 2) := by decide +kernel
theorem dX5_fewestStamps_41 : decode cX5_fewestStamps 41 = .ok (.imul, 1) := by decide +kernel
theorem dX5_fewestStamps_42 : decode cX5_fewestStamps 42 = .ok (.iload_n 2, 1) := by decide +kernel
theorem dX5_fewestStamps_43 : decode cX5_fewestStamps 43 = .ok (.iadd, 1) := by decide +kernel
theorem dX5_fewestStamps_44 : decode cX5_fewestStamps 44 = .ok (.bipush 7, 2) := by decide +kernel
theorem dX5_fewestStamps_46 : decode cX5_fewestStamps 46 = .ok (.imul, 1) := by decide +kernel
theorem dX5_fewestStamps_47 : decode cX5_fewestStamps 47 = .ok (.iload_n 3, 1) := by decide +kernel
theorem dX5_fewestStamps_48 : decode cX5_fewestStamps 48 = .ok (.iadd, 1) := by decide +kernel
theorem dX5_fewestStamps_49 : decode cX5_fewestStamps 49 = .ok (.iaload, 1) := by decide +kernel
theorem dX5_fewestStamps_50 : decode cX5_fewestStamps 50 = .ok (.ireturn, 1) := by decide +kernel
theorem dX5_fewestSlips_0 : decode cX5_fewestSlips 0 = .ok (.iconst 0, 1) := by decide +kernel
theorem dX5_fewestSlips_1 : decode cX5_fewestSlips 1 = .ok (.istore_n 3, 1) := by decide +kernel
theorem dX5_fewestSlips_2 : decode cX5_fewestSlips 2 = .ok (.iload_n 3, 1) := by decide +kernel
theorem dX5_fewestSlips_3 : decode cX5_fewestSlips 3 = .ok (.bipush 6, 2) := by decide +kernel
theorem dX5_fewestSlips_5 : decode cX5_fewestSlips 5 = .ok (.if_icmp .ge 22, 3) := by decide +kernel
theorem dX5_fewestSlips_8 : decode cX5_fewestSlips 8 = .ok (.aload_n 0, 1) := by decide +kernel
theorem dX5_fewestSlips_9 : decode cX5_fewestSlips 9 = .ok (.iconst 0, 1) := by decide +kernel
theorem dX5_fewestSlips_10 : decode cX5_fewestSlips 10 = .ok (.iload_n 1, 1) := by decide +kernel
theorem dX5_fewestSlips_11 : decode cX5_fewestSlips 11 = .ok (.iload_n 3, 1) := by decide +kernel
theorem dX5_fewestSlips_12 : decode cX5_fewestSlips 12 = .ok (.invokevirtual 48, 3) := by decide +kernel
theorem dX5_fewestSlips_15 : decode cX5_fewestSlips 15 = .ok (.iload_n 2, 1) := by decide +kernel
theorem dX5_fewestSlips_16 : decode cX5_fewestSlips 16 = .ok (.if_icmp .gt 5, 3) := by decide +kernel
theorem dX5_fewestSlips_19 : decode cX5_fewestSlips 19 = .ok (.iload_n 3, 1) := by decide +kernel
theorem dX5_fewestSlips_20 : decode cX5_fewestSlips 20 = .ok (.ireturn, 1) := by decide +kernel
theorem dX5_fewestSlips_21 : decode cX5_fewestSlips 21 = .ok (.iinc 3 1, 3) := by decide +kernel
theorem dX5_fewestSlips_24 : decode cX5_fewestSlips 24 = .ok (.goto (-22), 3) := by decide +kernel
theorem dX5_fewestSlips_27 : decode cX5_fewestSlips 27 = .ok (.bipush 6, 2) := by decide +kernel
theorem dX5_fewestSlips_29 : decode cX5_fewestSlips 29 = .ok (.ireturn, 1) := by decide +kernel
theorem dX5_strengths_0 : decode cX5_strengths 0 = .ok (.iconst 0, 1) := by decide +kernel
theorem dX5_strengths_1 : decode cX5_strengths 1 = .ok (.istore_n 3, 1) := by decide +kernel
theorem dX5_strengths_2 : decode cX5_strengths 2 = .ok (.iload_n 1, 1) := by decide +kernel
theorem dX5_strengths_3 : decode cX5_strengths 3 = .ok (.istore 4, 2) := by decide +kernel
theorem dX5_strengths_5 : decode cX5_strengths 5 = .ok (.iload_n 2, 1) := by decide +kernel
theorem dX5_strengths_6 : decode cX5_strengths 6 = .ok (.istore 5, 2) := by decide +kernel
theorem dX5_strengths_8 : decode cX5_strengths 8 = .ok (.iconst 0, 1) := by decide +kernel
theorem dX5_strengths_9 : decode cX5_strengths 9 = .ok (.istore 6, 2) := by decide +kernel
theorem dX5_strengths_11 : decode cX5_strengths 11 = .ok (.iload 6, 2) := by decide +kernel
theorem dX5_strengths_13 : decode cX5_strengths 13 = .ok (.bipush 6, 2) := by decide +kernel
theorem dX5_strengths_15 : decode cX5_strengths 15 = .ok (.if_icmp .ge 101, 3) := by decide +kernel
theorem dX5_strengths_18 : decode cX5_strengths 18 = .ok (.aload_n 0, 1) := by decide +kernel
theorem dX5_strengths_19 : decode cX5_strengths 19 = .ok (.iload 6, 2) := by decide +kernel
theorem dX5_strengths_21 : decode cX5_strengths 21 = .ok (.iload 4, 2) := by decide +kernel
theorem dX5_strengths_23 : decode cX5_strengths 23 = .ok (.iload 5, 2) := by decide +kernel
theorem dX5_strengths_25 : decode cX5_strengths 25 = .ok (.invokevirtual 48, 3) := by decide +kernel
theorem dX5_strengths_28 : decode cX5_strengths 28 = .ok (.istore 7, 2) := by decide +kernel
theorem dX5_strengths_30 : decode cX5_strengths 30 = .ok (.aload_n 0, 1) := by decide +kernel
theorem dX5_strengths_31 : decode cX5_strengths 31 = .ok (.iload 6, 2) := by decide +kernel
theorem dX5_strengths_33 : decode cX5_strengths 33 = .ok (.iload 4, 2) := by decide +kernel
theorem dX5_strengths_35 : decode cX5_strengths 35 = .ok (.invokevirtual 35, 3) := by decide +kernel
theorem dX5_strengths_38 : decode cX5_strengths 38 = .ok (.istore 8, 2) := by decide +kernel
theorem dX5_strengths_40 : decode cX5_strengths 40 = .ok (.aload_n 0, 1) := by decide +kernel
theorem dX5_strengths_41 : decode cX5_strengths 41 = .ok (.iload 6, 2) := by decide +kernel
theorem dX5_strengths_43 : decode cX5_strengths 43 = .ok (.iload 4, 2) := by decide +kernel
theorem dX5_strengths_45 : decode cX5_strengths 45 = .ok (.iload 5, 2) := by decide +kernel
theorem dX5_strengths_47 : decode cX5_strengths 47 = .ok (.invokevirtual 38, 3) := by decide +kernel
theorem dX5_strengths_50 : decode cX5_strengths 50 = .ok (.istore 5, 2) := by decide +kernel
theorem dX5_strengths_52 : decode cX5_strengths 52 = .ok (.iconst 0, 1) := by decide +kernel
theorem dX5_strengths_53 : decode cX5_strengths 53 = .ok (.istore 9, 2) := by decide +kernel
theorem dX5_strengths_55 : decode cX5_strengths 55 = .ok (.iload 9, 2) := by decide +kernel
theorem dX5_strengths_57 : decode cX5_strengths 57 = .ok (.bipush 9, 2) := by decide +kernel
theorem dX5_strengths_59 : decode cX5_strengths 59 = .ok (.if_icmp .ge 34, 3) := by decide +kernel
theorem dX5_strengths_62 : decode cX5_strengths 62 = .ok (.iload 9, 2) := by decide +kernel
theorem dX5_strengths_64 : decode cX5_strengths 64 = .ok (.aload_n 0, 1) := by decide +kernel
theorem dX5_strengths_65 : decode cX5_strengths 65 = .ok (.iload 6, 2) := by decide +kernel
theorem dX5_strengths_67 : decode cX5_strengths 67 = .ok (.iconst 1, 1) := by decide +kernel
theorem dX5_strengths_68 : decode cX5_strengths 68 = .ok (.iadd, 1) := by decide +kernel
theorem dX5_strengths_69 : decode cX5_strengths 69 = .ok (.iload 8, 2) := by decide +kernel
theorem dX5_strengths_71 : decode cX5_strengths 71 = .ok (.iload 9, 2) := by decide +kernel
theorem dX5_strengths_73 : decode cX5_strengths 73 = .ok (.invokestatic 45, 3) := by decide +kernel
theorem dX5_strengths_76 : decode cX5_strengths 76 = .ok (.iload 5, 2) := by decide +kernel
theorem dX5_strengths_78 : decode cX5_strengths 78 = .ok (.invokevirtual 48, 3) := by decide +kernel
theorem dX5_strengths_81 : decode cX5_strengths 81 = .ok (.iadd, 1) := by decide +kernel
theorem dX5_strengths_82 : decode cX5_strengths 82 = .ok (.iload 7, 2) := by decide +kernel
theorem dX5_strengths_84 : decode cX5_strengths 84 = .ok (.if_icmp .eq 9, 3) := by decide +kernel
theorem dX5_strengths_87 : decode cX5_strengths 87 = .ok (.iinc 9 1, 3) := by decide +kernel
theorem dX5_strengths_90 : decode cX5_strengths 90 = .ok (.goto (-35), 3) := by decide +kernel
theorem dX5_strengths_93 : decode cX5_strengths 93 = .ok (.bipush 10, 2) := by decide +kernel
theorem dX5_strengths_95 : decode cX5_strengths 95 = .ok (.iload_n 3, 1) := by decide +kernel
theorem dX5_strengths_96 : decode cX5_strengths 96 = .ok (.imul, 1) := by decide +kernel
theorem dX5_strengths_97 : decode cX5_strengths 97 = .ok (.iload 9, 2) := by decide +kernel
theorem dX5_strengths_99 : decode cX5_strengths 99 = .ok (.iadd, 1) := by decide +kernel
theorem dX5_strengths_100 : decode cX5_strengths 100 = .ok (.istore_n 3, 1) := by decide +kernel
theorem dX5_strengths_101 : decode cX5_strengths 101 = .ok (.iload 8, 2) := by decide +kernel
theorem dX5_strengths_103 : decode cX5_strengths 103 = .ok (.iload 9, 2) := by decide +kernel
theorem dX5_strengths_105 : decode cX5_strengths 105 = .ok (.invokestatic 45, 3) := by decide +kernel
theorem dX5_strengths_108 : decode cX5_strengths 108 = .ok (.istore 4, 2) := by decide +kernel
theorem dX5_strengths_110 : decode cX5_strengths 110 = .ok (.iinc 6 1, 3) := by decide +kernel
theorem dX5_strengths_113 : decode cX5_strengths 113 = .ok (.goto (-102), 3) := by decide +kernel
theorem dX5_strengths_116 : decode cX5_strengths 116 = .ok (.iload_n 3, 1) := by decide +kernel
theorem dX5_strengths_117 : decode cX5_strengths 117 = .ok (.ireturn, 1) := by decide +kernel
theorem dX6_init_0 : decode cX6_init 0 = .ok (.aload_n 0, 1) := by decide +kernel
theorem dX6_init_1 : decode cX6_init 1 = .ok (.invokespecial 3, 3) := by decide +kernel
theorem dX6_init_4 : decode cX6_init 4 = .ok (.aload_n 0, 1) := by decide +kernel
theorem dX6_init_5 : decode cX6_init 5 = .ok (.bipush 36, 2) := by decide +kernel
theorem dX6_init_7 : decode cX6_init 7 = .ok (.newarray .int, 2) := by decide +kernel
theorem dX6_init_9 : decode cX6_init 9 = .ok (.putfield 9, 3) := by decide +kernel
theorem dX6_init_12 : decode cX6_init 12 = .ok (.aload_n 0, 1) := by decide +kernel
theorem dX6_init_13 : decode cX6_init 13 = .ok (.bipush 8, 2) := by decide +kernel
theorem dX6_init_15 : decode cX6_init 15 = .ok (.newarray .int, 2) := by decide +kernel
theorem dX6_init_17 : decode cX6_init 17 = .ok (.putfield 15, 3) := by decide +kernel
theorem dX6_init_20 : decode cX6_init 20 = .ok (.aload_n 0, 1) := by decide +kernel
theorem dX6_init_21 : decode cX6_init 21 = .ok (.iconst 0, 1) := by decide +kernel
theorem dX6_init_22 : decode cX6_init 22 = .ok (.putfield 18, 3) := by decide +kernel
theorem dX6_init_25 : decode cX6_init 25 = .ok (.aload_n 0, 1) := by decide +kernel
theorem dX6_init_26 : decode cX6_init 26 = .ok (.bipush 9, 2) := by decide +kernel
theorem dX6_init_28 : decode cX6_init 28 = .ok (.putfield 22, 3) := by decide +kernel
theorem dX6_init_31 : decode cX6_init 31 = .ok (.aload_n 0, 1) := by decide +kernel
theorem dX6_init_32 : decode cX6_init 32 = .ok (.iconst 2, 1) := by decide +kernel
theorem dX6_init_33 : decode cX6_init 33 = .ok (.putfield 25, 3) := by decide +kernel
theorem dX6_init_36 : decode cX6_init 36 = .ok (.aload_n 0, 1) := by decide +kernel
theorem dX6_init_37 : decode cX6_init 37 = .ok (.iconst 0, 1) := by decide +kernel
theorem dX6_init_38 : decode cX6_init 38 = .ok (.putfield 28, 3) := by decide +kernel
theorem dX6_init_41 : decode cX6_init 41 = .ok (.aload_n 0, 1) := by decide +kernel
theorem dX6_init_42 : decode cX6_init 42 = .ok (.iconst 0, 1) := by decide +kernel
theorem dX6_init_43 : decode cX6_init 43 = .ok (.putfield 31, 3) := by decide +kernel
theorem dX6_init_46 : decode cX6_init 46 = .ok (.return_, 1) := by decide +kernel
theorem dX6_takeFrom_0 : decode cX6_takeFrom 0 = .ok (.aload_n 1, 1) := by decide +kernel
theorem dX6_takeFrom_1 : decode cX6_takeFrom 1 = .ok (.getfield 9, 3) := by decide +kernel
theorem dX6_takeFrom_4 : decode cX6_takeFrom 4 = .ok (.iconst 0, 1) := by decide +kernel
theorem dX6_takeFrom_5 : decode cX6_takeFrom 5 = .ok (.aload_n 0, 1) := by decide +kernel
theorem dX6_takeFrom_6 : decode cX6_takeFrom 6 = .ok (.getfield 9, 3) := by decide +kernel
theorem dX6_takeFrom_9 : decode cX6_takeFrom 9 = .ok (.iconst 0, 1) := by decide +kernel
theorem dX6_takeFrom_10 : decode cX6_takeFrom 10 = .ok (.bipush 36, 2) := by decide +kernel
theorem dX6_takeFrom_12 : decode cX6_takeFrom 12 = .ok (.invokestatic 34, 3) := by decide +kernel
theorem dX6_takeFrom_15 : decode cX6_takeFrom 15 = .ok (.aload_n 1, 1) := by decide +kernel
theorem dX6_takeFrom_16 : decode cX6_takeFrom 16 = .ok (.getfield 15, 3) := by decide +kernel
theorem dX6_takeFrom_19 : decode cX6_takeFrom 19 = .ok (.iconst 0, 1) := by decide +kernel
theorem dX6_takeFrom_20 : decode cX6_takeFrom 20 = .ok (.aload_n 0, 1) := by decide +kernel
theorem dX6_takeFrom_21 : decode cX6_takeFrom 21 = .ok (.getfield 15, 3) := by decide +kernel
theorem dX6_takeFrom_24 : decode cX6_takeFrom 24 = .ok (.iconst 0, 1) := by decide +kernel
theorem dX6_takeFrom_25 : decode cX6_takeFrom 25 = .ok (.bipush 8, 2) := by decide +kernel
theorem dX6_takeFrom_27 : decode cX6_takeFrom 27 = .ok (.invokestatic 34, 3) := by decide +kernel
theorem dX6_takeFrom_30 : decode cX6_takeFrom 30 = .ok (.aload_n 0, 1) := by decide +kernel
theorem dX6_takeFrom_31 : decode cX6_takeFrom 31 = .ok (.aload_n 1, 1) := by decide +kernel
theorem dX6_takeFrom_32 : decode cX6_takeFrom 32 = .ok (.getfield 18, 3) := by decide +kernel
theorem dX6_takeFrom_35 : decode cX6_takeFrom 35 = .ok (.putfield 18, 3) := by decide +kernel
theorem dX6_takeFrom_38 : decode cX6_takeFrom 38 = .ok (.aload_n 0, 1) := by decide +kernel
theorem dX6_takeFrom_39 : decode cX6_takeFrom 39 = .ok (.aload_n 1, 1) := by decide +kernel
theorem dX6_takeFrom_40 : decode cX6_takeFrom 40 = .ok (.getfield 22, 3) := by decide +kernel
theorem dX6_takeFrom_43 : decode cX6_takeFrom 43 = .ok (.putfield 22, 3) := by decide +kernel
theorem dX6_takeFrom_46 : decode cX6_takeFrom 46 = .ok (.aload_n 0, 1) := by decide +kernel
theorem dX6_takeFrom_47 : decode cX6_takeFrom 47 = .ok (.aload_n 1, 1) := by decide +kernel
theorem dX6_takeFrom_48 : decode cX6_takeFrom 48 = .ok (.getfield 25, 3) := by decide +kernel
theorem dX6_takeFrom_51 : decode cX6_takeFrom 51 = .ok (.putfield 25, 3) := by decide +kernel
theorem dX6_takeFrom_54 : decode cX6_takeFrom 54 = .ok (.aload_n 0, 1) := by decide +kernel
theorem dX6_takeFrom_55 : decode cX6_takeFrom 55 = .ok (.aload_n 1, 1) := by decide +kernel
theorem dX6_takeFrom_56 : decode cX6_takeFrom 56 = .ok (.getfield 28, 3) := by decide +kernel
theorem dX6_takeFrom_59 : decode cX6_takeFrom 59 = .ok (.putfield 28, 3) := by decide +kernel
theorem dX6_takeFrom_62 : decode cX6_takeFrom 62 = .ok (.aload_n 0, 1) := by decide +kernel
theorem dX6_takeFrom_63 : decode cX6_takeFrom 63 = .ok (.aload_n 1, 1) := by decide +kernel
theorem dX6_takeFrom_64 : decode cX6_takeFrom 64 = .ok (.getfield 31, 3) := by decide +kernel
theorem dX6_takeFrom_67 : decode cX6_takeFrom 67 = .ok (.putfield 31, 3) := by decide +kernel
theorem dX6_takeFrom_70 : decode cX6_takeFrom 70 = .ok (.return_, 1) := by decide +kernel
theorem dX6_has_0 : decode cX6_has 0 = .ok (.iload_n 1, 1) := by decide +kernel
theorem dX6_has_1 : decode cX6_has 1 = .ok (.ifCond .lt 25, 3) := by decide +kernel
theorem dX6_has_4 : decode cX6_has 4 = .ok (.iload_n 1, 1) := by decide +kernel
theorem dX6_has_5 : decode cX6_has 5 = .ok (.bipush 6, 2) := by decide +kernel
theorem dX6_has_7 : decode cX6_has 7 = .ok (.if_icmp .ge 19, 3) := by decide +kernel
theorem dX6_has_10 : decode cX6_has 10 = .ok (.aload_n 0, 1) := by decide +kernel
theorem dX6_has_11 : decode cX6_has 11 = .ok (.getfield 18, 3) := by decide +kernel
theorem dX6_has_14 : decode cX6_has 14 = .ok (.iload_n 1, 1) := by decide +kernel
theorem dX6_has_15 : decode cX6_has 15 = .ok (.ishr, 1) := by decide +kernel
theorem dX6_has_16 : decode cX6_has 16 = .ok (.iconst 1, 1) := by decide +kernel
theorem dX6_has_17 : decode cX6_has 17 = .ok (.iand, 1) := by decide +kernel
theorem dX6_has_18 : decode cX6_has 18 = .ok (.iconst 1, 1) := by decide +kernel
theorem dX6_has_19 : decode cX6_has 19 = .ok (.if_icmp .ne 7, 3) := by decide +kernel
theorem dX6_has_22 : decode cX6_has 22 = .ok (.iconst 1, 1) := by decide +kernel
theorem dX6_has_23 : decode cX6_has 23 = .ok (.goto 4, 3) := by decide +kernel
theorem dX6_has_26 : decode cX6_has 26 = .ok (.iconst 0, 1) := by decide +kernel
theorem dX6_has_27 : decode cX6_has 27 = .ok (.ireturn, 1) := by decide +kernel
theorem dX6_count_0 : decode cX6_count 0 = .ok (.aload_n 0, 1) := by decide +kernel
theorem dX6_count_1 : decode cX6_count 1 = .ok (.getfield 18, 3) := by decide +kernel
theorem dX6_count_4 : decode cX6_count 4 = .ok (.invokestatic 40, 3) := by decide +kernel
theorem dX6_count_7 : decode cX6_count 7 = .ok (.ireturn, 1) := by decide +kernel
theorem dX6_get_0 : decode cX6_get 0 = .ok (.iload_n 1, 1) := by decide +kernel
theorem dX6_get_1 : decode cX6_get 1 = .ok (.ifCond .lt 33, 3) := by decide +kernel
theorem dX6_get_4 : decode cX6_get 4 = .ok (.iload_n 1, 1) := by decide +kernel
theorem dX6_get_5 : decode cX6_get 5 = .ok (.bipush 6, 2) := by decide +kernel
theorem dX6_get_7 : decode cX6_get 7 = .ok (.if_icmp .ge 27, 3) := by decide +kernel
theorem dX6_get_10 : decode cX6_get 10 = .ok (.iload_n 2, 1) := by decide +kernel
theorem dX6_get_11 : decode cX6_get 11 = .ok (.ifCond .lt 23, 3) := by decide +kernel
theorem dX6_get_14 : decode cX6_get 14 = .ok (.iload_n 2, 1) := by decide +kernel
theorem dX6_get_15 : decode cX6_get 15 = .ok (.bipush 6, 2) := by decide +kernel
theorem dX6_get_17 : decode cX6_get 17 = .ok (.if_icmp .ge 17, 3) := by decide +kernel
theorem dX6_get_20 : decode cX6_get 20 = .ok (.aload_n 0, 1) := by decide +kernel
theorem dX6_get_21 : decode cX6_get 21 = .ok (.getfield 9, 3) := by decide +kernel
theorem dX6_get_24 : decode cX6_get 24 = .ok (.iload_n 1, 1) := by decide +kernel
theorem dX6_get_25 : decode cX6_get 25 = .ok (.bipush 6, 2) := by decide +kernel
theorem dX6_get_27 : decode cX6_get 27 = .ok (.imul, 1) := by decide +kernel
theorem dX6_get_28 : decode cX6_get 28 = .ok (.iload_n 2, 1) := by decide +kernel
theorem dX6_get_29 : decode cX6_get 29 = .ok (.iadd, 1) := by decide +kernel
theorem dX6_get_30 : decode cX6_get 30 = .ok (.iaload, 1) := by decide +kernel
theorem dX6_get_31 : decode cX6_get 31 = .ok (.goto 4, 3) := by decide +kernel
theorem dX6_get_34 : decode cX6_get 34 = .ok (.iconst 0, 1) := by decide +kernel
theorem dX6_get_35 : decode cX6_get 35 = .ok (.ireturn, 1) := by decide +kernel
theorem dX6_put_0 : decode cX6_put 0 = .ok (.iload_n 1, 1) := by decide +kernel
theorem dX6_put_1 : decode cX6_put 1 = .ok (.ifCond .lt 31, 3) := by decide +kernel
theorem dX6_put_4 : decode cX6_put 4 = .ok (.iload_n 1, 1) := by decide +kernel
theorem dX6_put_5 : decode cX6_put 5 = .ok (.bipush 6, 2) := by decide +kernel
theorem dX6_put_7 : decode cX6_put 7 = .ok (.if_icmp .ge 25, 3) := by decide +kernel
theorem dX6_put_10 : decode cX6_put 10 = .ok (.iload_n 2, 1) := by decide +kernel
theorem dX6_put_11 : decode cX6_put 11 = .ok (.ifCond .lt 21, 3) := by decide +kernel
theorem dX6_put_14 : decode cX6_put 14 = .ok (.iload_n 2, 1) := by decide +kernel
theorem dX6_put_15 : decode cX6_put 15 = .ok (.bipush 6, 2) := by decide +kernel
theorem dX6_put_17 : decode cX6_put 17 = .ok (.if_icmp .ge 15, 3) := by decide +kernel
theorem dX6_put_20 : decode cX6_put 20 = .ok (.aload_n 0, 1) := by decide +kernel
theorem dX6_put_21 : decode cX6_put 21 = .ok (.getfield 9, 3) := by decide +kernel
theorem dX6_put_24 : decode cX6_put 24 = .ok (.iload_n 1, 1) := by decide +kernel
theorem dX6_put_25 : decode cX6_put 25 = .ok (.bipush 6, 2) := by decide +kernel
theorem dX6_put_27 : decode cX6_put 27 = .ok (.imul, 1) := by decide +kernel
theorem dX6_put_28 : decode cX6_put 28 = .ok (.iload_n 2, 1) := by decide +kernel
theorem dX6_put_29 : decode cX6_put 29 = .ok (.iadd, 1) := by decide +kernel
theorem dX6_put_30 : decode cX6_put 30 = .ok (.iload_n 3, 1) := by decide +kernel
theorem dX6_put_31 : decode cX6_put 31 = .ok (.iastore, 1) := by decide +kernel
theorem dX6_put_32 : decode cX6_put 32 = .ok (.return_, 1) := by decide +kernel
theorem dX6_settle_0 : decode cX6_settle 0 = .ok (.aload_n 0, 1) := by decide +kernel
theorem dX6_settle_1 : decode cX6_settle 1 = .ok (.dup, 1) := by decide +kernel
theorem dX6_settle_2 : decode cX6_settle 2 = .ok (.getfield 18, 3) := by decide +kernel
theorem dX6_settle_5 : decode cX6_settle 5 = .ok (.iconst 1, 1) := by decide +kernel
theorem dX6_settle_6 : decode cX6_settle 6 = .ok (.iload_n 1, 1) := by decide +kernel
theorem dX6_settle_7 : decode cX6_settle 7 = .ok (.ishl, 1) := by decide +kernel
theorem dX6_settle_8 : decode cX6_settle 8 = .ok (.ior, 1) := by decide +kernel
theorem dX6_settle_9 : decode cX6_settle 9 = .ok (.putfield 18, 3) := by decide +kernel
theorem dX6_settle_12 : decode cX6_settle 12 = .ok (.aload_n 0, 1) := by decide +kernel
theorem dX6_settle_13 : decode cX6_settle 13 = .ok (.iload_n 1, 1) := by decide +kernel
theorem dX6_settle_14 : decode cX6_settle 14 = .ok (.iconst 0, 1) := by decide +kernel
theorem dX6_settle_15 : decode cX6_settle 15 = .ok (.iload_n 2, 1) := by decide +kernel
theorem dX6_settle_16 : decode cX6_settle 16 = .ok (.invokevirtual 46, 3) := by decide +kernel
theorem dX6_settle_19 : decode cX6_settle 19 = .ok (.aload_n 0, 1) := by decide +kernel
theorem dX6_settle_20 : decode cX6_settle 20 = .ok (.iload_n 1, 1) := by decide +kernel
theorem dX6_settle_21 : decode cX6_settle 21 = .ok (.iconst 1, 1) := by decide +kernel
theorem dX6_settle_22 : decode cX6_settle 22 = .ok (.iconst 0, 1) := by decide +kernel
theorem dX6_settle_23 : decode cX6_settle 23 = .ok (.invokevirtual 46, 3) := by decide +kernel
theorem dX6_settle_26 : decode cX6_settle 26 = .ok (.aload_n 0, 1) := by decide +kernel
theorem dX6_settle_27 : decode cX6_settle 27 = .ok (.iload_n 1, 1) := by decide +kernel
theorem dX6_settle_28 : decode cX6_settle 28 = .ok (.iconst 2, 1) := by decide +kernel
theorem dX6_settle_29 : decode cX6_settle 29 = .ok (.iload_n 3, 1) := by decide +kernel
theorem dX6_settle_30 : decode cX6_settle 30 = .ok (.invokevirtual 46, 3) := by decide +kernel
theorem dX6_settle_33 : decode cX6_settle 33 = .ok (.aload_n 0, 1) := by decide +kernel
theorem dX6_settle_34 : decode cX6_settle 34 = .ok (.iload_n 1, 1) := by decide +kernel
theorem dX6_settle_35 : decode cX6_settle 35 = .ok (.iconst 3, 1) := by decide +kernel
theorem dX6_settle_36 : decode cX6_settle 36 = .ok (.iload 4, 2) := by decide +kernel
theorem dX6_settle_38 : decode cX6_settle 38 = .ok (.invokevirtual 46, 3) := by decide +kernel
theorem dX6_settle_41 : decode cX6_settle 41 = .ok (.aload_n 0, 1) := by decide +kernel
theorem dX6_settle_42 : decode cX6_settle 42 = .ok (.iload_n 1, 1) := by decide +kernel
theorem dX6_settle_43 : decode cX6_settle 43 = .ok (.iconst 4, 1) := by decide +kernel
theorem dX6_settle_44 : decode cX6_settle 44 = .ok (.iload 5, 2) := by decide +kernel
theorem dX6_settle_46 : decode cX6_settle 46 = .ok (.invokevirtual 46, 3) := by decide +kernel
theorem dX6_settle_49 : decode cX6_settle 49 = .ok (.aload_n 0, 1) := by decide +kernel
theorem dX6_settle_50 : decode cX6_settle 50 = .ok (.iload_n 1, 1) := by decide +kernel
theorem dX6_settle_51 : decode cX6_settle 51 = .ok (.iconst 5, 1) := by decide +kernel
theorem dX6_settle_52 : decode cX6_settle 52 = .ok (.bipush (-6), 2) := by decide +kernel
theorem dX6_settle_54 : decode cX6_settle 54 = .ok (.invokevirtual 46, 3) := by decide +kernel
theorem dX6_settle_57 : decode cX6_settle 57 = .ok (.return_, 1) := by decide +kernel
theorem dX6_remove_0 : decode cX6_remove 0 = .ok (.aload_n 0, 1) := by decide +kernel
theorem dX6_remove_1 : decode cX6_remove 1 = .ok (.dup, 1) := by decide +kernel
theorem dX6_remove_2 : decode cX6_remove 2 = .ok (.getfield 18, 3) := by decide +kernel
theorem dX6_remove_5 : decode cX6_remove 5 = .ok (.iconst 1, 1) := by decide +kernel
theorem dX6_remove_6 : decode cX6_remove 6 = .ok (.iload_n 1, 1) := by decide +kernel
theorem dX6_remove_7 : decode cX6_remove 7 = .ok (.ishl, 1) := by decide +kernel
theorem dX6_remove_8 : decode cX6_remove 8 = .ok (.iconst (-1), 1) := by decide +kernel
theorem dX6_remove_9 : decode cX6_remove 9 = .ok (.ixor, 1) := by decide +kernel
theorem dX6_remove_10 : decode cX6_remove 10 = .ok (.iand, 1) := by decide +kernel
theorem dX6_remove_11 : decode cX6_remove 11 = .ok (.putfield 18, 3) := by decide +kernel
theorem dX6_remove_14 : decode cX6_remove 14 = .ok (.return_, 1) := by decide +kernel
theorem dX6_highestTemper_0 : decode cX6_highestTemper 0 = .ok (.iconst 0, 1) := by decide +kernel
theorem dX6_highestTemper_1 : decode cX6_highestTemper 1 = .ok (.istore_n 1, 1) := by decide +kernel
theorem dX6_highestTemper_2 : decode cX6_highestTemper 2 = .ok (.iconst 0, 1) := by decide +kernel
theorem dX6_highestTemper_3 : decode cX6_highestTemper 3 = .ok (.istore_n 2, 1) := by decide +kernel
theorem dX6_highestTemper_4 : decode cX6_highestTemper 4 = .ok (.iload_n 2, 1) := by decide +kernel
theorem dX6_highestTemper_5 : decode cX6_highestTemper 5 = .ok (.bipush 6, 2) := by decide +kernel
theorem dX6_highestTemper_7 : decode cX6_highestTemper 7 = .ok (.if_icmp .ge 28, 3) := by decide +kernel
theorem dX6_highestTemper_10 : decode cX6_highestTemper 10 = .ok (.aload_n 0, 1) := by decide +kernel
theorem dX6_highestTemper_11 : decode cX6_highestTemper 11 = .ok (.iload_n 2, 1) := by decide +kernel
theorem dX6_highestTemper_12 : decode cX6_highestTemper 12 = .ok (.invokevirtual 50, 3) := by decide +kernel
theorem dX6_highestTemper_15 : decode cX6_highestTemper 15 = .ok (.ifCond .eq 14, 3) := by decide +kernel
theorem dX6_highestTemper_18 : decode cX6_highestTemper 18 = .ok (.iload_n 1, 1) := by decide +kernel
theorem dX6_highestTemper_19 : decode cX6_highestTemper 19 = .ok (.aload_n 0, 1) := by decide +kernel
theorem dX6_highestTemper_20 : decode cX6_highestTemper 20 = .ok (.iload_n 2, 1) := by decide +kernel
theorem dX6_highestTemper_21 : decode cX6_highestTemper 21 = .ok (.iconst 0, 1) := by decide +kernel
theorem dX6_highestTemper_22 : decode cX6_highestTemper 22 = .ok (.invokevirtual 54, 3) := by decide +kernel
theorem dX6_highestTemper_25 : decode cX6_highestTemper 25 = .ok (.invokestatic 58, 3) := by decide +kernel
theorem dX6_highestTemper_28 : decode cX6_highestTemper 28 = .ok (.istore_n 1, 1) := by decide +kernel
theorem dX6_highestTemper_29 : decode cX6_highestTemper 29 = .ok (.iinc 2 1, 3) := by decide +kernel
theorem dX6_highestTemper_32 : decode cX6_highestTemper 32 = .ok (.goto (-28), 3) := by decide +kernel
theorem dX6_highestTemper_35 : decode cX6_highestTemper 35 = .ok (.iload_n 1, 1) := by decide +kernel
theorem dX6_highestTemper_36 : decode cX6_highestTemper 36 = .ok (.ireturn, 1) := by decide +kernel
theorem dX6_allTempers_0 : decode cX6_allTempers 0 = .ok (.iconst 0, 1) := by decide +kernel
theorem dX6_allTempers_1 : decode cX6_allTempers 1 = .ok (.istore_n 1, 1) := by decide +kernel
theorem dX6_allTempers_2 : decode cX6_allTempers 2 = .ok (.iconst 0, 1) := by decide +kernel
theorem dX6_allTempers_3 : decode cX6_allTempers 3 = .ok (.istore_n 2, 1) := by decide +kernel
theorem dX6_allTempers_4 : decode cX6_allTempers 4 = .ok (.iload_n 2, 1) := by decide +kernel
theorem dX6_allTempers_5 : decode cX6_allTempers 5 = .ok (.bipush 6, 2) := by decide +kernel
theorem dX6_allTempers_7 : decode cX6_allTempers 7 = .ok (.if_icmp .ge 26, 3) := by decide +kernel
theorem dX6_allTempers_10 : decode cX6_allTempers 10 = .ok (.aload_n 0, 1) := by decide +kernel
theorem dX6_allTempers_11 : decode cX6_allTempers 11 = .ok (.iload_n 2, 1) := by decide +kernel
theorem dX6_allTempers_12 : decode cX6_allTempers 12 = .ok (.invokevirtual 50, 3) := by decide +kernel
theorem dX6_allTempers_15 : decode cX6_allTempers 15 = .ok (.ifCond .eq 12, 3) := by decide +kernel
theorem dX6_allTempers_18 : decode cX6_allTempers 18 = .ok (.iload_n 1, 1) := by decide +kernel
theorem dX6_allTempers_19 : decode cX6_allTempers 19 = .ok (.aload_n 0, 1) := by decide +kernel
theorem dX6_allTempers_20 : decode cX6_allTempers 20 = .ok (.iload_n 2, 1) := by decide +kernel
theorem dX6_allTempers_21 : decode cX6_allTempers 21 = .ok (.iconst 0, 1) := by decide +kernel
theorem dX6_allTempers_22 : decode cX6_allTempers 22 = .ok (.invokevirtual 54, 3) := by decide +kernel
theorem dX6_allTempers_25 : decode cX6_allTempers 25 = .ok (.iadd, 1) := by decide +kernel
theorem dX6_allTempers_26 : decode cX6_allTempers 26 = .ok (.istore_n 1, 1) := by decide +kernel
theorem dX6_allTempers_27 : decode cX6_allTempers 27 = .ok (.iinc 2 1, 3) := by decide +kernel
theorem dX6_allTempers_30 : decode cX6_allTempers 30 = .ok (.goto (-26), 3) := by decide +kernel
theorem dX6_allTempers_33 : decode cX6_allTempers 33 = .ok (.iload_n 1, 1) := by decide +kernel
theorem dX6_allTempers_34 : decode cX6_allTempers 34 = .ok (.ireturn, 1) := by decide +kernel
theorem dX6_hearers_0 : decode cX6_hearers 0 = .ok (.aload_n 0, 1) := by decide +kernel
theorem dX6_hearers_1 : decode cX6_hearers 1 = .ok (.iload_n 1, 1) := by decide +kernel
theorem dX6_hearers_2 : decode cX6_hearers 2 = .ok (.iconst 4, 1) := by decide +kernel
theorem dX6_hearers_3 : decode cX6_hearers 3 = .ok (.invokevirtual 54, 3) := by decide +kernel
theorem dX6_hearers_6 : decode cX6_hearers 6 = .ok (.istore_n 2, 1) := by decide +kernel
theorem dX6_hearers_7 : decode cX6_hearers 7 = .ok (.iconst 0, 1) := by decide +kernel
theorem dX6_hearers_8 : decode cX6_hearers 8 = .ok (.istore_n 3, 1) := by decide +kernel
theorem dX6_hearers_9 : decode cX6_hearers 9 = .ok (.iconst 0, 1) := by decide +kernel
theorem dX6_hearers_10 : decode cX6_hearers 10 = .ok (.istore 4, 2) := by decide +kernel
theorem dX6_hearers_12 : decode cX6_hearers 12 = .ok (.iload 4, 2) := by decide +kernel
theorem dX6_hearers_14 : decode cX6_hearers 14 = .ok (.bipush 6, 2) := by decide +kernel
theorem dX6_hearers_16 : decode cX6_hearers 16 = .ok (.if_icmp .ge 50, 3) := by decide +kernel
theorem dX6_hearers_19 : decode cX6_hearers 19 = .ok (.iload 4, 2) := by decide +kernel
theorem dX6_hearers_21 : decode cX6_hearers 21 = .ok (.iload_n 1, 1) := by decide +kernel
theorem dX6_hearers_22 : decode cX6_hearers 22 = .ok (.if_icmp .eq 38, 3) := by decide +kernel
theorem dX6_hearers_25 : decode cX6_hearers 25 = .ok (.aload_n 0, 1) := by decide +kernel
theorem dX6_hearers_26 : decode cX6_hearers 26 = .ok (.iload 4, 2) := by decide +kernel
theorem dX6_hearers_28 : decode cX6_hearers 28 = .ok (.invokevirtual 50, 3) := by decide +kernel
theorem dX6_hearers_31 : decode cX6_hearers 31 = .ok (.ifCond .eq 29, 3) := by decide +kernel
theorem dX6_hearers_34 : decode cX6_hearers 34 = .ok (.iload_n 2, 1) := by decide +kernel
theorem dX6_hearers_35 : decode cX6_hearers 35 = .ok (.aload_n 0, 1) := by decide +kernel
theorem dX6_hearers_36 : decode cX6_hearers 36 = .ok (.iload 4, 2) := by decide +kernel
theorem dX6_hearers_38 : decode cX6_hearers 38 = .ok (.iconst 4, 1) := by decide +kernel
theorem dX6_hearers_39 : decode cX6_hearers 39 = .ok (.invokevirtual 54, 3) := by decide +kernel
theorem dX6_hearers_42 : decode cX6_hearers 42 = .ok (.isub, 1) := by decide +kernel
theorem dX6_hearers_43 : decode cX6_hearers 43 = .ok (.invokestatic 63, 3) := by decide +kernel
theorem dX6_hearers_46 : decode cX6_hearers 46 = .ok (.aload_n 0, 1) := by decide +kernel
theorem dX6_hearers_47 : decode cX6_hearers 47 = .ok (.getfield 25, 3) := by decide +kernel
theorem dX6_hearers_50 : decode cX6_hearers 50 = .ok (.if_icmp .gt 10, 3) := by decide +kernel
theorem dX6_hearers_53 : decode cX6_hearers 53 = .ok (.iload_n 3, 1) := by decide +kernel
theorem dX6_hearers_54 : decode cX6_hearers 54 = .ok (.iconst 1, 1) := by decide +kernel
theorem dX6_hearers_55 : decode cX6_hearers 55 = .ok (.iload 4, 2) := by decide +kernel
theorem dX6_hearers_57 : decode cX6_hearers 57 = .ok (.ishl, 1) := by decide +kernel
theorem dX6_hearers_58 : decode cX6_hearers 58 = .ok (.ior, 1) := by decide +kernel
theorem dX6_hearers_59 : decode cX6_hearers 59 = .ok (.istore_n 3, 1) := by decide +kernel
theorem dX6_hearers_60 : decode cX6_hearers 60 = .ok (.iinc 4 1, 3) := by decide +kernel
theorem dX6_hearers_63 : decode cX6_hearers 63 = .ok (.goto (-51), 3) := by decide +kernel
theorem dX6_hearers_66 : decode cX6_hearers 66 = .ok (.iload_n 3, 1) := by decide +kernel
theorem dX6_hearers_67 : decode cX6_hearers 67 = .ok (.ireturn, 1) := by decide +kernel
theorem dX6_saysHeard_0 : decode cX6_saysHeard 0 = .ok (.iload_n 1, 1) := by decide +kernel
theorem dX6_saysHeard_1 : decode cX6_saysHeard 1 = .ok (.iload_n 2, 1) := by decide +kernel
theorem dX6_saysHeard_2 : decode cX6_saysHeard 2 = .ok (.if_icmp .eq 16, 3) := by decide +kernel
theorem dX6_saysHeard_5 : decode cX6_saysHeard 5 = .ok (.aload_n 0, 1) := by decide +kernel
theorem dX6_saysHeard_6 : decode cX6_saysHeard 6 = .ok (.iload_n 2, 1) := by decide +kernel
theorem dX6_saysHeard_7 : decode cX6_saysHeard 7 = .ok (.invokevirtual 66, 3) := by decide +kernel
theorem dX6_saysHeard_10 : decode cX6_saysHeard 10 = .ok (.iload_n 1, 1) := by decide +kernel
theorem dX6_saysHeard_11 : decode cX6_saysHeard 11 = .ok (.ishr, 1) := by decide +kernel
theorem dX6_saysHeard_12 : decode cX6_saysHeard 12 = .ok (.iconst 1, 1) := by decide +kernel
theorem dX6_saysHeard_13 : decode cX6_saysHeard 13 = .ok (.iand, 1) := by decide +kernel
theorem dX6_saysHeard_14 : decode cX6_saysHeard 14 = .ok (.iconst 1, 1) := by decide +kernel
theorem dX6_saysHeard_15 : decode cX6_saysHeard 15 = .ok (.if_icmp .ne 7, 3) := by decide +kernel
theorem dX6_saysHeard_18 : decode cX6_saysHeard 18 = .ok (.iconst 1, 1) := by decide +kernel
theorem dX6_saysHeard_19 : decode cX6_saysHeard 19 = .ok (.goto 4, 3) := by decide +kernel
theorem dX6_saysHeard_22 : decode cX6_saysHeard 22 = .ok (.iconst 0, 1) := by decide +kernel
theorem dX6_saysHeard_23 : decode cX6_saysHeard 23 = .ok (.ireturn, 1) := by decide +kernel
theorem dX6_addSight_0 : decode cX6_addSight 0 = .ok (.aload_n 0, 1) := by decide +kernel
theorem dX6_addSight_1 : decode cX6_addSight 1 = .ok (.getfield 28, 3) := by decide +kernel
theorem dX6_addSight_4 : decode cX6_addSight 4 = .ok (.iconst 0, 1) := by decide +kernel
theorem dX6_addSight_5 : decode cX6_addSight 5 = .ok (.bipush 7, 2) := by decide +kernel
theorem dX6_addSight_7 : decode cX6_addSight 7 = .ok (.invokestatic 69, 3) := by decide +kernel
theorem dX6_addSight_10 : decode cX6_addSight 10 = .ok (.ifCond .eq 55, 3) := by decide +kernel
theorem dX6_addSight_13 : decode cX6_addSight 13 = .ok (.iconst 1, 1) := by decide +kernel
theorem dX6_addSight_14 : decode cX6_addSight 14 = .ok (.aload_n 0, 1) := by decide +kernel
theorem dX6_addSight_15 : decode cX6_addSight 15 = .ok (.getfield 28, 3) := by decide +kernel
theorem dX6_addSight_18 : decode cX6_addSight 18 = .ok (.ishl, 1) := by decide +kernel
theorem dX6_addSight_19 : decode cX6_addSight 19 = .ok (.istore_n 3, 1) := by decide +kernel
theorem dX6_addSight_20 : decode cX6_addSight 20 = .ok (.aload_n 0, 1) := by decide +kernel
theorem dX6_addSight_21 : decode cX6_addSight 21 = .ok (.getfield 15, 3) := by decide +kernel
theorem dX6_addSight_24 : decode cX6_addSight 24 = .ok (.aload_n 0, 1) := by decide +kernel
theorem dX6_addSight_25 : decode cX6_addSight 25 = .ok (.getfield 28, 3) := by decide +kernel
theorem dX6_addSight_28 : decode cX6_addSight 28 = .ok (.iload_n 1, 1) := by decide +kernel
theorem dX6_addSight_29 : decode cX6_addSight 29 = .ok (.iastore, 1) := by decide +kernel
theorem dX6_addSight_30 : decode cX6_addSight 30 = .ok (.aload_n 0, 1) := by decide +kernel
theorem dX6_addSight_31 : decode cX6_addSight 31 = .ok (.iload_n 2, 1) := by decide +kernel
theorem dX6_addSight_32 : decode cX6_addSight 32 = .ok (.ifCond .eq 12, 3) := by decide +kernel
theorem dX6_addSight_35 : decode cX6_addSight 35 = .ok (.aload_n 0, 1) := by decide +kernel
theorem dX6_addSight_36 : decode cX6_addSight 36 = .ok (.getfield 31, 3) := by decide +kernel
theorem dX6_addSight_39 : decode cX6_addSight 39 = .ok (.iload_n 3, 1) := by decide +kernel
theorem dX6_addSight_40 : decode cX6_addSight 40 = .ok (.ior, 1) := by decide +kernel
theorem dX6_addSight_41 : decode cX6_addSight 41 = .ok (.goto 11, 3) := by decide +kernel
theorem dX6_addSight_44 : decode cX6_addSight 44 = .ok (.aload_n 0, 1) := by decide +kernel
theorem dX6_addSight_45 : decode cX6_addSight 45 = .ok (.getfield 31, 3) := by decide +kernel
theorem dX6_addSight_48 : decode cX6_addSight 48 = .ok (.iload_n 3, 1) := by decide +kernel
theorem dX6_addSight_49 : decode cX6_addSight 49 = .ok (.iconst (-1), 1) := by decide +kernel
theorem dX6_addSight_50 : decode cX6_addSight 50 = .ok (.ixor, 1) := by decide +kernel
theorem dX6_addSight_51 : decode cX6_addSight 51 = .ok (.iand, 1) := by decide +kernel
theorem dX6_addSight_52 : decode cX6_addSight 52 = .ok (.putfield 31, 3) := by decide +kernel
theorem dX6_addSight_55 : decode cX6_addSight 55 = .ok (.aload_n 0, 1) := by decide +kernel
theorem dX6_addSight_56 : decode cX6_addSight 56 = .ok (.dup, 1) := by decide +kernel
theorem dX6_addSight_57 : decode cX6_addSight 57 = .ok (.getfield 28, 3) := by decide +kernel
theorem dX6_addSight_60 : decode cX6_addSight 60 = .ok (.iconst 1, 1) := by decide +kernel
theorem dX6_addSight_61 : decode cX6_addSight 61 = .ok (.iadd, 1) := by decide +kernel
theorem dX6_addSight_62 : decode cX6_addSight 62 = .ok (.putfield 28, 3) := by decide +kernel
theorem dX6_addSight_65 : decode cX6_addSight 65 = .ok (.return_, 1) := by decide +kernel
theorem dX6_suspects_0 : decode cX6_suspects 0 = .ok (.iconst 0, 1) := by decide +kernel
theorem dX6_suspects_1 : decode cX6_suspects 1 = .ok (.istore_n 1, 1) := by decide +kernel
theorem dX6_suspects_2 : decode cX6_suspects 2 = .ok (.iconst 0, 1) := by decide +kernel
theorem dX6_suspects_3 : decode cX6_suspects 3 = .ok (.istore_n 2, 1) := by decide +kernel
theorem dX6_suspects_4 : decode cX6_suspects 4 = .ok (.iload_n 2, 1) := by decide +kernel
theorem dX6_suspects_5 : decode cX6_suspects 5 = .ok (.bipush 6, 2) := by decide +kernel
theorem dX6_suspects_7 : decode cX6_suspects 7 = .ok (.if_icmp .ge 31, 3) := by decide +kernel
theorem dX6_suspects_10 : decode cX6_suspects 10 = .ok (.aload_n 0, 1) := by decide +kernel
theorem dX6_suspects_11 : decode cX6_suspects 11 = .ok (.iload_n 2, 1) := by decide +kernel
theorem dX6_suspects_12 : decode cX6_suspects 12 = .ok (.invokevirtual 50, 3) := by decide +kernel
theorem dX6_suspects_15 : decode cX6_suspects 15 = .ok (.ifCond .eq 17, 3) := by decide +kernel
theorem dX6_suspects_18 : decode cX6_suspects 18 = .ok (.aload_n 0, 1) := by decide +kernel
theorem dX6_suspects_19 : decode cX6_suspects 19 = .ok (.iload_n 2, 1) := by decide +kernel
theorem dX6_suspects_20 : decode cX6_suspects 20 = .ok (.invokevirtual 73, 3) := by decide +kernel
theorem dX6_suspects_23 : decode cX6_suspects 23 = .ok (.ifCond .eq 9, 3) := by decide +kernel
theorem dX6_suspects_26 : decode cX6_suspects 26 = .ok (.iload_n 1, 1) := by decide +kernel
theorem dX6_suspects_27 : decode cX6_suspects 27 = .ok (.iconst 1, 1) := by decide +kernel
theorem dX6_suspects_28 : decode cX6_suspects 28 = .ok (.iload_n 2, 1) := by decide +kernel
theorem dX6_suspects_29 : decode cX6_suspects 29 = .ok (.ishl, 1) := by decide +kernel
theorem dX6_suspects_30 : decode cX6_suspects 30 = .ok (.ior, 1) := by decide +kernel
theorem dX6_suspects_31 : decode cX6_suspects 31 = .ok (.istore_n 1, 1) := by decide +kernel
theorem dX6_suspects_32 : decode cX6_suspects 32 = .ok (.iinc 2 1, 3) := by decide +kernel
theorem dX6_suspects_35 : decode cX6_suspects 35 = .ok (.goto (-31), 3) := by decide +kernel
theorem dX6_suspects_38 : decode cX6_suspects 38 = .ok (.iload_n 1, 1) := by decide +kernel
theorem dX6_suspects_39 : decode cX6_suspects 39 = .ok (.ireturn, 1) := by decide +kernel
theorem dX6_allSightsFit_0 : decode cX6_allSightsFit 0 = .ok (.iconst 0, 1) := by decide +kernel
theorem dX6_allSightsFit_1 : decode cX6_allSightsFit 1 = .ok (.istore_n 2, 1) := by decide +kernel
theorem dX6_allSightsFit_2 : decode cX6_allSightsFit 2 = .ok (.iload_n 2, 1) := by decide +kernel
theorem dX6_allSightsFit_3 : decode cX6_allSightsFit 3 = .ok (.aload_n 0, 1) := by decide +kernel
theorem dX6_allSightsFit_4 : decode cX6_allSightsFit 4 = .ok (.getfield 28, 3) := by decide +kernel
theorem dX6_allSightsFit_7 : decode cX6_allSightsFit 7 = .ok (.if_icmp .ge 63, 3) := by decide +kernel
theorem dX6_allSightsFit_10 : decode cX6_allSightsFit 10 = .ok (.iload_n 2, 1) := by decide +kernel
theorem dX6_allSightsFit_11 : decode cX6_allSightsFit 11 = .ok (.bipush 8, 2) := by decide +kernel
theorem dX6_allSightsFit_13 : decode cX6_allSightsFit 13 = .ok (.if_icmp .ge 57, 3) := by decide +kernel
theorem dX6_allSightsFit_16 : decode cX6_allSightsFit 16 = .ok (.aload_n 0, 1) := by decide +kernel
theorem dX6_allSightsFit_17 : decode cX6_allSightsFit 17 = .ok (.getfield 31, 3) := by decide +kernel
theorem dX6_allSightsFit_20 : decode cX6_allSightsFit 20 = .ok (.iload_n 2, 1) := by decide +kernel
theorem dX6_allSightsFit_21 : decode cX6_allSightsFit 21 = .ok (.ishr, 1) := by decide +kernel
theorem dX6_allSightsFit_22 : decode cX6_allSightsFit 22 = .ok (.iconst 1, 1) := by decide +kernel
theorem dX6_allSightsFit_23 : decode cX6_allSightsFit 23 = .ok (.iand, 1) := by decide +kernel
theorem dX6_allSightsFit_24 : decode cX6_allSightsFit 24 = .ok (.iconst 1, 1) := by decide +kernel
theorem dX6_allSightsFit_25 : decode cX6_allSightsFit 25 = .ok (.if_icmp .ne 7, 3) := by decide +kernel
theorem dX6_allSightsFit_28 : decode cX6_allSightsFit 28 = .ok (.iconst 1, 1) := by decide +kernel
theorem dX6_allSightsFit_29 : decode cX6_allSightsFit 29 = .ok (.goto 4, 3) := by decide +kernel
theorem dX6_allSightsFit_32 : decode cX6_allSightsFit 32 = .ok (.iconst 0, 1) := by decide +kernel
theorem dX6_allSightsFit_33 : decode cX6_allSightsFit 33 = .ok (.istore_n 3, 1) := by decide +kernel
theorem dX6_allSightsFit_34 : decode cX6_allSightsFit 34 = .ok (.aload_n 0, 1) := by decide +kernel
theorem dX6_allSightsFit_35 : decode cX6_allSightsFit 35 = .ok (.aload_n 0, 1) := by decide +kernel
theorem dX6_allSightsFit_36 : decode cX6_allSightsFit 36 = .ok (.getfield 15, 3) := by decide +kernel
theorem dX6_allSightsFit_39 : decode cX6_allSightsFit 39 = .ok (.iload_n 2, 1) := by decide +kernel
theorem dX6_allSightsFit_40 : decode cX6_allSightsFit 40 = .ok (.iaload, 1) := by decide +kernel
theorem dX6_allSightsFit_41 : decode cX6_allSightsFit 41 = .ok (.invokevirtual 50, 3) := by decide +kernel
theorem dX6_allSightsFit_44 : decode cX6_allSightsFit 44 = .ok (.ifCond .eq 18, 3) := by decide +kernel
theorem dX6_allSightsFit_47 : decode cX6_allSightsFit 47 = .ok (.aload_n 0, 1) := by decide +kernel
theorem dX6_allSightsFit_48 : decode cX6_allSightsFit 48 = .ok (.aload_n 0, 1) := by decide +kernel
theorem dX6_allSightsFit_49 : decode cX6_allSightsFit 49 = .ok (.getfield 15, 3) := by decide +kernel
theorem dX6_allSightsFit_52 : decode cX6_allSightsFit 52 = .ok (.iload_n 2, 1) := by decide +kernel
theorem dX6_allSightsFit_53 : decode cX6_allSightsFit 53 = .ok (.iaload, 1) := by decide +kernel
theorem dX6_allSightsFit_54 : decode cX6_allSightsFit 54 = .ok (.iload_n 1, 1) := by decide +kernel
theorem dX6_allSightsFit_55 : decode cX6_allSightsFit 55 = .ok (.invokevirtual 76, 3) := by decide +kernel
theorem dX6_allSightsFit_58 : decode cX6_allSightsFit 58 = .ok (.iload_n 3, 1) := by decide +kernel
theorem dX6_allSightsFit_59 : decode cX6_allSightsFit 59 = .ok (.if_icmp .eq 5, 3) := by decide +kernel
theorem dX6_allSightsFit_62 : decode cX6_allSightsFit 62 = .ok (.iconst 0, 1) := by decide +kernel
theorem dX6_allSightsFit_63 : decode cX6_allSightsFit 63 = .ok (.ireturn, 1) := by decide +kernel
theorem dX6_allSightsFit_64 : decode cX6_allSightsFit 64 = .ok (.iinc 2 1, 3) := by decide +kernel
theorem dX6_allSightsFit_67 : decode cX6_allSightsFit 67 = .ok (.goto (-65), 3) := by decide +kernel
theorem dX6_allSightsFit_70 : decode cX6_allSightsFit 70 = .ok (.iconst 1, 1) := by decide +kernel
theorem dX6_allSightsFit_71 : decode cX6_allSightsFit 71 = .ok (.ireturn, 1) := by decide +kernel
theorem dX6_mostLeft_0 : decode cX6_mostLeft 0 = .ok (.iconst 0, 1) := by decide +kernel
theorem dX6_mostLeft_1 : decode cX6_mostLeft 1 = .ok (.istore_n 3, 1) := by decide +kernel
theorem dX6_mostLeft_2 : decode cX6_mostLeft 2 = .ok (.iconst 0, 1) := by decide +kernel
theorem dX6_mostLeft_3 : decode cX6_mostLeft 3 = .ok (.istore 4, 2) := by decide +kernel
theorem dX6_mostLeft_5 : decode cX6_mostLeft 5 = .ok (.iload 4, 2) := by decide +kernel
theorem dX6_mostLeft_7 : decode cX6_mostLeft 7 = .ok (.bipush 6, 2) := by decide +kernel
theorem dX6_mostLeft_9 : decode cX6_mostLeft 9 = .ok (.if_icmp .ge 32, 3) := by decide +kernel
theorem dX6_mostLeft_12 : decode cX6_mostLeft 12 = .ok (.iload_n 1, 1) := by decide +kernel
theorem dX6_mostLeft_13 : decode cX6_mostLeft 13 = .ok (.iload 4, 2) := by decide +kernel
theorem dX6_mostLeft_15 : decode cX6_mostLeft 15 = .ok (.ishr, 1) := by decide +kernel
theorem dX6_mostLeft_16 : decode cX6_mostLeft 16 = .ok (.iconst 1, 1) := by decide +kernel
theorem dX6_mostLeft_17 : decode cX6_mostLeft 17 = .ok (.iand, 1) := by decide +kernel
theorem dX6_mostLeft_18 : decode cX6_mostLeft 18 = .ok (.iconst 1, 1) := by decide +kernel
theorem dX6_mostLeft_19 : decode cX6_mostLeft 19 = .ok (.if_icmp .ne 16, 3) := by decide +kernel
theorem dX6_mostLeft_22 : decode cX6_mostLeft 22 = .ok (.aload_n 0, 1) := by decide +kernel
theorem dX6_mostLeft_23 : decode cX6_mostLeft 23 = .ok (.iload_n 2, 1) := by decide +kernel
theorem dX6_mostLeft_24 : decode cX6_mostLeft 24 = .ok (.iload 4, 2) := by decide +kernel
theorem dX6_mostLeft_26 : decode cX6_mostLeft 26 = .ok (.invokevirtual 76, 3) := by decide +kernel
theorem dX6_mostLeft_29 : decode cX6_mostLeft 29 = .ok (.ifCond .eq 6, 3) := by decide +kernel
theorem dX6_mostLeft_32 : decode cX6_mostLeft 32 = .ok (.iinc 3 1, 3) := by decide +kernel
theorem dX6_mostLeft_35 : decode cX6_mostLeft 35 = .ok (.iinc 4 1, 3) := by decide +kernel
theorem dX6_mostLeft_38 : decode cX6_mostLeft 38 = .ok (.goto (-33), 3) := by decide +kernel
theorem dX6_mostLeft_41 : decode cX6_mostLeft 41 = .ok (.iload_n 3, 1) := by decide +kernel
theorem dX6_mostLeft_42 : decode cX6_mostLeft 42 = .ok (.iload_n 1, 1) := by decide +kernel
theorem dX6_mostLeft_43 : decode cX6_mostLeft 43 = .ok (.invokestatic 40, 3) := by decide +kernel
theorem dX6_mostLeft_46 : decode cX6_mostLeft 46 = .ok (.iload_n 3, 1) := by decide +kernel
theorem dX6_mostLeft_47 : decode cX6_mostLeft 47 = .ok (.isub, 1) := by decide +kernel
theorem dX6_mostLeft_48 : decode cX6_mostLeft 48 = .ok (.invokestatic 58, 3) := by decide +kernel
theorem dX6_mostLeft_51 : decode cX6_mostLeft 51 = .ok (.ireturn, 1) := by decide +kernel
theorem dX7_init_0 : decode cX7_init 0 = .ok (.aload_n 0, 1) := by decide +kernel
theorem dX7_init_1 : decode cX7_init 1 = .ok (.invokespecial 3, 3) := by decide +kernel
theorem dX7_init_4 : decode cX7_init 4 = .ok (.aload_n 0, 1) := by decide +kernel
theorem dX7_init_5 : decode cX7_init 5 = .ok (.new 9, 3) := by decide +kernel
theorem dX7_init_8 : decode cX7_init 8 = .ok (.dup, 1) := by decide +kernel
theorem dX7_init_9 : decode cX7_init 9 = .ok (.invokespecial 11, 3) := by decide +kernel
theorem dX7_init_12 : decode cX7_init 12 = .ok (.putfield 12, 3) := by decide +kernel
theorem dX7_init_15 : decode cX7_init 15 = .ok (.aload_n 0, 1) := by decide +kernel
theorem dX7_init_16 : decode cX7_init 16 = .ok (.iconst 0, 1) := by decide +kernel
theorem dX7_init_17 : decode cX7_init 17 = .ok (.putfield 18, 3) := by decide +kernel
theorem dX7_init_20 : decode cX7_init 20 = .ok (.aload_n 0, 1) := by decide +kernel
theorem dX7_init_21 : decode cX7_init 21 = .ok (.iconst 0, 1) := by decide +kernel
theorem dX7_init_22 : decode cX7_init 22 = .ok (.putfield 22, 3) := by decide +kernel
theorem dX7_init_25 : decode cX7_init 25 = .ok (.aload_n 0, 1) := by decide +kernel
theorem dX7_init_26 : decode cX7_init 26 = .ok (.iconst 0, 1) := by decide +kernel
theorem dX7_init_27 : decode cX7_init 27 = .ok (.putfield 25, 3) := by decide +kernel
theorem dX7_init_30 : decode cX7_init 30 = .ok (.aload_n 0, 1) := by decide +kernel
theorem dX7_init_31 : decode cX7_init 31 = .ok (.iconst 0, 1) := by decide +kernel
theorem dX7_init_32 : decode cX7_init 32 = .ok (.putfield 28, 3) := by decide +kernel
theorem dX7_init_35 : decode cX7_init 35 = .ok (.aload_n 0, 1) := by decide +kernel
theorem dX7_init_36 : decode cX7_init 36 = .ok (.bipush (-6), 2) := by decide +kernel
theorem dX7_init_38 : decode cX7_init 38 = .ok (.putfield 31, 3) := by decide +kernel
theorem dX7_init_41 : decode cX7_init 41 = .ok (.aload_n 0, 1) := by decide +kernel
theorem dX7_init_42 : decode cX7_init 42 = .ok (.bipush (-6), 2) := by decide +kernel
theorem dX7_init_44 : decode cX7_init 44 = .ok (.putfield 34, 3) := by decide +kernel
theorem dX7_init_47 : decode cX7_init 47 = .ok (.aload_n 0, 1) := by decide +kernel
theorem dX7_init_48 : decode cX7_init 48 = .ok (.iconst 0, 1) := by decide +kernel
theorem dX7_init_49 : decode cX7_init 49 = .ok (.putfield 37, 3) := by decide +kernel
theorem dX7_init_52 : decode cX7_init 52 = .ok (.return_, 1) := by decide +kernel
theorem dX7_begin_0 : decode cX7_begin 0 = .ok (.aload_n 0, 1) := by decide +kernel
theorem dX7_begin_1 : decode cX7_begin 1 = .ok (.getfield 12, 3) := by decide +kernel
theorem dX7_begin_4 : decode cX7_begin 4 = .ok (.aload_n 1, 1) := by decide +kernel
theorem dX7_begin_5 : decode cX7_begin 5 = .ok (.invokevirtual 40, 3) := by decide +kernel
theorem dX7_begin_8 : decode cX7_begin 8 = .ok (.aload_n 0, 1) := by decide +kernel
theorem dX7_begin_9 : decode cX7_begin 9 = .ok (.iconst 0, 1) := by decide +kernel
theorem dX7_begin_10 : decode cX7_begin 10 = .ok (.putfield 18, 3) := by decide +kernel
theorem dX7_begin_13 : decode cX7_begin 13 = .ok (.aload_n 0, 1) := by decide +kernel
theorem dX7_begin_14 : decode cX7_begin 14 = .ok (.iconst 0, 1) := by decide +kernel
theorem dX7_begin_15 : decode cX7_begin 15 = .ok (.putfield 22, 3) := by decide +kernel
theorem dX7_begin_18 : decode cX7_begin 18 = .ok (.aload_n 0, 1) := by decide +kernel
theorem dX7_begin_19 : decode cX7_begin 19 = .ok (.iconst 0, 1) := by decide +kernel
theorem dX7_begin_20 : decode cX7_begin 20 = .ok (.putfield 25, 3) := by decide +kernel
theorem dX7_begin_23 : decode cX7_begin 23 = .ok (.aload_n 0, 1) := by decide +kernel
theorem dX7_begin_24 : decode cX7_begin 24 = .ok (.iconst 0, 1) := by decide +kernel
theorem dX7_begin_25 : decode cX7_begin 25 = .ok (.putfield 28, 3) := by decide +kernel
theorem dX7_begin_28 : decode cX7_begin 28 = .ok (.aload_n 0, 1) := by decide +kernel
theorem dX7_begin_29 : decode cX7_begin 29 = .ok (.bipush (-6), 2) := by decide +kernel
theorem dX7_begin_31 : decode cX7_begin 31 = .ok (.putfield 31, 3) := by decide +kernel
theorem dX7_begin_34 : decode cX7_begin 34 = .ok (.aload_n 0, 1) := by decide +kernel
theorem dX7_begin_35 : decode cX7_begin 35 = .ok (.bipush (-6), 2) := by decide +kernel
theorem dX7_begin_37 : decode cX7_begin 37 = .ok (.putfield 34, 3) := by decide +kernel
theorem dX7_begin_40 : decode cX7_begin 40 = .ok (.aload_n 0, 1) := by decide +kernel
theorem dX7_begin_41 : decode cX7_begin 41 = .ok (.iconst 0, 1) := by decide +kernel
theorem dX7_begin_42 : decode cX7_begin 42 = .ok (.putfield 37, 3) := by decide +kernel
theorem dX7_begin_45 : decode cX7_begin 45 = .ok (.return_, 1) := by decide +kernel
theorem dX7_attempt_0 : decode cX7_attempt 0 = .ok (.aload_n 1, 1) := by decide +kernel
theorem dX7_attempt_1 : decode cX7_attempt 1 = .ok (.iload_n 2, 1) := by decide +kernel
theorem dX7_attempt_2 : decode cX7_attempt 2 = .ok (.invokevirtual 44, 3) := by decide +kernel
theorem dX7_attempt_5 : decode cX7_attempt 5 = .ok (.invokestatic 50, 3) := by decide +kernel
theorem dX7_attempt_8 : decode cX7_attempt 8 = .ok (.istore_n 3, 1) := by decide +kernel
theorem dX7_attempt_9 : decode cX7_attempt 9 = .ok (.aload_n 1, 1) := by decide +kernel
theorem dX7_attempt_10 : decode cX7_attempt 10 = .ok (.iload_n 2, 1) := by decide +kernel
theorem dX7_attempt_11 : decode cX7_attempt 11 = .ok (.iconst 1, 1) := by decide +kernel
theorem dX7_attempt_12 : decode cX7_attempt 12 = .ok (.iadd, 1) := by decide +kernel
theorem dX7_attempt_13 : decode cX7_attempt 13 = .ok (.invokevirtual 44, 3) := by decide +kernel
theorem dX7_attempt_16 : decode cX7_attempt 16 = .ok (.istore 4, 2) := by decide +kernel
theorem dX7_attempt_18 : decode cX7_attempt 18 = .ok (.aload_n 1, 1) := by decide +kernel
theorem dX7_attempt_19 : decode cX7_attempt 19 = .ok (.iload_n 2, 1) := by decide +kernel
theorem dX7_attempt_20 : decode cX7_attempt 20 = .ok (.iconst 2, 1) := by decide +kernel
theorem dX7_attempt_21 : decode cX7_attempt 21 = .ok (.iadd, 1) := by decide +kernel
theorem dX7_attempt_22 : decode cX7_attempt 22 = .ok (.invokevirtual 44, 3) := by decide +kernel
theorem dX7_attempt_25 : decode cX7_attempt 25 = .ok (.bipush 48, 2) := by decide +kernel
theorem dX7_attempt_27 : decode cX7_attempt 27 = .ok (.isub, 1) := by decide +kernel
theorem dX7_attempt_28 : decode cX7_attempt 28 = .ok (.istore 5, 2) := by decide +kernel
theorem dX7_attempt_30 : decode cX7_attempt 30 = .ok (.aload_n 1, 1) := by decide +kernel
theorem dX7_attempt_31 : decode cX7_attempt 31 = .ok (.iload_n 2, 1) := by decide +kernel
theorem dX7_attempt_32 : decode cX7_attempt 32 = .ok (.invokevirtual 44, 3) := by decide +kernel
theorem dX7_attempt_35 : decode cX7_attempt 35 = .ok (.bipush 46, 2) := by decide +kernel
theorem dX7_attempt_37 : decode cX7_attempt 37 = .ok (.if_icmp .ne 14, 3) := by decide +kernel
theorem dX7_attempt_40 : decode cX7_attempt 40 = .ok (.aload_n 0, 1) := by decide +kernel
theorem dX7_attempt_41 : decode cX7_attempt 41 = .ok (.aload_n 0, 1) := by decide +kernel
theorem dX7_attempt_42 : decode cX7_attempt 42 = .ok (.invokevirtual 53, 3) := by decide +kernel
theorem dX7_attempt_45 : decode cX7_attempt 45 = .ok (.putfield 22, 3) := by decide +kernel
theorem dX7_attempt_48 : decode cX7_attempt 48 = .ok (.goto 92, 3) := by decide +kernel
theorem dX7_attempt_51 : decode cX7_attempt 51 = .ok (.iload 4, 2) := by decide +kernel
theorem dX7_attempt_53 : decode cX7_attempt 53 = .ok (.bipush 33, 2) := by decide +kernel
theorem dX7_attempt_55 : decode cX7_attempt 55 = .ok (.if_icmp .ne 17, 3) := by decide +kernel
theorem dX7_attempt_58 : decode cX7_attempt 58 = .ok (.aload_n 0, 1) := by decide +kernel
theorem dX7_attempt_59 : decode cX7_attempt 59 = .ok (.aload_n 0, 1) := by decide +kernel
theorem dX7_attempt_60 : decode cX7_attempt 60 = .ok (.iload_n 3, 1) := by decide +kernel
theorem dX7_attempt_61 : decode cX7_attempt 61 = .ok (.iload 5, 2) := by decide +kernel
theorem dX7_attempt_63 : decode cX7_attempt 63 = .ok (.invokevirtual 57, 3) := by decide +kernel
theorem dX7_attempt_66 : decode cX7_attempt 66 = .ok (.putfield 22, 3) := by decide +kernel
theorem dX7_attempt_69 : decode cX7_attempt 69 = .ok (.goto 71, 3) := by decide +kernel
theorem dX7_attempt_72 : decode cX7_attempt 72 = .ok (.iload 4, 2) := by decide +kernel
theorem dX7_attempt_74 : decode cX7_attempt 74 = .ok (.bipush 62, 2) := by decide +kernel
theorem dX7_attempt_76 : decode cX7_attempt 76 = .ok (.if_icmp .ne 27, 3) := by decide +kernel
theorem dX7_attempt_79 : decode cX7_attempt 79 = .ok (.aload_n 0, 1) := by decide +kernel
theorem dX7_attempt_80 : decode cX7_attempt 80 = .ok (.aload_n 0, 1) := by decide +kernel
theorem dX7_attempt_81 : decode cX7_attempt 81 = .ok (.iload_n 3, 1) := by decide +kernel
theorem dX7_attempt_82 : decode cX7_attempt 82 = .ok (.iload 5, 2) := by decide +kernel
theorem dX7_attempt_84 : decode cX7_attempt 84 = .ok (.aload_n 1, 1) := by decide +kernel
theorem dX7_attempt_85 : decode cX7_attempt 85 = .ok (.iload_n 2, 1) := by decide +kernel
theorem dX7_attempt_86 : decode cX7_attempt 86 = .ok (.iconst 3, 1) := by decide +kernel
theorem dX7_attempt_87 : decode cX7_attempt 87 = .ok (.iadd, 1) := by decide +kernel
theorem dX7_attempt_88 : decode cX7_attempt 88 = .ok (.invokevirtual 44, 3) := by decide +kernel
theorem dX7_attempt_91 : decode cX7_attempt 91 = .ok (.invokestatic 50, 3) := by decide +kernel
theorem dX7_attempt_94 : decode cX7_attempt 94 = .ok (.invokevirtual 61, 3) := by decide +kernel
theorem dX7_attempt_97 : decode cX7_attempt 97 = .ok (.putfield 22, 3) := by decide +kernel
theorem dX7_attempt_100 : decode cX7_attempt 100 = .ok (.goto 40, 3) := by decide +kernel
theorem dX7_attempt_103 : decode cX7_attempt 103 = .ok (.iload 4, 2) := by decide +kernel
theorem dX7_attempt_105 : decode cX7_attempt 105 = .ok (.bipush 64, 2) := by decide +kernel
theorem dX7_attempt_107 : decode cX7_attempt 107 = .ok (.if_icmp .ne 17, 3) := by decide +kernel
theorem dX7_attempt_110 : decode cX7_attempt 110 = .ok (.aload_n 0, 1) := by decide +kernel
theorem dX7_attempt_111 : decode cX7_attempt 111 = .ok (.aload_n 0, 1) := by decide +kernel
theorem dX7_attempt_112 : decode cX7_attempt 112 = .ok (.iload_n 3, 1) := by decide +kernel
theorem dX7_attempt_113 : decode cX7_attempt 113 = .ok (.iload 5, 2) := by decide +kernel
theorem dX7_attempt_115 : decode cX7_attempt 115 = .ok (.invokevirtual 65, 3) := by decide +kernel
theorem dX7_attempt_118 : decode cX7_attempt 118 = .ok (.putfield 22, 3) := by decide +kernel
theorem dX7_attempt_121 : decode cX7_attempt 121 = .ok (.goto 19, 3) := by decide +kernel
theorem dX7_attempt_124 : decode cX7_attempt 124 = .ok (.aload_n 0, 1) := by decide +kernel
theorem dX7_attempt_125 : decode cX7_attempt 125 = .ok (.aload_n 0, 1) := by decide +kernel
theorem dX7_attempt_126 : decode cX7_attempt 126 = .ok (.iload_n 3, 1) := by decide +kernel
theorem dX7_attempt_127 : decode cX7_attempt 127 = .ok (.iload 4, 2) := by decide +kernel
theorem dX7_attempt_129 : decode cX7_attempt 129 = .ok (.invokestatic 68, 3) := by decide +kernel
theorem dX7_attempt_132 : decode cX7_attempt 132 = .ok (.iload 5, 2) := by decide +kernel
theorem dX7_attempt_134 : decode cX7_attempt 134 = .ok (.invokevirtual 71, 3) := by decide +kernel
theorem dX7_attempt_137 : decode cX7_attempt 137 = .ok (.putfield 22, 3) := by decide +kernel
theorem dX7_attempt_140 : decode cX7_attempt 140 = .ok (.aload_n 0, 1) := by decide +kernel
theorem dX7_attempt_141 : decode cX7_attempt 141 = .ok (.getfield 22, 3) := by decide +kernel
theorem dX7_attempt_144 : decode cX7_attempt 144 = .ok (.ifCond .ne 13, 3) := by decide +kernel
theorem dX7_attempt_147 : decode cX7_attempt 147 = .ok (.aload_n 0, 1) := by decide +kernel
theorem dX7_attempt_148 : decode cX7_attempt 148 = .ok (.dup, 1) := by decide +kernel
theorem dX7_attempt_149 : decode cX7_attempt 149 = .ok (.getfield 18, 3) := by decide +kernel
theorem dX7_attempt_152 : decode cX7_attempt 152 = .ok (.iconst 1, 1) := by decide +kernel
theorem dX7_attempt_153 : decode cX7_attempt 153 = .ok (.iadd, 1) := by decide +kernel
theorem dX7_attempt_154 : decode cX7_attempt 154 = .ok (.putfield 18, 3) := by decide +kernel
theorem dX7_attempt_157 : decode cX7_attempt 157 = .ok (.return_, 1) := by decide +kernel
theorem dX7_draw_0 : decode cX7_draw 0 = .ok (.iload_n 1, 1) := by decide +kernel
theorem dX7_draw_1 : decode cX7_draw 1 = .ok (.bipush 6, 2) := by decide +kernel
theorem dX7_draw_3 : decode cX7_draw 3 = .ok (.irem, 1) := by decide +kernel
theorem dX7_draw_4 : decode cX7_draw 4 = .ok (.istore_n 2, 1) := by decide +kernel
theorem dX7_draw_5 : decode cX7_draw 5 = .ok (.iload_n 1, 1) := by decide +kernel
theorem dX7_draw_6 : decode cX7_draw 6 = .ok (.bipush 48, 2) := by decide +kernel
theorem dX7_draw_8 : decode cX7_draw 8 = .ok (.idiv, 1) := by decide +kernel
theorem dX7_draw_9 : decode cX7_draw 9 = .ok (.istore_n 3, 1) := by decide +kernel
theorem dX7_draw_10 : decode cX7_draw 10 = .ok (.iload_n 1, 1) := by decide +kernel
theorem dX7_draw_11 : decode cX7_draw 11 = .ok (.bipush 6, 2) := by decide +kernel
theorem dX7_draw_13 : decode cX7_draw 13 = .ok (.idiv, 1) := by decide +kernel
theorem dX7_draw_14 : decode cX7_draw 14 = .ok (.bipush 8, 2) := by decide +kernel
theorem dX7_draw_16 : decode cX7_draw 16 = .ok (.irem, 1) := by decide +kernel
theorem dX7_draw_17 : decode cX7_draw 17 = .ok (.tableswitch 106 0 6 #[43, 43, 43, 65, 65, 79, 93], 43) := by decide +kernel
theorem dX7_draw_60 : decode cX7_draw 60 = .ok (.aload_n 0, 1) := by decide +kernel
theorem dX7_draw_61 : decode cX7_draw 61 = .ok (.iload_n 2, 1) := by decide +kernel
theorem dX7_draw_62 : decode cX7_draw 62 = .ok (.iload_n 3, 1) := by decide +kernel
theorem dX7_draw_63 : decode cX7_draw 63 = .ok (.iconst 4, 1) := by decide +kernel
theorem dX7_draw_64 : decode cX7_draw 64 = .ok (.irem, 1) := by decide +kernel
theorem dX7_draw_65 : decode cX7_draw 65 = .ok (.iconst 1, 1) := by decide +kernel
theorem dX7_draw_66 : decode cX7_draw 66 = .ok (.iload_n 1, 1) := by decide +kernel
theorem dX7_draw_67 : decode cX7_draw 67 = .ok (.sipush 192, 3) := by decide +kernel
theorem dX7_draw_70 : decode cX7_draw 70 = .ok (.idiv, 1) := by decide +kernel
theorem dX7_draw_71 : decode cX7_draw 71 = .ok (.bipush 9, 2) := by decide +kernel
theorem dX7_draw_73 : decode cX7_draw 73 = .ok (.irem, 1) := by decide +kernel
theorem dX7_draw_74 : decode cX7_draw 74 = .ok (.iadd, 1) := by decide +kernel
theorem dX7_draw_75 : decode cX7_draw 75 = .ok (.invokevirtual 71, 3) := by decide +kernel
theorem dX7_draw_78 : decode cX7_draw 78 = .ok (.pop, 1) := by decide +kernel
theorem dX7_draw_79 : decode cX7_draw 79 = .ok (.goto 49, 3) := by decide +kernel
theorem dX7_draw_82 : decode cX7_draw 82 = .ok (.aload_n 0, 1) := by decide +kernel
theorem dX7_draw_83 : decode cX7_draw 83 = .ok (.iload_n 2, 1) := by decide +kernel
theorem dX7_draw_84 : decode cX7_draw 84 = .ok (.iconst 1, 1) := by decide +kernel
theorem dX7_draw_85 : decode cX7_draw 85 = .ok (.iload_n 3, 1) := by decide +kernel
theorem dX7_draw_86 : decode cX7_draw 86 = .ok (.iconst 5, 1) := by decide +kernel
theorem dX7_draw_87 : decode cX7_draw 87 = .ok (.irem, 1) := by decide +kernel
theorem dX7_draw_88 : decode cX7_draw 88 = .ok (.iadd, 1) := by decide +kernel
theorem dX7_draw_89 : decode cX7_draw 89 = .ok (.invokevirtual 57, 3) := by decide +kernel
theorem dX7_draw_92 : decode cX7_draw 92 = .ok (.pop, 1) := by decide +kernel
theorem dX7_draw_93 : decode cX7_draw 93 = .ok (.goto 35, 3) := by decide +kernel
theorem dX7_draw_96 : decode cX7_draw 96 = .ok (.aload_n 0, 1) := by decide +kernel
theorem dX7_draw_97 : decode cX7_draw 97 = .ok (.iload_n 2, 1) := by decide +kernel
theorem dX7_draw_98 : decode cX7_draw 98 = .ok (.iconst 1, 1) := by decide +kernel
theorem dX7_draw_99 : decode cX7_draw 99 = .ok (.iload_n 3, 1) := by decide +kernel
theorem dX7_draw_100 : decode cX7_draw 100 = .ok (.bipush 6, 2) := by decide +kernel
theorem dX7_draw_102 : decode cX7_draw 102 = .ok (.irem, 1) := by decide +kernel
theorem dX7_draw_103 : decode cX7_draw 103 = .ok (.invokevirtual 61, 3) := by decide +kernel
theorem dX7_draw_106 : decode cX7_draw 106 = .ok (.pop, 1) := by decide +kernel
theorem dX7_draw_107 : decode cX7_draw 107 = .ok (.goto 21, 3) := by decide +kernel
theorem dX7_draw_110 : decode cX7_draw 110 = .ok (.aload_n 0, 1) := by decide +kernel
theorem dX7_draw_111 : decode cX7_draw 111 = .ok (.iload_n 2, 1) := by decide +kernel
theorem dX7_draw_112 : decode cX7_draw 112 = .ok (.iload_n 3, 1) := by decide +kernel
theorem dX7_draw_113 : decode cX7_draw 113 = .ok (.bipush 10, 2) := by decide +kernel
theorem dX7_draw_115 : decode cX7_draw 115 = .ok (.irem, 1) := by decide +kernel
theorem dX7_draw_116 : decode cX7_draw 116 = .ok (.invokevirtual 65, 3) := by decide +kernel
theorem dX7_draw_119 : decode cX7_draw 119 = .ok (.pop, 1) := by decide +kernel
theorem dX7_draw_120 : decode cX7_draw 120 = .ok (.goto 8, 3) := by decide +kernel
theorem dX7_draw_123 : decode cX7_draw 123 = .ok (.aload_n 0, 1) := by decide +kernel
theorem dX7_draw_124 : decode cX7_draw 124 = .ok (.invokevirtual 53, 3) := by decide +kernel
theorem dX7_draw_127 : decode cX7_draw 127 = .ok (.pop, 1) := by decide +kernel
theorem dX7_draw_128 : decode cX7_draw 128 = .ok (.return_, 1) := by decide +kernel
theorem dX7_suffer_0 : decode cX7_suffer 0 = .ok (.aload_n 0, 1) := by decide +kernel
theorem dX7_suffer_1 : decode cX7_suffer 1 = .ok (.getfield 12, 3) := by decide +kernel
theorem dX7_suffer_4 : decode cX7_suffer 4 = .ok (.iload_n 1, 1) := by decide +kernel
theorem dX7_suffer_5 : decode cX7_suffer 5 = .ok (.invokevirtual 74, 3) := by decide +kernel
theorem dX7_suffer_8 : decode cX7_suffer 8 = .ok (.ifCond .ne 5, 3) := by decide +kernel
theorem dX7_suffer_11 : decode cX7_suffer 11 = .ok (.iconst 1, 1) := by decide +kernel
theorem dX7_suffer_12 : decode cX7_suffer 12 = .ok (.ireturn, 1) := by decide +kernel
theorem dX7_suffer_13 : decode cX7_suffer 13 = .ok (.aload_n 0, 1) := by decide +kernel
theorem dX7_suffer_14 : decode cX7_suffer 14 = .ok (.getfield 12, 3) := by decide +kernel
theorem dX7_suffer_17 : decode cX7_suffer 17 = .ok (.iload_n 1, 1) := by decide +kernel
theorem dX7_suffer_18 : decode cX7_suffer 18 = .ok (.iconst 0, 1) := by decide +kernel
theorem dX7_suffer_19 : decode cX7_suffer 19 = .ok (.invokevirtual 78, 3) := by decide +kernel
theorem dX7_suffer_22 : decode cX7_suffer 22 = .ok (.iload_n 3, 1) := by decide +kernel
theorem dX7_suffer_23 : decode cX7_suffer 23 = .ok (.iadd, 1) := by decide +kernel
theorem dX7_suffer_24 : decode cX7_suffer 24 = .ok (.istore 4, 2) := by decide +kernel
theorem dX7_suffer_26 : decode cX7_suffer 26 = .ok (.aload_n 0, 1) := by decide +kernel
theorem dX7_suffer_27 : decode cX7_suffer 27 = .ok (.getfield 12, 3) := by decide +kernel
theorem dX7_suffer_30 : decode cX7_suffer 30 = .ok (.iload_n 1, 1) := by decide +kernel
theorem dX7_suffer_31 : decode cX7_suffer 31 = .ok (.iconst 5, 1) := by decide +kernel
theorem dX7_suffer_32 : decode cX7_suffer 32 = .ok (.iload_n 2, 1) := by decide +kernel
theorem dX7_suffer_33 : decode cX7_suffer 33 = .ok (.invokevirtual 81, 3) := by decide +kernel
theorem dX7_suffer_36 : decode cX7_suffer 36 = .ok (.aload_n 0, 1) := by decide +kernel
theorem dX7_suffer_37 : decode cX7_suffer 37 = .ok (.getfield 12, 3) := by decide +kernel
theorem dX7_suffer_40 : decode cX7_suffer 40 = .ok (.iload_n 1, 1) := by decide +kernel
theorem dX7_suffer_41 : decode cX7_suffer 41 = .ok (.iconst 0, 1) := by decide +kernel
theorem dX7_suffer_42 : decode cX7_suffer 42 = .ok (.iload 4, 2) := by decide +kernel
theorem dX7_suffer_44 : decode cX7_suffer 44 = .ok (.invokevirtual 81, 3) := by decide +kernel
theorem dX7_suffer_47 : decode cX7_suffer 47 = .ok (.iload 4, 2) := by decide +kernel
theorem dX7_suffer_49 : decode cX7_suffer 49 = .ok (.aload_n 0, 1) := by decide +kernel
theorem dX7_suffer_50 : decode cX7_suffer 50 = .ok (.getfield 12, 3) := by decide +kernel
theorem dX7_suffer_53 : decode cX7_suffer 53 = .ok (.getfield 85, 3) := by decide +kernel
theorem dX7_suffer_56 : decode cX7_suffer 56 = .ok (.if_icmp .le 8, 3) := by decide +kernel
theorem dX7_suffer_59 : decode cX7_suffer 59 = .ok (.aload_n 0, 1) := by decide +kernel
theorem dX7_suffer_60 : decode cX7_suffer 60 = .ok (.iload_n 1, 1) := by decide +kernel
theorem dX7_suffer_61 : decode cX7_suffer 61 = .ok (.invokevirtual 88, 3) := by decide +kernel
theorem dX7_suffer_64 : decode cX7_suffer 64 = .ok (.iconst 0, 1) := by decide +kernel
theorem dX7_suffer_65 : decode cX7_suffer 65 = .ok (.ireturn, 1) := by decide +kernel
theorem dX7_slip_0 : decode cX7_slip 0 = .ok (.aload_n 0, 1) := by decide +kernel
theorem dX7_slip_1 : decode cX7_slip 1 = .ok (.getfield 12, 3) := by decide +kernel
theorem dX7_slip_4 : decode cX7_slip 4 = .ok (.iload_n 1, 1) := by decide +kernel
theorem dX7_slip_5 : decode cX7_slip 5 = .ok (.invokevirtual 92, 3) := by decide +kernel
theorem dX7_slip_8 : decode cX7_slip 8 = .ok (.invokestatic 95, 3) := by decide +kernel
theorem dX7_slip_11 : decode cX7_slip 11 = .ok (.istore_n 2, 1) := by decide +kernel
theorem dX7_slip_12 : decode cX7_slip 12 = .ok (.aload_n 0, 1) := by decide +kernel
theorem dX7_slip_13 : decode cX7_slip 13 = .ok (.getfield 12, 3) := by decide +kernel
theorem dX7_slip_16 : decode cX7_slip 16 = .ok (.iload_n 1, 1) := by decide +kernel
theorem dX7_slip_17 : decode cX7_slip 17 = .ok (.iconst 3, 1) := by decide +kernel
theorem dX7_slip_18 : decode cX7_slip 18 = .ok (.invokevirtual 78, 3) := by decide +kernel
theorem dX7_slip_21 : decode cX7_slip 21 = .ok (.istore_n 3, 1) := by decide +kernel
theorem dX7_slip_22 : decode cX7_slip 22 = .ok (.iload_n 3, 1) := by decide +kernel
theorem dX7_slip_23 : decode cX7_slip 23 = .ok (.aload_n 0, 1) := by decide +kernel
theorem dX7_slip_24 : decode cX7_slip 24 = .ok (.getfield 12, 3) := by decide +kernel
theorem dX7_slip_27 : decode cX7_slip 27 = .ok (.iload_n 1, 1) := by decide +kernel
theorem dX7_slip_28 : decode cX7_slip 28 = .ok (.iconst 0, 1) := by decide +kernel
theorem dX7_slip_29 : decode cX7_slip 29 = .ok (.invokevirtual 78, 3) := by decide +kernel
theorem dX7_slip_32 : decode cX7_slip 32 = .ok (.iload_n 2, 1) := by decide +kernel
theorem dX7_slip_33 : decode cX7_slip 33 = .ok (.imul, 1) := by decide +kernel
theorem dX7_slip_34 : decode cX7_slip 34 = .ok (.invokestatic 100, 3) := by decide +kernel
theorem dX7_slip_37 : decode cX7_slip 37 = .ok (.istore 4, 2) := by decide +kernel
theorem dX7_slip_39 : decode cX7_slip 39 = .ok (.aload_n 0, 1) := by decide +kernel
theorem dX7_slip_40 : decode cX7_slip 40 = .ok (.getfield 12, 3) := by decide +kernel
theorem dX7_slip_43 : decode cX7_slip 43 = .ok (.iload_n 1, 1) := by decide +kernel
theorem dX7_slip_44 : decode cX7_slip 44 = .ok (.iconst 3, 1) := by decide +kernel
theorem dX7_slip_45 : decode cX7_slip 45 = .ok (.iload_n 3, 1) := by decide +kernel
theorem dX7_slip_46 : decode cX7_slip 46 = .ok (.iload 4, 2) := by decide +kernel
theorem dX7_slip_48 : decode cX7_slip 48 = .ok (.isub, 1) := by decide +kernel
theorem dX7_slip_49 : decode cX7_slip 49 = .ok (.invokevirtual 81, 3) := by decide +kernel
theorem dX7_slip_52 : decode cX7_slip 52 = .ok (.aload_n 0, 1) := by decide +kernel
theorem dX7_slip_53 : decode cX7_slip 53 = .ok (.getfield 12, 3) := by decide +kernel
theorem dX7_slip_56 : decode cX7_slip 56 = .ok (.iload_n 1, 1) := by decide +kernel
theorem dX7_slip_57 : decode cX7_slip 57 = .ok (.iconst 0, 1) := by decide +kernel
theorem dX7_slip_58 : decode cX7_slip 58 = .ok (.iconst 0, 1) := by decide +kernel
theorem dX7_slip_59 : decode cX7_slip 59 = .ok (.invokevirtual 81, 3) := by decide +kernel
theorem dX7_slip_62 : decode cX7_slip 62 = .ok (.aload_n 0, 1) := by decide +kernel
theorem dX7_slip_63 : decode cX7_slip 63 = .ok (.getfield 25, 3) := by decide +kernel
theorem dX7_slip_66 : decode cX7_slip 66 = .ok (.ifCond .ne 21, 3) := by decide +kernel
theorem dX7_slip_69 : decode cX7_slip 69 = .ok (.aload_n 0, 1) := by decide +kernel
theorem dX7_slip_70 : decode cX7_slip 70 = .ok (.aload_n 0, 1) := by decide +kernel
theorem dX7_slip_71 : decode cX7_slip 71 = .ok (.getfield 18, 3) := by decide +kernel
theorem dX7_slip_74 : decode cX7_slip 74 = .ok (.putfield 31, 3) := by decide +kernel
theorem dX7_slip_77 : decode cX7_slip 77 = .ok (.aload_n 0, 1) := by decide +kernel
theorem dX7_slip_78 : decode cX7_slip 78 = .ok (.iload_n 1, 1) := by decide +kernel
theorem dX7_slip_79 : decode cX7_slip 79 = .ok (.putfield 34, 3) := by decide +kernel
theorem dX7_slip_82 : decode cX7_slip 82 = .ok (.aload_n 0, 1) := by decide +kernel
theorem dX7_slip_83 : decode cX7_slip 83 = .ok (.iload_n 2, 1) := by decide +kernel
theorem dX7_slip_84 : decode cX7_slip 84 = .ok (.putfield 37, 3) := by decide +kernel
theorem dX7_slip_87 : decode cX7_slip 87 = .ok (.aload_n 0, 1) := by decide +kernel
theorem dX7_slip_88 : decode cX7_slip 88 = .ok (.dup, 1) := by decide +kernel
theorem dX7_slip_89 : decode cX7_slip 89 = .ok (.getfield 25, 3) := by decide +kernel
theorem dX7_slip_92 : decode cX7_slip 92 = .ok (.iconst 1, 1) := by decide +kernel
theorem dX7_slip_93 : decode cX7_slip 93 = .ok (.iadd, 1) := by decide +kernel
theorem dX7_slip_94 : decode cX7_slip 94 = .ok (.putfield 25, 3) := by decide +kernel
theorem dX7_slip_97 : decode cX7_slip 97 = .ok (.aload_n 0, 1) := by decide +kernel
theorem dX7_slip_98 : decode cX7_slip 98 = .ok (.dup, 1) := by decide +kernel
theorem dX7_slip_99 : decode cX7_slip 99 = .ok (.getfield 28, 3) := by decide +kernel
theorem dX7_slip_102 : decode cX7_slip 102 = .ok (.iload 4, 2) := by decide +kernel
theorem dX7_slip_104 : decode cX7_slip 104 = .ok (.iadd, 1) := by decide +kernel
theorem dX7_slip_105 : decode cX7_slip 105 = .ok (.putfield 28, 3) := by decide +kernel
theorem dX7_slip_108 : decode cX7_slip 108 = .ok (.return_, 1) := by decide +kernel
theorem dX7_swear_0 : decode cX7_swear 0 = .ok (.aload_n 0, 1) := by decide +kernel
theorem dX7_swear_1 : decode cX7_swear 1 = .ok (.getfield 12, 3) := by decide +kernel
theorem dX7_swear_4 : decode cX7_swear 4 = .ok (.iload_n 1, 1) := by decide +kernel
theorem dX7_swear_5 : decode cX7_swear 5 = .ok (.invokevirtual 74, 3) := by decide +kernel
theorem dX7_swear_8 : decode cX7_swear 8 = .ok (.ifCond .ne 5, 3) := by decide +kernel
theorem dX7_swear_11 : decode cX7_swear 11 = .ok (.iconst 1, 1) := by decide +kernel
theorem dX7_swear_12 : decode cX7_swear 12 = .ok (.ireturn, 1) := by decide +kernel
theorem dX7_swear_13 : decode cX7_swear 13 = .ok (.aload_n 0, 1) := by decide +kernel
theorem dX7_swear_14 : decode cX7_swear 14 = .ok (.getfield 12, 3) := by decide +kernel
theorem dX7_swear_17 : decode cX7_swear 17 = .ok (.iload_n 1, 1) := by decide +kernel
theorem dX7_swear_18 : decode cX7_swear 18 = .ok (.iconst 0, 1) := by decide +kernel
theorem dX7_swear_19 : decode cX7_swear 19 = .ok (.invokevirtual 78, 3) := by decide +kernel
theorem dX7_swear_22 : decode cX7_swear 22 = .ok (.istore_n 3, 1) := by decide +kernel
theorem dX7_swear_23 : decode cX7_swear 23 = .ok (.aload_n 0, 1) := by decide +kernel
theorem dX7_swear_24 : decode cX7_swear 24 = .ok (.getfield 12, 3) := by decide +kernel
theorem dX7_swear_27 : decode cX7_swear 27 = .ok (.iload_n 1, 1) := by decide +kernel
theorem dX7_swear_28 : decode cX7_swear 28 = .ok (.iconst 2, 1) := by decide +kernel
theorem dX7_swear_29 : decode cX7_swear 29 = .ok (.invokevirtual 78, 3) := by decide +kernel
theorem dX7_swear_32 : decode cX7_swear 32 = .ok (.istore 4, 2) := by decide +kernel
theorem dX7_swear_34 : decode cX7_swear 34 = .ok (.aload_n 0, 1) := by decide +kernel
theorem dX7_swear_35 : decode cX7_swear 35 = .ok (.getfield 12, 3) := by decide +kernel
theorem dX7_swear_38 : decode cX7_swear 38 = .ok (.iload_n 1, 1) := by decide +kernel
theorem dX7_swear_39 : decode cX7_swear 39 = .ok (.iconst 5, 1) := by decide +kernel
theorem dX7_swear_40 : decode cX7_swear 40 = .ok (.invokevirtual 78, 3) := by decide +kernel
theorem dX7_swear_43 : decode cX7_swear 43 = .ok (.istore 5, 2) := by decide +kernel
theorem dX7_swear_45 : decode cX7_swear 45 = .ok (.iload_n 3, 1) := by decide +kernel
theorem dX7_swear_46 : decode cX7_swear 46 = .ok (.iload_n 2, 1) := by decide +kernel
theorem dX7_swear_47 : decode cX7_swear 47 = .ok (.if_icmp .ge 5, 3) := by decide +kernel
theorem dX7_swear_50 : decode cX7_swear 50 = .ok (.iconst 3, 1) := by decide +kernel
theorem dX7_swear_51 : decode cX7_swear 51 = .ok (.ireturn, 1) := by decide +kernel
theorem dX7_swear_52 : decode cX7_swear 52 = .ok (.iload 5, 2) := by decide +kernel
theorem dX7_swear_54 : decode cX7_swear 54 = .ok (.bipush (-6), 2) := by decide +kernel
theorem dX7_swear_56 : decode cX7_swear 56 = .ok (.if_icmp .eq 20, 3) := by decide +kernel
theorem dX7_swear_59 : decode cX7_swear 59 = .ok (.aload_n 0, 1) := by decide +kernel
theorem dX7_swear_60 : decode cX7_swear 60 = .ok (.getfield 12, 3) := by decide +kernel
theorem dX7_swear_63 : decode cX7_swear 63 = .ok (.iload_n 1, 1) := by decide +kernel
theorem dX7_swear_64 : decode cX7_swear 64 = .ok (.iconst 1, 1) := by decide +kernel
theorem dX7_swear_65 : decode cX7_swear 65 = .ok (.invokevirtual 78, 3) := by decide +kernel
theorem dX7_swear_68 : decode cX7_swear 68 = .ok (.iload 5, 2) := by decide +kernel
theorem dX7_swear_70 : decode cX7_swear 70 = .ok (.ishr, 1) := by decide +kernel
theorem dX7_swear_71 : decode cX7_swear 71 = .ok (.iconst 1, 1) := by decide +kernel
theorem dX7_swear_72 : decode cX7_swear 72 = .ok (.iand, 1) := by decide +kernel
theorem dX7_swear_73 : decode cX7_swear 73 = .ok (.ifCond .ne 5, 3) := by decide +kernel
theorem dX7_swear_76 : decode cX7_swear 76 = .ok (.iconst 4, 1) := by decide +kernel
theorem dX7_swear_77 : decode cX7_swear 77 = .ok (.ireturn, 1) := by decide +kernel
theorem dX7_swear_78 : decode cX7_swear 78 = .ok (.iload 4, 2) := by decide +kernel
theorem dX7_swear_80 : decode cX7_swear 80 = .ok (.iload_n 2, 1) := by decide +kernel
theorem dX7_swear_81 : decode cX7_swear 81 = .ok (.if_icmp .ge 5, 3) := by decide +kernel
theorem dX7_swear_84 : decode cX7_swear 84 = .ok (.iconst 5, 1) := by decide +kernel
theorem dX7_swear_85 : decode cX7_swear 85 = .ok (.ireturn, 1) := by decide +kernel
theorem dX7_swear_86 : decode cX7_swear 86 = .ok (.aload_n 0, 1) := by decide +kernel
theorem dX7_swear_87 : decode cX7_swear 87 = .ok (.getfield 12, 3) := by decide +kernel
theorem dX7_swear_90 : decode cX7_swear 90 = .ok (.iload_n 1, 1) := by decide +kernel
theorem dX7_swear_91 : decode cX7_swear 91 = .ok (.iconst 0, 1) := by decide +kernel
theorem dX7_swear_92 : decode cX7_swear 92 = .ok (.iload_n 3, 1) := by decide +kernel
theorem dX7_swear_93 : decode cX7_swear 93 = .ok (.iload_n 2, 1) := by decide +kernel
theorem dX7_swear_94 : decode cX7_swear 94 = .ok (.isub, 1) := by decide +kernel
theorem dX7_swear_95 : decode cX7_swear 95 = .ok (.invokevirtual 81, 3) := by decide +kernel
theorem dX7_swear_98 : decode cX7_swear 98 = .ok (.aload_n 0, 1) := by decide +kernel
theorem dX7_swear_99 : decode cX7_swear 99 = .ok (.getfield 12, 3) := by decide +kernel
theorem dX7_swear_102 : decode cX7_swear 102 = .ok (.iload_n 1, 1) := by decide +kernel
theorem dX7_swear_103 : decode cX7_swear 103 = .ok (.iconst 2, 1) := by decide +kernel
theorem dX7_swear_104 : decode cX7_swear 104 = .ok (.iload 4, 2) := by decide +kernel
theorem dX7_swear_106 : decode cX7_swear 106 = .ok (.iload_n 2, 1) := by decide +kernel
theorem dX7_swear_107 : decode cX7_swear 107 = .ok (.isub, 1) := by decide +kernel
theorem dX7_swear_108 : decode cX7_swear 108 = .ok (.invokevirtual 81, 3) := by decide +kernel
theorem dX7_swear_111 : decode cX7_swear 111 = .ok (.iconst 0, 1) := by decide +kernel
theorem dX7_swear_112 : decode cX7_swear 112 = .ok (.ireturn, 1) := by decide +kernel
theorem dX7_sell_0 : decode cX7_sell 0 = .ok (.aload_n 0, 1) := by decide +kernel
theorem dX7_sell_1 : decode cX7_sell 1 = .ok (.getfield 12, 3) := by decide +kernel
theorem dX7_sell_4 : decode cX7_sell 4 = .ok (.iload_n 1, 1) := by decide +kernel
theorem dX7_sell_5 : decode cX7_sell 5 = .ok (.invokevirtual 74, 3) := by decide +kernel
theorem dX7_sell_8 : decode cX7_sell 8 = .ok (.ifCond .eq 14, 3) := by decide +kernel
theorem dX7_sell_11 : decode cX7_sell 11 = .ok (.aload_n 0, 1) := by decide +kernel
theorem dX7_sell_12 : decode cX7_sell 12 = .ok (.getfield 12, 3) := by decide +kernel
theorem dX7_sell_15 : decode cX7_sell 15 = .ok (.iload_n 3, 1) := by decide +kernel
theorem dX7_sell_16 : decode cX7_sell 16 = .ok (.invokevirtual 74, 3) := by decide +kernel
theorem dX7_sell_19 : decode cX7_sell 19 = .ok (.ifCond .ne 5, 3) := by decide +kernel
theorem dX7_sell_22 : decode cX7_sell 22 = .ok (.iconst 1, 1) := by decide +kernel
theorem dX7_sell_23 : decode cX7_sell 23 = .ok (.ireturn, 1) := by decide +kernel
theorem dX7_sell_24 : decode cX7_sell 24 = .ok (.iload_n 1, 1) := by decide +kernel
theorem dX7_sell_25 : decode cX7_sell 25 = .ok (.iload_n 3, 1) := by decide +kernel
theorem dX7_sell_26 : decode cX7_sell 26 = .ok (.if_icmp .ne 5, 3) := by decide +kernel
theorem dX7_sell_29 : decode cX7_sell 29 = .ok (.iconst 2, 1) := by decide +kernel
theorem dX7_sell_30 : decode cX7_sell 30 = .ok (.ireturn, 1) := by decide +kernel
theorem dX7_sell_31 : decode cX7_sell 31 = .ok (.aload_n 0, 1) := by decide +kernel
theorem dX7_sell_32 : decode cX7_sell 32 = .ok (.getfield 12, 3) := by decide +kernel
theorem dX7_sell_35 : decode cX7_sell 35 = .ok (.iload_n 1, 1) := by decide +kernel
theorem dX7_sell_36 : decode cX7_sell 36 = .ok (.iconst 2, 1) := by decide +kernel
theorem dX7_sell_37 : decode cX7_sell 37 = .ok (.invokevirtual 78, 3) := by decide +kernel
theorem dX7_sell_40 : decode cX7_sell 40 = .ok (.iload_n 2, 1) := by decide +kernel
theorem dX7_sell_41 : decode cX7_sell 41 = .ok (.isub, 1) := by decide +kernel
theorem dX7_sell_42 : decode cX7_sell 42 = .ok (.istore 4, 2) := by decide +kernel
theorem dX7_sell_44 : decode cX7_sell 44 = .ok (.aload_n 0, 1) := by decide +kernel
theorem dX7_sell_45 : decode cX7_sell 45 = .ok (.getfield 12, 3) := by decide +kernel
theorem dX7_sell_48 : decode cX7_sell 48 = .ok (.iload_n 3, 1) := by decide +kernel
theorem dX7_sell_49 : decode cX7_sell 49 = .ok (.iconst 2, 1) := by decide +kernel
theorem dX7_sell_50 : decode cX7_sell 50 = .ok (.invokevirtual 78, 3) := by decide +kernel
theorem dX7_sell_53 : decode cX7_sell 53 = .ok (.iload_n 2, 1) := by decide +kernel
theorem dX7_sell_54 : decode cX7_sell 54 = .ok (.iadd, 1) := by decide +kernel
theorem dX7_sell_55 : decode cX7_sell 55 = .ok (.istore 5, 2) := by decide +kernel
theorem dX7_sell_57 : decode cX7_sell 57 = .ok (.aload_n 0, 1) := by decide +kernel
theorem dX7_sell_58 : decode cX7_sell 58 = .ok (.getfield 12, 3) := by decide +kernel
theorem dX7_sell_61 : decode cX7_sell 61 = .ok (.iload_n 1, 1) := by decide +kernel
theorem dX7_sell_62 : decode cX7_sell 62 = .ok (.iconst 3, 1) := by decide +kernel
theorem dX7_sell_63 : decode cX7_sell 63 = .ok (.invokevirtual 78, 3) := by decide +kernel
theorem dX7_sell_66 : decode cX7_sell 66 = .ok (.iload_n 2, 1) := by decide +kernel
theorem dX7_sell_67 : decode cX7_sell 67 = .ok (.iadd, 1) := by decide +kernel
theorem dX7_sell_68 : decode cX7_sell 68 = .ok (.istore 6, 2) := by decide +kernel
theorem dX7_sell_70 : decode cX7_sell 70 = .ok (.aload_n 0, 1) := by decide +kernel
theorem dX7_sell_71 : decode cX7_sell 71 = .ok (.getfield 12, 3) := by decide +kernel
theorem dX7_sell_74 : decode cX7_sell 74 = .ok (.iload_n 3, 1) := by decide +kernel
theorem dX7_sell_75 : decode cX7_sell 75 = .ok (.iconst 3, 1) := by decide +kernel
theorem dX7_sell_76 : decode cX7_sell 76 = .ok (.invokevirtual 78, 3) := by decide +kernel
theorem dX7_sell_79 : decode cX7_sell 79 = .ok (.iload_n 2, 1) := by decide +kernel
theorem dX7_sell_80 : decode cX7_sell 80 = .ok (.isub, 1) := by decide +kernel
theorem dX7_sell_81 : decode cX7_sell 81 = .ok (.istore 7, 2) := by decide +kernel
theorem dX7_sell_83 : decode cX7_sell 83 = .ok (.iload 4, 2) := by decide +kernel
theorem dX7_sell_85 : decode cX7_sell 85 = .ok (.ifCond .ge 5, 3) := by decide +kernel
theorem dX7_sell_88 : decode cX7_sell 88 = .ok (.iconst 5, 1) := by decide +kernel
theorem dX7_sell_89 : decode cX7_sell 89 = .ok (.ireturn, 1) := by decide +kernel
theorem dX7_sell_90 : decode cX7_sell 90 = .ok (.iload 7, 2) := by decide +kernel
theorem dX7_sell_92 : decode cX7_sell 92 = .ok (.ifCond .lt 18, 3) := by decide +kernel
theorem dX7_sell_95 : decode cX7_sell 95 = .ok (.iload 5, 2) := by decide +kernel
theorem dX7_sell_97 : decode cX7_sell 97 = .ok (.bipush 99, 2) := by decide +kernel
theorem dX7_sell_99 : decode cX7_sell 99 = .ok (.if_icmp .gt 11, 3) := by decide +kernel
theorem dX7_sell_102 : decode cX7_sell 102 = .ok (.iload 6, 2) := by decide +kernel
theorem dX7_sell_104 : decode cX7_sell 104 = .ok (.sipush 999, 3) := by decide +kernel
theorem dX7_sell_107 : decode cX7_sell 107 = .ok (.if_icmp .le 6, 3) := by decide +kernel
theorem dX7_sell_110 : decode cX7_sell 110 = .ok (.bipush 6, 2) := by decide +kernel
theorem dX7_sell_112 : decode cX7_sell 112 = .ok (.ireturn, 1) := by decide +kernel
theorem dX7_sell_113 : decode cX7_sell 113 = .ok (.aload_n 0, 1) := by decide +kernel
theorem dX7_sell_114 : decode cX7_sell 114 = .ok (.getfield 12, 3) := by decide +kernel
theorem dX7_sell_117 : decode cX7_sell 117 = .ok (.iload_n 1, 1) := by decide +kernel
theorem dX7_sell_118 : decode cX7_sell 118 = .ok (.iconst 2, 1) := by decide +kernel
theorem dX7_sell_119 : decode cX7_sell 119 = .ok (.iload 4, 2) := by decide +kernel
theorem dX7_sell_121 : decode cX7_sell 121 = .ok (.invokevirtual 81, 3) := by decide +kernel
theorem dX7_sell_124 : decode cX7_sell 124 = .ok (.aload_n 0, 1) := by decide +kernel
theorem dX7_sell_125 : decode cX7_sell 125 = .ok (.getfield 12, 3) := by decide +kernel
theorem dX7_sell_128 : decode cX7_sell 128 = .ok (.iload_n 3, 1) := by decide +kernel
theorem dX7_sell_129 : decode cX7_sell 129 = .ok (.iconst 2, 1) := by decide +kernel
theorem dX7_sell_130 : decode cX7_sell 130 = .ok (.iload 5, 2) := by decide +kernel
theorem dX7_sell_132 : decode cX7_sell 132 = .ok (.invokevirtual 81, 3) := by decide +kernel
theorem dX7_sell_135 : decode cX7_sell 135 = .ok (.aload_n 0, 1) := by decide +kernel
theorem dX7_sell_136 : decode cX7_sell 136 = .ok (.getfield 12, 3) := by decide +kernel
theorem dX7_sell_139 : decode cX7_sell 139 = .ok (.iload_n 1, 1) := by decide +kernel
theorem dX7_sell_140 : decode cX7_sell 140 = .ok (.iconst 3, 1) := by decide +kernel
theorem dX7_sell_141 : decode cX7_sell 141 = .ok (.iload 6, 2) := by decide +kernel
theorem dX7_sell_143 : decode cX7_sell 143 = .ok (.invokevirtual 81, 3) := by decide +kernel
theorem dX7_sell_146 : decode cX7_sell 146 = .ok (.aload_n 0, 1) := by decide +kernel
theorem dX7_sell_147 : decode cX7_sell 147 = .ok (.getfield 12, 3) := by decide +kernel
theorem dX7_sell_150 : decode cX7_sell 150 = .ok (.iload_n 3, 1) := by decide +kernel
theorem dX7_sell_151 : decode cX7_sell 151 = .ok (.iconst 3, 1) := by decide +kernel
theorem dX7_sell_152 : decode cX7_sell 152 = .ok (.iload 7, 2) := by decide +kernel
theorem dX7_sell_154 : decode cX7_sell 154 = .ok (.invokevirtual 81, 3) := by decide +kernel
theorem dX7_sell_157 : decode cX7_sell 157 = .ok (.iconst 0, 1) := by decide +kernel
theorem dX7_sell_158 : decode cX7_sell 158 = .ok (.ireturn, 1) := by decide +kernel
theorem dX7_walk_0 : decode cX7_walk 0 = .ok (.aload_n 0, 1) := by decide +kernel
theorem dX7_walk_1 : decode cX7_walk 1 = .ok (.getfield 12, 3) := by decide +kernel
theorem dX7_walk_4 : decode cX7_walk 4 = .ok (.iload_n 1, 1) := by decide +kernel
theorem dX7_walk_5 : decode cX7_walk 5 = .ok (.invokevirtual 74, 3) := by decide +kernel
theorem dX7_walk_8 : decode cX7_walk 8 = .ok (.ifCond .ne 5, 3) := by decide +kernel
theorem dX7_walk_11 : decode cX7_walk 11 = .ok (.iconst 1, 1) := by decide +kernel
theorem dX7_walk_12 : decode cX7_walk 12 = .ok (.ireturn, 1) := by decide +kernel
theorem dX7_walk_13 : decode cX7_walk 13 = .ok (.aload_n 0, 1) := by decide +kernel
theorem dX7_walk_14 : decode cX7_walk 14 = .ok (.getfield 12, 3) := by decide +kernel
theorem dX7_walk_17 : decode cX7_walk 17 = .ok (.iload_n 1, 1) := by decide +kernel
theorem dX7_walk_18 : decode cX7_walk 18 = .ok (.iconst 4, 1) := by decide +kernel
theorem dX7_walk_19 : decode cX7_walk 19 = .ok (.invokevirtual 78, 3) := by decide +kernel
theorem dX7_walk_22 : decode cX7_walk 22 = .ok (.iload_n 2, 1) := by decide +kernel
theorem dX7_walk_23 : decode cX7_walk 23 = .ok (.if_icmp .ne 5, 3) := by decide +kernel
theorem dX7_walk_26 : decode cX7_walk 26 = .ok (.iconst 2, 1) := by decide +kernel
theorem dX7_walk_27 : decode cX7_walk 27 = .ok (.ireturn, 1) := by decide +kernel
theorem dX7_walk_28 : decode cX7_walk 28 = .ok (.aload_n 0, 1) := by decide +kernel
theorem dX7_walk_29 : decode cX7_walk 29 = .ok (.getfield 12, 3) := by decide +kernel
theorem dX7_walk_32 : decode cX7_walk 32 = .ok (.iload_n 1, 1) := by decide +kernel
theorem dX7_walk_33 : decode cX7_walk 33 = .ok (.iconst 4, 1) := by decide +kernel
theorem dX7_walk_34 : decode cX7_walk 34 = .ok (.iload_n 2, 1) := by decide +kernel
theorem dX7_walk_35 : decode cX7_walk 35 = .ok (.invokevirtual 81, 3) := by decide +kernel
theorem dX7_walk_38 : decode cX7_walk 38 = .ok (.iconst 0, 1) := by decide +kernel
theorem dX7_walk_39 : decode cX7_walk 39 = .ok (.ireturn, 1) := by decide +kernel
theorem dX7_endHour_0 : decode cX7_endHour 0 = .ok (.iconst 0, 1) := by decide +kernel
theorem dX7_endHour_1 : decode cX7_endHour 1 = .ok (.istore_n 1, 1) := by decide +kernel
theorem dX7_endHour_2 : decode cX7_endHour 2 = .ok (.iload_n 1, 1) := by decide +kernel
theorem dX7_endHour_3 : decode cX7_endHour 3 = .ok (.bipush 6, 2) := by decide +kernel
theorem dX7_endHour_5 : decode cX7_endHour 5 = .ok (.if_icmp .ge 33, 3) := by decide +kernel
theorem dX7_endHour_8 : decode cX7_endHour 8 = .ok (.aload_n 0, 1) := by decide +kernel
theorem dX7_endHour_9 : decode cX7_endHour 9 = .ok (.getfield 12, 3) := by decide +kernel
theorem dX7_endHour_12 : decode cX7_endHour 12 = .ok (.iload_n 1, 1) := by decide +kernel
theorem dX7_endHour_13 : decode cX7_endHour 13 = .ok (.iconst 0, 1) := by decide +kernel
theorem dX7_endHour_14 : decode cX7_endHour 14 = .ok (.iconst 0, 1) := by decide +kernel
theorem dX7_endHour_15 : decode cX7_endHour 15 = .ok (.aload_n 0, 1) := by decide +kernel
theorem dX7_endHour_16 : decode cX7_endHour 16 = .ok (.getfield 12, 3) := by decide +kernel
theorem dX7_endHour_19 : decode cX7_endHour 19 = .ok (.iload_n 1, 1) := by decide +kernel
theorem dX7_endHour_20 : decode cX7_endHour 20 = .ok (.iconst 0, 1) := by decide +kernel
theorem dX7_endHour_21 : decode cX7_endHour 21 = .ok (.invokevirtual 78, 3) := by decide +kernel
theorem dX7_endHour_24 : decode cX7_endHour 24 = .ok (.iconst 1, 1) := by decide +kernel
theorem dX7_endHour_25 : decode cX7_endHour 25 = .ok (.isub, 1) := by decide +kernel
theorem dX7_endHour_26 : decode cX7_endHour 26 = .ok (.invokestatic 105, 3) := by decide +kernel
theorem dX7_endHour_29 : decode cX7_endHour 29 = .ok (.invokevirtual 81, 3) := by decide +kernel
theorem dX7_endHour_32 : decode cX7_endHour 32 = .ok (.iinc 1 1, 3) := by decide +kernel
theorem dX7_endHour_35 : decode cX7_endHour 35 = .ok (.goto (-33), 3) := by decide +kernel
theorem dX7_endHour_38 : decode cX7_endHour 38 = .ok (.iconst 0, 1) := by decide +kernel
theorem dX7_endHour_39 : decode cX7_endHour 39 = .ok (.ireturn, 1) := by decide +kernel
theorem dX8_init_0 : decode cX8_init 0 = .ok (.aload_n 0, 1) := by decide +kernel
theorem dX8_init_1 : decode cX8_init 1 = .ok (.invokespecial 1, 3) := by decide +kernel
theorem dX8_init_4 : decode cX8_init 4 = .ok (.aload_n 0, 1) := by decide +kernel
theorem dX8_init_5 : decode cX8_init 5 = .ok (.new 7, 3) := by decide +kernel
theorem dX8_init_8 : decode cX8_init 8 = .ok (.dup, 1) := by decide +kernel
theorem dX8_init_9 : decode cX8_init 9 = .ok (.invokespecial 9, 3) := by decide +kernel
theorem dX8_init_12 : decode cX8_init 12 = .ok (.putfield 10, 3) := by decide +kernel
theorem dX8_init_15 : decode cX8_init 15 = .ok (.aload_n 0, 1) := by decide +kernel
theorem dX8_init_16 : decode cX8_init 16 = .ok (.new 16, 3) := by decide +kernel
theorem dX8_init_19 : decode cX8_init 19 = .ok (.dup, 1) := by decide +kernel
theorem dX8_init_20 : decode cX8_init 20 = .ok (.invokespecial 18, 3) := by decide +kernel
theorem dX8_init_23 : decode cX8_init 23 = .ok (.putfield 19, 3) := by decide +kernel
theorem dX8_init_26 : decode cX8_init 26 = .ok (.aload_n 0, 1) := by decide +kernel
theorem dX8_init_27 : decode cX8_init 27 = .ok (.new 23, 3) := by decide +kernel
theorem dX8_init_30 : decode cX8_init 30 = .ok (.dup, 1) := by decide +kernel
theorem dX8_init_31 : decode cX8_init 31 = .ok (.invokespecial 25, 3) := by decide +kernel
theorem dX8_init_34 : decode cX8_init 34 = .ok (.putfield 26, 3) := by decide +kernel
theorem dX8_init_37 : decode cX8_init 37 = .ok (.aload_n 0, 1) := by decide +kernel
theorem dX8_init_38 : decode cX8_init 38 = .ok (.iconst 2, 1) := by decide +kernel
theorem dX8_init_39 : decode cX8_init 39 = .ok (.anewarray 7, 3) := by decide +kernel
theorem dX8_init_42 : decode cX8_init 42 = .ok (.putfield 30, 3) := by decide +kernel
theorem dX8_init_45 : decode cX8_init 45 = .ok (.aload_n 0, 1) := by decide +kernel
theorem dX8_init_46 : decode cX8_init 46 = .ok (.new 34, 3) := by decide +kernel
theorem dX8_init_49 : decode cX8_init 49 = .ok (.dup, 1) := by decide +kernel
theorem dX8_init_50 : decode cX8_init 50 = .ok (.invokespecial 36, 3) := by decide +kernel
theorem dX8_init_53 : decode cX8_init 53 = .ok (.putfield 37, 3) := by decide +kernel
theorem dX8_init_56 : decode cX8_init 56 = .ok (.aload_n 0, 1) := by decide +kernel
theorem dX8_init_57 : decode cX8_init 57 = .ok (.new 41, 3) := by decide +kernel
theorem dX8_init_60 : decode cX8_init 60 = .ok (.dup, 1) := by decide +kernel
theorem dX8_init_61 : decode cX8_init 61 = .ok (.invokespecial 43, 3) := by decide +kernel
theorem dX8_init_64 : decode cX8_init 64 = .ok (.putfield 44, 3) := by decide +kernel
theorem dX8_init_67 : decode cX8_init 67 = .ok (.aload_n 0, 1) := by decide +kernel
theorem dX8_init_68 : decode cX8_init 68 = .ok (.new 48, 3) := by decide +kernel
theorem dX8_init_71 : decode cX8_init 71 = .ok (.dup, 1) := by decide +kernel
theorem dX8_init_72 : decode cX8_init 72 = .ok (.invokespecial 50, 3) := by decide +kernel
theorem dX8_init_75 : decode cX8_init 75 = .ok (.putfield 51, 3) := by decide +kernel
theorem dX8_init_78 : decode cX8_init 78 = .ok (.aload_n 0, 1) := by decide +kernel
theorem dX8_init_79 : decode cX8_init 79 = .ok (.new 55, 3) := by decide +kernel
theorem dX8_init_82 : decode cX8_init 82 = .ok (.dup, 1) := by decide +kernel
theorem dX8_init_83 : decode cX8_init 83 = .ok (.invokespecial 57, 3) := by decide +kernel
theorem dX8_init_86 : decode cX8_init 86 = .ok (.putfield 58, 3) := by decide +kernel
theorem dX8_init_89 : decode cX8_init 89 = .ok (.aload_n 0, 1) := by decide +kernel
theorem dX8_init_90 : decode cX8_init 90 = .ok (.new 62, 3) := by decide +kernel
theorem dX8_init_93 : decode cX8_init 93 = .ok (.dup, 1) := by decide +kernel
theorem dX8_init_94 : decode cX8_init 94 = .ok (.invokespecial 64, 3) := by decide +kernel
theorem dX8_init_97 : decode cX8_init 97 = .ok (.putfield 65, 3) := by decide +kernel
theorem dX8_init_100 : decode cX8_init 100 = .ok (.return_, 1) := by decide +kernel
theorem dX8_one_0 : decode cX8_one 0 = .ok (.iload_n 1, 1) := by decide +kernel
theorem dX8_one_1 : decode cX8_one 1 = .ok (.iconst 0, 1) := by decide +kernel
theorem dX8_one_2 : decode cX8_one 2 = .ok (.iconst 5, 1) := by decide +kernel
theorem dX8_one_3 : decode cX8_one 3 = .ok (.invokestatic 69, 3) := by decide +kernel
theorem dX8_one_6 : decode cX8_one 6 = .ok (.ifCond .ne 5, 3) := by decide +kernel
theorem dX8_one_9 : decode cX8_one 9 = .ok (.iconst (-1), 1) := by decide +kernel
theorem dX8_one_10 : decode cX8_one 10 = .ok (.ireturn, 1) := by decide +kernel
theorem dX8_one_11 : decode cX8_one 11 = .ok (.iload_n 2, 1) := by decide +kernel
theorem dX8_one_12 : decode cX8_one 12 = .ok (.iconst 0, 1) := by decide +kernel
theorem dX8_one_13 : decode cX8_one 13 = .ok (.aload_n 0, 1) := by decide +kernel
theorem dX8_one_14 : decode cX8_one 14 = .ok (.getfield 10, 3) := by decide +kernel
theorem dX8_one_17 : decode cX8_one 17 = .ok (.getfield 73, 3) := by decide +kernel
theorem dX8_one_20 : decode cX8_one 20 = .ok (.invokestatic 69, 3) := by decide +kernel
theorem dX8_one_23 : decode cX8_one 23 = .ok (.ifCond .eq 36, 3) := by decide +kernel
theorem dX8_one_26 : decode cX8_one 26 = .ok (.iload_n 3, 1) := by decide +kernel
theorem dX8_one_27 : decode cX8_one 27 = .ok (.iconst 0, 1) := by decide +kernel
theorem dX8_one_28 : decode cX8_one 28 = .ok (.bipush 99, 2) := by decide +kernel
theorem dX8_one_30 : decode cX8_one 30 = .ok (.invokestatic 69, 3) := by decide +kernel
theorem dX8_one_33 : decode cX8_one 33 = .ok (.ifCond .eq 26, 3) := by decide +kernel
theorem dX8_one_36 : decode cX8_one 36 = .ok (.iload 4, 2) := by decide +kernel
theorem dX8_one_38 : decode cX8_one 38 = .ok (.iconst 0, 1) := by decide +kernel
theorem dX8_one_39 : decode cX8_one 39 = .ok (.sipush 999, 3) := by decide +kernel
theorem dX8_one_42 : decode cX8_one 42 = .ok (.invokestatic 69, 3) := by decide +kernel
theorem dX8_one_45 : decode cX8_one 45 = .ok (.ifCond .eq 14, 3) := by decide +kernel
theorem dX8_one_48 : decode cX8_one 48 = .ok (.iload 5, 2) := by decide +kernel
theorem dX8_one_50 : decode cX8_one 50 = .ok (.iconst 0, 1) := by decide +kernel
theorem dX8_one_51 : decode cX8_one 51 = .ok (.bipush 9, 2) := by decide +kernel
theorem dX8_one_53 : decode cX8_one 53 = .ok (.invokestatic 69, 3) := by decide +kernel
theorem dX8_one_56 : decode cX8_one 56 = .ok (.ifCond .ne 6, 3) := by decide +kernel
theorem dX8_one_59 : decode cX8_one 59 = .ok (.bipush (-2), 2) := by decide +kernel
theorem dX8_one_61 : decode cX8_one 61 = .ok (.ireturn, 1) := by decide +kernel
theorem dX8_one_62 : decode cX8_one 62 = .ok (.aload_n 0, 1) := by decide +kernel
theorem dX8_one_63 : decode cX8_one 63 = .ok (.getfield 10, 3) := by decide +kernel
theorem dX8_one_66 : decode cX8_one 66 = .ok (.iload_n 1, 1) := by decide +kernel
theorem dX8_one_67 : decode cX8_one 67 = .ok (.iload_n 2, 1) := by decide +kernel
theorem dX8_one_68 : decode cX8_one 68 = .ok (.iload_n 3, 1) := by decide +kernel
theorem dX8_one_69 : decode cX8_one 69 = .ok (.iload 4, 2) := by decide +kernel
theorem dX8_one_71 : decode cX8_one 71 = .ok (.iload 5, 2) := by decide +kernel
theorem dX8_one_73 : decode cX8_one 73 = .ok (.invokevirtual 77, 3) := by decide +kernel
theorem dX8_one_76 : decode cX8_one 76 = .ok (.aload_n 0, 1) := by decide +kernel
theorem dX8_one_77 : decode cX8_one 77 = .ok (.getfield 10, 3) := by decide +kernel
theorem dX8_one_80 : decode cX8_one 80 = .ok (.invokevirtual 81, 3) := by decide +kernel
theorem dX8_one_83 : decode cX8_one 83 = .ok (.ireturn, 1) := by decide +kernel
theorem dX8_leave_0 : decode cX8_leave 0 = .ok (.aload_n 0, 1) := by decide +kernel
theorem dX8_leave_1 : decode cX8_leave 1 = .ok (.getfield 10, 3) := by decide +kernel
theorem dX8_leave_4 : decode cX8_leave 4 = .ok (.iload_n 1, 1) := by decide +kernel
theorem dX8_leave_5 : decode cX8_leave 5 = .ok (.invokevirtual 85, 3) := by decide +kernel
theorem dX8_leave_8 : decode cX8_leave 8 = .ok (.ifCond .ne 5, 3) := by decide +kernel
theorem dX8_leave_11 : decode cX8_leave 11 = .ok (.iconst (-1), 1) := by decide +kernel
theorem dX8_leave_12 : decode cX8_leave 12 = .ok (.ireturn, 1) := by decide +kernel
theorem dX8_leave_13 : decode cX8_leave 13 = .ok (.aload_n 0, 1) := by decide +kernel
theorem dX8_leave_14 : decode cX8_leave 14 = .ok (.getfield 10, 3) := by decide +kernel
theorem dX8_leave_17 : decode cX8_leave 17 = .ok (.iload_n 1, 1) := by decide +kernel
theorem dX8_leave_18 : decode cX8_leave 18 = .ok (.invokevirtual 89, 3) := by decide +kernel
theorem dX8_leave_21 : decode cX8_leave 21 = .ok (.aload_n 0, 1) := by decide +kernel
theorem dX8_leave_22 : decode cX8_leave 22 = .ok (.getfield 10, 3) := by decide +kernel
theorem dX8_leave_25 : decode cX8_leave 25 = .ok (.invokevirtual 81, 3) := by decide +kernel
theorem dX8_leave_28 : decode cX8_leave 28 = .ok (.ireturn, 1) := by decide +kernel
theorem dX8_permit_0 : decode cX8_permit 0 = .ok (.aload_n 0, 1) := by decide +kernel
theorem dX8_permit_1 : decode cX8_permit 1 = .ok (.getfield 10, 3) := by decide +kernel
theorem dX8_permit_4 : decode cX8_permit 4 = .ok (.iload_n 1, 1) := by decide +kernel
theorem dX8_permit_5 : decode cX8_permit 5 = .ok (.invokevirtual 85, 3) := by decide +kernel
theorem dX8_permit_8 : decode cX8_permit 8 = .ok (.ifCond .ne 5, 3) := by decide +kernel
theorem dX8_permit_11 : decode cX8_permit 11 = .ok (.iconst (-1), 1) := by decide +kernel
theorem dX8_permit_12 : decode cX8_permit 12 = .ok (.ireturn, 1) := by decide +kernel
theorem dX8_permit_13 : decode cX8_permit 13 = .ok (.iload_n 2, 1) := by decide +kernel
theorem dX8_permit_14 : decode cX8_permit 14 = .ok (.iconst 0, 1) := by decide +kernel
theorem dX8_permit_15 : decode cX8_permit 15 = .ok (.bipush 15, 2) := by decide +kernel
theorem dX8_permit_17 : decode cX8_permit 17 = .ok (.invokestatic 69, 3) := by decide +kernel
theorem dX8_permit_20 : decode cX8_permit 20 = .ok (.ifCond .ne 6, 3) := by decide +kernel
theorem dX8_permit_23 : decode cX8_permit 23 = .ok (.bipush (-2), 2) := by decide +kernel
theorem dX8_permit_25 : decode cX8_permit 25 = .ok (.ireturn, 1) := by decide +kernel
theorem dX8_permit_26 : decode cX8_permit 26 = .ok (.aload_n 0, 1) := by decide +kernel
theorem dX8_permit_27 : decode cX8_permit 27 = .ok (.getfield 10, 3) := by decide +kernel
theorem dX8_permit_30 : decode cX8_permit 30 = .ok (.iload_n 1, 1) := by decide +kernel
theorem dX8_permit_31 : decode cX8_permit 31 = .ok (.iconst 1, 1) := by decide +kernel
theorem dX8_permit_32 : decode cX8_permit 32 = .ok (.invokevirtual 93, 3) := by decide +kernel
theorem dX8_permit_35 : decode cX8_permit 35 = .ok (.istore_n 3, 1) := by decide +kernel
theorem dX8_permit_36 : decode cX8_permit 36 = .ok (.aload_n 0, 1) := by decide +kernel
theorem dX8_permit_37 : decode cX8_permit 37 = .ok (.getfield 10, 3) := by decide +kernel
theorem dX8_permit_40 : decode cX8_permit 40 = .ok (.iload_n 1, 1) := by decide +kernel
theorem dX8_permit_41 : decode cX8_permit 41 = .ok (.iconst 1, 1) := by decide +kernel
theorem dX8_permit_42 : decode cX8_permit 42 = .ok (.iload_n 2, 1) := by decide +kernel
theorem dX8_permit_43 : decode cX8_permit 43 = .ok (.invokevirtual 97, 3) := by decide +kernel
theorem dX8_permit_46 : decode cX8_permit 46 = .ok (.iload_n 3, 1) := by decide +kernel
theorem dX8_permit_47 : decode cX8_permit 47 = .ok (.ireturn, 1) := by decide +kernel
theorem dX8_set_0 : decode cX8_set 0 = .ok (.iload_n 1, 1) := by decide +kernel
theorem dX8_set_1 : decode cX8_set 1 = .ok (.ifCond .ne 9, 3) := by decide +kernel
theorem dX8_set_4 : decode cX8_set 4 = .ok (.aload_n 0, 1) := by decide +kernel
theorem dX8_set_5 : decode cX8_set 5 = .ok (.iload_n 2, 1) := by decide +kernel
theorem dX8_set_6 : decode cX8_set 6 = .ok (.invokevirtual 101, 3) := by decide +kernel
theorem dX8_set_9 : decode cX8_set 9 = .ok (.ireturn, 1) := by decide +kernel
theorem dX8_set_10 : decode cX8_set 10 = .ok (.iload_n 1, 1) := by decide +kernel
theorem dX8_set_11 : decode cX8_set 11 = .ok (.iconst 1, 1) := by decide +kernel
theorem dX8_set_12 : decode cX8_set 12 = .ok (.if_icmp .ne 9, 3) := by decide +kernel
theorem dX8_set_15 : decode cX8_set 15 = .ok (.aload_n 0, 1) := by decide +kernel
theorem dX8_set_16 : decode cX8_set 16 = .ok (.iload_n 2, 1) := by decide +kernel
theorem dX8_set_17 : decode cX8_set 17 = .ok (.invokevirtual 105, 3) := by decide +kernel
theorem dX8_set_20 : decode cX8_set 20 = .ok (.ireturn, 1) := by decide +kernel
theorem dX8_set_21 : decode cX8_set 21 = .ok (.bipush (-2), 2) := by decide +kernel
theorem dX8_set_23 : decode cX8_set 23 = .ok (.ireturn, 1) := by decide +kernel
theorem dX8_setLimit_0 : decode cX8_setLimit 0 = .ok (.iload_n 1, 1) := by decide +kernel
theorem dX8_setLimit_1 : decode cX8_setLimit 1 = .ok (.iconst 1, 1) := by decide +kernel
theorem dX8_setLimit_2 : decode cX8_setLimit 2 = .ok (.bipush 20, 2) := by decide +kernel
theorem dX8_setLimit_4 : decode cX8_setLimit 4 = .ok (.invokestatic 69, 3) := by decide +kernel
theorem dX8_setLimit_7 : decode cX8_setLimit 7 = .ok (.ifCond .ne 6, 3) := by decide +kernel
theorem dX8_setLimit_10 : decode cX8_setLimit 10 = .ok (.bipush (-2), 2) := by decide +kernel
theorem dX8_setLimit_12 : decode cX8_setLimit 12 = .ok (.ireturn, 1) := by decide +kernel
theorem dX8_setLimit_13 : decode cX8_setLimit 13 = .ok (.aload_n 0, 1) := by decide +kernel
theorem dX8_setLimit_14 : decode cX8_setLimit 14 = .ok (.getfield 10, 3) := by decide +kernel
theorem dX8_setLimit_17 : decode cX8_setLimit 17 = .ok (.invokevirtual 108, 3) := by decide +kernel
theorem dX8_setLimit_20 : decode cX8_setLimit 20 = .ok (.iload_n 1, 1) := by decide +kernel
theorem dX8_setLimit_21 : decode cX8_setLimit 21 = .ok (.if_icmp .le 6, 3) := by decide +kernel
theorem dX8_setLimit_24 : decode cX8_setLimit 24 = .ok (.bipush (-3), 2) := by decide +kernel
theorem dX8_setLimit_26 : decode cX8_setLimit 26 = .ok (.ireturn, 1) := by decide +kernel
theorem dX8_setLimit_27 : decode cX8_setLimit 27 = .ok (.aload_n 0, 1) := by decide +kernel
theorem dX8_setLimit_28 : decode cX8_setLimit 28 = .ok (.getfield 10, 3) := by decide +kernel
theorem dX8_setLimit_31 : decode cX8_setLimit 31 = .ok (.getfield 73, 3) := by decide +kernel
theorem dX8_setLimit_34 : decode cX8_setLimit 34 = .ok (.istore_n 2, 1) := by decide +kernel
theorem dX8_setLimit_35 : decode cX8_setLimit 35 = .ok (.aload_n 0, 1) := by decide +kernel
theorem dX8_setLimit_36 : decode cX8_setLimit 36 = .ok (.getfield 10, 3) := by decide +kernel
theorem dX8_setLimit_39 : decode cX8_setLimit 39 = .ok (.iload_n 1, 1) := by decide +kernel
theorem dX8_setLimit_40 : decode cX8_setLimit 40 = .ok (.putfield 73, 3) := by decide +kernel
theorem dX8_setLimit_43 : decode cX8_setLimit 43 = .ok (.iload_n 2, 1) := by decide +kernel
theorem dX8_setLimit_44 : decode cX8_setLimit 44 = .ok (.ireturn, 1) := by decide +kernel
theorem dX8_setEars_0 : decode cX8_setEars 0 = .ok (.iload_n 1, 1) := by decide +kernel
theorem dX8_setEars_1 : decode cX8_setEars 1 = .ok (.iconst 0, 1) := by decide +kernel
theorem dX8_setEars_2 : decode cX8_setEars 2 = .ok (.bipush 9, 2) := by decide +kernel
theorem dX8_setEars_4 : decode cX8_setEars 4 = .ok (.invokestatic 69, 3) := by decide +kernel
theorem dX8_setEars_7 : decode cX8_setEars 7 = .ok (.ifCond .ne 6, 3) := by decide +kernel
theorem dX8_setEars_10 : decode cX8_setEars 10 = .ok (.bipush (-2), 2) := by decide +kernel
theorem dX8_setEars_12 : decode cX8_setEars 12 = .ok (.ireturn, 1) := by decide +kernel
theorem dX8_setEars_13 : decode cX8_setEars 13 = .ok (.aload_n 0, 1) := by decide +kernel
theorem dX8_setEars_14 : decode cX8_setEars 14 = .ok (.getfield 10, 3) := by decide +kernel
theorem dX8_setEars_17 : decode cX8_setEars 17 = .ok (.getfield 111, 3) := by decide +kernel
theorem dX8_setEars_20 : decode cX8_setEars 20 = .ok (.istore_n 2, 1) := by decide +kernel
theorem dX8_setEars_21 : decode cX8_setEars 21 = .ok (.aload_n 0, 1) := by decide +kernel
theorem dX8_setEars_22 : decode cX8_setEars 22 = .ok (.getfield 10, 3) := by decide +kernel
theorem dX8_setEars_25 : decode cX8_setEars 25 = .ok (.iload_n 1, 1) := by decide +kernel
theorem dX8_setEars_26 : decode cX8_setEars 26 = .ok (.putfield 111, 3) := by decide +kernel
theorem dX8_setEars_29 : decode cX8_setEars 29 = .ok (.iload_n 2, 1) := by decide +kernel
theorem dX8_setEars_30 : decode cX8_setEars 30 = .ok (.ireturn, 1) := by decide +kernel
theorem dX8_say_0 : decode cX8_say 0 = .ok (.iload_n 1, 1) := by decide +kernel
theorem dX8_say_1 : decode cX8_say 1 = .ok (.bipush 33, 2) := by decide +kernel
theorem dX8_say_3 : decode cX8_say 3 = .ok (.bipush 126, 2) := by decide +kernel
theorem dX8_say_5 : decode cX8_say 5 = .ok (.invokestatic 69, 3) := by decide +kernel
theorem dX8_say_8 : decode cX8_say 8 = .ok (.ifCond .ne 6, 3) := by decide +kernel
theorem dX8_say_11 : decode cX8_say 11 = .ok (.bipush (-2), 2) := by decide +kernel
theorem dX8_say_13 : decode cX8_say 13 = .ok (.ireturn, 1) := by decide +kernel
theorem dX8_say_14 : decode cX8_say 14 = .ok (.aload_n 0, 1) := by decide +kernel
theorem dX8_say_15 : decode cX8_say 15 = .ok (.getfield 19, 3) := by decide +kernel
theorem dX8_say_18 : decode cX8_say 18 = .ok (.getfield 114, 3) := by decide +kernel
theorem dX8_say_21 : decode cX8_say 21 = .ok (.bipush 60, 2) := by decide +kernel
theorem dX8_say_23 : decode cX8_say 23 = .ok (.if_icmp .lt 6, 3) := by decide +kernel
theorem dX8_say_26 : decode cX8_say 26 = .ok (.bipush (-4), 2) := by decide +kernel
theorem dX8_say_28 : decode cX8_say 28 = .ok (.ireturn, 1) := by decide +kernel
theorem dX8_say_29 : decode cX8_say 29 = .ok (.aload_n 0, 1) := by decide +kernel
theorem dX8_say_30 : decode cX8_say 30 = .ok (.getfield 19, 3) := by decide +kernel
theorem dX8_say_33 : decode cX8_say 33 = .ok (.iload_n 1, 1) := by decide +kernel
theorem dX8_say_34 : decode cX8_say 34 = .ok (.invokevirtual 116, 3) := by decide +kernel
theorem dX8_say_37 : decode cX8_say 37 = .ok (.aload_n 0, 1) := by decide +kernel
theorem dX8_say_38 : decode cX8_say 38 = .ok (.getfield 19, 3) := by decide +kernel
theorem dX8_say_41 : decode cX8_say 41 = .ok (.getfield 114, 3) := by decide +kernel
theorem dX8_say_44 : decode cX8_say 44 = .ok (.ireturn, 1) := by decide +kernel
theorem dX8_wipe_0 : decode cX8_wipe 0 = .ok (.aload_n 0, 1) := by decide +kernel
theorem dX8_wipe_1 : decode cX8_wipe 1 = .ok (.getfield 19, 3) := by decide +kernel
theorem dX8_wipe_4 : decode cX8_wipe 4 = .ok (.getfield 114, 3) := by decide +kernel
theorem dX8_wipe_7 : decode cX8_wipe 7 = .ok (.istore_n 1, 1) := by decide +kernel
theorem dX8_wipe_8 : decode cX8_wipe 8 = .ok (.aload_n 0, 1) := by decide +kernel
theorem dX8_wipe_9 : decode cX8_wipe 9 = .ok (.getfield 19, 3) := by decide +kernel
theorem dX8_wipe_12 : decode cX8_wipe 12 = .ok (.iconst 0, 1) := by decide +kernel
theorem dX8_wipe_13 : decode cX8_wipe 13 = .ok (.putfield 114, 3) := by decide +kernel
theorem dX8_wipe_16 : decode cX8_wipe 16 = .ok (.iload_n 1, 1) := by decide +kernel
theorem dX8_wipe_17 : decode cX8_wipe 17 = .ok (.ireturn, 1) := by decide +kernel
theorem dX8_fault_0 : decode cX8_fault 0 = .ok (.aload_n 0, 1) := by decide +kernel
theorem dX8_fault_1 : decode cX8_fault 1 = .ok (.getfield 19, 3) := by decide +kernel
theorem dX8_fault_4 : decode cX8_fault 4 = .ok (.invokevirtual 119, 3) := by decide +kernel
theorem dX8_fault_7 : decode cX8_fault 7 = .ok (.ireturn, 1) := by decide +kernel
theorem dX8_judge_0 : decode cX8_judge 0 = .ok (.iload_n 1, 1) := by decide +kernel
theorem dX8_judge_1 : decode cX8_judge 1 = .ok (.iconst 0, 1) := by decide +kernel
theorem dX8_judge_2 : decode cX8_judge 2 = .ok (.iconst 2, 1) := by decide +kernel
theorem dX8_judge_3 : decode cX8_judge 3 = .ok (.invokestatic 69, 3) := by decide +kernel
theorem dX8_judge_6 : decode cX8_judge 6 = .ok (.ifCond .ne 6, 3) := by decide +kernel
theorem dX8_judge_9 : decode cX8_judge 9 = .ok (.bipush (-2), 2) := by decide +kernel
theorem dX8_judge_11 : decode cX8_judge 11 = .ok (.ireturn, 1) := by decide +kernel
theorem dX8_judge_12 : decode cX8_judge 12 = .ok (.aload_n 0, 1) := by decide +kernel
theorem dX8_judge_13 : decode cX8_judge 13 = .ok (.invokevirtual 122, 3) := by decide +kernel
theorem dX8_judge_16 : decode cX8_judge 16 = .ok (.istore_n 2, 1) := by decide +kernel
theorem dX8_judge_17 : decode cX8_judge 17 = .ok (.iload_n 2, 1) := by decide +kernel
theorem dX8_judge_18 : decode cX8_judge 18 = .ok (.bipush (-5), 2) := by decide +kernel
theorem dX8_judge_20 : decode cX8_judge 20 = .ok (.if_icmp .ne 6, 3) := by decide +kernel
theorem dX8_judge_23 : decode cX8_judge 23 = .ok (.bipush (-5), 2) := by decide +kernel
theorem dX8_judge_25 : decode cX8_judge 25 = .ok (.ireturn, 1) := by decide +kernel
theorem dX8_judge_26 : decode cX8_judge 26 = .ok (.iload_n 1, 1) := by decide +kernel
theorem dX8_judge_27 : decode cX8_judge 27 = .ok (.iconst 2, 1) := by decide +kernel
theorem dX8_judge_28 : decode cX8_judge 28 = .ok (.if_icmp .ne 22, 3) := by decide +kernel
theorem dX8_judge_31 : decode cX8_judge 31 = .ok (.iload_n 2, 1) := by decide +kernel
theorem dX8_judge_32 : decode cX8_judge 32 = .ok (.bipush (-3), 2) := by decide +kernel
theorem dX8_judge_34 : decode cX8_judge 34 = .ok (.if_icmp .ne 8, 3) := by decide +kernel
theorem dX8_judge_37 : decode cX8_judge 37 = .ok (.bipush (-3), 2) := by decide +kernel
theorem dX8_judge_39 : decode cX8_judge 39 = .ok (.goto 10, 3) := by decide +kernel
theorem dX8_judge_42 : decode cX8_judge 42 = .ok (.aload_n 0, 1) := by decide +kernel
theorem dX8_judge_43 : decode cX8_judge 43 = .ok (.getfield 26, 3) := by decide +kernel
theorem dX8_judge_46 : decode cX8_judge 46 = .ok (.getfield 125, 3) := by decide +kernel
theorem dX8_judge_49 : decode cX8_judge 49 = .ok (.ireturn, 1) := by decide +kernel
theorem dX8_judge_50 : decode cX8_judge 50 = .ok (.iload_n 2, 1) := by decide +kernel
theorem dX8_judge_51 : decode cX8_judge 51 = .ok (.bipush (-3), 2) := by decide +kernel
theorem dX8_judge_53 : decode cX8_judge 53 = .ok (.if_icmp .eq 6, 3) := by decide +kernel
theorem dX8_judge_56 : decode cX8_judge 56 = .ok (.bipush (-6), 2) := by decide +kernel
theorem dX8_judge_58 : decode cX8_judge 58 = .ok (.ireturn, 1) := by decide +kernel
theorem dX8_judge_59 : decode cX8_judge 59 = .ok (.iload_n 1, 1) := by decide +kernel
theorem dX8_judge_60 : decode cX8_judge 60 = .ok (.ifCond .ne 13, 3) := by decide +kernel
theorem dX8_judge_63 : decode cX8_judge 63 = .ok (.aload_n 0, 1) := by decide +kernel
theorem dX8_judge_64 : decode cX8_judge 64 = .ok (.getfield 26, 3) := by decide +kernel
theorem dX8_judge_67 : decode cX8_judge 67 = .ok (.getfield 128, 3) := by decide +kernel
theorem dX8_judge_70 : decode cX8_judge 70 = .ok (.goto 10, 3) := by decide +kernel
theorem dX8_judge_73 : decode cX8_judge 73 = .ok (.aload_n 0, 1) := by decide +kernel
theorem dX8_judge_74 : decode cX8_judge 74 = .ok (.getfield 26, 3) := by decide +kernel
theorem dX8_judge_77 : decode cX8_judge 77 = .ok (.getfield 131, 3) := by decide +kernel
theorem dX8_judge_80 : decode cX8_judge 80 = .ok (.ireturn, 1) := by decide +kernel
theorem dX8_behind_0 : decode cX8_behind 0 = .ok (.aload_n 0, 1) := by decide +kernel
theorem dX8_behind_1 : decode cX8_behind 1 = .ok (.getfield 10, 3) := by decide +kernel
theorem dX8_behind_4 : decode cX8_behind 4 = .ok (.iload_n 1, 1) := by decide +kernel
theorem dX8_behind_5 : decode cX8_behind 5 = .ok (.invokevirtual 85, 3) := by decide +kernel
theorem dX8_behind_8 : decode cX8_behind 8 = .ok (.ifCond .ne 5, 3) := by decide +kernel
theorem dX8_behind_11 : decode cX8_behind 11 = .ok (.iconst (-1), 1) := by decide +kernel
theorem dX8_behind_12 : decode cX8_behind 12 = .ok (.ireturn, 1) := by decide +kernel
theorem dX8_behind_13 : decode cX8_behind 13 = .ok (.iload_n 2, 1) := by decide +kernel
theorem dX8_behind_14 : decode cX8_behind 14 = .ok (.iconst 0, 1) := by decide +kernel
theorem dX8_behind_15 : decode cX8_behind 15 = .ok (.iconst 4, 1) := by decide +kernel
theorem dX8_behind_16 : decode cX8_behind 16 = .ok (.invokestatic 69, 3) := by decide +kernel
theorem dX8_behind_19 : decode cX8_behind 19 = .ok (.ifCond .ne 6, 3) := by decide +kernel
theorem dX8_behind_22 : decode cX8_behind 22 = .ok (.bipush (-2), 2) := by decide +kernel
theorem dX8_behind_24 : decode cX8_behind 24 = .ok (.ireturn, 1) := by decide +kernel
theorem dX8_behind_25 : decode cX8_behind 25 = .ok (.aload_n 0, 1) := by decide +kernel
theorem dX8_behind_26 : decode cX8_behind 26 = .ok (.invokevirtual 122, 3) := by decide +kernel
theorem dX8_behind_29 : decode cX8_behind 29 = .ok (.istore_n 3, 1) := by decide +kernel
theorem dX8_behind_30 : decode cX8_behind 30 = .ok (.iload_n 3, 1) := by decide +kernel
theorem dX8_behind_31 : decode cX8_behind 31 = .ok (.ifCond .eq 5, 3) := by decide +kernel
theorem dX8_behind_34 : decode cX8_behind 34 = .ok (.iload_n 3, 1) := by decide +kernel
theorem dX8_behind_35 : decode cX8_behind 35 = .ok (.ireturn, 1) := by decide +kernel
theorem dX8_behind_36 : decode cX8_behind 36 = .ok (.aload_n 0, 1) := by decide +kernel
theorem dX8_behind_37 : decode cX8_behind 37 = .ok (.getfield 26, 3) := by decide +kernel
theorem dX8_behind_40 : decode cX8_behind 40 = .ok (.getfield 134, 3) := by decide +kernel
theorem dX8_behind_43 : decode cX8_behind 43 = .ok (.iload_n 1, 1) := by decide +kernel
theorem dX8_behind_44 : decode cX8_behind 44 = .ok (.iload_n 2, 1) := by decide +kernel
theorem dX8_behind_45 : decode cX8_behind 45 = .ok (.ifCond .ne 7, 3) := by decide +kernel
theorem dX8_behind_48 : decode cX8_behind 48 = .ok (.iconst 0, 1) := by decide +kernel
theorem dX8_behind_49 : decode cX8_behind 49 = .ok (.goto 6, 3) := by decide +kernel
theorem dX8_behind_52 : decode cX8_behind 52 = .ok (.iload_n 2, 1) := by decide +kernel
theorem dX8_behind_53 : decode cX8_behind 53 = .ok (.iconst 1, 1) := by decide +kernel
theorem dX8_behind_54 : decode cX8_behind 54 = .ok (.iadd, 1) := by decide +kernel
theorem dX8_behind_55 : decode cX8_behind 55 = .ok (.invokevirtual 93, 3) := by decide +kernel
theorem dX8_behind_58 : decode cX8_behind 58 = .ok (.ireturn, 1) := by decide +kernel
theorem dX8_slipped_0 : decode cX8_slipped 0 = .ok (.iload_n 1, 1) := by decide +kernel
theorem dX8_slipped_1 : decode cX8_slipped 1 = .ok (.iconst 0, 1) := by decide +kernel
theorem dX8_slipped_2 : decode cX8_slipped 2 = .ok (.iconst 3, 1) := by decide +kernel
theorem dX8_slipped_3 : decode cX8_slipped 3 = .ok (.invokestatic 69, 3) := by decide +kernel
theorem dX8_slipped_6 : decode cX8_slipped 6 = .ok (.ifCond .ne 6, 3) := by decide +kernel
theorem dX8_slipped_9 : decode cX8_slipped 9 = .ok (.bipush (-2), 2) := by decide +kernel
theorem dX8_slipped_11 : decode cX8_slipped 11 = .ok (.ireturn, 1) := by decide +kernel
theorem dX8_slipped_12 : decode cX8_slipped 12 = .ok (.aload_n 0, 1) := by decide +kernel
theorem dX8_slipped_13 : decode cX8_slipped 13 = .ok (.invokevirtual 122, 3) := by decide +kernel
theorem dX8_slipped_16 : decode cX8_slipped 16 = .ok (.istore_n 2, 1) := by decide +kernel
theorem dX8_slipped_17 : decode cX8_slipped 17 = .ok (.iload_n 2, 1) := by decide +kernel
theorem dX8_slipped_18 : decode cX8_slipped 18 = .ok (.ifCond .eq 5, 3) := by decide +kernel
theorem dX8_slipped_21 : decode cX8_slipped 21 = .ok (.iload_n 2, 1) := by decide +kernel
theorem dX8_slipped_22 : decode cX8_slipped 22 = .ok (.ireturn, 1) := by decide +kernel
theorem dX8_slipped_23 : decode cX8_slipped 23 = .ok (.iload_n 1, 1) := by decide +kernel
theorem dX8_slipped_24 : decode cX8_slipped 24 = .ok (.tableswitch 52 0 2 #[28, 36, 44], 28) := by decide +kernel
theorem dX8_slipped_52 : decode cX8_slipped 52 = .ok (.aload_n 0, 1) := by decide +kernel
theorem dX8_slipped_53 : decode cX8_slipped 53 = .ok (.getfield 26, 3) := by decide +kernel
theorem dX8_slipped_56 : decode cX8_slipped 56 = .ok (.getfield 135, 3) := by decide +kernel
theorem dX8_slipped_59 : decode cX8_slipped 59 = .ok (.ireturn, 1) := by decide +kernel
theorem dX8_slipped_60 : decode cX8_slipped 60 = .ok (.aload_n 0, 1) := by decide +kernel
theorem dX8_slipped_61 : decode cX8_slipped 61 = .ok (.getfield 26, 3) := by decide +kernel
theorem dX8_slipped_64 : decode cX8_slipped 64 = .ok (.getfield 138, 3) := by decide +kernel
theorem dX8_slipped_67 : decode cX8_slipped 67 = .ok (.ireturn, 1) := by decide +kernel
theorem dX8_slipped_68 : decode cX8_slipped 68 = .ok (.aload_n 0, 1) := by decide +kernel
theorem dX8_slipped_69 : decode cX8_slipped 69 = .ok (.getfield 26, 3) := by decide +kernel
theorem dX8_slipped_72 : decode cX8_slipped 72 = .ok (.getfield 141, 3) := by decide +kernel
theorem dX8_slipped_75 : decode cX8_slipped 75 = .ok (.ireturn, 1) := by decide +kernel
theorem dX8_slipped_76 : decode cX8_slipped 76 = .ok (.aload_n 0, 1) := by decide +kernel
theorem dX8_slipped_77 : decode cX8_slipped 77 = .ok (.getfield 26, 3) := by decide +kernel
theorem dX8_slipped_80 : decode cX8_slipped 80 = .ok (.getfield 144, 3) := by decide +kernel
theorem dX8_slipped_83 : decode cX8_slipped 83 = .ok (.ireturn, 1) := by decide +kernel
theorem dX8_done_0 : decode cX8_done 0 = .ok (.aload_n 0, 1) := by decide +kernel
theorem dX8_done_1 : decode cX8_done 1 = .ok (.invokevirtual 122, 3) := by decide +kernel
theorem dX8_done_4 : decode cX8_done 4 = .ok (.istore_n 1, 1) := by decide +kernel
theorem dX8_done_5 : decode cX8_done 5 = .ok (.iload_n 1, 1) := by decide +kernel
theorem dX8_done_6 : decode cX8_done 6 = .ok (.ifCond .eq 5, 3) := by decide +kernel
theorem dX8_done_9 : decode cX8_done 9 = .ok (.iload_n 1, 1) := by decide +kernel
theorem dX8_done_10 : decode cX8_done 10 = .ok (.ireturn, 1) := by decide +kernel
theorem dX8_done_11 : decode cX8_done 11 = .ok (.aload_n 0, 1) := by decide +kernel
theorem dX8_done_12 : decode cX8_done 12 = .ok (.getfield 10, 3) := by decide +kernel
theorem dX8_done_15 : decode cX8_done 15 = .ok (.aload_n 0, 1) := by decide +kernel
theorem dX8_done_16 : decode cX8_done 16 = .ok (.getfield 26, 3) := by decide +kernel
theorem dX8_done_19 : decode cX8_done 19 = .ok (.getfield 134, 3) := by decide +kernel
theorem dX8_done_22 : decode cX8_done 22 = .ok (.invokevirtual 147, 3) := by decide +kernel
theorem dX8_done_25 : decode cX8_done 25 = .ok (.aload_n 0, 1) := by decide +kernel
theorem dX8_done_26 : decode cX8_done 26 = .ok (.getfield 19, 3) := by decide +kernel
theorem dX8_done_29 : decode cX8_done 29 = .ok (.iconst 0, 1) := by decide +kernel
theorem dX8_done_30 : decode cX8_done 30 = .ok (.putfield 114, 3) := by decide +kernel
theorem dX8_done_33 : decode cX8_done 33 = .ok (.aload_n 0, 1) := by decide +kernel
theorem dX8_done_34 : decode cX8_done 34 = .ok (.getfield 26, 3) := by decide +kernel
theorem dX8_done_37 : decode cX8_done 37 = .ok (.getfield 128, 3) := by decide +kernel
theorem dX8_done_40 : decode cX8_done 40 = .ok (.ireturn, 1) := by decide +kernel
theorem dX8_hears_0 : decode cX8_hears 0 = .ok (.aload_n 0, 1) := by decide +kernel
theorem dX8_hears_1 : decode cX8_hears 1 = .ok (.getfield 10, 3) := by decide +kernel
theorem dX8_hears_4 : decode cX8_hears 4 = .ok (.iload_n 1, 1) := by decide +kernel
theorem dX8_hears_5 : decode cX8_hears 5 = .ok (.invokevirtual 85, 3) := by decide +kernel
theorem dX8_hears_8 : decode cX8_hears 8 = .ok (.ifCond .eq 14, 3) := by decide +kernel
theorem dX8_hears_11 : decode cX8_hears 11 = .ok (.aload_n 0, 1) := by decide +kernel
theorem dX8_hears_12 : decode cX8_hears 12 = .ok (.getfield 10, 3) := by decide +kernel
theorem dX8_hears_15 : decode cX8_hears 15 = .ok (.iload_n 1, 1) := by decide +kernel
theorem dX8_hears_16 : decode cX8_hears 16 = .ok (.invokevirtual 151, 3) := by decide +kernel
theorem dX8_hears_19 : decode cX8_hears 19 = .ok (.goto 4, 3) := by decide +kernel
theorem dX8_hears_22 : decode cX8_hears 22 = .ok (.iconst (-1), 1) := by decide +kernel
theorem dX8_hears_23 : decode cX8_hears 23 = .ok (.ireturn, 1) := by decide +kernel
theorem dX8_playPad_0 : decode cX8_playPad 0 = .ok (.aload_n 0, 1) := by decide +kernel
theorem dX8_playPad_1 : decode cX8_playPad 1 = .ok (.getfield 19, 3) := by decide +kernel
theorem dX8_playPad_4 : decode cX8_playPad 4 = .ok (.invokevirtual 119, 3) := by decide +kernel
theorem dX8_playPad_7 : decode cX8_playPad 7 = .ok (.bipush (-6), 2) := by decide +kernel
theorem dX8_playPad_9 : decode cX8_playPad 9 = .ok (.if_icmp .eq 6, 3) := by decide +kernel
theorem dX8_playPad_12 : decode cX8_playPad 12 = .ok (.bipush (-5), 2) := by decide +kernel
theorem dX8_playPad_14 : decode cX8_playPad 14 = .ok (.ireturn, 1) := by decide +kernel
theorem dX8_playPad_15 : decode cX8_playPad 15 = .ok (.aload_n 0, 1) := by decide +kernel
theorem dX8_playPad_16 : decode cX8_playPad 16 = .ok (.getfield 26, 3) := by decide +kernel
theorem dX8_playPad_19 : decode cX8_playPad 19 = .ok (.aload_n 0, 1) := by decide +kernel
theorem dX8_playPad_20 : decode cX8_playPad 20 = .ok (.getfield 10, 3) := by decide +kernel
theorem dX8_playPad_23 : decode cX8_playPad 23 = .ok (.invokevirtual 154, 3) := by decide +kernel
theorem dX8_playPad_26 : decode cX8_playPad 26 = .ok (.iconst 0, 1) := by decide +kernel
theorem dX8_playPad_27 : decode cX8_playPad 27 = .ok (.istore_n 1, 1) := by decide +kernel
theorem dX8_playPad_28 : decode cX8_playPad 28 = .ok (.iload_n 1, 1) := by decide +kernel
theorem dX8_playPad_29 : decode cX8_playPad 29 = .ok (.aload_n 0, 1) := by decide +kernel
theorem dX8_playPad_30 : decode cX8_playPad 30 = .ok (.getfield 19, 3) := by decide +kernel
theorem dX8_playPad_33 : decode cX8_playPad 33 = .ok (.getfield 114, 3) := by decide +kernel
theorem dX8_playPad_36 : decode cX8_playPad 36 = .ok (.if_icmp .ge 46, 3) := by decide +kernel
theorem dX8_playPad_39 : decode cX8_playPad 39 = .ok (.aload_n 0, 1) := by decide +kernel
theorem dX8_playPad_40 : decode cX8_playPad 40 = .ok (.getfield 26, 3) := by decide +kernel
theorem dX8_playPad_43 : decode cX8_playPad 43 = .ok (.aload_n 0, 1) := by decide +kernel
theorem dX8_playPad_44 : decode cX8_playPad 44 = .ok (.getfield 19, 3) := by decide +kernel
theorem dX8_playPad_47 : decode cX8_playPad 47 = .ok (.iload_n 1, 1) := by decide +kernel
theorem dX8_playPad_48 : decode cX8_playPad 48 = .ok (.invokevirtual 157, 3) := by decide +kernel
theorem dX8_playPad_51 : decode cX8_playPad 51 = .ok (.aload_n 0, 1) := by decide +kernel
theorem dX8_playPad_52 : decode cX8_playPad 52 = .ok (.getfield 26, 3) := by decide +kernel
theorem dX8_playPad_55 : decode cX8_playPad 55 = .ok (.getfield 131, 3) := by decide +kernel
theorem dX8_playPad_58 : decode cX8_playPad 58 = .ok (.ifCond .eq 6, 3) := by decide +kernel
theorem dX8_playPad_61 : decode cX8_playPad 61 = .ok (.bipush (-3), 2) := by decide +kernel
theorem dX8_playPad_63 : decode cX8_playPad 63 = .ok (.ireturn, 1) := by decide +kernel
theorem dX8_playPad_64 : decode cX8_playPad 64 = .ok (.iload_n 1, 1) := by decide +kernel
theorem dX8_playPad_65 : decode cX8_playPad 65 = .ok (.iconst 1, 1) := by decide +kernel
theorem dX8_playPad_66 : decode cX8_playPad 66 = .ok (.aload_n 0, 1) := by decide +kernel
theorem dX8_playPad_67 : decode cX8_playPad 67 = .ok (.getfield 19, 3) := by decide +kernel
theorem dX8_playPad_70 : decode cX8_playPad 70 = .ok (.iload_n 1, 1) := by decide +kernel
theorem dX8_playPad_71 : decode cX8_playPad 71 = .ok (.invokevirtual 161, 3) := by decide +kernel
theorem dX8_playPad_74 : decode cX8_playPad 74 = .ok (.invokestatic 164, 3) := by decide +kernel
theorem dX8_playPad_77 : decode cX8_playPad 77 = .ok (.iadd, 1) := by decide +kernel
theorem dX8_playPad_78 : decode cX8_playPad 78 = .ok (.istore_n 1, 1) := by decide +kernel
theorem dX8_playPad_79 : decode cX8_playPad 79 = .ok (.goto (-51), 3) := by decide +kernel
theorem dX8_playPad_82 : decode cX8_playPad 82 = .ok (.iconst 0, 1) := by decide +kernel
theorem dX8_playPad_83 : decode cX8_playPad 83 = .ok (.ireturn, 1) := by decide +kernel
theorem dX8_spend_0 : decode cX8_spend 0 = .ok (.iload_n 1, 1) := by decide +kernel
theorem dX8_spend_1 : decode cX8_spend 1 = .ok (.iconst 0, 1) := by decide +kernel
theorem dX8_spend_2 : decode cX8_spend 2 = .ok (.aload_n 0, 1) := by decide +kernel
theorem dX8_spend_3 : decode cX8_spend 3 = .ok (.getfield 10, 3) := by decide +kernel
theorem dX8_spend_6 : decode cX8_spend 6 = .ok (.getfield 73, 3) := by decide +kernel
theorem dX8_spend_9 : decode cX8_spend 9 = .ok (.invokestatic 69, 3) := by decide +kernel
theorem dX8_spend_12 : decode cX8_spend 12 = .ok (.ifCond .eq 33, 3) := by decide +kernel
theorem dX8_spend_15 : decode cX8_spend 15 = .ok (.iload_n 2, 1) := by decide +kernel
theorem dX8_spend_16 : decode cX8_spend 16 = .ok (.iconst 0, 1) := by decide +kernel
theorem dX8_spend_17 : decode cX8_spend 17 = .ok (.bipush 20, 2) := by decide +kernel
theorem dX8_spend_19 : decode cX8_spend 19 = .ok (.invokestatic 69, 3) := by decide +kernel
theorem dX8_spend_22 : decode cX8_spend 22 = .ok (.ifCond .eq 23, 3) := by decide +kernel
theorem dX8_spend_25 : decode cX8_spend 25 = .ok (.iload_n 3, 1) := by decide +kernel
theorem dX8_spend_26 : decode cX8_spend 26 = .ok (.iconst 0, 1) := by decide +kernel
theorem dX8_spend_27 : decode cX8_spend 27 = .ok (.ldc 169, 2) := by decide +kernel
theorem dX8_spend_29 : decode cX8_spend 29 = .ok (.invokestatic 69, 3) := by decide +kernel
theorem dX8_spend_32 : decode cX8_spend 32 = .ok (.ifCond .eq 13, 3) := by decide +kernel
theorem dX8_spend_35 : decode cX8_spend 35 = .ok (.iload 4, 2) := by decide +kernel
theorem dX8_spend_37 : decode cX8_spend 37 = .ok (.iconst 0, 1) := by decide +kernel
theorem dX8_spend_38 : decode cX8_spend 38 = .ok (.iconst 2, 1) := by decide +kernel
theorem dX8_spend_39 : decode cX8_spend 39 = .ok (.invokestatic 69, 3) := by decide +kernel
theorem dX8_spend_42 : decode cX8_spend 42 = .ok (.ifCond .ne 6, 3) := by decide +kernel
theorem dX8_spend_45 : decode cX8_spend 45 = .ok (.bipush (-2), 2) := by decide +kernel
theorem dX8_spend_47 : decode cX8_spend 47 = .ok (.ireturn, 1) := by decide +kernel
theorem dX8_spend_48 : decode cX8_spend 48 = .ok (.aload_n 0, 1) := by decide +kernel
theorem dX8_spend_49 : decode cX8_spend 49 = .ok (.getfield 37, 3) := by decide +kernel
theorem dX8_spend_52 : decode cX8_spend 52 = .ok (.iload_n 3, 1) := by decide +kernel
theorem dX8_spend_53 : decode cX8_spend 53 = .ok (.aload_n 0, 1) := by decide +kernel
theorem dX8_spend_54 : decode cX8_spend 54 = .ok (.getfield 10, 3) := by decide +kernel
theorem dX8_spend_57 : decode cX8_spend 57 = .ok (.getfield 73, 3) := by decide +kernel
theorem dX8_spend_60 : decode cX8_spend 60 = .ok (.invokevirtual 170, 3) := by decide +kernel
theorem dX8_spend_63 : decode cX8_spend 63 = .ok (.aload_n 0, 1) := by decide +kernel
theorem dX8_spend_64 : decode cX8_spend 64 = .ok (.getfield 37, 3) := by decide +kernel
theorem dX8_spend_67 : decode cX8_spend 67 = .ok (.iload_n 1, 1) := by decide +kernel
theorem dX8_spend_68 : decode cX8_spend 68 = .ok (.iload_n 2, 1) := by decide +kernel
theorem dX8_spend_69 : decode cX8_spend 69 = .ok (.invokevirtual 174, 3) := by decide +kernel
theorem dX8_spend_72 : decode cX8_spend 72 = .ok (.istore 5, 2) := by decide +kernel
theorem dX8_spend_74 : decode cX8_spend 74 = .ok (.iload 4, 2) := by decide +kernel
theorem dX8_spend_76 : decode cX8_spend 76 = .ok (.ifCond .ne 6, 3) := by decide +kernel
theorem dX8_spend_79 : decode cX8_spend 79 = .ok (.iload 5, 2) := by decide +kernel
theorem dX8_spend_81 : decode cX8_spend 81 = .ok (.ireturn, 1) := by decide +kernel
theorem dX8_spend_82 : decode cX8_spend 82 = .ok (.iload 4, 2) := by decide +kernel
theorem dX8_spend_84 : decode cX8_spend 84 = .ok (.iconst 1, 1) := by decide +kernel
theorem dX8_spend_85 : decode cX8_spend 85 = .ok (.if_icmp .ne 17, 3) := by decide +kernel
theorem dX8_spend_88 : decode cX8_spend 88 = .ok (.aload_n 0, 1) := by decide +kernel
theorem dX8_spend_89 : decode cX8_spend 89 = .ok (.getfield 37, 3) := by decide +kernel
theorem dX8_spend_92 : decode cX8_spend 92 = .ok (.iconst 0, 1) := by decide +kernel
theorem dX8_spend_93 : decode cX8_spend 93 = .ok (.iload_n 1, 1) := by decide +kernel
theorem dX8_spend_94 : decode cX8_spend 94 = .ok (.iload 5, 2) := by decide +kernel
theorem dX8_spend_96 : decode cX8_spend 96 = .ok (.invokevirtual 177, 3) := by decide +kernel
theorem dX8_spend_99 : decode cX8_spend 99 = .ok (.goto 13, 3) := by decide +kernel
theorem dX8_spend_102 : decode cX8_spend 102 = .ok (.aload_n 0, 1) := by decide +kernel
theorem dX8_spend_103 : decode cX8_spend 103 = .ok (.getfield 37, 3) := by decide +kernel
theorem dX8_spend_106 : decode cX8_spend 106 = .ok (.iload_n 1, 1) := by decide +kernel
theorem dX8_spend_107 : decode cX8_spend 107 = .ok (.iload 5, 2) := by decide +kernel
theorem dX8_spend_109 : decode cX8_spend 109 = .ok (.invokevirtual 181, 3) := by decide +kernel
theorem dX8_spend_112 : decode cX8_spend 112 = .ok (.ireturn, 1) := by decide +kernel
theorem dX8_deal_0 : decode cX8_deal 0 = .ok (.iload_n 3, 1) := by decide +kernel
theorem dX8_deal_1 : decode cX8_deal 1 = .ok (.iconst (-1), 1) := by decide +kernel
theorem dX8_deal_2 : decode cX8_deal 2 = .ok (.if_icmp .eq 16, 3) := by decide +kernel
theorem dX8_deal_5 : decode cX8_deal 5 = .ok (.aload_n 0, 1) := by decide +kernel
theorem dX8_deal_6 : decode cX8_deal 6 = .ok (.getfield 10, 3) := by decide +kernel
theorem dX8_deal_9 : decode cX8_deal 9 = .ok (.iload_n 3, 1) := by decide +kernel
theorem dX8_deal_10 : decode cX8_deal 10 = .ok (.invokevirtual 85, 3) := by decide +kernel
theorem dX8_deal_13 : decode cX8_deal 13 = .ok (.ifCond .ne 5, 3) := by decide +kernel
theorem dX8_deal_16 : decode cX8_deal 16 = .ok (.iconst (-1), 1) := by decide +kernel
theorem dX8_deal_17 : decode cX8_deal 17 = .ok (.ireturn, 1) := by decide +kernel
theorem dX8_deal_18 : decode cX8_deal 18 = .ok (.iload_n 1, 1) := by decide +kernel
theorem dX8_deal_19 : decode cX8_deal 19 = .ok (.iconst 0, 1) := by decide +kernel
theorem dX8_deal_20 : decode cX8_deal 20 = .ok (.bipush 20, 2) := by decide +kernel
theorem dX8_deal_22 : decode cX8_deal 22 = .ok (.invokestatic 69, 3) := by decide +kernel
theorem dX8_deal_25 : decode cX8_deal 25 = .ok (.ifCond .eq 13, 3) := by decide +kernel
theorem dX8_deal_28 : decode cX8_deal 28 = .ok (.iload_n 2, 1) := by decide +kernel
theorem dX8_deal_29 : decode cX8_deal 29 = .ok (.iconst 0, 1) := by decide +kernel
theorem dX8_deal_30 : decode cX8_deal 30 = .ok (.ldc 169, 2) := by decide +kernel
theorem dX8_deal_32 : decode cX8_deal 32 = .ok (.invokestatic 69, 3) := by decide +kernel
theorem dX8_deal_35 : decode cX8_deal 35 = .ok (.ifCond .ne 6, 3) := by decide +kernel
theorem dX8_deal_38 : decode cX8_deal 38 = .ok (.bipush (-2), 2) := by decide +kernel
theorem dX8_deal_40 : decode cX8_deal 40 = .ok (.ireturn, 1) := by decide +kernel
theorem dX8_deal_41 : decode cX8_deal 41 = .ok (.aload_n 0, 1) := by decide +kernel
theorem dX8_deal_42 : decode cX8_deal 42 = .ok (.getfield 10, 3) := by decide +kernel
theorem dX8_deal_45 : decode cX8_deal 45 = .ok (.getfield 184, 3) := by decide +kernel
theorem dX8_deal_48 : decode cX8_deal 48 = .ok (.ifCond .ne 5, 3) := by decide +kernel
theorem dX8_deal_51 : decode cX8_deal 51 = .ok (.iconst 0, 1) := by decide +kernel
theorem dX8_deal_52 : decode cX8_deal 52 = .ok (.ireturn, 1) := by decide +kernel
theorem dX8_deal_53 : decode cX8_deal 53 = .ok (.aload_n 0, 1) := by decide +kernel
theorem dX8_deal_54 : decode cX8_deal 54 = .ok (.getfield 37, 3) := by decide +kernel
theorem dX8_deal_57 : decode cX8_deal 57 = .ok (.iload_n 2, 1) := by decide +kernel
theorem dX8_deal_58 : decode cX8_deal 58 = .ok (.aload_n 0, 1) := by decide +kernel
theorem dX8_deal_59 : decode cX8_deal 59 = .ok (.getfield 10, 3) := by decide +kernel
theorem dX8_deal_62 : decode cX8_deal 62 = .ok (.getfield 73, 3) := by decide +kernel
theorem dX8_deal_65 : decode cX8_deal 65 = .ok (.invokevirtual 170, 3) := by decide +kernel
theorem dX8_deal_68 : decode cX8_deal 68 = .ok (.aload_n 0, 1) := by decide +kernel
theorem dX8_deal_69 : decode cX8_deal 69 = .ok (.getfield 44, 3) := by decide +kernel
theorem dX8_deal_72 : decode cX8_deal 72 = .ok (.aload_n 0, 1) := by decide +kernel
theorem dX8_deal_73 : decode cX8_deal 73 = .ok (.getfield 10, 3) := by decide +kernel
theorem dX8_deal_76 : decode cX8_deal 76 = .ok (.aload_n 0, 1) := by decide +kernel
theorem dX8_deal_77 : decode cX8_deal 77 = .ok (.getfield 37, 3) := by decide +kernel
theorem dX8_deal_80 : decode cX8_deal 80 = .ok (.invokevirtual 187, 3) := by decide +kernel
theorem dX8_deal_83 : decode cX8_deal 83 = .ok (.iload_n 3, 1) := by decide +kernel
theorem dX8_deal_84 : decode cX8_deal 84 = .ok (.iconst (-1), 1) := by decide +kernel
theorem dX8_deal_85 : decode cX8_deal 85 = .ok (.if_icmp .ne 15, 3) := by decide +kernel
theorem dX8_deal_88 : decode cX8_deal 88 = .ok (.aload_n 0, 1) := by decide +kernel
theorem dX8_deal_89 : decode cX8_deal 89 = .ok (.getfield 44, 3) := by decide +kernel
theorem dX8_deal_92 : decode cX8_deal 92 = .ok (.iconst 0, 1) := by decide +kernel
theorem dX8_deal_93 : decode cX8_deal 93 = .ok (.iload_n 1, 1) := by decide +kernel
theorem dX8_deal_94 : decode cX8_deal 94 = .ok (.invokevirtual 190, 3) := by decide +kernel
theorem dX8_deal_97 : decode cX8_deal 97 = .ok (.goto 12, 3) := by decide +kernel
theorem dX8_deal_100 : decode cX8_deal 100 = .ok (.aload_n 0, 1) := by decide +kernel
theorem dX8_deal_101 : decode cX8_deal 101 = .ok (.getfield 44, 3) := by decide +kernel
theorem dX8_deal_104 : decode cX8_deal 104 = .ok (.iload_n 3, 1) := by decide +kernel
theorem dX8_deal_105 : decode cX8_deal 105 = .ok (.iload_n 1, 1) := by decide +kernel
theorem dX8_deal_106 : decode cX8_deal 106 = .ok (.invokevirtual 193, 3) := by decide +kernel
theorem dX8_deal_109 : decode cX8_deal 109 = .ok (.ireturn, 1) := by decide +kernel
theorem dX8_seats_0 : decode cX8_seats 0 = .ok (.iload_n 1, 1) := by decide +kernel
theorem dX8_seats_1 : decode cX8_seats 1 = .ok (.iconst 0, 1) := by decide +kernel
theorem dX8_seats_2 : decode cX8_seats 2 = .ok (.bipush 40, 2) := by decide +kernel
theorem dX8_seats_4 : decode cX8_seats 4 = .ok (.invokestatic 69, 3) := by decide +kernel
theorem dX8_seats_7 : decode cX8_seats 7 = .ok (.ifCond .eq 12, 3) := by decide +kernel
theorem dX8_seats_10 : decode cX8_seats 10 = .ok (.iload_n 2, 1) := by decide +kernel
theorem dX8_seats_11 : decode cX8_seats 11 = .ok (.iconst 0, 1) := by decide +kernel
theorem dX8_seats_12 : decode cX8_seats 12 = .ok (.iconst 1, 1) := by decide +kernel
theorem dX8_seats_13 : decode cX8_seats 13 = .ok (.invokestatic 69, 3) := by decide +kernel
theorem dX8_seats_16 : decode cX8_seats 16 = .ok (.ifCond .ne 6, 3) := by decide +kernel
theorem dX8_seats_19 : decode cX8_seats 19 = .ok (.bipush (-2), 2) := by decide +kernel
theorem dX8_seats_21 : decode cX8_seats 21 = .ok (.ireturn, 1) := by decide +kernel
theorem dX8_seats_22 : decode cX8_seats 22 = .ok (.aload_n 0, 1) := by decide +kernel
theorem dX8_seats_23 : decode cX8_seats 23 = .ok (.getfield 51, 3) := by decide +kernel
theorem dX8_seats_26 : decode cX8_seats 26 = .ok (.aload_n 0, 1) := by decide +kernel
theorem dX8_seats_27 : decode cX8_seats 27 = .ok (.getfield 10, 3) := by decide +kernel
theorem dX8_seats_30 : decode cX8_seats 30 = .ok (.iload_n 1, 1) := by decide +kernel
theorem dX8_seats_31 : decode cX8_seats 31 = .ok (.invokevirtual 196, 3) := by decide +kernel
theorem dX8_seats_34 : decode cX8_seats 34 = .ok (.iload_n 2, 1) := by decide +kernel
theorem dX8_seats_35 : decode cX8_seats 35 = .ok (.ifCond .ne 13, 3) := by decide +kernel
theorem dX8_seats_38 : decode cX8_seats 38 = .ok (.aload_n 0, 1) := by decide +kernel
theorem dX8_seats_39 : decode cX8_seats 39 = .ok (.getfield 51, 3) := by decide +kernel
theorem dX8_seats_42 : decode cX8_seats 42 = .ok (.invokevirtual 199, 3) := by decide +kernel
theorem dX8_seats_45 : decode cX8_seats 45 = .ok (.goto 10, 3) := by decide +kernel
theorem dX8_seats_48 : decode cX8_seats 48 = .ok (.aload_n 0, 1) := by decide +kernel
theorem dX8_seats_49 : decode cX8_seats 49 = .ok (.getfield 51, 3) := by decide +kernel
theorem dX8_seats_52 : decode cX8_seats 52 = .ok (.invokevirtual 202, 3) := by decide +kernel
theorem dX8_seats_55 : decode cX8_seats 55 = .ok (.ireturn, 1) := by decide +kernel
theorem dX8_cover_0 : decode cX8_cover 0 = .ok (.iload_n 1, 1) := by decide +kernel
theorem dX8_cover_1 : decode cX8_cover 1 = .ok (.iconst 0, 1) := by decide +kernel
theorem dX8_cover_2 : decode cX8_cover 2 = .ok (.bipush 6, 2) := by decide +kernel
theorem dX8_cover_4 : decode cX8_cover 4 = .ok (.invokestatic 69, 3) := by decide +kernel
theorem dX8_cover_7 : decode cX8_cover 7 = .ok (.ifCond .eq 44, 3) := by decide +kernel
theorem dX8_cover_10 : decode cX8_cover 10 = .ok (.iload_n 2, 1) := by decide +kernel
theorem dX8_cover_11 : decode cX8_cover 11 = .ok (.iconst 0, 1) := by decide +kernel
theorem dX8_cover_12 : decode cX8_cover 12 = .ok (.bipush 6, 2) := by decide +kernel
theorem dX8_cover_14 : decode cX8_cover 14 = .ok (.invokestatic 69, 3) := by decide +kernel
theorem dX8_cover_17 : decode cX8_cover 17 = .ok (.ifCond .eq 34, 3) := by decide +kernel
theorem dX8_cover_20 : decode cX8_cover 20 = .ok (.iload_n 3, 1) := by decide +kernel
theorem dX8_cover_21 : decode cX8_cover 21 = .ok (.iconst 0, 1) := by decide +kernel
theorem dX8_cover_22 : decode cX8_cover 22 = .ok (.ldc 169, 2) := by decide +kernel
theorem dX8_cover_24 : decode cX8_cover 24 = .ok (.invokestatic 69, 3) := by decide +kernel
theorem dX8_cover_27 : decode cX8_cover 27 = .ok (.ifCond .eq 24, 3) := by decide +kernel
theorem dX8_cover_30 : decode cX8_cover 30 = .ok (.iload 4, 2) := by decide +kernel
theorem dX8_cover_32 : decode cX8_cover 32 = .ok (.iconst 0, 1) := by decide +kernel
theorem dX8_cover_33 : decode cX8_cover 33 = .ok (.ldc 169, 2) := by decide +kernel
theorem dX8_cover_35 : decode cX8_cover 35 = .ok (.invokestatic 69, 3) := by decide +kernel
theorem dX8_cover_38 : decode cX8_cover 38 = .ok (.ifCond .eq 13, 3) := by decide +kernel
theorem dX8_cover_41 : decode cX8_cover 41 = .ok (.iload 5, 2) := by decide +kernel
theorem dX8_cover_43 : decode cX8_cover 43 = .ok (.iconst 0, 1) := by decide +kernel
theorem dX8_cover_44 : decode cX8_cover 44 = .ok (.iconst 1, 1) := by decide +kernel
theorem dX8_cover_45 : decode cX8_cover 45 = .ok (.invokestatic 69, 3) := by decide +kernel
theorem dX8_cover_48 : decode cX8_cover 48 = .ok (.ifCond .ne 6, 3) := by decide +kernel
theorem dX8_cover_51 : decode cX8_cover 51 = .ok (.bipush (-2), 2) := by decide +kernel
theorem dX8_cover_53 : decode cX8_cover 53 = .ok (.ireturn, 1) := by decide +kernel
theorem dX8_cover_54 : decode cX8_cover 54 = .ok (.aload_n 0, 1) := by decide +kernel
theorem dX8_cover_55 : decode cX8_cover 55 = .ok (.getfield 58, 3) := by decide +kernel
theorem dX8_cover_58 : decode cX8_cover 58 = .ok (.aload_n 0, 1) := by decide +kernel
theorem dX8_cover_59 : decode cX8_cover 59 = .ok (.getfield 10, 3) := by decide +kernel
theorem dX8_cover_62 : decode cX8_cover 62 = .ok (.iload_n 3, 1) := by decide +kernel
theorem dX8_cover_63 : decode cX8_cover 63 = .ok (.iload 4, 2) := by decide +kernel
theorem dX8_cover_65 : decode cX8_cover 65 = .ok (.invokevirtual 205, 3) := by decide +kernel
theorem dX8_cover_68 : decode cX8_cover 68 = .ok (.iload 5, 2) := by decide +kernel
theorem dX8_cover_70 : decode cX8_cover 70 = .ok (.ifCond .ne 16, 3) := by decide +kernel
theorem dX8_cover_73 : decode cX8_cover 73 = .ok (.aload_n 0, 1) := by decide +kernel
theorem dX8_cover_74 : decode cX8_cover 74 = .ok (.getfield 58, 3) := by decide +kernel
theorem dX8_cover_77 : decode cX8_cover 77 = .ok (.iconst 0, 1) := by decide +kernel
theorem dX8_cover_78 : decode cX8_cover 78 = .ok (.iload_n 1, 1) := by decide +kernel
theorem dX8_cover_79 : decode cX8_cover 79 = .ok (.iload_n 2, 1) := by decide +kernel
theorem dX8_cover_80 : decode cX8_cover 80 = .ok (.invokevirtual 208, 3) := by decide +kernel
theorem dX8_cover_83 : decode cX8_cover 83 = .ok (.goto 12, 3) := by decide +kernel
theorem dX8_cover_86 : decode cX8_cover 86 = .ok (.aload_n 0, 1) := by decide +kernel
theorem dX8_cover_87 : decode cX8_cover 87 = .ok (.getfield 58, 3) := by decide +kernel
theorem dX8_cover_90 : decode cX8_cover 90 = .ok (.iload_n 1, 1) := by decide +kernel
theorem dX8_cover_91 : decode cX8_cover 91 = .ok (.iload_n 2, 1) := by decide +kernel
theorem dX8_cover_92 : decode cX8_cover 92 = .ok (.invokevirtual 211, 3) := by decide +kernel
theorem dX8_cover_95 : decode cX8_cover 95 = .ok (.ireturn, 1) := by decide +kernel
theorem dX8_risk_0 : decode cX8_risk 0 = .ok (.iload_n 1, 1) := by decide +kernel
theorem dX8_risk_1 : decode cX8_risk 1 = .ok (.iconst 0, 1) := by decide +kernel
theorem dX8_risk_2 : decode cX8_risk 2 = .ok (.aload_n 0, 1) := by decide +kernel
theorem dX8_risk_3 : decode cX8_risk 3 = .ok (.getfield 10, 3) := by decide +kernel
theorem dX8_risk_6 : decode cX8_risk 6 = .ok (.getfield 73, 3) := by decide +kernel
theorem dX8_risk_9 : decode cX8_risk 9 = .ok (.invokestatic 69, 3) := by decide +kernel
theorem dX8_risk_12 : decode cX8_risk 12 = .ok (.ifCond .eq 54, 3) := by decide +kernel
theorem dX8_risk_15 : decode cX8_risk 15 = .ok (.iload_n 2, 1) := by decide +kernel
theorem dX8_risk_16 : decode cX8_risk 16 = .ok (.iconst 0, 1) := by decide +kernel
theorem dX8_risk_17 : decode cX8_risk 17 = .ok (.bipush 8, 2) := by decide +kernel
theorem dX8_risk_19 : decode cX8_risk 19 = .ok (.invokestatic 69, 3) := by decide +kernel
theorem dX8_risk_22 : decode cX8_risk 22 = .ok (.ifCond .eq 44, 3) := by decide +kernel
theorem dX8_risk_25 : decode cX8_risk 25 = .ok (.iload_n 3, 1) := by decide +kernel
theorem dX8_risk_26 : decode cX8_risk 26 = .ok (.iconst 1, 1) := by decide +kernel
theorem dX8_risk_27 : decode cX8_risk 27 = .ok (.bipush 9, 2) := by decide +kernel
theorem dX8_risk_29 : decode cX8_risk 29 = .ok (.invokestatic 69, 3) := by decide +kernel
theorem dX8_risk_32 : decode cX8_risk 32 = .ok (.ifCond .eq 34, 3) := by decide +kernel
theorem dX8_risk_35 : decode cX8_risk 35 = .ok (.iload 4, 2) := by decide +kernel
theorem dX8_risk_37 : decode cX8_risk 37 = .ok (.iconst 0, 1) := by decide +kernel
theorem dX8_risk_38 : decode cX8_risk 38 = .ok (.bipush 10, 2) := by decide +kernel
theorem dX8_risk_40 : decode cX8_risk 40 = .ok (.invokestatic 69, 3) := by decide +kernel
theorem dX8_risk_43 : decode cX8_risk 43 = .ok (.ifCond .eq 23, 3) := by decide +kernel
theorem dX8_risk_46 : decode cX8_risk 46 = .ok (.iload 5, 2) := by decide +kernel
theorem dX8_risk_48 : decode cX8_risk 48 = .ok (.iconst 0, 1) := by decide +kernel
theorem dX8_risk_49 : decode cX8_risk 49 = .ok (.iconst 1, 1) := by decide +kernel
theorem dX8_risk_50 : decode cX8_risk 50 = .ok (.invokestatic 69, 3) := by decide +kernel
theorem dX8_risk_53 : decode cX8_risk 53 = .ok (.ifCond .eq 13, 3) := by decide +kernel
theorem dX8_risk_56 : decode cX8_risk 56 = .ok (.iload 6, 2) := by decide +kernel
theorem dX8_risk_58 : decode cX8_risk 58 = .ok (.iconst 0, 1) := by decide +kernel
theorem dX8_risk_59 : decode cX8_risk 59 = .ok (.iconst 1, 1) := by decide +kernel
theorem dX8_risk_60 : decode cX8_risk 60 = .ok (.invokestatic 69, 3) := by decide +kernel
theorem dX8_risk_63 : decode cX8_risk 63 = .ok (.ifCond .ne 7, 3) := by decide +kernel
theorem dX8_risk_66 : decode cX8_risk 66 = .ok (.ldc2_w 214, 3) := by decide +kernel
theorem dX8_risk_69 : decode cX8_risk 69 = .ok (.lreturn, 1) := by decide +kernel
theorem dX8_risk_70 : decode cX8_risk 70 = .ok (.aload_n 0, 1) := by decide +kernel
theorem dX8_risk_71 : decode cX8_risk 71 = .ok (.getfield 65, 3) := by decide +kernel
theorem dX8_risk_74 : decode cX8_risk 74 = .ok (.iload_n 1, 1) := by decide +kernel
theorem dX8_risk_75 : decode cX8_risk 75 = .ok (.aload_n 0, 1) := by decide +kernel
theorem dX8_risk_76 : decode cX8_risk 76 = .ok (.getfield 10, 3) := by decide +kernel
theorem dX8_risk_79 : decode cX8_risk 79 = .ok (.getfield 73, 3) := by decide +kernel
theorem dX8_risk_82 : decode cX8_risk 82 = .ok (.invokevirtual 216, 3) := by decide +kernel
theorem dX8_risk_85 : decode cX8_risk 85 = .ok (.iconst 0, 1) := by decide +kernel
theorem dX8_risk_86 : decode cX8_risk 86 = .ok (.istore 7, 2) := by decide +kernel
theorem dX8_risk_88 : decode cX8_risk 88 = .ok (.iload 7, 2) := by decide +kernel
theorem dX8_risk_90 : decode cX8_risk 90 = .ok (.iload_n 2, 1) := by decide +kernel
theorem dX8_risk_91 : decode cX8_risk 91 = .ok (.if_icmp .ge 30, 3) := by decide +kernel
theorem dX8_risk_94 : decode cX8_risk 94 = .ok (.aload_n 0, 1) := by decide +kernel
theorem dX8_risk_95 : decode cX8_risk 95 = .ok (.getfield 65, 3) := by decide +kernel
theorem dX8_risk_98 : decode cX8_risk 98 = .ok (.iload_n 3, 1) := by decide +kernel
theorem dX8_risk_99 : decode cX8_risk 99 = .ok (.iload 4, 2) := by decide +kernel
theorem dX8_risk_101 : decode cX8_risk 101 = .ok (.iload 5, 2) := by decide +kernel
theorem dX8_risk_103 : decode cX8_risk 103 = .ok (.iconst 1, 1) := by decide +kernel
theorem dX8_risk_104 : decode cX8_risk 104 = .ok (.if_icmp .ne 7, 3) := by decide +kernel
theorem dX8_risk_107 : decode cX8_risk 107 = .ok (.iconst 1, 1) := by decide +kernel
theorem dX8_risk_108 : decode cX8_risk 108 = .ok (.goto 4, 3) := by decide +kernel
theorem dX8_risk_111 : decode cX8_risk 111 = .ok (.iconst 0, 1) := by decide +kernel
theorem dX8_risk_112 : decode cX8_risk 112 = .ok (.invokevirtual 218, 3) := by decide +kernel
theorem dX8_risk_115 : decode cX8_risk 115 = .ok (.iinc 7 1, 3) := by decide +kernel
theorem dX8_risk_118 : decode cX8_risk 118 = .ok (.goto (-30), 3) := by decide +kernel
theorem dX8_risk_121 : decode cX8_risk 121 = .ok (.iload 5, 2) := by decide +kernel
theorem dX8_risk_123 : decode cX8_risk 123 = .ok (.ifCond .ne 13, 3) := by decide +kernel
theorem dX8_risk_126 : decode cX8_risk 126 = .ok (.aload_n 0, 1) := by decide +kernel
theorem dX8_risk_127 : decode cX8_risk 127 = .ok (.getfield 65, 3) := by decide +kernel
theorem dX8_risk_130 : decode cX8_risk 130 = .ok (.invokevirtual 222, 3) := by decide +kernel
theorem dX8_risk_133 : decode cX8_risk 133 = .ok (.goto 10, 3) := by decide +kernel
theorem dX8_risk_136 : decode cX8_risk 136 = .ok (.aload_n 0, 1) := by decide +kernel
theorem dX8_risk_137 : decode cX8_risk 137 = .ok (.getfield 65, 3) := by decide +kernel
theorem dX8_risk_140 : decode cX8_risk 140 = .ok (.getfield 226, 3) := by decide +kernel
theorem dX8_risk_143 : decode cX8_risk 143 = .ok (.lstore 7, 2) := by decide +kernel
theorem dX8_risk_145 : decode cX8_risk 145 = .ok (.iload 6, 2) := by decide +kernel
theorem dX8_risk_147 : decode cX8_risk 147 = .ok (.ifCond .ne 8, 3) := by decide +kernel
theorem dX8_risk_150 : decode cX8_risk 150 = .ok (.lload 7, 2) := by decide +kernel
theorem dX8_risk_152 : decode cX8_risk 152 = .ok (.goto 10, 3) := by decide +kernel
theorem dX8_risk_155 : decode cX8_risk 155 = .ok (.aload_n 0, 1) := by decide +kernel
theorem dX8_risk_156 : decode cX8_risk 156 = .ok (.getfield 65, 3) := by decide +kernel
theorem dX8_risk_159 : decode cX8_risk 159 = .ok (.getfield 229, 3) := by decide +kernel
theorem dX8_risk_162 : decode cX8_risk 162 = .ok (.lload 7, 2) := by decide +kernel
theorem dX8_risk_164 : decode cX8_risk 164 = .ok (.aload_n 0, 1) := by decide +kernel
theorem dX8_risk_165 : decode cX8_risk 165 = .ok (.getfield 65, 3) := by decide +kernel
theorem dX8_risk_168 : decode cX8_risk 168 = .ok (.getfield 229, 3) := by decide +kernel
theorem dX8_risk_171 : decode cX8_risk 171 = .ok (.invokestatic 232, 3) := by decide +kernel
theorem dX8_risk_174 : decode cX8_risk 174 = .ok (.ldiv, 1) := by decide +kernel
theorem dX8_risk_175 : decode cX8_risk 175 = .ok (.lreturn, 1) := by decide +kernel
theorem dX8_commonDivisor_0 : decode cX8_commonDivisor 0 = .ok (.lload_n 0, 1) := by decide +kernel
theorem dX8_commonDivisor_1 : decode cX8_commonDivisor 1 = .ok (.lstore 4, 2) := by decide +kernel
theorem dX8_commonDivisor_3 : decode cX8_commonDivisor 3 = .ok (.lload_n 2, 1) := by decide +kernel
theorem dX8_commonDivisor_4 : decode cX8_commonDivisor 4 = .ok (.lstore 6, 2) := by decide +kernel
theorem dX8_commonDivisor_6 : decode cX8_commonDivisor 6 = .ok (.iconst 0, 1) := by decide +kernel
theorem dX8_commonDivisor_7 : decode cX8_commonDivisor 7 = .ok (.istore 8, 2) := by decide +kernel
theorem dX8_commonDivisor_9 : decode cX8_commonDivisor 9 = .ok (.iload 8, 2) := by decide +kernel
theorem dX8_commonDivisor_11 : decode cX8_commonDivisor 11 = .ok (.sipush 1000, 3) := by decide +kernel
theorem dX8_commonDivisor_14 : decode cX8_commonDivisor 14 = .ok (.if_icmp .ge 31, 3) := by decide +kernel
theorem dX8_commonDivisor_17 : decode cX8_commonDivisor 17 = .ok (.lload 6, 2) := by decide +kernel
theorem dX8_commonDivisor_19 : decode cX8_commonDivisor 19 = .ok (.lconst 0, 1) := by decide +kernel
theorem dX8_commonDivisor_20 : decode cX8_commonDivisor 20 = .ok (.lcmp, 1) := by decide +kernel
theorem dX8_commonDivisor_21 : decode cX8_commonDivisor 21 = .ok (.ifCond .eq 24, 3) := by decide +kernel
theorem dX8_commonDivisor_24 : decode cX8_commonDivisor 24 = .ok (.lload 4, 2) := by decide +kernel
theorem dX8_commonDivisor_26 : decode cX8_commonDivisor 26 = .ok (.lload 6, 2) := by decide +kernel
theorem dX8_commonDivisor_28 : decode cX8_commonDivisor 28 = .ok (.lrem, 1) := by decide +kernel
theorem dX8_commonDivisor_29 : decode cX8_commonDivisor 29 = .ok (.lstore 9, 2) := by decide +kernel
theorem dX8_commonDivisor_31 : decode cX8_commonDivisor 31 = .ok (.lload 6, 2) := by decide +kernel
theorem dX8_commonDivisor_33 : decode cX8_commonDivisor 33 = .ok (.lstore 4, 2) := by decide +kernel
theorem dX8_commonDivisor_35 : decode cX8_commonDivisor 35 = .ok (.lload 9, 2) := by decide +kernel
theorem dX8_commonDivisor_37 : decode cX8_commonDivisor 37 = .ok (.lstore 6, 2) := by decide +kernel
theorem dX8_commonDivisor_39 : decode cX8_commonDivisor 39 = .ok (.iinc 8 1, 3) := by decide +kernel
theorem dX8_commonDivisor_42 : decode cX8_commonDivisor 42 = .ok (.goto (-33), 3) := by decide +kernel
theorem dX8_commonDivisor_45 : decode cX8_commonDivisor 45 = .ok (.lconst 1, 1) := by decide +kernel
theorem dX8_commonDivisor_46 : decode cX8_commonDivisor 46 = .ok (.lload 4, 2) := by decide +kernel
theorem dX8_commonDivisor_48 : decode cX8_commonDivisor 48 = .ok (.invokestatic 236, 3) := by decide +kernel
theorem dX8_commonDivisor_51 : decode cX8_commonDivisor 51 = .ok (.lreturn, 1) := by decide +kernel
theorem dX8_seen_0 : decode cX8_seen 0 = .ok (.aload_n 0, 1) := by decide +kernel
theorem dX8_seen_1 : decode cX8_seen 1 = .ok (.getfield 10, 3) := by decide +kernel
theorem dX8_seen_4 : decode cX8_seen 4 = .ok (.iload_n 1, 1) := by decide +kernel
theorem dX8_seen_5 : decode cX8_seen 5 = .ok (.invokevirtual 85, 3) := by decide +kernel
theorem dX8_seen_8 : decode cX8_seen 8 = .ok (.ifCond .ne 5, 3) := by decide +kernel
theorem dX8_seen_11 : decode cX8_seen 11 = .ok (.iconst (-1), 1) := by decide +kernel
theorem dX8_seen_12 : decode cX8_seen 12 = .ok (.ireturn, 1) := by decide +kernel
theorem dX8_seen_13 : decode cX8_seen 13 = .ok (.aload_n 0, 1) := by decide +kernel
theorem dX8_seen_14 : decode cX8_seen 14 = .ok (.getfield 10, 3) := by decide +kernel
theorem dX8_seen_17 : decode cX8_seen 17 = .ok (.getfield 238, 3) := by decide +kernel
theorem dX8_seen_20 : decode cX8_seen 20 = .ok (.bipush 8, 2) := by decide +kernel
theorem dX8_seen_22 : decode cX8_seen 22 = .ok (.if_icmp .lt 6, 3) := by decide +kernel
theorem dX8_seen_25 : decode cX8_seen 25 = .ok (.bipush (-4), 2) := by decide +kernel
theorem dX8_seen_27 : decode cX8_seen 27 = .ok (.ireturn, 1) := by decide +kernel
theorem dX8_seen_28 : decode cX8_seen 28 = .ok (.aload_n 0, 1) := by decide +kernel
theorem dX8_seen_29 : decode cX8_seen 29 = .ok (.getfield 10, 3) := by decide +kernel
theorem dX8_seen_32 : decode cX8_seen 32 = .ok (.iload_n 1, 1) := by decide +kernel
theorem dX8_seen_33 : decode cX8_seen 33 = .ok (.iload_n 2, 1) := by decide +kernel
theorem dX8_seen_34 : decode cX8_seen 34 = .ok (.invokevirtual 241, 3) := by decide +kernel
theorem dX8_seen_37 : decode cX8_seen 37 = .ok (.aload_n 0, 1) := by decide +kernel
theorem dX8_seen_38 : decode cX8_seen 38 = .ok (.getfield 10, 3) := by decide +kernel
theorem dX8_seen_41 : decode cX8_seen 41 = .ok (.getfield 238, 3) := by decide +kernel
theorem dX8_seen_44 : decode cX8_seen 44 = .ok (.ireturn, 1) := by decide +kernel
theorem dX8_forget_0 : decode cX8_forget 0 = .ok (.aload_n 0, 1) := by decide +kernel
theorem dX8_forget_1 : decode cX8_forget 1 = .ok (.getfield 10, 3) := by decide +kernel
theorem dX8_forget_4 : decode cX8_forget 4 = .ok (.getfield 238, 3) := by decide +kernel
theorem dX8_forget_7 : decode cX8_forget 7 = .ok (.istore_n 1, 1) := by decide +kernel
theorem dX8_forget_8 : decode cX8_forget 8 = .ok (.aload_n 0, 1) := by decide +kernel
theorem dX8_forget_9 : decode cX8_forget 9 = .ok (.getfield 10, 3) := by decide +kernel
theorem dX8_forget_12 : decode cX8_forget 12 = .ok (.iconst 0, 1) := by decide +kernel
theorem dX8_forget_13 : decode cX8_forget 13 = .ok (.putfield 238, 3) := by decide +kernel
theorem dX8_forget_16 : decode cX8_forget 16 = .ok (.iload_n 1, 1) := by decide +kernel
theorem dX8_forget_17 : decode cX8_forget 17 = .ok (.ireturn, 1) := by decide +kernel
theorem dX8_who_0 : decode cX8_who 0 = .ok (.aload_n 0, 1) := by decide +kernel
theorem dX8_who_1 : decode cX8_who 1 = .ok (.getfield 10, 3) := by decide +kernel
theorem dX8_who_4 : decode cX8_who 4 = .ok (.invokevirtual 245, 3) := by decide +kernel
theorem dX8_who_7 : decode cX8_who 7 = .ok (.ireturn, 1) := by decide +kernel
theorem dX8_ask_0 : decode cX8_ask 0 = .ok (.iload_n 1, 1) := by decide +kernel
theorem dX8_ask_1 : decode cX8_ask 1 = .ok (.iconst 0, 1) := by decide +kernel
theorem dX8_ask_2 : decode cX8_ask 2 = .ok (.iconst 1, 1) := by decide +kernel
theorem dX8_ask_3 : decode cX8_ask 3 = .ok (.invokestatic 69, 3) := by decide +kernel
theorem dX8_ask_6 : decode cX8_ask 6 = .ok (.ifCond .ne 6, 3) := by decide +kernel
theorem dX8_ask_9 : decode cX8_ask 9 = .ok (.bipush (-2), 2) := by decide +kernel
theorem dX8_ask_11 : decode cX8_ask 11 = .ok (.ireturn, 1) := by decide +kernel
theorem dX8_ask_12 : decode cX8_ask 12 = .ok (.aload_n 0, 1) := by decide +kernel
theorem dX8_ask_13 : decode cX8_ask 13 = .ok (.getfield 10, 3) := by decide +kernel
theorem dX8_ask_16 : decode cX8_ask 16 = .ok (.invokevirtual 245, 3) := by decide +kernel
theorem dX8_ask_19 : decode cX8_ask 19 = .ok (.istore_n 2, 1) := by decide +kernel
theorem dX8_ask_20 : decode cX8_ask 20 = .ok (.iload_n 2, 1) := by decide +kernel
theorem dX8_ask_21 : decode cX8_ask 21 = .ok (.ifCond .ne 6, 3) := by decide +kernel
theorem dX8_ask_24 : decode cX8_ask 24 = .ok (.bipush (-6), 2) := by decide +kernel
theorem dX8_ask_26 : decode cX8_ask 26 = .ok (.ireturn, 1) := by decide +kernel
theorem dX8_ask_27 : decode cX8_ask 27 = .ok (.bipush (-6), 2) := by decide +kernel
theorem dX8_ask_29 : decode cX8_ask 29 = .ok (.istore_n 3, 1) := by decide +kernel
theorem dX8_ask_30 : decode cX8_ask 30 = .ok (.bipush 7, 2) := by decide +kernel
theorem dX8_ask_32 : decode cX8_ask 32 = .ok (.istore 4, 2) := by decide +kernel
theorem dX8_ask_34 : decode cX8_ask 34 = .ok (.iconst 0, 1) := by decide +kernel
theorem dX8_ask_35 : decode cX8_ask 35 = .ok (.istore 5, 2) := by decide +kernel
theorem dX8_ask_37 : decode cX8_ask 37 = .ok (.iload 5, 2) := by decide +kernel
theorem dX8_ask_39 : decode cX8_ask 39 = .ok (.bipush 6, 2) := by decide +kernel
theorem dX8_ask_41 : decode cX8_ask 41 = .ok (.if_icmp .ge 52, 3) := by decide +kernel
theorem dX8_ask_44 : decode cX8_ask 44 = .ok (.aload_n 0, 1) := by decide +kernel
theorem dX8_ask_45 : decode cX8_ask 45 = .ok (.getfield 10, 3) := by decide +kernel
theorem dX8_ask_48 : decode cX8_ask 48 = .ok (.iload 5, 2) := by decide +kernel
theorem dX8_ask_50 : decode cX8_ask 50 = .ok (.invokevirtual 85, 3) := by decide +kernel
theorem dX8_ask_53 : decode cX8_ask 53 = .ok (.ifCond .eq 16, 3) := by decide +kernel
theorem dX8_ask_56 : decode cX8_ask 56 = .ok (.aload_n 0, 1) := by decide +kernel
theorem dX8_ask_57 : decode cX8_ask 57 = .ok (.getfield 10, 3) := by decide +kernel
theorem dX8_ask_60 : decode cX8_ask 60 = .ok (.iload_n 2, 1) := by decide +kernel
theorem dX8_ask_61 : decode cX8_ask 61 = .ok (.iload 5, 2) := by decide +kernel
theorem dX8_ask_63 : decode cX8_ask 63 = .ok (.invokevirtual 248, 3) := by decide +kernel
theorem dX8_ask_66 : decode cX8_ask 66 = .ok (.goto 5, 3) := by decide +kernel
theorem dX8_ask_69 : decode cX8_ask 69 = .ok (.bipush 7, 2) := by decide +kernel
theorem dX8_ask_71 : decode cX8_ask 71 = .ok (.istore 6, 2) := by decide +kernel
theorem dX8_ask_73 : decode cX8_ask 73 = .ok (.iload 6, 2) := by decide +kernel
theorem dX8_ask_75 : decode cX8_ask 75 = .ok (.iload 4, 2) := by decide +kernel
theorem dX8_ask_77 : decode cX8_ask 77 = .ok (.if_icmp .ge 10, 3) := by decide +kernel
theorem dX8_ask_80 : decode cX8_ask 80 = .ok (.iload 6, 2) := by decide +kernel
theorem dX8_ask_82 : decode cX8_ask 82 = .ok (.istore 4, 2) := by decide +kernel
theorem dX8_ask_84 : decode cX8_ask 84 = .ok (.iload 5, 2) := by decide +kernel
theorem dX8_ask_86 : decode cX8_ask 86 = .ok (.istore_n 3, 1) := by decide +kernel
theorem dX8_ask_87 : decode cX8_ask 87 = .ok (.iinc 5 1, 3) := by decide +kernel
theorem dX8_ask_90 : decode cX8_ask 90 = .ok (.goto (-53), 3) := by decide +kernel
theorem dX8_ask_93 : decode cX8_ask 93 = .ok (.iload_n 1, 1) := by decide +kernel
theorem dX8_ask_94 : decode cX8_ask 94 = .ok (.ifCond .ne 7, 3) := by decide +kernel
theorem dX8_ask_97 : decode cX8_ask 97 = .ok (.iload_n 3, 1) := by decide +kernel
theorem dX8_ask_98 : decode cX8_ask 98 = .ok (.goto 5, 3) := by decide +kernel
theorem dX8_ask_101 : decode cX8_ask 101 = .ok (.iload 4, 2) := by decide +kernel
theorem dX8_ask_103 : decode cX8_ask 103 = .ok (.ireturn, 1) := by decide +kernel
theorem dX8_quarrel_0 : decode cX8_quarrel 0 = .ok (.iload_n 1, 1) := by decide +kernel
theorem dX8_quarrel_1 : decode cX8_quarrel 1 = .ok (.iconst 0, 1) := by decide +kernel
theorem dX8_quarrel_2 : decode cX8_quarrel 2 = .ok (.bipush 99, 2) := by decide +kernel
theorem dX8_quarrel_4 : decode cX8_quarrel 4 = .ok (.invokestatic 69, 3) := by decide +kernel
theorem dX8_quarrel_7 : decode cX8_quarrel 7 = .ok (.ifCond .eq 22, 3) := by decide +kernel
theorem dX8_quarrel_10 : decode cX8_quarrel 10 = .ok (.iload_n 2, 1) := by decide +kernel
theorem dX8_quarrel_11 : decode cX8_quarrel 11 = .ok (.iconst 1, 1) := by decide +kernel
theorem dX8_quarrel_12 : decode cX8_quarrel 12 = .ok (.bipush 9, 2) := by decide +kernel
theorem dX8_quarrel_14 : decode cX8_quarrel 14 = .ok (.invokestatic 69, 3) := by decide +kernel
theorem dX8_quarrel_17 : decode cX8_quarrel 17 = .ok (.ifCond .eq 12, 3) := by decide +kernel
theorem dX8_quarrel_20 : decode cX8_quarrel 20 = .ok (.iload_n 3, 1) := by decide +kernel
theorem dX8_quarrel_21 : decode cX8_quarrel 21 = .ok (.iconst 0, 1) := by decide +kernel
theorem dX8_quarrel_22 : decode cX8_quarrel 22 = .ok (.iconst 1, 1) := by decide +kernel
theorem dX8_quarrel_23 : decode cX8_quarrel 23 = .ok (.invokestatic 69, 3) := by decide +kernel
theorem dX8_quarrel_26 : decode cX8_quarrel 26 = .ok (.ifCond .ne 6, 3) := by decide +kernel
theorem dX8_quarrel_29 : decode cX8_quarrel 29 = .ok (.bipush (-2), 2) := by decide +kernel
theorem dX8_quarrel_31 : decode cX8_quarrel 31 = .ok (.ireturn, 1) := by decide +kernel
theorem dX8_quarrel_32 : decode cX8_quarrel 32 = .ok (.iload_n 1, 1) := by decide +kernel
theorem dX8_quarrel_33 : decode cX8_quarrel 33 = .ok (.iload_n 2, 1) := by decide +kernel
theorem dX8_quarrel_34 : decode cX8_quarrel 34 = .ok (.iconst 1, 1) := by decide +kernel
theorem dX8_quarrel_35 : decode cX8_quarrel 35 = .ok (.iadd, 1) := by decide +kernel
theorem dX8_quarrel_36 : decode cX8_quarrel 36 = .ok (.irem, 1) := by decide +kernel
theorem dX8_quarrel_37 : decode cX8_quarrel 37 = .ok (.istore 4, 2) := by decide +kernel
theorem dX8_quarrel_39 : decode cX8_quarrel 39 = .ok (.iload_n 3, 1) := by decide +kernel
theorem dX8_quarrel_40 : decode cX8_quarrel 40 = .ok (.ifCond .ne 14, 3) := by decide +kernel
theorem dX8_quarrel_43 : decode cX8_quarrel 43 = .ok (.iload 4, 2) := by decide +kernel
theorem dX8_quarrel_45 : decode cX8_quarrel 45 = .ok (.ifCond .ne 7, 3) := by decide +kernel
theorem dX8_quarrel_48 : decode cX8_quarrel 48 = .ok (.iconst 0, 1) := by decide +kernel
theorem dX8_quarrel_49 : decode cX8_quarrel 49 = .ok (.goto 4, 3) := by decide +kernel
theorem dX8_quarrel_52 : decode cX8_quarrel 52 = .ok (.iconst 1, 1) := by decide +kernel
theorem dX8_quarrel_53 : decode cX8_quarrel 53 = .ok (.ireturn, 1) := by decide +kernel
theorem dX8_quarrel_54 : decode cX8_quarrel 54 = .ok (.iload 4, 2) := by decide +kernel
theorem dX8_quarrel_56 : decode cX8_quarrel 56 = .ok (.ifCond .ne 8, 3) := by decide +kernel
theorem dX8_quarrel_59 : decode cX8_quarrel 59 = .ok (.bipush (-6), 2) := by decide +kernel
theorem dX8_quarrel_61 : decode cX8_quarrel 61 = .ok (.goto 5, 3) := by decide +kernel
theorem dX8_quarrel_64 : decode cX8_quarrel 64 = .ok (.iload 4, 2) := by decide +kernel
theorem dX8_quarrel_66 : decode cX8_quarrel 66 = .ok (.ireturn, 1) := by decide +kernel
theorem dX8_year_0 : decode cX8_year 0 = .ok (.iload_n 1, 1) := by decide +kernel
theorem dX8_year_1 : decode cX8_year 1 = .ok (.iconst 0, 1) := by decide +kernel
theorem dX8_year_2 : decode cX8_year 2 = .ok (.sipush 9999, 3) := by decide +kernel
theorem dX8_year_5 : decode cX8_year 5 = .ok (.invokestatic 69, 3) := by decide +kernel
theorem dX8_year_8 : decode cX8_year 8 = .ok (.ifCond .eq 22, 3) := by decide +kernel
theorem dX8_year_11 : decode cX8_year 11 = .ok (.iload_n 2, 1) := by decide +kernel
theorem dX8_year_12 : decode cX8_year 12 = .ok (.iconst 1, 1) := by decide +kernel
theorem dX8_year_13 : decode cX8_year 13 = .ok (.bipush 99, 2) := by decide +kernel
theorem dX8_year_15 : decode cX8_year 15 = .ok (.invokestatic 69, 3) := by decide +kernel
theorem dX8_year_18 : decode cX8_year 18 = .ok (.ifCond .eq 12, 3) := by decide +kernel
theorem dX8_year_21 : decode cX8_year 21 = .ok (.iload_n 3, 1) := by decide +kernel
theorem dX8_year_22 : decode cX8_year 22 = .ok (.iconst 0, 1) := by decide +kernel
theorem dX8_year_23 : decode cX8_year 23 = .ok (.iconst 2, 1) := by decide +kernel
theorem dX8_year_24 : decode cX8_year 24 = .ok (.invokestatic 69, 3) := by decide +kernel
theorem dX8_year_27 : decode cX8_year 27 = .ok (.ifCond .ne 6, 3) := by decide +kernel
theorem dX8_year_30 : decode cX8_year 30 = .ok (.bipush (-2), 2) := by decide +kernel
theorem dX8_year_32 : decode cX8_year 32 = .ok (.ireturn, 1) := by decide +kernel
theorem dX8_year_33 : decode cX8_year 33 = .ok (.aload_n 0, 1) := by decide +kernel
theorem dX8_year_34 : decode cX8_year 34 = .ok (.getfield 26, 3) := by decide +kernel
theorem dX8_year_37 : decode cX8_year 37 = .ok (.aload_n 0, 1) := by decide +kernel
theorem dX8_year_38 : decode cX8_year 38 = .ok (.getfield 10, 3) := by decide +kernel
theorem dX8_year_41 : decode cX8_year 41 = .ok (.invokevirtual 154, 3) := by decide +kernel
theorem dX8_year_44 : decode cX8_year 44 = .ok (.iload_n 1, 1) := by decide +kernel
theorem dX8_year_45 : decode cX8_year 45 = .ok (.istore 4, 2) := by decide +kernel
theorem dX8_year_47 : decode cX8_year 47 = .ok (.iconst 0, 1) := by decide +kernel
theorem dX8_year_48 : decode cX8_year 48 = .ok (.istore 5, 2) := by decide +kernel
theorem dX8_year_50 : decode cX8_year 50 = .ok (.iload 5, 2) := by decide +kernel
theorem dX8_year_52 : decode cX8_year 52 = .ok (.iload_n 2, 1) := by decide +kernel
theorem dX8_year_53 : decode cX8_year 53 = .ok (.if_icmp .ge 31, 3) := by decide +kernel
theorem dX8_year_56 : decode cX8_year 56 = .ok (.bipush 75, 2) := by decide +kernel
theorem dX8_year_58 : decode cX8_year 58 = .ok (.iload 4, 2) := by decide +kernel
theorem dX8_year_60 : decode cX8_year 60 = .ok (.imul, 1) := by decide +kernel
theorem dX8_year_61 : decode cX8_year 61 = .ok (.bipush 74, 2) := by decide +kernel
theorem dX8_year_63 : decode cX8_year 63 = .ok (.iadd, 1) := by decide +kernel
theorem dX8_year_64 : decode cX8_year 64 = .ok (.ldc 251, 2) := by decide +kernel
theorem dX8_year_66 : decode cX8_year 66 = .ok (.irem, 1) := by decide +kernel
theorem dX8_year_67 : decode cX8_year 67 = .ok (.istore 4, 2) := by decide +kernel
theorem dX8_year_69 : decode cX8_year 69 = .ok (.aload_n 0, 1) := by decide +kernel
theorem dX8_year_70 : decode cX8_year 70 = .ok (.getfield 26, 3) := by decide +kernel
theorem dX8_year_73 : decode cX8_year 73 = .ok (.iload 4, 2) := by decide +kernel
theorem dX8_year_75 : decode cX8_year 75 = .ok (.invokevirtual 252, 3) := by decide +kernel
theorem dX8_year_78 : decode cX8_year 78 = .ok (.iinc 5 1, 3) := by decide +kernel
theorem dX8_year_81 : decode cX8_year 81 = .ok (.goto (-31), 3) := by decide +kernel
theorem dX8_year_84 : decode cX8_year 84 = .ok (.iload_n 3, 1) := by decide +kernel
theorem dX8_year_85 : decode cX8_year 85 = .ok (.ifCond .ne 11, 3) := by decide +kernel
theorem dX8_year_88 : decode cX8_year 88 = .ok (.aload_n 0, 1) := by decide +kernel
theorem dX8_year_89 : decode cX8_year 89 = .ok (.getfield 26, 3) := by decide +kernel
theorem dX8_year_92 : decode cX8_year 92 = .ok (.getfield 125, 3) := by decide +kernel
theorem dX8_year_95 : decode cX8_year 95 = .ok (.ireturn, 1) := by decide +kernel
theorem dX8_year_96 : decode cX8_year 96 = .ok (.iload_n 3, 1) := by decide +kernel
theorem dX8_year_97 : decode cX8_year 97 = .ok (.iconst 1, 1) := by decide +kernel
theorem dX8_year_98 : decode cX8_year 98 = .ok (.if_icmp .ne 13, 3) := by decide +kernel
theorem dX8_year_101 : decode cX8_year 101 = .ok (.aload_n 0, 1) := by decide +kernel
theorem dX8_year_102 : decode cX8_year 102 = .ok (.getfield 26, 3) := by decide +kernel
theorem dX8_year_105 : decode cX8_year 105 = .ok (.getfield 144, 3) := by decide +kernel
theorem dX8_year_108 : decode cX8_year 108 = .ok (.goto 13, 3) := by decide +kernel
theorem dX8_year_111 : decode cX8_year 111 = .ok (.aload_n 0, 1) := by decide +kernel
theorem dX8_year_112 : decode cX8_year 112 = .ok (.getfield 26, 3) := by decide +kernel
theorem dX8_year_115 : decode cX8_year 115 = .ok (.getfield 134, 3) := by decide +kernel
theorem dX8_year_118 : decode cX8_year 118 = .ok (.invokevirtual 255, 3) := by decide +kernel
theorem dX8_year_121 : decode cX8_year 121 = .ok (.ireturn, 1) := by decide +kernel
theorem dX8_image_0 : decode cX8_image 0 = .ok (.iload_n 1, 1) := by decide +kernel
theorem dX8_image_1 : decode cX8_image 1 = .ok (.iconst 0, 1) := by decide +kernel
theorem dX8_image_2 : decode cX8_image 2 = .ok (.iconst 1, 1) := by decide +kernel
theorem dX8_image_3 : decode cX8_image 3 = .ok (.invokestatic 69, 3) := by decide +kernel
theorem dX8_image_6 : decode cX8_image 6 = .ok (.ifCond .ne 6, 3) := by decide +kernel
theorem dX8_image_9 : decode cX8_image 9 = .ok (.bipush (-2), 2) := by decide +kernel
theorem dX8_image_11 : decode cX8_image 11 = .ok (.ireturn, 1) := by decide +kernel
theorem dX8_image_12 : decode cX8_image 12 = .ok (.aload_n 0, 1) := by decide +kernel
theorem dX8_image_13 : decode cX8_image 13 = .ok (.getfield 30, 3) := by decide +kernel
theorem dX8_image_16 : decode cX8_image 16 = .ok (.iload_n 1, 1) := by decide +kernel
theorem dX8_image_17 : decode cX8_image 17 = .ok (.aaload, 1) := by decide +kernel
theorem dX8_image_18 : decode cX8_image 18 = .ok (.ifnonnull 16, 3) := by decide +kernel
theorem dX8_image_21 : decode cX8_image 21 = .ok (.aload_n 0, 1) := by decide +kernel
theorem dX8_image_22 : decode cX8_image 22 = .ok (.getfield 30, 3) := by decide +kernel
theorem dX8_image_25 : decode cX8_image 25 = .ok (.iload_n 1, 1) := by decide +kernel
theorem dX8_image_26 : decode cX8_image 26 = .ok (.new 7, 3) := by decide +kernel
theorem dX8_image_29 : decode cX8_image 29 = .ok (.dup, 1) := by decide +kernel
theorem dX8_image_30 : decode cX8_image 30 = .ok (.invokespecial 9, 3) := by decide +kernel
theorem dX8_image_33 : decode cX8_image 33 = .ok (.aastore, 1) := by decide +kernel
theorem dX8_image_34 : decode cX8_image 34 = .ok (.aload_n 0, 1) := by decide +kernel
theorem dX8_image_35 : decode cX8_image 35 = .ok (.getfield 30, 3) := by decide +kernel
theorem dX8_image_38 : decode cX8_image 38 = .ok (.iload_n 1, 1) := by decide +kernel
theorem dX8_image_39 : decode cX8_image 39 = .ok (.aaload, 1) := by decide +kernel
theorem dX8_image_40 : decode cX8_image 40 = .ok (.aload_n 0, 1) := by decide +kernel
theorem dX8_image_41 : decode cX8_image 41 = .ok (.getfield 10, 3) := by decide +kernel
theorem dX8_image_44 : decode cX8_image 44 = .ok (.invokevirtual 147, 3) := by decide +kernel
theorem dX8_image_47 : decode cX8_image 47 = .ok (.iconst 1, 1) := by decide +kernel
theorem dX8_image_48 : decode cX8_image 48 = .ok (.ireturn, 1) := by decide +kernel
theorem dX8_restore_0 : decode cX8_restore 0 = .ok (.iload_n 1, 1) := by decide +kernel
theorem dX8_restore_1 : decode cX8_restore 1 = .ok (.iconst 0, 1) := by decide +kernel
theorem dX8_restore_2 : decode cX8_restore 2 = .ok (.iconst 1, 1) := by decide +kernel
theorem dX8_restore_3 : decode cX8_restore 3 = .ok (.invokestatic 69, 3) := by decide +kernel
theorem dX8_restore_6 : decode cX8_restore 6 = .ok (.ifCond .ne 6, 3) := by decide +kernel
theorem dX8_restore_9 : decode cX8_restore 9 = .ok (.bipush (-2), 2) := by decide +kernel
theorem dX8_restore_11 : decode cX8_restore 11 = .ok (.ireturn, 1) := by decide +kernel
theorem dX8_restore_12 : decode cX8_restore 12 = .ok (.aload_n 0, 1) := by decide +kernel
theorem dX8_restore_13 : decode cX8_restore 13 = .ok (.getfield 30, 3) := by decide +kernel
theorem dX8_restore_16 : decode cX8_restore 16 = .ok (.iload_n 1, 1) := by decide +kernel
theorem dX8_restore_17 : decode cX8_restore 17 = .ok (.aaload, 1) := by decide +kernel
theorem dX8_restore_18 : decode cX8_restore 18 = .ok (.ifnonnull 6, 3) := by decide +kernel
theorem dX8_restore_21 : decode cX8_restore 21 = .ok (.bipush (-3), 2) := by decide +kernel
theorem dX8_restore_23 : decode cX8_restore 23 = .ok (.ireturn, 1) := by decide +kernel
theorem dX8_restore_24 : decode cX8_restore 24 = .ok (.aload_n 0, 1) := by decide +kernel
theorem dX8_restore_25 : decode cX8_restore 25 = .ok (.getfield 10, 3) := by decide +kernel
theorem dX8_restore_28 : decode cX8_restore 28 = .ok (.aload_n 0, 1) := by decide +kernel
theorem dX8_restore_29 : decode cX8_restore 29 = .ok (.getfield 30, 3) := by decide +kernel
theorem dX8_restore_32 : decode cX8_restore 32 = .ok (.iload_n 1, 1) := by decide +kernel
theorem dX8_restore_33 : decode cX8_restore 33 = .ok (.aaload, 1) := by decide +kernel
theorem dX8_restore_34 : decode cX8_restore 34 = .ok (.invokevirtual 147, 3) := by decide +kernel
theorem dX8_restore_37 : decode cX8_restore 37 = .ok (.iconst 1, 1) := by decide +kernel
theorem dX8_restore_38 : decode cX8_restore 38 = .ok (.ireturn, 1) := by decide +kernel
theorem dX8_told_0 : decode cX8_told 0 = .ok (.iload_n 1, 1) := by decide +kernel
theorem dX8_told_1 : decode cX8_told 1 = .ok (.tableswitch 75 0 4 #[35, 43, 51, 59, 67], 35) := by decide +kernel
theorem dX8_told_36 : decode cX8_told 36 = .ok (.aload_n 0, 1) := by decide +kernel
theorem dX8_told_37 : decode cX8_told 37 = .ok (.getfield 19, 3) := by decide +kernel
theorem dX8_told_40 : decode cX8_told 40 = .ok (.getfield 114, 3) := by decide +kernel
theorem dX8_told_43 : decode cX8_told 43 = .ok (.ireturn, 1) := by decide +kernel
theorem dX8_told_44 : decode cX8_told 44 = .ok (.aload_n 0, 1) := by decide +kernel
theorem dX8_told_45 : decode cX8_told 45 = .ok (.getfield 10, 3) := by decide +kernel
theorem dX8_told_48 : decode cX8_told 48 = .ok (.getfield 184, 3) := by decide +kernel
theorem dX8_told_51 : decode cX8_told 51 = .ok (.ireturn, 1) := by decide +kernel
theorem dX8_told_52 : decode cX8_told 52 = .ok (.aload_n 0, 1) := by decide +kernel
theorem dX8_told_53 : decode cX8_told 53 = .ok (.getfield 10, 3) := by decide +kernel
theorem dX8_told_56 : decode cX8_told 56 = .ok (.getfield 73, 3) := by decide +kernel
theorem dX8_told_59 : decode cX8_told 59 = .ok (.ireturn, 1) := by decide +kernel
theorem dX8_told_60 : decode cX8_told 60 = .ok (.aload_n 0, 1) := by decide +kernel
theorem dX8_told_61 : decode cX8_told 61 = .ok (.getfield 10, 3) := by decide +kernel
theorem dX8_told_64 : decode cX8_told 64 = .ok (.getfield 111, 3) := by decide +kernel
theorem dX8_told_67 : decode cX8_told 67 = .ok (.ireturn, 1) := by decide +kernel
theorem dX8_told_68 : decode cX8_told 68 = .ok (.aload_n 0, 1) := by decide +kernel
theorem dX8_told_69 : decode cX8_told 69 = .ok (.getfield 10, 3) := by decide +kernel
theorem dX8_told_72 : decode cX8_told 72 = .ok (.getfield 238, 3) := by decide +kernel
theorem dX8_told_75 : decode cX8_told 75 = .ok (.ireturn, 1) := by decide +kernel
theorem dX8_told_76 : decode cX8_told 76 = .ok (.aload_n 0, 1) := by decide +kernel
theorem dX8_told_77 : decode cX8_told 77 = .ok (.iload_n 1, 1) := by decide +kernel
theorem dX8_told_78 : decode cX8_told 78 = .ok (.invokevirtual 258, 3) := by decide +kernel
theorem dX8_told_81 : decode cX8_told 81 = .ok (.ireturn, 1) := by decide +kernel
theorem dX8_toldOfOne_0 : decode cX8_toldOfOne 0 = .ok (.iload_n 1, 1) := by decide +kernel
theorem dX8_toldOfOne_1 : decode cX8_toldOfOne 1 = .ok (.bipush 10, 2) := by decide +kernel
theorem dX8_toldOfOne_3 : decode cX8_toldOfOne 3 = .ok (.bipush 65, 2) := by decide +kernel
theorem dX8_toldOfOne_5 : decode cX8_toldOfOne 5 = .ok (.invokestatic 69, 3) := by decide +kernel
theorem dX8_toldOfOne_8 : decode cX8_toldOfOne 8 = .ok (.ifCond .ne 6, 3) := by decide +kernel
theorem dX8_toldOfOne_11 : decode cX8_toldOfOne 11 = .ok (.bipush (-2), 2) := by decide +kernel
theorem dX8_toldOfOne_13 : decode cX8_toldOfOne 13 = .ok (.ireturn, 1) := by decide +kernel
theorem dX8_toldOfOne_14 : decode cX8_toldOfOne 14 = .ok (.iload_n 1, 1) := by decide +kernel
theorem dX8_toldOfOne_15 : decode cX8_toldOfOne 15 = .ok (.bipush 10, 2) := by decide +kernel
theorem dX8_toldOfOne_17 : decode cX8_toldOfOne 17 = .ok (.idiv, 1) := by decide +kernel
theorem dX8_toldOfOne_18 : decode cX8_toldOfOne 18 = .ok (.iconst 1, 1) := by decide +kernel
theorem dX8_toldOfOne_19 : decode cX8_toldOfOne 19 = .ok (.isub, 1) := by decide +kernel
theorem dX8_toldOfOne_20 : decode cX8_toldOfOne 20 = .ok (.istore_n 2, 1) := by decide +kernel
theorem dX8_toldOfOne_21 : decode cX8_toldOfOne 21 = .ok (.iload_n 1, 1) := by decide +kernel
theorem dX8_toldOfOne_22 : decode cX8_toldOfOne 22 = .ok (.bipush 10, 2) := by decide +kernel
theorem dX8_toldOfOne_24 : decode cX8_toldOfOne 24 = .ok (.irem, 1) := by decide +kernel
theorem dX8_toldOfOne_25 : decode cX8_toldOfOne 25 = .ok (.istore_n 3, 1) := by decide +kernel
theorem dX8_toldOfOne_26 : decode cX8_toldOfOne 26 = .ok (.aload_n 0, 1) := by decide +kernel
theorem dX8_toldOfOne_27 : decode cX8_toldOfOne 27 = .ok (.getfield 10, 3) := by decide +kernel
theorem dX8_toldOfOne_30 : decode cX8_toldOfOne 30 = .ok (.iload_n 2, 1) := by decide +kernel
theorem dX8_toldOfOne_31 : decode cX8_toldOfOne 31 = .ok (.invokevirtual 85, 3) := by decide +kernel
theorem dX8_toldOfOne_34 : decode cX8_toldOfOne 34 = .ok (.ifCond .eq 21, 3) := by decide +kernel
theorem dX8_toldOfOne_37 : decode cX8_toldOfOne 37 = .ok (.iload_n 3, 1) := by decide +kernel
theorem dX8_toldOfOne_38 : decode cX8_toldOfOne 38 = .ok (.bipush 6, 2) := by decide +kernel
theorem dX8_toldOfOne_40 : decode cX8_toldOfOne 40 = .ok (.if_icmp .ge 15, 3) := by decide +kernel
theorem dX8_toldOfOne_43 : decode cX8_toldOfOne 43 = .ok (.aload_n 0, 1) := by decide +kernel
theorem dX8_toldOfOne_44 : decode cX8_toldOfOne 44 = .ok (.getfield 10, 3) := by decide +kernel
theorem dX8_toldOfOne_47 : decode cX8_toldOfOne 47 = .ok (.iload_n 2, 1) := by decide +kernel
theorem dX8_toldOfOne_48 : decode cX8_toldOfOne 48 = .ok (.iload_n 3, 1) := by decide +kernel
theorem dX8_toldOfOne_49 : decode cX8_toldOfOne 49 = .ok (.invokevirtual 93, 3) := by decide +kernel
theorem dX8_toldOfOne_52 : decode cX8_toldOfOne 52 = .ok (.goto 5, 3) := by decide +kernel
theorem dX8_toldOfOne_55 : decode cX8_toldOfOne 55 = .ok (.bipush (-2), 2) := by decide +kernel
theorem dX8_toldOfOne_57 : decode cX8_toldOfOne 57 = .ok (.ireturn, 1) := by decide +kernel
theorem dX8_within_0 : decode cX8_within 0 = .ok (.iload_n 0, 1) := by decide +kernel
theorem dX8_within_1 : decode cX8_within 1 = .ok (.iload_n 1, 1) := by decide +kernel
theorem dX8_within_2 : decode cX8_within 2 = .ok (.if_icmp .lt 12, 3) := by decide +kernel
theorem dX8_within_5 : decode cX8_within 5 = .ok (.iload_n 0, 1) := by decide +kernel
theorem dX8_within_6 : decode cX8_within 6 = .ok (.iload_n 2, 1) := by decide +kernel
theorem dX8_within_7 : decode cX8_within 7 = .ok (.if_icmp .gt 7, 3) := by decide +kernel
theorem dX8_within_10 : decode cX8_within 10 = .ok (.iconst 1, 1) := by decide +kernel
theorem dX8_within_11 : decode cX8_within 11 = .ok (.goto 4, 3) := by decide +kernel
theorem dX8_within_14 : decode cX8_within 14 = .ok (.iconst 0, 1) := by decide +kernel
theorem dX8_within_15 : decode cX8_within 15 = .ok (.ireturn, 1) := by decide +kernel
theorem dX8_digitOf_0 : decode cX8_digitOf 0 = .ok (.iload_n 0, 1) := by decide +kernel
theorem dX8_digitOf_1 : decode cX8_digitOf 1 = .ok (.istore_n 2, 1) := by decide +kernel
theorem dX8_digitOf_2 : decode cX8_digitOf 2 = .ok (.iload_n 1, 1) := by decide +kernel
theorem dX8_digitOf_3 : decode cX8_digitOf 3 = .ok (.iconst 1, 1) := by decide +kernel
theorem dX8_digitOf_4 : decode cX8_digitOf 4 = .ok (.iadd, 1) := by decide +kernel
theorem dX8_digitOf_5 : decode cX8_digitOf 5 = .ok (.istore_n 3, 1) := by decide +kernel
theorem dX8_digitOf_6 : decode cX8_digitOf 6 = .ok (.iload_n 3, 1) := by decide +kernel
theorem dX8_digitOf_7 : decode cX8_digitOf 7 = .ok (.bipush 6, 2) := by decide +kernel
theorem dX8_digitOf_9 : decode cX8_digitOf 9 = .ok (.if_icmp .ge 14, 3) := by decide +kernel
theorem dX8_digitOf_12 : decode cX8_digitOf 12 = .ok (.iload_n 2, 1) := by decide +kernel
theorem dX8_digitOf_13 : decode cX8_digitOf 13 = .ok (.bipush 10, 2) := by decide +kernel
theorem dX8_digitOf_15 : decode cX8_digitOf 15 = .ok (.idiv, 1) := by decide +kernel
theorem dX8_digitOf_16 : decode cX8_digitOf 16 = .ok (.istore_n 2, 1) := by decide +kernel
theorem dX8_digitOf_17 : decode cX8_digitOf 17 = .ok (.iinc 3 1, 3) := by decide +kernel
theorem dX8_digitOf_20 : decode cX8_digitOf 20 = .ok (.goto (-14), 3) := by decide +kernel
theorem dX8_digitOf_23 : decode cX8_digitOf 23 = .ok (.iload_n 2, 1) := by decide +kernel
theorem dX8_digitOf_24 : decode cX8_digitOf 24 = .ok (.bipush 10, 2) := by decide +kernel
theorem dX8_digitOf_26 : decode cX8_digitOf 26 = .ok (.irem, 1) := by decide +kernel
theorem dX8_digitOf_27 : decode cX8_digitOf 27 = .ok (.ireturn, 1) := by decide +kernel
theorem dX9_init_0 : decode cX9_init 0 = .ok (.aload_n 0, 1) := by decide +kernel
theorem dX9_init_1 : decode cX9_init 1 = .ok (.invokespecial 1, 3) := by decide +kernel
theorem dX9_init_4 : decode cX9_init 4 = .ok (.aload_n 0, 1) := by decide +kernel
theorem dX9_init_5 : decode cX9_init 5 = .ok (.bipush 6, 2) := by decide +kernel
theorem dX9_init_7 : decode cX9_init 7 = .ok (.newarray .int, 2) := by decide +kernel
theorem dX9_init_9 : decode cX9_init 9 = .ok (.putfield 7, 3) := by decide +kernel
theorem dX9_init_12 : decode cX9_init 12 = .ok (.aload_n 0, 1) := by decide +kernel
theorem dX9_init_13 : decode cX9_init 13 = .ok (.bipush 6, 2) := by decide +kernel
theorem dX9_init_15 : decode cX9_init 15 = .ok (.newarray .int, 2) := by decide +kernel
theorem dX9_init_17 : decode cX9_init 17 = .ok (.putfield 13, 3) := by decide +kernel
theorem dX9_init_20 : decode cX9_init 20 = .ok (.aload_n 0, 1) := by decide +kernel
theorem dX9_init_21 : decode cX9_init 21 = .ok (.bipush 6, 2) := by decide +kernel
theorem dX9_init_23 : decode cX9_init 23 = .ok (.newarray .int, 2) := by decide +kernel
theorem dX9_init_25 : decode cX9_init 25 = .ok (.putfield 16, 3) := by decide +kernel
theorem dX9_init_28 : decode cX9_init 28 = .ok (.aload_n 0, 1) := by decide +kernel
theorem dX9_init_29 : decode cX9_init 29 = .ok (.bipush 6, 2) := by decide +kernel
theorem dX9_init_31 : decode cX9_init 31 = .ok (.newarray .int, 2) := by decide +kernel
theorem dX9_init_33 : decode cX9_init 33 = .ok (.putfield 19, 3) := by decide +kernel
theorem dX9_init_36 : decode cX9_init 36 = .ok (.aload_n 0, 1) := by decide +kernel
theorem dX9_init_37 : decode cX9_init 37 = .ok (.bipush 6, 2) := by decide +kernel
theorem dX9_init_39 : decode cX9_init 39 = .ok (.newarray .int, 2) := by decide +kernel
theorem dX9_init_41 : decode cX9_init 41 = .ok (.putfield 22, 3) := by decide +kernel
theorem dX9_init_44 : decode cX9_init 44 = .ok (.aload_n 0, 1) := by decide +kernel
theorem dX9_init_45 : decode cX9_init 45 = .ok (.bipush 6, 2) := by decide +kernel
theorem dX9_init_47 : decode cX9_init 47 = .ok (.newarray .int, 2) := by decide +kernel
theorem dX9_init_49 : decode cX9_init 49 = .ok (.putfield 25, 3) := by decide +kernel
theorem dX9_init_52 : decode cX9_init 52 = .ok (.aload_n 0, 1) := by decide +kernel
theorem dX9_init_53 : decode cX9_init 53 = .ok (.bipush 8, 2) := by decide +kernel
theorem dX9_init_55 : decode cX9_init 55 = .ok (.newarray .int, 2) := by decide +kernel
theorem dX9_init_57 : decode cX9_init 57 = .ok (.putfield 28, 3) := by decide +kernel
theorem dX9_init_60 : decode cX9_init 60 = .ok (.aload_n 0, 1) := by decide +kernel
theorem dX9_init_61 : decode cX9_init 61 = .ok (.bipush 8, 2) := by decide +kernel
theorem dX9_init_63 : decode cX9_init 63 = .ok (.newarray .int, 2) := by decide +kernel
theorem dX9_init_65 : decode cX9_init 65 = .ok (.putfield 31, 3) := by decide +kernel
theorem dX9_init_68 : decode cX9_init 68 = .ok (.aload_n 0, 1) := by decide +kernel
theorem dX9_init_69 : decode cX9_init 69 = .ok (.bipush 60, 2) := by decide +kernel
theorem dX9_init_71 : decode cX9_init 71 = .ok (.newarray .int, 2) := by decide +kernel
theorem dX9_init_73 : decode cX9_init 73 = .ok (.putfield 34, 3) := by decide +kernel
theorem dX9_init_76 : decode cX9_init 76 = .ok (.aload_n 0, 1) := by decide +kernel
theorem dX9_init_77 : decode cX9_init 77 = .ok (.bipush 60, 2) := by decide +kernel
theorem dX9_init_79 : decode cX9_init 79 = .ok (.newarray .int, 2) := by decide +kernel
theorem dX9_init_81 : decode cX9_init 81 = .ok (.putfield 37, 3) := by decide +kernel
theorem dX9_init_84 : decode cX9_init 84 = .ok (.aload_n 0, 1) := by decide +kernel
theorem dX9_init_85 : decode cX9_init 85 = .ok (.bipush 60, 2) := by decide +kernel
theorem dX9_init_87 : decode cX9_init 87 = .ok (.newarray .int, 2) := by decide +kernel
theorem dX9_init_89 : decode cX9_init 89 = .ok (.putfield 40, 3) := by decide +kernel
theorem dX9_init_92 : decode cX9_init 92 = .ok (.aload_n 0, 1) := by decide +kernel
theorem dX9_init_93 : decode cX9_init 93 = .ok (.bipush 60, 2) := by decide +kernel
theorem dX9_init_95 : decode cX9_init 95 = .ok (.newarray .int, 2) := by decide +kernel
theorem dX9_init_97 : decode cX9_init 97 = .ok (.putfield 43, 3) := by decide +kernel
theorem dX9_init_100 : decode cX9_init 100 = .ok (.aload_n 0, 1) := by decide +kernel
theorem dX9_init_101 : decode cX9_init 101 = .ok (.bipush 60, 2) := by decide +kernel
theorem dX9_init_103 : decode cX9_init 103 = .ok (.newarray .int, 2) := by decide +kernel
theorem dX9_init_105 : decode cX9_init 105 = .ok (.putfield 46, 3) := by decide +kernel
theorem dX9_init_108 : decode cX9_init 108 = .ok (.aload_n 0, 1) := by decide +kernel
theorem dX9_init_109 : decode cX9_init 109 = .ok (.bipush 30, 2) := by decide +kernel
theorem dX9_init_111 : decode cX9_init 111 = .ok (.newarray .int, 2) := by decide +kernel
theorem dX9_init_113 : decode cX9_init 113 = .ok (.putfield 49, 3) := by decide +kernel
theorem dX9_init_116 : decode cX9_init 116 = .ok (.aload_n 0, 1) := by decide +kernel
theorem dX9_init_117 : decode cX9_init 117 = .ok (.bipush 30, 2) := by decide +kernel
theorem dX9_init_119 : decode cX9_init 119 = .ok (.newarray .int, 2) := by decide +kernel
theorem dX9_init_121 : decode cX9_init 121 = .ok (.putfield 52, 3) := by decide +kernel
theorem dX9_init_124 : decode cX9_init 124 = .ok (.aload_n 0, 1) := by decide +kernel
theorem dX9_init_125 : decode cX9_init 125 = .ok (.bipush 6, 2) := by decide +kernel
theorem dX9_init_127 : decode cX9_init 127 = .ok (.newarray .int, 2) := by decide +kernel
theorem dX9_init_129 : decode cX9_init 129 = .ok (.putfield 55, 3) := by decide +kernel
theorem dX9_init_132 : decode cX9_init 132 = .ok (.aload_n 0, 1) := by decide +kernel
theorem dX9_init_133 : decode cX9_init 133 = .ok (.sipush 3087, 3) := by decide +kernel
theorem dX9_init_136 : decode cX9_init 136 = .ok (.newarray .int, 2) := by decide +kernel
theorem dX9_init_138 : decode cX9_init 138 = .ok (.putfield 58, 3) := by decide +kernel
theorem dX9_init_141 : decode cX9_init 141 = .ok (.aload_n 0, 1) := by decide +kernel
theorem dX9_init_142 : decode cX9_init 142 = .ok (.sipush 147, 3) := by decide +kernel
theorem dX9_init_145 : decode cX9_init 145 = .ok (.newarray .int, 2) := by decide +kernel
theorem dX9_init_147 : decode cX9_init 147 = .ok (.putfield 61, 3) := by decide +kernel
theorem dX9_init_150 : decode cX9_init 150 = .ok (.aload_n 0, 1) := by decide +kernel
theorem dX9_init_151 : decode cX9_init 151 = .ok (.sipush 384, 3) := by decide +kernel
theorem dX9_init_154 : decode cX9_init 154 = .ok (.newarray .int, 2) := by decide +kernel
theorem dX9_init_156 : decode cX9_init 156 = .ok (.putfield 64, 3) := by decide +kernel
theorem dX9_init_159 : decode cX9_init 159 = .ok (.aload_n 0, 1) := by decide +kernel
theorem dX9_init_160 : decode cX9_init 160 = .ok (.bipush 21, 2) := by decide +kernel
theorem dX9_init_162 : decode cX9_init 162 = .ok (.newarray .long, 2) := by decide +kernel
theorem dX9_init_164 : decode cX9_init 164 = .ok (.putfield 67, 3) := by decide +kernel
theorem dX9_init_167 : decode cX9_init 167 = .ok (.aload_n 0, 1) := by decide +kernel
theorem dX9_init_168 : decode cX9_init 168 = .ok (.bipush 21, 2) := by decide +kernel
theorem dX9_init_170 : decode cX9_init 170 = .ok (.newarray .long, 2) := by decide +kernel
theorem dX9_init_172 : decode cX9_init 172 = .ok (.putfield 71, 3) := by decide +kernel
theorem dX9_init_175 : decode cX9_init 175 = .ok (.aload_n 0, 1) := by decide +kernel
theorem dX9_init_176 : decode cX9_init 176 = .ok (.bipush 120, 2) := by decide +kernel
theorem dX9_init_178 : decode cX9_init 178 = .ok (.newarray .int, 2) := by decide +kernel
theorem dX9_init_180 : decode cX9_init 180 = .ok (.putfield 74, 3) := by decide +kernel
theorem dX9_init_183 : decode cX9_init 183 = .ok (.aload_n 0, 1) := by decide +kernel
theorem dX9_init_184 : decode cX9_init 184 = .ok (.iconst 2, 1) := by decide +kernel
theorem dX9_init_185 : decode cX9_init 185 = .ok (.newarray .boolean, 2) := by decide +kernel
theorem dX9_init_187 : decode cX9_init 187 = .ok (.putfield 77, 3) := by decide +kernel
theorem dX9_init_190 : decode cX9_init 190 = .ok (.aload_n 0, 1) := by decide +kernel
theorem dX9_init_191 : decode cX9_init 191 = .ok (.bipush 9, 2) := by decide +kernel
theorem dX9_init_193 : decode cX9_init 193 = .ok (.putfield 81, 3) := by decide +kernel
theorem dX9_init_196 : decode cX9_init 196 = .ok (.aload_n 0, 1) := by decide +kernel
theorem dX9_init_197 : decode cX9_init 197 = .ok (.iconst 2, 1) := by decide +kernel
theorem dX9_init_198 : decode cX9_init 198 = .ok (.putfield 85, 3) := by decide +kernel
theorem dX9_init_201 : decode cX9_init 201 = .ok (.return_, 1) := by decide +kernel
theorem dX9_in_0 : decode cX9_in 0 = .ok (.lload_n 0, 1) := by decide +kernel
theorem dX9_in_1 : decode cX9_in 1 = .ok (.lload_n 2, 1) := by decide +kernel
theorem dX9_in_2 : decode cX9_in 2 = .ok (.lcmp, 1) := by decide +kernel
theorem dX9_in_3 : decode cX9_in 3 = .ok (.ifCond .lt 14, 3) := by decide +kernel
theorem dX9_in_6 : decode cX9_in 6 = .ok (.lload_n 0, 1) := by decide +kernel
theorem dX9_in_7 : decode cX9_in 7 = .ok (.lload 4, 2) := by decide +kernel
theorem dX9_in_9 : decode cX9_in 9 = .ok (.lcmp, 1) := by decide +kernel
theorem dX9_in_10 : decode cX9_in 10 = .ok (.ifCond .gt 7, 3) := by decide +kernel
theorem dX9_in_13 : decode cX9_in 13 = .ok (.iconst 1, 1) := by decide +kernel
theorem dX9_in_14 : decode cX9_in 14 = .ok (.goto 4, 3) := by decide +kernel
theorem dX9_in_17 : decode cX9_in 17 = .ok (.iconst 0, 1) := by decide +kernel
theorem dX9_in_18 : decode cX9_in 18 = .ok (.ireturn, 1) := by decide +kernel
theorem dX9_ones_0 : decode cX9_ones 0 = .ok (.iconst 0, 1) := by decide +kernel
theorem dX9_ones_1 : decode cX9_ones 1 = .ok (.istore_n 1, 1) := by decide +kernel
theorem dX9_ones_2 : decode cX9_ones 2 = .ok (.iload_n 0, 1) := by decide +kernel
theorem dX9_ones_3 : decode cX9_ones 3 = .ok (.istore_n 2, 1) := by decide +kernel
theorem dX9_ones_4 : decode cX9_ones 4 = .ok (.iload_n 2, 1) := by decide +kernel
theorem dX9_ones_5 : decode cX9_ones 5 = .ok (.ifCond .eq 15, 3) := by decide +kernel
theorem dX9_ones_8 : decode cX9_ones 8 = .ok (.iinc 1 1, 3) := by decide +kernel
theorem dX9_ones_11 : decode cX9_ones 11 = .ok (.iload_n 2, 1) := by decide +kernel
theorem dX9_ones_12 : decode cX9_ones 12 = .ok (.iload_n 2, 1) := by decide +kernel
theorem dX9_ones_13 : decode cX9_ones 13 = .ok (.iconst 1, 1) := by decide +kernel
theorem dX9_ones_14 : decode cX9_ones 14 = .ok (.isub, 1) := by decide +kernel
theorem dX9_ones_15 : decode cX9_ones 15 = .ok (.iand, 1) := by decide +kernel
theorem dX9_ones_16 : decode cX9_ones 16 = .ok (.istore_n 2, 1) := by decide +kernel
theorem dX9_ones_17 : decode cX9_ones 17 = .ok (.goto (-13), 3) := by decide +kernel
theorem dX9_ones_20 : decode cX9_ones 20 = .ok (.iload_n 1, 1) := by decide +kernel
theorem dX9_ones_21 : decode cX9_ones 21 = .ok (.ireturn, 1) := by decide +kernel
theorem dX9_isOne_0 : decode cX9_isOne 0 = .ok (.iload_n 1, 1) := by decide +kernel
theorem dX9_isOne_1 : decode cX9_isOne 1 = .ok (.i2l, 1) := by decide +kernel
theorem dX9_isOne_2 : decode cX9_isOne 2 = .ok (.lconst 0, 1) := by decide +kernel
theorem dX9_isOne_3 : decode cX9_isOne 3 = .ok (.ldc2_w 88, 3) := by decide +kernel
theorem dX9_isOne_6 : decode cX9_isOne 6 = .ok (.invokestatic 90, 3) := by decide +kernel
theorem dX9_isOne_9 : decode cX9_isOne 9 = .ok (.ifCond .eq 19, 3) := by decide +kernel
theorem dX9_isOne_12 : decode cX9_isOne 12 = .ok (.aload_n 0, 1) := by decide +kernel
theorem dX9_isOne_13 : decode cX9_isOne 13 = .ok (.getfield 94, 3) := by decide +kernel
theorem dX9_isOne_16 : decode cX9_isOne 16 = .ok (.iload_n 1, 1) := by decide +kernel
theorem dX9_isOne_17 : decode cX9_isOne 17 = .ok (.ishr, 1) := by decide +kernel
theorem dX9_isOne_18 : decode cX9_isOne 18 = .ok (.iconst 1, 1) := by decide +kernel
theorem dX9_isOne_19 : decode cX9_isOne 19 = .ok (.iand, 1) := by decide +kernel
theorem dX9_isOne_20 : decode cX9_isOne 20 = .ok (.iconst 1, 1) := by decide +kernel
theorem dX9_isOne_21 : decode cX9_isOne 21 = .ok (.if_icmp .ne 7, 3) := by decide +kernel
theorem dX9_isOne_24 : decode cX9_isOne 24 = .ok (.iconst 1, 1) := by decide +kernel
theorem dX9_isOne_25 : decode cX9_isOne 25 = .ok (.goto 4, 3) := by decide +kernel
theorem dX9_isOne_28 : decode cX9_isOne 28 = .ok (.iconst 0, 1) := by decide +kernel
theorem dX9_isOne_29 : decode cX9_isOne 29 = .ok (.ireturn, 1) := by decide +kernel
theorem dX9_one_0 : decode cX9_one 0 = .ok (.iload_n 1, 1) := by decide +kernel
theorem dX9_one_1 : decode cX9_one 1 = .ok (.i2l, 1) := by decide +kernel
theorem dX9_one_2 : decode cX9_one 2 = .ok (.lconst 0, 1) := by decide +kernel
theorem dX9_one_3 : decode cX9_one 3 = .ok (.ldc2_w 88, 3) := by decide +kernel
theorem dX9_one_6 : decode cX9_one 6 = .ok (.invokestatic 90, 3) := by decide +kernel
theorem dX9_one_9 : decode cX9_one 9 = .ok (.ifCond .ne 5, 3) := by decide +kernel
theorem dX9_one_12 : decode cX9_one 12 = .ok (.iconst (-1), 1) := by decide +kernel
theorem dX9_one_13 : decode cX9_one 13 = .ok (.ireturn, 1) := by decide +kernel
theorem dX9_one_14 : decode cX9_one 14 = .ok (.iload_n 2, 1) := by decide +kernel
theorem dX9_one_15 : decode cX9_one 15 = .ok (.i2l, 1) := by decide +kernel
theorem dX9_one_16 : decode cX9_one 16 = .ok (.lconst 0, 1) := by decide +kernel
theorem dX9_one_17 : decode cX9_one 17 = .ok (.aload_n 0, 1) := by decide +kernel
theorem dX9_one_18 : decode cX9_one 18 = .ok (.getfield 81, 3) := by decide +kernel
theorem dX9_one_21 : decode cX9_one 21 = .ok (.i2l, 1) := by decide +kernel
theorem dX9_one_22 : decode cX9_one 22 = .ok (.invokestatic 90, 3) := by decide +kernel
theorem dX9_one_25 : decode cX9_one 25 = .ok (.ifCond .eq 41, 3) := by decide +kernel
theorem dX9_one_28 : decode cX9_one 28 = .ok (.iload_n 3, 1) := by decide +kernel
theorem dX9_one_29 : decode cX9_one 29 = .ok (.i2l, 1) := by decide +kernel
theorem dX9_one_30 : decode cX9_one 30 = .ok (.lconst 0, 1) := by decide +kernel
theorem dX9_one_31 : decode cX9_one 31 = .ok (.ldc2_w 97, 3) := by decide +kernel
theorem dX9_one_34 : decode cX9_one 34 = .ok (.invokestatic 90, 3) := by decide +kernel
theorem dX9_one_37 : decode cX9_one 37 = .ok (.ifCond .eq 29, 3) := by decide +kernel
theorem dX9_one_40 : decode cX9_one 40 = .ok (.iload 4, 2) := by decide +kernel
theorem dX9_one_42 : decode cX9_one 42 = .ok (.i2l, 1) := by decide +kernel
theorem dX9_one_43 : decode cX9_one 43 = .ok (.lconst 0, 1) := by decide +kernel
theorem dX9_one_44 : decode cX9_one 44 = .ok (.ldc2_w 99, 3) := by decide +kernel
theorem dX9_one_47 : decode cX9_one 47 = .ok (.invokestatic 90, 3) := by decide +kernel
theorem dX9_one_50 : decode cX9_one 50 = .ok (.ifCond .eq 16, 3) := by decide +kernel
theorem dX9_one_53 : decode cX9_one 53 = .ok (.iload 5, 2) := by decide +kernel
theorem dX9_one_55 : decode cX9_one 55 = .ok (.i2l, 1) := by decide +kernel
theorem dX9_one_56 : decode cX9_one 56 = .ok (.lconst 0, 1) := by decide +kernel
theorem dX9_one_57 : decode cX9_one 57 = .ok (.ldc2_w 101, 3) := by decide +kernel
theorem dX9_one_60 : decode cX9_one 60 = .ok (.invokestatic 90, 3) := by decide +kernel
theorem dX9_one_63 : decode cX9_one 63 = .ok (.ifCond .ne 6, 3) := by decide +kernel
theorem dX9_one_66 : decode cX9_one 66 = .ok (.bipush (-2), 2) := by decide +kernel
theorem dX9_one_68 : decode cX9_one 68 = .ok (.ireturn, 1) := by decide +kernel
theorem dX9_one_69 : decode cX9_one 69 = .ok (.aload_n 0, 1) := by decide +kernel
theorem dX9_one_70 : decode cX9_one 70 = .ok (.dup, 1) := by decide +kernel
theorem dX9_one_71 : decode cX9_one 71 = .ok (.getfield 94, 3) := by decide +kernel
theorem dX9_one_74 : decode cX9_one 74 = .ok (.iconst 1, 1) := by decide +kernel
theorem dX9_one_75 : decode cX9_one 75 = .ok (.iload_n 1, 1) := by decide +kernel
theorem dX9_one_76 : decode cX9_one 76 = .ok (.ishl, 1) := by decide +kernel
theorem dX9_one_77 : decode cX9_one 77 = .ok (.ior, 1) := by decide +kernel
theorem dX9_one_78 : decode cX9_one 78 = .ok (.putfield 94, 3) := by decide +kernel
theorem dX9_one_81 : decode cX9_one 81 = .ok (.aload_n 0, 1) := by decide +kernel
theorem dX9_one_82 : decode cX9_one 82 = .ok (.getfield 7, 3) := by decide +kernel
theorem dX9_one_85 : decode cX9_one 85 = .ok (.iload_n 1, 1) := by decide +kernel
theorem dX9_one_86 : decode cX9_one 86 = .ok (.iload_n 2, 1) := by decide +kernel
theorem dX9_one_87 : decode cX9_one 87 = .ok (.iastore, 1) := by decide +kernel
theorem dX9_one_88 : decode cX9_one 88 = .ok (.aload_n 0, 1) := by decide +kernel
theorem dX9_one_89 : decode cX9_one 89 = .ok (.getfield 13, 3) := by decide +kernel
theorem dX9_one_92 : decode cX9_one 92 = .ok (.iload_n 1, 1) := by decide +kernel
theorem dX9_one_93 : decode cX9_one 93 = .ok (.iconst 0, 1) := by decide +kernel
theorem dX9_one_94 : decode cX9_one 94 = .ok (.iastore, 1) := by decide +kernel
theorem dX9_one_95 : decode cX9_one 95 = .ok (.aload_n 0, 1) := by decide +kernel
theorem dX9_one_96 : decode cX9_one 96 = .ok (.getfield 16, 3) := by decide +kernel
theorem dX9_one_99 : decode cX9_one 99 = .ok (.iload_n 1, 1) := by decide +kernel
theorem dX9_one_100 : decode cX9_one 100 = .ok (.iload_n 3, 1) := by decide +kernel
theorem dX9_one_101 : decode cX9_one 101 = .ok (.iastore, 1) := by decide +kernel
theorem dX9_one_102 : decode cX9_one 102 = .ok (.aload_n 0, 1) := by decide +kernel
theorem dX9_one_103 : decode cX9_one 103 = .ok (.getfield 19, 3) := by decide +kernel
theorem dX9_one_106 : decode cX9_one 106 = .ok (.iload_n 1, 1) := by decide +kernel
theorem dX9_one_107 : decode cX9_one 107 = .ok (.iload 4, 2) := by decide +kernel
theorem dX9_one_109 : decode cX9_one 109 = .ok (.iastore, 1) := by decide +kernel
theorem dX9_one_110 : decode cX9_one 110 = .ok (.aload_n 0, 1) := by decide +kernel
theorem dX9_one_111 : decode cX9_one 111 = .ok (.getfield 22, 3) := by decide +kernel
theorem dX9_one_114 : decode cX9_one 114 = .ok (.iload_n 1, 1) := by decide +kernel
theorem dX9_one_115 : decode cX9_one 115 = .ok (.iload 5, 2) := by decide +kernel
theorem dX9_one_117 : decode cX9_one 117 = .ok (.iastore, 1) := by decide +kernel
theorem dX9_one_118 : decode cX9_one 118 = .ok (.aload_n 0, 1) := by decide +kernel
theorem dX9_one_119 : decode cX9_one 119 = .ok (.getfield 25, 3) := by decide +kernel
theorem dX9_one_122 : decode cX9_one 122 = .ok (.iload_n 1, 1) := by decide +kernel
theorem dX9_one_123 : decode cX9_one 123 = .ok (.bipush (-6), 2) := by decide +kernel
theorem dX9_one_125 : decode cX9_one 125 = .ok (.iastore, 1) := by decide +kernel
theorem dX9_one_126 : decode cX9_one 126 = .ok (.aload_n 0, 1) := by decide +kernel
theorem dX9_one_127 : decode cX9_one 127 = .ok (.getfield 94, 3) := by decide +kernel
theorem dX9_one_130 : decode cX9_one 130 = .ok (.invokestatic 103, 3) := by decide +kernel
theorem dX9_one_133 : decode cX9_one 133 = .ok (.ireturn, 1) := by decide +kernel
theorem dX9_leave_0 : decode cX9_leave 0 = .ok (.aload_n 0, 1) := by decide +kernel
theorem dX9_leave_1 : decode cX9_leave 1 = .ok (.iload_n 1, 1) := by decide +kernel
theorem dX9_leave_2 : decode cX9_leave 2 = .ok (.invokevirtual 107, 3) := by decide +kernel
theorem dX9_leave_5 : decode cX9_leave 5 = .ok (.ifCond .ne 5, 3) := by decide +kernel
theorem dX9_leave_8 : decode cX9_leave 8 = .ok (.iconst (-1), 1) := by decide +kernel
theorem dX9_leave_9 : decode cX9_leave 9 = .ok (.ireturn, 1) := by decide +kernel
theorem dX9_leave_10 : decode cX9_leave 10 = .ok (.aload_n 0, 1) := by decide +kernel
theorem dX9_leave_11 : decode cX9_leave 11 = .ok (.dup, 1) := by decide +kernel
theorem dX9_leave_12 : decode cX9_leave 12 = .ok (.getfield 94, 3) := by decide +kernel
theorem dX9_leave_15 : decode cX9_leave 15 = .ok (.iconst 1, 1) := by decide +kernel
theorem dX9_leave_16 : decode cX9_leave 16 = .ok (.iload_n 1, 1) := by decide +kernel
theorem dX9_leave_17 : decode cX9_leave 17 = .ok (.ishl, 1) := by decide +kernel
theorem dX9_leave_18 : decode cX9_leave 18 = .ok (.iconst (-1), 1) := by decide +kernel
theorem dX9_leave_19 : decode cX9_leave 19 = .ok (.ixor, 1) := by decide +kernel
theorem dX9_leave_20 : decode cX9_leave 20 = .ok (.iand, 1) := by decide +kernel
theorem dX9_leave_21 : decode cX9_leave 21 = .ok (.putfield 94, 3) := by decide +kernel
theorem dX9_leave_24 : decode cX9_leave 24 = .ok (.aload_n 0, 1) := by decide +kernel
theorem dX9_leave_25 : decode cX9_leave 25 = .ok (.getfield 94, 3) := by decide +kernel
theorem dX9_leave_28 : decode cX9_leave 28 = .ok (.invokestatic 103, 3) := by decide +kernel
theorem dX9_leave_31 : decode cX9_leave 31 = .ok (.ireturn, 1) := by decide +kernel
theorem dX9_permit_0 : decode cX9_permit 0 = .ok (.aload_n 0, 1) := by decide +kernel
theorem dX9_permit_1 : decode cX9_permit 1 = .ok (.iload_n 1, 1) := by decide +kernel
theorem dX9_permit_2 : decode cX9_permit 2 = .ok (.invokevirtual 107, 3) := by decide +kernel
theorem dX9_permit_5 : decode cX9_permit 5 = .ok (.ifCond .ne 5, 3) := by decide +kernel
theorem dX9_permit_8 : decode cX9_permit 8 = .ok (.iconst (-1), 1) := by decide +kernel
theorem dX9_permit_9 : decode cX9_permit 9 = .ok (.ireturn, 1) := by decide +kernel
theorem dX9_permit_10 : decode cX9_permit 10 = .ok (.iload_n 2, 1) := by decide +kernel
theorem dX9_permit_11 : decode cX9_permit 11 = .ok (.i2l, 1) := by decide +kernel
theorem dX9_permit_12 : decode cX9_permit 12 = .ok (.lconst 0, 1) := by decide +kernel
theorem dX9_permit_13 : decode cX9_permit 13 = .ok (.ldc2_w 111, 3) := by decide +kernel
theorem dX9_permit_16 : decode cX9_permit 16 = .ok (.invokestatic 90, 3) := by decide +kernel
theorem dX9_permit_19 : decode cX9_permit 19 = .ok (.ifCond .ne 6, 3) := by decide +kernel
theorem dX9_permit_22 : decode cX9_permit 22 = .ok (.bipush (-2), 2) := by decide +kernel
theorem dX9_permit_24 : decode cX9_permit 24 = .ok (.ireturn, 1) := by decide +kernel
theorem dX9_permit_25 : decode cX9_permit 25 = .ok (.aload_n 0, 1) := by decide +kernel
theorem dX9_permit_26 : decode cX9_permit 26 = .ok (.getfield 13, 3) := by decide +kernel
theorem dX9_permit_29 : decode cX9_permit 29 = .ok (.iload_n 1, 1) := by decide +kernel
theorem dX9_permit_30 : decode cX9_permit 30 = .ok (.iaload, 1) := by decide +kernel
theorem dX9_permit_31 : decode cX9_permit 31 = .ok (.istore_n 3, 1) := by decide +kernel
theorem dX9_permit_32 : decode cX9_permit 32 = .ok (.aload_n 0, 1) := by decide +kernel
theorem dX9_permit_33 : decode cX9_permit 33 = .ok (.getfield 13, 3) := by decide +kernel
theorem dX9_permit_36 : decode cX9_permit 36 = .ok (.iload_n 1, 1) := by decide +kernel
theorem dX9_permit_37 : decode cX9_permit 37 = .ok (.iload_n 2, 1) := by decide +kernel
theorem dX9_permit_38 : decode cX9_permit 38 = .ok (.iastore, 1) := by decide +kernel
theorem dX9_permit_39 : decode cX9_permit 39 = .ok (.iload_n 3, 1) := by decide +kernel
theorem dX9_permit_40 : decode cX9_permit 40 = .ok (.ireturn, 1) := by decide +kernel
theorem dX9_highest_0 : decode cX9_highest 0 = .ok (.iconst 0, 1) := by decide +kernel
theorem dX9_highest_1 : decode cX9_highest 1 = .ok (.istore_n 1, 1) := by decide +kernel
theorem dX9_highest_2 : decode cX9_highest 2 = .ok (.iconst 0, 1) := by decide +kernel
theorem dX9_highest_3 : decode cX9_highest 3 = .ok (.istore_n 2, 1) := by decide +kernel
theorem dX9_highest_4 : decode cX9_highest 4 = .ok (.iload_n 2, 1) := by decide +kernel
theorem dX9_highest_5 : decode cX9_highest 5 = .ok (.bipush 6, 2) := by decide +kernel
theorem dX9_highest_7 : decode cX9_highest 7 = .ok (.if_icmp .ge 38, 3) := by decide +kernel
theorem dX9_highest_10 : decode cX9_highest 10 = .ok (.aload_n 0, 1) := by decide +kernel
theorem dX9_highest_11 : decode cX9_highest 11 = .ok (.iload_n 2, 1) := by decide +kernel
theorem dX9_highest_12 : decode cX9_highest 12 = .ok (.invokevirtual 107, 3) := by decide +kernel
theorem dX9_highest_15 : decode cX9_highest 15 = .ok (.ifCond .eq 22, 3) := by decide +kernel
theorem dX9_highest_18 : decode cX9_highest 18 = .ok (.aload_n 0, 1) := by decide +kernel
theorem dX9_highest_19 : decode cX9_highest 19 = .ok (.getfield 7, 3) := by decide +kernel
theorem dX9_highest_22 : decode cX9_highest 22 = .ok (.iload_n 2, 1) := by decide +kernel
theorem dX9_highest_23 : decode cX9_highest 23 = .ok (.iaload, 1) := by decide +kernel
theorem dX9_highest_24 : decode cX9_highest 24 = .ok (.iload_n 1, 1) := by decide +kernel
theorem dX9_highest_25 : decode cX9_highest 25 = .ok (.if_icmp .le 12, 3) := by decide +kernel
theorem dX9_highest_28 : decode cX9_highest 28 = .ok (.aload_n 0, 1) := by decide +kernel
theorem dX9_highest_29 : decode cX9_highest 29 = .ok (.getfield 7, 3) := by decide +kernel
theorem dX9_highest_32 : decode cX9_highest 32 = .ok (.iload_n 2, 1) := by decide +kernel
theorem dX9_highest_33 : decode cX9_highest 33 = .ok (.iaload, 1) := by decide +kernel
theorem dX9_highest_34 : decode cX9_highest 34 = .ok (.goto 4, 3) := by decide +kernel
theorem dX9_highest_37 : decode cX9_highest 37 = .ok (.iload_n 1, 1) := by decide +kernel
theorem dX9_highest_38 : decode cX9_highest 38 = .ok (.istore_n 1, 1) := by decide +kernel
theorem dX9_highest_39 : decode cX9_highest 39 = .ok (.iinc 2 1, 3) := by decide +kernel
theorem dX9_highest_42 : decode cX9_highest 42 = .ok (.goto (-38), 3) := by decide +kernel
theorem dX9_highest_45 : decode cX9_highest 45 = .ok (.iload_n 1, 1) := by decide +kernel
theorem dX9_highest_46 : decode cX9_highest 46 = .ok (.ireturn, 1) := by decide +kernel
theorem dX9_set_0 : decode cX9_set 0 = .ok (.iload_n 1, 1) := by decide +kernel
theorem dX9_set_1 : decode cX9_set 1 = .ok (.i2l, 1) := by decide +kernel
theorem dX9_set_2 : decode cX9_set 2 = .ok (.lconst 0, 1) := by decide +kernel
theorem dX9_set_3 : decode cX9_set 3 = .ok (.lconst 1, 1) := by decide +kernel
theorem dX9_set_4 : decode cX9_set 4 = .ok (.invokestatic 90, 3) := by decide +kernel
theorem dX9_set_7 : decode cX9_set 7 = .ok (.ifCond .eq 33, 3) := by decide +kernel
theorem dX9_set_10 : decode cX9_set 10 = .ok (.iload_n 2, 1) := by decide +kernel
theorem dX9_set_11 : decode cX9_set 11 = .ok (.i2l, 1) := by decide +kernel
theorem dX9_set_12 : decode cX9_set 12 = .ok (.iload_n 1, 1) := by decide +kernel
theorem dX9_set_13 : decode cX9_set 13 = .ok (.ifCond .ne 7, 3) := by decide +kernel
theorem dX9_set_16 : decode cX9_set 16 = .ok (.lconst 1, 1) := by decide +kernel
theorem dX9_set_17 : decode cX9_set 17 = .ok (.goto 4, 3) := by decide +kernel
theorem dX9_set_20 : decode cX9_set 20 = .ok (.lconst 0, 1) := by decide +kernel
theorem dX9_set_21 : decode cX9_set 21 = .ok (.iload_n 1, 1) := by decide +kernel
theorem dX9_set_22 : decode cX9_set 22 = .ok (.ifCond .ne 9, 3) := by decide +kernel
theorem dX9_set_25 : decode cX9_set 25 = .ok (.ldc2_w 113, 3) := by decide +kernel
theorem dX9_set_28 : decode cX9_set 28 = .ok (.goto 6, 3) := by decide +kernel
theorem dX9_set_31 : decode cX9_set 31 = .ok (.ldc2_w 101, 3) := by decide +kernel
theorem dX9_set_34 : decode cX9_set 34 = .ok (.invokestatic 90, 3) := by decide +kernel
theorem dX9_set_37 : decode cX9_set 37 = .ok (.ifCond .ne 6, 3) := by decide +kernel
theorem dX9_set_40 : decode cX9_set 40 = .ok (.bipush (-2), 2) := by decide +kernel
theorem dX9_set_42 : decode cX9_set 42 = .ok (.ireturn, 1) := by decide +kernel
theorem dX9_set_43 : decode cX9_set 43 = .ok (.iload_n 1, 1) := by decide +kernel
theorem dX9_set_44 : decode cX9_set 44 = .ok (.ifCond .ne 14, 3) := by decide +kernel
theorem dX9_set_47 : decode cX9_set 47 = .ok (.aload_n 0, 1) := by decide +kernel
theorem dX9_set_48 : decode cX9_set 48 = .ok (.invokevirtual 115, 3) := by decide +kernel
theorem dX9_set_51 : decode cX9_set 51 = .ok (.iload_n 2, 1) := by decide +kernel
theorem dX9_set_52 : decode cX9_set 52 = .ok (.if_icmp .le 6, 3) := by decide +kernel
theorem dX9_set_55 : decode cX9_set 55 = .ok (.bipush (-3), 2) := by decide +kernel
theorem dX9_set_57 : decode cX9_set 57 = .ok (.ireturn, 1) := by decide +kernel
theorem dX9_set_58 : decode cX9_set 58 = .ok (.iload_n 1, 1) := by decide +kernel
theorem dX9_set_59 : decode cX9_set 59 = .ok (.ifCond .ne 10, 3) := by decide +kernel
theorem dX9_set_62 : decode cX9_set 62 = .ok (.aload_n 0, 1) := by decide +kernel
theorem dX9_set_63 : decode cX9_set 63 = .ok (.getfield 81, 3) := by decide +kernel
theorem dX9_set_66 : decode cX9_set 66 = .ok (.goto 7, 3) := by decide +kernel
theorem dX9_set_69 : decode cX9_set 69 = .ok (.aload_n 0, 1) := by decide +kernel
theorem dX9_set_70 : decode cX9_set 70 = .ok (.getfield 85, 3) := by decide +kernel
theorem dX9_set_73 : decode cX9_set 73 = .ok (.istore_n 3, 1) := by decide +kernel
theorem dX9_set_74 : decode cX9_set 74 = .ok (.aload_n 0, 1) := by decide +kernel
theorem dX9_set_75 : decode cX9_set 75 = .ok (.iload_n 1, 1) := by decide +kernel
theorem dX9_set_76 : decode cX9_set 76 = .ok (.ifCond .ne 7, 3) := by decide +kernel
theorem dX9_set_79 : decode cX9_set 79 = .ok (.iload_n 2, 1) := by decide +kernel
theorem dX9_set_80 : decode cX9_set 80 = .ok (.goto 7, 3) := by decide +kernel
theorem dX9_set_83 : decode cX9_set 83 = .ok (.aload_n 0, 1) := by decide +kernel
theorem dX9_set_84 : decode cX9_set 84 = .ok (.getfield 81, 3) := by decide +kernel
theorem dX9_set_87 : decode cX9_set 87 = .ok (.putfield 81, 3) := by decide +kernel
theorem dX9_set_90 : decode cX9_set 90 = .ok (.aload_n 0, 1) := by decide +kernel
theorem dX9_set_91 : decode cX9_set 91 = .ok (.iload_n 1, 1) := by decide +kernel
theorem dX9_set_92 : decode cX9_set 92 = .ok (.iconst 1, 1) := by decide +kernel
theorem dX9_set_93 : decode cX9_set 93 = .ok (.if_icmp .ne 7, 3) := by decide +kernel
theorem dX9_set_96 : decode cX9_set 96 = .ok (.iload_n 2, 1) := by decide +kernel
theorem dX9_set_97 : decode cX9_set 97 = .ok (.goto 7, 3) := by decide +kernel
theorem dX9_set_100 : decode cX9_set 100 = .ok (.aload_n 0, 1) := by decide +kernel
theorem dX9_set_101 : decode cX9_set 101 = .ok (.getfield 85, 3) := by decide +kernel
theorem dX9_set_104 : decode cX9_set 104 = .ok (.putfield 85, 3) := by decide +kernel
theorem dX9_set_107 : decode cX9_set 107 = .ok (.iload_n 3, 1) := by decide +kernel
theorem dX9_set_108 : decode cX9_set 108 = .ok (.ireturn, 1) := by decide +kernel
theorem dX9_say_0 : decode cX9_say 0 = .ok (.iload_n 1, 1) := by decide +kernel
theorem dX9_say_1 : decode cX9_say 1 = .ok (.i2l, 1) := by decide +kernel
theorem dX9_say_2 : decode cX9_say 2 = .ok (.ldc2_w 119, 3) := by decide +kernel
theorem dX9_say_5 : decode cX9_say 5 = .ok (.ldc2_w 121, 3) := by decide +kernel
theorem dX9_say_8 : decode cX9_say 8 = .ok (.invokestatic 90, 3) := by decide +kernel
theorem dX9_say_11 : decode cX9_say 11 = .ok (.ifCond .ne 6, 3) := by decide +kernel
theorem dX9_say_14 : decode cX9_say 14 = .ok (.bipush (-2), 2) := by decide +kernel
theorem dX9_say_16 : decode cX9_say 16 = .ok (.ireturn, 1) := by decide +kernel
theorem dX9_say_17 : decode cX9_say 17 = .ok (.aload_n 0, 1) := by decide +kernel
theorem dX9_say_18 : decode cX9_say 18 = .ok (.getfield 123, 3) := by decide +kernel
theorem dX9_say_21 : decode cX9_say 21 = .ok (.bipush 60, 2) := by decide +kernel
theorem dX9_say_23 : decode cX9_say 23 = .ok (.if_icmp .ne 6, 3) := by decide +kernel
theorem dX9_say_26 : decode cX9_say 26 = .ok (.bipush (-4), 2) := by decide +kernel
theorem dX9_say_28 : decode cX9_say 28 = .ok (.ireturn, 1) := by decide +kernel
theorem dX9_say_29 : decode cX9_say 29 = .ok (.aload_n 0, 1) := by decide +kernel
theorem dX9_say_30 : decode cX9_say 30 = .ok (.getfield 34, 3) := by decide +kernel
theorem dX9_say_33 : decode cX9_say 33 = .ok (.aload_n 0, 1) := by decide +kernel
theorem dX9_say_34 : decode cX9_say 34 = .ok (.getfield 123, 3) := by decide +kernel
theorem dX9_say_37 : decode cX9_say 37 = .ok (.iload_n 1, 1) := by decide +kernel
theorem dX9_say_38 : decode cX9_say 38 = .ok (.iastore, 1) := by decide +kernel
theorem dX9_say_39 : decode cX9_say 39 = .ok (.aload_n 0, 1) := by decide +kernel
theorem dX9_say_40 : decode cX9_say 40 = .ok (.dup, 1) := by decide +kernel
theorem dX9_say_41 : decode cX9_say 41 = .ok (.getfield 123, 3) := by decide +kernel
theorem dX9_say_44 : decode cX9_say 44 = .ok (.iconst 1, 1) := by decide +kernel
theorem dX9_say_45 : decode cX9_say 45 = .ok (.iadd, 1) := by decide +kernel
theorem dX9_say_46 : decode cX9_say 46 = .ok (.putfield 123, 3) := by decide +kernel
theorem dX9_say_49 : decode cX9_say 49 = .ok (.aload_n 0, 1) := by decide +kernel
theorem dX9_say_50 : decode cX9_say 50 = .ok (.getfield 123, 3) := by decide +kernel
theorem dX9_say_53 : decode cX9_say 53 = .ok (.ireturn, 1) := by decide +kernel
theorem dX9_wipe_0 : decode cX9_wipe 0 = .ok (.aload_n 0, 1) := by decide +kernel
theorem dX9_wipe_1 : decode cX9_wipe 1 = .ok (.getfield 123, 3) := by decide +kernel
theorem dX9_wipe_4 : decode cX9_wipe 4 = .ok (.istore_n 1, 1) := by decide +kernel
theorem dX9_wipe_5 : decode cX9_wipe 5 = .ok (.aload_n 0, 1) := by decide +kernel
theorem dX9_wipe_6 : decode cX9_wipe 6 = .ok (.iconst 0, 1) := by decide +kernel
theorem dX9_wipe_7 : decode cX9_wipe 7 = .ok (.putfield 123, 3) := by decide +kernel
theorem dX9_wipe_10 : decode cX9_wipe 10 = .ok (.iload_n 1, 1) := by decide +kernel
theorem dX9_wipe_11 : decode cX9_wipe 11 = .ok (.ireturn, 1) := by decide +kernel
theorem dX9_isLetter_0 : decode cX9_isLetter 0 = .ok (.iload_n 0, 1) := by decide +kernel
theorem dX9_isLetter_1 : decode cX9_isLetter 1 = .ok (.i2l, 1) := by decide +kernel
theorem dX9_isLetter_2 : decode cX9_isLetter 2 = .ok (.ldc2_w 126, 3) := by decide +kernel
theorem dX9_isLetter_5 : decode cX9_isLetter 5 = .ok (.ldc2_w 128, 3) := by decide +kernel
theorem dX9_isLetter_8 : decode cX9_isLetter 8 = .ok (.invokestatic 90, 3) := by decide +kernel
theorem dX9_isLetter_11 : decode cX9_isLetter 11 = .ok (.ireturn, 1) := by decide +kernel
theorem dX9_close_0 : decode cX9_close 0 = .ok (.aload_n 0, 1) := by decide +kernel
theorem dX9_close_1 : decode cX9_close 1 = .ok (.dup, 1) := by decide +kernel
theorem dX9_close_2 : decode cX9_close 2 = .ok (.getfield 130, 3) := by decide +kernel
theorem dX9_close_5 : decode cX9_close 5 = .ok (.iconst 1, 1) := by decide +kernel
theorem dX9_close_6 : decode cX9_close 6 = .ok (.iadd, 1) := by decide +kernel
theorem dX9_close_7 : decode cX9_close 7 = .ok (.putfield 130, 3) := by decide +kernel
theorem dX9_close_10 : decode cX9_close 10 = .ok (.iconst 0, 1) := by decide +kernel
theorem dX9_close_11 : decode cX9_close 11 = .ok (.ireturn, 1) := by decide +kernel
theorem dX9_begin_0 : decode cX9_begin 0 = .ok (.aload_n 0, 1) := by decide +kernel
theorem dX9_begin_1 : decode cX9_begin 1 = .ok (.getfield 40, 3) := by decide +kernel
theorem dX9_begin_4 : decode cX9_begin 4 = .ok (.aload_n 0, 1) := by decide +kernel
theorem dX9_begin_5 : decode cX9_begin 5 = .ok (.getfield 130, 3) := by decide +kernel
theorem dX9_begin_8 : decode cX9_begin 8 = .ok (.iload_n 1, 1) := by decide +kernel
theorem dX9_begin_9 : decode cX9_begin 9 = .ok (.invokestatic 133, 3) := by decide +kernel
theorem dX9_begin_12 : decode cX9_begin 12 = .ok (.ifCond .eq 10, 3) := by decide +kernel
theorem dX9_begin_15 : decode cX9_begin 15 = .ok (.iload_n 1, 1) := by decide +kernel
theorem dX9_begin_16 : decode cX9_begin 16 = .ok (.bipush 65, 2) := by decide +kernel
theorem dX9_begin_18 : decode cX9_begin 18 = .ok (.isub, 1) := by decide +kernel
theorem dX9_begin_19 : decode cX9_begin 19 = .ok (.goto 4, 3) := by decide +kernel
theorem dX9_begin_22 : decode cX9_begin 22 = .ok (.iconst 0, 1) := by decide +kernel
theorem dX9_begin_23 : decode cX9_begin 23 = .ok (.iastore, 1) := by decide +kernel
theorem dX9_begin_24 : decode cX9_begin 24 = .ok (.aload_n 0, 1) := by decide +kernel
theorem dX9_begin_25 : decode cX9_begin 25 = .ok (.getfield 43, 3) := by decide +kernel
theorem dX9_begin_28 : decode cX9_begin 28 = .ok (.aload_n 0, 1) := by decide +kernel
theorem dX9_begin_29 : decode cX9_begin 29 = .ok (.getfield 130, 3) := by decide +kernel
theorem dX9_begin_32 : decode cX9_begin 32 = .ok (.iconst 0, 1) := by decide +kernel
theorem dX9_begin_33 : decode cX9_begin 33 = .ok (.iastore, 1) := by decide +kernel
theorem dX9_begin_34 : decode cX9_begin 34 = .ok (.aload_n 0, 1) := by decide +kernel
theorem dX9_begin_35 : decode cX9_begin 35 = .ok (.getfield 46, 3) := by decide +kernel
theorem dX9_begin_38 : decode cX9_begin 38 = .ok (.aload_n 0, 1) := by decide +kernel
theorem dX9_begin_39 : decode cX9_begin 39 = .ok (.getfield 130, 3) := by decide +kernel
theorem dX9_begin_42 : decode cX9_begin 42 = .ok (.iconst 0, 1) := by decide +kernel
theorem dX9_begin_43 : decode cX9_begin 43 = .ok (.iastore, 1) := by decide +kernel
theorem dX9_begin_44 : decode cX9_begin 44 = .ok (.aload_n 0, 1) := by decide +kernel
theorem dX9_begin_45 : decode cX9_begin 45 = .ok (.getfield 37, 3) := by decide +kernel
theorem dX9_begin_48 : decode cX9_begin 48 = .ok (.aload_n 0, 1) := by decide +kernel
theorem dX9_begin_49 : decode cX9_begin 49 = .ok (.getfield 130, 3) := by decide +kernel
theorem dX9_begin_52 : decode cX9_begin 52 = .ok (.iconst 4, 1) := by decide +kernel
theorem dX9_begin_53 : decode cX9_begin 53 = .ok (.iastore, 1) := by decide +kernel
theorem dX9_begin_54 : decode cX9_begin 54 = .ok (.iload_n 1, 1) := by decide +kernel
theorem dX9_begin_55 : decode cX9_begin 55 = .ok (.invokestatic 133, 3) := by decide +kernel
theorem dX9_begin_58 : decode cX9_begin 58 = .ok (.ifCond .eq 7, 3) := by decide +kernel
theorem dX9_begin_61 : decode cX9_begin 61 = .ok (.iconst 1, 1) := by decide +kernel
theorem dX9_begin_62 : decode cX9_begin 62 = .ok (.goto 18, 3) := by decide +kernel
theorem dX9_begin_65 : decode cX9_begin 65 = .ok (.iload_n 1, 1) := by decide +kernel
theorem dX9_begin_66 : decode cX9_begin 66 = .ok (.bipush 46, 2) := by decide +kernel
theorem dX9_begin_68 : decode cX9_begin 68 = .ok (.if_icmp .ne 10, 3) := by decide +kernel
theorem dX9_begin_71 : decode cX9_begin 71 = .ok (.aload_n 0, 1) := by decide +kernel
theorem dX9_begin_72 : decode cX9_begin 72 = .ok (.invokevirtual 136, 3) := by decide +kernel
theorem dX9_begin_75 : decode cX9_begin 75 = .ok (.goto 5, 3) := by decide +kernel
theorem dX9_begin_78 : decode cX9_begin 78 = .ok (.bipush (-6), 2) := by decide +kernel
theorem dX9_begin_80 : decode cX9_begin 80 = .ok (.ireturn, 1) := by decide +kernel
theorem dX9_deed_0 : decode cX9_deed 0 = .ok (.iload_n 1, 1) := by decide +kernel
theorem dX9_deed_1 : decode cX9_deed 1 = .ok (.bipush 104, 2) := by decide +kernel
theorem dX9_deed_3 : decode cX9_deed 3 = .ok (.if_icmp .ne 7, 3) := by decide +kernel
theorem dX9_deed_6 : decode cX9_deed 6 = .ok (.iconst 0, 1) := by decide +kernel
theorem dX9_deed_7 : decode cX9_deed 7 = .ok (.goto 35, 3) := by decide +kernel
theorem dX9_deed_10 : decode cX9_deed 10 = .ok (.iload_n 1, 1) := by decide +kernel
theorem dX9_deed_11 : decode cX9_deed 11 = .ok (.bipush 114, 2) := by decide +kernel
theorem dX9_deed_13 : decode cX9_deed 13 = .ok (.if_icmp .ne 7, 3) := by decide +kernel
theorem dX9_deed_16 : decode cX9_deed 16 = .ok (.iconst 1, 1) := by decide +kernel
theorem dX9_deed_17 : decode cX9_deed 17 = .ok (.goto 25, 3) := by decide +kernel
theorem dX9_deed_20 : decode cX9_deed 20 = .ok (.iload_n 1, 1) := by decide +kernel
theorem dX9_deed_21 : decode cX9_deed 21 = .ok (.bipush 116, 2) := by decide +kernel
theorem dX9_deed_23 : decode cX9_deed 23 = .ok (.if_icmp .ne 7, 3) := by decide +kernel
theorem dX9_deed_26 : decode cX9_deed 26 = .ok (.iconst 2, 1) := by decide +kernel
theorem dX9_deed_27 : decode cX9_deed 27 = .ok (.goto 15, 3) := by decide +kernel
theorem dX9_deed_30 : decode cX9_deed 30 = .ok (.iload_n 1, 1) := by decide +kernel
theorem dX9_deed_31 : decode cX9_deed 31 = .ok (.bipush 107, 2) := by decide +kernel
theorem dX9_deed_33 : decode cX9_deed 33 = .ok (.if_icmp .ne 7, 3) := by decide +kernel
theorem dX9_deed_36 : decode cX9_deed 36 = .ok (.iconst 3, 1) := by decide +kernel
theorem dX9_deed_37 : decode cX9_deed 37 = .ok (.goto 5, 3) := by decide +kernel
theorem dX9_deed_40 : decode cX9_deed 40 = .ok (.bipush (-6), 2) := by decide +kernel
theorem dX9_deed_42 : decode cX9_deed 42 = .ok (.istore_n 2, 1) := by decide +kernel
theorem dX9_deed_43 : decode cX9_deed 43 = .ok (.aload_n 0, 1) := by decide +kernel
theorem dX9_deed_44 : decode cX9_deed 44 = .ok (.getfield 37, 3) := by decide +kernel
theorem dX9_deed_47 : decode cX9_deed 47 = .ok (.aload_n 0, 1) := by decide +kernel
theorem dX9_deed_48 : decode cX9_deed 48 = .ok (.getfield 130, 3) := by decide +kernel
theorem dX9_deed_51 : decode cX9_deed 51 = .ok (.iload_n 2, 1) := by decide +kernel
theorem dX9_deed_52 : decode cX9_deed 52 = .ok (.ifCond .lt 7, 3) := by decide +kernel
theorem dX9_deed_55 : decode cX9_deed 55 = .ok (.iconst 0, 1) := by decide +kernel
theorem dX9_deed_56 : decode cX9_deed 56 = .ok (.goto 24, 3) := by decide +kernel
theorem dX9_deed_59 : decode cX9_deed 59 = .ok (.iload_n 1, 1) := by decide +kernel
theorem dX9_deed_60 : decode cX9_deed 60 = .ok (.bipush 33, 2) := by decide +kernel
theorem dX9_deed_62 : decode cX9_deed 62 = .ok (.if_icmp .ne 7, 3) := by decide +kernel
theorem dX9_deed_65 : decode cX9_deed 65 = .ok (.iconst 1, 1) := by decide +kernel
theorem dX9_deed_66 : decode cX9_deed 66 = .ok (.goto 14, 3) := by decide +kernel
theorem dX9_deed_69 : decode cX9_deed 69 = .ok (.iload_n 1, 1) := by decide +kernel
theorem dX9_deed_70 : decode cX9_deed 70 = .ok (.bipush 62, 2) := by decide +kernel
theorem dX9_deed_72 : decode cX9_deed 72 = .ok (.if_icmp .ne 7, 3) := by decide +kernel
theorem dX9_deed_75 : decode cX9_deed 75 = .ok (.iconst 2, 1) := by decide +kernel
theorem dX9_deed_76 : decode cX9_deed 76 = .ok (.goto 4, 3) := by decide +kernel
theorem dX9_deed_79 : decode cX9_deed 79 = .ok (.iconst 3, 1) := by decide +kernel
theorem dX9_deed_80 : decode cX9_deed 80 = .ok (.iastore, 1) := by decide +kernel
theorem dX9_deed_81 : decode cX9_deed 81 = .ok (.aload_n 0, 1) := by decide +kernel
theorem dX9_deed_82 : decode cX9_deed 82 = .ok (.getfield 43, 3) := by decide +kernel
theorem dX9_deed_85 : decode cX9_deed 85 = .ok (.aload_n 0, 1) := by decide +kernel
theorem dX9_deed_86 : decode cX9_deed 86 = .ok (.getfield 130, 3) := by decide +kernel
theorem dX9_deed_89 : decode cX9_deed 89 = .ok (.iload_n 2, 1) := by decide +kernel
theorem dX9_deed_90 : decode cX9_deed 90 = .ok (.ifCond .lt 7, 3) := by decide +kernel
theorem dX9_deed_93 : decode cX9_deed 93 = .ok (.iload_n 2, 1) := by decide +kernel
theorem dX9_deed_94 : decode cX9_deed 94 = .ok (.goto 4, 3) := by decide +kernel
theorem dX9_deed_97 : decode cX9_deed 97 = .ok (.iconst 0, 1) := by decide +kernel
theorem dX9_deed_98 : decode cX9_deed 98 = .ok (.iastore, 1) := by decide +kernel
theorem dX9_deed_99 : decode cX9_deed 99 = .ok (.iload_n 2, 1) := by decide +kernel
theorem dX9_deed_100 : decode cX9_deed 100 = .ok (.ifCond .ge 9, 3) := by decide +kernel
theorem dX9_deed_103 : decode cX9_deed 103 = .ok (.iload_n 1, 1) := by decide +kernel
theorem dX9_deed_104 : decode cX9_deed 104 = .ok (.bipush 33, 2) := by decide +kernel
theorem dX9_deed_106 : decode cX9_deed 106 = .ok (.if_icmp .ne 7, 3) := by decide +kernel
theorem dX9_deed_109 : decode cX9_deed 109 = .ok (.iconst 2, 1) := by decide +kernel
theorem dX9_deed_110 : decode cX9_deed 110 = .ok (.goto 25, 3) := by decide +kernel
theorem dX9_deed_113 : decode cX9_deed 113 = .ok (.iload_n 1, 1) := by decide +kernel
theorem dX9_deed_114 : decode cX9_deed 114 = .ok (.bipush 62, 2) := by decide +kernel
theorem dX9_deed_116 : decode cX9_deed 116 = .ok (.if_icmp .ne 7, 3) := by decide +kernel
theorem dX9_deed_119 : decode cX9_deed 119 = .ok (.iconst 3, 1) := by decide +kernel
theorem dX9_deed_120 : decode cX9_deed 120 = .ok (.goto 15, 3) := by decide +kernel
theorem dX9_deed_123 : decode cX9_deed 123 = .ok (.iload_n 1, 1) := by decide +kernel
theorem dX9_deed_124 : decode cX9_deed 124 = .ok (.bipush 64, 2) := by decide +kernel
theorem dX9_deed_126 : decode cX9_deed 126 = .ok (.if_icmp .ne 7, 3) := by decide +kernel
theorem dX9_deed_129 : decode cX9_deed 129 = .ok (.iconst 4, 1) := by decide +kernel
theorem dX9_deed_130 : decode cX9_deed 130 = .ok (.goto 5, 3) := by decide +kernel
theorem dX9_deed_133 : decode cX9_deed 133 = .ok (.bipush (-6), 2) := by decide +kernel
theorem dX9_deed_135 : decode cX9_deed 135 = .ok (.ireturn, 1) := by decide +kernel
theorem dX9_readOn_0 : decode cX9_readOn 0 = .ok (.iload_n 1, 1) := by decide +kernel
theorem dX9_readOn_1 : decode cX9_readOn 1 = .ok (.ifCond .ne 9, 3) := by decide +kernel
theorem dX9_readOn_4 : decode cX9_readOn 4 = .ok (.aload_n 0, 1) := by decide +kernel
theorem dX9_readOn_5 : decode cX9_readOn 5 = .ok (.iload_n 2, 1) := by decide +kernel
theorem dX9_readOn_6 : decode cX9_readOn 6 = .ok (.invokevirtual 139, 3) := by decide +kernel
theorem dX9_readOn_9 : decode cX9_readOn 9 = .ok (.ireturn, 1) := by decide +kernel
theorem dX9_readOn_10 : decode cX9_readOn 10 = .ok (.iload_n 1, 1) := by decide +kernel
theorem dX9_readOn_11 : decode cX9_readOn 11 = .ok (.iconst 1, 1) := by decide +kernel
theorem dX9_readOn_12 : decode cX9_readOn 12 = .ok (.if_icmp .ne 9, 3) := by decide +kernel
theorem dX9_readOn_15 : decode cX9_readOn 15 = .ok (.aload_n 0, 1) := by decide +kernel
theorem dX9_readOn_16 : decode cX9_readOn 16 = .ok (.iload_n 2, 1) := by decide +kernel
theorem dX9_readOn_17 : decode cX9_readOn 17 = .ok (.invokevirtual 142, 3) := by decide +kernel
theorem dX9_readOn_20 : decode cX9_readOn 20 = .ok (.ireturn, 1) := by decide +kernel
theorem dX9_readOn_21 : decode cX9_readOn 21 = .ok (.iload_n 1, 1) := by decide +kernel
theorem dX9_readOn_22 : decode cX9_readOn 22 = .ok (.iconst 5, 1) := by decide +kernel
theorem dX9_readOn_23 : decode cX9_readOn 23 = .ok (.if_icmp .ne 33, 3) := by decide +kernel
theorem dX9_readOn_26 : decode cX9_readOn 26 = .ok (.aload_n 0, 1) := by decide +kernel
theorem dX9_readOn_27 : decode cX9_readOn 27 = .ok (.getfield 43, 3) := by decide +kernel
theorem dX9_readOn_30 : decode cX9_readOn 30 = .ok (.aload_n 0, 1) := by decide +kernel
theorem dX9_readOn_31 : decode cX9_readOn 31 = .ok (.getfield 130, 3) := by decide +kernel
theorem dX9_readOn_34 : decode cX9_readOn 34 = .ok (.iload_n 2, 1) := by decide +kernel
theorem dX9_readOn_35 : decode cX9_readOn 35 = .ok (.bipush 65, 2) := by decide +kernel
theorem dX9_readOn_37 : decode cX9_readOn 37 = .ok (.isub, 1) := by decide +kernel
theorem dX9_readOn_38 : decode cX9_readOn 38 = .ok (.iastore, 1) := by decide +kernel
theorem dX9_readOn_39 : decode cX9_readOn 39 = .ok (.iload_n 2, 1) := by decide +kernel
theorem dX9_readOn_40 : decode cX9_readOn 40 = .ok (.invokestatic 133, 3) := by decide +kernel
theorem dX9_readOn_43 : decode cX9_readOn 43 = .ok (.ifCond .eq 10, 3) := by decide +kernel
theorem dX9_readOn_46 : decode cX9_readOn 46 = .ok (.aload_n 0, 1) := by decide +kernel
theorem dX9_readOn_47 : decode cX9_readOn 47 = .ok (.invokevirtual 136, 3) := by decide +kernel
theorem dX9_readOn_50 : decode cX9_readOn 50 = .ok (.goto 5, 3) := by decide +kernel
theorem dX9_readOn_53 : decode cX9_readOn 53 = .ok (.bipush (-6), 2) := by decide +kernel
theorem dX9_readOn_55 : decode cX9_readOn 55 = .ok (.ireturn, 1) := by decide +kernel
theorem dX9_readOn_56 : decode cX9_readOn 56 = .ok (.aload_n 0, 1) := by decide +kernel
theorem dX9_readOn_57 : decode cX9_readOn 57 = .ok (.getfield 46, 3) := by decide +kernel
theorem dX9_readOn_60 : decode cX9_readOn 60 = .ok (.aload_n 0, 1) := by decide +kernel
theorem dX9_readOn_61 : decode cX9_readOn 61 = .ok (.getfield 130, 3) := by decide +kernel
theorem dX9_readOn_64 : decode cX9_readOn 64 = .ok (.iload_n 2, 1) := by decide +kernel
theorem dX9_readOn_65 : decode cX9_readOn 65 = .ok (.bipush 48, 2) := by decide +kernel
theorem dX9_readOn_67 : decode cX9_readOn 67 = .ok (.isub, 1) := by decide +kernel
theorem dX9_readOn_68 : decode cX9_readOn 68 = .ok (.iastore, 1) := by decide +kernel
theorem dX9_readOn_69 : decode cX9_readOn 69 = .ok (.iload_n 2, 1) := by decide +kernel
theorem dX9_readOn_70 : decode cX9_readOn 70 = .ok (.i2l, 1) := by decide +kernel
theorem dX9_readOn_71 : decode cX9_readOn 71 = .ok (.iload_n 1, 1) := by decide +kernel
theorem dX9_readOn_72 : decode cX9_readOn 72 = .ok (.iconst 4, 1) := by decide +kernel
theorem dX9_readOn_73 : decode cX9_readOn 73 = .ok (.if_icmp .ne 9, 3) := by decide +kernel
theorem dX9_readOn_76 : decode cX9_readOn 76 = .ok (.ldc2_w 145, 3) := by decide +kernel
theorem dX9_readOn_79 : decode cX9_readOn 79 = .ok (.goto 6, 3) := by decide +kernel
theorem dX9_readOn_82 : decode cX9_readOn 82 = .ok (.ldc2_w 147, 3) := by decide +kernel
theorem dX9_readOn_85 : decode cX9_readOn 85 = .ok (.ldc2_w 149, 3) := by decide +kernel
theorem dX9_readOn_88 : decode cX9_readOn 88 = .ok (.invokestatic 90, 3) := by decide +kernel
theorem dX9_readOn_91 : decode cX9_readOn 91 = .ok (.istore_n 3, 1) := by decide +kernel
theorem dX9_readOn_92 : decode cX9_readOn 92 = .ok (.iload_n 3, 1) := by decide +kernel
theorem dX9_readOn_93 : decode cX9_readOn 93 = .ok (.ifCond .ne 8, 3) := by decide +kernel
theorem dX9_readOn_96 : decode cX9_readOn 96 = .ok (.bipush (-6), 2) := by decide +kernel
theorem dX9_readOn_98 : decode cX9_readOn 98 = .ok (.goto 16, 3) := by decide +kernel
theorem dX9_readOn_101 : decode cX9_readOn 101 = .ok (.iload_n 1, 1) := by decide +kernel
theorem dX9_readOn_102 : decode cX9_readOn 102 = .ok (.iconst 3, 1) := by decide +kernel
theorem dX9_readOn_103 : decode cX9_readOn 103 = .ok (.if_icmp .ne 7, 3) := by decide +kernel
theorem dX9_readOn_106 : decode cX9_readOn 106 = .ok (.iconst 5, 1) := by decide +kernel
theorem dX9_readOn_107 : decode cX9_readOn 107 = .ok (.goto 7, 3) := by decide +kernel
theorem dX9_readOn_110 : decode cX9_readOn 110 = .ok (.aload_n 0, 1) := by decide +kernel
theorem dX9_readOn_111 : decode cX9_readOn 111 = .ok (.invokevirtual 136, 3) := by decide +kernel
theorem dX9_readOn_114 : decode cX9_readOn 114 = .ok (.ireturn, 1) := by decide +kernel
theorem dX9_fault_0 : decode cX9_fault 0 = .ok (.aload_n 0, 1) := by decide +kernel
theorem dX9_fault_1 : decode cX9_fault 1 = .ok (.iconst 0, 1) := by decide +kernel
theorem dX9_fault_2 : decode cX9_fault 2 = .ok (.putfield 130, 3) := by decide +kernel
theorem dX9_fault_5 : decode cX9_fault 5 = .ok (.iconst 0, 1) := by decide +kernel
theorem dX9_fault_6 : decode cX9_fault 6 = .ok (.istore_n 1, 1) := by decide +kernel
theorem dX9_fault_7 : decode cX9_fault 7 = .ok (.iconst 0, 1) := by decide +kernel
theorem dX9_fault_8 : decode cX9_fault 8 = .ok (.istore_n 2, 1) := by decide +kernel
theorem dX9_fault_9 : decode cX9_fault 9 = .ok (.iload_n 2, 1) := by decide +kernel
theorem dX9_fault_10 : decode cX9_fault 10 = .ok (.aload_n 0, 1) := by decide +kernel
theorem dX9_fault_11 : decode cX9_fault 11 = .ok (.getfield 123, 3) := by decide +kernel
theorem dX9_fault_14 : decode cX9_fault 14 = .ok (.if_icmp .ge 27, 3) := by decide +kernel
theorem dX9_fault_17 : decode cX9_fault 17 = .ok (.aload_n 0, 1) := by decide +kernel
theorem dX9_fault_18 : decode cX9_fault 18 = .ok (.iload_n 1, 1) := by decide +kernel
theorem dX9_fault_19 : decode cX9_fault 19 = .ok (.aload_n 0, 1) := by decide +kernel
theorem dX9_fault_20 : decode cX9_fault 20 = .ok (.getfield 34, 3) := by decide +kernel
theorem dX9_fault_23 : decode cX9_fault 23 = .ok (.iload_n 2, 1) := by decide +kernel
theorem dX9_fault_24 : decode cX9_fault 24 = .ok (.iaload, 1) := by decide +kernel
theorem dX9_fault_25 : decode cX9_fault 25 = .ok (.invokevirtual 151, 3) := by decide +kernel
theorem dX9_fault_28 : decode cX9_fault 28 = .ok (.istore_n 1, 1) := by decide +kernel
theorem dX9_fault_29 : decode cX9_fault 29 = .ok (.iload_n 1, 1) := by decide +kernel
theorem dX9_fault_30 : decode cX9_fault 30 = .ok (.ifCond .ge 5, 3) := by decide +kernel
theorem dX9_fault_33 : decode cX9_fault 33 = .ok (.iload_n 2, 1) := by decide +kernel
theorem dX9_fault_34 : decode cX9_fault 34 = .ok (.ireturn, 1) := by decide +kernel
theorem dX9_fault_35 : decode cX9_fault 35 = .ok (.iinc 2 1, 3) := by decide +kernel
theorem dX9_fault_38 : decode cX9_fault 38 = .ok (.goto (-29), 3) := by decide +kernel
theorem dX9_fault_41 : decode cX9_fault 41 = .ok (.iload_n 1, 1) := by decide +kernel
theorem dX9_fault_42 : decode cX9_fault 42 = .ok (.ifCond .ne 8, 3) := by decide +kernel
theorem dX9_fault_45 : decode cX9_fault 45 = .ok (.bipush (-6), 2) := by decide +kernel
theorem dX9_fault_47 : decode cX9_fault 47 = .ok (.goto 7, 3) := by decide +kernel
theorem dX9_fault_50 : decode cX9_fault 50 = .ok (.aload_n 0, 1) := by decide +kernel
theorem dX9_fault_51 : decode cX9_fault 51 = .ok (.getfield 123, 3) := by decide +kernel
theorem dX9_fault_54 : decode cX9_fault 54 = .ok (.ireturn, 1) := by decide +kernel
theorem dX9_whyNotSell_0 : decode cX9_whyNotSell 0 = .ok (.aload_n 0, 1) := by decide +kernel
theorem dX9_whyNotSell_1 : decode cX9_whyNotSell 1 = .ok (.iload_n 2, 1) := by decide +kernel
theorem dX9_whyNotSell_2 : decode cX9_whyNotSell 2 = .ok (.invokevirtual 107, 3) := by decide +kernel
theorem dX9_whyNotSell_5 : decode cX9_whyNotSell 5 = .ok (.ifCond .ne 5, 3) := by decide +kernel
theorem dX9_whyNotSell_8 : decode cX9_whyNotSell 8 = .ok (.iconst 1, 1) := by decide +kernel
theorem dX9_whyNotSell_9 : decode cX9_whyNotSell 9 = .ok (.ireturn, 1) := by decide +kernel
theorem dX9_whyNotSell_10 : decode cX9_whyNotSell 10 = .ok (.iload_n 1, 1) := by decide +kernel
theorem dX9_whyNotSell_11 : decode cX9_whyNotSell 11 = .ok (.iload_n 2, 1) := by decide +kernel
theorem dX9_whyNotSell_12 : decode cX9_whyNotSell 12 = .ok (.if_icmp .ne 5, 3) := by decide +kernel
theorem dX9_whyNotSell_15 : decode cX9_whyNotSell 15 = .ok (.iconst 2, 1) := by decide +kernel
theorem dX9_whyNotSell_16 : decode cX9_whyNotSell 16 = .ok (.ireturn, 1) := by decide +kernel
theorem dX9_whyNotSell_17 : decode cX9_whyNotSell 17 = .ok (.aload_n 0, 1) := by decide +kernel
theorem dX9_whyNotSell_18 : decode cX9_whyNotSell 18 = .ok (.getfield 16, 3) := by decide +kernel
theorem dX9_whyNotSell_21 : decode cX9_whyNotSell 21 = .ok (.iload_n 1, 1) := by decide +kernel
theorem dX9_whyNotSell_22 : decode cX9_whyNotSell 22 = .ok (.iaload, 1) := by decide +kernel
theorem dX9_whyNotSell_23 : decode cX9_whyNotSell 23 = .ok (.iload_n 3, 1) := by decide +kernel
theorem dX9_whyNotSell_24 : decode cX9_whyNotSell 24 = .ok (.if_icmp .ge 5, 3) := by decide +kernel
theorem dX9_whyNotSell_27 : decode cX9_whyNotSell 27 = .ok (.iconst 5, 1) := by decide +kernel
theorem dX9_whyNotSell_28 : decode cX9_whyNotSell 28 = .ok (.ireturn, 1) := by decide +kernel
theorem dX9_whyNotSell_29 : decode cX9_whyNotSell 29 = .ok (.aload_n 0, 1) := by decide +kernel
theorem dX9_whyNotSell_30 : decode cX9_whyNotSell 30 = .ok (.getfield 19, 3) := by decide +kernel
theorem dX9_whyNotSell_33 : decode cX9_whyNotSell 33 = .ok (.iload_n 2, 1) := by decide +kernel
theorem dX9_whyNotSell_34 : decode cX9_whyNotSell 34 = .ok (.iaload, 1) := by decide +kernel
theorem dX9_whyNotSell_35 : decode cX9_whyNotSell 35 = .ok (.iload_n 3, 1) := by decide +kernel
theorem dX9_whyNotSell_36 : decode cX9_whyNotSell 36 = .ok (.if_icmp .lt 30, 3) := by decide +kernel
theorem dX9_whyNotSell_39 : decode cX9_whyNotSell 39 = .ok (.aload_n 0, 1) := by decide +kernel
theorem dX9_whyNotSell_40 : decode cX9_whyNotSell 40 = .ok (.getfield 16, 3) := by decide +kernel
theorem dX9_whyNotSell_43 : decode cX9_whyNotSell 43 = .ok (.iload_n 2, 1) := by decide +kernel
theorem dX9_whyNotSell_44 : decode cX9_whyNotSell 44 = .ok (.iaload, 1) := by decide +kernel
theorem dX9_whyNotSell_45 : decode cX9_whyNotSell 45 = .ok (.iload_n 3, 1) := by decide +kernel
theorem dX9_whyNotSell_46 : decode cX9_whyNotSell 46 = .ok (.iadd, 1) := by decide +kernel
theorem dX9_whyNotSell_47 : decode cX9_whyNotSell 47 = .ok (.bipush 99, 2) := by decide +kernel
theorem dX9_whyNotSell_49 : decode cX9_whyNotSell 49 = .ok (.if_icmp .gt 17, 3) := by decide +kernel
theorem dX9_whyNotSell_52 : decode cX9_whyNotSell 52 = .ok (.aload_n 0, 1) := by decide +kernel
theorem dX9_whyNotSell_53 : decode cX9_whyNotSell 53 = .ok (.getfield 19, 3) := by decide +kernel
theorem dX9_whyNotSell_56 : decode cX9_whyNotSell 56 = .ok (.iload_n 1, 1) := by decide +kernel
theorem dX9_whyNotSell_57 : decode cX9_whyNotSell 57 = .ok (.iaload, 1) := by decide +kernel
theorem dX9_whyNotSell_58 : decode cX9_whyNotSell 58 = .ok (.iload_n 3, 1) := by decide +kernel
theorem dX9_whyNotSell_59 : decode cX9_whyNotSell 59 = .ok (.iadd, 1) := by decide +kernel
theorem dX9_whyNotSell_60 : decode cX9_whyNotSell 60 = .ok (.sipush 999, 3) := by decide +kernel
theorem dX9_whyNotSell_63 : decode cX9_whyNotSell 63 = .ok (.if_icmp .le 8, 3) := by decide +kernel
theorem dX9_whyNotSell_66 : decode cX9_whyNotSell 66 = .ok (.bipush 6, 2) := by decide +kernel
theorem dX9_whyNotSell_68 : decode cX9_whyNotSell 68 = .ok (.goto 4, 3) := by decide +kernel
theorem dX9_whyNotSell_71 : decode cX9_whyNotSell 71 = .ok (.iconst 0, 1) := by decide +kernel
theorem dX9_whyNotSell_72 : decode cX9_whyNotSell 72 = .ok (.ireturn, 1) := by decide +kernel
theorem dX9_whyNotSwear_0 : decode cX9_whyNotSwear 0 = .ok (.aload_n 0, 1) := by decide +kernel
theorem dX9_whyNotSwear_1 : decode cX9_whyNotSwear 1 = .ok (.getfield 7, 3) := by decide +kernel
theorem dX9_whyNotSwear_4 : decode cX9_whyNotSwear 4 = .ok (.iload_n 1, 1) := by decide +kernel
theorem dX9_whyNotSwear_5 : decode cX9_whyNotSwear 5 = .ok (.iaload, 1) := by decide +kernel
theorem dX9_whyNotSwear_6 : decode cX9_whyNotSwear 6 = .ok (.iload_n 2, 1) := by decide +kernel
theorem dX9_whyNotSwear_7 : decode cX9_whyNotSwear 7 = .ok (.if_icmp .ge 5, 3) := by decide +kernel
theorem dX9_whyNotSwear_10 : decode cX9_whyNotSwear 10 = .ok (.iconst 3, 1) := by decide +kernel
theorem dX9_whyNotSwear_11 : decode cX9_whyNotSwear 11 = .ok (.ireturn, 1) := by decide +kernel
theorem dX9_whyNotSwear_12 : decode cX9_whyNotSwear 12 = .ok (.aload_n 0, 1) := by decide +kernel
theorem dX9_whyNotSwear_13 : decode cX9_whyNotSwear 13 = .ok (.getfield 25, 3) := by decide +kernel
theorem dX9_whyNotSwear_16 : decode cX9_whyNotSwear 16 = .ok (.iload_n 1, 1) := by decide +kernel
theorem dX9_whyNotSwear_17 : decode cX9_whyNotSwear 17 = .ok (.iaload, 1) := by decide +kernel
theorem dX9_whyNotSwear_18 : decode cX9_whyNotSwear 18 = .ok (.ifCond .lt 21, 3) := by decide +kernel
theorem dX9_whyNotSwear_21 : decode cX9_whyNotSwear 21 = .ok (.aload_n 0, 1) := by decide +kernel
theorem dX9_whyNotSwear_22 : decode cX9_whyNotSwear 22 = .ok (.getfield 13, 3) := by decide +kernel
theorem dX9_whyNotSwear_25 : decode cX9_whyNotSwear 25 = .ok (.iload_n 1, 1) := by decide +kernel
theorem dX9_whyNotSwear_26 : decode cX9_whyNotSwear 26 = .ok (.iaload, 1) := by decide +kernel
theorem dX9_whyNotSwear_27 : decode cX9_whyNotSwear 27 = .ok (.aload_n 0, 1) := by decide +kernel
theorem dX9_whyNotSwear_28 : decode cX9_whyNotSwear 28 = .ok (.getfield 25, 3) := by decide +kernel
theorem dX9_whyNotSwear_31 : decode cX9_whyNotSwear 31 = .ok (.iload_n 1, 1) := by decide +kernel
theorem dX9_whyNotSwear_32 : decode cX9_whyNotSwear 32 = .ok (.iaload, 1) := by decide +kernel
theorem dX9_whyNotSwear_33 : decode cX9_whyNotSwear 33 = .ok (.ishr, 1) := by decide +kernel
theorem dX9_whyNotSwear_34 : decode cX9_whyNotSwear 34 = .ok (.iconst 1, 1) := by decide +kernel
theorem dX9_whyNotSwear_35 : decode cX9_whyNotSwear 35 = .ok (.iand, 1) := by decide +kernel
theorem dX9_whyNotSwear_36 : decode cX9_whyNotSwear 36 = .ok (.ifCond .ne 5, 3) := by decide +kernel
theorem dX9_whyNotSwear_39 : decode cX9_whyNotSwear 39 = .ok (.iconst 4, 1) := by decide +kernel
theorem dX9_whyNotSwear_40 : decode cX9_whyNotSwear 40 = .ok (.ireturn, 1) := by decide +kernel
theorem dX9_whyNotSwear_41 : decode cX9_whyNotSwear 41 = .ok (.aload_n 0, 1) := by decide +kernel
theorem dX9_whyNotSwear_42 : decode cX9_whyNotSwear 42 = .ok (.getfield 16, 3) := by decide +kernel
theorem dX9_whyNotSwear_45 : decode cX9_whyNotSwear 45 = .ok (.iload_n 1, 1) := by decide +kernel
theorem dX9_whyNotSwear_46 : decode cX9_whyNotSwear 46 = .ok (.iaload, 1) := by decide +kernel
theorem dX9_whyNotSwear_47 : decode cX9_whyNotSwear 47 = .ok (.iload_n 2, 1) := by decide +kernel
theorem dX9_whyNotSwear_48 : decode cX9_whyNotSwear 48 = .ok (.if_icmp .ge 7, 3) := by decide +kernel
theorem dX9_whyNotSwear_51 : decode cX9_whyNotSwear 51 = .ok (.iconst 5, 1) := by decide +kernel
theorem dX9_whyNotSwear_52 : decode cX9_whyNotSwear 52 = .ok (.goto 4, 3) := by decide +kernel
theorem dX9_whyNotSwear_55 : decode cX9_whyNotSwear 55 = .ok (.iconst 0, 1) := by decide +kernel
theorem dX9_whyNotSwear_56 : decode cX9_whyNotSwear 56 = .ok (.ireturn, 1) := by decide +kernel
theorem dX9_whyNot_0 : decode cX9_whyNot 0 = .ok (.iload_n 1, 1) := by decide +kernel
theorem dX9_whyNot_1 : decode cX9_whyNot 1 = .ok (.iconst 4, 1) := by decide +kernel
theorem dX9_whyNot_2 : decode cX9_whyNot 2 = .ok (.if_icmp .ne 5, 3) := by decide +kernel
theorem dX9_whyNot_5 : decode cX9_whyNot 5 = .ok (.iconst 0, 1) := by decide +kernel
theorem dX9_whyNot_6 : decode cX9_whyNot 6 = .ok (.ireturn, 1) := by decide +kernel
theorem dX9_whyNot_7 : decode cX9_whyNot 7 = .ok (.aload_n 0, 1) := by decide +kernel
theorem dX9_whyNot_8 : decode cX9_whyNot 8 = .ok (.iload_n 2, 1) := by decide +kernel
theorem dX9_whyNot_9 : decode cX9_whyNot 9 = .ok (.invokevirtual 107, 3) := by decide +kernel
theorem dX9_whyNot_12 : decode cX9_whyNot 12 = .ok (.ifCond .ne 5, 3) := by decide +kernel
theorem dX9_whyNot_15 : decode cX9_whyNot 15 = .ok (.iconst 1, 1) := by decide +kernel
theorem dX9_whyNot_16 : decode cX9_whyNot 16 = .ok (.ireturn, 1) := by decide +kernel
theorem dX9_whyNot_17 : decode cX9_whyNot 17 = .ok (.iload_n 1, 1) := by decide +kernel
theorem dX9_whyNot_18 : decode cX9_whyNot 18 = .ok (.tableswitch 60 1 3 #[26, 34, 43], 26) := by decide +kernel
theorem dX9_whyNot_44 : decode cX9_whyNot 44 = .ok (.aload_n 0, 1) := by decide +kernel
theorem dX9_whyNot_45 : decode cX9_whyNot 45 = .ok (.iload_n 2, 1) := by decide +kernel
theorem dX9_whyNot_46 : decode cX9_whyNot 46 = .ok (.iload 4, 2) := by decide +kernel
theorem dX9_whyNot_48 : decode cX9_whyNot 48 = .ok (.invokevirtual 155, 3) := by decide +kernel
theorem dX9_whyNot_51 : decode cX9_whyNot 51 = .ok (.ireturn, 1) := by decide +kernel
theorem dX9_whyNot_52 : decode cX9_whyNot 52 = .ok (.aload_n 0, 1) := by decide +kernel
theorem dX9_whyNot_53 : decode cX9_whyNot 53 = .ok (.iload_n 2, 1) := by decide +kernel
theorem dX9_whyNot_54 : decode cX9_whyNot 54 = .ok (.iload_n 3, 1) := by decide +kernel
theorem dX9_whyNot_55 : decode cX9_whyNot 55 = .ok (.iload 4, 2) := by decide +kernel
theorem dX9_whyNot_57 : decode cX9_whyNot 57 = .ok (.invokevirtual 158, 3) := by decide +kernel
theorem dX9_whyNot_60 : decode cX9_whyNot 60 = .ok (.ireturn, 1) := by decide +kernel
theorem dX9_whyNot_61 : decode cX9_whyNot 61 = .ok (.aload_n 0, 1) := by decide +kernel
theorem dX9_whyNot_62 : decode cX9_whyNot 62 = .ok (.getfield 22, 3) := by decide +kernel
theorem dX9_whyNot_65 : decode cX9_whyNot 65 = .ok (.iload_n 2, 1) := by decide +kernel
theorem dX9_whyNot_66 : decode cX9_whyNot 66 = .ok (.iaload, 1) := by decide +kernel
theorem dX9_whyNot_67 : decode cX9_whyNot 67 = .ok (.iload 4, 2) := by decide +kernel
theorem dX9_whyNot_69 : decode cX9_whyNot 69 = .ok (.if_icmp .ne 7, 3) := by decide +kernel
theorem dX9_whyNot_72 : decode cX9_whyNot 72 = .ok (.iconst 2, 1) := by decide +kernel
theorem dX9_whyNot_73 : decode cX9_whyNot 73 = .ok (.goto 4, 3) := by decide +kernel
theorem dX9_whyNot_76 : decode cX9_whyNot 76 = .ok (.iconst 0, 1) := by decide +kernel
theorem dX9_whyNot_77 : decode cX9_whyNot 77 = .ok (.ireturn, 1) := by decide +kernel
theorem dX9_whyNot_78 : decode cX9_whyNot 78 = .ok (.iconst 0, 1) := by decide +kernel
theorem dX9_whyNot_79 : decode cX9_whyNot 79 = .ok (.ireturn, 1) := by decide +kernel
theorem dX9_isNear_0 : decode cX9_isNear 0 = .ok (.aload_n 0, 1) := by decide +kernel
theorem dX9_isNear_1 : decode cX9_isNear 1 = .ok (.getfield 22, 3) := by decide +kernel
theorem dX9_isNear_4 : decode cX9_isNear 4 = .ok (.iload_n 1, 1) := by decide +kernel
theorem dX9_isNear_5 : decode cX9_isNear 5 = .ok (.iaload, 1) := by decide +kernel
theorem dX9_isNear_6 : decode cX9_isNear 6 = .ok (.aload_n 0, 1) := by decide +kernel
theorem dX9_isNear_7 : decode cX9_isNear 7 = .ok (.getfield 22, 3) := by decide +kernel
theorem dX9_isNear_10 : decode cX9_isNear 10 = .ok (.iload_n 2, 1) := by decide +kernel
theorem dX9_isNear_11 : decode cX9_isNear 11 = .ok (.iaload, 1) := by decide +kernel
theorem dX9_isNear_12 : decode cX9_isNear 12 = .ok (.isub, 1) := by decide +kernel
theorem dX9_isNear_13 : decode cX9_isNear 13 = .ok (.istore_n 3, 1) := by decide +kernel
theorem dX9_isNear_14 : decode cX9_isNear 14 = .ok (.iload_n 3, 1) := by decide +kernel
theorem dX9_isNear_15 : decode cX9_isNear 15 = .ok (.aload_n 0, 1) := by decide +kernel
theorem dX9_isNear_16 : decode cX9_isNear 16 = .ok (.getfield 85, 3) := by decide +kernel
theorem dX9_isNear_19 : decode cX9_isNear 19 = .ok (.if_icmp .gt 16, 3) := by decide +kernel
theorem dX9_isNear_22 : decode cX9_isNear 22 = .ok (.iload_n 3, 1) := by decide +kernel
theorem dX9_isNear_23 : decode cX9_isNear 23 = .ok (.ineg, 1) := by decide +kernel
theorem dX9_isNear_24 : decode cX9_isNear 24 = .ok (.aload_n 0, 1) := by decide +kernel
theorem dX9_isNear_25 : decode cX9_isNear 25 = .ok (.getfield 85, 3) := by decide +kernel
theorem dX9_isNear_28 : decode cX9_isNear 28 = .ok (.if_icmp .gt 7, 3) := by decide +kernel
theorem dX9_isNear_31 : decode cX9_isNear 31 = .ok (.iconst 1, 1) := by decide +kernel
theorem dX9_isNear_32 : decode cX9_isNear 32 = .ok (.goto 4, 3) := by decide +kernel
theorem dX9_isNear_35 : decode cX9_isNear 35 = .ok (.iconst 0, 1) := by decide +kernel
theorem dX9_isNear_36 : decode cX9_isNear 36 = .ok (.ireturn, 1) := by decide +kernel
theorem dX9_heardBy_0 : decode cX9_heardBy 0 = .ok (.iconst 0, 1) := by decide +kernel
theorem dX9_heardBy_1 : decode cX9_heardBy 1 = .ok (.istore_n 2, 1) := by decide +kernel
theorem dX9_heardBy_2 : decode cX9_heardBy 2 = .ok (.iconst 0, 1) := by decide +kernel
theorem dX9_heardBy_3 : decode cX9_heardBy 3 = .ok (.istore_n 3, 1) := by decide +kernel
theorem dX9_heardBy_4 : decode cX9_heardBy 4 = .ok (.iload_n 3, 1) := by decide +kernel
theorem dX9_heardBy_5 : decode cX9_heardBy 5 = .ok (.bipush 6, 2) := by decide +kernel
theorem dX9_heardBy_7 : decode cX9_heardBy 7 = .ok (.if_icmp .ge 41, 3) := by decide +kernel
theorem dX9_heardBy_10 : decode cX9_heardBy 10 = .ok (.iload_n 2, 1) := by decide +kernel
theorem dX9_heardBy_11 : decode cX9_heardBy 11 = .ok (.aload_n 0, 1) := by decide +kernel
theorem dX9_heardBy_12 : decode cX9_heardBy 12 = .ok (.iload_n 3, 1) := by decide +kernel
theorem dX9_heardBy_13 : decode cX9_heardBy 13 = .ok (.invokevirtual 107, 3) := by decide +kernel
theorem dX9_heardBy_16 : decode cX9_heardBy 16 = .ok (.ifCond .eq 23, 3) := by decide +kernel
theorem dX9_heardBy_19 : decode cX9_heardBy 19 = .ok (.iload_n 3, 1) := by decide +kernel
theorem dX9_heardBy_20 : decode cX9_heardBy 20 = .ok (.iload_n 1, 1) := by decide +kernel
theorem dX9_heardBy_21 : decode cX9_heardBy 21 = .ok (.if_icmp .eq 18, 3) := by decide +kernel
theorem dX9_heardBy_24 : decode cX9_heardBy 24 = .ok (.aload_n 0, 1) := by decide +kernel
theorem dX9_heardBy_25 : decode cX9_heardBy 25 = .ok (.iload_n 3, 1) := by decide +kernel
theorem dX9_heardBy_26 : decode cX9_heardBy 26 = .ok (.iload_n 1, 1) := by decide +kernel
theorem dX9_heardBy_27 : decode cX9_heardBy 27 = .ok (.invokevirtual 162, 3) := by decide +kernel
theorem dX9_heardBy_30 : decode cX9_heardBy 30 = .ok (.ifCond .eq 9, 3) := by decide +kernel
theorem dX9_heardBy_33 : decode cX9_heardBy 33 = .ok (.iconst 1, 1) := by decide +kernel
theorem dX9_heardBy_34 : decode cX9_heardBy 34 = .ok (.iload_n 3, 1) := by decide +kernel
theorem dX9_heardBy_35 : decode cX9_heardBy 35 = .ok (.ishl, 1) := by decide +kernel
theorem dX9_heardBy_36 : decode cX9_heardBy 36 = .ok (.goto 4, 3) := by decide +kernel
theorem dX9_heardBy_39 : decode cX9_heardBy 39 = .ok (.iconst 0, 1) := by decide +kernel
theorem dX9_heardBy_40 : decode cX9_heardBy 40 = .ok (.ior, 1) := by decide +kernel
theorem dX9_heardBy_41 : decode cX9_heardBy 41 = .ok (.istore_n 2, 1) := by decide +kernel
theorem dX9_heardBy_42 : decode cX9_heardBy 42 = .ok (.iinc 3 1, 3) := by decide +kernel
theorem dX9_heardBy_45 : decode cX9_heardBy 45 = .ok (.goto (-41), 3) := by decide +kernel
theorem dX9_heardBy_48 : decode cX9_heardBy 48 = .ok (.iload_n 2, 1) := by decide +kernel
theorem dX9_heardBy_49 : decode cX9_heardBy 49 = .ok (.ireturn, 1) := by decide +kernel
theorem dX9_slip_0 : decode cX9_slip 0 = .ok (.aload_n 0, 1) := by decide +kernel
theorem dX9_slip_1 : decode cX9_slip 1 = .ok (.iload_n 1, 1) := by decide +kernel
theorem dX9_slip_2 : decode cX9_slip 2 = .ok (.invokevirtual 166, 3) := by decide +kernel
theorem dX9_slip_5 : decode cX9_slip 5 = .ok (.invokestatic 103, 3) := by decide +kernel
theorem dX9_slip_8 : decode cX9_slip 8 = .ok (.istore_n 2, 1) := by decide +kernel
theorem dX9_slip_9 : decode cX9_slip 9 = .ok (.aload_n 0, 1) := by decide +kernel
theorem dX9_slip_10 : decode cX9_slip 10 = .ok (.getfield 7, 3) := by decide +kernel
theorem dX9_slip_13 : decode cX9_slip 13 = .ok (.iload_n 1, 1) := by decide +kernel
theorem dX9_slip_14 : decode cX9_slip 14 = .ok (.iaload, 1) := by decide +kernel
theorem dX9_slip_15 : decode cX9_slip 15 = .ok (.iload_n 2, 1) := by decide +kernel
theorem dX9_slip_16 : decode cX9_slip 16 = .ok (.imul, 1) := by decide +kernel
theorem dX9_slip_17 : decode cX9_slip 17 = .ok (.istore_n 3, 1) := by decide +kernel
theorem dX9_slip_18 : decode cX9_slip 18 = .ok (.iload_n 3, 1) := by decide +kernel
theorem dX9_slip_19 : decode cX9_slip 19 = .ok (.aload_n 0, 1) := by decide +kernel
theorem dX9_slip_20 : decode cX9_slip 20 = .ok (.getfield 19, 3) := by decide +kernel
theorem dX9_slip_23 : decode cX9_slip 23 = .ok (.iload_n 1, 1) := by decide +kernel
theorem dX9_slip_24 : decode cX9_slip 24 = .ok (.iaload, 1) := by decide +kernel
theorem dX9_slip_25 : decode cX9_slip 25 = .ok (.if_icmp .ge 7, 3) := by decide +kernel
theorem dX9_slip_28 : decode cX9_slip 28 = .ok (.iload_n 3, 1) := by decide +kernel
theorem dX9_slip_29 : decode cX9_slip 29 = .ok (.goto 9, 3) := by decide +kernel
theorem dX9_slip_32 : decode cX9_slip 32 = .ok (.aload_n 0, 1) := by decide +kernel
theorem dX9_slip_33 : decode cX9_slip 33 = .ok (.getfield 19, 3) := by decide +kernel
theorem dX9_slip_36 : decode cX9_slip 36 = .ok (.iload_n 1, 1) := by decide +kernel
theorem dX9_slip_37 : decode cX9_slip 37 = .ok (.iaload, 1) := by decide +kernel
theorem dX9_slip_38 : decode cX9_slip 38 = .ok (.istore 4, 2) := by decide +kernel
theorem dX9_slip_40 : decode cX9_slip 40 = .ok (.aload_n 0, 1) := by decide +kernel
theorem dX9_slip_41 : decode cX9_slip 41 = .ok (.getfield 19, 3) := by decide +kernel
theorem dX9_slip_44 : decode cX9_slip 44 = .ok (.iload_n 1, 1) := by decide +kernel
theorem dX9_slip_45 : decode cX9_slip 45 = .ok (.dup2, 1) := by decide +kernel
theorem dX9_slip_46 : decode cX9_slip 46 = .ok (.iaload, 1) := by decide +kernel
theorem dX9_slip_47 : decode cX9_slip 47 = .ok (.iload 4, 2) := by decide +kernel
theorem dX9_slip_49 : decode cX9_slip 49 = .ok (.isub, 1) := by decide +kernel
theorem dX9_slip_50 : decode cX9_slip 50 = .ok (.iastore, 1) := by decide +kernel
theorem dX9_slip_51 : decode cX9_slip 51 = .ok (.aload_n 0, 1) := by decide +kernel
theorem dX9_slip_52 : decode cX9_slip 52 = .ok (.dup, 1) := by decide +kernel
theorem dX9_slip_53 : decode cX9_slip 53 = .ok (.getfield 169, 3) := by decide +kernel
theorem dX9_slip_56 : decode cX9_slip 56 = .ok (.iload 4, 2) := by decide +kernel
theorem dX9_slip_58 : decode cX9_slip 58 = .ok (.iadd, 1) := by decide +kernel
theorem dX9_slip_59 : decode cX9_slip 59 = .ok (.putfield 169, 3) := by decide +kernel
theorem dX9_slip_62 : decode cX9_slip 62 = .ok (.aload_n 0, 1) := by decide +kernel
theorem dX9_slip_63 : decode cX9_slip 63 = .ok (.getfield 7, 3) := by decide +kernel
theorem dX9_slip_66 : decode cX9_slip 66 = .ok (.iload_n 1, 1) := by decide +kernel
theorem dX9_slip_67 : decode cX9_slip 67 = .ok (.iconst 0, 1) := by decide +kernel
theorem dX9_slip_68 : decode cX9_slip 68 = .ok (.iastore, 1) := by decide +kernel
theorem dX9_slip_69 : decode cX9_slip 69 = .ok (.aload_n 0, 1) := by decide +kernel
theorem dX9_slip_70 : decode cX9_slip 70 = .ok (.getfield 172, 3) := by decide +kernel
theorem dX9_slip_73 : decode cX9_slip 73 = .ok (.ifCond .ne 21, 3) := by decide +kernel
theorem dX9_slip_76 : decode cX9_slip 76 = .ok (.aload_n 0, 1) := by decide +kernel
theorem dX9_slip_77 : decode cX9_slip 77 = .ok (.aload_n 0, 1) := by decide +kernel
theorem dX9_slip_78 : decode cX9_slip 78 = .ok (.getfield 175, 3) := by decide +kernel
theorem dX9_slip_81 : decode cX9_slip 81 = .ok (.putfield 178, 3) := by decide +kernel
theorem dX9_slip_84 : decode cX9_slip 84 = .ok (.aload_n 0, 1) := by decide +kernel
theorem dX9_slip_85 : decode cX9_slip 85 = .ok (.iload_n 1, 1) := by decide +kernel
theorem dX9_slip_86 : decode cX9_slip 86 = .ok (.putfield 181, 3) := by decide +kernel
theorem dX9_slip_89 : decode cX9_slip 89 = .ok (.aload_n 0, 1) := by decide +kernel
theorem dX9_slip_90 : decode cX9_slip 90 = .ok (.iload_n 2, 1) := by decide +kernel
theorem dX9_slip_91 : decode cX9_slip 91 = .ok (.putfield 184, 3) := by decide +kernel
theorem dX9_slip_94 : decode cX9_slip 94 = .ok (.aload_n 0, 1) := by decide +kernel
theorem dX9_slip_95 : decode cX9_slip 95 = .ok (.dup, 1) := by decide +kernel
theorem dX9_slip_96 : decode cX9_slip 96 = .ok (.getfield 172, 3) := by decide +kernel
theorem dX9_slip_99 : decode cX9_slip 99 = .ok (.iconst 1, 1) := by decide +kernel
theorem dX9_slip_100 : decode cX9_slip 100 = .ok (.iadd, 1) := by decide +kernel
theorem dX9_slip_101 : decode cX9_slip 101 = .ok (.putfield 172, 3) := by decide +kernel
theorem dX9_slip_104 : decode cX9_slip 104 = .ok (.return_, 1) := by decide +kernel
theorem dX9_befall_0 : decode cX9_befall 0 = .ok (.aload_n 0, 1) := by decide +kernel
theorem dX9_befall_1 : decode cX9_befall 1 = .ok (.getfield 7, 3) := by decide +kernel
theorem dX9_befall_4 : decode cX9_befall 4 = .ok (.iload_n 1, 1) := by decide +kernel
theorem dX9_befall_5 : decode cX9_befall 5 = .ok (.dup2, 1) := by decide +kernel
theorem dX9_befall_6 : decode cX9_befall 6 = .ok (.iaload, 1) := by decide +kernel
theorem dX9_befall_7 : decode cX9_befall 7 = .ok (.iload_n 3, 1) := by decide +kernel
theorem dX9_befall_8 : decode cX9_befall 8 = .ok (.iadd, 1) := by decide +kernel
theorem dX9_befall_9 : decode cX9_befall 9 = .ok (.iastore, 1) := by decide +kernel
theorem dX9_befall_10 : decode cX9_befall 10 = .ok (.aload_n 0, 1) := by decide +kernel
theorem dX9_befall_11 : decode cX9_befall 11 = .ok (.getfield 25, 3) := by decide +kernel
theorem dX9_befall_14 : decode cX9_befall 14 = .ok (.iload_n 1, 1) := by decide +kernel
theorem dX9_befall_15 : decode cX9_befall 15 = .ok (.iload_n 2, 1) := by decide +kernel
theorem dX9_befall_16 : decode cX9_befall 16 = .ok (.iastore, 1) := by decide +kernel
theorem dX9_befall_17 : decode cX9_befall 17 = .ok (.aload_n 0, 1) := by decide +kernel
theorem dX9_befall_18 : decode cX9_befall 18 = .ok (.getfield 7, 3) := by decide +kernel
theorem dX9_befall_21 : decode cX9_befall 21 = .ok (.iload_n 1, 1) := by decide +kernel
theorem dX9_befall_22 : decode cX9_befall 22 = .ok (.iaload, 1) := by decide +kernel
theorem dX9_befall_23 : decode cX9_befall 23 = .ok (.aload_n 0, 1) := by decide +kernel
theorem dX9_befall_24 : decode cX9_befall 24 = .ok (.getfield 81, 3) := by decide +kernel
theorem dX9_befall_27 : decode cX9_befall 27 = .ok (.if_icmp .le 8, 3) := by decide +kernel
theorem dX9_befall_30 : decode cX9_befall 30 = .ok (.aload_n 0, 1) := by decide +kernel
theorem dX9_befall_31 : decode cX9_befall 31 = .ok (.iload_n 1, 1) := by decide +kernel
theorem dX9_befall_32 : decode cX9_befall 32 = .ok (.invokevirtual 187, 3) := by decide +kernel
theorem dX9_befall_35 : decode cX9_befall 35 = .ok (.return_, 1) := by decide +kernel
theorem dX9_endHour_0 : decode cX9_endHour 0 = .ok (.iconst 0, 1) := by decide +kernel
theorem dX9_endHour_1 : decode cX9_endHour 1 = .ok (.istore_n 1, 1) := by decide +kernel
theorem dX9_endHour_2 : decode cX9_endHour 2 = .ok (.iload_n 1, 1) := by decide +kernel
theorem dX9_endHour_3 : decode cX9_endHour 3 = .ok (.bipush 6, 2) := by decide +kernel
theorem dX9_endHour_5 : decode cX9_endHour 5 = .ok (.if_icmp .ge 32, 3) := by decide +kernel
theorem dX9_endHour_8 : decode cX9_endHour 8 = .ok (.aload_n 0, 1) := by decide +kernel
theorem dX9_endHour_9 : decode cX9_endHour 9 = .ok (.getfield 7, 3) := by decide +kernel
theorem dX9_endHour_12 : decode cX9_endHour 12 = .ok (.iload_n 1, 1) := by decide +kernel
theorem dX9_endHour_13 : decode cX9_endHour 13 = .ok (.dup2, 1) := by decide +kernel
theorem dX9_endHour_14 : decode cX9_endHour 14 = .ok (.iaload, 1) := by decide +kernel
theorem dX9_endHour_15 : decode cX9_endHour 15 = .ok (.aload_n 0, 1) := by decide +kernel
theorem dX9_endHour_16 : decode cX9_endHour 16 = .ok (.getfield 7, 3) := by decide +kernel
theorem dX9_endHour_19 : decode cX9_endHour 19 = .ok (.iload_n 1, 1) := by decide +kernel
theorem dX9_endHour_20 : decode cX9_endHour 20 = .ok (.iaload, 1) := by decide +kernel
theorem dX9_endHour_21 : decode cX9_endHour 21 = .ok (.ifCond .le 7, 3) := by decide +kernel
theorem dX9_endHour_24 : decode cX9_endHour 24 = .ok (.iconst 1, 1) := by decide +kernel
theorem dX9_endHour_25 : decode cX9_endHour 25 = .ok (.goto 4, 3) := by decide +kernel
theorem dX9_endHour_28 : decode cX9_endHour 28 = .ok (.iconst 0, 1) := by decide +kernel
theorem dX9_endHour_29 : decode cX9_endHour 29 = .ok (.isub, 1) := by decide +kernel
theorem dX9_endHour_30 : decode cX9_endHour 30 = .ok (.iastore, 1) := by decide +kernel
theorem dX9_endHour_31 : decode cX9_endHour 31 = .ok (.iinc 1 1, 3) := by decide +kernel
theorem dX9_endHour_34 : decode cX9_endHour 34 = .ok (.goto (-32), 3) := by decide +kernel
theorem dX9_endHour_37 : decode cX9_endHour 37 = .ok (.return_, 1) := by decide +kernel
theorem dX9_happen_0 : decode cX9_happen 0 = .ok (.iload_n 1, 1) := by decide +kernel
theorem dX9_happen_1 : decode cX9_happen 1 = .ok (.tableswitch 125 0 3 #[31, 42, 67, 114], 31) := by decide +kernel
theorem dX9_happen_32 : decode cX9_happen 32 = .ok (.aload_n 0, 1) := by decide +kernel
theorem dX9_happen_33 : decode cX9_happen 33 = .ok (.iload_n 2, 1) := by decide +kernel
theorem dX9_happen_34 : decode cX9_happen 34 = .ok (.iload_n 3, 1) := by decide +kernel
theorem dX9_happen_35 : decode cX9_happen 35 = .ok (.iload 4, 2) := by decide +kernel
theorem dX9_happen_37 : decode cX9_happen 37 = .ok (.invokevirtual 191, 3) := by decide +kernel
theorem dX9_happen_40 : decode cX9_happen 40 = .ok (.goto 90, 3) := by decide +kernel
theorem dX9_happen_43 : decode cX9_happen 43 = .ok (.aload_n 0, 1) := by decide +kernel
theorem dX9_happen_44 : decode cX9_happen 44 = .ok (.getfield 7, 3) := by decide +kernel
theorem dX9_happen_47 : decode cX9_happen 47 = .ok (.iload_n 2, 1) := by decide +kernel
theorem dX9_happen_48 : decode cX9_happen 48 = .ok (.dup2, 1) := by decide +kernel
theorem dX9_happen_49 : decode cX9_happen 49 = .ok (.iaload, 1) := by decide +kernel
theorem dX9_happen_50 : decode cX9_happen 50 = .ok (.iload 4, 2) := by decide +kernel
theorem dX9_happen_52 : decode cX9_happen 52 = .ok (.isub, 1) := by decide +kernel
theorem dX9_happen_53 : decode cX9_happen 53 = .ok (.iastore, 1) := by decide +kernel
theorem dX9_happen_54 : decode cX9_happen 54 = .ok (.aload_n 0, 1) := by decide +kernel
theorem dX9_happen_55 : decode cX9_happen 55 = .ok (.getfield 16, 3) := by decide +kernel
theorem dX9_happen_58 : decode cX9_happen 58 = .ok (.iload_n 2, 1) := by decide +kernel
theorem dX9_happen_59 : decode cX9_happen 59 = .ok (.dup2, 1) := by decide +kernel
theorem dX9_happen_60 : decode cX9_happen 60 = .ok (.iaload, 1) := by decide +kernel
theorem dX9_happen_61 : decode cX9_happen 61 = .ok (.iload 4, 2) := by decide +kernel
theorem dX9_happen_63 : decode cX9_happen 63 = .ok (.isub, 1) := by decide +kernel
theorem dX9_happen_64 : decode cX9_happen 64 = .ok (.iastore, 1) := by decide +kernel
theorem dX9_happen_65 : decode cX9_happen 65 = .ok (.goto 65, 3) := by decide +kernel
theorem dX9_happen_68 : decode cX9_happen 68 = .ok (.aload_n 0, 1) := by decide +kernel
theorem dX9_happen_69 : decode cX9_happen 69 = .ok (.getfield 16, 3) := by decide +kernel
theorem dX9_happen_72 : decode cX9_happen 72 = .ok (.iload_n 2, 1) := by decide +kernel
theorem dX9_happen_73 : decode cX9_happen 73 = .ok (.dup2, 1) := by decide +kernel
theorem dX9_happen_74 : decode cX9_happen 74 = .ok (.iaload, 1) := by decide +kernel
theorem dX9_happen_75 : decode cX9_happen 75 = .ok (.iload 4, 2) := by decide +kernel
theorem dX9_happen_77 : decode cX9_happen 77 = .ok (.isub, 1) := by decide +kernel
theorem dX9_happen_78 : decode cX9_happen 78 = .ok (.iastore, 1) := by decide +kernel
theorem dX9_happen_79 : decode cX9_happen 79 = .ok (.aload_n 0, 1) := by decide +kernel
theorem dX9_happen_80 : decode cX9_happen 80 = .ok (.getfield 16, 3) := by decide +kernel
theorem dX9_happen_83 : decode cX9_happen 83 = .ok (.iload_n 3, 1) := by decide +kernel
theorem dX9_happen_84 : decode cX9_happen 84 = .ok (.dup2, 1) := by decide +kernel
theorem dX9_happen_85 : decode cX9_happen 85 = .ok (.iaload, 1) := by decide +kernel
theorem dX9_happen_86 : decode cX9_happen 86 = .ok (.iload 4, 2) := by decide +kernel
theorem dX9_happen_88 : decode cX9_happen 88 = .ok (.iadd, 1) := by decide +kernel
theorem dX9_happen_89 : decode cX9_happen 89 = .ok (.iastore, 1) := by decide +kernel
theorem dX9_happen_90 : decode cX9_happen 90 = .ok (.aload_n 0, 1) := by decide +kernel
theorem dX9_happen_91 : decode cX9_happen 91 = .ok (.getfield 19, 3) := by decide +kernel
theorem dX9_happen_94 : decode cX9_happen 94 = .ok (.iload_n 2, 1) := by decide +kernel
theorem dX9_happen_95 : decode cX9_happen 95 = .ok (.dup2, 1) := by decide +kernel
theorem dX9_happen_96 : decode cX9_happen 96 = .ok (.iaload, 1) := by decide +kernel
theorem dX9_happen_97 : decode cX9_happen 97 = .ok (.iload 4, 2) := by decide +kernel
theorem dX9_happen_99 : decode cX9_happen 99 = .ok (.iadd, 1) := by decide +kernel
theorem dX9_happen_100 : decode cX9_happen 100 = .ok (.iastore, 1) := by decide +kernel
theorem dX9_happen_101 : decode cX9_happen 101 = .ok (.aload_n 0, 1) := by decide +kernel
theorem dX9_happen_102 : decode cX9_happen 102 = .ok (.getfield 19, 3) := by decide +kernel
theorem dX9_happen_105 : decode cX9_happen 105 = .ok (.iload_n 3, 1) := by decide +kernel
theorem dX9_happen_106 : decode cX9_happen 106 = .ok (.dup2, 1) := by decide +kernel
theorem dX9_happen_107 : decode cX9_happen 107 = .ok (.iaload, 1) := by decide +kernel
theorem dX9_happen_108 : decode cX9_happen 108 = .ok (.iload 4, 2) := by decide +kernel
theorem dX9_happen_110 : decode cX9_happen 110 = .ok (.isub, 1) := by decide +kernel
theorem dX9_happen_111 : decode cX9_happen 111 = .ok (.iastore, 1) := by decide +kernel
theorem dX9_happen_112 : decode cX9_happen 112 = .ok (.goto 18, 3) := by decide +kernel
theorem dX9_happen_115 : decode cX9_happen 115 = .ok (.aload_n 0, 1) := by decide +kernel
theorem dX9_happen_116 : decode cX9_happen 116 = .ok (.getfield 22, 3) := by decide +kernel
theorem dX9_happen_119 : decode cX9_happen 119 = .ok (.iload_n 2, 1) := by decide +kernel
theorem dX9_happen_120 : decode cX9_happen 120 = .ok (.iload 4, 2) := by decide +kernel
theorem dX9_happen_122 : decode cX9_happen 122 = .ok (.iastore, 1) := by decide +kernel
theorem dX9_happen_123 : decode cX9_happen 123 = .ok (.goto 7, 3) := by decide +kernel
theorem dX9_happen_126 : decode cX9_happen 126 = .ok (.aload_n 0, 1) := by decide +kernel
theorem dX9_happen_127 : decode cX9_happen 127 = .ok (.invokevirtual 195, 3) := by decide +kernel
theorem dX9_happen_130 : decode cX9_happen 130 = .ok (.return_, 1) := by decide +kernel
theorem dX9_store_0 : decode cX9_store 0 = .ok (.iconst 0, 1) := by decide +kernel
theorem dX9_store_1 : decode cX9_store 1 = .ok (.istore_n 2, 1) := by decide +kernel
theorem dX9_store_2 : decode cX9_store 2 = .ok (.iload_n 2, 1) := by decide +kernel
theorem dX9_store_3 : decode cX9_store 3 = .ok (.bipush 6, 2) := by decide +kernel
theorem dX9_store_5 : decode cX9_store 5 = .ok (.if_icmp .ge 66, 3) := by decide +kernel
theorem dX9_store_8 : decode cX9_store 8 = .ok (.aload_n 1, 1) := by decide +kernel
theorem dX9_store_9 : decode cX9_store 9 = .ok (.iload_n 2, 1) := by decide +kernel
theorem dX9_store_10 : decode cX9_store 10 = .ok (.aload_n 0, 1) := by decide +kernel
theorem dX9_store_11 : decode cX9_store 11 = .ok (.getfield 7, 3) := by decide +kernel
theorem dX9_store_14 : decode cX9_store 14 = .ok (.iload_n 2, 1) := by decide +kernel
theorem dX9_store_15 : decode cX9_store 15 = .ok (.iaload, 1) := by decide +kernel
theorem dX9_store_16 : decode cX9_store 16 = .ok (.iastore, 1) := by decide +kernel
theorem dX9_store_17 : decode cX9_store 17 = .ok (.aload_n 1, 1) := by decide +kernel
theorem dX9_store_18 : decode cX9_store 18 = .ok (.bipush 6, 2) := by decide +kernel
theorem dX9_store_20 : decode cX9_store 20 = .ok (.iload_n 2, 1) := by decide +kernel
theorem dX9_store_21 : decode cX9_store 21 = .ok (.iadd, 1) := by decide +kernel
theorem dX9_store_22 : decode cX9_store 22 = .ok (.aload_n 0, 1) := by decide +kernel
theorem dX9_store_23 : decode cX9_store 23 = .ok (.getfield 16, 3) := by decide +kernel
theorem dX9_store_26 : decode cX9_store 26 = .ok (.iload_n 2, 1) := by decide +kernel
theorem dX9_store_27 : decode cX9_store 27 = .ok (.iaload, 1) := by decide +kernel
theorem dX9_store_28 : decode cX9_store 28 = .ok (.iastore, 1) := by decide +kernel
theorem dX9_store_29 : decode cX9_store 29 = .ok (.aload_n 1, 1) := by decide +kernel
theorem dX9_store_30 : decode cX9_store 30 = .ok (.bipush 12, 2) := by decide +kernel
theorem dX9_store_32 : decode cX9_store 32 = .ok (.iload_n 2, 1) := by decide +kernel
theorem dX9_store_33 : decode cX9_store 33 = .ok (.iadd, 1) := by decide +kernel
theorem dX9_store_34 : decode cX9_store 34 = .ok (.aload_n 0, 1) := by decide +kernel
theorem dX9_store_35 : decode cX9_store 35 = .ok (.getfield 19, 3) := by decide +kernel
theorem dX9_store_38 : decode cX9_store 38 = .ok (.iload_n 2, 1) := by decide +kernel
theorem dX9_store_39 : decode cX9_store 39 = .ok (.iaload, 1) := by decide +kernel
theorem dX9_store_40 : decode cX9_store 40 = .ok (.iastore, 1) := by decide +kernel
theorem dX9_store_41 : decode cX9_store 41 = .ok (.aload_n 1, 1) := by decide +kernel
theorem dX9_store_42 : decode cX9_store 42 = .ok (.bipush 18, 2) := by decide +kernel
theorem dX9_store_44 : decode cX9_store 44 = .ok (.iload_n 2, 1) := by decide +kernel
theorem dX9_store_45 : decode cX9_store 45 = .ok (.iadd, 1) := by decide +kernel
theorem dX9_store_46 : decode cX9_store 46 = .ok (.aload_n 0, 1) := by decide +kernel
theorem dX9_store_47 : decode cX9_store 47 = .ok (.getfield 22, 3) := by decide +kernel
theorem dX9_store_50 : decode cX9_store 50 = .ok (.iload_n 2, 1) := by decide +kernel
theorem dX9_store_51 : decode cX9_store 51 = .ok (.iaload, 1) := by decide +kernel
theorem dX9_store_52 : decode cX9_store 52 = .ok (.iastore, 1) := by decide +kernel
theorem dX9_store_53 : decode cX9_store 53 = .ok (.aload_n 1, 1) := by decide +kernel
theorem dX9_store_54 : decode cX9_store 54 = .ok (.bipush 24, 2) := by decide +kernel
theorem dX9_store_56 : decode cX9_store 56 = .ok (.iload_n 2, 1) := by decide +kernel
theorem dX9_store_57 : decode cX9_store 57 = .ok (.iadd, 1) := by decide +kernel
theorem dX9_store_58 : decode cX9_store 58 = .ok (.aload_n 0, 1) := by decide +kernel
theorem dX9_store_59 : decode cX9_store 59 = .ok (.getfield 25, 3) := by decide +kernel
theorem dX9_store_62 : decode cX9_store 62 = .ok (.iload_n 2, 1) := by decide +kernel
theorem dX9_store_63 : decode cX9_store 63 = .ok (.iaload, 1) := by decide +kernel
theorem dX9_store_64 : decode cX9_store 64 = .ok (.iastore, 1) := by decide +kernel
theorem dX9_store_65 : decode cX9_store 65 = .ok (.iinc 2 1, 3) := by decide +kernel
theorem dX9_store_68 : decode cX9_store 68 = .ok (.goto (-66), 3) := by decide +kernel
theorem dX9_store_71 : decode cX9_store 71 = .ok (.return_, 1) := by decide +kernel
theorem dX9_lay_0 : decode cX9_lay 0 = .ok (.iconst 0, 1) := by decide +kernel
theorem dX9_lay_1 : decode cX9_lay 1 = .ok (.istore_n 2, 1) := by decide +kernel
theorem dX9_lay_2 : decode cX9_lay 2 = .ok (.iload_n 2, 1) := by decide +kernel
theorem dX9_lay_3 : decode cX9_lay 3 = .ok (.bipush 6, 2) := by decide +kernel
theorem dX9_lay_5 : decode cX9_lay 5 = .ok (.if_icmp .ge 66, 3) := by decide +kernel
theorem dX9_lay_8 : decode cX9_lay 8 = .ok (.aload_n 0, 1) := by decide +kernel
theorem dX9_lay_9 : decode cX9_lay 9 = .ok (.getfield 7, 3) := by decide +kernel
theorem dX9_lay_12 : decode cX9_lay 12 = .ok (.iload_n 2, 1) := by decide +kernel
theorem dX9_lay_13 : decode cX9_lay 13 = .ok (.aload_n 1, 1) := by decide +kernel
theorem dX9_lay_14 : decode cX9_lay 14 = .ok (.iload_n 2, 1) := by decide +kernel
theorem dX9_lay_15 : decode cX9_lay 15 = .ok (.iaload, 1) := by decide +kernel
theorem dX9_lay_16 : decode cX9_lay 16 = .ok (.iastore, 1) := by decide +kernel
theorem dX9_lay_17 : decode cX9_lay 17 = .ok (.aload_n 0, 1) := by decide +kernel
theorem dX9_lay_18 : decode cX9_lay 18 = .ok (.getfield 16, 3) := by decide +kernel
theorem dX9_lay_21 : decode cX9_lay 21 = .ok (.iload_n 2, 1) := by decide +kernel
theorem dX9_lay_22 : decode cX9_lay 22 = .ok (.aload_n 1, 1) := by decide +kernel
theorem dX9_lay_23 : decode cX9_lay 23 = .ok (.bipush 6, 2) := by decide +kernel
theorem dX9_lay_25 : decode cX9_lay 25 = .ok (.iload_n 2, 1) := by decide +kernel
theorem dX9_lay_26 : decode cX9_lay 26 = .ok (.iadd, 1) := by decide +kernel
theorem dX9_lay_27 : decode cX9_lay 27 = .ok (.iaload, 1) := by decide +kernel
theorem dX9_lay_28 : decode cX9_lay 28 = .ok (.iastore, 1) := by decide +kernel
theorem dX9_lay_29 : decode cX9_lay 29 = .ok (.aload_n 0, 1) := by decide +kernel
theorem dX9_lay_30 : decode cX9_lay 30 = .ok (.getfield 19, 3) := by decide +kernel
theorem dX9_lay_33 : decode cX9_lay 33 = .ok (.iload_n 2, 1) := by decide +kernel
theorem dX9_lay_34 : decode cX9_lay 34 = .ok (.aload_n 1, 1) := by decide +kernel
theorem dX9_lay_35 : decode cX9_lay 35 = .ok (.bipush 12, 2) := by decide +kernel
theorem dX9_lay_37 : decode cX9_lay 37 = .ok (.iload_n 2, 1) := by decide +kernel
theorem dX9_lay_38 : decode cX9_lay 38 = .ok (.iadd, 1) := by decide +kernel
theorem dX9_lay_39 : decode cX9_lay 39 = .ok (.iaload, 1) := by decide +kernel
theorem dX9_lay_40 : decode cX9_lay 40 = .ok (.iastore, 1) := by decide +kernel
theorem dX9_lay_41 : decode cX9_lay 41 = .ok (.aload_n 0, 1) := by decide +kernel
theorem dX9_lay_42 : decode cX9_lay 42 = .ok (.getfield 22, 3) := by decide +kernel
theorem dX9_lay_45 : decode cX9_lay 45 = .ok (.iload_n 2, 1) := by decide +kernel
theorem dX9_lay_46 : decode cX9_lay 46 = .ok (.aload_n 1, 1) := by decide +kernel
theorem dX9_lay_47 : decode cX9_lay 47 = .ok (.bipush 18, 2) := by decide +kernel
theorem dX9_lay_49 : decode cX9_lay 49 = .ok (.iload_n 2, 1) := by decide +kernel
theorem dX9_lay_50 : decode cX9_lay 50 = .ok (.iadd, 1) := by decide +kernel
theorem dX9_lay_51 : decode cX9_lay 51 = .ok (.iaload, 1) := by decide +kernel
theorem dX9_lay_52 : decode cX9_lay 52 = .ok (.iastore, 1) := by decide +kernel
theorem dX9_lay_53 : decode cX9_lay 53 = .ok (.aload_n 0, 1) := by decide +kernel
theorem dX9_lay_54 : decode cX9_lay 54 = .ok (.getfield 25, 3) := by decide +kernel
theorem dX9_lay_57 : decode cX9_lay 57 = .ok (.iload_n 2, 1) := by decide +kernel
theorem dX9_lay_58 : decode cX9_lay 58 = .ok (.aload_n 1, 1) := by decide +kernel
theorem dX9_lay_59 : decode cX9_lay 59 = .ok (.bipush 24, 2) := by decide +kernel
theorem dX9_lay_61 : decode cX9_lay 61 = .ok (.iload_n 2, 1) := by decide +kernel
theorem dX9_lay_62 : decode cX9_lay 62 = .ok (.iadd, 1) := by decide +kernel
theorem dX9_lay_63 : decode cX9_lay 63 = .ok (.iaload, 1) := by decide +kernel
theorem dX9_lay_64 : decode cX9_lay 64 = .ok (.iastore, 1) := by decide +kernel
theorem dX9_lay_65 : decode cX9_lay 65 = .ok (.iinc 2 1, 3) := by decide +kernel
theorem dX9_lay_68 : decode cX9_lay 68 = .ok (.goto (-66), 3) := by decide +kernel
theorem dX9_lay_71 : decode cX9_lay 71 = .ok (.return_, 1) := by decide +kernel
theorem dX9_beginCount_0 : decode cX9_beginCount 0 = .ok (.aload_n 0, 1) := by decide +kernel
theorem dX9_beginCount_1 : decode cX9_beginCount 1 = .ok (.iconst 0, 1) := by decide +kernel
theorem dX9_beginCount_2 : decode cX9_beginCount 2 = .ok (.putfield 172, 3) := by decide +kernel
theorem dX9_beginCount_5 : decode cX9_beginCount 5 = .ok (.aload_n 0, 1) := by decide +kernel
theorem dX9_beginCount_6 : decode cX9_beginCount 6 = .ok (.bipush (-6), 2) := by decide +kernel
theorem dX9_beginCount_8 : decode cX9_beginCount 8 = .ok (.putfield 178, 3) := by decide +kernel
theorem dX9_beginCount_11 : decode cX9_beginCount 11 = .ok (.aload_n 0, 1) := by decide +kernel
theorem dX9_beginCount_12 : decode cX9_beginCount 12 = .ok (.bipush (-6), 2) := by decide +kernel
theorem dX9_beginCount_14 : decode cX9_beginCount 14 = .ok (.putfield 181, 3) := by decide +kernel
theorem dX9_beginCount_17 : decode cX9_beginCount 17 = .ok (.aload_n 0, 1) := by decide +kernel
theorem dX9_beginCount_18 : decode cX9_beginCount 18 = .ok (.iconst 0, 1) := by decide +kernel
theorem dX9_beginCount_19 : decode cX9_beginCount 19 = .ok (.putfield 184, 3) := by decide +kernel
theorem dX9_beginCount_22 : decode cX9_beginCount 22 = .ok (.aload_n 0, 1) := by decide +kernel
theorem dX9_beginCount_23 : decode cX9_beginCount 23 = .ok (.iconst 0, 1) := by decide +kernel
theorem dX9_beginCount_24 : decode cX9_beginCount 24 = .ok (.putfield 169, 3) := by decide +kernel
theorem dX9_beginCount_27 : decode cX9_beginCount 27 = .ok (.return_, 1) := by decide +kernel
theorem dX9_goHours_0 : decode cX9_goHours 0 = .ok (.aload_n 0, 1) := by decide +kernel
theorem dX9_goHours_1 : decode cX9_goHours 1 = .ok (.invokevirtual 198, 3) := by decide +kernel
theorem dX9_goHours_4 : decode cX9_goHours 4 = .ok (.aload_n 0, 1) := by decide +kernel
theorem dX9_goHours_5 : decode cX9_goHours 5 = .ok (.bipush (-6), 2) := by decide +kernel
theorem dX9_goHours_7 : decode cX9_goHours 7 = .ok (.putfield 201, 3) := by decide +kernel
theorem dX9_goHours_10 : decode cX9_goHours 10 = .ok (.aload_n 0, 1) := by decide +kernel
theorem dX9_goHours_11 : decode cX9_goHours 11 = .ok (.bipush (-6), 2) := by decide +kernel
theorem dX9_goHours_13 : decode cX9_goHours 13 = .ok (.putfield 204, 3) := by decide +kernel
theorem dX9_goHours_16 : decode cX9_goHours 16 = .ok (.iconst 0, 1) := by decide +kernel
theorem dX9_goHours_17 : decode cX9_goHours 17 = .ok (.istore_n 1, 1) := by decide +kernel
theorem dX9_goHours_18 : decode cX9_goHours 18 = .ok (.iload_n 1, 1) := by decide +kernel
theorem dX9_goHours_19 : decode cX9_goHours 19 = .ok (.aload_n 0, 1) := by decide +kernel
theorem dX9_goHours_20 : decode cX9_goHours 20 = .ok (.getfield 130, 3) := by decide +kernel
theorem dX9_goHours_23 : decode cX9_goHours 23 = .ok (.if_icmp .ge 110, 3) := by decide +kernel
theorem dX9_goHours_26 : decode cX9_goHours 26 = .ok (.aload_n 0, 1) := by decide +kernel
theorem dX9_goHours_27 : decode cX9_goHours 27 = .ok (.getfield 201, 3) := by decide +kernel
theorem dX9_goHours_30 : decode cX9_goHours 30 = .ok (.ifCond .ge 103, 3) := by decide +kernel
theorem dX9_goHours_33 : decode cX9_goHours 33 = .ok (.aload_n 0, 1) := by decide +kernel
theorem dX9_goHours_34 : decode cX9_goHours 34 = .ok (.iload_n 1, 1) := by decide +kernel
theorem dX9_goHours_35 : decode cX9_goHours 35 = .ok (.putfield 175, 3) := by decide +kernel
theorem dX9_goHours_38 : decode cX9_goHours 38 = .ok (.aload_n 0, 1) := by decide +kernel
theorem dX9_goHours_39 : decode cX9_goHours 39 = .ok (.aload_n 0, 1) := by decide +kernel
theorem dX9_goHours_40 : decode cX9_goHours 40 = .ok (.getfield 37, 3) := by decide +kernel
theorem dX9_goHours_43 : decode cX9_goHours 43 = .ok (.iload_n 1, 1) := by decide +kernel
theorem dX9_goHours_44 : decode cX9_goHours 44 = .ok (.iaload, 1) := by decide +kernel
theorem dX9_goHours_45 : decode cX9_goHours 45 = .ok (.aload_n 0, 1) := by decide +kernel
theorem dX9_goHours_46 : decode cX9_goHours 46 = .ok (.getfield 40, 3) := by decide +kernel
theorem dX9_goHours_49 : decode cX9_goHours 49 = .ok (.iload_n 1, 1) := by decide +kernel
theorem dX9_goHours_50 : decode cX9_goHours 50 = .ok (.iaload, 1) := by decide +kernel
theorem dX9_goHours_51 : decode cX9_goHours 51 = .ok (.aload_n 0, 1) := by decide +kernel
theorem dX9_goHours_52 : decode cX9_goHours 52 = .ok (.getfield 43, 3) := by decide +kernel
theorem dX9_goHours_55 : decode cX9_goHours 55 = .ok (.iload_n 1, 1) := by decide +kernel
theorem dX9_goHours_56 : decode cX9_goHours 56 = .ok (.iaload, 1) := by decide +kernel
theorem dX9_goHours_57 : decode cX9_goHours 57 = .ok (.aload_n 0, 1) := by decide +kernel
theorem dX9_goHours_58 : decode cX9_goHours 58 = .ok (.getfield 46, 3) := by decide +kernel
theorem dX9_goHours_61 : decode cX9_goHours 61 = .ok (.iload_n 1, 1) := by decide +kernel
theorem dX9_goHours_62 : decode cX9_goHours 62 = .ok (.iaload, 1) := by decide +kernel
theorem dX9_goHours_63 : decode cX9_goHours 63 = .ok (.invokevirtual 207, 3) := by decide +kernel
theorem dX9_goHours_66 : decode cX9_goHours 66 = .ok (.istore_n 2, 1) := by decide +kernel
theorem dX9_goHours_67 : decode cX9_goHours 67 = .ok (.aload_n 0, 1) := by decide +kernel
theorem dX9_goHours_68 : decode cX9_goHours 68 = .ok (.iload_n 2, 1) := by decide +kernel
theorem dX9_goHours_69 : decode cX9_goHours 69 = .ok (.ifCond .le 7, 3) := by decide +kernel
theorem dX9_goHours_72 : decode cX9_goHours 72 = .ok (.iload_n 1, 1) := by decide +kernel
theorem dX9_goHours_73 : decode cX9_goHours 73 = .ok (.goto 5, 3) := by decide +kernel
theorem dX9_goHours_76 : decode cX9_goHours 76 = .ok (.bipush (-6), 2) := by decide +kernel
theorem dX9_goHours_78 : decode cX9_goHours 78 = .ok (.putfield 201, 3) := by decide +kernel
theorem dX9_goHours_81 : decode cX9_goHours 81 = .ok (.aload_n 0, 1) := by decide +kernel
theorem dX9_goHours_82 : decode cX9_goHours 82 = .ok (.iload_n 2, 1) := by decide +kernel
theorem dX9_goHours_83 : decode cX9_goHours 83 = .ok (.ifCond .le 7, 3) := by decide +kernel
theorem dX9_goHours_86 : decode cX9_goHours 86 = .ok (.iload_n 2, 1) := by decide +kernel
theorem dX9_goHours_87 : decode cX9_goHours 87 = .ok (.goto 5, 3) := by decide +kernel
theorem dX9_goHours_90 : decode cX9_goHours 90 = .ok (.bipush (-6), 2) := by decide +kernel
theorem dX9_goHours_92 : decode cX9_goHours 92 = .ok (.putfield 204, 3) := by decide +kernel
theorem dX9_goHours_95 : decode cX9_goHours 95 = .ok (.iload_n 2, 1) := by decide +kernel
theorem dX9_goHours_96 : decode cX9_goHours 96 = .ok (.ifCond .ne 31, 3) := by decide +kernel
theorem dX9_goHours_99 : decode cX9_goHours 99 = .ok (.aload_n 0, 1) := by decide +kernel
theorem dX9_goHours_100 : decode cX9_goHours 100 = .ok (.aload_n 0, 1) := by decide +kernel
theorem dX9_goHours_101 : decode cX9_goHours 101 = .ok (.getfield 37, 3) := by decide +kernel
theorem dX9_goHours_104 : decode cX9_goHours 104 = .ok (.iload_n 1, 1) := by decide +kernel
theorem dX9_goHours_105 : decode cX9_goHours 105 = .ok (.iaload, 1) := by decide +kernel
theorem dX9_goHours_106 : decode cX9_goHours 106 = .ok (.aload_n 0, 1) := by decide +kernel
theorem dX9_goHours_107 : decode cX9_goHours 107 = .ok (.getfield 40, 3) := by decide +kernel
theorem dX9_goHours_110 : decode cX9_goHours 110 = .ok (.iload_n 1, 1) := by decide +kernel
theorem dX9_goHours_111 : decode cX9_goHours 111 = .ok (.iaload, 1) := by decide +kernel
theorem dX9_goHours_112 : decode cX9_goHours 112 = .ok (.aload_n 0, 1) := by decide +kernel
theorem dX9_goHours_113 : decode cX9_goHours 113 = .ok (.getfield 43, 3) := by decide +kernel
theorem dX9_goHours_116 : decode cX9_goHours 116 = .ok (.iload_n 1, 1) := by decide +kernel
theorem dX9_goHours_117 : decode cX9_goHours 117 = .ok (.iaload, 1) := by decide +kernel
theorem dX9_goHours_118 : decode cX9_goHours 118 = .ok (.aload_n 0, 1) := by decide +kernel
theorem dX9_goHours_119 : decode cX9_goHours 119 = .ok (.getfield 46, 3) := by decide +kernel
theorem dX9_goHours_122 : decode cX9_goHours 122 = .ok (.iload_n 1, 1) := by decide +kernel
theorem dX9_goHours_123 : decode cX9_goHours 123 = .ok (.iaload, 1) := by decide +kernel
theorem dX9_goHours_124 : decode cX9_goHours 124 = .ok (.invokevirtual 211, 3) := by decide +kernel
theorem dX9_goHours_127 : decode cX9_goHours 127 = .ok (.iinc 1 1, 3) := by decide +kernel
theorem dX9_goHours_130 : decode cX9_goHours 130 = .ok (.goto (-112), 3) := by decide +kernel
theorem dX9_goHours_133 : decode cX9_goHours 133 = .ok (.return_, 1) := by decide +kernel
theorem dX9_refusal_0 : decode cX9_refusal 0 = .ok (.aload_n 0, 1) := by decide +kernel
theorem dX9_refusal_1 : decode cX9_refusal 1 = .ok (.invokevirtual 215, 3) := by decide +kernel
theorem dX9_refusal_4 : decode cX9_refusal 4 = .ok (.ifCond .lt 6, 3) := by decide +kernel
theorem dX9_refusal_7 : decode cX9_refusal 7 = .ok (.bipush (-5), 2) := by decide +kernel
theorem dX9_refusal_9 : decode cX9_refusal 9 = .ok (.ireturn, 1) := by decide +kernel
theorem dX9_refusal_10 : decode cX9_refusal 10 = .ok (.aload_n 0, 1) := by decide +kernel
theorem dX9_refusal_11 : decode cX9_refusal 11 = .ok (.aload_n 0, 1) := by decide +kernel
theorem dX9_refusal_12 : decode cX9_refusal 12 = .ok (.getfield 49, 3) := by decide +kernel
theorem dX9_refusal_15 : decode cX9_refusal 15 = .ok (.invokevirtual 218, 3) := by decide +kernel
theorem dX9_refusal_18 : decode cX9_refusal 18 = .ok (.aload_n 0, 1) := by decide +kernel
theorem dX9_refusal_19 : decode cX9_refusal 19 = .ok (.invokevirtual 222, 3) := by decide +kernel
theorem dX9_refusal_22 : decode cX9_refusal 22 = .ok (.aload_n 0, 1) := by decide +kernel
theorem dX9_refusal_23 : decode cX9_refusal 23 = .ok (.aload_n 0, 1) := by decide +kernel
theorem dX9_refusal_24 : decode cX9_refusal 24 = .ok (.getfield 52, 3) := by decide +kernel
theorem dX9_refusal_27 : decode cX9_refusal 27 = .ok (.invokevirtual 218, 3) := by decide +kernel
theorem dX9_refusal_30 : decode cX9_refusal 30 = .ok (.aload_n 0, 1) := by decide +kernel
theorem dX9_refusal_31 : decode cX9_refusal 31 = .ok (.aload_n 0, 1) := by decide +kernel
theorem dX9_refusal_32 : decode cX9_refusal 32 = .ok (.getfield 49, 3) := by decide +kernel
theorem dX9_refusal_35 : decode cX9_refusal 35 = .ok (.invokevirtual 225, 3) := by decide +kernel
theorem dX9_refusal_38 : decode cX9_refusal 38 = .ok (.aload_n 0, 1) := by decide +kernel
theorem dX9_refusal_39 : decode cX9_refusal 39 = .ok (.getfield 201, 3) := by decide +kernel
theorem dX9_refusal_42 : decode cX9_refusal 42 = .ok (.ifCond .lt 8, 3) := by decide +kernel
theorem dX9_refusal_45 : decode cX9_refusal 45 = .ok (.bipush (-3), 2) := by decide +kernel
theorem dX9_refusal_47 : decode cX9_refusal 47 = .ok (.goto 5, 3) := by decide +kernel
theorem dX9_refusal_50 : decode cX9_refusal 50 = .ok (.bipush (-6), 2) := by decide +kernel
theorem dX9_refusal_52 : decode cX9_refusal 52 = .ok (.ireturn, 1) := by decide +kernel
theorem dX9_judge_0 : decode cX9_judge 0 = .ok (.iload_n 1, 1) := by decide +kernel
theorem dX9_judge_1 : decode cX9_judge 1 = .ok (.i2l, 1) := by decide +kernel
theorem dX9_judge_2 : decode cX9_judge 2 = .ok (.lconst 0, 1) := by decide +kernel
theorem dX9_judge_3 : decode cX9_judge 3 = .ok (.ldc2_w 228, 3) := by decide +kernel
theorem dX9_judge_6 : decode cX9_judge 6 = .ok (.invokestatic 90, 3) := by decide +kernel
theorem dX9_judge_9 : decode cX9_judge 9 = .ok (.ifCond .ne 6, 3) := by decide +kernel
theorem dX9_judge_12 : decode cX9_judge 12 = .ok (.bipush (-2), 2) := by decide +kernel
theorem dX9_judge_14 : decode cX9_judge 14 = .ok (.ireturn, 1) := by decide +kernel
theorem dX9_judge_15 : decode cX9_judge 15 = .ok (.aload_n 0, 1) := by decide +kernel
theorem dX9_judge_16 : decode cX9_judge 16 = .ok (.invokevirtual 230, 3) := by decide +kernel
theorem dX9_judge_19 : decode cX9_judge 19 = .ok (.istore_n 2, 1) := by decide +kernel
theorem dX9_judge_20 : decode cX9_judge 20 = .ok (.iload_n 2, 1) := by decide +kernel
theorem dX9_judge_21 : decode cX9_judge 21 = .ok (.bipush (-5), 2) := by decide +kernel
theorem dX9_judge_23 : decode cX9_judge 23 = .ok (.if_icmp .eq 14, 3) := by decide +kernel
theorem dX9_judge_26 : decode cX9_judge 26 = .ok (.iload_n 1, 1) := by decide +kernel
theorem dX9_judge_27 : decode cX9_judge 27 = .ok (.iconst 1, 1) := by decide +kernel
theorem dX9_judge_28 : decode cX9_judge 28 = .ok (.if_icmp .le 11, 3) := by decide +kernel
theorem dX9_judge_31 : decode cX9_judge 31 = .ok (.iload_n 2, 1) := by decide +kernel
theorem dX9_judge_32 : decode cX9_judge 32 = .ok (.bipush (-3), 2) := by decide +kernel
theorem dX9_judge_34 : decode cX9_judge 34 = .ok (.if_icmp .ne 5, 3) := by decide +kernel
theorem dX9_judge_37 : decode cX9_judge 37 = .ok (.iload_n 2, 1) := by decide +kernel
theorem dX9_judge_38 : decode cX9_judge 38 = .ok (.ireturn, 1) := by decide +kernel
theorem dX9_judge_39 : decode cX9_judge 39 = .ok (.iload_n 1, 1) := by decide +kernel
theorem dX9_judge_40 : decode cX9_judge 40 = .ok (.ifCond .ne 10, 3) := by decide +kernel
theorem dX9_judge_43 : decode cX9_judge 43 = .ok (.aload_n 0, 1) := by decide +kernel
theorem dX9_judge_44 : decode cX9_judge 44 = .ok (.getfield 201, 3) := by decide +kernel
theorem dX9_judge_47 : decode cX9_judge 47 = .ok (.goto 19, 3) := by decide +kernel
theorem dX9_judge_50 : decode cX9_judge 50 = .ok (.iload_n 1, 1) := by decide +kernel
theorem dX9_judge_51 : decode cX9_judge 51 = .ok (.iconst 1, 1) := by decide +kernel
theorem dX9_judge_52 : decode cX9_judge 52 = .ok (.if_icmp .ne 10, 3) := by decide +kernel
theorem dX9_judge_55 : decode cX9_judge 55 = .ok (.aload_n 0, 1) := by decide +kernel
theorem dX9_judge_56 : decode cX9_judge 56 = .ok (.getfield 204, 3) := by decide +kernel
theorem dX9_judge_59 : decode cX9_judge 59 = .ok (.goto 7, 3) := by decide +kernel
theorem dX9_judge_62 : decode cX9_judge 62 = .ok (.aload_n 0, 1) := by decide +kernel
theorem dX9_judge_63 : decode cX9_judge 63 = .ok (.getfield 172, 3) := by decide +kernel
theorem dX9_judge_66 : decode cX9_judge 66 = .ok (.ireturn, 1) := by decide +kernel
theorem dX9_behind_0 : decode cX9_behind 0 = .ok (.aload_n 0, 1) := by decide +kernel
theorem dX9_behind_1 : decode cX9_behind 1 = .ok (.iload_n 1, 1) := by decide +kernel
theorem dX9_behind_2 : decode cX9_behind 2 = .ok (.invokevirtual 107, 3) := by decide +kernel
theorem dX9_behind_5 : decode cX9_behind 5 = .ok (.ifCond .ne 5, 3) := by decide +kernel
theorem dX9_behind_8 : decode cX9_behind 8 = .ok (.iconst (-1), 1) := by decide +kernel
theorem dX9_behind_9 : decode cX9_behind 9 = .ok (.ireturn, 1) := by decide +kernel
theorem dX9_behind_10 : decode cX9_behind 10 = .ok (.iload_n 2, 1) := by decide +kernel
theorem dX9_behind_11 : decode cX9_behind 11 = .ok (.i2l, 1) := by decide +kernel
theorem dX9_behind_12 : decode cX9_behind 12 = .ok (.lconst 0, 1) := by decide +kernel
theorem dX9_behind_13 : decode cX9_behind 13 = .ok (.ldc2_w 233, 3) := by decide +kernel
theorem dX9_behind_16 : decode cX9_behind 16 = .ok (.invokestatic 90, 3) := by decide +kernel
theorem dX9_behind_19 : decode cX9_behind 19 = .ok (.ifCond .ne 6, 3) := by decide +kernel
theorem dX9_behind_22 : decode cX9_behind 22 = .ok (.bipush (-2), 2) := by decide +kernel
theorem dX9_behind_24 : decode cX9_behind 24 = .ok (.ireturn, 1) := by decide +kernel
theorem dX9_behind_25 : decode cX9_behind 25 = .ok (.aload_n 0, 1) := by decide +kernel
theorem dX9_behind_26 : decode cX9_behind 26 = .ok (.invokevirtual 230, 3) := by decide +kernel
theorem dX9_behind_29 : decode cX9_behind 29 = .ok (.istore_n 3, 1) := by decide +kernel
theorem dX9_behind_30 : decode cX9_behind 30 = .ok (.iload_n 3, 1) := by decide +kernel
theorem dX9_behind_31 : decode cX9_behind 31 = .ok (.bipush (-6), 2) := by decide +kernel
theorem dX9_behind_33 : decode cX9_behind 33 = .ok (.if_icmp .eq 7, 3) := by decide +kernel
theorem dX9_behind_36 : decode cX9_behind 36 = .ok (.iload_n 3, 1) := by decide +kernel
theorem dX9_behind_37 : decode cX9_behind 37 = .ok (.goto 14, 3) := by decide +kernel
theorem dX9_behind_40 : decode cX9_behind 40 = .ok (.aload_n 0, 1) := by decide +kernel
theorem dX9_behind_41 : decode cX9_behind 41 = .ok (.getfield 52, 3) := by decide +kernel
theorem dX9_behind_44 : decode cX9_behind 44 = .ok (.bipush 6, 2) := by decide +kernel
theorem dX9_behind_46 : decode cX9_behind 46 = .ok (.iload_n 2, 1) := by decide +kernel
theorem dX9_behind_47 : decode cX9_behind 47 = .ok (.imul, 1) := by decide +kernel
theorem dX9_behind_48 : decode cX9_behind 48 = .ok (.iload_n 1, 1) := by decide +kernel
theorem dX9_behind_49 : decode cX9_behind 49 = .ok (.iadd, 1) := by decide +kernel
theorem dX9_behind_50 : decode cX9_behind 50 = .ok (.iaload, 1) := by decide +kernel
theorem dX9_behind_51 : decode cX9_behind 51 = .ok (.ireturn, 1) := by decide +kernel
theorem dX9_slipped_0 : decode cX9_slipped 0 = .ok (.iload_n 1, 1) := by decide +kernel
theorem dX9_slipped_1 : decode cX9_slipped 1 = .ok (.i2l, 1) := by decide +kernel
theorem dX9_slipped_2 : decode cX9_slipped 2 = .ok (.lconst 0, 1) := by decide +kernel
theorem dX9_slipped_3 : decode cX9_slipped 3 = .ok (.ldc2_w 235, 3) := by decide +kernel
theorem dX9_slipped_6 : decode cX9_slipped 6 = .ok (.invokestatic 90, 3) := by decide +kernel
theorem dX9_slipped_9 : decode cX9_slipped 9 = .ok (.ifCond .ne 6, 3) := by decide +kernel
theorem dX9_slipped_12 : decode cX9_slipped 12 = .ok (.bipush (-2), 2) := by decide +kernel
theorem dX9_slipped_14 : decode cX9_slipped 14 = .ok (.ireturn, 1) := by decide +kernel
theorem dX9_slipped_15 : decode cX9_slipped 15 = .ok (.aload_n 0, 1) := by decide +kernel
theorem dX9_slipped_16 : decode cX9_slipped 16 = .ok (.invokevirtual 230, 3) := by decide +kernel
theorem dX9_slipped_19 : decode cX9_slipped 19 = .ok (.istore_n 2, 1) := by decide +kernel
theorem dX9_slipped_20 : decode cX9_slipped 20 = .ok (.iload_n 2, 1) := by decide +kernel
theorem dX9_slipped_21 : decode cX9_slipped 21 = .ok (.bipush (-6), 2) := by decide +kernel
theorem dX9_slipped_23 : decode cX9_slipped 23 = .ok (.if_icmp .eq 5, 3) := by decide +kernel
theorem dX9_slipped_26 : decode cX9_slipped 26 = .ok (.iload_n 2, 1) := by decide +kernel
theorem dX9_slipped_27 : decode cX9_slipped 27 = .ok (.ireturn, 1) := by decide +kernel
theorem dX9_slipped_28 : decode cX9_slipped 28 = .ok (.iload_n 1, 1) := by decide +kernel
theorem dX9_slipped_29 : decode cX9_slipped 29 = .ok (.ifCond .ne 10, 3) := by decide +kernel
theorem dX9_slipped_32 : decode cX9_slipped 32 = .ok (.aload_n 0, 1) := by decide +kernel
theorem dX9_slipped_33 : decode cX9_slipped 33 = .ok (.getfield 178, 3) := by decide +kernel
theorem dX9_slipped_36 : decode cX9_slipped 36 = .ok (.goto 31, 3) := by decide +kernel
theorem dX9_slipped_39 : decode cX9_slipped 39 = .ok (.iload_n 1, 1) := by decide +kernel
theorem dX9_slipped_40 : decode cX9_slipped 40 = .ok (.iconst 1, 1) := by decide +kernel
theorem dX9_slipped_41 : decode cX9_slipped 41 = .ok (.if_icmp .ne 10, 3) := by decide +kernel
theorem dX9_slipped_44 : decode cX9_slipped 44 = .ok (.aload_n 0, 1) := by decide +kernel
theorem dX9_slipped_45 : decode cX9_slipped 45 = .ok (.getfield 181, 3) := by decide +kernel
theorem dX9_slipped_48 : decode cX9_slipped 48 = .ok (.goto 19, 3) := by decide +kernel
theorem dX9_slipped_51 : decode cX9_slipped 51 = .ok (.iload_n 1, 1) := by decide +kernel
theorem dX9_slipped_52 : decode cX9_slipped 52 = .ok (.iconst 2, 1) := by decide +kernel
theorem dX9_slipped_53 : decode cX9_slipped 53 = .ok (.if_icmp .ne 10, 3) := by decide +kernel
theorem dX9_slipped_56 : decode cX9_slipped 56 = .ok (.aload_n 0, 1) := by decide +kernel
theorem dX9_slipped_57 : decode cX9_slipped 57 = .ok (.getfield 184, 3) := by decide +kernel
theorem dX9_slipped_60 : decode cX9_slipped 60 = .ok (.goto 7, 3) := by decide +kernel
theorem dX9_slipped_63 : decode cX9_slipped 63 = .ok (.aload_n 0, 1) := by decide +kernel
theorem dX9_slipped_64 : decode cX9_slipped 64 = .ok (.getfield 169, 3) := by decide +kernel
theorem dX9_slipped_67 : decode cX9_slipped 67 = .ok (.ireturn, 1) := by decide +kernel
theorem dX9_done_0 : decode cX9_done 0 = .ok (.aload_n 0, 1) := by decide +kernel
theorem dX9_done_1 : decode cX9_done 1 = .ok (.invokevirtual 230, 3) := by decide +kernel
theorem dX9_done_4 : decode cX9_done 4 = .ok (.istore_n 1, 1) := by decide +kernel
theorem dX9_done_5 : decode cX9_done 5 = .ok (.iload_n 1, 1) := by decide +kernel
theorem dX9_done_6 : decode cX9_done 6 = .ok (.bipush (-6), 2) := by decide +kernel
theorem dX9_done_8 : decode cX9_done 8 = .ok (.if_icmp .eq 5, 3) := by decide +kernel
theorem dX9_done_11 : decode cX9_done 11 = .ok (.iload_n 1, 1) := by decide +kernel
theorem dX9_done_12 : decode cX9_done 12 = .ok (.ireturn, 1) := by decide +kernel
theorem dX9_done_13 : decode cX9_done 13 = .ok (.aload_n 0, 1) := by decide +kernel
theorem dX9_done_14 : decode cX9_done 14 = .ok (.aload_n 0, 1) := by decide +kernel
theorem dX9_done_15 : decode cX9_done 15 = .ok (.getfield 52, 3) := by decide +kernel
theorem dX9_done_18 : decode cX9_done 18 = .ok (.invokevirtual 225, 3) := by decide +kernel
theorem dX9_done_21 : decode cX9_done 21 = .ok (.aload_n 0, 1) := by decide +kernel
theorem dX9_done_22 : decode cX9_done 22 = .ok (.iconst 0, 1) := by decide +kernel
theorem dX9_done_23 : decode cX9_done 23 = .ok (.putfield 123, 3) := by decide +kernel
theorem dX9_done_26 : decode cX9_done 26 = .ok (.aload_n 0, 1) := by decide +kernel
theorem dX9_done_27 : decode cX9_done 27 = .ok (.getfield 130, 3) := by decide +kernel
theorem dX9_done_30 : decode cX9_done 30 = .ok (.ireturn, 1) := by decide +kernel
theorem dX9_hears_0 : decode cX9_hears 0 = .ok (.aload_n 0, 1) := by decide +kernel
theorem dX9_hears_1 : decode cX9_hears 1 = .ok (.iload_n 1, 1) := by decide +kernel
theorem dX9_hears_2 : decode cX9_hears 2 = .ok (.invokevirtual 107, 3) := by decide +kernel
theorem dX9_hears_5 : decode cX9_hears 5 = .ok (.ifCond .eq 11, 3) := by decide +kernel
theorem dX9_hears_8 : decode cX9_hears 8 = .ok (.aload_n 0, 1) := by decide +kernel
theorem dX9_hears_9 : decode cX9_hears 9 = .ok (.iload_n 1, 1) := by decide +kernel
theorem dX9_hears_10 : decode cX9_hears 10 = .ok (.invokevirtual 166, 3) := by decide +kernel
theorem dX9_hears_13 : decode cX9_hears 13 = .ok (.goto 4, 3) := by decide +kernel
theorem dX9_hears_16 : decode cX9_hears 16 = .ok (.iconst (-1), 1) := by decide +kernel
theorem dX9_hears_17 : decode cX9_hears 17 = .ok (.ireturn, 1) := by decide +kernel
theorem dX9_at_0 : decode cX9_at 0 = .ok (.sipush 441, 3) := by decide +kernel
theorem dX9_at_3 : decode cX9_at 3 = .ok (.iload_n 0, 1) := by decide +kernel
theorem dX9_at_4 : decode cX9_at 4 = .ok (.imul, 1) := by decide +kernel
theorem dX9_at_5 : decode cX9_at 5 = .ok (.bipush 21, 2) := by decide +kernel
theorem dX9_at_7 : decode cX9_at 7 = .ok (.iload_n 1, 1) := by decide +kernel
theorem dX9_at_8 : decode cX9_at 8 = .ok (.imul, 1) := by decide +kernel
theorem dX9_at_9 : decode cX9_at 9 = .ok (.iadd, 1) := by decide +kernel
theorem dX9_at_10 : decode cX9_at 10 = .ok (.iload_n 2, 1) := by decide +kernel
theorem dX9_at_11 : decode cX9_at 11 = .ok (.iadd, 1) := by decide +kernel
theorem dX9_at_12 : decode cX9_at 12 = .ok (.ireturn, 1) := by decide +kernel
theorem dX9_layWeights_0 : decode cX9_layWeights 0 = .ok (.iload_n 1, 1) := by decide +kernel
theorem dX9_layWeights_1 : decode cX9_layWeights 1 = .ok (.istore_n 2, 1) := by decide +kernel
theorem dX9_layWeights_2 : decode cX9_layWeights 2 = .ok (.iconst 5, 1) := by decide +kernel
theorem dX9_layWeights_3 : decode cX9_layWeights 3 = .ok (.istore_n 3, 1) := by decide +kernel
theorem dX9_layWeights_4 : decode cX9_layWeights 4 = .ok (.iload_n 3, 1) := by decide +kernel
theorem dX9_layWeights_5 : decode cX9_layWeights 5 = .ok (.ifCond .lt 24, 3) := by decide +kernel
theorem dX9_layWeights_8 : decode cX9_layWeights 8 = .ok (.aload_n 0, 1) := by decide +kernel
theorem dX9_layWeights_9 : decode cX9_layWeights 9 = .ok (.getfield 55, 3) := by decide +kernel
theorem dX9_layWeights_12 : decode cX9_layWeights 12 = .ok (.iload_n 3, 1) := by decide +kernel
theorem dX9_layWeights_13 : decode cX9_layWeights 13 = .ok (.iload_n 2, 1) := by decide +kernel
theorem dX9_layWeights_14 : decode cX9_layWeights 14 = .ok (.bipush 10, 2) := by decide +kernel
theorem dX9_layWeights_16 : decode cX9_layWeights 16 = .ok (.irem, 1) := by decide +kernel
theorem dX9_layWeights_17 : decode cX9_layWeights 17 = .ok (.iastore, 1) := by decide +kernel
theorem dX9_layWeights_18 : decode cX9_layWeights 18 = .ok (.iload_n 2, 1) := by decide +kernel
theorem dX9_layWeights_19 : decode cX9_layWeights 19 = .ok (.bipush 10, 2) := by decide +kernel
theorem dX9_layWeights_21 : decode cX9_layWeights 21 = .ok (.idiv, 1) := by decide +kernel
theorem dX9_layWeights_22 : decode cX9_layWeights 22 = .ok (.istore_n 2, 1) := by decide +kernel
theorem dX9_layWeights_23 : decode cX9_layWeights 23 = .ok (.iinc 3 (-1), 3) := by decide +kernel
theorem dX9_layWeights_26 : decode cX9_layWeights 26 = .ok (.goto (-22), 3) := by decide +kernel
theorem dX9_layWeights_29 : decode cX9_layWeights 29 = .ok (.return_, 1) := by decide +kernel
theorem dX9_slipsIn_0 : decode cX9_slipsIn 0 = .ok (.iload_n 2, 1) := by decide +kernel
theorem dX9_slipsIn_1 : decode cX9_slipsIn 1 = .ok (.aload_n 0, 1) := by decide +kernel
theorem dX9_slipsIn_2 : decode cX9_slipsIn 2 = .ok (.getfield 55, 3) := by decide +kernel
theorem dX9_slipsIn_5 : decode cX9_slipsIn 5 = .ok (.iload_n 1, 1) := by decide +kernel
theorem dX9_slipsIn_6 : decode cX9_slipsIn 6 = .ok (.iaload, 1) := by decide +kernel
theorem dX9_slipsIn_7 : decode cX9_slipsIn 7 = .ok (.iadd, 1) := by decide +kernel
theorem dX9_slipsIn_8 : decode cX9_slipsIn 8 = .ok (.aload_n 0, 1) := by decide +kernel
theorem dX9_slipsIn_9 : decode cX9_slipsIn 9 = .ok (.getfield 81, 3) := by decide +kernel
theorem dX9_slipsIn_12 : decode cX9_slipsIn 12 = .ok (.if_icmp .le 7, 3) := by decide +kernel
theorem dX9_slipsIn_15 : decode cX9_slipsIn 15 = .ok (.iconst 1, 1) := by decide +kernel
theorem dX9_slipsIn_16 : decode cX9_slipsIn 16 = .ok (.goto 4, 3) := by decide +kernel
theorem dX9_slipsIn_19 : decode cX9_slipsIn 19 = .ok (.iconst 0, 1) := by decide +kernel
theorem dX9_slipsIn_20 : decode cX9_slipsIn 20 = .ok (.ireturn, 1) := by decide +kernel
theorem dX9_costBy_0 : decode cX9_costBy 0 = .ok (.aload_n 0, 1) := by decide +kernel
theorem dX9_costBy_1 : decode cX9_costBy 1 = .ok (.iload_n 1, 1) := by decide +kernel
theorem dX9_costBy_2 : decode cX9_costBy 2 = .ok (.iload_n 2, 1) := by decide +kernel
theorem dX9_costBy_3 : decode cX9_costBy 3 = .ok (.invokevirtual 237, 3) := by decide +kernel
theorem dX9_costBy_6 : decode cX9_costBy 6 = .ok (.istore 5, 2) := by decide +kernel
theorem dX9_costBy_8 : decode cX9_costBy 8 = .ok (.iload 5, 2) := by decide +kernel
theorem dX9_costBy_10 : decode cX9_costBy 10 = .ok (.ifCond .eq 7, 3) := by decide +kernel
theorem dX9_costBy_13 : decode cX9_costBy 13 = .ok (.iconst 0, 1) := by decide +kernel
theorem dX9_costBy_14 : decode cX9_costBy 14 = .ok (.goto 11, 3) := by decide +kernel
theorem dX9_costBy_17 : decode cX9_costBy 17 = .ok (.iload_n 2, 1) := by decide +kernel
theorem dX9_costBy_18 : decode cX9_costBy 18 = .ok (.aload_n 0, 1) := by decide +kernel
theorem dX9_costBy_19 : decode cX9_costBy 19 = .ok (.getfield 55, 3) := by decide +kernel
theorem dX9_costBy_22 : decode cX9_costBy 22 = .ok (.iload_n 1, 1) := by decide +kernel
theorem dX9_costBy_23 : decode cX9_costBy 23 = .ok (.iaload, 1) := by decide +kernel
theorem dX9_costBy_24 : decode cX9_costBy 24 = .ok (.iadd, 1) := by decide +kernel
theorem dX9_costBy_25 : decode cX9_costBy 25 = .ok (.istore 6, 2) := by decide +kernel
theorem dX9_costBy_27 : decode cX9_costBy 27 = .ok (.iload 4, 2) := by decide +kernel
theorem dX9_costBy_29 : decode cX9_costBy 29 = .ok (.iload 6, 2) := by decide +kernel
theorem dX9_costBy_31 : decode cX9_costBy 31 = .ok (.if_icmp .gt 9, 3) := by decide +kernel
theorem dX9_costBy_34 : decode cX9_costBy 34 = .ok (.iload 4, 2) := by decide +kernel
theorem dX9_costBy_36 : decode cX9_costBy 36 = .ok (.iload_n 3, 1) := by decide +kernel
theorem dX9_costBy_37 : decode cX9_costBy 37 = .ok (.if_icmp .le 6, 3) := by decide +kernel
theorem dX9_costBy_40 : decode cX9_costBy 40 = .ok (.ldc 240, 2) := by decide +kernel
theorem dX9_costBy_42 : decode cX9_costBy 42 = .ok (.ireturn, 1) := by decide +kernel
theorem dX9_costBy_43 : decode cX9_costBy 43 = .ok (.iload 6, 2) := by decide +kernel
theorem dX9_costBy_45 : decode cX9_costBy 45 = .ok (.iload 4, 2) := by decide +kernel
theorem dX9_costBy_47 : decode cX9_costBy 47 = .ok (.isub, 1) := by decide +kernel
theorem dX9_costBy_48 : decode cX9_costBy 48 = .ok (.istore 7, 2) := by decide +kernel
theorem dX9_costBy_50 : decode cX9_costBy 50 = .ok (.iload 5, 2) := by decide +kernel
theorem dX9_costBy_52 : decode cX9_costBy 52 = .ok (.ifCond .eq 8, 3) := by decide +kernel
theorem dX9_costBy_55 : decode cX9_costBy 55 = .ok (.bipush 100, 2) := by decide +kernel
theorem dX9_costBy_57 : decode cX9_costBy 57 = .ok (.goto 4, 3) := by decide +kernel
theorem dX9_costBy_60 : decode cX9_costBy 60 = .ok (.iconst 0, 1) := by decide +kernel
theorem dX9_costBy_61 : decode cX9_costBy 61 = .ok (.iload 4, 2) := by decide +kernel
theorem dX9_costBy_63 : decode cX9_costBy 63 = .ok (.iadd, 1) := by decide +kernel
theorem dX9_costBy_64 : decode cX9_costBy 64 = .ok (.aload_n 0, 1) := by decide +kernel
theorem dX9_costBy_65 : decode cX9_costBy 65 = .ok (.getfield 58, 3) := by decide +kernel
theorem dX9_costBy_68 : decode cX9_costBy 68 = .ok (.iload_n 1, 1) := by decide +kernel
theorem dX9_costBy_69 : decode cX9_costBy 69 = .ok (.iconst 1, 1) := by decide +kernel
theorem dX9_costBy_70 : decode cX9_costBy 70 = .ok (.iadd, 1) := by decide +kernel
theorem dX9_costBy_71 : decode cX9_costBy 71 = .ok (.iload 7, 2) := by decide +kernel
theorem dX9_costBy_73 : decode cX9_costBy 73 = .ok (.ifCond .le 10, 3) := by decide +kernel
theorem dX9_costBy_76 : decode cX9_costBy 76 = .ok (.iload 7, 2) := by decide +kernel
theorem dX9_costBy_78 : decode cX9_costBy 78 = .ok (.iconst 1, 1) := by decide +kernel
theorem dX9_costBy_79 : decode cX9_costBy 79 = .ok (.isub, 1) := by decide +kernel
theorem dX9_costBy_80 : decode cX9_costBy 80 = .ok (.goto 4, 3) := by decide +kernel
theorem dX9_costBy_83 : decode cX9_costBy 83 = .ok (.iconst 0, 1) := by decide +kernel
theorem dX9_costBy_84 : decode cX9_costBy 84 = .ok (.iload_n 3, 1) := by decide +kernel
theorem dX9_costBy_85 : decode cX9_costBy 85 = .ok (.iload 4, 2) := by decide +kernel
theorem dX9_costBy_87 : decode cX9_costBy 87 = .ok (.isub, 1) := by decide +kernel
theorem dX9_costBy_88 : decode cX9_costBy 88 = .ok (.invokestatic 241, 3) := by decide +kernel
theorem dX9_costBy_91 : decode cX9_costBy 91 = .ok (.iaload, 1) := by decide +kernel
theorem dX9_costBy_92 : decode cX9_costBy 92 = .ok (.iadd, 1) := by decide +kernel
theorem dX9_costBy_93 : decode cX9_costBy 93 = .ok (.ireturn, 1) := by decide +kernel
theorem dX9_leastCost_0 : decode cX9_leastCost 0 = .ok (.ldc 240, 2) := by decide +kernel
theorem dX9_leastCost_2 : decode cX9_leastCost 2 = .ok (.istore 4, 2) := by decide +kernel
theorem dX9_leastCost_4 : decode cX9_leastCost 4 = .ok (.iconst 0, 1) := by decide +kernel
theorem dX9_leastCost_5 : decode cX9_leastCost 5 = .ok (.istore 5, 2) := by decide +kernel
theorem dX9_leastCost_7 : decode cX9_leastCost 7 = .ok (.iload 5, 2) := by decide +kernel
theorem dX9_leastCost_9 : decode cX9_leastCost 9 = .ok (.bipush 10, 2) := by decide +kernel
theorem dX9_leastCost_11 : decode cX9_leastCost 11 = .ok (.if_icmp .ge 36, 3) := by decide +kernel
theorem dX9_leastCost_14 : decode cX9_leastCost 14 = .ok (.aload_n 0, 1) := by decide +kernel
theorem dX9_leastCost_15 : decode cX9_leastCost 15 = .ok (.iload_n 1, 1) := by decide +kernel
theorem dX9_leastCost_16 : decode cX9_leastCost 16 = .ok (.iload_n 2, 1) := by decide +kernel
theorem dX9_leastCost_17 : decode cX9_leastCost 17 = .ok (.iload_n 3, 1) := by decide +kernel
theorem dX9_leastCost_18 : decode cX9_leastCost 18 = .ok (.iload 5, 2) := by decide +kernel
theorem dX9_leastCost_20 : decode cX9_leastCost 20 = .ok (.invokevirtual 244, 3) := by decide +kernel
theorem dX9_leastCost_23 : decode cX9_leastCost 23 = .ok (.istore 6, 2) := by decide +kernel
theorem dX9_leastCost_25 : decode cX9_leastCost 25 = .ok (.iload 6, 2) := by decide +kernel
theorem dX9_leastCost_27 : decode cX9_leastCost 27 = .ok (.iload 4, 2) := by decide +kernel
theorem dX9_leastCost_29 : decode cX9_leastCost 29 = .ok (.if_icmp .ge 8, 3) := by decide +kernel
theorem dX9_leastCost_32 : decode cX9_leastCost 32 = .ok (.iload 6, 2) := by decide +kernel
theorem dX9_leastCost_34 : decode cX9_leastCost 34 = .ok (.goto 5, 3) := by decide +kernel
theorem dX9_leastCost_37 : decode cX9_leastCost 37 = .ok (.iload 4, 2) := by decide +kernel
theorem dX9_leastCost_39 : decode cX9_leastCost 39 = .ok (.istore 4, 2) := by decide +kernel
theorem dX9_leastCost_41 : decode cX9_leastCost 41 = .ok (.iinc 5 1, 3) := by decide +kernel
theorem dX9_leastCost_44 : decode cX9_leastCost 44 = .ok (.goto (-37), 3) := by decide +kernel
theorem dX9_leastCost_47 : decode cX9_leastCost 47 = .ok (.iload 4, 2) := by decide +kernel
theorem dX9_leastCost_49 : decode cX9_leastCost 49 = .ok (.ireturn, 1) := by decide +kernel
theorem dX9_findCosts_0 : decode cX9_findCosts 0 = .ok (.aload_n 0, 1) := by decide +kernel
theorem dX9_findCosts_1 : decode cX9_findCosts 1 = .ok (.iload_n 1, 1) := by decide +kernel
theorem dX9_findCosts_2 : decode cX9_findCosts 2 = .ok (.invokevirtual 247, 3) := by decide +kernel
theorem dX9_findCosts_5 : decode cX9_findCosts 5 = .ok (.bipush 6, 2) := by decide +kernel
theorem dX9_findCosts_7 : decode cX9_findCosts 7 = .ok (.istore_n 2, 1) := by decide +kernel
theorem dX9_findCosts_8 : decode cX9_findCosts 8 = .ok (.iload_n 2, 1) := by decide +kernel
theorem dX9_findCosts_9 : decode cX9_findCosts 9 = .ok (.ifCond .lt 71, 3) := by decide +kernel
theorem dX9_findCosts_12 : decode cX9_findCosts 12 = .ok (.iconst 0, 1) := by decide +kernel
theorem dX9_findCosts_13 : decode cX9_findCosts 13 = .ok (.istore_n 3, 1) := by decide +kernel
theorem dX9_findCosts_14 : decode cX9_findCosts 14 = .ok (.iload_n 3, 1) := by decide +kernel
theorem dX9_findCosts_15 : decode cX9_findCosts 15 = .ok (.aload_n 0, 1) := by decide +kernel
theorem dX9_findCosts_16 : decode cX9_findCosts 16 = .ok (.getfield 81, 3) := by decide +kernel
theorem dX9_findCosts_19 : decode cX9_findCosts 19 = .ok (.if_icmp .gt 55, 3) := by decide +kernel
theorem dX9_findCosts_22 : decode cX9_findCosts 22 = .ok (.iconst 0, 1) := by decide +kernel
theorem dX9_findCosts_23 : decode cX9_findCosts 23 = .ok (.istore 4, 2) := by decide +kernel
theorem dX9_findCosts_25 : decode cX9_findCosts 25 = .ok (.iload 4, 2) := by decide +kernel
theorem dX9_findCosts_27 : decode cX9_findCosts 27 = .ok (.bipush 21, 2) := by decide +kernel
theorem dX9_findCosts_29 : decode cX9_findCosts 29 = .ok (.if_icmp .ge 39, 3) := by decide +kernel
theorem dX9_findCosts_32 : decode cX9_findCosts 32 = .ok (.aload_n 0, 1) := by decide +kernel
theorem dX9_findCosts_33 : decode cX9_findCosts 33 = .ok (.getfield 58, 3) := by decide +kernel
theorem dX9_findCosts_36 : decode cX9_findCosts 36 = .ok (.iload_n 2, 1) := by decide +kernel
theorem dX9_findCosts_37 : decode cX9_findCosts 37 = .ok (.iload_n 3, 1) := by decide +kernel
theorem dX9_findCosts_38 : decode cX9_findCosts 38 = .ok (.iload 4, 2) := by decide +kernel
theorem dX9_findCosts_40 : decode cX9_findCosts 40 = .ok (.invokestatic 241, 3) := by decide +kernel
theorem dX9_findCosts_43 : decode cX9_findCosts 43 = .ok (.iload_n 2, 1) := by decide +kernel
theorem dX9_findCosts_44 : decode cX9_findCosts 44 = .ok (.bipush 6, 2) := by decide +kernel
theorem dX9_findCosts_46 : decode cX9_findCosts 46 = .ok (.if_icmp .ne 7, 3) := by decide +kernel
theorem dX9_findCosts_49 : decode cX9_findCosts 49 = .ok (.iconst 0, 1) := by decide +kernel
theorem dX9_findCosts_50 : decode cX9_findCosts 50 = .ok (.goto 11, 3) := by decide +kernel
theorem dX9_findCosts_53 : decode cX9_findCosts 53 = .ok (.aload_n 0, 1) := by decide +kernel
theorem dX9_findCosts_54 : decode cX9_findCosts 54 = .ok (.iload_n 2, 1) := by decide +kernel
theorem dX9_findCosts_55 : decode cX9_findCosts 55 = .ok (.iload_n 3, 1) := by decide +kernel
theorem dX9_findCosts_56 : decode cX9_findCosts 56 = .ok (.iload 4, 2) := by decide +kernel
theorem dX9_findCosts_58 : decode cX9_findCosts 58 = .ok (.invokevirtual 250, 3) := by decide +kernel
theorem dX9_findCosts_61 : decode cX9_findCosts 61 = .ok (.iastore, 1) := by decide +kernel
theorem dX9_findCosts_62 : decode cX9_findCosts 62 = .ok (.iinc 4 1, 3) := by decide +kernel
theorem dX9_findCosts_65 : decode cX9_findCosts 65 = .ok (.goto (-40), 3) := by decide +kernel
theorem dX9_findCosts_68 : decode cX9_findCosts 68 = .ok (.iinc 3 1, 3) := by decide +kernel
theorem dX9_findCosts_71 : decode cX9_findCosts 71 = .ok (.goto (-57), 3) := by decide +kernel
theorem dX9_findCosts_74 : decode cX9_findCosts 74 = .ok (.iinc 2 (-1), 3) := by decide +kernel
theorem dX9_findCosts_77 : decode cX9_findCosts 77 = .ok (.goto (-69), 3) := by decide +kernel
theorem dX9_findCosts_80 : decode cX9_findCosts 80 = .ok (.return_, 1) := by decide +kernel
theorem dX9_strengths_0 : decode cX9_strengths 0 = .ok (.iconst 0, 1) := by decide +kernel
theorem dX9_strengths_1 : decode cX9_strengths 1 = .ok (.istore_n 3, 1) := by decide +kernel
theorem dX9_strengths_2 : decode cX9_strengths 2 = .ok (.iload_n 1, 1) := by decide +kernel
theorem dX9_strengths_3 : decode cX9_strengths 3 = .ok (.istore 4, 2) := by decide +kernel
theorem dX9_strengths_5 : decode cX9_strengths 5 = .ok (.iload_n 2, 1) := by decide +kernel
theorem dX9_strengths_6 : decode cX9_strengths 6 = .ok (.istore 5, 2) := by decide +kernel
theorem dX9_strengths_8 : decode cX9_strengths 8 = .ok (.iconst 0, 1) := by decide +kernel
theorem dX9_strengths_9 : decode cX9_strengths 9 = .ok (.istore 6, 2) := by decide +kernel
theorem dX9_strengths_11 : decode cX9_strengths 11 = .ok (.iload 6, 2) := by decide +kernel
theorem dX9_strengths_13 : decode cX9_strengths 13 = .ok (.bipush 6, 2) := by decide +kernel
theorem dX9_strengths_15 : decode cX9_strengths 15 = .ok (.if_icmp .ge 107, 3) := by decide +kernel
theorem dX9_strengths_18 : decode cX9_strengths 18 = .ok (.iconst 0, 1) := by decide +kernel
theorem dX9_strengths_19 : decode cX9_strengths 19 = .ok (.istore 7, 2) := by decide +kernel
theorem dX9_strengths_21 : decode cX9_strengths 21 = .ok (.aload_n 0, 1) := by decide +kernel
theorem dX9_strengths_22 : decode cX9_strengths 22 = .ok (.iload 6, 2) := by decide +kernel
theorem dX9_strengths_24 : decode cX9_strengths 24 = .ok (.iload 4, 2) := by decide +kernel
theorem dX9_strengths_26 : decode cX9_strengths 26 = .ok (.iload 5, 2) := by decide +kernel
theorem dX9_strengths_28 : decode cX9_strengths 28 = .ok (.iload 7, 2) := by decide +kernel
theorem dX9_strengths_30 : decode cX9_strengths 30 = .ok (.invokevirtual 244, 3) := by decide +kernel
theorem dX9_strengths_33 : decode cX9_strengths 33 = .ok (.aload_n 0, 1) := by decide +kernel
theorem dX9_strengths_34 : decode cX9_strengths 34 = .ok (.getfield 58, 3) := by decide +kernel
theorem dX9_strengths_37 : decode cX9_strengths 37 = .ok (.iload 6, 2) := by decide +kernel
theorem dX9_strengths_39 : decode cX9_strengths 39 = .ok (.iload 4, 2) := by decide +kernel
theorem dX9_strengths_41 : decode cX9_strengths 41 = .ok (.iload 5, 2) := by decide +kernel
theorem dX9_strengths_43 : decode cX9_strengths 43 = .ok (.invokestatic 241, 3) := by decide +kernel
theorem dX9_strengths_46 : decode cX9_strengths 46 = .ok (.iaload, 1) := by decide +kernel
theorem dX9_strengths_47 : decode cX9_strengths 47 = .ok (.if_icmp .eq 9, 3) := by decide +kernel
theorem dX9_strengths_50 : decode cX9_strengths 50 = .ok (.iinc 7 1, 3) := by decide +kernel
theorem dX9_strengths_53 : decode cX9_strengths 53 = .ok (.goto (-32), 3) := by decide +kernel
theorem dX9_strengths_56 : decode cX9_strengths 56 = .ok (.aload_n 0, 1) := by decide +kernel
theorem dX9_strengths_57 : decode cX9_strengths 57 = .ok (.iload 6, 2) := by decide +kernel
theorem dX9_strengths_59 : decode cX9_strengths 59 = .ok (.iload 4, 2) := by decide +kernel
theorem dX9_strengths_61 : decode cX9_strengths 61 = .ok (.invokevirtual 237, 3) := by decide +kernel
theorem dX9_strengths_64 : decode cX9_strengths 64 = .ok (.ifCond .eq 7, 3) := by decide +kernel
theorem dX9_strengths_67 : decode cX9_strengths 67 = .ok (.iconst 0, 1) := by decide +kernel
theorem dX9_strengths_68 : decode cX9_strengths 68 = .ok (.goto 16, 3) := by decide +kernel
theorem dX9_strengths_71 : decode cX9_strengths 71 = .ok (.iload 4, 2) := by decide +kernel
theorem dX9_strengths_73 : decode cX9_strengths 73 = .ok (.aload_n 0, 1) := by decide +kernel
theorem dX9_strengths_74 : decode cX9_strengths 74 = .ok (.getfield 55, 3) := by decide +kernel
theorem dX9_strengths_77 : decode cX9_strengths 77 = .ok (.iload 6, 2) := by decide +kernel
theorem dX9_strengths_79 : decode cX9_strengths 79 = .ok (.iaload, 1) := by decide +kernel
theorem dX9_strengths_80 : decode cX9_strengths 80 = .ok (.iadd, 1) := by decide +kernel
theorem dX9_strengths_81 : decode cX9_strengths 81 = .ok (.iload 7, 2) := by decide +kernel
theorem dX9_strengths_83 : decode cX9_strengths 83 = .ok (.isub, 1) := by decide +kernel
theorem dX9_strengths_84 : decode cX9_strengths 84 = .ok (.istore 8, 2) := by decide +kernel
theorem dX9_strengths_86 : decode cX9_strengths 86 = .ok (.iload 8, 2) := by decide +kernel
theorem dX9_strengths_88 : decode cX9_strengths 88 = .ok (.ifCond .le 10, 3) := by decide +kernel
theorem dX9_strengths_91 : decode cX9_strengths 91 = .ok (.iload 8, 2) := by decide +kernel
theorem dX9_strengths_93 : decode cX9_strengths 93 = .ok (.iconst 1, 1) := by decide +kernel
theorem dX9_strengths_94 : decode cX9_strengths 94 = .ok (.isub, 1) := by decide +kernel
theorem dX9_strengths_95 : decode cX9_strengths 95 = .ok (.goto 4, 3) := by decide +kernel
theorem dX9_strengths_98 : decode cX9_strengths 98 = .ok (.iconst 0, 1) := by decide +kernel
theorem dX9_strengths_99 : decode cX9_strengths 99 = .ok (.istore 4, 2) := by decide +kernel
theorem dX9_strengths_101 : decode cX9_strengths 101 = .ok (.iload 5, 2) := by decide +kernel
theorem dX9_strengths_103 : decode cX9_strengths 103 = .ok (.iload 7, 2) := by decide +kernel
theorem dX9_strengths_105 : decode cX9_strengths 105 = .ok (.isub, 1) := by decide +kernel
theorem dX9_strengths_106 : decode cX9_strengths 106 = .ok (.istore 5, 2) := by decide +kernel
theorem dX9_strengths_108 : decode cX9_strengths 108 = .ok (.bipush 10, 2) := by decide +kernel
theorem dX9_strengths_110 : decode cX9_strengths 110 = .ok (.iload_n 3, 1) := by decide +kernel
theorem dX9_strengths_111 : decode cX9_strengths 111 = .ok (.imul, 1) := by decide +kernel
theorem dX9_strengths_112 : decode cX9_strengths 112 = .ok (.iload 7, 2) := by decide +kernel
theorem dX9_strengths_114 : decode cX9_strengths 114 = .ok (.iadd, 1) := by decide +kernel
theorem dX9_strengths_115 : decode cX9_strengths 115 = .ok (.istore_n 3, 1) := by decide +kernel
theorem dX9_strengths_116 : decode cX9_strengths 116 = .ok (.iinc 6 1, 3) := by decide +kernel
theorem dX9_strengths_119 : decode cX9_strengths 119 = .ok (.goto (-108), 3) := by decide +kernel
theorem dX9_strengths_122 : decode cX9_strengths 122 = .ok (.iload_n 3, 1) := by decide +kernel
theorem dX9_strengths_123 : decode cX9_strengths 123 = .ok (.ireturn, 1) := by decide +kernel
theorem dX9_spend_0 : decode cX9_spend 0 = .ok (.iload_n 1, 1) := by decide +kernel
theorem dX9_spend_1 : decode cX9_spend 1 = .ok (.i2l, 1) := by decide +kernel
theorem dX9_spend_2 : decode cX9_spend 2 = .ok (.lconst 0, 1) := by decide +kernel
theorem dX9_spend_3 : decode cX9_spend 3 = .ok (.aload_n 0, 1) := by decide +kernel
theorem dX9_spend_4 : decode cX9_spend 4 = .ok (.getfield 81, 3) := by decide +kernel
theorem dX9_spend_7 : decode cX9_spend 7 = .ok (.i2l, 1) := by decide +kernel
theorem dX9_spend_8 : decode cX9_spend 8 = .ok (.invokestatic 90, 3) := by decide +kernel
theorem dX9_spend_11 : decode cX9_spend 11 = .ok (.ifCond .eq 40, 3) := by decide +kernel
theorem dX9_spend_14 : decode cX9_spend 14 = .ok (.iload_n 2, 1) := by decide +kernel
theorem dX9_spend_15 : decode cX9_spend 15 = .ok (.i2l, 1) := by decide +kernel
theorem dX9_spend_16 : decode cX9_spend 16 = .ok (.lconst 0, 1) := by decide +kernel
theorem dX9_spend_17 : decode cX9_spend 17 = .ok (.ldc2_w 113, 3) := by decide +kernel
theorem dX9_spend_20 : decode cX9_spend 20 = .ok (.invokestatic 90, 3) := by decide +kernel
theorem dX9_spend_23 : decode cX9_spend 23 = .ok (.ifCond .eq 28, 3) := by decide +kernel
theorem dX9_spend_26 : decode cX9_spend 26 = .ok (.iload_n 3, 1) := by decide +kernel
theorem dX9_spend_27 : decode cX9_spend 27 = .ok (.i2l, 1) := by decide +kernel
theorem dX9_spend_28 : decode cX9_spend 28 = .ok (.lconst 0, 1) := by decide +kernel
theorem dX9_spend_29 : decode cX9_spend 29 = .ok (.ldc2_w 253, 3) := by decide +kernel
theorem dX9_spend_32 : decode cX9_spend 32 = .ok (.invokestatic 90, 3) := by decide +kernel
theorem dX9_spend_35 : decode cX9_spend 35 = .ok (.ifCond .eq 16, 3) := by decide +kernel
theorem dX9_spend_38 : decode cX9_spend 38 = .ok (.iload 4, 2) := by decide +kernel
theorem dX9_spend_40 : decode cX9_spend 40 = .ok (.i2l, 1) := by decide +kernel
theorem dX9_spend_41 : decode cX9_spend 41 = .ok (.lconst 0, 1) := by decide +kernel
theorem dX9_spend_42 : decode cX9_spend 42 = .ok (.ldc2_w 228, 3) := by decide +kernel
theorem dX9_spend_45 : decode cX9_spend 45 = .ok (.invokestatic 90, 3) := by decide +kernel
theorem dX9_spend_48 : decode cX9_spend 48 = .ok (.ifCond .ne 6, 3) := by decide +kernel
theorem dX9_spend_51 : decode cX9_spend 51 = .ok (.bipush (-2), 2) := by decide +kernel
theorem dX9_spend_53 : decode cX9_spend 53 = .ok (.ireturn, 1) := by decide +kernel
theorem dX9_spend_54 : decode cX9_spend 54 = .ok (.aload_n 0, 1) := by decide +kernel
theorem dX9_spend_55 : decode cX9_spend 55 = .ok (.iload_n 3, 1) := by decide +kernel
theorem dX9_spend_56 : decode cX9_spend 56 = .ok (.invokevirtual 255, 3) := by decide +kernel
theorem dX9_spend_59 : decode cX9_spend 59 = .ok (.aload_n 0, 1) := by decide +kernel
theorem dX9_spend_60 : decode cX9_spend 60 = .ok (.getfield 58, 3) := by decide +kernel
theorem dX9_spend_63 : decode cX9_spend 63 = .ok (.iconst 0, 1) := by decide +kernel
theorem dX9_spend_64 : decode cX9_spend 64 = .ok (.iload_n 1, 1) := by decide +kernel
theorem dX9_spend_65 : decode cX9_spend 65 = .ok (.iload_n 2, 1) := by decide +kernel
theorem dX9_spend_66 : decode cX9_spend 66 = .ok (.invokestatic 241, 3) := by decide +kernel
theorem dX9_spend_69 : decode cX9_spend 69 = .ok (.iaload, 1) := by decide +kernel
theorem dX9_spend_70 : decode cX9_spend 70 = .ok (.istore 5, 2) := by decide +kernel
theorem dX9_spend_72 : decode cX9_spend 72 = .ok (.iload 4, 2) := by decide +kernel
theorem dX9_spend_74 : decode cX9_spend 74 = .ok (.ifCond .ne 11, 3) := by decide +kernel
theorem dX9_spend_77 : decode cX9_spend 77 = .ok (.iload 5, 2) := by decide +kernel
theorem dX9_spend_79 : decode cX9_spend 79 = .ok (.bipush 100, 2) := by decide +kernel
theorem dX9_spend_81 : decode cX9_spend 81 = .ok (.idiv, 1) := by decide +kernel
theorem dX9_spend_82 : decode cX9_spend 82 = .ok (.goto 23, 3) := by decide +kernel
theorem dX9_spend_85 : decode cX9_spend 85 = .ok (.iload 4, 2) := by decide +kernel
theorem dX9_spend_87 : decode cX9_spend 87 = .ok (.iconst 1, 1) := by decide +kernel
theorem dX9_spend_88 : decode cX9_spend 88 = .ok (.if_icmp .ne 11, 3) := by decide +kernel
theorem dX9_spend_91 : decode cX9_spend 91 = .ok (.iload 5, 2) := by decide +kernel
theorem dX9_spend_93 : decode cX9_spend 93 = .ok (.bipush 100, 2) := by decide +kernel
theorem dX9_spend_95 : decode cX9_spend 95 = .ok (.irem, 1) := by decide +kernel
theorem dX9_spend_96 : decode cX9_spend 96 = .ok (.goto 9, 3) := by decide +kernel
theorem dX9_spend_99 : decode cX9_spend 99 = .ok (.aload_n 0, 1) := by decide +kernel
theorem dX9_spend_100 : decode cX9_spend 100 = .ok (.iload_n 1, 1) := by decide +kernel
theorem dX9_spend_101 : decode cX9_spend 101 = .ok (.iload_n 2, 1) := by decide +kernel
theorem dX9_spend_102 : decode cX9_spend 102 = .ok (.invokevirtual 258, 3) := by decide +kernel
theorem dX9_spend_105 : decode cX9_spend 105 = .ok (.ireturn, 1) := by decide +kernel
theorem dX9_slipsBy_0 : decode cX9_slipsBy 0 = .ok (.aload_n 0, 1) := by decide +kernel
theorem dX9_slipsBy_1 : decode cX9_slipsBy 1 = .ok (.getfield 58, 3) := by decide +kernel
theorem dX9_slipsBy_4 : decode cX9_slipsBy 4 = .ok (.iconst 0, 1) := by decide +kernel
theorem dX9_slipsBy_5 : decode cX9_slipsBy 5 = .ok (.aload_n 0, 1) := by decide +kernel
theorem dX9_slipsBy_6 : decode cX9_slipsBy 6 = .ok (.getfield 7, 3) := by decide +kernel
theorem dX9_slipsBy_9 : decode cX9_slipsBy 9 = .ok (.iload_n 1, 1) := by decide +kernel
theorem dX9_slipsBy_10 : decode cX9_slipsBy 10 = .ok (.iaload, 1) := by decide +kernel
theorem dX9_slipsBy_11 : decode cX9_slipsBy 11 = .ok (.iload_n 3, 1) := by decide +kernel
theorem dX9_slipsBy_12 : decode cX9_slipsBy 12 = .ok (.invokestatic 241, 3) := by decide +kernel
theorem dX9_slipsBy_15 : decode cX9_slipsBy 15 = .ok (.iaload, 1) := by decide +kernel
theorem dX9_slipsBy_16 : decode cX9_slipsBy 16 = .ok (.bipush 100, 2) := by decide +kernel
theorem dX9_slipsBy_18 : decode cX9_slipsBy 18 = .ok (.idiv, 1) := by decide +kernel
theorem dX9_slipsBy_19 : decode cX9_slipsBy 19 = .ok (.aload_n 0, 1) := by decide +kernel
theorem dX9_slipsBy_20 : decode cX9_slipsBy 20 = .ok (.getfield 61, 3) := by decide +kernel
theorem dX9_slipsBy_23 : decode cX9_slipsBy 23 = .ok (.bipush 21, 2) := by decide +kernel
theorem dX9_slipsBy_25 : decode cX9_slipsBy 25 = .ok (.iload_n 1, 1) := by decide +kernel
theorem dX9_slipsBy_26 : decode cX9_slipsBy 26 = .ok (.iconst 1, 1) := by decide +kernel
theorem dX9_slipsBy_27 : decode cX9_slipsBy 27 = .ok (.iadd, 1) := by decide +kernel
theorem dX9_slipsBy_28 : decode cX9_slipsBy 28 = .ok (.imul, 1) := by decide +kernel
theorem dX9_slipsBy_29 : decode cX9_slipsBy 29 = .ok (.iload_n 2, 1) := by decide +kernel
theorem dX9_slipsBy_30 : decode cX9_slipsBy 30 = .ok (.iadd, 1) := by decide +kernel
theorem dX9_slipsBy_31 : decode cX9_slipsBy 31 = .ok (.iload_n 3, 1) := by decide +kernel
theorem dX9_slipsBy_32 : decode cX9_slipsBy 32 = .ok (.isub, 1) := by decide +kernel
theorem dX9_slipsBy_33 : decode cX9_slipsBy 33 = .ok (.iaload, 1) := by decide +kernel
theorem dX9_slipsBy_34 : decode cX9_slipsBy 34 = .ok (.iadd, 1) := by decide +kernel
theorem dX9_slipsBy_35 : decode cX9_slipsBy 35 = .ok (.ireturn, 1) := by decide +kernel
theorem dX9_fewestSlips_0 : decode cX9_fewestSlips 0 = .ok (.aload_n 0, 1) := by decide +kernel
theorem dX9_fewestSlips_1 : decode cX9_fewestSlips 1 = .ok (.iload_n 1, 1) := by decide +kernel
theorem dX9_fewestSlips_2 : decode cX9_fewestSlips 2 = .ok (.invokevirtual 107, 3) := by decide +kernel
theorem dX9_fewestSlips_5 : decode cX9_fewestSlips 5 = .ok (.ifCond .ne 17, 3) := by decide +kernel
theorem dX9_fewestSlips_8 : decode cX9_fewestSlips 8 = .ok (.aload_n 0, 1) := by decide +kernel
theorem dX9_fewestSlips_9 : decode cX9_fewestSlips 9 = .ok (.getfield 61, 3) := by decide +kernel
theorem dX9_fewestSlips_12 : decode cX9_fewestSlips 12 = .ok (.bipush 21, 2) := by decide +kernel
theorem dX9_fewestSlips_14 : decode cX9_fewestSlips 14 = .ok (.iload_n 1, 1) := by decide +kernel
theorem dX9_fewestSlips_15 : decode cX9_fewestSlips 15 = .ok (.iconst 1, 1) := by decide +kernel
theorem dX9_fewestSlips_16 : decode cX9_fewestSlips 16 = .ok (.iadd, 1) := by decide +kernel
theorem dX9_fewestSlips_17 : decode cX9_fewestSlips 17 = .ok (.imul, 1) := by decide +kernel
theorem dX9_fewestSlips_18 : decode cX9_fewestSlips 18 = .ok (.iload_n 2, 1) := by decide +kernel
theorem dX9_fewestSlips_19 : decode cX9_fewestSlips 19 = .ok (.iadd, 1) := by decide +kernel
theorem dX9_fewestSlips_20 : decode cX9_fewestSlips 20 = .ok (.iaload, 1) := by decide +kernel
theorem dX9_fewestSlips_21 : decode cX9_fewestSlips 21 = .ok (.ireturn, 1) := by decide +kernel
theorem dX9_fewestSlips_22 : decode cX9_fewestSlips 22 = .ok (.ldc 240, 2) := by decide +kernel
theorem dX9_fewestSlips_24 : decode cX9_fewestSlips 24 = .ok (.istore_n 3, 1) := by decide +kernel
theorem dX9_fewestSlips_25 : decode cX9_fewestSlips 25 = .ok (.iconst 0, 1) := by decide +kernel
theorem dX9_fewestSlips_26 : decode cX9_fewestSlips 26 = .ok (.istore 4, 2) := by decide +kernel
theorem dX9_fewestSlips_28 : decode cX9_fewestSlips 28 = .ok (.iload 4, 2) := by decide +kernel
theorem dX9_fewestSlips_30 : decode cX9_fewestSlips 30 = .ok (.iload_n 2, 1) := by decide +kernel
theorem dX9_fewestSlips_31 : decode cX9_fewestSlips 31 = .ok (.if_icmp .gt 32, 3) := by decide +kernel
theorem dX9_fewestSlips_34 : decode cX9_fewestSlips 34 = .ok (.aload_n 0, 1) := by decide +kernel
theorem dX9_fewestSlips_35 : decode cX9_fewestSlips 35 = .ok (.iload_n 1, 1) := by decide +kernel
theorem dX9_fewestSlips_36 : decode cX9_fewestSlips 36 = .ok (.iload_n 2, 1) := by decide +kernel
theorem dX9_fewestSlips_37 : decode cX9_fewestSlips 37 = .ok (.iload 4, 2) := by decide +kernel
theorem dX9_fewestSlips_39 : decode cX9_fewestSlips 39 = .ok (.invokevirtual 261, 3) := by decide +kernel
theorem dX9_fewestSlips_42 : decode cX9_fewestSlips 42 = .ok (.istore 5, 2) := by decide +kernel
theorem dX9_fewestSlips_44 : decode cX9_fewestSlips 44 = .ok (.iload 5, 2) := by decide +kernel
theorem dX9_fewestSlips_46 : decode cX9_fewestSlips 46 = .ok (.iload_n 3, 1) := by decide +kernel
theorem dX9_fewestSlips_47 : decode cX9_fewestSlips 47 = .ok (.if_icmp .ge 8, 3) := by decide +kernel
theorem dX9_fewestSlips_50 : decode cX9_fewestSlips 50 = .ok (.iload 5, 2) := by decide +kernel
theorem dX9_fewestSlips_52 : decode cX9_fewestSlips 52 = .ok (.goto 4, 3) := by decide +kernel
theorem dX9_fewestSlips_55 : decode cX9_fewestSlips 55 = .ok (.iload_n 3, 1) := by decide +kernel
theorem dX9_fewestSlips_56 : decode cX9_fewestSlips 56 = .ok (.istore_n 3, 1) := by decide +kernel
theorem dX9_fewestSlips_57 : decode cX9_fewestSlips 57 = .ok (.iinc 4 1, 3) := by decide +kernel
theorem dX9_fewestSlips_60 : decode cX9_fewestSlips 60 = .ok (.goto (-32), 3) := by decide +kernel
theorem dX9_fewestSlips_63 : decode cX9_fewestSlips 63 = .ok (.iload_n 3, 1) := by decide +kernel
theorem dX9_fewestSlips_64 : decode cX9_fewestSlips 64 = .ok (.ireturn, 1) := by decide +kernel
theorem dX9_findDeals_0 : decode cX9_findDeals 0 = .ok (.aload_n 0, 1) := by decide +kernel
theorem dX9_findDeals_1 : decode cX9_findDeals 1 = .ok (.iload_n 1, 1) := by decide +kernel
theorem dX9_findDeals_2 : decode cX9_findDeals 2 = .ok (.invokevirtual 255, 3) := by decide +kernel
theorem dX9_findDeals_5 : decode cX9_findDeals 5 = .ok (.bipush 6, 2) := by decide +kernel
theorem dX9_findDeals_7 : decode cX9_findDeals 7 = .ok (.istore_n 2, 1) := by decide +kernel
theorem dX9_findDeals_8 : decode cX9_findDeals 8 = .ok (.iload_n 2, 1) := by decide +kernel
theorem dX9_findDeals_9 : decode cX9_findDeals 9 = .ok (.ifCond .lt 59, 3) := by decide +kernel
theorem dX9_findDeals_12 : decode cX9_findDeals 12 = .ok (.iconst 0, 1) := by decide +kernel
theorem dX9_findDeals_13 : decode cX9_findDeals 13 = .ok (.istore_n 3, 1) := by decide +kernel
theorem dX9_findDeals_14 : decode cX9_findDeals 14 = .ok (.iload_n 3, 1) := by decide +kernel
theorem dX9_findDeals_15 : decode cX9_findDeals 15 = .ok (.bipush 21, 2) := by decide +kernel
theorem dX9_findDeals_17 : decode cX9_findDeals 17 = .ok (.if_icmp .ge 45, 3) := by decide +kernel
theorem dX9_findDeals_20 : decode cX9_findDeals 20 = .ok (.aload_n 0, 1) := by decide +kernel
theorem dX9_findDeals_21 : decode cX9_findDeals 21 = .ok (.getfield 61, 3) := by decide +kernel
theorem dX9_findDeals_24 : decode cX9_findDeals 24 = .ok (.bipush 21, 2) := by decide +kernel
theorem dX9_findDeals_26 : decode cX9_findDeals 26 = .ok (.iload_n 2, 1) := by decide +kernel
theorem dX9_findDeals_27 : decode cX9_findDeals 27 = .ok (.imul, 1) := by decide +kernel
theorem dX9_findDeals_28 : decode cX9_findDeals 28 = .ok (.iload_n 3, 1) := by decide +kernel
theorem dX9_findDeals_29 : decode cX9_findDeals 29 = .ok (.iadd, 1) := by decide +kernel
theorem dX9_findDeals_30 : decode cX9_findDeals 30 = .ok (.iload_n 2, 1) := by decide +kernel
theorem dX9_findDeals_31 : decode cX9_findDeals 31 = .ok (.bipush 6, 2) := by decide +kernel
theorem dX9_findDeals_33 : decode cX9_findDeals 33 = .ok (.if_icmp .ne 16, 3) := by decide +kernel
theorem dX9_findDeals_36 : decode cX9_findDeals 36 = .ok (.iload_n 3, 1) := by decide +kernel
theorem dX9_findDeals_37 : decode cX9_findDeals 37 = .ok (.ifCond .ne 7, 3) := by decide +kernel
theorem dX9_findDeals_40 : decode cX9_findDeals 40 = .ok (.iconst 0, 1) := by decide +kernel
theorem dX9_findDeals_41 : decode cX9_findDeals 41 = .ok (.goto 14, 3) := by decide +kernel
theorem dX9_findDeals_44 : decode cX9_findDeals 44 = .ok (.ldc 240, 2) := by decide +kernel
theorem dX9_findDeals_46 : decode cX9_findDeals 46 = .ok (.goto 9, 3) := by decide +kernel
theorem dX9_findDeals_49 : decode cX9_findDeals 49 = .ok (.aload_n 0, 1) := by decide +kernel
theorem dX9_findDeals_50 : decode cX9_findDeals 50 = .ok (.iload_n 2, 1) := by decide +kernel
theorem dX9_findDeals_51 : decode cX9_findDeals 51 = .ok (.iload_n 3, 1) := by decide +kernel
theorem dX9_findDeals_52 : decode cX9_findDeals 52 = .ok (.invokevirtual 264, 3) := by decide +kernel
theorem dX9_findDeals_55 : decode cX9_findDeals 55 = .ok (.iastore, 1) := by decide +kernel
theorem dX9_findDeals_56 : decode cX9_findDeals 56 = .ok (.iinc 3 1, 3) := by decide +kernel
theorem dX9_findDeals_59 : decode cX9_findDeals 59 = .ok (.goto (-45), 3) := by decide +kernel
theorem dX9_findDeals_62 : decode cX9_findDeals 62 = .ok (.iinc 2 (-1), 3) := by decide +kernel
theorem dX9_findDeals_65 : decode cX9_findDeals 65 = .ok (.goto (-57), 3) := by decide +kernel
theorem dX9_findDeals_68 : decode cX9_findDeals 68 = .ok (.return_, 1) := by decide +kernel
theorem dX9_deal_0 : decode cX9_deal 0 = .ok (.iload_n 3, 1) := by decide +kernel
theorem dX9_deal_1 : decode cX9_deal 1 = .ok (.iconst (-1), 1) := by decide +kernel
theorem dX9_deal_2 : decode cX9_deal 2 = .ok (.if_icmp .eq 13, 3) := by decide +kernel
theorem dX9_deal_5 : decode cX9_deal 5 = .ok (.aload_n 0, 1) := by decide +kernel
theorem dX9_deal_6 : decode cX9_deal 6 = .ok (.iload_n 3, 1) := by decide +kernel
theorem dX9_deal_7 : decode cX9_deal 7 = .ok (.invokevirtual 107, 3) := by decide +kernel
theorem dX9_deal_10 : decode cX9_deal 10 = .ok (.ifCond .ne 5, 3) := by decide +kernel
theorem dX9_deal_13 : decode cX9_deal 13 = .ok (.iconst (-1), 1) := by decide +kernel
theorem dX9_deal_14 : decode cX9_deal 14 = .ok (.ireturn, 1) := by decide +kernel
theorem dX9_deal_15 : decode cX9_deal 15 = .ok (.iload_n 1, 1) := by decide +kernel
theorem dX9_deal_16 : decode cX9_deal 16 = .ok (.i2l, 1) := by decide +kernel
theorem dX9_deal_17 : decode cX9_deal 17 = .ok (.lconst 0, 1) := by decide +kernel
theorem dX9_deal_18 : decode cX9_deal 18 = .ok (.ldc2_w 113, 3) := by decide +kernel
theorem dX9_deal_21 : decode cX9_deal 21 = .ok (.invokestatic 90, 3) := by decide +kernel
theorem dX9_deal_24 : decode cX9_deal 24 = .ok (.ifCond .eq 15, 3) := by decide +kernel
theorem dX9_deal_27 : decode cX9_deal 27 = .ok (.iload_n 2, 1) := by decide +kernel
theorem dX9_deal_28 : decode cX9_deal 28 = .ok (.i2l, 1) := by decide +kernel
theorem dX9_deal_29 : decode cX9_deal 29 = .ok (.lconst 0, 1) := by decide +kernel
theorem dX9_deal_30 : decode cX9_deal 30 = .ok (.ldc2_w 253, 3) := by decide +kernel
theorem dX9_deal_33 : decode cX9_deal 33 = .ok (.invokestatic 90, 3) := by decide +kernel
theorem dX9_deal_36 : decode cX9_deal 36 = .ok (.ifCond .ne 6, 3) := by decide +kernel
theorem dX9_deal_39 : decode cX9_deal 39 = .ok (.bipush (-2), 2) := by decide +kernel
theorem dX9_deal_41 : decode cX9_deal 41 = .ok (.ireturn, 1) := by decide +kernel
theorem dX9_deal_42 : decode cX9_deal 42 = .ok (.aload_n 0, 1) := by decide +kernel
theorem dX9_deal_43 : decode cX9_deal 43 = .ok (.iload_n 2, 1) := by decide +kernel
theorem dX9_deal_44 : decode cX9_deal 44 = .ok (.invokevirtual 267, 3) := by decide +kernel
theorem dX9_deal_47 : decode cX9_deal 47 = .ok (.iload_n 3, 1) := by decide +kernel
theorem dX9_deal_48 : decode cX9_deal 48 = .ok (.iconst (-1), 1) := by decide +kernel
theorem dX9_deal_49 : decode cX9_deal 49 = .ok (.if_icmp .ne 21, 3) := by decide +kernel
theorem dX9_deal_52 : decode cX9_deal 52 = .ok (.aload_n 0, 1) := by decide +kernel
theorem dX9_deal_53 : decode cX9_deal 53 = .ok (.getfield 94, 3) := by decide +kernel
theorem dX9_deal_56 : decode cX9_deal 56 = .ok (.ifCond .ne 7, 3) := by decide +kernel
theorem dX9_deal_59 : decode cX9_deal 59 = .ok (.iconst 0, 1) := by decide +kernel
theorem dX9_deal_60 : decode cX9_deal 60 = .ok (.goto 9, 3) := by decide +kernel
theorem dX9_deal_63 : decode cX9_deal 63 = .ok (.aload_n 0, 1) := by decide +kernel
theorem dX9_deal_64 : decode cX9_deal 64 = .ok (.getfield 61, 3) := by decide +kernel
theorem dX9_deal_67 : decode cX9_deal 67 = .ok (.iload_n 1, 1) := by decide +kernel
theorem dX9_deal_68 : decode cX9_deal 68 = .ok (.iaload, 1) := by decide +kernel
theorem dX9_deal_69 : decode cX9_deal 69 = .ok (.ireturn, 1) := by decide +kernel
theorem dX9_deal_70 : decode cX9_deal 70 = .ok (.iload_n 1, 1) := by decide +kernel
theorem dX9_deal_71 : decode cX9_deal 71 = .ok (.istore 4, 2) := by decide +kernel
theorem dX9_deal_73 : decode cX9_deal 73 = .ok (.iconst 0, 1) := by decide +kernel
theorem dX9_deal_74 : decode cX9_deal 74 = .ok (.istore 5, 2) := by decide +kernel
theorem dX9_deal_76 : decode cX9_deal 76 = .ok (.iconst 0, 1) := by decide +kernel
theorem dX9_deal_77 : decode cX9_deal 77 = .ok (.istore 6, 2) := by decide +kernel
theorem dX9_deal_79 : decode cX9_deal 79 = .ok (.iload 6, 2) := by decide +kernel
theorem dX9_deal_81 : decode cX9_deal 81 = .ok (.iload_n 3, 1) := by decide +kernel
theorem dX9_deal_82 : decode cX9_deal 82 = .ok (.if_icmp .gt 60, 3) := by decide +kernel
theorem dX9_deal_85 : decode cX9_deal 85 = .ok (.aload_n 0, 1) := by decide +kernel
theorem dX9_deal_86 : decode cX9_deal 86 = .ok (.iload 6, 2) := by decide +kernel
theorem dX9_deal_88 : decode cX9_deal 88 = .ok (.invokevirtual 107, 3) := by decide +kernel
theorem dX9_deal_91 : decode cX9_deal 91 = .ok (.ifCond .eq 45, 3) := by decide +kernel
theorem dX9_deal_94 : decode cX9_deal 94 = .ok (.iconst 0, 1) := by decide +kernel
theorem dX9_deal_95 : decode cX9_deal 95 = .ok (.istore 5, 2) := by decide +kernel
theorem dX9_deal_97 : decode cX9_deal 97 = .ok (.aload_n 0, 1) := by decide +kernel
theorem dX9_deal_98 : decode cX9_deal 98 = .ok (.iload 6, 2) := by decide +kernel
theorem dX9_deal_100 : decode cX9_deal 100 = .ok (.iload 4, 2) := by decide +kernel
theorem dX9_deal_102 : decode cX9_deal 102 = .ok (.iload 5, 2) := by decide +kernel
theorem dX9_deal_104 : decode cX9_deal 104 = .ok (.invokevirtual 261, 3) := by decide +kernel
theorem dX9_deal_107 : decode cX9_deal 107 = .ok (.aload_n 0, 1) := by decide +kernel
theorem dX9_deal_108 : decode cX9_deal 108 = .ok (.getfield 61, 3) := by decide +kernel
theorem dX9_deal_111 : decode cX9_deal 111 = .ok (.bipush 21, 2) := by decide +kernel
theorem dX9_deal_113 : decode cX9_deal 113 = .ok (.iload 6, 2) := by decide +kernel
theorem dX9_deal_115 : decode cX9_deal 115 = .ok (.imul, 1) := by decide +kernel
theorem dX9_deal_116 : decode cX9_deal 116 = .ok (.iload 4, 2) := by decide +kernel
theorem dX9_deal_118 : decode cX9_deal 118 = .ok (.iadd, 1) := by decide +kernel
theorem dX9_deal_119 : decode cX9_deal 119 = .ok (.iaload, 1) := by decide +kernel
theorem dX9_deal_120 : decode cX9_deal 120 = .ok (.if_icmp .eq 9, 3) := by decide +kernel
theorem dX9_deal_123 : decode cX9_deal 123 = .ok (.iinc 5 1, 3) := by decide +kernel
theorem dX9_deal_126 : decode cX9_deal 126 = .ok (.goto (-29), 3) := by decide +kernel
theorem dX9_deal_129 : decode cX9_deal 129 = .ok (.iload 4, 2) := by decide +kernel
theorem dX9_deal_131 : decode cX9_deal 131 = .ok (.iload 5, 2) := by decide +kernel
theorem dX9_deal_133 : decode cX9_deal 133 = .ok (.isub, 1) := by decide +kernel
theorem dX9_deal_134 : decode cX9_deal 134 = .ok (.istore 4, 2) := by decide +kernel
theorem dX9_deal_136 : decode cX9_deal 136 = .ok (.iinc 6 1, 3) := by decide +kernel
theorem dX9_deal_139 : decode cX9_deal 139 = .ok (.goto (-60), 3) := by decide +kernel
theorem dX9_deal_142 : decode cX9_deal 142 = .ok (.iload 5, 2) := by decide +kernel
theorem dX9_deal_144 : decode cX9_deal 144 = .ok (.ireturn, 1) := by decide +kernel
theorem dX9_maySit_0 : decode cX9_maySit 0 = .ok (.aload_n 0, 1) := by decide +kernel
theorem dX9_maySit_1 : decode cX9_maySit 1 = .ok (.getfield 7, 3) := by decide +kernel
theorem dX9_maySit_4 : decode cX9_maySit 4 = .ok (.iload_n 1, 1) := by decide +kernel
theorem dX9_maySit_5 : decode cX9_maySit 5 = .ok (.iaload, 1) := by decide +kernel
theorem dX9_maySit_6 : decode cX9_maySit 6 = .ok (.aload_n 0, 1) := by decide +kernel
theorem dX9_maySit_7 : decode cX9_maySit 7 = .ok (.getfield 7, 3) := by decide +kernel
theorem dX9_maySit_10 : decode cX9_maySit 10 = .ok (.iload_n 2, 1) := by decide +kernel
theorem dX9_maySit_11 : decode cX9_maySit 11 = .ok (.iaload, 1) := by decide +kernel
theorem dX9_maySit_12 : decode cX9_maySit 12 = .ok (.iadd, 1) := by decide +kernel
theorem dX9_maySit_13 : decode cX9_maySit 13 = .ok (.iload_n 3, 1) := by decide +kernel
theorem dX9_maySit_14 : decode cX9_maySit 14 = .ok (.if_icmp .gt 7, 3) := by decide +kernel
theorem dX9_maySit_17 : decode cX9_maySit 17 = .ok (.iconst 1, 1) := by decide +kernel
theorem dX9_maySit_18 : decode cX9_maySit 18 = .ok (.goto 4, 3) := by decide +kernel
theorem dX9_maySit_21 : decode cX9_maySit 21 = .ok (.iconst 0, 1) := by decide +kernel
theorem dX9_maySit_22 : decode cX9_maySit 22 = .ok (.ireturn, 1) := by decide +kernel
theorem dX9_waysFrom_0 : decode cX9_waysFrom 0 = .ok (.iload_n 1, 1) := by decide +kernel
theorem dX9_waysFrom_1 : decode cX9_waysFrom 1 = .ok (.aload_n 0, 1) := by decide +kernel
theorem dX9_waysFrom_2 : decode cX9_waysFrom 2 = .ok (.getfield 94, 3) := by decide +kernel
theorem dX9_waysFrom_5 : decode cX9_waysFrom 5 = .ok (.if_icmp .ne 7, 3) := by decide +kernel
theorem dX9_waysFrom_8 : decode cX9_waysFrom 8 = .ok (.iconst 1, 1) := by decide +kernel
theorem dX9_waysFrom_9 : decode cX9_waysFrom 9 = .ok (.goto 4, 3) := by decide +kernel
theorem dX9_waysFrom_12 : decode cX9_waysFrom 12 = .ok (.iconst 0, 1) := by decide +kernel
theorem dX9_waysFrom_13 : decode cX9_waysFrom 13 = .ok (.istore 4, 2) := by decide +kernel
theorem dX9_waysFrom_15 : decode cX9_waysFrom 15 = .ok (.iconst 0, 1) := by decide +kernel
theorem dX9_waysFrom_16 : decode cX9_waysFrom 16 = .ok (.istore 5, 2) := by decide +kernel
theorem dX9_waysFrom_18 : decode cX9_waysFrom 18 = .ok (.iload 5, 2) := by decide +kernel
theorem dX9_waysFrom_20 : decode cX9_waysFrom 20 = .ok (.bipush 6, 2) := by decide +kernel
theorem dX9_waysFrom_22 : decode cX9_waysFrom 22 = .ok (.if_icmp .ge 76, 3) := by decide +kernel
theorem dX9_waysFrom_25 : decode cX9_waysFrom 25 = .ok (.aload_n 0, 1) := by decide +kernel
theorem dX9_waysFrom_26 : decode cX9_waysFrom 26 = .ok (.iload 5, 2) := by decide +kernel
theorem dX9_waysFrom_28 : decode cX9_waysFrom 28 = .ok (.invokevirtual 107, 3) := by decide +kernel
theorem dX9_waysFrom_31 : decode cX9_waysFrom 31 = .ok (.ifCond .eq 27, 3) := by decide +kernel
theorem dX9_waysFrom_34 : decode cX9_waysFrom 34 = .ok (.iload_n 1, 1) := by decide +kernel
theorem dX9_waysFrom_35 : decode cX9_waysFrom 35 = .ok (.iload 5, 2) := by decide +kernel
theorem dX9_waysFrom_37 : decode cX9_waysFrom 37 = .ok (.ishr, 1) := by decide +kernel
theorem dX9_waysFrom_38 : decode cX9_waysFrom 38 = .ok (.iconst 1, 1) := by decide +kernel
theorem dX9_waysFrom_39 : decode cX9_waysFrom 39 = .ok (.iand, 1) := by decide +kernel
theorem dX9_waysFrom_40 : decode cX9_waysFrom 40 = .ok (.ifCond .ne 18, 3) := by decide +kernel
theorem dX9_waysFrom_43 : decode cX9_waysFrom 43 = .ok (.aload_n 0, 1) := by decide +kernel
theorem dX9_waysFrom_44 : decode cX9_waysFrom 44 = .ok (.iload_n 2, 1) := by decide +kernel
theorem dX9_waysFrom_45 : decode cX9_waysFrom 45 = .ok (.iload 5, 2) := by decide +kernel
theorem dX9_waysFrom_47 : decode cX9_waysFrom 47 = .ok (.iload_n 3, 1) := by decide +kernel
theorem dX9_waysFrom_48 : decode cX9_waysFrom 48 = .ok (.invokevirtual 270, 3) := by decide +kernel
theorem dX9_waysFrom_51 : decode cX9_waysFrom 51 = .ok (.ifCond .eq 7, 3) := by decide +kernel
theorem dX9_waysFrom_54 : decode cX9_waysFrom 54 = .ok (.iconst 1, 1) := by decide +kernel
theorem dX9_waysFrom_55 : decode cX9_waysFrom 55 = .ok (.goto 4, 3) := by decide +kernel
theorem dX9_waysFrom_58 : decode cX9_waysFrom 58 = .ok (.iconst 0, 1) := by decide +kernel
theorem dX9_waysFrom_59 : decode cX9_waysFrom 59 = .ok (.istore 6, 2) := by decide +kernel
theorem dX9_waysFrom_61 : decode cX9_waysFrom 61 = .ok (.iload 4, 2) := by decide +kernel
theorem dX9_waysFrom_63 : decode cX9_waysFrom 63 = .ok (.iload 6, 2) := by decide +kernel
theorem dX9_waysFrom_65 : decode cX9_waysFrom 65 = .ok (.ifCond .eq 23, 3) := by decide +kernel
theorem dX9_waysFrom_68 : decode cX9_waysFrom 68 = .ok (.aload_n 0, 1) := by decide +kernel
theorem dX9_waysFrom_69 : decode cX9_waysFrom 69 = .ok (.getfield 64, 3) := by decide +kernel
theorem dX9_waysFrom_72 : decode cX9_waysFrom 72 = .ok (.bipush 6, 2) := by decide +kernel
theorem dX9_waysFrom_74 : decode cX9_waysFrom 74 = .ok (.iload_n 1, 1) := by decide +kernel
theorem dX9_waysFrom_75 : decode cX9_waysFrom 75 = .ok (.iconst 1, 1) := by decide +kernel
theorem dX9_waysFrom_76 : decode cX9_waysFrom 76 = .ok (.iload 5, 2) := by decide +kernel
theorem dX9_waysFrom_78 : decode cX9_waysFrom 78 = .ok (.ishl, 1) := by decide +kernel
theorem dX9_waysFrom_79 : decode cX9_waysFrom 79 = .ok (.ior, 1) := by decide +kernel
theorem dX9_waysFrom_80 : decode cX9_waysFrom 80 = .ok (.imul, 1) := by decide +kernel
theorem dX9_waysFrom_81 : decode cX9_waysFrom 81 = .ok (.iload 5, 2) := by decide +kernel
theorem dX9_waysFrom_83 : decode cX9_waysFrom 83 = .ok (.iadd, 1) := by decide +kernel
theorem dX9_waysFrom_84 : decode cX9_waysFrom 84 = .ok (.iaload, 1) := by decide +kernel
theorem dX9_waysFrom_85 : decode cX9_waysFrom 85 = .ok (.goto 4, 3) := by decide +kernel
theorem dX9_waysFrom_88 : decode cX9_waysFrom 88 = .ok (.iconst 0, 1) := by decide +kernel
theorem dX9_waysFrom_89 : decode cX9_waysFrom 89 = .ok (.iadd, 1) := by decide +kernel
theorem dX9_waysFrom_90 : decode cX9_waysFrom 90 = .ok (.istore 4, 2) := by decide +kernel
theorem dX9_waysFrom_92 : decode cX9_waysFrom 92 = .ok (.iinc 5 1, 3) := by decide +kernel
theorem dX9_waysFrom_95 : decode cX9_waysFrom 95 = .ok (.goto (-77), 3) := by decide +kernel
theorem dX9_waysFrom_98 : decode cX9_waysFrom 98 = .ok (.iload 4, 2) := by decide +kernel
theorem dX9_waysFrom_100 : decode cX9_waysFrom 100 = .ok (.ireturn, 1) := by decide +kernel
theorem dX9_firstSeats_0 : decode cX9_firstSeats 0 = .ok (.iconst 0, 1) := by decide +kernel
theorem dX9_firstSeats_1 : decode cX9_firstSeats 1 = .ok (.istore_n 2, 1) := by decide +kernel
theorem dX9_firstSeats_2 : decode cX9_firstSeats 2 = .ok (.iconst 0, 1) := by decide +kernel
theorem dX9_firstSeats_3 : decode cX9_firstSeats 3 = .ok (.istore_n 3, 1) := by decide +kernel
theorem dX9_firstSeats_4 : decode cX9_firstSeats 4 = .ok (.bipush (-6), 2) := by decide +kernel
theorem dX9_firstSeats_6 : decode cX9_firstSeats 6 = .ok (.istore 4, 2) := by decide +kernel
theorem dX9_firstSeats_8 : decode cX9_firstSeats 8 = .ok (.iload_n 3, 1) := by decide +kernel
theorem dX9_firstSeats_9 : decode cX9_firstSeats 9 = .ok (.aload_n 0, 1) := by decide +kernel
theorem dX9_firstSeats_10 : decode cX9_firstSeats 10 = .ok (.getfield 94, 3) := by decide +kernel
theorem dX9_firstSeats_13 : decode cX9_firstSeats 13 = .ok (.if_icmp .eq 127, 3) := by decide +kernel
theorem dX9_firstSeats_16 : decode cX9_firstSeats 16 = .ok (.bipush (-6), 2) := by decide +kernel
theorem dX9_firstSeats_18 : decode cX9_firstSeats 18 = .ok (.istore 5, 2) := by decide +kernel
theorem dX9_firstSeats_20 : decode cX9_firstSeats 20 = .ok (.iconst 5, 1) := by decide +kernel
theorem dX9_firstSeats_21 : decode cX9_firstSeats 21 = .ok (.istore 6, 2) := by decide +kernel
theorem dX9_firstSeats_23 : decode cX9_firstSeats 23 = .ok (.iload 6, 2) := by decide +kernel
theorem dX9_firstSeats_25 : decode cX9_firstSeats 25 = .ok (.ifCond .lt 85, 3) := by decide +kernel
theorem dX9_firstSeats_28 : decode cX9_firstSeats 28 = .ok (.aload_n 0, 1) := by decide +kernel
theorem dX9_firstSeats_29 : decode cX9_firstSeats 29 = .ok (.iload 6, 2) := by decide +kernel
theorem dX9_firstSeats_31 : decode cX9_firstSeats 31 = .ok (.invokevirtual 107, 3) := by decide +kernel
theorem dX9_firstSeats_34 : decode cX9_firstSeats 34 = .ok (.ifCond .eq 33, 3) := by decide +kernel
theorem dX9_firstSeats_37 : decode cX9_firstSeats 37 = .ok (.iload_n 3, 1) := by decide +kernel
theorem dX9_firstSeats_38 : decode cX9_firstSeats 38 = .ok (.iload 6, 2) := by decide +kernel
theorem dX9_firstSeats_40 : decode cX9_firstSeats 40 = .ok (.ishr, 1) := by decide +kernel
theorem dX9_firstSeats_41 : decode cX9_firstSeats 41 = .ok (.iconst 1, 1) := by decide +kernel
theorem dX9_firstSeats_42 : decode cX9_firstSeats 42 = .ok (.iand, 1) := by decide +kernel
theorem dX9_firstSeats_43 : decode cX9_firstSeats 43 = .ok (.ifCond .ne 24, 3) := by decide +kernel
theorem dX9_firstSeats_46 : decode cX9_firstSeats 46 = .ok (.iload 4, 2) := by decide +kernel
theorem dX9_firstSeats_48 : decode cX9_firstSeats 48 = .ok (.ifCond .lt 15, 3) := by decide +kernel
theorem dX9_firstSeats_51 : decode cX9_firstSeats 51 = .ok (.aload_n 0, 1) := by decide +kernel
theorem dX9_firstSeats_52 : decode cX9_firstSeats 52 = .ok (.iload 4, 2) := by decide +kernel
theorem dX9_firstSeats_54 : decode cX9_firstSeats 54 = .ok (.iload 6, 2) := by decide +kernel
theorem dX9_firstSeats_56 : decode cX9_firstSeats 56 = .ok (.iload_n 1, 1) := by decide +kernel
theorem dX9_firstSeats_57 : decode cX9_firstSeats 57 = .ok (.invokevirtual 270, 3) := by decide +kernel
theorem dX9_firstSeats_60 : decode cX9_firstSeats 60 = .ok (.ifCond .eq 7, 3) := by decide +kernel
theorem dX9_firstSeats_63 : decode cX9_firstSeats 63 = .ok (.iconst 1, 1) := by decide +kernel
theorem dX9_firstSeats_64 : decode cX9_firstSeats 64 = .ok (.goto 4, 3) := by decide +kernel
theorem dX9_firstSeats_67 : decode cX9_firstSeats 67 = .ok (.iconst 0, 1) := by decide +kernel
theorem dX9_firstSeats_68 : decode cX9_firstSeats 68 = .ok (.istore 7, 2) := by decide +kernel
theorem dX9_firstSeats_70 : decode cX9_firstSeats 70 = .ok (.iload 7, 2) := by decide +kernel
theorem dX9_firstSeats_72 : decode cX9_firstSeats 72 = .ok (.ifCond .eq 28, 3) := by decide +kernel
theorem dX9_firstSeats_75 : decode cX9_firstSeats 75 = .ok (.aload_n 0, 1) := by decide +kernel
theorem dX9_firstSeats_76 : decode cX9_firstSeats 76 = .ok (.getfield 64, 3) := by decide +kernel
theorem dX9_firstSeats_79 : decode cX9_firstSeats 79 = .ok (.bipush 6, 2) := by decide +kernel
theorem dX9_firstSeats_81 : decode cX9_firstSeats 81 = .ok (.iload_n 3, 1) := by decide +kernel
theorem dX9_firstSeats_82 : decode cX9_firstSeats 82 = .ok (.iconst 1, 1) := by decide +kernel
theorem dX9_firstSeats_83 : decode cX9_firstSeats 83 = .ok (.iload 6, 2) := by decide +kernel
theorem dX9_firstSeats_85 : decode cX9_firstSeats 85 = .ok (.ishl, 1) := by decide +kernel
theorem dX9_firstSeats_86 : decode cX9_firstSeats 86 = .ok (.ior, 1) := by decide +kernel
theorem dX9_firstSeats_87 : decode cX9_firstSeats 87 = .ok (.imul, 1) := by decide +kernel
theorem dX9_firstSeats_88 : decode cX9_firstSeats 88 = .ok (.iload 6, 2) := by decide +kernel
theorem dX9_firstSeats_90 : decode cX9_firstSeats 90 = .ok (.iadd, 1) := by decide +kernel
theorem dX9_firstSeats_91 : decode cX9_firstSeats 91 = .ok (.iaload, 1) := by decide +kernel
theorem dX9_firstSeats_92 : decode cX9_firstSeats 92 = .ok (.ifCond .le 8, 3) := by decide +kernel
theorem dX9_firstSeats_95 : decode cX9_firstSeats 95 = .ok (.iload 6, 2) := by decide +kernel
theorem dX9_firstSeats_97 : decode cX9_firstSeats 97 = .ok (.goto 5, 3) := by decide +kernel
theorem dX9_firstSeats_100 : decode cX9_firstSeats 100 = .ok (.iload 5, 2) := by decide +kernel
theorem dX9_firstSeats_102 : decode cX9_firstSeats 102 = .ok (.istore 5, 2) := by decide +kernel
theorem dX9_firstSeats_104 : decode cX9_firstSeats 104 = .ok (.iinc 6 (-1), 3) := by decide +kernel
theorem dX9_firstSeats_107 : decode cX9_firstSeats 107 = .ok (.goto (-84), 3) := by decide +kernel
theorem dX9_firstSeats_110 : decode cX9_firstSeats 110 = .ok (.iload 5, 2) := by decide +kernel
theorem dX9_firstSeats_112 : decode cX9_firstSeats 112 = .ok (.ifCond .ge 6, 3) := by decide +kernel
theorem dX9_firstSeats_115 : decode cX9_firstSeats 115 = .ok (.bipush (-6), 2) := by decide +kernel
theorem dX9_firstSeats_117 : decode cX9_firstSeats 117 = .ok (.ireturn, 1) := by decide +kernel
theorem dX9_firstSeats_118 : decode cX9_firstSeats 118 = .ok (.iload_n 3, 1) := by decide +kernel
theorem dX9_firstSeats_119 : decode cX9_firstSeats 119 = .ok (.iconst 1, 1) := by decide +kernel
theorem dX9_firstSeats_120 : decode cX9_firstSeats 120 = .ok (.iload 5, 2) := by decide +kernel
theorem dX9_firstSeats_122 : decode cX9_firstSeats 122 = .ok (.ishl, 1) := by decide +kernel
theorem dX9_firstSeats_123 : decode cX9_firstSeats 123 = .ok (.ior, 1) := by decide +kernel
theorem dX9_firstSeats_124 : decode cX9_firstSeats 124 = .ok (.istore_n 3, 1) := by decide +kernel
theorem dX9_firstSeats_125 : decode cX9_firstSeats 125 = .ok (.iload 5, 2) := by decide +kernel
theorem dX9_firstSeats_127 : decode cX9_firstSeats 127 = .ok (.istore 4, 2) := by decide +kernel
theorem dX9_firstSeats_129 : decode cX9_firstSeats 129 = .ok (.bipush 10, 2) := by decide +kernel
theorem dX9_firstSeats_131 : decode cX9_firstSeats 131 = .ok (.iload_n 2, 1) := by decide +kernel
theorem dX9_firstSeats_132 : decode cX9_firstSeats 132 = .ok (.imul, 1) := by decide +kernel
theorem dX9_firstSeats_133 : decode cX9_firstSeats 133 = .ok (.iload 5, 2) := by decide +kernel
theorem dX9_firstSeats_135 : decode cX9_firstSeats 135 = .ok (.iadd, 1) := by decide +kernel
theorem dX9_firstSeats_136 : decode cX9_firstSeats 136 = .ok (.istore_n 2, 1) := by decide +kernel
theorem dX9_firstSeats_137 : decode cX9_firstSeats 137 = .ok (.goto (-129), 3) := by decide +kernel
theorem dX9_firstSeats_140 : decode cX9_firstSeats 140 = .ok (.iload_n 2, 1) := by decide +kernel
theorem dX9_firstSeats_141 : decode cX9_firstSeats 141 = .ok (.ireturn, 1) := by decide +kernel
theorem dX9_seats_0 : decode cX9_seats 0 = .ok (.iload_n 1, 1) := by decide +kernel
theorem dX9_seats_1 : decode cX9_seats 1 = .ok (.i2l, 1) := by decide +kernel
theorem dX9_seats_2 : decode cX9_seats 2 = .ok (.lconst 0, 1) := by decide +kernel
theorem dX9_seats_3 : decode cX9_seats 3 = .ok (.ldc2_w 274, 3) := by decide +kernel
theorem dX9_seats_6 : decode cX9_seats 6 = .ok (.invokestatic 90, 3) := by decide +kernel
theorem dX9_seats_9 : decode cX9_seats 9 = .ok (.ifCond .eq 13, 3) := by decide +kernel
theorem dX9_seats_12 : decode cX9_seats 12 = .ok (.iload_n 2, 1) := by decide +kernel
theorem dX9_seats_13 : decode cX9_seats 13 = .ok (.i2l, 1) := by decide +kernel
theorem dX9_seats_14 : decode cX9_seats 14 = .ok (.lconst 0, 1) := by decide +kernel
theorem dX9_seats_15 : decode cX9_seats 15 = .ok (.lconst 1, 1) := by decide +kernel
theorem dX9_seats_16 : decode cX9_seats 16 = .ok (.invokestatic 90, 3) := by decide +kernel
theorem dX9_seats_19 : decode cX9_seats 19 = .ok (.ifCond .ne 6, 3) := by decide +kernel
theorem dX9_seats_22 : decode cX9_seats 22 = .ok (.bipush (-2), 2) := by decide +kernel
theorem dX9_seats_24 : decode cX9_seats 24 = .ok (.ireturn, 1) := by decide +kernel
theorem dX9_seats_25 : decode cX9_seats 25 = .ok (.bipush 63, 2) := by decide +kernel
theorem dX9_seats_27 : decode cX9_seats 27 = .ok (.istore_n 3, 1) := by decide +kernel
theorem dX9_seats_28 : decode cX9_seats 28 = .ok (.iload_n 3, 1) := by decide +kernel
theorem dX9_seats_29 : decode cX9_seats 29 = .ok (.ifCond .le 82, 3) := by decide +kernel
theorem dX9_seats_32 : decode cX9_seats 32 = .ok (.iconst 0, 1) := by decide +kernel
theorem dX9_seats_33 : decode cX9_seats 33 = .ok (.istore 4, 2) := by decide +kernel
theorem dX9_seats_35 : decode cX9_seats 35 = .ok (.iload 4, 2) := by decide +kernel
theorem dX9_seats_37 : decode cX9_seats 37 = .ok (.bipush 6, 2) := by decide +kernel
theorem dX9_seats_39 : decode cX9_seats 39 = .ok (.if_icmp .ge 66, 3) := by decide +kernel
theorem dX9_seats_42 : decode cX9_seats 42 = .ok (.iload_n 3, 1) := by decide +kernel
theorem dX9_seats_43 : decode cX9_seats 43 = .ok (.aload_n 0, 1) := by decide +kernel
theorem dX9_seats_44 : decode cX9_seats 44 = .ok (.getfield 94, 3) := by decide +kernel
theorem dX9_seats_47 : decode cX9_seats 47 = .ok (.iconst (-1), 1) := by decide +kernel
theorem dX9_seats_48 : decode cX9_seats 48 = .ok (.ixor, 1) := by decide +kernel
theorem dX9_seats_49 : decode cX9_seats 49 = .ok (.iand, 1) := by decide +kernel
theorem dX9_seats_50 : decode cX9_seats 50 = .ok (.ifCond .ne 17, 3) := by decide +kernel
theorem dX9_seats_53 : decode cX9_seats 53 = .ok (.iload_n 3, 1) := by decide +kernel
theorem dX9_seats_54 : decode cX9_seats 54 = .ok (.iload 4, 2) := by decide +kernel
theorem dX9_seats_56 : decode cX9_seats 56 = .ok (.ishr, 1) := by decide +kernel
theorem dX9_seats_57 : decode cX9_seats 57 = .ok (.iconst 1, 1) := by decide +kernel
theorem dX9_seats_58 : decode cX9_seats 58 = .ok (.iand, 1) := by decide +kernel
theorem dX9_seats_59 : decode cX9_seats 59 = .ok (.iconst 1, 1) := by decide +kernel
theorem dX9_seats_60 : decode cX9_seats 60 = .ok (.if_icmp .ne 7, 3) := by decide +kernel
theorem dX9_seats_63 : decode cX9_seats 63 = .ok (.iconst 1, 1) := by decide +kernel
theorem dX9_seats_64 : decode cX9_seats 64 = .ok (.goto 4, 3) := by decide +kernel
theorem dX9_seats_67 : decode cX9_seats 67 = .ok (.iconst 0, 1) := by decide +kernel
theorem dX9_seats_68 : decode cX9_seats 68 = .ok (.istore 5, 2) := by decide +kernel
theorem dX9_seats_70 : decode cX9_seats 70 = .ok (.aload_n 0, 1) := by decide +kernel
theorem dX9_seats_71 : decode cX9_seats 71 = .ok (.getfield 64, 3) := by decide +kernel
theorem dX9_seats_74 : decode cX9_seats 74 = .ok (.bipush 6, 2) := by decide +kernel
theorem dX9_seats_76 : decode cX9_seats 76 = .ok (.iload_n 3, 1) := by decide +kernel
theorem dX9_seats_77 : decode cX9_seats 77 = .ok (.imul, 1) := by decide +kernel
theorem dX9_seats_78 : decode cX9_seats 78 = .ok (.iload 4, 2) := by decide +kernel
theorem dX9_seats_80 : decode cX9_seats 80 = .ok (.iadd, 1) := by decide +kernel
theorem dX9_seats_81 : decode cX9_seats 81 = .ok (.iload 5, 2) := by decide +kernel
theorem dX9_seats_83 : decode cX9_seats 83 = .ok (.ifCond .eq 14, 3) := by decide +kernel
theorem dX9_seats_86 : decode cX9_seats 86 = .ok (.aload_n 0, 1) := by decide +kernel
theorem dX9_seats_87 : decode cX9_seats 87 = .ok (.iload_n 3, 1) := by decide +kernel
theorem dX9_seats_88 : decode cX9_seats 88 = .ok (.iload 4, 2) := by decide +kernel
theorem dX9_seats_90 : decode cX9_seats 90 = .ok (.iload_n 1, 1) := by decide +kernel
theorem dX9_seats_91 : decode cX9_seats 91 = .ok (.invokevirtual 276, 3) := by decide +kernel
theorem dX9_seats_94 : decode cX9_seats 94 = .ok (.goto 4, 3) := by decide +kernel
theorem dX9_seats_97 : decode cX9_seats 97 = .ok (.iconst 0, 1) := by decide +kernel
theorem dX9_seats_98 : decode cX9_seats 98 = .ok (.iastore, 1) := by decide +kernel
theorem dX9_seats_99 : decode cX9_seats 99 = .ok (.iinc 4 1, 3) := by decide +kernel
theorem dX9_seats_102 : decode cX9_seats 102 = .ok (.goto (-67), 3) := by decide +kernel
theorem dX9_seats_105 : decode cX9_seats 105 = .ok (.iinc 3 (-1), 3) := by decide +kernel
theorem dX9_seats_108 : decode cX9_seats 108 = .ok (.goto (-80), 3) := by decide +kernel
theorem dX9_seats_111 : decode cX9_seats 111 = .ok (.iload_n 2, 1) := by decide +kernel
theorem dX9_seats_112 : decode cX9_seats 112 = .ok (.iconst 1, 1) := by decide +kernel
theorem dX9_seats_113 : decode cX9_seats 113 = .ok (.if_icmp .ne 9, 3) := by decide +kernel
theorem dX9_seats_116 : decode cX9_seats 116 = .ok (.aload_n 0, 1) := by decide +kernel
theorem dX9_seats_117 : decode cX9_seats 117 = .ok (.iload_n 1, 1) := by decide +kernel
theorem dX9_seats_118 : decode cX9_seats 118 = .ok (.invokevirtual 279, 3) := by decide +kernel
theorem dX9_seats_121 : decode cX9_seats 121 = .ok (.ireturn, 1) := by decide +kernel
theorem dX9_seats_122 : decode cX9_seats 122 = .ok (.aload_n 0, 1) := by decide +kernel
theorem dX9_seats_123 : decode cX9_seats 123 = .ok (.getfield 94, 3) := by decide +kernel
theorem dX9_seats_126 : decode cX9_seats 126 = .ok (.ifCond .ne 7, 3) := by decide +kernel
theorem dX9_seats_129 : decode cX9_seats 129 = .ok (.iconst 1, 1) := by decide +kernel
theorem dX9_seats_130 : decode cX9_seats 130 = .ok (.goto 4, 3) := by decide +kernel
theorem dX9_seats_133 : decode cX9_seats 133 = .ok (.iconst 0, 1) := by decide +kernel
theorem dX9_seats_134 : decode cX9_seats 134 = .ok (.istore_n 3, 1) := by decide +kernel
theorem dX9_seats_135 : decode cX9_seats 135 = .ok (.iconst 0, 1) := by decide +kernel
theorem dX9_seats_136 : decode cX9_seats 136 = .ok (.istore 4, 2) := by decide +kernel
theorem dX9_seats_138 : decode cX9_seats 138 = .ok (.iload 4, 2) := by decide +kernel
theorem dX9_seats_140 : decode cX9_seats 140 = .ok (.bipush 6, 2) := by decide +kernel
theorem dX9_seats_142 : decode cX9_seats 142 = .ok (.if_icmp .ge 40, 3) := by decide +kernel
theorem dX9_seats_145 : decode cX9_seats 145 = .ok (.iload_n 3, 1) := by decide +kernel
theorem dX9_seats_146 : decode cX9_seats 146 = .ok (.aload_n 0, 1) := by decide +kernel
theorem dX9_seats_147 : decode cX9_seats 147 = .ok (.iload 4, 2) := by decide +kernel
theorem dX9_seats_149 : decode cX9_seats 149 = .ok (.invokevirtual 107, 3) := by decide +kernel
theorem dX9_seats_152 : decode cX9_seats 152 = .ok (.ifCond .eq 21, 3) := by decide +kernel
theorem dX9_seats_155 : decode cX9_seats 155 = .ok (.aload_n 0, 1) := by decide +kernel
theorem dX9_seats_156 : decode cX9_seats 156 = .ok (.getfield 64, 3) := by decide +kernel
theorem dX9_seats_159 : decode cX9_seats 159 = .ok (.bipush 6, 2) := by decide +kernel
theorem dX9_seats_161 : decode cX9_seats 161 = .ok (.iconst 1, 1) := by decide +kernel
theorem dX9_seats_162 : decode cX9_seats 162 = .ok (.iload 4, 2) := by decide +kernel
theorem dX9_seats_164 : decode cX9_seats 164 = .ok (.ishl, 1) := by decide +kernel
theorem dX9_seats_165 : decode cX9_seats 165 = .ok (.imul, 1) := by decide +kernel
theorem dX9_seats_166 : decode cX9_seats 166 = .ok (.iload 4, 2) := by decide +kernel
theorem dX9_seats_168 : decode cX9_seats 168 = .ok (.iadd, 1) := by decide +kernel
theorem dX9_seats_169 : decode cX9_seats 169 = .ok (.iaload, 1) := by decide +kernel
theorem dX9_seats_170 : decode cX9_seats 170 = .ok (.goto 4, 3) := by decide +kernel
theorem dX9_seats_173 : decode cX9_seats 173 = .ok (.iconst 0, 1) := by decide +kernel
theorem dX9_seats_174 : decode cX9_seats 174 = .ok (.iadd, 1) := by decide +kernel
theorem dX9_seats_175 : decode cX9_seats 175 = .ok (.istore_n 3, 1) := by decide +kernel
theorem dX9_seats_176 : decode cX9_seats 176 = .ok (.iinc 4 1, 3) := by decide +kernel
theorem dX9_seats_179 : decode cX9_seats 179 = .ok (.goto (-41), 3) := by decide +kernel
theorem dX9_seats_182 : decode cX9_seats 182 = .ok (.iload_n 3, 1) := by decide +kernel
theorem dX9_seats_183 : decode cX9_seats 183 = .ok (.ireturn, 1) := by decide +kernel
theorem dX9_covered_0 : decode cX9_covered 0 = .ok (.iload_n 1, 1) := by decide +kernel
theorem dX9_covered_1 : decode cX9_covered 1 = .ok (.istore 6, 2) := by decide +kernel
theorem dX9_covered_3 : decode cX9_covered 3 = .ok (.iload 4, 2) := by decide +kernel
theorem dX9_covered_5 : decode cX9_covered 5 = .ok (.istore 7, 2) := by decide +kernel
theorem dX9_covered_7 : decode cX9_covered 7 = .ok (.iload 5, 2) := by decide +kernel
theorem dX9_covered_9 : decode cX9_covered 9 = .ok (.istore 8, 2) := by decide +kernel
theorem dX9_covered_11 : decode cX9_covered 11 = .ok (.iconst 0, 1) := by decide +kernel
theorem dX9_covered_12 : decode cX9_covered 12 = .ok (.istore 9, 2) := by decide +kernel
theorem dX9_covered_14 : decode cX9_covered 14 = .ok (.iconst 0, 1) := by decide +kernel
theorem dX9_covered_15 : decode cX9_covered 15 = .ok (.istore 10, 2) := by decide +kernel
theorem dX9_covered_17 : decode cX9_covered 17 = .ok (.iconst 0, 1) := by decide +kernel
theorem dX9_covered_18 : decode cX9_covered 18 = .ok (.istore 11, 2) := by decide +kernel
theorem dX9_covered_20 : decode cX9_covered 20 = .ok (.iconst 1, 1) := by decide +kernel
theorem dX9_covered_21 : decode cX9_covered 21 = .ok (.istore 12, 2) := by decide +kernel
theorem dX9_covered_23 : decode cX9_covered 23 = .ok (.aload_n 0, 1) := by decide +kernel
theorem dX9_covered_24 : decode cX9_covered 24 = .ok (.iconst 0, 1) := by decide +kernel
theorem dX9_covered_25 : decode cX9_covered 25 = .ok (.putfield 282, 3) := by decide +kernel
theorem dX9_covered_28 : decode cX9_covered 28 = .ok (.iconst 5, 1) := by decide +kernel
theorem dX9_covered_29 : decode cX9_covered 29 = .ok (.istore 13, 2) := by decide +kernel
theorem dX9_covered_31 : decode cX9_covered 31 = .ok (.iload 13, 2) := by decide +kernel
theorem dX9_covered_33 : decode cX9_covered 33 = .ok (.ifCond .lt 151, 3) := by decide +kernel
theorem dX9_covered_36 : decode cX9_covered 36 = .ok (.iload 6, 2) := by decide +kernel
theorem dX9_covered_38 : decode cX9_covered 38 = .ok (.iconst 3, 1) := by decide +kernel
theorem dX9_covered_39 : decode cX9_covered 39 = .ok (.irem, 1) := by decide +kernel
theorem dX9_covered_40 : decode cX9_covered 40 = .ok (.istore 14, 2) := by decide +kernel
theorem dX9_covered_42 : decode cX9_covered 42 = .ok (.iload 6, 2) := by decide +kernel
theorem dX9_covered_44 : decode cX9_covered 44 = .ok (.iconst 3, 1) := by decide +kernel
theorem dX9_covered_45 : decode cX9_covered 45 = .ok (.idiv, 1) := by decide +kernel
theorem dX9_covered_46 : decode cX9_covered 46 = .ok (.istore 6, 2) := by decide +kernel
theorem dX9_covered_48 : decode cX9_covered 48 = .ok (.aload_n 0, 1) := by decide +kernel
theorem dX9_covered_49 : decode cX9_covered 49 = .ok (.iload 13, 2) := by decide +kernel
theorem dX9_covered_51 : decode cX9_covered 51 = .ok (.invokevirtual 107, 3) := by decide +kernel
theorem dX9_covered_54 : decode cX9_covered 54 = .ok (.ifCond .ne 12, 3) := by decide +kernel
theorem dX9_covered_57 : decode cX9_covered 57 = .ok (.iload 14, 2) := by decide +kernel
theorem dX9_covered_59 : decode cX9_covered 59 = .ok (.iconst 2, 1) := by decide +kernel
theorem dX9_covered_60 : decode cX9_covered 60 = .ok (.if_icmp .eq 6, 3) := by decide +kernel
theorem dX9_covered_63 : decode cX9_covered 63 = .ok (.bipush (-6), 2) := by decide +kernel
theorem dX9_covered_65 : decode cX9_covered 65 = .ok (.ireturn, 1) := by decide +kernel
theorem dX9_covered_66 : decode cX9_covered 66 = .ok (.iload 9, 2) := by decide +kernel
theorem dX9_covered_68 : decode cX9_covered 68 = .ok (.iload 14, 2) := by decide +kernel
theorem dX9_covered_70 : decode cX9_covered 70 = .ok (.ifCond .ne 11, 3) := by decide +kernel
theorem dX9_covered_73 : decode cX9_covered 73 = .ok (.iload 7, 2) := by decide +kernel
theorem dX9_covered_75 : decode cX9_covered 75 = .ok (.bipush 10, 2) := by decide +kernel
theorem dX9_covered_77 : decode cX9_covered 77 = .ok (.irem, 1) := by decide +kernel
theorem dX9_covered_78 : decode cX9_covered 78 = .ok (.goto 18, 3) := by decide +kernel
theorem dX9_covered_81 : decode cX9_covered 81 = .ok (.iload 14, 2) := by decide +kernel
theorem dX9_covered_83 : decode cX9_covered 83 = .ok (.iconst 1, 1) := by decide +kernel
theorem dX9_covered_84 : decode cX9_covered 84 = .ok (.if_icmp .ne 11, 3) := by decide +kernel
theorem dX9_covered_87 : decode cX9_covered 87 = .ok (.iload 8, 2) := by decide +kernel
theorem dX9_covered_89 : decode cX9_covered 89 = .ok (.bipush 10, 2) := by decide +kernel
theorem dX9_covered_91 : decode cX9_covered 91 = .ok (.irem, 1) := by decide +kernel
theorem dX9_covered_92 : decode cX9_covered 92 = .ok (.goto 4, 3) := by decide +kernel
theorem dX9_covered_95 : decode cX9_covered 95 = .ok (.iconst 0, 1) := by decide +kernel
theorem dX9_covered_96 : decode cX9_covered 96 = .ok (.iadd, 1) := by decide +kernel
theorem dX9_covered_97 : decode cX9_covered 97 = .ok (.istore 9, 2) := by decide +kernel
theorem dX9_covered_99 : decode cX9_covered 99 = .ok (.iload 10, 2) := by decide +kernel
theorem dX9_covered_101 : decode cX9_covered 101 = .ok (.iload 14, 2) := by decide +kernel
theorem dX9_covered_103 : decode cX9_covered 103 = .ok (.ifCond .ne 7, 3) := by decide +kernel
theorem dX9_covered_106 : decode cX9_covered 106 = .ok (.iconst 1, 1) := by decide +kernel
theorem dX9_covered_107 : decode cX9_covered 107 = .ok (.goto 4, 3) := by decide +kernel
theorem dX9_covered_110 : decode cX9_covered 110 = .ok (.iconst 0, 1) := by decide +kernel
theorem dX9_covered_111 : decode cX9_covered 111 = .ok (.iadd, 1) := by decide +kernel
theorem dX9_covered_112 : decode cX9_covered 112 = .ok (.istore 10, 2) := by decide +kernel
theorem dX9_covered_114 : decode cX9_covered 114 = .ok (.iload 11, 2) := by decide +kernel
theorem dX9_covered_116 : decode cX9_covered 116 = .ok (.iload 14, 2) := by decide +kernel
theorem dX9_covered_118 : decode cX9_covered 118 = .ok (.iconst 1, 1) := by decide +kernel
theorem dX9_covered_119 : decode cX9_covered 119 = .ok (.if_icmp .ne 7, 3) := by decide +kernel
theorem dX9_covered_122 : decode cX9_covered 122 = .ok (.iconst 1, 1) := by decide +kernel
theorem dX9_covered_123 : decode cX9_covered 123 = .ok (.goto 4, 3) := by decide +kernel
theorem dX9_covered_126 : decode cX9_covered 126 = .ok (.iconst 0, 1) := by decide +kernel
theorem dX9_covered_127 : decode cX9_covered 127 = .ok (.iadd, 1) := by decide +kernel
theorem dX9_covered_128 : decode cX9_covered 128 = .ok (.istore 11, 2) := by decide +kernel
theorem dX9_covered_130 : decode cX9_covered 130 = .ok (.aload_n 0, 1) := by decide +kernel
theorem dX9_covered_131 : decode cX9_covered 131 = .ok (.dup, 1) := by decide +kernel
theorem dX9_covered_132 : decode cX9_covered 132 = .ok (.getfield 282, 3) := by decide +kernel
theorem dX9_covered_135 : decode cX9_covered 135 = .ok (.iload 12, 2) := by decide +kernel
theorem dX9_covered_137 : decode cX9_covered 137 = .ok (.aload_n 0, 1) := by decide +kernel
theorem dX9_covered_138 : decode cX9_covered 138 = .ok (.iload 13, 2) := by decide +kernel
theorem dX9_covered_140 : decode cX9_covered 140 = .ok (.invokevirtual 107, 3) := by decide +kernel
theorem dX9_covered_143 : decode cX9_covered 143 = .ok (.ifCond .eq 8, 3) := by decide +kernel
theorem dX9_covered_146 : decode cX9_covered 146 = .ok (.iload 14, 2) := by decide +kernel
theorem dX9_covered_148 : decode cX9_covered 148 = .ok (.goto 4, 3) := by decide +kernel
theorem dX9_covered_151 : decode cX9_covered 151 = .ok (.iconst 3, 1) := by decide +kernel
theorem dX9_covered_152 : decode cX9_covered 152 = .ok (.imul, 1) := by decide +kernel
theorem dX9_covered_153 : decode cX9_covered 153 = .ok (.iadd, 1) := by decide +kernel
theorem dX9_covered_154 : decode cX9_covered 154 = .ok (.putfield 282, 3) := by decide +kernel
theorem dX9_covered_157 : decode cX9_covered 157 = .ok (.iload 12, 2) := by decide +kernel
theorem dX9_covered_159 : decode cX9_covered 159 = .ok (.bipush 10, 2) := by decide +kernel
theorem dX9_covered_161 : decode cX9_covered 161 = .ok (.imul, 1) := by decide +kernel
theorem dX9_covered_162 : decode cX9_covered 162 = .ok (.istore 12, 2) := by decide +kernel
theorem dX9_covered_164 : decode cX9_covered 164 = .ok (.iload 7, 2) := by decide +kernel
theorem dX9_covered_166 : decode cX9_covered 166 = .ok (.bipush 10, 2) := by decide +kernel
theorem dX9_covered_168 : decode cX9_covered 168 = .ok (.idiv, 1) := by decide +kernel
theorem dX9_covered_169 : decode cX9_covered 169 = .ok (.istore 7, 2) := by decide +kernel
theorem dX9_covered_171 : decode cX9_covered 171 = .ok (.iload 8, 2) := by decide +kernel
theorem dX9_covered_173 : decode cX9_covered 173 = .ok (.bipush 10, 2) := by decide +kernel
theorem dX9_covered_175 : decode cX9_covered 175 = .ok (.idiv, 1) := by decide +kernel
theorem dX9_covered_176 : decode cX9_covered 176 = .ok (.istore 8, 2) := by decide +kernel
theorem dX9_covered_178 : decode cX9_covered 178 = .ok (.iinc 13 (-1), 3) := by decide +kernel
theorem dX9_covered_181 : decode cX9_covered 181 = .ok (.goto (-150), 3) := by decide +kernel
theorem dX9_covered_184 : decode cX9_covered 184 = .ok (.iload 10, 2) := by decide +kernel
theorem dX9_covered_186 : decode cX9_covered 186 = .ok (.iload_n 2, 1) := by decide +kernel
theorem dX9_covered_187 : decode cX9_covered 187 = .ok (.if_icmp .gt 14, 3) := by decide +kernel
theorem dX9_covered_190 : decode cX9_covered 190 = .ok (.iload 11, 2) := by decide +kernel
theorem dX9_covered_192 : decode cX9_covered 192 = .ok (.iload_n 3, 1) := by decide +kernel
theorem dX9_covered_193 : decode cX9_covered 193 = .ok (.if_icmp .gt 8, 3) := by decide +kernel
theorem dX9_covered_196 : decode cX9_covered 196 = .ok (.iload 9, 2) := by decide +kernel
theorem dX9_covered_198 : decode cX9_covered 198 = .ok (.goto 5, 3) := by decide +kernel
theorem dX9_covered_201 : decode cX9_covered 201 = .ok (.bipush (-6), 2) := by decide +kernel
theorem dX9_covered_203 : decode cX9_covered 203 = .ok (.ireturn, 1) := by decide +kernel
theorem dX9_cover_0 : decode cX9_cover 0 = .ok (.iload_n 1, 1) := by decide +kernel
theorem dX9_cover_1 : decode cX9_cover 1 = .ok (.i2l, 1) := by decide +kernel
theorem dX9_cover_2 : decode cX9_cover 2 = .ok (.lconst 0, 1) := by decide +kernel
theorem dX9_cover_3 : decode cX9_cover 3 = .ok (.ldc2_w 285, 3) := by decide +kernel
theorem dX9_cover_6 : decode cX9_cover 6 = .ok (.invokestatic 90, 3) := by decide +kernel
theorem dX9_cover_9 : decode cX9_cover 9 = .ok (.ifCond .eq 51, 3) := by decide +kernel
theorem dX9_cover_12 : decode cX9_cover 12 = .ok (.iload_n 2, 1) := by decide +kernel
theorem dX9_cover_13 : decode cX9_cover 13 = .ok (.i2l, 1) := by decide +kernel
theorem dX9_cover_14 : decode cX9_cover 14 = .ok (.lconst 0, 1) := by decide +kernel
theorem dX9_cover_15 : decode cX9_cover 15 = .ok (.ldc2_w 285, 3) := by decide +kernel
theorem dX9_cover_18 : decode cX9_cover 18 = .ok (.invokestatic 90, 3) := by decide +kernel
theorem dX9_cover_21 : decode cX9_cover 21 = .ok (.ifCond .eq 39, 3) := by decide +kernel
theorem dX9_cover_24 : decode cX9_cover 24 = .ok (.iload_n 3, 1) := by decide +kernel
theorem dX9_cover_25 : decode cX9_cover 25 = .ok (.i2l, 1) := by decide +kernel
theorem dX9_cover_26 : decode cX9_cover 26 = .ok (.lconst 0, 1) := by decide +kernel
theorem dX9_cover_27 : decode cX9_cover 27 = .ok (.ldc2_w 253, 3) := by decide +kernel
theorem dX9_cover_30 : decode cX9_cover 30 = .ok (.invokestatic 90, 3) := by decide +kernel
theorem dX9_cover_33 : decode cX9_cover 33 = .ok (.ifCond .eq 27, 3) := by decide +kernel
theorem dX9_cover_36 : decode cX9_cover 36 = .ok (.iload 4, 2) := by decide +kernel
theorem dX9_cover_38 : decode cX9_cover 38 = .ok (.i2l, 1) := by decide +kernel
theorem dX9_cover_39 : decode cX9_cover 39 = .ok (.lconst 0, 1) := by decide +kernel
theorem dX9_cover_40 : decode cX9_cover 40 = .ok (.ldc2_w 253, 3) := by decide +kernel
theorem dX9_cover_43 : decode cX9_cover 43 = .ok (.invokestatic 90, 3) := by decide +kernel
theorem dX9_cover_46 : decode cX9_cover 46 = .ok (.ifCond .eq 14, 3) := by decide +kernel
theorem dX9_cover_49 : decode cX9_cover 49 = .ok (.iload 5, 2) := by decide +kernel
theorem dX9_cover_51 : decode cX9_cover 51 = .ok (.i2l, 1) := by decide +kernel
theorem dX9_cover_52 : decode cX9_cover 52 = .ok (.lconst 0, 1) := by decide +kernel
theorem dX9_cover_53 : decode cX9_cover 53 = .ok (.lconst 1, 1) := by decide +kernel
theorem dX9_cover_54 : decode cX9_cover 54 = .ok (.invokestatic 90, 3) := by decide +kernel
theorem dX9_cover_57 : decode cX9_cover 57 = .ok (.ifCond .ne 6, 3) := by decide +kernel
theorem dX9_cover_60 : decode cX9_cover 60 = .ok (.bipush (-2), 2) := by decide +kernel
theorem dX9_cover_62 : decode cX9_cover 62 = .ok (.ireturn, 1) := by decide +kernel
theorem dX9_cover_63 : decode cX9_cover 63 = .ok (.bipush (-6), 2) := by decide +kernel
theorem dX9_cover_65 : decode cX9_cover 65 = .ok (.istore 6, 2) := by decide +kernel
theorem dX9_cover_67 : decode cX9_cover 67 = .ok (.iconst 0, 1) := by decide +kernel
theorem dX9_cover_68 : decode cX9_cover 68 = .ok (.istore 7, 2) := by decide +kernel
theorem dX9_cover_70 : decode cX9_cover 70 = .ok (.iconst 0, 1) := by decide +kernel
theorem dX9_cover_71 : decode cX9_cover 71 = .ok (.istore 8, 2) := by decide +kernel
theorem dX9_cover_73 : decode cX9_cover 73 = .ok (.iload 8, 2) := by decide +kernel
theorem dX9_cover_75 : decode cX9_cover 75 = .ok (.sipush 729, 3) := by decide +kernel
theorem dX9_cover_78 : decode cX9_cover 78 = .ok (.if_icmp .ge 56, 3) := by decide +kernel
theorem dX9_cover_81 : decode cX9_cover 81 = .ok (.aload_n 0, 1) := by decide +kernel
theorem dX9_cover_82 : decode cX9_cover 82 = .ok (.iload 8, 2) := by decide +kernel
theorem dX9_cover_84 : decode cX9_cover 84 = .ok (.iload_n 1, 1) := by decide +kernel
theorem dX9_cover_85 : decode cX9_cover 85 = .ok (.iload_n 2, 1) := by decide +kernel
theorem dX9_cover_86 : decode cX9_cover 86 = .ok (.iload_n 3, 1) := by decide +kernel
theorem dX9_cover_87 : decode cX9_cover 87 = .ok (.iload 4, 2) := by decide +kernel
theorem dX9_cover_89 : decode cX9_cover 89 = .ok (.invokevirtual 287, 3) := by decide +kernel
theorem dX9_cover_92 : decode cX9_cover 92 = .ok (.istore 9, 2) := by decide +kernel
theorem dX9_cover_94 : decode cX9_cover 94 = .ok (.iload 9, 2) := by decide +kernel
theorem dX9_cover_96 : decode cX9_cover 96 = .ok (.iload 6, 2) := by decide +kernel
theorem dX9_cover_98 : decode cX9_cover 98 = .ok (.if_icmp .le 10, 3) := by decide +kernel
theorem dX9_cover_101 : decode cX9_cover 101 = .ok (.aload_n 0, 1) := by decide +kernel
theorem dX9_cover_102 : decode cX9_cover 102 = .ok (.getfield 282, 3) := by decide +kernel
theorem dX9_cover_105 : decode cX9_cover 105 = .ok (.goto 5, 3) := by decide +kernel
theorem dX9_cover_108 : decode cX9_cover 108 = .ok (.iload 7, 2) := by decide +kernel
theorem dX9_cover_110 : decode cX9_cover 110 = .ok (.istore 7, 2) := by decide +kernel
theorem dX9_cover_112 : decode cX9_cover 112 = .ok (.iload 9, 2) := by decide +kernel
theorem dX9_cover_114 : decode cX9_cover 114 = .ok (.iload 6, 2) := by decide +kernel
theorem dX9_cover_116 : decode cX9_cover 116 = .ok (.if_icmp .le 8, 3) := by decide +kernel
theorem dX9_cover_119 : decode cX9_cover 119 = .ok (.iload 9, 2) := by decide +kernel
theorem dX9_cover_121 : decode cX9_cover 121 = .ok (.goto 5, 3) := by decide +kernel
theorem dX9_cover_124 : decode cX9_cover 124 = .ok (.iload 6, 2) := by decide +kernel
theorem dX9_cover_126 : decode cX9_cover 126 = .ok (.istore 6, 2) := by decide +kernel
theorem dX9_cover_128 : decode cX9_cover 128 = .ok (.iinc 8 1, 3) := by decide +kernel
theorem dX9_cover_131 : decode cX9_cover 131 = .ok (.goto (-58), 3) := by decide +kernel
theorem dX9_cover_134 : decode cX9_cover 134 = .ok (.iload 5, 2) := by decide +kernel
theorem dX9_cover_136 : decode cX9_cover 136 = .ok (.ifCond .ne 8, 3) := by decide +kernel
theorem dX9_cover_139 : decode cX9_cover 139 = .ok (.iload 6, 2) := by decide +kernel
theorem dX9_cover_141 : decode cX9_cover 141 = .ok (.goto 5, 3) := by decide +kernel
theorem dX9_cover_144 : decode cX9_cover 144 = .ok (.iload 7, 2) := by decide +kernel
theorem dX9_cover_146 : decode cX9_cover 146 = .ok (.ireturn, 1) := by decide +kernel
theorem dX9_lowest_0 : decode cX9_lowest 0 = .ok (.lload_n 2, 1) := by decide +kernel
theorem dX9_lowest_1 : decode cX9_lowest 1 = .ok (.lstore 5, 2) := by decide +kernel
theorem dX9_lowest_3 : decode cX9_lowest 3 = .ok (.lload_n 0, 1) := by decide +kernel
theorem dX9_lowest_4 : decode cX9_lowest 4 = .ok (.lstore 7, 2) := by decide +kernel
theorem dX9_lowest_6 : decode cX9_lowest 6 = .ok (.lload 7, 2) := by decide +kernel
theorem dX9_lowest_8 : decode cX9_lowest 8 = .ok (.lconst 0, 1) := by decide +kernel
theorem dX9_lowest_9 : decode cX9_lowest 9 = .ok (.lcmp, 1) := by decide +kernel
theorem dX9_lowest_10 : decode cX9_lowest 10 = .ok (.ifCond .eq 21, 3) := by decide +kernel
theorem dX9_lowest_13 : decode cX9_lowest 13 = .ok (.lload 5, 2) := by decide +kernel
theorem dX9_lowest_15 : decode cX9_lowest 15 = .ok (.lload 7, 2) := by decide +kernel
theorem dX9_lowest_17 : decode cX9_lowest 17 = .ok (.lrem, 1) := by decide +kernel
theorem dX9_lowest_18 : decode cX9_lowest 18 = .ok (.lstore 9, 2) := by decide +kernel
theorem dX9_lowest_20 : decode cX9_lowest 20 = .ok (.lload 7, 2) := by decide +kernel
theorem dX9_lowest_22 : decode cX9_lowest 22 = .ok (.lstore 5, 2) := by decide +kernel
theorem dX9_lowest_24 : decode cX9_lowest 24 = .ok (.lload 9, 2) := by decide +kernel
theorem dX9_lowest_26 : decode cX9_lowest 26 = .ok (.lstore 7, 2) := by decide +kernel
theorem dX9_lowest_28 : decode cX9_lowest 28 = .ok (.goto (-22), 3) := by decide +kernel
theorem dX9_lowest_31 : decode cX9_lowest 31 = .ok (.iload 4, 2) := by decide +kernel
theorem dX9_lowest_33 : decode cX9_lowest 33 = .ok (.ifCond .ne 10, 3) := by decide +kernel
theorem dX9_lowest_36 : decode cX9_lowest 36 = .ok (.lload_n 0, 1) := by decide +kernel
theorem dX9_lowest_37 : decode cX9_lowest 37 = .ok (.lload 5, 2) := by decide +kernel
theorem dX9_lowest_39 : decode cX9_lowest 39 = .ok (.ldiv, 1) := by decide +kernel
theorem dX9_lowest_40 : decode cX9_lowest 40 = .ok (.goto 7, 3) := by decide +kernel
theorem dX9_lowest_43 : decode cX9_lowest 43 = .ok (.lload_n 2, 1) := by decide +kernel
theorem dX9_lowest_44 : decode cX9_lowest 44 = .ok (.lload 5, 2) := by decide +kernel
theorem dX9_lowest_46 : decode cX9_lowest 46 = .ok (.ldiv, 1) := by decide +kernel
theorem dX9_lowest_47 : decode cX9_lowest 47 = .ok (.lreturn, 1) := by decide +kernel
theorem dX9_behindHour_0 : decode cX9_behindHour 0 = .ok (.iload_n 0, 1) := by decide +kernel
theorem dX9_behindHour_1 : decode cX9_behindHour 1 = .ok (.ifCond .le 9, 3) := by decide +kernel
theorem dX9_behindHour_4 : decode cX9_behindHour 4 = .ok (.iload_n 0, 1) := by decide +kernel
theorem dX9_behindHour_5 : decode cX9_behindHour 5 = .ok (.iconst 1, 1) := by decide +kernel
theorem dX9_behindHour_6 : decode cX9_behindHour 6 = .ok (.isub, 1) := by decide +kernel
theorem dX9_behindHour_7 : decode cX9_behindHour 7 = .ok (.goto 4, 3) := by decide +kernel
theorem dX9_behindHour_10 : decode cX9_behindHour 10 = .ok (.iconst 0, 1) := by decide +kernel
theorem dX9_behindHour_11 : decode cX9_behindHour 11 = .ok (.ireturn, 1) := by decide +kernel
theorem dX9_riskHour_0 : decode cX9_riskHour 0 = .ok (.iconst 0, 1) := by decide +kernel
theorem dX9_riskHour_1 : decode cX9_riskHour 1 = .ok (.istore 4, 2) := by decide +kernel
theorem dX9_riskHour_3 : decode cX9_riskHour 3 = .ok (.iload 4, 2) := by decide +kernel
theorem dX9_riskHour_5 : decode cX9_riskHour 5 = .ok (.bipush 21, 2) := by decide +kernel
theorem dX9_riskHour_7 : decode cX9_riskHour 7 = .ok (.if_icmp .ge 17, 3) := by decide +kernel
theorem dX9_riskHour_10 : decode cX9_riskHour 10 = .ok (.aload_n 0, 1) := by decide +kernel
theorem dX9_riskHour_11 : decode cX9_riskHour 11 = .ok (.getfield 71, 3) := by decide +kernel
theorem dX9_riskHour_14 : decode cX9_riskHour 14 = .ok (.iload 4, 2) := by decide +kernel
theorem dX9_riskHour_16 : decode cX9_riskHour 16 = .ok (.lconst 0, 1) := by decide +kernel
theorem dX9_riskHour_17 : decode cX9_riskHour 17 = .ok (.lastore, 1) := by decide +kernel
theorem dX9_riskHour_18 : decode cX9_riskHour 18 = .ok (.iinc 4 1, 3) := by decide +kernel
theorem dX9_riskHour_21 : decode cX9_riskHour 21 = .ok (.goto (-18), 3) := by decide +kernel
theorem dX9_riskHour_24 : decode cX9_riskHour 24 = .ok (.aload_n 0, 1) := by decide +kernel
theorem dX9_riskHour_25 : decode cX9_riskHour 25 = .ok (.dup, 1) := by decide +kernel
theorem dX9_riskHour_26 : decode cX9_riskHour 26 = .ok (.getfield 291, 3) := by decide +kernel
theorem dX9_riskHour_29 : decode cX9_riskHour 29 = .ok (.ldc2_w 295, 3) := by decide +kernel
theorem dX9_riskHour_32 : decode cX9_riskHour 32 = .ok (.lmul, 1) := by decide +kernel
theorem dX9_riskHour_33 : decode cX9_riskHour 33 = .ok (.putfield 291, 3) := by decide +kernel
theorem dX9_riskHour_36 : decode cX9_riskHour 36 = .ok (.iconst 0, 1) := by decide +kernel
theorem dX9_riskHour_37 : decode cX9_riskHour 37 = .ok (.istore 4, 2) := by decide +kernel
theorem dX9_riskHour_39 : decode cX9_riskHour 39 = .ok (.iload 4, 2) := by decide +kernel
theorem dX9_riskHour_41 : decode cX9_riskHour 41 = .ok (.aload_n 0, 1) := by decide +kernel
theorem dX9_riskHour_42 : decode cX9_riskHour 42 = .ok (.getfield 81, 3) := by decide +kernel
theorem dX9_riskHour_45 : decode cX9_riskHour 45 = .ok (.if_icmp .gt 129, 3) := by decide +kernel
theorem dX9_riskHour_48 : decode cX9_riskHour 48 = .ok (.iload 4, 2) := by decide +kernel
theorem dX9_riskHour_50 : decode cX9_riskHour 50 = .ok (.iload_n 1, 1) := by decide +kernel
theorem dX9_riskHour_51 : decode cX9_riskHour 51 = .ok (.iadd, 1) := by decide +kernel
theorem dX9_riskHour_52 : decode cX9_riskHour 52 = .ok (.aload_n 0, 1) := by decide +kernel
theorem dX9_riskHour_53 : decode cX9_riskHour 53 = .ok (.getfield 81, 3) := by decide +kernel
theorem dX9_riskHour_56 : decode cX9_riskHour 56 = .ok (.if_icmp .le 7, 3) := by decide +kernel
theorem dX9_riskHour_59 : decode cX9_riskHour 59 = .ok (.iconst 1, 1) := by decide +kernel
theorem dX9_riskHour_60 : decode cX9_riskHour 60 = .ok (.goto 4, 3) := by decide +kernel
theorem dX9_riskHour_63 : decode cX9_riskHour 63 = .ok (.iconst 0, 1) := by decide +kernel
theorem dX9_riskHour_64 : decode cX9_riskHour 64 = .ok (.istore 5, 2) := by decide +kernel
theorem dX9_riskHour_66 : decode cX9_riskHour 66 = .ok (.aload_n 0, 1) := by decide +kernel
theorem dX9_riskHour_67 : decode cX9_riskHour 67 = .ok (.dup, 1) := by decide +kernel
theorem dX9_riskHour_68 : decode cX9_riskHour 68 = .ok (.getfield 291, 3) := by decide +kernel
theorem dX9_riskHour_71 : decode cX9_riskHour 71 = .ok (.iload 5, 2) := by decide +kernel
theorem dX9_riskHour_73 : decode cX9_riskHour 73 = .ok (.ifCond .eq 16, 3) := by decide +kernel
theorem dX9_riskHour_76 : decode cX9_riskHour 76 = .ok (.iload_n 2, 1) := by decide +kernel
theorem dX9_riskHour_77 : decode cX9_riskHour 77 = .ok (.i2l, 1) := by decide +kernel
theorem dX9_riskHour_78 : decode cX9_riskHour 78 = .ok (.aload_n 0, 1) := by decide +kernel
theorem dX9_riskHour_79 : decode cX9_riskHour 79 = .ok (.getfield 67, 3) := by decide +kernel
theorem dX9_riskHour_82 : decode cX9_riskHour 82 = .ok (.iload 4, 2) := by decide +kernel
theorem dX9_riskHour_84 : decode cX9_riskHour 84 = .ok (.laload, 1) := by decide +kernel
theorem dX9_riskHour_85 : decode cX9_riskHour 85 = .ok (.lmul, 1) := by decide +kernel
theorem dX9_riskHour_86 : decode cX9_riskHour 86 = .ok (.goto 4, 3) := by decide +kernel
theorem dX9_riskHour_89 : decode cX9_riskHour 89 = .ok (.lconst 0, 1) := by decide +kernel
theorem dX9_riskHour_90 : decode cX9_riskHour 90 = .ok (.ladd, 1) := by decide +kernel
theorem dX9_riskHour_91 : decode cX9_riskHour 91 = .ok (.putfield 291, 3) := by decide +kernel
theorem dX9_riskHour_94 : decode cX9_riskHour 94 = .ok (.aload_n 0, 1) := by decide +kernel
theorem dX9_riskHour_95 : decode cX9_riskHour 95 = .ok (.getfield 71, 3) := by decide +kernel
theorem dX9_riskHour_98 : decode cX9_riskHour 98 = .ok (.iload 4, 2) := by decide +kernel
theorem dX9_riskHour_100 : decode cX9_riskHour 100 = .ok (.invokestatic 297, 3) := by decide +kernel
theorem dX9_riskHour_103 : decode cX9_riskHour 103 = .ok (.dup2, 1) := by decide +kernel
theorem dX9_riskHour_104 : decode cX9_riskHour 104 = .ok (.laload, 1) := by decide +kernel
theorem dX9_riskHour_105 : decode cX9_riskHour 105 = .ok (.ldc2_w 295, 3) := by decide +kernel
theorem dX9_riskHour_108 : decode cX9_riskHour 108 = .ok (.iload_n 2, 1) := by decide +kernel
theorem dX9_riskHour_109 : decode cX9_riskHour 109 = .ok (.i2l, 1) := by decide +kernel
theorem dX9_riskHour_110 : decode cX9_riskHour 110 = .ok (.lsub, 1) := by decide +kernel
theorem dX9_riskHour_111 : decode cX9_riskHour 111 = .ok (.aload_n 0, 1) := by decide +kernel
theorem dX9_riskHour_112 : decode cX9_riskHour 112 = .ok (.getfield 67, 3) := by decide +kernel
theorem dX9_riskHour_115 : decode cX9_riskHour 115 = .ok (.iload 4, 2) := by decide +kernel
theorem dX9_riskHour_117 : decode cX9_riskHour 117 = .ok (.laload, 1) := by decide +kernel
theorem dX9_riskHour_118 : decode cX9_riskHour 118 = .ok (.lmul, 1) := by decide +kernel
theorem dX9_riskHour_119 : decode cX9_riskHour 119 = .ok (.ladd, 1) := by decide +kernel
theorem dX9_riskHour_120 : decode cX9_riskHour 120 = .ok (.lastore, 1) := by decide +kernel
theorem dX9_riskHour_121 : decode cX9_riskHour 121 = .ok (.aload_n 0, 1) := by decide +kernel
theorem dX9_riskHour_122 : decode cX9_riskHour 122 = .ok (.getfield 71, 3) := by decide +kernel
theorem dX9_riskHour_125 : decode cX9_riskHour 125 = .ok (.iload 5, 2) := by decide +kernel
theorem dX9_riskHour_127 : decode cX9_riskHour 127 = .ok (.ifCond .eq 7, 3) := by decide +kernel
theorem dX9_riskHour_130 : decode cX9_riskHour 130 = .ok (.iconst 0, 1) := by decide +kernel
theorem dX9_riskHour_131 : decode cX9_riskHour 131 = .ok (.goto 10, 3) := by decide +kernel
theorem dX9_riskHour_134 : decode cX9_riskHour 134 = .ok (.iload 4, 2) := by decide +kernel
theorem dX9_riskHour_136 : decode cX9_riskHour 136 = .ok (.iload_n 1, 1) := by decide +kernel
theorem dX9_riskHour_137 : decode cX9_riskHour 137 = .ok (.iadd, 1) := by decide +kernel
theorem dX9_riskHour_138 : decode cX9_riskHour 138 = .ok (.invokestatic 297, 3) := by decide +kernel
theorem dX9_riskHour_141 : decode cX9_riskHour 141 = .ok (.dup2, 1) := by decide +kernel
theorem dX9_riskHour_142 : decode cX9_riskHour 142 = .ok (.laload, 1) := by decide +kernel
theorem dX9_riskHour_143 : decode cX9_riskHour 143 = .ok (.iload 5, 2) := by decide +kernel
theorem dX9_riskHour_145 : decode cX9_riskHour 145 = .ok (.ifCond .eq 11, 3) := by decide +kernel
theorem dX9_riskHour_148 : decode cX9_riskHour 148 = .ok (.iload_n 3, 1) := by decide +kernel
theorem dX9_riskHour_149 : decode cX9_riskHour 149 = .ok (.ifCond .ne 7, 3) := by decide +kernel
theorem dX9_riskHour_152 : decode cX9_riskHour 152 = .ok (.lconst 0, 1) := by decide +kernel
theorem dX9_riskHour_153 : decode cX9_riskHour 153 = .ok (.goto 13, 3) := by decide +kernel
theorem dX9_riskHour_156 : decode cX9_riskHour 156 = .ok (.iload_n 2, 1) := by decide +kernel
theorem dX9_riskHour_157 : decode cX9_riskHour 157 = .ok (.i2l, 1) := by decide +kernel
theorem dX9_riskHour_158 : decode cX9_riskHour 158 = .ok (.aload_n 0, 1) := by decide +kernel
theorem dX9_riskHour_159 : decode cX9_riskHour 159 = .ok (.getfield 67, 3) := by decide +kernel
theorem dX9_riskHour_162 : decode cX9_riskHour 162 = .ok (.iload 4, 2) := by decide +kernel
theorem dX9_riskHour_164 : decode cX9_riskHour 164 = .ok (.laload, 1) := by decide +kernel
theorem dX9_riskHour_165 : decode cX9_riskHour 165 = .ok (.lmul, 1) := by decide +kernel
theorem dX9_riskHour_166 : decode cX9_riskHour 166 = .ok (.ladd, 1) := by decide +kernel
theorem dX9_riskHour_167 : decode cX9_riskHour 167 = .ok (.lastore, 1) := by decide +kernel
theorem dX9_riskHour_168 : decode cX9_riskHour 168 = .ok (.iinc 4 1, 3) := by decide +kernel
theorem dX9_riskHour_171 : decode cX9_riskHour 171 = .ok (.goto (-132), 3) := by decide +kernel
theorem dX9_riskHour_174 : decode cX9_riskHour 174 = .ok (.iconst 0, 1) := by decide +kernel
theorem dX9_riskHour_175 : decode cX9_riskHour 175 = .ok (.istore 4, 2) := by decide +kernel
theorem dX9_riskHour_177 : decode cX9_riskHour 177 = .ok (.iload 4, 2) := by decide +kernel
theorem dX9_riskHour_179 : decode cX9_riskHour 179 = .ok (.bipush 21, 2) := by decide +kernel
theorem dX9_riskHour_181 : decode cX9_riskHour 181 = .ok (.if_icmp .ge 23, 3) := by decide +kernel
theorem dX9_riskHour_184 : decode cX9_riskHour 184 = .ok (.aload_n 0, 1) := by decide +kernel
theorem dX9_riskHour_185 : decode cX9_riskHour 185 = .ok (.getfield 67, 3) := by decide +kernel
theorem dX9_riskHour_188 : decode cX9_riskHour 188 = .ok (.iload 4, 2) := by decide +kernel
theorem dX9_riskHour_190 : decode cX9_riskHour 190 = .ok (.aload_n 0, 1) := by decide +kernel
theorem dX9_riskHour_191 : decode cX9_riskHour 191 = .ok (.getfield 71, 3) := by decide +kernel
theorem dX9_riskHour_194 : decode cX9_riskHour 194 = .ok (.iload 4, 2) := by decide +kernel
theorem dX9_riskHour_196 : decode cX9_riskHour 196 = .ok (.laload, 1) := by decide +kernel
theorem dX9_riskHour_197 : decode cX9_riskHour 197 = .ok (.lastore, 1) := by decide +kernel
theorem dX9_riskHour_198 : decode cX9_riskHour 198 = .ok (.iinc 4 1, 3) := by decide +kernel
theorem dX9_riskHour_201 : decode cX9_riskHour 201 = .ok (.goto (-24), 3) := by decide +kernel
theorem dX9_riskHour_204 : decode cX9_riskHour 204 = .ok (.return_, 1) := by decide +kernel
theorem dX9_risk_0 : decode cX9_risk 0 = .ok (.iload_n 1, 1) := by decide +kernel
theorem dX9_risk_1 : decode cX9_risk 1 = .ok (.i2l, 1) := by decide +kernel
theorem dX9_risk_2 : decode cX9_risk 2 = .ok (.lconst 0, 1) := by decide +kernel
theorem dX9_risk_3 : decode cX9_risk 3 = .ok (.aload_n 0, 1) := by decide +kernel
theorem dX9_risk_4 : decode cX9_risk 4 = .ok (.getfield 81, 3) := by decide +kernel
theorem dX9_risk_7 : decode cX9_risk 7 = .ok (.i2l, 1) := by decide +kernel
theorem dX9_risk_8 : decode cX9_risk 8 = .ok (.invokestatic 90, 3) := by decide +kernel
theorem dX9_risk_11 : decode cX9_risk 11 = .ok (.ifCond .eq 44, 3) := by decide +kernel
theorem dX9_risk_14 : decode cX9_risk 14 = .ok (.iload_n 2, 1) := by decide +kernel
theorem dX9_risk_15 : decode cX9_risk 15 = .ok (.i2l, 1) := by decide +kernel
theorem dX9_risk_16 : decode cX9_risk 16 = .ok (.lconst 0, 1) := by decide +kernel
theorem dX9_risk_17 : decode cX9_risk 17 = .ok (.ldc2_w 300, 3) := by decide +kernel
theorem dX9_risk_20 : decode cX9_risk 20 = .ok (.invokestatic 90, 3) := by decide +kernel
theorem dX9_risk_23 : decode cX9_risk 23 = .ok (.ifCond .eq 32, 3) := by decide +kernel
theorem dX9_risk_26 : decode cX9_risk 26 = .ok (.iload_n 3, 1) := by decide +kernel
theorem dX9_risk_27 : decode cX9_risk 27 = .ok (.i2l, 1) := by decide +kernel
theorem dX9_risk_28 : decode cX9_risk 28 = .ok (.lconst 1, 1) := by decide +kernel
theorem dX9_risk_29 : decode cX9_risk 29 = .ok (.ldc2_w 101, 3) := by decide +kernel
theorem dX9_risk_32 : decode cX9_risk 32 = .ok (.invokestatic 90, 3) := by decide +kernel
theorem dX9_risk_35 : decode cX9_risk 35 = .ok (.ifCond .eq 20, 3) := by decide +kernel
theorem dX9_risk_38 : decode cX9_risk 38 = .ok (.iload 4, 2) := by decide +kernel
theorem dX9_risk_40 : decode cX9_risk 40 = .ok (.i2l, 1) := by decide +kernel
theorem dX9_risk_41 : decode cX9_risk 41 = .ok (.lconst 0, 1) := by decide +kernel
theorem dX9_risk_42 : decode cX9_risk 42 = .ok (.ldc2_w 295, 3) := by decide +kernel
theorem dX9_risk_45 : decode cX9_risk 45 = .ok (.invokestatic 90, 3) := by decide +kernel
theorem dX9_risk_48 : decode cX9_risk 48 = .ok (.ifCond .eq 7, 3) := by decide +kernel
theorem dX9_risk_51 : decode cX9_risk 51 = .ok (.iconst 1, 1) := by decide +kernel
theorem dX9_risk_52 : decode cX9_risk 52 = .ok (.goto 4, 3) := by decide +kernel
theorem dX9_risk_55 : decode cX9_risk 55 = .ok (.iconst 0, 1) := by decide +kernel
theorem dX9_risk_56 : decode cX9_risk 56 = .ok (.istore 7, 2) := by decide +kernel
theorem dX9_risk_58 : decode cX9_risk 58 = .ok (.iload 7, 2) := by decide +kernel
theorem dX9_risk_60 : decode cX9_risk 60 = .ok (.ifCond .eq 25, 3) := by decide +kernel
theorem dX9_risk_63 : decode cX9_risk 63 = .ok (.iload 5, 2) := by decide +kernel
theorem dX9_risk_65 : decode cX9_risk 65 = .ok (.i2l, 1) := by decide +kernel
theorem dX9_risk_66 : decode cX9_risk 66 = .ok (.lconst 0, 1) := by decide +kernel
theorem dX9_risk_67 : decode cX9_risk 67 = .ok (.lconst 1, 1) := by decide +kernel
theorem dX9_risk_68 : decode cX9_risk 68 = .ok (.invokestatic 90, 3) := by decide +kernel
theorem dX9_risk_71 : decode cX9_risk 71 = .ok (.ifCond .eq 14, 3) := by decide +kernel
theorem dX9_risk_74 : decode cX9_risk 74 = .ok (.iload 6, 2) := by decide +kernel
theorem dX9_risk_76 : decode cX9_risk 76 = .ok (.i2l, 1) := by decide +kernel
theorem dX9_risk_77 : decode cX9_risk 77 = .ok (.lconst 0, 1) := by decide +kernel
theorem dX9_risk_78 : decode cX9_risk 78 = .ok (.lconst 1, 1) := by decide +kernel
theorem dX9_risk_79 : decode cX9_risk 79 = .ok (.invokestatic 90, 3) := by decide +kernel
theorem dX9_risk_82 : decode cX9_risk 82 = .ok (.ifCond .ne 7, 3) := by decide +kernel
theorem dX9_risk_85 : decode cX9_risk 85 = .ok (.ldc2_w 302, 3) := by decide +kernel
theorem dX9_risk_88 : decode cX9_risk 88 = .ok (.lreturn, 1) := by decide +kernel
theorem dX9_risk_89 : decode cX9_risk 89 = .ok (.iconst 0, 1) := by decide +kernel
theorem dX9_risk_90 : decode cX9_risk 90 = .ok (.istore 8, 2) := by decide +kernel
theorem dX9_risk_92 : decode cX9_risk 92 = .ok (.iload 8, 2) := by decide +kernel
theorem dX9_risk_94 : decode cX9_risk 94 = .ok (.bipush 21, 2) := by decide +kernel
theorem dX9_risk_96 : decode cX9_risk 96 = .ok (.if_icmp .ge 27, 3) := by decide +kernel
theorem dX9_risk_99 : decode cX9_risk 99 = .ok (.aload_n 0, 1) := by decide +kernel
theorem dX9_risk_100 : decode cX9_risk 100 = .ok (.getfield 67, 3) := by decide +kernel
theorem dX9_risk_103 : decode cX9_risk 103 = .ok (.iload 8, 2) := by decide +kernel
theorem dX9_risk_105 : decode cX9_risk 105 = .ok (.iload 8, 2) := by decide +kernel
theorem dX9_risk_107 : decode cX9_risk 107 = .ok (.iload_n 1, 1) := by decide +kernel
theorem dX9_risk_108 : decode cX9_risk 108 = .ok (.if_icmp .ne 7, 3) := by decide +kernel
theorem dX9_risk_111 : decode cX9_risk 111 = .ok (.lconst 1, 1) := by decide +kernel
theorem dX9_risk_112 : decode cX9_risk 112 = .ok (.goto 4, 3) := by decide +kernel
theorem dX9_risk_115 : decode cX9_risk 115 = .ok (.lconst 0, 1) := by decide +kernel
theorem dX9_risk_116 : decode cX9_risk 116 = .ok (.lastore, 1) := by decide +kernel
theorem dX9_risk_117 : decode cX9_risk 117 = .ok (.iinc 8 1, 3) := by decide +kernel
theorem dX9_risk_120 : decode cX9_risk 120 = .ok (.goto (-28), 3) := by decide +kernel
theorem dX9_risk_123 : decode cX9_risk 123 = .ok (.aload_n 0, 1) := by decide +kernel
theorem dX9_risk_124 : decode cX9_risk 124 = .ok (.lconst 0, 1) := by decide +kernel
theorem dX9_risk_125 : decode cX9_risk 125 = .ok (.putfield 291, 3) := by decide +kernel
theorem dX9_risk_128 : decode cX9_risk 128 = .ok (.lconst 1, 1) := by decide +kernel
theorem dX9_risk_129 : decode cX9_risk 129 = .ok (.lstore 8, 2) := by decide +kernel
theorem dX9_risk_131 : decode cX9_risk 131 = .ok (.iconst 0, 1) := by decide +kernel
theorem dX9_risk_132 : decode cX9_risk 132 = .ok (.istore 10, 2) := by decide +kernel
theorem dX9_risk_134 : decode cX9_risk 134 = .ok (.iload 10, 2) := by decide +kernel
theorem dX9_risk_136 : decode cX9_risk 136 = .ok (.iload_n 2, 1) := by decide +kernel
theorem dX9_risk_137 : decode cX9_risk 137 = .ok (.if_icmp .ge 35, 3) := by decide +kernel
theorem dX9_risk_140 : decode cX9_risk 140 = .ok (.aload_n 0, 1) := by decide +kernel
theorem dX9_risk_141 : decode cX9_risk 141 = .ok (.iload_n 3, 1) := by decide +kernel
theorem dX9_risk_142 : decode cX9_risk 142 = .ok (.iload 4, 2) := by decide +kernel
theorem dX9_risk_144 : decode cX9_risk 144 = .ok (.iload 5, 2) := by decide +kernel
theorem dX9_risk_146 : decode cX9_risk 146 = .ok (.iconst 1, 1) := by decide +kernel
theorem dX9_risk_147 : decode cX9_risk 147 = .ok (.if_icmp .ne 7, 3) := by decide +kernel
theorem dX9_risk_150 : decode cX9_risk 150 = .ok (.iconst 1, 1) := by decide +kernel
theorem dX9_risk_151 : decode cX9_risk 151 = .ok (.goto 4, 3) := by decide +kernel
theorem dX9_risk_154 : decode cX9_risk 154 = .ok (.iconst 0, 1) := by decide +kernel
theorem dX9_risk_155 : decode cX9_risk 155 = .ok (.invokevirtual 304, 3) := by decide +kernel
theorem dX9_risk_158 : decode cX9_risk 158 = .ok (.lload 8, 2) := by decide +kernel
theorem dX9_risk_160 : decode cX9_risk 160 = .ok (.ldc2_w 295, 3) := by decide +kernel
theorem dX9_risk_163 : decode cX9_risk 163 = .ok (.lmul, 1) := by decide +kernel
theorem dX9_risk_164 : decode cX9_risk 164 = .ok (.lstore 8, 2) := by decide +kernel
theorem dX9_risk_166 : decode cX9_risk 166 = .ok (.iinc 10 1, 3) := by decide +kernel
theorem dX9_risk_169 : decode cX9_risk 169 = .ok (.goto (-35), 3) := by decide +kernel
theorem dX9_risk_172 : decode cX9_risk 172 = .ok (.lconst 0, 1) := by decide +kernel
theorem dX9_risk_173 : decode cX9_risk 173 = .ok (.lstore 10, 2) := by decide +kernel
theorem dX9_risk_175 : decode cX9_risk 175 = .ok (.iconst 0, 1) := by decide +kernel
theorem dX9_risk_176 : decode cX9_risk 176 = .ok (.istore 12, 2) := by decide +kernel
theorem dX9_risk_178 : decode cX9_risk 178 = .ok (.iload 12, 2) := by decide +kernel
theorem dX9_risk_180 : decode cX9_risk 180 = .ok (.bipush 21, 2) := by decide +kernel
theorem dX9_risk_182 : decode cX9_risk 182 = .ok (.if_icmp .ge 21, 3) := by decide +kernel
theorem dX9_risk_185 : decode cX9_risk 185 = .ok (.lload 10, 2) := by decide +kernel
theorem dX9_risk_187 : decode cX9_risk 187 = .ok (.aload_n 0, 1) := by decide +kernel
theorem dX9_risk_188 : decode cX9_risk 188 = .ok (.getfield 67, 3) := by decide +kernel
theorem dX9_risk_191 : decode cX9_risk 191 = .ok (.iload 12, 2) := by decide +kernel
theorem dX9_risk_193 : decode cX9_risk 193 = .ok (.laload, 1) := by decide +kernel
theorem dX9_risk_194 : decode cX9_risk 194 = .ok (.ladd, 1) := by decide +kernel
theorem dX9_risk_195 : decode cX9_risk 195 = .ok (.lstore 10, 2) := by decide +kernel
theorem dX9_risk_197 : decode cX9_risk 197 = .ok (.iinc 12 1, 3) := by decide +kernel
theorem dX9_risk_200 : decode cX9_risk 200 = .ok (.goto (-22), 3) := by decide +kernel
theorem dX9_risk_203 : decode cX9_risk 203 = .ok (.iload 5, 2) := by decide +kernel
theorem dX9_risk_205 : decode cX9_risk 205 = .ok (.ifCond .ne 8, 3) := by decide +kernel
theorem dX9_risk_208 : decode cX9_risk 208 = .ok (.lload 10, 2) := by decide +kernel
theorem dX9_risk_210 : decode cX9_risk 210 = .ok (.goto 7, 3) := by decide +kernel
theorem dX9_risk_213 : decode cX9_risk 213 = .ok (.aload_n 0, 1) := by decide +kernel
theorem dX9_risk_214 : decode cX9_risk 214 = .ok (.getfield 291, 3) := by decide +kernel
theorem dX9_risk_217 : decode cX9_risk 217 = .ok (.lload 8, 2) := by decide +kernel
theorem dX9_risk_219 : decode cX9_risk 219 = .ok (.iload 6, 2) := by decide +kernel
theorem dX9_risk_221 : decode cX9_risk 221 = .ok (.invokestatic 308, 3) := by decide +kernel
theorem dX9_risk_224 : decode cX9_risk 224 = .ok (.lreturn, 1) := by decide +kernel
theorem dX9_seen_0 : decode cX9_seen 0 = .ok (.aload_n 0, 1) := by decide +kernel
theorem dX9_seen_1 : decode cX9_seen 1 = .ok (.iload_n 1, 1) := by decide +kernel
theorem dX9_seen_2 : decode cX9_seen 2 = .ok (.invokevirtual 107, 3) := by decide +kernel
theorem dX9_seen_5 : decode cX9_seen 5 = .ok (.ifCond .ne 5, 3) := by decide +kernel
theorem dX9_seen_8 : decode cX9_seen 8 = .ok (.iconst (-1), 1) := by decide +kernel
theorem dX9_seen_9 : decode cX9_seen 9 = .ok (.ireturn, 1) := by decide +kernel
theorem dX9_seen_10 : decode cX9_seen 10 = .ok (.aload_n 0, 1) := by decide +kernel
theorem dX9_seen_11 : decode cX9_seen 11 = .ok (.getfield 312, 3) := by decide +kernel
theorem dX9_seen_14 : decode cX9_seen 14 = .ok (.bipush 8, 2) := by decide +kernel
theorem dX9_seen_16 : decode cX9_seen 16 = .ok (.if_icmp .ne 6, 3) := by decide +kernel
theorem dX9_seen_19 : decode cX9_seen 19 = .ok (.bipush (-4), 2) := by decide +kernel
theorem dX9_seen_21 : decode cX9_seen 21 = .ok (.ireturn, 1) := by decide +kernel
theorem dX9_seen_22 : decode cX9_seen 22 = .ok (.aload_n 0, 1) := by decide +kernel
theorem dX9_seen_23 : decode cX9_seen 23 = .ok (.getfield 28, 3) := by decide +kernel
theorem dX9_seen_26 : decode cX9_seen 26 = .ok (.aload_n 0, 1) := by decide +kernel
theorem dX9_seen_27 : decode cX9_seen 27 = .ok (.getfield 312, 3) := by decide +kernel
theorem dX9_seen_30 : decode cX9_seen 30 = .ok (.iload_n 1, 1) := by decide +kernel
theorem dX9_seen_31 : decode cX9_seen 31 = .ok (.iastore, 1) := by decide +kernel
theorem dX9_seen_32 : decode cX9_seen 32 = .ok (.aload_n 0, 1) := by decide +kernel
theorem dX9_seen_33 : decode cX9_seen 33 = .ok (.getfield 31, 3) := by decide +kernel
theorem dX9_seen_36 : decode cX9_seen 36 = .ok (.aload_n 0, 1) := by decide +kernel
theorem dX9_seen_37 : decode cX9_seen 37 = .ok (.getfield 312, 3) := by decide +kernel
theorem dX9_seen_40 : decode cX9_seen 40 = .ok (.iload_n 2, 1) := by decide +kernel
theorem dX9_seen_41 : decode cX9_seen 41 = .ok (.ifCond .eq 7, 3) := by decide +kernel
theorem dX9_seen_44 : decode cX9_seen 44 = .ok (.iconst 1, 1) := by decide +kernel
theorem dX9_seen_45 : decode cX9_seen 45 = .ok (.goto 4, 3) := by decide +kernel
theorem dX9_seen_48 : decode cX9_seen 48 = .ok (.iconst 0, 1) := by decide +kernel
theorem dX9_seen_49 : decode cX9_seen 49 = .ok (.iastore, 1) := by decide +kernel
theorem dX9_seen_50 : decode cX9_seen 50 = .ok (.aload_n 0, 1) := by decide +kernel
theorem dX9_seen_51 : decode cX9_seen 51 = .ok (.dup, 1) := by decide +kernel
theorem dX9_seen_52 : decode cX9_seen 52 = .ok (.getfield 312, 3) := by decide +kernel
theorem dX9_seen_55 : decode cX9_seen 55 = .ok (.iconst 1, 1) := by decide +kernel
theorem dX9_seen_56 : decode cX9_seen 56 = .ok (.iadd, 1) := by decide +kernel
theorem dX9_seen_57 : decode cX9_seen 57 = .ok (.putfield 312, 3) := by decide +kernel
theorem dX9_seen_60 : decode cX9_seen 60 = .ok (.aload_n 0, 1) := by decide +kernel
theorem dX9_seen_61 : decode cX9_seen 61 = .ok (.getfield 312, 3) := by decide +kernel
theorem dX9_seen_64 : decode cX9_seen 64 = .ok (.ireturn, 1) := by decide +kernel
theorem dX9_forget_0 : decode cX9_forget 0 = .ok (.aload_n 0, 1) := by decide +kernel
theorem dX9_forget_1 : decode cX9_forget 1 = .ok (.getfield 312, 3) := by decide +kernel
theorem dX9_forget_4 : decode cX9_forget 4 = .ok (.istore_n 1, 1) := by decide +kernel
theorem dX9_forget_5 : decode cX9_forget 5 = .ok (.aload_n 0, 1) := by decide +kernel
theorem dX9_forget_6 : decode cX9_forget 6 = .ok (.iconst 0, 1) := by decide +kernel
theorem dX9_forget_7 : decode cX9_forget 7 = .ok (.putfield 312, 3) := by decide +kernel
theorem dX9_forget_10 : decode cX9_forget 10 = .ok (.iload_n 1, 1) := by decide +kernel
theorem dX9_forget_11 : decode cX9_forget 11 = .ok (.ireturn, 1) := by decide +kernel
theorem dX9_wouldHear_0 : decode cX9_wouldHear 0 = .ok (.iload_n 1, 1) := by decide +kernel
theorem dX9_wouldHear_1 : decode cX9_wouldHear 1 = .ok (.iload_n 2, 1) := by decide +kernel
theorem dX9_wouldHear_2 : decode cX9_wouldHear 2 = .ok (.if_icmp .eq 12, 3) := by decide +kernel
theorem dX9_wouldHear_5 : decode cX9_wouldHear 5 = .ok (.aload_n 0, 1) := by decide +kernel
theorem dX9_wouldHear_6 : decode cX9_wouldHear 6 = .ok (.iload_n 1, 1) := by decide +kernel
theorem dX9_wouldHear_7 : decode cX9_wouldHear 7 = .ok (.iload_n 2, 1) := by decide +kernel
theorem dX9_wouldHear_8 : decode cX9_wouldHear 8 = .ok (.invokevirtual 162, 3) := by decide +kernel
theorem dX9_wouldHear_11 : decode cX9_wouldHear 11 = .ok (.ifCond .eq 7, 3) := by decide +kernel
theorem dX9_wouldHear_14 : decode cX9_wouldHear 14 = .ok (.iconst 1, 1) := by decide +kernel
theorem dX9_wouldHear_15 : decode cX9_wouldHear 15 = .ok (.goto 4, 3) := by decide +kernel
theorem dX9_wouldHear_18 : decode cX9_wouldHear 18 = .ok (.iconst 0, 1) := by decide +kernel
theorem dX9_wouldHear_19 : decode cX9_wouldHear 19 = .ok (.ireturn, 1) := by decide +kernel
theorem dX9_fits_0 : decode cX9_fits 0 = .ok (.aload_n 0, 1) := by decide +kernel
theorem dX9_fits_1 : decode cX9_fits 1 = .ok (.iload_n 1, 1) := by decide +kernel
theorem dX9_fits_2 : decode cX9_fits 2 = .ok (.invokevirtual 107, 3) := by decide +kernel
theorem dX9_fits_5 : decode cX9_fits 5 = .ok (.istore_n 2, 1) := by decide +kernel
theorem dX9_fits_6 : decode cX9_fits 6 = .ok (.iconst 0, 1) := by decide +kernel
theorem dX9_fits_7 : decode cX9_fits 7 = .ok (.istore_n 3, 1) := by decide +kernel
theorem dX9_fits_8 : decode cX9_fits 8 = .ok (.iload_n 3, 1) := by decide +kernel
theorem dX9_fits_9 : decode cX9_fits 9 = .ok (.aload_n 0, 1) := by decide +kernel
theorem dX9_fits_10 : decode cX9_fits 10 = .ok (.getfield 312, 3) := by decide +kernel
theorem dX9_fits_13 : decode cX9_fits 13 = .ok (.if_icmp .ge 61, 3) := by decide +kernel
theorem dX9_fits_16 : decode cX9_fits 16 = .ok (.aload_n 0, 1) := by decide +kernel
theorem dX9_fits_17 : decode cX9_fits 17 = .ok (.getfield 28, 3) := by decide +kernel
theorem dX9_fits_20 : decode cX9_fits 20 = .ok (.iload_n 3, 1) := by decide +kernel
theorem dX9_fits_21 : decode cX9_fits 21 = .ok (.iaload, 1) := by decide +kernel
theorem dX9_fits_22 : decode cX9_fits 22 = .ok (.istore 4, 2) := by decide +kernel
theorem dX9_fits_24 : decode cX9_fits 24 = .ok (.iload_n 2, 1) := by decide +kernel
theorem dX9_fits_25 : decode cX9_fits 25 = .ok (.ifCond .eq 41, 3) := by decide +kernel
theorem dX9_fits_28 : decode cX9_fits 28 = .ok (.aload_n 0, 1) := by decide +kernel
theorem dX9_fits_29 : decode cX9_fits 29 = .ok (.iload 4, 2) := by decide +kernel
theorem dX9_fits_31 : decode cX9_fits 31 = .ok (.invokevirtual 107, 3) := by decide +kernel
theorem dX9_fits_34 : decode cX9_fits 34 = .ok (.ifCond .eq 32, 3) := by decide +kernel
theorem dX9_fits_37 : decode cX9_fits 37 = .ok (.aload_n 0, 1) := by decide +kernel
theorem dX9_fits_38 : decode cX9_fits 38 = .ok (.iload 4, 2) := by decide +kernel
theorem dX9_fits_40 : decode cX9_fits 40 = .ok (.iload_n 1, 1) := by decide +kernel
theorem dX9_fits_41 : decode cX9_fits 41 = .ok (.invokevirtual 315, 3) := by decide +kernel
theorem dX9_fits_44 : decode cX9_fits 44 = .ok (.aload_n 0, 1) := by decide +kernel
theorem dX9_fits_45 : decode cX9_fits 45 = .ok (.getfield 31, 3) := by decide +kernel
theorem dX9_fits_48 : decode cX9_fits 48 = .ok (.iload_n 3, 1) := by decide +kernel
theorem dX9_fits_49 : decode cX9_fits 49 = .ok (.iaload, 1) := by decide +kernel
theorem dX9_fits_50 : decode cX9_fits 50 = .ok (.iconst 1, 1) := by decide +kernel
theorem dX9_fits_51 : decode cX9_fits 51 = .ok (.if_icmp .ne 7, 3) := by decide +kernel
theorem dX9_fits_54 : decode cX9_fits 54 = .ok (.iconst 1, 1) := by decide +kernel
theorem dX9_fits_55 : decode cX9_fits 55 = .ok (.goto 4, 3) := by decide +kernel
theorem dX9_fits_58 : decode cX9_fits 58 = .ok (.iconst 0, 1) := by decide +kernel
theorem dX9_fits_59 : decode cX9_fits 59 = .ok (.if_icmp .ne 7, 3) := by decide +kernel
theorem dX9_fits_62 : decode cX9_fits 62 = .ok (.iconst 1, 1) := by decide +kernel
theorem dX9_fits_63 : decode cX9_fits 63 = .ok (.goto 4, 3) := by decide +kernel
theorem dX9_fits_66 : decode cX9_fits 66 = .ok (.iconst 0, 1) := by decide +kernel
theorem dX9_fits_67 : decode cX9_fits 67 = .ok (.istore_n 2, 1) := by decide +kernel
theorem dX9_fits_68 : decode cX9_fits 68 = .ok (.iinc 3 1, 3) := by decide +kernel
theorem dX9_fits_71 : decode cX9_fits 71 = .ok (.goto (-63), 3) := by decide +kernel
theorem dX9_fits_74 : decode cX9_fits 74 = .ok (.iload_n 2, 1) := by decide +kernel
theorem dX9_fits_75 : decode cX9_fits 75 = .ok (.ireturn, 1) := by decide +kernel
theorem dX9_who_0 : decode cX9_who 0 = .ok (.iconst 0, 1) := by decide +kernel
theorem dX9_who_1 : decode cX9_who 1 = .ok (.istore_n 1, 1) := by decide +kernel
theorem dX9_who_2 : decode cX9_who 2 = .ok (.iconst 0, 1) := by decide +kernel
theorem dX9_who_3 : decode cX9_who 3 = .ok (.istore_n 2, 1) := by decide +kernel
theorem dX9_who_4 : decode cX9_who 4 = .ok (.iload_n 2, 1) := by decide +kernel
theorem dX9_who_5 : decode cX9_who 5 = .ok (.bipush 6, 2) := by decide +kernel
theorem dX9_who_7 : decode cX9_who 7 = .ok (.if_icmp .ge 27, 3) := by decide +kernel
theorem dX9_who_10 : decode cX9_who 10 = .ok (.iload_n 1, 1) := by decide +kernel
theorem dX9_who_11 : decode cX9_who 11 = .ok (.aload_n 0, 1) := by decide +kernel
theorem dX9_who_12 : decode cX9_who 12 = .ok (.iload_n 2, 1) := by decide +kernel
theorem dX9_who_13 : decode cX9_who 13 = .ok (.invokevirtual 318, 3) := by decide +kernel
theorem dX9_who_16 : decode cX9_who 16 = .ok (.ifCond .eq 9, 3) := by decide +kernel
theorem dX9_who_19 : decode cX9_who 19 = .ok (.iconst 1, 1) := by decide +kernel
theorem dX9_who_20 : decode cX9_who 20 = .ok (.iload_n 2, 1) := by decide +kernel
theorem dX9_who_21 : decode cX9_who 21 = .ok (.ishl, 1) := by decide +kernel
theorem dX9_who_22 : decode cX9_who 22 = .ok (.goto 4, 3) := by decide +kernel
theorem dX9_who_25 : decode cX9_who 25 = .ok (.iconst 0, 1) := by decide +kernel
theorem dX9_who_26 : decode cX9_who 26 = .ok (.ior, 1) := by decide +kernel
theorem dX9_who_27 : decode cX9_who 27 = .ok (.istore_n 1, 1) := by decide +kernel
theorem dX9_who_28 : decode cX9_who 28 = .ok (.iinc 2 1, 3) := by decide +kernel
theorem dX9_who_31 : decode cX9_who 31 = .ok (.goto (-27), 3) := by decide +kernel
theorem dX9_who_34 : decode cX9_who 34 = .ok (.iload_n 1, 1) := by decide +kernel
theorem dX9_who_35 : decode cX9_who 35 = .ok (.ireturn, 1) := by decide +kernel
theorem dX9_mostLeft_0 : decode cX9_mostLeft 0 = .ok (.iconst 0, 1) := by decide +kernel
theorem dX9_mostLeft_1 : decode cX9_mostLeft 1 = .ok (.istore_n 3, 1) := by decide +kernel
theorem dX9_mostLeft_2 : decode cX9_mostLeft 2 = .ok (.iconst 0, 1) := by decide +kernel
theorem dX9_mostLeft_3 : decode cX9_mostLeft 3 = .ok (.istore 4, 2) := by decide +kernel
theorem dX9_mostLeft_5 : decode cX9_mostLeft 5 = .ok (.iload 4, 2) := by decide +kernel
theorem dX9_mostLeft_7 : decode cX9_mostLeft 7 = .ok (.bipush 6, 2) := by decide +kernel
theorem dX9_mostLeft_9 : decode cX9_mostLeft 9 = .ok (.if_icmp .ge 37, 3) := by decide +kernel
theorem dX9_mostLeft_12 : decode cX9_mostLeft 12 = .ok (.iload_n 3, 1) := by decide +kernel
theorem dX9_mostLeft_13 : decode cX9_mostLeft 13 = .ok (.iload_n 1, 1) := by decide +kernel
theorem dX9_mostLeft_14 : decode cX9_mostLeft 14 = .ok (.iload 4, 2) := by decide +kernel
theorem dX9_mostLeft_16 : decode cX9_mostLeft 16 = .ok (.ishr, 1) := by decide +kernel
theorem dX9_mostLeft_17 : decode cX9_mostLeft 17 = .ok (.iconst 1, 1) := by decide +kernel
theorem dX9_mostLeft_18 : decode cX9_mostLeft 18 = .ok (.iand, 1) := by decide +kernel
theorem dX9_mostLeft_19 : decode cX9_mostLeft 19 = .ok (.iconst 1, 1) := by decide +kernel
theorem dX9_mostLeft_20 : decode cX9_mostLeft 20 = .ok (.if_icmp .ne 17, 3) := by decide +kernel
theorem dX9_mostLeft_23 : decode cX9_mostLeft 23 = .ok (.aload_n 0, 1) := by decide +kernel
theorem dX9_mostLeft_24 : decode cX9_mostLeft 24 = .ok (.iload_n 2, 1) := by decide +kernel
theorem dX9_mostLeft_25 : decode cX9_mostLeft 25 = .ok (.iload 4, 2) := by decide +kernel
theorem dX9_mostLeft_27 : decode cX9_mostLeft 27 = .ok (.invokevirtual 315, 3) := by decide +kernel
theorem dX9_mostLeft_30 : decode cX9_mostLeft 30 = .ok (.ifCond .eq 7, 3) := by decide +kernel
theorem dX9_mostLeft_33 : decode cX9_mostLeft 33 = .ok (.iconst 1, 1) := by decide +kernel
theorem dX9_mostLeft_34 : decode cX9_mostLeft 34 = .ok (.goto 4, 3) := by decide +kernel
theorem dX9_mostLeft_37 : decode cX9_mostLeft 37 = .ok (.iconst 0, 1) := by decide +kernel
theorem dX9_mostLeft_38 : decode cX9_mostLeft 38 = .ok (.iadd, 1) := by decide +kernel
theorem dX9_mostLeft_39 : decode cX9_mostLeft 39 = .ok (.istore_n 3, 1) := by decide +kernel
theorem dX9_mostLeft_40 : decode cX9_mostLeft 40 = .ok (.iinc 4 1, 3) := by decide +kernel
theorem dX9_mostLeft_43 : decode cX9_mostLeft 43 = .ok (.goto (-38), 3) := by decide +kernel
theorem dX9_mostLeft_46 : decode cX9_mostLeft 46 = .ok (.iload_n 1, 1) := by decide +kernel
theorem dX9_mostLeft_47 : decode cX9_mostLeft 47 = .ok (.invokestatic 103, 3) := by decide +kernel
theorem dX9_mostLeft_50 : decode cX9_mostLeft 50 = .ok (.iload_n 3, 1) := by decide +kernel
theorem dX9_mostLeft_51 : decode cX9_mostLeft 51 = .ok (.isub, 1) := by decide +kernel
theorem dX9_mostLeft_52 : decode cX9_mostLeft 52 = .ok (.istore 4, 2) := by decide +kernel
theorem dX9_mostLeft_54 : decode cX9_mostLeft 54 = .ok (.iload_n 3, 1) := by decide +kernel
theorem dX9_mostLeft_55 : decode cX9_mostLeft 55 = .ok (.iload 4, 2) := by decide +kernel
theorem dX9_mostLeft_57 : decode cX9_mostLeft 57 = .ok (.if_icmp .le 7, 3) := by decide +kernel
theorem dX9_mostLeft_60 : decode cX9_mostLeft 60 = .ok (.iload_n 3, 1) := by decide +kernel
theorem dX9_mostLeft_61 : decode cX9_mostLeft 61 = .ok (.goto 5, 3) := by decide +kernel
theorem dX9_mostLeft_64 : decode cX9_mostLeft 64 = .ok (.iload 4, 2) := by decide +kernel
theorem dX9_mostLeft_66 : decode cX9_mostLeft 66 = .ok (.ireturn, 1) := by decide +kernel
theorem dX9_ask_0 : decode cX9_ask 0 = .ok (.iload_n 1, 1) := by decide +kernel
theorem dX9_ask_1 : decode cX9_ask 1 = .ok (.i2l, 1) := by decide +kernel
theorem dX9_ask_2 : decode cX9_ask 2 = .ok (.lconst 0, 1) := by decide +kernel
theorem dX9_ask_3 : decode cX9_ask 3 = .ok (.lconst 1, 1) := by decide +kernel
theorem dX9_ask_4 : decode cX9_ask 4 = .ok (.invokestatic 90, 3) := by decide +kernel
theorem dX9_ask_7 : decode cX9_ask 7 = .ok (.ifCond .ne 6, 3) := by decide +kernel
theorem dX9_ask_10 : decode cX9_ask 10 = .ok (.bipush (-2), 2) := by decide +kernel
theorem dX9_ask_12 : decode cX9_ask 12 = .ok (.ireturn, 1) := by decide +kernel
theorem dX9_ask_13 : decode cX9_ask 13 = .ok (.aload_n 0, 1) := by decide +kernel
theorem dX9_ask_14 : decode cX9_ask 14 = .ok (.invokevirtual 321, 3) := by decide +kernel
theorem dX9_ask_17 : decode cX9_ask 17 = .ok (.istore_n 2, 1) := by decide +kernel
theorem dX9_ask_18 : decode cX9_ask 18 = .ok (.bipush (-6), 2) := by decide +kernel
theorem dX9_ask_20 : decode cX9_ask 20 = .ok (.istore_n 3, 1) := by decide +kernel
theorem dX9_ask_21 : decode cX9_ask 21 = .ok (.iconst 0, 1) := by decide +kernel
theorem dX9_ask_22 : decode cX9_ask 22 = .ok (.istore 4, 2) := by decide +kernel
theorem dX9_ask_24 : decode cX9_ask 24 = .ok (.iload 4, 2) := by decide +kernel
theorem dX9_ask_26 : decode cX9_ask 26 = .ok (.bipush 6, 2) := by decide +kernel
theorem dX9_ask_28 : decode cX9_ask 28 = .ok (.if_icmp .ge 49, 3) := by decide +kernel
theorem dX9_ask_31 : decode cX9_ask 31 = .ok (.iload_n 2, 1) := by decide +kernel
theorem dX9_ask_32 : decode cX9_ask 32 = .ok (.ifCond .eq 45, 3) := by decide +kernel
theorem dX9_ask_35 : decode cX9_ask 35 = .ok (.aload_n 0, 1) := by decide +kernel
theorem dX9_ask_36 : decode cX9_ask 36 = .ok (.iload 4, 2) := by decide +kernel
theorem dX9_ask_38 : decode cX9_ask 38 = .ok (.invokevirtual 107, 3) := by decide +kernel
theorem dX9_ask_41 : decode cX9_ask 41 = .ok (.ifCond .eq 28, 3) := by decide +kernel
theorem dX9_ask_44 : decode cX9_ask 44 = .ok (.iload_n 3, 1) := by decide +kernel
theorem dX9_ask_45 : decode cX9_ask 45 = .ok (.ifCond .lt 19, 3) := by decide +kernel
theorem dX9_ask_48 : decode cX9_ask 48 = .ok (.aload_n 0, 1) := by decide +kernel
theorem dX9_ask_49 : decode cX9_ask 49 = .ok (.iload_n 2, 1) := by decide +kernel
theorem dX9_ask_50 : decode cX9_ask 50 = .ok (.iload 4, 2) := by decide +kernel
theorem dX9_ask_52 : decode cX9_ask 52 = .ok (.invokevirtual 323, 3) := by decide +kernel
theorem dX9_ask_55 : decode cX9_ask 55 = .ok (.aload_n 0, 1) := by decide +kernel
theorem dX9_ask_56 : decode cX9_ask 56 = .ok (.iload_n 2, 1) := by decide +kernel
theorem dX9_ask_57 : decode cX9_ask 57 = .ok (.iload_n 3, 1) := by decide +kernel
theorem dX9_ask_58 : decode cX9_ask 58 = .ok (.invokevirtual 323, 3) := by decide +kernel
theorem dX9_ask_61 : decode cX9_ask 61 = .ok (.if_icmp .ge 8, 3) := by decide +kernel
theorem dX9_ask_64 : decode cX9_ask 64 = .ok (.iload 4, 2) := by decide +kernel
theorem dX9_ask_66 : decode cX9_ask 66 = .ok (.goto 4, 3) := by decide +kernel
theorem dX9_ask_69 : decode cX9_ask 69 = .ok (.iload_n 3, 1) := by decide +kernel
theorem dX9_ask_70 : decode cX9_ask 70 = .ok (.istore_n 3, 1) := by decide +kernel
theorem dX9_ask_71 : decode cX9_ask 71 = .ok (.iinc 4 1, 3) := by decide +kernel
theorem dX9_ask_74 : decode cX9_ask 74 = .ok (.goto (-50), 3) := by decide +kernel
theorem dX9_ask_77 : decode cX9_ask 77 = .ok (.iload_n 3, 1) := by decide +kernel
theorem dX9_ask_78 : decode cX9_ask 78 = .ok (.ifCond .lt 7, 3) := by decide +kernel
theorem dX9_ask_81 : decode cX9_ask 81 = .ok (.iload_n 1, 1) := by decide +kernel
theorem dX9_ask_82 : decode cX9_ask 82 = .ok (.ifCond .ne 7, 3) := by decide +kernel
theorem dX9_ask_85 : decode cX9_ask 85 = .ok (.iload_n 3, 1) := by decide +kernel
theorem dX9_ask_86 : decode cX9_ask 86 = .ok (.goto 9, 3) := by decide +kernel
theorem dX9_ask_89 : decode cX9_ask 89 = .ok (.aload_n 0, 1) := by decide +kernel
theorem dX9_ask_90 : decode cX9_ask 90 = .ok (.iload_n 2, 1) := by decide +kernel
theorem dX9_ask_91 : decode cX9_ask 91 = .ok (.iload_n 3, 1) := by decide +kernel
theorem dX9_ask_92 : decode cX9_ask 92 = .ok (.invokevirtual 323, 3) := by decide +kernel
theorem dX9_ask_95 : decode cX9_ask 95 = .ok (.ireturn, 1) := by decide +kernel
theorem dX9_quarrel_0 : decode cX9_quarrel 0 = .ok (.iload_n 1, 1) := by decide +kernel
theorem dX9_quarrel_1 : decode cX9_quarrel 1 = .ok (.i2l, 1) := by decide +kernel
theorem dX9_quarrel_2 : decode cX9_quarrel 2 = .ok (.lconst 0, 1) := by decide +kernel
theorem dX9_quarrel_3 : decode cX9_quarrel 3 = .ok (.ldc2_w 97, 3) := by decide +kernel
theorem dX9_quarrel_6 : decode cX9_quarrel 6 = .ok (.invokestatic 90, 3) := by decide +kernel
theorem dX9_quarrel_9 : decode cX9_quarrel 9 = .ok (.ifCond .eq 25, 3) := by decide +kernel
theorem dX9_quarrel_12 : decode cX9_quarrel 12 = .ok (.iload_n 2, 1) := by decide +kernel
theorem dX9_quarrel_13 : decode cX9_quarrel 13 = .ok (.i2l, 1) := by decide +kernel
theorem dX9_quarrel_14 : decode cX9_quarrel 14 = .ok (.lconst 1, 1) := by decide +kernel
theorem dX9_quarrel_15 : decode cX9_quarrel 15 = .ok (.ldc2_w 101, 3) := by decide +kernel
theorem dX9_quarrel_18 : decode cX9_quarrel 18 = .ok (.invokestatic 90, 3) := by decide +kernel
theorem dX9_quarrel_21 : decode cX9_quarrel 21 = .ok (.ifCond .eq 13, 3) := by decide +kernel
theorem dX9_quarrel_24 : decode cX9_quarrel 24 = .ok (.iload_n 3, 1) := by decide +kernel
theorem dX9_quarrel_25 : decode cX9_quarrel 25 = .ok (.i2l, 1) := by decide +kernel
theorem dX9_quarrel_26 : decode cX9_quarrel 26 = .ok (.lconst 0, 1) := by decide +kernel
theorem dX9_quarrel_27 : decode cX9_quarrel 27 = .ok (.lconst 1, 1) := by decide +kernel
theorem dX9_quarrel_28 : decode cX9_quarrel 28 = .ok (.invokestatic 90, 3) := by decide +kernel
theorem dX9_quarrel_31 : decode cX9_quarrel 31 = .ok (.ifCond .ne 6, 3) := by decide +kernel
theorem dX9_quarrel_34 : decode cX9_quarrel 34 = .ok (.bipush (-2), 2) := by decide +kernel
theorem dX9_quarrel_36 : decode cX9_quarrel 36 = .ok (.ireturn, 1) := by decide +kernel
theorem dX9_quarrel_37 : decode cX9_quarrel 37 = .ok (.iload_n 1, 1) := by decide +kernel
theorem dX9_quarrel_38 : decode cX9_quarrel 38 = .ok (.iload_n 2, 1) := by decide +kernel
theorem dX9_quarrel_39 : decode cX9_quarrel 39 = .ok (.iconst 1, 1) := by decide +kernel
theorem dX9_quarrel_40 : decode cX9_quarrel 40 = .ok (.iadd, 1) := by decide +kernel
theorem dX9_quarrel_41 : decode cX9_quarrel 41 = .ok (.irem, 1) := by decide +kernel
theorem dX9_quarrel_42 : decode cX9_quarrel 42 = .ok (.istore 4, 2) := by decide +kernel
theorem dX9_quarrel_44 : decode cX9_quarrel 44 = .ok (.iload_n 3, 1) := by decide +kernel
theorem dX9_quarrel_45 : decode cX9_quarrel 45 = .ok (.ifCond .ne 16, 3) := by decide +kernel
theorem dX9_quarrel_48 : decode cX9_quarrel 48 = .ok (.iload 4, 2) := by decide +kernel
theorem dX9_quarrel_50 : decode cX9_quarrel 50 = .ok (.ifCond .le 7, 3) := by decide +kernel
theorem dX9_quarrel_53 : decode cX9_quarrel 53 = .ok (.iconst 1, 1) := by decide +kernel
theorem dX9_quarrel_54 : decode cX9_quarrel 54 = .ok (.goto 19, 3) := by decide +kernel
theorem dX9_quarrel_57 : decode cX9_quarrel 57 = .ok (.iconst 0, 1) := by decide +kernel
theorem dX9_quarrel_58 : decode cX9_quarrel 58 = .ok (.goto 15, 3) := by decide +kernel
theorem dX9_quarrel_61 : decode cX9_quarrel 61 = .ok (.iload 4, 2) := by decide +kernel
theorem dX9_quarrel_63 : decode cX9_quarrel 63 = .ok (.ifCond .le 8, 3) := by decide +kernel
theorem dX9_quarrel_66 : decode cX9_quarrel 66 = .ok (.iload 4, 2) := by decide +kernel
theorem dX9_quarrel_68 : decode cX9_quarrel 68 = .ok (.goto 5, 3) := by decide +kernel
theorem dX9_quarrel_71 : decode cX9_quarrel 71 = .ok (.bipush (-6), 2) := by decide +kernel
theorem dX9_quarrel_73 : decode cX9_quarrel 73 = .ok (.ireturn, 1) := by decide +kernel
theorem dX9_actBy_0 : decode cX9_actBy 0 = .ok (.iload_n 0, 1) := by decide +kernel
theorem dX9_actBy_1 : decode cX9_actBy 1 = .ok (.iconst 3, 1) := by decide +kernel
theorem dX9_actBy_2 : decode cX9_actBy 2 = .ok (.if_icmp .ge 7, 3) := by decide +kernel
theorem dX9_actBy_5 : decode cX9_actBy 5 = .ok (.iconst 0, 1) := by decide +kernel
theorem dX9_actBy_6 : decode cX9_actBy 6 = .ok (.goto 32, 3) := by decide +kernel
theorem dX9_actBy_9 : decode cX9_actBy 9 = .ok (.iload_n 0, 1) := by decide +kernel
theorem dX9_actBy_10 : decode cX9_actBy 10 = .ok (.iconst 5, 1) := by decide +kernel
theorem dX9_actBy_11 : decode cX9_actBy 11 = .ok (.if_icmp .ge 7, 3) := by decide +kernel
theorem dX9_actBy_14 : decode cX9_actBy 14 = .ok (.iconst 1, 1) := by decide +kernel
theorem dX9_actBy_15 : decode cX9_actBy 15 = .ok (.goto 23, 3) := by decide +kernel
theorem dX9_actBy_18 : decode cX9_actBy 18 = .ok (.iload_n 0, 1) := by decide +kernel
theorem dX9_actBy_19 : decode cX9_actBy 19 = .ok (.iconst 5, 1) := by decide +kernel
theorem dX9_actBy_20 : decode cX9_actBy 20 = .ok (.if_icmp .ne 7, 3) := by decide +kernel
theorem dX9_actBy_23 : decode cX9_actBy 23 = .ok (.iconst 2, 1) := by decide +kernel
theorem dX9_actBy_24 : decode cX9_actBy 24 = .ok (.goto 14, 3) := by decide +kernel
theorem dX9_actBy_27 : decode cX9_actBy 27 = .ok (.iload_n 0, 1) := by decide +kernel
theorem dX9_actBy_28 : decode cX9_actBy 28 = .ok (.bipush 6, 2) := by decide +kernel
theorem dX9_actBy_30 : decode cX9_actBy 30 = .ok (.if_icmp .ne 7, 3) := by decide +kernel
theorem dX9_actBy_33 : decode cX9_actBy 33 = .ok (.iconst 3, 1) := by decide +kernel
theorem dX9_actBy_34 : decode cX9_actBy 34 = .ok (.goto 4, 3) := by decide +kernel
theorem dX9_actBy_37 : decode cX9_actBy 37 = .ok (.iconst 4, 1) := by decide +kernel
theorem dX9_actBy_38 : decode cX9_actBy 38 = .ok (.ireturn, 1) := by decide +kernel
theorem dX9_year_0 : decode cX9_year 0 = .ok (.iload_n 1, 1) := by decide +kernel
theorem dX9_year_1 : decode cX9_year 1 = .ok (.i2l, 1) := by decide +kernel
theorem dX9_year_2 : decode cX9_year 2 = .ok (.lconst 0, 1) := by decide +kernel
theorem dX9_year_3 : decode cX9_year 3 = .ok (.ldc2_w 326, 3) := by decide +kernel
theorem dX9_year_6 : decode cX9_year 6 = .ok (.invokestatic 90, 3) := by decide +kernel
theorem dX9_year_9 : decode cX9_year 9 = .ok (.ifCond .eq 27, 3) := by decide +kernel
theorem dX9_year_12 : decode cX9_year 12 = .ok (.iload_n 2, 1) := by decide +kernel
theorem dX9_year_13 : decode cX9_year 13 = .ok (.i2l, 1) := by decide +kernel
theorem dX9_year_14 : decode cX9_year 14 = .ok (.lconst 1, 1) := by decide +kernel
theorem dX9_year_15 : decode cX9_year 15 = .ok (.ldc2_w 97, 3) := by decide +kernel
theorem dX9_year_18 : decode cX9_year 18 = .ok (.invokestatic 90, 3) := by decide +kernel
theorem dX9_year_21 : decode cX9_year 21 = .ok (.ifCond .eq 15, 3) := by decide +kernel
theorem dX9_year_24 : decode cX9_year 24 = .ok (.iload_n 3, 1) := by decide +kernel
theorem dX9_year_25 : decode cX9_year 25 = .ok (.i2l, 1) := by decide +kernel
theorem dX9_year_26 : decode cX9_year 26 = .ok (.lconst 0, 1) := by decide +kernel
theorem dX9_year_27 : decode cX9_year 27 = .ok (.ldc2_w 228, 3) := by decide +kernel
theorem dX9_year_30 : decode cX9_year 30 = .ok (.invokestatic 90, 3) := by decide +kernel
theorem dX9_year_33 : decode cX9_year 33 = .ok (.ifCond .ne 6, 3) := by decide +kernel
theorem dX9_year_36 : decode cX9_year 36 = .ok (.bipush (-2), 2) := by decide +kernel
theorem dX9_year_38 : decode cX9_year 38 = .ok (.ireturn, 1) := by decide +kernel
theorem dX9_year_39 : decode cX9_year 39 = .ok (.aload_n 0, 1) := by decide +kernel
theorem dX9_year_40 : decode cX9_year 40 = .ok (.aload_n 0, 1) := by decide +kernel
theorem dX9_year_41 : decode cX9_year 41 = .ok (.getfield 49, 3) := by decide +kernel
theorem dX9_year_44 : decode cX9_year 44 = .ok (.invokevirtual 218, 3) := by decide +kernel
theorem dX9_year_47 : decode cX9_year 47 = .ok (.aload_n 0, 1) := by decide +kernel
theorem dX9_year_48 : decode cX9_year 48 = .ok (.invokevirtual 198, 3) := by decide +kernel
theorem dX9_year_51 : decode cX9_year 51 = .ok (.iload_n 1, 1) := by decide +kernel
theorem dX9_year_52 : decode cX9_year 52 = .ok (.istore 4, 2) := by decide +kernel
theorem dX9_year_54 : decode cX9_year 54 = .ok (.iconst 0, 1) := by decide +kernel
theorem dX9_year_55 : decode cX9_year 55 = .ok (.istore 5, 2) := by decide +kernel
theorem dX9_year_57 : decode cX9_year 57 = .ok (.iload 5, 2) := by decide +kernel
theorem dX9_year_59 : decode cX9_year 59 = .ok (.iload_n 2, 1) := by decide +kernel
theorem dX9_year_60 : decode cX9_year 60 = .ok (.if_icmp .ge 150, 3) := by decide +kernel
theorem dX9_year_63 : decode cX9_year 63 = .ok (.ldc2_w 328, 3) := by decide +kernel
theorem dX9_year_66 : decode cX9_year 66 = .ok (.iload 4, 2) := by decide +kernel
theorem dX9_year_68 : decode cX9_year 68 = .ok (.i2l, 1) := by decide +kernel
theorem dX9_year_69 : decode cX9_year 69 = .ok (.lmul, 1) := by decide +kernel
theorem dX9_year_70 : decode cX9_year 70 = .ok (.ldc2_w 330, 3) := by decide +kernel
theorem dX9_year_73 : decode cX9_year 73 = .ok (.ladd, 1) := by decide +kernel
theorem dX9_year_74 : decode cX9_year 74 = .ok (.ldc2_w 332, 3) := by decide +kernel
theorem dX9_year_77 : decode cX9_year 77 = .ok (.lrem, 1) := by decide +kernel
theorem dX9_year_78 : decode cX9_year 78 = .ok (.l2i, 1) := by decide +kernel
theorem dX9_year_79 : decode cX9_year 79 = .ok (.istore 4, 2) := by decide +kernel
theorem dX9_year_81 : decode cX9_year 81 = .ok (.iload 4, 2) := by decide +kernel
theorem dX9_year_83 : decode cX9_year 83 = .ok (.bipush 6, 2) := by decide +kernel
theorem dX9_year_85 : decode cX9_year 85 = .ok (.idiv, 1) := by decide +kernel
theorem dX9_year_86 : decode cX9_year 86 = .ok (.bipush 8, 2) := by decide +kernel
theorem dX9_year_88 : decode cX9_year 88 = .ok (.irem, 1) := by decide +kernel
theorem dX9_year_89 : decode cX9_year 89 = .ok (.invokestatic 334, 3) := by decide +kernel
theorem dX9_year_92 : decode cX9_year 92 = .ok (.istore 6, 2) := by decide +kernel
theorem dX9_year_94 : decode cX9_year 94 = .ok (.iload 4, 2) := by decide +kernel
theorem dX9_year_96 : decode cX9_year 96 = .ok (.bipush 48, 2) := by decide +kernel
theorem dX9_year_98 : decode cX9_year 98 = .ok (.idiv, 1) := by decide +kernel
theorem dX9_year_99 : decode cX9_year 99 = .ok (.istore 7, 2) := by decide +kernel
theorem dX9_year_101 : decode cX9_year 101 = .ok (.iload 6, 2) := by decide +kernel
theorem dX9_year_103 : decode cX9_year 103 = .ok (.ifCond .ne 10, 3) := by decide +kernel
theorem dX9_year_106 : decode cX9_year 106 = .ok (.iload 7, 2) := by decide +kernel
theorem dX9_year_108 : decode cX9_year 108 = .ok (.iconst 4, 1) := by decide +kernel
theorem dX9_year_109 : decode cX9_year 109 = .ok (.irem, 1) := by decide +kernel
theorem dX9_year_110 : decode cX9_year 110 = .ok (.goto 8, 3) := by decide +kernel
theorem dX9_year_113 : decode cX9_year 113 = .ok (.iload 7, 2) := by decide +kernel
theorem dX9_year_115 : decode cX9_year 115 = .ok (.bipush 6, 2) := by decide +kernel
theorem dX9_year_117 : decode cX9_year 117 = .ok (.irem, 1) := by decide +kernel
theorem dX9_year_118 : decode cX9_year 118 = .ok (.istore 8, 2) := by decide +kernel
theorem dX9_year_120 : decode cX9_year 120 = .ok (.iload 6, 2) := by decide +kernel
theorem dX9_year_122 : decode cX9_year 122 = .ok (.ifCond .ne 17, 3) := by decide +kernel
theorem dX9_year_125 : decode cX9_year 125 = .ok (.iconst 1, 1) := by decide +kernel
theorem dX9_year_126 : decode cX9_year 126 = .ok (.iload 4, 2) := by decide +kernel
theorem dX9_year_128 : decode cX9_year 128 = .ok (.sipush 192, 3) := by decide +kernel
theorem dX9_year_131 : decode cX9_year 131 = .ok (.idiv, 1) := by decide +kernel
theorem dX9_year_132 : decode cX9_year 132 = .ok (.bipush 9, 2) := by decide +kernel
theorem dX9_year_134 : decode cX9_year 134 = .ok (.irem, 1) := by decide +kernel
theorem dX9_year_135 : decode cX9_year 135 = .ok (.iadd, 1) := by decide +kernel
theorem dX9_year_136 : decode cX9_year 136 = .ok (.goto 33, 3) := by decide +kernel
theorem dX9_year_139 : decode cX9_year 139 = .ok (.iload 6, 2) := by decide +kernel
theorem dX9_year_141 : decode cX9_year 141 = .ok (.iconst 1, 1) := by decide +kernel
theorem dX9_year_142 : decode cX9_year 142 = .ok (.if_icmp .ne 12, 3) := by decide +kernel
theorem dX9_year_145 : decode cX9_year 145 = .ok (.iconst 1, 1) := by decide +kernel
theorem dX9_year_146 : decode cX9_year 146 = .ok (.iload 7, 2) := by decide +kernel
theorem dX9_year_148 : decode cX9_year 148 = .ok (.iconst 5, 1) := by decide +kernel
theorem dX9_year_149 : decode cX9_year 149 = .ok (.irem, 1) := by decide +kernel
theorem dX9_year_150 : decode cX9_year 150 = .ok (.iadd, 1) := by decide +kernel
theorem dX9_year_151 : decode cX9_year 151 = .ok (.goto 18, 3) := by decide +kernel
theorem dX9_year_154 : decode cX9_year 154 = .ok (.iload 6, 2) := by decide +kernel
theorem dX9_year_156 : decode cX9_year 156 = .ok (.iconst 2, 1) := by decide +kernel
theorem dX9_year_157 : decode cX9_year 157 = .ok (.if_icmp .ne 7, 3) := by decide +kernel
theorem dX9_year_160 : decode cX9_year 160 = .ok (.iconst 1, 1) := by decide +kernel
theorem dX9_year_161 : decode cX9_year 161 = .ok (.goto 8, 3) := by decide +kernel
theorem dX9_year_164 : decode cX9_year 164 = .ok (.iload 7, 2) := by decide +kernel
theorem dX9_year_166 : decode cX9_year 166 = .ok (.bipush 10, 2) := by decide +kernel
theorem dX9_year_168 : decode cX9_year 168 = .ok (.irem, 1) := by decide +kernel
theorem dX9_year_169 : decode cX9_year 169 = .ok (.istore 9, 2) := by decide +kernel
theorem dX9_year_171 : decode cX9_year 171 = .ok (.aload_n 0, 1) := by decide +kernel
theorem dX9_year_172 : decode cX9_year 172 = .ok (.iload 6, 2) := by decide +kernel
theorem dX9_year_174 : decode cX9_year 174 = .ok (.iload 4, 2) := by decide +kernel
theorem dX9_year_176 : decode cX9_year 176 = .ok (.bipush 6, 2) := by decide +kernel
theorem dX9_year_178 : decode cX9_year 178 = .ok (.irem, 1) := by decide +kernel
theorem dX9_year_179 : decode cX9_year 179 = .ok (.iload 8, 2) := by decide +kernel
theorem dX9_year_181 : decode cX9_year 181 = .ok (.iload 9, 2) := by decide +kernel
theorem dX9_year_183 : decode cX9_year 183 = .ok (.invokevirtual 207, 3) := by decide +kernel
theorem dX9_year_186 : decode cX9_year 186 = .ok (.ifCond .ne 18, 3) := by decide +kernel
theorem dX9_year_189 : decode cX9_year 189 = .ok (.aload_n 0, 1) := by decide +kernel
theorem dX9_year_190 : decode cX9_year 190 = .ok (.iload 6, 2) := by decide +kernel
theorem dX9_year_192 : decode cX9_year 192 = .ok (.iload 4, 2) := by decide +kernel
theorem dX9_year_194 : decode cX9_year 194 = .ok (.bipush 6, 2) := by decide +kernel
theorem dX9_year_196 : decode cX9_year 196 = .ok (.irem, 1) := by decide +kernel
theorem dX9_year_197 : decode cX9_year 197 = .ok (.iload 8, 2) := by decide +kernel
theorem dX9_year_199 : decode cX9_year 199 = .ok (.iload 9, 2) := by decide +kernel
theorem dX9_year_201 : decode cX9_year 201 = .ok (.invokevirtual 211, 3) := by decide +kernel
theorem dX9_year_204 : decode cX9_year 204 = .ok (.iinc 5 1, 3) := by decide +kernel
theorem dX9_year_207 : decode cX9_year 207 = .ok (.goto (-150), 3) := by decide +kernel
theorem dX9_year_210 : decode cX9_year 210 = .ok (.iconst 0, 1) := by decide +kernel
theorem dX9_year_211 : decode cX9_year 211 = .ok (.istore 5, 2) := by decide +kernel
theorem dX9_year_213 : decode cX9_year 213 = .ok (.iconst 0, 1) := by decide +kernel
theorem dX9_year_214 : decode cX9_year 214 = .ok (.istore 6, 2) := by decide +kernel
theorem dX9_year_216 : decode cX9_year 216 = .ok (.iload 6, 2) := by decide +kernel
theorem dX9_year_218 : decode cX9_year 218 = .ok (.bipush 6, 2) := by decide +kernel
theorem dX9_year_220 : decode cX9_year 220 = .ok (.if_icmp .ge 34, 3) := by decide +kernel
theorem dX9_year_223 : decode cX9_year 223 = .ok (.iload 5, 2) := by decide +kernel
theorem dX9_year_225 : decode cX9_year 225 = .ok (.aload_n 0, 1) := by decide +kernel
theorem dX9_year_226 : decode cX9_year 226 = .ok (.iload 6, 2) := by decide +kernel
theorem dX9_year_228 : decode cX9_year 228 = .ok (.invokevirtual 107, 3) := by decide +kernel
theorem dX9_year_231 : decode cX9_year 231 = .ok (.ifCond .eq 13, 3) := by decide +kernel
theorem dX9_year_234 : decode cX9_year 234 = .ok (.aload_n 0, 1) := by decide +kernel
theorem dX9_year_235 : decode cX9_year 235 = .ok (.getfield 7, 3) := by decide +kernel
theorem dX9_year_238 : decode cX9_year 238 = .ok (.iload 6, 2) := by decide +kernel
theorem dX9_year_240 : decode cX9_year 240 = .ok (.iaload, 1) := by decide +kernel
theorem dX9_year_241 : decode cX9_year 241 = .ok (.goto 4, 3) := by decide +kernel
theorem dX9_year_244 : decode cX9_year 244 = .ok (.iconst 0, 1) := by decide +kernel
theorem dX9_year_245 : decode cX9_year 245 = .ok (.iadd, 1) := by decide +kernel
theorem dX9_year_246 : decode cX9_year 246 = .ok (.istore 5, 2) := by decide +kernel
theorem dX9_year_248 : decode cX9_year 248 = .ok (.iinc 6 1, 3) := by decide +kernel
theorem dX9_year_251 : decode cX9_year 251 = .ok (.goto (-35), 3) := by decide +kernel
theorem dX9_year_254 : decode cX9_year 254 = .ok (.aload_n 0, 1) := by decide +kernel
theorem dX9_year_255 : decode cX9_year 255 = .ok (.aload_n 0, 1) := by decide +kernel
theorem dX9_year_256 : decode cX9_year 256 = .ok (.getfield 49, 3) := by decide +kernel
theorem dX9_year_259 : decode cX9_year 259 = .ok (.invokevirtual 225, 3) := by decide +kernel
theorem dX9_year_262 : decode cX9_year 262 = .ok (.iload_n 3, 1) := by decide +kernel
theorem dX9_year_263 : decode cX9_year 263 = .ok (.ifCond .ne 10, 3) := by decide +kernel
theorem dX9_year_266 : decode cX9_year 266 = .ok (.aload_n 0, 1) := by decide +kernel
theorem dX9_year_267 : decode cX9_year 267 = .ok (.getfield 172, 3) := by decide +kernel
theorem dX9_year_270 : decode cX9_year 270 = .ok (.goto 17, 3) := by decide +kernel
theorem dX9_year_273 : decode cX9_year 273 = .ok (.iload_n 3, 1) := by decide +kernel
theorem dX9_year_274 : decode cX9_year 274 = .ok (.iconst 1, 1) := by decide +kernel
theorem dX9_year_275 : decode cX9_year 275 = .ok (.if_icmp .ne 10, 3) := by decide +kernel
theorem dX9_year_278 : decode cX9_year 278 = .ok (.aload_n 0, 1) := by decide +kernel
theorem dX9_year_279 : decode cX9_year 279 = .ok (.getfield 169, 3) := by decide +kernel
theorem dX9_year_282 : decode cX9_year 282 = .ok (.goto 5, 3) := by decide +kernel
theorem dX9_year_285 : decode cX9_year 285 = .ok (.iload 5, 2) := by decide +kernel
theorem dX9_year_287 : decode cX9_year 287 = .ok (.ireturn, 1) := by decide +kernel
theorem dX9_pass_0 : decode cX9_pass 0 = .ok (.aload_n 0, 1) := by decide +kernel
theorem dX9_pass_1 : decode cX9_pass 1 = .ok (.getfield 337, 3) := by decide +kernel
theorem dX9_pass_4 : decode cX9_pass 4 = .ok (.ifCond .eq 7, 3) := by decide +kernel
theorem dX9_pass_7 : decode cX9_pass 7 = .ok (.iload_n 1, 1) := by decide +kernel
theorem dX9_pass_8 : decode cX9_pass 8 = .ok (.goto 12, 3) := by decide +kernel
theorem dX9_pass_11 : decode cX9_pass 11 = .ok (.aload_n 0, 1) := by decide +kernel
theorem dX9_pass_12 : decode cX9_pass 12 = .ok (.getfield 74, 3) := by decide +kernel
theorem dX9_pass_15 : decode cX9_pass 15 = .ok (.aload_n 0, 1) := by decide +kernel
theorem dX9_pass_16 : decode cX9_pass 16 = .ok (.getfield 341, 3) := by decide +kernel
theorem dX9_pass_19 : decode cX9_pass 19 = .ok (.iaload, 1) := by decide +kernel
theorem dX9_pass_20 : decode cX9_pass 20 = .ok (.istore_n 2, 1) := by decide +kernel
theorem dX9_pass_21 : decode cX9_pass 21 = .ok (.aload_n 0, 1) := by decide +kernel
theorem dX9_pass_22 : decode cX9_pass 22 = .ok (.getfield 74, 3) := by decide +kernel
theorem dX9_pass_25 : decode cX9_pass 25 = .ok (.aload_n 0, 1) := by decide +kernel
theorem dX9_pass_26 : decode cX9_pass 26 = .ok (.getfield 341, 3) := by decide +kernel
theorem dX9_pass_29 : decode cX9_pass 29 = .ok (.iload_n 2, 1) := by decide +kernel
theorem dX9_pass_30 : decode cX9_pass 30 = .ok (.iastore, 1) := by decide +kernel
theorem dX9_pass_31 : decode cX9_pass 31 = .ok (.aload_n 0, 1) := by decide +kernel
theorem dX9_pass_32 : decode cX9_pass 32 = .ok (.dup, 1) := by decide +kernel
theorem dX9_pass_33 : decode cX9_pass 33 = .ok (.getfield 341, 3) := by decide +kernel
theorem dX9_pass_36 : decode cX9_pass 36 = .ok (.iconst 1, 1) := by decide +kernel
theorem dX9_pass_37 : decode cX9_pass 37 = .ok (.iadd, 1) := by decide +kernel
theorem dX9_pass_38 : decode cX9_pass 38 = .ok (.putfield 341, 3) := by decide +kernel
theorem dX9_pass_41 : decode cX9_pass 41 = .ok (.iload_n 2, 1) := by decide +kernel
theorem dX9_pass_42 : decode cX9_pass 42 = .ok (.ireturn, 1) := by decide +kernel
theorem dX9_passAll_0 : decode cX9_passAll 0 = .ok (.aload_n 0, 1) := by decide +kernel
theorem dX9_passAll_1 : decode cX9_passAll 1 = .ok (.aload_n 0, 1) := by decide +kernel
theorem dX9_passAll_2 : decode cX9_passAll 2 = .ok (.aload_n 0, 1) := by decide +kernel
theorem dX9_passAll_3 : decode cX9_passAll 3 = .ok (.getfield 94, 3) := by decide +kernel
theorem dX9_passAll_6 : decode cX9_passAll 6 = .ok (.invokevirtual 344, 3) := by decide +kernel
theorem dX9_passAll_9 : decode cX9_passAll 9 = .ok (.putfield 94, 3) := by decide +kernel
theorem dX9_passAll_12 : decode cX9_passAll 12 = .ok (.aload_n 0, 1) := by decide +kernel
theorem dX9_passAll_13 : decode cX9_passAll 13 = .ok (.aload_n 0, 1) := by decide +kernel
theorem dX9_passAll_14 : decode cX9_passAll 14 = .ok (.aload_n 0, 1) := by decide +kernel
theorem dX9_passAll_15 : decode cX9_passAll 15 = .ok (.getfield 81, 3) := by decide +kernel
theorem dX9_passAll_18 : decode cX9_passAll 18 = .ok (.invokevirtual 344, 3) := by decide +kernel
theorem dX9_passAll_21 : decode cX9_passAll 21 = .ok (.putfield 81, 3) := by decide +kernel
theorem dX9_passAll_24 : decode cX9_passAll 24 = .ok (.aload_n 0, 1) := by decide +kernel
theorem dX9_passAll_25 : decode cX9_passAll 25 = .ok (.aload_n 0, 1) := by decide +kernel
theorem dX9_passAll_26 : decode cX9_passAll 26 = .ok (.aload_n 0, 1) := by decide +kernel
theorem dX9_passAll_27 : decode cX9_passAll 27 = .ok (.getfield 85, 3) := by decide +kernel
theorem dX9_passAll_30 : decode cX9_passAll 30 = .ok (.invokevirtual 344, 3) := by decide +kernel
theorem dX9_passAll_33 : decode cX9_passAll 33 = .ok (.putfield 85, 3) := by decide +kernel
theorem dX9_passAll_36 : decode cX9_passAll 36 = .ok (.aload_n 0, 1) := by decide +kernel
theorem dX9_passAll_37 : decode cX9_passAll 37 = .ok (.aload_n 0, 1) := by decide +kernel
theorem dX9_passAll_38 : decode cX9_passAll 38 = .ok (.aload_n 0, 1) := by decide +kernel
theorem dX9_passAll_39 : decode cX9_passAll 39 = .ok (.getfield 312, 3) := by decide +kernel
theorem dX9_passAll_42 : decode cX9_passAll 42 = .ok (.invokevirtual 344, 3) := by decide +kernel
theorem dX9_passAll_45 : decode cX9_passAll 45 = .ok (.putfield 312, 3) := by decide +kernel
theorem dX9_passAll_48 : decode cX9_passAll 48 = .ok (.iconst 0, 1) := by decide +kernel
theorem dX9_passAll_49 : decode cX9_passAll 49 = .ok (.istore_n 1, 1) := by decide +kernel
theorem dX9_passAll_50 : decode cX9_passAll 50 = .ok (.iload_n 1, 1) := by decide +kernel
theorem dX9_passAll_51 : decode cX9_passAll 51 = .ok (.bipush 6, 2) := by decide +kernel
theorem dX9_passAll_53 : decode cX9_passAll 53 = .ok (.if_icmp .ge 105, 3) := by decide +kernel
theorem dX9_passAll_56 : decode cX9_passAll 56 = .ok (.aload_n 0, 1) := by decide +kernel
theorem dX9_passAll_57 : decode cX9_passAll 57 = .ok (.getfield 7, 3) := by decide +kernel
theorem dX9_passAll_60 : decode cX9_passAll 60 = .ok (.iload_n 1, 1) := by decide +kernel
theorem dX9_passAll_61 : decode cX9_passAll 61 = .ok (.aload_n 0, 1) := by decide +kernel
theorem dX9_passAll_62 : decode cX9_passAll 62 = .ok (.aload_n 0, 1) := by decide +kernel
theorem dX9_passAll_63 : decode cX9_passAll 63 = .ok (.getfield 7, 3) := by decide +kernel
theorem dX9_passAll_66 : decode cX9_passAll 66 = .ok (.iload_n 1, 1) := by decide +kernel
theorem dX9_passAll_67 : decode cX9_passAll 67 = .ok (.iaload, 1) := by decide +kernel
theorem dX9_passAll_68 : decode cX9_passAll 68 = .ok (.invokevirtual 344, 3) := by decide +kernel
theorem dX9_passAll_71 : decode cX9_passAll 71 = .ok (.iastore, 1) := by decide +kernel
theorem dX9_passAll_72 : decode cX9_passAll 72 = .ok (.aload_n 0, 1) := by decide +kernel
theorem dX9_passAll_73 : decode cX9_passAll 73 = .ok (.getfield 13, 3) := by decide +kernel
theorem dX9_passAll_76 : decode cX9_passAll 76 = .ok (.iload_n 1, 1) := by decide +kernel
theorem dX9_passAll_77 : decode cX9_passAll 77 = .ok (.aload_n 0, 1) := by decide +kernel
theorem dX9_passAll_78 : decode cX9_passAll 78 = .ok (.aload_n 0, 1) := by decide +kernel
theorem dX9_passAll_79 : decode cX9_passAll 79 = .ok (.getfield 13, 3) := by decide +kernel
theorem dX9_passAll_82 : decode cX9_passAll 82 = .ok (.iload_n 1, 1) := by decide +kernel
theorem dX9_passAll_83 : decode cX9_passAll 83 = .ok (.iaload, 1) := by decide +kernel
theorem dX9_passAll_84 : decode cX9_passAll 84 = .ok (.invokevirtual 344, 3) := by decide +kernel
theorem dX9_passAll_87 : decode cX9_passAll 87 = .ok (.iastore, 1) := by decide +kernel
theorem dX9_passAll_88 : decode cX9_passAll 88 = .ok (.aload_n 0, 1) := by decide +kernel
theorem dX9_passAll_89 : decode cX9_passAll 89 = .ok (.getfield 16, 3) := by decide +kernel
theorem dX9_passAll_92 : decode cX9_passAll 92 = .ok (.iload_n 1, 1) := by decide +kernel
theorem dX9_passAll_93 : decode cX9_passAll 93 = .ok (.aload_n 0, 1) := by decide +kernel
theorem dX9_passAll_94 : decode cX9_passAll 94 = .ok (.aload_n 0, 1) := by decide +kernel
theorem dX9_passAll_95 : decode cX9_passAll 95 = .ok (.getfield 16, 3) := by decide +kernel
theorem dX9_passAll_98 : decode cX9_passAll 98 = .ok (.iload_n 1, 1) := by decide +kernel
theorem dX9_passAll_99 : decode cX9_passAll 99 = .ok (.iaload, 1) := by decide +kernel
theorem dX9_passAll_100 : decode cX9_passAll 100 = .ok (.invokevirtual 344, 3) := by decide +kernel
theorem dX9_passAll_103 : decode cX9_passAll 103 = .ok (.iastore, 1) := by decide +kernel
theorem dX9_passAll_104 : decode cX9_passAll 104 = .ok (.aload_n 0, 1) := by decide +kernel
theorem dX9_passAll_105 : decode cX9_passAll 105 = .ok (.getfield 19, 3) := by decide +kernel
theorem dX9_passAll_108 : decode cX9_passAll 108 = .ok (.iload_n 1, 1) := by decide +kernel
theorem dX9_passAll_109 : decode cX9_passAll 109 = .ok (.aload_n 0, 1) := by decide +kernel
theorem dX9_passAll_110 : decode cX9_passAll 110 = .ok (.aload_n 0, 1) := by decide +kernel
theorem dX9_passAll_111 : decode cX9_passAll 111 = .ok (.getfield 19, 3) := by decide +kernel
theorem dX9_passAll_114 : decode cX9_passAll 114 = .ok (.iload_n 1, 1) := by decide +kernel
theorem dX9_passAll_115 : decode cX9_passAll 115 = .ok (.iaload, 1) := by decide +kernel
theorem dX9_passAll_116 : decode cX9_passAll 116 = .ok (.invokevirtual 344, 3) := by decide +kernel
theorem dX9_passAll_119 : decode cX9_passAll 119 = .ok (.iastore, 1) := by decide +kernel
theorem dX9_passAll_120 : decode cX9_passAll 120 = .ok (.aload_n 0, 1) := by decide +kernel
theorem dX9_passAll_121 : decode cX9_passAll 121 = .ok (.getfield 22, 3) := by decide +kernel
theorem dX9_passAll_124 : decode cX9_passAll 124 = .ok (.iload_n 1, 1) := by decide +kernel
theorem dX9_passAll_125 : decode cX9_passAll 125 = .ok (.aload_n 0, 1) := by decide +kernel
theorem dX9_passAll_126 : decode cX9_passAll 126 = .ok (.aload_n 0, 1) := by decide +kernel
theorem dX9_passAll_127 : decode cX9_passAll 127 = .ok (.getfield 22, 3) := by decide +kernel
theorem dX9_passAll_130 : decode cX9_passAll 130 = .ok (.iload_n 1, 1) := by decide +kernel
theorem dX9_passAll_131 : decode cX9_passAll 131 = .ok (.iaload, 1) := by decide +kernel
theorem dX9_passAll_132 : decode cX9_passAll 132 = .ok (.invokevirtual 344, 3) := by decide +kernel
theorem dX9_passAll_135 : decode cX9_passAll 135 = .ok (.iastore, 1) := by decide +kernel
theorem dX9_passAll_136 : decode cX9_passAll 136 = .ok (.aload_n 0, 1) := by decide +kernel
theorem dX9_passAll_137 : decode cX9_passAll 137 = .ok (.getfield 25, 3) := by decide +kernel
theorem dX9_passAll_140 : decode cX9_passAll 140 = .ok (.iload_n 1, 1) := by decide +kernel
theorem dX9_passAll_141 : decode cX9_passAll 141 = .ok (.aload_n 0, 1) := by decide +kernel
theorem dX9_passAll_142 : decode cX9_passAll 142 = .ok (.aload_n 0, 1) := by decide +kernel
theorem dX9_passAll_143 : decode cX9_passAll 143 = .ok (.getfield 25, 3) := by decide +kernel
theorem dX9_passAll_146 : decode cX9_passAll 146 = .ok (.iload_n 1, 1) := by decide +kernel
theorem dX9_passAll_147 : decode cX9_passAll 147 = .ok (.iaload, 1) := by decide +kernel
theorem dX9_passAll_148 : decode cX9_passAll 148 = .ok (.invokevirtual 344, 3) := by decide +kernel
theorem dX9_passAll_151 : decode cX9_passAll 151 = .ok (.iastore, 1) := by decide +kernel
theorem dX9_passAll_152 : decode cX9_passAll 152 = .ok (.iinc 1 1, 3) := by decide +kernel
theorem dX9_passAll_155 : decode cX9_passAll 155 = .ok (.goto (-105), 3) := by decide +kernel
theorem dX9_passAll_158 : decode cX9_passAll 158 = .ok (.iconst 0, 1) := by decide +kernel
theorem dX9_passAll_159 : decode cX9_passAll 159 = .ok (.istore_n 1, 1) := by decide +kernel
theorem dX9_passAll_160 : decode cX9_passAll 160 = .ok (.iload_n 1, 1) := by decide +kernel
theorem dX9_passAll_161 : decode cX9_passAll 161 = .ok (.bipush 8, 2) := by decide +kernel
theorem dX9_passAll_163 : decode cX9_passAll 163 = .ok (.if_icmp .ge 41, 3) := by decide +kernel
theorem dX9_passAll_166 : decode cX9_passAll 166 = .ok (.aload_n 0, 1) := by decide +kernel
theorem dX9_passAll_167 : decode cX9_passAll 167 = .ok (.getfield 28, 3) := by decide +kernel
theorem dX9_passAll_170 : decode cX9_passAll 170 = .ok (.iload_n 1, 1) := by decide +kernel
theorem dX9_passAll_171 : decode cX9_passAll 171 = .ok (.aload_n 0, 1) := by decide +kernel
theorem dX9_passAll_172 : decode cX9_passAll 172 = .ok (.aload_n 0, 1) := by decide +kernel
theorem dX9_passAll_173 : decode cX9_passAll 173 = .ok (.getfield 28, 3) := by decide +kernel
theorem dX9_passAll_176 : decode cX9_passAll 176 = .ok (.iload_n 1, 1) := by decide +kernel
theorem dX9_passAll_177 : decode cX9_passAll 177 = .ok (.iaload, 1) := by decide +kernel
theorem dX9_passAll_178 : decode cX9_passAll 178 = .ok (.invokevirtual 344, 3) := by decide +kernel
theorem dX9_passAll_181 : decode cX9_passAll 181 = .ok (.iastore, 1) := by decide +kernel
theorem dX9_passAll_182 : decode cX9_passAll 182 = .ok (.aload_n 0, 1) := by decide +kernel
theorem dX9_passAll_183 : decode cX9_passAll 183 = .ok (.getfield 31, 3) := by decide +kernel
theorem dX9_passAll_186 : decode cX9_passAll 186 = .ok (.iload_n 1, 1) := by decide +kernel
theorem dX9_passAll_187 : decode cX9_passAll 187 = .ok (.aload_n 0, 1) := by decide +kernel
theorem dX9_passAll_188 : decode cX9_passAll 188 = .ok (.aload_n 0, 1) := by decide +kernel
theorem dX9_passAll_189 : decode cX9_passAll 189 = .ok (.getfield 31, 3) := by decide +kernel
theorem dX9_passAll_192 : decode cX9_passAll 192 = .ok (.iload_n 1, 1) := by decide +kernel
theorem dX9_passAll_193 : decode cX9_passAll 193 = .ok (.iaload, 1) := by decide +kernel
theorem dX9_passAll_194 : decode cX9_passAll 194 = .ok (.invokevirtual 344, 3) := by decide +kernel
theorem dX9_passAll_197 : decode cX9_passAll 197 = .ok (.iastore, 1) := by decide +kernel
theorem dX9_passAll_198 : decode cX9_passAll 198 = .ok (.iinc 1 1, 3) := by decide +kernel
theorem dX9_passAll_201 : decode cX9_passAll 201 = .ok (.goto (-41), 3) := by decide +kernel
theorem dX9_passAll_204 : decode cX9_passAll 204 = .ok (.return_, 1) := by decide +kernel
theorem dX9_image_0 : decode cX9_image 0 = .ok (.iload_n 1, 1) := by decide +kernel
theorem dX9_image_1 : decode cX9_image 1 = .ok (.i2l, 1) := by decide +kernel
theorem dX9_image_2 : decode cX9_image 2 = .ok (.lconst 0, 1) := by decide +kernel
theorem dX9_image_3 : decode cX9_image 3 = .ok (.lconst 1, 1) := by decide +kernel
theorem dX9_image_4 : decode cX9_image 4 = .ok (.invokestatic 90, 3) := by decide +kernel
theorem dX9_image_7 : decode cX9_image 7 = .ok (.ifCond .ne 6, 3) := by decide +kernel
theorem dX9_image_10 : decode cX9_image 10 = .ok (.bipush (-2), 2) := by decide +kernel
theorem dX9_image_12 : decode cX9_image 12 = .ok (.ireturn, 1) := by decide +kernel
theorem dX9_image_13 : decode cX9_image 13 = .ok (.aload_n 0, 1) := by decide +kernel
theorem dX9_image_14 : decode cX9_image 14 = .ok (.bipush 60, 2) := by decide +kernel
theorem dX9_image_16 : decode cX9_image 16 = .ok (.iload_n 1, 1) := by decide +kernel
theorem dX9_image_17 : decode cX9_image 17 = .ok (.imul, 1) := by decide +kernel
theorem dX9_image_18 : decode cX9_image 18 = .ok (.putfield 341, 3) := by decide +kernel
theorem dX9_image_21 : decode cX9_image 21 = .ok (.aload_n 0, 1) := by decide +kernel
theorem dX9_image_22 : decode cX9_image 22 = .ok (.iconst 1, 1) := by decide +kernel
theorem dX9_image_23 : decode cX9_image 23 = .ok (.putfield 337, 3) := by decide +kernel
theorem dX9_image_26 : decode cX9_image 26 = .ok (.aload_n 0, 1) := by decide +kernel
theorem dX9_image_27 : decode cX9_image 27 = .ok (.invokevirtual 347, 3) := by decide +kernel
theorem dX9_image_30 : decode cX9_image 30 = .ok (.aload_n 0, 1) := by decide +kernel
theorem dX9_image_31 : decode cX9_image 31 = .ok (.getfield 77, 3) := by decide +kernel
theorem dX9_image_34 : decode cX9_image 34 = .ok (.iload_n 1, 1) := by decide +kernel
theorem dX9_image_35 : decode cX9_image 35 = .ok (.iconst 1, 1) := by decide +kernel
theorem dX9_image_36 : decode cX9_image 36 = .ok (.bastore, 1) := by decide +kernel
theorem dX9_image_37 : decode cX9_image 37 = .ok (.iconst 1, 1) := by decide +kernel
theorem dX9_image_38 : decode cX9_image 38 = .ok (.ireturn, 1) := by decide +kernel
theorem dX9_restore_0 : decode cX9_restore 0 = .ok (.iload_n 1, 1) := by decide +kernel
theorem dX9_restore_1 : decode cX9_restore 1 = .ok (.i2l, 1) := by decide +kernel
theorem dX9_restore_2 : decode cX9_restore 2 = .ok (.lconst 0, 1) := by decide +kernel
theorem dX9_restore_3 : decode cX9_restore 3 = .ok (.lconst 1, 1) := by decide +kernel
theorem dX9_restore_4 : decode cX9_restore 4 = .ok (.invokestatic 90, 3) := by decide +kernel
theorem dX9_restore_7 : decode cX9_restore 7 = .ok (.ifCond .ne 6, 3) := by decide +kernel
theorem dX9_restore_10 : decode cX9_restore 10 = .ok (.bipush (-2), 2) := by decide +kernel
theorem dX9_restore_12 : decode cX9_restore 12 = .ok (.ireturn, 1) := by decide +kernel
theorem dX9_restore_13 : decode cX9_restore 13 = .ok (.aload_n 0, 1) := by decide +kernel
theorem dX9_restore_14 : decode cX9_restore 14 = .ok (.getfield 77, 3) := by decide +kernel
theorem dX9_restore_17 : decode cX9_restore 17 = .ok (.iload_n 1, 1) := by decide +kernel
theorem dX9_restore_18 : decode cX9_restore 18 = .ok (.baload, 1) := by decide +kernel
theorem dX9_restore_19 : decode cX9_restore 19 = .ok (.ifCond .ne 6, 3) := by decide +kernel
theorem dX9_restore_22 : decode cX9_restore 22 = .ok (.bipush (-3), 2) := by decide +kernel
theorem dX9_restore_24 : decode cX9_restore 24 = .ok (.ireturn, 1) := by decide +kernel
theorem dX9_restore_25 : decode cX9_restore 25 = .ok (.aload_n 0, 1) := by decide +kernel
theorem dX9_restore_26 : decode cX9_restore 26 = .ok (.bipush 60, 2) := by decide +kernel
theorem dX9_restore_28 : decode cX9_restore 28 = .ok (.iload_n 1, 1) := by decide +kernel
theorem dX9_restore_29 : decode cX9_restore 29 = .ok (.imul, 1) := by decide +kernel
theorem dX9_restore_30 : decode cX9_restore 30 = .ok (.putfield 341, 3) := by decide +kernel
theorem dX9_restore_33 : decode cX9_restore 33 = .ok (.aload_n 0, 1) := by decide +kernel
theorem dX9_restore_34 : decode cX9_restore 34 = .ok (.iconst 0, 1) := by decide +kernel
theorem dX9_restore_35 : decode cX9_restore 35 = .ok (.putfield 337, 3) := by decide +kernel
theorem dX9_restore_38 : decode cX9_restore 38 = .ok (.aload_n 0, 1) := by decide +kernel
theorem dX9_restore_39 : decode cX9_restore 39 = .ok (.invokevirtual 347, 3) := by decide +kernel
theorem dX9_restore_42 : decode cX9_restore 42 = .ok (.iconst 1, 1) := by decide +kernel
theorem dX9_restore_43 : decode cX9_restore 43 = .ok (.ireturn, 1) := by decide +kernel
theorem dX9_toldOf_0 : decode cX9_toldOf 0 = .ok (.aload_n 0, 1) := by decide +kernel
theorem dX9_toldOf_1 : decode cX9_toldOf 1 = .ok (.iload_n 1, 1) := by decide +kernel
theorem dX9_toldOf_2 : decode cX9_toldOf 2 = .ok (.invokevirtual 107, 3) := by decide +kernel
theorem dX9_toldOf_5 : decode cX9_toldOf 5 = .ok (.ifCond .ne 6, 3) := by decide +kernel
theorem dX9_toldOf_8 : decode cX9_toldOf 8 = .ok (.bipush (-2), 2) := by decide +kernel
theorem dX9_toldOf_10 : decode cX9_toldOf 10 = .ok (.ireturn, 1) := by decide +kernel
theorem dX9_toldOf_11 : decode cX9_toldOf 11 = .ok (.iload_n 2, 1) := by decide +kernel
theorem dX9_toldOf_12 : decode cX9_toldOf 12 = .ok (.tableswitch 82 0 5 #[40, 47, 54, 61, 68, 75], 40) := by decide +kernel
theorem dX9_toldOf_52 : decode cX9_toldOf 52 = .ok (.aload_n 0, 1) := by decide +kernel
theorem dX9_toldOf_53 : decode cX9_toldOf 53 = .ok (.getfield 7, 3) := by decide +kernel
theorem dX9_toldOf_56 : decode cX9_toldOf 56 = .ok (.iload_n 1, 1) := by decide +kernel
theorem dX9_toldOf_57 : decode cX9_toldOf 57 = .ok (.iaload, 1) := by decide +kernel
theorem dX9_toldOf_58 : decode cX9_toldOf 58 = .ok (.ireturn, 1) := by decide +kernel
theorem dX9_toldOf_59 : decode cX9_toldOf 59 = .ok (.aload_n 0, 1) := by decide +kernel
theorem dX9_toldOf_60 : decode cX9_toldOf 60 = .ok (.getfield 13, 3) := by decide +kernel
theorem dX9_toldOf_63 : decode cX9_toldOf 63 = .ok (.iload_n 1, 1) := by decide +kernel
theorem dX9_toldOf_64 : decode cX9_toldOf 64 = .ok (.iaload, 1) := by decide +kernel
theorem dX9_toldOf_65 : decode cX9_toldOf 65 = .ok (.ireturn, 1) := by decide +kernel
theorem dX9_toldOf_66 : decode cX9_toldOf 66 = .ok (.aload_n 0, 1) := by decide +kernel
theorem dX9_toldOf_67 : decode cX9_toldOf 67 = .ok (.getfield 16, 3) := by decide +kernel
theorem dX9_toldOf_70 : decode cX9_toldOf 70 = .ok (.iload_n 1, 1) := by decide +kernel
theorem dX9_toldOf_71 : decode cX9_toldOf 71 = .ok (.iaload, 1) := by decide +kernel
theorem dX9_toldOf_72 : decode cX9_toldOf 72 = .ok (.ireturn, 1) := by decide +kernel
theorem dX9_toldOf_73 : decode cX9_toldOf 73 = .ok (.aload_n 0, 1) := by decide +kernel
theorem dX9_toldOf_74 : decode cX9_toldOf 74 = .ok (.getfield 19, 3) := by decide +kernel
theorem dX9_toldOf_77 : decode cX9_toldOf 77 = .ok (.iload_n 1, 1) := by decide +kernel
theorem dX9_toldOf_78 : decode cX9_toldOf 78 = .ok (.iaload, 1) := by decide +kernel
theorem dX9_toldOf_79 : decode cX9_toldOf 79 = .ok (.ireturn, 1) := by decide +kernel
theorem dX9_toldOf_80 : decode cX9_toldOf 80 = .ok (.aload_n 0, 1) := by decide +kernel
theorem dX9_toldOf_81 : decode cX9_toldOf 81 = .ok (.getfield 22, 3) := by decide +kernel
theorem dX9_toldOf_84 : decode cX9_toldOf 84 = .ok (.iload_n 1, 1) := by decide +kernel
theorem dX9_toldOf_85 : decode cX9_toldOf 85 = .ok (.iaload, 1) := by decide +kernel
theorem dX9_toldOf_86 : decode cX9_toldOf 86 = .ok (.ireturn, 1) := by decide +kernel
theorem dX9_toldOf_87 : decode cX9_toldOf 87 = .ok (.aload_n 0, 1) := by decide +kernel
theorem dX9_toldOf_88 : decode cX9_toldOf 88 = .ok (.getfield 25, 3) := by decide +kernel
theorem dX9_toldOf_91 : decode cX9_toldOf 91 = .ok (.iload_n 1, 1) := by decide +kernel
theorem dX9_toldOf_92 : decode cX9_toldOf 92 = .ok (.iaload, 1) := by decide +kernel
theorem dX9_toldOf_93 : decode cX9_toldOf 93 = .ok (.ireturn, 1) := by decide +kernel
theorem dX9_toldOf_94 : decode cX9_toldOf 94 = .ok (.bipush (-2), 2) := by decide +kernel
theorem dX9_toldOf_96 : decode cX9_toldOf 96 = .ok (.ireturn, 1) := by decide +kernel
theorem dX9_told_0 : decode cX9_told 0 = .ok (.iload_n 1, 1) := by decide +kernel
theorem dX9_told_1 : decode cX9_told 1 = .ok (.i2l, 1) := by decide +kernel
theorem dX9_told_2 : decode cX9_told 2 = .ok (.ldc2_w 295, 3) := by decide +kernel
theorem dX9_told_5 : decode cX9_told 5 = .ok (.ldc2_w 350, 3) := by decide +kernel
theorem dX9_told_8 : decode cX9_told 8 = .ok (.invokestatic 90, 3) := by decide +kernel
theorem dX9_told_11 : decode cX9_told 11 = .ok (.ifCond .eq 18, 3) := by decide +kernel
theorem dX9_told_14 : decode cX9_told 14 = .ok (.aload_n 0, 1) := by decide +kernel
theorem dX9_told_15 : decode cX9_told 15 = .ok (.iload_n 1, 1) := by decide +kernel
theorem dX9_told_16 : decode cX9_told 16 = .ok (.bipush 10, 2) := by decide +kernel
theorem dX9_told_18 : decode cX9_told 18 = .ok (.idiv, 1) := by decide +kernel
theorem dX9_told_19 : decode cX9_told 19 = .ok (.iconst 1, 1) := by decide +kernel
theorem dX9_told_20 : decode cX9_told 20 = .ok (.isub, 1) := by decide +kernel
theorem dX9_told_21 : decode cX9_told 21 = .ok (.iload_n 1, 1) := by decide +kernel
theorem dX9_told_22 : decode cX9_told 22 = .ok (.bipush 10, 2) := by decide +kernel
theorem dX9_told_24 : decode cX9_told 24 = .ok (.irem, 1) := by decide +kernel
theorem dX9_told_25 : decode cX9_told 25 = .ok (.invokevirtual 352, 3) := by decide +kernel
theorem dX9_told_28 : decode cX9_told 28 = .ok (.ireturn, 1) := by decide +kernel
theorem dX9_told_29 : decode cX9_told 29 = .ok (.iload_n 1, 1) := by decide +kernel
theorem dX9_told_30 : decode cX9_told 30 = .ok (.tableswitch 59 0 4 #[34, 39, 44, 49, 54], 34) := by decide +kernel
theorem dX9_told_64 : decode cX9_told 64 = .ok (.aload_n 0, 1) := by decide +kernel
theorem dX9_told_65 : decode cX9_told 65 = .ok (.getfield 123, 3) := by decide +kernel
theorem dX9_told_68 : decode cX9_told 68 = .ok (.ireturn, 1) := by decide +kernel
theorem dX9_told_69 : decode cX9_told 69 = .ok (.aload_n 0, 1) := by decide +kernel
theorem dX9_told_70 : decode cX9_told 70 = .ok (.getfield 94, 3) := by decide +kernel
theorem dX9_told_73 : decode cX9_told 73 = .ok (.ireturn, 1) := by decide +kernel
theorem dX9_told_74 : decode cX9_told 74 = .ok (.aload_n 0, 1) := by decide +kernel
theorem dX9_told_75 : decode cX9_told 75 = .ok (.getfield 81, 3) := by decide +kernel
theorem dX9_told_78 : decode cX9_told 78 = .ok (.ireturn, 1) := by decide +kernel
theorem dX9_told_79 : decode cX9_told 79 = .ok (.aload_n 0, 1) := by decide +kernel
theorem dX9_told_80 : decode cX9_told 80 = .ok (.getfield 85, 3) := by decide +kernel
theorem dX9_told_83 : decode cX9_told 83 = .ok (.ireturn, 1) := by decide +kernel
theorem dX9_told_84 : decode cX9_told 84 = .ok (.aload_n 0, 1) := by decide +kernel
theorem dX9_told_85 : decode cX9_told 85 = .ok (.getfield 312, 3) := by decide +kernel
theorem dX9_told_88 : decode cX9_told 88 = .ok (.ireturn, 1) := by decide +kernel
theorem dX9_told_89 : decode cX9_told 89 = .ok (.bipush (-2), 2) := by decide +kernel
theorem dX9_told_91 : decode cX9_told 91 = .ok (.ireturn, 1) := by decide +kernel
theorem dJ6_bitCount_0f7a4_0 : decode cJ6_bitCount_0f7a4 0 = .ok (.iload_n 0, 1) := by decide +kernel
theorem dJ6_bitCount_0f7a4_1 : decode cJ6_bitCount_0f7a4 1 = .ok (.iload_n 0, 1) := by decide +kernel
theorem dJ6_bitCount_0f7a4_2 : decode cJ6_bitCount_0f7a4 2 = .ok (.iconst 1, 1) := by decide +kernel
theorem dJ6_bitCount_0f7a4_3 : decode cJ6_bitCount_0f7a4 3 = .ok (.iushr, 1) := by decide +kernel
theorem dJ6_bitCount_0f7a4_4 : decode cJ6_bitCount_0f7a4 4 = .ok (.ldc_w 265, 3) := by decide +kernel
theorem dJ6_bitCount_0f7a4_7 : decode cJ6_bitCount_0f7a4 7 = .ok (.iand, 1) := by decide +kernel
theorem dJ6_bitCount_0f7a4_8 : decode cJ6_bitCount_0f7a4 8 = .ok (.isub, 1) := by decide +kernel
theorem dJ6_bitCount_0f7a4_9 : decode cJ6_bitCount_0f7a4 9 = .ok (.istore_n 0, 1) := by decide +kernel
theorem dJ6_bitCount_0f7a4_10 : decode cJ6_bitCount_0f7a4 10 = .ok (.iload_n 0, 1) := by decide +kernel
theorem dJ6_bitCount_0f7a4_11 : decode cJ6_bitCount_0f7a4 11 = .ok (.ldc_w 266, 3) := by decide +kernel
theorem dJ6_bitCount_0f7a4_14 : decode cJ6_bitCount_0f7a4 14 = .ok (.iand, 1) := by decide +kernel
theorem dJ6_bitCount_0f7a4_15 : decode cJ6_bitCount_0f7a4 15 = .ok (.iload_n 0, 1) := by decide +kernel
theorem dJ6_bitCount_0f7a4_16 : decode cJ6_bitCount_0f7a4 16 = .ok (.iconst 2, 1) := by decide +kernel
theorem dJ6_bitCount_0f7a4_17 : decode cJ6_bitCount_0f7a4 17 = .ok (.iushr, 1) := by decide +kernel
theorem dJ6_bitCount_0f7a4_18 : decode cJ6_bitCount_0f7a4 18 = .ok (.ldc_w 266, 3) := by decide +kernel
theorem dJ6_bitCount_0f7a4_21 : decode cJ6_bitCount_0f7a4 21 = .ok (.iand, 1) := by decide +kernel
theorem dJ6_bitCount_0f7a4_22 : decode cJ6_bitCount_0f7a4 22 = .ok (.iadd, 1) := by decide +kernel
theorem dJ6_bitCount_0f7a4_23 : decode cJ6_bitCount_0f7a4 23 = .ok (.istore_n 0, 1) := by decide +kernel
theorem dJ6_bitCount_0f7a4_24 : decode cJ6_bitCount_0f7a4 24 = .ok (.iload_n 0, 1) := by decide +kernel
theorem dJ6_bitCount_0f7a4_25 : decode cJ6_bitCount_0f7a4 25 = .ok (.iload_n 0, 1) := by decide +kernel
theorem dJ6_bitCount_0f7a4_26 : decode cJ6_bitCount_0f7a4 26 = .ok (.iconst 4, 1) := by decide +kernel
theorem dJ6_bitCount_0f7a4_27 : decode cJ6_bitCount_0f7a4 27 = .ok (.iushr, 1) := by decide +kernel
theorem dJ6_bitCount_0f7a4_28 : decode cJ6_bitCount_0f7a4 28 = .ok (.iadd, 1) := by decide +kernel
theorem dJ6_bitCount_0f7a4_29 : decode cJ6_bitCount_0f7a4 29 = .ok (.ldc_w 267, 3) := by decide +kernel
theorem dJ6_bitCount_0f7a4_32 : decode cJ6_bitCount_0f7a4 32 = .ok (.iand, 1) := by decide +kernel
theorem dJ6_bitCount_0f7a4_33 : decode cJ6_bitCount_0f7a4 33 = .ok (.istore_n 0, 1) := by decide +kernel
theorem dJ6_bitCount_0f7a4_34 : decode cJ6_bitCount_0f7a4 34 = .ok (.iload_n 0, 1) := by decide +kernel
theorem dJ6_bitCount_0f7a4_35 : decode cJ6_bitCount_0f7a4 35 = .ok (.iload_n 0, 1) := by decide +kernel
theorem dJ6_bitCount_0f7a4_36 : decode cJ6_bitCount_0f7a4 36 = .ok (.bipush 8, 2) := by decide +kernel
theorem dJ6_bitCount_0f7a4_38 : decode cJ6_bitCount_0f7a4 38 = .ok (.iushr, 1) := by decide +kernel
theorem dJ6_bitCount_0f7a4_39 : decode cJ6_bitCount_0f7a4 39 = .ok (.iadd, 1) := by decide +kernel
theorem dJ6_bitCount_0f7a4_40 : decode cJ6_bitCount_0f7a4 40 = .ok (.istore_n 0, 1) := by decide +kernel
theorem dJ6_bitCount_0f7a4_41 : decode cJ6_bitCount_0f7a4 41 = .ok (.iload_n 0, 1) := by decide +kernel
theorem dJ6_bitCount_0f7a4_42 : decode cJ6_bitCount_0f7a4 42 = .ok (.iload_n 0, 1) := by decide +kernel
theorem dJ6_bitCount_0f7a4_43 : decode cJ6_bitCount_0f7a4 43 = .ok (.bipush 16, 2) := by decide +kernel
theorem dJ6_bitCount_0f7a4_45 : decode cJ6_bitCount_0f7a4 45 = .ok (.iushr, 1) := by decide +kernel
theorem dJ6_bitCount_0f7a4_46 : decode cJ6_bitCount_0f7a4 46 = .ok (.iadd, 1) := by decide +kernel
theorem dJ6_bitCount_0f7a4_47 : decode cJ6_bitCount_0f7a4 47 = .ok (.istore_n 0, 1) := by decide +kernel
theorem dJ6_bitCount_0f7a4_48 : decode cJ6_bitCount_0f7a4 48 = .ok (.iload_n 0, 1) := by decide +kernel
theorem dJ6_bitCount_0f7a4_49 : decode cJ6_bitCount_0f7a4 49 = .ok (.bipush 63, 2) := by decide +kernel
theorem dJ6_bitCount_0f7a4_51 : decode cJ6_bitCount_0f7a4 51 = .ok (.iand, 1) := by decide +kernel
theorem dJ6_bitCount_0f7a4_52 : decode cJ6_bitCount_0f7a4 52 = .ok (.ireturn, 1) := by decide +kernel
theorem dJ9_abs_0f7a4_0 : decode cJ9_abs_0f7a4 0 = .ok (.iload_n 0, 1) := by decide +kernel
theorem dJ9_abs_0f7a4_1 : decode cJ9_abs_0f7a4 1 = .ok (.ifCond .ge 8, 3) := by decide +kernel
theorem dJ9_abs_0f7a4_4 : decode cJ9_abs_0f7a4 4 = .ok (.iload_n 0, 1) := by decide +kernel
theorem dJ9_abs_0f7a4_5 : decode cJ9_abs_0f7a4 5 = .ok (.ineg, 1) := by decide +kernel
theorem dJ9_abs_0f7a4_6 : decode cJ9_abs_0f7a4 6 = .ok (.goto 4, 3) := by decide +kernel
theorem dJ9_abs_0f7a4_9 : decode cJ9_abs_0f7a4 9 = .ok (.iload_n 0, 1) := by decide +kernel
theorem dJ9_abs_0f7a4_10 : decode cJ9_abs_0f7a4 10 = .ok (.ireturn, 1) := by decide +kernel
theorem dJ9_max_7cf53_0 : decode cJ9_max_7cf53 0 = .ok (.iload_n 0, 1) := by decide +kernel
theorem dJ9_max_7cf53_1 : decode cJ9_max_7cf53 1 = .ok (.iload_n 1, 1) := by decide +kernel
theorem dJ9_max_7cf53_2 : decode cJ9_max_7cf53 2 = .ok (.if_icmp .lt 7, 3) := by decide +kernel
theorem dJ9_max_7cf53_5 : decode cJ9_max_7cf53 5 = .ok (.iload_n 0, 1) := by decide +kernel
theorem dJ9_max_7cf53_6 : decode cJ9_max_7cf53 6 = .ok (.goto 4, 3) := by decide +kernel
theorem dJ9_max_7cf53_9 : decode cJ9_max_7cf53 9 = .ok (.iload_n 1, 1) := by decide +kernel
theorem dJ9_max_7cf53_10 : decode cJ9_max_7cf53 10 = .ok (.ireturn, 1) := by decide +kernel
theorem dJ9_max_f86c9_0 : decode cJ9_max_f86c9 0 = .ok (.lload_n 0, 1) := by decide +kernel
theorem dJ9_max_f86c9_1 : decode cJ9_max_f86c9 1 = .ok (.lload_n 2, 1) := by decide +kernel
theorem dJ9_max_f86c9_2 : decode cJ9_max_f86c9 2 = .ok (.lcmp, 1) := by decide +kernel
theorem dJ9_max_f86c9_3 : decode cJ9_max_f86c9 3 = .ok (.ifCond .lt 7, 3) := by decide +kernel
theorem dJ9_max_f86c9_6 : decode cJ9_max_f86c9 6 = .ok (.lload_n 0, 1) := by decide +kernel
theorem dJ9_max_f86c9_7 : decode cJ9_max_f86c9 7 = .ok (.goto 4, 3) := by decide +kernel
theorem dJ9_max_f86c9_10 : decode cJ9_max_f86c9 10 = .ok (.lload_n 2, 1) := by decide +kernel
theorem dJ9_max_f86c9_11 : decode cJ9_max_f86c9 11 = .ok (.lreturn, 1) := by decide +kernel
theorem dJ9_min_7cf53_0 : decode cJ9_min_7cf53 0 = .ok (.iload_n 0, 1) := by decide +kernel
theorem dJ9_min_7cf53_1 : decode cJ9_min_7cf53 1 = .ok (.iload_n 1, 1) := by decide +kernel
theorem dJ9_min_7cf53_2 : decode cJ9_min_7cf53 2 = .ok (.if_icmp .gt 7, 3) := by decide +kernel
theorem dJ9_min_7cf53_5 : decode cJ9_min_7cf53 5 = .ok (.iload_n 0, 1) := by decide +kernel
theorem dJ9_min_7cf53_6 : decode cJ9_min_7cf53 6 = .ok (.goto 4, 3) := by decide +kernel
theorem dJ9_min_7cf53_9 : decode cJ9_min_7cf53 9 = .ok (.iload_n 1, 1) := by decide +kernel
theorem dJ9_min_7cf53_10 : decode cJ9_min_7cf53 10 = .ok (.ireturn, 1) := by decide +kernel
theorem dL_law_0 : decode cL_law 0 = .ok (.new 7, 3) := by decide +kernel
theorem dL_law_3 : decode cL_law 3 = .ok (.dup, 1) := by decide +kernel
theorem dL_law_4 : decode cL_law 4 = .ok (.invokespecial 9, 3) := by decide +kernel
theorem dL_law_7 : decode cL_law 7 = .ok (.astore_n 1, 1) := by decide +kernel
theorem dL_law_8 : decode cL_law 8 = .ok (.new 10, 3) := by decide +kernel
theorem dL_law_11 : decode cL_law 11 = .ok (.dup, 1) := by decide +kernel
theorem dL_law_12 : decode cL_law 12 = .ok (.invokespecial 12, 3) := by decide +kernel
theorem dL_law_15 : decode cL_law 15 = .ok (.astore_n 2, 1) := by decide +kernel
theorem dL_law_16 : decode cL_law 16 = .ok (.iconst 0, 1) := by decide +kernel
theorem dL_law_17 : decode cL_law 17 = .ok (.istore_n 3, 1) := by decide +kernel
theorem dL_law_18 : decode cL_law 18 = .ok (.iload_n 3, 1) := by decide +kernel
theorem dL_law_19 : decode cL_law 19 = .ok (.aload_n 0, 1) := by decide +kernel
theorem dL_law_20 : decode cL_law 20 = .ok (.arraylength, 1) := by decide +kernel
theorem dL_law_21 : decode cL_law 21 = .ok (.bipush 7, 2) := by decide +kernel
theorem dL_law_23 : decode cL_law 23 = .ok (.isub, 1) := by decide +kernel
theorem dL_law_24 : decode cL_law 24 = .ok (.if_icmp .gt 971, 3) := by decide +kernel
theorem dL_law_27 : decode cL_law 27 = .ok (.aload_n 0, 1) := by decide +kernel
theorem dL_law_28 : decode cL_law 28 = .ok (.iload_n 3, 1) := by decide +kernel
theorem dL_law_29 : decode cL_law 29 = .ok (.iaload, 1) := by decide +kernel
theorem dL_law_30 : decode cL_law 30 = .ok (.bipush 31, 2) := by decide +kernel
theorem dL_law_32 : decode cL_law 32 = .ok (.iand, 1) := by decide +kernel
theorem dL_law_33 : decode cL_law 33 = .ok (.tableswitch 956 0 25 #[119, 182, 205, 238, 271, 294, 307, 320, 343, 376, 399, 412, 435, 488, 531, 564, 627, 703, 752, 765, 778, 801, 844, 887, 910, 933], 119) := by decide +kernel
theorem dL_law_152 : decode cL_law 152 = .ok (.aload_n 1, 1) := by decide +kernel
theorem dL_law_153 : decode cL_law 153 = .ok (.aload_n 0, 1) := by decide +kernel
theorem dL_law_154 : decode cL_law 154 = .ok (.iload_n 3, 1) := by decide +kernel
theorem dL_law_155 : decode cL_law 155 = .ok (.iconst 1, 1) := by decide +kernel
theorem dL_law_156 : decode cL_law 156 = .ok (.iadd, 1) := by decide +kernel
theorem dL_law_157 : decode cL_law 157 = .ok (.iaload, 1) := by decide +kernel
theorem dL_law_158 : decode cL_law 158 = .ok (.aload_n 0, 1) := by decide +kernel
theorem dL_law_159 : decode cL_law 159 = .ok (.iload_n 3, 1) := by decide +kernel
theorem dL_law_160 : decode cL_law 160 = .ok (.iconst 2, 1) := by decide +kernel
theorem dL_law_161 : decode cL_law 161 = .ok (.iadd, 1) := by decide +kernel
theorem dL_law_162 : decode cL_law 162 = .ok (.iaload, 1) := by decide +kernel
theorem dL_law_163 : decode cL_law 163 = .ok (.aload_n 0, 1) := by decide +kernel
theorem dL_law_164 : decode cL_law 164 = .ok (.iload_n 3, 1) := by decide +kernel
theorem dL_law_165 : decode cL_law 165 = .ok (.iconst 3, 1) := by decide +kernel
theorem dL_law_166 : decode cL_law 166 = .ok (.iadd, 1) := by decide +kernel
theorem dL_law_167 : decode cL_law 167 = .ok (.iaload, 1) := by decide +kernel
theorem dL_law_168 : decode cL_law 168 = .ok (.aload_n 0, 1) := by decide +kernel
theorem dL_law_169 : decode cL_law 169 = .ok (.iload_n 3, 1) := by decide +kernel
theorem dL_law_170 : decode cL_law 170 = .ok (.iconst 4, 1) := by decide +kernel
theorem dL_law_171 : decode cL_law 171 = .ok (.iadd, 1) := by decide +kernel
theorem dL_law_172 : decode cL_law 172 = .ok (.iaload, 1) := by decide +kernel
theorem dL_law_173 : decode cL_law 173 = .ok (.aload_n 0, 1) := by decide +kernel
theorem dL_law_174 : decode cL_law 174 = .ok (.iload_n 3, 1) := by decide +kernel
theorem dL_law_175 : decode cL_law 175 = .ok (.iconst 5, 1) := by decide +kernel
theorem dL_law_176 : decode cL_law 176 = .ok (.iadd, 1) := by decide +kernel
theorem dL_law_177 : decode cL_law 177 = .ok (.iaload, 1) := by decide +kernel
theorem dL_law_178 : decode cL_law 178 = .ok (.invokevirtual 13, 3) := by decide +kernel
theorem dL_law_181 : decode cL_law 181 = .ok (.aload_n 2, 1) := by decide +kernel
theorem dL_law_182 : decode cL_law 182 = .ok (.aload_n 0, 1) := by decide +kernel
theorem dL_law_183 : decode cL_law 183 = .ok (.iload_n 3, 1) := by decide +kernel
theorem dL_law_184 : decode cL_law 184 = .ok (.iconst 1, 1) := by decide +kernel
theorem dL_law_185 : decode cL_law 185 = .ok (.iadd, 1) := by decide +kernel
theorem dL_law_186 : decode cL_law 186 = .ok (.iaload, 1) := by decide +kernel
theorem dL_law_187 : decode cL_law 187 = .ok (.aload_n 0, 1) := by decide +kernel
theorem dL_law_188 : decode cL_law 188 = .ok (.iload_n 3, 1) := by decide +kernel
theorem dL_law_189 : decode cL_law 189 = .ok (.iconst 2, 1) := by decide +kernel
theorem dL_law_190 : decode cL_law 190 = .ok (.iadd, 1) := by decide +kernel
theorem dL_law_191 : decode cL_law 191 = .ok (.iaload, 1) := by decide +kernel
theorem dL_law_192 : decode cL_law 192 = .ok (.aload_n 0, 1) := by decide +kernel
theorem dL_law_193 : decode cL_law 193 = .ok (.iload_n 3, 1) := by decide +kernel
theorem dL_law_194 : decode cL_law 194 = .ok (.iconst 3, 1) := by decide +kernel
theorem dL_law_195 : decode cL_law 195 = .ok (.iadd, 1) := by decide +kernel
theorem dL_law_196 : decode cL_law 196 = .ok (.iaload, 1) := by decide +kernel
theorem dL_law_197 : decode cL_law 197 = .ok (.aload_n 0, 1) := by decide +kernel
theorem dL_law_198 : decode cL_law 198 = .ok (.iload_n 3, 1) := by decide +kernel
theorem dL_law_199 : decode cL_law 199 = .ok (.iconst 4, 1) := by decide +kernel
theorem dL_law_200 : decode cL_law 200 = .ok (.iadd, 1) := by decide +kernel
theorem dL_law_201 : decode cL_law 201 = .ok (.iaload, 1) := by decide +kernel
theorem dL_law_202 : decode cL_law 202 = .ok (.aload_n 0, 1) := by decide +kernel
theorem dL_law_203 : decode cL_law 203 = .ok (.iload_n 3, 1) := by decide +kernel
theorem dL_law_204 : decode cL_law 204 = .ok (.iconst 5, 1) := by decide +kernel
theorem dL_law_205 : decode cL_law 205 = .ok (.iadd, 1) := by decide +kernel
theorem dL_law_206 : decode cL_law 206 = .ok (.iaload, 1) := by decide +kernel
theorem dL_law_207 : decode cL_law 207 = .ok (.invokevirtual 17, 3) := by decide +kernel
theorem dL_law_210 : decode cL_law 210 = .ok (.if_icmp .eq 779, 3) := by decide +kernel
theorem dL_law_213 : decode cL_law 213 = .ok (.iconst 0, 1) := by decide +kernel
theorem dL_law_214 : decode cL_law 214 = .ok (.ireturn, 1) := by decide +kernel
theorem dL_law_215 : decode cL_law 215 = .ok (.aload_n 1, 1) := by decide +kernel
theorem dL_law_216 : decode cL_law 216 = .ok (.aload_n 0, 1) := by decide +kernel
theorem dL_law_217 : decode cL_law 217 = .ok (.iload_n 3, 1) := by decide +kernel
theorem dL_law_218 : decode cL_law 218 = .ok (.iconst 1, 1) := by decide +kernel
theorem dL_law_219 : decode cL_law 219 = .ok (.iadd, 1) := by decide +kernel
theorem dL_law_220 : decode cL_law 220 = .ok (.iaload, 1) := by decide +kernel
theorem dL_law_221 : decode cL_law 221 = .ok (.invokevirtual 18, 3) := by decide +kernel
theorem dL_law_224 : decode cL_law 224 = .ok (.aload_n 2, 1) := by decide +kernel
theorem dL_law_225 : decode cL_law 225 = .ok (.aload_n 0, 1) := by decide +kernel
theorem dL_law_226 : decode cL_law 226 = .ok (.iload_n 3, 1) := by decide +kernel
theorem dL_law_227 : decode cL_law 227 = .ok (.iconst 1, 1) := by decide +kernel
theorem dL_law_228 : decode cL_law 228 = .ok (.iadd, 1) := by decide +kernel
theorem dL_law_229 : decode cL_law 229 = .ok (.iaload, 1) := by decide +kernel
theorem dL_law_230 : decode cL_law 230 = .ok (.invokevirtual 22, 3) := by decide +kernel
theorem dL_law_233 : decode cL_law 233 = .ok (.if_icmp .eq 756, 3) := by decide +kernel
theorem dL_law_236 : decode cL_law 236 = .ok (.iconst 0, 1) := by decide +kernel
theorem dL_law_237 : decode cL_law 237 = .ok (.ireturn, 1) := by decide +kernel
theorem dL_law_238 : decode cL_law 238 = .ok (.aload_n 1, 1) := by decide +kernel
theorem dL_law_239 : decode cL_law 239 = .ok (.aload_n 0, 1) := by decide +kernel
theorem dL_law_240 : decode cL_law 240 = .ok (.iload_n 3, 1) := by decide +kernel
theorem dL_law_241 : decode cL_law 241 = .ok (.iconst 1, 1) := by decide +kernel
theorem dL_law_242 : decode cL_law 242 = .ok (.iadd, 1) := by decide +kernel
theorem dL_law_243 : decode cL_law 243 = .ok (.iaload, 1) := by decide +kernel
theorem dL_law_244 : decode cL_law 244 = .ok (.aload_n 0, 1) := by decide +kernel
theorem dL_law_245 : decode cL_law 245 = .ok (.iload_n 3, 1) := by decide +kernel
theorem dL_law_246 : decode cL_law 246 = .ok (.iconst 2, 1) := by decide +kernel
theorem dL_law_247 : decode cL_law 247 = .ok (.iadd, 1) := by decide +kernel
theorem dL_law_248 : decode cL_law 248 = .ok (.iaload, 1) := by decide +kernel
theorem dL_law_249 : decode cL_law 249 = .ok (.invokevirtual 23, 3) := by decide +kernel
theorem dL_law_252 : decode cL_law 252 = .ok (.aload_n 2, 1) := by decide +kernel
theorem dL_law_253 : decode cL_law 253 = .ok (.aload_n 0, 1) := by decide +kernel
theorem dL_law_254 : decode cL_law 254 = .ok (.iload_n 3, 1) := by decide +kernel
theorem dL_law_255 : decode cL_law 255 = .ok (.iconst 1, 1) := by decide +kernel
theorem dL_law_256 : decode cL_law 256 = .ok (.iadd, 1) := by decide +kernel
theorem dL_law_257 : decode cL_law 257 = .ok (.iaload, 1) := by decide +kernel
theorem dL_law_258 : decode cL_law 258 = .ok (.aload_n 0, 1) := by decide +kernel
theorem dL_law_259 : decode cL_law 259 = .ok (.iload_n 3, 1) := by decide +kernel
theorem dL_law_260 : decode cL_law 260 = .ok (.iconst 2, 1) := by decide +kernel
theorem dL_law_261 : decode cL_law 261 = .ok (.iadd, 1) := by decide +kernel
theorem dL_law_262 : decode cL_law 262 = .ok (.iaload, 1) := by decide +kernel
theorem dL_law_263 : decode cL_law 263 = .ok (.invokevirtual 27, 3) := by decide +kernel
theorem dL_law_266 : decode cL_law 266 = .ok (.if_icmp .eq 723, 3) := by decide +kernel
theorem dL_law_269 : decode cL_law 269 = .ok (.iconst 0, 1) := by decide +kernel
theorem dL_law_270 : decode cL_law 270 = .ok (.ireturn, 1) := by decide +kernel
theorem dL_law_271 : decode cL_law 271 = .ok (.aload_n 1, 1) := by decide +kernel
theorem dL_law_272 : decode cL_law 272 = .ok (.aload_n 0, 1) := by decide +kernel
theorem dL_law_273 : decode cL_law 273 = .ok (.iload_n 3, 1) := by decide +kernel
theorem dL_law_274 : decode cL_law 274 = .ok (.iconst 1, 1) := by decide +kernel
theorem dL_law_275 : decode cL_law 275 = .ok (.iadd, 1) := by decide +kernel
theorem dL_law_276 : decode cL_law 276 = .ok (.iaload, 1) := by decide +kernel
theorem dL_law_277 : decode cL_law 277 = .ok (.aload_n 0, 1) := by decide +kernel
theorem dL_law_278 : decode cL_law 278 = .ok (.iload_n 3, 1) := by decide +kernel
theorem dL_law_279 : decode cL_law 279 = .ok (.iconst 2, 1) := by decide +kernel
theorem dL_law_280 : decode cL_law 280 = .ok (.iadd, 1) := by decide +kernel
theorem dL_law_281 : decode cL_law 281 = .ok (.iaload, 1) := by decide +kernel
theorem dL_law_282 : decode cL_law 282 = .ok (.invokevirtual 28, 3) := by decide +kernel
theorem dL_law_285 : decode cL_law 285 = .ok (.aload_n 2, 1) := by decide +kernel
theorem dL_law_286 : decode cL_law 286 = .ok (.aload_n 0, 1) := by decide +kernel
theorem dL_law_287 : decode cL_law 287 = .ok (.iload_n 3, 1) := by decide +kernel
theorem dL_law_288 : decode cL_law 288 = .ok (.iconst 1, 1) := by decide +kernel
theorem dL_law_289 : decode cL_law 289 = .ok (.iadd, 1) := by decide +kernel
theorem dL_law_290 : decode cL_law 290 = .ok (.iaload, 1) := by decide +kernel
theorem dL_law_291 : decode cL_law 291 = .ok (.aload_n 0, 1) := by decide +kernel
theorem dL_law_292 : decode cL_law 292 = .ok (.iload_n 3, 1) := by decide +kernel
theorem dL_law_293 : decode cL_law 293 = .ok (.iconst 2, 1) := by decide +kernel
theorem dL_law_294 : decode cL_law 294 = .ok (.iadd, 1) := by decide +kernel
theorem dL_law_295 : decode cL_law 295 = .ok (.iaload, 1) := by decide +kernel
theorem dL_law_296 : decode cL_law 296 = .ok (.invokevirtual 31, 3) := by decide +kernel
theorem dL_law_299 : decode cL_law 299 = .ok (.if_icmp .eq 690, 3) := by decide +kernel
theorem dL_law_302 : decode cL_law 302 = .ok (.iconst 0, 1) := by decide +kernel
theorem dL_law_303 : decode cL_law 303 = .ok (.ireturn, 1) := by decide +kernel
theorem dL_law_304 : decode cL_law 304 = .ok (.aload_n 1, 1) := by decide +kernel
theorem dL_law_305 : decode cL_law 305 = .ok (.aload_n 0, 1) := by decide +kernel
theorem dL_law_306 : decode cL_law 306 = .ok (.iload_n 3, 1) := by decide +kernel
theorem dL_law_307 : decode cL_law 307 = .ok (.iconst 1, 1) := by decide +kernel
theorem dL_law_308 : decode cL_law 308 = .ok (.iadd, 1) := by decide +kernel
theorem dL_law_309 : decode cL_law 309 = .ok (.iaload, 1) := by decide +kernel
theorem dL_law_310 : decode cL_law 310 = .ok (.invokevirtual 32, 3) := by decide +kernel
theorem dL_law_313 : decode cL_law 313 = .ok (.aload_n 2, 1) := by decide +kernel
theorem dL_law_314 : decode cL_law 314 = .ok (.aload_n 0, 1) := by decide +kernel
theorem dL_law_315 : decode cL_law 315 = .ok (.iload_n 3, 1) := by decide +kernel
theorem dL_law_316 : decode cL_law 316 = .ok (.iconst 1, 1) := by decide +kernel
theorem dL_law_317 : decode cL_law 317 = .ok (.iadd, 1) := by decide +kernel
theorem dL_law_318 : decode cL_law 318 = .ok (.iaload, 1) := by decide +kernel
theorem dL_law_319 : decode cL_law 319 = .ok (.invokevirtual 35, 3) := by decide +kernel
theorem dL_law_322 : decode cL_law 322 = .ok (.if_icmp .eq 667, 3) := by decide +kernel
theorem dL_law_325 : decode cL_law 325 = .ok (.iconst 0, 1) := by decide +kernel
theorem dL_law_326 : decode cL_law 326 = .ok (.ireturn, 1) := by decide +kernel
theorem dL_law_327 : decode cL_law 327 = .ok (.aload_n 1, 1) := by decide +kernel
theorem dL_law_328 : decode cL_law 328 = .ok (.invokevirtual 36, 3) := by decide +kernel
theorem dL_law_331 : decode cL_law 331 = .ok (.aload_n 2, 1) := by decide +kernel
theorem dL_law_332 : decode cL_law 332 = .ok (.invokevirtual 40, 3) := by decide +kernel
theorem dL_law_335 : decode cL_law 335 = .ok (.if_icmp .eq 654, 3) := by decide +kernel
theorem dL_law_338 : decode cL_law 338 = .ok (.iconst 0, 1) := by decide +kernel
theorem dL_law_339 : decode cL_law 339 = .ok (.ireturn, 1) := by decide +kernel
theorem dL_law_340 : decode cL_law 340 = .ok (.aload_n 1, 1) := by decide +kernel
theorem dL_law_341 : decode cL_law 341 = .ok (.invokevirtual 41, 3) := by decide +kernel
theorem dL_law_344 : decode cL_law 344 = .ok (.aload_n 2, 1) := by decide +kernel
theorem dL_law_345 : decode cL_law 345 = .ok (.invokevirtual 44, 3) := by decide +kernel
theorem dL_law_348 : decode cL_law 348 = .ok (.if_icmp .eq 641, 3) := by decide +kernel
theorem dL_law_351 : decode cL_law 351 = .ok (.iconst 0, 1) := by decide +kernel
theorem dL_law_352 : decode cL_law 352 = .ok (.ireturn, 1) := by decide +kernel
theorem dL_law_353 : decode cL_law 353 = .ok (.aload_n 1, 1) := by decide +kernel
theorem dL_law_354 : decode cL_law 354 = .ok (.aload_n 0, 1) := by decide +kernel
theorem dL_law_355 : decode cL_law 355 = .ok (.iload_n 3, 1) := by decide +kernel
theorem dL_law_356 : decode cL_law 356 = .ok (.iconst 1, 1) := by decide +kernel
theorem dL_law_357 : decode cL_law 357 = .ok (.iadd, 1) := by decide +kernel
theorem dL_law_358 : decode cL_law 358 = .ok (.iaload, 1) := by decide +kernel
theorem dL_law_359 : decode cL_law 359 = .ok (.invokevirtual 45, 3) := by decide +kernel
theorem dL_law_362 : decode cL_law 362 = .ok (.aload_n 2, 1) := by decide +kernel
theorem dL_law_363 : decode cL_law 363 = .ok (.aload_n 0, 1) := by decide +kernel
theorem dL_law_364 : decode cL_law 364 = .ok (.iload_n 3, 1) := by decide +kernel
theorem dL_law_365 : decode cL_law 365 = .ok (.iconst 1, 1) := by decide +kernel
theorem dL_law_366 : decode cL_law 366 = .ok (.iadd, 1) := by decide +kernel
theorem dL_law_367 : decode cL_law 367 = .ok (.iaload, 1) := by decide +kernel
theorem dL_law_368 : decode cL_law 368 = .ok (.invokevirtual 48, 3) := by decide +kernel
theorem dL_law_371 : decode cL_law 371 = .ok (.if_icmp .eq 618, 3) := by decide +kernel
theorem dL_law_374 : decode cL_law 374 = .ok (.iconst 0, 1) := by decide +kernel
theorem dL_law_375 : decode cL_law 375 = .ok (.ireturn, 1) := by decide +kernel
theorem dL_law_376 : decode cL_law 376 = .ok (.aload_n 1, 1) := by decide +kernel
theorem dL_law_377 : decode cL_law 377 = .ok (.aload_n 0, 1) := by decide +kernel
theorem dL_law_378 : decode cL_law 378 = .ok (.iload_n 3, 1) := by decide +kernel
theorem dL_law_379 : decode cL_law 379 = .ok (.iconst 1, 1) := by decide +kernel
theorem dL_law_380 : decode cL_law 380 = .ok (.iadd, 1) := by decide +kernel
theorem dL_law_381 : decode cL_law 381 = .ok (.iaload, 1) := by decide +kernel
theorem dL_law_382 : decode cL_law 382 = .ok (.aload_n 0, 1) := by decide +kernel
theorem dL_law_383 : decode cL_law 383 = .ok (.iload_n 3, 1) := by decide +kernel
theorem dL_law_384 : decode cL_law 384 = .ok (.iconst 2, 1) := by decide +kernel
theorem dL_law_385 : decode cL_law 385 = .ok (.iadd, 1) := by decide +kernel
theorem dL_law_386 : decode cL_law 386 = .ok (.iaload, 1) := by decide +kernel
theorem dL_law_387 : decode cL_law 387 = .ok (.invokevirtual 49, 3) := by decide +kernel
theorem dL_law_390 : decode cL_law 390 = .ok (.aload_n 2, 1) := by decide +kernel
theorem dL_law_391 : decode cL_law 391 = .ok (.aload_n 0, 1) := by decide +kernel
theorem dL_law_392 : decode cL_law 392 = .ok (.iload_n 3, 1) := by decide +kernel
theorem dL_law_393 : decode cL_law 393 = .ok (.iconst 1, 1) := by decide +kernel
theorem dL_law_394 : decode cL_law 394 = .ok (.iadd, 1) := by decide +kernel
theorem dL_law_395 : decode cL_law 395 = .ok (.iaload, 1) := by decide +kernel
theorem dL_law_396 : decode cL_law 396 = .ok (.aload_n 0, 1) := by decide +kernel
theorem dL_law_397 : decode cL_law 397 = .ok (.iload_n 3, 1) := by decide +kernel
theorem dL_law_398 : decode cL_law 398 = .ok (.iconst 2, 1) := by decide +kernel
theorem dL_law_399 : decode cL_law 399 = .ok (.iadd, 1) := by decide +kernel
theorem dL_law_400 : decode cL_law 400 = .ok (.iaload, 1) := by decide +kernel
theorem dL_law_401 : decode cL_law 401 = .ok (.invokevirtual 52, 3) := by decide +kernel
theorem dL_law_404 : decode cL_law 404 = .ok (.if_icmp .eq 585, 3) := by decide +kernel
theorem dL_law_407 : decode cL_law 407 = .ok (.iconst 0, 1) := by decide +kernel
theorem dL_law_408 : decode cL_law 408 = .ok (.ireturn, 1) := by decide +kernel
theorem dL_law_409 : decode cL_law 409 = .ok (.aload_n 1, 1) := by decide +kernel
theorem dL_law_410 : decode cL_law 410 = .ok (.aload_n 0, 1) := by decide +kernel
theorem dL_law_411 : decode cL_law 411 = .ok (.iload_n 3, 1) := by decide +kernel
theorem dL_law_412 : decode cL_law 412 = .ok (.iconst 1, 1) := by decide +kernel
theorem dL_law_413 : decode cL_law 413 = .ok (.iadd, 1) := by decide +kernel
theorem dL_law_414 : decode cL_law 414 = .ok (.iaload, 1) := by decide +kernel
theorem dL_law_415 : decode cL_law 415 = .ok (.invokevirtual 53, 3) := by decide +kernel
theorem dL_law_418 : decode cL_law 418 = .ok (.aload_n 2, 1) := by decide +kernel
theorem dL_law_419 : decode cL_law 419 = .ok (.aload_n 0, 1) := by decide +kernel
theorem dL_law_420 : decode cL_law 420 = .ok (.iload_n 3, 1) := by decide +kernel
theorem dL_law_421 : decode cL_law 421 = .ok (.iconst 1, 1) := by decide +kernel
theorem dL_law_422 : decode cL_law 422 = .ok (.iadd, 1) := by decide +kernel
theorem dL_law_423 : decode cL_law 423 = .ok (.iaload, 1) := by decide +kernel
theorem dL_law_424 : decode cL_law 424 = .ok (.invokevirtual 56, 3) := by decide +kernel
theorem dL_law_427 : decode cL_law 427 = .ok (.if_icmp .eq 562, 3) := by decide +kernel
theorem dL_law_430 : decode cL_law 430 = .ok (.iconst 0, 1) := by decide +kernel
theorem dL_law_431 : decode cL_law 431 = .ok (.ireturn, 1) := by decide +kernel
theorem dL_law_432 : decode cL_law 432 = .ok (.aload_n 1, 1) := by decide +kernel
theorem dL_law_433 : decode cL_law 433 = .ok (.invokevirtual 57, 3) := by decide +kernel
theorem dL_law_436 : decode cL_law 436 = .ok (.aload_n 2, 1) := by decide +kernel
theorem dL_law_437 : decode cL_law 437 = .ok (.invokevirtual 60, 3) := by decide +kernel
theorem dL_law_440 : decode cL_law 440 = .ok (.if_icmp .eq 549, 3) := by decide +kernel
theorem dL_law_443 : decode cL_law 443 = .ok (.iconst 0, 1) := by decide +kernel
theorem dL_law_444 : decode cL_law 444 = .ok (.ireturn, 1) := by decide +kernel
theorem dL_law_445 : decode cL_law 445 = .ok (.aload_n 1, 1) := by decide +kernel
theorem dL_law_446 : decode cL_law 446 = .ok (.aload_n 0, 1) := by decide +kernel
theorem dL_law_447 : decode cL_law 447 = .ok (.iload_n 3, 1) := by decide +kernel
theorem dL_law_448 : decode cL_law 448 = .ok (.iconst 1, 1) := by decide +kernel
theorem dL_law_449 : decode cL_law 449 = .ok (.iadd, 1) := by decide +kernel
theorem dL_law_450 : decode cL_law 450 = .ok (.iaload, 1) := by decide +kernel
theorem dL_law_451 : decode cL_law 451 = .ok (.invokevirtual 61, 3) := by decide +kernel
theorem dL_law_454 : decode cL_law 454 = .ok (.aload_n 2, 1) := by decide +kernel
theorem dL_law_455 : decode cL_law 455 = .ok (.aload_n 0, 1) := by decide +kernel
theorem dL_law_456 : decode cL_law 456 = .ok (.iload_n 3, 1) := by decide +kernel
theorem dL_law_457 : decode cL_law 457 = .ok (.iconst 1, 1) := by decide +kernel
theorem dL_law_458 : decode cL_law 458 = .ok (.iadd, 1) := by decide +kernel
theorem dL_law_459 : decode cL_law 459 = .ok (.iaload, 1) := by decide +kernel
theorem dL_law_460 : decode cL_law 460 = .ok (.invokevirtual 64, 3) := by decide +kernel
theorem dL_law_463 : decode cL_law 463 = .ok (.if_icmp .eq 526, 3) := by decide +kernel
theorem dL_law_466 : decode cL_law 466 = .ok (.iconst 0, 1) := by decide +kernel
theorem dL_law_467 : decode cL_law 467 = .ok (.ireturn, 1) := by decide +kernel
theorem dL_law_468 : decode cL_law 468 = .ok (.aload_n 1, 1) := by decide +kernel
theorem dL_law_469 : decode cL_law 469 = .ok (.aload_n 0, 1) := by decide +kernel
theorem dL_law_470 : decode cL_law 470 = .ok (.iload_n 3, 1) := by decide +kernel
theorem dL_law_471 : decode cL_law 471 = .ok (.iconst 1, 1) := by decide +kernel
theorem dL_law_472 : decode cL_law 472 = .ok (.iadd, 1) := by decide +kernel
theorem dL_law_473 : decode cL_law 473 = .ok (.iaload, 1) := by decide +kernel
theorem dL_law_474 : decode cL_law 474 = .ok (.aload_n 0, 1) := by decide +kernel
theorem dL_law_475 : decode cL_law 475 = .ok (.iload_n 3, 1) := by decide +kernel
theorem dL_law_476 : decode cL_law 476 = .ok (.iconst 2, 1) := by decide +kernel
theorem dL_law_477 : decode cL_law 477 = .ok (.iadd, 1) := by decide +kernel
theorem dL_law_478 : decode cL_law 478 = .ok (.iaload, 1) := by decide +kernel
theorem dL_law_479 : decode cL_law 479 = .ok (.aload_n 0, 1) := by decide +kernel
theorem dL_law_480 : decode cL_law 480 = .ok (.iload_n 3, 1) := by decide +kernel
theorem dL_law_481 : decode cL_law 481 = .ok (.iconst 3, 1) := by decide +kernel
theorem dL_law_482 : decode cL_law 482 = .ok (.iadd, 1) := by decide +kernel
theorem dL_law_483 : decode cL_law 483 = .ok (.iaload, 1) := by decide +kernel
theorem dL_law_484 : decode cL_law 484 = .ok (.aload_n 0, 1) := by decide +kernel
theorem dL_law_485 : decode cL_law 485 = .ok (.iload_n 3, 1) := by decide +kernel
theorem dL_law_486 : decode cL_law 486 = .ok (.iconst 4, 1) := by decide +kernel
theorem dL_law_487 : decode cL_law 487 = .ok (.iadd, 1) := by decide +kernel
theorem dL_law_488 : decode cL_law 488 = .ok (.iaload, 1) := by decide +kernel
theorem dL_law_489 : decode cL_law 489 = .ok (.invokevirtual 65, 3) := by decide +kernel
theorem dL_law_492 : decode cL_law 492 = .ok (.aload_n 2, 1) := by decide +kernel
theorem dL_law_493 : decode cL_law 493 = .ok (.aload_n 0, 1) := by decide +kernel
theorem dL_law_494 : decode cL_law 494 = .ok (.iload_n 3, 1) := by decide +kernel
theorem dL_law_495 : decode cL_law 495 = .ok (.iconst 1, 1) := by decide +kernel
theorem dL_law_496 : decode cL_law 496 = .ok (.iadd, 1) := by decide +kernel
theorem dL_law_497 : decode cL_law 497 = .ok (.iaload, 1) := by decide +kernel
theorem dL_law_498 : decode cL_law 498 = .ok (.aload_n 0, 1) := by decide +kernel
theorem dL_law_499 : decode cL_law 499 = .ok (.iload_n 3, 1) := by decide +kernel
theorem dL_law_500 : decode cL_law 500 = .ok (.iconst 2, 1) := by decide +kernel
theorem dL_law_501 : decode cL_law 501 = .ok (.iadd, 1) := by decide +kernel
theorem dL_law_502 : decode cL_law 502 = .ok (.iaload, 1) := by decide +kernel
theorem dL_law_503 : decode cL_law 503 = .ok (.aload_n 0, 1) := by decide +kernel
theorem dL_law_504 : decode cL_law 504 = .ok (.iload_n 3, 1) := by decide +kernel
theorem dL_law_505 : decode cL_law 505 = .ok (.iconst 3, 1) := by decide +kernel
theorem dL_law_506 : decode cL_law 506 = .ok (.iadd, 1) := by decide +kernel
theorem dL_law_507 : decode cL_law 507 = .ok (.iaload, 1) := by decide +kernel
theorem dL_law_508 : decode cL_law 508 = .ok (.aload_n 0, 1) := by decide +kernel
theorem dL_law_509 : decode cL_law 509 = .ok (.iload_n 3, 1) := by decide +kernel
theorem dL_law_510 : decode cL_law 510 = .ok (.iconst 4, 1) := by decide +kernel
theorem dL_law_511 : decode cL_law 511 = .ok (.iadd, 1) := by decide +kernel
theorem dL_law_512 : decode cL_law 512 = .ok (.iaload, 1) := by decide +kernel
theorem dL_law_513 : decode cL_law 513 = .ok (.invokevirtual 69, 3) := by decide +kernel
theorem dL_law_516 : decode cL_law 516 = .ok (.if_icmp .eq 473, 3) := by decide +kernel
theorem dL_law_519 : decode cL_law 519 = .ok (.iconst 0, 1) := by decide +kernel
theorem dL_law_520 : decode cL_law 520 = .ok (.ireturn, 1) := by decide +kernel
theorem dL_law_521 : decode cL_law 521 = .ok (.aload_n 1, 1) := by decide +kernel
theorem dL_law_522 : decode cL_law 522 = .ok (.aload_n 0, 1) := by decide +kernel
theorem dL_law_523 : decode cL_law 523 = .ok (.iload_n 3, 1) := by decide +kernel
theorem dL_law_524 : decode cL_law 524 = .ok (.iconst 1, 1) := by decide +kernel
theorem dL_law_525 : decode cL_law 525 = .ok (.iadd, 1) := by decide +kernel
theorem dL_law_526 : decode cL_law 526 = .ok (.iaload, 1) := by decide +kernel
theorem dL_law_527 : decode cL_law 527 = .ok (.aload_n 0, 1) := by decide +kernel
theorem dL_law_528 : decode cL_law 528 = .ok (.iload_n 3, 1) := by decide +kernel
theorem dL_law_529 : decode cL_law 529 = .ok (.iconst 2, 1) := by decide +kernel
theorem dL_law_530 : decode cL_law 530 = .ok (.iadd, 1) := by decide +kernel
theorem dL_law_531 : decode cL_law 531 = .ok (.iaload, 1) := by decide +kernel
theorem dL_law_532 : decode cL_law 532 = .ok (.aload_n 0, 1) := by decide +kernel
theorem dL_law_533 : decode cL_law 533 = .ok (.iload_n 3, 1) := by decide +kernel
theorem dL_law_534 : decode cL_law 534 = .ok (.iconst 3, 1) := by decide +kernel
theorem dL_law_535 : decode cL_law 535 = .ok (.iadd, 1) := by decide +kernel
theorem dL_law_536 : decode cL_law 536 = .ok (.iaload, 1) := by decide +kernel
theorem dL_law_537 : decode cL_law 537 = .ok (.invokevirtual 70, 3) := by decide +kernel
theorem dL_law_540 : decode cL_law 540 = .ok (.aload_n 2, 1) := by decide +kernel
theorem dL_law_541 : decode cL_law 541 = .ok (.aload_n 0, 1) := by decide +kernel
theorem dL_law_542 : decode cL_law 542 = .ok (.iload_n 3, 1) := by decide +kernel
theorem dL_law_543 : decode cL_law 543 = .ok (.iconst 1, 1) := by decide +kernel
theorem dL_law_544 : decode cL_law 544 = .ok (.iadd, 1) := by decide +kernel
theorem dL_law_545 : decode cL_law 545 = .ok (.iaload, 1) := by decide +kernel
theorem dL_law_546 : decode cL_law 546 = .ok (.aload_n 0, 1) := by decide +kernel
theorem dL_law_547 : decode cL_law 547 = .ok (.iload_n 3, 1) := by decide +kernel
theorem dL_law_548 : decode cL_law 548 = .ok (.iconst 2, 1) := by decide +kernel
theorem dL_law_549 : decode cL_law 549 = .ok (.iadd, 1) := by decide +kernel
theorem dL_law_550 : decode cL_law 550 = .ok (.iaload, 1) := by decide +kernel
theorem dL_law_551 : decode cL_law 551 = .ok (.aload_n 0, 1) := by decide +kernel
theorem dL_law_552 : decode cL_law 552 = .ok (.iload_n 3, 1) := by decide +kernel
theorem dL_law_553 : decode cL_law 553 = .ok (.iconst 3, 1) := by decide +kernel
theorem dL_law_554 : decode cL_law 554 = .ok (.iadd, 1) := by decide +kernel
theorem dL_law_555 : decode cL_law 555 = .ok (.iaload, 1) := by decide +kernel
theorem dL_law_556 : decode cL_law 556 = .ok (.invokevirtual 74, 3) := by decide +kernel
theorem dL_law_559 : decode cL_law 559 = .ok (.if_icmp .eq 430, 3) := by decide +kernel
theorem dL_law_562 : decode cL_law 562 = .ok (.iconst 0, 1) := by decide +kernel
theorem dL_law_563 : decode cL_law 563 = .ok (.ireturn, 1) := by decide +kernel
theorem dL_law_564 : decode cL_law 564 = .ok (.aload_n 1, 1) := by decide +kernel
theorem dL_law_565 : decode cL_law 565 = .ok (.aload_n 0, 1) := by decide +kernel
theorem dL_law_566 : decode cL_law 566 = .ok (.iload_n 3, 1) := by decide +kernel
theorem dL_law_567 : decode cL_law 567 = .ok (.iconst 1, 1) := by decide +kernel
theorem dL_law_568 : decode cL_law 568 = .ok (.iadd, 1) := by decide +kernel
theorem dL_law_569 : decode cL_law 569 = .ok (.iaload, 1) := by decide +kernel
theorem dL_law_570 : decode cL_law 570 = .ok (.aload_n 0, 1) := by decide +kernel
theorem dL_law_571 : decode cL_law 571 = .ok (.iload_n 3, 1) := by decide +kernel
theorem dL_law_572 : decode cL_law 572 = .ok (.iconst 2, 1) := by decide +kernel
theorem dL_law_573 : decode cL_law 573 = .ok (.iadd, 1) := by decide +kernel
theorem dL_law_574 : decode cL_law 574 = .ok (.iaload, 1) := by decide +kernel
theorem dL_law_575 : decode cL_law 575 = .ok (.invokevirtual 75, 3) := by decide +kernel
theorem dL_law_578 : decode cL_law 578 = .ok (.aload_n 2, 1) := by decide +kernel
theorem dL_law_579 : decode cL_law 579 = .ok (.aload_n 0, 1) := by decide +kernel
theorem dL_law_580 : decode cL_law 580 = .ok (.iload_n 3, 1) := by decide +kernel
theorem dL_law_581 : decode cL_law 581 = .ok (.iconst 1, 1) := by decide +kernel
theorem dL_law_582 : decode cL_law 582 = .ok (.iadd, 1) := by decide +kernel
theorem dL_law_583 : decode cL_law 583 = .ok (.iaload, 1) := by decide +kernel
theorem dL_law_584 : decode cL_law 584 = .ok (.aload_n 0, 1) := by decide +kernel
theorem dL_law_585 : decode cL_law 585 = .ok (.iload_n 3, 1) := by decide +kernel
theorem dL_law_586 : decode cL_law 586 = .ok (.iconst 2, 1) := by decide +kernel
theorem dL_law_587 : decode cL_law 587 = .ok (.iadd, 1) := by decide +kernel
theorem dL_law_588 : decode cL_law 588 = .ok (.iaload, 1) := by decide +kernel
theorem dL_law_589 : decode cL_law 589 = .ok (.invokevirtual 78, 3) := by decide +kernel
theorem dL_law_592 : decode cL_law 592 = .ok (.if_icmp .eq 397, 3) := by decide +kernel
theorem dL_law_595 : decode cL_law 595 = .ok (.iconst 0, 1) := by decide +kernel
theorem dL_law_596 : decode cL_law 596 = .ok (.ireturn, 1) := by decide +kernel
theorem dL_law_597 : decode cL_law 597 = .ok (.aload_n 1, 1) := by decide +kernel
theorem dL_law_598 : decode cL_law 598 = .ok (.aload_n 0, 1) := by decide +kernel
theorem dL_law_599 : decode cL_law 599 = .ok (.iload_n 3, 1) := by decide +kernel
theorem dL_law_600 : decode cL_law 600 = .ok (.iconst 1, 1) := by decide +kernel
theorem dL_law_601 : decode cL_law 601 = .ok (.iadd, 1) := by decide +kernel
theorem dL_law_602 : decode cL_law 602 = .ok (.iaload, 1) := by decide +kernel
theorem dL_law_603 : decode cL_law 603 = .ok (.aload_n 0, 1) := by decide +kernel
theorem dL_law_604 : decode cL_law 604 = .ok (.iload_n 3, 1) := by decide +kernel
theorem dL_law_605 : decode cL_law 605 = .ok (.iconst 2, 1) := by decide +kernel
theorem dL_law_606 : decode cL_law 606 = .ok (.iadd, 1) := by decide +kernel
theorem dL_law_607 : decode cL_law 607 = .ok (.iaload, 1) := by decide +kernel
theorem dL_law_608 : decode cL_law 608 = .ok (.aload_n 0, 1) := by decide +kernel
theorem dL_law_609 : decode cL_law 609 = .ok (.iload_n 3, 1) := by decide +kernel
theorem dL_law_610 : decode cL_law 610 = .ok (.iconst 3, 1) := by decide +kernel
theorem dL_law_611 : decode cL_law 611 = .ok (.iadd, 1) := by decide +kernel
theorem dL_law_612 : decode cL_law 612 = .ok (.iaload, 1) := by decide +kernel
theorem dL_law_613 : decode cL_law 613 = .ok (.aload_n 0, 1) := by decide +kernel
theorem dL_law_614 : decode cL_law 614 = .ok (.iload_n 3, 1) := by decide +kernel
theorem dL_law_615 : decode cL_law 615 = .ok (.iconst 4, 1) := by decide +kernel
theorem dL_law_616 : decode cL_law 616 = .ok (.iadd, 1) := by decide +kernel
theorem dL_law_617 : decode cL_law 617 = .ok (.iaload, 1) := by decide +kernel
theorem dL_law_618 : decode cL_law 618 = .ok (.aload_n 0, 1) := by decide +kernel
theorem dL_law_619 : decode cL_law 619 = .ok (.iload_n 3, 1) := by decide +kernel
theorem dL_law_620 : decode cL_law 620 = .ok (.iconst 5, 1) := by decide +kernel
theorem dL_law_621 : decode cL_law 621 = .ok (.iadd, 1) := by decide +kernel
theorem dL_law_622 : decode cL_law 622 = .ok (.iaload, 1) := by decide +kernel
theorem dL_law_623 : decode cL_law 623 = .ok (.invokevirtual 79, 3) := by decide +kernel
theorem dL_law_626 : decode cL_law 626 = .ok (.aload_n 2, 1) := by decide +kernel
theorem dL_law_627 : decode cL_law 627 = .ok (.aload_n 0, 1) := by decide +kernel
theorem dL_law_628 : decode cL_law 628 = .ok (.iload_n 3, 1) := by decide +kernel
theorem dL_law_629 : decode cL_law 629 = .ok (.iconst 1, 1) := by decide +kernel
theorem dL_law_630 : decode cL_law 630 = .ok (.iadd, 1) := by decide +kernel
theorem dL_law_631 : decode cL_law 631 = .ok (.iaload, 1) := by decide +kernel
theorem dL_law_632 : decode cL_law 632 = .ok (.aload_n 0, 1) := by decide +kernel
theorem dL_law_633 : decode cL_law 633 = .ok (.iload_n 3, 1) := by decide +kernel
theorem dL_law_634 : decode cL_law 634 = .ok (.iconst 2, 1) := by decide +kernel
theorem dL_law_635 : decode cL_law 635 = .ok (.iadd, 1) := by decide +kernel
theorem dL_law_636 : decode cL_law 636 = .ok (.iaload, 1) := by decide +kernel
theorem dL_law_637 : decode cL_law 637 = .ok (.aload_n 0, 1) := by decide +kernel
theorem dL_law_638 : decode cL_law 638 = .ok (.iload_n 3, 1) := by decide +kernel
theorem dL_law_639 : decode cL_law 639 = .ok (.iconst 3, 1) := by decide +kernel
theorem dL_law_640 : decode cL_law 640 = .ok (.iadd, 1) := by decide +kernel
theorem dL_law_641 : decode cL_law 641 = .ok (.iaload, 1) := by decide +kernel
theorem dL_law_642 : decode cL_law 642 = .ok (.aload_n 0, 1) := by decide +kernel
theorem dL_law_643 : decode cL_law 643 = .ok (.iload_n 3, 1) := by decide +kernel
theorem dL_law_644 : decode cL_law 644 = .ok (.iconst 4, 1) := by decide +kernel
theorem dL_law_645 : decode cL_law 645 = .ok (.iadd, 1) := by decide +kernel
theorem dL_law_646 : decode cL_law 646 = .ok (.iaload, 1) := by decide +kernel
theorem dL_law_647 : decode cL_law 647 = .ok (.aload_n 0, 1) := by decide +kernel
theorem dL_law_648 : decode cL_law 648 = .ok (.iload_n 3, 1) := by decide +kernel
theorem dL_law_649 : decode cL_law 649 = .ok (.iconst 5, 1) := by decide +kernel
theorem dL_law_650 : decode cL_law 650 = .ok (.iadd, 1) := by decide +kernel
theorem dL_law_651 : decode cL_law 651 = .ok (.iaload, 1) := by decide +kernel
theorem dL_law_652 : decode cL_law 652 = .ok (.invokevirtual 82, 3) := by decide +kernel
theorem dL_law_655 : decode cL_law 655 = .ok (.if_icmp .eq 334, 3) := by decide +kernel
theorem dL_law_658 : decode cL_law 658 = .ok (.iconst 0, 1) := by decide +kernel
theorem dL_law_659 : decode cL_law 659 = .ok (.ireturn, 1) := by decide +kernel
theorem dL_law_660 : decode cL_law 660 = .ok (.aload_n 1, 1) := by decide +kernel
theorem dL_law_661 : decode cL_law 661 = .ok (.aload_n 0, 1) := by decide +kernel
theorem dL_law_662 : decode cL_law 662 = .ok (.iload_n 3, 1) := by decide +kernel
theorem dL_law_663 : decode cL_law 663 = .ok (.iconst 1, 1) := by decide +kernel
theorem dL_law_664 : decode cL_law 664 = .ok (.iadd, 1) := by decide +kernel
theorem dL_law_665 : decode cL_law 665 = .ok (.iaload, 1) := by decide +kernel
theorem dL_law_666 : decode cL_law 666 = .ok (.aload_n 0, 1) := by decide +kernel
theorem dL_law_667 : decode cL_law 667 = .ok (.iload_n 3, 1) := by decide +kernel
theorem dL_law_668 : decode cL_law 668 = .ok (.iconst 2, 1) := by decide +kernel
theorem dL_law_669 : decode cL_law 669 = .ok (.iadd, 1) := by decide +kernel
theorem dL_law_670 : decode cL_law 670 = .ok (.iaload, 1) := by decide +kernel
theorem dL_law_671 : decode cL_law 671 = .ok (.aload_n 0, 1) := by decide +kernel
theorem dL_law_672 : decode cL_law 672 = .ok (.iload_n 3, 1) := by decide +kernel
theorem dL_law_673 : decode cL_law 673 = .ok (.iconst 3, 1) := by decide +kernel
theorem dL_law_674 : decode cL_law 674 = .ok (.iadd, 1) := by decide +kernel
theorem dL_law_675 : decode cL_law 675 = .ok (.iaload, 1) := by decide +kernel
theorem dL_law_676 : decode cL_law 676 = .ok (.aload_n 0, 1) := by decide +kernel
theorem dL_law_677 : decode cL_law 677 = .ok (.iload_n 3, 1) := by decide +kernel
theorem dL_law_678 : decode cL_law 678 = .ok (.iconst 4, 1) := by decide +kernel
theorem dL_law_679 : decode cL_law 679 = .ok (.iadd, 1) := by decide +kernel
theorem dL_law_680 : decode cL_law 680 = .ok (.iaload, 1) := by decide +kernel
theorem dL_law_681 : decode cL_law 681 = .ok (.aload_n 0, 1) := by decide +kernel
theorem dL_law_682 : decode cL_law 682 = .ok (.iload_n 3, 1) := by decide +kernel
theorem dL_law_683 : decode cL_law 683 = .ok (.iconst 5, 1) := by decide +kernel
theorem dL_law_684 : decode cL_law 684 = .ok (.iadd, 1) := by decide +kernel
theorem dL_law_685 : decode cL_law 685 = .ok (.iaload, 1) := by decide +kernel
theorem dL_law_686 : decode cL_law 686 = .ok (.aload_n 0, 1) := by decide +kernel
theorem dL_law_687 : decode cL_law 687 = .ok (.iload_n 3, 1) := by decide +kernel
theorem dL_law_688 : decode cL_law 688 = .ok (.bipush 6, 2) := by decide +kernel
theorem dL_law_690 : decode cL_law 690 = .ok (.iadd, 1) := by decide +kernel
theorem dL_law_691 : decode cL_law 691 = .ok (.iaload, 1) := by decide +kernel
theorem dL_law_692 : decode cL_law 692 = .ok (.invokevirtual 83, 3) := by decide +kernel
theorem dL_law_695 : decode cL_law 695 = .ok (.aload_n 2, 1) := by decide +kernel
theorem dL_law_696 : decode cL_law 696 = .ok (.aload_n 0, 1) := by decide +kernel
theorem dL_law_697 : decode cL_law 697 = .ok (.iload_n 3, 1) := by decide +kernel
theorem dL_law_698 : decode cL_law 698 = .ok (.iconst 1, 1) := by decide +kernel
theorem dL_law_699 : decode cL_law 699 = .ok (.iadd, 1) := by decide +kernel
theorem dL_law_700 : decode cL_law 700 = .ok (.iaload, 1) := by decide +kernel
theorem dL_law_701 : decode cL_law 701 = .ok (.aload_n 0, 1) := by decide +kernel
theorem dL_law_702 : decode cL_law 702 = .ok (.iload_n 3, 1) := by decide +kernel
theorem dL_law_703 : decode cL_law 703 = .ok (.iconst 2, 1) := by decide +kernel
theorem dL_law_704 : decode cL_law 704 = .ok (.iadd, 1) := by decide +kernel
theorem dL_law_705 : decode cL_law 705 = .ok (.iaload, 1) := by decide +kernel
theorem dL_law_706 : decode cL_law 706 = .ok (.aload_n 0, 1) := by decide +kernel
theorem dL_law_707 : decode cL_law 707 = .ok (.iload_n 3, 1) := by decide +kernel
theorem dL_law_708 : decode cL_law 708 = .ok (.iconst 3, 1) := by decide +kernel
theorem dL_law_709 : decode cL_law 709 = .ok (.iadd, 1) := by decide +kernel
theorem dL_law_710 : decode cL_law 710 = .ok (.iaload, 1) := by decide +kernel
theorem dL_law_711 : decode cL_law 711 = .ok (.aload_n 0, 1) := by decide +kernel
theorem dL_law_712 : decode cL_law 712 = .ok (.iload_n 3, 1) := by decide +kernel
theorem dL_law_713 : decode cL_law 713 = .ok (.iconst 4, 1) := by decide +kernel
theorem dL_law_714 : decode cL_law 714 = .ok (.iadd, 1) := by decide +kernel
theorem dL_law_715 : decode cL_law 715 = .ok (.iaload, 1) := by decide +kernel
theorem dL_law_716 : decode cL_law 716 = .ok (.aload_n 0, 1) := by decide +kernel
theorem dL_law_717 : decode cL_law 717 = .ok (.iload_n 3, 1) := by decide +kernel
theorem dL_law_718 : decode cL_law 718 = .ok (.iconst 5, 1) := by decide +kernel
theorem dL_law_719 : decode cL_law 719 = .ok (.iadd, 1) := by decide +kernel
theorem dL_law_720 : decode cL_law 720 = .ok (.iaload, 1) := by decide +kernel
theorem dL_law_721 : decode cL_law 721 = .ok (.aload_n 0, 1) := by decide +kernel
theorem dL_law_722 : decode cL_law 722 = .ok (.iload_n 3, 1) := by decide +kernel
theorem dL_law_723 : decode cL_law 723 = .ok (.bipush 6, 2) := by decide +kernel
theorem dL_law_725 : decode cL_law 725 = .ok (.iadd, 1) := by decide +kernel
theorem dL_law_726 : decode cL_law 726 = .ok (.iaload, 1) := by decide +kernel
theorem dL_law_727 : decode cL_law 727 = .ok (.invokevirtual 87, 3) := by decide +kernel
theorem dL_law_730 : decode cL_law 730 = .ok (.lcmp, 1) := by decide +kernel
theorem dL_law_731 : decode cL_law 731 = .ok (.ifCond .eq 258, 3) := by decide +kernel
theorem dL_law_734 : decode cL_law 734 = .ok (.iconst 0, 1) := by decide +kernel
theorem dL_law_735 : decode cL_law 735 = .ok (.ireturn, 1) := by decide +kernel
theorem dL_law_736 : decode cL_law 736 = .ok (.aload_n 1, 1) := by decide +kernel
theorem dL_law_737 : decode cL_law 737 = .ok (.aload_n 0, 1) := by decide +kernel
theorem dL_law_738 : decode cL_law 738 = .ok (.iload_n 3, 1) := by decide +kernel
theorem dL_law_739 : decode cL_law 739 = .ok (.iconst 1, 1) := by decide +kernel
theorem dL_law_740 : decode cL_law 740 = .ok (.iadd, 1) := by decide +kernel
theorem dL_law_741 : decode cL_law 741 = .ok (.iaload, 1) := by decide +kernel
theorem dL_law_742 : decode cL_law 742 = .ok (.aload_n 0, 1) := by decide +kernel
theorem dL_law_743 : decode cL_law 743 = .ok (.iload_n 3, 1) := by decide +kernel
theorem dL_law_744 : decode cL_law 744 = .ok (.iconst 2, 1) := by decide +kernel
theorem dL_law_745 : decode cL_law 745 = .ok (.iadd, 1) := by decide +kernel
theorem dL_law_746 : decode cL_law 746 = .ok (.iaload, 1) := by decide +kernel
theorem dL_law_747 : decode cL_law 747 = .ok (.ifCond .eq 7, 3) := by decide +kernel
theorem dL_law_750 : decode cL_law 750 = .ok (.iconst 1, 1) := by decide +kernel
theorem dL_law_751 : decode cL_law 751 = .ok (.goto 4, 3) := by decide +kernel
theorem dL_law_754 : decode cL_law 754 = .ok (.iconst 0, 1) := by decide +kernel
theorem dL_law_755 : decode cL_law 755 = .ok (.invokevirtual 88, 3) := by decide +kernel
theorem dL_law_758 : decode cL_law 758 = .ok (.aload_n 2, 1) := by decide +kernel
theorem dL_law_759 : decode cL_law 759 = .ok (.aload_n 0, 1) := by decide +kernel
theorem dL_law_760 : decode cL_law 760 = .ok (.iload_n 3, 1) := by decide +kernel
theorem dL_law_761 : decode cL_law 761 = .ok (.iconst 1, 1) := by decide +kernel
theorem dL_law_762 : decode cL_law 762 = .ok (.iadd, 1) := by decide +kernel
theorem dL_law_763 : decode cL_law 763 = .ok (.iaload, 1) := by decide +kernel
theorem dL_law_764 : decode cL_law 764 = .ok (.aload_n 0, 1) := by decide +kernel
theorem dL_law_765 : decode cL_law 765 = .ok (.iload_n 3, 1) := by decide +kernel
theorem dL_law_766 : decode cL_law 766 = .ok (.iconst 2, 1) := by decide +kernel
theorem dL_law_767 : decode cL_law 767 = .ok (.iadd, 1) := by decide +kernel
theorem dL_law_768 : decode cL_law 768 = .ok (.iaload, 1) := by decide +kernel
theorem dL_law_769 : decode cL_law 769 = .ok (.ifCond .eq 7, 3) := by decide +kernel
theorem dL_law_772 : decode cL_law 772 = .ok (.iconst 1, 1) := by decide +kernel
theorem dL_law_773 : decode cL_law 773 = .ok (.goto 4, 3) := by decide +kernel
theorem dL_law_776 : decode cL_law 776 = .ok (.iconst 0, 1) := by decide +kernel
theorem dL_law_777 : decode cL_law 777 = .ok (.invokevirtual 92, 3) := by decide +kernel
theorem dL_law_780 : decode cL_law 780 = .ok (.if_icmp .eq 209, 3) := by decide +kernel
theorem dL_law_783 : decode cL_law 783 = .ok (.iconst 0, 1) := by decide +kernel
theorem dL_law_784 : decode cL_law 784 = .ok (.ireturn, 1) := by decide +kernel
theorem dL_law_785 : decode cL_law 785 = .ok (.aload_n 1, 1) := by decide +kernel
theorem dL_law_786 : decode cL_law 786 = .ok (.invokevirtual 93, 3) := by decide +kernel
theorem dL_law_789 : decode cL_law 789 = .ok (.aload_n 2, 1) := by decide +kernel
theorem dL_law_790 : decode cL_law 790 = .ok (.invokevirtual 96, 3) := by decide +kernel
theorem dL_law_793 : decode cL_law 793 = .ok (.if_icmp .eq 196, 3) := by decide +kernel
theorem dL_law_796 : decode cL_law 796 = .ok (.iconst 0, 1) := by decide +kernel
theorem dL_law_797 : decode cL_law 797 = .ok (.ireturn, 1) := by decide +kernel
theorem dL_law_798 : decode cL_law 798 = .ok (.aload_n 1, 1) := by decide +kernel
theorem dL_law_799 : decode cL_law 799 = .ok (.invokevirtual 97, 3) := by decide +kernel
theorem dL_law_802 : decode cL_law 802 = .ok (.aload_n 2, 1) := by decide +kernel
theorem dL_law_803 : decode cL_law 803 = .ok (.invokevirtual 100, 3) := by decide +kernel
theorem dL_law_806 : decode cL_law 806 = .ok (.if_icmp .eq 183, 3) := by decide +kernel
theorem dL_law_809 : decode cL_law 809 = .ok (.iconst 0, 1) := by decide +kernel
theorem dL_law_810 : decode cL_law 810 = .ok (.ireturn, 1) := by decide +kernel
theorem dL_law_811 : decode cL_law 811 = .ok (.aload_n 1, 1) := by decide +kernel
theorem dL_law_812 : decode cL_law 812 = .ok (.aload_n 0, 1) := by decide +kernel
theorem dL_law_813 : decode cL_law 813 = .ok (.iload_n 3, 1) := by decide +kernel
theorem dL_law_814 : decode cL_law 814 = .ok (.iconst 1, 1) := by decide +kernel
theorem dL_law_815 : decode cL_law 815 = .ok (.iadd, 1) := by decide +kernel
theorem dL_law_816 : decode cL_law 816 = .ok (.iaload, 1) := by decide +kernel
theorem dL_law_817 : decode cL_law 817 = .ok (.invokevirtual 101, 3) := by decide +kernel
theorem dL_law_820 : decode cL_law 820 = .ok (.aload_n 2, 1) := by decide +kernel
theorem dL_law_821 : decode cL_law 821 = .ok (.aload_n 0, 1) := by decide +kernel
theorem dL_law_822 : decode cL_law 822 = .ok (.iload_n 3, 1) := by decide +kernel
theorem dL_law_823 : decode cL_law 823 = .ok (.iconst 1, 1) := by decide +kernel
theorem dL_law_824 : decode cL_law 824 = .ok (.iadd, 1) := by decide +kernel
theorem dL_law_825 : decode cL_law 825 = .ok (.iaload, 1) := by decide +kernel
theorem dL_law_826 : decode cL_law 826 = .ok (.invokevirtual 104, 3) := by decide +kernel
theorem dL_law_829 : decode cL_law 829 = .ok (.if_icmp .eq 160, 3) := by decide +kernel
theorem dL_law_832 : decode cL_law 832 = .ok (.iconst 0, 1) := by decide +kernel
theorem dL_law_833 : decode cL_law 833 = .ok (.ireturn, 1) := by decide +kernel
theorem dL_law_834 : decode cL_law 834 = .ok (.aload_n 1, 1) := by decide +kernel
theorem dL_law_835 : decode cL_law 835 = .ok (.aload_n 0, 1) := by decide +kernel
theorem dL_law_836 : decode cL_law 836 = .ok (.iload_n 3, 1) := by decide +kernel
theorem dL_law_837 : decode cL_law 837 = .ok (.iconst 1, 1) := by decide +kernel
theorem dL_law_838 : decode cL_law 838 = .ok (.iadd, 1) := by decide +kernel
theorem dL_law_839 : decode cL_law 839 = .ok (.iaload, 1) := by decide +kernel
theorem dL_law_840 : decode cL_law 840 = .ok (.aload_n 0, 1) := by decide +kernel
theorem dL_law_841 : decode cL_law 841 = .ok (.iload_n 3, 1) := by decide +kernel
theorem dL_law_842 : decode cL_law 842 = .ok (.iconst 2, 1) := by decide +kernel
theorem dL_law_843 : decode cL_law 843 = .ok (.iadd, 1) := by decide +kernel
theorem dL_law_844 : decode cL_law 844 = .ok (.iaload, 1) := by decide +kernel
theorem dL_law_845 : decode cL_law 845 = .ok (.aload_n 0, 1) := by decide +kernel
theorem dL_law_846 : decode cL_law 846 = .ok (.iload_n 3, 1) := by decide +kernel
theorem dL_law_847 : decode cL_law 847 = .ok (.iconst 3, 1) := by decide +kernel
theorem dL_law_848 : decode cL_law 848 = .ok (.iadd, 1) := by decide +kernel
theorem dL_law_849 : decode cL_law 849 = .ok (.iaload, 1) := by decide +kernel
theorem dL_law_850 : decode cL_law 850 = .ok (.invokevirtual 105, 3) := by decide +kernel
theorem dL_law_853 : decode cL_law 853 = .ok (.aload_n 2, 1) := by decide +kernel
theorem dL_law_854 : decode cL_law 854 = .ok (.aload_n 0, 1) := by decide +kernel
theorem dL_law_855 : decode cL_law 855 = .ok (.iload_n 3, 1) := by decide +kernel
theorem dL_law_856 : decode cL_law 856 = .ok (.iconst 1, 1) := by decide +kernel
theorem dL_law_857 : decode cL_law 857 = .ok (.iadd, 1) := by decide +kernel
theorem dL_law_858 : decode cL_law 858 = .ok (.iaload, 1) := by decide +kernel
theorem dL_law_859 : decode cL_law 859 = .ok (.aload_n 0, 1) := by decide +kernel
theorem dL_law_860 : decode cL_law 860 = .ok (.iload_n 3, 1) := by decide +kernel
theorem dL_law_861 : decode cL_law 861 = .ok (.iconst 2, 1) := by decide +kernel
theorem dL_law_862 : decode cL_law 862 = .ok (.iadd, 1) := by decide +kernel
theorem dL_law_863 : decode cL_law 863 = .ok (.iaload, 1) := by decide +kernel
theorem dL_law_864 : decode cL_law 864 = .ok (.aload_n 0, 1) := by decide +kernel
theorem dL_law_865 : decode cL_law 865 = .ok (.iload_n 3, 1) := by decide +kernel
theorem dL_law_866 : decode cL_law 866 = .ok (.iconst 3, 1) := by decide +kernel
theorem dL_law_867 : decode cL_law 867 = .ok (.iadd, 1) := by decide +kernel
theorem dL_law_868 : decode cL_law 868 = .ok (.iaload, 1) := by decide +kernel
theorem dL_law_869 : decode cL_law 869 = .ok (.invokevirtual 108, 3) := by decide +kernel
theorem dL_law_872 : decode cL_law 872 = .ok (.if_icmp .eq 117, 3) := by decide +kernel
theorem dL_law_875 : decode cL_law 875 = .ok (.iconst 0, 1) := by decide +kernel
theorem dL_law_876 : decode cL_law 876 = .ok (.ireturn, 1) := by decide +kernel
theorem dL_law_877 : decode cL_law 877 = .ok (.aload_n 1, 1) := by decide +kernel
theorem dL_law_878 : decode cL_law 878 = .ok (.aload_n 0, 1) := by decide +kernel
theorem dL_law_879 : decode cL_law 879 = .ok (.iload_n 3, 1) := by decide +kernel
theorem dL_law_880 : decode cL_law 880 = .ok (.iconst 1, 1) := by decide +kernel
theorem dL_law_881 : decode cL_law 881 = .ok (.iadd, 1) := by decide +kernel
theorem dL_law_882 : decode cL_law 882 = .ok (.iaload, 1) := by decide +kernel
theorem dL_law_883 : decode cL_law 883 = .ok (.aload_n 0, 1) := by decide +kernel
theorem dL_law_884 : decode cL_law 884 = .ok (.iload_n 3, 1) := by decide +kernel
theorem dL_law_885 : decode cL_law 885 = .ok (.iconst 2, 1) := by decide +kernel
theorem dL_law_886 : decode cL_law 886 = .ok (.iadd, 1) := by decide +kernel
theorem dL_law_887 : decode cL_law 887 = .ok (.iaload, 1) := by decide +kernel
theorem dL_law_888 : decode cL_law 888 = .ok (.aload_n 0, 1) := by decide +kernel
theorem dL_law_889 : decode cL_law 889 = .ok (.iload_n 3, 1) := by decide +kernel
theorem dL_law_890 : decode cL_law 890 = .ok (.iconst 3, 1) := by decide +kernel
theorem dL_law_891 : decode cL_law 891 = .ok (.iadd, 1) := by decide +kernel
theorem dL_law_892 : decode cL_law 892 = .ok (.iaload, 1) := by decide +kernel
theorem dL_law_893 : decode cL_law 893 = .ok (.invokevirtual 109, 3) := by decide +kernel
theorem dL_law_896 : decode cL_law 896 = .ok (.aload_n 2, 1) := by decide +kernel
theorem dL_law_897 : decode cL_law 897 = .ok (.aload_n 0, 1) := by decide +kernel
theorem dL_law_898 : decode cL_law 898 = .ok (.iload_n 3, 1) := by decide +kernel
theorem dL_law_899 : decode cL_law 899 = .ok (.iconst 1, 1) := by decide +kernel
theorem dL_law_900 : decode cL_law 900 = .ok (.iadd, 1) := by decide +kernel
theorem dL_law_901 : decode cL_law 901 = .ok (.iaload, 1) := by decide +kernel
theorem dL_law_902 : decode cL_law 902 = .ok (.aload_n 0, 1) := by decide +kernel
theorem dL_law_903 : decode cL_law 903 = .ok (.iload_n 3, 1) := by decide +kernel
theorem dL_law_904 : decode cL_law 904 = .ok (.iconst 2, 1) := by decide +kernel
theorem dL_law_905 : decode cL_law 905 = .ok (.iadd, 1) := by decide +kernel
theorem dL_law_906 : decode cL_law 906 = .ok (.iaload, 1) := by decide +kernel
theorem dL_law_907 : decode cL_law 907 = .ok (.aload_n 0, 1) := by decide +kernel
theorem dL_law_908 : decode cL_law 908 = .ok (.iload_n 3, 1) := by decide +kernel
theorem dL_law_909 : decode cL_law 909 = .ok (.iconst 3, 1) := by decide +kernel
theorem dL_law_910 : decode cL_law 910 = .ok (.iadd, 1) := by decide +kernel
theorem dL_law_911 : decode cL_law 911 = .ok (.iaload, 1) := by decide +kernel
theorem dL_law_912 : decode cL_law 912 = .ok (.invokevirtual 112, 3) := by decide +kernel
theorem dL_law_915 : decode cL_law 915 = .ok (.if_icmp .eq 74, 3) := by decide +kernel
theorem dL_law_918 : decode cL_law 918 = .ok (.iconst 0, 1) := by decide +kernel
theorem dL_law_919 : decode cL_law 919 = .ok (.ireturn, 1) := by decide +kernel
theorem dL_law_920 : decode cL_law 920 = .ok (.aload_n 1, 1) := by decide +kernel
theorem dL_law_921 : decode cL_law 921 = .ok (.aload_n 0, 1) := by decide +kernel
theorem dL_law_922 : decode cL_law 922 = .ok (.iload_n 3, 1) := by decide +kernel
theorem dL_law_923 : decode cL_law 923 = .ok (.iconst 1, 1) := by decide +kernel
theorem dL_law_924 : decode cL_law 924 = .ok (.iadd, 1) := by decide +kernel
theorem dL_law_925 : decode cL_law 925 = .ok (.iaload, 1) := by decide +kernel
theorem dL_law_926 : decode cL_law 926 = .ok (.invokevirtual 113, 3) := by decide +kernel
theorem dL_law_929 : decode cL_law 929 = .ok (.aload_n 2, 1) := by decide +kernel
theorem dL_law_930 : decode cL_law 930 = .ok (.aload_n 0, 1) := by decide +kernel
theorem dL_law_931 : decode cL_law 931 = .ok (.iload_n 3, 1) := by decide +kernel
theorem dL_law_932 : decode cL_law 932 = .ok (.iconst 1, 1) := by decide +kernel
theorem dL_law_933 : decode cL_law 933 = .ok (.iadd, 1) := by decide +kernel
theorem dL_law_934 : decode cL_law 934 = .ok (.iaload, 1) := by decide +kernel
theorem dL_law_935 : decode cL_law 935 = .ok (.invokevirtual 116, 3) := by decide +kernel
theorem dL_law_938 : decode cL_law 938 = .ok (.if_icmp .eq 51, 3) := by decide +kernel
theorem dL_law_941 : decode cL_law 941 = .ok (.iconst 0, 1) := by decide +kernel
theorem dL_law_942 : decode cL_law 942 = .ok (.ireturn, 1) := by decide +kernel
theorem dL_law_943 : decode cL_law 943 = .ok (.aload_n 1, 1) := by decide +kernel
theorem dL_law_944 : decode cL_law 944 = .ok (.aload_n 0, 1) := by decide +kernel
theorem dL_law_945 : decode cL_law 945 = .ok (.iload_n 3, 1) := by decide +kernel
theorem dL_law_946 : decode cL_law 946 = .ok (.iconst 1, 1) := by decide +kernel
theorem dL_law_947 : decode cL_law 947 = .ok (.iadd, 1) := by decide +kernel
theorem dL_law_948 : decode cL_law 948 = .ok (.iaload, 1) := by decide +kernel
theorem dL_law_949 : decode cL_law 949 = .ok (.invokevirtual 117, 3) := by decide +kernel
theorem dL_law_952 : decode cL_law 952 = .ok (.aload_n 2, 1) := by decide +kernel
theorem dL_law_953 : decode cL_law 953 = .ok (.aload_n 0, 1) := by decide +kernel
theorem dL_law_954 : decode cL_law 954 = .ok (.iload_n 3, 1) := by decide +kernel
theorem dL_law_955 : decode cL_law 955 = .ok (.iconst 1, 1) := by decide +kernel
theorem dL_law_956 : decode cL_law 956 = .ok (.iadd, 1) := by decide +kernel
theorem dL_law_957 : decode cL_law 957 = .ok (.iaload, 1) := by decide +kernel
theorem dL_law_958 : decode cL_law 958 = .ok (.invokevirtual 120, 3) := by decide +kernel
theorem dL_law_961 : decode cL_law 961 = .ok (.if_icmp .eq 28, 3) := by decide +kernel
theorem dL_law_964 : decode cL_law 964 = .ok (.iconst 0, 1) := by decide +kernel
theorem dL_law_965 : decode cL_law 965 = .ok (.ireturn, 1) := by decide +kernel
theorem dL_law_966 : decode cL_law 966 = .ok (.aload_n 1, 1) := by decide +kernel
theorem dL_law_967 : decode cL_law 967 = .ok (.aload_n 0, 1) := by decide +kernel
theorem dL_law_968 : decode cL_law 968 = .ok (.iload_n 3, 1) := by decide +kernel
theorem dL_law_969 : decode cL_law 969 = .ok (.iconst 1, 1) := by decide +kernel
theorem dL_law_970 : decode cL_law 970 = .ok (.iadd, 1) := by decide +kernel
theorem dL_law_971 : decode cL_law 971 = .ok (.iaload, 1) := by decide +kernel
theorem dL_law_972 : decode cL_law 972 = .ok (.invokevirtual 121, 3) := by decide +kernel
theorem dL_law_975 : decode cL_law 975 = .ok (.aload_n 2, 1) := by decide +kernel
theorem dL_law_976 : decode cL_law 976 = .ok (.aload_n 0, 1) := by decide +kernel
theorem dL_law_977 : decode cL_law 977 = .ok (.iload_n 3, 1) := by decide +kernel
theorem dL_law_978 : decode cL_law 978 = .ok (.iconst 1, 1) := by decide +kernel
theorem dL_law_979 : decode cL_law 979 = .ok (.iadd, 1) := by decide +kernel
theorem dL_law_980 : decode cL_law 980 = .ok (.iaload, 1) := by decide +kernel
theorem dL_law_981 : decode cL_law 981 = .ok (.invokevirtual 124, 3) := by decide +kernel
theorem dL_law_984 : decode cL_law 984 = .ok (.if_icmp .eq 5, 3) := by decide +kernel
theorem dL_law_987 : decode cL_law 987 = .ok (.iconst 0, 1) := by decide +kernel
theorem dL_law_988 : decode cL_law 988 = .ok (.ireturn, 1) := by decide +kernel
theorem dL_law_989 : decode cL_law 989 = .ok (.iinc 3 7, 3) := by decide +kernel
theorem dL_law_992 : decode cL_law 992 = .ok (.goto (-974), 3) := by decide +kernel
theorem dL_law_995 : decode cL_law 995 = .ok (.iconst 1, 1) := by decide +kernel
theorem dL_law_996 : decode cL_law 996 = .ok (.ireturn, 1) := by decide +kernel
