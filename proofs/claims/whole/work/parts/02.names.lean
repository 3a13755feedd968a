def RX0 : String := "SlipperFits$Contest"
def TX0 : u_T := fun k => match k with
  | 0 => ("SlipperFits$Contest", "measure", "LSlipperFits$Measure;", true)
  | 1 => ("SlipperFits$Contest", "chosen", "[I", true)
  | _ => ("SlipperFits$Contest", "fitHours", "[I", true)
def tyX0 : Nat → FieldType := fun k => match k with
  | 0 => .object "SlipperFits$Measure"
  | 1 => .array .int
  | _ => .array .int
theorem nmX0 : ∀ a, a < 3 → ∀ b, b < 3 → a ≠ b → (TX0 a).2.1 ≠ (TX0 b).2.1 := by decide +kernel
theorem tyX0_ok : ∀ k, k < 3 → parseFieldDescriptor (TX0 k).2.2.1 = some (tyX0 k) := by decide +kernel
abbrev cX0_init : ByteArray := prog_2_method_1_code
def yX0_init : MethodName := ⟨RX0, "<init>", "(LSlipperFits$Measure;)V"⟩
abbrev cX0_play : ByteArray := prog_2_method_2_code
def yX0_play : MethodName := ⟨RX0, "play", "()I"⟩
abbrev cX0_playRound : ByteArray := prog_2_method_3_code
def yX0_playRound : MethodName := ⟨RX0, "playRound", "()Z"⟩
abbrev cX0_takeWinningHour : ByteArray := prog_2_method_4_code
def yX0_takeWinningHour : MethodName := ⟨RX0, "takeWinningHour", "(I)Z"⟩
abbrev cX0_winner : ByteArray := prog_2_method_5_code
def yX0_winner : MethodName := ⟨RX0, "winner", "()I"⟩
def RX1 : String := "SlipperFits$Hunt"
def TX1 : u_T := fun k => match k with
  | 0 => ("SlipperFits$Hunt", "tale", "LSlipperFits$Tale;", true)
  | 1 => ("SlipperFits$Hunt", "metTheyToGo", "[I", true)
  | _ => ("SlipperFits$Hunt", "metSheToGo", "[I", true)
def tyX1 : Nat → FieldType := fun k => match k with
  | 0 => .object "SlipperFits$Tale"
  | 1 => .array .int
  | _ => .array .int
theorem nmX1 : ∀ a, a < 3 → ∀ b, b < 3 → a ≠ b → (TX1 a).2.1 ≠ (TX1 b).2.1 := by decide +kernel
theorem tyX1_ok : ∀ k, k < 3 → parseFieldDescriptor (TX1 k).2.2.1 = some (tyX1 k) := by decide +kernel
abbrev cX1_init : ByteArray := prog_3_method_1_code
def yX1_init : MethodName := ⟨RX1, "<init>", "(LSlipperFits$Tale;)V"⟩
abbrev cX1_fewestTurns : ByteArray := prog_3_method_2_code
def yX1_fewestTurns : MethodName := ⟨RX1, "fewestTurns", "(Z)I"⟩
abbrev cX1_begin : ByteArray := prog_3_method_3_code
def yX1_begin : MethodName := ⟨RX1, "begin", "()V"⟩
abbrev cX1_meetsAnywhere : ByteArray := prog_3_method_4_code
def yX1_meetsAnywhere : MethodName := ⟨RX1, "meetsAnywhere", "(Z)Z"⟩
abbrev cX1_lookHerTurn : ByteArray := prog_3_method_5_code
def yX1_lookHerTurn : MethodName := ⟨RX1, "lookHerTurn", "()V"⟩
abbrev cX1_hersWithoutEscape : ByteArray := prog_3_method_6_code
def yX1_hersWithoutEscape : MethodName := ⟨RX1, "hersWithoutEscape", "(I)I"⟩
abbrev cX1_lookTheirTurn : ByteArray := prog_3_method_7_code
def yX1_lookTheirTurn : MethodName := ⟨RX1, "lookTheirTurn", "(Z)Z"⟩
abbrev cX1_metByGoing : ByteArray := prog_3_method_8_code
def yX1_metByGoing : MethodName := ⟨RX1, "metByGoing", "(IIZ)I"⟩
abbrev cX1_metByGoingTo : ByteArray := prog_3_method_9_code
def yX1_metByGoingTo : MethodName := ⟨RX1, "metByGoingTo", "(II)I"⟩
def RX2 : String := "SlipperFits$Measure"
def TX2 : u_T := fun k => match k with
  | 0 => ("SlipperFits$Measure", "tale", "LSlipperFits$Tale;", true)
  | _ => ("SlipperFits$Measure", "night", "LSlipperFits$Night;", true)
def tyX2 : Nat → FieldType := fun k => match k with
  | 0 => .object "SlipperFits$Tale"
  | _ => .object "SlipperFits$Night"
theorem nmX2 : ∀ a, a < 2 → ∀ b, b < 2 → a ≠ b → (TX2 a).2.1 ≠ (TX2 b).2.1 := by decide +kernel
theorem tyX2_ok : ∀ k, k < 2 → parseFieldDescriptor (TX2 k).2.2.1 = some (tyX2 k) := by decide +kernel
abbrev cX2_init : ByteArray := prog_4_method_1_code
def yX2_init : MethodName := ⟨RX2, "<init>", "(LSlipperFits$Tale;LSlipperFits$Night;)V"⟩
abbrev cX2_unswollenFoot : ByteArray := prog_4_method_2_code
def yX2_unswollenFoot : MethodName := ⟨RX2, "unswollenFoot", "(I)I"⟩
abbrev cX2_bareFoot : ByteArray := prog_4_method_3_code
def yX2_bareFoot : MethodName := ⟨RX2, "bareFoot", "(II)I"⟩
abbrev cX2_paddingOf : ByteArray := prog_4_method_4_code
def yX2_paddingOf : MethodName := ⟨RX2, "paddingOf", "(I)I"⟩
abbrev cX2_dryFoot : ByteArray := prog_4_method_5_code
def yX2_dryFoot : MethodName := ⟨RX2, "dryFoot", "(II)I"⟩
abbrev cX2_footThen : ByteArray := prog_4_method_6_code
def yX2_footThen : MethodName := ⟨RX2, "footThen", "(II)I"⟩
abbrev cX2_isWet : ByteArray := prog_4_method_7_code
def yX2_isWet : MethodName := ⟨RX2, "isWet", "(II)Z"⟩
abbrev cX2_wetHoursLeft : ByteArray := prog_4_method_8_code
def yX2_wetHoursLeft : MethodName := ⟨RX2, "wetHoursLeft", "(I)I"⟩
abbrev cX2_glassNow : ByteArray := prog_4_method_9_code
def yX2_glassNow : MethodName := ⟨RX2, "glassNow", "()I"⟩
abbrev cX2_fitsThen : ByteArray := prog_4_method_10_code
def yX2_fitsThen : MethodName := ⟨RX2, "fitsThen", "(II)Z"⟩
abbrev cX2_dryFitHours : ByteArray := prog_4_method_11_code
def yX2_dryFitHours : MethodName := ⟨RX2, "dryFitHours", "(I)I"⟩
abbrev cX2_fitsBare : ByteArray := prog_4_method_12_code
def yX2_fitsBare : MethodName := ⟨RX2, "fitsBare", "(II)Z"⟩
abbrev cX2_leastPadding : ByteArray := prog_4_method_13_code
def yX2_leastPadding : MethodName := ⟨RX2, "leastPadding", "(III)I"⟩
abbrev cX2_fewestTries : ByteArray := prog_4_method_14_code
def yX2_fewestTries : MethodName := ⟨RX2, "fewestTries", "(II)I"⟩
abbrev cX2_eighthsThatFit : ByteArray := prog_4_method_15_code
def yX2_eighthsThatFit : MethodName := ⟨RX2, "eighthsThatFit", "(II)I"⟩
def RX3 : String := "SlipperFits$Night"
def TX3 : u_T := fun k => match k with
  | 0 => ("SlipperFits$Night", "home", "[I", true)
  | 1 => ("SlipperFits$Night", "padding", "[I", true)
  | 2 => ("SlipperFits$Night", "soakedAt", "[I", true)
  | 3 => ("SlipperFits$Night", "hour", "I", false)
  | 4 => ("SlipperFits$Night", "herald", "I", false)
  | 5 => ("SlipperFits$Night", "married", "I", false)
  | 6 => ("SlipperFits$Night", "found", "Z", false)
  | 7 => ("SlipperFits$Night", "tries", "I", false)
  | _ => ("SlipperFits$Night", "drawnLast", "I", false)
def tyX3 : Nat → FieldType := fun k => match k with
  | 0 => .array .int
  | 1 => .array .int
  | 2 => .array .int
  | 3 => .int
  | 4 => .int
  | 5 => .int
  | 6 => .boolean
  | 7 => .int
  | _ => .int
theorem nmX3 : ∀ a, a < 9 → ∀ b, b < 9 → a ≠ b → (TX3 a).2.1 ≠ (TX3 b).2.1 := by decide +kernel
theorem tyX3_ok : ∀ k, k < 9 → parseFieldDescriptor (TX3 k).2.2.1 = some (tyX3 k) := by decide +kernel
abbrev cX3_init : ByteArray := prog_5_method_1_code
def yX3_init : MethodName := ⟨RX3, "<init>", "()V"⟩
abbrev cX3_beginWith : ByteArray := prog_5_method_2_code
def yX3_beginWith : MethodName := ⟨RX3, "beginWith", "(LSlipperFits$Tale;)V"⟩
abbrev cX3_copyFrom : ByteArray := prog_5_method_3_code
def yX3_copyFrom : MethodName := ⟨RX3, "copyFrom", "(LSlipperFits$Night;)V"⟩
abbrev cX3_draw : ByteArray := prog_5_method_4_code
def yX3_draw : MethodName := ⟨RX3, "draw", "(I)I"⟩
def RX4 : String := "SlipperFits$Notes"
def TX4 : u_T := fun k => match k with
  | 0 => ("SlipperFits$Notes", "seenHour", "[I", true)
  | 1 => ("SlipperFits$Notes", "seenFitted", "[Z", true)
  | 2 => ("SlipperFits$Notes", "seenCount", "I", false)
  | 3 => ("SlipperFits$Notes", "steps", "[I", true)
  | 4 => ("SlipperFits$Notes", "stepCount", "I", false)
  | 5 => ("SlipperFits$Notes", "lineHour", "[I", true)
  | 6 => ("SlipperFits$Notes", "lineGirl", "[I", true)
  | 7 => ("SlipperFits$Notes", "lineFitted", "[Z", true)
  | _ => ("SlipperFits$Notes", "lineCount", "I", false)
def tyX4 : Nat → FieldType := fun k => match k with
  | 0 => .array .int
  | 1 => .array .boolean
  | 2 => .int
  | 3 => .array .int
  | 4 => .int
  | 5 => .array .int
  | 6 => .array .int
  | 7 => .array .boolean
  | _ => .int
theorem nmX4 : ∀ a, a < 9 → ∀ b, b < 9 → a ≠ b → (TX4 a).2.1 ≠ (TX4 b).2.1 := by decide +kernel
theorem tyX4_ok : ∀ k, k < 9 → parseFieldDescriptor (TX4 k).2.2.1 = some (tyX4 k) := by decide +kernel
abbrev cX4_init : ByteArray := prog_6_method_1_code
def yX4_init : MethodName := ⟨RX4, "<init>", "()V"⟩
abbrev cX4_forgetAll : ByteArray := prog_6_method_2_code
def yX4_forgetAll : MethodName := ⟨RX4, "forgetAll", "()V"⟩
def RX5 : String := "SlipperFits$Reader"
def TX5 : u_T := fun k => match k with
  | 0 => ("SlipperFits$Reader", "text", "[I", true)
  | 1 => ("SlipperFits$Reader", "length", "I", false)
  | 2 => ("SlipperFits$Reader", "faultNumber", "I", false)
  | 3 => ("SlipperFits$Reader", "faultByte", "I", false)
  | 4 => ("SlipperFits$Reader", "at", "I", false)
  | 5 => ("SlipperFits$Reader", "tokenByte", "I", false)
  | 6 => ("SlipperFits$Reader", "onceTold", "I", false)
  | _ => ("SlipperFits$Reader", "gaitsTold", "I", false)
def tyX5 : Nat → FieldType := fun k => match k with
  | 0 => .array .int
  | 1 => .int
  | 2 => .int
  | 3 => .int
  | 4 => .int
  | 5 => .int
  | 6 => .int
  | _ => .int
theorem nmX5 : ∀ a, a < 8 → ∀ b, b < 8 → a ≠ b → (TX5 a).2.1 ≠ (TX5 b).2.1 := by decide +kernel
theorem tyX5_ok : ∀ k, k < 8 → parseFieldDescriptor (TX5 k).2.2.1 = some (tyX5 k) := by decide +kernel
abbrev cX5_init : ByteArray := prog_7_method_1_code
def yX5_init : MethodName := ⟨RX5, "<init>", "()V"⟩
abbrev cX5_readInto : ByteArray := prog_7_method_2_code
def yX5_readInto : MethodName := ⟨RX5, "readInto", "(LSlipperFits$Tale;)Z"⟩
abbrev cX5_readClause : ByteArray := prog_7_method_3_code
def yX5_readClause : MethodName := ⟨RX5, "readClause", "(LSlipperFits$Tale;)V"⟩
abbrev cX5_readShoe : ByteArray := prog_7_method_4_code
def yX5_readShoe : MethodName := ⟨RX5, "readShoe", "(LSlipperFits$Tale;)V"⟩
abbrev cX5_readNoon : ByteArray := prog_7_method_5_code
def yX5_readNoon : MethodName := ⟨RX5, "readNoon", "(LSlipperFits$Tale;)V"⟩
abbrev cX5_readHouse : ByteArray := prog_7_method_6_code
def yX5_readHouse : MethodName := ⟨RX5, "readHouse", "(LSlipperFits$Tale;)V"⟩
abbrev cX5_readWay : ByteArray := prog_7_method_7_code
def yX5_readWay : MethodName := ⟨RX5, "readWay", "(LSlipperFits$Tale;)V"⟩
abbrev cX5_readGirl : ByteArray := prog_7_method_8_code
def yX5_readGirl : MethodName := ⟨RX5, "readGirl", "(LSlipperFits$Tale;)V"⟩
abbrev cX5_readGait : ByteArray := prog_7_method_9_code
def yX5_readGait : MethodName := ⟨RX5, "readGait", "(LSlipperFits$Tale;)V"⟩
abbrev cX5_readShe : ByteArray := prog_7_method_10_code
def yX5_readShe : MethodName := ⟨RX5, "readShe", "(LSlipperFits$Tale;)V"⟩
abbrev cX5_readRow : ByteArray := prog_7_method_11_code
def yX5_readRow : MethodName := ⟨RX5, "readRow", "(LSlipperFits$Tale;I)V"⟩
abbrev cX5_isGait : ByteArray := prog_7_method_12_code
def yX5_isGait : MethodName := ⟨RX5, "isGait", "(I)Z"⟩
abbrev cX5_readNumber : ByteArray := prog_7_method_13_code
def yX5_readNumber : MethodName := ⟨RX5, "readNumber", "(II)I"⟩
abbrev cX5_readSemicolon : ByteArray := prog_7_method_14_code
def yX5_readSemicolon : MethodName := ⟨RX5, "readSemicolon", "()V"⟩
abbrev cX5_takeOnce : ByteArray := prog_7_method_15_code
def yX5_takeOnce : MethodName := ⟨RX5, "takeOnce", "(II)V"⟩
abbrev cX5_takeCounted : ByteArray := prog_7_method_16_code
def yX5_takeCounted : MethodName := ⟨RX5, "takeCounted", "(III)V"⟩
abbrev cX5_refuse : ByteArray := prog_7_method_17_code
def yX5_refuse : MethodName := ⟨RX5, "refuse", "(I)V"⟩
abbrev cX5_beginToken : ByteArray := prog_7_method_18_code
def yX5_beginToken : MethodName := ⟨RX5, "beginToken", "()V"⟩
abbrev cX5_wordEnd : ByteArray := prog_7_method_19_code
def yX5_wordEnd : MethodName := ⟨RX5, "wordEnd", "()I"⟩
abbrev cX5_isWord : ByteArray := prog_7_method_20_code
def yX5_isWord : MethodName := ⟨RX5, "isWord", "(Ljava/lang/String;I)Z"⟩
abbrev cX5_byteAt : ByteArray := prog_7_method_21_code
def yX5_byteAt : MethodName := ⟨RX5, "byteAt", "(I)I"⟩
abbrev cX5_isLetter : ByteArray := prog_7_method_22_code
def yX5_isLetter : MethodName := ⟨RX5, "isLetter", "(I)Z"⟩
abbrev cX5_isFigure : ByteArray := prog_7_method_23_code
def yX5_isFigure : MethodName := ⟨RX5, "isFigure", "(I)Z"⟩
def RX6 : String := "SlipperFits$Tale"
def TX6 : u_T := fun k => match k with
  | 0 => ("SlipperFits$Tale", "stairs", "[I", true)
  | 1 => ("SlipperFits$Tale", "ways", "[I", true)
  | 2 => ("SlipperFits$Tale", "home", "[I", true)
  | 3 => ("SlipperFits$Tale", "length", "[I", true)
  | 4 => ("SlipperFits$Tale", "swell", "[I", true)
  | 5 => ("SlipperFits$Tale", "chance", "[I", true)
  | 6 => ("SlipperFits$Tale", "gait", "[I", true)
  | 7 => ("SlipperFits$Tale", "gaitLength", "[I", true)
  | 8 => ("SlipperFits$Tale", "houses", "I", false)
  | 9 => ("SlipperFits$Tale", "wayCount", "I", false)
  | 10 => ("SlipperFits$Tale", "girls", "I", false)
  | 11 => ("SlipperFits$Tale", "shoe", "I", false)
  | 12 => ("SlipperFits$Tale", "spare", "I", false)
  | 13 => ("SlipperFits$Tale", "wear", "I", false)
  | 14 => ("SlipperFits$Tale", "noon", "I", false)
  | _ => ("SlipperFits$Tale", "sheIs", "I", false)
def tyX6 : Nat → FieldType := fun k => match k with
  | 0 => .array .int
  | 1 => .array .int
  | 2 => .array .int
  | 3 => .array .int
  | 4 => .array .int
  | 5 => .array .int
  | 6 => .array .int
  | 7 => .array .int
  | 8 => .int
  | 9 => .int
  | 10 => .int
  | 11 => .int
  | 12 => .int
  | 13 => .int
  | 14 => .int
  | _ => .int
theorem nmX6 : ∀ a, a < 16 → ∀ b, b < 16 → a ≠ b → (TX6 a).2.1 ≠ (TX6 b).2.1 := by decide +kernel
theorem tyX6_ok : ∀ k, k < 16 → parseFieldDescriptor (TX6 k).2.2.1 = some (tyX6 k) := by decide +kernel
abbrev cX6_init : ByteArray := prog_8_method_1_code
def yX6_init : MethodName := ⟨RX6, "<init>", "()V"⟩
abbrev cX6_beginUntold : ByteArray := prog_8_method_2_code
def yX6_beginUntold : MethodName := ⟨RX6, "beginUntold", "()V"⟩
abbrev cX6_copyFrom : ByteArray := prog_8_method_3_code
def yX6_copyFrom : MethodName := ⟨RX6, "copyFrom", "(LSlipperFits$Tale;)V"⟩
abbrev cX6_hasHouse : ByteArray := prog_8_method_4_code
def yX6_hasHouse : MethodName := ⟨RX6, "hasHouse", "(I)Z"⟩
abbrev cX6_hasGirl : ByteArray := prog_8_method_5_code
def yX6_hasGirl : MethodName := ⟨RX6, "hasGirl", "(I)Z"⟩
abbrev cX6_addHouse : ByteArray := prog_8_method_6_code
def yX6_addHouse : MethodName := ⟨RX6, "addHouse", "(I)V"⟩
abbrev cX6_addWay : ByteArray := prog_8_method_7_code
def yX6_addWay : MethodName := ⟨RX6, "addWay", "(II)V"⟩
abbrev cX6_addGirl : ByteArray := prog_8_method_8_code
def yX6_addGirl : MethodName := ⟨RX6, "addGirl", "(IIII)V"⟩
abbrev cX6_setLetter : ByteArray := prog_8_method_9_code
def yX6_setLetter : MethodName := ⟨RX6, "setLetter", "(III)V"⟩
abbrev cX6_letterOf : ByteArray := prog_8_method_10_code
def yX6_letterOf : MethodName := ⟨RX6, "letterOf", "(II)I"⟩
abbrev cX6_waysFrom : ByteArray := prog_8_method_11_code
def yX6_waysFrom : MethodName := ⟨RX6, "waysFrom", "(I)I"⟩
abbrev cX6_reachedFrom : ByteArray := prog_8_method_12_code
def yX6_reachedFrom : MethodName := ⟨RX6, "reachedFrom", "(I)I"⟩
abbrev cX6_isAfternoon : ByteArray := prog_8_method_13_code
def yX6_isAfternoon : MethodName := ⟨RX6, "isAfternoon", "(I)Z"⟩
abbrev cX6_glassAfter : ByteArray := prog_8_method_14_code
def yX6_glassAfter : MethodName := ⟨RX6, "glassAfter", "(I)I"⟩
abbrev cX6_fitsGlass : ByteArray := prog_8_method_15_code
def yX6_fitsGlass : MethodName := ⟨RX6, "fitsGlass", "(II)Z"⟩
def RX7 : String := "SlipperFits$Tour"
def TX7 : u_T := fun k => match k with
  | 0 => ("SlipperFits$Tour", "measure", "LSlipperFits$Measure;", true)
  | _ => ("SlipperFits$Tour", "distance", "[I", true)
def tyX7 : Nat → FieldType := fun k => match k with
  | 0 => .object "SlipperFits$Measure"
  | _ => .array .int
theorem nmX7 : ∀ a, a < 2 → ∀ b, b < 2 → a ≠ b → (TX7 a).2.1 ≠ (TX7 b).2.1 := by decide +kernel
theorem tyX7_ok : ∀ k, k < 2 → parseFieldDescriptor (TX7 k).2.2.1 = some (tyX7 k) := by decide +kernel
abbrev cX7_init : ByteArray := prog_9_method_1_code
def yX7_init : MethodName := ⟨RX7, "<init>", "(LSlipperFits$Measure;)V"⟩
abbrev cX7_fewestHours : ByteArray := prog_9_method_2_code
def yX7_fewestHours : MethodName := ⟨RX7, "fewestHours", "(I)I"⟩
abbrev cX7_measureDistances : ByteArray := prog_9_method_3_code
def yX7_measureDistances : MethodName := ⟨RX7, "measureDistances", "(I)V"⟩
abbrev cX7_nearTo : ByteArray := prog_9_method_4_code
def yX7_nearTo : MethodName := ⟨RX7, "nearTo", "(I)I"⟩
abbrev cX7_houseBehind : ByteArray := prog_9_method_5_code
def yX7_houseBehind : MethodName := ⟨RX7, "houseBehind", "(II)I"⟩
abbrev cX7_leastHouseInTime : ByteArray := prog_9_method_6_code
def yX7_leastHouseInTime : MethodName := ⟨RX7, "leastHouseInTime", "(II)I"⟩
def RX8 : String := "SlipperFits"
def TX8 : u_T := fun k => match k with
  | 0 => ("SlipperFits", "reader", "LSlipperFits$Reader;", true)
  | 1 => ("SlipperFits", "draft", "LSlipperFits$Tale;", true)
  | 2 => ("SlipperFits", "tale", "LSlipperFits$Tale;", true)
  | 3 => ("SlipperFits", "night", "LSlipperFits$Night;", true)
  | 4 => ("SlipperFits", "images", "[LSlipperFits$Night;", true)
  | 5 => ("SlipperFits", "kept", "I", false)
  | 6 => ("SlipperFits", "measure", "LSlipperFits$Measure;", true)
  | 7 => ("SlipperFits", "notes", "LSlipperFits$Notes;", true)
  | 8 => ("SlipperFits", "tour", "LSlipperFits$Tour;", true)
  | 9 => ("SlipperFits", "hunt", "LSlipperFits$Hunt;", true)
  | _ => ("SlipperFits", "contest", "LSlipperFits$Contest;", true)
def tyX8 : Nat → FieldType := fun k => match k with
  | 0 => .object "SlipperFits$Reader"
  | 1 => .object "SlipperFits$Tale"
  | 2 => .object "SlipperFits$Tale"
  | 3 => .object "SlipperFits$Night"
  | 4 => .array (.object "SlipperFits$Night")
  | 5 => .int
  | 6 => .object "SlipperFits$Measure"
  | 7 => .object "SlipperFits$Notes"
  | 8 => .object "SlipperFits$Tour"
  | 9 => .object "SlipperFits$Hunt"
  | _ => .object "SlipperFits$Contest"
theorem nmX8 : ∀ a, a < 11 → ∀ b, b < 11 → a ≠ b → (TX8 a).2.1 ≠ (TX8 b).2.1 := by decide +kernel
theorem tyX8_ok : ∀ k, k < 11 → parseFieldDescriptor (TX8 k).2.2.1 = some (tyX8 k) := by decide +kernel
abbrev cX8_init : ByteArray := prog_1_method_1_code
def yX8_init : MethodName := ⟨RX8, "<init>", "()V"⟩
abbrev cX8_feed : ByteArray := prog_1_method_2_code
def yX8_feed : MethodName := ⟨RX8, "feed", "(I)I"⟩
abbrev cX8_list : ByteArray := prog_1_method_3_code
def yX8_list : MethodName := ⟨RX8, "list", "()I"⟩
abbrev cX8_fault : ByteArray := prog_1_method_4_code
def yX8_fault : MethodName := ⟨RX8, "fault", "()I"⟩
abbrev cX8_told : ByteArray := prog_1_method_5_code
def yX8_told : MethodName := ⟨RX8, "told", "(I)I"⟩
abbrev cX8_toldByTheList : ByteArray := prog_1_method_6_code
def yX8_toldByTheList : MethodName := ⟨RX8, "toldByTheList", "(I)I"⟩
abbrev cX8_toldByTheNight : ByteArray := prog_1_method_7_code
def yX8_toldByTheNight : MethodName := ⟨RX8, "toldByTheNight", "(I)I"⟩
abbrev cX8_house : ByteArray := prog_1_method_8_code
def yX8_house : MethodName := ⟨RX8, "house", "(II)I"⟩
abbrev cX8_girlsIn : ByteArray := prog_1_method_9_code
def yX8_girlsIn : MethodName := ⟨RX8, "girlsIn", "(I)I"⟩
abbrev cX8_girl : ByteArray := prog_1_method_10_code
def yX8_girl : MethodName := ⟨RX8, "girl", "(II)I"⟩
abbrev cX8_foot : ByteArray := prog_1_method_11_code
def yX8_foot : MethodName := ⟨RX8, "foot", "(II)I"⟩
abbrev cX8_pass : ByteArray := prog_1_method_12_code
def yX8_pass : MethodName := ⟨RX8, "pass", "(I)I"⟩
abbrev cX8_go : ByteArray := prog_1_method_13_code
def yX8_go : MethodName := ⟨RX8, "go", "(I)I"⟩
abbrev cX8_attempt : ByteArray := prog_1_method_14_code
def yX8_attempt : MethodName := ⟨RX8, "attempt", "()I"⟩
abbrev cX8_tryOn : ByteArray := prog_1_method_15_code
def yX8_tryOn : MethodName := ⟨RX8, "tryOn", "(I)Z"⟩
abbrev cX8_soak : ByteArray := prog_1_method_16_code
def yX8_soak : MethodName := ⟨RX8, "soak", "(I)I"⟩
abbrev cX8_pad : ByteArray := prog_1_method_17_code
def yX8_pad : MethodName := ⟨RX8, "pad", "(II)I"⟩
abbrev cX8_move : ByteArray := prog_1_method_18_code
def yX8_move : MethodName := ⟨RX8, "move", "(II)I"⟩
abbrev cX8_drift : ByteArray := prog_1_method_19_code
def yX8_drift : MethodName := ⟨RX8, "drift", "(I)I"⟩
abbrev cX8_sheWanders : ByteArray := prog_1_method_20_code
def yX8_sheWanders : MethodName := ⟨RX8, "sheWanders", "()V"⟩
abbrev cX8_memberOf : ByteArray := prog_1_method_21_code
def yX8_memberOf : MethodName := ⟨RX8, "memberOf", "(III)I"⟩
abbrev cX8_someoneMaySoak : ByteArray := prog_1_method_22_code
def yX8_someoneMaySoak : MethodName := ⟨RX8, "someoneMaySoak", "()V"⟩
abbrev cX8_round : ByteArray := prog_1_method_23_code
def yX8_round : MethodName := ⟨RX8, "round", "(II)I"⟩
abbrev cX8_chase : ByteArray := prog_1_method_24_code
def yX8_chase : MethodName := ⟨RX8, "chase", "(I)I"⟩
abbrev cX8_fewest : ByteArray := prog_1_method_25_code
def yX8_fewest : MethodName := ⟨RX8, "fewest", "()I"⟩
abbrev cX8_rule : ByteArray := prog_1_method_26_code
def yX8_rule : MethodName := ⟨RX8, "rule", "(II)I"⟩
abbrev cX8_isRule : ByteArray := prog_1_method_27_code
def yX8_isRule : MethodName := ⟨RX8, "isRule", "(III)Z"⟩
abbrev cX8_passes : ByteArray := prog_1_method_28_code
def yX8_passes : MethodName := ⟨RX8, "passes", "(III)I"⟩
abbrev cX8_apart : ByteArray := prog_1_method_29_code
def yX8_apart : MethodName := ⟨RX8, "apart", "(II)I"⟩
abbrev cX8_worn : ByteArray := prog_1_method_30_code
def yX8_worn : MethodName := ⟨RX8, "worn", "(III)I"⟩
abbrev cX8_areTwoGirls : ByteArray := prog_1_method_31_code
def yX8_areTwoGirls : MethodName := ⟨RX8, "areTwoGirls", "(II)Z"⟩
abbrev cX8_sisters : ByteArray := prog_1_method_32_code
def yX8_sisters : MethodName := ⟨RX8, "sisters", "(II)I"⟩
abbrev cX8_odds : ByteArray := prog_1_method_33_code
def yX8_odds : MethodName := ⟨RX8, "odds", "(III)I"⟩
abbrev cX8_see : ByteArray := prog_1_method_34_code
def yX8_see : MethodName := ⟨RX8, "see", "(IZ)I"⟩
abbrev cX8_could : ByteArray := prog_1_method_35_code
def yX8_could : MethodName := ⟨RX8, "could", "()I"⟩
abbrev cX8_whoCould : ByteArray := prog_1_method_36_code
def yX8_whoCould : MethodName := ⟨RX8, "whoCould", "()I"⟩
abbrev cX8_allSeenIsSo : ByteArray := prog_1_method_37_code
def yX8_allSeenIsSo : MethodName := ⟨RX8, "allSeenIsSo", "(I)Z"⟩
abbrev cX8_next : ByteArray := prog_1_method_38_code
def yX8_next : MethodName := ⟨RX8, "next", "()I"⟩
abbrev cX8_fittingOf : ByteArray := prog_1_method_39_code
def yX8_fittingOf : MethodName := ⟨RX8, "fittingOf", "(II)I"⟩
abbrev cX8_step : ByteArray := prog_1_method_40_code
def yX8_step : MethodName := ⟨RX8, "step", "(I)I"⟩
abbrev cX8_walker : ByteArray := prog_1_method_41_code
def yX8_walker : MethodName := ⟨RX8, "walker", "()I"⟩
abbrev cX8_couldWalk : ByteArray := prog_1_method_42_code
def yX8_couldWalk : MethodName := ⟨RX8, "couldWalk", "(I)Z"⟩
abbrev cX8_walksFrom : ByteArray := prog_1_method_43_code
def yX8_walksFrom : MethodName := ⟨RX8, "walksFrom", "(II)Z"⟩
abbrev cX8_write : ByteArray := prog_1_method_44_code
def yX8_write : MethodName := ⟨RX8, "write", "(IIZ)I"⟩
abbrev cX8_tear : ByteArray := prog_1_method_45_code
def yX8_tear : MethodName := ⟨RX8, "tear", "()I"⟩
abbrev cX8_judge : ByteArray := prog_1_method_46_code
def yX8_judge : MethodName := ⟨RX8, "judge", "()I"⟩
abbrev cX8_seed : ByteArray := prog_1_method_47_code
def yX8_seed : MethodName := ⟨RX8, "seed", "(I)I"⟩
abbrev cX8_keep : ByteArray := prog_1_method_48_code
def yX8_keep : MethodName := ⟨RX8, "keep", "(I)I"⟩
abbrev cX8_goBack : ByteArray := prog_1_method_49_code
def yX8_goBack : MethodName := ⟨RX8, "goBack", "(I)I"⟩
abbrev cX8_has : ByteArray := prog_1_method_50_code
def yX8_has : MethodName := ⟨RX8, "has", "(II)Z"⟩
abbrev cX8_isHourOfDay : ByteArray := prog_1_method_51_code
def yX8_isHourOfDay : MethodName := ⟨RX8, "isHourOfDay", "(I)Z"⟩
def RX9 : String := "SlipperFitsModel"
def TX9 : u_T := fun k => match k with
  | 0 => ("SlipperFitsModel", "w", "[I", true)
  | 1 => ("SlipperFitsModel", "isKept", "[Z", true)
  | 2 => ("SlipperFitsModel", "shoe", "[I", true)
  | 3 => ("SlipperFitsModel", "noon", "I", false)
  | 4 => ("SlipperFitsModel", "newNoon", "I", false)
  | 5 => ("SlipperFitsModel", "stairs", "[I", true)
  | 6 => ("SlipperFitsModel", "ways", "[I", true)
  | 7 => ("SlipperFitsModel", "home", "[I", true)
  | 8 => ("SlipperFitsModel", "foot", "[I", true)
  | 9 => ("SlipperFitsModel", "swells", "[I", true)
  | 10 => ("SlipperFitsModel", "chance", "[I", true)
  | 11 => ("SlipperFitsModel", "gait", "[I", true)
  | 12 => ("SlipperFitsModel", "gaitLong", "[I", true)
  | 13 => ("SlipperFitsModel", "houses", "I", false)
  | 14 => ("SlipperFitsModel", "girls", "I", false)
  | 15 => ("SlipperFitsModel", "wayMany", "I", false)
  | 16 => ("SlipperFitsModel", "she", "I", false)
  | 17 => ("SlipperFitsModel", "newHouses", "I", false)
  | 18 => ("SlipperFitsModel", "newGirls", "I", false)
  | 19 => ("SlipperFitsModel", "newWays", "I", false)
  | 20 => ("SlipperFitsModel", "newShe", "I", false)
  | 21 => ("SlipperFitsModel", "told", "I", false)
  | 22 => ("SlipperFitsModel", "gaits", "I", false)
  | 23 => ("SlipperFitsModel", "text", "[I", true)
  | 24 => ("SlipperFitsModel", "textSize", "I", false)
  | 25 => ("SlipperFitsModel", "at", "I", false)
  | 26 => ("SlipperFitsModel", "first", "I", false)
  | 27 => ("SlipperFitsModel", "length", "I", false)
  | 28 => ("SlipperFitsModel", "faultOf", "I", false)
  | 29 => ("SlipperFitsModel", "fault", "I", false)
  | 30 => ("SlipperFitsModel", "far", "[I", true)
  | 31 => ("SlipperFitsModel", "turns", "[I", true)
  | 32 => ("SlipperFitsModel", "chosen", "[I", true)
  | 33 => ("SlipperFitsModel", "seenHour", "[I", true)
  | 34 => ("SlipperFitsModel", "seenFit", "[Z", true)
  | 35 => ("SlipperFitsModel", "seenMany", "I", false)
  | 36 => ("SlipperFitsModel", "steps", "[I", true)
  | 37 => ("SlipperFitsModel", "stepMany", "I", false)
  | 38 => ("SlipperFitsModel", "bookHour", "[I", true)
  | 39 => ("SlipperFitsModel", "bookGirl", "[I", true)
  | 40 => ("SlipperFitsModel", "bookFit", "[Z", true)
  | _ => ("SlipperFitsModel", "written", "I", false)
def tyX9 : Nat → FieldType := fun k => match k with
  | 0 => .array .int
  | 1 => .array .boolean
  | 2 => .array .int
  | 3 => .int
  | 4 => .int
  | 5 => .array .int
  | 6 => .array .int
  | 7 => .array .int
  | 8 => .array .int
  | 9 => .array .int
  | 10 => .array .int
  | 11 => .array .int
  | 12 => .array .int
  | 13 => .int
  | 14 => .int
  | 15 => .int
  | 16 => .int
  | 17 => .int
  | 18 => .int
  | 19 => .int
  | 20 => .int
  | 21 => .int
  | 22 => .int
  | 23 => .array .int
  | 24 => .int
  | 25 => .int
  | 26 => .int
  | 27 => .int
  | 28 => .int
  | 29 => .int
  | 30 => .array .int
  | 31 => .array .int
  | 32 => .array .int
  | 33 => .array .int
  | 34 => .array .boolean
  | 35 => .int
  | 36 => .array .int
  | 37 => .int
  | 38 => .array .int
  | 39 => .array .int
  | 40 => .array .boolean
  | _ => .int
theorem nmX9 : ∀ a, a < 42 → ∀ b, b < 42 → a ≠ b → (TX9 a).2.1 ≠ (TX9 b).2.1 := by decide +kernel
theorem tyX9_ok : ∀ k, k < 42 → parseFieldDescriptor (TX9 k).2.2.1 = some (tyX9 k) := by decide +kernel
abbrev cX9_init : ByteArray := prog_11_method_1_code
def yX9_init : MethodName := ⟨RX9, "<init>", "()V"⟩
abbrev cX9_in : ByteArray := prog_11_method_3_code
def yX9_in : MethodName := ⟨RX9, "in", "(JJJ)Z"⟩
abbrev cX9_one : ByteArray := prog_11_method_4_code
def yX9_one : MethodName := ⟨RX9, "one", "(Z)I"⟩
abbrev cX9_has : ByteArray := prog_11_method_5_code
def yX9_has : MethodName := ⟨RX9, "has", "(II)Z"⟩
abbrev cX9_ones : ByteArray := prog_11_method_6_code
def yX9_ones : MethodName := ⟨RX9, "ones", "(I)I"⟩
abbrev cX9_feed : ByteArray := prog_11_method_7_code
def yX9_feed : MethodName := ⟨RX9, "feed", "(I)I"⟩
abbrev cX9_here : ByteArray := prog_11_method_8_code
def yX9_here : MethodName := ⟨RX9, "here", "()I"⟩
abbrev cX9_want : ByteArray := prog_11_method_9_code
def yX9_want : MethodName := ⟨RX9, "want", "(ZII)Z"⟩
abbrev cX9_takeWord : ByteArray := prog_11_method_10_code
def yX9_takeWord : MethodName := ⟨RX9, "takeWord", "()V"⟩
abbrev cX9_isWord : ByteArray := prog_11_method_11_code
def yX9_isWord : MethodName := ⟨RX9, "isWord", "(IIIIII)Z"⟩
abbrev cX9_takeNumber : ByteArray := prog_11_method_12_code
def yX9_takeNumber : MethodName := ⟨RX9, "takeNumber", "(II)I"⟩
abbrev cX9_takeShoe : ByteArray := prog_11_method_13_code
def yX9_takeShoe : MethodName := ⟨RX9, "takeShoe", "(I)V"⟩
abbrev cX9_takeNoon : ByteArray := prog_11_method_14_code
def yX9_takeNoon : MethodName := ⟨RX9, "takeNoon", "(I)V"⟩
abbrev cX9_takeShe : ByteArray := prog_11_method_15_code
def yX9_takeShe : MethodName := ⟨RX9, "takeShe", "(I)V"⟩
abbrev cX9_takeHouse : ByteArray := prog_11_method_16_code
def yX9_takeHouse : MethodName := ⟨RX9, "takeHouse", "(I)V"⟩
abbrev cX9_takeWay : ByteArray := prog_11_method_17_code
def yX9_takeWay : MethodName := ⟨RX9, "takeWay", "(I)V"⟩
abbrev cX9_takeGirl : ByteArray := prog_11_method_18_code
def yX9_takeGirl : MethodName := ⟨RX9, "takeGirl", "(I)V"⟩
abbrev cX9_isRow : ByteArray := prog_11_method_19_code
def yX9_isRow : MethodName := ⟨RX9, "isRow", "()Z"⟩
abbrev cX9_takeGait : ByteArray := prog_11_method_20_code
def yX9_takeGait : MethodName := ⟨RX9, "takeGait", "()V"⟩
abbrev cX9_takeClause : ByteArray := prog_11_method_21_code
def yX9_takeClause : MethodName := ⟨RX9, "takeClause", "()V"⟩
abbrev cX9_list : ByteArray := prog_11_method_22_code
def yX9_list : MethodName := ⟨RX9, "list", "()I"⟩
abbrev cX9_fault : ByteArray := prog_11_method_23_code
def yX9_fault : MethodName := ⟨RX9, "fault", "()I"⟩
abbrev cX9_isHouse : ByteArray := prog_11_method_24_code
def yX9_isHouse : MethodName := ⟨RX9, "isHouse", "(I)Z"⟩
abbrev cX9_isGirl : ByteArray := prog_11_method_25_code
def yX9_isGirl : MethodName := ⟨RX9, "isGirl", "(I)Z"⟩
abbrev cX9_footBy : ByteArray := prog_11_method_26_code
def yX9_footBy : MethodName := ⟨RX9, "footBy", "(III)I"⟩
abbrev cX9_isSoaked : ByteArray := prog_11_method_27_code
def yX9_isSoaked : MethodName := ⟨RX9, "isSoaked", "(II)Z"⟩
abbrev cX9_footAt : ByteArray := prog_11_method_28_code
def yX9_footAt : MethodName := ⟨RX9, "footAt", "(II)I"⟩
abbrev cX9_glassBy : ByteArray := prog_11_method_29_code
def yX9_glassBy : MethodName := ⟨RX9, "glassBy", "(I)I"⟩
abbrev cX9_fits : ByteArray := prog_11_method_30_code
def yX9_fits : MethodName := ⟨RX9, "fits", "(II)Z"⟩
abbrev cX9_glassNow : ByteArray := prog_11_method_31_code
def yX9_glassNow : MethodName := ⟨RX9, "glassNow", "()I"⟩
abbrev cX9_told : ByteArray := prog_11_method_32_code
def yX9_told : MethodName := ⟨RX9, "told", "(I)I"⟩
abbrev cX9_inHouse : ByteArray := prog_11_method_33_code
def yX9_inHouse : MethodName := ⟨RX9, "inHouse", "(I)I"⟩
abbrev cX9_house : ByteArray := prog_11_method_34_code
def yX9_house : MethodName := ⟨RX9, "house", "(II)I"⟩
abbrev cX9_wetFor : ByteArray := prog_11_method_35_code
def yX9_wetFor : MethodName := ⟨RX9, "wetFor", "(I)I"⟩
abbrev cX9_girl : ByteArray := prog_11_method_36_code
def yX9_girl : MethodName := ⟨RX9, "girl", "(II)I"⟩
abbrev cX9_foot : ByteArray := prog_11_method_37_code
def yX9_foot : MethodName := ⟨RX9, "foot", "(II)I"⟩
abbrev cX9_pass : ByteArray := prog_11_method_38_code
def yX9_pass : MethodName := ⟨RX9, "pass", "(I)I"⟩
abbrev cX9_go : ByteArray := prog_11_method_39_code
def yX9_go : MethodName := ⟨RX9, "go", "(I)I"⟩
abbrev cX9_attempt : ByteArray := prog_11_method_40_code
def yX9_attempt : MethodName := ⟨RX9, "attempt", "()I"⟩
abbrev cX9_soak : ByteArray := prog_11_method_41_code
def yX9_soak : MethodName := ⟨RX9, "soak", "(I)I"⟩
abbrev cX9_pad : ByteArray := prog_11_method_42_code
def yX9_pad : MethodName := ⟨RX9, "pad", "(II)I"⟩
abbrev cX9_move : ByteArray := prog_11_method_43_code
def yX9_move : MethodName := ⟨RX9, "move", "(II)I"⟩
abbrev cX9_draw : ByteArray := prog_11_method_44_code
def yX9_draw : MethodName := ⟨RX9, "draw", "(I)I"⟩
abbrev cX9_sheGoes : ByteArray := prog_11_method_45_code
def yX9_sheGoes : MethodName := ⟨RX9, "sheGoes", "()V"⟩
abbrev cX9_drift : ByteArray := prog_11_method_46_code
def yX9_drift : MethodName := ⟨RX9, "drift", "(I)I"⟩
abbrev cX9_findFar : ByteArray := prog_11_method_47_code
def yX9_findFar : MethodName := ⟨RX9, "findFar", "(I)V"⟩
abbrev cX9_soonest : ByteArray := prog_11_method_48_code
def yX9_soonest : MethodName := ⟨RX9, "soonest", "(I)I"⟩
abbrev cX9_round : ByteArray := prog_11_method_49_code
def yX9_round : MethodName := ⟨RX9, "round", "(II)I"⟩
abbrev cX9_mayGo : ByteArray := prog_11_method_50_code
def yX9_mayGo : MethodName := ⟨RX9, "mayGo", "(II)Z"⟩
abbrev cX9_place : ByteArray := prog_11_method_51_code
def yX9_place : MethodName := ⟨RX9, "place", "(III)I"⟩
abbrev cX9_worst : ByteArray := prog_11_method_52_code
def yX9_worst : MethodName := ⟨RX9, "worst", "(III)I"⟩
abbrev cX9_bestTurn : ByteArray := prog_11_method_53_code
def yX9_bestTurn : MethodName := ⟨RX9, "bestTurn", "(IIII)I"⟩
abbrev cX9_findTurns : ByteArray := prog_11_method_54_code
def yX9_findTurns : MethodName := ⟨RX9, "findTurns", "(I)V"⟩
abbrev cX9_chaseOf : ByteArray := prog_11_method_55_code
def yX9_chaseOf : MethodName := ⟨RX9, "chaseOf", "(I)I"⟩
abbrev cX9_chase : ByteArray := prog_11_method_56_code
def yX9_chase : MethodName := ⟨RX9, "chase", "(I)I"⟩
abbrev cX9_fewest : ByteArray := prog_11_method_57_code
def yX9_fewest : MethodName := ⟨RX9, "fewest", "()I"⟩
abbrev cX9_passes : ByteArray := prog_11_method_58_code
def yX9_passes : MethodName := ⟨RX9, "passes", "(III)I"⟩
abbrev cX9_isRule : ByteArray := prog_11_method_59_code
def yX9_isRule : MethodName := ⟨RX9, "isRule", "(III)Z"⟩
abbrev cX9_rule : ByteArray := prog_11_method_60_code
def yX9_rule : MethodName := ⟨RX9, "rule", "(II)I"⟩
abbrev cX9_fitsDry : ByteArray := prog_11_method_61_code
def yX9_fitsDry : MethodName := ⟨RX9, "fitsDry", "(III)Z"⟩
abbrev cX9_apart : ByteArray := prog_11_method_62_code
def yX9_apart : MethodName := ⟨RX9, "apart", "(II)I"⟩
abbrev cX9_worn : ByteArray := prog_11_method_63_code
def yX9_worn : MethodName := ⟨RX9, "worn", "(III)I"⟩
abbrev cX9_winner : ByteArray := prog_11_method_64_code
def yX9_winner : MethodName := ⟨RX9, "winner", "()I"⟩
abbrev cX9_chooses : ByteArray := prog_11_method_65_code
def yX9_chooses : MethodName := ⟨RX9, "chooses", "(I)Z"⟩
abbrev cX9_sisters : ByteArray := prog_11_method_66_code
def yX9_sisters : MethodName := ⟨RX9, "sisters", "(II)I"⟩
abbrev cX9_odds : ByteArray := prog_11_method_67_code
def yX9_odds : MethodName := ⟨RX9, "odds", "(III)I"⟩
abbrev cX9_see : ByteArray := prog_11_method_68_code
def yX9_see : MethodName := ⟨RX9, "see", "(IZ)I"⟩
abbrev cX9_could : ByteArray := prog_11_method_69_code
def yX9_could : MethodName := ⟨RX9, "could", "()I"⟩
abbrev cX9_next : ByteArray := prog_11_method_70_code
def yX9_next : MethodName := ⟨RX9, "next", "()I"⟩
abbrev cX9_step : ByteArray := prog_11_method_71_code
def yX9_step : MethodName := ⟨RX9, "step", "(I)I"⟩
abbrev cX9_walks : ByteArray := prog_11_method_72_code
def yX9_walks : MethodName := ⟨RX9, "walks", "(II)Z"⟩
abbrev cX9_walker : ByteArray := prog_11_method_73_code
def yX9_walker : MethodName := ⟨RX9, "walker", "()I"⟩
abbrev cX9_write : ByteArray := prog_11_method_74_code
def yX9_write : MethodName := ⟨RX9, "write", "(IIZ)I"⟩
abbrev cX9_tear : ByteArray := prog_11_method_75_code
def yX9_tear : MethodName := ⟨RX9, "tear", "()I"⟩
abbrev cX9_judge : ByteArray := prog_11_method_76_code
def yX9_judge : MethodName := ⟨RX9, "judge", "()I"⟩
abbrev cX9_seed : ByteArray := prog_11_method_77_code
def yX9_seed : MethodName := ⟨RX9, "seed", "(I)I"⟩
abbrev cX9_copy : ByteArray := prog_11_method_78_code
def yX9_copy : MethodName := ⟨RX9, "copy", "(II)V"⟩
abbrev cX9_keep : ByteArray := prog_11_method_79_code
def yX9_keep : MethodName := ⟨RX9, "keep", "(I)I"⟩
abbrev cX9_goBack : ByteArray := prog_11_method_80_code
def yX9_goBack : MethodName := ⟨RX9, "goBack", "(I)I"⟩
def RJ6 : String := "java/lang/Integer"
abbrev cJ6_bitCount_0f7a4 : ByteArray := prog_12_method_49_code
def yJ6_bitCount_0f7a4 : MethodName := ⟨RJ6, "bitCount", "(I)I"⟩
def RJ9 : String := "java/lang/Math"
abbrev cJ9_floorMod_7cf53 : ByteArray := prog_13_method_50_code
def yJ9_floorMod_7cf53 : MethodName := ⟨RJ9, "floorMod", "(II)I"⟩
abbrev cJ9_max_7cf53 : ByteArray := prog_13_method_65_code
def yJ9_max_7cf53 : MethodName := ⟨RJ9, "max", "(II)I"⟩
abbrev cJ9_min_7cf53 : ByteArray := prog_13_method_69_code
def yJ9_min_7cf53 : MethodName := ⟨RJ9, "min", "(II)I"⟩
def RJ0 : String := "java/lang/String"
abbrev cJ0_length_8abf5 : ByteArray := prog_14_method_54_code
def yJ0_length_8abf5 : MethodName := ⟨RJ0, "length", "()I"⟩
abbrev cJ0_charAt_5068e : ByteArray := prog_14_method_56_code
def yJ0_charAt_5068e : MethodName := ⟨RJ0, "charAt", "(I)C"⟩
def RJ1 : String := "java/lang/StringLatin1"
def RJ2 : String := "java/lang/StringUTF16"
def RJ10 : String := "java/lang/System"
def RJ3 : String := "jdk/internal/util/Preconditions"
abbrev vwCl : List vw_C := [(RX0, TX0, 3), (RX1, TX1, 3), (RX2, TX2, 2), (RX3, TX3, 9), (RX4, TX4, 9), (RX5, TX5, 8), (RX6, TX6, 16), (RX7, TX7, 2), (RX8, TX8, 11), (RX9, TX9, 42)]
/-- words of one list among another's, by places -/
theorem qq_mem {big ws : List Cond} (is : List Nat) (h : is.map (fun i => big[i]?) = ws.map some) : ∀ w ∈ ws, w ∈ big := by
  intro w hw
  have h1 : some w ∈ ws.map some := List.mem_map.mpr ⟨w, hw, rfl⟩
  rw [← h] at h1
  obtain ⟨i, -, hi⟩ := List.mem_map.mp h1
  exact List.mem_of_getElem? hi
def gw : List Cond := lw_tbl.filter goodWord
theorem gw_in {w : Cond} (h : w ∈ gw) : w ∈ lw_tbl := (List.mem_filter.mp h).1
theorem gw_good {w : Cond} (h : w ∈ gw) : goodWord w = true := (List.mem_filter.mp h).2
theorem gw_of {w : Cond} (i : Nat) (h : lw_tbl[i]? = some w) (hg : goodWord w = true) : w ∈ gw := List.mem_filter.mpr ⟨List.mem_of_getElem? h, hg⟩
theorem gw_all {ws : List Cond} (is : List Nat) (h : is.map (fun i => lw_tbl[i]?) = ws.map some) (hg : ws.all goodWord = true) : ∀ w ∈ ws, w ∈ gw := fun w hw => List.mem_filter.mpr ⟨qq_mem is h w hw, List.all_eq_true.mp hg w hw⟩
theorem gw_goodIn {ws : List Cond} (h : ∀ w ∈ ws, w ∈ gw) : GoodIn gw ws := fun w hw => ⟨h w hw, good_of_word (gw_good (h w hw))⟩
theorem gwX0 : ∀ w ∈ u_ws RX0 TX0 3, w ∈ gw := gw_all [386, 388, 390] (by decide +kernel) (by decide +kernel)
theorem gwX1 : ∀ w ∈ u_ws RX1 TX1 3, w ∈ gw := gw_all [369, 371, 373] (by decide +kernel) (by decide +kernel)
theorem gwX2 : ∀ w ∈ u_ws RX2 TX2 2, w ∈ gw := gw_all [298, 300] (by decide +kernel) (by decide +kernel)
theorem gwX3 : ∀ w ∈ u_ws RX3 TX3 9, w ∈ gw := gw_all [267, 269, 271, 273, 275, 277, 279, 281, 283] (by decide +kernel) (by decide +kernel)
theorem gwX4 : ∀ w ∈ u_ws RX4 TX4 9, w ∈ gw := gw_all [327, 329, 331, 333, 335, 337, 339, 341, 343] (by decide +kernel) (by decide +kernel)
theorem gwX5 : ∀ w ∈ u_ws RX5 TX5 8, w ∈ gw := gw_all [127, 129, 131, 133, 135, 137, 139, 141] (by decide +kernel) (by decide +kernel)
theorem gwX6 : ∀ w ∈ u_ws RX6 TX6 16, w ∈ gw := gw_all [202, 204, 206, 208, 210, 212, 214, 216, 218, 220, 222, 224, 226, 228, 230, 232] (by decide +kernel) (by decide +kernel)
theorem gwX7 : ∀ w ∈ u_ws RX7 TX7 2, w ∈ gw := gw_all [355, 357] (by decide +kernel) (by decide +kernel)
theorem gwX8 : ∀ w ∈ u_ws RX8 TX8 11, w ∈ gw := gw_all [404, 406, 408, 410, 412, 414, 416, 418, 420, 422, 424] (by decide +kernel) (by decide +kernel)
theorem gwX9 : ∀ w ∈ u_ws RX9 TX9 42, w ∈ gw := gw_all [1056, 1058, 1060, 1062, 1064, 1066, 1068, 1070, 1072, 1074, 1076, 1078, 1080, 1082, 1084, 1086, 1088, 1090, 1092, 1094, 1096, 1098, 1100, 1102, 1104, 1106, 1108, 1110, 1112, 1114, 1116, 1118, 1120, 1122, 1124, 1126, 1128, 1130, 1132, 1134, 1136, 1138] (by decide +kernel) (by decide +kernel)
def mY0 : Nat → MethodName := fun k => match k with
  | 0 => yX0_play
  | 1 => yX0_playRound
  | 2 => yX0_takeWinningHour
  | _ => yX0_winner
def mY1 : Nat → MethodName := fun k => match k with
  | 0 => yX1_fewestTurns
  | 1 => yX1_begin
  | 2 => yX1_meetsAnywhere
  | 3 => yX1_lookHerTurn
  | 4 => yX1_hersWithoutEscape
  | 5 => yX1_lookTheirTurn
  | 6 => yX1_metByGoing
  | _ => yX1_metByGoingTo
def mY2 : Nat → MethodName := fun k => match k with
  | 0 => yX2_unswollenFoot
  | 1 => yX2_bareFoot
  | 2 => yX2_paddingOf
  | 3 => yX2_dryFoot
  | 4 => yX2_footThen
  | 5 => yX2_isWet
  | 6 => yX2_wetHoursLeft
  | 7 => yX2_glassNow
  | 8 => yX2_fitsThen
  | 9 => yX2_dryFitHours
  | 10 => yX2_fitsBare
  | 11 => yX2_leastPadding
  | 12 => yX2_fewestTries
  | _ => yX2_eighthsThatFit
def mY3 : Nat → MethodName := fun k => match k with
  | 0 => yX3_beginWith
  | 1 => yX3_copyFrom
  | _ => yX3_draw
def mY4 : Nat → MethodName := fun k => match k with
  | _ => yX4_forgetAll
def mY5 : Nat → MethodName := fun k => match k with
  | 0 => yX5_readInto
  | 1 => yX5_readClause
  | 2 => yX5_readShoe
  | 3 => yX5_readNoon
  | 4 => yX5_readHouse
  | 5 => yX5_readWay
  | 6 => yX5_readGirl
  | 7 => yX5_readGait
  | 8 => yX5_readShe
  | 9 => yX5_readRow
  | 10 => yX5_isGait
  | 11 => yX5_readNumber
  | 12 => yX5_readSemicolon
  | 13 => yX5_takeOnce
  | 14 => yX5_takeCounted
  | 15 => yX5_refuse
  | 16 => yX5_beginToken
  | 17 => yX5_wordEnd
  | 18 => yX5_isWord
  | 19 => yX5_byteAt
  | 20 => yX5_isLetter
  | _ => yX5_isFigure
def mY6 : Nat → MethodName := fun k => match k with
  | 0 => yX6_beginUntold
  | 1 => yX6_copyFrom
  | 2 => yX6_hasHouse
  | 3 => yX6_hasGirl
  | 4 => yX6_addHouse
  | 5 => yX6_addWay
  | 6 => yX6_addGirl
  | 7 => yX6_setLetter
  | 8 => yX6_letterOf
  | 9 => yX6_waysFrom
  | 10 => yX6_reachedFrom
  | 11 => yX6_isAfternoon
  | 12 => yX6_glassAfter
  | _ => yX6_fitsGlass
def mY7 : Nat → MethodName := fun k => match k with
  | 0 => yX7_fewestHours
  | 1 => yX7_measureDistances
  | 2 => yX7_nearTo
  | 3 => yX7_houseBehind
  | _ => yX7_leastHouseInTime
def mY8 : Nat → MethodName := fun k => match k with
  | 0 => yX8_feed
  | 1 => yX8_list
  | 2 => yX8_fault
  | 3 => yX8_told
  | 4 => yX8_toldByTheList
  | 5 => yX8_toldByTheNight
  | 6 => yX8_house
  | 7 => yX8_girlsIn
  | 8 => yX8_girl
  | 9 => yX8_foot
  | 10 => yX8_pass
  | 11 => yX8_go
  | 12 => yX8_attempt
  | 13 => yX8_tryOn
  | 14 => yX8_soak
  | 15 => yX8_pad
  | 16 => yX8_move
  | 17 => yX8_drift
  | 18 => yX8_sheWanders
  | 19 => yX8_memberOf
  | 20 => yX8_someoneMaySoak
  | 21 => yX8_round
  | 22 => yX8_chase
  | 23 => yX8_fewest
  | 24 => yX8_rule
  | 25 => yX8_isRule
  | 26 => yX8_passes
  | 27 => yX8_apart
  | 28 => yX8_worn
  | 29 => yX8_areTwoGirls
  | 30 => yX8_sisters
  | 31 => yX8_odds
  | 32 => yX8_see
  | 33 => yX8_could
  | 34 => yX8_whoCould
  | 35 => yX8_allSeenIsSo
  | 36 => yX8_next
  | 37 => yX8_fittingOf
  | 38 => yX8_step
  | 39 => yX8_walker
  | 40 => yX8_couldWalk
  | 41 => yX8_walksFrom
  | 42 => yX8_write
  | 43 => yX8_tear
  | 44 => yX8_judge
  | 45 => yX8_seed
  | 46 => yX8_keep
  | 47 => yX8_goBack
  | 48 => yX8_has
  | _ => yX8_isHourOfDay
def mY9 : Nat → MethodName := fun k => match k with
  | 0 => yX9_in
  | 1 => yX9_one
  | 2 => yX9_has
  | 3 => yX9_ones
  | 4 => yX9_feed
  | 5 => yX9_here
  | 6 => yX9_want
  | 7 => yX9_takeWord
  | 8 => yX9_isWord
  | 9 => yX9_takeNumber
  | 10 => yX9_takeShoe
  | 11 => yX9_takeNoon
  | 12 => yX9_takeShe
  | 13 => yX9_takeHouse
  | 14 => yX9_takeWay
  | 15 => yX9_takeGirl
  | 16 => yX9_isRow
  | 17 => yX9_takeGait
  | 18 => yX9_takeClause
  | 19 => yX9_list
  | 20 => yX9_fault
  | 21 => yX9_isHouse
  | 22 => yX9_isGirl
  | 23 => yX9_footBy
  | 24 => yX9_isSoaked
  | 25 => yX9_footAt
  | 26 => yX9_glassBy
  | 27 => yX9_fits
  | 28 => yX9_glassNow
  | 29 => yX9_told
  | 30 => yX9_inHouse
  | 31 => yX9_house
  | 32 => yX9_wetFor
  | 33 => yX9_girl
  | 34 => yX9_foot
  | 35 => yX9_pass
  | 36 => yX9_go
  | 37 => yX9_attempt
  | 38 => yX9_soak
  | 39 => yX9_pad
  | 40 => yX9_move
  | 41 => yX9_draw
  | 42 => yX9_sheGoes
  | 43 => yX9_drift
  | 44 => yX9_findFar
  | 45 => yX9_soonest
  | 46 => yX9_round
  | 47 => yX9_mayGo
  | 48 => yX9_place
  | 49 => yX9_worst
  | 50 => yX9_bestTurn
  | 51 => yX9_findTurns
  | 52 => yX9_chaseOf
  | 53 => yX9_chase
  | 54 => yX9_fewest
  | 55 => yX9_passes
  | 56 => yX9_isRule
  | 57 => yX9_rule
  | 58 => yX9_fitsDry
  | 59 => yX9_apart
  | 60 => yX9_worn
  | 61 => yX9_winner
  | 62 => yX9_chooses
  | 63 => yX9_sisters
  | 64 => yX9_odds
  | 65 => yX9_see
  | 66 => yX9_could
  | 67 => yX9_next
  | 68 => yX9_step
  | 69 => yX9_walks
  | 70 => yX9_walker
  | 71 => yX9_write
  | 72 => yX9_tear
  | 73 => yX9_judge
  | 74 => yX9_seed
  | 75 => yX9_copy
  | 76 => yX9_keep
  | _ => yX9_goBack
def mY10 : Nat → MethodName := fun k => match k with
  | 0 => yJ0_length_8abf5
  | _ => yJ0_charAt_5068e
def mY11 : Nat → MethodName := fun k => match k with
  | _ => yJ6_bitCount_0f7a4
def mY12 : Nat → MethodName := fun k => match k with
  | 0 => yJ9_floorMod_7cf53
  | 1 => yJ9_max_7cf53
  | _ => yJ9_min_7cf53
def mY (i : Nat) : MethodName := match i / 100 with
  | 0 => mY0 (i % 100)
  | 1 => mY1 (i % 100)
  | 2 => mY2 (i % 100)
  | 3 => mY3 (i % 100)
  | 4 => mY4 (i % 100)
  | 5 => mY5 (i % 100)
  | 6 => mY6 (i % 100)
  | 7 => mY7 (i % 100)
  | 8 => mY8 (i % 100)
  | 9 => mY9 (i % 100)
  | 10 => mY10 (i % 100)
  | 11 => mY11 (i % 100)
  | _ => mY12 (i % 100)
def mB0 : Nat → ByteArray := fun k => match k with
  | 0 => cX0_play
  | 1 => cX0_playRound
  | 2 => cX0_takeWinningHour
  | _ => cX0_winner
def mB1 : Nat → ByteArray := fun k => match k with
  | 0 => cX1_fewestTurns
  | 1 => cX1_begin
  | 2 => cX1_meetsAnywhere
  | 3 => cX1_lookHerTurn
  | 4 => cX1_hersWithoutEscape
  | 5 => cX1_lookTheirTurn
  | 6 => cX1_metByGoing
  | _ => cX1_metByGoingTo
def mB2 : Nat → ByteArray := fun k => match k with
  | 0 => cX2_unswollenFoot
  | 1 => cX2_bareFoot
  | 2 => cX2_paddingOf
  | 3 => cX2_dryFoot
  | 4 => cX2_footThen
  | 5 => cX2_isWet
  | 6 => cX2_wetHoursLeft
  | 7 => cX2_glassNow
  | 8 => cX2_fitsThen
  | 9 => cX2_dryFitHours
  | 10 => cX2_fitsBare
  | 11 => cX2_leastPadding
  | 12 => cX2_fewestTries
  | _ => cX2_eighthsThatFit
def mB3 : Nat → ByteArray := fun k => match k with
  | 0 => cX3_beginWith
  | 1 => cX3_copyFrom
  | _ => cX3_draw
def mB4 : Nat → ByteArray := fun k => match k with
  | _ => cX4_forgetAll
def mB5 : Nat → ByteArray := fun k => match k with
  | 0 => cX5_readInto
  | 1 => cX5_readClause
  | 2 => cX5_readShoe
  | 3 => cX5_readNoon
  | 4 => cX5_readHouse
  | 5 => cX5_readWay
  | 6 => cX5_readGirl
  | 7 => cX5_readGait
  | 8 => cX5_readShe
  | 9 => cX5_readRow
  | 10 => cX5_isGait
  | 11 => cX5_readNumber
  | 12 => cX5_readSemicolon
  | 13 => cX5_takeOnce
  | 14 => cX5_takeCounted
  | 15 => cX5_refuse
  | 16 => cX5_beginToken
  | 17 => cX5_wordEnd
  | 18 => cX5_isWord
  | 19 => cX5_byteAt
  | 20 => cX5_isLetter
  | _ => cX5_isFigure
def mB6 : Nat → ByteArray := fun k => match k with
  | 0 => cX6_beginUntold
  | 1 => cX6_copyFrom
  | 2 => cX6_hasHouse
  | 3 => cX6_hasGirl
  | 4 => cX6_addHouse
  | 5 => cX6_addWay
  | 6 => cX6_addGirl
  | 7 => cX6_setLetter
  | 8 => cX6_letterOf
  | 9 => cX6_waysFrom
  | 10 => cX6_reachedFrom
  | 11 => cX6_isAfternoon
  | 12 => cX6_glassAfter
  | _ => cX6_fitsGlass
def mB7 : Nat → ByteArray := fun k => match k with
  | 0 => cX7_fewestHours
  | 1 => cX7_measureDistances
  | 2 => cX7_nearTo
  | 3 => cX7_houseBehind
  | _ => cX7_leastHouseInTime
def mB8 : Nat → ByteArray := fun k => match k with
  | 0 => cX8_feed
  | 1 => cX8_list
  | 2 => cX8_fault
  | 3 => cX8_told
  | 4 => cX8_toldByTheList
  | 5 => cX8_toldByTheNight
  | 6 => cX8_house
  | 7 => cX8_girlsIn
  | 8 => cX8_girl
  | 9 => cX8_foot
  | 10 => cX8_pass
  | 11 => cX8_go
  | 12 => cX8_attempt
  | 13 => cX8_tryOn
  | 14 => cX8_soak
  | 15 => cX8_pad
  | 16 => cX8_move
  | 17 => cX8_drift
  | 18 => cX8_sheWanders
  | 19 => cX8_memberOf
  | 20 => cX8_someoneMaySoak
  | 21 => cX8_round
  | 22 => cX8_chase
  | 23 => cX8_fewest
  | 24 => cX8_rule
  | 25 => cX8_isRule
  | 26 => cX8_passes
  | 27 => cX8_apart
  | 28 => cX8_worn
  | 29 => cX8_areTwoGirls
  | 30 => cX8_sisters
  | 31 => cX8_odds
  | 32 => cX8_see
  | 33 => cX8_could
  | 34 => cX8_whoCould
  | 35 => cX8_allSeenIsSo
  | 36 => cX8_next
  | 37 => cX8_fittingOf
  | 38 => cX8_step
  | 39 => cX8_walker
  | 40 => cX8_couldWalk
  | 41 => cX8_walksFrom
  | 42 => cX8_write
  | 43 => cX8_tear
  | 44 => cX8_judge
  | 45 => cX8_seed
  | 46 => cX8_keep
  | 47 => cX8_goBack
  | 48 => cX8_has
  | _ => cX8_isHourOfDay
def mB9 : Nat → ByteArray := fun k => match k with
  | 0 => cX9_in
  | 1 => cX9_one
  | 2 => cX9_has
  | 3 => cX9_ones
  | 4 => cX9_feed
  | 5 => cX9_here
  | 6 => cX9_want
  | 7 => cX9_takeWord
  | 8 => cX9_isWord
  | 9 => cX9_takeNumber
  | 10 => cX9_takeShoe
  | 11 => cX9_takeNoon
  | 12 => cX9_takeShe
  | 13 => cX9_takeHouse
  | 14 => cX9_takeWay
  | 15 => cX9_takeGirl
  | 16 => cX9_isRow
  | 17 => cX9_takeGait
  | 18 => cX9_takeClause
  | 19 => cX9_list
  | 20 => cX9_fault
  | 21 => cX9_isHouse
  | 22 => cX9_isGirl
  | 23 => cX9_footBy
  | 24 => cX9_isSoaked
  | 25 => cX9_footAt
  | 26 => cX9_glassBy
  | 27 => cX9_fits
  | 28 => cX9_glassNow
  | 29 => cX9_told
  | 30 => cX9_inHouse
  | 31 => cX9_house
  | 32 => cX9_wetFor
  | 33 => cX9_girl
  | 34 => cX9_foot
  | 35 => cX9_pass
  | 36 => cX9_go
  | 37 => cX9_attempt
  | 38 => cX9_soak
  | 39 => cX9_pad
  | 40 => cX9_move
  | 41 => cX9_draw
  | 42 => cX9_sheGoes
  | 43 => cX9_drift
  | 44 => cX9_findFar
  | 45 => cX9_soonest
  | 46 => cX9_round
  | 47 => cX9_mayGo
  | 48 => cX9_place
  | 49 => cX9_worst
  | 50 => cX9_bestTurn
  | 51 => cX9_findTurns
  | 52 => cX9_chaseOf
  | 53 => cX9_chase
  | 54 => cX9_fewest
  | 55 => cX9_passes
  | 56 => cX9_isRule
  | 57 => cX9_rule
  | 58 => cX9_fitsDry
  | 59 => cX9_apart
  | 60 => cX9_worn
  | 61 => cX9_winner
  | 62 => cX9_chooses
  | 63 => cX9_sisters
  | 64 => cX9_odds
  | 65 => cX9_see
  | 66 => cX9_could
  | 67 => cX9_next
  | 68 => cX9_step
  | 69 => cX9_walks
  | 70 => cX9_walker
  | 71 => cX9_write
  | 72 => cX9_tear
  | 73 => cX9_judge
  | 74 => cX9_seed
  | 75 => cX9_copy
  | 76 => cX9_keep
  | _ => cX9_goBack
def mB10 : Nat → ByteArray := fun k => match k with
  | 0 => cJ0_length_8abf5
  | _ => cJ0_charAt_5068e
def mB11 : Nat → ByteArray := fun k => match k with
  | _ => cJ6_bitCount_0f7a4
def mB12 : Nat → ByteArray := fun k => match k with
  | 0 => cJ9_floorMod_7cf53
  | 1 => cJ9_max_7cf53
  | _ => cJ9_min_7cf53
def mB (i : Nat) : ByteArray := match i / 100 with
  | 0 => mB0 (i % 100)
  | 1 => mB1 (i % 100)
  | 2 => mB2 (i % 100)
  | 3 => mB3 (i % 100)
  | 4 => mB4 (i % 100)
  | 5 => mB5 (i % 100)
  | 6 => mB6 (i % 100)
  | 7 => mB7 (i % 100)
  | 8 => mB8 (i % 100)
  | 9 => mB9 (i % 100)
  | 10 => mB10 (i % 100)
  | 11 => mB11 (i % 100)
  | _ => mB12 (i % 100)
def mL0 : Nat → Nat := fun k => match k with
  | 0 => 2
  | 1 => 3
  | 2 => 4
  | _ => 4
def mL1 : Nat → Nat := fun k => match k with
  | 0 => 4
  | 1 => 3
  | 2 => 6
  | 3 => 4
  | 4 => 4
  | 5 => 7
  | 6 => 6
  | _ => 6
def mL2 : Nat → Nat := fun k => match k with
  | 0 => 3
  | 1 => 4
  | 2 => 2
  | 3 => 3
  | 4 => 4
  | 5 => 3
  | 6 => 2
  | 7 => 1
  | 8 => 3
  | 9 => 5
  | 10 => 3
  | 11 => 7
  | 12 => 7
  | _ => 6
def mL3 : Nat → Nat := fun k => match k with
  | 0 => 3
  | 1 => 2
  | _ => 2
def mL4 : Nat → Nat := fun k => match k with
  | _ => 1
def mL5 : Nat → Nat := fun k => match k with
  | 0 => 3
  | 1 => 3
  | 2 => 2
  | 3 => 2
  | 4 => 3
  | 5 => 4
  | 6 => 6
  | 7 => 3
  | 8 => 2
  | 9 => 5
  | 10 => 3
  | 11 => 6
  | 12 => 1
  | 13 => 3
  | 14 => 4
  | 15 => 2
  | 16 => 1
  | 17 => 2
  | 18 => 4
  | 19 => 2
  | 20 => 1
  | _ => 1
def mL6 : Nat → Nat := fun k => match k with
  | 0 => 1
  | 1 => 2
  | 2 => 2
  | 3 => 2
  | 4 => 2
  | 5 => 3
  | 6 => 5
  | 7 => 4
  | 8 => 3
  | 9 => 2
  | 10 => 2
  | 11 => 2
  | 12 => 2
  | _ => 3
def mL7 : Nat → Nat := fun k => match k with
  | 0 => 5
  | 1 => 6
  | 2 => 4
  | 3 => 5
  | _ => 5
def mL8 : Nat → Nat := fun k => match k with
  | 0 => 2
  | 1 => 1
  | 2 => 1
  | 3 => 2
  | 4 => 2
  | 5 => 2
  | 6 => 3
  | 7 => 4
  | 8 => 3
  | 9 => 3
  | 10 => 2
  | 11 => 2
  | 12 => 3
  | 13 => 3
  | 14 => 3
  | 15 => 4
  | 16 => 4
  | 17 => 3
  | 18 => 4
  | 19 => 5
  | 20 => 2
  | 21 => 4
  | 22 => 2
  | 23 => 1
  | 24 => 5
  | 25 => 5
  | 26 => 4
  | 27 => 3
  | 28 => 4
  | 29 => 3
  | 30 => 4
  | 31 => 7
  | 32 => 3
  | 33 => 1
  | 34 => 3
  | 35 => 3
  | 36 => 8
  | 37 => 5
  | 38 => 2
  | 39 => 3
  | 40 => 3
  | 41 => 4
  | 42 => 4
  | 43 => 2
  | 44 => 3
  | 45 => 3
  | 46 => 2
  | 47 => 2
  | 48 => 2
  | _ => 1
def mL9 : Nat → Nat := fun k => match k with
  | 0 => 6
  | 1 => 1
  | 2 => 2
  | 3 => 3
  | 4 => 2
  | 5 => 1
  | 6 => 4
  | 7 => 2
  | 8 => 9
  | 9 => 6
  | 10 => 2
  | 11 => 2
  | 12 => 2
  | 13 => 2
  | 14 => 4
  | 15 => 3
  | 16 => 3
  | 17 => 3
  | 18 => 2
  | 19 => 2
  | 20 => 1
  | 21 => 2
  | 22 => 2
  | 23 => 5
  | 24 => 3
  | 25 => 4
  | 26 => 2
  | 27 => 3
  | 28 => 1
  | 29 => 2
  | 30 => 4
  | 31 => 3
  | 32 => 3
  | 33 => 3
  | 34 => 3
  | 35 => 2
  | 36 => 2
  | 37 => 4
  | 38 => 3
  | 39 => 4
  | 40 => 4
  | 41 => 2
  | 42 => 4
  | 43 => 4
  | 44 => 5
  | 45 => 3
  | 46 => 7
  | 47 => 3
  | 48 => 3
  | 49 => 6
  | 50 => 10
  | 51 => 8
  | 52 => 7
  | 53 => 2
  | 54 => 1
  | 55 => 5
  | 56 => 6
  | 57 => 5
  | 58 => 4
  | 59 => 5
  | 60 => 5
  | 61 => 4
  | 62 => 4
  | 63 => 7
  | 64 => 8
  | 65 => 3
  | 66 => 5
  | 67 => 8
  | 68 => 2
  | 69 => 5
  | 70 => 4
  | 71 => 4
  | 72 => 2
  | 73 => 2
  | 74 => 3
  | 75 => 4
  | 76 => 2
  | _ => 2
def mL10 : Nat → Nat := fun k => match k with
  | 0 => 1
  | _ => 2
def mL11 : Nat → Nat := fun k => match k with
  | _ => 1
def mL12 : Nat → Nat := fun k => match k with
  | 0 => 3
  | 1 => 2
  | _ => 2
def mL (i : Nat) : Nat := match i / 100 with
  | 0 => mL0 (i % 100)
  | 1 => mL1 (i % 100)
  | 2 => mL2 (i % 100)
  | 3 => mL3 (i % 100)
  | 4 => mL4 (i % 100)
  | 5 => mL5 (i % 100)
  | 6 => mL6 (i % 100)
  | 7 => mL7 (i % 100)
  | 8 => mL8 (i % 100)
  | 9 => mL9 (i % 100)
  | 10 => mL10 (i % 100)
  | 11 => mL11 (i % 100)
  | _ => mL12 (i % 100)
def mR0 : Nat → Option FieldType := fun k => match k with
  | 0 => (some .int)
  | 1 => (some .boolean)
  | 2 => (some .boolean)
  | _ => (some .int)
def mR1 : Nat → Option FieldType := fun k => match k with
  | 0 => (some .int)
  | 1 => none
  | 2 => (some .boolean)
  | 3 => none
  | 4 => (some .int)
  | 5 => (some .boolean)
  | 6 => (some .int)
  | _ => (some .int)
def mR2 : Nat → Option FieldType := fun k => match k with
  | 0 => (some .int)
  | 1 => (some .int)
  | 2 => (some .int)
  | 3 => (some .int)
  | 4 => (some .int)
  | 5 => (some .boolean)
  | 6 => (some .int)
  | 7 => (some .int)
  | 8 => (some .boolean)
  | 9 => (some .int)
  | 10 => (some .boolean)
  | 11 => (some .int)
  | 12 => (some .int)
  | _ => (some .int)
def mR3 : Nat → Option FieldType := fun k => match k with
  | 0 => none
  | 1 => none
  | _ => (some .int)
def mR4 : Nat → Option FieldType := fun k => match k with
  | _ => none
def mR5 : Nat → Option FieldType := fun k => match k with
  | 0 => (some .boolean)
  | 1 => none
  | 2 => none
  | 3 => none
  | 4 => none
  | 5 => none
  | 6 => none
  | 7 => none
  | 8 => none
  | 9 => none
  | 10 => (some .boolean)
  | 11 => (some .int)
  | 12 => none
  | 13 => none
  | 14 => none
  | 15 => none
  | 16 => none
  | 17 => (some .int)
  | 18 => (some .boolean)
  | 19 => (some .int)
  | 20 => (some .boolean)
  | _ => (some .boolean)
def mR6 : Nat → Option FieldType := fun k => match k with
  | 0 => none
  | 1 => none
  | 2 => (some .boolean)
  | 3 => (some .boolean)
  | 4 => none
  | 5 => none
  | 6 => none
  | 7 => none
  | 8 => (some .int)
  | 9 => (some .int)
  | 10 => (some .int)
  | 11 => (some .boolean)
  | 12 => (some .int)
  | _ => (some .boolean)
def mR7 : Nat → Option FieldType := fun k => match k with
  | 0 => (some .int)
  | 1 => none
  | 2 => (some .int)
  | 3 => (some .int)
  | _ => (some .int)
def mR8 : Nat → Option FieldType := fun k => match k with
  | 0 => (some .int)
  | 1 => (some .int)
  | 2 => (some .int)
  | 3 => (some .int)
  | 4 => (some .int)
  | 5 => (some .int)
  | 6 => (some .int)
  | 7 => (some .int)
  | 8 => (some .int)
  | 9 => (some .int)
  | 10 => (some .int)
  | 11 => (some .int)
  | 12 => (some .int)
  | 13 => (some .boolean)
  | 14 => (some .int)
  | 15 => (some .int)
  | 16 => (some .int)
  | 17 => (some .int)
  | 18 => none
  | 19 => (some .int)
  | 20 => none
  | 21 => (some .int)
  | 22 => (some .int)
  | 23 => (some .int)
  | 24 => (some .int)
  | 25 => (some .boolean)
  | 26 => (some .int)
  | 27 => (some .int)
  | 28 => (some .int)
  | 29 => (some .boolean)
  | 30 => (some .int)
  | 31 => (some .int)
  | 32 => (some .int)
  | 33 => (some .int)
  | 34 => (some .int)
  | 35 => (some .boolean)
  | 36 => (some .int)
  | 37 => (some .int)
  | 38 => (some .int)
  | 39 => (some .int)
  | 40 => (some .boolean)
  | 41 => (some .boolean)
  | 42 => (some .int)
  | 43 => (some .int)
  | 44 => (some .int)
  | 45 => (some .int)
  | 46 => (some .int)
  | 47 => (some .int)
  | 48 => (some .boolean)
  | _ => (some .boolean)
def mR9 : Nat → Option FieldType := fun k => match k with
  | 0 => (some .boolean)
  | 1 => (some .int)
  | 2 => (some .boolean)
  | 3 => (some .int)
  | 4 => (some .int)
  | 5 => (some .int)
  | 6 => (some .boolean)
  | 7 => none
  | 8 => (some .boolean)
  | 9 => (some .int)
  | 10 => none
  | 11 => none
  | 12 => none
  | 13 => none
  | 14 => none
  | 15 => none
  | 16 => (some .boolean)
  | 17 => none
  | 18 => none
  | 19 => (some .int)
  | 20 => (some .int)
  | 21 => (some .boolean)
  | 22 => (some .boolean)
  | 23 => (some .int)
  | 24 => (some .boolean)
  | 25 => (some .int)
  | 26 => (some .int)
  | 27 => (some .boolean)
  | 28 => (some .int)
  | 29 => (some .int)
  | 30 => (some .int)
  | 31 => (some .int)
  | 32 => (some .int)
  | 33 => (some .int)
  | 34 => (some .int)
  | 35 => (some .int)
  | 36 => (some .int)
  | 37 => (some .int)
  | 38 => (some .int)
  | 39 => (some .int)
  | 40 => (some .int)
  | 41 => (some .int)
  | 42 => none
  | 43 => (some .int)
  | 44 => none
  | 45 => (some .int)
  | 46 => (some .int)
  | 47 => (some .boolean)
  | 48 => (some .int)
  | 49 => (some .int)
  | 50 => (some .int)
  | 51 => none
  | 52 => (some .int)
  | 53 => (some .int)
  | 54 => (some .int)
  | 55 => (some .int)
  | 56 => (some .boolean)
  | 57 => (some .int)
  | 58 => (some .boolean)
  | 59 => (some .int)
  | 60 => (some .int)
  | 61 => (some .int)
  | 62 => (some .boolean)
  | 63 => (some .int)
  | 64 => (some .int)
  | 65 => (some .int)
  | 66 => (some .int)
  | 67 => (some .int)
  | 68 => (some .int)
  | 69 => (some .boolean)
  | 70 => (some .int)
  | 71 => (some .int)
  | 72 => (some .int)
  | 73 => (some .int)
  | 74 => (some .int)
  | 75 => none
  | 76 => (some .int)
  | _ => (some .int)
def mR10 : Nat → Option FieldType := fun k => match k with
  | 0 => (some .int)
  | _ => (some .char)
def mR11 : Nat → Option FieldType := fun k => match k with
  | _ => (some .int)
def mR12 : Nat → Option FieldType := fun k => match k with
  | 0 => (some .int)
  | 1 => (some .int)
  | _ => (some .int)
def mR (i : Nat) : Option FieldType := match i / 100 with
  | 0 => mR0 (i % 100)
  | 1 => mR1 (i % 100)
  | 2 => mR2 (i % 100)
  | 3 => mR3 (i % 100)
  | 4 => mR4 (i % 100)
  | 5 => mR5 (i % 100)
  | 6 => mR6 (i % 100)
  | 7 => mR7 (i % 100)
  | 8 => mR8 (i % 100)
  | 9 => mR9 (i % 100)
  | 10 => mR10 (i % 100)
  | 11 => mR11 (i % 100)
  | _ => mR12 (i % 100)
def mO (i : Nat) : Nat := i / 100
def cN : Nat → String := fun k => match k with
  | 0 => RX0
  | 1 => RX1
  | 2 => RX2
  | 3 => RX3
  | 4 => RX4
  | 5 => RX5
  | 6 => RX6
  | 7 => RX7
  | 8 => RX8
  | 9 => RX9
  | 10 => RJ0
  | 11 => RJ6
  | _ => RJ9
def mF0 : Nat → Nat := fun k => match k with
  | 0 => 5
  | 1 => 3
  | 2 => 2
  | _ => 1
def mF1 : Nat → Nat := fun k => match k with
  | 0 => 5
  | 1 => 0
  | 2 => 0
  | 3 => 3
  | 4 => 2
  | 5 => 4
  | 6 => 3
  | _ => 2
def mF2 : Nat → Nat := fun k => match k with
  | 0 => 0
  | 1 => 2
  | 2 => 1
  | 3 => 3
  | 4 => 4
  | 5 => 1
  | 6 => 2
  | 7 => 1
  | 8 => 5
  | 9 => 4
  | 10 => 3
  | 11 => 3
  | 12 => 1
  | _ => 4
def mF3 : Nat → Nat := fun k => match k with
  | 0 => 0
  | 1 => 1
  | _ => 0
def mF4 : Nat → Nat := fun k => match k with
  | _ => 0
def mF5 : Nat → Nat := fun k => match k with
  | 0 => 6
  | 1 => 5
  | 2 => 3
  | 3 => 3
  | 4 => 3
  | 5 => 3
  | 6 => 3
  | 7 => 3
  | 8 => 3
  | 9 => 2
  | 10 => 1
  | 11 => 2
  | 12 => 2
  | 13 => 1
  | 14 => 1
  | 15 => 0
  | 16 => 1
  | 17 => 1
  | 18 => 4
  | 19 => 0
  | 20 => 0
  | _ => 0
def mF6 : Nat → Nat := fun k => match k with
  | 0 => 0
  | 1 => 1
  | 2 => 0
  | 3 => 0
  | 4 => 0
  | 5 => 1
  | 6 => 0
  | 7 => 1
  | 8 => 1
  | 9 => 1
  | 10 => 1
  | 11 => 1
  | 12 => 0
  | _ => 0
def mF7 : Nat → Nat := fun k => match k with
  | 0 => 6
  | 1 => 3
  | 2 => 2
  | 3 => 3
  | _ => 2
def mF8 : Nat → Nat := fun k => match k with
  | 0 => 0
  | 1 => 7
  | 2 => 0
  | 3 => 3
  | 4 => 0
  | 5 => 2
  | 6 => 1
  | 7 => 0
  | 8 => 6
  | 9 => 5
  | 10 => 0
  | 11 => 2
  | 12 => 7
  | 13 => 6
  | 14 => 2
  | 15 => 1
  | 16 => 1
  | 17 => 3
  | 18 => 2
  | 19 => 1
  | 20 => 1
  | 21 => 7
  | 22 => 6
  | 23 => 6
  | 24 => 5
  | 25 => 4
  | 26 => 4
  | 27 => 5
  | 28 => 4
  | 29 => 1
  | 30 => 6
  | 31 => 5
  | 32 => 1
  | 33 => 6
  | 34 => 5
  | 35 => 4
  | 36 => 6
  | 37 => 4
  | 38 => 0
  | 39 => 4
  | 40 => 3
  | 41 => 2
  | 42 => 1
  | 43 => 1
  | 44 => 4
  | 45 => 0
  | 46 => 2
  | 47 => 2
  | 48 => 0
  | _ => 0
def mF9 : Nat → Nat := fun k => match k with
  | 0 => 0
  | 1 => 0
  | 2 => 0
  | 3 => 0
  | 4 => 1
  | 5 => 0
  | 6 => 0
  | 7 => 1
  | 8 => 0
  | 9 => 1
  | 10 => 2
  | 11 => 2
  | 12 => 2
  | 13 => 2
  | 14 => 2
  | 15 => 2
  | 16 => 1
  | 17 => 2
  | 18 => 3
  | 19 => 4
  | 20 => 0
  | 21 => 1
  | 22 => 1
  | 23 => 0
  | 24 => 1
  | 25 => 2
  | 26 => 0
  | 27 => 1
  | 28 => 1
  | 29 => 2
  | 30 => 1
  | 31 => 2
  | 32 => 0
  | 33 => 3
  | 34 => 3
  | 35 => 1
  | 36 => 2
  | 37 => 3
  | 38 => 2
  | 39 => 2
  | 40 => 2
  | 41 => 0
  | 42 => 1
  | 43 => 2
  | 44 => 1
  | 45 => 3
  | 46 => 4
  | 47 => 1
  | 48 => 0
  | 49 => 2
  | 50 => 3
  | 51 => 4
  | 52 => 5
  | 53 => 6
  | 54 => 6
  | 55 => 2
  | 56 => 3
  | 57 => 4
  | 58 => 2
  | 59 => 3
  | 60 => 3
  | 61 => 3
  | 62 => 4
  | 63 => 5
  | 64 => 2
  | 65 => 1
  | 66 => 2
  | 67 => 3
  | 68 => 1
  | 69 => 0
  | 70 => 1
  | 71 => 2
  | 72 => 0
  | 73 => 3
  | 74 => 0
  | 75 => 0
  | 76 => 1
  | _ => 1
def mF10 : Nat → Nat := fun k => match k with
  | 0 => 1
  | _ => 3
def mF11 : Nat → Nat := fun k => match k with
  | _ => 0
def mF12 : Nat → Nat := fun k => match k with
  | 0 => 0
  | 1 => 0
  | _ => 0
def mF (i : Nat) : Nat := match i / 100 with
  | 0 => mF0 (i % 100)
  | 1 => mF1 (i % 100)
  | 2 => mF2 (i % 100)
  | 3 => mF3 (i % 100)
  | 4 => mF4 (i % 100)
  | 5 => mF5 (i % 100)
  | 6 => mF6 (i % 100)
  | 7 => mF7 (i % 100)
  | 8 => mF8 (i % 100)
  | 9 => mF9 (i % 100)
  | 10 => mF10 (i % 100)
  | 11 => mF11 (i % 100)
  | _ => mF12 (i % 100)
def mW0 : Nat → Nat := fun k => match k with
  | 0 => 112
  | 1 => 67
  | 2 => 44
  | _ => 21
def mW1 : Nat → Nat := fun k => match k with
  | 0 => 118
  | 1 => 0
  | 2 => 0
  | 3 => 65
  | 4 => 42
  | 5 => 92
  | 6 => 67
  | _ => 42
def mW2 : Nat → Nat := fun k => match k with
  | 0 => 0
  | 1 => 43
  | 2 => 21
  | 3 => 66
  | 4 => 88
  | 5 => 21
  | 6 => 43
  | 7 => 21
  | 8 => 111
  | 9 => 88
  | 10 => 66
  | 11 => 66
  | 12 => 22
  | _ => 88
def mW3 : Nat → Nat := fun k => match k with
  | 0 => 0
  | 1 => 30
  | _ => 0
def mW4 : Nat → Nat := fun k => match k with
  | _ => 0
def mW5 : Nat → Nat := fun k => match k with
  | 0 => 130
  | 1 => 108
  | 2 => 66
  | 3 => 66
  | 4 => 66
  | 5 => 66
  | 6 => 66
  | 7 => 68
  | 8 => 66
  | 9 => 44
  | 10 => 21
  | 11 => 41
  | 12 => 41
  | 13 => 21
  | 14 => 21
  | 15 => 0
  | 16 => 21
  | 17 => 21
  | 18 => 85
  | 19 => 0
  | 20 => 0
  | _ => 0
def mW6 : Nat → Nat := fun k => match k with
  | 0 => 0
  | 1 => 30
  | 2 => 0
  | 3 => 0
  | 4 => 0
  | 5 => 21
  | 6 => 0
  | 7 => 21
  | 8 => 21
  | 9 => 21
  | 10 => 21
  | 11 => 22
  | 12 => 0
  | _ => 0
def mW7 : Nat → Nat := fun k => match k with
  | 0 => 133
  | 1 => 65
  | 2 => 42
  | 3 => 66
  | _ => 42
def mW8 : Nat → Nat := fun k => match k with
  | 0 => 0
  | 1 => 152
  | 2 => 0
  | 3 => 62
  | 4 => 0
  | 5 => 41
  | 6 => 23
  | 7 => 0
  | 8 => 133
  | 9 => 111
  | 10 => 0
  | 11 => 42
  | 12 => 155
  | 13 => 133
  | 14 => 43
  | 15 => 21
  | 16 => 21
  | 17 => 68
  | 18 => 45
  | 19 => 21
  | 20 => 21
  | 21 => 157
  | 22 => 141
  | 23 => 141
  | 24 => 116
  | 25 => 92
  | 26 => 92
  | 27 => 112
  | 28 => 88
  | 29 => 21
  | 30 => 133
  | 31 => 113
  | 32 => 20
  | 33 => 132
  | 34 => 110
  | 35 => 88
  | 36 => 132
  | 37 => 88
  | 38 => 0
  | 39 => 88
  | 40 => 66
  | 41 => 43
  | 42 => 21
  | 43 => 20
  | 44 => 88
  | 45 => 0
  | 46 => 51
  | 47 => 51
  | 48 => 0
  | _ => 0
def mW9 : Nat → Nat := fun k => match k with
  | 0 => 0
  | 1 => 0
  | 2 => 0
  | 3 => 0
  | 4 => 25
  | 5 => 0
  | 6 => 0
  | 7 => 25
  | 8 => 0
  | 9 => 25
  | 10 => 50
  | 11 => 50
  | 12 => 50
  | 13 => 50
  | 14 => 50
  | 15 => 50
  | 16 => 25
  | 17 => 50
  | 18 => 73
  | 19 => 94
  | 20 => 0
  | 21 => 25
  | 22 => 25
  | 23 => 0
  | 24 => 25
  | 25 => 47
  | 26 => 0
  | 27 => 25
  | 28 => 21
  | 29 => 41
  | 30 => 20
  | 31 => 46
  | 32 => 0
  | 33 => 70
  | 34 => 70
  | 35 => 25
  | 36 => 46
  | 37 => 70
  | 38 => 47
  | 39 => 46
  | 40 => 46
  | 41 => 0
  | 42 => 22
  | 43 => 45
  | 44 => 21
  | 45 => 70
  | 46 => 92
  | 47 => 21
  | 48 => 0
  | 49 => 43
  | 50 => 68
  | 51 => 97
  | 52 => 124
  | 53 => 150
  | 54 => 150
  | 55 => 47
  | 56 => 71
  | 57 => 96
  | 58 => 47
  | 59 => 70
  | 60 => 70
  | 61 => 70
  | 62 => 93
  | 63 => 116
  | 64 => 47
  | 65 => 25
  | 66 => 47
  | 67 => 71
  | 68 => 25
  | 69 => 0
  | 70 => 24
  | 71 => 46
  | 72 => 0
  | 73 => 70
  | 74 => 0
  | 75 => 0
  | 76 => 25
  | _ => 25
def mW10 : Nat → Nat := fun k => match k with
  | 0 => 20
  | _ => 64
def mW11 : Nat → Nat := fun k => match k with
  | _ => 0
def mW12 : Nat → Nat := fun k => match k with
  | 0 => 0
  | 1 => 0
  | _ => 0
def mW (i : Nat) : Nat := match i / 100 with
  | 0 => mW0 (i % 100)
  | 1 => mW1 (i % 100)
  | 2 => mW2 (i % 100)
  | 3 => mW3 (i % 100)
  | 4 => mW4 (i % 100)
  | 5 => mW5 (i % 100)
  | 6 => mW6 (i % 100)
  | 7 => mW7 (i % 100)
  | 8 => mW8 (i % 100)
  | 9 => mW9 (i % 100)
  | 10 => mW10 (i % 100)
  | 11 => mW11 (i % 100)
  | _ => mW12 (i % 100)
def flT : List (Nat × Nat × Nat × Nat × Nat) := [(5, 9, 5, 0, 115), (8, 87, 5, 0, 116), (8, 83, 5, 1, 117), (5, 50, 5, 1, 118), (5, 19, 5, 2, 119), (8, 95, 5, 2, 120), (5, 15, 5, 3, 121), (8, 110, 5, 3, 122), (5, 22, 5, 4, 123), (5, 165, 5, 5, 124), (5, 25, 5, 6, 125), (5, 28, 5, 7, 126), (6, 9, 6, 0, 155), (2, 30, 6, 0, 156), (8, 175, 6, 0, 157), (6, 15, 6, 1, 158), (8, 178, 6, 1, 159), (6, 18, 6, 2, 160), (3, 21, 6, 2, 161), (6, 21, 6, 3, 162), (2, 25, 6, 3, 163), (8, 190, 6, 3, 164), (6, 24, 6, 4, 165), (2, 40, 6, 4, 166), (8, 192, 6, 4, 167), (6, 27, 6, 5, 168), (8, 195, 6, 5, 169), (2, 98, 6, 5, 170), (6, 30, 6, 6, 171), (6, 33, 6, 7, 172), (8, 212, 6, 7, 173), (6, 39, 6, 8, 174), (1, 35, 6, 8, 175), (5, 118, 6, 8, 176), (8, 120, 6, 8, 177), (6, 43, 6, 9, 178), (8, 123, 6, 9, 179), (5, 128, 6, 9, 180), (0, 28, 6, 10, 181), (6, 46, 6, 10, 182), (8, 107, 6, 10, 183), (5, 141, 6, 10, 184), (6, 49, 6, 11, 185), (5, 108, 6, 11, 186), (8, 126, 6, 11, 187), (2, 92, 6, 11, 188), (6, 52, 6, 12, 189), (5, 110, 6, 12, 190), (8, 129, 6, 12, 191), (6, 55, 6, 13, 192), (5, 113, 6, 13, 193), (8, 132, 6, 13, 194), (2, 95, 6, 13, 195), (6, 58, 6, 14, 196), (5, 116, 6, 14, 197), (8, 135, 6, 14, 198), (6, 61, 6, 15, 199), (8, 138, 6, 15, 200), (5, 152, 6, 15, 201), (3, 9, 3, 0, 241), (2, 19, 3, 0, 242), (7, 44, 3, 0, 243), (8, 184, 3, 0, 244), (3, 15, 3, 1, 245), (2, 47, 3, 1, 246), (8, 198, 3, 1, 247), (3, 18, 3, 2, 248), (2, 69, 3, 2, 249), (8, 234, 3, 2, 250), (3, 24, 3, 3, 251), (7, 51, 3, 3, 252), (8, 141, 3, 3, 253), (2, 72, 3, 3, 254), (7, 35, 3, 4, 255), (3, 28, 3, 4, 256), (8, 144, 3, 4, 257), (3, 31, 3, 5, 258), (8, 154, 3, 5, 259), (3, 34, 3, 6, 260), (8, 157, 3, 6, 261), (3, 38, 3, 7, 262), (8, 147, 3, 7, 263), (2, 76, 3, 7, 264), (3, 47, 3, 8, 265), (8, 345, 3, 8, 266), (2, 9, 2, 0, 293), (7, 19, 2, 0, 294), (0, 22, 2, 0, 295), (2, 15, 2, 1, 296), (7, 25, 2, 1, 297), (4, 9, 4, 0, 309), (8, 302, 4, 0, 310), (4, 15, 4, 1, 311), (8, 305, 4, 1, 312), (4, 31, 4, 2, 313), (8, 161, 4, 2, 314), (4, 19, 4, 3, 315), (8, 321, 4, 3, 316), (4, 35, 4, 4, 317), (8, 164, 4, 4, 318), (4, 22, 4, 5, 319), (8, 333, 4, 5, 320), (4, 25, 4, 6, 321), (8, 336, 4, 6, 322), (4, 28, 4, 7, 323), (8, 339, 4, 7, 324), (4, 38, 4, 8, 325), (8, 167, 4, 8, 326), (7, 9, 7, 0, 353), (7, 15, 7, 1, 354), (1, 9, 1, 0, 366), (1, 15, 1, 1, 367), (1, 19, 1, 2, 368), (0, 9, 0, 0, 382), (0, 15, 0, 1, 383), (8, 296, 0, 1, 384), (0, 19, 0, 2, 385), (8, 10, 8, 0, 393), (8, 19, 8, 1, 394), (8, 23, 8, 2, 395), (8, 29, 8, 3, 396), (8, 33, 8, 4, 397), (8, 37, 8, 5, 398), (8, 46, 8, 6, 399), (8, 53, 8, 7, 400), (8, 62, 8, 8, 401), (8, 71, 8, 9, 402), (8, 78, 8, 10, 403), (9, 7, 9, 0, 1014), (9, 13, 9, 1, 1015), (9, 17, 9, 2, 1016), (9, 78, 9, 3, 1017), (9, 132, 9, 4, 1018), (9, 20, 9, 5, 1019), (9, 23, 9, 6, 1020), (9, 26, 9, 7, 1021), (9, 29, 9, 8, 1022), (9, 32, 9, 9, 1023), (9, 35, 9, 10, 1024), (9, 38, 9, 11, 1025), (9, 41, 9, 12, 1026), (9, 188, 9, 13, 1027), (9, 191, 9, 14, 1028), (9, 194, 9, 15, 1029), (9, 197, 9, 16, 1030), (9, 141, 9, 17, 1031), (9, 135, 9, 18, 1032), (9, 144, 9, 19, 1033), (9, 138, 9, 20, 1034), (9, 121, 9, 21, 1035), (9, 149, 9, 22, 1036), (9, 44, 9, 23, 1037), (9, 88, 9, 24, 1038), (9, 92, 9, 25, 1039), (9, 102, 9, 26, 1040), (9, 109, 9, 27, 1041), (9, 95, 9, 28, 1042), (9, 47, 9, 29, 1043), (9, 51, 9, 30, 1044), (9, 54, 9, 31, 1045), (9, 57, 9, 32, 1046), (9, 60, 9, 33, 1047), (9, 63, 9, 34, 1048), (9, 200, 9, 35, 1049), (9, 66, 9, 36, 1050), (9, 203, 9, 37, 1051), (9, 69, 9, 38, 1052), (9, 72, 9, 39, 1053), (9, 75, 9, 40, 1054), (9, 206, 9, 41, 1055)]
def mlT : List (Nat × Nat × Nat × Nat × Nat) := [(6, 36, 0, 600, 151), (8, 91, 0, 500, 437), (5, 31, 0, 600, 441), (5, 36, 0, 516, 442), (5, 39, 0, 519, 446), (5, 43, 0, 501, 450), (5, 53, 0, 517, 454), (5, 168, 1, 520, 458), (5, 59, 0, 518, 462), (5, 171, 0, 1000, 466), (5, 175, 0, 1001, 476), (5, 63, 0, 502, 514), (5, 100, 0, 513, 518), (5, 96, 0, 515, 522), (5, 104, 0, 511, 526), (5, 162, 1, 521, 530), (5, 68, 0, 503, 534), (5, 73, 0, 504, 539), (5, 121, 0, 514, 543), (5, 125, 0, 604, 547), (5, 78, 0, 505, 552), (5, 131, 0, 609, 556), (6, 70, 0, 602, 560), (5, 134, 2, 848, 564), (5, 138, 0, 605, 567), (5, 83, 0, 506, 572), (5, 144, 0, 606, 576), (5, 88, 0, 507, 581), (5, 148, 0, 509, 585), (5, 155, 0, 510, 589), (5, 159, 0, 607, 593), (6, 74, 0, 603, 597), (5, 93, 0, 508, 602), (5, 47, 0, 512, 606), (8, 98, 0, 601, 610), (6, 64, 3, 0, 614), (8, 101, 0, 300, 617), (8, 104, 0, 400, 621), (8, 113, 0, 804, 634), (8, 117, 0, 805, 638), (8, 150, 0, 207, 642), (2, 79, 0, 612, 646), (8, 170, 0, 602, 654), (8, 181, 0, 807, 656), (8, 187, 0, 603, 664), (8, 201, 0, 206, 665), (2, 57, 0, 205, 669), (2, 33, 0, 603, 673), (8, 204, 0, 204, 674), (2, 61, 0, 203, 678), (2, 50, 0, 201, 682), (2, 37, 0, 611, 686), (6, 77, 1, 1200, 690), (2, 43, 0, 200, 693), (2, 54, 0, 202, 697), (2, 64, 1, 1201, 701), (8, 208, 0, 208, 704), (2, 82, 0, 204, 708), (2, 85, 0, 207, 709), (2, 89, 0, 613, 710), (8, 216, 0, 609, 727), (8, 219, 1, 848, 728), (8, 223, 0, 813, 734), (8, 226, 1, 1202, 738), (8, 231, 0, 205, 745), (8, 237, 0, 818, 758), (8, 243, 1, 1100, 762), (8, 248, 0, 302, 768), (8, 251, 1, 819, 776), (8, 240, 0, 820, 779), (8, 255, 0, 700, 787), (7, 29, 0, 603, 791), (7, 41, 0, 602, 792), (7, 47, 0, 701, 793), (7, 58, 0, 702, 797), (7, 62, 2, 848, 801), (7, 65, 0, 609, 802), (7, 54, 0, 208, 803), (8, 258, 0, 703, 804), (7, 68, 0, 704, 808), (7, 72, 0, 610, 812), (8, 261, 0, 100, 820), (1, 22, 0, 101, 824), (1, 25, 0, 102, 828), (1, 29, 0, 103, 832), (1, 41, 0, 104, 836), (1, 45, 0, 610, 840), (1, 32, 0, 105, 841), (1, 48, 0, 106, 845), (1, 52, 2, 848, 849), (1, 56, 0, 107, 850), (8, 265, 0, 825, 862), (8, 269, 0, 210, 866), (8, 272, 0, 211, 870), (8, 275, 1, 849, 878), (8, 278, 0, 829, 885), (8, 281, 0, 209, 889), (8, 284, 0, 203, 897), (8, 287, 0, 212, 898), (8, 290, 0, 0, 906), (0, 34, 0, 209, 910), (0, 38, 0, 1, 911), (0, 42, 0, 3, 915), (0, 50, 2, 848, 919), (0, 46, 0, 2, 920), (8, 293, 0, 3, 924), (8, 299, 0, 213, 929), (8, 309, 0, 834, 941), (8, 312, 0, 835, 945), (8, 315, 0, 837, 953), (8, 318, 1, 1201, 957), (8, 324, 0, 840, 966), (8, 327, 0, 841, 970), (8, 330, 0, 608, 974), (8, 342, 0, 613, 990), (8, 348, 0, 301, 999), (3, 41, 3, 0, 1003), (9, 83, 1, 900, 1146), (9, 98, 0, 905, 1155), (9, 185, 0, 918, 1159), (9, 152, 0, 907, 1163), (9, 159, 0, 908, 1169), (9, 163, 0, 910, 1173), (9, 124, 1, 902, 1177), (9, 116, 0, 906, 1180), (9, 128, 0, 909, 1184), (9, 167, 0, 911, 1191), (9, 170, 0, 913, 1195), (9, 173, 0, 914, 1199), (9, 176, 0, 915, 1203), (9, 179, 0, 917, 1207), (9, 155, 0, 916, 1211), (9, 182, 0, 912, 1216), (9, 220, 0, 928, 1228), (9, 216, 0, 926, 1232), (9, 227, 0, 921, 1240), (9, 232, 0, 930, 1245), (9, 223, 1, 901, 1249), (9, 235, 0, 922, 1256), (9, 238, 0, 932, 1260), (9, 241, 0, 925, 1264), (9, 209, 0, 923, 1268), (9, 213, 0, 924, 1272), (9, 244, 0, 927, 1276), (9, 267, 0, 942, 1316), (9, 261, 1, 903, 1320), (9, 264, 0, 941, 1323), (9, 274, 0, 945, 1335), (9, 271, 0, 944, 1339), (9, 295, 0, 952, 1349), (9, 290, 0, 951, 1353), (9, 280, 1, 948, 1357), (9, 286, 0, 950, 1360), (9, 277, 0, 947, 1364), (9, 283, 0, 949, 1368), (9, 303, 0, 956, 1385), (9, 300, 0, 955, 1389), (9, 307, 0, 958, 1394), (9, 310, 0, 961, 1406), (9, 313, 0, 962, 1410), (9, 316, 0, 966, 1430), (9, 319, 0, 969, 1439), (9, 322, 0, 975, 1463)]
def ldT : List (Nat × Nat × Int × Nat) := [(8, 82, -1000000002, 431), (8, 86, -1000000004, 432), (8, 174, -1000000001, 655), (8, 215, 99999, 718), (8, 222, -1000000003, 729), (11, 265, 1431655765, 765), (11, 266, 858993459, 766), (11, 267, 252645135, 767), (3, 56, 65536, 775), (9, 87, -1000000002, 1149), (9, 91, -1000000004, 1150), (9, 120, 99999, 1190), (9, 231, -1000000001, 1244), (9, 251, -1000000003, 1294), (9, 260, 65536, 1330), (9, 270, 99999999, 1343)]
def llT : List (Nat × Nat × Int × Nat) := [(3, 50, 1103515245, 772), (3, 52, 12345, 773), (3, 54, 2147483647, 774), (9, 81, 255, 1145), (9, 105, 97, 1167), (9, 107, 122, 1168), (9, 112, 48, 1188), (9, 114, 57, 1189), (9, 147, 99, 1215), (9, 247, 99999, 1284), (9, 249, 999, 1289), (9, 252, 5, 1307), (9, 254, 1103515245, 1327), (9, 256, 12345, 1328), (9, 258, 2147483648, 1329), (9, 293, 2, 1348), (9, 298, 23, 1380)]
def stT : List (Nat × Nat × Nat) := [(5, 57, 0), (5, 66, 1), (5, 71, 2), (5, 76, 3), (5, 81, 4), (5, 86, 5), (5, 91, 6)]
def flk (o i : Nat) : Option (Nat × Nat) := (flT.find? (fun q => q.1 == o && q.2.1 == i)).map (fun q => (q.2.2.1, q.2.2.2.1))
def mlk (o i : Nat) : Option (Nat × Nat) := (mlT.find? (fun q => q.1 == o && q.2.1 == i)).map (fun q => (q.2.2.1, q.2.2.2.1))
def ldk (o i : Nat) : Option Int := (ldT.find? (fun q => q.1 == o && q.2.1 == i)).map (fun q => q.2.2.1)
def llk (o i : Nat) : Option Int := (llT.find? (fun q => q.1 == o && q.2.1 == i)).map (fun q => q.2.2.1)
def stk (o i : Nat) : Option Nat := (stT.find? (fun q => q.1 == o && q.2.1 == i)).map (fun q => q.2.2)
def shT : List (Nat × Nat × List (Option Nat)) := [(2, 8, [some 1, some 3, some 12, some 21, some 25, none, some 34, some 35, some 42, some 44, some 47]), (2, 5, [some 2, none, none, none, none, none, none, none]), (0, 300, []), (2, 6, [some 4, some 5, some 6, some 7, some 8, some 9, some 10, some 11, none, none, none, none, none, none, none, none]), (0, 6, []), (0, 6, []), (0, 6, []), (0, 6, []), (0, 6, []), (0, 6, []), (0, 36, []), (0, 6, []), (2, 6, [some 13, some 14, some 15, some 16, some 17, some 18, some 19, some 20, none, none, none, none, none, none, none, none]), (0, 6, []), (0, 6, []), (0, 6, []), (0, 6, []), (0, 6, []), (0, 6, []), (0, 36, []), (0, 6, []), (2, 3, [some 22, some 23, some 24, none, none, none, none, none, none]), (0, 6, []), (0, 6, []), (0, 6, []), (3, 2, [some 26, some 30]), (2, 3, [some 27, some 28, some 29, none, none, none, none, none, none]), (0, 6, []), (0, 6, []), (0, 6, []), (2, 3, [some 31, some 32, some 33, none, none, none, none, none, none]), (0, 6, []), (0, 6, []), (0, 6, []), (2, 2, [some 12, some 21]), (2, 4, [some 36, some 37, none, some 38, none, some 39, some 40, some 41, none]), (0, 20, []), (1, 20, []), (0, 12, []), (0, 30, []), (0, 30, []), (1, 30, []), (2, 7, [some 34, some 43]), (0, 6, []), (2, 1, [some 12, some 45, some 46]), (0, 36, []), (0, 36, []), (2, 0, [some 34, some 48, some 49]), (0, 6, []), (0, 6, []), (2, 9, [some 51, some 52, some 53, none, none, some 54, some 55, some 56, some 57, some 58, some 59, some 60, some 61, none, none, none, none, none, none, none, none, none, none, some 62, none, none, none, none, none, none, some 63, some 64, some 65, some 66, some 67, none, some 68, none, some 69, some 70, some 71, none]), (0, 96, []), (1, 2, []), (0, 6, []), (0, 12, []), (0, 12, []), (0, 12, []), (0, 12, []), (0, 12, []), (0, 12, []), (0, 72, []), (0, 12, []), (0, 300, []), (0, 6, []), (0, 216, []), (0, 6, []), (0, 20, []), (1, 20, []), (0, 12, []), (0, 30, []), (0, 30, []), (1, 30, [])]
def qsh (k : Nat) : Option (Nat × Nat × List (Option Nat)) := shT[k]?
theorem find_mem {α : Type} {l : List α} {p : α → Bool} {x : α} (h : l.find? p = some x) : x ∈ l ∧ p x = true := ⟨List.mem_of_find?_eq_some h, List.find?_some h⟩
theorem flT_ok : flT.all (fun q => match vwCl[q.2.2.1]? with | none => false | some (_, T, N) => decide (q.2.2.2.1 < N) && decide (lw_tbl[q.2.2.2.2]? = some (Cond.fieldLink (cN q.1) q.2.1 (T q.2.2.2.1).1 (T q.2.2.2.1).2.1 (T q.2.2.2.1).2.2.1))) = true := by decide +kernel
theorem ldT_ok : ldT.all (fun q => decide (lw_tbl[q.2.2.2]? = some (Cond.constant (cN q.1) q.2.1 (Int32.ofInt q.2.2.1)))) = true := by decide +kernel
theorem llT_ok : llT.all (fun q => decide (lw_tbl[q.2.2.2]? = some (Cond.constantLong (cN q.1) q.2.1 (Int64.ofInt q.2.2.1)))) = true := by decide +kernel
def mtT0 : List (Nat × Nat × Nat × Nat × Nat × Nat) := [(0, 909, 92, 0, 907, 908), (1, 914, 92, 0, 913, 37), (2, 923, 92, 0, 922, 38), (3, 918, 92, 0, 916, 917), (100, 823, 91, 0, 821, 822), (101, 827, 91, 0, 826, 28), (102, 831, 91, 0, 830, 29), (103, 835, 91, 0, 834, 30), (104, 839, 91, 0, 838, 31), (105, 844, 91, 0, 843, 32), (106, 848, 91, 0, 847, 33), (107, 853, 91, 0, 852, 34), (200, 696, 88, 0, 694, 695), (201, 685, 88, 0, 683, 684), (202, 700, 88, 0, 698, 699), (203, 681, 88, 0, 679, 680), (204, 677, 88, 0, 675, 676), (205, 672, 88, 0, 670, 671), (206, 668, 88, 0, 666, 667), (207, 645, 88, 0, 643, 644)]
def mtT1 : List (Nat × Nat × Nat × Nat × Nat × Nat) := [(208, 707, 88, 0, 705, 706), (209, 892, 88, 0, 890, 891), (210, 869, 88, 0, 867, 868), (211, 873, 88, 0, 871, 872), (212, 901, 88, 0, 899, 900), (213, 932, 88, 0, 930, 931), (300, 620, 87, 0, 618, 619), (301, 1002, 87, 0, 1000, 1001), (302, 771, 87, 0, 769, 770), (400, 624, 89, 0, 622, 623), (500, 440, 85, 0, 438, 439), (501, 453, 85, 0, 452, 2), (502, 517, 85, 0, 516, 5), (503, 537, 85, 0, 536, 9), (504, 542, 85, 0, 541, 10), (505, 555, 85, 0, 554, 12), (506, 575, 85, 0, 574, 13), (507, 584, 85, 0, 583, 14), (508, 605, 85, 0, 604, 17), (509, 588, 85, 0, 587, 15)]
def mtT2 : List (Nat × Nat × Nat × Nat × Nat × Nat) := [(510, 592, 85, 0, 591, 16), (511, 529, 85, 0, 528, 8), (512, 609, 85, 0, 608, 18), (513, 521, 85, 0, 520, 6), (514, 546, 85, 0, 545, 11), (515, 525, 85, 0, 524, 7), (516, 445, 85, 0, 444, 0), (517, 457, 85, 0, 456, 3), (518, 465, 85, 0, 464, 4), (519, 449, 85, 0, 448, 1), (520, 460, 85, 1, 459, 0), (521, 532, 85, 1, 531, 0), (600, 154, 86, 0, 152, 153), (601, 613, 86, 0, 611, 612), (602, 563, 86, 0, 561, 562), (603, 600, 86, 0, 598, 599), (604, 550, 86, 0, 548, 549), (605, 570, 86, 0, 568, 569), (606, 579, 86, 0, 577, 578), (607, 596, 86, 0, 594, 595)]
def mtT3 : List (Nat × Nat × Nat × Nat × Nat × Nat) := [(608, 977, 86, 0, 975, 976), (609, 559, 86, 0, 557, 558), (610, 815, 86, 0, 813, 814), (611, 689, 86, 0, 687, 688), (612, 649, 86, 0, 647, 648), (613, 713, 86, 0, 711, 712), (700, 790, 90, 0, 788, 789), (701, 796, 90, 0, 795, 25), (702, 800, 90, 0, 799, 26), (703, 807, 90, 0, 805, 806), (704, 811, 90, 0, 810, 27), (800, 430, 84, 0, 428, 429), (801, 436, 84, 0, 434, 435), (802, 629, 84, 0, 627, 628), (803, 633, 84, 0, 631, 632), (804, 637, 84, 0, 636, 19), (805, 641, 84, 0, 640, 20), (806, 653, 84, 0, 651, 652), (807, 659, 84, 0, 658, 21), (808, 663, 84, 0, 661, 662)]
def mtT4 : List (Nat × Nat × Nat × Nat × Nat × Nat) := [(809, 717, 84, 0, 715, 716), (810, 722, 84, 0, 720, 721), (811, 726, 84, 0, 724, 725), (812, 733, 84, 0, 731, 732), (813, 737, 84, 0, 736, 22), (814, 744, 84, 0, 742, 743), (815, 749, 84, 0, 747, 748), (816, 753, 84, 0, 751, 752), (817, 757, 84, 0, 755, 756), (818, 761, 84, 0, 760, 23), (819, 778, 84, 1, 777, 0), (820, 782, 84, 0, 781, 24), (821, 786, 84, 0, 784, 785), (822, 819, 84, 0, 817, 818), (823, 857, 84, 0, 855, 856), (824, 861, 84, 0, 859, 860), (825, 865, 84, 0, 864, 35), (826, 877, 84, 0, 875, 876), (827, 884, 84, 0, 882, 883), (828, 896, 84, 0, 894, 895)]
def mtT5 : List (Nat × Nat × Nat × Nat × Nat × Nat) := [(829, 888, 84, 0, 887, 36), (830, 905, 84, 0, 903, 904), (831, 928, 84, 0, 926, 927), (832, 936, 84, 0, 934, 935), (833, 940, 84, 0, 938, 939), (834, 944, 84, 0, 943, 39), (835, 948, 84, 0, 947, 40), (836, 952, 84, 0, 950, 951), (837, 956, 84, 0, 955, 41), (838, 961, 84, 0, 959, 960), (839, 965, 84, 0, 963, 964), (840, 969, 84, 0, 968, 42), (841, 973, 84, 0, 972, 43), (842, 981, 84, 0, 979, 980), (843, 985, 84, 0, 983, 984), (844, 989, 84, 0, 987, 988), (845, 994, 84, 0, 992, 993), (846, 998, 84, 0, 996, 997), (847, 1007, 84, 0, 1005, 1006), (848, 566, 84, 1, 565, 0)]
def mtT6 : List (Nat × Nat × Nat × Nat × Nat × Nat) := [(849, 880, 84, 1, 879, 0), (900, 1148, 93, 1, 1147, 0), (901, 1251, 93, 1, 1250, 0), (902, 1179, 93, 1, 1178, 0), (903, 1322, 93, 1, 1321, 0), (904, 1144, 93, 0, 1142, 1143), (905, 1158, 93, 0, 1157, 44), (906, 1183, 93, 0, 1182, 49), (907, 1166, 93, 0, 1165, 46), (908, 1172, 93, 0, 1171, 47), (909, 1187, 93, 0, 1186, 50), (910, 1176, 93, 0, 1175, 48), (911, 1194, 93, 0, 1193, 51), (912, 1219, 93, 0, 1218, 57), (913, 1198, 93, 0, 1197, 52), (914, 1202, 93, 0, 1201, 53), (915, 1206, 93, 0, 1205, 54), (916, 1214, 93, 0, 1213, 56), (917, 1210, 93, 0, 1209, 55), (918, 1162, 93, 0, 1161, 45)]
def mtT7 : List (Nat × Nat × Nat × Nat × Nat × Nat) := [(919, 1154, 93, 0, 1152, 1153), (920, 1223, 93, 0, 1221, 1222), (921, 1243, 93, 0, 1242, 60), (922, 1259, 93, 0, 1258, 62), (923, 1271, 93, 0, 1270, 65), (924, 1275, 93, 0, 1274, 66), (925, 1267, 93, 0, 1266, 64), (926, 1235, 93, 0, 1234, 59), (927, 1279, 93, 0, 1278, 67), (928, 1231, 93, 0, 1230, 58), (929, 1227, 93, 0, 1225, 1226), (930, 1248, 93, 0, 1247, 61), (931, 1239, 93, 0, 1237, 1238), (932, 1263, 93, 0, 1262, 63), (933, 1255, 93, 0, 1253, 1254), (934, 1283, 93, 0, 1281, 1282), (935, 1288, 93, 0, 1286, 1287), (936, 1293, 93, 0, 1291, 1292), (937, 1298, 93, 0, 1296, 1297), (938, 1302, 93, 0, 1300, 1301)]
def mtT8 : List (Nat × Nat × Nat × Nat × Nat × Nat) := [(939, 1306, 93, 0, 1304, 1305), (940, 1311, 93, 0, 1309, 1310), (941, 1326, 93, 0, 1325, 69), (942, 1319, 93, 0, 1318, 68), (943, 1315, 93, 0, 1313, 1314), (944, 1342, 93, 0, 1341, 71), (945, 1338, 93, 0, 1337, 70), (946, 1334, 93, 0, 1332, 1333), (947, 1367, 93, 0, 1366, 75), (948, 1359, 93, 1, 1358, 0), (949, 1371, 93, 0, 1370, 76), (950, 1363, 93, 0, 1362, 74), (951, 1356, 93, 0, 1355, 73), (952, 1352, 93, 0, 1351, 72), (953, 1347, 93, 0, 1345, 1346), (954, 1375, 93, 0, 1373, 1374), (955, 1379, 93, 0, 1377, 1378), (956, 1388, 93, 0, 1387, 77), (957, 1384, 93, 0, 1382, 1383), (958, 1397, 93, 0, 1396, 78)]
def mtT9 : List (Nat × Nat × Nat × Nat × Nat × Nat) := [(959, 1393, 93, 0, 1391, 1392), (960, 1401, 93, 0, 1399, 1400), (961, 1409, 93, 0, 1408, 79), (962, 1413, 93, 0, 1412, 80), (963, 1405, 93, 0, 1403, 1404), (964, 1417, 93, 0, 1415, 1416), (965, 1421, 93, 0, 1419, 1420), (966, 1425, 93, 0, 1423, 1424), (967, 1429, 93, 0, 1427, 1428), (968, 1434, 93, 0, 1432, 1433), (969, 1442, 93, 0, 1441, 81), (970, 1438, 93, 0, 1436, 1437), (971, 1446, 93, 0, 1444, 1445), (972, 1450, 93, 0, 1448, 1449), (973, 1454, 93, 0, 1452, 1453), (974, 1458, 93, 0, 1456, 1457), (975, 1466, 93, 0, 1465, 82), (976, 1462, 93, 0, 1460, 1461), (977, 1470, 93, 0, 1468, 1469), (1100, 764, 100, 1, 763, 0)]
def mtT10 : List (Nat × Nat × Nat × Nat × Nat × Nat) := [(1200, 692, 99, 1, 691, 0), (1201, 703, 99, 1, 702, 0), (1202, 740, 99, 1, 739, 0), (1000, 469, 94, 0, 467, 468), (1001, 479, 94, 0, 477, 478)]
def mtT : List (Nat × Nat × Nat × Nat × Nat × Nat) := mtT0 ++ (mtT1 ++ (mtT2 ++ (mtT3 ++ (mtT4 ++ (mtT5 ++ (mtT6 ++ (mtT7 ++ (mtT8 ++ (mtT9 ++ (mtT10))))))))))
theorem mtT_ok : mtT.all (fun q => decide (lw_tbl[q.2.2.1]? = some (Cond.initialized (mY q.1).cls) ∧ (mY q.1).cls = cN (mO q.1) ∧ (mY q.1).cls ≠ "java/lang/invoke/MethodHandle" ∧ (mY q.1).cls ≠ "java/lang/invoke/VarHandle" ∧ plainFor (mY q.1) = true ∧ (if q.2.2.2.1 = 1 then lw_tbl[q.2.2.2.2.1]? = some (Cond.static (mY q.1)) else lw_tbl[q.2.2.2.2.1]? = some (Cond.instanceMethod (mY q.1)) ∧ lw_tbl[q.2.2.2.2.2]? = some (Cond.selects (mY q.1).cls (mY q.1) (mY q.1))))) = true := by decide +kernel
theorem lwt_1 {w : Cond} (h : w ∈ tables_1_1) : w ∈ lw_tbl := List.mem_append_right _ (List.mem_append_left _ h)
theorem lwt_2 {w : Cond} (h : w ∈ tables_1_2) : w ∈ lw_tbl := List.mem_append_right _ (List.mem_append_right _ (List.mem_append_left _ h))
theorem lwt_3 {w : Cond} (h : w ∈ tables_1_3) : w ∈ lw_tbl := List.mem_append_right _ (List.mem_append_right _ (List.mem_append_right _ (List.mem_append_left _ h)))
theorem lwt_4 {w : Cond} (h : w ∈ tables_1_4) : w ∈ lw_tbl := List.mem_append_right _ (List.mem_append_right _ (List.mem_append_right _ (List.mem_append_right _ (List.mem_append_left _ h))))
theorem lwt_5 {w : Cond} (h : w ∈ tables_1_5) : w ∈ lw_tbl := List.mem_append_right _ (List.mem_append_right _ (List.mem_append_right _ (List.mem_append_right _ (List.mem_append_right _ (List.mem_append_left _ h)))))
theorem lwt_6 {w : Cond} (h : w ∈ tables_1_6) : w ∈ lw_tbl := List.mem_append_right _ (List.mem_append_right _ (List.mem_append_right _ (List.mem_append_right _ (List.mem_append_right _ (List.mem_append_right _ (h))))))
theorem mc_0 : Cond.code (mY 0) (mB 0) (mL 0) (mR 0) ∈ lw_tbl := lwt_4 (List.mem_of_getElem? (i := 106) rfl)
theorem mc_1 : Cond.code (mY 1) (mB 1) (mL 1) (mR 1) ∈ lw_tbl := lwt_4 (List.mem_of_getElem? (i := 111) rfl)
theorem mc_2 : Cond.code (mY 2) (mB 2) (mL 2) (mR 2) ∈ lw_tbl := lwt_4 (List.mem_of_getElem? (i := 120) rfl)
theorem mc_3 : Cond.code (mY 3) (mB 3) (mL 3) (mR 3) ∈ lw_tbl := lwt_4 (List.mem_of_getElem? (i := 115) rfl)
theorem mc_100 : Cond.code (mY 100) (mB 100) (mL 100) (mR 100) ∈ lw_tbl := lwt_4 (List.mem_of_getElem? (i := 20) rfl)
theorem mc_101 : Cond.code (mY 101) (mB 101) (mL 101) (mR 101) ∈ lw_tbl := lwt_4 (List.mem_of_getElem? (i := 24) rfl)
theorem mc_102 : Cond.code (mY 102) (mB 102) (mL 102) (mR 102) ∈ lw_tbl := lwt_4 (List.mem_of_getElem? (i := 28) rfl)
theorem mc_103 : Cond.code (mY 103) (mB 103) (mL 103) (mR 103) ∈ lw_tbl := lwt_4 (List.mem_of_getElem? (i := 32) rfl)
theorem mc_104 : Cond.code (mY 104) (mB 104) (mL 104) (mR 104) ∈ lw_tbl := lwt_4 (List.mem_of_getElem? (i := 36) rfl)
theorem mc_105 : Cond.code (mY 105) (mB 105) (mL 105) (mR 105) ∈ lw_tbl := lwt_4 (List.mem_of_getElem? (i := 41) rfl)
theorem mc_106 : Cond.code (mY 106) (mB 106) (mL 106) (mR 106) ∈ lw_tbl := lwt_4 (List.mem_of_getElem? (i := 45) rfl)
theorem mc_107 : Cond.code (mY 107) (mB 107) (mL 107) (mR 107) ∈ lw_tbl := lwt_4 (List.mem_of_getElem? (i := 50) rfl)
theorem mc_200 : Cond.code (mY 200) (mB 200) (mL 200) (mR 200) ∈ lw_tbl := lwt_3 (List.mem_of_getElem? (i := 133) rfl)
theorem mc_201 : Cond.code (mY 201) (mB 201) (mL 201) (mR 201) ∈ lw_tbl := lwt_3 (List.mem_of_getElem? (i := 122) rfl)
theorem mc_202 : Cond.code (mY 202) (mB 202) (mL 202) (mR 202) ∈ lw_tbl := lwt_3 (List.mem_of_getElem? (i := 137) rfl)
theorem mc_203 : Cond.code (mY 203) (mB 203) (mL 203) (mR 203) ∈ lw_tbl := lwt_3 (List.mem_of_getElem? (i := 118) rfl)
theorem mc_204 : Cond.code (mY 204) (mB 204) (mL 204) (mR 204) ∈ lw_tbl := lwt_3 (List.mem_of_getElem? (i := 114) rfl)
theorem mc_205 : Cond.code (mY 205) (mB 205) (mL 205) (mR 205) ∈ lw_tbl := lwt_3 (List.mem_of_getElem? (i := 109) rfl)
theorem mc_206 : Cond.code (mY 206) (mB 206) (mL 206) (mR 206) ∈ lw_tbl := lwt_3 (List.mem_of_getElem? (i := 105) rfl)
theorem mc_207 : Cond.code (mY 207) (mB 207) (mL 207) (mR 207) ∈ lw_tbl := lwt_3 (List.mem_of_getElem? (i := 82) rfl)
theorem mc_208 : Cond.code (mY 208) (mB 208) (mL 208) (mR 208) ∈ lw_tbl := lwt_3 (List.mem_of_getElem? (i := 144) rfl)
theorem mc_209 : Cond.code (mY 209) (mB 209) (mL 209) (mR 209) ∈ lw_tbl := lwt_4 (List.mem_of_getElem? (i := 89) rfl)
theorem mc_210 : Cond.code (mY 210) (mB 210) (mL 210) (mR 210) ∈ lw_tbl := lwt_4 (List.mem_of_getElem? (i := 66) rfl)
theorem mc_211 : Cond.code (mY 211) (mB 211) (mL 211) (mR 211) ∈ lw_tbl := lwt_4 (List.mem_of_getElem? (i := 70) rfl)
theorem mc_212 : Cond.code (mY 212) (mB 212) (mL 212) (mR 212) ∈ lw_tbl := lwt_4 (List.mem_of_getElem? (i := 98) rfl)
theorem mc_213 : Cond.code (mY 213) (mB 213) (mL 213) (mR 213) ∈ lw_tbl := lwt_4 (List.mem_of_getElem? (i := 129) rfl)
theorem mc_300 : Cond.code (mY 300) (mB 300) (mL 300) (mR 300) ∈ lw_tbl := lwt_3 (List.mem_of_getElem? (i := 57) rfl)
theorem mc_301 : Cond.code (mY 301) (mB 301) (mL 301) (mR 301) ∈ lw_tbl := lwt_4 (List.mem_of_getElem? (i := 199) rfl)
theorem mc_302 : Cond.code (mY 302) (mB 302) (mL 302) (mR 302) ∈ lw_tbl := lwt_3 (List.mem_of_getElem? (i := 208) rfl)
theorem mc_400 : Cond.code (mY 400) (mB 400) (mL 400) (mR 400) ∈ lw_tbl := lwt_3 (List.mem_of_getElem? (i := 61) rfl)
theorem mc_500 : Cond.code (mY 500) (mB 500) (mL 500) (mR 500) ∈ lw_tbl := lwt_2 (List.mem_of_getElem? (i := 117) rfl)
theorem mc_501 : Cond.code (mY 501) (mB 501) (mL 501) (mR 501) ∈ lw_tbl := lwt_2 (List.mem_of_getElem? (i := 130) rfl)
theorem mc_502 : Cond.code (mY 502) (mB 502) (mL 502) (mR 502) ∈ lw_tbl := lwt_2 (List.mem_of_getElem? (i := 194) rfl)
theorem mc_503 : Cond.code (mY 503) (mB 503) (mL 503) (mR 503) ∈ lw_tbl := lwt_2 (List.mem_of_getElem? (i := 214) rfl)
theorem mc_504 : Cond.code (mY 504) (mB 504) (mL 504) (mR 504) ∈ lw_tbl := lwt_2 (List.mem_of_getElem? (i := 219) rfl)
theorem mc_505 : Cond.code (mY 505) (mB 505) (mL 505) (mR 505) ∈ lw_tbl := lwt_2 (List.mem_of_getElem? (i := 232) rfl)
theorem mc_506 : Cond.code (mY 506) (mB 506) (mL 506) (mR 506) ∈ lw_tbl := lwt_3 (List.mem_of_getElem? (i := 12) rfl)
theorem mc_507 : Cond.code (mY 507) (mB 507) (mL 507) (mR 507) ∈ lw_tbl := lwt_3 (List.mem_of_getElem? (i := 21) rfl)
theorem mc_508 : Cond.code (mY 508) (mB 508) (mL 508) (mR 508) ∈ lw_tbl := lwt_3 (List.mem_of_getElem? (i := 42) rfl)
theorem mc_509 : Cond.code (mY 509) (mB 509) (mL 509) (mR 509) ∈ lw_tbl := lwt_3 (List.mem_of_getElem? (i := 25) rfl)
theorem mc_510 : Cond.code (mY 510) (mB 510) (mL 510) (mR 510) ∈ lw_tbl := lwt_3 (List.mem_of_getElem? (i := 29) rfl)
theorem mc_511 : Cond.code (mY 511) (mB 511) (mL 511) (mR 511) ∈ lw_tbl := lwt_2 (List.mem_of_getElem? (i := 206) rfl)
theorem mc_512 : Cond.code (mY 512) (mB 512) (mL 512) (mR 512) ∈ lw_tbl := lwt_3 (List.mem_of_getElem? (i := 46) rfl)
theorem mc_513 : Cond.code (mY 513) (mB 513) (mL 513) (mR 513) ∈ lw_tbl := lwt_2 (List.mem_of_getElem? (i := 198) rfl)
theorem mc_514 : Cond.code (mY 514) (mB 514) (mL 514) (mR 514) ∈ lw_tbl := lwt_2 (List.mem_of_getElem? (i := 223) rfl)
theorem mc_515 : Cond.code (mY 515) (mB 515) (mL 515) (mR 515) ∈ lw_tbl := lwt_2 (List.mem_of_getElem? (i := 202) rfl)
theorem mc_516 : Cond.code (mY 516) (mB 516) (mL 516) (mR 516) ∈ lw_tbl := lwt_2 (List.mem_of_getElem? (i := 122) rfl)
theorem mc_517 : Cond.code (mY 517) (mB 517) (mL 517) (mR 517) ∈ lw_tbl := lwt_2 (List.mem_of_getElem? (i := 134) rfl)
theorem mc_518 : Cond.code (mY 518) (mB 518) (mL 518) (mR 518) ∈ lw_tbl := lwt_2 (List.mem_of_getElem? (i := 142) rfl)
theorem mc_519 : Cond.code (mY 519) (mB 519) (mL 519) (mR 519) ∈ lw_tbl := lwt_2 (List.mem_of_getElem? (i := 126) rfl)
theorem mc_520 : Cond.code (mY 520) (mB 520) (mL 520) (mR 520) ∈ lw_tbl := lwt_2 (List.mem_of_getElem? (i := 137) rfl)
theorem mc_521 : Cond.code (mY 521) (mB 521) (mL 521) (mR 521) ∈ lw_tbl := lwt_2 (List.mem_of_getElem? (i := 209) rfl)
theorem mc_600 : Cond.code (mY 600) (mB 600) (mL 600) (mR 600) ∈ lw_tbl := lwt_1 (List.mem_of_getElem? (i := 71) rfl)
theorem mc_601 : Cond.code (mY 601) (mB 601) (mL 601) (mR 601) ∈ lw_tbl := lwt_3 (List.mem_of_getElem? (i := 50) rfl)
theorem mc_602 : Cond.code (mY 602) (mB 602) (mL 602) (mR 602) ∈ lw_tbl := lwt_3 (List.mem_of_getElem? (i := 0) rfl)
theorem mc_603 : Cond.code (mY 603) (mB 603) (mL 603) (mR 603) ∈ lw_tbl := lwt_3 (List.mem_of_getElem? (i := 37) rfl)
theorem mc_604 : Cond.code (mY 604) (mB 604) (mL 604) (mR 604) ∈ lw_tbl := lwt_2 (List.mem_of_getElem? (i := 227) rfl)
theorem mc_605 : Cond.code (mY 605) (mB 605) (mL 605) (mR 605) ∈ lw_tbl := lwt_3 (List.mem_of_getElem? (i := 7) rfl)
theorem mc_606 : Cond.code (mY 606) (mB 606) (mL 606) (mR 606) ∈ lw_tbl := lwt_3 (List.mem_of_getElem? (i := 16) rfl)
theorem mc_607 : Cond.code (mY 607) (mB 607) (mL 607) (mR 607) ∈ lw_tbl := lwt_3 (List.mem_of_getElem? (i := 33) rfl)
theorem mc_608 : Cond.code (mY 608) (mB 608) (mL 608) (mR 608) ∈ lw_tbl := lwt_4 (List.mem_of_getElem? (i := 174) rfl)
theorem mc_609 : Cond.code (mY 609) (mB 609) (mL 609) (mR 609) ∈ lw_tbl := lwt_2 (List.mem_of_getElem? (i := 236) rfl)
theorem mc_610 : Cond.code (mY 610) (mB 610) (mL 610) (mR 610) ∈ lw_tbl := lwt_4 (List.mem_of_getElem? (i := 12) rfl)
theorem mc_611 : Cond.code (mY 611) (mB 611) (mL 611) (mR 611) ∈ lw_tbl := lwt_3 (List.mem_of_getElem? (i := 126) rfl)
theorem mc_612 : Cond.code (mY 612) (mB 612) (mL 612) (mR 612) ∈ lw_tbl := lwt_3 (List.mem_of_getElem? (i := 86) rfl)
theorem mc_613 : Cond.code (mY 613) (mB 613) (mL 613) (mR 613) ∈ lw_tbl := lwt_3 (List.mem_of_getElem? (i := 150) rfl)
theorem mc_700 : Cond.code (mY 700) (mB 700) (mL 700) (mR 700) ∈ lw_tbl := lwt_3 (List.mem_of_getElem? (i := 227) rfl)
theorem mc_701 : Cond.code (mY 701) (mB 701) (mL 701) (mR 701) ∈ lw_tbl := lwt_3 (List.mem_of_getElem? (i := 233) rfl)
theorem mc_702 : Cond.code (mY 702) (mB 702) (mL 702) (mR 702) ∈ lw_tbl := lwt_3 (List.mem_of_getElem? (i := 237) rfl)
theorem mc_703 : Cond.code (mY 703) (mB 703) (mL 703) (mR 703) ∈ lw_tbl := lwt_4 (List.mem_of_getElem? (i := 4) rfl)
theorem mc_704 : Cond.code (mY 704) (mB 704) (mL 704) (mR 704) ∈ lw_tbl := lwt_4 (List.mem_of_getElem? (i := 8) rfl)
theorem mc_800 : Cond.code (mY 800) (mB 800) (mL 800) (mR 800) ∈ lw_tbl := lwt_2 (List.mem_of_getElem? (i := 107) rfl)
theorem mc_801 : Cond.code (mY 801) (mB 801) (mL 801) (mR 801) ∈ lw_tbl := lwt_2 (List.mem_of_getElem? (i := 113) rfl)
theorem mc_802 : Cond.code (mY 802) (mB 802) (mL 802) (mR 802) ∈ lw_tbl := lwt_3 (List.mem_of_getElem? (i := 66) rfl)
theorem mc_803 : Cond.code (mY 803) (mB 803) (mL 803) (mR 803) ∈ lw_tbl := lwt_3 (List.mem_of_getElem? (i := 70) rfl)
theorem mc_804 : Cond.code (mY 804) (mB 804) (mL 804) (mR 804) ∈ lw_tbl := lwt_3 (List.mem_of_getElem? (i := 74) rfl)
theorem mc_805 : Cond.code (mY 805) (mB 805) (mL 805) (mR 805) ∈ lw_tbl := lwt_3 (List.mem_of_getElem? (i := 78) rfl)
theorem mc_806 : Cond.code (mY 806) (mB 806) (mL 806) (mR 806) ∈ lw_tbl := lwt_3 (List.mem_of_getElem? (i := 90) rfl)
theorem mc_807 : Cond.code (mY 807) (mB 807) (mL 807) (mR 807) ∈ lw_tbl := lwt_3 (List.mem_of_getElem? (i := 96) rfl)
theorem mc_808 : Cond.code (mY 808) (mB 808) (mL 808) (mR 808) ∈ lw_tbl := lwt_3 (List.mem_of_getElem? (i := 100) rfl)
theorem mc_809 : Cond.code (mY 809) (mB 809) (mL 809) (mR 809) ∈ lw_tbl := lwt_3 (List.mem_of_getElem? (i := 154) rfl)
theorem mc_810 : Cond.code (mY 810) (mB 810) (mL 810) (mR 810) ∈ lw_tbl := lwt_3 (List.mem_of_getElem? (i := 159) rfl)
theorem mc_811 : Cond.code (mY 811) (mB 811) (mL 811) (mR 811) ∈ lw_tbl := lwt_3 (List.mem_of_getElem? (i := 163) rfl)
theorem mc_812 : Cond.code (mY 812) (mB 812) (mL 812) (mR 812) ∈ lw_tbl := lwt_3 (List.mem_of_getElem? (i := 170) rfl)
theorem mc_813 : Cond.code (mY 813) (mB 813) (mL 813) (mR 813) ∈ lw_tbl := lwt_3 (List.mem_of_getElem? (i := 174) rfl)
theorem mc_814 : Cond.code (mY 814) (mB 814) (mL 814) (mR 814) ∈ lw_tbl := lwt_3 (List.mem_of_getElem? (i := 181) rfl)
theorem mc_815 : Cond.code (mY 815) (mB 815) (mL 815) (mR 815) ∈ lw_tbl := lwt_3 (List.mem_of_getElem? (i := 186) rfl)
theorem mc_816 : Cond.code (mY 816) (mB 816) (mL 816) (mR 816) ∈ lw_tbl := lwt_3 (List.mem_of_getElem? (i := 190) rfl)
theorem mc_817 : Cond.code (mY 817) (mB 817) (mL 817) (mR 817) ∈ lw_tbl := lwt_3 (List.mem_of_getElem? (i := 194) rfl)
theorem mc_818 : Cond.code (mY 818) (mB 818) (mL 818) (mR 818) ∈ lw_tbl := lwt_3 (List.mem_of_getElem? (i := 198) rfl)
theorem mc_819 : Cond.code (mY 819) (mB 819) (mL 819) (mR 819) ∈ lw_tbl := lwt_3 (List.mem_of_getElem? (i := 215) rfl)
theorem mc_820 : Cond.code (mY 820) (mB 820) (mL 820) (mR 820) ∈ lw_tbl := lwt_3 (List.mem_of_getElem? (i := 219) rfl)
theorem mc_821 : Cond.code (mY 821) (mB 821) (mL 821) (mR 821) ∈ lw_tbl := lwt_3 (List.mem_of_getElem? (i := 223) rfl)
theorem mc_822 : Cond.code (mY 822) (mB 822) (mL 822) (mR 822) ∈ lw_tbl := lwt_4 (List.mem_of_getElem? (i := 16) rfl)
theorem mc_823 : Cond.code (mY 823) (mB 823) (mL 823) (mR 823) ∈ lw_tbl := lwt_4 (List.mem_of_getElem? (i := 54) rfl)
theorem mc_824 : Cond.code (mY 824) (mB 824) (mL 824) (mR 824) ∈ lw_tbl := lwt_4 (List.mem_of_getElem? (i := 58) rfl)
theorem mc_825 : Cond.code (mY 825) (mB 825) (mL 825) (mR 825) ∈ lw_tbl := lwt_4 (List.mem_of_getElem? (i := 62) rfl)
theorem mc_826 : Cond.code (mY 826) (mB 826) (mL 826) (mR 826) ∈ lw_tbl := lwt_4 (List.mem_of_getElem? (i := 74) rfl)
theorem mc_827 : Cond.code (mY 827) (mB 827) (mL 827) (mR 827) ∈ lw_tbl := lwt_4 (List.mem_of_getElem? (i := 81) rfl)
theorem mc_828 : Cond.code (mY 828) (mB 828) (mL 828) (mR 828) ∈ lw_tbl := lwt_4 (List.mem_of_getElem? (i := 93) rfl)
theorem mc_829 : Cond.code (mY 829) (mB 829) (mL 829) (mR 829) ∈ lw_tbl := lwt_4 (List.mem_of_getElem? (i := 85) rfl)
theorem mc_830 : Cond.code (mY 830) (mB 830) (mL 830) (mR 830) ∈ lw_tbl := lwt_4 (List.mem_of_getElem? (i := 102) rfl)
theorem mc_831 : Cond.code (mY 831) (mB 831) (mL 831) (mR 831) ∈ lw_tbl := lwt_4 (List.mem_of_getElem? (i := 125) rfl)
theorem mc_832 : Cond.code (mY 832) (mB 832) (mL 832) (mR 832) ∈ lw_tbl := lwt_4 (List.mem_of_getElem? (i := 133) rfl)
theorem mc_833 : Cond.code (mY 833) (mB 833) (mL 833) (mR 833) ∈ lw_tbl := lwt_4 (List.mem_of_getElem? (i := 137) rfl)
theorem mc_834 : Cond.code (mY 834) (mB 834) (mL 834) (mR 834) ∈ lw_tbl := lwt_4 (List.mem_of_getElem? (i := 141) rfl)
theorem mc_835 : Cond.code (mY 835) (mB 835) (mL 835) (mR 835) ∈ lw_tbl := lwt_4 (List.mem_of_getElem? (i := 145) rfl)
theorem mc_836 : Cond.code (mY 836) (mB 836) (mL 836) (mR 836) ∈ lw_tbl := lwt_4 (List.mem_of_getElem? (i := 149) rfl)
theorem mc_837 : Cond.code (mY 837) (mB 837) (mL 837) (mR 837) ∈ lw_tbl := lwt_4 (List.mem_of_getElem? (i := 153) rfl)
theorem mc_838 : Cond.code (mY 838) (mB 838) (mL 838) (mR 838) ∈ lw_tbl := lwt_4 (List.mem_of_getElem? (i := 158) rfl)
theorem mc_839 : Cond.code (mY 839) (mB 839) (mL 839) (mR 839) ∈ lw_tbl := lwt_4 (List.mem_of_getElem? (i := 162) rfl)
theorem mc_840 : Cond.code (mY 840) (mB 840) (mL 840) (mR 840) ∈ lw_tbl := lwt_4 (List.mem_of_getElem? (i := 166) rfl)
theorem mc_841 : Cond.code (mY 841) (mB 841) (mL 841) (mR 841) ∈ lw_tbl := lwt_4 (List.mem_of_getElem? (i := 170) rfl)
theorem mc_842 : Cond.code (mY 842) (mB 842) (mL 842) (mR 842) ∈ lw_tbl := lwt_4 (List.mem_of_getElem? (i := 178) rfl)
theorem mc_843 : Cond.code (mY 843) (mB 843) (mL 843) (mR 843) ∈ lw_tbl := lwt_4 (List.mem_of_getElem? (i := 182) rfl)
theorem mc_844 : Cond.code (mY 844) (mB 844) (mL 844) (mR 844) ∈ lw_tbl := lwt_4 (List.mem_of_getElem? (i := 186) rfl)
theorem mc_845 : Cond.code (mY 845) (mB 845) (mL 845) (mR 845) ∈ lw_tbl := lwt_4 (List.mem_of_getElem? (i := 191) rfl)
theorem mc_846 : Cond.code (mY 846) (mB 846) (mL 846) (mR 846) ∈ lw_tbl := lwt_4 (List.mem_of_getElem? (i := 195) rfl)
theorem mc_847 : Cond.code (mY 847) (mB 847) (mL 847) (mR 847) ∈ lw_tbl := lwt_4 (List.mem_of_getElem? (i := 204) rfl)
theorem mc_848 : Cond.code (mY 848) (mB 848) (mL 848) (mR 848) ∈ lw_tbl := lwt_3 (List.mem_of_getElem? (i := 3) rfl)
theorem mc_849 : Cond.code (mY 849) (mB 849) (mL 849) (mR 849) ∈ lw_tbl := lwt_4 (List.mem_of_getElem? (i := 77) rfl)
theorem mc_900 : Cond.code (mY 900) (mB 900) (mL 900) (mR 900) ∈ lw_tbl := lwt_5 (List.mem_of_getElem? (i := 105) rfl)
theorem mc_901 : Cond.code (mY 901) (mB 901) (mL 901) (mR 901) ∈ lw_tbl := lwt_5 (List.mem_of_getElem? (i := 208) rfl)
theorem mc_902 : Cond.code (mY 902) (mB 902) (mL 902) (mR 902) ∈ lw_tbl := lwt_5 (List.mem_of_getElem? (i := 136) rfl)
theorem mc_903 : Cond.code (mY 903) (mB 903) (mL 903) (mR 903) ∈ lw_tbl := lwt_6 (List.mem_of_getElem? (i := 39) rfl)
theorem mc_904 : Cond.code (mY 904) (mB 904) (mL 904) (mR 904) ∈ lw_tbl := lwt_5 (List.mem_of_getElem? (i := 101) rfl)
theorem mc_905 : Cond.code (mY 905) (mB 905) (mL 905) (mR 905) ∈ lw_tbl := lwt_5 (List.mem_of_getElem? (i := 115) rfl)
theorem mc_906 : Cond.code (mY 906) (mB 906) (mL 906) (mR 906) ∈ lw_tbl := lwt_5 (List.mem_of_getElem? (i := 140) rfl)
theorem mc_907 : Cond.code (mY 907) (mB 907) (mL 907) (mR 907) ∈ lw_tbl := lwt_5 (List.mem_of_getElem? (i := 123) rfl)
theorem mc_908 : Cond.code (mY 908) (mB 908) (mL 908) (mR 908) ∈ lw_tbl := lwt_5 (List.mem_of_getElem? (i := 129) rfl)
theorem mc_909 : Cond.code (mY 909) (mB 909) (mL 909) (mR 909) ∈ lw_tbl := lwt_5 (List.mem_of_getElem? (i := 144) rfl)
theorem mc_910 : Cond.code (mY 910) (mB 910) (mL 910) (mR 910) ∈ lw_tbl := lwt_5 (List.mem_of_getElem? (i := 133) rfl)
theorem mc_911 : Cond.code (mY 911) (mB 911) (mL 911) (mR 911) ∈ lw_tbl := lwt_5 (List.mem_of_getElem? (i := 151) rfl)
theorem mc_912 : Cond.code (mY 912) (mB 912) (mL 912) (mR 912) ∈ lw_tbl := lwt_5 (List.mem_of_getElem? (i := 176) rfl)
theorem mc_913 : Cond.code (mY 913) (mB 913) (mL 913) (mR 913) ∈ lw_tbl := lwt_5 (List.mem_of_getElem? (i := 155) rfl)
theorem mc_914 : Cond.code (mY 914) (mB 914) (mL 914) (mR 914) ∈ lw_tbl := lwt_5 (List.mem_of_getElem? (i := 159) rfl)
theorem mc_915 : Cond.code (mY 915) (mB 915) (mL 915) (mR 915) ∈ lw_tbl := lwt_5 (List.mem_of_getElem? (i := 163) rfl)
theorem mc_916 : Cond.code (mY 916) (mB 916) (mL 916) (mR 916) ∈ lw_tbl := lwt_5 (List.mem_of_getElem? (i := 171) rfl)
theorem mc_917 : Cond.code (mY 917) (mB 917) (mL 917) (mR 917) ∈ lw_tbl := lwt_5 (List.mem_of_getElem? (i := 167) rfl)
theorem mc_918 : Cond.code (mY 918) (mB 918) (mL 918) (mR 918) ∈ lw_tbl := lwt_5 (List.mem_of_getElem? (i := 119) rfl)
theorem mc_919 : Cond.code (mY 919) (mB 919) (mL 919) (mR 919) ∈ lw_tbl := lwt_5 (List.mem_of_getElem? (i := 111) rfl)
theorem mc_920 : Cond.code (mY 920) (mB 920) (mL 920) (mR 920) ∈ lw_tbl := lwt_5 (List.mem_of_getElem? (i := 180) rfl)
theorem mc_921 : Cond.code (mY 921) (mB 921) (mL 921) (mR 921) ∈ lw_tbl := lwt_5 (List.mem_of_getElem? (i := 200) rfl)
theorem mc_922 : Cond.code (mY 922) (mB 922) (mL 922) (mR 922) ∈ lw_tbl := lwt_5 (List.mem_of_getElem? (i := 216) rfl)
theorem mc_923 : Cond.code (mY 923) (mB 923) (mL 923) (mR 923) ∈ lw_tbl := lwt_5 (List.mem_of_getElem? (i := 228) rfl)
theorem mc_924 : Cond.code (mY 924) (mB 924) (mL 924) (mR 924) ∈ lw_tbl := lwt_5 (List.mem_of_getElem? (i := 232) rfl)
theorem mc_925 : Cond.code (mY 925) (mB 925) (mL 925) (mR 925) ∈ lw_tbl := lwt_5 (List.mem_of_getElem? (i := 224) rfl)
theorem mc_926 : Cond.code (mY 926) (mB 926) (mL 926) (mR 926) ∈ lw_tbl := lwt_5 (List.mem_of_getElem? (i := 192) rfl)
theorem mc_927 : Cond.code (mY 927) (mB 927) (mL 927) (mR 927) ∈ lw_tbl := lwt_5 (List.mem_of_getElem? (i := 236) rfl)
theorem mc_928 : Cond.code (mY 928) (mB 928) (mL 928) (mR 928) ∈ lw_tbl := lwt_5 (List.mem_of_getElem? (i := 188) rfl)
theorem mc_929 : Cond.code (mY 929) (mB 929) (mL 929) (mR 929) ∈ lw_tbl := lwt_5 (List.mem_of_getElem? (i := 184) rfl)
theorem mc_930 : Cond.code (mY 930) (mB 930) (mL 930) (mR 930) ∈ lw_tbl := lwt_5 (List.mem_of_getElem? (i := 205) rfl)
theorem mc_931 : Cond.code (mY 931) (mB 931) (mL 931) (mR 931) ∈ lw_tbl := lwt_5 (List.mem_of_getElem? (i := 196) rfl)
theorem mc_932 : Cond.code (mY 932) (mB 932) (mL 932) (mR 932) ∈ lw_tbl := lwt_5 (List.mem_of_getElem? (i := 220) rfl)
theorem mc_933 : Cond.code (mY 933) (mB 933) (mL 933) (mR 933) ∈ lw_tbl := lwt_5 (List.mem_of_getElem? (i := 212) rfl)
theorem mc_934 : Cond.code (mY 934) (mB 934) (mL 934) (mR 934) ∈ lw_tbl := lwt_6 (List.mem_of_getElem? (i := 0) rfl)
theorem mc_935 : Cond.code (mY 935) (mB 935) (mL 935) (mR 935) ∈ lw_tbl := lwt_6 (List.mem_of_getElem? (i := 5) rfl)
theorem mc_936 : Cond.code (mY 936) (mB 936) (mL 936) (mR 936) ∈ lw_tbl := lwt_6 (List.mem_of_getElem? (i := 10) rfl)
theorem mc_937 : Cond.code (mY 937) (mB 937) (mL 937) (mR 937) ∈ lw_tbl := lwt_6 (List.mem_of_getElem? (i := 15) rfl)
theorem mc_938 : Cond.code (mY 938) (mB 938) (mL 938) (mR 938) ∈ lw_tbl := lwt_6 (List.mem_of_getElem? (i := 19) rfl)
theorem mc_939 : Cond.code (mY 939) (mB 939) (mL 939) (mR 939) ∈ lw_tbl := lwt_6 (List.mem_of_getElem? (i := 23) rfl)
theorem mc_940 : Cond.code (mY 940) (mB 940) (mL 940) (mR 940) ∈ lw_tbl := lwt_6 (List.mem_of_getElem? (i := 28) rfl)
theorem mc_941 : Cond.code (mY 941) (mB 941) (mL 941) (mR 941) ∈ lw_tbl := lwt_6 (List.mem_of_getElem? (i := 43) rfl)
theorem mc_942 : Cond.code (mY 942) (mB 942) (mL 942) (mR 942) ∈ lw_tbl := lwt_6 (List.mem_of_getElem? (i := 36) rfl)
theorem mc_943 : Cond.code (mY 943) (mB 943) (mL 943) (mR 943) ∈ lw_tbl := lwt_6 (List.mem_of_getElem? (i := 32) rfl)
theorem mc_944 : Cond.code (mY 944) (mB 944) (mL 944) (mR 944) ∈ lw_tbl := lwt_6 (List.mem_of_getElem? (i := 59) rfl)
theorem mc_945 : Cond.code (mY 945) (mB 945) (mL 945) (mR 945) ∈ lw_tbl := lwt_6 (List.mem_of_getElem? (i := 55) rfl)
theorem mc_946 : Cond.code (mY 946) (mB 946) (mL 946) (mR 946) ∈ lw_tbl := lwt_6 (List.mem_of_getElem? (i := 51) rfl)
theorem mc_947 : Cond.code (mY 947) (mB 947) (mL 947) (mR 947) ∈ lw_tbl := lwt_6 (List.mem_of_getElem? (i := 84) rfl)
theorem mc_948 : Cond.code (mY 948) (mB 948) (mL 948) (mR 948) ∈ lw_tbl := lwt_6 (List.mem_of_getElem? (i := 76) rfl)
theorem mc_949 : Cond.code (mY 949) (mB 949) (mL 949) (mR 949) ∈ lw_tbl := lwt_6 (List.mem_of_getElem? (i := 88) rfl)
theorem mc_950 : Cond.code (mY 950) (mB 950) (mL 950) (mR 950) ∈ lw_tbl := lwt_6 (List.mem_of_getElem? (i := 80) rfl)
theorem mc_951 : Cond.code (mY 951) (mB 951) (mL 951) (mR 951) ∈ lw_tbl := lwt_6 (List.mem_of_getElem? (i := 73) rfl)
theorem mc_952 : Cond.code (mY 952) (mB 952) (mL 952) (mR 952) ∈ lw_tbl := lwt_6 (List.mem_of_getElem? (i := 69) rfl)
theorem mc_953 : Cond.code (mY 953) (mB 953) (mL 953) (mR 953) ∈ lw_tbl := lwt_6 (List.mem_of_getElem? (i := 64) rfl)
theorem mc_954 : Cond.code (mY 954) (mB 954) (mL 954) (mR 954) ∈ lw_tbl := lwt_6 (List.mem_of_getElem? (i := 92) rfl)
theorem mc_955 : Cond.code (mY 955) (mB 955) (mL 955) (mR 955) ∈ lw_tbl := lwt_6 (List.mem_of_getElem? (i := 96) rfl)
theorem mc_956 : Cond.code (mY 956) (mB 956) (mL 956) (mR 956) ∈ lw_tbl := lwt_6 (List.mem_of_getElem? (i := 105) rfl)
theorem mc_957 : Cond.code (mY 957) (mB 957) (mL 957) (mR 957) ∈ lw_tbl := lwt_6 (List.mem_of_getElem? (i := 101) rfl)
theorem mc_958 : Cond.code (mY 958) (mB 958) (mL 958) (mR 958) ∈ lw_tbl := lwt_6 (List.mem_of_getElem? (i := 114) rfl)
theorem mc_959 : Cond.code (mY 959) (mB 959) (mL 959) (mR 959) ∈ lw_tbl := lwt_6 (List.mem_of_getElem? (i := 110) rfl)
theorem mc_960 : Cond.code (mY 960) (mB 960) (mL 960) (mR 960) ∈ lw_tbl := lwt_6 (List.mem_of_getElem? (i := 118) rfl)
theorem mc_961 : Cond.code (mY 961) (mB 961) (mL 961) (mR 961) ∈ lw_tbl := lwt_6 (List.mem_of_getElem? (i := 126) rfl)
theorem mc_962 : Cond.code (mY 962) (mB 962) (mL 962) (mR 962) ∈ lw_tbl := lwt_6 (List.mem_of_getElem? (i := 130) rfl)
theorem mc_963 : Cond.code (mY 963) (mB 963) (mL 963) (mR 963) ∈ lw_tbl := lwt_6 (List.mem_of_getElem? (i := 122) rfl)
theorem mc_964 : Cond.code (mY 964) (mB 964) (mL 964) (mR 964) ∈ lw_tbl := lwt_6 (List.mem_of_getElem? (i := 134) rfl)
theorem mc_965 : Cond.code (mY 965) (mB 965) (mL 965) (mR 965) ∈ lw_tbl := lwt_6 (List.mem_of_getElem? (i := 138) rfl)
theorem mc_966 : Cond.code (mY 966) (mB 966) (mL 966) (mR 966) ∈ lw_tbl := lwt_6 (List.mem_of_getElem? (i := 142) rfl)
theorem mc_967 : Cond.code (mY 967) (mB 967) (mL 967) (mR 967) ∈ lw_tbl := lwt_6 (List.mem_of_getElem? (i := 146) rfl)
theorem mc_968 : Cond.code (mY 968) (mB 968) (mL 968) (mR 968) ∈ lw_tbl := lwt_6 (List.mem_of_getElem? (i := 151) rfl)
theorem mc_969 : Cond.code (mY 969) (mB 969) (mL 969) (mR 969) ∈ lw_tbl := lwt_6 (List.mem_of_getElem? (i := 159) rfl)
theorem mc_970 : Cond.code (mY 970) (mB 970) (mL 970) (mR 970) ∈ lw_tbl := lwt_6 (List.mem_of_getElem? (i := 155) rfl)
theorem mc_971 : Cond.code (mY 971) (mB 971) (mL 971) (mR 971) ∈ lw_tbl := lwt_6 (List.mem_of_getElem? (i := 163) rfl)
theorem mc_972 : Cond.code (mY 972) (mB 972) (mL 972) (mR 972) ∈ lw_tbl := lwt_6 (List.mem_of_getElem? (i := 167) rfl)
theorem mc_973 : Cond.code (mY 973) (mB 973) (mL 973) (mR 973) ∈ lw_tbl := lwt_6 (List.mem_of_getElem? (i := 171) rfl)
theorem mc_974 : Cond.code (mY 974) (mB 974) (mL 974) (mR 974) ∈ lw_tbl := lwt_6 (List.mem_of_getElem? (i := 175) rfl)
theorem mc_975 : Cond.code (mY 975) (mB 975) (mL 975) (mR 975) ∈ lw_tbl := lwt_6 (List.mem_of_getElem? (i := 183) rfl)
theorem mc_976 : Cond.code (mY 976) (mB 976) (mL 976) (mR 976) ∈ lw_tbl := lwt_6 (List.mem_of_getElem? (i := 179) rfl)
theorem mc_977 : Cond.code (mY 977) (mB 977) (mL 977) (mR 977) ∈ lw_tbl := lwt_6 (List.mem_of_getElem? (i := 187) rfl)
theorem mc_1100 : Cond.code (mY 1100) (mB 1100) (mL 1100) (mR 1100) ∈ lw_tbl := lwt_3 (List.mem_of_getElem? (i := 201) rfl)
theorem mc_1200 : Cond.code (mY 1200) (mB 1200) (mL 1200) (mR 1200) ∈ lw_tbl := lwt_3 (List.mem_of_getElem? (i := 129) rfl)
theorem mc_1201 : Cond.code (mY 1201) (mB 1201) (mL 1201) (mR 1201) ∈ lw_tbl := lwt_3 (List.mem_of_getElem? (i := 140) rfl)
theorem mc_1202 : Cond.code (mY 1202) (mB 1202) (mL 1202) (mR 1202) ∈ lw_tbl := lwt_3 (List.mem_of_getElem? (i := 177) rfl)
theorem mc_1000 : Cond.code (mY 1000) (mB 1000) (mL 1000) (mR 1000) ∈ lw_tbl := lwt_2 (List.mem_of_getElem? (i := 146) rfl)
theorem mc_1001 : Cond.code (mY 1001) (mB 1001) (mL 1001) (mR 1001) ∈ lw_tbl := lwt_2 (List.mem_of_getElem? (i := 156) rfl)
def mtC (r : Nat × Nat × Nat × Nat × Nat × Nat) : Prop := Cond.code (mY r.1) (mB r.1) (mL r.1) (mR r.1) ∈ lw_tbl
theorem mtC0 : ∀ r ∈ mtT0, mtC r := List.forall_mem_cons.mpr ⟨mc_0, List.forall_mem_cons.mpr ⟨mc_1, List.forall_mem_cons.mpr ⟨mc_2, List.forall_mem_cons.mpr ⟨mc_3, List.forall_mem_cons.mpr ⟨mc_100, List.forall_mem_cons.mpr ⟨mc_101, List.forall_mem_cons.mpr ⟨mc_102, List.forall_mem_cons.mpr ⟨mc_103, List.forall_mem_cons.mpr ⟨mc_104, List.forall_mem_cons.mpr ⟨mc_105, List.forall_mem_cons.mpr ⟨mc_106, List.forall_mem_cons.mpr ⟨mc_107, List.forall_mem_cons.mpr ⟨mc_200, List.forall_mem_cons.mpr ⟨mc_201, List.forall_mem_cons.mpr ⟨mc_202, List.forall_mem_cons.mpr ⟨mc_203, List.forall_mem_cons.mpr ⟨mc_204, List.forall_mem_cons.mpr ⟨mc_205, List.forall_mem_cons.mpr ⟨mc_206, List.forall_mem_cons.mpr ⟨mc_207, fun _ h => absurd h List.not_mem_nil⟩⟩⟩⟩⟩⟩⟩⟩⟩⟩⟩⟩⟩⟩⟩⟩⟩⟩⟩⟩
theorem mtC1 : ∀ r ∈ mtT1, mtC r := List.forall_mem_cons.mpr ⟨mc_208, List.forall_mem_cons.mpr ⟨mc_209, List.forall_mem_cons.mpr ⟨mc_210, List.forall_mem_cons.mpr ⟨mc_211, List.forall_mem_cons.mpr ⟨mc_212, List.forall_mem_cons.mpr ⟨mc_213, List.forall_mem_cons.mpr ⟨mc_300, List.forall_mem_cons.mpr ⟨mc_301, List.forall_mem_cons.mpr ⟨mc_302, List.forall_mem_cons.mpr ⟨mc_400, List.forall_mem_cons.mpr ⟨mc_500, List.forall_mem_cons.mpr ⟨mc_501, List.forall_mem_cons.mpr ⟨mc_502, List.forall_mem_cons.mpr ⟨mc_503, List.forall_mem_cons.mpr ⟨mc_504, List.forall_mem_cons.mpr ⟨mc_505, List.forall_mem_cons.mpr ⟨mc_506, List.forall_mem_cons.mpr ⟨mc_507, List.forall_mem_cons.mpr ⟨mc_508, List.forall_mem_cons.mpr ⟨mc_509, fun _ h => absurd h List.not_mem_nil⟩⟩⟩⟩⟩⟩⟩⟩⟩⟩⟩⟩⟩⟩⟩⟩⟩⟩⟩⟩
theorem mtC2 : ∀ r ∈ mtT2, mtC r := List.forall_mem_cons.mpr ⟨mc_510, List.forall_mem_cons.mpr ⟨mc_511, List.forall_mem_cons.mpr ⟨mc_512, List.forall_mem_cons.mpr ⟨mc_513, List.forall_mem_cons.mpr ⟨mc_514, List.forall_mem_cons.mpr ⟨mc_515, List.forall_mem_cons.mpr ⟨mc_516, List.forall_mem_cons.mpr ⟨mc_517, List.forall_mem_cons.mpr ⟨mc_518, List.forall_mem_cons.mpr ⟨mc_519, List.forall_mem_cons.mpr ⟨mc_520, List.forall_mem_cons.mpr ⟨mc_521, List.forall_mem_cons.mpr ⟨mc_600, List.forall_mem_cons.mpr ⟨mc_601, List.forall_mem_cons.mpr ⟨mc_602, List.forall_mem_cons.mpr ⟨mc_603, List.forall_mem_cons.mpr ⟨mc_604, List.forall_mem_cons.mpr ⟨mc_605, List.forall_mem_cons.mpr ⟨mc_606, List.forall_mem_cons.mpr ⟨mc_607, fun _ h => absurd h List.not_mem_nil⟩⟩⟩⟩⟩⟩⟩⟩⟩⟩⟩⟩⟩⟩⟩⟩⟩⟩⟩⟩
theorem mtC3 : ∀ r ∈ mtT3, mtC r := List.forall_mem_cons.mpr ⟨mc_608, List.forall_mem_cons.mpr ⟨mc_609, List.forall_mem_cons.mpr ⟨mc_610, List.forall_mem_cons.mpr ⟨mc_611, List.forall_mem_cons.mpr ⟨mc_612, List.forall_mem_cons.mpr ⟨mc_613, List.forall_mem_cons.mpr ⟨mc_700, List.forall_mem_cons.mpr ⟨mc_701, List.forall_mem_cons.mpr ⟨mc_702, List.forall_mem_cons.mpr ⟨mc_703, List.forall_mem_cons.mpr ⟨mc_704, List.forall_mem_cons.mpr ⟨mc_800, List.forall_mem_cons.mpr ⟨mc_801, List.forall_mem_cons.mpr ⟨mc_802, List.forall_mem_cons.mpr ⟨mc_803, List.forall_mem_cons.mpr ⟨mc_804, List.forall_mem_cons.mpr ⟨mc_805, List.forall_mem_cons.mpr ⟨mc_806, List.forall_mem_cons.mpr ⟨mc_807, List.forall_mem_cons.mpr ⟨mc_808, fun _ h => absurd h List.not_mem_nil⟩⟩⟩⟩⟩⟩⟩⟩⟩⟩⟩⟩⟩⟩⟩⟩⟩⟩⟩⟩
theorem mtC4 : ∀ r ∈ mtT4, mtC r := List.forall_mem_cons.mpr ⟨mc_809, List.forall_mem_cons.mpr ⟨mc_810, List.forall_mem_cons.mpr ⟨mc_811, List.forall_mem_cons.mpr ⟨mc_812, List.forall_mem_cons.mpr ⟨mc_813, List.forall_mem_cons.mpr ⟨mc_814, List.forall_mem_cons.mpr ⟨mc_815, List.forall_mem_cons.mpr ⟨mc_816, List.forall_mem_cons.mpr ⟨mc_817, List.forall_mem_cons.mpr ⟨mc_818, List.forall_mem_cons.mpr ⟨mc_819, List.forall_mem_cons.mpr ⟨mc_820, List.forall_mem_cons.mpr ⟨mc_821, List.forall_mem_cons.mpr ⟨mc_822, List.forall_mem_cons.mpr ⟨mc_823, List.forall_mem_cons.mpr ⟨mc_824, List.forall_mem_cons.mpr ⟨mc_825, List.forall_mem_cons.mpr ⟨mc_826, List.forall_mem_cons.mpr ⟨mc_827, List.forall_mem_cons.mpr ⟨mc_828, fun _ h => absurd h List.not_mem_nil⟩⟩⟩⟩⟩⟩⟩⟩⟩⟩⟩⟩⟩⟩⟩⟩⟩⟩⟩⟩
theorem mtC5 : ∀ r ∈ mtT5, mtC r := List.forall_mem_cons.mpr ⟨mc_829, List.forall_mem_cons.mpr ⟨mc_830, List.forall_mem_cons.mpr ⟨mc_831, List.forall_mem_cons.mpr ⟨mc_832, List.forall_mem_cons.mpr ⟨mc_833, List.forall_mem_cons.mpr ⟨mc_834, List.forall_mem_cons.mpr ⟨mc_835, List.forall_mem_cons.mpr ⟨mc_836, List.forall_mem_cons.mpr ⟨mc_837, List.forall_mem_cons.mpr ⟨mc_838, List.forall_mem_cons.mpr ⟨mc_839, List.forall_mem_cons.mpr ⟨mc_840, List.forall_mem_cons.mpr ⟨mc_841, List.forall_mem_cons.mpr ⟨mc_842, List.forall_mem_cons.mpr ⟨mc_843, List.forall_mem_cons.mpr ⟨mc_844, List.forall_mem_cons.mpr ⟨mc_845, List.forall_mem_cons.mpr ⟨mc_846, List.forall_mem_cons.mpr ⟨mc_847, List.forall_mem_cons.mpr ⟨mc_848, fun _ h => absurd h List.not_mem_nil⟩⟩⟩⟩⟩⟩⟩⟩⟩⟩⟩⟩⟩⟩⟩⟩⟩⟩⟩⟩
theorem mtC6 : ∀ r ∈ mtT6, mtC r := List.forall_mem_cons.mpr ⟨mc_849, List.forall_mem_cons.mpr ⟨mc_900, List.forall_mem_cons.mpr ⟨mc_901, List.forall_mem_cons.mpr ⟨mc_902, List.forall_mem_cons.mpr ⟨mc_903, List.forall_mem_cons.mpr ⟨mc_904, List.forall_mem_cons.mpr ⟨mc_905, List.forall_mem_cons.mpr ⟨mc_906, List.forall_mem_cons.mpr ⟨mc_907, List.forall_mem_cons.mpr ⟨mc_908, List.forall_mem_cons.mpr ⟨mc_909, List.forall_mem_cons.mpr ⟨mc_910, List.forall_mem_cons.mpr ⟨mc_911, List.forall_mem_cons.mpr ⟨mc_912, List.forall_mem_cons.mpr ⟨mc_913, List.forall_mem_cons.mpr ⟨mc_914, List.forall_mem_cons.mpr ⟨mc_915, List.forall_mem_cons.mpr ⟨mc_916, List.forall_mem_cons.mpr ⟨mc_917, List.forall_mem_cons.mpr ⟨mc_918, fun _ h => absurd h List.not_mem_nil⟩⟩⟩⟩⟩⟩⟩⟩⟩⟩⟩⟩⟩⟩⟩⟩⟩⟩⟩⟩
theorem mtC7 : ∀ r ∈ mtT7, mtC r := List.forall_mem_cons.mpr ⟨mc_919, List.forall_mem_cons.mpr ⟨mc_920, List.forall_mem_cons.mpr ⟨mc_921, List.forall_mem_cons.mpr ⟨mc_922, List.forall_mem_cons.mpr ⟨mc_923, List.forall_mem_cons.mpr ⟨mc_924, List.forall_mem_cons.mpr ⟨mc_925, List.forall_mem_cons.mpr ⟨mc_926, List.forall_mem_cons.mpr ⟨mc_927, List.forall_mem_cons.mpr ⟨mc_928, List.forall_mem_cons.mpr ⟨mc_929, List.forall_mem_cons.mpr ⟨mc_930, List.forall_mem_cons.mpr ⟨mc_931, List.forall_mem_cons.mpr ⟨mc_932, List.forall_mem_cons.mpr ⟨mc_933, List.forall_mem_cons.mpr ⟨mc_934, List.forall_mem_cons.mpr ⟨mc_935, List.forall_mem_cons.mpr ⟨mc_936, List.forall_mem_cons.mpr ⟨mc_937, List.forall_mem_cons.mpr ⟨mc_938, fun _ h => absurd h List.not_mem_nil⟩⟩⟩⟩⟩⟩⟩⟩⟩⟩⟩⟩⟩⟩⟩⟩⟩⟩⟩⟩
theorem mtC8 : ∀ r ∈ mtT8, mtC r := List.forall_mem_cons.mpr ⟨mc_939, List.forall_mem_cons.mpr ⟨mc_940, List.forall_mem_cons.mpr ⟨mc_941, List.forall_mem_cons.mpr ⟨mc_942, List.forall_mem_cons.mpr ⟨mc_943, List.forall_mem_cons.mpr ⟨mc_944, List.forall_mem_cons.mpr ⟨mc_945, List.forall_mem_cons.mpr ⟨mc_946, List.forall_mem_cons.mpr ⟨mc_947, List.forall_mem_cons.mpr ⟨mc_948, List.forall_mem_cons.mpr ⟨mc_949, List.forall_mem_cons.mpr ⟨mc_950, List.forall_mem_cons.mpr ⟨mc_951, List.forall_mem_cons.mpr ⟨mc_952, List.forall_mem_cons.mpr ⟨mc_953, List.forall_mem_cons.mpr ⟨mc_954, List.forall_mem_cons.mpr ⟨mc_955, List.forall_mem_cons.mpr ⟨mc_956, List.forall_mem_cons.mpr ⟨mc_957, List.forall_mem_cons.mpr ⟨mc_958, fun _ h => absurd h List.not_mem_nil⟩⟩⟩⟩⟩⟩⟩⟩⟩⟩⟩⟩⟩⟩⟩⟩⟩⟩⟩⟩
theorem mtC9 : ∀ r ∈ mtT9, mtC r := List.forall_mem_cons.mpr ⟨mc_959, List.forall_mem_cons.mpr ⟨mc_960, List.forall_mem_cons.mpr ⟨mc_961, List.forall_mem_cons.mpr ⟨mc_962, List.forall_mem_cons.mpr ⟨mc_963, List.forall_mem_cons.mpr ⟨mc_964, List.forall_mem_cons.mpr ⟨mc_965, List.forall_mem_cons.mpr ⟨mc_966, List.forall_mem_cons.mpr ⟨mc_967, List.forall_mem_cons.mpr ⟨mc_968, List.forall_mem_cons.mpr ⟨mc_969, List.forall_mem_cons.mpr ⟨mc_970, List.forall_mem_cons.mpr ⟨mc_971, List.forall_mem_cons.mpr ⟨mc_972, List.forall_mem_cons.mpr ⟨mc_973, List.forall_mem_cons.mpr ⟨mc_974, List.forall_mem_cons.mpr ⟨mc_975, List.forall_mem_cons.mpr ⟨mc_976, List.forall_mem_cons.mpr ⟨mc_977, List.forall_mem_cons.mpr ⟨mc_1100, fun _ h => absurd h List.not_mem_nil⟩⟩⟩⟩⟩⟩⟩⟩⟩⟩⟩⟩⟩⟩⟩⟩⟩⟩⟩⟩
theorem mtC10 : ∀ r ∈ mtT10, mtC r := List.forall_mem_cons.mpr ⟨mc_1200, List.forall_mem_cons.mpr ⟨mc_1201, List.forall_mem_cons.mpr ⟨mc_1202, List.forall_mem_cons.mpr ⟨mc_1000, List.forall_mem_cons.mpr ⟨mc_1001, fun _ h => absurd h List.not_mem_nil⟩⟩⟩⟩⟩
theorem mtC_ok : ∀ r ∈ mtT, mtC r := by
  show ∀ r ∈ mtT0 ++ (mtT1 ++ (mtT2 ++ (mtT3 ++ (mtT4 ++ (mtT5 ++ (mtT6 ++ (mtT7 ++ (mtT8 ++ (mtT9 ++ (mtT10)))))))))), mtC r
  exact List.forall_mem_append.mpr ⟨mtC0, List.forall_mem_append.mpr ⟨mtC1, List.forall_mem_append.mpr ⟨mtC2, List.forall_mem_append.mpr ⟨mtC3, List.forall_mem_append.mpr ⟨mtC4, List.forall_mem_append.mpr ⟨mtC5, List.forall_mem_append.mpr ⟨mtC6, List.forall_mem_append.mpr ⟨mtC7, List.forall_mem_append.mpr ⟨mtC8, List.forall_mem_append.mpr ⟨mtC9, mtC10⟩⟩⟩⟩⟩⟩⟩⟩⟩⟩
theorem mlT_ok : mlT.all (fun q => decide ((q.2.2.1 = 3 ∧ lw_tbl[q.2.2.2.2]? = some (Cond.methodLink (cN q.1) q.2.1 arraycopyName)) ∨ ((q.2.2.1 = 0 ∨ q.2.2.1 = 1) ∧ lw_tbl[q.2.2.2.2]? = some (Cond.methodLink (cN q.1) q.2.1 (mY q.2.2.2.1)) ∧ mtT.any (fun r => r.1 == q.2.2.2.1 && r.2.2.2.1 == q.2.2.1) = true) ∨ (q.2.2.1 = 2 ∧ mY q.2.2.2.1 = yX8_has ∧ q.2.2.2.1 = 848 ∧ q.1 < 10 ∧ [(5, 134), (7, 62), (1, 52), (0, 50)].contains (q.1, q.2.1) = true))) = true := by decide +kernel
