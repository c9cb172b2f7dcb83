def RX0 : String := "UnderTheRope$Changes"
def TX0 : u_T := fun k => match k with
  | 0 => ("UnderTheRope$Changes", "whose", "[I", true)
  | 1 => ("UnderTheRope$Changes", "ofLoad", "[Z", true)
  | 2 => ("UnderTheRope$Changes", "was", "[I", true)
  | _ => ("UnderTheRope$Changes", "size", "I", false)
def tyX0 : Nat → FieldType := fun k => match k with
  | 0 => .array .int
  | 1 => .array .boolean
  | 2 => .array .int
  | _ => .int
abbrev wsX00 : List Cond := u_ws RX0 TX0 4
theorem nmX0 : ∀ a, a < 4 → ∀ b, b < 4 → a ≠ b → (TX0 a).2.1 ≠ (TX0 b).2.1 := by decide +kernel
theorem tyX0_ok : ∀ k, k < 4 → parseFieldDescriptor (TX0 k).2.2.1 = some (tyX0 k) := by decide +kernel
abbrev cX0_init : ByteArray := prog_2_method_1_code
def yX0_init : MethodName := ⟨RX0, "<init>", "()V"⟩
abbrev cX0_note : ByteArray := prog_2_method_2_code
def yX0_note : MethodName := ⟨RX0, "note", "(IZI)V"⟩
abbrev cX0_dropOldest : ByteArray := prog_2_method_3_code
def yX0_dropOldest : MethodName := ⟨RX0, "dropOldest", "()V"⟩
abbrev cX0_takeBack : ByteArray := prog_2_method_4_code
def yX0_takeBack : MethodName := ⟨RX0, "takeBack", "(LUnderTheRope$Plan;)Z"⟩
def RX1 : String := "UnderTheRope$Cut"
def TX1 : u_T := fun k => match k with
  | 0 => ("UnderTheRope$Cut", "boats", "I", false)
  | 1 => ("UnderTheRope$Cut", "narrows", "I", false)
  | 2 => ("UnderTheRope$Cut", "yieldMinutes", "I", false)
  | 3 => ("UnderTheRope$Cut", "heldMinutes", "I", false)
  | 4 => ("UnderTheRope$Cut", "sinkFeet", "I", false)
  | 5 => ("UnderTheRope$Cut", "driftMinutes", "I", false)
  | 6 => ("UnderTheRope$Cut", "cell", "[I", true)
  | 7 => ("UnderTheRope$Cut", "way", "[I", true)
  | 8 => ("UnderTheRope$Cut", "pace", "[I", true)
  | 9 => ("UnderTheRope$Cut", "toldLoad", "[I", true)
  | 10 => ("UnderTheRope$Cut", "kind", "[I", true)
  | 11 => ("UnderTheRope$Cut", "narrowFrom", "[I", true)
  | _ => ("UnderTheRope$Cut", "narrowTo", "[I", true)
def tyX1 : Nat → FieldType := fun k => match k with
  | 0 => .int
  | 1 => .int
  | 2 => .int
  | 3 => .int
  | 4 => .int
  | 5 => .int
  | 6 => .array .int
  | 7 => .array .int
  | 8 => .array .int
  | 9 => .array .int
  | 10 => .array .int
  | 11 => .array .int
  | _ => .array .int
abbrev wsX10 : List Cond := u_ws RX1 TX1 13
theorem nmX1 : ∀ a, a < 13 → ∀ b, b < 13 → a ≠ b → (TX1 a).2.1 ≠ (TX1 b).2.1 := by decide +kernel
theorem tyX1_ok : ∀ k, k < 13 → parseFieldDescriptor (TX1 k).2.2.1 = some (tyX1 k) := by decide +kernel
abbrev cX1_init : ByteArray := prog_3_method_1_code
def yX1_init : MethodName := ⟨RX1, "<init>", "()V"⟩
abbrev cX1_clear : ByteArray := prog_3_method_2_code
def yX1_clear : MethodName := ⟨RX1, "clear", "()V"⟩
abbrev cX1_copy : ByteArray := prog_3_method_3_code
def yX1_copy : MethodName := ⟨RX1, "copy", "(LUnderTheRope$Cut;)V"⟩
abbrev cX1_isNarrow : ByteArray := prog_3_method_4_code
def yX1_isNarrow : MethodName := ⟨RX1, "isNarrow", "(I)Z"⟩
def RX2 : String := "UnderTheRope$Passage"
def TX2 : u_T := fun k => match k with
  | 0 => ("UnderTheRope$Passage", "cut", "LUnderTheRope$Cut;", true)
  | 1 => ("UnderTheRope$Passage", "rules", "LUnderTheRope$Rules;", true)
  | 2 => ("UnderTheRope$Passage", "before", "[I", true)
  | 3 => ("UnderTheRope$Passage", "at", "[I", true)
  | 4 => ("UnderTheRope$Passage", "standing", "[I", true)
  | 5 => ("UnderTheRope$Passage", "arrived", "[I", true)
  | 6 => ("UnderTheRope$Passage", "made", "[I", true)
  | 7 => ("UnderTheRope$Passage", "yielded", "[I", true)
  | 8 => ("UnderTheRope$Passage", "started", "[I", true)
  | 9 => ("UnderTheRope$Passage", "allMade", "I", false)
  | 10 => ("UnderTheRope$Passage", "underWay", "I", false)
  | 11 => ("UnderTheRope$Passage", "met", "I", false)
  | 12 => ("UnderTheRope$Passage", "minuteOf", "[I", true)
  | 13 => ("UnderTheRope$Passage", "pairOf", "[I", true)
  | 14 => ("UnderTheRope$Passage", "yielderOf", "[I", true)
  | _ => ("UnderTheRope$Passage", "placeOf", "[I", true)
def tyX2 : Nat → FieldType := fun k => match k with
  | 0 => .object "UnderTheRope$Cut"
  | 1 => .object "UnderTheRope$Rules"
  | 2 => .array .int
  | 3 => .array .int
  | 4 => .array .int
  | 5 => .array .int
  | 6 => .array .int
  | 7 => .array .int
  | 8 => .array .int
  | 9 => .int
  | 10 => .int
  | 11 => .int
  | 12 => .array .int
  | 13 => .array .int
  | 14 => .array .int
  | _ => .array .int
abbrev wsX20 : List Cond := u_ws RX2 TX2 16
theorem nmX2 : ∀ a, a < 16 → ∀ b, b < 16 → a ≠ b → (TX2 a).2.1 ≠ (TX2 b).2.1 := by decide +kernel
theorem tyX2_ok : ∀ k, k < 16 → parseFieldDescriptor (TX2 k).2.2.1 = some (tyX2 k) := by decide +kernel
abbrev cX2_init : ByteArray := prog_4_method_1_code
def yX2_init : MethodName := ⟨RX2, "<init>", "(LUnderTheRope$Cut;LUnderTheRope$Rules;)V"⟩
abbrev cX2_run : ByteArray := prog_4_method_2_code
def yX2_run : MethodName := ⟨RX2, "run", "(LUnderTheRope$Plan;II)I"⟩
abbrev cX2_begin : ByteArray := prog_4_method_3_code
def yX2_begin : MethodName := ⟨RX2, "begin", "(LUnderTheRope$Plan;)V"⟩
abbrev cX2_goOn : ByteArray := prog_4_method_4_code
def yX2_goOn : MethodName := ⟨RX2, "goOn", "()V"⟩
abbrev cX2_meetAll : ByteArray := prog_4_method_5_code
def yX2_meetAll : MethodName := ⟨RX2, "meetAll", "(LUnderTheRope$Plan;II)V"⟩
abbrev cX2_doMeet : ByteArray := prog_4_method_6_code
def yX2_doMeet : MethodName := ⟨RX2, "doMeet", "(II)Z"⟩
abbrev cX2_meet : ByteArray := prog_4_method_7_code
def yX2_meet : MethodName := ⟨RX2, "meet", "(LUnderTheRope$Plan;IIII)V"⟩
abbrev cX2_makeStand : ByteArray := prog_4_method_8_code
def yX2_makeStand : MethodName := ⟨RX2, "makeStand", "(II)V"⟩
abbrev cX2_noteMeeting : ByteArray := prog_4_method_9_code
def yX2_noteMeeting : MethodName := ⟨RX2, "noteMeeting", "(IIII)V"⟩
abbrev cX2_arrive : ByteArray := prog_4_method_10_code
def yX2_arrive : MethodName := ⟨RX2, "arrive", "(I)V"⟩
abbrev cX2_isAtEnd : ByteArray := prog_4_method_11_code
def yX2_isAtEnd : MethodName := ⟨RX2, "isAtEnd", "(I)Z"⟩
def RX3 : String := "UnderTheRope$Plan"
def TX3 : u_T := fun k => match k with
  | 0 => ("UnderTheRope$Plan", "loads", "[I", true)
  | _ => ("UnderTheRope$Plan", "delays", "[I", true)
def tyX3 : Nat → FieldType := fun k => match k with
  | 0 => .array .int
  | _ => .array .int
abbrev wsX30 : List Cond := u_ws RX3 TX3 2
theorem nmX3 : ∀ a, a < 2 → ∀ b, b < 2 → a ≠ b → (TX3 a).2.1 ≠ (TX3 b).2.1 := by decide +kernel
theorem tyX3_ok : ∀ k, k < 2 → parseFieldDescriptor (TX3 k).2.2.1 = some (tyX3 k) := by decide +kernel
abbrev cX3_init : ByteArray := prog_5_method_1_code
def yX3_init : MethodName := ⟨RX3, "<init>", "()V"⟩
abbrev cX3_begin : ByteArray := prog_5_method_2_code
def yX3_begin : MethodName := ⟨RX3, "begin", "(LUnderTheRope$Cut;)V"⟩
abbrev cX3_copy : ByteArray := prog_5_method_3_code
def yX3_copy : MethodName := ⟨RX3, "copy", "(LUnderTheRope$Plan;)V"⟩
abbrev cX3_draw : ByteArray := prog_5_method_4_code
def yX3_draw : MethodName := ⟨RX3, "draw", "(I)V"⟩
def RX4 : String := "UnderTheRope$Reader"
def TX4 : u_T := fun k => match k with
  | 0 => ("UnderTheRope$Reader", "text", "LUnderTheRope$Text;", true)
  | 1 => ("UnderTheRope$Reader", "cut", "LUnderTheRope$Cut;", true)
  | _ => ("UnderTheRope$Reader", "numbers", "[I", true)
def tyX4 : Nat → FieldType := fun k => match k with
  | 0 => .object "UnderTheRope$Text"
  | 1 => .object "UnderTheRope$Cut"
  | _ => .array .int
abbrev wsX40 : List Cond := u_ws RX4 TX4 3
theorem nmX4 : ∀ a, a < 3 → ∀ b, b < 3 → a ≠ b → (TX4 a).2.1 ≠ (TX4 b).2.1 := by decide +kernel
theorem tyX4_ok : ∀ k, k < 3 → parseFieldDescriptor (TX4 k).2.2.1 = some (tyX4 k) := by decide +kernel
abbrev cX4_init : ByteArray := prog_6_method_1_code
def yX4_init : MethodName := ⟨RX4, "<init>", "(LUnderTheRope$Text;LUnderTheRope$Cut;)V"⟩
abbrev cX4_firstFault : ByteArray := prog_6_method_2_code
def yX4_firstFault : MethodName := ⟨RX4, "firstFault", "()I"⟩
abbrev cX4_readItem : ByteArray := prog_6_method_3_code
def yX4_readItem : MethodName := ⟨RX4, "readItem", "(I)I"⟩
abbrev cX4_numbersOf : ByteArray := prog_6_method_4_code
def yX4_numbersOf : MethodName := ⟨RX4, "numbersOf", "(I)I"⟩
abbrev cX4_readNumber : ByteArray := prog_6_method_5_code
def yX4_readNumber : MethodName := ⟨RX4, "readNumber", "(III)I"⟩
abbrev cX4_figureAt : ByteArray := prog_6_method_6_code
def yX4_figureAt : MethodName := ⟨RX4, "figureAt", "(I)I"⟩
abbrev cX4_takeItem : ByteArray := prog_6_method_7_code
def yX4_takeItem : MethodName := ⟨RX4, "takeItem", "(I)Z"⟩
abbrev cX4_takeBoat : ByteArray := prog_6_method_8_code
def yX4_takeBoat : MethodName := ⟨RX4, "takeBoat", "()Z"⟩
abbrev cX4_takeNarrow : ByteArray := prog_6_method_9_code
def yX4_takeNarrow : MethodName := ⟨RX4, "takeNarrow", "()Z"⟩
abbrev cX4_takeYield : ByteArray := prog_6_method_10_code
def yX4_takeYield : MethodName := ⟨RX4, "takeYield", "()Z"⟩
abbrev cX4_takeHeld : ByteArray := prog_6_method_11_code
def yX4_takeHeld : MethodName := ⟨RX4, "takeHeld", "()Z"⟩
abbrev cX4_takeLine : ByteArray := prog_6_method_12_code
def yX4_takeLine : MethodName := ⟨RX4, "takeLine", "()Z"⟩
def RX5 : String := "UnderTheRope$Rules"
def TX5 : u_T := fun k => match k with
  | _ => ("UnderTheRope$Rules", "cut", "LUnderTheRope$Cut;", true)
def tyX5 : Nat → FieldType := fun k => match k with
  | _ => .object "UnderTheRope$Cut"
abbrev wsX50 : List Cond := u_ws RX5 TX5 1
theorem nmX5 : ∀ a, a < 1 → ∀ b, b < 1 → a ≠ b → (TX5 a).2.1 ≠ (TX5 b).2.1 := by decide +kernel
theorem tyX5_ok : ∀ k, k < 1 → parseFieldDescriptor (TX5 k).2.2.1 = some (tyX5 k) := by decide +kernel
abbrev cX5_init : ByteArray := prog_7_method_1_code
def yX5_init : MethodName := ⟨RX5, "<init>", "(LUnderTheRope$Cut;)V"⟩
abbrev cX5_yielder : ByteArray := prog_7_method_2_code
def yX5_yielder : MethodName := ⟨RX5, "yielder", "(LUnderTheRope$Plan;III)I"⟩
abbrev cX5_weight : ByteArray := prog_7_method_3_code
def yX5_weight : MethodName := ⟨RX5, "weight", "(LUnderTheRope$Plan;II)I"⟩
abbrev cX5_byCustom : ByteArray := prog_7_method_4_code
def yX5_byCustom : MethodName := ⟨RX5, "byCustom", "(LUnderTheRope$Plan;II)I"⟩
def RX6 : String := "UnderTheRope$Sightings"
def TX6 : u_T := fun k => match k with
  | 0 => ("UnderTheRope$Sightings", "yielder", "[I", true)
  | 1 => ("UnderTheRope$Sightings", "other", "[I", true)
  | _ => ("UnderTheRope$Sightings", "size", "I", false)
def tyX6 : Nat → FieldType := fun k => match k with
  | 0 => .array .int
  | 1 => .array .int
  | _ => .int
abbrev wsX60 : List Cond := u_ws RX6 TX6 3
theorem nmX6 : ∀ a, a < 3 → ∀ b, b < 3 → a ≠ b → (TX6 a).2.1 ≠ (TX6 b).2.1 := by decide +kernel
theorem tyX6_ok : ∀ k, k < 3 → parseFieldDescriptor (TX6 k).2.2.1 = some (tyX6 k) := by decide +kernel
abbrev cX6_init : ByteArray := prog_8_method_1_code
def yX6_init : MethodName := ⟨RX6, "<init>", "()V"⟩
abbrev cX6_add : ByteArray := prog_8_method_2_code
def yX6_add : MethodName := ⟨RX6, "add", "(II)Z"⟩
abbrev cX6_empty : ByteArray := prog_8_method_3_code
def yX6_empty : MethodName := ⟨RX6, "empty", "()I"⟩
def RX7 : String := "UnderTheRope$Store"
def TX7 : u_T := fun k => match k with
  | 0 => ("UnderTheRope$Store", "loads", "[I", true)
  | 1 => ("UnderTheRope$Store", "delays", "[I", true)
  | _ => ("UnderTheRope$Store", "size", "I", false)
def tyX7 : Nat → FieldType := fun k => match k with
  | 0 => .array .int
  | 1 => .array .int
  | _ => .int
abbrev wsX70 : List Cond := u_ws RX7 TX7 3
theorem nmX7 : ∀ a, a < 3 → ∀ b, b < 3 → a ≠ b → (TX7 a).2.1 ≠ (TX7 b).2.1 := by decide +kernel
theorem tyX7_ok : ∀ k, k < 3 → parseFieldDescriptor (TX7 k).2.2.1 = some (tyX7 k) := by decide +kernel
abbrev cX7_init : ByteArray := prog_9_method_1_code
def yX7_init : MethodName := ⟨RX7, "<init>", "()V"⟩
abbrev cX7_add : ByteArray := prog_9_method_2_code
def yX7_add : MethodName := ⟨RX7, "add", "(LUnderTheRope$Plan;)Z"⟩
abbrev cX7_takeLast : ByteArray := prog_9_method_3_code
def yX7_takeLast : MethodName := ⟨RX7, "takeLast", "(LUnderTheRope$Plan;)Z"⟩
def RX8 : String := "UnderTheRope$Text"
def TX8 : u_T := fun k => match k with
  | 0 => ("UnderTheRope$Text", "letters", "[I", true)
  | _ => ("UnderTheRope$Text", "length", "I", false)
def tyX8 : Nat → FieldType := fun k => match k with
  | 0 => .array .int
  | _ => .int
abbrev wsX80 : List Cond := u_ws RX8 TX8 2
theorem nmX8 : ∀ a, a < 2 → ∀ b, b < 2 → a ≠ b → (TX8 a).2.1 ≠ (TX8 b).2.1 := by decide +kernel
theorem tyX8_ok : ∀ k, k < 2 → parseFieldDescriptor (TX8 k).2.2.1 = some (tyX8 k) := by decide +kernel
abbrev cX8_init : ByteArray := prog_10_method_1_code
def yX8_init : MethodName := ⟨RX8, "<init>", "()V"⟩
abbrev cX8_add : ByteArray := prog_10_method_2_code
def yX8_add : MethodName := ⟨RX8, "add", "(I)Z"⟩
abbrev cX8_empty : ByteArray := prog_10_method_3_code
def yX8_empty : MethodName := ⟨RX8, "empty", "()I"⟩
abbrev cX8_letterAt : ByteArray := prog_10_method_4_code
def yX8_letterAt : MethodName := ⟨RX8, "letterAt", "(I)I"⟩
def RX9 : String := "UnderTheRope"
def TX9 : u_T := fun k => match k with
  | 0 => ("UnderTheRope", "text", "LUnderTheRope$Text;", true)
  | 1 => ("UnderTheRope", "draft", "LUnderTheRope$Cut;", true)
  | 2 => ("UnderTheRope", "reader", "LUnderTheRope$Reader;", true)
  | 3 => ("UnderTheRope", "cut", "LUnderTheRope$Cut;", true)
  | 4 => ("UnderTheRope", "plan", "LUnderTheRope$Plan;", true)
  | 5 => ("UnderTheRope", "trial", "LUnderTheRope$Plan;", true)
  | 6 => ("UnderTheRope", "rules", "LUnderTheRope$Rules;", true)
  | 7 => ("UnderTheRope", "passage", "LUnderTheRope$Passage;", true)
  | 8 => ("UnderTheRope", "changes", "LUnderTheRope$Changes;", true)
  | 9 => ("UnderTheRope", "sightings", "LUnderTheRope$Sightings;", true)
  | _ => ("UnderTheRope", "store", "LUnderTheRope$Store;", true)
def tyX9 : Nat → FieldType := fun k => match k with
  | 0 => .object "UnderTheRope$Text"
  | 1 => .object "UnderTheRope$Cut"
  | 2 => .object "UnderTheRope$Reader"
  | 3 => .object "UnderTheRope$Cut"
  | 4 => .object "UnderTheRope$Plan"
  | 5 => .object "UnderTheRope$Plan"
  | 6 => .object "UnderTheRope$Rules"
  | 7 => .object "UnderTheRope$Passage"
  | 8 => .object "UnderTheRope$Changes"
  | 9 => .object "UnderTheRope$Sightings"
  | _ => .object "UnderTheRope$Store"
abbrev wsX90 : List Cond := u_ws RX9 TX9 11
theorem nmX9 : ∀ a, a < 11 → ∀ b, b < 11 → a ≠ b → (TX9 a).2.1 ≠ (TX9 b).2.1 := by decide +kernel
theorem tyX9_ok : ∀ k, k < 11 → parseFieldDescriptor (TX9 k).2.2.1 = some (tyX9 k) := by decide +kernel
abbrev cX9_init : ByteArray := prog_1_method_1_code
def yX9_init : MethodName := ⟨RX9, "<init>", "()V"⟩
abbrev cX9_write : ByteArray := prog_1_method_2_code
def yX9_write : MethodName := ⟨RX9, "write", "(I)I"⟩
abbrev cX9_wipe : ByteArray := prog_1_method_3_code
def yX9_wipe : MethodName := ⟨RX9, "wipe", "()I"⟩
abbrev cX9_fault : ByteArray := prog_1_method_4_code
def yX9_fault : MethodName := ⟨RX9, "fault", "()I"⟩
abbrev cX9_lay : ByteArray := prog_1_method_5_code
def yX9_lay : MethodName := ⟨RX9, "lay", "()I"⟩
abbrev cX9_boat : ByteArray := prog_1_method_6_code
def yX9_boat : MethodName := ⟨RX9, "boat", "(II)I"⟩
abbrev cX9_where : ByteArray := prog_1_method_7_code
def yX9_where : MethodName := ⟨RX9, "where", "(III)I"⟩
abbrev cX9_there : ByteArray := prog_1_method_8_code
def yX9_there : MethodName := ⟨RX9, "there", "(II)I"⟩
abbrev cX9_stands : ByteArray := prog_1_method_9_code
def yX9_stands : MethodName := ⟨RX9, "stands", "(II)I"⟩
abbrev cX9_yields : ByteArray := prog_1_method_10_code
def yX9_yields : MethodName := ⟨RX9, "yields", "(II)I"⟩
abbrev cX9_meetings : ByteArray := prog_1_method_11_code
def yX9_meetings : MethodName := ⟨RX9, "meetings", "(I)I"⟩
abbrev cX9_meeting : ByteArray := prog_1_method_12_code
def yX9_meeting : MethodName := ⟨RX9, "meeting", "(III)I"⟩
abbrev cX9_load : ByteArray := prog_1_method_13_code
def yX9_load : MethodName := ⟨RX9, "load", "(II)I"⟩
abbrev cX9_later : ByteArray := prog_1_method_14_code
def yX9_later : MethodName := ⟨RX9, "later", "(II)I"⟩
abbrev cX9_undo : ByteArray := prog_1_method_15_code
def yX9_undo : MethodName := ⟨RX9, "undo", "()I"⟩
abbrev cX9_who : ByteArray := prog_1_method_16_code
def yX9_who : MethodName := ⟨RX9, "who", "(III)I"⟩
abbrev cX9_best : ByteArray := prog_1_method_17_code
def yX9_best : MethodName := ⟨RX9, "best", "(I)I"⟩
abbrev cX9_custom : ByteArray := prog_1_method_18_code
def yX9_custom : MethodName := ⟨RX9, "custom", "()I"⟩
abbrev cX9_send : ByteArray := prog_1_method_19_code
def yX9_send : MethodName := ⟨RX9, "send", "(III)I"⟩
abbrev cX9_swap : ByteArray := prog_1_method_20_code
def yX9_swap : MethodName := ⟨RX9, "swap", "(II)I"⟩
abbrev cX9_fall : ByteArray := prog_1_method_21_code
def yX9_fall : MethodName := ⟨RX9, "fall", "(III)I"⟩
abbrev cX9_caught : ByteArray := prog_1_method_22_code
def yX9_caught : MethodName := ⟨RX9, "caught", "(IIII)I"⟩
abbrev cX9_rests : ByteArray := prog_1_method_23_code
def yX9_rests : MethodName := ⟨RX9, "rests", "(III)I"⟩
abbrev cX9_seen : ByteArray := prog_1_method_24_code
def yX9_seen : MethodName := ⟨RX9, "seen", "(II)I"⟩
abbrev cX9_forget : ByteArray := prog_1_method_25_code
def yX9_forget : MethodName := ⟨RX9, "forget", "()I"⟩
abbrev cX9_fits : ByteArray := prog_1_method_26_code
def yX9_fits : MethodName := ⟨RX9, "fits", "()I"⟩
abbrev cX9_starts : ByteArray := prog_1_method_27_code
def yX9_starts : MethodName := ⟨RX9, "starts", "(II)I"⟩
abbrev cX9_bears : ByteArray := prog_1_method_28_code
def yX9_bears : MethodName := ⟨RX9, "bears", "(II)I"⟩
abbrev cX9_day : ByteArray := prog_1_method_29_code
def yX9_day : MethodName := ⟨RX9, "day", "(III)I"⟩
abbrev cX9_keep : ByteArray := prog_1_method_30_code
def yX9_keep : MethodName := ⟨RX9, "keep", "()I"⟩
abbrev cX9_back : ByteArray := prog_1_method_31_code
def yX9_back : MethodName := ⟨RX9, "back", "()I"⟩
abbrev cX9_count : ByteArray := prog_1_method_32_code
def yX9_count : MethodName := ⟨RX9, "count", "(I)I"⟩
abbrev cX9_isWithin : ByteArray := prog_1_method_33_code
def yX9_isWithin : MethodName := ⟨RX9, "isWithin", "(III)Z"⟩
abbrev cX9_isRule : ByteArray := prog_1_method_34_code
def yX9_isRule : MethodName := ⟨RX9, "isRule", "(I)Z"⟩
abbrev cX9_isBoat : ByteArray := prog_1_method_35_code
def yX9_isBoat : MethodName := ⟨RX9, "isBoat", "(I)Z"⟩
abbrev cX9_areTwo : ByteArray := prog_1_method_36_code
def yX9_areTwo : MethodName := ⟨RX9, "areTwo", "(II)Z"⟩
abbrev cX9_layText : ByteArray := prog_1_method_37_code
def yX9_layText : MethodName := ⟨RX9, "layText", "()Z"⟩
abbrev cX9_leastRule : ByteArray := prog_1_method_38_code
def yX9_leastRule : MethodName := ⟨RX9, "leastRule", "()I"⟩
abbrev cX9_standExchanged : ByteArray := prog_1_method_39_code
def yX9_standExchanged : MethodName := ⟨RX9, "standExchanged", "(III)I"⟩
abbrev cX9_minutesToSink : ByteArray := prog_1_method_40_code
def yX9_minutesToSink : MethodName := ⟨RX9, "minutesToSink", "(I)I"⟩
abbrev cX9_waysToSinkLess : ByteArray := prog_1_method_41_code
def yX9_waysToSinkLess : MethodName := ⟨RX9, "waysToSinkLess", "(III)I"⟩
abbrev cX9_power : ByteArray := prog_1_method_42_code
def yX9_power : MethodName := ⟨RX9, "power", "(II)I"⟩
abbrev cX9_commonDivisor : ByteArray := prog_1_method_43_code
def yX9_commonDivisor : MethodName := ⟨RX9, "commonDivisor", "(II)I"⟩
abbrev cX9_isRest : ByteArray := prog_1_method_44_code
def yX9_isRest : MethodName := ⟨RX9, "isRest", "(III)Z"⟩
abbrev cX9_standChoosing : ByteArray := prog_1_method_45_code
def yX9_standChoosing : MethodName := ⟨RX9, "standChoosing", "(IZZ)I"⟩
abbrev cX9_fitsSightings : ByteArray := prog_1_method_46_code
def yX9_fitsSightings : MethodName := ⟨RX9, "fitsSightings", "(I)Z"⟩
def RX10 : String := "UnderTheRopeModel"
def TX10 : u_T := fun k => match k with
  | 0 => ("UnderTheRopeModel", "length", "I", false)
  | 1 => ("UnderTheRopeModel", "text", "[I", true)
  | 2 => ("UnderTheRopeModel", "boats", "[I", true)
  | 3 => ("UnderTheRopeModel", "cells", "[I", true)
  | 4 => ("UnderTheRopeModel", "ways", "[I", true)
  | 5 => ("UnderTheRopeModel", "paces", "[I", true)
  | 6 => ("UnderTheRopeModel", "loads", "[I", true)
  | 7 => ("UnderTheRopeModel", "kinds", "[I", true)
  | 8 => ("UnderTheRopeModel", "narrows", "[I", true)
  | 9 => ("UnderTheRopeModel", "froms", "[I", true)
  | 10 => ("UnderTheRopeModel", "tos", "[I", true)
  | 11 => ("UnderTheRopeModel", "laws", "[I", true)
  | 12 => ("UnderTheRopeModel", "now", "[I", true)
  | 13 => ("UnderTheRopeModel", "before", "[I", true)
  | 14 => ("UnderTheRopeModel", "undoMany", "I", false)
  | 15 => ("UnderTheRopeModel", "kept", "[I", true)
  | 16 => ("UnderTheRopeModel", "keptMany", "I", false)
  | 17 => ("UnderTheRopeModel", "seenMany", "I", false)
  | 18 => ("UnderTheRopeModel", "seenOne", "[I", true)
  | 19 => ("UnderTheRopeModel", "seenOther", "[I", true)
  | 20 => ("UnderTheRopeModel", "spot", "I", false)
  | 21 => ("UnderTheRopeModel", "told", "[I", true)
  | 22 => ("UnderTheRopeModel", "places", "[I", true)
  | 23 => ("UnderTheRopeModel", "left", "[I", true)
  | 24 => ("UnderTheRopeModel", "thereAt", "[I", true)
  | 25 => ("UnderTheRopeModel", "added", "[I", true)
  | 26 => ("UnderTheRopeModel", "gave", "[I", true)
  | 27 => ("UnderTheRopeModel", "begun", "[I", true)
  | 28 => ("UnderTheRopeModel", "meets", "I", false)
  | 29 => ("UnderTheRopeModel", "meetMinute", "[I", true)
  | 30 => ("UnderTheRopeModel", "meetTwo", "[I", true)
  | 31 => ("UnderTheRopeModel", "meetWho", "[I", true)
  | 32 => ("UnderTheRopeModel", "meetWhere", "[I", true)
  | _ => ("UnderTheRopeModel", "was", "[I", true)
def tyX10 : Nat → FieldType := fun k => match k with
  | 0 => .int
  | 1 => .array .int
  | 2 => .array .int
  | 3 => .array .int
  | 4 => .array .int
  | 5 => .array .int
  | 6 => .array .int
  | 7 => .array .int
  | 8 => .array .int
  | 9 => .array .int
  | 10 => .array .int
  | 11 => .array .int
  | 12 => .array .int
  | 13 => .array .int
  | 14 => .int
  | 15 => .array .int
  | 16 => .int
  | 17 => .int
  | 18 => .array .int
  | 19 => .array .int
  | 20 => .int
  | 21 => .array .int
  | 22 => .array .int
  | 23 => .array .int
  | 24 => .array .int
  | 25 => .array .int
  | 26 => .array .int
  | 27 => .array .int
  | 28 => .int
  | 29 => .array .int
  | 30 => .array .int
  | 31 => .array .int
  | 32 => .array .int
  | _ => .array .int
abbrev wsX100 : List Cond := u_ws RX10 TX10 34
theorem nmX10 : ∀ a, a < 34 → ∀ b, b < 34 → a ≠ b → (TX10 a).2.1 ≠ (TX10 b).2.1 := by decide +kernel
theorem tyX10_ok : ∀ k, k < 34 → parseFieldDescriptor (TX10 k).2.2.1 = some (tyX10 k) := by decide +kernel
abbrev cX10_init : ByteArray := prog_12_method_1_code
def yX10_init : MethodName := ⟨RX10, "<init>", "()V"⟩
abbrev cX10_in : ByteArray := prog_12_method_2_code
def yX10_in : MethodName := ⟨RX10, "in", "(JJJ)Z"⟩
abbrev cX10_noCut : ByteArray := prog_12_method_3_code
def yX10_noCut : MethodName := ⟨RX10, "noCut", "(I)V"⟩
abbrev cX10_addBoat : ByteArray := prog_12_method_4_code
def yX10_addBoat : MethodName := ⟨RX10, "addBoat", "(IIIIII)V"⟩
abbrev cX10_write : ByteArray := prog_12_method_5_code
def yX10_write : MethodName := ⟨RX10, "write", "(I)I"⟩
abbrev cX10_wipe : ByteArray := prog_12_method_6_code
def yX10_wipe : MethodName := ⟨RX10, "wipe", "()I"⟩
abbrev cX10_letterAt : ByteArray := prog_12_method_7_code
def yX10_letterAt : MethodName := ⟨RX10, "letterAt", "(I)I"⟩
abbrev cX10_figures : ByteArray := prog_12_method_8_code
def yX10_figures : MethodName := ⟨RX10, "figures", "(I)Z"⟩
abbrev cX10_boatItem : ByteArray := prog_12_method_9_code
def yX10_boatItem : MethodName := ⟨RX10, "boatItem", "()Z"⟩
abbrev cX10_narrowItem : ByteArray := prog_12_method_10_code
def yX10_narrowItem : MethodName := ⟨RX10, "narrowItem", "()Z"⟩
abbrev cX10_setLaw : ByteArray := prog_12_method_11_code
def yX10_setLaw : MethodName := ⟨RX10, "setLaw", "(III)Z"⟩
abbrev cX10_item : ByteArray := prog_12_method_12_code
def yX10_item : MethodName := ⟨RX10, "item", "()Z"⟩
abbrev cX10_readAll : ByteArray := prog_12_method_13_code
def yX10_readAll : MethodName := ⟨RX10, "readAll", "()I"⟩
abbrev cX10_fault : ByteArray := prog_12_method_14_code
def yX10_fault : MethodName := ⟨RX10, "fault", "()I"⟩
abbrev cX10_lay : ByteArray := prog_12_method_15_code
def yX10_lay : MethodName := ⟨RX10, "lay", "()I"⟩
abbrev cX10_begin : ByteArray := prog_12_method_16_code
def yX10_begin : MethodName := ⟨RX10, "begin", "()V"⟩
abbrev cX10_isBoat : ByteArray := prog_12_method_17_code
def yX10_isBoat : MethodName := ⟨RX10, "isBoat", "(I)Z"⟩
abbrev cX10_areTwo : ByteArray := prog_12_method_18_code
def yX10_areTwo : MethodName := ⟨RX10, "areTwo", "(II)Z"⟩
abbrev cX10_isRule : ByteArray := prog_12_method_19_code
def yX10_isRule : MethodName := ⟨RX10, "isRule", "(I)Z"⟩
abbrev cX10_boat : ByteArray := prog_12_method_20_code
def yX10_boat : MethodName := ⟨RX10, "boat", "(II)I"⟩
abbrev cX10_byCustom : ByteArray := prog_12_method_21_code
def yX10_byCustom : MethodName := ⟨RX10, "byCustom", "(II)I"⟩
abbrev cX10_byLoad : ByteArray := prog_12_method_22_code
def yX10_byLoad : MethodName := ⟨RX10, "byLoad", "(II)I"⟩
abbrev cX10_loss : ByteArray := prog_12_method_23_code
def yX10_loss : MethodName := ⟨RX10, "loss", "(I)I"⟩
abbrev cX10_byRule : ByteArray := prog_12_method_24_code
def yX10_byRule : MethodName := ⟨RX10, "byRule", "(III)I"⟩
abbrev cX10_yielder : ByteArray := prog_12_method_25_code
def yX10_yielder : MethodName := ⟨RX10, "yielder", "(III)I"⟩
abbrev cX10_endOf : ByteArray := prog_12_method_26_code
def yX10_endOf : MethodName := ⟨RX10, "endOf", "(I)I"⟩
abbrev cX10_isNarrow : ByteArray := prog_12_method_27_code
def yX10_isNarrow : MethodName := ⟨RX10, "isNarrow", "(I)Z"⟩
abbrev cX10_standMore : ByteArray := prog_12_method_28_code
def yX10_standMore : MethodName := ⟨RX10, "standMore", "(III)V"⟩
abbrev cX10_meet : ByteArray := prog_12_method_29_code
def yX10_meet : MethodName := ⟨RX10, "meet", "(IIII)V"⟩
abbrev cX10_doMeet : ByteArray := prog_12_method_30_code
def yX10_doMeet : MethodName := ⟨RX10, "doMeet", "(III)Z"⟩
abbrev cX10_goMinute : ByteArray := prog_12_method_31_code
def yX10_goMinute : MethodName := ⟨RX10, "goMinute", "(II)V"⟩
abbrev cX10_goDay : ByteArray := prog_12_method_32_code
def yX10_goDay : MethodName := ⟨RX10, "goDay", "(I)I"⟩
abbrev cX10_where : ByteArray := prog_12_method_33_code
def yX10_where : MethodName := ⟨RX10, "where", "(III)I"⟩
abbrev cX10_there : ByteArray := prog_12_method_34_code
def yX10_there : MethodName := ⟨RX10, "there", "(II)I"⟩
abbrev cX10_stands : ByteArray := prog_12_method_35_code
def yX10_stands : MethodName := ⟨RX10, "stands", "(II)I"⟩
abbrev cX10_yields : ByteArray := prog_12_method_36_code
def yX10_yields : MethodName := ⟨RX10, "yields", "(II)I"⟩
abbrev cX10_meetings : ByteArray := prog_12_method_37_code
def yX10_meetings : MethodName := ⟨RX10, "meetings", "(I)I"⟩
abbrev cX10_meeting : ByteArray := prog_12_method_38_code
def yX10_meeting : MethodName := ⟨RX10, "meeting", "(III)I"⟩
abbrev cX10_note : ByteArray := prog_12_method_39_code
def yX10_note : MethodName := ⟨RX10, "note", "()V"⟩
abbrev cX10_load : ByteArray := prog_12_method_40_code
def yX10_load : MethodName := ⟨RX10, "load", "(II)I"⟩
abbrev cX10_later : ByteArray := prog_12_method_41_code
def yX10_later : MethodName := ⟨RX10, "later", "(II)I"⟩
abbrev cX10_undo : ByteArray := prog_12_method_42_code
def yX10_undo : MethodName := ⟨RX10, "undo", "()I"⟩
abbrev cX10_who : ByteArray := prog_12_method_43_code
def yX10_who : MethodName := ⟨RX10, "who", "(III)I"⟩
abbrev cX10_best : ByteArray := prog_12_method_44_code
def yX10_best : MethodName := ⟨RX10, "best", "(I)I"⟩
abbrev cX10_custom : ByteArray := prog_12_method_45_code
def yX10_custom : MethodName := ⟨RX10, "custom", "()I"⟩
abbrev cX10_send : ByteArray := prog_12_method_46_code
def yX10_send : MethodName := ⟨RX10, "send", "(III)I"⟩
abbrev cX10_change : ByteArray := prog_12_method_47_code
def yX10_change : MethodName := ⟨RX10, "change", "(II)V"⟩
abbrev cX10_swap : ByteArray := prog_12_method_48_code
def yX10_swap : MethodName := ⟨RX10, "swap", "(II)I"⟩
abbrev cX10_sinksIn : ByteArray := prog_12_method_49_code
def yX10_sinksIn : MethodName := ⟨RX10, "sinksIn", "(I)I"⟩
abbrev cX10_fall : ByteArray := prog_12_method_50_code
def yX10_fall : MethodName := ⟨RX10, "fall", "(III)I"⟩
abbrev cX10_common : ByteArray := prog_12_method_51_code
def yX10_common : MethodName := ⟨RX10, "common", "(II)I"⟩
abbrev cX10_caught : ByteArray := prog_12_method_52_code
def yX10_caught : MethodName := ⟨RX10, "caught", "(IIII)I"⟩
abbrev cX10_standsBy : ByteArray := prog_12_method_53_code
def yX10_standsBy : MethodName := ⟨RX10, "standsBy", "(IZZ)I"⟩
abbrev cX10_rests : ByteArray := prog_12_method_54_code
def yX10_rests : MethodName := ⟨RX10, "rests", "(III)I"⟩
abbrev cX10_seen : ByteArray := prog_12_method_55_code
def yX10_seen : MethodName := ⟨RX10, "seen", "(II)I"⟩
abbrev cX10_forget : ByteArray := prog_12_method_56_code
def yX10_forget : MethodName := ⟨RX10, "forget", "()I"⟩
abbrev cX10_fits : ByteArray := prog_12_method_57_code
def yX10_fits : MethodName := ⟨RX10, "fits", "()I"⟩
abbrev cX10_starts : ByteArray := prog_12_method_58_code
def yX10_starts : MethodName := ⟨RX10, "starts", "(II)I"⟩
abbrev cX10_bears : ByteArray := prog_12_method_59_code
def yX10_bears : MethodName := ⟨RX10, "bears", "(II)I"⟩
abbrev cX10_day : ByteArray := prog_12_method_60_code
def yX10_day : MethodName := ⟨RX10, "day", "(III)I"⟩
abbrev cX10_keep : ByteArray := prog_12_method_61_code
def yX10_keep : MethodName := ⟨RX10, "keep", "()I"⟩
abbrev cX10_back : ByteArray := prog_12_method_62_code
def yX10_back : MethodName := ⟨RX10, "back", "()I"⟩
abbrev cX10_count : ByteArray := prog_12_method_63_code
def yX10_count : MethodName := ⟨RX10, "count", "(I)I"⟩
def RJ9 : String := "java/lang/Math"
abbrev cJ9_max_7cf53 : ByteArray := prog_13_method_65_code
def yJ9_max_7cf53 : MethodName := ⟨RJ9, "max", "(II)I"⟩
abbrev cJ9_min_7cf53 : ByteArray := prog_13_method_69_code
def yJ9_min_7cf53 : MethodName := ⟨RJ9, "min", "(II)I"⟩
def RJ0 : String := "java/lang/String"
abbrev cJ0_length_8abf5 : ByteArray := prog_14_method_54_code
def yJ0_length_8abf5 : MethodName := ⟨RJ0, "length", "()I"⟩
abbrev cJ0_charAt_5068e : ByteArray := prog_14_method_56_code
def yJ0_charAt_5068e : MethodName := ⟨RJ0, "charAt", "(I)C"⟩
abbrev cJ0_coder_7d493 : ByteArray := prog_14_method_152_code
def yJ0_coder_7d493 : MethodName := ⟨RJ0, "coder", "()B"⟩
abbrev cJ0_isLatin1_aae02 : ByteArray := prog_14_method_154_code
def yJ0_isLatin1_aae02 : MethodName := ⟨RJ0, "isLatin1", "()Z"⟩
abbrev cJ0_checkIndex_df160 : ByteArray := prog_14_method_155_code
def yJ0_checkIndex_df160 : MethodName := ⟨RJ0, "checkIndex", "(II)V"⟩
def RJ1 : String := "java/lang/StringLatin1"
abbrev cJ1_charAt_3b067 : ByteArray := prog_15_method_2_code
def yJ1_charAt_3b067 : MethodName := ⟨RJ1, "charAt", "([BI)C"⟩
def RJ2 : String := "java/lang/StringUTF16"
abbrev cJ2_getChar_3b067 : ByteArray := prog_16_method_5_code
def yJ2_getChar_3b067 : MethodName := ⟨RJ2, "getChar", "([BI)C"⟩
abbrev cJ2_length_9d52b : ByteArray := prog_16_method_6_code
def yJ2_length_9d52b : MethodName := ⟨RJ2, "length", "([B)I"⟩
abbrev cJ2_charAt_3b067 : ByteArray := prog_16_method_83_code
def yJ2_charAt_3b067 : MethodName := ⟨RJ2, "charAt", "([BI)C"⟩
abbrev cJ2_checkIndex_2214a : ByteArray := prog_16_method_91_code
def yJ2_checkIndex_2214a : MethodName := ⟨RJ2, "checkIndex", "(I[B)V"⟩
def RJ10 : String := "java/lang/System"
def RJ3 : String := "jdk/internal/util/Preconditions"
abbrev cJ3_checkIndex_8e157 : ByteArray := prog_18_method_11_code
def yJ3_checkIndex_8e157 : MethodName := ⟨RJ3, "checkIndex", "(IILjava/util/function/BiFunction;)I"⟩
def RL : String := "UnderTheRopeLaw"
abbrev cL_law : ByteArray := code
def yL_law : MethodName := ⟨RL, "law", "([I)Z"⟩
abbrev vwCl : List vw_C := [(RX0, TX0, 4), (RX1, TX1, 13), (RX2, TX2, 16), (RX3, TX3, 2), (RX4, TX4, 3), (RX5, TX5, 1), (RX6, TX6, 3), (RX7, TX7, 3), (RX8, TX8, 2), (RX9, TX9, 11), (RX10, TX10, 34)]
/-! the words that every contract asks: the good ones of the tables -/
def WS : List Cond := lw_tbl.filter (fun w => goodWord w)
theorem m_goodWS : GoodIn WS WS := fun _ h => ⟨h, good_of_word (List.mem_filter.mp h).2⟩
theorem m_ts {w : Cond} (i : Nat) (h : (k2_sels lw_privs)[i]? = some w) (hg : goodWord w = true) : w ∈ WS := List.mem_filter.mpr ⟨List.mem_append_left _ (List.mem_of_getElem? h), hg⟩
theorem m_tt {w : Cond} (h : w ∈ tables_1) (hg : goodWord w = true) : w ∈ WS := List.mem_filter.mpr ⟨List.mem_append_right _ h, hg⟩
theorem m_t1 {w : Cond} (i : Nat) (h : tables_1_1[i]? = some w) (hg : goodWord w = true) : w ∈ WS := m_tt (List.mem_append_left _ (List.mem_of_getElem? h)) hg
theorem m_t2 {w : Cond} (i : Nat) (h : tables_1_2[i]? = some w) (hg : goodWord w = true) : w ∈ WS := m_tt (List.mem_append_right _ (List.mem_append_left _ (List.mem_of_getElem? h))) hg
theorem m_t3 {w : Cond} (i : Nat) (h : tables_1_3[i]? = some w) (hg : goodWord w = true) : w ∈ WS := m_tt (List.mem_append_right _ (List.mem_append_right _ (List.mem_append_left _ (List.mem_of_getElem? h)))) hg
theorem m_t4 {w : Cond} (i : Nat) (h : tables_1_4[i]? = some w) (hg : goodWord w = true) : w ∈ WS := m_tt (List.mem_append_right _ (List.mem_append_right _ (List.mem_append_right _ (List.mem_append_left _ (List.mem_of_getElem? h))))) hg
theorem m_t5 {w : Cond} (i : Nat) (h : tables_1_5[i]? = some w) (hg : goodWord w = true) : w ∈ WS := m_tt (List.mem_append_right _ (List.mem_append_right _ (List.mem_append_right _ (List.mem_append_right _ (List.mem_of_getElem? h))))) hg
set_option maxRecDepth 20000 in
theorem inX0 : ∀ w ∈ u_ws RX0 TX0 4, w ∈ WS := by
  intro w h
  simp only [u_ws, List.mem_map, List.mem_range] at h
  obtain ⟨k, hk, rfl⟩ := h
  match k, hk with
  | 0, _ => exact m_t2 6 rfl rfl
  | 1, _ => exact m_t2 8 rfl rfl
  | 2, _ => exact m_t2 10 rfl rfl
  | 3, _ => exact m_t2 12 rfl rfl
  | k + 4, hk => exact absurd hk (by omega)
set_option maxRecDepth 20000 in
theorem inX1 : ∀ w ∈ u_ws RX1 TX1 13, w ∈ WS := by
  intro w h
  simp only [u_ws, List.mem_map, List.mem_range] at h
  obtain ⟨k, hk, rfl⟩ := h
  match k, hk with
  | 0, _ => exact m_t1 95 rfl rfl
  | 1, _ => exact m_t1 97 rfl rfl
  | 2, _ => exact m_t1 99 rfl rfl
  | 3, _ => exact m_t1 101 rfl rfl
  | 4, _ => exact m_t1 103 rfl rfl
  | 5, _ => exact m_t1 105 rfl rfl
  | 6, _ => exact m_t1 107 rfl rfl
  | 7, _ => exact m_t1 109 rfl rfl
  | 8, _ => exact m_t1 111 rfl rfl
  | 9, _ => exact m_t1 113 rfl rfl
  | 10, _ => exact m_t1 115 rfl rfl
  | 11, _ => exact m_t1 117 rfl rfl
  | 12, _ => exact m_t1 119 rfl rfl
  | k + 13, hk => exact absurd hk (by omega)
set_option maxRecDepth 20000 in
theorem inX2 : ∀ w ∈ u_ws RX2 TX2 16, w ∈ WS := by
  intro w h
  simp only [u_ws, List.mem_map, List.mem_range] at h
  obtain ⟨k, hk, rfl⟩ := h
  match k, hk with
  | 0, _ => exact m_t1 202 rfl rfl
  | 1, _ => exact m_t1 204 rfl rfl
  | 2, _ => exact m_t1 206 rfl rfl
  | 3, _ => exact m_t1 208 rfl rfl
  | 4, _ => exact m_t1 210 rfl rfl
  | 5, _ => exact m_t1 212 rfl rfl
  | 6, _ => exact m_t1 214 rfl rfl
  | 7, _ => exact m_t1 216 rfl rfl
  | 8, _ => exact m_t1 218 rfl rfl
  | 9, _ => exact m_t1 220 rfl rfl
  | 10, _ => exact m_t1 222 rfl rfl
  | 11, _ => exact m_t1 224 rfl rfl
  | 12, _ => exact m_t1 226 rfl rfl
  | 13, _ => exact m_t1 228 rfl rfl
  | 14, _ => exact m_t1 230 rfl rfl
  | 15, _ => exact m_t1 232 rfl rfl
  | k + 16, hk => exact absurd hk (by omega)
set_option maxRecDepth 20000 in
theorem inX3 : ∀ w ∈ u_ws RX3 TX3 2, w ∈ WS := by
  intro w h
  simp only [u_ws, List.mem_map, List.mem_range] at h
  obtain ⟨k, hk, rfl⟩ := h
  match k, hk with
  | 0, _ => exact m_t1 155 rfl rfl
  | 1, _ => exact m_t1 157 rfl rfl
  | k + 2, hk => exact absurd hk (by omega)
set_option maxRecDepth 20000 in
theorem inX4 : ∀ w ∈ u_ws RX4 TX4 3, w ∈ WS := by
  intro w h
  simp only [u_ws, List.mem_map, List.mem_range] at h
  obtain ⟨k, hk, rfl⟩ := h
  match k, hk with
  | 0, _ => exact m_t1 131 rfl rfl
  | 1, _ => exact m_t1 133 rfl rfl
  | 2, _ => exact m_t1 135 rfl rfl
  | k + 3, hk => exact absurd hk (by omega)
set_option maxRecDepth 20000 in
theorem inX5 : ∀ w ∈ u_ws RX5 TX5 1, w ∈ WS := by
  intro w h
  simp only [u_ws, List.mem_map, List.mem_range] at h
  obtain ⟨k, hk, rfl⟩ := h
  match k, hk with
  | 0, _ => exact m_t1 167 rfl rfl
  | k + 1, hk => exact absurd hk (by omega)
set_option maxRecDepth 20000 in
theorem inX6 : ∀ w ∈ u_ws RX6 TX6 3, w ∈ WS := by
  intro w h
  simp only [u_ws, List.mem_map, List.mem_range] at h
  obtain ⟨k, hk, rfl⟩ := h
  match k, hk with
  | 0, _ => exact m_t2 28 rfl rfl
  | 1, _ => exact m_t2 30 rfl rfl
  | 2, _ => exact m_t2 32 rfl rfl
  | k + 3, hk => exact absurd hk (by omega)
set_option maxRecDepth 20000 in
theorem inX7 : ∀ w ∈ u_ws RX7 TX7 3, w ∈ WS := by
  intro w h
  simp only [u_ws, List.mem_map, List.mem_range] at h
  obtain ⟨k, hk, rfl⟩ := h
  match k, hk with
  | 0, _ => exact m_t2 45 rfl rfl
  | 1, _ => exact m_t2 47 rfl rfl
  | 2, _ => exact m_t2 49 rfl rfl
  | k + 3, hk => exact absurd hk (by omega)
set_option maxRecDepth 20000 in
theorem inX8 : ∀ w ∈ u_ws RX8 TX8 2, w ∈ WS := by
  intro w h
  simp only [u_ws, List.mem_map, List.mem_range] at h
  obtain ⟨k, hk, rfl⟩ := h
  match k, hk with
  | 0, _ => exact m_t1 36 rfl rfl
  | 1, _ => exact m_t1 38 rfl rfl
  | k + 2, hk => exact absurd hk (by omega)
set_option maxRecDepth 20000 in
theorem inX9 : ∀ w ∈ u_ws RX9 TX9 11, w ∈ WS := by
  intro w h
  simp only [u_ws, List.mem_map, List.mem_range] at h
  obtain ⟨k, hk, rfl⟩ := h
  match k, hk with
  | 0, _ => exact m_t2 193 rfl rfl
  | 1, _ => exact m_t2 195 rfl rfl
  | 2, _ => exact m_t2 197 rfl rfl
  | 3, _ => exact m_t2 199 rfl rfl
  | 4, _ => exact m_t2 201 rfl rfl
  | 5, _ => exact m_t2 203 rfl rfl
  | 6, _ => exact m_t2 205 rfl rfl
  | 7, _ => exact m_t2 207 rfl rfl
  | 8, _ => exact m_t2 209 rfl rfl
  | 9, _ => exact m_t2 211 rfl rfl
  | 10, _ => exact m_t2 213 rfl rfl
  | k + 11, hk => exact absurd hk (by omega)
set_option maxRecDepth 20000 in
theorem inX10 : ∀ w ∈ u_ws RX10 TX10 34, w ∈ WS := by
  intro w h
  simp only [u_ws, List.mem_map, List.mem_range] at h
  obtain ⟨k, hk, rfl⟩ := h
  match k, hk with
  | 0, _ => exact m_t4 61 rfl rfl
  | 1, _ => exact m_t4 63 rfl rfl
  | 2, _ => exact m_t4 65 rfl rfl
  | 3, _ => exact m_t4 67 rfl rfl
  | 4, _ => exact m_t4 69 rfl rfl
  | 5, _ => exact m_t4 71 rfl rfl
  | 6, _ => exact m_t4 73 rfl rfl
  | 7, _ => exact m_t4 75 rfl rfl
  | 8, _ => exact m_t4 77 rfl rfl
  | 9, _ => exact m_t4 79 rfl rfl
  | 10, _ => exact m_t4 81 rfl rfl
  | 11, _ => exact m_t4 83 rfl rfl
  | 12, _ => exact m_t4 85 rfl rfl
  | 13, _ => exact m_t4 87 rfl rfl
  | 14, _ => exact m_t4 89 rfl rfl
  | 15, _ => exact m_t4 91 rfl rfl
  | 16, _ => exact m_t4 93 rfl rfl
  | 17, _ => exact m_t4 95 rfl rfl
  | 18, _ => exact m_t4 97 rfl rfl
  | 19, _ => exact m_t4 99 rfl rfl
  | 20, _ => exact m_t4 101 rfl rfl
  | 21, _ => exact m_t4 103 rfl rfl
  | 22, _ => exact m_t4 105 rfl rfl
  | 23, _ => exact m_t4 107 rfl rfl
  | 24, _ => exact m_t4 109 rfl rfl
  | 25, _ => exact m_t4 111 rfl rfl
  | 26, _ => exact m_t4 113 rfl rfl
  | 27, _ => exact m_t4 115 rfl rfl
  | 28, _ => exact m_t4 117 rfl rfl
  | 29, _ => exact m_t4 119 rfl rfl
  | 30, _ => exact m_t4 121 rfl rfl
  | 31, _ => exact m_t4 123 rfl rfl
  | 32, _ => exact m_t4 125 rfl rfl
  | 33, _ => exact m_t4 127 rfl rfl
  | k + 34, hk => exact absurd hk (by omega)
