def RX0 : String := "OldestDown$Being"
def TX0 : u_T := fun k => match k with
  | 0 => ("OldestDown$Being", "breath", "[I", true)
  | 1 => ("OldestDown$Being", "knows", "[I", true)
  | 2 => ("OldestDown$Being", "coin", "[I", true)
  | 3 => ("OldestDown$Being", "where", "[I", true)
  | 4 => ("OldestDown$Being", "cell", "[I", true)
  | 5 => ("OldestDown$Being", "caught", "[I", true)
  | 6 => ("OldestDown$Being", "war", "I", false)
  | 7 => ("OldestDown$Being", "day", "I", false)
  | 8 => ("OldestDown$Being", "draws", "I", false)
  | _ => ("OldestDown$Being", "lines", "I", false)
def tyX0 : Nat → FieldType := fun k => match k with
  | 0 => .array .int
  | 1 => .array .int
  | 2 => .array .int
  | 3 => .array .int
  | 4 => .array .int
  | 5 => .array .int
  | 6 => .int
  | 7 => .int
  | 8 => .int
  | _ => .int
abbrev wsX00 : List Cond := u_ws RX0 TX0 10
theorem nmX0 : ∀ a, a < 10 → ∀ b, b < 10 → a ≠ b → (TX0 a).2.1 ≠ (TX0 b).2.1 := by decide +kernel
theorem tyX0_ok : ∀ k, k < 10 → parseFieldDescriptor (TX0 k).2.2.1 = some (tyX0 k) := by decide +kernel
abbrev cX0_init : ByteArray := prog_2_method_1_code
def yX0_init : MethodName := ⟨RX0, "<init>", "()V"⟩
abbrev cX0_start : ByteArray := prog_2_method_2_code
def yX0_start : MethodName := ⟨RX0, "start", "(I)V"⟩
abbrev cX0_become : ByteArray := prog_2_method_3_code
def yX0_become : MethodName := ⟨RX0, "become", "(LOldestDown$Being;)V"⟩
abbrev cX0_knows : ByteArray := prog_2_method_4_code
def yX0_knows : MethodName := ⟨RX0, "knows", "(II)Z"⟩
abbrev cX0_draw : ByteArray := prog_2_method_5_code
def yX0_draw : MethodName := ⟨RX0, "draw", "(I)I"⟩
def RX1 : String := "OldestDown$Book"
def TX1 : u_T := fun k => match k with
  | _ => ("OldestDown$Book", "rows", "[I", true)
def tyX1 : Nat → FieldType := fun k => match k with
  | _ => .array .int
abbrev wsX10 : List Cond := u_ws RX1 TX1 1
theorem nmX1 : ∀ a, a < 1 → ∀ b, b < 1 → a ≠ b → (TX1 a).2.1 ≠ (TX1 b).2.1 := by decide +kernel
theorem tyX1_ok : ∀ k, k < 1 → parseFieldDescriptor (TX1 k).2.2.1 = some (tyX1 k) := by decide +kernel
abbrev cX1_init : ByteArray := prog_3_method_1_code
def yX1_init : MethodName := ⟨RX1, "<init>", "()V"⟩
abbrev cX1_write : ByteArray := prog_3_method_3_code
def yX1_write : MethodName := ⟨RX1, "write", "(IIIII)V"⟩
abbrev cX1_part : ByteArray := prog_3_method_4_code
def yX1_part : MethodName := ⟨RX1, "part", "(II)I"⟩
def RX2 : String := "OldestDown$Council"
def TX2 : u_T := fun k => match k with
  | 0 => ("OldestDown$Council", "told", "LOldestDown$Told;", true)
  | 1 => ("OldestDown$Council", "real", "LOldestDown$Being;", true)
  | 2 => ("OldestDown$Council", "mind", "LOldestDown$Being;", true)
  | 3 => ("OldestDown$Council", "days", "LOldestDown$Days;", true)
  | 4 => ("OldestDown$Council", "chosen", "I", false)
  | _ => ("OldestDown$Council", "least", "I", false)
def tyX2 : Nat → FieldType := fun k => match k with
  | 0 => .object "OldestDown$Told"
  | 1 => .object "OldestDown$Being"
  | 2 => .object "OldestDown$Being"
  | 3 => .object "OldestDown$Days"
  | 4 => .int
  | _ => .int
abbrev wsX20 : List Cond := u_ws RX2 TX2 6
theorem nmX2 : ∀ a, a < 6 → ∀ b, b < 6 → a ≠ b → (TX2 a).2.1 ≠ (TX2 b).2.1 := by decide +kernel
theorem tyX2_ok : ∀ k, k < 6 → parseFieldDescriptor (TX2 k).2.2.1 = some (tyX2 k) := by decide +kernel
abbrev cX2_init : ByteArray := prog_4_method_1_code
def yX2_init : MethodName := ⟨RX2, "<init>", "(LOldestDown$Told;LOldestDown$Being;LOldestDown$Book;)V"⟩
def RX3 : String := "OldestDown$Days"
def TX3 : u_T := fun k => match k with
  | 0 => ("OldestDown$Days", "told", "LOldestDown$Told;", true)
  | 1 => ("OldestDown$Days", "being", "LOldestDown$Being;", true)
  | 2 => ("OldestDown$Days", "book", "LOldestDown$Book;", true)
  | 3 => ("OldestDown$Days", "awake", "Z", true)
  | 4 => ("OldestDown$Days", "names", "[I", true)
  | 5 => ("OldestDown$Days", "fromAge", "I", false)
  | _ => ("OldestDown$Days", "captives", "I", false)
def tyX3 : Nat → FieldType := fun k => match k with
  | 0 => .object "OldestDown$Told"
  | 1 => .object "OldestDown$Being"
  | 2 => .object "OldestDown$Book"
  | 3 => .boolean
  | 4 => .array .int
  | 5 => .int
  | _ => .int
abbrev wsX30 : List Cond := u_ws RX3 TX3 7
theorem nmX3 : ∀ a, a < 7 → ∀ b, b < 7 → a ≠ b → (TX3 a).2.1 ≠ (TX3 b).2.1 := by decide +kernel
theorem tyX3_ok : ∀ k, k < 7 → parseFieldDescriptor (TX3 k).2.2.1 = some (tyX3 k) := by decide +kernel
abbrev cX3_init : ByteArray := prog_5_method_1_code
def yX3_init : MethodName := ⟨RX3, "<init>", "(LOldestDown$Told;LOldestDown$Being;LOldestDown$Book;Z)V"⟩
abbrev cX3_pass : ByteArray := prog_5_method_2_code
def yX3_pass : MethodName := ⟨RX3, "pass", "()V"⟩
abbrev cX3_asked : ByteArray := prog_5_method_3_code
def yX3_asked : MethodName := ⟨RX3, "asked", "(II)I"⟩
abbrev cX3_held : ByteArray := prog_5_method_4_code
def yX3_held : MethodName := ⟨RX3, "held", "(II)I"⟩
abbrev cX3_howManyInField : ByteArray := prog_5_method_5_code
def yX3_howManyInField : MethodName := ⟨RX3, "howManyInField", "(I)I"⟩
abbrev cX3_known : ByteArray := prog_5_method_6_code
def yX3_known : MethodName := ⟨RX3, "known", "(I)I"⟩
abbrev cX3_note : ByteArray := prog_5_method_8_code
def yX3_note : MethodName := ⟨RX3, "note", "(III)V"⟩
abbrev cX3_callUp : ByteArray := prog_5_method_9_code
def yX3_callUp : MethodName := ⟨RX3, "callUp", "(I)V"⟩
abbrev cX3_goOn : ByteArray := prog_5_method_10_code
def yX3_goOn : MethodName := ⟨RX3, "goOn", "()V"⟩
abbrev cX3_walk : ByteArray := prog_5_method_11_code
def yX3_walk : MethodName := ⟨RX3, "walk", "(II)V"⟩
abbrev cX3_cellsOf : ByteArray := prog_5_method_12_code
def yX3_cellsOf : MethodName := ⟨RX3, "cellsOf", "(I)I"⟩
abbrev cX3_fight : ByteArray := prog_5_method_13_code
def yX3_fight : MethodName := ⟨RX3, "fight", "()V"⟩
abbrev cX3_isAt : ByteArray := prog_5_method_14_code
def yX3_isAt : MethodName := ⟨RX3, "isAt", "(II)Z"⟩
abbrev cX3_breathAt : ByteArray := prog_5_method_15_code
def yX3_breathAt : MethodName := ⟨RX3, "breathAt", "(II)I"⟩
abbrev cX3_halve : ByteArray := prog_5_method_16_code
def yX3_halve : MethodName := ⟨RX3, "halve", "(I)V"⟩
abbrev cX3_beat : ByteArray := prog_5_method_17_code
def yX3_beat : MethodName := ⟨RX3, "beat", "(II)V"⟩
abbrev cX3_catchYoungest : ByteArray := prog_5_method_18_code
def yX3_catchYoungest : MethodName := ⟨RX3, "catchYoungest", "(II)V"⟩
abbrev cX3_arrive : ByteArray := prog_5_method_19_code
def yX3_arrive : MethodName := ⟨RX3, "arrive", "()V"⟩
abbrev cX3_tellOn : ByteArray := prog_5_method_20_code
def yX3_tellOn : MethodName := ⟨RX3, "tellOn", "()V"⟩
abbrev cX3_fade : ByteArray := prog_5_method_21_code
def yX3_fade : MethodName := ⟨RX3, "fade", "()V"⟩
abbrev cX3_leastOf : ByteArray := prog_5_method_22_code
def yX3_leastOf : MethodName := ⟨RX3, "leastOf", "(I)I"⟩
abbrev cX3_endDay : ByteArray := prog_5_method_23_code
def yX3_endDay : MethodName := ⟨RX3, "endDay", "()V"⟩
def RX4 : String := "OldestDown$Law"
def TX4 : u_T := fun k => match k with
  | 0 => ("OldestDown$Law", "steps", "[I", true)
  | 1 => ("OldestDown$Law", "word", "[I", true)
  | 2 => ("OldestDown$Law", "start", "[I", true)
  | 3 => ("OldestDown$Law", "when", "[I", true)
  | 4 => ("OldestDown$Law", "end", "[I", true)
  | 5 => ("OldestDown$Law", "stack", "[I", true)
  | 6 => ("OldestDown$Law", "length", "I", false)
  | _ => ("OldestDown$Law", "lines", "I", false)
def tyX4 : Nat → FieldType := fun k => match k with
  | 0 => .array .int
  | 1 => .array .int
  | 2 => .array .int
  | 3 => .array .int
  | 4 => .array .int
  | 5 => .array .int
  | 6 => .int
  | _ => .int
abbrev wsX40 : List Cond := u_ws RX4 TX4 8
theorem nmX4 : ∀ a, a < 8 → ∀ b, b < 8 → a ≠ b → (TX4 a).2.1 ≠ (TX4 b).2.1 := by decide +kernel
theorem tyX4_ok : ∀ k, k < 8 → parseFieldDescriptor (TX4 k).2.2.1 = some (tyX4 k) := by decide +kernel
abbrev cX4_init : ByteArray := prog_6_method_1_code
def yX4_init : MethodName := ⟨RX4, "<init>", "()V"⟩
abbrev cX4_become : ByteArray := prog_6_method_2_code
def yX4_become : MethodName := ⟨RX4, "become", "(LOldestDown$Law;)V"⟩
abbrev cX4_clear : ByteArray := prog_6_method_3_code
def yX4_clear : MethodName := ⟨RX4, "clear", "()V"⟩
abbrev cX4_put : ByteArray := prog_6_method_4_code
def yX4_put : MethodName := ⟨RX4, "put", "(I)V"⟩
abbrev cX4_beginLine : ByteArray := prog_6_method_5_code
def yX4_beginLine : MethodName := ⟨RX4, "beginLine", "(I)V"⟩
abbrev cX4_beginWhen : ByteArray := prog_6_method_6_code
def yX4_beginWhen : MethodName := ⟨RX4, "beginWhen", "()V"⟩
abbrev cX4_endLine : ByteArray := prog_6_method_7_code
def yX4_endLine : MethodName := ⟨RX4, "endLine", "()V"⟩
abbrev cX4_tell : ByteArray := prog_6_method_8_code
def yX4_tell : MethodName := ⟨RX4, "tell", "(I[II)I"⟩
abbrev cX4_run : ByteArray := prog_6_method_9_code
def yX4_run : MethodName := ⟨RX4, "run", "(II[I)I"⟩
def RX5 : String := "OldestDown$Orders"
def TX5 : u_T := fun k => match k with
  | 0 => ("OldestDown$Orders", "day", "[I", true)
  | 1 => ("OldestDown$Orders", "country", "[I", true)
  | 2 => ("OldestDown$Orders", "rest", "[I", true)
  | _ => ("OldestDown$Orders", "lines", "I", false)
def tyX5 : Nat → FieldType := fun k => match k with
  | 0 => .array .int
  | 1 => .array .int
  | 2 => .array .int
  | _ => .int
abbrev wsX50 : List Cond := u_ws RX5 TX5 4
theorem nmX5 : ∀ a, a < 4 → ∀ b, b < 4 → a ≠ b → (TX5 a).2.1 ≠ (TX5 b).2.1 := by decide +kernel
theorem tyX5_ok : ∀ k, k < 4 → parseFieldDescriptor (TX5 k).2.2.1 = some (tyX5 k) := by decide +kernel
abbrev cX5_init : ByteArray := prog_7_method_1_code
def yX5_init : MethodName := ⟨RX5, "<init>", "()V"⟩
abbrev cX5_become : ByteArray := prog_7_method_2_code
def yX5_become : MethodName := ⟨RX5, "become", "(LOldestDown$Orders;)V"⟩
abbrev cX5_add : ByteArray := prog_7_method_3_code
def yX5_add : MethodName := ⟨RX5, "add", "(IZI)V"⟩
abbrev cX5_rests : ByteArray := prog_7_method_4_code
def yX5_rests : MethodName := ⟨RX5, "rests", "(II)Z"⟩
def RX6 : String := "OldestDown$Reader"
def TX6 : u_T := fun k => match k with
  | 0 => ("OldestDown$Reader", "tape", "[I", true)
  | 1 => ("OldestDown$Reader", "kinds", "[I", true)
  | 2 => ("OldestDown$Reader", "places", "[I", true)
  | 3 => ("OldestDown$Reader", "values", "[I", true)
  | 4 => ("OldestDown$Reader", "law", "LOldestDown$Law;", true)
  | 5 => ("OldestDown$Reader", "orders", "LOldestDown$Orders;", true)
  | 6 => ("OldestDown$Reader", "tells", "[I", true)
  | 7 => ("OldestDown$Reader", "weight", "[I", true)
  | 8 => ("OldestDown$Reader", "tokens", "I", false)
  | 9 => ("OldestDown$Reader", "at", "I", false)
  | 10 => ("OldestDown$Reader", "kind", "I", false)
  | 11 => ("OldestDown$Reader", "lines", "I", false)
  | 12 => ("OldestDown$Reader", "length", "I", false)
  | 13 => ("OldestDown$Reader", "fault", "I", false)
  | _ => ("OldestDown$Reader", "place", "I", false)
def tyX6 : Nat → FieldType := fun k => match k with
  | 0 => .array .int
  | 1 => .array .int
  | 2 => .array .int
  | 3 => .array .int
  | 4 => .object "OldestDown$Law"
  | 5 => .object "OldestDown$Orders"
  | 6 => .array .int
  | 7 => .array .int
  | 8 => .int
  | 9 => .int
  | 10 => .int
  | 11 => .int
  | 12 => .int
  | 13 => .int
  | _ => .int
abbrev wsX60 : List Cond := u_ws RX6 TX6 15
theorem nmX6 : ∀ a, a < 15 → ∀ b, b < 15 → a ≠ b → (TX6 a).2.1 ≠ (TX6 b).2.1 := by decide +kernel
theorem tyX6_ok : ∀ k, k < 15 → parseFieldDescriptor (TX6 k).2.2.1 = some (tyX6 k) := by decide +kernel
abbrev cX6_init : ByteArray := prog_8_method_1_code
def yX6_init : MethodName := ⟨RX6, "<init>", "()V"⟩
abbrev cX6_hasRoom : ByteArray := prog_8_method_2_code
def yX6_hasRoom : MethodName := ⟨RX6, "hasRoom", "()Z"⟩
abbrev cX6_add : ByteArray := prog_8_method_3_code
def yX6_add : MethodName := ⟨RX6, "add", "(I)V"⟩
abbrev cX6_read : ByteArray := prog_8_method_4_code
def yX6_read : MethodName := ⟨RX6, "read", "(ILOldestDown$Told;)I"⟩
abbrev cX6_clear : ByteArray := prog_8_method_5_code
def yX6_clear : MethodName := ⟨RX6, "clear", "()V"⟩
abbrev cX6_hand : ByteArray := prog_8_method_6_code
def yX6_hand : MethodName := ⟨RX6, "hand", "(ILOldestDown$Told;)V"⟩
abbrev cX6_keywords : ByteArray := prog_8_method_7_code
def yX6_keywords : MethodName := ⟨RX6, "keywords", "(I)Ljava/lang/String;"⟩
abbrev cX6_cut : ByteArray := prog_8_method_8_code
def yX6_cut : MethodName := ⟨RX6, "cut", "(II)V"⟩
abbrev cX6_token : ByteArray := prog_8_method_9_code
def yX6_token : MethodName := ⟨RX6, "token", "(III)V"⟩
abbrev cX6_isLetter : ByteArray := prog_8_method_10_code
def yX6_isLetter : MethodName := ⟨RX6, "isLetter", "(I)Z"⟩
abbrev cX6_isDigit : ByteArray := prog_8_method_11_code
def yX6_isDigit : MethodName := ⟨RX6, "isDigit", "(I)Z"⟩
abbrev cX6_endOfWord : ByteArray := prog_8_method_12_code
def yX6_endOfWord : MethodName := ⟨RX6, "endOfWord", "(II)I"⟩
abbrev cX6_endOfDigits : ByteArray := prog_8_method_13_code
def yX6_endOfDigits : MethodName := ⟨RX6, "endOfDigits", "(II)I"⟩
abbrev cX6_value : ByteArray := prog_8_method_14_code
def yX6_value : MethodName := ⟨RX6, "value", "(II)I"⟩
abbrev cX6_keyword : ByteArray := prog_8_method_15_code
def yX6_keyword : MethodName := ⟨RX6, "keyword", "(Ljava/lang/String;II)I"⟩
abbrev cX6_same : ByteArray := prog_8_method_16_code
def yX6_same : MethodName := ⟨RX6, "same", "(Ljava/lang/String;III)Z"⟩
abbrev cX6_go : ByteArray := prog_8_method_17_code
def yX6_go : MethodName := ⟨RX6, "go", "(I)V"⟩
abbrev cX6_fail : ByteArray := prog_8_method_18_code
def yX6_fail : MethodName := ⟨RX6, "fail", "(I)V"⟩
abbrev cX6_take : ByteArray := prog_8_method_19_code
def yX6_take : MethodName := ⟨RX6, "take", "(I)Z"⟩
abbrev cX6_need : ByteArray := prog_8_method_20_code
def yX6_need : MethodName := ⟨RX6, "need", "(I)V"⟩
abbrev cX6_number : ByteArray := prog_8_method_21_code
def yX6_number : MethodName := ⟨RX6, "number", "(II)I"⟩
abbrev cX6_beginLine : ByteArray := prog_8_method_22_code
def yX6_beginLine : MethodName := ⟨RX6, "beginLine", "(I)V"⟩
abbrev cX6_lawLine : ByteArray := prog_8_method_23_code
def yX6_lawLine : MethodName := ⟨RX6, "lawLine", "()V"⟩
abbrev cX6_condition : ByteArray := prog_8_method_24_code
def yX6_condition : MethodName := ⟨RX6, "condition", "(I)V"⟩
abbrev cX6_single : ByteArray := prog_8_method_25_code
def yX6_single : MethodName := ⟨RX6, "single", "(I)V"⟩
abbrev cX6_sum : ByteArray := prog_8_method_26_code
def yX6_sum : MethodName := ⟨RX6, "sum", "()V"⟩
abbrev cX6_unit : ByteArray := prog_8_method_27_code
def yX6_unit : MethodName := ⟨RX6, "unit", "()V"⟩
abbrev cX6_tellingLine : ByteArray := prog_8_method_28_code
def yX6_tellingLine : MethodName := ⟨RX6, "tellingLine", "(I)V"⟩
abbrev cX6_weightLine : ByteArray := prog_8_method_29_code
def yX6_weightLine : MethodName := ⟨RX6, "weightLine", "()V"⟩
abbrev cX6_orderLine : ByteArray := prog_8_method_30_code
def yX6_orderLine : MethodName := ⟨RX6, "orderLine", "()V"⟩
def RX7 : String := "OldestDown$Riddles"
def TX7 : u_T := fun k => match k with
  | 0 => ("OldestDown$Riddles", "told", "LOldestDown$Told;", true)
  | 1 => ("OldestDown$Riddles", "being", "LOldestDown$Being;", true)
  | 2 => ("OldestDown$Riddles", "days", "LOldestDown$Days;", true)
  | 3 => ("OldestDown$Riddles", "room", "[I", true)
  | 4 => ("OldestDown$Riddles", "before", "[I", true)
  | 5 => ("OldestDown$Riddles", "queue", "[I", true)
  | 6 => ("OldestDown$Riddles", "young", "[I", true)
  | 7 => ("OldestDown$Riddles", "old", "[I", true)
  | 8 => ("OldestDown$Riddles", "goer", "[I", true)
  | 9 => ("OldestDown$Riddles", "ways", "[I", true)
  | 10 => ("OldestDown$Riddles", "chances", "[I", true)
  | 11 => ("OldestDown$Riddles", "youngs", "I", false)
  | _ => ("OldestDown$Riddles", "olds", "I", false)
def tyX7 : Nat → FieldType := fun k => match k with
  | 0 => .object "OldestDown$Told"
  | 1 => .object "OldestDown$Being"
  | 2 => .object "OldestDown$Days"
  | 3 => .array .int
  | 4 => .array .int
  | 5 => .array .int
  | 6 => .array .int
  | 7 => .array .int
  | 8 => .array .int
  | 9 => .array .int
  | 10 => .array .int
  | 11 => .int
  | _ => .int
abbrev wsX70 : List Cond := u_ws RX7 TX7 13
theorem nmX7 : ∀ a, a < 13 → ∀ b, b < 13 → a ≠ b → (TX7 a).2.1 ≠ (TX7 b).2.1 := by decide +kernel
theorem tyX7_ok : ∀ k, k < 13 → parseFieldDescriptor (TX7 k).2.2.1 = some (tyX7 k) := by decide +kernel
abbrev cX7_init : ByteArray := prog_9_method_1_code
def yX7_init : MethodName := ⟨RX7, "<init>", "(LOldestDown$Told;LOldestDown$Being;LOldestDown$Days;)V"⟩
def RX8 : String := "OldestDown$Slippers"
def TX8 : u_T := fun k => match k with
  | 0 => ("OldestDown$Slippers", "day", "[I", true)
  | 1 => ("OldestDown$Slippers", "cell", "[I", true)
  | 2 => ("OldestDown$Slippers", "legs", "[I", true)
  | _ => ("OldestDown$Slippers", "count", "I", false)
def tyX8 : Nat → FieldType := fun k => match k with
  | 0 => .array .int
  | 1 => .array .int
  | 2 => .array .int
  | _ => .int
abbrev wsX80 : List Cond := u_ws RX8 TX8 4
theorem nmX8 : ∀ a, a < 4 → ∀ b, b < 4 → a ≠ b → (TX8 a).2.1 ≠ (TX8 b).2.1 := by decide +kernel
theorem tyX8_ok : ∀ k, k < 4 → parseFieldDescriptor (TX8 k).2.2.1 = some (tyX8 k) := by decide +kernel
abbrev cX8_init : ByteArray := prog_10_method_1_code
def yX8_init : MethodName := ⟨RX8, "<init>", "()V"⟩
def RX9 : String := "OldestDown$Told"
def TX9 : u_T := fun k => match k with
  | 0 => ("OldestDown$Told", "men", "I", false)
  | 1 => ("OldestDown$Told", "country", "[I", true)
  | 2 => ("OldestDown$Told", "age", "[I", true)
  | 3 => ("OldestDown$Told", "legs", "[I", true)
  | 4 => ("OldestDown$Told", "tells", "[I", true)
  | 5 => ("OldestDown$Told", "want", "[I", true)
  | 6 => ("OldestDown$Told", "weight", "[I", true)
  | 7 => ("OldestDown$Told", "keep", "I", false)
  | 8 => ("OldestDown$Told", "rain", "I", false)
  | 9 => ("OldestDown$Told", "tea", "I", false)
  | 10 => ("OldestDown$Told", "hills", "I", false)
  | 11 => ("OldestDown$Told", "tellingLines", "I", false)
  | 12 => ("OldestDown$Told", "weightLines", "I", false)
  | 13 => ("OldestDown$Told", "law", "LOldestDown$Law;", true)
  | 14 => ("OldestDown$Told", "orders", "LOldestDown$Orders;", true)
  | _ => ("OldestDown$Told", "slippers", "LOldestDown$Slippers;", true)
def tyX9 : Nat → FieldType := fun k => match k with
  | 0 => .int
  | 1 => .array .int
  | 2 => .array .int
  | 3 => .array .int
  | 4 => .array .int
  | 5 => .array .int
  | 6 => .array .int
  | 7 => .int
  | 8 => .int
  | 9 => .int
  | 10 => .int
  | 11 => .int
  | 12 => .int
  | 13 => .object "OldestDown$Law"
  | 14 => .object "OldestDown$Orders"
  | _ => .object "OldestDown$Slippers"
abbrev wsX90 : List Cond := u_ws RX9 TX9 16
theorem nmX9 : ∀ a, a < 16 → ∀ b, b < 16 → a ≠ b → (TX9 a).2.1 ≠ (TX9 b).2.1 := by decide +kernel
theorem tyX9_ok : ∀ k, k < 16 → parseFieldDescriptor (TX9 k).2.2.1 = some (tyX9 k) := by decide +kernel
abbrev cX9_init : ByteArray := prog_11_method_1_code
def yX9_init : MethodName := ⟨RX9, "<init>", "()V"⟩
abbrev cX9_hasMan : ByteArray := prog_11_method_3_code
def yX9_hasMan : MethodName := ⟨RX9, "hasMan", "(I)Z"⟩
abbrev cX9_put : ByteArray := prog_11_method_5_code
def yX9_put : MethodName := ⟨RX9, "put", "(III)Z"⟩
abbrev cX9_mostOf : ByteArray := prog_11_method_6_code
def yX9_mostOf : MethodName := ⟨RX9, "mostOf", "(I)I"⟩
abbrev cX9_putWant : ByteArray := prog_11_method_7_code
def yX9_putWant : MethodName := ⟨RX9, "putWant", "(II)Z"⟩
abbrev cX9_putHill : ByteArray := prog_11_method_8_code
def yX9_putHill : MethodName := ⟨RX9, "putHill", "(II)Z"⟩
abbrev cX9_isHill : ByteArray := prog_11_method_9_code
def yX9_isHill : MethodName := ⟨RX9, "isHill", "(I)Z"⟩
abbrev cX9_weightOf : ByteArray := prog_11_method_10_code
def yX9_weightOf : MethodName := ⟨RX9, "weightOf", "(I)I"⟩
def RX10 : String := "OldestDown$Undos"
def TX10 : u_T := fun k => match k with
  | 0 => ("OldestDown$Undos", "ring", "[LOldestDown$Being;", true)
  | 1 => ("OldestDown$Undos", "next", "I", false)
  | _ => ("OldestDown$Undos", "count", "I", false)
def tyX10 : Nat → FieldType := fun k => match k with
  | 0 => .array (.object "OldestDown$Being")
  | 1 => .int
  | _ => .int
abbrev wsX100 : List Cond := u_ws RX10 TX10 3
theorem nmX10 : ∀ a, a < 3 → ∀ b, b < 3 → a ≠ b → (TX10 a).2.1 ≠ (TX10 b).2.1 := by decide +kernel
theorem tyX10_ok : ∀ k, k < 3 → parseFieldDescriptor (TX10 k).2.2.1 = some (tyX10 k) := by decide +kernel
abbrev cX10_init : ByteArray := prog_12_method_1_code
def yX10_init : MethodName := ⟨RX10, "<init>", "()V"⟩
abbrev cX10_forgetAll : ByteArray := prog_12_method_2_code
def yX10_forgetAll : MethodName := ⟨RX10, "forgetAll", "()V"⟩
abbrev cX10_remember : ByteArray := prog_12_method_3_code
def yX10_remember : MethodName := ⟨RX10, "remember", "(LOldestDown$Being;)V"⟩
abbrev cX10_goBack : ByteArray := prog_12_method_4_code
def yX10_goBack : MethodName := ⟨RX10, "goBack", "(LOldestDown$Being;)Z"⟩
def RX11 : String := "OldestDown"
def TX11 : u_T := fun k => match k with
  | 0 => ("OldestDown", "told", "LOldestDown$Told;", true)
  | 1 => ("OldestDown", "being", "LOldestDown$Being;", true)
  | 2 => ("OldestDown", "book", "LOldestDown$Book;", true)
  | 3 => ("OldestDown", "days", "LOldestDown$Days;", true)
  | 4 => ("OldestDown", "reader", "LOldestDown$Reader;", true)
  | 5 => ("OldestDown", "undos", "LOldestDown$Undos;", true)
  | 6 => ("OldestDown", "council", "LOldestDown$Council;", true)
  | 7 => ("OldestDown", "riddles", "LOldestDown$Riddles;", true)
  | 8 => ("OldestDown", "imageTold", "LOldestDown$Told;", true)
  | 9 => ("OldestDown", "imageBeing", "LOldestDown$Being;", true)
  | 10 => ("OldestDown", "imageBook", "LOldestDown$Book;", true)
  | _ => ("OldestDown", "imageTaken", "Z", false)
def tyX11 : Nat → FieldType := fun k => match k with
  | 0 => .object "OldestDown$Told"
  | 1 => .object "OldestDown$Being"
  | 2 => .object "OldestDown$Book"
  | 3 => .object "OldestDown$Days"
  | 4 => .object "OldestDown$Reader"
  | 5 => .object "OldestDown$Undos"
  | 6 => .object "OldestDown$Council"
  | 7 => .object "OldestDown$Riddles"
  | 8 => .object "OldestDown$Told"
  | 9 => .object "OldestDown$Being"
  | 10 => .object "OldestDown$Book"
  | _ => .boolean
abbrev wsX110 : List Cond := u_ws RX11 TX11 12
theorem nmX11 : ∀ a, a < 12 → ∀ b, b < 12 → a ≠ b → (TX11 a).2.1 ≠ (TX11 b).2.1 := by decide +kernel
theorem tyX11_ok : ∀ k, k < 12 → parseFieldDescriptor (TX11 k).2.2.1 = some (tyX11 k) := by decide +kernel
abbrev cX11_init : ByteArray := prog_1_method_1_code
def yX11_init : MethodName := ⟨RX11, "<init>", "()V"⟩
abbrev cX11_state : ByteArray := prog_1_method_2_code
def yX11_state : MethodName := ⟨RX11, "state", "(I)I"⟩
abbrev cX11_man : ByteArray := prog_1_method_3_code
def yX11_man : MethodName := ⟨RX11, "man", "(III)I"⟩
abbrev cX11_set : ByteArray := prog_1_method_4_code
def yX11_set : MethodName := ⟨RX11, "set", "(III)Z"⟩
abbrev cX11_teach : ByteArray := prog_1_method_5_code
def yX11_teach : MethodName := ⟨RX11, "teach", "(II)Z"⟩
abbrev cX11_send : ByteArray := prog_1_method_6_code
def yX11_send : MethodName := ⟨RX11, "send", "(III)Z"⟩
abbrev cX11_days : ByteArray := prog_1_method_7_code
def yX11_days : MethodName := ⟨RX11, "days", "(I)I"⟩
abbrev cX11_feed : ByteArray := prog_1_method_8_code
def yX11_feed : MethodName := ⟨RX11, "feed", "(IIIII)I"⟩
abbrev cX11_end : ByteArray := prog_1_method_9_code
def yX11_end : MethodName := ⟨RX11, "end", "(I)Z"⟩
abbrev cX11_text : ByteArray := prog_1_method_10_code
def yX11_text : MethodName := ⟨RX11, "text", "(I)I"⟩
abbrev cX11_of : ByteArray := prog_1_method_12_code
def yX11_of : MethodName := ⟨RX11, "of", "(II)I"⟩
abbrev cX11_weight : ByteArray := prog_1_method_13_code
def yX11_weight : MethodName := ⟨RX11, "weight", "(I)I"⟩
abbrev cX11_country : ByteArray := prog_1_method_14_code
def yX11_country : MethodName := ⟨RX11, "country", "(II)I"⟩
abbrev cX11_book : ByteArray := prog_1_method_15_code
def yX11_book : MethodName := ⟨RX11, "book", "(II)I"⟩
abbrev cX11_undo : ByteArray := prog_1_method_29_code
def yX11_undo : MethodName := ⟨RX11, "undo", "()Z"⟩
abbrev cX11_look : ByteArray := prog_1_method_31_code
def yX11_look : MethodName := ⟨RX11, "look", "(I)I"⟩
abbrev cX11_isCountry : ByteArray := prog_1_method_32_code
def yX11_isCountry : MethodName := ⟨RX11, "isCountry", "(I)Z"⟩
abbrev cX11_isFact : ByteArray := prog_1_method_33_code
def yX11_isFact : MethodName := ⟨RX11, "isFact", "(I)Z"⟩
abbrev cX11_endOf : ByteArray := prog_1_method_34_code
def yX11_endOf : MethodName := ⟨RX11, "endOf", "(I)I"⟩
abbrev cX11_holds : ByteArray := prog_1_method_35_code
def yX11_holds : MethodName := ⟨RX11, "holds", "(II)Z"⟩
abbrev cX11_copy : ByteArray := prog_1_method_36_code
def yX11_copy : MethodName := ⟨RX11, "copy", "([I[I)V"⟩
def RX12 : String := "OldestDownLaw$War"
def TX12 : u_T := fun k => match k with
  | 0 => ("OldestDownLaw$War", "state", "I", false)
  | 1 => ("OldestDownLaw$War", "day", "I", false)
  | 2 => ("OldestDownLaw$War", "war", "I", false)
  | 3 => ("OldestDownLaw$War", "keep", "I", false)
  | 4 => ("OldestDownLaw$War", "rain", "I", false)
  | 5 => ("OldestDownLaw$War", "tea", "I", false)
  | 6 => ("OldestDownLaw$War", "men", "I", false)
  | 7 => ("OldestDownLaw$War", "lines", "I", false)
  | 8 => ("OldestDownLaw$War", "hills", "I", false)
  | 9 => ("OldestDownLaw$War", "tellLines", "I", false)
  | 10 => ("OldestDownLaw$War", "orderLines", "I", false)
  | 11 => ("OldestDownLaw$War", "from", "I", false)
  | 12 => ("OldestDownLaw$War", "made", "I", false)
  | 13 => ("OldestDownLaw$War", "want", "[I", false)
  | 14 => ("OldestDownLaw$War", "tells", "[I", false)
  | 15 => ("OldestDownLaw$War", "weight", "[I", false)
  | 16 => ("OldestDownLaw$War", "man", "[[I", false)
  | 17 => ("OldestDownLaw$War", "line", "[[I", false)
  | 18 => ("OldestDownLaw$War", "order", "[[I", false)
  | _ => ("OldestDownLaw$War", "law", "[I", false)
def tyX12 : Nat → FieldType := fun k => match k with
  | 0 => .int
  | 1 => .int
  | 2 => .int
  | 3 => .int
  | 4 => .int
  | 5 => .int
  | 6 => .int
  | 7 => .int
  | 8 => .int
  | 9 => .int
  | 10 => .int
  | 11 => .int
  | 12 => .int
  | 13 => .array .int
  | 14 => .array .int
  | 15 => .array .int
  | 16 => .array (.array .int)
  | 17 => .array (.array .int)
  | 18 => .array (.array .int)
  | _ => .array .int
abbrev wsX120 : List Cond := u_ws RX12 TX12 20
theorem nmX12 : ∀ a, a < 20 → ∀ b, b < 20 → a ≠ b → (TX12 a).2.1 ≠ (TX12 b).2.1 := by decide +kernel
theorem tyX12_ok : ∀ k, k < 20 → parseFieldDescriptor (TX12 k).2.2.1 = some (tyX12 k) := by decide +kernel
abbrev cX12_init : ByteArray := prog_14_method_1_code
def yX12_init : MethodName := ⟨RX12, "<init>", "()V"⟩
abbrev cX12_copy : ByteArray := prog_14_method_2_code
def yX12_copy : MethodName := ⟨RX12, "copy", "()LOldestDownLaw$War;"⟩
abbrev cX12_draw : ByteArray := prog_14_method_3_code
def yX12_draw : MethodName := ⟨RX12, "draw", "(I)I"⟩
abbrev cX12_says : ByteArray := prog_14_method_4_code
def yX12_says : MethodName := ⟨RX12, "says", "(II)I"⟩
abbrev cX12_call : ByteArray := prog_14_method_5_code
def yX12_call : MethodName := ⟨RX12, "call", "(I)I"⟩
abbrev cX12_is : ByteArray := prog_14_method_6_code
def yX12_is : MethodName := ⟨RX12, "is", "(III)Z"⟩
abbrev cX12_field : ByteArray := prog_14_method_7_code
def yX12_field : MethodName := ⟨RX12, "field", "(I)I"⟩
abbrev cX12_stands : ByteArray := prog_14_method_8_code
def yX12_stands : MethodName := ⟨RX12, "stands", "(II)Z"⟩
abbrev cX12_knows : ByteArray := prog_14_method_9_code
def yX12_knows : MethodName := ⟨RX12, "knows", "(I)I"⟩
abbrev cX12_weighs : ByteArray := prog_14_method_10_code
def yX12_weighs : MethodName := ⟨RX12, "weighs", "(I)I"⟩
abbrev cX12_rests : ByteArray := prog_14_method_11_code
def yX12_rests : MethodName := ⟨RX12, "rests", "(I)Z"⟩
abbrev cX12_notes : ByteArray := prog_14_method_12_code
def yX12_notes : MethodName := ⟨RX12, "notes", "(IIIZ)V"⟩
abbrev cX12_passes : ByteArray := prog_14_method_13_code
def yX12_passes : MethodName := ⟨RX12, "passes", "(Z)V"⟩
abbrev cX12_isSame : ByteArray := prog_14_method_14_code
def yX12_isSame : MethodName := ⟨RX12, "isSame", "(LOldestDown;)Z"⟩
def RX13 : String := "OldestDownModel"
def TX13 : u_T := fun k => match k with
  | _ => ("", "", "", false)
def tyX13 : Nat → FieldType := fun k => match k with
  | _ => .int
abbrev wsX130 : List Cond := u_ws RX13 TX13 0
theorem nmX13 : ∀ a, a < 0 → ∀ b, b < 0 → a ≠ b → (TX13 a).2.1 ≠ (TX13 b).2.1 := by decide +kernel
theorem tyX13_ok : ∀ k, k < 0 → parseFieldDescriptor (TX13 k).2.2.1 = some (tyX13 k) := by decide +kernel
def RJx145de : String := "java/io/Serializable"
def TJx145de : u_T := fun k => match k with
  | _ => ("", "", "", false)
def tyJx145de : Nat → FieldType := fun k => match k with
  | _ => .int
theorem nmJx145de : ∀ a, a < 0 → ∀ b, b < 0 → a ≠ b → (TJx145de a).2.1 ≠ (TJx145de b).2.1 := by decide +kernel
theorem tyJx145de_ok : ∀ k, k < 0 → parseFieldDescriptor (TJx145de k).2.2.1 = some (tyJx145de k) := by decide +kernel
def RJ5 : String := "java/lang/AbstractStringBuilder"
def TJ5 : u_T := fun k => match k with
  | _ => ("", "", "", false)
def tyJ5 : Nat → FieldType := fun k => match k with
  | _ => .int
abbrev wsJ50 : List Cond := u_ws RJ5 TJ5 0
theorem nmJ5 : ∀ a, a < 0 → ∀ b, b < 0 → a ≠ b → (TJ5 a).2.1 ≠ (TJ5 b).2.1 := by decide +kernel
theorem tyJ5_ok : ∀ k, k < 0 → parseFieldDescriptor (TJ5 k).2.2.1 = some (tyJ5 k) := by decide +kernel
abbrev cJ5_init_d00df : ByteArray := prog_16_method_2_code
def yJ5_init_d00df : MethodName := ⟨RJ5, "<init>", "(I)V"⟩
abbrev cJ5_length_8abf5 : ByteArray := prog_16_method_6_code
def yJ5_length_8abf5 : MethodName := ⟨RJ5, "length", "()I"⟩
abbrev cJ5_ensureCapacityInternal_d00df : ByteArray := prog_16_method_9_code
def yJ5_ensureCapacityInternal_d00df : MethodName := ⟨RJ5, "ensureCapacityInternal", "(I)V"⟩
abbrev cJ5_newCapacity_0f7a4 : ByteArray := prog_16_method_10_code
def yJ5_newCapacity_0f7a4 : MethodName := ⟨RJ5, "newCapacity", "(I)I"⟩
abbrev cJ5_inflate_da8c8 : ByteArray := prog_16_method_11_code
def yJ5_inflate_da8c8 : MethodName := ⟨RJ5, "inflate", "()V"⟩
abbrev cJ5_append_cf1ce : ByteArray := prog_16_method_22_code
def yJ5_append_cf1ce : MethodName := ⟨RJ5, "append", "(Ljava/lang/String;)Ljava/lang/AbstractStringBuilder;"⟩
abbrev cJ5_appendNull_278bc : ByteArray := prog_16_method_26_code
def yJ5_appendNull_278bc : MethodName := ⟨RJ5, "appendNull", "()Ljava/lang/AbstractStringBuilder;"⟩
abbrev cJ5_append_c97b9 : ByteArray := prog_16_method_32_code
def yJ5_append_c97b9 : MethodName := ⟨RJ5, "append", "(I)Ljava/lang/AbstractStringBuilder;"⟩
abbrev cJ5_getValue_6d5f1 : ByteArray := prog_16_method_64_code
def yJ5_getValue_6d5f1 : MethodName := ⟨RJ5, "getValue", "()[B"⟩
abbrev cJ5_isLatin1_aae02 : ByteArray := prog_16_method_68_code
def yJ5_isLatin1_aae02 : MethodName := ⟨RJ5, "isLatin1", "()Z"⟩
abbrev cJ5_inflateIfNeededFor_a7421 : ByteArray := prog_16_method_71_code
def yJ5_inflateIfNeededFor_a7421 : MethodName := ⟨RJ5, "inflateIfNeededFor", "(Ljava/lang/String;)V"⟩
abbrev cJ5_putStringAt_47b60 : ByteArray := prog_16_method_73_code
def yJ5_putStringAt_47b60 : MethodName := ⟨RJ5, "putStringAt", "(ILjava/lang/String;)V"⟩
def RJx2cfe8 : String := "java/lang/Appendable"
def TJx2cfe8 : u_T := fun k => match k with
  | _ => ("", "", "", false)
def tyJx2cfe8 : Nat → FieldType := fun k => match k with
  | _ => .int
theorem nmJx2cfe8 : ∀ a, a < 0 → ∀ b, b < 0 → a ≠ b → (TJx2cfe8 a).2.1 ≠ (TJx2cfe8 b).2.1 := by decide +kernel
theorem tyJx2cfe8_ok : ∀ k, k < 0 → parseFieldDescriptor (TJx2cfe8 k).2.2.1 = some (tyJx2cfe8 k) := by decide +kernel
def RJx9f9b0 : String := "java/lang/CharSequence"
def TJx9f9b0 : u_T := fun k => match k with
  | _ => ("", "", "", false)
def tyJx9f9b0 : Nat → FieldType := fun k => match k with
  | _ => .int
theorem nmJx9f9b0 : ∀ a, a < 0 → ∀ b, b < 0 → a ≠ b → (TJx9f9b0 a).2.1 ≠ (TJx9f9b0 b).2.1 := by decide +kernel
theorem tyJx9f9b0_ok : ∀ k, k < 0 → parseFieldDescriptor (TJx9f9b0 k).2.2.1 = some (tyJx9f9b0 k) := by decide +kernel
def RJ11 : String := "java/lang/Character"
def TJ11 : u_T := fun k => match k with
  | _ => ("", "", "", false)
def tyJ11 : Nat → FieldType := fun k => match k with
  | _ => .int
abbrev wsJ110 : List Cond := u_ws RJ11 TJ11 0
theorem nmJ11 : ∀ a, a < 0 → ∀ b, b < 0 → a ≠ b → (TJ11 a).2.1 ≠ (TJ11 b).2.1 := by decide +kernel
theorem tyJ11_ok : ∀ k, k < 0 → parseFieldDescriptor (TJ11 k).2.2.1 = some (tyJ11 k) := by decide +kernel
abbrev cJ11_isValidCodePoint_9a6ad : ByteArray := prog_17_method_11_code
def yJ11_isValidCodePoint_9a6ad : MethodName := ⟨RJ11, "isValidCodePoint", "(I)Z"⟩
abbrev cJ11_highSurrogate_5068e : ByteArray := prog_17_method_28_code
def yJ11_highSurrogate_5068e : MethodName := ⟨RJ11, "highSurrogate", "(I)C"⟩
abbrev cJ11_lowSurrogate_5068e : ByteArray := prog_17_method_29_code
def yJ11_lowSurrogate_5068e : MethodName := ⟨RJ11, "lowSurrogate", "(I)C"⟩
def RJx8e188 : String := "java/lang/Cloneable"
def TJx8e188 : u_T := fun k => match k with
  | _ => ("", "", "", false)
def tyJx8e188 : Nat → FieldType := fun k => match k with
  | _ => .int
theorem nmJx8e188 : ∀ a, a < 0 → ∀ b, b < 0 → a ≠ b → (TJx8e188 a).2.1 ≠ (TJx8e188 b).2.1 := by decide +kernel
theorem tyJx8e188_ok : ∀ k, k < 0 → parseFieldDescriptor (TJx8e188 k).2.2.1 = some (tyJx8e188 k) := by decide +kernel
def RJxb160c : String := "java/lang/Comparable"
def TJxb160c : u_T := fun k => match k with
  | _ => ("", "", "", false)
def tyJxb160c : Nat → FieldType := fun k => match k with
  | _ => .int
theorem nmJxb160c : ∀ a, a < 0 → ∀ b, b < 0 → a ≠ b → (TJxb160c a).2.1 ≠ (TJxb160c b).2.1 := by decide +kernel
theorem tyJxb160c_ok : ∀ k, k < 0 → parseFieldDescriptor (TJxb160c k).2.2.1 = some (tyJxb160c k) := by decide +kernel
def RJ6 : String := "java/lang/Integer"
def TJ6 : u_T := fun k => match k with
  | _ => ("", "", "", false)
def tyJ6 : Nat → FieldType := fun k => match k with
  | _ => .int
abbrev wsJ60 : List Cond := u_ws RJ6 TJ6 0
theorem nmJ6 : ∀ a, a < 0 → ∀ b, b < 0 → a ≠ b → (TJ6 a).2.1 ≠ (TJ6 b).2.1 := by decide +kernel
theorem tyJ6_ok : ∀ k, k < 0 → parseFieldDescriptor (TJ6 k).2.2.1 = some (tyJ6 k) := by decide +kernel
abbrev cJ6_getChars_ba4f3 : ByteArray := prog_19_method_12_code
def yJ6_getChars_ba4f3 : MethodName := ⟨RJ6, "getChars", "(II[B)I"⟩
abbrev cJ6_stringSize_0f7a4 : ByteArray := prog_19_method_13_code
def yJ6_stringSize_0f7a4 : MethodName := ⟨RJ6, "stringSize", "(I)I"⟩
abbrev cJ6_numberOfTrailingZeros_0f7a4 : ByteArray := prog_19_method_48_code
def yJ6_numberOfTrailingZeros_0f7a4 : MethodName := ⟨RJ6, "numberOfTrailingZeros", "(I)I"⟩
abbrev cJ6_bitCount_0f7a4 : ByteArray := prog_19_method_49_code
def yJ6_bitCount_0f7a4 : MethodName := ⟨RJ6, "bitCount", "(I)I"⟩
def RJ9 : String := "java/lang/Math"
def TJ9 : u_T := fun k => match k with
  | _ => ("", "", "", false)
def tyJ9 : Nat → FieldType := fun k => match k with
  | _ => .int
abbrev wsJ90 : List Cond := u_ws RJ9 TJ9 0
theorem nmJ9 : ∀ a, a < 0 → ∀ b, b < 0 → a ≠ b → (TJ9 a).2.1 ≠ (TJ9 b).2.1 := by decide +kernel
theorem tyJ9_ok : ∀ k, k < 0 → parseFieldDescriptor (TJ9 k).2.2.1 = some (tyJ9 k) := by decide +kernel
abbrev cJ9_max_7cf53 : ByteArray := prog_20_method_65_code
def yJ9_max_7cf53 : MethodName := ⟨RJ9, "max", "(II)I"⟩
abbrev cJ9_min_7cf53 : ByteArray := prog_20_method_69_code
def yJ9_min_7cf53 : MethodName := ⟨RJ9, "min", "(II)I"⟩
def RJxd2413 : String := "java/lang/Number"
def TJxd2413 : u_T := fun k => match k with
  | _ => ("", "", "", false)
def tyJxd2413 : Nat → FieldType := fun k => match k with
  | _ => .int
theorem nmJxd2413 : ∀ a, a < 0 → ∀ b, b < 0 → a ≠ b → (TJxd2413 a).2.1 ≠ (TJxd2413 b).2.1 := by decide +kernel
theorem tyJxd2413_ok : ∀ k, k < 0 → parseFieldDescriptor (TJxd2413 k).2.2.1 = some (tyJxd2413 k) := by decide +kernel
def RJ0 : String := "java/lang/String"
def TJ0 : u_T := fun k => match k with
  | 0 => ("java/lang/String", "value", "[B", true)
  | 1 => ("java/lang/String", "coder", "B", true)
  | 2 => ("java/lang/String", "hash", "I", false)
  | _ => ("java/lang/String", "hashIsZero", "Z", false)
def tyJ0 : Nat → FieldType := fun k => match k with
  | 0 => .array .byte
  | 1 => .byte
  | 2 => .int
  | _ => .boolean
abbrev wsJ00 : List Cond := u_ws RJ0 TJ0 4
theorem nmJ0 : ∀ a, a < 4 → ∀ b, b < 4 → a ≠ b → (TJ0 a).2.1 ≠ (TJ0 b).2.1 := by decide +kernel
theorem tyJ0_ok : ∀ k, k < 4 → parseFieldDescriptor (TJ0 k).2.2.1 = some (tyJ0 k) := by decide +kernel
abbrev cJ0_init_81219 : ByteArray := prog_22_method_53_code
def yJ0_init_81219 : MethodName := ⟨RJ0, "<init>", "(Ljava/lang/StringBuilder;)V"⟩
abbrev cJ0_length_8abf5 : ByteArray := prog_22_method_54_code
def yJ0_length_8abf5 : MethodName := ⟨RJ0, "length", "()I"⟩
abbrev cJ0_charAt_5068e : ByteArray := prog_22_method_56_code
def yJ0_charAt_5068e : MethodName := ⟨RJ0, "charAt", "(I)C"⟩
abbrev cJ0_indexOf_0f7a4 : ByteArray := prog_22_method_79_code
def yJ0_indexOf_0f7a4 : MethodName := ⟨RJ0, "indexOf", "(I)I"⟩
abbrev cJ0_indexOf_7cf53 : ByteArray := prog_22_method_80_code
def yJ0_indexOf_7cf53 : MethodName := ⟨RJ0, "indexOf", "(II)I"⟩
abbrev cJ0_getBytes_840e7 : ByteArray := prog_22_method_147_code
def yJ0_getBytes_840e7 : MethodName := ⟨RJ0, "getBytes", "([BIB)V"⟩
abbrev cJ0_init_db425 : ByteArray := prog_22_method_150_code
def yJ0_init_db425 : MethodName := ⟨RJ0, "<init>", "(Ljava/lang/AbstractStringBuilder;Ljava/lang/Void;)V"⟩
abbrev cJ0_coder_7d493 : ByteArray := prog_22_method_152_code
def yJ0_coder_7d493 : MethodName := ⟨RJ0, "coder", "()B"⟩
abbrev cJ0_isLatin1_aae02 : ByteArray := prog_22_method_154_code
def yJ0_isLatin1_aae02 : MethodName := ⟨RJ0, "isLatin1", "()Z"⟩
abbrev cJ0_checkIndex_df160 : ByteArray := prog_22_method_155_code
def yJ0_checkIndex_df160 : MethodName := ⟨RJ0, "checkIndex", "(II)V"⟩
abbrev cJ0_checkBoundsOffCount_cabcc : ByteArray := prog_22_method_157_code
def yJ0_checkBoundsOffCount_cabcc : MethodName := ⟨RJ0, "checkBoundsOffCount", "(III)I"⟩
abbrev cJ0_checkBoundsBeginEnd_23922 : ByteArray := prog_22_method_158_code
def yJ0_checkBoundsBeginEnd_23922 : MethodName := ⟨RJ0, "checkBoundsBeginEnd", "(III)V"⟩
def RJ4 : String := "java/lang/StringBuilder"
def TJ4 : u_T := fun k => match k with
  | 0 => ("java/lang/AbstractStringBuilder", "value", "[B", false)
  | 1 => ("java/lang/AbstractStringBuilder", "coder", "B", false)
  | 2 => ("java/lang/AbstractStringBuilder", "maybeLatin1", "Z", false)
  | _ => ("java/lang/AbstractStringBuilder", "count", "I", false)
def tyJ4 : Nat → FieldType := fun k => match k with
  | 0 => .array .byte
  | 1 => .byte
  | 2 => .boolean
  | _ => .int
abbrev wsJ40 : List Cond := u_ws RJ4 TJ4 4
theorem nmJ4 : ∀ a, a < 4 → ∀ b, b < 4 → a ≠ b → (TJ4 a).2.1 ≠ (TJ4 b).2.1 := by decide +kernel
theorem tyJ4_ok : ∀ k, k < 4 → parseFieldDescriptor (TJ4 k).2.2.1 = some (tyJ4 k) := by decide +kernel
abbrev cJ4_init_da8c8 : ByteArray := prog_23_method_1_code
def yJ4_init_da8c8 : MethodName := ⟨RJ4, "<init>", "()V"⟩
abbrev cJ4_append_15ec4 : ByteArray := prog_23_method_7_code
def yJ4_append_15ec4 : MethodName := ⟨RJ4, "append", "(Ljava/lang/String;)Ljava/lang/StringBuilder;"⟩
abbrev cJ4_append_bf812 : ByteArray := prog_23_method_15_code
def yJ4_append_bf812 : MethodName := ⟨RJ4, "append", "(I)Ljava/lang/StringBuilder;"⟩
abbrev cJ4_toString_0e30d : ByteArray := prog_23_method_42_code
def yJ4_toString_0e30d : MethodName := ⟨RJ4, "toString", "()Ljava/lang/String;"⟩
abbrev cJ4_length_8abf5 : ByteArray := prog_23_method_93_code
def yJ4_length_8abf5 : MethodName := ⟨RJ4, "length", "()I"⟩
def RJ1 : String := "java/lang/StringLatin1"
def TJ1 : u_T := fun k => match k with
  | _ => ("", "", "", false)
def tyJ1 : Nat → FieldType := fun k => match k with
  | _ => .int
abbrev wsJ10 : List Cond := u_ws RJ1 TJ1 0
theorem nmJ1 : ∀ a, a < 0 → ∀ b, b < 0 → a ≠ b → (TJ1 a).2.1 ≠ (TJ1 b).2.1 := by decide +kernel
theorem tyJ1_ok : ∀ k, k < 0 → parseFieldDescriptor (TJ1 k).2.2.1 = some (tyJ1 k) := by decide +kernel
abbrev cJ1_charAt_3b067 : ByteArray := prog_24_method_2_code
def yJ1_charAt_3b067 : MethodName := ⟨RJ1, "charAt", "([BI)C"⟩
abbrev cJ1_canEncode_9a6ad : ByteArray := prog_24_method_4_code
def yJ1_canEncode_9a6ad : MethodName := ⟨RJ1, "canEncode", "(I)Z"⟩
abbrev cJ1_indexOf_4cfef : ByteArray := prog_24_method_22_code
def yJ1_indexOf_4cfef : MethodName := ⟨RJ1, "indexOf", "([BIII)I"⟩
abbrev cJ1_indexOfChar_4cfef : ByteArray := prog_24_method_23_code
def yJ1_indexOfChar_4cfef : MethodName := ⟨RJ1, "indexOfChar", "([BIII)I"⟩
abbrev cJ1_inflate_0e8fd : ByteArray := prog_24_method_50_code
def yJ1_inflate_0e8fd : MethodName := ⟨RJ1, "inflate", "([BI[BII)V"⟩
def RJ2 : String := "java/lang/StringUTF16"
def TJ2 : u_T := fun k => match k with
  | _ => ("", "", "", false)
def tyJ2 : Nat → FieldType := fun k => match k with
  | _ => .int
abbrev wsJ20 : List Cond := u_ws RJ2 TJ2 0
theorem nmJ2 : ∀ a, a < 0 → ∀ b, b < 0 → a ≠ b → (TJ2 a).2.1 ≠ (TJ2 b).2.1 := by decide +kernel
theorem tyJ2_ok : ∀ k, k < 0 → parseFieldDescriptor (TJ2 k).2.2.1 = some (tyJ2 k) := by decide +kernel
abbrev cJ2_newBytesFor_77867 : ByteArray := prog_25_method_2_code
def yJ2_newBytesFor_77867 : MethodName := ⟨RJ2, "newBytesFor", "(I)[B"⟩
abbrev cJ2_newBytesLength_0f7a4 : ByteArray := prog_25_method_3_code
def yJ2_newBytesLength_0f7a4 : MethodName := ⟨RJ2, "newBytesLength", "(I)I"⟩
abbrev cJ2_putChar_b72d1 : ByteArray := prog_25_method_4_code
def yJ2_putChar_b72d1 : MethodName := ⟨RJ2, "putChar", "([BII)V"⟩
abbrev cJ2_getChar_3b067 : ByteArray := prog_25_method_5_code
def yJ2_getChar_3b067 : MethodName := ⟨RJ2, "getChar", "([BI)C"⟩
abbrev cJ2_length_9d52b : ByteArray := prog_25_method_6_code
def yJ2_length_9d52b : MethodName := ⟨RJ2, "length", "([B)I"⟩
abbrev cJ2_coderFromArrayLen_85cad : ByteArray := prog_25_method_15_code
def yJ2_coderFromArrayLen_85cad : MethodName := ⟨RJ2, "coderFromArrayLen", "([BI)B"⟩
abbrev cJ2_compress_39247 : ByteArray := prog_25_method_17_code
def yJ2_compress_39247 : MethodName := ⟨RJ2, "compress", "([BII)[B"⟩
abbrev cJ2_compress_5af95 : ByteArray := prog_25_method_22_code
def yJ2_compress_5af95 : MethodName := ⟨RJ2, "compress", "([BI[BII)I"⟩
abbrev cJ2_indexOf_4cfef : ByteArray := prog_25_method_40_code
def yJ2_indexOf_4cfef : MethodName := ⟨RJ2, "indexOf", "([BIII)I"⟩
abbrev cJ2_indexOfChar_4cfef : ByteArray := prog_25_method_47_code
def yJ2_indexOfChar_4cfef : MethodName := ⟨RJ2, "indexOfChar", "([BIII)I"⟩
abbrev cJ2_indexOfCharUnsafe_4cfef : ByteArray := prog_25_method_48_code
def yJ2_indexOfCharUnsafe_4cfef : MethodName := ⟨RJ2, "indexOfCharUnsafe", "([BIII)I"⟩
abbrev cJ2_indexOfSupplementary_4cfef : ByteArray := prog_25_method_49_code
def yJ2_indexOfSupplementary_4cfef : MethodName := ⟨RJ2, "indexOfSupplementary", "([BIII)I"⟩
abbrev cJ2_getChars_46870 : ByteArray := prog_25_method_77_code
def yJ2_getChars_46870 : MethodName := ⟨RJ2, "getChars", "(III[B)I"⟩
abbrev cJ2_putCharsAt_cd4e5 : ByteArray := prog_25_method_81_code
def yJ2_putCharsAt_cd4e5 : MethodName := ⟨RJ2, "putCharsAt", "([BICCCC)I"⟩
abbrev cJ2_charAt_3b067 : ByteArray := prog_25_method_83_code
def yJ2_charAt_3b067 : MethodName := ⟨RJ2, "charAt", "([BI)C"⟩
abbrev cJ2_inflate_0e8fd : ByteArray := prog_25_method_86_code
def yJ2_inflate_0e8fd : MethodName := ⟨RJ2, "inflate", "([BI[BII)V"⟩
abbrev cJ2_getChars_ba4f3 : ByteArray := prog_25_method_89_code
def yJ2_getChars_ba4f3 : MethodName := ⟨RJ2, "getChars", "(II[B)I"⟩
abbrev cJ2_checkIndex_2214a : ByteArray := prog_25_method_91_code
def yJ2_checkIndex_2214a : MethodName := ⟨RJ2, "checkIndex", "(I[B)V"⟩
abbrev cJ2_checkBoundsBeginEnd_d044e : ByteArray := prog_25_method_93_code
def yJ2_checkBoundsBeginEnd_d044e : MethodName := ⟨RJ2, "checkBoundsBeginEnd", "(II[B)V"⟩
abbrev cJ2_checkBoundsOffCount_d044e : ByteArray := prog_25_method_94_code
def yJ2_checkBoundsOffCount_d044e : MethodName := ⟨RJ2, "checkBoundsOffCount", "(II[B)V"⟩
def RJ10 : String := "java/lang/System"
def TJ10 : u_T := fun k => match k with
  | _ => ("", "", "", false)
def tyJ10 : Nat → FieldType := fun k => match k with
  | _ => .int
abbrev wsJ100 : List Cond := u_ws RJ10 TJ10 0
theorem nmJ10 : ∀ a, a < 0 → ∀ b, b < 0 → a ≠ b → (TJ10 a).2.1 ≠ (TJ10 b).2.1 := by decide +kernel
theorem tyJ10_ok : ∀ k, k < 0 → parseFieldDescriptor (TJ10 k).2.2.1 = some (tyJ10 k) := by decide +kernel
def RJxfd54e : String := "java/lang/constant/Constable"
def TJxfd54e : u_T := fun k => match k with
  | _ => ("", "", "", false)
def tyJxfd54e : Nat → FieldType := fun k => match k with
  | _ => .int
theorem nmJxfd54e : ∀ a, a < 0 → ∀ b, b < 0 → a ≠ b → (TJxfd54e a).2.1 ≠ (TJxfd54e b).2.1 := by decide +kernel
theorem tyJxfd54e_ok : ∀ k, k < 0 → parseFieldDescriptor (TJxfd54e k).2.2.1 = some (tyJxfd54e k) := by decide +kernel
def RJx3cf43 : String := "java/lang/constant/ConstantDesc"
def TJx3cf43 : u_T := fun k => match k with
  | _ => ("", "", "", false)
def tyJx3cf43 : Nat → FieldType := fun k => match k with
  | _ => .int
theorem nmJx3cf43 : ∀ a, a < 0 → ∀ b, b < 0 → a ≠ b → (TJx3cf43 a).2.1 ≠ (TJx3cf43 b).2.1 := by decide +kernel
theorem tyJx3cf43_ok : ∀ k, k < 0 → parseFieldDescriptor (TJx3cf43 k).2.2.1 = some (tyJx3cf43 k) := by decide +kernel
def RJ7 : String := "java/util/Arrays"
def TJ7 : u_T := fun k => match k with
  | _ => ("", "", "", false)
def tyJ7 : Nat → FieldType := fun k => match k with
  | _ => .int
abbrev wsJ70 : List Cond := u_ws RJ7 TJ7 0
theorem nmJ7 : ∀ a, a < 0 → ∀ b, b < 0 → a ≠ b → (TJ7 a).2.1 ≠ (TJ7 b).2.1 := by decide +kernel
theorem tyJ7_ok : ∀ k, k < 0 → parseFieldDescriptor (TJ7 k).2.2.1 = some (tyJ7 k) := by decide +kernel
abbrev cJ7_fill_53178 : ByteArray := prog_27_method_103_code
def yJ7_fill_53178 : MethodName := ⟨RJ7, "fill", "([II)V"⟩
abbrev cJ7_copyOf_9075b : ByteArray := prog_27_method_121_code
def yJ7_copyOf_9075b : MethodName := ⟨RJ7, "copyOf", "([BI)[B"⟩
abbrev cJ7_checkLength_df160 : ByteArray := prog_27_method_131_code
def yJ7_checkLength_df160 : MethodName := ⟨RJ7, "checkLength", "(II)V"⟩
abbrev cJ7_copyOfRange_39247 : ByteArray := prog_27_method_132_code
def yJ7_copyOfRange_39247 : MethodName := ⟨RJ7, "copyOfRange", "([BII)[B"⟩
abbrev cJ7_copyOfRangeByte_39247 : ByteArray := prog_27_method_133_code
def yJ7_copyOfRangeByte_39247 : MethodName := ⟨RJ7, "copyOfRangeByte", "([BII)[B"⟩
def RJ8 : String := "jdk/internal/util/ArraysSupport"
def TJ8 : u_T := fun k => match k with
  | _ => ("", "", "", false)
def tyJ8 : Nat → FieldType := fun k => match k with
  | _ => .int
abbrev wsJ80 : List Cond := u_ws RJ8 TJ8 0
theorem nmJ8 : ∀ a, a < 0 → ∀ b, b < 0 → a ≠ b → (TJ8 a).2.1 ≠ (TJ8 b).2.1 := by decide +kernel
theorem tyJ8_ok : ∀ k, k < 0 → parseFieldDescriptor (TJ8 k).2.2.1 = some (tyJ8 k) := by decide +kernel
abbrev cJ8_newLength_cabcc : ByteArray := prog_28_method_27_code
def yJ8_newLength_cabcc : MethodName := ⟨RJ8, "newLength", "(III)I"⟩
abbrev cJ8_hugeLength_7cf53 : ByteArray := prog_28_method_28_code
def yJ8_hugeLength_7cf53 : MethodName := ⟨RJ8, "hugeLength", "(II)I"⟩
def RJ3 : String := "jdk/internal/util/Preconditions"
def TJ3 : u_T := fun k => match k with
  | _ => ("", "", "", false)
def tyJ3 : Nat → FieldType := fun k => match k with
  | _ => .int
abbrev wsJ30 : List Cond := u_ws RJ3 TJ3 0
theorem nmJ3 : ∀ a, a < 0 → ∀ b, b < 0 → a ≠ b → (TJ3 a).2.1 ≠ (TJ3 b).2.1 := by decide +kernel
theorem tyJ3_ok : ∀ k, k < 0 → parseFieldDescriptor (TJ3 k).2.2.1 = some (tyJ3 k) := by decide +kernel
abbrev cJ3_checkIndex_8e157 : ByteArray := prog_29_method_11_code
def yJ3_checkIndex_8e157 : MethodName := ⟨RJ3, "checkIndex", "(IILjava/util/function/BiFunction;)I"⟩
abbrev cJ3_checkFromToIndex_8c36e : ByteArray := prog_29_method_12_code
def yJ3_checkFromToIndex_8c36e : MethodName := ⟨RJ3, "checkFromToIndex", "(IIILjava/util/function/BiFunction;)I"⟩
abbrev cJ3_checkFromIndexSize_8c36e : ByteArray := prog_29_method_13_code
def yJ3_checkFromIndexSize_8c36e : MethodName := ⟨RJ3, "checkFromIndexSize", "(IIILjava/util/function/BiFunction;)I"⟩
def RL : String := "OldestDownLaw"
abbrev cL_cell : ByteArray := method_2_code
def yL_cell : MethodName := ⟨RL, "cell", "([II)I"⟩
abbrev cL_between : ByteArray := method_3_code
def yL_between : MethodName := ⟨RL, "between", "(III)I"⟩
abbrev cL_held : ByteArray := method_4_code
def yL_held : MethodName := ⟨RL, "held", "(III)I"⟩
abbrev cL_say : ByteArray := method_5_code
def yL_say : MethodName := ⟨RL, "say", "(LOldestDown;Ljava/lang/String;)V"⟩
abbrev cL_texts : ByteArray := method_6_code
def yL_texts : MethodName := ⟨RL, "texts", "(LOldestDown;LOldestDownLaw$War;I)Z"⟩
abbrev cL_war : ByteArray := method_7_code
def yL_war : MethodName := ⟨RL, "war", "(LOldestDown;[II)LOldestDownLaw$War;"⟩
abbrev cL_law : ByteArray := code
def yL_law : MethodName := ⟨RL, "law", "([I)Z"⟩
abbrev vwCl : List vw_C := [(RX0, TX0, 10), (RX1, TX1, 1), (RX2, TX2, 6), (RX3, TX3, 7), (RX4, TX4, 8), (RX5, TX5, 4), (RX6, TX6, 15), (RX7, TX7, 13), (RX8, TX8, 4), (RX9, TX9, 16), (RX10, TX10, 3), (RX11, TX11, 12), (RX12, TX12, 20), (RJ0, TJ0, 4), (RJ4, TJ4, 4)]
