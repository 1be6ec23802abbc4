def RX0 : String := "OneSocket$Alarm"
def TX0 : u_T := fun k => match k with
  | _ => ("", "", "", false)
def tyX0 : Nat → FieldType := fun k => match k with
  | _ => .int
abbrev wsX00 : List Cond := u_ws RX0 TX0 0
theorem nmX0 : ∀ a, a < 0 → ∀ b, b < 0 → a ≠ b → (TX0 a).2.1 ≠ (TX0 b).2.1 := by decide +kernel
theorem tyX0_ok : ∀ k, k < 0 → parseFieldDescriptor (TX0 k).2.2.1 = some (tyX0 k) := by decide +kernel
abbrev cX0_init : ByteArray := prog_2_method_1_code
def yX0_init : MethodName := ⟨RX0, "<init>", "()V"⟩
abbrev cX0_worth : ByteArray := prog_2_method_2_code
def yX0_worth : MethodName := ⟨RX0, "worth", "(LOneSocket;I)I"⟩
def RX1 : String := "OneSocket$BabyPhone"
def TX1 : u_T := fun k => match k with
  | _ => ("", "", "", false)
def tyX1 : Nat → FieldType := fun k => match k with
  | _ => .int
abbrev wsX10 : List Cond := u_ws RX1 TX1 0
theorem nmX1 : ∀ a, a < 0 → ∀ b, b < 0 → a ≠ b → (TX1 a).2.1 ≠ (TX1 b).2.1 := by decide +kernel
theorem tyX1_ok : ∀ k, k < 0 → parseFieldDescriptor (TX1 k).2.2.1 = some (tyX1 k) := by decide +kernel
abbrev cX1_init : ByteArray := prog_3_method_1_code
def yX1_init : MethodName := ⟨RX1, "<init>", "()V"⟩
abbrev cX1_worth : ByteArray := prog_3_method_2_code
def yX1_worth : MethodName := ⟨RX1, "worth", "(LOneSocket;I)I"⟩
def RX2 : String := "OneSocket$Book"
def TX2 : u_T := fun k => match k with
  | 0 => ("OneSocket$Book", "rows", "[[I", true)
  | 1 => ("OneSocket$Book", "newest", "I", false)
  | _ => ("OneSocket$Book", "pages", "I", false)
def tyX2 : Nat → FieldType := fun k => match k with
  | 0 => .array (.array .int)
  | 1 => .int
  | _ => .int
abbrev wsX20 : List Cond := u_ws RX2 TX2 3
theorem nmX2 : ∀ a, a < 3 → ∀ b, b < 3 → a ≠ b → (TX2 a).2.1 ≠ (TX2 b).2.1 := by decide +kernel
theorem tyX2_ok : ∀ k, k < 3 → parseFieldDescriptor (TX2 k).2.2.1 = some (tyX2 k) := by decide +kernel
abbrev cX2_init : ByteArray := prog_4_method_1_code
def yX2_init : MethodName := ⟨RX2, "<init>", "()V"⟩
abbrev cX2_write : ByteArray := prog_4_method_2_code
def yX2_write : MethodName := ⟨RX2, "write", "(LOneSocket$Now;)V"⟩
abbrev cX2_takeBack : ByteArray := prog_4_method_3_code
def yX2_takeBack : MethodName := ⟨RX2, "takeBack", "(LOneSocket$Now;)V"⟩
def RX3 : String := "OneSocket$Lamp"
def TX3 : u_T := fun k => match k with
  | _ => ("", "", "", false)
def tyX3 : Nat → FieldType := fun k => match k with
  | _ => .int
abbrev wsX30 : List Cond := u_ws RX3 TX3 0
theorem nmX3 : ∀ a, a < 0 → ∀ b, b < 0 → a ≠ b → (TX3 a).2.1 ≠ (TX3 b).2.1 := by decide +kernel
theorem tyX3_ok : ∀ k, k < 0 → parseFieldDescriptor (TX3 k).2.2.1 = some (tyX3 k) := by decide +kernel
abbrev cX3_init : ByteArray := prog_5_method_1_code
def yX3_init : MethodName := ⟨RX3, "<init>", "()V"⟩
abbrev cX3_worth : ByteArray := prog_5_method_2_code
def yX3_worth : MethodName := ⟨RX3, "worth", "(LOneSocket;I)I"⟩
def RX4 : String := "OneSocket$Now"
def TX4 : u_T := fun k => match k with
  | 0 => ("OneSocket$Now", "turn", "I", false)
  | 1 => ("OneSocket$Now", "on", "I", false)
  | 2 => ("OneSocket$Now", "gotUp", "I", false)
  | 3 => ("OneSocket$Now", "missed", "I", false)
  | 4 => ("OneSocket$Now", "level", "[I", true)
  | _ => ("OneSocket$Now", "turnsOn", "[I", true)
def tyX4 : Nat → FieldType := fun k => match k with
  | 0 => .int
  | 1 => .int
  | 2 => .int
  | 3 => .int
  | 4 => .array .int
  | _ => .array .int
abbrev wsX40 : List Cond := u_ws RX4 TX4 6
theorem nmX4 : ∀ a, a < 6 → ∀ b, b < 6 → a ≠ b → (TX4 a).2.1 ≠ (TX4 b).2.1 := by decide +kernel
theorem tyX4_ok : ∀ k, k < 6 → parseFieldDescriptor (TX4 k).2.2.1 = some (tyX4 k) := by decide +kernel
abbrev cX4_init : ByteArray := prog_6_method_1_code
def yX4_init : MethodName := ⟨RX4, "<init>", "()V"⟩
abbrev cX4_begin : ByteArray := prog_6_method_2_code
def yX4_begin : MethodName := ⟨RX4, "begin", "(LOneSocket$Told;)V"⟩
abbrev cX4_isOn : ByteArray := prog_6_method_3_code
def yX4_isOn : MethodName := ⟨RX4, "isOn", "(I)Z"⟩
abbrev cX4_goOn : ByteArray := prog_6_method_4_code
def yX4_goOn : MethodName := ⟨RX4, "goOn", "(LOneSocket$Told;)V"⟩
abbrev cX4_out : ByteArray := prog_6_method_5_code
def yX4_out : MethodName := ⟨RX4, "out", "(I)I"⟩
abbrev cX4_fair : ByteArray := prog_6_method_6_code
def yX4_fair : MethodName := ⟨RX4, "fair", "(I)I"⟩
abbrev cX4_leans : ByteArray := prog_6_method_7_code
def yX4_leans : MethodName := ⟨RX4, "leans", "(I)I"⟩
abbrev cX4_copyTo : ByteArray := prog_6_method_8_code
def yX4_copyTo : MethodName := ⟨RX4, "copyTo", "([I)V"⟩
abbrev cX4_copyFrom : ByteArray := prog_6_method_9_code
def yX4_copyFrom : MethodName := ⟨RX4, "copyFrom", "([I)V"⟩
def RX5 : String := "OneSocket$Planner"
def TX5 : u_T := fun k => match k with
  | 0 => ("OneSocket$Planner", "best", "[I", true)
  | 1 => ("OneSocket$Planner", "row", "[I", true)
  | 2 => ("OneSocket$Planner", "least", "[[I", true)
  | 3 => ("OneSocket$Planner", "node", "[[I", true)
  | 4 => ("OneSocket$Planner", "bestCost", "I", false)
  | 5 => ("OneSocket$Planner", "turns", "I", false)
  | _ => ("OneSocket$Planner", "firstTurn", "I", false)
def tyX5 : Nat → FieldType := fun k => match k with
  | 0 => .array .int
  | 1 => .array .int
  | 2 => .array (.array .int)
  | 3 => .array (.array .int)
  | 4 => .int
  | 5 => .int
  | _ => .int
abbrev wsX50 : List Cond := u_ws RX5 TX5 7
theorem nmX5 : ∀ a, a < 7 → ∀ b, b < 7 → a ≠ b → (TX5 a).2.1 ≠ (TX5 b).2.1 := by decide +kernel
theorem tyX5_ok : ∀ k, k < 7 → parseFieldDescriptor (TX5 k).2.2.1 = some (tyX5 k) := by decide +kernel
abbrev cX5_init : ByteArray := prog_7_method_1_code
def yX5_init : MethodName := ⟨RX5, "<init>", "()V"⟩
abbrev cX5_missed : ByteArray := prog_7_method_2_code
def yX5_missed : MethodName := ⟨RX5, "missed", "()I"⟩
abbrev cX5_out : ByteArray := prog_7_method_3_code
def yX5_out : MethodName := ⟨RX5, "out", "()I"⟩
abbrev cX5_gotUp : ByteArray := prog_7_method_4_code
def yX5_gotUp : MethodName := ⟨RX5, "gotUp", "()I"⟩
abbrev cX5_make : ByteArray := prog_7_method_5_code
def yX5_make : MethodName := ⟨RX5, "make", "(LOneSocket$Told;LOneSocket$Now;I)V"⟩
abbrev cX5_fillTree : ByteArray := prog_7_method_6_code
def yX5_fillTree : MethodName := ⟨RX5, "fillTree", "(LOneSocket$Told;IIIII)I"⟩
abbrev cX5_search : ByteArray := prog_7_method_7_code
def yX5_search : MethodName := ⟨RX5, "search", "(LOneSocket$Told;III)V"⟩
abbrev cX5_settleOrSearch : ByteArray := prog_7_method_8_code
def yX5_settleOrSearch : MethodName := ⟨RX5, "settleOrSearch", "(LOneSocket$Told;IIII)V"⟩
abbrev cX5_enter : ByteArray := prog_7_method_9_code
def yX5_enter : MethodName := ⟨RX5, "enter", "(III)I"⟩
def RX6 : String := "OneSocket$Radio"
def TX6 : u_T := fun k => match k with
  | _ => ("", "", "", false)
def tyX6 : Nat → FieldType := fun k => match k with
  | _ => .int
abbrev wsX60 : List Cond := u_ws RX6 TX6 0
theorem nmX6 : ∀ a, a < 0 → ∀ b, b < 0 → a ≠ b → (TX6 a).2.1 ≠ (TX6 b).2.1 := by decide +kernel
theorem tyX6_ok : ∀ k, k < 0 → parseFieldDescriptor (TX6 k).2.2.1 = some (tyX6 k) := by decide +kernel
abbrev cX6_init : ByteArray := prog_8_method_1_code
def yX6_init : MethodName := ⟨RX6, "<init>", "()V"⟩
abbrev cX6_worth : ByteArray := prog_8_method_2_code
def yX6_worth : MethodName := ⟨RX6, "worth", "(LOneSocket;I)I"⟩
def RX7 : String := "OneSocket$Reader"
def TX7 : u_T := fun k => match k with
  | 0 => ("OneSocket$Reader", "letters", "[I", true)
  | 1 => ("OneSocket$Reader", "length", "I", false)
  | 2 => ("OneSocket$Reader", "tokenPlace", "I", false)
  | 3 => ("OneSocket$Reader", "place", "I", false)
  | 4 => ("OneSocket$Reader", "token", "I", false)
  | 5 => ("OneSocket$Reader", "value", "I", false)
  | _ => ("OneSocket$Reader", "holesTold", "Z", false)
def tyX7 : Nat → FieldType := fun k => match k with
  | 0 => .array .int
  | 1 => .int
  | 2 => .int
  | 3 => .int
  | 4 => .int
  | 5 => .int
  | _ => .boolean
abbrev wsX70 : List Cond := u_ws RX7 TX7 7
theorem nmX7 : ∀ a, a < 7 → ∀ b, b < 7 → a ≠ b → (TX7 a).2.1 ≠ (TX7 b).2.1 := by decide +kernel
theorem tyX7_ok : ∀ k, k < 7 → parseFieldDescriptor (TX7 k).2.2.1 = some (tyX7 k) := by decide +kernel
abbrev cX7_init : ByteArray := prog_9_method_1_code
def yX7_init : MethodName := ⟨RX7, "<init>", "()V"⟩
abbrev cX7_add : ByteArray := prog_9_method_2_code
def yX7_add : MethodName := ⟨RX7, "add", "(I)Z"⟩
abbrev cX7_readInto : ByteArray := prog_9_method_3_code
def yX7_readInto : MethodName := ⟨RX7, "readInto", "(LOneSocket$Told;)I"⟩
abbrev cX7_readPhone : ByteArray := prog_9_method_4_code
def yX7_readPhone : MethodName := ⟨RX7, "readPhone", "(LOneSocket$Told;)Z"⟩
abbrev cX7_readHoles : ByteArray := prog_9_method_5_code
def yX7_readHoles : MethodName := ⟨RX7, "readHoles", "(LOneSocket$Told;)Z"⟩
abbrev cX7_readCall : ByteArray := prog_9_method_6_code
def yX7_readCall : MethodName := ⟨RX7, "readCall", "(LOneSocket$Told;)Z"⟩
abbrev cX7_readDark : ByteArray := prog_9_method_7_code
def yX7_readDark : MethodName := ⟨RX7, "readDark", "(LOneSocket$Told;)Z"⟩
abbrev cX7_nextIsNumber : ByteArray := prog_9_method_8_code
def yX7_nextIsNumber : MethodName := ⟨RX7, "nextIsNumber", "(II)Z"⟩
abbrev cX7_nextIsItemEnd : ByteArray := prog_9_method_9_code
def yX7_nextIsItemEnd : MethodName := ⟨RX7, "nextIsItemEnd", "()Z"⟩
abbrev cX7_next : ByteArray := prog_9_method_10_code
def yX7_next : MethodName := ⟨RX7, "next", "()V"⟩
abbrev cX7_scanNumber : ByteArray := prog_9_method_11_code
def yX7_scanNumber : MethodName := ⟨RX7, "scanNumber", "()V"⟩
abbrev cX7_isDigit : ByteArray := prog_9_method_12_code
def yX7_isDigit : MethodName := ⟨RX7, "isDigit", "(I)Z"⟩
abbrev cX7_isSign : ByteArray := prog_9_method_13_code
def yX7_isSign : MethodName := ⟨RX7, "isSign", "(I)Z"⟩
def RX8 : String := "OneSocket$SixthOne"
def TX8 : u_T := fun k => match k with
  | _ => ("", "", "", false)
def tyX8 : Nat → FieldType := fun k => match k with
  | _ => .int
abbrev wsX80 : List Cond := u_ws RX8 TX8 0
theorem nmX8 : ∀ a, a < 0 → ∀ b, b < 0 → a ≠ b → (TX8 a).2.1 ≠ (TX8 b).2.1 := by decide +kernel
theorem tyX8_ok : ∀ k, k < 0 → parseFieldDescriptor (TX8 k).2.2.1 = some (tyX8 k) := by decide +kernel
abbrev cX8_init : ByteArray := prog_10_method_1_code
def yX8_init : MethodName := ⟨RX8, "<init>", "()V"⟩
abbrev cX8_worth : ByteArray := prog_10_method_2_code
def yX8_worth : MethodName := ⟨RX8, "worth", "(LOneSocket;I)I"⟩
def RX9 : String := "OneSocket$Telephone"
def TX9 : u_T := fun k => match k with
  | _ => ("", "", "", false)
def tyX9 : Nat → FieldType := fun k => match k with
  | _ => .int
abbrev wsX90 : List Cond := u_ws RX9 TX9 0
theorem nmX9 : ∀ a, a < 0 → ∀ b, b < 0 → a ≠ b → (TX9 a).2.1 ≠ (TX9 b).2.1 := by decide +kernel
theorem tyX9_ok : ∀ k, k < 0 → parseFieldDescriptor (TX9 k).2.2.1 = some (tyX9 k) := by decide +kernel
abbrev cX9_init : ByteArray := prog_11_method_1_code
def yX9_init : MethodName := ⟨RX9, "<init>", "()V"⟩
abbrev cX9_worth : ByteArray := prog_11_method_2_code
def yX9_worth : MethodName := ⟨RX9, "worth", "(LOneSocket;I)I"⟩
def RX10 : String := "OneSocket$Told"
def TX10 : u_T := fun k => match k with
  | 0 => ("OneSocket$Told", "phones", "I", false)
  | 1 => ("OneSocket$Told", "holes", "I", false)
  | 2 => ("OneSocket$Told", "calls", "I", false)
  | 3 => ("OneSocket$Told", "darks", "I", false)
  | 4 => ("OneSocket$Told", "level", "[I", true)
  | 5 => ("OneSocket$Told", "fills", "[I", true)
  | 6 => ("OneSocket$Told", "runs", "[I", true)
  | 7 => ("OneSocket$Told", "callPhone", "[I", true)
  | 8 => ("OneSocket$Told", "callTurn", "[I", true)
  | 9 => ("OneSocket$Told", "callNeeds", "[I", true)
  | 10 => ("OneSocket$Told", "darkFrom", "[I", true)
  | _ => ("OneSocket$Told", "darkTo", "[I", true)
def tyX10 : Nat → FieldType := fun k => match k with
  | 0 => .int
  | 1 => .int
  | 2 => .int
  | 3 => .int
  | 4 => .array .int
  | 5 => .array .int
  | 6 => .array .int
  | 7 => .array .int
  | 8 => .array .int
  | 9 => .array .int
  | 10 => .array .int
  | _ => .array .int
abbrev wsX100 : List Cond := u_ws RX10 TX10 12
theorem nmX10 : ∀ a, a < 12 → ∀ b, b < 12 → a ≠ b → (TX10 a).2.1 ≠ (TX10 b).2.1 := by decide +kernel
theorem tyX10_ok : ∀ k, k < 12 → parseFieldDescriptor (TX10 k).2.2.1 = some (tyX10 k) := by decide +kernel
abbrev cX10_init : ByteArray := prog_12_method_1_code
def yX10_init : MethodName := ⟨RX10, "<init>", "()V"⟩
abbrev cX10_empty : ByteArray := prog_12_method_2_code
def yX10_empty : MethodName := ⟨RX10, "empty", "()V"⟩
abbrev cX10_take : ByteArray := prog_12_method_3_code
def yX10_take : MethodName := ⟨RX10, "take", "(LOneSocket$Told;)V"⟩
abbrev cX10_canBeOn : ByteArray := prog_12_method_4_code
def yX10_canBeOn : MethodName := ⟨RX10, "canBeOn", "(I)Z"⟩
abbrev cX10_isDark : ByteArray := prog_12_method_5_code
def yX10_isDark : MethodName := ⟨RX10, "isDark", "(I)Z"⟩
abbrev cX10_isCallOf : ByteArray := prog_12_method_6_code
def yX10_isCallOf : MethodName := ⟨RX10, "isCallOf", "(III)Z"⟩
abbrev cX10_callsOf : ByteArray := prog_12_method_7_code
def yX10_callsOf : MethodName := ⟨RX10, "callsOf", "(I)I"⟩
abbrev cX10_missedAt : ByteArray := prog_12_method_8_code
def yX10_missedAt : MethodName := ⟨RX10, "missedAt", "(III)I"⟩
abbrev cX10_leftByCalls : ByteArray := prog_12_method_9_code
def yX10_leftByCalls : MethodName := ⟨RX10, "leftByCalls", "(III)I"⟩
abbrev cX10_filled : ByteArray := prog_12_method_10_code
def yX10_filled : MethodName := ⟨RX10, "filled", "(II)I"⟩
abbrev cX10_drained : ByteArray := prog_12_method_11_code
def yX10_drained : MethodName := ⟨RX10, "drained", "(II)I"⟩
abbrev cX10_levelBehind : ByteArray := prog_12_method_12_code
def yX10_levelBehind : MethodName := ⟨RX10, "levelBehind", "(IIIZ)I"⟩
def RX11 : String := "OneSocket"
def TX11 : u_T := fun k => match k with
  | 0 => ("OneSocket", "told", "LOneSocket$Told;", true)
  | 1 => ("OneSocket", "draft", "LOneSocket$Told;", true)
  | 2 => ("OneSocket", "text", "LOneSocket$Reader;", true)
  | 3 => ("OneSocket", "state", "LOneSocket$Now;", true)
  | 4 => ("OneSocket", "book", "LOneSocket$Book;", true)
  | 5 => ("OneSocket", "planner", "LOneSocket$Planner;", true)
  | 6 => ("OneSocket", "kinds", "[LOneSocket$Telephone;", true)
  | 7 => ("OneSocket", "images", "[[I", true)
  | 8 => ("OneSocket", "kept", "[Z", true)
  | 9 => ("OneSocket", "saidPhone", "[I", true)
  | 10 => ("OneSocket", "saidFirst", "[I", true)
  | 11 => ("OneSocket", "saidTurns", "[I", true)
  | 12 => ("OneSocket", "saidThen", "[I", true)
  | 13 => ("OneSocket", "lines", "I", false)
  | _ => ("OneSocket", "traced", "J", false)
def tyX11 : Nat → FieldType := fun k => match k with
  | 0 => .object "OneSocket$Told"
  | 1 => .object "OneSocket$Told"
  | 2 => .object "OneSocket$Reader"
  | 3 => .object "OneSocket$Now"
  | 4 => .object "OneSocket$Book"
  | 5 => .object "OneSocket$Planner"
  | 6 => .array (.object "OneSocket$Telephone")
  | 7 => .array (.array .int)
  | 8 => .array .boolean
  | 9 => .array .int
  | 10 => .array .int
  | 11 => .array .int
  | 12 => .array .int
  | 13 => .int
  | _ => .long
abbrev wsX110 : List Cond := u_ws RX11 TX11 15
theorem nmX11 : ∀ a, a < 15 → ∀ b, b < 15 → a ≠ b → (TX11 a).2.1 ≠ (TX11 b).2.1 := by decide +kernel
theorem tyX11_ok : ∀ k, k < 15 → parseFieldDescriptor (TX11 k).2.2.1 = some (tyX11 k) := by decide +kernel
abbrev cX11_init : ByteArray := prog_1_method_1_code
def yX11_init : MethodName := ⟨RX11, "<init>", "()V"⟩
abbrev cX11_type : ByteArray := prog_1_method_2_code
def yX11_type : MethodName := ⟨RX11, "type", "(I)I"⟩
abbrev cX11_clear : ByteArray := prog_1_method_3_code
def yX11_clear : MethodName := ⟨RX11, "clear", "()I"⟩
abbrev cX11_room : ByteArray := prog_1_method_4_code
def yX11_room : MethodName := ⟨RX11, "room", "()I"⟩
abbrev cX11_phone : ByteArray := prog_1_method_5_code
def yX11_phone : MethodName := ⟨RX11, "phone", "(II)I"⟩
abbrev cX11_call : ByteArray := prog_1_method_6_code
def yX11_call : MethodName := ⟨RX11, "call", "(II)I"⟩
abbrev cX11_dark : ByteArray := prog_1_method_7_code
def yX11_dark : MethodName := ⟨RX11, "dark", "(I)I"⟩
abbrev cX11_puts : ByteArray := prog_1_method_8_code
def yX11_puts : MethodName := ⟨RX11, "puts", "(I)I"⟩
abbrev cX11_turn : ByteArray := prog_1_method_9_code
def yX11_turn : MethodName := ⟨RX11, "turn", "()I"⟩
abbrev cX11_lends : ByteArray := prog_1_method_10_code
def yX11_lends : MethodName := ⟨RX11, "lends", "(II)I"⟩
abbrev cX11_undo : ByteArray := prog_1_method_11_code
def yX11_undo : MethodName := ⟨RX11, "undo", "()I"⟩
abbrev cX11_now : ByteArray := prog_1_method_12_code
def yX11_now : MethodName := ⟨RX11, "now", "(I)I"⟩
abbrev cX11_plan : ByteArray := prog_1_method_13_code
def yX11_plan : MethodName := ⟨RX11, "plan", "(II)I"⟩
abbrev cX11_fullBy : ByteArray := prog_1_method_14_code
def yX11_fullBy : MethodName := ⟨RX11, "fullBy", "(II)I"⟩
abbrev cX11_latest : ByteArray := prog_1_method_15_code
def yX11_latest : MethodName := ⟨RX11, "latest", "(II)I"⟩
abbrev cX11_holdsOut : ByteArray := prog_1_method_16_code
def yX11_holdsOut : MethodName := ⟨RX11, "holdsOut", "(III)Z"⟩
abbrev cX11_says : ByteArray := prog_1_method_17_code
def yX11_says : MethodName := ⟨RX11, "says", "(IIII)I"⟩
abbrev cX11_forget : ByteArray := prog_1_method_18_code
def yX11_forget : MethodName := ⟨RX11, "forget", "()I"⟩
abbrev cX11_could : ByteArray := prog_1_method_19_code
def yX11_could : MethodName := ⟨RX11, "could", "(II)I"⟩
abbrev cX11_liars : ByteArray := prog_1_method_20_code
def yX11_liars : MethodName := ⟨RX11, "liars", "()I"⟩
abbrev cX11_leadsToWhatWasSeen : ByteArray := prog_1_method_21_code
def yX11_leadsToWhatWasSeen : MethodName := ⟨RX11, "leadsToWhatWasSeen", "(II)Z"⟩
abbrev cX11_odds : ByteArray := prog_1_method_22_code
def yX11_odds : MethodName := ⟨RX11, "odds", "(IIIII)J"⟩
abbrev cX11_waysOfTen : ByteArray := prog_1_method_23_code
def yX11_waysOfTen : MethodName := ⟨RX11, "waysOfTen", "(IIIII)J"⟩
abbrev cX11_greatestDivisor : ByteArray := prog_1_method_24_code
def yX11_greatestDivisor : MethodName := ⟨RX11, "greatestDivisor", "(JJ)J"⟩
abbrev cX11_rate : ByteArray := prog_1_method_25_code
def yX11_rate : MethodName := ⟨RX11, "rate", "(II)I"⟩
abbrev cX11_keep : ByteArray := prog_1_method_26_code
def yX11_keep : MethodName := ⟨RX11, "keep", "(I)I"⟩
abbrev cX11_back : ByteArray := prog_1_method_27_code
def yX11_back : MethodName := ⟨RX11, "back", "(I)I"⟩
abbrev cX11_count : ByteArray := prog_1_method_28_code
def yX11_count : MethodName := ⟨RX11, "count", "(I)I"⟩
abbrev cX11_trace : ByteArray := prog_1_method_29_code
def yX11_trace : MethodName := ⟨RX11, "trace", "()J"⟩
abbrev cX11_isPhone : ByteArray := prog_1_method_30_code
def yX11_isPhone : MethodName := ⟨RX11, "isPhone", "(I)Z"⟩
abbrev cX11_isWithin : ByteArray := prog_1_method_31_code
def yX11_isWithin : MethodName := ⟨RX11, "isWithin", "(III)Z"⟩
def RX12 : String := "OneSocketModel"
def TX12 : u_T := fun k => match k with
  | 0 => ("OneSocketModel", "thrown", "I", false)
  | 1 => ("OneSocketModel", "trace", "J", false)
  | 2 => ("OneSocketModel", "text", "[I", true)
  | 3 => ("OneSocketModel", "typed", "I", false)
  | 4 => ("OneSocketModel", "next", "I", false)
  | 5 => ("OneSocketModel", "token", "I", false)
  | 6 => ("OneSocketModel", "place", "I", false)
  | 7 => ("OneSocketModel", "value", "I", false)
  | 8 => ("OneSocketModel", "fault", "I", false)
  | 9 => ("OneSocketModel", "phones", "[I", true)
  | 10 => ("OneSocketModel", "calls", "[I", true)
  | 11 => ("OneSocketModel", "darks", "[I", true)
  | 12 => ("OneSocketModel", "many", "I", false)
  | 13 => ("OneSocketModel", "callMany", "I", false)
  | 14 => ("OneSocketModel", "darkMany", "I", false)
  | 15 => ("OneSocketModel", "holes", "I", false)
  | 16 => ("OneSocketModel", "draftMany", "I", false)
  | 17 => ("OneSocketModel", "draftCalls", "I", false)
  | 18 => ("OneSocketModel", "draftDarks", "I", false)
  | 19 => ("OneSocketModel", "draftHoles", "I", false)
  | 20 => ("OneSocketModel", "s", "[I", true)
  | 21 => ("OneSocketModel", "w", "[I", true)
  | 22 => ("OneSocketModel", "kept", "[I", true)
  | 23 => ("OneSocketModel", "isKept", "[Z", true)
  | 24 => ("OneSocketModel", "undos", "[I", true)
  | 25 => ("OneSocketModel", "undoMany", "I", false)
  | 26 => ("OneSocketModel", "said", "[I", true)
  | 27 => ("OneSocketModel", "saidMany", "I", false)
  | 28 => ("OneSocketModel", "row", "[I", true)
  | 29 => ("OneSocketModel", "best", "[I", true)
  | 30 => ("OneSocketModel", "likely", "[J", true)
  | 31 => ("OneSocketModel", "then", "[J", true)
  | 32 => ("OneSocketModel", "choices", "[I", true)
  | 33 => ("OneSocketModel", "choiceMany", "I", false)
  | 34 => ("OneSocketModel", "bestMissed", "I", false)
  | 35 => ("OneSocketModel", "bestOut", "I", false)
  | _ => ("OneSocketModel", "bestUp", "I", false)
def tyX12 : Nat → FieldType := fun k => match k with
  | 0 => .int
  | 1 => .long
  | 2 => .array .int
  | 3 => .int
  | 4 => .int
  | 5 => .int
  | 6 => .int
  | 7 => .int
  | 8 => .int
  | 9 => .array .int
  | 10 => .array .int
  | 11 => .array .int
  | 12 => .int
  | 13 => .int
  | 14 => .int
  | 15 => .int
  | 16 => .int
  | 17 => .int
  | 18 => .int
  | 19 => .int
  | 20 => .array .int
  | 21 => .array .int
  | 22 => .array .int
  | 23 => .array .boolean
  | 24 => .array .int
  | 25 => .int
  | 26 => .array .int
  | 27 => .int
  | 28 => .array .int
  | 29 => .array .int
  | 30 => .array .long
  | 31 => .array .long
  | 32 => .array .int
  | 33 => .int
  | 34 => .int
  | 35 => .int
  | _ => .int
abbrev wsX120 : List Cond := u_ws RX12 TX12 37
theorem nmX12 : ∀ a, a < 37 → ∀ b, b < 37 → a ≠ b → (TX12 a).2.1 ≠ (TX12 b).2.1 := by decide +kernel
theorem tyX12_ok : ∀ k, k < 37 → parseFieldDescriptor (TX12 k).2.2.1 = some (tyX12 k) := by decide +kernel
abbrev cX12_init : ByteArray := prog_14_method_1_code
def yX12_init : MethodName := ⟨RX12, "<init>", "()V"⟩
abbrev cX12_in : ByteArray := prog_14_method_3_code
def yX12_in : MethodName := ⟨RX12, "in", "(III)Z"⟩
abbrev cX12_ones : ByteArray := prog_14_method_4_code
def yX12_ones : MethodName := ⟨RX12, "ones", "(I)I"⟩
abbrev cX12_type : ByteArray := prog_14_method_5_code
def yX12_type : MethodName := ⟨RX12, "type", "(I)I"⟩
abbrev cX12_clear : ByteArray := prog_14_method_6_code
def yX12_clear : MethodName := ⟨RX12, "clear", "()I"⟩
abbrev cX12_letterAt : ByteArray := prog_14_method_7_code
def yX12_letterAt : MethodName := ⟨RX12, "letterAt", "(I)I"⟩
abbrev cX12_advances : ByteArray := prog_14_method_8_code
def yX12_advances : MethodName := ⟨RX12, "advances", "()V"⟩
abbrev cX12_isWell : ByteArray := prog_14_method_9_code
def yX12_isWell : MethodName := ⟨RX12, "isWell", "()Z"⟩
abbrev cX12_takes : ByteArray := prog_14_method_10_code
def yX12_takes : MethodName := ⟨RX12, "takes", "(Z)I"⟩
abbrev cX12_number : ByteArray := prog_14_method_11_code
def yX12_number : MethodName := ⟨RX12, "number", "(II)I"⟩
abbrev cX12_mayBegin : ByteArray := prog_14_method_12_code
def yX12_mayBegin : MethodName := ⟨RX12, "mayBegin", "()Z"⟩
abbrev cX12_readsItem : ByteArray := prog_14_method_13_code
def yX12_readsItem : MethodName := ⟨RX12, "readsItem", "(I)V"⟩
abbrev cX12_room : ByteArray := prog_14_method_14_code
def yX12_room : MethodName := ⟨RX12, "room", "()I"⟩
abbrev cX12_settles : ByteArray := prog_14_method_15_code
def yX12_settles : MethodName := ⟨RX12, "settles", "()V"⟩
abbrev cX12_isPhone : ByteArray := prog_14_method_16_code
def yX12_isPhone : MethodName := ⟨RX12, "isPhone", "(I)Z"⟩
abbrev cX12_phone : ByteArray := prog_14_method_17_code
def yX12_phone : MethodName := ⟨RX12, "phone", "(II)I"⟩
abbrev cX12_call : ByteArray := prog_14_method_18_code
def yX12_call : MethodName := ⟨RX12, "call", "(II)I"⟩
abbrev cX12_isDark : ByteArray := prog_14_method_19_code
def yX12_isDark : MethodName := ⟨RX12, "isDark", "(I)Z"⟩
abbrev cX12_dark : ByteArray := prog_14_method_20_code
def yX12_dark : MethodName := ⟨RX12, "dark", "(I)I"⟩
abbrev cX12_filled : ByteArray := prog_14_method_21_code
def yX12_filled : MethodName := ⟨RX12, "filled", "(II)I"⟩
abbrev cX12_lower : ByteArray := prog_14_method_22_code
def yX12_lower : MethodName := ⟨RX12, "lower", "(II)I"⟩
abbrev cX12_goes : ByteArray := prog_14_method_23_code
def yX12_goes : MethodName := ⟨RX12, "goes", "([I)V"⟩
abbrev cX12_notes : ByteArray := prog_14_method_24_code
def yX12_notes : MethodName := ⟨RX12, "notes", "()V"⟩
abbrev cX12_sets : ByteArray := prog_14_method_25_code
def yX12_sets : MethodName := ⟨RX12, "sets", "([II)V"⟩
abbrev cX12_isSet : ByteArray := prog_14_method_26_code
def yX12_isSet : MethodName := ⟨RX12, "isSet", "(I)Z"⟩
abbrev cX12_puts : ByteArray := prog_14_method_27_code
def yX12_puts : MethodName := ⟨RX12, "puts", "(I)I"⟩
abbrev cX12_outOnes : ByteArray := prog_14_method_28_code
def yX12_outOnes : MethodName := ⟨RX12, "outOnes", "([I)I"⟩
abbrev cX12_turn : ByteArray := prog_14_method_29_code
def yX12_turn : MethodName := ⟨RX12, "turn", "()I"⟩
abbrev cX12_lends : ByteArray := prog_14_method_30_code
def yX12_lends : MethodName := ⟨RX12, "lends", "(II)I"⟩
abbrev cX12_undo : ByteArray := prog_14_method_31_code
def yX12_undo : MethodName := ⟨RX12, "undo", "()I"⟩
abbrev cX12_fair : ByteArray := prog_14_method_32_code
def yX12_fair : MethodName := ⟨RX12, "fair", "()I"⟩
abbrev cX12_leans : ByteArray := prog_14_method_33_code
def yX12_leans : MethodName := ⟨RX12, "leans", "()I"⟩
abbrev cX12_now : ByteArray := prog_14_method_34_code
def yX12_now : MethodName := ⟨RX12, "now", "(I)I"⟩
abbrev cX12_asNow : ByteArray := prog_14_method_35_code
def yX12_asNow : MethodName := ⟨RX12, "asNow", "()V"⟩
abbrev cX12_power : ByteArray := prog_14_method_36_code
def yX12_power : MethodName := ⟨RX12, "power", "(II)I"⟩
abbrev cX12_choose : ByteArray := prog_14_method_37_code
def yX12_choose : MethodName := ⟨RX12, "choose", "()V"⟩
abbrev cX12_tries : ByteArray := prog_14_method_38_code
def yX12_tries : MethodName := ⟨RX12, "tries", "(II)V"⟩
abbrev cX12_plans : ByteArray := prog_14_method_39_code
def yX12_plans : MethodName := ⟨RX12, "plans", "(I)V"⟩
abbrev cX12_plan : ByteArray := prog_14_method_40_code
def yX12_plan : MethodName := ⟨RX12, "plan", "(II)I"⟩
abbrev cX12_fullBy : ByteArray := prog_14_method_41_code
def yX12_fullBy : MethodName := ⟨RX12, "fullBy", "(II)I"⟩
abbrev cX12_missedBy : ByteArray := prog_14_method_42_code
def yX12_missedBy : MethodName := ⟨RX12, "missedBy", "(II)I"⟩
abbrev cX12_isHeard : ByteArray := prog_14_method_43_code
def yX12_isHeard : MethodName := ⟨RX12, "isHeard", "(III)Z"⟩
abbrev cX12_latest : ByteArray := prog_14_method_44_code
def yX12_latest : MethodName := ⟨RX12, "latest", "(II)I"⟩
abbrev cX12_says : ByteArray := prog_14_method_45_code
def yX12_says : MethodName := ⟨RX12, "says", "(IIII)I"⟩
abbrev cX12_forget : ByteArray := prog_14_method_46_code
def yX12_forget : MethodName := ⟨RX12, "forget", "()I"⟩
abbrev cX12_risen : ByteArray := prog_14_method_47_code
def yX12_risen : MethodName := ⟨RX12, "risen", "(III)I"⟩
abbrev cX12_could : ByteArray := prog_14_method_48_code
def yX12_could : MethodName := ⟨RX12, "could", "(II)I"⟩
abbrev cX12_liars : ByteArray := prog_14_method_49_code
def yX12_liars : MethodName := ⟨RX12, "liars", "()I"⟩
abbrev cX12_gcd : ByteArray := prog_14_method_50_code
def yX12_gcd : MethodName := ⟨RX12, "gcd", "(JJ)J"⟩
abbrev cX12_spreads : ByteArray := prog_14_method_51_code
def yX12_spreads : MethodName := ⟨RX12, "spreads", "(II)V"⟩
abbrev cX12_odds : ByteArray := prog_14_method_52_code
def yX12_odds : MethodName := ⟨RX12, "odds", "(IIIII)J"⟩
abbrev cX12_rate : ByteArray := prog_14_method_53_code
def yX12_rate : MethodName := ⟨RX12, "rate", "(II)I"⟩
abbrev cX12_keep : ByteArray := prog_14_method_54_code
def yX12_keep : MethodName := ⟨RX12, "keep", "(I)I"⟩
abbrev cX12_back : ByteArray := prog_14_method_55_code
def yX12_back : MethodName := ⟨RX12, "back", "(I)I"⟩
abbrev cX12_count : ByteArray := prog_14_method_56_code
def yX12_count : MethodName := ⟨RX12, "count", "(I)I"⟩
abbrev cX12_trace : ByteArray := prog_14_method_57_code
def yX12_trace : MethodName := ⟨RX12, "trace", "()J"⟩
def RJ6 : String := "java/lang/Integer"
def TJ6 : u_T := fun k => match k with
  | _ => ("", "", "", false)
def tyJ6 : Nat → FieldType := fun k => match k with
  | _ => .int
abbrev wsJ60 : List Cond := u_ws RJ6 TJ6 0
theorem nmJ6 : ∀ a, a < 0 → ∀ b, b < 0 → a ≠ b → (TJ6 a).2.1 ≠ (TJ6 b).2.1 := by decide +kernel
theorem tyJ6_ok : ∀ k, k < 0 → parseFieldDescriptor (TJ6 k).2.2.1 = some (tyJ6 k) := by decide +kernel
abbrev cJ6_bitCount_0f7a4 : ByteArray := prog_15_method_49_code
def yJ6_bitCount_0f7a4 : MethodName := ⟨RJ6, "bitCount", "(I)I"⟩
def RJ9 : String := "java/lang/Math"
def TJ9 : u_T := fun k => match k with
  | _ => ("", "", "", false)
def tyJ9 : Nat → FieldType := fun k => match k with
  | _ => .int
abbrev wsJ90 : List Cond := u_ws RJ9 TJ9 0
theorem nmJ9 : ∀ a, a < 0 → ∀ b, b < 0 → a ≠ b → (TJ9 a).2.1 ≠ (TJ9 b).2.1 := by decide +kernel
theorem tyJ9_ok : ∀ k, k < 0 → parseFieldDescriptor (TJ9 k).2.2.1 = some (tyJ9 k) := by decide +kernel
abbrev cJ9_max_7cf53 : ByteArray := prog_16_method_65_code
def yJ9_max_7cf53 : MethodName := ⟨RJ9, "max", "(II)I"⟩
abbrev cJ9_min_7cf53 : ByteArray := prog_16_method_69_code
def yJ9_min_7cf53 : MethodName := ⟨RJ9, "min", "(II)I"⟩
def RJ10 : String := "java/lang/System"
def TJ10 : u_T := fun k => match k with
  | _ => ("", "", "", false)
def tyJ10 : Nat → FieldType := fun k => match k with
  | _ => .int
abbrev wsJ100 : List Cond := u_ws RJ10 TJ10 0
theorem nmJ10 : ∀ a, a < 0 → ∀ b, b < 0 → a ≠ b → (TJ10 a).2.1 ≠ (TJ10 b).2.1 := by decide +kernel
theorem tyJ10_ok : ∀ k, k < 0 → parseFieldDescriptor (TJ10 k).2.2.1 = some (tyJ10 k) := by decide +kernel
def RL : String := "OneSocketLaw"
abbrev cL_law : ByteArray := code
def yL_law : MethodName := ⟨RL, "law", "([I)Z"⟩
abbrev vwCl : List vw_C := [(RX0, TX0, 0), (RX1, TX1, 0), (RX2, TX2, 3), (RX3, TX3, 0), (RX4, TX4, 6), (RX5, TX5, 7), (RX6, TX6, 0), (RX7, TX7, 7), (RX8, TX8, 0), (RX9, TX9, 0), (RX10, TX10, 12), (RX11, TX11, 15), (RX12, TX12, 37)]
set_option maxRecDepth 20000 in
theorem inX0 : ∀ w ∈ wsX00, w ∈ lw_tbl := by decide +kernel
set_option maxRecDepth 20000 in
theorem inX1 : ∀ w ∈ wsX10, w ∈ lw_tbl := by decide +kernel
set_option maxRecDepth 20000 in
theorem inX2 : ∀ w ∈ wsX20, w ∈ lw_tbl := by decide +kernel
set_option maxRecDepth 20000 in
theorem inX3 : ∀ w ∈ wsX30, w ∈ lw_tbl := by decide +kernel
set_option maxRecDepth 20000 in
theorem inX4 : ∀ w ∈ wsX40, w ∈ lw_tbl := by decide +kernel
set_option maxRecDepth 20000 in
theorem inX5 : ∀ w ∈ wsX50, w ∈ lw_tbl := by decide +kernel
set_option maxRecDepth 20000 in
theorem inX6 : ∀ w ∈ wsX60, w ∈ lw_tbl := by decide +kernel
set_option maxRecDepth 20000 in
theorem inX7 : ∀ w ∈ wsX70, w ∈ lw_tbl := by decide +kernel
set_option maxRecDepth 20000 in
theorem inX8 : ∀ w ∈ wsX80, w ∈ lw_tbl := by decide +kernel
set_option maxRecDepth 20000 in
theorem inX9 : ∀ w ∈ wsX90, w ∈ lw_tbl := by decide +kernel
set_option maxRecDepth 20000 in
theorem inX10 : ∀ w ∈ wsX100, w ∈ lw_tbl := by decide +kernel
set_option maxRecDepth 20000 in
theorem inX11 : ∀ w ∈ wsX110, w ∈ lw_tbl := by decide +kernel
set_option maxRecDepth 20000 in
theorem inX12 : ∀ w ∈ wsX120, w ∈ lw_tbl := by decide +kernel
