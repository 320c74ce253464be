def RX0 : String := "ShoeCorner$Boy"
def TX0 : u_T := fun k => match k with
  | 0 => ("ShoeCorner$Boy", "kind", "I", false)
  | 1 => ("ShoeCorner$Boy", "place", "I", false)
  | 2 => ("ShoeCorner$Boy", "price", "I", false)
  | 3 => ("ShoeCorner$Boy", "rubs", "I", false)
  | 4 => ("ShoeCorner$Boy", "purse", "I", false)
  | 5 => ("ShoeCorner$Boy", "busy", "I", false)
  | _ => ("ShoeCorner$Boy", "done", "I", false)
def tyX0 : Nat → FieldType := fun k => match k with
  | 0 => .int
  | 1 => .int
  | 2 => .int
  | 3 => .int
  | 4 => .int
  | 5 => .int
  | _ => .int
abbrev wsX00 : List Cond := u_ws RX0 TX0 7
theorem nmX0 : ∀ a, a < 7 → ∀ b, b < 7 → a ≠ b → (TX0 a).2.1 ≠ (TX0 b).2.1 := by decide +kernel
theorem tyX0_ok : ∀ k, k < 7 → parseFieldDescriptor (TX0 k).2.2.1 = some (tyX0 k) := by decide +kernel
abbrev cX0_init : ByteArray := prog_2_method_1_code
def yX0_init : MethodName := ⟨RX0, "<init>", "()V"⟩
abbrev cX0_mayBe : ByteArray := prog_2_method_2_code
def yX0_mayBe : MethodName := ⟨RX0, "mayBe", "(II)Z"⟩
abbrev cX0_change : ByteArray := prog_2_method_3_code
def yX0_change : MethodName := ⟨RX0, "change", "(II)V"⟩
abbrev cX0_become : ByteArray := prog_2_method_4_code
def yX0_become : MethodName := ⟨RX0, "become", "(LShoeCorner$Boy;)V"⟩
abbrev cX0_start : ByteArray := prog_2_method_5_code
def yX0_start : MethodName := ⟨RX0, "start", "(IIII)V"⟩
abbrev cX0_fact : ByteArray := prog_2_method_6_code
def yX0_fact : MethodName := ⟨RX0, "fact", "(I)I"⟩
def RX1 : String := "ShoeCorner$Kinds"
def TX1 : u_T := fun k => match k with
  | _ => ("", "", "", false)
def tyX1 : Nat → FieldType := fun k => match k with
  | _ => .int
abbrev wsX10 : List Cond := u_ws RX1 TX1 0
theorem nmX1 : ∀ a, a < 0 → ∀ b, b < 0 → a ≠ b → (TX1 a).2.1 ≠ (TX1 b).2.1 := by decide +kernel
theorem tyX1_ok : ∀ k, k < 0 → parseFieldDescriptor (TX1 k).2.2.1 = some (tyX1 k) := by decide +kernel
abbrev cX1_isUnder : ByteArray := prog_3_method_2_code
def yX1_isUnder : MethodName := ⟨RX1, "isUnder", "(II)Z"⟩
abbrev cX1_takes : ByteArray := prog_3_method_3_code
def yX1_takes : MethodName := ⟨RX1, "takes", "(II)I"⟩
abbrev cX1_asks : ByteArray := prog_3_method_4_code
def yX1_asks : MethodName := ⟨RX1, "asks", "(II)I"⟩
abbrev cX1_worth : ByteArray := prog_3_method_5_code
def yX1_worth : MethodName := ⟨RX1, "worth", "(II)I"⟩
abbrev cX1_shineFrom : ByteArray := prog_3_method_6_code
def yX1_shineFrom : MethodName := ⟨RX1, "shineFrom", "(III)I"⟩
def RX2 : String := "ShoeCorner$Sheet"
def TX2 : u_T := fun k => match k with
  | 0 => ("ShoeCorner$Sheet", "sort", "I", false)
  | 1 => ("ShoeCorner$Sheet", "count", "I", false)
  | _ => ("ShoeCorner$Sheet", "places", "[I", true)
def tyX2 : Nat → FieldType := fun k => match k with
  | 0 => .int
  | 1 => .int
  | _ => .array .int
abbrev wsX20 : List Cond := u_ws RX2 TX2 3
theorem nmX2 : ∀ a, a < 3 → ∀ b, b < 3 → a ≠ b → (TX2 a).2.1 ≠ (TX2 b).2.1 := by decide +kernel
theorem tyX2_ok : ∀ k, k < 3 → parseFieldDescriptor (TX2 k).2.2.1 = some (tyX2 k) := by decide +kernel
abbrev cX2_init : ByteArray := prog_4_method_1_code
def yX2_init : MethodName := ⟨RX2, "<init>", "()V"⟩
abbrev cX2_renew : ByteArray := prog_4_method_2_code
def yX2_renew : MethodName := ⟨RX2, "renew", "(II)V"⟩
abbrev cX2_become : ByteArray := prog_4_method_3_code
def yX2_become : MethodName := ⟨RX2, "become", "(LShoeCorner$Sheet;)V"⟩
abbrev cX2_isMissing : ByteArray := prog_4_method_4_code
def yX2_isMissing : MethodName := ⟨RX2, "isMissing", "()Z"⟩
abbrev cX2_hasPlace : ByteArray := prog_4_method_5_code
def yX2_hasPlace : MethodName := ⟨RX2, "hasPlace", "(I)Z"⟩
abbrev cX2_hasPlaces : ByteArray := prog_4_method_6_code
def yX2_hasPlaces : MethodName := ⟨RX2, "hasPlaces", "(II)Z"⟩
abbrev cX2_hasNumber : ByteArray := prog_4_method_7_code
def yX2_hasNumber : MethodName := ⟨RX2, "hasNumber", "(I)Z"⟩
def RX3 : String := "ShoeCorner$Slot"
def TX3 : u_T := fun k => match k with
  | 0 => ("ShoeCorner$Slot", "thing", "I", false)
  | 1 => ("ShoeCorner$Slot", "number", "I", false)
  | 2 => ("ShoeCorner$Slot", "boy", "LShoeCorner$Boy;", true)
  | _ => ("ShoeCorner$Slot", "sheet", "LShoeCorner$Sheet;", true)
def tyX3 : Nat → FieldType := fun k => match k with
  | 0 => .int
  | 1 => .int
  | 2 => .object "ShoeCorner$Boy"
  | _ => .object "ShoeCorner$Sheet"
abbrev wsX30 : List Cond := u_ws RX3 TX3 4
theorem nmX3 : ∀ a, a < 4 → ∀ b, b < 4 → a ≠ b → (TX3 a).2.1 ≠ (TX3 b).2.1 := by decide +kernel
theorem tyX3_ok : ∀ k, k < 4 → parseFieldDescriptor (TX3 k).2.2.1 = some (tyX3 k) := by decide +kernel
abbrev cX3_init : ByteArray := prog_5_method_1_code
def yX3_init : MethodName := ⟨RX3, "<init>", "()V"⟩
abbrev cX3_findingFor : ByteArray := prog_5_method_2_code
def yX3_findingFor : MethodName := ⟨RX3, "findingFor", "(I)I"⟩
def RX4 : String := "ShoeCorner$Street"
def TX4 : u_T := fun k => match k with
  | 0 => ("ShoeCorner$Street", "boys", "[LShoeCorner$Boy;", true)
  | 1 => ("ShoeCorner$Street", "laws", "[LShoeCorner$Text;", true)
  | 2 => ("ShoeCorner$Street", "boyCount", "I", false)
  | 3 => ("ShoeCorner$Street", "textCount", "I", false)
  | 4 => ("ShoeCorner$Street", "share", "I", false)
  | 5 => ("ShoeCorner$Street", "owner", "I", false)
  | 6 => ("ShoeCorner$Street", "rain", "I", false)
  | 7 => ("ShoeCorner$Street", "lost", "I", false)
  | 8 => ("ShoeCorner$Street", "minute", "I", false)
  | 9 => ("ShoeCorner$Street", "z", "I", false)
  | 10 => ("ShoeCorner$Street", "wet", "Z", false)
  | _ => ("ShoeCorner$Street", "away", "I", false)
def tyX4 : Nat → FieldType := fun k => match k with
  | 0 => .array (.object "ShoeCorner$Boy")
  | 1 => .array (.object "ShoeCorner$Text")
  | 2 => .int
  | 3 => .int
  | 4 => .int
  | 5 => .int
  | 6 => .int
  | 7 => .int
  | 8 => .int
  | 9 => .int
  | 10 => .boolean
  | _ => .int
abbrev wsX40 : List Cond := u_ws RX4 TX4 12
theorem nmX4 : ∀ a, a < 12 → ∀ b, b < 12 → a ≠ b → (TX4 a).2.1 ≠ (TX4 b).2.1 := by decide +kernel
theorem tyX4_ok : ∀ k, k < 12 → parseFieldDescriptor (TX4 k).2.2.1 = some (tyX4 k) := by decide +kernel
abbrev cX4_init : ByteArray := prog_6_method_1_code
def yX4_init : MethodName := ⟨RX4, "<init>", "()V"⟩
abbrev cX4_become : ByteArray := prog_6_method_2_code
def yX4_become : MethodName := ⟨RX4, "become", "(LShoeCorner$Street;)V"⟩
abbrev cX4_addBoy : ByteArray := prog_6_method_3_code
def yX4_addBoy : MethodName := ⟨RX4, "addBoy", "(IIII)V"⟩
abbrev cX4_drawBoy : ByteArray := prog_6_method_4_code
def yX4_drawBoy : MethodName := ⟨RX4, "drawBoy", "()V"⟩
abbrev cX4_countText : ByteArray := prog_6_method_5_code
def yX4_countText : MethodName := ⟨RX4, "countText", "(LShoeCorner$Text;)V"⟩
abbrev cX4_law : ByteArray := prog_6_method_6_code
def yX4_law : MethodName := ⟨RX4, "law", "(I)LShoeCorner$Text;"⟩
abbrev cX4_shineOf : ByteArray := prog_6_method_7_code
def yX4_shineOf : MethodName := ⟨RX4, "shineOf", "(LShoeCorner$Boy;II)I"⟩
abbrev cX4_bareShine : ByteArray := prog_6_method_8_code
def yX4_bareShine : MethodName := ⟨RX4, "bareShine", "(II)I"⟩
abbrev cX4_draw : ByteArray := prog_6_method_9_code
def yX4_draw : MethodName := ⟨RX4, "draw", "()I"⟩
abbrev cX4_passMinutes : ByteArray := prog_6_method_10_code
def yX4_passMinutes : MethodName := ⟨RX4, "passMinutes", "(I)I"⟩
abbrev cX4_passMinute : ByteArray := prog_6_method_11_code
def yX4_passMinute : MethodName := ⟨RX4, "passMinute", "()I"⟩
abbrev cX4_receiveMan : ByteArray := prog_6_method_12_code
def yX4_receiveMan : MethodName := ⟨RX4, "receiveMan", "()I"⟩
abbrev cX4_paidTo : ByteArray := prog_6_method_13_code
def yX4_paidTo : MethodName := ⟨RX4, "paidTo", "(LShoeCorner$Boy;I)I"⟩
abbrev cX4_chosenBoy : ByteArray := prog_6_method_14_code
def yX4_chosenBoy : MethodName := ⟨RX4, "chosenBoy", "(II)I"⟩
abbrev cX4_purses : ByteArray := prog_6_method_15_code
def yX4_purses : MethodName := ⟨RX4, "purses", "()I"⟩
abbrev cX4_menDone : ByteArray := prog_6_method_16_code
def yX4_menDone : MethodName := ⟨RX4, "menDone", "()I"⟩
abbrev cX4_busyBoys : ByteArray := prog_6_method_17_code
def yX4_busyBoys : MethodName := ⟨RX4, "busyBoys", "()I"⟩
def RX5 : String := "ShoeCorner$Tape"
def TX5 : u_T := fun k => match k with
  | 0 => ("ShoeCorner$Tape", "count", "I", false)
  | 1 => ("ShoeCorner$Tape", "bytes", "[B", true)
  | 2 => ("ShoeCorner$Tape", "end", "I", false)
  | 3 => ("ShoeCorner$Tape", "token", "I", false)
  | 4 => ("ShoeCorner$Tape", "start", "I", false)
  | _ => ("ShoeCorner$Tape", "at", "I", false)
def tyX5 : Nat → FieldType := fun k => match k with
  | 0 => .int
  | 1 => .array .byte
  | 2 => .int
  | 3 => .int
  | 4 => .int
  | _ => .int
abbrev wsX50 : List Cond := u_ws RX5 TX5 6
theorem nmX5 : ∀ a, a < 6 → ∀ b, b < 6 → a ≠ b → (TX5 a).2.1 ≠ (TX5 b).2.1 := by decide +kernel
theorem tyX5_ok : ∀ k, k < 6 → parseFieldDescriptor (TX5 k).2.2.1 = some (tyX5 k) := by decide +kernel
abbrev cX5_init : ByteArray := prog_7_method_1_code
def yX5_init : MethodName := ⟨RX5, "<init>", "()V"⟩
abbrev cX5_addNumber : ByteArray := prog_7_method_2_code
def yX5_addNumber : MethodName := ⟨RX5, "addNumber", "(I)V"⟩
abbrev cX5_useUp : ByteArray := prog_7_method_3_code
def yX5_useUp : MethodName := ⟨RX5, "useUp", "(LShoeCorner$Text;)I"⟩
abbrev cX5_keyRead : ByteArray := prog_7_method_4_code
def yX5_keyRead : MethodName := ⟨RX5, "keyRead", "()I"⟩
abbrev cX5_isWord : ByteArray := prog_7_method_5_code
def yX5_isWord : MethodName := ⟨RX5, "isWord", "(Ljava/lang/String;)Z"⟩
abbrev cX5_expression : ByteArray := prog_7_method_6_code
def yX5_expression : MethodName := ⟨RX5, "expression", "(LShoeCorner$Text;III)Z"⟩
abbrev cX5_levelOf : ByteArray := prog_7_method_7_code
def yX5_levelOf : MethodName := ⟨RX5, "levelOf", "(I)I"⟩
abbrev cX5_piece : ByteArray := prog_7_method_8_code
def yX5_piece : MethodName := ⟨RX5, "piece", "(LShoeCorner$Text;II)Z"⟩
abbrev cX5_number : ByteArray := prog_7_method_9_code
def yX5_number : MethodName := ⟨RX5, "number", "(LShoeCorner$Text;)Z"⟩
abbrev cX5_name : ByteArray := prog_7_method_10_code
def yX5_name : MethodName := ⟨RX5, "name", "(LShoeCorner$Text;)Z"⟩
abbrev cX5_isSign : ByteArray := prog_7_method_11_code
def yX5_isSign : MethodName := ⟨RX5, "isSign", "(I)Z"⟩
abbrev cX5_sign : ByteArray := prog_7_method_12_code
def yX5_sign : MethodName := ⟨RX5, "sign", "()I"⟩
abbrev cX5_step : ByteArray := prog_7_method_13_code
def yX5_step : MethodName := ⟨RX5, "step", "()V"⟩
abbrev cX5_isLetter : ByteArray := prog_7_method_14_code
def yX5_isLetter : MethodName := ⟨RX5, "isLetter", "(I)Z"⟩
abbrev cX5_isDigit : ByteArray := prog_7_method_15_code
def yX5_isDigit : MethodName := ⟨RX5, "isDigit", "(I)Z"⟩
def RX6 : String := "ShoeCorner$Text"
def TX6 : u_T := fun k => match k with
  | 0 => ("ShoeCorner$Text", "number", "I", true)
  | 1 => ("ShoeCorner$Text", "key", "I", false)
  | 2 => ("ShoeCorner$Text", "operands", "I", false)
  | 3 => ("ShoeCorner$Text", "size", "I", false)
  | 4 => ("ShoeCorner$Text", "items", "[I", true)
  | _ => ("ShoeCorner$Text", "stack", "[I", true)
def tyX6 : Nat → FieldType := fun k => match k with
  | 0 => .int
  | 1 => .int
  | 2 => .int
  | 3 => .int
  | 4 => .array .int
  | _ => .array .int
abbrev wsX60 : List Cond := u_ws RX6 TX6 6
theorem nmX6 : ∀ a, a < 6 → ∀ b, b < 6 → a ≠ b → (TX6 a).2.1 ≠ (TX6 b).2.1 := by decide +kernel
theorem tyX6_ok : ∀ k, k < 6 → parseFieldDescriptor (TX6 k).2.2.1 = some (tyX6 k) := by decide +kernel
abbrev cX6_init : ByteArray := prog_8_method_1_code
def yX6_init : MethodName := ⟨RX6, "<init>", "(I[I)V"⟩
abbrev cX6_begin : ByteArray := prog_8_method_2_code
def yX6_begin : MethodName := ⟨RX6, "begin", "(I)V"⟩
abbrev cX6_addNumber : ByteArray := prog_8_method_3_code
def yX6_addNumber : MethodName := ⟨RX6, "addNumber", "(I)V"⟩
abbrev cX6_addName : ByteArray := prog_8_method_4_code
def yX6_addName : MethodName := ⟨RX6, "addName", "(C)Z"⟩
abbrev cX6_addSign : ByteArray := prog_8_method_5_code
def yX6_addSign : MethodName := ⟨RX6, "addSign", "(I)V"⟩
abbrev cX6_addItem : ByteArray := prog_8_method_6_code
def yX6_addItem : MethodName := ⟨RX6, "addItem", "(I)V"⟩
abbrev cX6_namesOf : ByteArray := prog_8_method_7_code
def yX6_namesOf : MethodName := ⟨RX6, "namesOf", "(I)Ljava/lang/String;"⟩
abbrev cX6_value : ByteArray := prog_8_method_8_code
def yX6_value : MethodName := ⟨RX6, "value", "(III)I"⟩
abbrev cX6_joined : ByteArray := prog_8_method_9_code
def yX6_joined : MethodName := ⟨RX6, "joined", "(III)I"⟩
def RX7 : String := "ShoeCorner"
def TX7 : u_T := fun k => match k with
  | 0 => ("ShoeCorner", "texts", "[LShoeCorner$Text;", true)
  | 1 => ("ShoeCorner", "tape", "LShoeCorner$Tape;", true)
  | 2 => ("ShoeCorner", "now", "LShoeCorner$Street;", true)
  | 3 => ("ShoeCorner", "image", "LShoeCorner$Street;", true)
  | 4 => ("ShoeCorner", "thought", "LShoeCorner$Street;", true)
  | 5 => ("ShoeCorner", "sheets", "[LShoeCorner$Sheet;", true)
  | 6 => ("ShoeCorner", "slots", "[LShoeCorner$Slot;", true)
  | 7 => ("ShoeCorner", "waiting", "[I", true)
  | 8 => ("ShoeCorner", "waitingCount", "I", false)
  | _ => ("ShoeCorner", "imageKept", "Z", false)
def tyX7 : Nat → FieldType := fun k => match k with
  | 0 => .array (.object "ShoeCorner$Text")
  | 1 => .object "ShoeCorner$Tape"
  | 2 => .object "ShoeCorner$Street"
  | 3 => .object "ShoeCorner$Street"
  | 4 => .object "ShoeCorner$Street"
  | 5 => .array (.object "ShoeCorner$Sheet")
  | 6 => .array (.object "ShoeCorner$Slot")
  | 7 => .array .int
  | 8 => .int
  | _ => .boolean
abbrev wsX70 : List Cond := u_ws RX7 TX7 10
theorem nmX7 : ∀ a, a < 10 → ∀ b, b < 10 → a ≠ b → (TX7 a).2.1 ≠ (TX7 b).2.1 := by decide +kernel
theorem tyX7_ok : ∀ k, k < 10 → parseFieldDescriptor (TX7 k).2.2.1 = some (tyX7 k) := by decide +kernel
abbrev cX7_init : ByteArray := prog_1_method_1_code
def yX7_init : MethodName := ⟨RX7, "<init>", "()V"⟩
abbrev cX7_boy : ByteArray := prog_1_method_2_code
def yX7_boy : MethodName := ⟨RX7, "boy", "(IIII)I"⟩
abbrev cX7_told : ByteArray := prog_1_method_3_code
def yX7_told : MethodName := ⟨RX7, "told", "(II)I"⟩
abbrev cX7_shine : ByteArray := prog_1_method_4_code
def yX7_shine : MethodName := ⟨RX7, "shine", "(III)I"⟩
abbrev cX7_as : ByteArray := prog_1_method_5_code
def yX7_as : MethodName := ⟨RX7, "as", "(II)I"⟩
abbrev cX7_turns : ByteArray := prog_1_method_6_code
def yX7_turns : MethodName := ⟨RX7, "turns", "(II)I"⟩
abbrev cX7_set : ByteArray := prog_1_method_7_code
def yX7_set : MethodName := ⟨RX7, "set", "(III)I"⟩
abbrev cX7_deal : ByteArray := prog_1_method_8_code
def yX7_deal : MethodName := ⟨RX7, "deal", "(I)I"⟩
abbrev cX7_seed : ByteArray := prog_1_method_9_code
def yX7_seed : MethodName := ⟨RX7, "seed", "(I)I"⟩
abbrev cX7_rule : ByteArray := prog_1_method_10_code
def yX7_rule : MethodName := ⟨RX7, "rule", "(II)I"⟩
abbrev cX7_minutes : ByteArray := prog_1_method_11_code
def yX7_minutes : MethodName := ⟨RX7, "minutes", "(I)I"⟩
abbrev cX7_street : ByteArray := prog_1_method_12_code
def yX7_street : MethodName := ⟨RX7, "street", "(I)I"⟩
abbrev cX7_goesTo : ByteArray := prog_1_method_13_code
def yX7_goesTo : MethodName := ⟨RX7, "goesTo", "(II)I"⟩
abbrev cX7_behind : ByteArray := prog_1_method_14_code
def yX7_behind : MethodName := ⟨RX7, "behind", "(II)I"⟩
abbrev cX7_best : ByteArray := prog_1_method_15_code
def yX7_best : MethodName := ⟨RX7, "best", "(IIII)I"⟩
abbrev cX7_bestShare : ByteArray := prog_1_method_16_code
def yX7_bestShare : MethodName := ⟨RX7, "bestShare", "(II)I"⟩
abbrev cX7_sentAway : ByteArray := prog_1_method_17_code
def yX7_sentAway : MethodName := ⟨RX7, "sentAway", "(II)I"⟩
abbrev cX7_dry : ByteArray := prog_1_method_18_code
def yX7_dry : MethodName := ⟨RX7, "dry", "(I)I"⟩
abbrev cX7_shone : ByteArray := prog_1_method_19_code
def yX7_shone : MethodName := ⟨RX7, "shone", "(II)I"⟩
abbrev cX7_fee : ByteArray := prog_1_method_20_code
def yX7_fee : MethodName := ⟨RX7, "fee", "()I"⟩
abbrev cX7_fine : ByteArray := prog_1_method_21_code
def yX7_fine : MethodName := ⟨RX7, "fine", "(I)I"⟩
abbrev cX7_feed : ByteArray := prog_1_method_22_code
def yX7_feed : MethodName := ⟨RX7, "feed", "(III)I"⟩
abbrev cX7_trim : ByteArray := prog_1_method_23_code
def yX7_trim : MethodName := ⟨RX7, "trim", "(I)I"⟩
abbrev cX7_text : ByteArray := prog_1_method_24_code
def yX7_text : MethodName := ⟨RX7, "text", "()I"⟩
abbrev cX7_textTold : ByteArray := prog_1_method_25_code
def yX7_textTold : MethodName := ⟨RX7, "textTold", "(II)I"⟩
abbrev cX7_why : ByteArray := prog_1_method_26_code
def yX7_why : MethodName := ⟨RX7, "why", "(I)I"⟩
abbrev cX7_sheet : ByteArray := prog_1_method_27_code
def yX7_sheet : MethodName := ⟨RX7, "sheet", "(III)I"⟩
abbrev cX7_mark : ByteArray := prog_1_method_28_code
def yX7_mark : MethodName := ⟨RX7, "mark", "(III)I"⟩
abbrev cX7_pour : ByteArray := prog_1_method_29_code
def yX7_pour : MethodName := ⟨RX7, "pour", "(I)I"⟩
abbrev cX7_reads : ByteArray := prog_1_method_30_code
def yX7_reads : MethodName := ⟨RX7, "reads", "(I)I"⟩
abbrev cX7_copy : ByteArray := prog_1_method_31_code
def yX7_copy : MethodName := ⟨RX7, "copy", "(IIIII)I"⟩
abbrev cX7_lay : ByteArray := prog_1_method_32_code
def yX7_lay : MethodName := ⟨RX7, "lay", "(III)I"⟩
abbrev cX7_ask : ByteArray := prog_1_method_33_code
def yX7_ask : MethodName := ⟨RX7, "ask", "(II)I"⟩
abbrev cX7_item : ByteArray := prog_1_method_34_code
def yX7_item : MethodName := ⟨RX7, "item", "(II)I"⟩
abbrev cX7_rest : ByteArray := prog_1_method_35_code
def yX7_rest : MethodName := ⟨RX7, "rest", "(II)I"⟩
abbrev cX7_tell : ByteArray := prog_1_method_36_code
def yX7_tell : MethodName := ⟨RX7, "tell", "(I)I"⟩
abbrev cX7_check : ByteArray := prog_1_method_37_code
def yX7_check : MethodName := ⟨RX7, "check", "(I)I"⟩
abbrev cX7_keep : ByteArray := prog_1_method_38_code
def yX7_keep : MethodName := ⟨RX7, "keep", "()I"⟩
abbrev cX7_back : ByteArray := prog_1_method_39_code
def yX7_back : MethodName := ⟨RX7, "back", "()I"⟩
abbrev cX7_count : ByteArray := prog_1_method_40_code
def yX7_count : MethodName := ⟨RX7, "count", "(I)I"⟩
abbrev cX7_isBoy : ByteArray := prog_1_method_41_code
def yX7_isBoy : MethodName := ⟨RX7, "isBoy", "(I)Z"⟩
abbrev cX7_isKind : ByteArray := prog_1_method_42_code
def yX7_isKind : MethodName := ⟨RX7, "isKind", "(I)Z"⟩
abbrev cX7_isSheet : ByteArray := prog_1_method_43_code
def yX7_isSheet : MethodName := ⟨RX7, "isSheet", "(I)Z"⟩
abbrev cX7_isSlot : ByteArray := prog_1_method_44_code
def yX7_isSlot : MethodName := ⟨RX7, "isSlot", "(I)Z"⟩
abbrev cX7_mayBeThought : ByteArray := prog_1_method_45_code
def yX7_mayBeThought : MethodName := ⟨RX7, "mayBeThought", "(I)Z"⟩
abbrev cX7_differences : ByteArray := prog_1_method_46_code
def yX7_differences : MethodName := ⟨RX7, "differences", "(LShoeCorner$Boy;LShoeCorner$Sheet;)I"⟩
abbrev cX7_waits : ByteArray := prog_1_method_47_code
def yX7_waits : MethodName := ⟨RX7, "waits", "(III)Z"⟩
def RX8 : String := "ShoeCornerModel"
def TX8 : u_T := fun k => match k with
  | 0 => ("ShoeCornerModel", "now", "[I", true)
  | 1 => ("ShoeCornerModel", "image", "[I", true)
  | 2 => ("ShoeCornerModel", "aside", "[I", true)
  | 3 => ("ShoeCornerModel", "hasImage", "Z", false)
  | 4 => ("ShoeCornerModel", "idle", "I", false)
  | 5 => ("ShoeCornerModel", "before", "[I", true)
  | 6 => ("ShoeCornerModel", "tape", "[I", true)
  | 7 => ("ShoeCornerModel", "taped", "I", false)
  | 8 => ("ShoeCornerModel", "next", "I", false)
  | 9 => ("ShoeCornerModel", "from", "I", false)
  | 10 => ("ShoeCornerModel", "token", "I", false)
  | 11 => ("ShoeCornerModel", "value", "I", false)
  | 12 => ("ShoeCornerModel", "ended", "I", false)
  | 13 => ("ShoeCornerModel", "key", "I", false)
  | 14 => ("ShoeCornerModel", "keys", "[C", true)
  | 15 => ("ShoeCornerModel", "keyAt", "[I", true)
  | 16 => ("ShoeCornerModel", "code", "[I", true)
  | 17 => ("ShoeCornerModel", "codes", "I", false)
  | 18 => ("ShoeCornerModel", "atoms", "I", false)
  | 19 => ("ShoeCornerModel", "waits", "[I", true)
  | 20 => ("ShoeCornerModel", "held", "I", false)
  | 21 => ("ShoeCornerModel", "tested", "[Z", true)
  | 22 => ("ShoeCornerModel", "stack", "[I", true)
  | 23 => ("ShoeCornerModel", "facts", "[I", true)
  | 24 => ("ShoeCornerModel", "sorts", "[I", true)
  | 25 => ("ShoeCornerModel", "sizes", "[I", true)
  | 26 => ("ShoeCornerModel", "cells", "[I", true)
  | 27 => ("ShoeCornerModel", "holds", "[I", true)
  | 28 => ("ShoeCornerModel", "holdsA", "[I", true)
  | 29 => ("ShoeCornerModel", "holdsB", "[I", true)
  | 30 => ("ShoeCornerModel", "heldCells", "[I", true)
  | 31 => ("ShoeCornerModel", "moved", "[I", true)
  | 32 => ("ShoeCornerModel", "tells", "[I", true)
  | _ => ("ShoeCornerModel", "waiting", "I", false)
def tyX8 : Nat → FieldType := fun k => match k with
  | 0 => .array .int
  | 1 => .array .int
  | 2 => .array .int
  | 3 => .boolean
  | 4 => .int
  | 5 => .array .int
  | 6 => .array .int
  | 7 => .int
  | 8 => .int
  | 9 => .int
  | 10 => .int
  | 11 => .int
  | 12 => .int
  | 13 => .int
  | 14 => .array .char
  | 15 => .array .int
  | 16 => .array .int
  | 17 => .int
  | 18 => .int
  | 19 => .array .int
  | 20 => .int
  | 21 => .array .boolean
  | 22 => .array .int
  | 23 => .array .int
  | 24 => .array .int
  | 25 => .array .int
  | 26 => .array .int
  | 27 => .array .int
  | 28 => .array .int
  | 29 => .array .int
  | 30 => .array .int
  | 31 => .array .int
  | 32 => .array .int
  | _ => .int
abbrev wsX80 : List Cond := u_ws RX8 TX8 34
theorem nmX8 : ∀ a, a < 34 → ∀ b, b < 34 → a ≠ b → (TX8 a).2.1 ≠ (TX8 b).2.1 := by decide +kernel
theorem tyX8_ok : ∀ k, k < 34 → parseFieldDescriptor (TX8 k).2.2.1 = some (tyX8 k) := by decide +kernel
abbrev cX8_init : ByteArray := prog_10_method_1_code
def yX8_init : MethodName := ⟨RX8, "<init>", "()V"⟩
abbrev cX8_in : ByteArray := prog_10_method_2_code
def yX8_in : MethodName := ⟨RX8, "in", "(III)Z"⟩
abbrev cX8_within : ByteArray := prog_10_method_3_code
def yX8_within : MethodName := ⟨RX8, "within", "(III)I"⟩
abbrev cX8_copyAll : ByteArray := prog_10_method_4_code
def yX8_copyAll : MethodName := ⟨RX8, "copyAll", "([I[I)V"⟩
abbrev cX8_told0 : ByteArray := prog_10_method_5_code
def yX8_told0 : MethodName := ⟨RX8, "told0", "(I)I"⟩
abbrev cX8_isBoy : ByteArray := prog_10_method_6_code
def yX8_isBoy : MethodName := ⟨RX8, "isBoy", "(I)Z"⟩
abbrev cX8_of : ByteArray := prog_10_method_7_code
def yX8_of : MethodName := ⟨RX8, "of", "(II)I"⟩
abbrev cX8_put : ByteArray := prog_10_method_8_code
def yX8_put : MethodName := ⟨RX8, "put", "(III)V"⟩
abbrev cX8_becomes : ByteArray := prog_10_method_9_code
def yX8_becomes : MethodName := ⟨RX8, "becomes", "(II)I"⟩
abbrev cX8_comes : ByteArray := prog_10_method_10_code
def yX8_comes : MethodName := ⟨RX8, "comes", "(IIII)I"⟩
abbrev cX8_isOf : ByteArray := prog_10_method_11_code
def yX8_isOf : MethodName := ⟨RX8, "isOf", "(II)Z"⟩
abbrev cX8_boy : ByteArray := prog_10_method_12_code
def yX8_boy : MethodName := ⟨RX8, "boy", "(IIII)I"⟩
abbrev cX8_plainOf : ByteArray := prog_10_method_13_code
def yX8_plainOf : MethodName := ⟨RX8, "plainOf", "(III)I"⟩
abbrev cX8_shineOf : ByteArray := prog_10_method_14_code
def yX8_shineOf : MethodName := ⟨RX8, "shineOf", "(III)I"⟩
abbrev cX8_takesOf : ByteArray := prog_10_method_15_code
def yX8_takesOf : MethodName := ⟨RX8, "takesOf", "(I)I"⟩
abbrev cX8_asksOf : ByteArray := prog_10_method_16_code
def yX8_asksOf : MethodName := ⟨RX8, "asksOf", "(I)I"⟩
abbrev cX8_worthOf : ByteArray := prog_10_method_17_code
def yX8_worthOf : MethodName := ⟨RX8, "worthOf", "(I)I"⟩
abbrev cX8_told : ByteArray := prog_10_method_18_code
def yX8_told : MethodName := ⟨RX8, "told", "(II)I"⟩
abbrev cX8_shine : ByteArray := prog_10_method_19_code
def yX8_shine : MethodName := ⟨RX8, "shine", "(III)I"⟩
abbrev cX8_isUnder : ByteArray := prog_10_method_20_code
def yX8_isUnder : MethodName := ⟨RX8, "isUnder", "(II)Z"⟩
abbrev cX8_as : ByteArray := prog_10_method_21_code
def yX8_as : MethodName := ⟨RX8, "as", "(II)I"⟩
abbrev cX8_turns : ByteArray := prog_10_method_22_code
def yX8_turns : MethodName := ⟨RX8, "turns", "(II)I"⟩
abbrev cX8_set : ByteArray := prog_10_method_23_code
def yX8_set : MethodName := ⟨RX8, "set", "(III)I"⟩
abbrev cX8_draw : ByteArray := prog_10_method_24_code
def yX8_draw : MethodName := ⟨RX8, "draw", "()I"⟩
abbrev cX8_deal : ByteArray := prog_10_method_25_code
def yX8_deal : MethodName := ⟨RX8, "deal", "(I)I"⟩
abbrev cX8_seed : ByteArray := prog_10_method_26_code
def yX8_seed : MethodName := ⟨RX8, "seed", "(I)I"⟩
abbrev cX8_rule : ByteArray := prog_10_method_27_code
def yX8_rule : MethodName := ⟨RX8, "rule", "(II)I"⟩
abbrev cX8_apart : ByteArray := prog_10_method_28_code
def yX8_apart : MethodName := ⟨RX8, "apart", "(II)I"⟩
abbrev cX8_boyFor : ByteArray := prog_10_method_29_code
def yX8_boyFor : MethodName := ⟨RX8, "boyFor", "(II)I"⟩
abbrev cX8_serves : ByteArray := prog_10_method_30_code
def yX8_serves : MethodName := ⟨RX8, "serves", "(II)V"⟩
abbrev cX8_man : ByteArray := prog_10_method_31_code
def yX8_man : MethodName := ⟨RX8, "man", "()V"⟩
abbrev cX8_minute : ByteArray := prog_10_method_32_code
def yX8_minute : MethodName := ⟨RX8, "minute", "()V"⟩
abbrev cX8_goesOn : ByteArray := prog_10_method_33_code
def yX8_goesOn : MethodName := ⟨RX8, "goesOn", "(I)V"⟩
abbrev cX8_sumOf : ByteArray := prog_10_method_34_code
def yX8_sumOf : MethodName := ⟨RX8, "sumOf", "(I)I"⟩
abbrev cX8_minutes : ByteArray := prog_10_method_35_code
def yX8_minutes : MethodName := ⟨RX8, "minutes", "(I)I"⟩
abbrev cX8_busy : ByteArray := prog_10_method_36_code
def yX8_busy : MethodName := ⟨RX8, "busy", "()I"⟩
abbrev cX8_street : ByteArray := prog_10_method_37_code
def yX8_street : MethodName := ⟨RX8, "street", "(I)I"⟩
abbrev cX8_goesTo : ByteArray := prog_10_method_38_code
def yX8_goesTo : MethodName := ⟨RX8, "goesTo", "(II)I"⟩
abbrev cX8_thinks : ByteArray := prog_10_method_39_code
def yX8_thinks : MethodName := ⟨RX8, "thinks", "()V"⟩
abbrev cX8_putsBack : ByteArray := prog_10_method_40_code
def yX8_putsBack : MethodName := ⟨RX8, "putsBack", "()V"⟩
abbrev cX8_behind : ByteArray := prog_10_method_41_code
def yX8_behind : MethodName := ⟨RX8, "behind", "(II)I"⟩
abbrev cX8_best : ByteArray := prog_10_method_42_code
def yX8_best : MethodName := ⟨RX8, "best", "(IIII)I"⟩
abbrev cX8_bestShare : ByteArray := prog_10_method_43_code
def yX8_bestShare : MethodName := ⟨RX8, "bestShare", "(II)I"⟩
abbrev cX8_sentAway : ByteArray := prog_10_method_44_code
def yX8_sentAway : MethodName := ⟨RX8, "sentAway", "(II)I"⟩
abbrev cX8_dry : ByteArray := prog_10_method_45_code
def yX8_dry : MethodName := ⟨RX8, "dry", "(I)I"⟩
abbrev cX8_offBy : ByteArray := prog_10_method_46_code
def yX8_offBy : MethodName := ⟨RX8, "offBy", "(II)J"⟩
abbrev cX8_shone : ByteArray := prog_10_method_47_code
def yX8_shone : MethodName := ⟨RX8, "shone", "(II)I"⟩
abbrev cX8_fee : ByteArray := prog_10_method_48_code
def yX8_fee : MethodName := ⟨RX8, "fee", "()I"⟩
abbrev cX8_fine : ByteArray := prog_10_method_49_code
def yX8_fine : MethodName := ⟨RX8, "fine", "(I)I"⟩
abbrev cX8_feed : ByteArray := prog_10_method_50_code
def yX8_feed : MethodName := ⟨RX8, "feed", "(III)I"⟩
abbrev cX8_trim : ByteArray := prog_10_method_51_code
def yX8_trim : MethodName := ⟨RX8, "trim", "(I)I"⟩
abbrev cX8_isLetter : ByteArray := prog_10_method_52_code
def yX8_isLetter : MethodName := ⟨RX8, "isLetter", "(I)Z"⟩
abbrev cX8_isFigure : ByteArray := prog_10_method_53_code
def yX8_isFigure : MethodName := ⟨RX8, "isFigure", "(I)Z"⟩
abbrev cX8_go : ByteArray := prog_10_method_54_code
def yX8_go : MethodName := ⟨RX8, "go", "()V"⟩
abbrev cX8_takesKey : ByteArray := prog_10_method_55_code
def yX8_takesKey : MethodName := ⟨RX8, "takesKey", "()Z"⟩
abbrev cX8_nameOf : ByteArray := prog_10_method_56_code
def yX8_nameOf : MethodName := ⟨RX8, "nameOf", "(I)I"⟩
abbrev cX8_rank : ByteArray := prog_10_method_57_code
def yX8_rank : MethodName := ⟨RX8, "rank", "(I)I"⟩
abbrev cX8_settle : ByteArray := prog_10_method_58_code
def yX8_settle : MethodName := ⟨RX8, "settle", "(I)V"⟩
abbrev cX8_signHere : ByteArray := prog_10_method_59_code
def yX8_signHere : MethodName := ⟨RX8, "signHere", "()I"⟩
abbrev cX8_takesPart : ByteArray := prog_10_method_60_code
def yX8_takesPart : MethodName := ⟨RX8, "takesPart", "()Z"⟩
abbrev cX8_takesE : ByteArray := prog_10_method_61_code
def yX8_takesE : MethodName := ⟨RX8, "takesE", "()Z"⟩
abbrev cX8_notsOpen : ByteArray := prog_10_method_62_code
def yX8_notsOpen : MethodName := ⟨RX8, "notsOpen", "()I"⟩
abbrev cX8_text : ByteArray := prog_10_method_63_code
def yX8_text : MethodName := ⟨RX8, "text", "()I"⟩
abbrev cX8_textTold : ByteArray := prog_10_method_64_code
def yX8_textTold : MethodName := ⟨RX8, "textTold", "(II)I"⟩
abbrev cX8_counts : ByteArray := prog_10_method_65_code
def yX8_counts : MethodName := ⟨RX8, "counts", "(I)I"⟩
abbrev cX8_why : ByteArray := prog_10_method_66_code
def yX8_why : MethodName := ⟨RX8, "why", "(I)I"⟩
abbrev cX8_two : ByteArray := prog_10_method_67_code
def yX8_two : MethodName := ⟨RX8, "two", "(III)I"⟩
abbrev cX8_worksOut : ByteArray := prog_10_method_68_code
def yX8_worksOut : MethodName := ⟨RX8, "worksOut", "(I)I"⟩
abbrev cX8_isSheet : ByteArray := prog_10_method_69_code
def yX8_isSheet : MethodName := ⟨RX8, "isSheet", "(I)Z"⟩
abbrev cX8_isSlot : ByteArray := prog_10_method_70_code
def yX8_isSlot : MethodName := ⟨RX8, "isSlot", "(I)Z"⟩
abbrev cX8_sheet : ByteArray := prog_10_method_71_code
def yX8_sheet : MethodName := ⟨RX8, "sheet", "(III)I"⟩
abbrev cX8_mark : ByteArray := prog_10_method_72_code
def yX8_mark : MethodName := ⟨RX8, "mark", "(III)I"⟩
abbrev cX8_pour : ByteArray := prog_10_method_73_code
def yX8_pour : MethodName := ⟨RX8, "pour", "(I)I"⟩
abbrev cX8_reads : ByteArray := prog_10_method_74_code
def yX8_reads : MethodName := ⟨RX8, "reads", "(I)I"⟩
abbrev cX8_copy : ByteArray := prog_10_method_75_code
def yX8_copy : MethodName := ⟨RX8, "copy", "(IIIII)I"⟩
abbrev cX8_lay : ByteArray := prog_10_method_76_code
def yX8_lay : MethodName := ⟨RX8, "lay", "(III)I"⟩
abbrev cX8_ask : ByteArray := prog_10_method_77_code
def yX8_ask : MethodName := ⟨RX8, "ask", "(II)I"⟩
abbrev cX8_item : ByteArray := prog_10_method_78_code
def yX8_item : MethodName := ⟨RX8, "item", "(II)I"⟩
abbrev cX8_rest : ByteArray := prog_10_method_79_code
def yX8_rest : MethodName := ⟨RX8, "rest", "(II)I"⟩
abbrev cX8_tell : ByteArray := prog_10_method_80_code
def yX8_tell : MethodName := ⟨RX8, "tell", "(I)I"⟩
abbrev cX8_check : ByteArray := prog_10_method_81_code
def yX8_check : MethodName := ⟨RX8, "check", "(I)I"⟩
abbrev cX8_keep : ByteArray := prog_10_method_82_code
def yX8_keep : MethodName := ⟨RX8, "keep", "()I"⟩
abbrev cX8_back : ByteArray := prog_10_method_83_code
def yX8_back : MethodName := ⟨RX8, "back", "()I"⟩
abbrev cX8_count : ByteArray := prog_10_method_84_code
def yX8_count : MethodName := ⟨RX8, "count", "(I)I"⟩
def RJ11 : String := "java/lang/Character"
def TJ11 : u_T := fun k => match k with
  | _ => ("", "", "", false)
def tyJ11 : Nat → FieldType := fun k => match k with
  | _ => .int
abbrev wsJ110 : List Cond := u_ws RJ11 TJ11 0
theorem nmJ11 : ∀ a, a < 0 → ∀ b, b < 0 → a ≠ b → (TJ11 a).2.1 ≠ (TJ11 b).2.1 := by decide +kernel
theorem tyJ11_ok : ∀ k, k < 0 → parseFieldDescriptor (TJ11 k).2.2.1 = some (tyJ11 k) := by decide +kernel
abbrev cJ11_isValidCodePoint_9a6ad : ByteArray := prog_11_method_11_code
def yJ11_isValidCodePoint_9a6ad : MethodName := ⟨RJ11, "isValidCodePoint", "(I)Z"⟩
abbrev cJ11_highSurrogate_5068e : ByteArray := prog_11_method_28_code
def yJ11_highSurrogate_5068e : MethodName := ⟨RJ11, "highSurrogate", "(I)C"⟩
abbrev cJ11_lowSurrogate_5068e : ByteArray := prog_11_method_29_code
def yJ11_lowSurrogate_5068e : MethodName := ⟨RJ11, "lowSurrogate", "(I)C"⟩
def RJ9 : String := "java/lang/Math"
def TJ9 : u_T := fun k => match k with
  | _ => ("", "", "", false)
def tyJ9 : Nat → FieldType := fun k => match k with
  | _ => .int
abbrev wsJ90 : List Cond := u_ws RJ9 TJ9 0
theorem nmJ9 : ∀ a, a < 0 → ∀ b, b < 0 → a ≠ b → (TJ9 a).2.1 ≠ (TJ9 b).2.1 := by decide +kernel
theorem tyJ9_ok : ∀ k, k < 0 → parseFieldDescriptor (TJ9 k).2.2.1 = some (tyJ9 k) := by decide +kernel
abbrev cJ9_abs_0f7a4 : ByteArray := prog_12_method_59_code
def yJ9_abs_0f7a4 : MethodName := ⟨RJ9, "abs", "(I)I"⟩
abbrev cJ9_max_7cf53 : ByteArray := prog_12_method_65_code
def yJ9_max_7cf53 : MethodName := ⟨RJ9, "max", "(II)I"⟩
abbrev cJ9_min_7cf53 : ByteArray := prog_12_method_69_code
def yJ9_min_7cf53 : MethodName := ⟨RJ9, "min", "(II)I"⟩
def RJ0 : String := "java/lang/String"
def TJ0 : u_T := fun k => match k with
  | _ => ("", "", "", false)
def tyJ0 : Nat → FieldType := fun k => match k with
  | _ => .int
abbrev wsJ00 : List Cond := u_ws RJ0 TJ0 0
theorem nmJ0 : ∀ a, a < 0 → ∀ b, b < 0 → a ≠ b → (TJ0 a).2.1 ≠ (TJ0 b).2.1 := by decide +kernel
theorem tyJ0_ok : ∀ k, k < 0 → parseFieldDescriptor (TJ0 k).2.2.1 = some (tyJ0 k) := by decide +kernel
abbrev cJ0_length_8abf5 : ByteArray := prog_13_method_54_code
def yJ0_length_8abf5 : MethodName := ⟨RJ0, "length", "()I"⟩
abbrev cJ0_charAt_5068e : ByteArray := prog_13_method_56_code
def yJ0_charAt_5068e : MethodName := ⟨RJ0, "charAt", "(I)C"⟩
abbrev cJ0_indexOf_0f7a4 : ByteArray := prog_13_method_79_code
def yJ0_indexOf_0f7a4 : MethodName := ⟨RJ0, "indexOf", "(I)I"⟩
abbrev cJ0_indexOf_7cf53 : ByteArray := prog_13_method_80_code
def yJ0_indexOf_7cf53 : MethodName := ⟨RJ0, "indexOf", "(II)I"⟩
abbrev cJ0_coder_7d493 : ByteArray := prog_13_method_152_code
def yJ0_coder_7d493 : MethodName := ⟨RJ0, "coder", "()B"⟩
abbrev cJ0_isLatin1_aae02 : ByteArray := prog_13_method_154_code
def yJ0_isLatin1_aae02 : MethodName := ⟨RJ0, "isLatin1", "()Z"⟩
abbrev cJ0_checkIndex_df160 : ByteArray := prog_13_method_155_code
def yJ0_checkIndex_df160 : MethodName := ⟨RJ0, "checkIndex", "(II)V"⟩
abbrev cJ0_checkBoundsBeginEnd_23922 : ByteArray := prog_13_method_158_code
def yJ0_checkBoundsBeginEnd_23922 : MethodName := ⟨RJ0, "checkBoundsBeginEnd", "(III)V"⟩
def RJ1 : String := "java/lang/StringLatin1"
def TJ1 : u_T := fun k => match k with
  | _ => ("", "", "", false)
def tyJ1 : Nat → FieldType := fun k => match k with
  | _ => .int
abbrev wsJ10 : List Cond := u_ws RJ1 TJ1 0
theorem nmJ1 : ∀ a, a < 0 → ∀ b, b < 0 → a ≠ b → (TJ1 a).2.1 ≠ (TJ1 b).2.1 := by decide +kernel
theorem tyJ1_ok : ∀ k, k < 0 → parseFieldDescriptor (TJ1 k).2.2.1 = some (tyJ1 k) := by decide +kernel
abbrev cJ1_charAt_3b067 : ByteArray := prog_14_method_2_code
def yJ1_charAt_3b067 : MethodName := ⟨RJ1, "charAt", "([BI)C"⟩
abbrev cJ1_canEncode_9a6ad : ByteArray := prog_14_method_4_code
def yJ1_canEncode_9a6ad : MethodName := ⟨RJ1, "canEncode", "(I)Z"⟩
abbrev cJ1_indexOf_4cfef : ByteArray := prog_14_method_22_code
def yJ1_indexOf_4cfef : MethodName := ⟨RJ1, "indexOf", "([BIII)I"⟩
abbrev cJ1_indexOfChar_4cfef : ByteArray := prog_14_method_23_code
def yJ1_indexOfChar_4cfef : MethodName := ⟨RJ1, "indexOfChar", "([BIII)I"⟩
def RJ2 : String := "java/lang/StringUTF16"
def TJ2 : u_T := fun k => match k with
  | _ => ("", "", "", false)
def tyJ2 : Nat → FieldType := fun k => match k with
  | _ => .int
abbrev wsJ20 : List Cond := u_ws RJ2 TJ2 0
theorem nmJ2 : ∀ a, a < 0 → ∀ b, b < 0 → a ≠ b → (TJ2 a).2.1 ≠ (TJ2 b).2.1 := by decide +kernel
theorem tyJ2_ok : ∀ k, k < 0 → parseFieldDescriptor (TJ2 k).2.2.1 = some (tyJ2 k) := by decide +kernel
abbrev cJ2_getChar_3b067 : ByteArray := prog_15_method_5_code
def yJ2_getChar_3b067 : MethodName := ⟨RJ2, "getChar", "([BI)C"⟩
abbrev cJ2_length_9d52b : ByteArray := prog_15_method_6_code
def yJ2_length_9d52b : MethodName := ⟨RJ2, "length", "([B)I"⟩
abbrev cJ2_indexOf_4cfef : ByteArray := prog_15_method_40_code
def yJ2_indexOf_4cfef : MethodName := ⟨RJ2, "indexOf", "([BIII)I"⟩
abbrev cJ2_indexOfChar_4cfef : ByteArray := prog_15_method_47_code
def yJ2_indexOfChar_4cfef : MethodName := ⟨RJ2, "indexOfChar", "([BIII)I"⟩
abbrev cJ2_indexOfCharUnsafe_4cfef : ByteArray := prog_15_method_48_code
def yJ2_indexOfCharUnsafe_4cfef : MethodName := ⟨RJ2, "indexOfCharUnsafe", "([BIII)I"⟩
abbrev cJ2_indexOfSupplementary_4cfef : ByteArray := prog_15_method_49_code
def yJ2_indexOfSupplementary_4cfef : MethodName := ⟨RJ2, "indexOfSupplementary", "([BIII)I"⟩
abbrev cJ2_charAt_3b067 : ByteArray := prog_15_method_83_code
def yJ2_charAt_3b067 : MethodName := ⟨RJ2, "charAt", "([BI)C"⟩
abbrev cJ2_checkIndex_2214a : ByteArray := prog_15_method_91_code
def yJ2_checkIndex_2214a : MethodName := ⟨RJ2, "checkIndex", "(I[B)V"⟩
abbrev cJ2_checkBoundsBeginEnd_d044e : ByteArray := prog_15_method_93_code
def yJ2_checkBoundsBeginEnd_d044e : MethodName := ⟨RJ2, "checkBoundsBeginEnd", "(II[B)V"⟩
def RJ10 : String := "java/lang/System"
def TJ10 : u_T := fun k => match k with
  | _ => ("", "", "", false)
def tyJ10 : Nat → FieldType := fun k => match k with
  | _ => .int
abbrev wsJ100 : List Cond := u_ws RJ10 TJ10 0
theorem nmJ10 : ∀ a, a < 0 → ∀ b, b < 0 → a ≠ b → (TJ10 a).2.1 ≠ (TJ10 b).2.1 := by decide +kernel
theorem tyJ10_ok : ∀ k, k < 0 → parseFieldDescriptor (TJ10 k).2.2.1 = some (tyJ10 k) := by decide +kernel
def RJ3 : String := "jdk/internal/util/Preconditions"
def TJ3 : u_T := fun k => match k with
  | _ => ("", "", "", false)
def tyJ3 : Nat → FieldType := fun k => match k with
  | _ => .int
abbrev wsJ30 : List Cond := u_ws RJ3 TJ3 0
theorem nmJ3 : ∀ a, a < 0 → ∀ b, b < 0 → a ≠ b → (TJ3 a).2.1 ≠ (TJ3 b).2.1 := by decide +kernel
theorem tyJ3_ok : ∀ k, k < 0 → parseFieldDescriptor (TJ3 k).2.2.1 = some (tyJ3 k) := by decide +kernel
abbrev cJ3_checkIndex_8e157 : ByteArray := prog_17_method_11_code
def yJ3_checkIndex_8e157 : MethodName := ⟨RJ3, "checkIndex", "(IILjava/util/function/BiFunction;)I"⟩
abbrev cJ3_checkFromToIndex_8c36e : ByteArray := prog_17_method_12_code
def yJ3_checkFromToIndex_8c36e : MethodName := ⟨RJ3, "checkFromToIndex", "(IIILjava/util/function/BiFunction;)I"⟩
def RL : String := "ShoeCornerLaw"
abbrev cL_law : ByteArray := code
def yL_law : MethodName := ⟨RL, "law", "([I)Z"⟩
abbrev vwCl : List vw_C := [(RX0, TX0, 7), (RX2, TX2, 3), (RX3, TX3, 4), (RX4, TX4, 12), (RX5, TX5, 6), (RX6, TX6, 6), (RX7, TX7, 10), (RX8, TX8, 34)]
theorem tw {w : Cond} (i : Nat) (h : tables_1[i]? = some w) : w ∈ lw_tbl := List.mem_append_right _ (List.mem_of_getElem? h)
set_option maxRecDepth 20000 in
theorem inX0 : ∀ w ∈ wsX00, w ∈ lw_tbl := fun w h => by
  have e : wsX00 = ([86, 88, 90, 92, 94, 96, 98] : List Nat).filterMap (fun i => tables_1[i]?) := by decide +kernel
  rw [e] at h
  obtain ⟨i, -, hi⟩ := List.mem_filterMap.mp h
  exact tw i hi
set_option maxRecDepth 20000 in
theorem inX2 : ∀ w ∈ wsX20, w ∈ lw_tbl := fun w h => by
  have e : wsX20 = ([193, 195, 197] : List Nat).filterMap (fun i => tables_1[i]?) := by decide +kernel
  rw [e] at h
  obtain ⟨i, -, hi⟩ := List.mem_filterMap.mp h
  exact tw i hi
set_option maxRecDepth 20000 in
theorem inX3 : ∀ w ∈ wsX30, w ∈ lw_tbl := fun w h => by
  have e : wsX30 = ([217, 219, 221, 223] : List Nat).filterMap (fun i => tables_1[i]?) := by decide +kernel
  rw [e] at h
  obtain ⟨i, -, hi⟩ := List.mem_filterMap.mp h
  exact tw i hi
set_option maxRecDepth 20000 in
theorem inX4 : ∀ w ∈ wsX40, w ∈ lw_tbl := fun w h => by
  have e : wsX40 = ([124, 126, 128, 130, 132, 134, 136, 138, 140, 142, 144, 146] : List Nat).filterMap (fun i => tables_1[i]?) := by decide +kernel
  rw [e] at h
  obtain ⟨i, -, hi⟩ := List.mem_filterMap.mp h
  exact tw i hi
set_option maxRecDepth 20000 in
theorem inX5 : ∀ w ∈ wsX50, w ∈ lw_tbl := fun w h => by
  have e : wsX50 = ([40, 42, 44, 46, 48, 50] : List Nat).filterMap (fun i => tables_1[i]?) := by decide +kernel
  rw [e] at h
  obtain ⟨i, -, hi⟩ := List.mem_filterMap.mp h
  exact tw i hi
set_option maxRecDepth 20000 in
theorem inX6 : ∀ w ∈ wsX60, w ∈ lw_tbl := fun w h => by
  have e : wsX60 = ([168, 170, 172, 174, 176, 178] : List Nat).filterMap (fun i => tables_1[i]?) := by decide +kernel
  rw [e] at h
  obtain ⟨i, -, hi⟩ := List.mem_filterMap.mp h
  exact tw i hi
set_option maxRecDepth 20000 in
theorem inX7 : ∀ w ∈ wsX70, w ∈ lw_tbl := fun w h => by
  have e : wsX70 = ([236, 238, 240, 242, 244, 246, 248, 250, 252, 254] : List Nat).filterMap (fun i => tables_1[i]?) := by decide +kernel
  rw [e] at h
  obtain ⟨i, -, hi⟩ := List.mem_filterMap.mp h
  exact tw i hi
set_option maxRecDepth 20000 in
theorem inX8 : ∀ w ∈ wsX80, w ∈ lw_tbl := fun w h => by
  have e : wsX80 = ([839, 841, 843, 845, 847, 849, 851, 853, 855, 857, 859, 861, 863, 865, 867, 869, 871, 873, 875, 877, 879, 881, 883, 885, 887, 889, 891, 893, 895, 897, 899, 901, 903, 905] : List Nat).filterMap (fun i => tables_1[i]?) := by decide +kernel
  rw [e] at h
  obtain ⟨i, -, hi⟩ := List.mem_filterMap.mp h
  exact tw i hi
