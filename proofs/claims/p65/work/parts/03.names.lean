def RX0 : String := "BeggarKings$1"
def TX0 : u_T := fun k => match k with
  | _ => ("", "", "", false)
def tyX0 : Nat → FieldType := fun k => match k with
  | _ => .int
abbrev wsX00 : List Cond := u_ws RX0 TX0 0
theorem nmX0 : ∀ a, a < 0 → ∀ b, b < 0 → a ≠ b → (TX0 a).2.1 ≠ (TX0 b).2.1 := by decide +kernel
theorem tyX0_ok : ∀ k, k < 0 → parseFieldDescriptor (TX0 k).2.2.1 = some (tyX0 k) := by decide +kernel
def RX1 : String := "BeggarKings$History"
def TX1 : u_T := fun k => match k with
  | 0 => ("BeggarKings$History", "ring", "[LBeggarKings$Position;", true)
  | 1 => ("BeggarKings$History", "next", "I", false)
  | _ => ("BeggarKings$History", "count", "I", false)
def tyX1 : Nat → FieldType := fun k => match k with
  | 0 => .array (.object "BeggarKings$Position")
  | 1 => .int
  | _ => .int
abbrev wsX10 : List Cond := u_ws RX1 TX1 3
theorem nmX1 : ∀ a, a < 3 → ∀ b, b < 3 → a ≠ b → (TX1 a).2.1 ≠ (TX1 b).2.1 := by decide +kernel
theorem tyX1_ok : ∀ k, k < 3 → parseFieldDescriptor (TX1 k).2.2.1 = some (tyX1 k) := by decide +kernel
abbrev cX1_init : ByteArray := prog_3_method_1_code
def yX1_init : MethodName := ⟨RX1, "<init>", "(LBeggarKings$Setting;)V"⟩
abbrev cX1_clear : ByteArray := prog_3_method_2_code
def yX1_clear : MethodName := ⟨RX1, "clear", "()V"⟩
abbrev cX1_push : ByteArray := prog_3_method_3_code
def yX1_push : MethodName := ⟨RX1, "push", "(LBeggarKings$Position;)V"⟩
def RX2 : String := "BeggarKings$Position"
def TX2 : u_T := fun k => match k with
  | 0 => ("BeggarKings$Position", "setting", "LBeggarKings$Setting;", true)
  | 1 => ("BeggarKings$Position", "now", "I", false)
  | 2 => ("BeggarKings$Position", "limit", "I", false)
  | 3 => ("BeggarKings$Position", "box", "I", false)
  | 4 => ("BeggarKings$Position", "ground", "[I", true)
  | 5 => ("BeggarKings$Position", "banks", "[I", true)
  | 6 => ("BeggarKings$Position", "purses", "[I", true)
  | 7 => ("BeggarKings$Position", "prides", "[I", true)
  | 8 => ("BeggarKings$Position", "worn", "[I", true)
  | 9 => ("BeggarKings$Position", "crossed", "[I", true)
  | 10 => ("BeggarKings$Position", "holders", "[I", true)
  | 11 => ("BeggarKings$Position", "layingBanks", "[I", true)
  | 12 => ("BeggarKings$Position", "counted", "[I", true)
  | 13 => ("BeggarKings$Position", "west", "LBeggarKings$Queue;", true)
  | _ => ("BeggarKings$Position", "east", "LBeggarKings$Queue;", true)
def tyX2 : Nat → FieldType := fun k => match k with
  | 0 => .object "BeggarKings$Setting"
  | 1 => .int
  | 2 => .int
  | 3 => .int
  | 4 => .array .int
  | 5 => .array .int
  | 6 => .array .int
  | 7 => .array .int
  | 8 => .array .int
  | 9 => .array .int
  | 10 => .array .int
  | 11 => .array .int
  | 12 => .array .int
  | 13 => .object "BeggarKings$Queue"
  | _ => .object "BeggarKings$Queue"
abbrev wsX20 : List Cond := u_ws RX2 TX2 15
theorem nmX2 : ∀ a, a < 15 → ∀ b, b < 15 → a ≠ b → (TX2 a).2.1 ≠ (TX2 b).2.1 := by decide +kernel
theorem tyX2_ok : ∀ k, k < 15 → parseFieldDescriptor (TX2 k).2.2.1 = some (tyX2 k) := by decide +kernel
abbrev cX2_init : ByteArray := prog_4_method_1_code
def yX2_init : MethodName := ⟨RX2, "<init>", "(LBeggarKings$Setting;)V"⟩
abbrev cX2_begin : ByteArray := prog_4_method_2_code
def yX2_begin : MethodName := ⟨RX2, "begin", "()V"⟩
abbrev cX2_copyFrom : ByteArray := prog_4_method_3_code
def yX2_copyFrom : MethodName := ⟨RX2, "copyFrom", "(LBeggarKings$Position;)V"⟩
abbrev cX2_peopleOn : ByteArray := prog_4_method_4_code
def yX2_peopleOn : MethodName := ⟨RX2, "peopleOn", "(I)I"⟩
abbrev cX2_wearerOf : ByteArray := prog_4_method_5_code
def yX2_wearerOf : MethodName := ⟨RX2, "wearerOf", "(I)I"⟩
abbrev cX2_coinsInAll : ByteArray := prog_4_method_7_code
def yX2_coinsInAll : MethodName := ⟨RX2, "coinsInAll", "()I"⟩
abbrev cX2_royalCoinBank : ByteArray := prog_4_method_8_code
def yX2_royalCoinBank : MethodName := ⟨RX2, "royalCoinBank", "(I)I"⟩
abbrev cX2_royalCoinsOf : ByteArray := prog_4_method_9_code
def yX2_royalCoinsOf : MethodName := ⟨RX2, "royalCoinsOf", "(I)I"⟩
abbrev cX2_countedInAll : ByteArray := prog_4_method_10_code
def yX2_countedInAll : MethodName := ⟨RX2, "countedInAll", "()I"⟩
abbrev cX2_keeperAngleIn : ByteArray := prog_4_method_13_code
def yX2_keeperAngleIn : MethodName := ⟨RX2, "keeperAngleIn", "(II)I"⟩
abbrev cX2_angleOf : ByteArray := prog_4_method_14_code
def yX2_angleOf : MethodName := ⟨RX2, "angleOf", "(II)I"⟩
abbrev cX2_queueOn : ByteArray := prog_4_method_22_code
def yX2_queueOn : MethodName := ⟨RX2, "queueOn", "(I)LBeggarKings$Queue;"⟩
abbrev cX2_offerOf : ByteArray := prog_4_method_23_code
def yX2_offerOf : MethodName := ⟨RX2, "offerOf", "(I)I"⟩
abbrev cX2_departureBank : ByteArray := prog_4_method_24_code
def yX2_departureBank : MethodName := ⟨RX2, "departureBank", "()I"⟩
abbrev cX2_passSeveral : ByteArray := prog_4_method_25_code
def yX2_passSeveral : MethodName := ⟨RX2, "passSeveral", "(I)I"⟩
abbrev cX2_passTurn : ByteArray := prog_4_method_26_code
def yX2_passTurn : MethodName := ⟨RX2, "passTurn", "()I"⟩
abbrev cX2_letFirstTry : ByteArray := prog_4_method_27_code
def yX2_letFirstTry : MethodName := ⟨RX2, "letFirstTry", "(LBeggarKings$Queue;)I"⟩
abbrev cX2_countRoyalCoinsOf : ByteArray := prog_4_method_28_code
def yX2_countRoyalCoinsOf : MethodName := ⟨RX2, "countRoyalCoinsOf", "(I)V"⟩
abbrev cX2_learn : ByteArray := prog_4_method_29_code
def yX2_learn : MethodName := ⟨RX2, "learn", "(ZZ)V"⟩
abbrev cX2_faultOf : ByteArray := prog_4_method_30_code
def yX2_faultOf : MethodName := ⟨RX2, "faultOf", "(LBeggarKings$Verb;II)I"⟩
abbrev cX2_isSound : ByteArray := prog_4_method_31_code
def yX2_isSound : MethodName := ⟨RX2, "isSound", "(LBeggarKings$Verb;II)Z"⟩
abbrev cX2_isPossible : ByteArray := prog_4_method_32_code
def yX2_isPossible : MethodName := ⟨RX2, "isPossible", "(LBeggarKings$Verb;II)Z"⟩
abbrev cX2_drop : ByteArray := prog_4_method_34_code
def yX2_drop : MethodName := ⟨RX2, "drop", "(II)I"⟩
abbrev cX2_pick : ByteArray := prog_4_method_35_code
def yX2_pick : MethodName := ⟨RX2, "pick", "(II)I"⟩
abbrev cX2_lay : ByteArray := prog_4_method_36_code
def yX2_lay : MethodName := ⟨RX2, "lay", "(II)I"⟩
abbrev cX2_lift : ByteArray := prog_4_method_37_code
def yX2_lift : MethodName := ⟨RX2, "lift", "(II)I"⟩
abbrev cX2_swap : ByteArray := prog_4_method_38_code
def yX2_swap : MethodName := ⟨RX2, "swap", "(II)I"⟩
abbrev cX2_join : ByteArray := prog_4_method_39_code
def yX2_join : MethodName := ⟨RX2, "join", "(II)I"⟩
abbrev cX2_quit : ByteArray := prog_4_method_40_code
def yX2_quit : MethodName := ⟨RX2, "quit", "(I)I"⟩
abbrev cX2_changePride : ByteArray := prog_4_method_41_code
def yX2_changePride : MethodName := ⟨RX2, "changePride", "(II)I"⟩
def RX3 : String := "BeggarKings$Queue"
def TX3 : u_T := fun k => match k with
  | 0 => ("BeggarKings$Queue", "people", "[I", true)
  | 1 => ("BeggarKings$Queue", "offers", "[I", true)
  | _ => ("BeggarKings$Queue", "length", "I", false)
def tyX3 : Nat → FieldType := fun k => match k with
  | 0 => .array .int
  | 1 => .array .int
  | _ => .int
abbrev wsX30 : List Cond := u_ws RX3 TX3 3
theorem nmX3 : ∀ a, a < 3 → ∀ b, b < 3 → a ≠ b → (TX3 a).2.1 ≠ (TX3 b).2.1 := by decide +kernel
theorem tyX3_ok : ∀ k, k < 3 → parseFieldDescriptor (TX3 k).2.2.1 = some (tyX3 k) := by decide +kernel
abbrev cX3_init : ByteArray := prog_5_method_1_code
def yX3_init : MethodName := ⟨RX3, "<init>", "()V"⟩
abbrev cX3_copyFrom : ByteArray := prog_5_method_2_code
def yX3_copyFrom : MethodName := ⟨RX3, "copyFrom", "(LBeggarKings$Queue;)V"⟩
abbrev cX3_personAt : ByteArray := prog_5_method_3_code
def yX3_personAt : MethodName := ⟨RX3, "personAt", "(I)I"⟩
abbrev cX3_offerAt : ByteArray := prog_5_method_4_code
def yX3_offerAt : MethodName := ⟨RX3, "offerAt", "(I)I"⟩
abbrev cX3_placeOf : ByteArray := prog_5_method_5_code
def yX3_placeOf : MethodName := ⟨RX3, "placeOf", "(I)I"⟩
abbrev cX3_insert : ByteArray := prog_5_method_6_code
def yX3_insert : MethodName := ⟨RX3, "insert", "(II)I"⟩
abbrev cX3_removeAt : ByteArray := prog_5_method_7_code
def yX3_removeAt : MethodName := ⟨RX3, "removeAt", "(I)V"⟩
def RX4 : String := "BeggarKings$Script"
def TX4 : u_T := fun k => match k with
  | 0 => ("BeggarKings$Script", "verbs", "[LBeggarKings$Verb;", true)
  | 1 => ("BeggarKings$Script", "firsts", "[I", true)
  | 2 => ("BeggarKings$Script", "seconds", "[I", true)
  | _ => ("BeggarKings$Script", "count", "I", false)
def tyX4 : Nat → FieldType := fun k => match k with
  | 0 => .array (.object "BeggarKings$Verb")
  | 1 => .array .int
  | 2 => .array .int
  | _ => .int
abbrev wsX40 : List Cond := u_ws RX4 TX4 4
theorem nmX4 : ∀ a, a < 4 → ∀ b, b < 4 → a ≠ b → (TX4 a).2.1 ≠ (TX4 b).2.1 := by decide +kernel
theorem tyX4_ok : ∀ k, k < 4 → parseFieldDescriptor (TX4 k).2.2.1 = some (tyX4 k) := by decide +kernel
abbrev cX4_init : ByteArray := prog_6_method_1_code
def yX4_init : MethodName := ⟨RX4, "<init>", "()V"⟩
def RX5 : String := "BeggarKings$Setting"
def TX5 : u_T := fun k => match k with
  | 0 => ("BeggarKings$Setting", "limit", "I", false)
  | 1 => ("BeggarKings$Setting", "step", "I", false)
  | 2 => ("BeggarKings$Setting", "kingToll", "I", false)
  | 3 => ("BeggarKings$Setting", "beggarToll", "I", false)
  | 4 => ("BeggarKings$Setting", "people", "I", false)
  | 5 => ("BeggarKings$Setting", "bridges", "I", false)
  | 6 => ("BeggarKings$Setting", "kings", "[I", true)
  | 7 => ("BeggarKings$Setting", "banks", "[I", true)
  | 8 => ("BeggarKings$Setting", "purses", "[I", true)
  | 9 => ("BeggarKings$Setting", "prides", "[I", true)
  | 10 => ("BeggarKings$Setting", "ranks", "[I", true)
  | 11 => ("BeggarKings$Setting", "periods", "[I", true)
  | 12 => ("BeggarKings$Setting", "phases", "[I", true)
  | _ => ("BeggarKings$Setting", "widths", "[I", true)
def tyX5 : Nat → FieldType := fun k => match k with
  | 0 => .int
  | 1 => .int
  | 2 => .int
  | 3 => .int
  | 4 => .int
  | 5 => .int
  | 6 => .array .int
  | 7 => .array .int
  | 8 => .array .int
  | 9 => .array .int
  | 10 => .array .int
  | 11 => .array .int
  | 12 => .array .int
  | _ => .array .int
abbrev wsX50 : List Cond := u_ws RX5 TX5 14
theorem nmX5 : ∀ a, a < 14 → ∀ b, b < 14 → a ≠ b → (TX5 a).2.1 ≠ (TX5 b).2.1 := by decide +kernel
theorem tyX5_ok : ∀ k, k < 14 → parseFieldDescriptor (TX5 k).2.2.1 = some (tyX5 k) := by decide +kernel
abbrev cX5_init : ByteArray := prog_7_method_1_code
def yX5_init : MethodName := ⟨RX5, "<init>", "()V"⟩
abbrev cX5_begin : ByteArray := prog_7_method_2_code
def yX5_begin : MethodName := ⟨RX5, "begin", "(IIII)V"⟩
abbrev cX5_addPerson : ByteArray := prog_7_method_3_code
def yX5_addPerson : MethodName := ⟨RX5, "addPerson", "(IIIII)V"⟩
abbrev cX5_addBridge : ByteArray := prog_7_method_4_code
def yX5_addBridge : MethodName := ⟨RX5, "addBridge", "(III)V"⟩
abbrev cX5_copyFrom : ByteArray := prog_7_method_5_code
def yX5_copyFrom : MethodName := ⟨RX5, "copyFrom", "(LBeggarKings$Setting;)V"⟩
abbrev cX5_hasPerson : ByteArray := prog_7_method_6_code
def yX5_hasPerson : MethodName := ⟨RX5, "hasPerson", "(I)Z"⟩
abbrev cX5_hasKing : ByteArray := prog_7_method_7_code
def yX5_hasKing : MethodName := ⟨RX5, "hasKing", "(I)Z"⟩
abbrev cX5_kingsInAll : ByteArray := prog_7_method_8_code
def yX5_kingsInAll : MethodName := ⟨RX5, "kingsInAll", "()I"⟩
abbrev cX5_coinsInAll : ByteArray := prog_7_method_9_code
def yX5_coinsInAll : MethodName := ⟨RX5, "coinsInAll", "()I"⟩
abbrev cX5_tollFor : ByteArray := prog_7_method_10_code
def yX5_tollFor : MethodName := ⟨RX5, "tollFor", "(Z)I"⟩
abbrev cX5_opens : ByteArray := prog_7_method_11_code
def yX5_opens : MethodName := ⟨RX5, "opens", "(II)Z"⟩
def RX6 : String := "BeggarKings$Text"
def TX6 : u_T := fun k => match k with
  | 0 => ("BeggarKings$Text", "bytes", "[I", true)
  | 1 => ("BeggarKings$Text", "size", "I", false)
  | 2 => ("BeggarKings$Text", "end", "I", false)
  | 3 => ("BeggarKings$Text", "kind", "I", false)
  | 4 => ("BeggarKings$Text", "start", "I", false)
  | 5 => ("BeggarKings$Text", "next", "I", false)
  | 6 => ("BeggarKings$Text", "value", "I", false)
  | 7 => ("BeggarKings$Text", "errorCode", "I", false)
  | _ => ("BeggarKings$Text", "errorOffset", "I", false)
def tyX6 : Nat → FieldType := fun k => match k with
  | 0 => .array .int
  | 1 => .int
  | 2 => .int
  | 3 => .int
  | 4 => .int
  | 5 => .int
  | 6 => .int
  | 7 => .int
  | _ => .int
abbrev wsX60 : List Cond := u_ws RX6 TX6 9
theorem nmX6 : ∀ a, a < 9 → ∀ b, b < 9 → a ≠ b → (TX6 a).2.1 ≠ (TX6 b).2.1 := by decide +kernel
theorem tyX6_ok : ∀ k, k < 9 → parseFieldDescriptor (TX6 k).2.2.1 = some (tyX6 k) := by decide +kernel
abbrev cX6_init : ByteArray := prog_8_method_1_code
def yX6_init : MethodName := ⟨RX6, "<init>", "()V"⟩
abbrev cX6_appendWord : ByteArray := prog_8_method_2_code
def yX6_appendWord : MethodName := ⟨RX6, "appendWord", "(I)V"⟩
abbrev cX6_open : ByteArray := prog_8_method_3_code
def yX6_open : MethodName := ⟨RX6, "open", "(I)V"⟩
abbrev cX6_hasFailed : ByteArray := prog_8_method_4_code
def yX6_hasFailed : MethodName := ⟨RX6, "hasFailed", "()Z"⟩
abbrev cX6_fail : ByteArray := prog_8_method_5_code
def yX6_fail : MethodName := ⟨RX6, "fail", "(I)V"⟩
abbrev cX6_isAtEnd : ByteArray := prog_8_method_6_code
def yX6_isAtEnd : MethodName := ⟨RX6, "isAtEnd", "()Z"⟩
abbrev cX6_isAtWord : ByteArray := prog_8_method_7_code
def yX6_isAtWord : MethodName := ⟨RX6, "isAtWord", "(Ljava/lang/String;)Z"⟩
abbrev cX6_takeWord : ByteArray := prog_8_method_8_code
def yX6_takeWord : MethodName := ⟨RX6, "takeWord", "(Ljava/lang/String;)V"⟩
abbrev cX6_takeEither : ByteArray := prog_8_method_9_code
def yX6_takeEither : MethodName := ⟨RX6, "takeEither", "(Ljava/lang/String;Ljava/lang/String;)I"⟩
abbrev cX6_takeSemicolon : ByteArray := prog_8_method_10_code
def yX6_takeSemicolon : MethodName := ⟨RX6, "takeSemicolon", "()V"⟩
abbrev cX6_takeNumber : ByteArray := prog_8_method_11_code
def yX6_takeNumber : MethodName := ⟨RX6, "takeNumber", "(II)I"⟩
abbrev cX6_advance : ByteArray := prog_8_method_12_code
def yX6_advance : MethodName := ⟨RX6, "advance", "()V"⟩
abbrev cX6_scanWord : ByteArray := prog_8_method_13_code
def yX6_scanWord : MethodName := ⟨RX6, "scanWord", "()V"⟩
abbrev cX6_scanNumber : ByteArray := prog_8_method_14_code
def yX6_scanNumber : MethodName := ⟨RX6, "scanNumber", "()V"⟩
abbrev cX6_isBlank : ByteArray := prog_8_method_15_code
def yX6_isBlank : MethodName := ⟨RX6, "isBlank", "(I)Z"⟩
abbrev cX6_isLetter : ByteArray := prog_8_method_16_code
def yX6_isLetter : MethodName := ⟨RX6, "isLetter", "(I)Z"⟩
abbrev cX6_isDigit : ByteArray := prog_8_method_17_code
def yX6_isDigit : MethodName := ⟨RX6, "isDigit", "(I)Z"⟩
def RX7 : String := "BeggarKings$Verb"
def TX7 : u_T := fun k => match k with
  | _ => ("", "", "", false)
def tyX7 : Nat → FieldType := fun k => match k with
  | _ => .int
abbrev wsX70 : List Cond := u_ws RX7 TX7 0
theorem nmX7 : ∀ a, a < 0 → ∀ b, b < 0 → a ≠ b → (TX7 a).2.1 ≠ (TX7 b).2.1 := by decide +kernel
theorem tyX7_ok : ∀ k, k < 0 → parseFieldDescriptor (TX7 k).2.2.1 = some (tyX7 k) := by decide +kernel
abbrev cX7_allows : ByteArray := prog_9_method_7_code
def yX7_allows : MethodName := ⟨RX7, "allows", "(I)Z"⟩
def RX8 : String := "BeggarKings"
def TX8 : u_T := fun k => match k with
  | 0 => ("BeggarKings", "text", "LBeggarKings$Text;", true)
  | 1 => ("BeggarKings", "draft", "LBeggarKings$Setting;", true)
  | 2 => ("BeggarKings", "setting", "LBeggarKings$Setting;", true)
  | 3 => ("BeggarKings", "position", "LBeggarKings$Position;", true)
  | 4 => ("BeggarKings", "forecast", "LBeggarKings$Position;", true)
  | 5 => ("BeggarKings", "snapshot", "LBeggarKings$Position;", true)
  | 6 => ("BeggarKings", "history", "LBeggarKings$History;", true)
  | 7 => ("BeggarKings", "script", "LBeggarKings$Script;", true)
  | 8 => ("BeggarKings", "output", "[I", true)
  | 9 => ("BeggarKings", "outputSize", "I", false)
  | _ => ("BeggarKings", "hasSnapshot", "Z", false)
def tyX8 : Nat → FieldType := fun k => match k with
  | 0 => .object "BeggarKings$Text"
  | 1 => .object "BeggarKings$Setting"
  | 2 => .object "BeggarKings$Setting"
  | 3 => .object "BeggarKings$Position"
  | 4 => .object "BeggarKings$Position"
  | 5 => .object "BeggarKings$Position"
  | 6 => .object "BeggarKings$History"
  | 7 => .object "BeggarKings$Script"
  | 8 => .array .int
  | 9 => .int
  | _ => .boolean
abbrev wsX80 : List Cond := u_ws RX8 TX8 11
theorem nmX8 : ∀ a, a < 11 → ∀ b, b < 11 → a ≠ b → (TX8 a).2.1 ≠ (TX8 b).2.1 := by decide +kernel
theorem tyX8_ok : ∀ k, k < 11 → parseFieldDescriptor (TX8 k).2.2.1 = some (tyX8 k) := by decide +kernel
abbrev cX8_init : ByteArray := prog_1_method_1_code
def yX8_init : MethodName := ⟨RX8, "<init>", "()V"⟩
abbrev cX8_appendText : ByteArray := prog_1_method_2_code
def yX8_appendText : MethodName := ⟨RX8, "appendText", "(IIIII)I"⟩
abbrev cX8_loadGame : ByteArray := prog_1_method_3_code
def yX8_loadGame : MethodName := ⟨RX8, "loadGame", "(I)I"⟩
abbrev cX8_errorCode : ByteArray := prog_1_method_4_code
def yX8_errorCode : MethodName := ⟨RX8, "errorCode", "()I"⟩
abbrev cX8_errorOffset : ByteArray := prog_1_method_5_code
def yX8_errorOffset : MethodName := ⟨RX8, "errorOffset", "()I"⟩
abbrev cX8_turn : ByteArray := prog_1_method_6_code
def yX8_turn : MethodName := ⟨RX8, "turn", "()I"⟩
abbrev cX8_limitAngle : ByteArray := prog_1_method_7_code
def yX8_limitAngle : MethodName := ⟨RX8, "limitAngle", "()I"⟩
abbrev cX8_tollBox : ByteArray := prog_1_method_8_code
def yX8_tollBox : MethodName := ⟨RX8, "tollBox", "()I"⟩
abbrev cX8_groundCoins : ByteArray := prog_1_method_9_code
def yX8_groundCoins : MethodName := ⟨RX8, "groundCoins", "(Z)I"⟩
abbrev cX8_kingCount : ByteArray := prog_1_method_11_code
def yX8_kingCount : MethodName := ⟨RX8, "kingCount", "()I"⟩
abbrev cX8_bankCount : ByteArray := prog_1_method_12_code
def yX8_bankCount : MethodName := ⟨RX8, "bankCount", "(Z)I"⟩
abbrev cX8_isKing : ByteArray := prog_1_method_13_code
def yX8_isKing : MethodName := ⟨RX8, "isKing", "(I)Z"⟩
abbrev cX8_isEast : ByteArray := prog_1_method_14_code
def yX8_isEast : MethodName := ⟨RX8, "isEast", "(I)Z"⟩
abbrev cX8_coins : ByteArray := prog_1_method_15_code
def yX8_coins : MethodName := ⟨RX8, "coins", "(I)I"⟩
abbrev cX8_rags : ByteArray := prog_1_method_17_code
def yX8_rags : MethodName := ⟨RX8, "rags", "(I)I"⟩
abbrev cX8_wearer : ByteArray := prog_1_method_19_code
def yX8_wearer : MethodName := ⟨RX8, "wearer", "(I)I"⟩
abbrev cX8_crossings : ByteArray := prog_1_method_20_code
def yX8_crossings : MethodName := ⟨RX8, "crossings", "(I)I"⟩
abbrev cX8_royalHolder : ByteArray := prog_1_method_30_code
def yX8_royalHolder : MethodName := ⟨RX8, "royalHolder", "(I)I"⟩
abbrev cX8_isRoyalCoinEast : ByteArray := prog_1_method_31_code
def yX8_isRoyalCoinEast : MethodName := ⟨RX8, "isRoyalCoinEast", "(I)Z"⟩
abbrev cX8_isCounted : ByteArray := prog_1_method_32_code
def yX8_isCounted : MethodName := ⟨RX8, "isCounted", "(I)Z"⟩
abbrev cX8_royalCoins : ByteArray := prog_1_method_33_code
def yX8_royalCoins : MethodName := ⟨RX8, "royalCoins", "(I)I"⟩
abbrev cX8_countedRoyalCoins : ByteArray := prog_1_method_34_code
def yX8_countedRoyalCoins : MethodName := ⟨RX8, "countedRoyalCoins", "()I"⟩
abbrev cX8_queueLength : ByteArray := prog_1_method_36_code
def yX8_queueLength : MethodName := ⟨RX8, "queueLength", "(Z)I"⟩
abbrev cX8_queued : ByteArray := prog_1_method_37_code
def yX8_queued : MethodName := ⟨RX8, "queued", "(ZI)I"⟩
abbrev cX8_offer : ByteArray := prog_1_method_38_code
def yX8_offer : MethodName := ⟨RX8, "offer", "(I)I"⟩
abbrev cX8_coinGap : ByteArray := prog_1_method_47_code
def yX8_coinGap : MethodName := ⟨RX8, "coinGap", "()I"⟩
abbrev cX8_dropCoins : ByteArray := prog_1_method_48_code
def yX8_dropCoins : MethodName := ⟨RX8, "dropCoins", "(II)I"⟩
abbrev cX8_pickCoins : ByteArray := prog_1_method_49_code
def yX8_pickCoins : MethodName := ⟨RX8, "pickCoins", "(II)I"⟩
abbrev cX8_layRoyalCoin : ByteArray := prog_1_method_50_code
def yX8_layRoyalCoin : MethodName := ⟨RX8, "layRoyalCoin", "(II)I"⟩
abbrev cX8_liftRoyalCoin : ByteArray := prog_1_method_51_code
def yX8_liftRoyalCoin : MethodName := ⟨RX8, "liftRoyalCoin", "(II)I"⟩
abbrev cX8_swapRags : ByteArray := prog_1_method_52_code
def yX8_swapRags : MethodName := ⟨RX8, "swapRags", "(II)I"⟩
abbrev cX8_joinQueue : ByteArray := prog_1_method_53_code
def yX8_joinQueue : MethodName := ⟨RX8, "joinQueue", "(II)I"⟩
abbrev cX8_quitQueue : ByteArray := prog_1_method_54_code
def yX8_quitQueue : MethodName := ⟨RX8, "quitQueue", "(I)I"⟩
abbrev cX8_setPride : ByteArray := prog_1_method_55_code
def yX8_setPride : MethodName := ⟨RX8, "setPride", "(II)I"⟩
abbrev cX8_passTurns : ByteArray := prog_1_method_56_code
def yX8_passTurns : MethodName := ⟨RX8, "passTurns", "(I)I"⟩
abbrev cX8_requirePerson : ByteArray := prog_1_method_64_code
def yX8_requirePerson : MethodName := ⟨RX8, "requirePerson", "(I)V"⟩
abbrev cX8_requireKing : ByteArray := prog_1_method_65_code
def yX8_requireKing : MethodName := ⟨RX8, "requireKing", "(I)V"⟩
abbrev cX8_requireLength : ByteArray := prog_1_method_66_code
def yX8_requireLength : MethodName := ⟨RX8, "requireLength", "(I)V"⟩
abbrev cX8_allow : ByteArray := prog_1_method_68_code
def yX8_allow : MethodName := ⟨RX8, "allow", "(LBeggarKings$Verb;II)V"⟩
abbrev cX8_bankOf : ByteArray := prog_1_method_71_code
def yX8_bankOf : MethodName := ⟨RX8, "bankOf", "(Z)I"⟩
abbrev cX8_at : ByteArray := prog_1_method_72_code
def yX8_at : MethodName := ⟨RX8, "at", "([II)I"⟩
abbrev cX8_put : ByteArray := prog_1_method_73_code
def yX8_put : MethodName := ⟨RX8, "put", "([III)V"⟩
abbrev cX8_add : ByteArray := prog_1_method_74_code
def yX8_add : MethodName := ⟨RX8, "add", "([III)V"⟩
abbrev cX8_copyRow : ByteArray := prog_1_method_75_code
def yX8_copyRow : MethodName := ⟨RX8, "copyRow", "([I[I)V"⟩
abbrev cX8_readHeader : ByteArray := prog_1_method_76_code
def yX8_readHeader : MethodName := ⟨RX8, "readHeader", "(LBeggarKings$Text;LBeggarKings$Setting;)V"⟩
abbrev cX8_readPeople : ByteArray := prog_1_method_77_code
def yX8_readPeople : MethodName := ⟨RX8, "readPeople", "(LBeggarKings$Text;LBeggarKings$Setting;)V"⟩
abbrev cX8_isAtPerson : ByteArray := prog_1_method_78_code
def yX8_isAtPerson : MethodName := ⟨RX8, "isAtPerson", "(LBeggarKings$Text;)Z"⟩
abbrev cX8_readPerson : ByteArray := prog_1_method_79_code
def yX8_readPerson : MethodName := ⟨RX8, "readPerson", "(LBeggarKings$Text;LBeggarKings$Setting;)V"⟩
abbrev cX8_readBridges : ByteArray := prog_1_method_80_code
def yX8_readBridges : MethodName := ⟨RX8, "readBridges", "(LBeggarKings$Text;LBeggarKings$Setting;)V"⟩
abbrev cX8_readBridge : ByteArray := prog_1_method_81_code
def yX8_readBridge : MethodName := ⟨RX8, "readBridge", "(LBeggarKings$Text;LBeggarKings$Setting;)V"⟩
def RX9 : String := "BeggarKingsModel"
def TX9 : u_T := fun k => match k with
  | _ => ("", "", "", false)
def tyX9 : Nat → FieldType := fun k => match k with
  | _ => .int
abbrev wsX90 : List Cond := u_ws RX9 TX9 0
theorem nmX9 : ∀ a, a < 0 → ∀ b, b < 0 → a ≠ b → (TX9 a).2.1 ≠ (TX9 b).2.1 := by decide +kernel
theorem tyX9_ok : ∀ k, k < 0 → parseFieldDescriptor (TX9 k).2.2.1 = some (tyX9 k) := by decide +kernel
def RJx29ce0 : String := "java/lang/Enum"
def TJx29ce0 : u_T := fun k => match k with
  | _ => ("", "", "", false)
def tyJx29ce0 : Nat → FieldType := fun k => match k with
  | _ => .int
theorem nmJx29ce0 : ∀ a, a < 0 → ∀ b, b < 0 → a ≠ b → (TJx29ce0 a).2.1 ≠ (TJx29ce0 b).2.1 := by decide +kernel
theorem tyJx29ce0_ok : ∀ k, k < 0 → parseFieldDescriptor (TJx29ce0 k).2.2.1 = some (tyJx29ce0 k) := by decide +kernel
abbrev cJx29ce0_ordinal_8abf5 : ByteArray := prog_12_method_2_code
def yJx29ce0_ordinal_8abf5 : MethodName := ⟨RJx29ce0, "ordinal", "()I"⟩
def RJ9 : String := "java/lang/Math"
def TJ9 : u_T := fun k => match k with
  | _ => ("", "", "", false)
def tyJ9 : Nat → FieldType := fun k => match k with
  | _ => .int
theorem nmJ9 : ∀ a, a < 0 → ∀ b, b < 0 → a ≠ b → (TJ9 a).2.1 ≠ (TJ9 b).2.1 := by decide +kernel
theorem tyJ9_ok : ∀ k, k < 0 → parseFieldDescriptor (TJ9 k).2.2.1 = some (tyJ9 k) := by decide +kernel
abbrev cJ9_abs_0f7a4 : ByteArray := prog_17_method_59_code
def yJ9_abs_0f7a4 : MethodName := ⟨RJ9, "abs", "(I)I"⟩
abbrev cJ9_max_7cf53 : ByteArray := prog_17_method_65_code
def yJ9_max_7cf53 : MethodName := ⟨RJ9, "max", "(II)I"⟩
abbrev cJ9_min_7cf53 : ByteArray := prog_17_method_69_code
def yJ9_min_7cf53 : MethodName := ⟨RJ9, "min", "(II)I"⟩
def RJ0 : String := "java/lang/String"
def TJ0 : u_T := fun k => match k with
  | _ => ("", "", "", false)
def tyJ0 : Nat → FieldType := fun k => match k with
  | _ => .int
theorem nmJ0 : ∀ a, a < 0 → ∀ b, b < 0 → a ≠ b → (TJ0 a).2.1 ≠ (TJ0 b).2.1 := by decide +kernel
theorem tyJ0_ok : ∀ k, k < 0 → parseFieldDescriptor (TJ0 k).2.2.1 = some (tyJ0 k) := by decide +kernel
abbrev cJ0_length_8abf5 : ByteArray := prog_19_method_54_code
def yJ0_length_8abf5 : MethodName := ⟨RJ0, "length", "()I"⟩
abbrev cJ0_charAt_5068e : ByteArray := prog_19_method_56_code
def yJ0_charAt_5068e : MethodName := ⟨RJ0, "charAt", "(I)C"⟩
abbrev cJ0_coder_7d493 : ByteArray := prog_19_method_152_code
def yJ0_coder_7d493 : MethodName := ⟨RJ0, "coder", "()B"⟩
abbrev cJ0_isLatin1_aae02 : ByteArray := prog_19_method_154_code
def yJ0_isLatin1_aae02 : MethodName := ⟨RJ0, "isLatin1", "()Z"⟩
abbrev cJ0_checkIndex_df160 : ByteArray := prog_19_method_155_code
def yJ0_checkIndex_df160 : MethodName := ⟨RJ0, "checkIndex", "(II)V"⟩
def RJ1 : String := "java/lang/StringLatin1"
def TJ1 : u_T := fun k => match k with
  | _ => ("", "", "", false)
def tyJ1 : Nat → FieldType := fun k => match k with
  | _ => .int
theorem nmJ1 : ∀ a, a < 0 → ∀ b, b < 0 → a ≠ b → (TJ1 a).2.1 ≠ (TJ1 b).2.1 := by decide +kernel
theorem tyJ1_ok : ∀ k, k < 0 → parseFieldDescriptor (TJ1 k).2.2.1 = some (tyJ1 k) := by decide +kernel
abbrev cJ1_charAt_3b067 : ByteArray := prog_20_method_2_code
def yJ1_charAt_3b067 : MethodName := ⟨RJ1, "charAt", "([BI)C"⟩
def RJ2 : String := "java/lang/StringUTF16"
def TJ2 : u_T := fun k => match k with
  | _ => ("", "", "", false)
def tyJ2 : Nat → FieldType := fun k => match k with
  | _ => .int
theorem nmJ2 : ∀ a, a < 0 → ∀ b, b < 0 → a ≠ b → (TJ2 a).2.1 ≠ (TJ2 b).2.1 := by decide +kernel
theorem tyJ2_ok : ∀ k, k < 0 → parseFieldDescriptor (TJ2 k).2.2.1 = some (tyJ2 k) := by decide +kernel
abbrev cJ2_getChar_3b067 : ByteArray := prog_21_method_5_code
def yJ2_getChar_3b067 : MethodName := ⟨RJ2, "getChar", "([BI)C"⟩
abbrev cJ2_length_9d52b : ByteArray := prog_21_method_6_code
def yJ2_length_9d52b : MethodName := ⟨RJ2, "length", "([B)I"⟩
abbrev cJ2_charAt_3b067 : ByteArray := prog_21_method_83_code
def yJ2_charAt_3b067 : MethodName := ⟨RJ2, "charAt", "([BI)C"⟩
abbrev cJ2_checkIndex_2214a : ByteArray := prog_21_method_91_code
def yJ2_checkIndex_2214a : MethodName := ⟨RJ2, "checkIndex", "(I[B)V"⟩
def RJ10 : String := "java/lang/System"
def TJ10 : u_T := fun k => match k with
  | _ => ("", "", "", false)
def tyJ10 : Nat → FieldType := fun k => match k with
  | _ => .int
theorem nmJ10 : ∀ a, a < 0 → ∀ b, b < 0 → a ≠ b → (TJ10 a).2.1 ≠ (TJ10 b).2.1 := by decide +kernel
theorem tyJ10_ok : ∀ k, k < 0 → parseFieldDescriptor (TJ10 k).2.2.1 = some (tyJ10 k) := by decide +kernel
def RJ3 : String := "jdk/internal/util/Preconditions"
def TJ3 : u_T := fun k => match k with
  | _ => ("", "", "", false)
def tyJ3 : Nat → FieldType := fun k => match k with
  | _ => .int
theorem nmJ3 : ∀ a, a < 0 → ∀ b, b < 0 → a ≠ b → (TJ3 a).2.1 ≠ (TJ3 b).2.1 := by decide +kernel
theorem tyJ3_ok : ∀ k, k < 0 → parseFieldDescriptor (TJ3 k).2.2.1 = some (tyJ3 k) := by decide +kernel
abbrev cJ3_checkIndex_8e157 : ByteArray := prog_24_method_11_code
def yJ3_checkIndex_8e157 : MethodName := ⟨RJ3, "checkIndex", "(IILjava/util/function/BiFunction;)I"⟩
def RL : String := "BeggarKingsLaw"
def TL : u_T := fun k => match k with
  | 0 => ("BeggarKingsLaw", "text", "[I", true)
  | 1 => ("BeggarKingsLaw", "word", "[I", true)
  | 2 => ("BeggarKingsLaw", "size", "I", false)
  | 3 => ("BeggarKingsLaw", "many", "I", false)
  | _ => ("BeggarKingsLaw", "bridges", "I", false)
def tyL : Nat → FieldType := fun k => match k with
  | 0 => .array .int
  | 1 => .array .int
  | 2 => .int
  | 3 => .int
  | _ => .int
abbrev wsL0 : List Cond := u_ws RL TL 5
theorem nmL : ∀ a, a < 5 → ∀ b, b < 5 → a ≠ b → (TL a).2.1 ≠ (TL b).2.1 := by decide +kernel
theorem tyL_ok : ∀ k, k < 5 → parseFieldDescriptor (TL k).2.2.1 = some (tyL k) := by decide +kernel
abbrev cL_init : ByteArray := method_1_code
def yL_init : MethodName := ⟨RL, "<init>", "()V"⟩
abbrev cL_writes : ByteArray := method_2_code
def yL_writes : MethodName := ⟨RL, "writes", "(Ljava/lang/String;)V"⟩
abbrev cL_sign : ByteArray := method_3_code
def yL_sign : MethodName := ⟨RL, "sign", "(I)V"⟩
abbrev cL_number : ByteArray := method_4_code
def yL_number : MethodName := ⟨RL, "number", "(I)V"⟩
abbrev cL_cell : ByteArray := method_5_code
def yL_cell : MethodName := ⟨RL, "cell", "([II)I"⟩
abbrev cL_feeds : ByteArray := method_6_code
def yL_feeds : MethodName := ⟨RL, "feeds", "(LBeggarKings;)I"⟩
abbrev cL_loads : ByteArray := method_7_code
def yL_loads : MethodName := ⟨RL, "loads", "(LBeggarKings;[I)Z"⟩
abbrev cL_king : ByteArray := method_8_code
def yL_king : MethodName := ⟨RL, "king", "(LBeggarKings;I)I"⟩
abbrev cL_acts : ByteArray := method_9_code
def yL_acts : MethodName := ⟨RL, "acts", "(LBeggarKings;I)Z"⟩
abbrev cL_law : ByteArray := code
def yL_law : MethodName := ⟨RL, "law", "([I)Z"⟩
abbrev cL_coins : ByteArray := method_11_code
def yL_coins : MethodName := ⟨RL, "coins", "(LBeggarKings;)I"⟩
abbrev cL_crossed : ByteArray := method_12_code
def yL_crossed : MethodName := ⟨RL, "crossed", "(LBeggarKings;)I"⟩
abbrev cL_isWell : ByteArray := method_13_code
def yL_isWell : MethodName := ⟨RL, "isWell", "(LBeggarKings;)Z"⟩
abbrev cL_isOrdered : ByteArray := method_14_code
def yL_isOrdered : MethodName := ⟨RL, "isOrdered", "(LBeggarKings;Z)Z"⟩
abbrev vwCl : List vw_C := [(RX1, TX1, 3), (RX2, TX2, 15), (RX3, TX3, 3), (RX4, TX4, 4), (RX5, TX5, 14), (RX6, TX6, 9), (RX7, TX7, 0), (RX8, TX8, 11), (RL, TL, 5)]
