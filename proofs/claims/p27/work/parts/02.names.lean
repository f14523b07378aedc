def RX0 : String := "SerialRecaps$Audience"
def TX0 : u_T := fun k => match k with
  | 0 => ("SerialRecaps$Audience", "told", "[I", true)
  | 1 => ("SerialRecaps$Audience", "read", "[I", true)
  | 2 => ("SerialRecaps$Audience", "wordsRead", "[I", true)
  | 3 => ("SerialRecaps$Audience", "linesTold", "[I", true)
  | _ => ("SerialRecaps$Audience", "leftOut", "[I", true)
def tyX0 : Nat → FieldType := fun k => match k with
  | 0 => .array .int
  | 1 => .array .int
  | 2 => .array .int
  | 3 => .array .int
  | _ => .array .int
theorem nmX0 : ∀ a, a < 5 → ∀ b, b < 5 → a ≠ b → (TX0 a).2.1 ≠ (TX0 b).2.1 := by decide +kernel
theorem tyX0_ok : ∀ k, k < 5 → parseFieldDescriptor (TX0 k).2.2.1 = some (tyX0 k) := by decide +kernel
abbrev cX0_init : ByteArray := prog_2_method_1_code
def yX0_init : MethodName := ⟨RX0, "<init>", "()V"⟩
abbrev cX0_copyFrom : ByteArray := prog_2_method_2_code
def yX0_copyFrom : MethodName := ⟨RX0, "copyFrom", "(LSerialRecaps$Audience;)V"⟩
abbrev cX0_hasRead : ByteArray := prog_2_method_3_code
def yX0_hasRead : MethodName := ⟨RX0, "hasRead", "(II)Z"⟩
abbrev cX0_known : ByteArray := prog_2_method_4_code
def yX0_known : MethodName := ⟨RX0, "known", "(I)I"⟩
abbrev cX0_knowledge : ByteArray := prog_2_method_5_code
def yX0_knowledge : MethodName := ⟨RX0, "knowledge", "(II)I"⟩
abbrev cX0_whoRead : ByteArray := prog_2_method_6_code
def yX0_whoRead : MethodName := ⟨RX0, "whoRead", "(I)I"⟩
abbrev cX0_howManyKnowAll : ByteArray := prog_2_method_7_code
def yX0_howManyKnowAll : MethodName := ⟨RX0, "howManyKnowAll", "(I)I"⟩
abbrev cX0_sumOfWordsRead : ByteArray := prog_2_method_8_code
def yX0_sumOfWordsRead : MethodName := ⟨RX0, "sumOfWordsRead", "()I"⟩
abbrev cX0_sumOfRead : ByteArray := prog_2_method_9_code
def yX0_sumOfRead : MethodName := ⟨RX0, "sumOfRead", "()I"⟩
abbrev cX0_dropTold : ByteArray := prog_2_method_10_code
def yX0_dropTold : MethodName := ⟨RX0, "dropTold", "(I)I"⟩
abbrev cX0_dropPart : ByteArray := prog_2_method_11_code
def yX0_dropPart : MethodName := ⟨RX0, "dropPart", "(I)V"⟩
abbrev cX0_takeIn : ByteArray := prog_2_method_12_code
def yX0_takeIn : MethodName := ⟨RX0, "takeIn", "(III)V"⟩
def RX1 : String := "SerialRecaps$Grammar"
def TX1 : u_T := fun k => match k with
  | 0 => ("SerialRecaps$Grammar", "place", "I", false)
  | 1 => ("SerialRecaps$Grammar", "plots", "I", false)
  | 2 => ("SerialRecaps$Grammar", "cliff", "I", false)
  | _ => ("SerialRecaps$Grammar", "words", "I", false)
def tyX1 : Nat → FieldType := fun k => match k with
  | 0 => .int
  | 1 => .int
  | 2 => .int
  | _ => .int
theorem nmX1 : ∀ a, a < 4 → ∀ b, b < 4 → a ≠ b → (TX1 a).2.1 ≠ (TX1 b).2.1 := by decide +kernel
theorem tyX1_ok : ∀ k, k < 4 → parseFieldDescriptor (TX1 k).2.2.1 = some (tyX1 k) := by decide +kernel
abbrev cX1_init : ByteArray := prog_3_method_1_code
def yX1_init : MethodName := ⟨RX1, "<init>", "()V"⟩
abbrev cX1_restart : ByteArray := prog_3_method_2_code
def yX1_restart : MethodName := ⟨RX1, "restart", "()V"⟩
abbrev cX1_mayEnd : ByteArray := prog_3_method_3_code
def yX1_mayEnd : MethodName := ⟨RX1, "mayEnd", "()Z"⟩
abbrev cX1_takes : ByteArray := prog_3_method_4_code
def yX1_takes : MethodName := ⟨RX1, "takes", "(I)Z"⟩
abbrev cX1_takesPlot : ByteArray := prog_3_method_5_code
def yX1_takesPlot : MethodName := ⟨RX1, "takesPlot", "(I)Z"⟩
abbrev cX1_takesCliff : ByteArray := prog_3_method_6_code
def yX1_takesCliff : MethodName := ⟨RX1, "takesCliff", "(I)Z"⟩
abbrev cX1_takesDigit : ByteArray := prog_3_method_7_code
def yX1_takesDigit : MethodName := ⟨RX1, "takesDigit", "(III)Z"⟩
abbrev cX1_takesSign : ByteArray := prog_3_method_8_code
def yX1_takesSign : MethodName := ⟨RX1, "takesSign", "(ICI)Z"⟩
abbrev cX1_takesEnd : ByteArray := prog_3_method_9_code
def yX1_takesEnd : MethodName := ⟨RX1, "takesEnd", "(I)Z"⟩
def RX2 : String := "SerialRecaps$History"
def TX2 : u_T := fun k => match k with
  | 0 => ("SerialRecaps$History", "rows", "[LSerialRecaps$State;", true)
  | 1 => ("SerialRecaps$History", "oldest", "I", false)
  | _ => ("SerialRecaps$History", "kept", "I", false)
def tyX2 : Nat → FieldType := fun k => match k with
  | 0 => .array (.object "SerialRecaps$State")
  | 1 => .int
  | _ => .int
theorem nmX2 : ∀ a, a < 3 → ∀ b, b < 3 → a ≠ b → (TX2 a).2.1 ≠ (TX2 b).2.1 := by decide +kernel
theorem tyX2_ok : ∀ k, k < 3 → parseFieldDescriptor (TX2 k).2.2.1 = some (tyX2 k) := by decide +kernel
abbrev cX2_init : ByteArray := prog_4_method_1_code
def yX2_init : MethodName := ⟨RX2, "<init>", "()V"⟩
abbrev cX2_keep : ByteArray := prog_4_method_2_code
def yX2_keep : MethodName := ⟨RX2, "keep", "(LSerialRecaps$State;)V"⟩
abbrev cX2_latest : ByteArray := prog_4_method_3_code
def yX2_latest : MethodName := ⟨RX2, "latest", "()LSerialRecaps$State;"⟩
abbrev cX2_dropLatest : ByteArray := prog_4_method_4_code
def yX2_dropLatest : MethodName := ⟨RX2, "dropLatest", "()V"⟩
def RX3 : String := "SerialRecaps$State"
def TX3 : u_T := fun k => match k with
  | 0 => ("SerialRecaps$State", "story", "LSerialRecaps$Story;", true)
  | 1 => ("SerialRecaps$State", "audience", "LSerialRecaps$Audience;", true)
  | 2 => ("SerialRecaps$State", "settings", "[I", true)
  | 3 => ("SerialRecaps$State", "mailsReached", "I", false)
  | _ => ("SerialRecaps$State", "mailsLost", "I", false)
def tyX3 : Nat → FieldType := fun k => match k with
  | 0 => .object "SerialRecaps$Story"
  | 1 => .object "SerialRecaps$Audience"
  | 2 => .array .int
  | 3 => .int
  | _ => .int
theorem nmX3 : ∀ a, a < 5 → ∀ b, b < 5 → a ≠ b → (TX3 a).2.1 ≠ (TX3 b).2.1 := by decide +kernel
theorem tyX3_ok : ∀ k, k < 5 → parseFieldDescriptor (TX3 k).2.2.1 = some (tyX3 k) := by decide +kernel
abbrev cX3_init : ByteArray := prog_5_method_1_code
def yX3_init : MethodName := ⟨RX3, "<init>", "()V"⟩
abbrev cX3_copyFrom : ByteArray := prog_5_method_2_code
def yX3_copyFrom : MethodName := ⟨RX3, "copyFrom", "(LSerialRecaps$State;)V"⟩
abbrev cX3_missedParts : ByteArray := prog_5_method_3_code
def yX3_missedParts : MethodName := ⟨RX3, "missedParts", "(II)I"⟩
abbrev cX3_toldParts : ByteArray := prog_5_method_4_code
def yX3_toldParts : MethodName := ⟨RX3, "toldParts", "(I)I"⟩
abbrev cX3_lineWords : ByteArray := prog_5_method_5_code
def yX3_lineWords : MethodName := ⟨RX3, "lineWords", "(I)I"⟩
abbrev cX3_shortened : ByteArray := prog_5_method_6_code
def yX3_shortened : MethodName := ⟨RX3, "shortened", "(I)I"⟩
abbrev cX3_ofRecap : ByteArray := prog_5_method_7_code
def yX3_ofRecap : MethodName := ⟨RX3, "ofRecap", "(III)I"⟩
abbrev cX3_deliver : ByteArray := prog_5_method_8_code
def yX3_deliver : MethodName := ⟨RX3, "deliver", "(II)I"⟩
abbrev cX3_deliverToAll : ByteArray := prog_5_method_9_code
def yX3_deliverToAll : MethodName := ⟨RX3, "deliverToAll", "(II)I"⟩
abbrev cX3_deliverUnread : ByteArray := prog_5_method_10_code
def yX3_deliverUnread : MethodName := ⟨RX3, "deliverUnread", "(I)I"⟩
abbrev cX3_ofPart : ByteArray := prog_5_method_11_code
def yX3_ofPart : MethodName := ⟨RX3, "ofPart", "(II)I"⟩
abbrev cX3_ofReader : ByteArray := prog_5_method_12_code
def yX3_ofReader : MethodName := ⟨RX3, "ofReader", "(II)I"⟩
abbrev cX3_ofPlot : ByteArray := prog_5_method_13_code
def yX3_ofPlot : MethodName := ⟨RX3, "ofPlot", "(II)I"⟩
abbrev cX3_howManyHang : ByteArray := prog_5_method_14_code
def yX3_howManyHang : MethodName := ⟨RX3, "howManyHang", "(I)I"⟩
abbrev cX3_ofAll : ByteArray := prog_5_method_15_code
def yX3_ofAll : MethodName := ⟨RX3, "ofAll", "(I)I"⟩
abbrev cX3_bestPart : ByteArray := prog_5_method_16_code
def yX3_bestPart : MethodName := ⟨RX3, "bestPart", "(I)I"⟩
abbrev cX3_linesForAll : ByteArray := prog_5_method_17_code
def yX3_linesForAll : MethodName := ⟨RX3, "linesForAll", "(I)I"⟩
abbrev cX3_shareRead : ByteArray := prog_5_method_18_code
def yX3_shareRead : MethodName := ⟨RX3, "shareRead", "()D"⟩
def RX4 : String := "SerialRecaps$Story"
def TX4 : u_T := fun k => match k with
  | 0 => ("SerialRecaps$Story", "size", "I", false)
  | 1 => ("SerialRecaps$Story", "plots", "[I", true)
  | 2 => ("SerialRecaps$Story", "cliffs", "[I", true)
  | 3 => ("SerialRecaps$Story", "words", "[I", true)
  | _ => ("SerialRecaps$Story", "needs", "[I", true)
def tyX4 : Nat → FieldType := fun k => match k with
  | 0 => .int
  | 1 => .array .int
  | 2 => .array .int
  | 3 => .array .int
  | _ => .array .int
theorem nmX4 : ∀ a, a < 5 → ∀ b, b < 5 → a ≠ b → (TX4 a).2.1 ≠ (TX4 b).2.1 := by decide +kernel
theorem tyX4_ok : ∀ k, k < 5 → parseFieldDescriptor (TX4 k).2.2.1 = some (tyX4 k) := by decide +kernel
abbrev cX4_init : ByteArray := prog_6_method_1_code
def yX4_init : MethodName := ⟨RX4, "<init>", "()V"⟩
abbrev cX4_copyFrom : ByteArray := prog_6_method_2_code
def yX4_copyFrom : MethodName := ⟨RX4, "copyFrom", "(LSerialRecaps$Story;)V"⟩
abbrev cX4_put : ByteArray := prog_6_method_3_code
def yX4_put : MethodName := ⟨RX4, "put", "(III)V"⟩
abbrev cX4_rewrite : ByteArray := prog_6_method_4_code
def yX4_rewrite : MethodName := ⟨RX4, "rewrite", "(III)I"⟩
abbrev cX4_findNeeds : ByteArray := prog_6_method_5_code
def yX4_findNeeds : MethodName := ⟨RX4, "findNeeds", "(I)I"⟩
abbrev cX4_allNeeds : ByteArray := prog_6_method_6_code
def yX4_allNeeds : MethodName := ⟨RX4, "allNeeds", "(II)I"⟩
abbrev cX4_howManyNeed : ByteArray := prog_6_method_7_code
def yX4_howManyNeed : MethodName := ⟨RX4, "howManyNeed", "(I)I"⟩
abbrev cX4_everyPart : ByteArray := prog_6_method_8_code
def yX4_everyPart : MethodName := ⟨RX4, "everyPart", "()I"⟩
abbrev cX4_sumOfWords : ByteArray := prog_6_method_9_code
def yX4_sumOfWords : MethodName := ⟨RX4, "sumOfWords", "()I"⟩
abbrev cX4_howManyGoOnWith : ByteArray := prog_6_method_10_code
def yX4_howManyGoOnWith : MethodName := ⟨RX4, "howManyGoOnWith", "(I)I"⟩
abbrev cX4_latestWith : ByteArray := prog_6_method_11_code
def yX4_latestWith : MethodName := ⟨RX4, "latestWith", "(I)I"⟩
abbrev cX4_howManyCliffs : ByteArray := prog_6_method_12_code
def yX4_howManyCliffs : MethodName := ⟨RX4, "howManyCliffs", "(I)I"⟩
abbrev cX4_openCliffs : ByteArray := prog_6_method_13_code
def yX4_openCliffs : MethodName := ⟨RX4, "openCliffs", "(I)I"⟩
def RX5 : String := "SerialRecaps$Text"
def TX5 : u_T := fun k => match k with
  | 0 => ("SerialRecaps$Text", "codes", "[I", true)
  | 1 => ("SerialRecaps$Text", "length", "I", false)
  | _ => ("SerialRecaps$Text", "grammar", "LSerialRecaps$Grammar;", true)
def tyX5 : Nat → FieldType := fun k => match k with
  | 0 => .array .int
  | 1 => .int
  | _ => .object "SerialRecaps$Grammar"
theorem nmX5 : ∀ a, a < 3 → ∀ b, b < 3 → a ≠ b → (TX5 a).2.1 ≠ (TX5 b).2.1 := by decide +kernel
theorem tyX5_ok : ∀ k, k < 3 → parseFieldDescriptor (TX5 k).2.2.1 = some (tyX5 k) := by decide +kernel
abbrev cX5_init : ByteArray := prog_7_method_1_code
def yX5_init : MethodName := ⟨RX5, "<init>", "()V"⟩
abbrev cX5_put : ByteArray := prog_7_method_2_code
def yX5_put : MethodName := ⟨RX5, "put", "(I)V"⟩
abbrev cX5_readUntilError : ByteArray := prog_7_method_3_code
def yX5_readUntilError : MethodName := ⟨RX5, "readUntilError", "()I"⟩
abbrev cX5_isComplete : ByteArray := prog_7_method_4_code
def yX5_isComplete : MethodName := ⟨RX5, "isComplete", "()Z"⟩
abbrev cX5_completeParts : ByteArray := prog_7_method_5_code
def yX5_completeParts : MethodName := ⟨RX5, "completeParts", "()I"⟩
abbrev cX5_tellTo : ByteArray := prog_7_method_6_code
def yX5_tellTo : MethodName := ⟨RX5, "tellTo", "(LSerialRecaps$Story;)V"⟩
def RX6 : String := "SerialRecaps"
def TX6 : u_T := fun k => match k with
  | 0 => ("SerialRecaps", "now", "LSerialRecaps$State;", true)
  | 1 => ("SerialRecaps", "history", "LSerialRecaps$History;", true)
  | _ => ("SerialRecaps", "text", "LSerialRecaps$Text;", true)
def tyX6 : Nat → FieldType := fun k => match k with
  | 0 => .object "SerialRecaps$State"
  | 1 => .object "SerialRecaps$History"
  | _ => .object "SerialRecaps$Text"
theorem nmX6 : ∀ a, a < 3 → ∀ b, b < 3 → a ≠ b → (TX6 a).2.1 ≠ (TX6 b).2.1 := by decide +kernel
theorem tyX6_ok : ∀ k, k < 3 → parseFieldDescriptor (TX6 k).2.2.1 = some (tyX6 k) := by decide +kernel
abbrev cX6_init : ByteArray := prog_1_method_1_code
def yX6_init : MethodName := ⟨RX6, "<init>", "()V"⟩
abbrev cX6_add : ByteArray := prog_1_method_2_code
def yX6_add : MethodName := ⟨RX6, "add", "(III)I"⟩
abbrev cX6_change : ByteArray := prog_1_method_3_code
def yX6_change : MethodName := ⟨RX6, "change", "(III)I"⟩
abbrev cX6_removeLast : ByteArray := prog_1_method_4_code
def yX6_removeLast : MethodName := ⟨RX6, "removeLast", "()I"⟩
abbrev cX6_set : ByteArray := prog_1_method_5_code
def yX6_set : MethodName := ⟨RX6, "set", "(II)I"⟩
abbrev cX6_mail : ByteArray := prog_1_method_6_code
def yX6_mail : MethodName := ⟨RX6, "mail", "(II)I"⟩
abbrev cX6_mailAll : ByteArray := prog_1_method_7_code
def yX6_mailAll : MethodName := ⟨RX6, "mailAll", "(II)I"⟩
abbrev cX6_forget : ByteArray := prog_1_method_8_code
def yX6_forget : MethodName := ⟨RX6, "forget", "(I)I"⟩
abbrev cX6_catchUp : ByteArray := prog_1_method_9_code
def yX6_catchUp : MethodName := ⟨RX6, "catchUp", "(I)I"⟩
abbrev cX6_append : ByteArray := prog_1_method_10_code
def yX6_append : MethodName := ⟨RX6, "append", "(I)I"⟩
abbrev cX6_clearBuffer : ByteArray := prog_1_method_11_code
def yX6_clearBuffer : MethodName := ⟨RX6, "clearBuffer", "()I"⟩
abbrev cX6_firstError : ByteArray := prog_1_method_12_code
def yX6_firstError : MethodName := ⟨RX6, "firstError", "()I"⟩
abbrev cX6_addAll : ByteArray := prog_1_method_13_code
def yX6_addAll : MethodName := ⟨RX6, "addAll", "()I"⟩
abbrev cX6_undo : ByteArray := prog_1_method_14_code
def yX6_undo : MethodName := ⟨RX6, "undo", "()I"⟩
abbrev cX6_part : ByteArray := prog_1_method_15_code
def yX6_part : MethodName := ⟨RX6, "part", "(II)I"⟩
abbrev cX6_knows : ByteArray := prog_1_method_16_code
def yX6_knows : MethodName := ⟨RX6, "knows", "(II)I"⟩
abbrev cX6_reader : ByteArray := prog_1_method_17_code
def yX6_reader : MethodName := ⟨RX6, "reader", "(II)I"⟩
abbrev cX6_plot : ByteArray := prog_1_method_18_code
def yX6_plot : MethodName := ⟨RX6, "plot", "(II)I"⟩
abbrev cX6_count : ByteArray := prog_1_method_19_code
def yX6_count : MethodName := ⟨RX6, "count", "(I)I"⟩
abbrev cX6_setting : ByteArray := prog_1_method_20_code
def yX6_setting : MethodName := ⟨RX6, "setting", "(I)I"⟩
abbrev cX6_recap : ByteArray := prog_1_method_21_code
def yX6_recap : MethodName := ⟨RX6, "recap", "(III)I"⟩
abbrev cX6_easiest : ByteArray := prog_1_method_22_code
def yX6_easiest : MethodName := ⟨RX6, "easiest", "(I)I"⟩
abbrev cX6_enough : ByteArray := prog_1_method_23_code
def yX6_enough : MethodName := ⟨RX6, "enough", "(I)I"⟩
abbrev cX6_readShare : ByteArray := prog_1_method_24_code
def yX6_readShare : MethodName := ⟨RX6, "readShare", "()D"⟩
abbrev cX6_digest : ByteArray := prog_1_method_25_code
def yX6_digest : MethodName := ⟨RX6, "digest", "()J"⟩
abbrev cX6_mix : ByteArray := prog_1_method_26_code
def yX6_mix : MethodName := ⟨RX6, "mix", "(JJ)J"⟩
abbrev cX6_mixParts : ByteArray := prog_1_method_27_code
def yX6_mixParts : MethodName := ⟨RX6, "mixParts", "(J)J"⟩
abbrev cX6_mixReader : ByteArray := prog_1_method_28_code
def yX6_mixReader : MethodName := ⟨RX6, "mixReader", "(JI)J"⟩
abbrev cX6_mixPlots : ByteArray := prog_1_method_29_code
def yX6_mixPlots : MethodName := ⟨RX6, "mixPlots", "(J)J"⟩
abbrev cX6_mixText : ByteArray := prog_1_method_30_code
def yX6_mixText : MethodName := ⟨RX6, "mixText", "(J)J"⟩
abbrev cX6_bitsOfShare : ByteArray := prog_1_method_31_code
def yX6_bitsOfShare : MethodName := ⟨RX6, "bitsOfShare", "(D)J"⟩
abbrev cX6_total : ByteArray := prog_1_method_32_code
def yX6_total : MethodName := ⟨RX6, "total", "(I)I"⟩
abbrev cX6_checkPart : ByteArray := prog_1_method_33_code
def yX6_checkPart : MethodName := ⟨RX6, "checkPart", "(I)V"⟩
abbrev cX6_checkReader : ByteArray := prog_1_method_34_code
def yX6_checkReader : MethodName := ⟨RX6, "checkReader", "(I)V"⟩
abbrev cX6_checkSetting : ByteArray := prog_1_method_35_code
def yX6_checkSetting : MethodName := ⟨RX6, "checkSetting", "(I)V"⟩
abbrev cX6_checkWhat : ByteArray := prog_1_method_36_code
def yX6_checkWhat : MethodName := ⟨RX6, "checkWhat", "(II)V"⟩
abbrev cX6_checkPlots : ByteArray := prog_1_method_37_code
def yX6_checkPlots : MethodName := ⟨RX6, "checkPlots", "(II)V"⟩
abbrev cX6_isIn : ByteArray := prog_1_method_38_code
def yX6_isIn : MethodName := ⟨RX6, "isIn", "(II)Z"⟩
def RX7 : String := "SerialRecapsModel"
def TX7 : u_T := fun k => match k with
  | _ => ("", "", "", false)
def tyX7 : Nat → FieldType := fun k => match k with
  | _ => .int
theorem nmX7 : ∀ a, a < 0 → ∀ b, b < 0 → a ≠ b → (TX7 a).2.1 ≠ (TX7 b).2.1 := by decide +kernel
theorem tyX7_ok : ∀ k, k < 0 → parseFieldDescriptor (TX7 k).2.2.1 = some (tyX7 k) := by decide +kernel
def RJ6 : String := "java/lang/Integer"
def TJ6 : u_T := fun k => match k with
  | _ => ("", "", "", false)
def tyJ6 : Nat → FieldType := fun k => match k with
  | _ => .int
theorem nmJ6 : ∀ a, a < 0 → ∀ b, b < 0 → a ≠ b → (TJ6 a).2.1 ≠ (TJ6 b).2.1 := by decide +kernel
theorem tyJ6_ok : ∀ k, k < 0 → parseFieldDescriptor (TJ6 k).2.2.1 = some (tyJ6 k) := by decide +kernel
abbrev cJ6_bitCount_0f7a4 : ByteArray := prog_14_method_49_code
def yJ6_bitCount_0f7a4 : MethodName := ⟨RJ6, "bitCount", "(I)I"⟩
def RJ9 : String := "java/lang/Math"
def TJ9 : u_T := fun k => match k with
  | _ => ("", "", "", false)
def tyJ9 : Nat → FieldType := fun k => match k with
  | _ => .int
theorem nmJ9 : ∀ a, a < 0 → ∀ b, b < 0 → a ≠ b → (TJ9 a).2.1 ≠ (TJ9 b).2.1 := by decide +kernel
theorem tyJ9_ok : ∀ k, k < 0 → parseFieldDescriptor (TJ9 k).2.2.1 = some (tyJ9 k) := by decide +kernel
abbrev cJ9_max_7cf53 : ByteArray := prog_15_method_65_code
def yJ9_max_7cf53 : MethodName := ⟨RJ9, "max", "(II)I"⟩
def RJ0 : String := "java/lang/String"
def TJ0 : u_T := fun k => match k with
  | _ => ("", "", "", false)
def tyJ0 : Nat → FieldType := fun k => match k with
  | _ => .int
theorem nmJ0 : ∀ a, a < 0 → ∀ b, b < 0 → a ≠ b → (TJ0 a).2.1 ≠ (TJ0 b).2.1 := by decide +kernel
theorem tyJ0_ok : ∀ k, k < 0 → parseFieldDescriptor (TJ0 k).2.2.1 = some (tyJ0 k) := by decide +kernel
def RJ10 : String := "java/lang/System"
def TJ10 : u_T := fun k => match k with
  | _ => ("", "", "", false)
def tyJ10 : Nat → FieldType := fun k => match k with
  | _ => .int
theorem nmJ10 : ∀ a, a < 0 → ∀ b, b < 0 → a ≠ b → (TJ10 a).2.1 ≠ (TJ10 b).2.1 := by decide +kernel
theorem tyJ10_ok : ∀ k, k < 0 → parseFieldDescriptor (TJ10 k).2.2.1 = some (tyJ10 k) := by decide +kernel
def RL : String := "SerialRecapsLaw"
abbrev cL_part : ByteArray := method_2_code
def yL_part : MethodName := ⟨RL, "part", "(II)I"⟩
abbrev cL_drawn : ByteArray := method_3_code
def yL_drawn : MethodName := ⟨RL, "drawn", "([II)I"⟩
abbrev cL_call : ByteArray := method_4_code
def yL_call : MethodName := ⟨RL, "call", "(LSerialRecaps;IIII)I"⟩
abbrev cL_told : ByteArray := method_5_code
def yL_told : MethodName := ⟨RL, "told", "(LSerialRecaps;IIII)I"⟩
abbrev cL_refusesAny : ByteArray := method_6_code
def yL_refusesAny : MethodName := ⟨RL, "refusesAny", "(LSerialRecaps;I)Z"⟩
abbrev cL_refused : ByteArray := method_7_code
def yL_refused : MethodName := ⟨RL, "refused", "(LSerialRecaps;)Z"⟩
abbrev cL_serial : ByteArray := method_8_code
def yL_serial : MethodName := ⟨RL, "serial", "()Z"⟩
abbrev cL_types : ByteArray := method_9_code
def yL_types : MethodName := ⟨RL, "types", "(LSerialRecaps;J)Z"⟩
abbrev cL_errorOf : ByteArray := method_10_code
def yL_errorOf : MethodName := ⟨RL, "errorOf", "(JJ)I"⟩
abbrev cL_texts : ByteArray := method_11_code
def yL_texts : MethodName := ⟨RL, "texts", "()Z"⟩
abbrev cL_seen : ByteArray := method_12_code
def yL_seen : MethodName := ⟨RL, "seen", "(LSerialRecaps;)J"⟩
abbrev cL_law : ByteArray := code
def yL_law : MethodName := ⟨RL, "law", "([I)Z"⟩
abbrev vwCl : List vw_C := [(RX0, TX0, 5), (RX1, TX1, 4), (RX2, TX2, 3), (RX3, TX3, 5), (RX4, TX4, 5), (RX5, TX5, 3), (RX6, TX6, 3)]
