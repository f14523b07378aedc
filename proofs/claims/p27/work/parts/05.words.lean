theorem wd_1 : (Cond.selects "SerialRecaps" ⟨"SerialRecaps", "total", "(I)I"⟩ ⟨"SerialRecaps", "total", "(I)I"⟩) ∈ zG := zG_of 1 (by decide +kernel) (by decide +kernel)
theorem wd_2 : (Cond.selects "SerialRecaps$Story" ⟨"SerialRecaps$Story", "findNeeds", "(I)I"⟩ ⟨"SerialRecaps$Story", "findNeeds", "(I)I"⟩) ∈ zG := zG_of 2 (by decide +kernel) (by decide +kernel)
theorem wd_3 : (Cond.selects "SerialRecaps" ⟨"SerialRecaps", "checkPart", "(I)V"⟩ ⟨"SerialRecaps", "checkPart", "(I)V"⟩) ∈ zG := zG_of 3 (by decide +kernel) (by decide +kernel)
theorem wd_4 : (Cond.selects "SerialRecaps$State" ⟨"SerialRecaps$State", "missedParts", "(II)I"⟩ ⟨"SerialRecaps$State", "missedParts", "(II)I"⟩) ∈ zG := zG_of 4 (by decide +kernel) (by decide +kernel)
theorem wd_5 : (Cond.selects "SerialRecaps$State" ⟨"SerialRecaps$State", "toldParts", "(I)I"⟩ ⟨"SerialRecaps$State", "toldParts", "(I)I"⟩) ∈ zG := zG_of 5 (by decide +kernel) (by decide +kernel)
theorem wd_6 : (Cond.selects "SerialRecaps$State" ⟨"SerialRecaps$State", "lineWords", "(I)I"⟩ ⟨"SerialRecaps$State", "lineWords", "(I)I"⟩) ∈ zG := zG_of 6 (by decide +kernel) (by decide +kernel)
theorem wd_7 : (Cond.selects "SerialRecaps$State" ⟨"SerialRecaps$State", "shortened", "(I)I"⟩ ⟨"SerialRecaps$State", "shortened", "(I)I"⟩) ∈ zG := zG_of 7 (by decide +kernel) (by decide +kernel)
theorem wd_8 : (Cond.selects "SerialRecaps$Grammar" ⟨"SerialRecaps$Grammar", "takesPlot", "(I)Z"⟩ ⟨"SerialRecaps$Grammar", "takesPlot", "(I)Z"⟩) ∈ zG := zG_of 8 (by decide +kernel) (by decide +kernel)
theorem wd_9 : (Cond.selects "SerialRecaps$Grammar" ⟨"SerialRecaps$Grammar", "takesSign", "(ICI)Z"⟩ ⟨"SerialRecaps$Grammar", "takesSign", "(ICI)Z"⟩) ∈ zG := zG_of 9 (by decide +kernel) (by decide +kernel)
theorem wd_10 : (Cond.selects "SerialRecaps$Grammar" ⟨"SerialRecaps$Grammar", "takesEnd", "(I)Z"⟩ ⟨"SerialRecaps$Grammar", "takesEnd", "(I)Z"⟩) ∈ zG := zG_of 10 (by decide +kernel) (by decide +kernel)
theorem wd_11 : (Cond.selects "SerialRecaps$Grammar" ⟨"SerialRecaps$Grammar", "takesCliff", "(I)Z"⟩ ⟨"SerialRecaps$Grammar", "takesCliff", "(I)Z"⟩) ∈ zG := zG_of 11 (by decide +kernel) (by decide +kernel)
theorem wd_12 : (Cond.selects "SerialRecaps$Grammar" ⟨"SerialRecaps$Grammar", "takesDigit", "(III)Z"⟩ ⟨"SerialRecaps$Grammar", "takesDigit", "(III)Z"⟩) ∈ zG := zG_of 12 (by decide +kernel) (by decide +kernel)
theorem wd_13 : (Cond.selects "SerialRecaps$State" ⟨"SerialRecaps$State", "howManyHang", "(I)I"⟩ ⟨"SerialRecaps$State", "howManyHang", "(I)I"⟩) ∈ zG := zG_of 13 (by decide +kernel) (by decide +kernel)
theorem wd_14 : (Cond.selects "SerialRecaps" ⟨"SerialRecaps", "mixParts", "(J)J"⟩ ⟨"SerialRecaps", "mixParts", "(J)J"⟩) ∈ zG := zG_of 14 (by decide +kernel) (by decide +kernel)
theorem wd_15 : (Cond.selects "SerialRecaps" ⟨"SerialRecaps", "mixReader", "(JI)J"⟩ ⟨"SerialRecaps", "mixReader", "(JI)J"⟩) ∈ zG := zG_of 15 (by decide +kernel) (by decide +kernel)
theorem wd_16 : (Cond.selects "SerialRecaps" ⟨"SerialRecaps", "mixPlots", "(J)J"⟩ ⟨"SerialRecaps", "mixPlots", "(J)J"⟩) ∈ zG := zG_of 16 (by decide +kernel) (by decide +kernel)
theorem wd_17 : (Cond.selects "SerialRecaps" ⟨"SerialRecaps", "mixText", "(J)J"⟩ ⟨"SerialRecaps", "mixText", "(J)J"⟩) ∈ zG := zG_of 17 (by decide +kernel) (by decide +kernel)
theorem wd_19 : (Jvm.Cond.initialized "SerialRecaps") ∈ zG := zG_of 19 (by decide +kernel) (by decide +kernel)
theorem wd_20 : (Jvm.Cond.initialized "SerialRecaps$State") ∈ zG := zG_of 20 (by decide +kernel) (by decide +kernel)
theorem wd_21 : (Jvm.Cond.initialized "SerialRecaps$Story") ∈ zG := zG_of 21 (by decide +kernel) (by decide +kernel)
theorem wd_22 : (Jvm.Cond.initialized "SerialRecaps$Audience") ∈ zG := zG_of 22 (by decide +kernel) (by decide +kernel)
theorem wd_23 : (Jvm.Cond.initialized "SerialRecaps$History") ∈ zG := zG_of 23 (by decide +kernel) (by decide +kernel)
theorem wd_24 : (Jvm.Cond.initialized "SerialRecaps$Text") ∈ zG := zG_of 24 (by decide +kernel) (by decide +kernel)
theorem wd_25 : (Jvm.Cond.initialized "SerialRecaps$Grammar") ∈ zG := zG_of 25 (by decide +kernel) (by decide +kernel)
theorem wd_29 : (Jvm.Cond.initialized "java/lang/IllegalArgumentException") ∈ zG := zG_of 29 (by decide +kernel) (by decide +kernel)
theorem wd_30 : (Jvm.Cond.initialized "java/lang/IllegalStateException") ∈ zG := zG_of 30 (by decide +kernel) (by decide +kernel)
theorem wd_31 : (Jvm.Cond.initialized "java/lang/System") ∈ zG := zG_of 31 (by decide +kernel) (by decide +kernel)
theorem wd_32 : (Jvm.Cond.initialized "java/lang/IndexOutOfBoundsException") ∈ zG := zG_of 32 (by decide +kernel) (by decide +kernel)
theorem wd_33 : (Jvm.Cond.initialized "java/lang/Integer") ∈ zG := zG_of 33 (by decide +kernel) (by decide +kernel)
theorem wd_34 : (Jvm.Cond.initialized "java/lang/Math") ∈ zG := zG_of 34 (by decide +kernel) (by decide +kernel)
theorem wd_40 : (Jvm.Cond.methodLink "SerialRecaps" (1 : Nat) ({ cls := "java/lang/Object", name := "<init>", desc := "()V" } : Jvm.MethodName)) ∈ zG := zG_of 40 (by decide +kernel) (by decide +kernel)
theorem wd_41 : (Jvm.Cond.instanceMethod ({ cls := "java/lang/Object", name := "<init>", desc := "()V" } : Jvm.MethodName)) ∈ zG := zG_of 41 (by decide +kernel) (by decide +kernel)
theorem wd_42 : (Jvm.Cond.code ({ cls := "java/lang/Object", name := "<init>", desc := "()V" } : Jvm.MethodName) object_method_1_code (1 : Nat) (Option.none : Option Jvm.ClassFile.FieldType)) ∈ zG := zG_of 42 (by decide +kernel) (by decide +kernel)
theorem wd_43 : (Jvm.Cond.classLink "SerialRecaps" (7 : Nat) "SerialRecaps$State") ∈ zG := zG_of 43 (by decide +kernel) (by decide +kernel)
theorem wd_44 : (Jvm.Cond.instantiable "SerialRecaps$State" (5 : Nat)) ∈ zG := zG_of 44 (by decide +kernel) (by decide +kernel)
theorem wd_45 : (Jvm.Cond.methodLink "SerialRecaps" (9 : Nat) ({ cls := "SerialRecaps$State", name := "<init>", desc := "()V" } : Jvm.MethodName)) ∈ zG := zG_of 45 (by decide +kernel) (by decide +kernel)
theorem wd_46 : (Jvm.Cond.instanceMethod ({ cls := "SerialRecaps$State", name := "<init>", desc := "()V" } : Jvm.MethodName)) ∈ zG := zG_of 46 (by decide +kernel) (by decide +kernel)
theorem wd_47 : (Jvm.Cond.code ({ cls := "SerialRecaps$State", name := "<init>", desc := "()V" } : Jvm.MethodName) prog_5_method_1_code (1 : Nat) (Option.none : Option Jvm.ClassFile.FieldType)) ∈ zG := zG_of 47 (by decide +kernel) (by decide +kernel)
theorem wd_48 : (Jvm.Cond.methodLink "SerialRecaps$State" (3 : Nat) ({ cls := "java/lang/Object", name := "<init>", desc := "()V" } : Jvm.MethodName)) ∈ zG := zG_of 48 (by decide +kernel) (by decide +kernel)
theorem wd_49 : (Jvm.Cond.classLink "SerialRecaps$State" (9 : Nat) "SerialRecaps$Story") ∈ zG := zG_of 49 (by decide +kernel) (by decide +kernel)
theorem wd_50 : (Jvm.Cond.instantiable "SerialRecaps$Story" (5 : Nat)) ∈ zG := zG_of 50 (by decide +kernel) (by decide +kernel)
theorem wd_52 : (Jvm.Cond.instanceMethod ({ cls := "SerialRecaps$Story", name := "<init>", desc := "()V" } : Jvm.MethodName)) ∈ zG := zG_of 52 (by decide +kernel) (by decide +kernel)
theorem wd_53 : (Jvm.Cond.code ({ cls := "SerialRecaps$Story", name := "<init>", desc := "()V" } : Jvm.MethodName) prog_6_method_1_code (1 : Nat) (Option.none : Option Jvm.ClassFile.FieldType)) ∈ zG := zG_of 53 (by decide +kernel) (by decide +kernel)
theorem wd_54 : (Jvm.Cond.methodLink "SerialRecaps$Story" (3 : Nat) ({ cls := "java/lang/Object", name := "<init>", desc := "()V" } : Jvm.MethodName)) ∈ zG := zG_of 54 (by decide +kernel) (by decide +kernel)
theorem wd_55 : (Jvm.Cond.fieldLink "SerialRecaps$Story" (24 : Nat) "SerialRecaps$Story" "size" "I") ∈ zG := zG_of 55 (by decide +kernel) (by decide +kernel)
theorem wd_56 : (Jvm.Cond.fieldLink "SerialRecaps" (45 : Nat) "SerialRecaps$Story" "size" "I") ∈ zG := zG_of 56 (by decide +kernel) (by decide +kernel)
theorem wd_57 : (Jvm.Cond.fieldLink "SerialRecaps$State" (62 : Nat) "SerialRecaps$Story" "size" "I") ∈ zG := zG_of 57 (by decide +kernel) (by decide +kernel)
theorem wd_58 : (Jvm.Cond.fieldLink "SerialRecaps$Story" (9 : Nat) "SerialRecaps$Story" "plots" "[I") ∈ zG := zG_of 58 (by decide +kernel) (by decide +kernel)
theorem wd_59 : (Jvm.Cond.fieldLink "SerialRecaps$State" (103 : Nat) "SerialRecaps$Story" "plots" "[I") ∈ zG := zG_of 59 (by decide +kernel) (by decide +kernel)
theorem wd_60 : (Jvm.Cond.fieldLink "SerialRecaps$Story" (15 : Nat) "SerialRecaps$Story" "cliffs" "[I") ∈ zG := zG_of 60 (by decide +kernel) (by decide +kernel)
theorem wd_61 : (Jvm.Cond.fieldLink "SerialRecaps$State" (106 : Nat) "SerialRecaps$Story" "cliffs" "[I") ∈ zG := zG_of 61 (by decide +kernel) (by decide +kernel)
theorem wd_62 : (Jvm.Cond.fieldLink "SerialRecaps$Story" (18 : Nat) "SerialRecaps$Story" "words" "[I") ∈ zG := zG_of 62 (by decide +kernel) (by decide +kernel)
theorem wd_63 : (Jvm.Cond.fieldLink "SerialRecaps$State" (69 : Nat) "SerialRecaps$Story" "words" "[I") ∈ zG := zG_of 63 (by decide +kernel) (by decide +kernel)
theorem wd_64 : (Jvm.Cond.fieldLink "SerialRecaps$Story" (21 : Nat) "SerialRecaps$Story" "needs" "[I") ∈ zG := zG_of 64 (by decide +kernel) (by decide +kernel)
theorem wd_65 : (Jvm.Cond.fieldLink "SerialRecaps$State" (109 : Nat) "SerialRecaps$Story" "needs" "[I") ∈ zG := zG_of 65 (by decide +kernel) (by decide +kernel)
theorem wd_77 : (Jvm.Cond.arrayClass Jvm.ClassFile.FieldType.int) ∈ zG := zG_of 77 (by decide +kernel) (by decide +kernel)
theorem wd_78 : (Jvm.Cond.classLink "SerialRecaps$State" (18 : Nat) "SerialRecaps$Audience") ∈ zG := zG_of 78 (by decide +kernel) (by decide +kernel)
theorem wd_79 : (Jvm.Cond.instantiable "SerialRecaps$Audience" (5 : Nat)) ∈ zG := zG_of 79 (by decide +kernel) (by decide +kernel)
theorem wd_81 : (Jvm.Cond.instanceMethod ({ cls := "SerialRecaps$Audience", name := "<init>", desc := "()V" } : Jvm.MethodName)) ∈ zG := zG_of 81 (by decide +kernel) (by decide +kernel)
theorem wd_82 : (Jvm.Cond.code ({ cls := "SerialRecaps$Audience", name := "<init>", desc := "()V" } : Jvm.MethodName) prog_2_method_1_code (1 : Nat) (Option.none : Option Jvm.ClassFile.FieldType)) ∈ zG := zG_of 82 (by decide +kernel) (by decide +kernel)
theorem wd_83 : (Jvm.Cond.methodLink "SerialRecaps$Audience" (3 : Nat) ({ cls := "java/lang/Object", name := "<init>", desc := "()V" } : Jvm.MethodName)) ∈ zG := zG_of 83 (by decide +kernel) (by decide +kernel)
theorem wd_84 : (Jvm.Cond.fieldLink "SerialRecaps$Audience" (9 : Nat) "SerialRecaps$Audience" "told" "[I") ∈ zG := zG_of 84 (by decide +kernel) (by decide +kernel)
theorem wd_85 : (Jvm.Cond.fieldLink "SerialRecaps$State" (125 : Nat) "SerialRecaps$Audience" "told" "[I") ∈ zG := zG_of 85 (by decide +kernel) (by decide +kernel)
theorem wd_86 : (Jvm.Cond.fieldLink "SerialRecaps$Audience" (15 : Nat) "SerialRecaps$Audience" "read" "[I") ∈ zG := zG_of 86 (by decide +kernel) (by decide +kernel)
theorem wd_87 : (Jvm.Cond.fieldLink "SerialRecaps$State" (122 : Nat) "SerialRecaps$Audience" "read" "[I") ∈ zG := zG_of 87 (by decide +kernel) (by decide +kernel)
theorem wd_88 : (Jvm.Cond.fieldLink "SerialRecaps$Audience" (18 : Nat) "SerialRecaps$Audience" "wordsRead" "[I") ∈ zG := zG_of 88 (by decide +kernel) (by decide +kernel)
theorem wd_89 : (Jvm.Cond.fieldLink "SerialRecaps$State" (88 : Nat) "SerialRecaps$Audience" "wordsRead" "[I") ∈ zG := zG_of 89 (by decide +kernel) (by decide +kernel)
theorem wd_90 : (Jvm.Cond.fieldLink "SerialRecaps$Audience" (21 : Nat) "SerialRecaps$Audience" "linesTold" "[I") ∈ zG := zG_of 90 (by decide +kernel) (by decide +kernel)
theorem wd_91 : (Jvm.Cond.fieldLink "SerialRecaps$State" (91 : Nat) "SerialRecaps$Audience" "linesTold" "[I") ∈ zG := zG_of 91 (by decide +kernel) (by decide +kernel)
theorem wd_92 : (Jvm.Cond.fieldLink "SerialRecaps$Audience" (24 : Nat) "SerialRecaps$Audience" "leftOut" "[I") ∈ zG := zG_of 92 (by decide +kernel) (by decide +kernel)
theorem wd_93 : (Jvm.Cond.fieldLink "SerialRecaps$State" (94 : Nat) "SerialRecaps$Audience" "leftOut" "[I") ∈ zG := zG_of 93 (by decide +kernel) (by decide +kernel)
theorem wd_105 : (Jvm.Cond.fieldLink "SerialRecaps$State" (12 : Nat) "SerialRecaps$State" "story" "LSerialRecaps$Story;") ∈ zG := zG_of 105 (by decide +kernel) (by decide +kernel)
theorem wd_106 : (Jvm.Cond.fieldLink "SerialRecaps" (41 : Nat) "SerialRecaps$State" "story" "LSerialRecaps$Story;") ∈ zG := zG_of 106 (by decide +kernel) (by decide +kernel)
theorem wd_107 : (Jvm.Cond.fieldLink "SerialRecaps$State" (21 : Nat) "SerialRecaps$State" "audience" "LSerialRecaps$Audience;") ∈ zG := zG_of 107 (by decide +kernel) (by decide +kernel)
theorem wd_108 : (Jvm.Cond.fieldLink "SerialRecaps" (74 : Nat) "SerialRecaps$State" "audience" "LSerialRecaps$Audience;") ∈ zG := zG_of 108 (by decide +kernel) (by decide +kernel)
theorem wd_109 : (Jvm.Cond.fieldLink "SerialRecaps$State" (25 : Nat) "SerialRecaps$State" "settings" "[I") ∈ zG := zG_of 109 (by decide +kernel) (by decide +kernel)
theorem wd_110 : (Jvm.Cond.fieldLink "SerialRecaps" (97 : Nat) "SerialRecaps$State" "settings" "[I") ∈ zG := zG_of 110 (by decide +kernel) (by decide +kernel)
theorem wd_111 : (Jvm.Cond.fieldLink "SerialRecaps$State" (42 : Nat) "SerialRecaps$State" "mailsReached" "I") ∈ zG := zG_of 111 (by decide +kernel) (by decide +kernel)
theorem wd_112 : (Jvm.Cond.fieldLink "SerialRecaps$State" (46 : Nat) "SerialRecaps$State" "mailsLost" "I") ∈ zG := zG_of 112 (by decide +kernel) (by decide +kernel)
theorem wd_124 : (Jvm.Cond.classLink "SerialRecaps" (16 : Nat) "SerialRecaps$History") ∈ zG := zG_of 124 (by decide +kernel) (by decide +kernel)
theorem wd_125 : (Jvm.Cond.instantiable "SerialRecaps$History" (3 : Nat)) ∈ zG := zG_of 125 (by decide +kernel) (by decide +kernel)
theorem wd_127 : (Jvm.Cond.instanceMethod ({ cls := "SerialRecaps$History", name := "<init>", desc := "()V" } : Jvm.MethodName)) ∈ zG := zG_of 127 (by decide +kernel) (by decide +kernel)
theorem wd_128 : (Jvm.Cond.code ({ cls := "SerialRecaps$History", name := "<init>", desc := "()V" } : Jvm.MethodName) prog_4_method_1_code (1 : Nat) (Option.none : Option Jvm.ClassFile.FieldType)) ∈ zG := zG_of 128 (by decide +kernel) (by decide +kernel)
theorem wd_129 : (Jvm.Cond.methodLink "SerialRecaps$History" (3 : Nat) ({ cls := "java/lang/Object", name := "<init>", desc := "()V" } : Jvm.MethodName)) ∈ zG := zG_of 129 (by decide +kernel) (by decide +kernel)
theorem wd_130 : (Jvm.Cond.classLink "SerialRecaps$History" (9 : Nat) "SerialRecaps$State") ∈ zG := zG_of 130 (by decide +kernel) (by decide +kernel)
theorem wd_132 : (Jvm.Cond.fieldLink "SerialRecaps$History" (11 : Nat) "SerialRecaps$History" "rows" "[LSerialRecaps$State;") ∈ zG := zG_of 132 (by decide +kernel) (by decide +kernel)
theorem wd_133 : (Jvm.Cond.fieldLink "SerialRecaps$History" (21 : Nat) "SerialRecaps$History" "oldest" "I") ∈ zG := zG_of 133 (by decide +kernel) (by decide +kernel)
theorem wd_134 : (Jvm.Cond.fieldLink "SerialRecaps$History" (17 : Nat) "SerialRecaps$History" "kept" "I") ∈ zG := zG_of 134 (by decide +kernel) (by decide +kernel)
theorem wd_135 : (Jvm.Cond.fieldLink "SerialRecaps" (165 : Nat) "SerialRecaps$History" "kept" "I") ∈ zG := zG_of 135 (by decide +kernel) (by decide +kernel)
theorem wd_143 : (Jvm.Cond.classLink "SerialRecaps" (23 : Nat) "SerialRecaps$Text") ∈ zG := zG_of 143 (by decide +kernel) (by decide +kernel)
theorem wd_144 : (Jvm.Cond.instantiable "SerialRecaps$Text" (3 : Nat)) ∈ zG := zG_of 144 (by decide +kernel) (by decide +kernel)
theorem wd_146 : (Jvm.Cond.instanceMethod ({ cls := "SerialRecaps$Text", name := "<init>", desc := "()V" } : Jvm.MethodName)) ∈ zG := zG_of 146 (by decide +kernel) (by decide +kernel)
theorem wd_147 : (Jvm.Cond.code ({ cls := "SerialRecaps$Text", name := "<init>", desc := "()V" } : Jvm.MethodName) prog_7_method_1_code (1 : Nat) (Option.none : Option Jvm.ClassFile.FieldType)) ∈ zG := zG_of 147 (by decide +kernel) (by decide +kernel)
theorem wd_148 : (Jvm.Cond.methodLink "SerialRecaps$Text" (3 : Nat) ({ cls := "java/lang/Object", name := "<init>", desc := "()V" } : Jvm.MethodName)) ∈ zG := zG_of 148 (by decide +kernel) (by decide +kernel)
theorem wd_149 : (Jvm.Cond.classLink "SerialRecaps$Text" (15 : Nat) "SerialRecaps$Grammar") ∈ zG := zG_of 149 (by decide +kernel) (by decide +kernel)
theorem wd_150 : (Jvm.Cond.instantiable "SerialRecaps$Grammar" (4 : Nat)) ∈ zG := zG_of 150 (by decide +kernel) (by decide +kernel)
theorem wd_152 : (Jvm.Cond.instanceMethod ({ cls := "SerialRecaps$Grammar", name := "<init>", desc := "()V" } : Jvm.MethodName)) ∈ zG := zG_of 152 (by decide +kernel) (by decide +kernel)
theorem wd_153 : (Jvm.Cond.code ({ cls := "SerialRecaps$Grammar", name := "<init>", desc := "()V" } : Jvm.MethodName) prog_3_method_1_code (1 : Nat) (Option.none : Option Jvm.ClassFile.FieldType)) ∈ zG := zG_of 153 (by decide +kernel) (by decide +kernel)
theorem wd_154 : (Jvm.Cond.methodLink "SerialRecaps$Grammar" (3 : Nat) ({ cls := "java/lang/Object", name := "<init>", desc := "()V" } : Jvm.MethodName)) ∈ zG := zG_of 154 (by decide +kernel) (by decide +kernel)
theorem wd_155 : (Jvm.Cond.fieldLink "SerialRecaps$Grammar" (11 : Nat) "SerialRecaps$Grammar" "place" "I") ∈ zG := zG_of 155 (by decide +kernel) (by decide +kernel)
theorem wd_156 : (Jvm.Cond.fieldLink "SerialRecaps$Grammar" (15 : Nat) "SerialRecaps$Grammar" "plots" "I") ∈ zG := zG_of 156 (by decide +kernel) (by decide +kernel)
theorem wd_157 : (Jvm.Cond.fieldLink "SerialRecaps$Text" (41 : Nat) "SerialRecaps$Grammar" "plots" "I") ∈ zG := zG_of 157 (by decide +kernel) (by decide +kernel)
theorem wd_158 : (Jvm.Cond.fieldLink "SerialRecaps$Grammar" (18 : Nat) "SerialRecaps$Grammar" "cliff" "I") ∈ zG := zG_of 158 (by decide +kernel) (by decide +kernel)
theorem wd_159 : (Jvm.Cond.fieldLink "SerialRecaps$Text" (44 : Nat) "SerialRecaps$Grammar" "cliff" "I") ∈ zG := zG_of 159 (by decide +kernel) (by decide +kernel)
theorem wd_160 : (Jvm.Cond.fieldLink "SerialRecaps$Grammar" (21 : Nat) "SerialRecaps$Grammar" "words" "I") ∈ zG := zG_of 160 (by decide +kernel) (by decide +kernel)
theorem wd_161 : (Jvm.Cond.fieldLink "SerialRecaps$Text" (47 : Nat) "SerialRecaps$Grammar" "words" "I") ∈ zG := zG_of 161 (by decide +kernel) (by decide +kernel)
theorem wd_171 : (Jvm.Cond.fieldLink "SerialRecaps$Text" (9 : Nat) "SerialRecaps$Text" "codes" "[I") ∈ zG := zG_of 171 (by decide +kernel) (by decide +kernel)
theorem wd_172 : (Jvm.Cond.fieldLink "SerialRecaps" (230 : Nat) "SerialRecaps$Text" "codes" "[I") ∈ zG := zG_of 172 (by decide +kernel) (by decide +kernel)
theorem wd_173 : (Jvm.Cond.fieldLink "SerialRecaps$Text" (22 : Nat) "SerialRecaps$Text" "length" "I") ∈ zG := zG_of 173 (by decide +kernel) (by decide +kernel)
theorem wd_174 : (Jvm.Cond.fieldLink "SerialRecaps" (127 : Nat) "SerialRecaps$Text" "length" "I") ∈ zG := zG_of 174 (by decide +kernel) (by decide +kernel)
theorem wd_175 : (Jvm.Cond.fieldLink "SerialRecaps$Text" (18 : Nat) "SerialRecaps$Text" "grammar" "LSerialRecaps$Grammar;") ∈ zG := zG_of 175 (by decide +kernel) (by decide +kernel)
theorem wd_183 : (Jvm.Cond.fieldLink "SerialRecaps" (10 : Nat) "SerialRecaps" "now" "LSerialRecaps$State;") ∈ zG := zG_of 183 (by decide +kernel) (by decide +kernel)
theorem wd_184 : (Jvm.Cond.fieldLink "SerialRecaps" (19 : Nat) "SerialRecaps" "history" "LSerialRecaps$History;") ∈ zG := zG_of 184 (by decide +kernel) (by decide +kernel)
theorem wd_185 : (Jvm.Cond.fieldLink "SerialRecaps" (26 : Nat) "SerialRecaps" "text" "LSerialRecaps$Text;") ∈ zG := zG_of 185 (by decide +kernel) (by decide +kernel)
theorem wd_197 : (Jvm.Cond.methodLink "SerialRecaps" (153 : Nat) ({ cls := "SerialRecaps$History", name := "latest", desc := "()LSerialRecaps$State;" } : Jvm.MethodName)) ∈ zG := zG_of 197 (by decide +kernel) (by decide +kernel)
theorem wd_198 : (Jvm.Cond.instanceMethod ({ cls := "SerialRecaps$History", name := "latest", desc := "()LSerialRecaps$State;" } : Jvm.MethodName)) ∈ zG := zG_of 198 (by decide +kernel) (by decide +kernel)
theorem wd_199 : (Jvm.Cond.selects "SerialRecaps$History" ({ cls := "SerialRecaps$History", name := "latest", desc := "()LSerialRecaps$State;" } : Jvm.MethodName) ({ cls := "SerialRecaps$History", name := "latest", desc := "()LSerialRecaps$State;" } : Jvm.MethodName)) ∈ zG := zG_of 199 (by decide +kernel) (by decide +kernel)
theorem wd_200 : (Jvm.Cond.code ({ cls := "SerialRecaps$History", name := "latest", desc := "()LSerialRecaps$State;" } : Jvm.MethodName) prog_4_method_3_code (1 : Nat) (Option.some (Jvm.ClassFile.FieldType.object "SerialRecaps$State"))) ∈ zG := zG_of 200 (by decide +kernel) (by decide +kernel)
theorem wd_201 : (Jvm.Cond.classLink "SerialRecaps" (51 : Nat) "java/lang/IllegalStateException") ∈ zG := zG_of 201 (by decide +kernel) (by decide +kernel)
theorem wd_269 : (Jvm.Cond.methodLink "SerialRecaps" (159 : Nat) ({ cls := "SerialRecaps$State", name := "copyFrom", desc := "(LSerialRecaps$State;)V" } : Jvm.MethodName)) ∈ zG := zG_of 269 (by decide +kernel) (by decide +kernel)
theorem wd_270 : (Jvm.Cond.instanceMethod ({ cls := "SerialRecaps$State", name := "copyFrom", desc := "(LSerialRecaps$State;)V" } : Jvm.MethodName)) ∈ zG := zG_of 270 (by decide +kernel) (by decide +kernel)
theorem wd_271 : (Jvm.Cond.selects "SerialRecaps$State" ({ cls := "SerialRecaps$State", name := "copyFrom", desc := "(LSerialRecaps$State;)V" } : Jvm.MethodName) ({ cls := "SerialRecaps$State", name := "copyFrom", desc := "(LSerialRecaps$State;)V" } : Jvm.MethodName)) ∈ zG := zG_of 271 (by decide +kernel) (by decide +kernel)
theorem wd_272 : (Jvm.Cond.code ({ cls := "SerialRecaps$State", name := "copyFrom", desc := "(LSerialRecaps$State;)V" } : Jvm.MethodName) prog_5_method_2_code (2 : Nat) (Option.none : Option Jvm.ClassFile.FieldType)) ∈ zG := zG_of 272 (by decide +kernel) (by decide +kernel)
theorem wd_273 : (Jvm.Cond.methodLink "SerialRecaps$State" (29 : Nat) ({ cls := "SerialRecaps$Story", name := "copyFrom", desc := "(LSerialRecaps$Story;)V" } : Jvm.MethodName)) ∈ zG := zG_of 273 (by decide +kernel) (by decide +kernel)
theorem wd_274 : (Jvm.Cond.instanceMethod ({ cls := "SerialRecaps$Story", name := "copyFrom", desc := "(LSerialRecaps$Story;)V" } : Jvm.MethodName)) ∈ zG := zG_of 274 (by decide +kernel) (by decide +kernel)
theorem wd_275 : (Jvm.Cond.selects "SerialRecaps$Story" ({ cls := "SerialRecaps$Story", name := "copyFrom", desc := "(LSerialRecaps$Story;)V" } : Jvm.MethodName) ({ cls := "SerialRecaps$Story", name := "copyFrom", desc := "(LSerialRecaps$Story;)V" } : Jvm.MethodName)) ∈ zG := zG_of 275 (by decide +kernel) (by decide +kernel)
theorem wd_276 : (Jvm.Cond.code ({ cls := "SerialRecaps$Story", name := "copyFrom", desc := "(LSerialRecaps$Story;)V" } : Jvm.MethodName) prog_6_method_2_code (2 : Nat) (Option.none : Option Jvm.ClassFile.FieldType)) ∈ zG := zG_of 276 (by decide +kernel) (by decide +kernel)
theorem wd_277 : (Jvm.Cond.methodLink "SerialRecaps$Story" (28 : Nat) ({ cls := "java/lang/System", name := "arraycopy", desc := "(Ljava/lang/Object;ILjava/lang/Object;II)V" } : Jvm.MethodName)) ∈ zG := zG_of 277 (by decide +kernel) (by decide +kernel)
theorem wd_278 : (Jvm.Cond.static ({ cls := "java/lang/System", name := "arraycopy", desc := "(Ljava/lang/Object;ILjava/lang/Object;II)V" } : Jvm.MethodName)) ∈ zG := zG_of 278 (by decide +kernel) (by decide +kernel)
theorem wd_279 : (Jvm.Cond.native ({ cls := "java/lang/System", name := "arraycopy", desc := "(Ljava/lang/Object;ILjava/lang/Object;II)V" } : Jvm.MethodName)) ∈ zG := zG_of 279 (by decide +kernel) (by decide +kernel)
theorem wd_280 : (Jvm.Cond.methodLink "SerialRecaps$State" (33 : Nat) ({ cls := "SerialRecaps$Audience", name := "copyFrom", desc := "(LSerialRecaps$Audience;)V" } : Jvm.MethodName)) ∈ zG := zG_of 280 (by decide +kernel) (by decide +kernel)
theorem wd_281 : (Jvm.Cond.instanceMethod ({ cls := "SerialRecaps$Audience", name := "copyFrom", desc := "(LSerialRecaps$Audience;)V" } : Jvm.MethodName)) ∈ zG := zG_of 281 (by decide +kernel) (by decide +kernel)
theorem wd_282 : (Jvm.Cond.selects "SerialRecaps$Audience" ({ cls := "SerialRecaps$Audience", name := "copyFrom", desc := "(LSerialRecaps$Audience;)V" } : Jvm.MethodName) ({ cls := "SerialRecaps$Audience", name := "copyFrom", desc := "(LSerialRecaps$Audience;)V" } : Jvm.MethodName)) ∈ zG := zG_of 282 (by decide +kernel) (by decide +kernel)
theorem wd_283 : (Jvm.Cond.code ({ cls := "SerialRecaps$Audience", name := "copyFrom", desc := "(LSerialRecaps$Audience;)V" } : Jvm.MethodName) prog_2_method_2_code (2 : Nat) (Option.none : Option Jvm.ClassFile.FieldType)) ∈ zG := zG_of 283 (by decide +kernel) (by decide +kernel)
theorem wd_284 : (Jvm.Cond.methodLink "SerialRecaps$Audience" (27 : Nat) ({ cls := "java/lang/System", name := "arraycopy", desc := "(Ljava/lang/Object;ILjava/lang/Object;II)V" } : Jvm.MethodName)) ∈ zG := zG_of 284 (by decide +kernel) (by decide +kernel)
theorem wd_285 : (Jvm.Cond.methodLink "SerialRecaps$State" (36 : Nat) ({ cls := "java/lang/System", name := "arraycopy", desc := "(Ljava/lang/Object;ILjava/lang/Object;II)V" } : Jvm.MethodName)) ∈ zG := zG_of 285 (by decide +kernel) (by decide +kernel)
theorem wd_286 : (Jvm.Cond.methodLink "SerialRecaps" (162 : Nat) ({ cls := "SerialRecaps$History", name := "dropLatest", desc := "()V" } : Jvm.MethodName)) ∈ zG := zG_of 286 (by decide +kernel) (by decide +kernel)
theorem wd_287 : (Jvm.Cond.instanceMethod ({ cls := "SerialRecaps$History", name := "dropLatest", desc := "()V" } : Jvm.MethodName)) ∈ zG := zG_of 287 (by decide +kernel) (by decide +kernel)
theorem wd_288 : (Jvm.Cond.selects "SerialRecaps$History" ({ cls := "SerialRecaps$History", name := "dropLatest", desc := "()V" } : Jvm.MethodName) ({ cls := "SerialRecaps$History", name := "dropLatest", desc := "()V" } : Jvm.MethodName)) ∈ zG := zG_of 288 (by decide +kernel) (by decide +kernel)
theorem wd_289 : (Jvm.Cond.code ({ cls := "SerialRecaps$History", name := "dropLatest", desc := "()V" } : Jvm.MethodName) prog_4_method_4_code (1 : Nat) (Option.none : Option Jvm.ClassFile.FieldType)) ∈ zG := zG_of 289 (by decide +kernel) (by decide +kernel)
theorem wd_294 : (Jvm.Cond.methodLink "SerialRecaps" (168 : Nat) ({ cls := "SerialRecaps", name := "checkWhat", desc := "(II)V" } : Jvm.MethodName)) ∈ zG := zG_of 294 (by decide +kernel) (by decide +kernel)
theorem wd_295 : (Jvm.Cond.static ({ cls := "SerialRecaps", name := "checkWhat", desc := "(II)V" } : Jvm.MethodName)) ∈ zG := zG_of 295 (by decide +kernel) (by decide +kernel)
theorem wd_296 : (Jvm.Cond.code ({ cls := "SerialRecaps", name := "checkWhat", desc := "(II)V" } : Jvm.MethodName) prog_1_method_36_code (2 : Nat) (Option.none : Option Jvm.ClassFile.FieldType)) ∈ zG := zG_of 296 (by decide +kernel) (by decide +kernel)
theorem wd_297 : (Jvm.Cond.classLink "SerialRecaps" (34 : Nat) "java/lang/IllegalArgumentException") ∈ zG := zG_of 297 (by decide +kernel) (by decide +kernel)
theorem wd_313 : (Jvm.Cond.methodLink "SerialRecaps" (188 : Nat) ({ cls := "SerialRecaps", name := "total", desc := "(I)I" } : Jvm.MethodName)) ∈ zG := zG_of 313 (by decide +kernel) (by decide +kernel)
theorem wd_315 : (Jvm.Cond.instanceMethod ({ cls := "SerialRecaps", name := "total", desc := "(I)I" } : Jvm.MethodName)) ∈ zG := zG_of 315 (by decide +kernel) (by decide +kernel)
theorem wd_316 : (Jvm.Cond.code ({ cls := "SerialRecaps", name := "total", desc := "(I)I" } : Jvm.MethodName) prog_1_method_32_code (2 : Nat) (Option.some Jvm.ClassFile.FieldType.int)) ∈ zG := zG_of 316 (by decide +kernel) (by decide +kernel)
theorem wd_317 : (Jvm.Cond.methodLink "SerialRecaps" (239 : Nat) ({ cls := "SerialRecaps$State", name := "ofAll", desc := "(I)I" } : Jvm.MethodName)) ∈ zG := zG_of 317 (by decide +kernel) (by decide +kernel)
theorem wd_318 : (Jvm.Cond.instanceMethod ({ cls := "SerialRecaps$State", name := "ofAll", desc := "(I)I" } : Jvm.MethodName)) ∈ zG := zG_of 318 (by decide +kernel) (by decide +kernel)
theorem wd_319 : (Jvm.Cond.selects "SerialRecaps$State" ({ cls := "SerialRecaps$State", name := "ofAll", desc := "(I)I" } : Jvm.MethodName) ({ cls := "SerialRecaps$State", name := "ofAll", desc := "(I)I" } : Jvm.MethodName)) ∈ zG := zG_of 319 (by decide +kernel) (by decide +kernel)
theorem wd_320 : (Jvm.Cond.code ({ cls := "SerialRecaps$State", name := "ofAll", desc := "(I)I" } : Jvm.MethodName) prog_5_method_15_code (2 : Nat) (Option.some Jvm.ClassFile.FieldType.int)) ∈ zG := zG_of 320 (by decide +kernel) (by decide +kernel)
theorem wd_321 : (Jvm.Cond.methodLink "SerialRecaps$State" (143 : Nat) ({ cls := "SerialRecaps$Story", name := "sumOfWords", desc := "()I" } : Jvm.MethodName)) ∈ zG := zG_of 321 (by decide +kernel) (by decide +kernel)
theorem wd_322 : (Jvm.Cond.instanceMethod ({ cls := "SerialRecaps$Story", name := "sumOfWords", desc := "()I" } : Jvm.MethodName)) ∈ zG := zG_of 322 (by decide +kernel) (by decide +kernel)
theorem wd_323 : (Jvm.Cond.selects "SerialRecaps$Story" ({ cls := "SerialRecaps$Story", name := "sumOfWords", desc := "()I" } : Jvm.MethodName) ({ cls := "SerialRecaps$Story", name := "sumOfWords", desc := "()I" } : Jvm.MethodName)) ∈ zG := zG_of 323 (by decide +kernel) (by decide +kernel)
theorem wd_324 : (Jvm.Cond.code ({ cls := "SerialRecaps$Story", name := "sumOfWords", desc := "()I" } : Jvm.MethodName) prog_6_method_9_code (3 : Nat) (Option.some Jvm.ClassFile.FieldType.int)) ∈ zG := zG_of 324 (by decide +kernel) (by decide +kernel)
theorem wd_325 : (Jvm.Cond.methodLink "SerialRecaps$State" (146 : Nat) ({ cls := "SerialRecaps$Audience", name := "sumOfWordsRead", desc := "()I" } : Jvm.MethodName)) ∈ zG := zG_of 325 (by decide +kernel) (by decide +kernel)
theorem wd_326 : (Jvm.Cond.instanceMethod ({ cls := "SerialRecaps$Audience", name := "sumOfWordsRead", desc := "()I" } : Jvm.MethodName)) ∈ zG := zG_of 326 (by decide +kernel) (by decide +kernel)
theorem wd_327 : (Jvm.Cond.selects "SerialRecaps$Audience" ({ cls := "SerialRecaps$Audience", name := "sumOfWordsRead", desc := "()I" } : Jvm.MethodName) ({ cls := "SerialRecaps$Audience", name := "sumOfWordsRead", desc := "()I" } : Jvm.MethodName)) ∈ zG := zG_of 327 (by decide +kernel) (by decide +kernel)
theorem wd_328 : (Jvm.Cond.code ({ cls := "SerialRecaps$Audience", name := "sumOfWordsRead", desc := "()I" } : Jvm.MethodName) prog_2_method_8_code (3 : Nat) (Option.some Jvm.ClassFile.FieldType.int)) ∈ zG := zG_of 328 (by decide +kernel) (by decide +kernel)
theorem wd_329 : (Jvm.Cond.methodLink "SerialRecaps$State" (118 : Nat) ({ cls := "SerialRecaps$Story", name := "everyPart", desc := "()I" } : Jvm.MethodName)) ∈ zG := zG_of 329 (by decide +kernel) (by decide +kernel)
theorem wd_330 : (Jvm.Cond.instanceMethod ({ cls := "SerialRecaps$Story", name := "everyPart", desc := "()I" } : Jvm.MethodName)) ∈ zG := zG_of 330 (by decide +kernel) (by decide +kernel)
theorem wd_331 : (Jvm.Cond.selects "SerialRecaps$Story" ({ cls := "SerialRecaps$Story", name := "everyPart", desc := "()I" } : Jvm.MethodName) ({ cls := "SerialRecaps$Story", name := "everyPart", desc := "()I" } : Jvm.MethodName)) ∈ zG := zG_of 331 (by decide +kernel) (by decide +kernel)
theorem wd_332 : (Jvm.Cond.code ({ cls := "SerialRecaps$Story", name := "everyPart", desc := "()I" } : Jvm.MethodName) prog_6_method_8_code (1 : Nat) (Option.some Jvm.ClassFile.FieldType.int)) ∈ zG := zG_of 332 (by decide +kernel) (by decide +kernel)
theorem wd_333 : (Jvm.Cond.methodLink "SerialRecaps$State" (149 : Nat) ({ cls := "SerialRecaps$Audience", name := "howManyKnowAll", desc := "(I)I" } : Jvm.MethodName)) ∈ zG := zG_of 333 (by decide +kernel) (by decide +kernel)
theorem wd_334 : (Jvm.Cond.instanceMethod ({ cls := "SerialRecaps$Audience", name := "howManyKnowAll", desc := "(I)I" } : Jvm.MethodName)) ∈ zG := zG_of 334 (by decide +kernel) (by decide +kernel)
theorem wd_335 : (Jvm.Cond.selects "SerialRecaps$Audience" ({ cls := "SerialRecaps$Audience", name := "howManyKnowAll", desc := "(I)I" } : Jvm.MethodName) ({ cls := "SerialRecaps$Audience", name := "howManyKnowAll", desc := "(I)I" } : Jvm.MethodName)) ∈ zG := zG_of 335 (by decide +kernel) (by decide +kernel)
theorem wd_336 : (Jvm.Cond.code ({ cls := "SerialRecaps$Audience", name := "howManyKnowAll", desc := "(I)I" } : Jvm.MethodName) prog_2_method_7_code (4 : Nat) (Option.some Jvm.ClassFile.FieldType.int)) ∈ zG := zG_of 336 (by decide +kernel) (by decide +kernel)
theorem wd_337 : (Jvm.Cond.methodLink "SerialRecaps$Audience" (40 : Nat) ({ cls := "SerialRecaps$Audience", name := "known", desc := "(I)I" } : Jvm.MethodName)) ∈ zG := zG_of 337 (by decide +kernel) (by decide +kernel)
theorem wd_338 : (Jvm.Cond.instanceMethod ({ cls := "SerialRecaps$Audience", name := "known", desc := "(I)I" } : Jvm.MethodName)) ∈ zG := zG_of 338 (by decide +kernel) (by decide +kernel)
theorem wd_339 : (Jvm.Cond.selects "SerialRecaps$Audience" ({ cls := "SerialRecaps$Audience", name := "known", desc := "(I)I" } : Jvm.MethodName) ({ cls := "SerialRecaps$Audience", name := "known", desc := "(I)I" } : Jvm.MethodName)) ∈ zG := zG_of 339 (by decide +kernel) (by decide +kernel)
theorem wd_340 : (Jvm.Cond.code ({ cls := "SerialRecaps$Audience", name := "known", desc := "(I)I" } : Jvm.MethodName) prog_2_method_4_code (2 : Nat) (Option.some Jvm.ClassFile.FieldType.int)) ∈ zG := zG_of 340 (by decide +kernel) (by decide +kernel)
theorem wd_362 : (Jvm.Cond.methodLink "SerialRecaps" (30 : Nat) ({ cls := "SerialRecaps", name := "checkPlots", desc := "(II)V" } : Jvm.MethodName)) ∈ zG := zG_of 362 (by decide +kernel) (by decide +kernel)
theorem wd_363 : (Jvm.Cond.static ({ cls := "SerialRecaps", name := "checkPlots", desc := "(II)V" } : Jvm.MethodName)) ∈ zG := zG_of 363 (by decide +kernel) (by decide +kernel)
theorem wd_364 : (Jvm.Cond.code ({ cls := "SerialRecaps", name := "checkPlots", desc := "(II)V" } : Jvm.MethodName) prog_1_method_37_code (2 : Nat) (Option.none : Option Jvm.ClassFile.FieldType)) ∈ zG := zG_of 364 (by decide +kernel) (by decide +kernel)
theorem wd_366 : (Jvm.Cond.methodLink "SerialRecaps" (252 : Nat) ({ cls := "SerialRecaps", name := "isIn", desc := "(II)Z" } : Jvm.MethodName)) ∈ zG := zG_of 366 (by decide +kernel) (by decide +kernel)
theorem wd_367 : (Jvm.Cond.static ({ cls := "SerialRecaps", name := "isIn", desc := "(II)Z" } : Jvm.MethodName)) ∈ zG := zG_of 367 (by decide +kernel) (by decide +kernel)
theorem wd_368 : (Jvm.Cond.code ({ cls := "SerialRecaps", name := "isIn", desc := "(II)Z" } : Jvm.MethodName) prog_1_method_38_code (2 : Nat) (Option.some Jvm.ClassFile.FieldType.boolean)) ∈ zG := zG_of 368 (by decide +kernel) (by decide +kernel)
theorem wd_372 : (Jvm.Cond.methodLink "SerialRecaps" (56 : Nat) ({ cls := "SerialRecaps$History", name := "keep", desc := "(LSerialRecaps$State;)V" } : Jvm.MethodName)) ∈ zG := zG_of 372 (by decide +kernel) (by decide +kernel)
theorem wd_373 : (Jvm.Cond.instanceMethod ({ cls := "SerialRecaps$History", name := "keep", desc := "(LSerialRecaps$State;)V" } : Jvm.MethodName)) ∈ zG := zG_of 373 (by decide +kernel) (by decide +kernel)
theorem wd_374 : (Jvm.Cond.selects "SerialRecaps$History" ({ cls := "SerialRecaps$History", name := "keep", desc := "(LSerialRecaps$State;)V" } : Jvm.MethodName) ({ cls := "SerialRecaps$History", name := "keep", desc := "(LSerialRecaps$State;)V" } : Jvm.MethodName)) ∈ zG := zG_of 374 (by decide +kernel) (by decide +kernel)
theorem wd_375 : (Jvm.Cond.code ({ cls := "SerialRecaps$History", name := "keep", desc := "(LSerialRecaps$State;)V" } : Jvm.MethodName) prog_4_method_2_code (4 : Nat) (Option.none : Option Jvm.ClassFile.FieldType)) ∈ zG := zG_of 375 (by decide +kernel) (by decide +kernel)
theorem wd_376 : (Jvm.Cond.methodLink "SerialRecaps$History" (24 : Nat) ({ cls := "SerialRecaps$State", name := "<init>", desc := "()V" } : Jvm.MethodName)) ∈ zG := zG_of 376 (by decide +kernel) (by decide +kernel)
theorem wd_377 : (Jvm.Cond.methodLink "SerialRecaps$History" (25 : Nat) ({ cls := "SerialRecaps$State", name := "copyFrom", desc := "(LSerialRecaps$State;)V" } : Jvm.MethodName)) ∈ zG := zG_of 377 (by decide +kernel) (by decide +kernel)
theorem wd_378 : (Jvm.Cond.methodLink "SerialRecaps" (60 : Nat) ({ cls := "SerialRecaps$Story", name := "put", desc := "(III)V" } : Jvm.MethodName)) ∈ zG := zG_of 378 (by decide +kernel) (by decide +kernel)
theorem wd_379 : (Jvm.Cond.instanceMethod ({ cls := "SerialRecaps$Story", name := "put", desc := "(III)V" } : Jvm.MethodName)) ∈ zG := zG_of 379 (by decide +kernel) (by decide +kernel)
theorem wd_380 : (Jvm.Cond.selects "SerialRecaps$Story" ({ cls := "SerialRecaps$Story", name := "put", desc := "(III)V" } : Jvm.MethodName) ({ cls := "SerialRecaps$Story", name := "put", desc := "(III)V" } : Jvm.MethodName)) ∈ zG := zG_of 380 (by decide +kernel) (by decide +kernel)
theorem wd_381 : (Jvm.Cond.code ({ cls := "SerialRecaps$Story", name := "put", desc := "(III)V" } : Jvm.MethodName) prog_6_method_3_code (4 : Nat) (Option.none : Option Jvm.ClassFile.FieldType)) ∈ zG := zG_of 381 (by decide +kernel) (by decide +kernel)
theorem wd_382 : (Jvm.Cond.methodLink "SerialRecaps$Story" (34 : Nat) ({ cls := "SerialRecaps$Story", name := "findNeeds", desc := "(I)I" } : Jvm.MethodName)) ∈ zG := zG_of 382 (by decide +kernel) (by decide +kernel)
theorem wd_384 : (Jvm.Cond.instanceMethod ({ cls := "SerialRecaps$Story", name := "findNeeds", desc := "(I)I" } : Jvm.MethodName)) ∈ zG := zG_of 384 (by decide +kernel) (by decide +kernel)
theorem wd_385 : (Jvm.Cond.code ({ cls := "SerialRecaps$Story", name := "findNeeds", desc := "(I)I" } : Jvm.MethodName) prog_6_method_5_code (5 : Nat) (Option.some Jvm.ClassFile.FieldType.int)) ∈ zG := zG_of 385 (by decide +kernel) (by decide +kernel)
theorem wd_390 : (Jvm.Cond.methodLink "SerialRecaps" (64 : Nat) ({ cls := "SerialRecaps", name := "checkPart", desc := "(I)V" } : Jvm.MethodName)) ∈ zG := zG_of 390 (by decide +kernel) (by decide +kernel)
theorem wd_392 : (Jvm.Cond.instanceMethod ({ cls := "SerialRecaps", name := "checkPart", desc := "(I)V" } : Jvm.MethodName)) ∈ zG := zG_of 392 (by decide +kernel) (by decide +kernel)
theorem wd_393 : (Jvm.Cond.code ({ cls := "SerialRecaps", name := "checkPart", desc := "(I)V" } : Jvm.MethodName) prog_1_method_33_code (2 : Nat) (Option.none : Option Jvm.ClassFile.FieldType)) ∈ zG := zG_of 393 (by decide +kernel) (by decide +kernel)
theorem wd_394 : (Jvm.Cond.classLink "SerialRecaps" (180 : Nat) "java/lang/IndexOutOfBoundsException") ∈ zG := zG_of 394 (by decide +kernel) (by decide +kernel)
theorem wd_410 : (Jvm.Cond.methodLink "SerialRecaps" (68 : Nat) ({ cls := "SerialRecaps$Story", name := "rewrite", desc := "(III)I" } : Jvm.MethodName)) ∈ zG := zG_of 410 (by decide +kernel) (by decide +kernel)
theorem wd_411 : (Jvm.Cond.instanceMethod ({ cls := "SerialRecaps$Story", name := "rewrite", desc := "(III)I" } : Jvm.MethodName)) ∈ zG := zG_of 411 (by decide +kernel) (by decide +kernel)
theorem wd_412 : (Jvm.Cond.selects "SerialRecaps$Story" ({ cls := "SerialRecaps$Story", name := "rewrite", desc := "(III)I" } : Jvm.MethodName) ({ cls := "SerialRecaps$Story", name := "rewrite", desc := "(III)I" } : Jvm.MethodName)) ∈ zG := zG_of 412 (by decide +kernel) (by decide +kernel)
theorem wd_413 : (Jvm.Cond.code ({ cls := "SerialRecaps$Story", name := "rewrite", desc := "(III)I" } : Jvm.MethodName) prog_6_method_4_code (6 : Nat) (Option.some Jvm.ClassFile.FieldType.int)) ∈ zG := zG_of 413 (by decide +kernel) (by decide +kernel)
theorem wd_419 : (Jvm.Cond.methodLink "SerialRecaps" (78 : Nat) ({ cls := "SerialRecaps$Audience", name := "whoRead", desc := "(I)I" } : Jvm.MethodName)) ∈ zG := zG_of 419 (by decide +kernel) (by decide +kernel)
theorem wd_420 : (Jvm.Cond.instanceMethod ({ cls := "SerialRecaps$Audience", name := "whoRead", desc := "(I)I" } : Jvm.MethodName)) ∈ zG := zG_of 420 (by decide +kernel) (by decide +kernel)
theorem wd_421 : (Jvm.Cond.selects "SerialRecaps$Audience" ({ cls := "SerialRecaps$Audience", name := "whoRead", desc := "(I)I" } : Jvm.MethodName) ({ cls := "SerialRecaps$Audience", name := "whoRead", desc := "(I)I" } : Jvm.MethodName)) ∈ zG := zG_of 421 (by decide +kernel) (by decide +kernel)
theorem wd_422 : (Jvm.Cond.code ({ cls := "SerialRecaps$Audience", name := "whoRead", desc := "(I)I" } : Jvm.MethodName) prog_2_method_6_code (4 : Nat) (Option.some Jvm.ClassFile.FieldType.int)) ∈ zG := zG_of 422 (by decide +kernel) (by decide +kernel)
theorem wd_423 : (Jvm.Cond.methodLink "SerialRecaps$Audience" (37 : Nat) ({ cls := "SerialRecaps$Audience", name := "hasRead", desc := "(II)Z" } : Jvm.MethodName)) ∈ zG := zG_of 423 (by decide +kernel) (by decide +kernel)
theorem wd_424 : (Jvm.Cond.instanceMethod ({ cls := "SerialRecaps$Audience", name := "hasRead", desc := "(II)Z" } : Jvm.MethodName)) ∈ zG := zG_of 424 (by decide +kernel) (by decide +kernel)
theorem wd_425 : (Jvm.Cond.selects "SerialRecaps$Audience" ({ cls := "SerialRecaps$Audience", name := "hasRead", desc := "(II)Z" } : Jvm.MethodName) ({ cls := "SerialRecaps$Audience", name := "hasRead", desc := "(II)Z" } : Jvm.MethodName)) ∈ zG := zG_of 425 (by decide +kernel) (by decide +kernel)
theorem wd_426 : (Jvm.Cond.code ({ cls := "SerialRecaps$Audience", name := "hasRead", desc := "(II)Z" } : Jvm.MethodName) prog_2_method_3_code (3 : Nat) (Option.some Jvm.ClassFile.FieldType.boolean)) ∈ zG := zG_of 426 (by decide +kernel) (by decide +kernel)
theorem wd_428 : (Jvm.Cond.methodLink "SerialRecaps" (84 : Nat) ({ cls := "java/lang/Integer", name := "bitCount", desc := "(I)I" } : Jvm.MethodName)) ∈ zG := zG_of 428 (by decide +kernel) (by decide +kernel)
theorem wd_429 : (Jvm.Cond.static ({ cls := "java/lang/Integer", name := "bitCount", desc := "(I)I" } : Jvm.MethodName)) ∈ zG := zG_of 429 (by decide +kernel) (by decide +kernel)
theorem wd_430 : (Jvm.Cond.code ({ cls := "java/lang/Integer", name := "bitCount", desc := "(I)I" } : Jvm.MethodName) prog_14_method_49_code (1 : Nat) (Option.some Jvm.ClassFile.FieldType.int)) ∈ zG := zG_of 430 (by decide +kernel) (by decide +kernel)
theorem wd_431 : (Jvm.Cond.constant "java/lang/Integer" (265 : Nat) (1431655765 : Int32)) ∈ zG := zG_of 431 (by decide +kernel) (by decide +kernel)
theorem wd_432 : (Jvm.Cond.constant "java/lang/Integer" (266 : Nat) (858993459 : Int32)) ∈ zG := zG_of 432 (by decide +kernel) (by decide +kernel)
theorem wd_433 : (Jvm.Cond.constant "java/lang/Integer" (267 : Nat) (252645135 : Int32)) ∈ zG := zG_of 433 (by decide +kernel) (by decide +kernel)
theorem wd_434 : (Jvm.Cond.methodLink "SerialRecaps" (89 : Nat) ({ cls := "SerialRecaps$Audience", name := "dropPart", desc := "(I)V" } : Jvm.MethodName)) ∈ zG := zG_of 434 (by decide +kernel) (by decide +kernel)
theorem wd_435 : (Jvm.Cond.instanceMethod ({ cls := "SerialRecaps$Audience", name := "dropPart", desc := "(I)V" } : Jvm.MethodName)) ∈ zG := zG_of 435 (by decide +kernel) (by decide +kernel)
theorem wd_436 : (Jvm.Cond.selects "SerialRecaps$Audience" ({ cls := "SerialRecaps$Audience", name := "dropPart", desc := "(I)V" } : Jvm.MethodName) ({ cls := "SerialRecaps$Audience", name := "dropPart", desc := "(I)V" } : Jvm.MethodName)) ∈ zG := zG_of 436 (by decide +kernel) (by decide +kernel)
theorem wd_437 : (Jvm.Cond.code ({ cls := "SerialRecaps$Audience", name := "dropPart", desc := "(I)V" } : Jvm.MethodName) prog_2_method_11_code (4 : Nat) (Option.none : Option Jvm.ClassFile.FieldType)) ∈ zG := zG_of 437 (by decide +kernel) (by decide +kernel)
theorem wd_442 : (Jvm.Cond.methodLink "SerialRecaps" (92 : Nat) ({ cls := "SerialRecaps", name := "checkSetting", desc := "(I)V" } : Jvm.MethodName)) ∈ zG := zG_of 442 (by decide +kernel) (by decide +kernel)
theorem wd_443 : (Jvm.Cond.static ({ cls := "SerialRecaps", name := "checkSetting", desc := "(I)V" } : Jvm.MethodName)) ∈ zG := zG_of 443 (by decide +kernel) (by decide +kernel)
theorem wd_444 : (Jvm.Cond.code ({ cls := "SerialRecaps", name := "checkSetting", desc := "(I)V" } : Jvm.MethodName) prog_1_method_35_code (1 : Nat) (Option.none : Option Jvm.ClassFile.FieldType)) ∈ zG := zG_of 444 (by decide +kernel) (by decide +kernel)
theorem wd_451 : (Jvm.Cond.methodLink "SerialRecaps" (101 : Nat) ({ cls := "SerialRecaps", name := "checkReader", desc := "(I)V" } : Jvm.MethodName)) ∈ zG := zG_of 451 (by decide +kernel) (by decide +kernel)
theorem wd_452 : (Jvm.Cond.static ({ cls := "SerialRecaps", name := "checkReader", desc := "(I)V" } : Jvm.MethodName)) ∈ zG := zG_of 452 (by decide +kernel) (by decide +kernel)
theorem wd_453 : (Jvm.Cond.code ({ cls := "SerialRecaps", name := "checkReader", desc := "(I)V" } : Jvm.MethodName) prog_1_method_34_code (1 : Nat) (Option.none : Option Jvm.ClassFile.FieldType)) ∈ zG := zG_of 453 (by decide +kernel) (by decide +kernel)
theorem wd_455 : (Jvm.Cond.methodLink "SerialRecaps" (104 : Nat) ({ cls := "SerialRecaps$Audience", name := "hasRead", desc := "(II)Z" } : Jvm.MethodName)) ∈ zG := zG_of 455 (by decide +kernel) (by decide +kernel)
theorem wd_457 : (Jvm.Cond.methodLink "SerialRecaps" (110 : Nat) ({ cls := "SerialRecaps$State", name := "deliver", desc := "(II)I" } : Jvm.MethodName)) ∈ zG := zG_of 457 (by decide +kernel) (by decide +kernel)
theorem wd_458 : (Jvm.Cond.instanceMethod ({ cls := "SerialRecaps$State", name := "deliver", desc := "(II)I" } : Jvm.MethodName)) ∈ zG := zG_of 458 (by decide +kernel) (by decide +kernel)
theorem wd_459 : (Jvm.Cond.selects "SerialRecaps$State" ({ cls := "SerialRecaps$State", name := "deliver", desc := "(II)I" } : Jvm.MethodName) ({ cls := "SerialRecaps$State", name := "deliver", desc := "(II)I" } : Jvm.MethodName)) ∈ zG := zG_of 459 (by decide +kernel) (by decide +kernel)
theorem wd_460 : (Jvm.Cond.code ({ cls := "SerialRecaps$State", name := "deliver", desc := "(II)I" } : Jvm.MethodName) prog_5_method_8_code (6 : Nat) (Option.some Jvm.ClassFile.FieldType.int)) ∈ zG := zG_of 460 (by decide +kernel) (by decide +kernel)
theorem wd_461 : (Jvm.Cond.methodLink "SerialRecaps$State" (75 : Nat) ({ cls := "SerialRecaps$State", name := "missedParts", desc := "(II)I" } : Jvm.MethodName)) ∈ zG := zG_of 461 (by decide +kernel) (by decide +kernel)
theorem wd_463 : (Jvm.Cond.instanceMethod ({ cls := "SerialRecaps$State", name := "missedParts", desc := "(II)I" } : Jvm.MethodName)) ∈ zG := zG_of 463 (by decide +kernel) (by decide +kernel)
theorem wd_464 : (Jvm.Cond.code ({ cls := "SerialRecaps$State", name := "missedParts", desc := "(II)I" } : Jvm.MethodName) prog_5_method_3_code (3 : Nat) (Option.some Jvm.ClassFile.FieldType.int)) ∈ zG := zG_of 464 (by decide +kernel) (by decide +kernel)
theorem wd_465 : (Jvm.Cond.methodLink "SerialRecaps$State" (49 : Nat) ({ cls := "SerialRecaps$Audience", name := "known", desc := "(I)I" } : Jvm.MethodName)) ∈ zG := zG_of 465 (by decide +kernel) (by decide +kernel)
theorem wd_466 : (Jvm.Cond.methodLink "SerialRecaps$State" (53 : Nat) ({ cls := "SerialRecaps$Story", name := "allNeeds", desc := "(II)I" } : Jvm.MethodName)) ∈ zG := zG_of 466 (by decide +kernel) (by decide +kernel)
theorem wd_467 : (Jvm.Cond.instanceMethod ({ cls := "SerialRecaps$Story", name := "allNeeds", desc := "(II)I" } : Jvm.MethodName)) ∈ zG := zG_of 467 (by decide +kernel) (by decide +kernel)
theorem wd_468 : (Jvm.Cond.selects "SerialRecaps$Story" ({ cls := "SerialRecaps$Story", name := "allNeeds", desc := "(II)I" } : Jvm.MethodName) ({ cls := "SerialRecaps$Story", name := "allNeeds", desc := "(II)I" } : Jvm.MethodName)) ∈ zG := zG_of 468 (by decide +kernel) (by decide +kernel)
theorem wd_469 : (Jvm.Cond.code ({ cls := "SerialRecaps$Story", name := "allNeeds", desc := "(II)I" } : Jvm.MethodName) prog_6_method_6_code (5 : Nat) (Option.some Jvm.ClassFile.FieldType.int)) ∈ zG := zG_of 469 (by decide +kernel) (by decide +kernel)
theorem wd_471 : (Jvm.Cond.methodLink "SerialRecaps$State" (78 : Nat) ({ cls := "SerialRecaps$State", name := "toldParts", desc := "(I)I" } : Jvm.MethodName)) ∈ zG := zG_of 471 (by decide +kernel) (by decide +kernel)
theorem wd_473 : (Jvm.Cond.instanceMethod ({ cls := "SerialRecaps$State", name := "toldParts", desc := "(I)I" } : Jvm.MethodName)) ∈ zG := zG_of 473 (by decide +kernel) (by decide +kernel)
theorem wd_474 : (Jvm.Cond.code ({ cls := "SerialRecaps$State", name := "toldParts", desc := "(I)I" } : Jvm.MethodName) prog_5_method_4_code (5 : Nat) (Option.some Jvm.ClassFile.FieldType.int)) ∈ zG := zG_of 474 (by decide +kernel) (by decide +kernel)
theorem wd_475 : (Jvm.Cond.methodLink "SerialRecaps$State" (57 : Nat) ({ cls := "java/lang/Integer", name := "bitCount", desc := "(I)I" } : Jvm.MethodName)) ∈ zG := zG_of 475 (by decide +kernel) (by decide +kernel)
theorem wd_476 : (Jvm.Cond.methodLink "SerialRecaps$State" (84 : Nat) ({ cls := "SerialRecaps$Audience", name := "takeIn", desc := "(III)V" } : Jvm.MethodName)) ∈ zG := zG_of 476 (by decide +kernel) (by decide +kernel)
theorem wd_477 : (Jvm.Cond.instanceMethod ({ cls := "SerialRecaps$Audience", name := "takeIn", desc := "(III)V" } : Jvm.MethodName)) ∈ zG := zG_of 477 (by decide +kernel) (by decide +kernel)
theorem wd_478 : (Jvm.Cond.selects "SerialRecaps$Audience" ({ cls := "SerialRecaps$Audience", name := "takeIn", desc := "(III)V" } : Jvm.MethodName) ({ cls := "SerialRecaps$Audience", name := "takeIn", desc := "(III)V" } : Jvm.MethodName)) ∈ zG := zG_of 478 (by decide +kernel) (by decide +kernel)
theorem wd_479 : (Jvm.Cond.code ({ cls := "SerialRecaps$Audience", name := "takeIn", desc := "(III)V" } : Jvm.MethodName) prog_2_method_12_code (4 : Nat) (Option.none : Option Jvm.ClassFile.FieldType)) ∈ zG := zG_of 479 (by decide +kernel) (by decide +kernel)
theorem wd_480 : (Jvm.Cond.methodLink "SerialRecaps$State" (81 : Nat) ({ cls := "SerialRecaps$State", name := "lineWords", desc := "(I)I" } : Jvm.MethodName)) ∈ zG := zG_of 480 (by decide +kernel) (by decide +kernel)
theorem wd_482 : (Jvm.Cond.instanceMethod ({ cls := "SerialRecaps$State", name := "lineWords", desc := "(I)I" } : Jvm.MethodName)) ∈ zG := zG_of 482 (by decide +kernel) (by decide +kernel)
theorem wd_483 : (Jvm.Cond.code ({ cls := "SerialRecaps$State", name := "lineWords", desc := "(I)I" } : Jvm.MethodName) prog_5_method_5_code (4 : Nat) (Option.some Jvm.ClassFile.FieldType.int)) ∈ zG := zG_of 483 (by decide +kernel) (by decide +kernel)
theorem wd_485 : (Jvm.Cond.methodLink "SerialRecaps$State" (72 : Nat) ({ cls := "SerialRecaps$State", name := "shortened", desc := "(I)I" } : Jvm.MethodName)) ∈ zG := zG_of 485 (by decide +kernel) (by decide +kernel)
theorem wd_487 : (Jvm.Cond.instanceMethod ({ cls := "SerialRecaps$State", name := "shortened", desc := "(I)I" } : Jvm.MethodName)) ∈ zG := zG_of 487 (by decide +kernel) (by decide +kernel)
theorem wd_488 : (Jvm.Cond.code ({ cls := "SerialRecaps$State", name := "shortened", desc := "(I)I" } : Jvm.MethodName) prog_5_method_6_code (3 : Nat) (Option.some Jvm.ClassFile.FieldType.int)) ∈ zG := zG_of 488 (by decide +kernel) (by decide +kernel)
theorem wd_494 : (Jvm.Cond.methodLink "SerialRecaps" (116 : Nat) ({ cls := "SerialRecaps$State", name := "deliverToAll", desc := "(II)I" } : Jvm.MethodName)) ∈ zG := zG_of 494 (by decide +kernel) (by decide +kernel)
theorem wd_495 : (Jvm.Cond.instanceMethod ({ cls := "SerialRecaps$State", name := "deliverToAll", desc := "(II)I" } : Jvm.MethodName)) ∈ zG := zG_of 495 (by decide +kernel) (by decide +kernel)
theorem wd_496 : (Jvm.Cond.selects "SerialRecaps$State" ({ cls := "SerialRecaps$State", name := "deliverToAll", desc := "(II)I" } : Jvm.MethodName) ({ cls := "SerialRecaps$State", name := "deliverToAll", desc := "(II)I" } : Jvm.MethodName)) ∈ zG := zG_of 496 (by decide +kernel) (by decide +kernel)
theorem wd_497 : (Jvm.Cond.code ({ cls := "SerialRecaps$State", name := "deliverToAll", desc := "(II)I" } : Jvm.MethodName) prog_5_method_9_code (5 : Nat) (Option.some Jvm.ClassFile.FieldType.int)) ∈ zG := zG_of 497 (by decide +kernel) (by decide +kernel)
theorem wd_498 : (Jvm.Cond.methodLink "SerialRecaps$State" (97 : Nat) ({ cls := "SerialRecaps$Audience", name := "hasRead", desc := "(II)Z" } : Jvm.MethodName)) ∈ zG := zG_of 498 (by decide +kernel) (by decide +kernel)
theorem wd_499 : (Jvm.Cond.methodLink "SerialRecaps$State" (100 : Nat) ({ cls := "SerialRecaps$State", name := "deliver", desc := "(II)I" } : Jvm.MethodName)) ∈ zG := zG_of 499 (by decide +kernel) (by decide +kernel)
theorem wd_504 : (Jvm.Cond.methodLink "SerialRecaps" (119 : Nat) ({ cls := "SerialRecaps$Audience", name := "dropTold", desc := "(I)I" } : Jvm.MethodName)) ∈ zG := zG_of 504 (by decide +kernel) (by decide +kernel)
theorem wd_505 : (Jvm.Cond.instanceMethod ({ cls := "SerialRecaps$Audience", name := "dropTold", desc := "(I)I" } : Jvm.MethodName)) ∈ zG := zG_of 505 (by decide +kernel) (by decide +kernel)
theorem wd_506 : (Jvm.Cond.selects "SerialRecaps$Audience" ({ cls := "SerialRecaps$Audience", name := "dropTold", desc := "(I)I" } : Jvm.MethodName) ({ cls := "SerialRecaps$Audience", name := "dropTold", desc := "(I)I" } : Jvm.MethodName)) ∈ zG := zG_of 506 (by decide +kernel) (by decide +kernel)
theorem wd_507 : (Jvm.Cond.code ({ cls := "SerialRecaps$Audience", name := "dropTold", desc := "(I)I" } : Jvm.MethodName) prog_2_method_10_code (3 : Nat) (Option.some Jvm.ClassFile.FieldType.int)) ∈ zG := zG_of 507 (by decide +kernel) (by decide +kernel)
theorem wd_508 : (Jvm.Cond.methodLink "SerialRecaps$Audience" (44 : Nat) ({ cls := "java/lang/Integer", name := "bitCount", desc := "(I)I" } : Jvm.MethodName)) ∈ zG := zG_of 508 (by decide +kernel) (by decide +kernel)
theorem wd_513 : (Jvm.Cond.methodLink "SerialRecaps" (122 : Nat) ({ cls := "SerialRecaps$State", name := "deliverUnread", desc := "(I)I" } : Jvm.MethodName)) ∈ zG := zG_of 513 (by decide +kernel) (by decide +kernel)
theorem wd_514 : (Jvm.Cond.instanceMethod ({ cls := "SerialRecaps$State", name := "deliverUnread", desc := "(I)I" } : Jvm.MethodName)) ∈ zG := zG_of 514 (by decide +kernel) (by decide +kernel)
theorem wd_515 : (Jvm.Cond.selects "SerialRecaps$State" ({ cls := "SerialRecaps$State", name := "deliverUnread", desc := "(I)I" } : Jvm.MethodName) ({ cls := "SerialRecaps$State", name := "deliverUnread", desc := "(I)I" } : Jvm.MethodName)) ∈ zG := zG_of 515 (by decide +kernel) (by decide +kernel)
theorem wd_516 : (Jvm.Cond.code ({ cls := "SerialRecaps$State", name := "deliverUnread", desc := "(I)I" } : Jvm.MethodName) prog_5_method_10_code (4 : Nat) (Option.some Jvm.ClassFile.FieldType.int)) ∈ zG := zG_of 516 (by decide +kernel) (by decide +kernel)
theorem wd_523 : (Jvm.Cond.methodLink "SerialRecaps" (132 : Nat) ({ cls := "SerialRecaps$Text", name := "put", desc := "(I)V" } : Jvm.MethodName)) ∈ zG := zG_of 523 (by decide +kernel) (by decide +kernel)
theorem wd_524 : (Jvm.Cond.instanceMethod ({ cls := "SerialRecaps$Text", name := "put", desc := "(I)V" } : Jvm.MethodName)) ∈ zG := zG_of 524 (by decide +kernel) (by decide +kernel)
theorem wd_525 : (Jvm.Cond.selects "SerialRecaps$Text" ({ cls := "SerialRecaps$Text", name := "put", desc := "(I)V" } : Jvm.MethodName) ({ cls := "SerialRecaps$Text", name := "put", desc := "(I)V" } : Jvm.MethodName)) ∈ zG := zG_of 525 (by decide +kernel) (by decide +kernel)
theorem wd_526 : (Jvm.Cond.code ({ cls := "SerialRecaps$Text", name := "put", desc := "(I)V" } : Jvm.MethodName) prog_7_method_2_code (2 : Nat) (Option.none : Option Jvm.ClassFile.FieldType)) ∈ zG := zG_of 526 (by decide +kernel) (by decide +kernel)
theorem wd_531 : (Jvm.Cond.methodLink "SerialRecaps" (138 : Nat) ({ cls := "SerialRecaps$Text", name := "isComplete", desc := "()Z" } : Jvm.MethodName)) ∈ zG := zG_of 531 (by decide +kernel) (by decide +kernel)
theorem wd_532 : (Jvm.Cond.instanceMethod ({ cls := "SerialRecaps$Text", name := "isComplete", desc := "()Z" } : Jvm.MethodName)) ∈ zG := zG_of 532 (by decide +kernel) (by decide +kernel)
theorem wd_533 : (Jvm.Cond.selects "SerialRecaps$Text" ({ cls := "SerialRecaps$Text", name := "isComplete", desc := "()Z" } : Jvm.MethodName) ({ cls := "SerialRecaps$Text", name := "isComplete", desc := "()Z" } : Jvm.MethodName)) ∈ zG := zG_of 533 (by decide +kernel) (by decide +kernel)
theorem wd_534 : (Jvm.Cond.code ({ cls := "SerialRecaps$Text", name := "isComplete", desc := "()Z" } : Jvm.MethodName) prog_7_method_4_code (1 : Nat) (Option.some Jvm.ClassFile.FieldType.boolean)) ∈ zG := zG_of 534 (by decide +kernel) (by decide +kernel)
theorem wd_535 : (Jvm.Cond.methodLink "SerialRecaps$Text" (33 : Nat) ({ cls := "SerialRecaps$Text", name := "readUntilError", desc := "()I" } : Jvm.MethodName)) ∈ zG := zG_of 535 (by decide +kernel) (by decide +kernel)
theorem wd_536 : (Jvm.Cond.instanceMethod ({ cls := "SerialRecaps$Text", name := "readUntilError", desc := "()I" } : Jvm.MethodName)) ∈ zG := zG_of 536 (by decide +kernel) (by decide +kernel)
theorem wd_537 : (Jvm.Cond.selects "SerialRecaps$Text" ({ cls := "SerialRecaps$Text", name := "readUntilError", desc := "()I" } : Jvm.MethodName) ({ cls := "SerialRecaps$Text", name := "readUntilError", desc := "()I" } : Jvm.MethodName)) ∈ zG := zG_of 537 (by decide +kernel) (by decide +kernel)
theorem wd_538 : (Jvm.Cond.code ({ cls := "SerialRecaps$Text", name := "readUntilError", desc := "()I" } : Jvm.MethodName) prog_7_method_3_code (2 : Nat) (Option.some Jvm.ClassFile.FieldType.int)) ∈ zG := zG_of 538 (by decide +kernel) (by decide +kernel)
theorem wd_539 : (Jvm.Cond.methodLink "SerialRecaps$Text" (26 : Nat) ({ cls := "SerialRecaps$Grammar", name := "restart", desc := "()V" } : Jvm.MethodName)) ∈ zG := zG_of 539 (by decide +kernel) (by decide +kernel)
theorem wd_540 : (Jvm.Cond.instanceMethod ({ cls := "SerialRecaps$Grammar", name := "restart", desc := "()V" } : Jvm.MethodName)) ∈ zG := zG_of 540 (by decide +kernel) (by decide +kernel)
theorem wd_541 : (Jvm.Cond.selects "SerialRecaps$Grammar" ({ cls := "SerialRecaps$Grammar", name := "restart", desc := "()V" } : Jvm.MethodName) ({ cls := "SerialRecaps$Grammar", name := "restart", desc := "()V" } : Jvm.MethodName)) ∈ zG := zG_of 541 (by decide +kernel) (by decide +kernel)
theorem wd_542 : (Jvm.Cond.code ({ cls := "SerialRecaps$Grammar", name := "restart", desc := "()V" } : Jvm.MethodName) prog_3_method_2_code (1 : Nat) (Option.none : Option Jvm.ClassFile.FieldType)) ∈ zG := zG_of 542 (by decide +kernel) (by decide +kernel)
theorem wd_543 : (Jvm.Cond.methodLink "SerialRecaps$Text" (29 : Nat) ({ cls := "SerialRecaps$Grammar", name := "takes", desc := "(I)Z" } : Jvm.MethodName)) ∈ zG := zG_of 543 (by decide +kernel) (by decide +kernel)
theorem wd_544 : (Jvm.Cond.instanceMethod ({ cls := "SerialRecaps$Grammar", name := "takes", desc := "(I)Z" } : Jvm.MethodName)) ∈ zG := zG_of 544 (by decide +kernel) (by decide +kernel)
theorem wd_545 : (Jvm.Cond.selects "SerialRecaps$Grammar" ({ cls := "SerialRecaps$Grammar", name := "takes", desc := "(I)Z" } : Jvm.MethodName) ({ cls := "SerialRecaps$Grammar", name := "takes", desc := "(I)Z" } : Jvm.MethodName)) ∈ zG := zG_of 545 (by decide +kernel) (by decide +kernel)
theorem wd_546 : (Jvm.Cond.code ({ cls := "SerialRecaps$Grammar", name := "takes", desc := "(I)Z" } : Jvm.MethodName) prog_3_method_4_code (2 : Nat) (Option.some Jvm.ClassFile.FieldType.boolean)) ∈ zG := zG_of 546 (by decide +kernel) (by decide +kernel)
theorem wd_547 : (Jvm.Cond.methodLink "SerialRecaps$Grammar" (24 : Nat) ({ cls := "SerialRecaps$Grammar", name := "takesPlot", desc := "(I)Z" } : Jvm.MethodName)) ∈ zG := zG_of 547 (by decide +kernel) (by decide +kernel)
theorem wd_549 : (Jvm.Cond.instanceMethod ({ cls := "SerialRecaps$Grammar", name := "takesPlot", desc := "(I)Z" } : Jvm.MethodName)) ∈ zG := zG_of 549 (by decide +kernel) (by decide +kernel)
theorem wd_550 : (Jvm.Cond.code ({ cls := "SerialRecaps$Grammar", name := "takesPlot", desc := "(I)Z" } : Jvm.MethodName) prog_3_method_5_code (3 : Nat) (Option.some Jvm.ClassFile.FieldType.boolean)) ∈ zG := zG_of 550 (by decide +kernel) (by decide +kernel)
theorem wd_551 : (Jvm.Cond.methodLink "SerialRecaps$Grammar" (28 : Nat) ({ cls := "SerialRecaps$Grammar", name := "takesSign", desc := "(ICI)Z" } : Jvm.MethodName)) ∈ zG := zG_of 551 (by decide +kernel) (by decide +kernel)
theorem wd_553 : (Jvm.Cond.instanceMethod ({ cls := "SerialRecaps$Grammar", name := "takesSign", desc := "(ICI)Z" } : Jvm.MethodName)) ∈ zG := zG_of 553 (by decide +kernel) (by decide +kernel)
theorem wd_554 : (Jvm.Cond.code ({ cls := "SerialRecaps$Grammar", name := "takesSign", desc := "(ICI)Z" } : Jvm.MethodName) prog_3_method_8_code (4 : Nat) (Option.some Jvm.ClassFile.FieldType.boolean)) ∈ zG := zG_of 554 (by decide +kernel) (by decide +kernel)
theorem wd_555 : (Jvm.Cond.methodLink "SerialRecaps$Grammar" (32 : Nat) ({ cls := "SerialRecaps$Grammar", name := "takesEnd", desc := "(I)Z" } : Jvm.MethodName)) ∈ zG := zG_of 555 (by decide +kernel) (by decide +kernel)
theorem wd_557 : (Jvm.Cond.instanceMethod ({ cls := "SerialRecaps$Grammar", name := "takesEnd", desc := "(I)Z" } : Jvm.MethodName)) ∈ zG := zG_of 557 (by decide +kernel) (by decide +kernel)
theorem wd_558 : (Jvm.Cond.code ({ cls := "SerialRecaps$Grammar", name := "takesEnd", desc := "(I)Z" } : Jvm.MethodName) prog_3_method_9_code (2 : Nat) (Option.some Jvm.ClassFile.FieldType.boolean)) ∈ zG := zG_of 558 (by decide +kernel) (by decide +kernel)
theorem wd_559 : (Jvm.Cond.methodLink "SerialRecaps$Grammar" (46 : Nat) ({ cls := "SerialRecaps$Grammar", name := "restart", desc := "()V" } : Jvm.MethodName)) ∈ zG := zG_of 559 (by decide +kernel) (by decide +kernel)
theorem wd_560 : (Jvm.Cond.methodLink "SerialRecaps$Grammar" (35 : Nat) ({ cls := "SerialRecaps$Grammar", name := "takesCliff", desc := "(I)Z" } : Jvm.MethodName)) ∈ zG := zG_of 560 (by decide +kernel) (by decide +kernel)
theorem wd_562 : (Jvm.Cond.instanceMethod ({ cls := "SerialRecaps$Grammar", name := "takesCliff", desc := "(I)Z" } : Jvm.MethodName)) ∈ zG := zG_of 562 (by decide +kernel) (by decide +kernel)
theorem wd_563 : (Jvm.Cond.code ({ cls := "SerialRecaps$Grammar", name := "takesCliff", desc := "(I)Z" } : Jvm.MethodName) prog_3_method_6_code (3 : Nat) (Option.some Jvm.ClassFile.FieldType.boolean)) ∈ zG := zG_of 563 (by decide +kernel) (by decide +kernel)
theorem wd_565 : (Jvm.Cond.methodLink "SerialRecaps$Grammar" (38 : Nat) ({ cls := "SerialRecaps$Grammar", name := "takesDigit", desc := "(III)Z" } : Jvm.MethodName)) ∈ zG := zG_of 565 (by decide +kernel) (by decide +kernel)
theorem wd_567 : (Jvm.Cond.instanceMethod ({ cls := "SerialRecaps$Grammar", name := "takesDigit", desc := "(III)Z" } : Jvm.MethodName)) ∈ zG := zG_of 567 (by decide +kernel) (by decide +kernel)
theorem wd_568 : (Jvm.Cond.code ({ cls := "SerialRecaps$Grammar", name := "takesDigit", desc := "(III)Z" } : Jvm.MethodName) prog_3_method_7_code (4 : Nat) (Option.some Jvm.ClassFile.FieldType.boolean)) ∈ zG := zG_of 568 (by decide +kernel) (by decide +kernel)
theorem wd_569 : (Jvm.Cond.methodLink "SerialRecaps$Text" (37 : Nat) ({ cls := "SerialRecaps$Grammar", name := "mayEnd", desc := "()Z" } : Jvm.MethodName)) ∈ zG := zG_of 569 (by decide +kernel) (by decide +kernel)
theorem wd_570 : (Jvm.Cond.instanceMethod ({ cls := "SerialRecaps$Grammar", name := "mayEnd", desc := "()Z" } : Jvm.MethodName)) ∈ zG := zG_of 570 (by decide +kernel) (by decide +kernel)
theorem wd_571 : (Jvm.Cond.selects "SerialRecaps$Grammar" ({ cls := "SerialRecaps$Grammar", name := "mayEnd", desc := "()Z" } : Jvm.MethodName) ({ cls := "SerialRecaps$Grammar", name := "mayEnd", desc := "()Z" } : Jvm.MethodName)) ∈ zG := zG_of 571 (by decide +kernel) (by decide +kernel)
theorem wd_572 : (Jvm.Cond.code ({ cls := "SerialRecaps$Grammar", name := "mayEnd", desc := "()Z" } : Jvm.MethodName) prog_3_method_3_code (1 : Nat) (Option.some Jvm.ClassFile.FieldType.boolean)) ∈ zG := zG_of 572 (by decide +kernel) (by decide +kernel)
theorem wd_574 : (Jvm.Cond.methodLink "SerialRecaps" (144 : Nat) ({ cls := "SerialRecaps$Text", name := "completeParts", desc := "()I" } : Jvm.MethodName)) ∈ zG := zG_of 574 (by decide +kernel) (by decide +kernel)
theorem wd_575 : (Jvm.Cond.instanceMethod ({ cls := "SerialRecaps$Text", name := "completeParts", desc := "()I" } : Jvm.MethodName)) ∈ zG := zG_of 575 (by decide +kernel) (by decide +kernel)
theorem wd_576 : (Jvm.Cond.selects "SerialRecaps$Text" ({ cls := "SerialRecaps$Text", name := "completeParts", desc := "()I" } : Jvm.MethodName) ({ cls := "SerialRecaps$Text", name := "completeParts", desc := "()I" } : Jvm.MethodName)) ∈ zG := zG_of 576 (by decide +kernel) (by decide +kernel)
theorem wd_577 : (Jvm.Cond.code ({ cls := "SerialRecaps$Text", name := "completeParts", desc := "()I" } : Jvm.MethodName) prog_7_method_5_code (3 : Nat) (Option.some Jvm.ClassFile.FieldType.int)) ∈ zG := zG_of 577 (by decide +kernel) (by decide +kernel)
theorem wd_579 : (Jvm.Cond.methodLink "SerialRecaps" (149 : Nat) ({ cls := "SerialRecaps$Text", name := "tellTo", desc := "(LSerialRecaps$Story;)V" } : Jvm.MethodName)) ∈ zG := zG_of 579 (by decide +kernel) (by decide +kernel)
theorem wd_580 : (Jvm.Cond.instanceMethod ({ cls := "SerialRecaps$Text", name := "tellTo", desc := "(LSerialRecaps$Story;)V" } : Jvm.MethodName)) ∈ zG := zG_of 580 (by decide +kernel) (by decide +kernel)
theorem wd_581 : (Jvm.Cond.selects "SerialRecaps$Text" ({ cls := "SerialRecaps$Text", name := "tellTo", desc := "(LSerialRecaps$Story;)V" } : Jvm.MethodName) ({ cls := "SerialRecaps$Text", name := "tellTo", desc := "(LSerialRecaps$Story;)V" } : Jvm.MethodName)) ∈ zG := zG_of 581 (by decide +kernel) (by decide +kernel)
theorem wd_582 : (Jvm.Cond.code ({ cls := "SerialRecaps$Text", name := "tellTo", desc := "(LSerialRecaps$Story;)V" } : Jvm.MethodName) prog_7_method_6_code (3 : Nat) (Option.none : Option Jvm.ClassFile.FieldType)) ∈ zG := zG_of 582 (by decide +kernel) (by decide +kernel)
theorem wd_583 : (Jvm.Cond.methodLink "SerialRecaps$Text" (50 : Nat) ({ cls := "SerialRecaps$Story", name := "put", desc := "(III)V" } : Jvm.MethodName)) ∈ zG := zG_of 583 (by decide +kernel) (by decide +kernel)
theorem wd_588 : (Jvm.Cond.methodLink "SerialRecaps" (171 : Nat) ({ cls := "SerialRecaps$State", name := "ofPart", desc := "(II)I" } : Jvm.MethodName)) ∈ zG := zG_of 588 (by decide +kernel) (by decide +kernel)
theorem wd_589 : (Jvm.Cond.instanceMethod ({ cls := "SerialRecaps$State", name := "ofPart", desc := "(II)I" } : Jvm.MethodName)) ∈ zG := zG_of 589 (by decide +kernel) (by decide +kernel)
theorem wd_590 : (Jvm.Cond.selects "SerialRecaps$State" ({ cls := "SerialRecaps$State", name := "ofPart", desc := "(II)I" } : Jvm.MethodName) ({ cls := "SerialRecaps$State", name := "ofPart", desc := "(II)I" } : Jvm.MethodName)) ∈ zG := zG_of 590 (by decide +kernel) (by decide +kernel)
theorem wd_591 : (Jvm.Cond.code ({ cls := "SerialRecaps$State", name := "ofPart", desc := "(II)I" } : Jvm.MethodName) prog_5_method_11_code (3 : Nat) (Option.some Jvm.ClassFile.FieldType.int)) ∈ zG := zG_of 591 (by decide +kernel) (by decide +kernel)
theorem wd_592 : (Jvm.Cond.methodLink "SerialRecaps$State" (112 : Nat) ({ cls := "SerialRecaps$Story", name := "howManyNeed", desc := "(I)I" } : Jvm.MethodName)) ∈ zG := zG_of 592 (by decide +kernel) (by decide +kernel)
theorem wd_593 : (Jvm.Cond.instanceMethod ({ cls := "SerialRecaps$Story", name := "howManyNeed", desc := "(I)I" } : Jvm.MethodName)) ∈ zG := zG_of 593 (by decide +kernel) (by decide +kernel)
theorem wd_594 : (Jvm.Cond.selects "SerialRecaps$Story" ({ cls := "SerialRecaps$Story", name := "howManyNeed", desc := "(I)I" } : Jvm.MethodName) ({ cls := "SerialRecaps$Story", name := "howManyNeed", desc := "(I)I" } : Jvm.MethodName)) ∈ zG := zG_of 594 (by decide +kernel) (by decide +kernel)
theorem wd_595 : (Jvm.Cond.code ({ cls := "SerialRecaps$Story", name := "howManyNeed", desc := "(I)I" } : Jvm.MethodName) prog_6_method_7_code (4 : Nat) (Option.some Jvm.ClassFile.FieldType.int)) ∈ zG := zG_of 595 (by decide +kernel) (by decide +kernel)
theorem wd_596 : (Jvm.Cond.methodLink "SerialRecaps$State" (115 : Nat) ({ cls := "SerialRecaps$Audience", name := "whoRead", desc := "(I)I" } : Jvm.MethodName)) ∈ zG := zG_of 596 (by decide +kernel) (by decide +kernel)
theorem wd_601 : (Jvm.Cond.methodLink "SerialRecaps" (174 : Nat) ({ cls := "SerialRecaps$Audience", name := "knowledge", desc := "(II)I" } : Jvm.MethodName)) ∈ zG := zG_of 601 (by decide +kernel) (by decide +kernel)
theorem wd_602 : (Jvm.Cond.instanceMethod ({ cls := "SerialRecaps$Audience", name := "knowledge", desc := "(II)I" } : Jvm.MethodName)) ∈ zG := zG_of 602 (by decide +kernel) (by decide +kernel)
theorem wd_603 : (Jvm.Cond.selects "SerialRecaps$Audience" ({ cls := "SerialRecaps$Audience", name := "knowledge", desc := "(II)I" } : Jvm.MethodName) ({ cls := "SerialRecaps$Audience", name := "knowledge", desc := "(II)I" } : Jvm.MethodName)) ∈ zG := zG_of 603 (by decide +kernel) (by decide +kernel)
theorem wd_604 : (Jvm.Cond.code ({ cls := "SerialRecaps$Audience", name := "knowledge", desc := "(II)I" } : Jvm.MethodName) prog_2_method_5_code (3 : Nat) (Option.some Jvm.ClassFile.FieldType.int)) ∈ zG := zG_of 604 (by decide +kernel) (by decide +kernel)
theorem wd_609 : (Jvm.Cond.methodLink "SerialRecaps" (177 : Nat) ({ cls := "SerialRecaps$State", name := "ofReader", desc := "(II)I" } : Jvm.MethodName)) ∈ zG := zG_of 609 (by decide +kernel) (by decide +kernel)
theorem wd_610 : (Jvm.Cond.instanceMethod ({ cls := "SerialRecaps$State", name := "ofReader", desc := "(II)I" } : Jvm.MethodName)) ∈ zG := zG_of 610 (by decide +kernel) (by decide +kernel)
theorem wd_611 : (Jvm.Cond.selects "SerialRecaps$State" ({ cls := "SerialRecaps$State", name := "ofReader", desc := "(II)I" } : Jvm.MethodName) ({ cls := "SerialRecaps$State", name := "ofReader", desc := "(II)I" } : Jvm.MethodName)) ∈ zG := zG_of 611 (by decide +kernel) (by decide +kernel)
theorem wd_612 : (Jvm.Cond.code ({ cls := "SerialRecaps$State", name := "ofReader", desc := "(II)I" } : Jvm.MethodName) prog_5_method_12_code (3 : Nat) (Option.some Jvm.ClassFile.FieldType.int)) ∈ zG := zG_of 612 (by decide +kernel) (by decide +kernel)
theorem wd_613 : (Jvm.Cond.methodLink "SerialRecaps$State" (128 : Nat) ({ cls := "SerialRecaps$Story", name := "openCliffs", desc := "(I)I" } : Jvm.MethodName)) ∈ zG := zG_of 613 (by decide +kernel) (by decide +kernel)
theorem wd_614 : (Jvm.Cond.instanceMethod ({ cls := "SerialRecaps$Story", name := "openCliffs", desc := "(I)I" } : Jvm.MethodName)) ∈ zG := zG_of 614 (by decide +kernel) (by decide +kernel)
theorem wd_615 : (Jvm.Cond.selects "SerialRecaps$Story" ({ cls := "SerialRecaps$Story", name := "openCliffs", desc := "(I)I" } : Jvm.MethodName) ({ cls := "SerialRecaps$Story", name := "openCliffs", desc := "(I)I" } : Jvm.MethodName)) ∈ zG := zG_of 615 (by decide +kernel) (by decide +kernel)
theorem wd_616 : (Jvm.Cond.code ({ cls := "SerialRecaps$Story", name := "openCliffs", desc := "(I)I" } : Jvm.MethodName) prog_6_method_13_code (5 : Nat) (Option.some Jvm.ClassFile.FieldType.int)) ∈ zG := zG_of 616 (by decide +kernel) (by decide +kernel)
theorem wd_622 : (Jvm.Cond.methodLink "SerialRecaps" (185 : Nat) ({ cls := "SerialRecaps$State", name := "ofPlot", desc := "(II)I" } : Jvm.MethodName)) ∈ zG := zG_of 622 (by decide +kernel) (by decide +kernel)
theorem wd_623 : (Jvm.Cond.instanceMethod ({ cls := "SerialRecaps$State", name := "ofPlot", desc := "(II)I" } : Jvm.MethodName)) ∈ zG := zG_of 623 (by decide +kernel) (by decide +kernel)
theorem wd_624 : (Jvm.Cond.selects "SerialRecaps$State" ({ cls := "SerialRecaps$State", name := "ofPlot", desc := "(II)I" } : Jvm.MethodName) ({ cls := "SerialRecaps$State", name := "ofPlot", desc := "(II)I" } : Jvm.MethodName)) ∈ zG := zG_of 624 (by decide +kernel) (by decide +kernel)
theorem wd_625 : (Jvm.Cond.code ({ cls := "SerialRecaps$State", name := "ofPlot", desc := "(II)I" } : Jvm.MethodName) prog_5_method_13_code (3 : Nat) (Option.some Jvm.ClassFile.FieldType.int)) ∈ zG := zG_of 625 (by decide +kernel) (by decide +kernel)
theorem wd_626 : (Jvm.Cond.methodLink "SerialRecaps$State" (131 : Nat) ({ cls := "SerialRecaps$Story", name := "howManyGoOnWith", desc := "(I)I" } : Jvm.MethodName)) ∈ zG := zG_of 626 (by decide +kernel) (by decide +kernel)
theorem wd_627 : (Jvm.Cond.instanceMethod ({ cls := "SerialRecaps$Story", name := "howManyGoOnWith", desc := "(I)I" } : Jvm.MethodName)) ∈ zG := zG_of 627 (by decide +kernel) (by decide +kernel)
theorem wd_628 : (Jvm.Cond.selects "SerialRecaps$Story" ({ cls := "SerialRecaps$Story", name := "howManyGoOnWith", desc := "(I)I" } : Jvm.MethodName) ({ cls := "SerialRecaps$Story", name := "howManyGoOnWith", desc := "(I)I" } : Jvm.MethodName)) ∈ zG := zG_of 628 (by decide +kernel) (by decide +kernel)
theorem wd_629 : (Jvm.Cond.code ({ cls := "SerialRecaps$Story", name := "howManyGoOnWith", desc := "(I)I" } : Jvm.MethodName) prog_6_method_10_code (4 : Nat) (Option.some Jvm.ClassFile.FieldType.int)) ∈ zG := zG_of 629 (by decide +kernel) (by decide +kernel)
theorem wd_630 : (Jvm.Cond.methodLink "SerialRecaps$State" (134 : Nat) ({ cls := "SerialRecaps$Story", name := "latestWith", desc := "(I)I" } : Jvm.MethodName)) ∈ zG := zG_of 630 (by decide +kernel) (by decide +kernel)
theorem wd_631 : (Jvm.Cond.instanceMethod ({ cls := "SerialRecaps$Story", name := "latestWith", desc := "(I)I" } : Jvm.MethodName)) ∈ zG := zG_of 631 (by decide +kernel) (by decide +kernel)
theorem wd_632 : (Jvm.Cond.selects "SerialRecaps$Story" ({ cls := "SerialRecaps$Story", name := "latestWith", desc := "(I)I" } : Jvm.MethodName) ({ cls := "SerialRecaps$Story", name := "latestWith", desc := "(I)I" } : Jvm.MethodName)) ∈ zG := zG_of 632 (by decide +kernel) (by decide +kernel)
theorem wd_633 : (Jvm.Cond.code ({ cls := "SerialRecaps$Story", name := "latestWith", desc := "(I)I" } : Jvm.MethodName) prog_6_method_11_code (3 : Nat) (Option.some Jvm.ClassFile.FieldType.int)) ∈ zG := zG_of 633 (by decide +kernel) (by decide +kernel)
theorem wd_634 : (Jvm.Cond.methodLink "SerialRecaps$State" (137 : Nat) ({ cls := "SerialRecaps$Story", name := "howManyCliffs", desc := "(I)I" } : Jvm.MethodName)) ∈ zG := zG_of 634 (by decide +kernel) (by decide +kernel)
theorem wd_635 : (Jvm.Cond.instanceMethod ({ cls := "SerialRecaps$Story", name := "howManyCliffs", desc := "(I)I" } : Jvm.MethodName)) ∈ zG := zG_of 635 (by decide +kernel) (by decide +kernel)
theorem wd_636 : (Jvm.Cond.selects "SerialRecaps$Story" ({ cls := "SerialRecaps$Story", name := "howManyCliffs", desc := "(I)I" } : Jvm.MethodName) ({ cls := "SerialRecaps$Story", name := "howManyCliffs", desc := "(I)I" } : Jvm.MethodName)) ∈ zG := zG_of 636 (by decide +kernel) (by decide +kernel)
theorem wd_637 : (Jvm.Cond.code ({ cls := "SerialRecaps$Story", name := "howManyCliffs", desc := "(I)I" } : Jvm.MethodName) prog_6_method_12_code (4 : Nat) (Option.some Jvm.ClassFile.FieldType.int)) ∈ zG := zG_of 637 (by decide +kernel) (by decide +kernel)
theorem wd_638 : (Jvm.Cond.methodLink "SerialRecaps$State" (140 : Nat) ({ cls := "SerialRecaps$State", name := "howManyHang", desc := "(I)I" } : Jvm.MethodName)) ∈ zG := zG_of 638 (by decide +kernel) (by decide +kernel)
theorem wd_640 : (Jvm.Cond.instanceMethod ({ cls := "SerialRecaps$State", name := "howManyHang", desc := "(I)I" } : Jvm.MethodName)) ∈ zG := zG_of 640 (by decide +kernel) (by decide +kernel)
theorem wd_641 : (Jvm.Cond.code ({ cls := "SerialRecaps$State", name := "howManyHang", desc := "(I)I" } : Jvm.MethodName) prog_5_method_14_code (4 : Nat) (Option.some Jvm.ClassFile.FieldType.int)) ∈ zG := zG_of 641 (by decide +kernel) (by decide +kernel)
theorem wd_650 : (Jvm.Cond.methodLink "SerialRecaps" (191 : Nat) ({ cls := "SerialRecaps$State", name := "ofRecap", desc := "(III)I" } : Jvm.MethodName)) ∈ zG := zG_of 650 (by decide +kernel) (by decide +kernel)
theorem wd_651 : (Jvm.Cond.instanceMethod ({ cls := "SerialRecaps$State", name := "ofRecap", desc := "(III)I" } : Jvm.MethodName)) ∈ zG := zG_of 651 (by decide +kernel) (by decide +kernel)
theorem wd_652 : (Jvm.Cond.selects "SerialRecaps$State" ({ cls := "SerialRecaps$State", name := "ofRecap", desc := "(III)I" } : Jvm.MethodName) ({ cls := "SerialRecaps$State", name := "ofRecap", desc := "(III)I" } : Jvm.MethodName)) ∈ zG := zG_of 652 (by decide +kernel) (by decide +kernel)
theorem wd_653 : (Jvm.Cond.code ({ cls := "SerialRecaps$State", name := "ofRecap", desc := "(III)I" } : Jvm.MethodName) prog_5_method_7_code (6 : Nat) (Option.some Jvm.ClassFile.FieldType.int)) ∈ zG := zG_of 653 (by decide +kernel) (by decide +kernel)
theorem wd_658 : (Jvm.Cond.methodLink "SerialRecaps" (194 : Nat) ({ cls := "SerialRecaps$State", name := "bestPart", desc := "(I)I" } : Jvm.MethodName)) ∈ zG := zG_of 658 (by decide +kernel) (by decide +kernel)
theorem wd_659 : (Jvm.Cond.instanceMethod ({ cls := "SerialRecaps$State", name := "bestPart", desc := "(I)I" } : Jvm.MethodName)) ∈ zG := zG_of 659 (by decide +kernel) (by decide +kernel)
theorem wd_660 : (Jvm.Cond.selects "SerialRecaps$State" ({ cls := "SerialRecaps$State", name := "bestPart", desc := "(I)I" } : Jvm.MethodName) ({ cls := "SerialRecaps$State", name := "bestPart", desc := "(I)I" } : Jvm.MethodName)) ∈ zG := zG_of 660 (by decide +kernel) (by decide +kernel)
theorem wd_661 : (Jvm.Cond.code ({ cls := "SerialRecaps$State", name := "bestPart", desc := "(I)I" } : Jvm.MethodName) prog_5_method_16_code (9 : Nat) (Option.some Jvm.ClassFile.FieldType.int)) ∈ zG := zG_of 661 (by decide +kernel) (by decide +kernel)
theorem wd_662 : (Jvm.Cond.methodLink "SerialRecaps$State" (152 : Nat) ({ cls := "SerialRecaps$State", name := "ofRecap", desc := "(III)I" } : Jvm.MethodName)) ∈ zG := zG_of 662 (by decide +kernel) (by decide +kernel)
theorem wd_667 : (Jvm.Cond.methodLink "SerialRecaps" (197 : Nat) ({ cls := "SerialRecaps$State", name := "linesForAll", desc := "(I)I" } : Jvm.MethodName)) ∈ zG := zG_of 667 (by decide +kernel) (by decide +kernel)
theorem wd_668 : (Jvm.Cond.instanceMethod ({ cls := "SerialRecaps$State", name := "linesForAll", desc := "(I)I" } : Jvm.MethodName)) ∈ zG := zG_of 668 (by decide +kernel) (by decide +kernel)
theorem wd_669 : (Jvm.Cond.selects "SerialRecaps$State" ({ cls := "SerialRecaps$State", name := "linesForAll", desc := "(I)I" } : Jvm.MethodName) ({ cls := "SerialRecaps$State", name := "linesForAll", desc := "(I)I" } : Jvm.MethodName)) ∈ zG := zG_of 669 (by decide +kernel) (by decide +kernel)
theorem wd_670 : (Jvm.Cond.code ({ cls := "SerialRecaps$State", name := "linesForAll", desc := "(I)I" } : Jvm.MethodName) prog_5_method_17_code (4 : Nat) (Option.some Jvm.ClassFile.FieldType.int)) ∈ zG := zG_of 670 (by decide +kernel) (by decide +kernel)
theorem wd_671 : (Jvm.Cond.methodLink "SerialRecaps$State" (156 : Nat) ({ cls := "java/lang/Math", name := "max", desc := "(II)I" } : Jvm.MethodName)) ∈ zG := zG_of 671 (by decide +kernel) (by decide +kernel)
theorem wd_672 : (Jvm.Cond.static ({ cls := "java/lang/Math", name := "max", desc := "(II)I" } : Jvm.MethodName)) ∈ zG := zG_of 672 (by decide +kernel) (by decide +kernel)
theorem wd_673 : (Jvm.Cond.code ({ cls := "java/lang/Math", name := "max", desc := "(II)I" } : Jvm.MethodName) prog_15_method_65_code (2 : Nat) (Option.some Jvm.ClassFile.FieldType.int)) ∈ zG := zG_of 673 (by decide +kernel) (by decide +kernel)
theorem wd_681 : (Jvm.Cond.constantLong "SerialRecaps" (204 : Nat) (2803 : Int64)) ∈ zG := zG_of 681 (by decide +kernel) (by decide +kernel)
theorem wd_682 : (Jvm.Cond.methodLink "SerialRecaps" (206 : Nat) ({ cls := "SerialRecaps", name := "mix", desc := "(JJ)J" } : Jvm.MethodName)) ∈ zG := zG_of 682 (by decide +kernel) (by decide +kernel)
theorem wd_683 : (Jvm.Cond.static ({ cls := "SerialRecaps", name := "mix", desc := "(JJ)J" } : Jvm.MethodName)) ∈ zG := zG_of 683 (by decide +kernel) (by decide +kernel)
theorem wd_684 : (Jvm.Cond.code ({ cls := "SerialRecaps", name := "mix", desc := "(JJ)J" } : Jvm.MethodName) prog_1_method_26_code (4 : Nat) (Option.some Jvm.ClassFile.FieldType.long)) ∈ zG := zG_of 684 (by decide +kernel) (by decide +kernel)
theorem wd_685 : (Jvm.Cond.constantLong "SerialRecaps" (228 : Nat) (31 : Int64)) ∈ zG := zG_of 685 (by decide +kernel) (by decide +kernel)
theorem wd_686 : (Jvm.Cond.methodLink "SerialRecaps" (210 : Nat) ({ cls := "SerialRecaps", name := "mixParts", desc := "(J)J" } : Jvm.MethodName)) ∈ zG := zG_of 686 (by decide +kernel) (by decide +kernel)
theorem wd_688 : (Jvm.Cond.instanceMethod ({ cls := "SerialRecaps", name := "mixParts", desc := "(J)J" } : Jvm.MethodName)) ∈ zG := zG_of 688 (by decide +kernel) (by decide +kernel)
theorem wd_689 : (Jvm.Cond.code ({ cls := "SerialRecaps", name := "mixParts", desc := "(J)J" } : Jvm.MethodName) prog_1_method_27_code (7 : Nat) (Option.some Jvm.ClassFile.FieldType.long)) ∈ zG := zG_of 689 (by decide +kernel) (by decide +kernel)
theorem wd_690 : (Jvm.Cond.methodLink "SerialRecaps" (214 : Nat) ({ cls := "SerialRecaps", name := "mixReader", desc := "(JI)J" } : Jvm.MethodName)) ∈ zG := zG_of 690 (by decide +kernel) (by decide +kernel)
theorem wd_692 : (Jvm.Cond.instanceMethod ({ cls := "SerialRecaps", name := "mixReader", desc := "(JI)J" } : Jvm.MethodName)) ∈ zG := zG_of 692 (by decide +kernel) (by decide +kernel)
theorem wd_693 : (Jvm.Cond.code ({ cls := "SerialRecaps", name := "mixReader", desc := "(JI)J" } : Jvm.MethodName) prog_1_method_28_code (7 : Nat) (Option.some Jvm.ClassFile.FieldType.long)) ∈ zG := zG_of 693 (by decide +kernel) (by decide +kernel)
theorem wd_694 : (Jvm.Cond.methodLink "SerialRecaps" (218 : Nat) ({ cls := "SerialRecaps", name := "mixPlots", desc := "(J)J" } : Jvm.MethodName)) ∈ zG := zG_of 694 (by decide +kernel) (by decide +kernel)
theorem wd_696 : (Jvm.Cond.instanceMethod ({ cls := "SerialRecaps", name := "mixPlots", desc := "(J)J" } : Jvm.MethodName)) ∈ zG := zG_of 696 (by decide +kernel) (by decide +kernel)
theorem wd_697 : (Jvm.Cond.code ({ cls := "SerialRecaps", name := "mixPlots", desc := "(J)J" } : Jvm.MethodName) prog_1_method_29_code (7 : Nat) (Option.some Jvm.ClassFile.FieldType.long)) ∈ zG := zG_of 697 (by decide +kernel) (by decide +kernel)
theorem wd_698 : (Jvm.Cond.methodLink "SerialRecaps" (200 : Nat) ({ cls := "SerialRecaps$State", name := "shareRead", desc := "()D" } : Jvm.MethodName)) ∈ zG := zG_of 698 (by decide +kernel) (by decide +kernel)
theorem wd_699 : (Jvm.Cond.instanceMethod ({ cls := "SerialRecaps$State", name := "shareRead", desc := "()D" } : Jvm.MethodName)) ∈ zG := zG_of 699 (by decide +kernel) (by decide +kernel)
theorem wd_700 : (Jvm.Cond.selects "SerialRecaps$State" ({ cls := "SerialRecaps$State", name := "shareRead", desc := "()D" } : Jvm.MethodName) ({ cls := "SerialRecaps$State", name := "shareRead", desc := "()D" } : Jvm.MethodName)) ∈ zG := zG_of 700 (by decide +kernel) (by decide +kernel)
theorem wd_701 : (Jvm.Cond.code ({ cls := "SerialRecaps$State", name := "shareRead", desc := "()D" } : Jvm.MethodName) prog_5_method_18_code (1 : Nat) (Option.some Jvm.ClassFile.FieldType.double)) ∈ zG := zG_of 701 (by decide +kernel) (by decide +kernel)
theorem wd_702 : (Jvm.Cond.methodLink "SerialRecaps$State" (161 : Nat) ({ cls := "SerialRecaps$Audience", name := "sumOfRead", desc := "()I" } : Jvm.MethodName)) ∈ zG := zG_of 702 (by decide +kernel) (by decide +kernel)
theorem wd_703 : (Jvm.Cond.instanceMethod ({ cls := "SerialRecaps$Audience", name := "sumOfRead", desc := "()I" } : Jvm.MethodName)) ∈ zG := zG_of 703 (by decide +kernel) (by decide +kernel)
theorem wd_704 : (Jvm.Cond.selects "SerialRecaps$Audience" ({ cls := "SerialRecaps$Audience", name := "sumOfRead", desc := "()I" } : Jvm.MethodName) ({ cls := "SerialRecaps$Audience", name := "sumOfRead", desc := "()I" } : Jvm.MethodName)) ∈ zG := zG_of 704 (by decide +kernel) (by decide +kernel)
theorem wd_705 : (Jvm.Cond.code ({ cls := "SerialRecaps$Audience", name := "sumOfRead", desc := "()I" } : Jvm.MethodName) prog_2_method_9_code (3 : Nat) (Option.some Jvm.ClassFile.FieldType.int)) ∈ zG := zG_of 705 (by decide +kernel) (by decide +kernel)
theorem wd_706 : (Jvm.Cond.methodLink "SerialRecaps" (221 : Nat) ({ cls := "SerialRecaps", name := "bitsOfShare", desc := "(D)J" } : Jvm.MethodName)) ∈ zG := zG_of 706 (by decide +kernel) (by decide +kernel)
theorem wd_707 : (Jvm.Cond.static ({ cls := "SerialRecaps", name := "bitsOfShare", desc := "(D)J" } : Jvm.MethodName)) ∈ zG := zG_of 707 (by decide +kernel) (by decide +kernel)
theorem wd_708 : (Jvm.Cond.code ({ cls := "SerialRecaps", name := "bitsOfShare", desc := "(D)J" } : Jvm.MethodName) prog_1_method_31_code (7 : Nat) (Option.some Jvm.ClassFile.FieldType.long)) ∈ zG := zG_of 708 (by decide +kernel) (by decide +kernel)
theorem wd_709 : (Jvm.Cond.constantLong "SerialRecaps" (233 : Nat) (1023 : Int64)) ∈ zG := zG_of 709 (by decide +kernel) (by decide +kernel)
theorem wd_710 : (Jvm.Cond.constantDouble "SerialRecaps" (235 : Nat) (4611686018427387904 : UInt64)) ∈ zG := zG_of 710 (by decide +kernel) (by decide +kernel)
theorem wd_711 : (Jvm.Cond.constantDouble "SerialRecaps" (237 : Nat) (4841369599423283200 : UInt64)) ∈ zG := zG_of 711 (by decide +kernel) (by decide +kernel)
theorem wd_712 : (Jvm.Cond.methodLink "SerialRecaps" (225 : Nat) ({ cls := "SerialRecaps", name := "mixText", desc := "(J)J" } : Jvm.MethodName)) ∈ zG := zG_of 712 (by decide +kernel) (by decide +kernel)
theorem wd_714 : (Jvm.Cond.instanceMethod ({ cls := "SerialRecaps", name := "mixText", desc := "(J)J" } : Jvm.MethodName)) ∈ zG := zG_of 714 (by decide +kernel) (by decide +kernel)
theorem wd_715 : (Jvm.Cond.code ({ cls := "SerialRecaps", name := "mixText", desc := "(J)J" } : Jvm.MethodName) prog_1_method_30_code (6 : Nat) (Option.some Jvm.ClassFile.FieldType.long)) ∈ zG := zG_of 715 (by decide +kernel) (by decide +kernel)
theorem wd_745 : (Jvm.Cond.methodLink "SerialRecaps" (134 : Nat) ({ cls := "SerialRecaps$Text", name := "readUntilError", desc := "()I" } : Jvm.MethodName)) ∈ zG := zG_of 745 (by decide +kernel) (by decide +kernel)
theorem kb_10 : (Int8.ofInt 10).toInt32 = 10 := by decide
theorem kb_119 : (Int8.ofInt 119).toInt32 = 119 := by decide
theorem kb_126 : (Int8.ofInt 126).toInt32 = 126 := by decide
theorem kb_16 : (Int8.ofInt 16).toInt32 = 16 := by decide
theorem kb_19 : (Int8.ofInt 19).toInt32 = 19 := by decide
theorem kb_20 : (Int8.ofInt 20).toInt32 = 20 := by decide
theorem kb_33 : (Int8.ofInt 33).toInt32 = 33 := by decide
theorem kb_48 : (Int8.ofInt 48).toInt32 = 48 := by decide
theorem kb_52 : (Int8.ofInt 52).toInt32 = 52 := by decide
theorem kb_57 : (Int8.ofInt 57).toInt32 = 57 := by decide
theorem kb_59 : (Int8.ofInt 59).toInt32 = 59 := by decide
theorem kb_6 : (Int8.ofInt 6).toInt32 = 6 := by decide
theorem kb_60 : (Int8.ofInt 60).toInt32 = 60 := by decide
theorem kb_63 : (Int8.ofInt 63).toInt32 = 63 := by decide
theorem kb_8 : (Int8.ofInt 8).toInt32 = 8 := by decide
theorem kb_99 : (Int8.ofInt 99).toInt32 = 99 := by decide
theorem ki_0 : Int32.ofInt 0 = 0 := by decide
theorem ki_1 : Int32.ofInt 1 = 1 := by decide
theorem ki_2 : Int32.ofInt 2 = 2 := by decide
theorem ki_3 : Int32.ofInt 3 = 3 := by decide
theorem ki_4 : Int32.ofInt 4 = 4 := by decide
theorem ki_5 : Int32.ofInt 5 = 5 := by decide
theorem ki_m1 : Int32.ofInt (-1) = (-1) := by decide
theorem kl_0 : Int64.ofInt 0 = 0 := by decide
theorem kl_1 : Int64.ofInt 1 = 1 := by decide
theorem ok_J6_bitCount_0f7a4 : zOK yJ6_bitCount_0f7a4 1 := by unfold zOK; decide +kernel
theorem ok_X0_copyFrom : zOK yX0_copyFrom 1 := by unfold zOK; decide +kernel
theorem ok_X0_dropPart : zOK yX0_dropPart 1 := by unfold zOK; decide +kernel
theorem ok_X0_dropTold : zOK yX0_dropTold 1 := by unfold zOK; decide +kernel
theorem ok_X0_hasRead : zOK yX0_hasRead 2 := by unfold zOK; decide +kernel
theorem ok_X0_howManyKnowAll : zOK yX0_howManyKnowAll 1 := by unfold zOK; decide +kernel
theorem ok_X0_init : zOK yX0_init 0 := by unfold zOK; decide +kernel
theorem ok_X0_knowledge : zOK yX0_knowledge 2 := by unfold zOK; decide +kernel
theorem ok_X0_known : zOK yX0_known 1 := by unfold zOK; decide +kernel
theorem ok_X0_sumOfRead : zOK yX0_sumOfRead 0 := by unfold zOK; decide +kernel
theorem ok_X0_sumOfWordsRead : zOK yX0_sumOfWordsRead 0 := by unfold zOK; decide +kernel
theorem ok_X0_takeIn : zOK yX0_takeIn 3 := by unfold zOK; decide +kernel
theorem ok_X0_whoRead : zOK yX0_whoRead 1 := by unfold zOK; decide +kernel
theorem ok_X1_init : zOK yX1_init 0 := by unfold zOK; decide +kernel
theorem ok_X1_mayEnd : zOK yX1_mayEnd 0 := by unfold zOK; decide +kernel
theorem ok_X1_restart : zOK yX1_restart 0 := by unfold zOK; decide +kernel
theorem ok_X1_takes : zOK yX1_takes 1 := by unfold zOK; decide +kernel
theorem ok_X1_takesCliff : zOK yX1_takesCliff 1 := by unfold zOK; decide +kernel
theorem ok_X1_takesDigit : zOK yX1_takesDigit 3 := by unfold zOK; decide +kernel
theorem ok_X1_takesEnd : zOK yX1_takesEnd 1 := by unfold zOK; decide +kernel
theorem ok_X1_takesPlot : zOK yX1_takesPlot 1 := by unfold zOK; decide +kernel
theorem ok_X1_takesSign : zOK yX1_takesSign 3 := by unfold zOK; decide +kernel
theorem ok_X2_dropLatest : zOK yX2_dropLatest 0 := by unfold zOK; decide +kernel
theorem ok_X2_init : zOK yX2_init 0 := by unfold zOK; decide +kernel
theorem ok_X2_keep : zOK yX2_keep 1 := by unfold zOK; decide +kernel
theorem ok_X2_latest : zOK yX2_latest 0 := by unfold zOK; decide +kernel
theorem ok_X3_bestPart : zOK yX3_bestPart 1 := by unfold zOK; decide +kernel
theorem ok_X3_copyFrom : zOK yX3_copyFrom 1 := by unfold zOK; decide +kernel
theorem ok_X3_deliver : zOK yX3_deliver 2 := by unfold zOK; decide +kernel
theorem ok_X3_deliverToAll : zOK yX3_deliverToAll 2 := by unfold zOK; decide +kernel
theorem ok_X3_deliverUnread : zOK yX3_deliverUnread 1 := by unfold zOK; decide +kernel
theorem ok_X3_howManyHang : zOK yX3_howManyHang 1 := by unfold zOK; decide +kernel
theorem ok_X3_init : zOK yX3_init 0 := by unfold zOK; decide +kernel
theorem ok_X3_lineWords : zOK yX3_lineWords 1 := by unfold zOK; decide +kernel
theorem ok_X3_linesForAll : zOK yX3_linesForAll 1 := by unfold zOK; decide +kernel
theorem ok_X3_missedParts : zOK yX3_missedParts 2 := by unfold zOK; decide +kernel
theorem ok_X3_ofAll : zOK yX3_ofAll 1 := by unfold zOK; decide +kernel
theorem ok_X3_ofPart : zOK yX3_ofPart 2 := by unfold zOK; decide +kernel
theorem ok_X3_ofPlot : zOK yX3_ofPlot 2 := by unfold zOK; decide +kernel
theorem ok_X3_ofReader : zOK yX3_ofReader 2 := by unfold zOK; decide +kernel
theorem ok_X3_ofRecap : zOK yX3_ofRecap 3 := by unfold zOK; decide +kernel
theorem ok_X3_shareRead : zOK yX3_shareRead 0 := by unfold zOK; decide +kernel
theorem ok_X3_shortened : zOK yX3_shortened 1 := by unfold zOK; decide +kernel
theorem ok_X3_toldParts : zOK yX3_toldParts 1 := by unfold zOK; decide +kernel
theorem ok_X4_allNeeds : zOK yX4_allNeeds 2 := by unfold zOK; decide +kernel
theorem ok_X4_copyFrom : zOK yX4_copyFrom 1 := by unfold zOK; decide +kernel
theorem ok_X4_everyPart : zOK yX4_everyPart 0 := by unfold zOK; decide +kernel
theorem ok_X4_findNeeds : zOK yX4_findNeeds 1 := by unfold zOK; decide +kernel
theorem ok_X4_howManyCliffs : zOK yX4_howManyCliffs 1 := by unfold zOK; decide +kernel
theorem ok_X4_howManyGoOnWith : zOK yX4_howManyGoOnWith 1 := by unfold zOK; decide +kernel
theorem ok_X4_howManyNeed : zOK yX4_howManyNeed 1 := by unfold zOK; decide +kernel
theorem ok_X4_init : zOK yX4_init 0 := by unfold zOK; decide +kernel
theorem ok_X4_latestWith : zOK yX4_latestWith 1 := by unfold zOK; decide +kernel
theorem ok_X4_openCliffs : zOK yX4_openCliffs 1 := by unfold zOK; decide +kernel
theorem ok_X4_put : zOK yX4_put 3 := by unfold zOK; decide +kernel
theorem ok_X4_rewrite : zOK yX4_rewrite 3 := by unfold zOK; decide +kernel
theorem ok_X4_sumOfWords : zOK yX4_sumOfWords 0 := by unfold zOK; decide +kernel
theorem ok_X5_completeParts : zOK yX5_completeParts 0 := by unfold zOK; decide +kernel
theorem ok_X5_init : zOK yX5_init 0 := by unfold zOK; decide +kernel
theorem ok_X5_isComplete : zOK yX5_isComplete 0 := by unfold zOK; decide +kernel
theorem ok_X5_put : zOK yX5_put 1 := by unfold zOK; decide +kernel
theorem ok_X5_readUntilError : zOK yX5_readUntilError 0 := by unfold zOK; decide +kernel
theorem ok_X5_tellTo : zOK yX5_tellTo 1 := by unfold zOK; decide +kernel
theorem ok_X6_bitsOfShare : zOK yX6_bitsOfShare 1 := by unfold zOK; decide +kernel
theorem ok_X6_checkPart : zOK yX6_checkPart 1 := by unfold zOK; decide +kernel
theorem ok_X6_checkPlots : zOK yX6_checkPlots 2 := by unfold zOK; decide +kernel
theorem ok_X6_checkReader : zOK yX6_checkReader 1 := by unfold zOK; decide +kernel
theorem ok_X6_checkSetting : zOK yX6_checkSetting 1 := by unfold zOK; decide +kernel
theorem ok_X6_checkWhat : zOK yX6_checkWhat 2 := by unfold zOK; decide +kernel
theorem ok_X6_init : zOK yX6_init 0 := by unfold zOK; decide +kernel
theorem ok_X6_isIn : zOK yX6_isIn 2 := by unfold zOK; decide +kernel
theorem ok_X6_mix : zOK yX6_mix 2 := by unfold zOK; decide +kernel
theorem ok_X6_mixParts : zOK yX6_mixParts 1 := by unfold zOK; decide +kernel
theorem ok_X6_mixPlots : zOK yX6_mixPlots 1 := by unfold zOK; decide +kernel
theorem ok_X6_mixReader : zOK yX6_mixReader 2 := by unfold zOK; decide +kernel
theorem ok_X6_mixText : zOK yX6_mixText 1 := by unfold zOK; decide +kernel
theorem ok_X6_total : zOK yX6_total 1 := by unfold zOK; decide +kernel
theorem inG_X0 : ∀ w ∈ u_ws RX0 TX0 5, w ∈ zG := by decide +kernel
def wX0 (Δ : zE) (ad : Nat → Nat) (told : Nat → Int32) (rea : Nat → Int32) (wread : Nat → Int32) (ltold : Nat → Int32) (lout : Nat → Int32) : va_W := [(ad 0, .inr (0, [.ref (ad 1), .ref (ad 2), .ref (ad 3), .ref (ad 4), .ref (ad 5)])), (ad 1, .inl (Δ.2.1, 6, .inl told)), (ad 2, .inl (Δ.2.1, 6, .inl rea)), (ad 3, .inl (Δ.2.1, 6, .inl wread)), (ad 4, .inl (Δ.2.1, 6, .inl ltold)), (ad 5, .inl (Δ.2.1, 6, .inl lout))]
theorem inG_X1 : ∀ w ∈ u_ws RX1 TX1 4, w ∈ zG := by decide +kernel
def wX1 (Δ : zE) (ad : Nat → Nat) (gpl : Int32) (gps : Int32) (gcl : Int32) (gwo : Int32) : va_W := [(ad 0, .inr (1, [.int gpl, .int gps, .int gcl, .int gwo]))]
theorem inG_X2 : ∀ w ∈ u_ws RX2 TX2 3, w ∈ zG := by decide +kernel
def wX2 (Δ : zE) (ad : Nat → Nat) (oldest : Int32) (kept : Int32) (rows : Nat → Option Nat) : va_W := [(ad 0, .inr (2, [.ref (ad 1), .int oldest, .int kept])), (ad 1, .inl (Δ.2.2.2.2, 6, .inr (.inr (.inr (.inr rows)))))]
theorem inG_X3 : ∀ w ∈ u_ws RX3 TX3 5, w ∈ zG := by decide +kernel
def wX3 (Δ : zE) (ad : Nat → Nat) (reached : Int32) (lost : Int32) (size : Int32) (plots : Nat → Int32) (cliffs : Nat → Int32) (words : Nat → Int32) (needs : Nat → Int32) (told : Nat → Int32) (rea : Nat → Int32) (wread : Nat → Int32) (ltold : Nat → Int32) (lout : Nat → Int32) (sets : Nat → Int32) : va_W := [(ad 0, .inr (3, [.ref (ad 1), .ref (ad 6), .ref (ad 12), .int reached, .int lost])), (ad 1, .inr (4, [.int size, .ref (ad 2), .ref (ad 3), .ref (ad 4), .ref (ad 5)])), (ad 2, .inl (Δ.2.1, 20, .inl plots)), (ad 3, .inl (Δ.2.1, 20, .inl cliffs)), (ad 4, .inl (Δ.2.1, 20, .inl words)), (ad 5, .inl (Δ.2.1, 20, .inl needs)), (ad 6, .inr (0, [.ref (ad 7), .ref (ad 8), .ref (ad 9), .ref (ad 10), .ref (ad 11)])), (ad 7, .inl (Δ.2.1, 6, .inl told)), (ad 8, .inl (Δ.2.1, 6, .inl rea)), (ad 9, .inl (Δ.2.1, 6, .inl wread)), (ad 10, .inl (Δ.2.1, 6, .inl ltold)), (ad 11, .inl (Δ.2.1, 6, .inl lout)), (ad 12, .inl (Δ.2.1, 2, .inl sets))]
theorem inG_X4 : ∀ w ∈ u_ws RX4 TX4 5, w ∈ zG := by decide +kernel
def wX4 (Δ : zE) (ad : Nat → Nat) (size : Int32) (plots : Nat → Int32) (cliffs : Nat → Int32) (words : Nat → Int32) (needs : Nat → Int32) : va_W := [(ad 0, .inr (4, [.int size, .ref (ad 1), .ref (ad 2), .ref (ad 3), .ref (ad 4)])), (ad 1, .inl (Δ.2.1, 20, .inl plots)), (ad 2, .inl (Δ.2.1, 20, .inl cliffs)), (ad 3, .inl (Δ.2.1, 20, .inl words)), (ad 4, .inl (Δ.2.1, 20, .inl needs))]
theorem inG_X5 : ∀ w ∈ u_ws RX5 TX5 3, w ∈ zG := by decide +kernel
def wX5 (Δ : zE) (ad : Nat → Nat) (len : Int32) (codes : Nat → Int32) (gpl : Int32) (gps : Int32) (gcl : Int32) (gwo : Int32) : va_W := [(ad 0, .inr (5, [.ref (ad 1), .int len, .ref (ad 2)])), (ad 1, .inl (Δ.2.1, 60, .inl codes)), (ad 2, .inr (1, [.int gpl, .int gps, .int gcl, .int gwo]))]
theorem inG_X6 : ∀ w ∈ u_ws RX6 TX6 3, w ∈ zG := by decide +kernel
def wX6 (Δ : zE) (ad : Nat → Nat) (reached : Int32) (lost : Int32) (size : Int32) (plots : Nat → Int32) (cliffs : Nat → Int32) (words : Nat → Int32) (needs : Nat → Int32) (told : Nat → Int32) (rea : Nat → Int32) (wread : Nat → Int32) (ltold : Nat → Int32) (lout : Nat → Int32) (sets : Nat → Int32) (oldest : Int32) (kept : Int32) (rows : Nat → Option Nat) (len : Int32) (codes : Nat → Int32) (gpl : Int32) (gps : Int32) (gcl : Int32) (gwo : Int32) : va_W := [(ad 0, .inr (6, [.ref (ad 1), .ref (ad 14), .ref (ad 16)])), (ad 1, .inr (3, [.ref (ad 2), .ref (ad 7), .ref (ad 13), .int reached, .int lost])), (ad 2, .inr (4, [.int size, .ref (ad 3), .ref (ad 4), .ref (ad 5), .ref (ad 6)])), (ad 3, .inl (Δ.2.1, 20, .inl plots)), (ad 4, .inl (Δ.2.1, 20, .inl cliffs)), (ad 5, .inl (Δ.2.1, 20, .inl words)), (ad 6, .inl (Δ.2.1, 20, .inl needs)), (ad 7, .inr (0, [.ref (ad 8), .ref (ad 9), .ref (ad 10), .ref (ad 11), .ref (ad 12)])), (ad 8, .inl (Δ.2.1, 6, .inl told)), (ad 9, .inl (Δ.2.1, 6, .inl rea)), (ad 10, .inl (Δ.2.1, 6, .inl wread)), (ad 11, .inl (Δ.2.1, 6, .inl ltold)), (ad 12, .inl (Δ.2.1, 6, .inl lout)), (ad 13, .inl (Δ.2.1, 2, .inl sets)), (ad 14, .inr (2, [.ref (ad 15), .int oldest, .int kept])), (ad 15, .inl (Δ.2.2.2.2, 6, .inr (.inr (.inr (.inr rows))))), (ad 16, .inr (5, [.ref (ad 17), .int len, .ref (ad 18)])), (ad 17, .inl (Δ.2.1, 60, .inl codes)), (ad 18, .inr (1, [.int gpl, .int gps, .int gcl, .int gwo]))]
theorem z_copyi {p : Program} {l : Launch} {e : Env} {R : Room} {s : State} {m : MethodId} {args : Array Value} {below : List Frame} {meth : Method} {c : Code} {H : Heap} {locs : List Loc} {cells slots : Nat} {Q : State → Prop} {Δ : zE} {y0 : MethodName} {cc : ByteArray} {nL : Nat} {rt : Option FieldType} {A : Nat → Prop} {ws w' : va_W} {pc : Nat} {ls : Array Slot} {rest : List Value} {lvs : List (Nat × Value)} {index : Nat}
    (X : zX Δ p s m args meth c y0 cc nL rt A) (Z : zW Δ A s.heap ws H locs) (hl : lv_has ls nL lvs) (h1 : Cond.methodLink y0.cls index arraycopyName ∈ zG) (h2 : Cond.native arraycopyName ∈ zG) (h3 : Cond.static arraycopyName ∈ zG) (h4 : Cond.initialized "java/lang/System" ∈ zG) (q0 q1 : Nat) {a a0 n0 n1 : Nat} {f g : Nat → Int32} (ha0 : ws[q0]? = some (a0, .inl (Δ.2.1, n0, .inl f))) (ha1 : ws[q1]? = some (a, .inl (Δ.2.1, n1, .inl g)))
    {sp dp n : Int32} (g1 : ¬ sp < 0) (g2 : ¬ dp < 0) (g3 : ¬ n < 0) (g4 : sp.toNatClampNeg + n.toNatClampNeg ≤ n0) (g5 : dp.toNatClampNeg + n.toNatClampNeg ≤ n1) (hframes : 1 ≤ R.frames) (hlocals : (rest.map fun v => v.category).sum + (nativeFrameWords "java/lang/System" "arraycopy" 5 + 11) ≤ R.locals) (hw : ws.set q1 (a, .inl (Δ.2.1, n1, .inl (va_cpy f g sp.toNatClampNeg dp.toNatClampNeg n.toNatClampNeg))) = w') (hdg : decode cc pc = .ok (.invokestatic index, 3))
    (kk : ∀ (H1 : Heap) (locs1 : List Loc), zW Δ A s.heap w' H1 locs1 → W p l e R s m args below meth c H1 locs1 cells slots Q (F0 m (pc + 3) ls rest)) : W p l e R s m args below meth c H locs cells slots Q (F0 m pc ls (.int n :: .int dp :: .ref a :: .int sp :: .ref a0 :: rest)) := by
  subst hw
  exact va_copyi X.x X.b (X.1.2.2.1.trans hl.1.symm) X.own (X.ts _ h1) (X.ts _ h2) (X.ts _ h3) (X.ts _ h4) X.K.1 Z.1 Z.2.1 Z.2.2 q0 q1 0 0 ha0 ha1 rfl rfl rfl g1 g2 g3 g4 g5 (fun _ _ => rfl) hframes hlocals hdg (fun H1 locs1 a b d => kk H1 locs1 ⟨a, b, d⟩)
theorem xg_38 : ∀ w ∈ (vx_atS "SerialRecaps" 38 "java/lang/IllegalArgumentException" zNm).filter goodWord, w ∈ zG := by decide +kernel
theorem xn_38 : ∀ w ∈ (vx_atS "SerialRecaps" 38 "java/lang/IllegalArgumentException" zNm).filter (fun w => !goodWord w), w ∈ zNw := by decide +kernel
theorem xo_34_38 : ∀ w ∈ Cond.classLink "SerialRecaps" 34 "java/lang/IllegalArgumentException" :: Cond.initialized "java/lang/IllegalArgumentException" :: vx_atS "SerialRecaps" 38 "java/lang/IllegalArgumentException" zNm, vx_ot w = true := by decide +kernel
theorem xg_55 : ∀ w ∈ (vx_atS "SerialRecaps" 55 "java/lang/IllegalStateException" zNm).filter goodWord, w ∈ zG := by decide +kernel
theorem xn_55 : ∀ w ∈ (vx_atS "SerialRecaps" 55 "java/lang/IllegalStateException" zNm).filter (fun w => !goodWord w), w ∈ zNw := by decide +kernel
theorem xo_51_55 : ∀ w ∈ Cond.classLink "SerialRecaps" 51 "java/lang/IllegalStateException" :: Cond.initialized "java/lang/IllegalStateException" :: vx_atS "SerialRecaps" 55 "java/lang/IllegalStateException" zNm, vx_ot w = true := by decide +kernel
theorem xg_184 : ∀ w ∈ (vx_atS "SerialRecaps" 184 "java/lang/IndexOutOfBoundsException" zNm).filter goodWord, w ∈ zG := by decide +kernel
theorem xn_184 : ∀ w ∈ (vx_atS "SerialRecaps" 184 "java/lang/IndexOutOfBoundsException" zNm).filter (fun w => !goodWord w), w ∈ zNw := by decide +kernel
theorem xo_180_184 : ∀ w ∈ Cond.classLink "SerialRecaps" 180 "java/lang/IndexOutOfBoundsException" :: Cond.initialized "java/lang/IndexOutOfBoundsException" :: vx_atS "SerialRecaps" 184 "java/lang/IndexOutOfBoundsException" zNm, vx_ot w = true := by decide +kernel
def zxb {α β : Type} (x : Option (String ⊕ α)) (f : α → Option (String ⊕ β)) : Option (String ⊕ β) := match x with
  | none => none
  | some (.inl E) => some (.inl E)
  | some (.inr a) => f a
theorem zxb_ok {α β : Type} {x : Option (String ⊕ α)} {f : α → Option (String ⊕ β)} {r : String ⊕ β} (h : zxb x f = some r) : (∃ E, x = some (.inl E) ∧ r = .inl E) ∨ (∃ a, x = some (.inr a) ∧ f a = some r) := by
  match x, h with
  | some (.inl E), h => exact Or.inl ⟨E, rfl, (Option.some.inj h).symm⟩
  | some (.inr a), h => exact Or.inr ⟨a, rfl, h⟩
