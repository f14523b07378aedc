theorem wd_0 : (Cond.selects "SerialRecaps$Grammar" ⟨"SerialRecaps$Grammar", "takesPlot", "(I)Z"⟩ ⟨"SerialRecaps$Grammar", "takesPlot", "(I)Z"⟩) ∈ zG := zG_of 0 (by decide +kernel) (by decide +kernel)
theorem wd_1 : (Cond.selects "SerialRecaps$Grammar" ⟨"SerialRecaps$Grammar", "takesSign", "(ICI)Z"⟩ ⟨"SerialRecaps$Grammar", "takesSign", "(ICI)Z"⟩) ∈ zG := zG_of 1 (by decide +kernel) (by decide +kernel)
theorem wd_2 : (Cond.selects "SerialRecaps$Grammar" ⟨"SerialRecaps$Grammar", "takesEnd", "(I)Z"⟩ ⟨"SerialRecaps$Grammar", "takesEnd", "(I)Z"⟩) ∈ zG := zG_of 2 (by decide +kernel) (by decide +kernel)
theorem wd_3 : (Cond.selects "SerialRecaps$Grammar" ⟨"SerialRecaps$Grammar", "takesCliff", "(I)Z"⟩ ⟨"SerialRecaps$Grammar", "takesCliff", "(I)Z"⟩) ∈ zG := zG_of 3 (by decide +kernel) (by decide +kernel)
theorem wd_4 : (Cond.selects "SerialRecaps$Grammar" ⟨"SerialRecaps$Grammar", "takesDigit", "(III)Z"⟩ ⟨"SerialRecaps$Grammar", "takesDigit", "(III)Z"⟩) ∈ zG := zG_of 4 (by decide +kernel) (by decide +kernel)
theorem wd_5 : (Cond.selects "SerialRecaps" ⟨"SerialRecaps", "total", "(I)I"⟩ ⟨"SerialRecaps", "total", "(I)I"⟩) ∈ zG := zG_of 5 (by decide +kernel) (by decide +kernel)
theorem wd_6 : (Cond.selects "SerialRecaps" ⟨"SerialRecaps", "mixParts", "(J)J"⟩ ⟨"SerialRecaps", "mixParts", "(J)J"⟩) ∈ zG := zG_of 6 (by decide +kernel) (by decide +kernel)
theorem wd_7 : (Cond.selects "SerialRecaps" ⟨"SerialRecaps", "mixReader", "(JI)J"⟩ ⟨"SerialRecaps", "mixReader", "(JI)J"⟩) ∈ zG := zG_of 7 (by decide +kernel) (by decide +kernel)
theorem wd_8 : (Cond.selects "SerialRecaps$State" ⟨"SerialRecaps$State", "missedParts", "(II)I"⟩ ⟨"SerialRecaps$State", "missedParts", "(II)I"⟩) ∈ zG := zG_of 8 (by decide +kernel) (by decide +kernel)
theorem wd_9 : (Cond.selects "SerialRecaps$State" ⟨"SerialRecaps$State", "toldParts", "(I)I"⟩ ⟨"SerialRecaps$State", "toldParts", "(I)I"⟩) ∈ zG := zG_of 9 (by decide +kernel) (by decide +kernel)
theorem wd_10 : (Cond.selects "SerialRecaps$State" ⟨"SerialRecaps$State", "lineWords", "(I)I"⟩ ⟨"SerialRecaps$State", "lineWords", "(I)I"⟩) ∈ zG := zG_of 10 (by decide +kernel) (by decide +kernel)
theorem wd_11 : (Cond.selects "SerialRecaps$State" ⟨"SerialRecaps$State", "shortened", "(I)I"⟩ ⟨"SerialRecaps$State", "shortened", "(I)I"⟩) ∈ zG := zG_of 11 (by decide +kernel) (by decide +kernel)
theorem wd_12 : (Cond.selects "SerialRecaps" ⟨"SerialRecaps", "mixPlots", "(J)J"⟩ ⟨"SerialRecaps", "mixPlots", "(J)J"⟩) ∈ zG := zG_of 12 (by decide +kernel) (by decide +kernel)
theorem wd_13 : (Cond.selects "SerialRecaps$State" ⟨"SerialRecaps$State", "howManyHang", "(I)I"⟩ ⟨"SerialRecaps$State", "howManyHang", "(I)I"⟩) ∈ zG := zG_of 13 (by decide +kernel) (by decide +kernel)
theorem wd_14 : (Cond.selects "SerialRecaps" ⟨"SerialRecaps", "mixText", "(J)J"⟩ ⟨"SerialRecaps", "mixText", "(J)J"⟩) ∈ zG := zG_of 14 (by decide +kernel) (by decide +kernel)
theorem wd_16 : (Cond.selects "SerialRecaps$Story" ⟨"SerialRecaps$Story", "findNeeds", "(I)I"⟩ ⟨"SerialRecaps$Story", "findNeeds", "(I)I"⟩) ∈ zG := zG_of 16 (by decide +kernel) (by decide +kernel)
theorem wd_17 : (Cond.selects "SerialRecaps" ⟨"SerialRecaps", "checkPart", "(I)V"⟩ ⟨"SerialRecaps", "checkPart", "(I)V"⟩) ∈ zG := zG_of 17 (by decide +kernel) (by decide +kernel)
theorem wd_18 : (Cond.selects "SerialRecapsModel" ⟨"SerialRecapsModel", "refuses", "(I)Z"⟩ ⟨"SerialRecapsModel", "refuses", "(I)Z"⟩) ∈ zG := zG_of 18 (by decide +kernel) (by decide +kernel)
theorem wd_19 : (Cond.selects "SerialRecapsModel" ⟨"SerialRecapsModel", "saves", "()V"⟩ ⟨"SerialRecapsModel", "saves", "()V"⟩) ∈ zG := zG_of 19 (by decide +kernel) (by decide +kernel)
theorem wd_20 : (Cond.selects "SerialRecapsModel" ⟨"SerialRecapsModel", "adds", "(III)V"⟩ ⟨"SerialRecapsModel", "adds", "(III)V"⟩) ∈ zG := zG_of 20 (by decide +kernel) (by decide +kernel)
theorem wd_21 : (Cond.selects "SerialRecapsModel" ⟨"SerialRecapsModel", "learns", "(III)V"⟩ ⟨"SerialRecapsModel", "learns", "(III)V"⟩) ∈ zG := zG_of 21 (by decide +kernel) (by decide +kernel)
theorem wd_22 : (Cond.selects "SerialRecapsModel" ⟨"SerialRecapsModel", "isPart", "(I)Z"⟩ ⟨"SerialRecapsModel", "isPart", "(I)Z"⟩) ∈ zG := zG_of 22 (by decide +kernel) (by decide +kernel)
theorem wd_23 : (Cond.selects "SerialRecapsModel" ⟨"SerialRecapsModel", "of", "(II)I"⟩ ⟨"SerialRecapsModel", "of", "(II)I"⟩) ∈ zG := zG_of 23 (by decide +kernel) (by decide +kernel)
theorem wd_24 : (Cond.selects "SerialRecapsModel" ⟨"SerialRecapsModel", "readersOf", "(I)I"⟩ ⟨"SerialRecapsModel", "readersOf", "(I)I"⟩) ∈ zG := zG_of 24 (by decide +kernel) (by decide +kernel)
theorem wd_25 : (Cond.selects "SerialRecapsModel" ⟨"SerialRecapsModel", "known", "(II)I"⟩ ⟨"SerialRecapsModel", "known", "(II)I"⟩) ∈ zG := zG_of 25 (by decide +kernel) (by decide +kernel)
theorem wd_26 : (Cond.selects "SerialRecapsModel" ⟨"SerialRecapsModel", "reaches", "(II)I"⟩ ⟨"SerialRecapsModel", "reaches", "(II)I"⟩) ∈ zG := zG_of 26 (by decide +kernel) (by decide +kernel)
theorem wd_27 : (Cond.selects "SerialRecapsModel" ⟨"SerialRecapsModel", "missed", "(II)I"⟩ ⟨"SerialRecapsModel", "missed", "(II)I"⟩) ∈ zG := zG_of 27 (by decide +kernel) (by decide +kernel)
theorem wd_28 : (Cond.selects "SerialRecapsModel" ⟨"SerialRecapsModel", "unknown", "(I)I"⟩ ⟨"SerialRecapsModel", "unknown", "(I)I"⟩) ∈ zG := zG_of 28 (by decide +kernel) (by decide +kernel)
theorem wd_29 : (Cond.selects "SerialRecapsModel" ⟨"SerialRecapsModel", "needsAmong", "(II)I"⟩ ⟨"SerialRecapsModel", "needsAmong", "(II)I"⟩) ∈ zG := zG_of 29 (by decide +kernel) (by decide +kernel)
theorem wd_30 : (Cond.selects "SerialRecapsModel" ⟨"SerialRecapsModel", "needs", "(I)I"⟩ ⟨"SerialRecapsModel", "needs", "(I)I"⟩) ∈ zG := zG_of 30 (by decide +kernel) (by decide +kernel)
theorem wd_31 : (Cond.selects "SerialRecapsModel" ⟨"SerialRecapsModel", "told", "(I)I"⟩ ⟨"SerialRecapsModel", "told", "(I)I"⟩) ∈ zG := zG_of 31 (by decide +kernel) (by decide +kernel)
theorem wd_32 : (Cond.selects "SerialRecapsModel" ⟨"SerialRecapsModel", "wordsOf", "(I)I"⟩ ⟨"SerialRecapsModel", "wordsOf", "(I)I"⟩) ∈ zG := zG_of 32 (by decide +kernel) (by decide +kernel)
theorem wd_33 : (Cond.selects "SerialRecapsModel" ⟨"SerialRecapsModel", "grows", "(III)V"⟩ ⟨"SerialRecapsModel", "grows", "(III)V"⟩) ∈ zG := zG_of 33 (by decide +kernel) (by decide +kernel)
theorem wd_34 : (Cond.selects "SerialRecapsModel" ⟨"SerialRecapsModel", "isText", "()Z"⟩ ⟨"SerialRecapsModel", "isText", "()Z"⟩) ∈ zG := zG_of 34 (by decide +kernel) (by decide +kernel)
theorem wd_35 : (Cond.selects "SerialRecapsModel" ⟨"SerialRecapsModel", "readsPart", "()Z"⟩ ⟨"SerialRecapsModel", "readsPart", "()Z"⟩) ∈ zG := zG_of 35 (by decide +kernel) (by decide +kernel)
theorem wd_36 : (Cond.selects "SerialRecapsModel" ⟨"SerialRecapsModel", "readsPlots", "()I"⟩ ⟨"SerialRecapsModel", "readsPlots", "()I"⟩) ∈ zG := zG_of 36 (by decide +kernel) (by decide +kernel)
theorem wd_37 : (Cond.selects "SerialRecapsModel" ⟨"SerialRecapsModel", "sees", "(II)Z"⟩ ⟨"SerialRecapsModel", "sees", "(II)Z"⟩) ∈ zG := zG_of 37 (by decide +kernel) (by decide +kernel)
theorem wd_38 : (Cond.selects "SerialRecapsModel" ⟨"SerialRecapsModel", "takes", "(C)Z"⟩ ⟨"SerialRecapsModel", "takes", "(C)Z"⟩) ∈ zG := zG_of 38 (by decide +kernel) (by decide +kernel)
theorem wd_39 : (Cond.selects "SerialRecapsModel" ⟨"SerialRecapsModel", "readsCliff", "(I)I"⟩ ⟨"SerialRecapsModel", "readsCliff", "(I)I"⟩) ∈ zG := zG_of 39 (by decide +kernel) (by decide +kernel)
theorem wd_40 : (Cond.selects "SerialRecapsModel" ⟨"SerialRecapsModel", "readsWords", "()I"⟩ ⟨"SerialRecapsModel", "readsWords", "()I"⟩) ∈ zG := zG_of 40 (by decide +kernel) (by decide +kernel)
theorem wd_41 : (Cond.selects "SerialRecapsModel" ⟨"SerialRecapsModel", "partOf", "(II)I"⟩ ⟨"SerialRecapsModel", "partOf", "(II)I"⟩) ∈ zG := zG_of 41 (by decide +kernel) (by decide +kernel)
theorem wd_42 : (Cond.selects "SerialRecapsModel" ⟨"SerialRecapsModel", "needing", "(I)I"⟩ ⟨"SerialRecapsModel", "needing", "(I)I"⟩) ∈ zG := zG_of 42 (by decide +kernel) (by decide +kernel)
theorem wd_43 : (Cond.selects "SerialRecapsModel" ⟨"SerialRecapsModel", "readerOf", "(II)I"⟩ ⟨"SerialRecapsModel", "readerOf", "(II)I"⟩) ∈ zG := zG_of 43 (by decide +kernel) (by decide +kernel)
theorem wd_44 : (Cond.selects "SerialRecapsModel" ⟨"SerialRecapsModel", "manyKnown", "(II)I"⟩ ⟨"SerialRecapsModel", "manyKnown", "(II)I"⟩) ∈ zG := zG_of 44 (by decide +kernel) (by decide +kernel)
theorem wd_45 : (Cond.selects "SerialRecapsModel" ⟨"SerialRecapsModel", "open", "(I)I"⟩ ⟨"SerialRecapsModel", "open", "(I)I"⟩) ∈ zG := zG_of 45 (by decide +kernel) (by decide +kernel)
theorem wd_46 : (Cond.selects "SerialRecapsModel" ⟨"SerialRecapsModel", "plotOf", "(II)I"⟩ ⟨"SerialRecapsModel", "plotOf", "(II)I"⟩) ∈ zG := zG_of 46 (by decide +kernel) (by decide +kernel)
theorem wd_47 : (Cond.selects "SerialRecapsModel" ⟨"SerialRecapsModel", "openTo", "(I)I"⟩ ⟨"SerialRecapsModel", "openTo", "(I)I"⟩) ∈ zG := zG_of 47 (by decide +kernel) (by decide +kernel)
theorem wd_48 : (Cond.selects "SerialRecapsModel" ⟨"SerialRecapsModel", "ofParts", "(II)I"⟩ ⟨"SerialRecapsModel", "ofParts", "(II)I"⟩) ∈ zG := zG_of 48 (by decide +kernel) (by decide +kernel)
theorem wd_49 : (Cond.selects "SerialRecapsModel" ⟨"SerialRecapsModel", "goesOn", "(II)Z"⟩ ⟨"SerialRecapsModel", "goesOn", "(II)Z"⟩) ∈ zG := zG_of 49 (by decide +kernel) (by decide +kernel)
theorem wd_50 : (Cond.selects "SerialRecapsModel" ⟨"SerialRecapsModel", "counted", "(I)I"⟩ ⟨"SerialRecapsModel", "counted", "(I)I"⟩) ∈ zG := zG_of 50 (by decide +kernel) (by decide +kernel)
theorem wd_51 : (Cond.selects "SerialRecapsModel" ⟨"SerialRecapsModel", "allWords", "()I"⟩ ⟨"SerialRecapsModel", "allWords", "()I"⟩) ∈ zG := zG_of 51 (by decide +kernel) (by decide +kernel)
theorem wd_52 : (Cond.selects "SerialRecapsModel" ⟨"SerialRecapsModel", "wordsRead", "()I"⟩ ⟨"SerialRecapsModel", "wordsRead", "()I"⟩) ∈ zG := zG_of 52 (by decide +kernel) (by decide +kernel)
theorem wd_53 : (Cond.selects "SerialRecapsModel" ⟨"SerialRecapsModel", "knowAll", "()I"⟩ ⟨"SerialRecapsModel", "knowAll", "()I"⟩) ∈ zG := zG_of 53 (by decide +kernel) (by decide +kernel)
theorem wd_54 : (Cond.selects "SerialRecapsModel" ⟨"SerialRecapsModel", "recapOf", "(III)I"⟩ ⟨"SerialRecapsModel", "recapOf", "(III)I"⟩) ∈ zG := zG_of 54 (by decide +kernel) (by decide +kernel)
theorem wd_55 : (Cond.selects "SerialRecapsModel" ⟨"SerialRecapsModel", "easiestOf", "(I)I"⟩ ⟨"SerialRecapsModel", "easiestOf", "(I)I"⟩) ∈ zG := zG_of 55 (by decide +kernel) (by decide +kernel)
theorem wd_56 : (Cond.selects "SerialRecapsModel" ⟨"SerialRecapsModel", "enoughOf", "(I)I"⟩ ⟨"SerialRecapsModel", "enoughOf", "(I)I"⟩) ∈ zG := zG_of 56 (by decide +kernel) (by decide +kernel)
theorem wd_57 : (Cond.selects "SerialRecapsModel" ⟨"SerialRecapsModel", "share", "()D"⟩ ⟨"SerialRecapsModel", "share", "()D"⟩) ∈ zG := zG_of 57 (by decide +kernel) (by decide +kernel)
theorem wd_58 : (Cond.selects "SerialRecapsModel" ⟨"SerialRecapsModel", "mixes", "(J)V"⟩ ⟨"SerialRecapsModel", "mixes", "(J)V"⟩) ∈ zG := zG_of 58 (by decide +kernel) (by decide +kernel)
theorem wd_59 : (Cond.selects "SerialRecapsModel" ⟨"SerialRecapsModel", "mixesReader", "(I)V"⟩ ⟨"SerialRecapsModel", "mixesReader", "(I)V"⟩) ∈ zG := zG_of 59 (by decide +kernel) (by decide +kernel)
theorem wd_61 : (Jvm.Cond.initialized "SerialRecaps") ∈ zG := zG_of 61 (by decide +kernel) (by decide +kernel)
theorem wd_62 : (Jvm.Cond.initialized "SerialRecaps$State") ∈ zG := zG_of 62 (by decide +kernel) (by decide +kernel)
theorem wd_63 : (Jvm.Cond.initialized "SerialRecaps$Story") ∈ zG := zG_of 63 (by decide +kernel) (by decide +kernel)
theorem wd_64 : (Jvm.Cond.initialized "SerialRecaps$Audience") ∈ zG := zG_of 64 (by decide +kernel) (by decide +kernel)
theorem wd_65 : (Jvm.Cond.initialized "SerialRecaps$History") ∈ zG := zG_of 65 (by decide +kernel) (by decide +kernel)
theorem wd_66 : (Jvm.Cond.initialized "SerialRecaps$Text") ∈ zG := zG_of 66 (by decide +kernel) (by decide +kernel)
theorem wd_67 : (Jvm.Cond.initialized "SerialRecaps$Grammar") ∈ zG := zG_of 67 (by decide +kernel) (by decide +kernel)
theorem wd_68 : (Jvm.Cond.initialized "SerialRecapsModel") ∈ zG := zG_of 68 (by decide +kernel) (by decide +kernel)
theorem wd_72 : (Jvm.Cond.initialized "java/lang/IllegalArgumentException") ∈ zG := zG_of 72 (by decide +kernel) (by decide +kernel)
theorem wd_73 : (Jvm.Cond.initialized "java/lang/IllegalStateException") ∈ zG := zG_of 73 (by decide +kernel) (by decide +kernel)
theorem wd_74 : (Jvm.Cond.initialized "java/lang/System") ∈ zG := zG_of 74 (by decide +kernel) (by decide +kernel)
theorem wd_75 : (Jvm.Cond.initialized "java/lang/IndexOutOfBoundsException") ∈ zG := zG_of 75 (by decide +kernel) (by decide +kernel)
theorem wd_76 : (Jvm.Cond.initialized "java/lang/Integer") ∈ zG := zG_of 76 (by decide +kernel) (by decide +kernel)
theorem wd_77 : (Jvm.Cond.initialized "java/lang/Math") ∈ zG := zG_of 77 (by decide +kernel) (by decide +kernel)
theorem wd_78 : (Jvm.Cond.initialized "java/lang/Double") ∈ zG := zG_of 78 (by decide +kernel) (by decide +kernel)
theorem wd_84 : (Jvm.Cond.methodLink "SerialRecaps" (1 : Nat) ({ cls := "java/lang/Object", name := "<init>", desc := "()V" } : Jvm.MethodName)) ∈ zG := zG_of 84 (by decide +kernel) (by decide +kernel)
theorem wd_85 : (Jvm.Cond.instanceMethod ({ cls := "java/lang/Object", name := "<init>", desc := "()V" } : Jvm.MethodName)) ∈ zG := zG_of 85 (by decide +kernel) (by decide +kernel)
theorem wd_86 : (Jvm.Cond.code ({ cls := "java/lang/Object", name := "<init>", desc := "()V" } : Jvm.MethodName) object_method_1_code (1 : Nat) (Option.none : Option Jvm.ClassFile.FieldType)) ∈ zG := zG_of 86 (by decide +kernel) (by decide +kernel)
theorem wd_87 : (Jvm.Cond.classLink "SerialRecaps" (7 : Nat) "SerialRecaps$State") ∈ zG := zG_of 87 (by decide +kernel) (by decide +kernel)
theorem wd_88 : (Jvm.Cond.instantiable "SerialRecaps$State" (5 : Nat)) ∈ zG := zG_of 88 (by decide +kernel) (by decide +kernel)
theorem wd_89 : (Jvm.Cond.methodLink "SerialRecaps" (9 : Nat) ({ cls := "SerialRecaps$State", name := "<init>", desc := "()V" } : Jvm.MethodName)) ∈ zG := zG_of 89 (by decide +kernel) (by decide +kernel)
theorem wd_90 : (Jvm.Cond.instanceMethod ({ cls := "SerialRecaps$State", name := "<init>", desc := "()V" } : Jvm.MethodName)) ∈ zG := zG_of 90 (by decide +kernel) (by decide +kernel)
theorem wd_91 : (Jvm.Cond.code ({ cls := "SerialRecaps$State", name := "<init>", desc := "()V" } : Jvm.MethodName) prog_5_method_1_code (1 : Nat) (Option.none : Option Jvm.ClassFile.FieldType)) ∈ zG := zG_of 91 (by decide +kernel) (by decide +kernel)
theorem wd_92 : (Jvm.Cond.methodLink "SerialRecaps$State" (3 : Nat) ({ cls := "java/lang/Object", name := "<init>", desc := "()V" } : Jvm.MethodName)) ∈ zG := zG_of 92 (by decide +kernel) (by decide +kernel)
theorem wd_93 : (Jvm.Cond.classLink "SerialRecaps$State" (9 : Nat) "SerialRecaps$Story") ∈ zG := zG_of 93 (by decide +kernel) (by decide +kernel)
theorem wd_94 : (Jvm.Cond.instantiable "SerialRecaps$Story" (5 : Nat)) ∈ zG := zG_of 94 (by decide +kernel) (by decide +kernel)
theorem wd_96 : (Jvm.Cond.instanceMethod ({ cls := "SerialRecaps$Story", name := "<init>", desc := "()V" } : Jvm.MethodName)) ∈ zG := zG_of 96 (by decide +kernel) (by decide +kernel)
theorem wd_97 : (Jvm.Cond.code ({ cls := "SerialRecaps$Story", name := "<init>", desc := "()V" } : Jvm.MethodName) prog_6_method_1_code (1 : Nat) (Option.none : Option Jvm.ClassFile.FieldType)) ∈ zG := zG_of 97 (by decide +kernel) (by decide +kernel)
theorem wd_98 : (Jvm.Cond.methodLink "SerialRecaps$Story" (3 : Nat) ({ cls := "java/lang/Object", name := "<init>", desc := "()V" } : Jvm.MethodName)) ∈ zG := zG_of 98 (by decide +kernel) (by decide +kernel)
theorem wd_99 : (Jvm.Cond.fieldLink "SerialRecaps$Story" (24 : Nat) "SerialRecaps$Story" "size" "I") ∈ zG := zG_of 99 (by decide +kernel) (by decide +kernel)
theorem wd_100 : (Jvm.Cond.fieldLink "SerialRecaps" (45 : Nat) "SerialRecaps$Story" "size" "I") ∈ zG := zG_of 100 (by decide +kernel) (by decide +kernel)
theorem wd_101 : (Jvm.Cond.fieldLink "SerialRecaps$State" (62 : Nat) "SerialRecaps$Story" "size" "I") ∈ zG := zG_of 101 (by decide +kernel) (by decide +kernel)
theorem wd_102 : (Jvm.Cond.fieldLink "SerialRecaps$Story" (9 : Nat) "SerialRecaps$Story" "plots" "[I") ∈ zG := zG_of 102 (by decide +kernel) (by decide +kernel)
theorem wd_103 : (Jvm.Cond.fieldLink "SerialRecaps$State" (103 : Nat) "SerialRecaps$Story" "plots" "[I") ∈ zG := zG_of 103 (by decide +kernel) (by decide +kernel)
theorem wd_104 : (Jvm.Cond.fieldLink "SerialRecaps$Story" (15 : Nat) "SerialRecaps$Story" "cliffs" "[I") ∈ zG := zG_of 104 (by decide +kernel) (by decide +kernel)
theorem wd_105 : (Jvm.Cond.fieldLink "SerialRecaps$State" (106 : Nat) "SerialRecaps$Story" "cliffs" "[I") ∈ zG := zG_of 105 (by decide +kernel) (by decide +kernel)
theorem wd_106 : (Jvm.Cond.fieldLink "SerialRecaps$Story" (18 : Nat) "SerialRecaps$Story" "words" "[I") ∈ zG := zG_of 106 (by decide +kernel) (by decide +kernel)
theorem wd_107 : (Jvm.Cond.fieldLink "SerialRecaps$State" (69 : Nat) "SerialRecaps$Story" "words" "[I") ∈ zG := zG_of 107 (by decide +kernel) (by decide +kernel)
theorem wd_108 : (Jvm.Cond.fieldLink "SerialRecaps$Story" (21 : Nat) "SerialRecaps$Story" "needs" "[I") ∈ zG := zG_of 108 (by decide +kernel) (by decide +kernel)
theorem wd_109 : (Jvm.Cond.fieldLink "SerialRecaps$State" (109 : Nat) "SerialRecaps$Story" "needs" "[I") ∈ zG := zG_of 109 (by decide +kernel) (by decide +kernel)
theorem wd_121 : (Jvm.Cond.arrayClass Jvm.ClassFile.FieldType.int) ∈ zG := zG_of 121 (by decide +kernel) (by decide +kernel)
theorem wd_122 : (Jvm.Cond.classLink "SerialRecaps$State" (18 : Nat) "SerialRecaps$Audience") ∈ zG := zG_of 122 (by decide +kernel) (by decide +kernel)
theorem wd_123 : (Jvm.Cond.instantiable "SerialRecaps$Audience" (5 : Nat)) ∈ zG := zG_of 123 (by decide +kernel) (by decide +kernel)
theorem wd_125 : (Jvm.Cond.instanceMethod ({ cls := "SerialRecaps$Audience", name := "<init>", desc := "()V" } : Jvm.MethodName)) ∈ zG := zG_of 125 (by decide +kernel) (by decide +kernel)
theorem wd_126 : (Jvm.Cond.code ({ cls := "SerialRecaps$Audience", name := "<init>", desc := "()V" } : Jvm.MethodName) prog_2_method_1_code (1 : Nat) (Option.none : Option Jvm.ClassFile.FieldType)) ∈ zG := zG_of 126 (by decide +kernel) (by decide +kernel)
theorem wd_127 : (Jvm.Cond.methodLink "SerialRecaps$Audience" (3 : Nat) ({ cls := "java/lang/Object", name := "<init>", desc := "()V" } : Jvm.MethodName)) ∈ zG := zG_of 127 (by decide +kernel) (by decide +kernel)
theorem wd_128 : (Jvm.Cond.fieldLink "SerialRecaps$Audience" (9 : Nat) "SerialRecaps$Audience" "told" "[I") ∈ zG := zG_of 128 (by decide +kernel) (by decide +kernel)
theorem wd_129 : (Jvm.Cond.fieldLink "SerialRecaps$State" (125 : Nat) "SerialRecaps$Audience" "told" "[I") ∈ zG := zG_of 129 (by decide +kernel) (by decide +kernel)
theorem wd_130 : (Jvm.Cond.fieldLink "SerialRecaps$Audience" (15 : Nat) "SerialRecaps$Audience" "read" "[I") ∈ zG := zG_of 130 (by decide +kernel) (by decide +kernel)
theorem wd_131 : (Jvm.Cond.fieldLink "SerialRecaps$State" (122 : Nat) "SerialRecaps$Audience" "read" "[I") ∈ zG := zG_of 131 (by decide +kernel) (by decide +kernel)
theorem wd_132 : (Jvm.Cond.fieldLink "SerialRecaps$Audience" (18 : Nat) "SerialRecaps$Audience" "wordsRead" "[I") ∈ zG := zG_of 132 (by decide +kernel) (by decide +kernel)
theorem wd_133 : (Jvm.Cond.fieldLink "SerialRecaps$State" (88 : Nat) "SerialRecaps$Audience" "wordsRead" "[I") ∈ zG := zG_of 133 (by decide +kernel) (by decide +kernel)
theorem wd_134 : (Jvm.Cond.fieldLink "SerialRecaps$Audience" (21 : Nat) "SerialRecaps$Audience" "linesTold" "[I") ∈ zG := zG_of 134 (by decide +kernel) (by decide +kernel)
theorem wd_135 : (Jvm.Cond.fieldLink "SerialRecaps$State" (91 : Nat) "SerialRecaps$Audience" "linesTold" "[I") ∈ zG := zG_of 135 (by decide +kernel) (by decide +kernel)
theorem wd_136 : (Jvm.Cond.fieldLink "SerialRecaps$Audience" (24 : Nat) "SerialRecaps$Audience" "leftOut" "[I") ∈ zG := zG_of 136 (by decide +kernel) (by decide +kernel)
theorem wd_137 : (Jvm.Cond.fieldLink "SerialRecaps$State" (94 : Nat) "SerialRecaps$Audience" "leftOut" "[I") ∈ zG := zG_of 137 (by decide +kernel) (by decide +kernel)
theorem wd_149 : (Jvm.Cond.fieldLink "SerialRecaps$State" (12 : Nat) "SerialRecaps$State" "story" "LSerialRecaps$Story;") ∈ zG := zG_of 149 (by decide +kernel) (by decide +kernel)
theorem wd_150 : (Jvm.Cond.fieldLink "SerialRecaps" (41 : Nat) "SerialRecaps$State" "story" "LSerialRecaps$Story;") ∈ zG := zG_of 150 (by decide +kernel) (by decide +kernel)
theorem wd_151 : (Jvm.Cond.fieldLink "SerialRecaps$State" (21 : Nat) "SerialRecaps$State" "audience" "LSerialRecaps$Audience;") ∈ zG := zG_of 151 (by decide +kernel) (by decide +kernel)
theorem wd_152 : (Jvm.Cond.fieldLink "SerialRecaps" (74 : Nat) "SerialRecaps$State" "audience" "LSerialRecaps$Audience;") ∈ zG := zG_of 152 (by decide +kernel) (by decide +kernel)
theorem wd_153 : (Jvm.Cond.fieldLink "SerialRecaps$State" (25 : Nat) "SerialRecaps$State" "settings" "[I") ∈ zG := zG_of 153 (by decide +kernel) (by decide +kernel)
theorem wd_154 : (Jvm.Cond.fieldLink "SerialRecaps" (97 : Nat) "SerialRecaps$State" "settings" "[I") ∈ zG := zG_of 154 (by decide +kernel) (by decide +kernel)
theorem wd_155 : (Jvm.Cond.fieldLink "SerialRecaps$State" (42 : Nat) "SerialRecaps$State" "mailsReached" "I") ∈ zG := zG_of 155 (by decide +kernel) (by decide +kernel)
theorem wd_156 : (Jvm.Cond.fieldLink "SerialRecaps$State" (46 : Nat) "SerialRecaps$State" "mailsLost" "I") ∈ zG := zG_of 156 (by decide +kernel) (by decide +kernel)
theorem wd_168 : (Jvm.Cond.classLink "SerialRecaps" (16 : Nat) "SerialRecaps$History") ∈ zG := zG_of 168 (by decide +kernel) (by decide +kernel)
theorem wd_169 : (Jvm.Cond.instantiable "SerialRecaps$History" (3 : Nat)) ∈ zG := zG_of 169 (by decide +kernel) (by decide +kernel)
theorem wd_171 : (Jvm.Cond.instanceMethod ({ cls := "SerialRecaps$History", name := "<init>", desc := "()V" } : Jvm.MethodName)) ∈ zG := zG_of 171 (by decide +kernel) (by decide +kernel)
theorem wd_172 : (Jvm.Cond.code ({ cls := "SerialRecaps$History", name := "<init>", desc := "()V" } : Jvm.MethodName) prog_4_method_1_code (1 : Nat) (Option.none : Option Jvm.ClassFile.FieldType)) ∈ zG := zG_of 172 (by decide +kernel) (by decide +kernel)
theorem wd_173 : (Jvm.Cond.methodLink "SerialRecaps$History" (3 : Nat) ({ cls := "java/lang/Object", name := "<init>", desc := "()V" } : Jvm.MethodName)) ∈ zG := zG_of 173 (by decide +kernel) (by decide +kernel)
theorem wd_174 : (Jvm.Cond.classLink "SerialRecaps$History" (9 : Nat) "SerialRecaps$State") ∈ zG := zG_of 174 (by decide +kernel) (by decide +kernel)
theorem wd_176 : (Jvm.Cond.fieldLink "SerialRecaps$History" (11 : Nat) "SerialRecaps$History" "rows" "[LSerialRecaps$State;") ∈ zG := zG_of 176 (by decide +kernel) (by decide +kernel)
theorem wd_177 : (Jvm.Cond.fieldLink "SerialRecaps$History" (21 : Nat) "SerialRecaps$History" "oldest" "I") ∈ zG := zG_of 177 (by decide +kernel) (by decide +kernel)
theorem wd_178 : (Jvm.Cond.fieldLink "SerialRecaps$History" (17 : Nat) "SerialRecaps$History" "kept" "I") ∈ zG := zG_of 178 (by decide +kernel) (by decide +kernel)
theorem wd_179 : (Jvm.Cond.fieldLink "SerialRecaps" (165 : Nat) "SerialRecaps$History" "kept" "I") ∈ zG := zG_of 179 (by decide +kernel) (by decide +kernel)
theorem wd_187 : (Jvm.Cond.classLink "SerialRecaps" (23 : Nat) "SerialRecaps$Text") ∈ zG := zG_of 187 (by decide +kernel) (by decide +kernel)
theorem wd_188 : (Jvm.Cond.instantiable "SerialRecaps$Text" (3 : Nat)) ∈ zG := zG_of 188 (by decide +kernel) (by decide +kernel)
theorem wd_190 : (Jvm.Cond.instanceMethod ({ cls := "SerialRecaps$Text", name := "<init>", desc := "()V" } : Jvm.MethodName)) ∈ zG := zG_of 190 (by decide +kernel) (by decide +kernel)
theorem wd_191 : (Jvm.Cond.code ({ cls := "SerialRecaps$Text", name := "<init>", desc := "()V" } : Jvm.MethodName) prog_7_method_1_code (1 : Nat) (Option.none : Option Jvm.ClassFile.FieldType)) ∈ zG := zG_of 191 (by decide +kernel) (by decide +kernel)
theorem wd_192 : (Jvm.Cond.methodLink "SerialRecaps$Text" (3 : Nat) ({ cls := "java/lang/Object", name := "<init>", desc := "()V" } : Jvm.MethodName)) ∈ zG := zG_of 192 (by decide +kernel) (by decide +kernel)
theorem wd_193 : (Jvm.Cond.classLink "SerialRecaps$Text" (15 : Nat) "SerialRecaps$Grammar") ∈ zG := zG_of 193 (by decide +kernel) (by decide +kernel)
theorem wd_194 : (Jvm.Cond.instantiable "SerialRecaps$Grammar" (4 : Nat)) ∈ zG := zG_of 194 (by decide +kernel) (by decide +kernel)
theorem wd_196 : (Jvm.Cond.instanceMethod ({ cls := "SerialRecaps$Grammar", name := "<init>", desc := "()V" } : Jvm.MethodName)) ∈ zG := zG_of 196 (by decide +kernel) (by decide +kernel)
theorem wd_197 : (Jvm.Cond.code ({ cls := "SerialRecaps$Grammar", name := "<init>", desc := "()V" } : Jvm.MethodName) prog_3_method_1_code (1 : Nat) (Option.none : Option Jvm.ClassFile.FieldType)) ∈ zG := zG_of 197 (by decide +kernel) (by decide +kernel)
theorem wd_198 : (Jvm.Cond.methodLink "SerialRecaps$Grammar" (3 : Nat) ({ cls := "java/lang/Object", name := "<init>", desc := "()V" } : Jvm.MethodName)) ∈ zG := zG_of 198 (by decide +kernel) (by decide +kernel)
theorem wd_199 : (Jvm.Cond.fieldLink "SerialRecaps$Grammar" (11 : Nat) "SerialRecaps$Grammar" "place" "I") ∈ zG := zG_of 199 (by decide +kernel) (by decide +kernel)
theorem wd_200 : (Jvm.Cond.fieldLink "SerialRecaps$Grammar" (15 : Nat) "SerialRecaps$Grammar" "plots" "I") ∈ zG := zG_of 200 (by decide +kernel) (by decide +kernel)
theorem wd_201 : (Jvm.Cond.fieldLink "SerialRecaps$Text" (41 : Nat) "SerialRecaps$Grammar" "plots" "I") ∈ zG := zG_of 201 (by decide +kernel) (by decide +kernel)
theorem wd_202 : (Jvm.Cond.fieldLink "SerialRecaps$Grammar" (18 : Nat) "SerialRecaps$Grammar" "cliff" "I") ∈ zG := zG_of 202 (by decide +kernel) (by decide +kernel)
theorem wd_203 : (Jvm.Cond.fieldLink "SerialRecaps$Text" (44 : Nat) "SerialRecaps$Grammar" "cliff" "I") ∈ zG := zG_of 203 (by decide +kernel) (by decide +kernel)
theorem wd_204 : (Jvm.Cond.fieldLink "SerialRecaps$Grammar" (21 : Nat) "SerialRecaps$Grammar" "words" "I") ∈ zG := zG_of 204 (by decide +kernel) (by decide +kernel)
theorem wd_205 : (Jvm.Cond.fieldLink "SerialRecaps$Text" (47 : Nat) "SerialRecaps$Grammar" "words" "I") ∈ zG := zG_of 205 (by decide +kernel) (by decide +kernel)
theorem wd_215 : (Jvm.Cond.fieldLink "SerialRecaps$Text" (9 : Nat) "SerialRecaps$Text" "codes" "[I") ∈ zG := zG_of 215 (by decide +kernel) (by decide +kernel)
theorem wd_216 : (Jvm.Cond.fieldLink "SerialRecaps" (230 : Nat) "SerialRecaps$Text" "codes" "[I") ∈ zG := zG_of 216 (by decide +kernel) (by decide +kernel)
theorem wd_217 : (Jvm.Cond.fieldLink "SerialRecaps$Text" (22 : Nat) "SerialRecaps$Text" "length" "I") ∈ zG := zG_of 217 (by decide +kernel) (by decide +kernel)
theorem wd_218 : (Jvm.Cond.fieldLink "SerialRecaps" (127 : Nat) "SerialRecaps$Text" "length" "I") ∈ zG := zG_of 218 (by decide +kernel) (by decide +kernel)
theorem wd_219 : (Jvm.Cond.fieldLink "SerialRecaps$Text" (18 : Nat) "SerialRecaps$Text" "grammar" "LSerialRecaps$Grammar;") ∈ zG := zG_of 219 (by decide +kernel) (by decide +kernel)
theorem wd_227 : (Jvm.Cond.fieldLink "SerialRecaps" (10 : Nat) "SerialRecaps" "now" "LSerialRecaps$State;") ∈ zG := zG_of 227 (by decide +kernel) (by decide +kernel)
theorem wd_228 : (Jvm.Cond.fieldLink "SerialRecaps" (19 : Nat) "SerialRecaps" "history" "LSerialRecaps$History;") ∈ zG := zG_of 228 (by decide +kernel) (by decide +kernel)
theorem wd_229 : (Jvm.Cond.fieldLink "SerialRecaps" (26 : Nat) "SerialRecaps" "text" "LSerialRecaps$Text;") ∈ zG := zG_of 229 (by decide +kernel) (by decide +kernel)
theorem wd_245 : (Jvm.Cond.methodLink "SerialRecaps" (134 : Nat) ({ cls := "SerialRecaps$Text", name := "readUntilError", desc := "()I" } : Jvm.MethodName)) ∈ zG := zG_of 245 (by decide +kernel) (by decide +kernel)
theorem wd_246 : (Jvm.Cond.instanceMethod ({ cls := "SerialRecaps$Text", name := "readUntilError", desc := "()I" } : Jvm.MethodName)) ∈ zG := zG_of 246 (by decide +kernel) (by decide +kernel)
theorem wd_247 : (Jvm.Cond.selects "SerialRecaps$Text" ({ cls := "SerialRecaps$Text", name := "readUntilError", desc := "()I" } : Jvm.MethodName) ({ cls := "SerialRecaps$Text", name := "readUntilError", desc := "()I" } : Jvm.MethodName)) ∈ zG := zG_of 247 (by decide +kernel) (by decide +kernel)
theorem wd_248 : (Jvm.Cond.code ({ cls := "SerialRecaps$Text", name := "readUntilError", desc := "()I" } : Jvm.MethodName) prog_7_method_3_code (2 : Nat) (Option.some Jvm.ClassFile.FieldType.int)) ∈ zG := zG_of 248 (by decide +kernel) (by decide +kernel)
theorem wd_249 : (Jvm.Cond.methodLink "SerialRecaps$Text" (26 : Nat) ({ cls := "SerialRecaps$Grammar", name := "restart", desc := "()V" } : Jvm.MethodName)) ∈ zG := zG_of 249 (by decide +kernel) (by decide +kernel)
theorem wd_250 : (Jvm.Cond.instanceMethod ({ cls := "SerialRecaps$Grammar", name := "restart", desc := "()V" } : Jvm.MethodName)) ∈ zG := zG_of 250 (by decide +kernel) (by decide +kernel)
theorem wd_251 : (Jvm.Cond.selects "SerialRecaps$Grammar" ({ cls := "SerialRecaps$Grammar", name := "restart", desc := "()V" } : Jvm.MethodName) ({ cls := "SerialRecaps$Grammar", name := "restart", desc := "()V" } : Jvm.MethodName)) ∈ zG := zG_of 251 (by decide +kernel) (by decide +kernel)
theorem wd_252 : (Jvm.Cond.code ({ cls := "SerialRecaps$Grammar", name := "restart", desc := "()V" } : Jvm.MethodName) prog_3_method_2_code (1 : Nat) (Option.none : Option Jvm.ClassFile.FieldType)) ∈ zG := zG_of 252 (by decide +kernel) (by decide +kernel)
theorem wd_253 : (Jvm.Cond.methodLink "SerialRecaps$Text" (29 : Nat) ({ cls := "SerialRecaps$Grammar", name := "takes", desc := "(I)Z" } : Jvm.MethodName)) ∈ zG := zG_of 253 (by decide +kernel) (by decide +kernel)
theorem wd_254 : (Jvm.Cond.instanceMethod ({ cls := "SerialRecaps$Grammar", name := "takes", desc := "(I)Z" } : Jvm.MethodName)) ∈ zG := zG_of 254 (by decide +kernel) (by decide +kernel)
theorem wd_255 : (Jvm.Cond.selects "SerialRecaps$Grammar" ({ cls := "SerialRecaps$Grammar", name := "takes", desc := "(I)Z" } : Jvm.MethodName) ({ cls := "SerialRecaps$Grammar", name := "takes", desc := "(I)Z" } : Jvm.MethodName)) ∈ zG := zG_of 255 (by decide +kernel) (by decide +kernel)
theorem wd_256 : (Jvm.Cond.code ({ cls := "SerialRecaps$Grammar", name := "takes", desc := "(I)Z" } : Jvm.MethodName) prog_3_method_4_code (2 : Nat) (Option.some Jvm.ClassFile.FieldType.boolean)) ∈ zG := zG_of 256 (by decide +kernel) (by decide +kernel)
theorem wd_257 : (Jvm.Cond.methodLink "SerialRecaps$Grammar" (24 : Nat) ({ cls := "SerialRecaps$Grammar", name := "takesPlot", desc := "(I)Z" } : Jvm.MethodName)) ∈ zG := zG_of 257 (by decide +kernel) (by decide +kernel)
theorem wd_259 : (Jvm.Cond.instanceMethod ({ cls := "SerialRecaps$Grammar", name := "takesPlot", desc := "(I)Z" } : Jvm.MethodName)) ∈ zG := zG_of 259 (by decide +kernel) (by decide +kernel)
theorem wd_260 : (Jvm.Cond.code ({ cls := "SerialRecaps$Grammar", name := "takesPlot", desc := "(I)Z" } : Jvm.MethodName) prog_3_method_5_code (3 : Nat) (Option.some Jvm.ClassFile.FieldType.boolean)) ∈ zG := zG_of 260 (by decide +kernel) (by decide +kernel)
theorem wd_261 : (Jvm.Cond.methodLink "SerialRecaps$Grammar" (28 : Nat) ({ cls := "SerialRecaps$Grammar", name := "takesSign", desc := "(ICI)Z" } : Jvm.MethodName)) ∈ zG := zG_of 261 (by decide +kernel) (by decide +kernel)
theorem wd_263 : (Jvm.Cond.instanceMethod ({ cls := "SerialRecaps$Grammar", name := "takesSign", desc := "(ICI)Z" } : Jvm.MethodName)) ∈ zG := zG_of 263 (by decide +kernel) (by decide +kernel)
theorem wd_264 : (Jvm.Cond.code ({ cls := "SerialRecaps$Grammar", name := "takesSign", desc := "(ICI)Z" } : Jvm.MethodName) prog_3_method_8_code (4 : Nat) (Option.some Jvm.ClassFile.FieldType.boolean)) ∈ zG := zG_of 264 (by decide +kernel) (by decide +kernel)
theorem wd_265 : (Jvm.Cond.methodLink "SerialRecaps$Grammar" (32 : Nat) ({ cls := "SerialRecaps$Grammar", name := "takesEnd", desc := "(I)Z" } : Jvm.MethodName)) ∈ zG := zG_of 265 (by decide +kernel) (by decide +kernel)
theorem wd_267 : (Jvm.Cond.instanceMethod ({ cls := "SerialRecaps$Grammar", name := "takesEnd", desc := "(I)Z" } : Jvm.MethodName)) ∈ zG := zG_of 267 (by decide +kernel) (by decide +kernel)
theorem wd_268 : (Jvm.Cond.code ({ cls := "SerialRecaps$Grammar", name := "takesEnd", desc := "(I)Z" } : Jvm.MethodName) prog_3_method_9_code (2 : Nat) (Option.some Jvm.ClassFile.FieldType.boolean)) ∈ zG := zG_of 268 (by decide +kernel) (by decide +kernel)
theorem wd_269 : (Jvm.Cond.methodLink "SerialRecaps$Grammar" (46 : Nat) ({ cls := "SerialRecaps$Grammar", name := "restart", desc := "()V" } : Jvm.MethodName)) ∈ zG := zG_of 269 (by decide +kernel) (by decide +kernel)
theorem wd_270 : (Jvm.Cond.methodLink "SerialRecaps$Grammar" (35 : Nat) ({ cls := "SerialRecaps$Grammar", name := "takesCliff", desc := "(I)Z" } : Jvm.MethodName)) ∈ zG := zG_of 270 (by decide +kernel) (by decide +kernel)
theorem wd_272 : (Jvm.Cond.instanceMethod ({ cls := "SerialRecaps$Grammar", name := "takesCliff", desc := "(I)Z" } : Jvm.MethodName)) ∈ zG := zG_of 272 (by decide +kernel) (by decide +kernel)
theorem wd_273 : (Jvm.Cond.code ({ cls := "SerialRecaps$Grammar", name := "takesCliff", desc := "(I)Z" } : Jvm.MethodName) prog_3_method_6_code (3 : Nat) (Option.some Jvm.ClassFile.FieldType.boolean)) ∈ zG := zG_of 273 (by decide +kernel) (by decide +kernel)
theorem wd_275 : (Jvm.Cond.static ({ cls := "SerialRecaps", name := "isIn", desc := "(II)Z" } : Jvm.MethodName)) ∈ zG := zG_of 275 (by decide +kernel) (by decide +kernel)
theorem wd_276 : (Jvm.Cond.code ({ cls := "SerialRecaps", name := "isIn", desc := "(II)Z" } : Jvm.MethodName) prog_1_method_38_code (2 : Nat) (Option.some Jvm.ClassFile.FieldType.boolean)) ∈ zG := zG_of 276 (by decide +kernel) (by decide +kernel)
theorem wd_277 : (Jvm.Cond.methodLink "SerialRecaps$Grammar" (38 : Nat) ({ cls := "SerialRecaps$Grammar", name := "takesDigit", desc := "(III)Z" } : Jvm.MethodName)) ∈ zG := zG_of 277 (by decide +kernel) (by decide +kernel)
theorem wd_279 : (Jvm.Cond.instanceMethod ({ cls := "SerialRecaps$Grammar", name := "takesDigit", desc := "(III)Z" } : Jvm.MethodName)) ∈ zG := zG_of 279 (by decide +kernel) (by decide +kernel)
theorem wd_280 : (Jvm.Cond.code ({ cls := "SerialRecaps$Grammar", name := "takesDigit", desc := "(III)Z" } : Jvm.MethodName) prog_3_method_7_code (4 : Nat) (Option.some Jvm.ClassFile.FieldType.boolean)) ∈ zG := zG_of 280 (by decide +kernel) (by decide +kernel)
theorem wd_285 : (Jvm.Cond.methodLink "SerialRecaps" (200 : Nat) ({ cls := "SerialRecaps$State", name := "shareRead", desc := "()D" } : Jvm.MethodName)) ∈ zG := zG_of 285 (by decide +kernel) (by decide +kernel)
theorem wd_286 : (Jvm.Cond.instanceMethod ({ cls := "SerialRecaps$State", name := "shareRead", desc := "()D" } : Jvm.MethodName)) ∈ zG := zG_of 286 (by decide +kernel) (by decide +kernel)
theorem wd_287 : (Jvm.Cond.selects "SerialRecaps$State" ({ cls := "SerialRecaps$State", name := "shareRead", desc := "()D" } : Jvm.MethodName) ({ cls := "SerialRecaps$State", name := "shareRead", desc := "()D" } : Jvm.MethodName)) ∈ zG := zG_of 287 (by decide +kernel) (by decide +kernel)
theorem wd_288 : (Jvm.Cond.code ({ cls := "SerialRecaps$State", name := "shareRead", desc := "()D" } : Jvm.MethodName) prog_5_method_18_code (1 : Nat) (Option.some Jvm.ClassFile.FieldType.double)) ∈ zG := zG_of 288 (by decide +kernel) (by decide +kernel)
theorem wd_289 : (Jvm.Cond.methodLink "SerialRecaps$State" (161 : Nat) ({ cls := "SerialRecaps$Audience", name := "sumOfRead", desc := "()I" } : Jvm.MethodName)) ∈ zG := zG_of 289 (by decide +kernel) (by decide +kernel)
theorem wd_290 : (Jvm.Cond.instanceMethod ({ cls := "SerialRecaps$Audience", name := "sumOfRead", desc := "()I" } : Jvm.MethodName)) ∈ zG := zG_of 290 (by decide +kernel) (by decide +kernel)
theorem wd_291 : (Jvm.Cond.selects "SerialRecaps$Audience" ({ cls := "SerialRecaps$Audience", name := "sumOfRead", desc := "()I" } : Jvm.MethodName) ({ cls := "SerialRecaps$Audience", name := "sumOfRead", desc := "()I" } : Jvm.MethodName)) ∈ zG := zG_of 291 (by decide +kernel) (by decide +kernel)
theorem wd_292 : (Jvm.Cond.code ({ cls := "SerialRecaps$Audience", name := "sumOfRead", desc := "()I" } : Jvm.MethodName) prog_2_method_9_code (3 : Nat) (Option.some Jvm.ClassFile.FieldType.int)) ∈ zG := zG_of 292 (by decide +kernel) (by decide +kernel)
theorem wd_293 : (Jvm.Cond.methodLink "SerialRecaps$Audience" (44 : Nat) ({ cls := "java/lang/Integer", name := "bitCount", desc := "(I)I" } : Jvm.MethodName)) ∈ zG := zG_of 293 (by decide +kernel) (by decide +kernel)
theorem wd_294 : (Jvm.Cond.static ({ cls := "java/lang/Integer", name := "bitCount", desc := "(I)I" } : Jvm.MethodName)) ∈ zG := zG_of 294 (by decide +kernel) (by decide +kernel)
theorem wd_295 : (Jvm.Cond.code ({ cls := "java/lang/Integer", name := "bitCount", desc := "(I)I" } : Jvm.MethodName) prog_15_method_49_code (1 : Nat) (Option.some Jvm.ClassFile.FieldType.int)) ∈ zG := zG_of 295 (by decide +kernel) (by decide +kernel)
theorem wd_296 : (Jvm.Cond.constant "java/lang/Integer" (265 : Nat) (1431655765 : Int32)) ∈ zG := zG_of 296 (by decide +kernel) (by decide +kernel)
theorem wd_297 : (Jvm.Cond.constant "java/lang/Integer" (266 : Nat) (858993459 : Int32)) ∈ zG := zG_of 297 (by decide +kernel) (by decide +kernel)
theorem wd_298 : (Jvm.Cond.constant "java/lang/Integer" (267 : Nat) (252645135 : Int32)) ∈ zG := zG_of 298 (by decide +kernel) (by decide +kernel)
theorem wd_303 : (Jvm.Cond.constantLong "SerialRecaps" (204 : Nat) (2803 : Int64)) ∈ zG := zG_of 303 (by decide +kernel) (by decide +kernel)
theorem wd_304 : (Jvm.Cond.methodLink "SerialRecaps" (188 : Nat) ({ cls := "SerialRecaps", name := "total", desc := "(I)I" } : Jvm.MethodName)) ∈ zG := zG_of 304 (by decide +kernel) (by decide +kernel)
theorem wd_306 : (Jvm.Cond.instanceMethod ({ cls := "SerialRecaps", name := "total", desc := "(I)I" } : Jvm.MethodName)) ∈ zG := zG_of 306 (by decide +kernel) (by decide +kernel)
theorem wd_307 : (Jvm.Cond.code ({ cls := "SerialRecaps", name := "total", desc := "(I)I" } : Jvm.MethodName) prog_1_method_32_code (2 : Nat) (Option.some Jvm.ClassFile.FieldType.int)) ∈ zG := zG_of 307 (by decide +kernel) (by decide +kernel)
theorem wd_308 : (Jvm.Cond.methodLink "SerialRecaps" (239 : Nat) ({ cls := "SerialRecaps$State", name := "ofAll", desc := "(I)I" } : Jvm.MethodName)) ∈ zG := zG_of 308 (by decide +kernel) (by decide +kernel)
theorem wd_309 : (Jvm.Cond.instanceMethod ({ cls := "SerialRecaps$State", name := "ofAll", desc := "(I)I" } : Jvm.MethodName)) ∈ zG := zG_of 309 (by decide +kernel) (by decide +kernel)
theorem wd_310 : (Jvm.Cond.selects "SerialRecaps$State" ({ cls := "SerialRecaps$State", name := "ofAll", desc := "(I)I" } : Jvm.MethodName) ({ cls := "SerialRecaps$State", name := "ofAll", desc := "(I)I" } : Jvm.MethodName)) ∈ zG := zG_of 310 (by decide +kernel) (by decide +kernel)
theorem wd_311 : (Jvm.Cond.code ({ cls := "SerialRecaps$State", name := "ofAll", desc := "(I)I" } : Jvm.MethodName) prog_5_method_15_code (2 : Nat) (Option.some Jvm.ClassFile.FieldType.int)) ∈ zG := zG_of 311 (by decide +kernel) (by decide +kernel)
theorem wd_312 : (Jvm.Cond.methodLink "SerialRecaps$State" (143 : Nat) ({ cls := "SerialRecaps$Story", name := "sumOfWords", desc := "()I" } : Jvm.MethodName)) ∈ zG := zG_of 312 (by decide +kernel) (by decide +kernel)
theorem wd_313 : (Jvm.Cond.instanceMethod ({ cls := "SerialRecaps$Story", name := "sumOfWords", desc := "()I" } : Jvm.MethodName)) ∈ zG := zG_of 313 (by decide +kernel) (by decide +kernel)
theorem wd_314 : (Jvm.Cond.selects "SerialRecaps$Story" ({ cls := "SerialRecaps$Story", name := "sumOfWords", desc := "()I" } : Jvm.MethodName) ({ cls := "SerialRecaps$Story", name := "sumOfWords", desc := "()I" } : Jvm.MethodName)) ∈ zG := zG_of 314 (by decide +kernel) (by decide +kernel)
theorem wd_315 : (Jvm.Cond.code ({ cls := "SerialRecaps$Story", name := "sumOfWords", desc := "()I" } : Jvm.MethodName) prog_6_method_9_code (3 : Nat) (Option.some Jvm.ClassFile.FieldType.int)) ∈ zG := zG_of 315 (by decide +kernel) (by decide +kernel)
theorem wd_316 : (Jvm.Cond.methodLink "SerialRecaps$State" (146 : Nat) ({ cls := "SerialRecaps$Audience", name := "sumOfWordsRead", desc := "()I" } : Jvm.MethodName)) ∈ zG := zG_of 316 (by decide +kernel) (by decide +kernel)
theorem wd_317 : (Jvm.Cond.instanceMethod ({ cls := "SerialRecaps$Audience", name := "sumOfWordsRead", desc := "()I" } : Jvm.MethodName)) ∈ zG := zG_of 317 (by decide +kernel) (by decide +kernel)
theorem wd_318 : (Jvm.Cond.selects "SerialRecaps$Audience" ({ cls := "SerialRecaps$Audience", name := "sumOfWordsRead", desc := "()I" } : Jvm.MethodName) ({ cls := "SerialRecaps$Audience", name := "sumOfWordsRead", desc := "()I" } : Jvm.MethodName)) ∈ zG := zG_of 318 (by decide +kernel) (by decide +kernel)
theorem wd_319 : (Jvm.Cond.code ({ cls := "SerialRecaps$Audience", name := "sumOfWordsRead", desc := "()I" } : Jvm.MethodName) prog_2_method_8_code (3 : Nat) (Option.some Jvm.ClassFile.FieldType.int)) ∈ zG := zG_of 319 (by decide +kernel) (by decide +kernel)
theorem wd_320 : (Jvm.Cond.methodLink "SerialRecaps$State" (118 : Nat) ({ cls := "SerialRecaps$Story", name := "everyPart", desc := "()I" } : Jvm.MethodName)) ∈ zG := zG_of 320 (by decide +kernel) (by decide +kernel)
theorem wd_321 : (Jvm.Cond.instanceMethod ({ cls := "SerialRecaps$Story", name := "everyPart", desc := "()I" } : Jvm.MethodName)) ∈ zG := zG_of 321 (by decide +kernel) (by decide +kernel)
theorem wd_322 : (Jvm.Cond.selects "SerialRecaps$Story" ({ cls := "SerialRecaps$Story", name := "everyPart", desc := "()I" } : Jvm.MethodName) ({ cls := "SerialRecaps$Story", name := "everyPart", desc := "()I" } : Jvm.MethodName)) ∈ zG := zG_of 322 (by decide +kernel) (by decide +kernel)
theorem wd_323 : (Jvm.Cond.code ({ cls := "SerialRecaps$Story", name := "everyPart", desc := "()I" } : Jvm.MethodName) prog_6_method_8_code (1 : Nat) (Option.some Jvm.ClassFile.FieldType.int)) ∈ zG := zG_of 323 (by decide +kernel) (by decide +kernel)
theorem wd_324 : (Jvm.Cond.methodLink "SerialRecaps$State" (149 : Nat) ({ cls := "SerialRecaps$Audience", name := "howManyKnowAll", desc := "(I)I" } : Jvm.MethodName)) ∈ zG := zG_of 324 (by decide +kernel) (by decide +kernel)
theorem wd_325 : (Jvm.Cond.instanceMethod ({ cls := "SerialRecaps$Audience", name := "howManyKnowAll", desc := "(I)I" } : Jvm.MethodName)) ∈ zG := zG_of 325 (by decide +kernel) (by decide +kernel)
theorem wd_326 : (Jvm.Cond.selects "SerialRecaps$Audience" ({ cls := "SerialRecaps$Audience", name := "howManyKnowAll", desc := "(I)I" } : Jvm.MethodName) ({ cls := "SerialRecaps$Audience", name := "howManyKnowAll", desc := "(I)I" } : Jvm.MethodName)) ∈ zG := zG_of 326 (by decide +kernel) (by decide +kernel)
theorem wd_327 : (Jvm.Cond.code ({ cls := "SerialRecaps$Audience", name := "howManyKnowAll", desc := "(I)I" } : Jvm.MethodName) prog_2_method_7_code (4 : Nat) (Option.some Jvm.ClassFile.FieldType.int)) ∈ zG := zG_of 327 (by decide +kernel) (by decide +kernel)
theorem wd_328 : (Jvm.Cond.methodLink "SerialRecaps$Audience" (40 : Nat) ({ cls := "SerialRecaps$Audience", name := "known", desc := "(I)I" } : Jvm.MethodName)) ∈ zG := zG_of 328 (by decide +kernel) (by decide +kernel)
theorem wd_329 : (Jvm.Cond.instanceMethod ({ cls := "SerialRecaps$Audience", name := "known", desc := "(I)I" } : Jvm.MethodName)) ∈ zG := zG_of 329 (by decide +kernel) (by decide +kernel)
theorem wd_330 : (Jvm.Cond.selects "SerialRecaps$Audience" ({ cls := "SerialRecaps$Audience", name := "known", desc := "(I)I" } : Jvm.MethodName) ({ cls := "SerialRecaps$Audience", name := "known", desc := "(I)I" } : Jvm.MethodName)) ∈ zG := zG_of 330 (by decide +kernel) (by decide +kernel)
theorem wd_331 : (Jvm.Cond.code ({ cls := "SerialRecaps$Audience", name := "known", desc := "(I)I" } : Jvm.MethodName) prog_2_method_4_code (2 : Nat) (Option.some Jvm.ClassFile.FieldType.int)) ∈ zG := zG_of 331 (by decide +kernel) (by decide +kernel)
theorem wd_332 : (Jvm.Cond.methodLink "SerialRecaps" (206 : Nat) ({ cls := "SerialRecaps", name := "mix", desc := "(JJ)J" } : Jvm.MethodName)) ∈ zG := zG_of 332 (by decide +kernel) (by decide +kernel)
theorem wd_333 : (Jvm.Cond.static ({ cls := "SerialRecaps", name := "mix", desc := "(JJ)J" } : Jvm.MethodName)) ∈ zG := zG_of 333 (by decide +kernel) (by decide +kernel)
theorem wd_334 : (Jvm.Cond.code ({ cls := "SerialRecaps", name := "mix", desc := "(JJ)J" } : Jvm.MethodName) prog_1_method_26_code (4 : Nat) (Option.some Jvm.ClassFile.FieldType.long)) ∈ zG := zG_of 334 (by decide +kernel) (by decide +kernel)
theorem wd_335 : (Jvm.Cond.constantLong "SerialRecaps" (228 : Nat) (31 : Int64)) ∈ zG := zG_of 335 (by decide +kernel) (by decide +kernel)
theorem wd_336 : (Jvm.Cond.methodLink "SerialRecaps" (210 : Nat) ({ cls := "SerialRecaps", name := "mixParts", desc := "(J)J" } : Jvm.MethodName)) ∈ zG := zG_of 336 (by decide +kernel) (by decide +kernel)
theorem wd_338 : (Jvm.Cond.instanceMethod ({ cls := "SerialRecaps", name := "mixParts", desc := "(J)J" } : Jvm.MethodName)) ∈ zG := zG_of 338 (by decide +kernel) (by decide +kernel)
theorem wd_339 : (Jvm.Cond.code ({ cls := "SerialRecaps", name := "mixParts", desc := "(J)J" } : Jvm.MethodName) prog_1_method_27_code (7 : Nat) (Option.some Jvm.ClassFile.FieldType.long)) ∈ zG := zG_of 339 (by decide +kernel) (by decide +kernel)
theorem wd_340 : (Jvm.Cond.methodLink "SerialRecaps" (171 : Nat) ({ cls := "SerialRecaps$State", name := "ofPart", desc := "(II)I" } : Jvm.MethodName)) ∈ zG := zG_of 340 (by decide +kernel) (by decide +kernel)
theorem wd_341 : (Jvm.Cond.instanceMethod ({ cls := "SerialRecaps$State", name := "ofPart", desc := "(II)I" } : Jvm.MethodName)) ∈ zG := zG_of 341 (by decide +kernel) (by decide +kernel)
theorem wd_342 : (Jvm.Cond.selects "SerialRecaps$State" ({ cls := "SerialRecaps$State", name := "ofPart", desc := "(II)I" } : Jvm.MethodName) ({ cls := "SerialRecaps$State", name := "ofPart", desc := "(II)I" } : Jvm.MethodName)) ∈ zG := zG_of 342 (by decide +kernel) (by decide +kernel)
theorem wd_343 : (Jvm.Cond.code ({ cls := "SerialRecaps$State", name := "ofPart", desc := "(II)I" } : Jvm.MethodName) prog_5_method_11_code (3 : Nat) (Option.some Jvm.ClassFile.FieldType.int)) ∈ zG := zG_of 343 (by decide +kernel) (by decide +kernel)
theorem wd_344 : (Jvm.Cond.methodLink "SerialRecaps$State" (112 : Nat) ({ cls := "SerialRecaps$Story", name := "howManyNeed", desc := "(I)I" } : Jvm.MethodName)) ∈ zG := zG_of 344 (by decide +kernel) (by decide +kernel)
theorem wd_345 : (Jvm.Cond.instanceMethod ({ cls := "SerialRecaps$Story", name := "howManyNeed", desc := "(I)I" } : Jvm.MethodName)) ∈ zG := zG_of 345 (by decide +kernel) (by decide +kernel)
theorem wd_346 : (Jvm.Cond.selects "SerialRecaps$Story" ({ cls := "SerialRecaps$Story", name := "howManyNeed", desc := "(I)I" } : Jvm.MethodName) ({ cls := "SerialRecaps$Story", name := "howManyNeed", desc := "(I)I" } : Jvm.MethodName)) ∈ zG := zG_of 346 (by decide +kernel) (by decide +kernel)
theorem wd_347 : (Jvm.Cond.code ({ cls := "SerialRecaps$Story", name := "howManyNeed", desc := "(I)I" } : Jvm.MethodName) prog_6_method_7_code (4 : Nat) (Option.some Jvm.ClassFile.FieldType.int)) ∈ zG := zG_of 347 (by decide +kernel) (by decide +kernel)
theorem wd_348 : (Jvm.Cond.methodLink "SerialRecaps$State" (115 : Nat) ({ cls := "SerialRecaps$Audience", name := "whoRead", desc := "(I)I" } : Jvm.MethodName)) ∈ zG := zG_of 348 (by decide +kernel) (by decide +kernel)
theorem wd_349 : (Jvm.Cond.instanceMethod ({ cls := "SerialRecaps$Audience", name := "whoRead", desc := "(I)I" } : Jvm.MethodName)) ∈ zG := zG_of 349 (by decide +kernel) (by decide +kernel)
theorem wd_350 : (Jvm.Cond.selects "SerialRecaps$Audience" ({ cls := "SerialRecaps$Audience", name := "whoRead", desc := "(I)I" } : Jvm.MethodName) ({ cls := "SerialRecaps$Audience", name := "whoRead", desc := "(I)I" } : Jvm.MethodName)) ∈ zG := zG_of 350 (by decide +kernel) (by decide +kernel)
theorem wd_351 : (Jvm.Cond.code ({ cls := "SerialRecaps$Audience", name := "whoRead", desc := "(I)I" } : Jvm.MethodName) prog_2_method_6_code (4 : Nat) (Option.some Jvm.ClassFile.FieldType.int)) ∈ zG := zG_of 351 (by decide +kernel) (by decide +kernel)
theorem wd_352 : (Jvm.Cond.methodLink "SerialRecaps$Audience" (37 : Nat) ({ cls := "SerialRecaps$Audience", name := "hasRead", desc := "(II)Z" } : Jvm.MethodName)) ∈ zG := zG_of 352 (by decide +kernel) (by decide +kernel)
theorem wd_353 : (Jvm.Cond.instanceMethod ({ cls := "SerialRecaps$Audience", name := "hasRead", desc := "(II)Z" } : Jvm.MethodName)) ∈ zG := zG_of 353 (by decide +kernel) (by decide +kernel)
theorem wd_354 : (Jvm.Cond.selects "SerialRecaps$Audience" ({ cls := "SerialRecaps$Audience", name := "hasRead", desc := "(II)Z" } : Jvm.MethodName) ({ cls := "SerialRecaps$Audience", name := "hasRead", desc := "(II)Z" } : Jvm.MethodName)) ∈ zG := zG_of 354 (by decide +kernel) (by decide +kernel)
theorem wd_355 : (Jvm.Cond.code ({ cls := "SerialRecaps$Audience", name := "hasRead", desc := "(II)Z" } : Jvm.MethodName) prog_2_method_3_code (3 : Nat) (Option.some Jvm.ClassFile.FieldType.boolean)) ∈ zG := zG_of 355 (by decide +kernel) (by decide +kernel)
theorem wd_357 : (Jvm.Cond.methodLink "SerialRecaps$State" (53 : Nat) ({ cls := "SerialRecaps$Story", name := "allNeeds", desc := "(II)I" } : Jvm.MethodName)) ∈ zG := zG_of 357 (by decide +kernel) (by decide +kernel)
theorem wd_358 : (Jvm.Cond.instanceMethod ({ cls := "SerialRecaps$Story", name := "allNeeds", desc := "(II)I" } : Jvm.MethodName)) ∈ zG := zG_of 358 (by decide +kernel) (by decide +kernel)
theorem wd_359 : (Jvm.Cond.selects "SerialRecaps$Story" ({ cls := "SerialRecaps$Story", name := "allNeeds", desc := "(II)I" } : Jvm.MethodName) ({ cls := "SerialRecaps$Story", name := "allNeeds", desc := "(II)I" } : Jvm.MethodName)) ∈ zG := zG_of 359 (by decide +kernel) (by decide +kernel)
theorem wd_360 : (Jvm.Cond.code ({ cls := "SerialRecaps$Story", name := "allNeeds", desc := "(II)I" } : Jvm.MethodName) prog_6_method_6_code (5 : Nat) (Option.some Jvm.ClassFile.FieldType.int)) ∈ zG := zG_of 360 (by decide +kernel) (by decide +kernel)
theorem wd_362 : (Jvm.Cond.methodLink "SerialRecaps$State" (57 : Nat) ({ cls := "java/lang/Integer", name := "bitCount", desc := "(I)I" } : Jvm.MethodName)) ∈ zG := zG_of 362 (by decide +kernel) (by decide +kernel)
theorem wd_363 : (Jvm.Cond.methodLink "SerialRecaps" (214 : Nat) ({ cls := "SerialRecaps", name := "mixReader", desc := "(JI)J" } : Jvm.MethodName)) ∈ zG := zG_of 363 (by decide +kernel) (by decide +kernel)
theorem wd_365 : (Jvm.Cond.instanceMethod ({ cls := "SerialRecaps", name := "mixReader", desc := "(JI)J" } : Jvm.MethodName)) ∈ zG := zG_of 365 (by decide +kernel) (by decide +kernel)
theorem wd_366 : (Jvm.Cond.code ({ cls := "SerialRecaps", name := "mixReader", desc := "(JI)J" } : Jvm.MethodName) prog_1_method_28_code (7 : Nat) (Option.some Jvm.ClassFile.FieldType.long)) ∈ zG := zG_of 366 (by decide +kernel) (by decide +kernel)
theorem wd_367 : (Jvm.Cond.methodLink "SerialRecaps" (174 : Nat) ({ cls := "SerialRecaps$Audience", name := "knowledge", desc := "(II)I" } : Jvm.MethodName)) ∈ zG := zG_of 367 (by decide +kernel) (by decide +kernel)
theorem wd_368 : (Jvm.Cond.instanceMethod ({ cls := "SerialRecaps$Audience", name := "knowledge", desc := "(II)I" } : Jvm.MethodName)) ∈ zG := zG_of 368 (by decide +kernel) (by decide +kernel)
theorem wd_369 : (Jvm.Cond.selects "SerialRecaps$Audience" ({ cls := "SerialRecaps$Audience", name := "knowledge", desc := "(II)I" } : Jvm.MethodName) ({ cls := "SerialRecaps$Audience", name := "knowledge", desc := "(II)I" } : Jvm.MethodName)) ∈ zG := zG_of 369 (by decide +kernel) (by decide +kernel)
theorem wd_370 : (Jvm.Cond.code ({ cls := "SerialRecaps$Audience", name := "knowledge", desc := "(II)I" } : Jvm.MethodName) prog_2_method_5_code (3 : Nat) (Option.some Jvm.ClassFile.FieldType.int)) ∈ zG := zG_of 370 (by decide +kernel) (by decide +kernel)
theorem wd_371 : (Jvm.Cond.methodLink "SerialRecaps" (177 : Nat) ({ cls := "SerialRecaps$State", name := "ofReader", desc := "(II)I" } : Jvm.MethodName)) ∈ zG := zG_of 371 (by decide +kernel) (by decide +kernel)
theorem wd_372 : (Jvm.Cond.instanceMethod ({ cls := "SerialRecaps$State", name := "ofReader", desc := "(II)I" } : Jvm.MethodName)) ∈ zG := zG_of 372 (by decide +kernel) (by decide +kernel)
theorem wd_373 : (Jvm.Cond.selects "SerialRecaps$State" ({ cls := "SerialRecaps$State", name := "ofReader", desc := "(II)I" } : Jvm.MethodName) ({ cls := "SerialRecaps$State", name := "ofReader", desc := "(II)I" } : Jvm.MethodName)) ∈ zG := zG_of 373 (by decide +kernel) (by decide +kernel)
theorem wd_374 : (Jvm.Cond.code ({ cls := "SerialRecaps$State", name := "ofReader", desc := "(II)I" } : Jvm.MethodName) prog_5_method_12_code (3 : Nat) (Option.some Jvm.ClassFile.FieldType.int)) ∈ zG := zG_of 374 (by decide +kernel) (by decide +kernel)
theorem wd_375 : (Jvm.Cond.methodLink "SerialRecaps$State" (49 : Nat) ({ cls := "SerialRecaps$Audience", name := "known", desc := "(I)I" } : Jvm.MethodName)) ∈ zG := zG_of 375 (by decide +kernel) (by decide +kernel)
theorem wd_376 : (Jvm.Cond.methodLink "SerialRecaps$State" (128 : Nat) ({ cls := "SerialRecaps$Story", name := "openCliffs", desc := "(I)I" } : Jvm.MethodName)) ∈ zG := zG_of 376 (by decide +kernel) (by decide +kernel)
theorem wd_377 : (Jvm.Cond.instanceMethod ({ cls := "SerialRecaps$Story", name := "openCliffs", desc := "(I)I" } : Jvm.MethodName)) ∈ zG := zG_of 377 (by decide +kernel) (by decide +kernel)
theorem wd_378 : (Jvm.Cond.selects "SerialRecaps$Story" ({ cls := "SerialRecaps$Story", name := "openCliffs", desc := "(I)I" } : Jvm.MethodName) ({ cls := "SerialRecaps$Story", name := "openCliffs", desc := "(I)I" } : Jvm.MethodName)) ∈ zG := zG_of 378 (by decide +kernel) (by decide +kernel)
theorem wd_379 : (Jvm.Cond.code ({ cls := "SerialRecaps$Story", name := "openCliffs", desc := "(I)I" } : Jvm.MethodName) prog_6_method_13_code (5 : Nat) (Option.some Jvm.ClassFile.FieldType.int)) ∈ zG := zG_of 379 (by decide +kernel) (by decide +kernel)
theorem wd_380 : (Jvm.Cond.methodLink "SerialRecaps" (194 : Nat) ({ cls := "SerialRecaps$State", name := "bestPart", desc := "(I)I" } : Jvm.MethodName)) ∈ zG := zG_of 380 (by decide +kernel) (by decide +kernel)
theorem wd_381 : (Jvm.Cond.instanceMethod ({ cls := "SerialRecaps$State", name := "bestPart", desc := "(I)I" } : Jvm.MethodName)) ∈ zG := zG_of 381 (by decide +kernel) (by decide +kernel)
theorem wd_382 : (Jvm.Cond.selects "SerialRecaps$State" ({ cls := "SerialRecaps$State", name := "bestPart", desc := "(I)I" } : Jvm.MethodName) ({ cls := "SerialRecaps$State", name := "bestPart", desc := "(I)I" } : Jvm.MethodName)) ∈ zG := zG_of 382 (by decide +kernel) (by decide +kernel)
theorem wd_383 : (Jvm.Cond.code ({ cls := "SerialRecaps$State", name := "bestPart", desc := "(I)I" } : Jvm.MethodName) prog_5_method_16_code (9 : Nat) (Option.some Jvm.ClassFile.FieldType.int)) ∈ zG := zG_of 383 (by decide +kernel) (by decide +kernel)
theorem wd_384 : (Jvm.Cond.methodLink "SerialRecaps$State" (97 : Nat) ({ cls := "SerialRecaps$Audience", name := "hasRead", desc := "(II)Z" } : Jvm.MethodName)) ∈ zG := zG_of 384 (by decide +kernel) (by decide +kernel)
theorem wd_385 : (Jvm.Cond.methodLink "SerialRecaps$State" (152 : Nat) ({ cls := "SerialRecaps$State", name := "ofRecap", desc := "(III)I" } : Jvm.MethodName)) ∈ zG := zG_of 385 (by decide +kernel) (by decide +kernel)
theorem wd_386 : (Jvm.Cond.instanceMethod ({ cls := "SerialRecaps$State", name := "ofRecap", desc := "(III)I" } : Jvm.MethodName)) ∈ zG := zG_of 386 (by decide +kernel) (by decide +kernel)
theorem wd_387 : (Jvm.Cond.selects "SerialRecaps$State" ({ cls := "SerialRecaps$State", name := "ofRecap", desc := "(III)I" } : Jvm.MethodName) ({ cls := "SerialRecaps$State", name := "ofRecap", desc := "(III)I" } : Jvm.MethodName)) ∈ zG := zG_of 387 (by decide +kernel) (by decide +kernel)
theorem wd_388 : (Jvm.Cond.code ({ cls := "SerialRecaps$State", name := "ofRecap", desc := "(III)I" } : Jvm.MethodName) prog_5_method_7_code (6 : Nat) (Option.some Jvm.ClassFile.FieldType.int)) ∈ zG := zG_of 388 (by decide +kernel) (by decide +kernel)
theorem wd_389 : (Jvm.Cond.methodLink "SerialRecaps$State" (75 : Nat) ({ cls := "SerialRecaps$State", name := "missedParts", desc := "(II)I" } : Jvm.MethodName)) ∈ zG := zG_of 389 (by decide +kernel) (by decide +kernel)
theorem wd_391 : (Jvm.Cond.instanceMethod ({ cls := "SerialRecaps$State", name := "missedParts", desc := "(II)I" } : Jvm.MethodName)) ∈ zG := zG_of 391 (by decide +kernel) (by decide +kernel)
theorem wd_392 : (Jvm.Cond.code ({ cls := "SerialRecaps$State", name := "missedParts", desc := "(II)I" } : Jvm.MethodName) prog_5_method_3_code (3 : Nat) (Option.some Jvm.ClassFile.FieldType.int)) ∈ zG := zG_of 392 (by decide +kernel) (by decide +kernel)
theorem wd_393 : (Jvm.Cond.methodLink "SerialRecaps$State" (78 : Nat) ({ cls := "SerialRecaps$State", name := "toldParts", desc := "(I)I" } : Jvm.MethodName)) ∈ zG := zG_of 393 (by decide +kernel) (by decide +kernel)
theorem wd_395 : (Jvm.Cond.instanceMethod ({ cls := "SerialRecaps$State", name := "toldParts", desc := "(I)I" } : Jvm.MethodName)) ∈ zG := zG_of 395 (by decide +kernel) (by decide +kernel)
theorem wd_396 : (Jvm.Cond.code ({ cls := "SerialRecaps$State", name := "toldParts", desc := "(I)I" } : Jvm.MethodName) prog_5_method_4_code (5 : Nat) (Option.some Jvm.ClassFile.FieldType.int)) ∈ zG := zG_of 396 (by decide +kernel) (by decide +kernel)
theorem wd_397 : (Jvm.Cond.methodLink "SerialRecaps$State" (81 : Nat) ({ cls := "SerialRecaps$State", name := "lineWords", desc := "(I)I" } : Jvm.MethodName)) ∈ zG := zG_of 397 (by decide +kernel) (by decide +kernel)
theorem wd_399 : (Jvm.Cond.instanceMethod ({ cls := "SerialRecaps$State", name := "lineWords", desc := "(I)I" } : Jvm.MethodName)) ∈ zG := zG_of 399 (by decide +kernel) (by decide +kernel)
theorem wd_400 : (Jvm.Cond.code ({ cls := "SerialRecaps$State", name := "lineWords", desc := "(I)I" } : Jvm.MethodName) prog_5_method_5_code (4 : Nat) (Option.some Jvm.ClassFile.FieldType.int)) ∈ zG := zG_of 400 (by decide +kernel) (by decide +kernel)
theorem wd_402 : (Jvm.Cond.methodLink "SerialRecaps$State" (72 : Nat) ({ cls := "SerialRecaps$State", name := "shortened", desc := "(I)I" } : Jvm.MethodName)) ∈ zG := zG_of 402 (by decide +kernel) (by decide +kernel)
theorem wd_404 : (Jvm.Cond.instanceMethod ({ cls := "SerialRecaps$State", name := "shortened", desc := "(I)I" } : Jvm.MethodName)) ∈ zG := zG_of 404 (by decide +kernel) (by decide +kernel)
theorem wd_405 : (Jvm.Cond.code ({ cls := "SerialRecaps$State", name := "shortened", desc := "(I)I" } : Jvm.MethodName) prog_5_method_6_code (3 : Nat) (Option.some Jvm.ClassFile.FieldType.int)) ∈ zG := zG_of 405 (by decide +kernel) (by decide +kernel)
theorem wd_406 : (Jvm.Cond.methodLink "SerialRecaps" (197 : Nat) ({ cls := "SerialRecaps$State", name := "linesForAll", desc := "(I)I" } : Jvm.MethodName)) ∈ zG := zG_of 406 (by decide +kernel) (by decide +kernel)
theorem wd_407 : (Jvm.Cond.instanceMethod ({ cls := "SerialRecaps$State", name := "linesForAll", desc := "(I)I" } : Jvm.MethodName)) ∈ zG := zG_of 407 (by decide +kernel) (by decide +kernel)
theorem wd_408 : (Jvm.Cond.selects "SerialRecaps$State" ({ cls := "SerialRecaps$State", name := "linesForAll", desc := "(I)I" } : Jvm.MethodName) ({ cls := "SerialRecaps$State", name := "linesForAll", desc := "(I)I" } : Jvm.MethodName)) ∈ zG := zG_of 408 (by decide +kernel) (by decide +kernel)
theorem wd_409 : (Jvm.Cond.code ({ cls := "SerialRecaps$State", name := "linesForAll", desc := "(I)I" } : Jvm.MethodName) prog_5_method_17_code (4 : Nat) (Option.some Jvm.ClassFile.FieldType.int)) ∈ zG := zG_of 409 (by decide +kernel) (by decide +kernel)
theorem wd_410 : (Jvm.Cond.methodLink "SerialRecaps$State" (156 : Nat) ({ cls := "java/lang/Math", name := "max", desc := "(II)I" } : Jvm.MethodName)) ∈ zG := zG_of 410 (by decide +kernel) (by decide +kernel)
theorem wd_411 : (Jvm.Cond.static ({ cls := "java/lang/Math", name := "max", desc := "(II)I" } : Jvm.MethodName)) ∈ zG := zG_of 411 (by decide +kernel) (by decide +kernel)
theorem wd_412 : (Jvm.Cond.code ({ cls := "java/lang/Math", name := "max", desc := "(II)I" } : Jvm.MethodName) prog_16_method_65_code (2 : Nat) (Option.some Jvm.ClassFile.FieldType.int)) ∈ zG := zG_of 412 (by decide +kernel) (by decide +kernel)
theorem wd_413 : (Jvm.Cond.methodLink "SerialRecaps" (191 : Nat) ({ cls := "SerialRecaps$State", name := "ofRecap", desc := "(III)I" } : Jvm.MethodName)) ∈ zG := zG_of 413 (by decide +kernel) (by decide +kernel)
theorem wd_414 : (Jvm.Cond.methodLink "SerialRecaps" (218 : Nat) ({ cls := "SerialRecaps", name := "mixPlots", desc := "(J)J" } : Jvm.MethodName)) ∈ zG := zG_of 414 (by decide +kernel) (by decide +kernel)
theorem wd_416 : (Jvm.Cond.instanceMethod ({ cls := "SerialRecaps", name := "mixPlots", desc := "(J)J" } : Jvm.MethodName)) ∈ zG := zG_of 416 (by decide +kernel) (by decide +kernel)
theorem wd_417 : (Jvm.Cond.code ({ cls := "SerialRecaps", name := "mixPlots", desc := "(J)J" } : Jvm.MethodName) prog_1_method_29_code (7 : Nat) (Option.some Jvm.ClassFile.FieldType.long)) ∈ zG := zG_of 417 (by decide +kernel) (by decide +kernel)
theorem wd_418 : (Jvm.Cond.methodLink "SerialRecaps" (185 : Nat) ({ cls := "SerialRecaps$State", name := "ofPlot", desc := "(II)I" } : Jvm.MethodName)) ∈ zG := zG_of 418 (by decide +kernel) (by decide +kernel)
theorem wd_419 : (Jvm.Cond.instanceMethod ({ cls := "SerialRecaps$State", name := "ofPlot", desc := "(II)I" } : Jvm.MethodName)) ∈ zG := zG_of 419 (by decide +kernel) (by decide +kernel)
theorem wd_420 : (Jvm.Cond.selects "SerialRecaps$State" ({ cls := "SerialRecaps$State", name := "ofPlot", desc := "(II)I" } : Jvm.MethodName) ({ cls := "SerialRecaps$State", name := "ofPlot", desc := "(II)I" } : Jvm.MethodName)) ∈ zG := zG_of 420 (by decide +kernel) (by decide +kernel)
theorem wd_421 : (Jvm.Cond.code ({ cls := "SerialRecaps$State", name := "ofPlot", desc := "(II)I" } : Jvm.MethodName) prog_5_method_13_code (3 : Nat) (Option.some Jvm.ClassFile.FieldType.int)) ∈ zG := zG_of 421 (by decide +kernel) (by decide +kernel)
theorem wd_422 : (Jvm.Cond.methodLink "SerialRecaps$State" (131 : Nat) ({ cls := "SerialRecaps$Story", name := "howManyGoOnWith", desc := "(I)I" } : Jvm.MethodName)) ∈ zG := zG_of 422 (by decide +kernel) (by decide +kernel)
theorem wd_423 : (Jvm.Cond.instanceMethod ({ cls := "SerialRecaps$Story", name := "howManyGoOnWith", desc := "(I)I" } : Jvm.MethodName)) ∈ zG := zG_of 423 (by decide +kernel) (by decide +kernel)
theorem wd_424 : (Jvm.Cond.selects "SerialRecaps$Story" ({ cls := "SerialRecaps$Story", name := "howManyGoOnWith", desc := "(I)I" } : Jvm.MethodName) ({ cls := "SerialRecaps$Story", name := "howManyGoOnWith", desc := "(I)I" } : Jvm.MethodName)) ∈ zG := zG_of 424 (by decide +kernel) (by decide +kernel)
theorem wd_425 : (Jvm.Cond.code ({ cls := "SerialRecaps$Story", name := "howManyGoOnWith", desc := "(I)I" } : Jvm.MethodName) prog_6_method_10_code (4 : Nat) (Option.some Jvm.ClassFile.FieldType.int)) ∈ zG := zG_of 425 (by decide +kernel) (by decide +kernel)
theorem wd_426 : (Jvm.Cond.methodLink "SerialRecaps$State" (134 : Nat) ({ cls := "SerialRecaps$Story", name := "latestWith", desc := "(I)I" } : Jvm.MethodName)) ∈ zG := zG_of 426 (by decide +kernel) (by decide +kernel)
theorem wd_427 : (Jvm.Cond.instanceMethod ({ cls := "SerialRecaps$Story", name := "latestWith", desc := "(I)I" } : Jvm.MethodName)) ∈ zG := zG_of 427 (by decide +kernel) (by decide +kernel)
theorem wd_428 : (Jvm.Cond.selects "SerialRecaps$Story" ({ cls := "SerialRecaps$Story", name := "latestWith", desc := "(I)I" } : Jvm.MethodName) ({ cls := "SerialRecaps$Story", name := "latestWith", desc := "(I)I" } : Jvm.MethodName)) ∈ zG := zG_of 428 (by decide +kernel) (by decide +kernel)
theorem wd_429 : (Jvm.Cond.code ({ cls := "SerialRecaps$Story", name := "latestWith", desc := "(I)I" } : Jvm.MethodName) prog_6_method_11_code (3 : Nat) (Option.some Jvm.ClassFile.FieldType.int)) ∈ zG := zG_of 429 (by decide +kernel) (by decide +kernel)
theorem wd_430 : (Jvm.Cond.methodLink "SerialRecaps$State" (137 : Nat) ({ cls := "SerialRecaps$Story", name := "howManyCliffs", desc := "(I)I" } : Jvm.MethodName)) ∈ zG := zG_of 430 (by decide +kernel) (by decide +kernel)
theorem wd_431 : (Jvm.Cond.instanceMethod ({ cls := "SerialRecaps$Story", name := "howManyCliffs", desc := "(I)I" } : Jvm.MethodName)) ∈ zG := zG_of 431 (by decide +kernel) (by decide +kernel)
theorem wd_432 : (Jvm.Cond.selects "SerialRecaps$Story" ({ cls := "SerialRecaps$Story", name := "howManyCliffs", desc := "(I)I" } : Jvm.MethodName) ({ cls := "SerialRecaps$Story", name := "howManyCliffs", desc := "(I)I" } : Jvm.MethodName)) ∈ zG := zG_of 432 (by decide +kernel) (by decide +kernel)
theorem wd_433 : (Jvm.Cond.code ({ cls := "SerialRecaps$Story", name := "howManyCliffs", desc := "(I)I" } : Jvm.MethodName) prog_6_method_12_code (4 : Nat) (Option.some Jvm.ClassFile.FieldType.int)) ∈ zG := zG_of 433 (by decide +kernel) (by decide +kernel)
theorem wd_434 : (Jvm.Cond.methodLink "SerialRecaps$State" (140 : Nat) ({ cls := "SerialRecaps$State", name := "howManyHang", desc := "(I)I" } : Jvm.MethodName)) ∈ zG := zG_of 434 (by decide +kernel) (by decide +kernel)
theorem wd_436 : (Jvm.Cond.instanceMethod ({ cls := "SerialRecaps$State", name := "howManyHang", desc := "(I)I" } : Jvm.MethodName)) ∈ zG := zG_of 436 (by decide +kernel) (by decide +kernel)
theorem wd_437 : (Jvm.Cond.code ({ cls := "SerialRecaps$State", name := "howManyHang", desc := "(I)I" } : Jvm.MethodName) prog_5_method_14_code (4 : Nat) (Option.some Jvm.ClassFile.FieldType.int)) ∈ zG := zG_of 437 (by decide +kernel) (by decide +kernel)
theorem wd_438 : (Jvm.Cond.methodLink "SerialRecaps" (221 : Nat) ({ cls := "SerialRecaps", name := "bitsOfShare", desc := "(D)J" } : Jvm.MethodName)) ∈ zG := zG_of 438 (by decide +kernel) (by decide +kernel)
theorem wd_439 : (Jvm.Cond.static ({ cls := "SerialRecaps", name := "bitsOfShare", desc := "(D)J" } : Jvm.MethodName)) ∈ zG := zG_of 439 (by decide +kernel) (by decide +kernel)
theorem wd_440 : (Jvm.Cond.code ({ cls := "SerialRecaps", name := "bitsOfShare", desc := "(D)J" } : Jvm.MethodName) prog_1_method_31_code (7 : Nat) (Option.some Jvm.ClassFile.FieldType.long)) ∈ zG := zG_of 440 (by decide +kernel) (by decide +kernel)
theorem wd_441 : (Jvm.Cond.constantLong "SerialRecaps" (233 : Nat) (1023 : Int64)) ∈ zG := zG_of 441 (by decide +kernel) (by decide +kernel)
theorem wd_442 : (Jvm.Cond.constantDouble "SerialRecaps" (235 : Nat) (4611686018427387904 : UInt64)) ∈ zG := zG_of 442 (by decide +kernel) (by decide +kernel)
theorem wd_443 : (Jvm.Cond.constantDouble "SerialRecaps" (237 : Nat) (4841369599423283200 : UInt64)) ∈ zG := zG_of 443 (by decide +kernel) (by decide +kernel)
theorem wd_444 : (Jvm.Cond.methodLink "SerialRecaps" (225 : Nat) ({ cls := "SerialRecaps", name := "mixText", desc := "(J)J" } : Jvm.MethodName)) ∈ zG := zG_of 444 (by decide +kernel) (by decide +kernel)
theorem wd_446 : (Jvm.Cond.instanceMethod ({ cls := "SerialRecaps", name := "mixText", desc := "(J)J" } : Jvm.MethodName)) ∈ zG := zG_of 446 (by decide +kernel) (by decide +kernel)
theorem wd_447 : (Jvm.Cond.code ({ cls := "SerialRecaps", name := "mixText", desc := "(J)J" } : Jvm.MethodName) prog_1_method_30_code (6 : Nat) (Option.some Jvm.ClassFile.FieldType.long)) ∈ zG := zG_of 447 (by decide +kernel) (by decide +kernel)
theorem wd_450 : (Jvm.Cond.codeWith ({ cls := "SerialRecapsLaw", name := "add", desc := "(LSerialRecaps;III[J)I" } : Jvm.MethodName) method_3_code (6 : Nat) (Option.some Jvm.ClassFile.FieldType.int) [((0 : Nat), (12 : Nat), (15 : Nat), (13 : Nat)), ((0 : Nat), (12 : Nat), (19 : Nat), (15 : Nat))]) ∈ zG := zG_of 450 (by decide +kernel) (by decide +kernel)
theorem wd_451 : (Jvm.Cond.classLink "SerialRecapsLaw" (13 : Nat) "java/lang/IllegalArgumentException") ∈ zG := zG_of 451 (by decide +kernel) (by decide +kernel)
theorem wd_452 : (Jvm.Cond.classLink "SerialRecapsLaw" (15 : Nat) "java/lang/IllegalStateException") ∈ zG := zG_of 452 (by decide +kernel) (by decide +kernel)
theorem wd_453 : (Jvm.Cond.methodLink "SerialRecapsLaw" (7 : Nat) ({ cls := "SerialRecaps", name := "add", desc := "(III)I" } : Jvm.MethodName)) ∈ zG := zG_of 453 (by decide +kernel) (by decide +kernel)
theorem wd_454 : (Jvm.Cond.instanceMethod ({ cls := "SerialRecaps", name := "add", desc := "(III)I" } : Jvm.MethodName)) ∈ zG := zG_of 454 (by decide +kernel) (by decide +kernel)
theorem wd_455 : (Jvm.Cond.selects "SerialRecaps" ({ cls := "SerialRecaps", name := "add", desc := "(III)I" } : Jvm.MethodName) ({ cls := "SerialRecaps", name := "add", desc := "(III)I" } : Jvm.MethodName)) ∈ zG := zG_of 455 (by decide +kernel) (by decide +kernel)
theorem wd_456 : (Jvm.Cond.code ({ cls := "SerialRecaps", name := "add", desc := "(III)I" } : Jvm.MethodName) prog_1_method_2_code (4 : Nat) (Option.some Jvm.ClassFile.FieldType.int)) ∈ zG := zG_of 456 (by decide +kernel) (by decide +kernel)
theorem wd_457 : (Jvm.Cond.methodLink "SerialRecaps" (30 : Nat) ({ cls := "SerialRecaps", name := "checkPlots", desc := "(II)V" } : Jvm.MethodName)) ∈ zG := zG_of 457 (by decide +kernel) (by decide +kernel)
theorem wd_458 : (Jvm.Cond.static ({ cls := "SerialRecaps", name := "checkPlots", desc := "(II)V" } : Jvm.MethodName)) ∈ zG := zG_of 458 (by decide +kernel) (by decide +kernel)
theorem wd_459 : (Jvm.Cond.code ({ cls := "SerialRecaps", name := "checkPlots", desc := "(II)V" } : Jvm.MethodName) prog_1_method_37_code (2 : Nat) (Option.none : Option Jvm.ClassFile.FieldType)) ∈ zG := zG_of 459 (by decide +kernel) (by decide +kernel)
theorem wd_460 : (Jvm.Cond.classLink "SerialRecaps" (34 : Nat) "java/lang/IllegalArgumentException") ∈ zG := zG_of 460 (by decide +kernel) (by decide +kernel)
theorem wd_528 : (Jvm.Cond.methodLink "SerialRecaps" (252 : Nat) ({ cls := "SerialRecaps", name := "isIn", desc := "(II)Z" } : Jvm.MethodName)) ∈ zG := zG_of 528 (by decide +kernel) (by decide +kernel)
theorem wd_531 : (Jvm.Cond.classLink "SerialRecaps" (51 : Nat) "java/lang/IllegalStateException") ∈ zG := zG_of 531 (by decide +kernel) (by decide +kernel)
theorem wd_547 : (Jvm.Cond.methodLink "SerialRecaps" (56 : Nat) ({ cls := "SerialRecaps$History", name := "keep", desc := "(LSerialRecaps$State;)V" } : Jvm.MethodName)) ∈ zG := zG_of 547 (by decide +kernel) (by decide +kernel)
theorem wd_548 : (Jvm.Cond.instanceMethod ({ cls := "SerialRecaps$History", name := "keep", desc := "(LSerialRecaps$State;)V" } : Jvm.MethodName)) ∈ zG := zG_of 548 (by decide +kernel) (by decide +kernel)
theorem wd_549 : (Jvm.Cond.selects "SerialRecaps$History" ({ cls := "SerialRecaps$History", name := "keep", desc := "(LSerialRecaps$State;)V" } : Jvm.MethodName) ({ cls := "SerialRecaps$History", name := "keep", desc := "(LSerialRecaps$State;)V" } : Jvm.MethodName)) ∈ zG := zG_of 549 (by decide +kernel) (by decide +kernel)
theorem wd_550 : (Jvm.Cond.code ({ cls := "SerialRecaps$History", name := "keep", desc := "(LSerialRecaps$State;)V" } : Jvm.MethodName) prog_4_method_2_code (4 : Nat) (Option.none : Option Jvm.ClassFile.FieldType)) ∈ zG := zG_of 550 (by decide +kernel) (by decide +kernel)
theorem wd_551 : (Jvm.Cond.methodLink "SerialRecaps$History" (24 : Nat) ({ cls := "SerialRecaps$State", name := "<init>", desc := "()V" } : Jvm.MethodName)) ∈ zG := zG_of 551 (by decide +kernel) (by decide +kernel)
theorem wd_552 : (Jvm.Cond.methodLink "SerialRecaps$History" (25 : Nat) ({ cls := "SerialRecaps$State", name := "copyFrom", desc := "(LSerialRecaps$State;)V" } : Jvm.MethodName)) ∈ zG := zG_of 552 (by decide +kernel) (by decide +kernel)
theorem wd_553 : (Jvm.Cond.instanceMethod ({ cls := "SerialRecaps$State", name := "copyFrom", desc := "(LSerialRecaps$State;)V" } : Jvm.MethodName)) ∈ zG := zG_of 553 (by decide +kernel) (by decide +kernel)
theorem wd_554 : (Jvm.Cond.selects "SerialRecaps$State" ({ cls := "SerialRecaps$State", name := "copyFrom", desc := "(LSerialRecaps$State;)V" } : Jvm.MethodName) ({ cls := "SerialRecaps$State", name := "copyFrom", desc := "(LSerialRecaps$State;)V" } : Jvm.MethodName)) ∈ zG := zG_of 554 (by decide +kernel) (by decide +kernel)
theorem wd_555 : (Jvm.Cond.code ({ cls := "SerialRecaps$State", name := "copyFrom", desc := "(LSerialRecaps$State;)V" } : Jvm.MethodName) prog_5_method_2_code (2 : Nat) (Option.none : Option Jvm.ClassFile.FieldType)) ∈ zG := zG_of 555 (by decide +kernel) (by decide +kernel)
theorem wd_556 : (Jvm.Cond.methodLink "SerialRecaps$State" (29 : Nat) ({ cls := "SerialRecaps$Story", name := "copyFrom", desc := "(LSerialRecaps$Story;)V" } : Jvm.MethodName)) ∈ zG := zG_of 556 (by decide +kernel) (by decide +kernel)
theorem wd_557 : (Jvm.Cond.instanceMethod ({ cls := "SerialRecaps$Story", name := "copyFrom", desc := "(LSerialRecaps$Story;)V" } : Jvm.MethodName)) ∈ zG := zG_of 557 (by decide +kernel) (by decide +kernel)
theorem wd_558 : (Jvm.Cond.selects "SerialRecaps$Story" ({ cls := "SerialRecaps$Story", name := "copyFrom", desc := "(LSerialRecaps$Story;)V" } : Jvm.MethodName) ({ cls := "SerialRecaps$Story", name := "copyFrom", desc := "(LSerialRecaps$Story;)V" } : Jvm.MethodName)) ∈ zG := zG_of 558 (by decide +kernel) (by decide +kernel)
theorem wd_559 : (Jvm.Cond.code ({ cls := "SerialRecaps$Story", name := "copyFrom", desc := "(LSerialRecaps$Story;)V" } : Jvm.MethodName) prog_6_method_2_code (2 : Nat) (Option.none : Option Jvm.ClassFile.FieldType)) ∈ zG := zG_of 559 (by decide +kernel) (by decide +kernel)
theorem wd_560 : (Jvm.Cond.methodLink "SerialRecaps$Story" (28 : Nat) ({ cls := "java/lang/System", name := "arraycopy", desc := "(Ljava/lang/Object;ILjava/lang/Object;II)V" } : Jvm.MethodName)) ∈ zG := zG_of 560 (by decide +kernel) (by decide +kernel)
theorem wd_561 : (Jvm.Cond.static ({ cls := "java/lang/System", name := "arraycopy", desc := "(Ljava/lang/Object;ILjava/lang/Object;II)V" } : Jvm.MethodName)) ∈ zG := zG_of 561 (by decide +kernel) (by decide +kernel)
theorem wd_562 : (Jvm.Cond.native ({ cls := "java/lang/System", name := "arraycopy", desc := "(Ljava/lang/Object;ILjava/lang/Object;II)V" } : Jvm.MethodName)) ∈ zG := zG_of 562 (by decide +kernel) (by decide +kernel)
theorem wd_563 : (Jvm.Cond.methodLink "SerialRecaps$State" (33 : Nat) ({ cls := "SerialRecaps$Audience", name := "copyFrom", desc := "(LSerialRecaps$Audience;)V" } : Jvm.MethodName)) ∈ zG := zG_of 563 (by decide +kernel) (by decide +kernel)
theorem wd_564 : (Jvm.Cond.instanceMethod ({ cls := "SerialRecaps$Audience", name := "copyFrom", desc := "(LSerialRecaps$Audience;)V" } : Jvm.MethodName)) ∈ zG := zG_of 564 (by decide +kernel) (by decide +kernel)
theorem wd_565 : (Jvm.Cond.selects "SerialRecaps$Audience" ({ cls := "SerialRecaps$Audience", name := "copyFrom", desc := "(LSerialRecaps$Audience;)V" } : Jvm.MethodName) ({ cls := "SerialRecaps$Audience", name := "copyFrom", desc := "(LSerialRecaps$Audience;)V" } : Jvm.MethodName)) ∈ zG := zG_of 565 (by decide +kernel) (by decide +kernel)
theorem wd_566 : (Jvm.Cond.code ({ cls := "SerialRecaps$Audience", name := "copyFrom", desc := "(LSerialRecaps$Audience;)V" } : Jvm.MethodName) prog_2_method_2_code (2 : Nat) (Option.none : Option Jvm.ClassFile.FieldType)) ∈ zG := zG_of 566 (by decide +kernel) (by decide +kernel)
theorem wd_567 : (Jvm.Cond.methodLink "SerialRecaps$Audience" (27 : Nat) ({ cls := "java/lang/System", name := "arraycopy", desc := "(Ljava/lang/Object;ILjava/lang/Object;II)V" } : Jvm.MethodName)) ∈ zG := zG_of 567 (by decide +kernel) (by decide +kernel)
theorem wd_568 : (Jvm.Cond.methodLink "SerialRecaps$State" (36 : Nat) ({ cls := "java/lang/System", name := "arraycopy", desc := "(Ljava/lang/Object;ILjava/lang/Object;II)V" } : Jvm.MethodName)) ∈ zG := zG_of 568 (by decide +kernel) (by decide +kernel)
theorem wd_569 : (Jvm.Cond.methodLink "SerialRecaps" (60 : Nat) ({ cls := "SerialRecaps$Story", name := "put", desc := "(III)V" } : Jvm.MethodName)) ∈ zG := zG_of 569 (by decide +kernel) (by decide +kernel)
theorem wd_570 : (Jvm.Cond.instanceMethod ({ cls := "SerialRecaps$Story", name := "put", desc := "(III)V" } : Jvm.MethodName)) ∈ zG := zG_of 570 (by decide +kernel) (by decide +kernel)
theorem wd_571 : (Jvm.Cond.selects "SerialRecaps$Story" ({ cls := "SerialRecaps$Story", name := "put", desc := "(III)V" } : Jvm.MethodName) ({ cls := "SerialRecaps$Story", name := "put", desc := "(III)V" } : Jvm.MethodName)) ∈ zG := zG_of 571 (by decide +kernel) (by decide +kernel)
theorem wd_572 : (Jvm.Cond.code ({ cls := "SerialRecaps$Story", name := "put", desc := "(III)V" } : Jvm.MethodName) prog_6_method_3_code (4 : Nat) (Option.none : Option Jvm.ClassFile.FieldType)) ∈ zG := zG_of 572 (by decide +kernel) (by decide +kernel)
theorem wd_573 : (Jvm.Cond.methodLink "SerialRecaps$Story" (34 : Nat) ({ cls := "SerialRecaps$Story", name := "findNeeds", desc := "(I)I" } : Jvm.MethodName)) ∈ zG := zG_of 573 (by decide +kernel) (by decide +kernel)
theorem wd_575 : (Jvm.Cond.instanceMethod ({ cls := "SerialRecaps$Story", name := "findNeeds", desc := "(I)I" } : Jvm.MethodName)) ∈ zG := zG_of 575 (by decide +kernel) (by decide +kernel)
theorem wd_576 : (Jvm.Cond.code ({ cls := "SerialRecaps$Story", name := "findNeeds", desc := "(I)I" } : Jvm.MethodName) prog_6_method_5_code (5 : Nat) (Option.some Jvm.ClassFile.FieldType.int)) ∈ zG := zG_of 576 (by decide +kernel) (by decide +kernel)
theorem wd_579 : (Jvm.Cond.codeWith ({ cls := "SerialRecapsLaw", name := "change", desc := "(LSerialRecaps;III[J)I" } : Jvm.MethodName) method_4_code (6 : Nat) (Option.some Jvm.ClassFile.FieldType.int) [((0 : Nat), (12 : Nat), (15 : Nat), (20 : Nat)), ((0 : Nat), (12 : Nat), (19 : Nat), (13 : Nat))]) ∈ zG := zG_of 579 (by decide +kernel) (by decide +kernel)
theorem wd_580 : (Jvm.Cond.classLink "SerialRecapsLaw" (20 : Nat) "java/lang/IndexOutOfBoundsException") ∈ zG := zG_of 580 (by decide +kernel) (by decide +kernel)
theorem wd_581 : (Jvm.Cond.methodLink "SerialRecapsLaw" (17 : Nat) ({ cls := "SerialRecaps", name := "change", desc := "(III)I" } : Jvm.MethodName)) ∈ zG := zG_of 581 (by decide +kernel) (by decide +kernel)
theorem wd_582 : (Jvm.Cond.instanceMethod ({ cls := "SerialRecaps", name := "change", desc := "(III)I" } : Jvm.MethodName)) ∈ zG := zG_of 582 (by decide +kernel) (by decide +kernel)
theorem wd_583 : (Jvm.Cond.selects "SerialRecaps" ({ cls := "SerialRecaps", name := "change", desc := "(III)I" } : Jvm.MethodName) ({ cls := "SerialRecaps", name := "change", desc := "(III)I" } : Jvm.MethodName)) ∈ zG := zG_of 583 (by decide +kernel) (by decide +kernel)
theorem wd_584 : (Jvm.Cond.code ({ cls := "SerialRecaps", name := "change", desc := "(III)I" } : Jvm.MethodName) prog_1_method_3_code (4 : Nat) (Option.some Jvm.ClassFile.FieldType.int)) ∈ zG := zG_of 584 (by decide +kernel) (by decide +kernel)
theorem wd_585 : (Jvm.Cond.methodLink "SerialRecaps" (64 : Nat) ({ cls := "SerialRecaps", name := "checkPart", desc := "(I)V" } : Jvm.MethodName)) ∈ zG := zG_of 585 (by decide +kernel) (by decide +kernel)
theorem wd_587 : (Jvm.Cond.instanceMethod ({ cls := "SerialRecaps", name := "checkPart", desc := "(I)V" } : Jvm.MethodName)) ∈ zG := zG_of 587 (by decide +kernel) (by decide +kernel)
theorem wd_588 : (Jvm.Cond.code ({ cls := "SerialRecaps", name := "checkPart", desc := "(I)V" } : Jvm.MethodName) prog_1_method_33_code (2 : Nat) (Option.none : Option Jvm.ClassFile.FieldType)) ∈ zG := zG_of 588 (by decide +kernel) (by decide +kernel)
theorem wd_589 : (Jvm.Cond.classLink "SerialRecaps" (180 : Nat) "java/lang/IndexOutOfBoundsException") ∈ zG := zG_of 589 (by decide +kernel) (by decide +kernel)
theorem wd_605 : (Jvm.Cond.methodLink "SerialRecaps" (68 : Nat) ({ cls := "SerialRecaps$Story", name := "rewrite", desc := "(III)I" } : Jvm.MethodName)) ∈ zG := zG_of 605 (by decide +kernel) (by decide +kernel)
theorem wd_606 : (Jvm.Cond.instanceMethod ({ cls := "SerialRecaps$Story", name := "rewrite", desc := "(III)I" } : Jvm.MethodName)) ∈ zG := zG_of 606 (by decide +kernel) (by decide +kernel)
theorem wd_607 : (Jvm.Cond.selects "SerialRecaps$Story" ({ cls := "SerialRecaps$Story", name := "rewrite", desc := "(III)I" } : Jvm.MethodName) ({ cls := "SerialRecaps$Story", name := "rewrite", desc := "(III)I" } : Jvm.MethodName)) ∈ zG := zG_of 607 (by decide +kernel) (by decide +kernel)
theorem wd_608 : (Jvm.Cond.code ({ cls := "SerialRecaps$Story", name := "rewrite", desc := "(III)I" } : Jvm.MethodName) prog_6_method_4_code (6 : Nat) (Option.some Jvm.ClassFile.FieldType.int)) ∈ zG := zG_of 608 (by decide +kernel) (by decide +kernel)
theorem wd_611 : (Jvm.Cond.codeWith ({ cls := "SerialRecapsLaw", name := "removeLast", desc := "(LSerialRecaps;[J)I" } : Jvm.MethodName) method_5_code (3 : Nat) (Option.some Jvm.ClassFile.FieldType.int) [((0 : Nat), (8 : Nat), (11 : Nat), (15 : Nat))]) ∈ zG := zG_of 611 (by decide +kernel) (by decide +kernel)
theorem wd_612 : (Jvm.Cond.methodLink "SerialRecapsLaw" (22 : Nat) ({ cls := "SerialRecaps", name := "removeLast", desc := "()I" } : Jvm.MethodName)) ∈ zG := zG_of 612 (by decide +kernel) (by decide +kernel)
theorem wd_613 : (Jvm.Cond.instanceMethod ({ cls := "SerialRecaps", name := "removeLast", desc := "()I" } : Jvm.MethodName)) ∈ zG := zG_of 613 (by decide +kernel) (by decide +kernel)
theorem wd_614 : (Jvm.Cond.selects "SerialRecaps" ({ cls := "SerialRecaps", name := "removeLast", desc := "()I" } : Jvm.MethodName) ({ cls := "SerialRecaps", name := "removeLast", desc := "()I" } : Jvm.MethodName)) ∈ zG := zG_of 614 (by decide +kernel) (by decide +kernel)
theorem wd_615 : (Jvm.Cond.code ({ cls := "SerialRecaps", name := "removeLast", desc := "()I" } : Jvm.MethodName) prog_1_method_4_code (3 : Nat) (Option.some Jvm.ClassFile.FieldType.int)) ∈ zG := zG_of 615 (by decide +kernel) (by decide +kernel)
theorem wd_617 : (Jvm.Cond.methodLink "SerialRecaps" (78 : Nat) ({ cls := "SerialRecaps$Audience", name := "whoRead", desc := "(I)I" } : Jvm.MethodName)) ∈ zG := zG_of 617 (by decide +kernel) (by decide +kernel)
theorem wd_618 : (Jvm.Cond.methodLink "SerialRecaps" (84 : Nat) ({ cls := "java/lang/Integer", name := "bitCount", desc := "(I)I" } : Jvm.MethodName)) ∈ zG := zG_of 618 (by decide +kernel) (by decide +kernel)
theorem wd_619 : (Jvm.Cond.methodLink "SerialRecaps" (89 : Nat) ({ cls := "SerialRecaps$Audience", name := "dropPart", desc := "(I)V" } : Jvm.MethodName)) ∈ zG := zG_of 619 (by decide +kernel) (by decide +kernel)
theorem wd_620 : (Jvm.Cond.instanceMethod ({ cls := "SerialRecaps$Audience", name := "dropPart", desc := "(I)V" } : Jvm.MethodName)) ∈ zG := zG_of 620 (by decide +kernel) (by decide +kernel)
theorem wd_621 : (Jvm.Cond.selects "SerialRecaps$Audience" ({ cls := "SerialRecaps$Audience", name := "dropPart", desc := "(I)V" } : Jvm.MethodName) ({ cls := "SerialRecaps$Audience", name := "dropPart", desc := "(I)V" } : Jvm.MethodName)) ∈ zG := zG_of 621 (by decide +kernel) (by decide +kernel)
theorem wd_622 : (Jvm.Cond.code ({ cls := "SerialRecaps$Audience", name := "dropPart", desc := "(I)V" } : Jvm.MethodName) prog_2_method_11_code (4 : Nat) (Option.none : Option Jvm.ClassFile.FieldType)) ∈ zG := zG_of 622 (by decide +kernel) (by decide +kernel)
theorem wd_625 : (Jvm.Cond.codeWith ({ cls := "SerialRecapsLaw", name := "set", desc := "(LSerialRecaps;II[J)I" } : Jvm.MethodName) method_6_code (5 : Nat) (Option.some Jvm.ClassFile.FieldType.int) [((0 : Nat), (10 : Nat), (13 : Nat), (20 : Nat)), ((0 : Nat), (10 : Nat), (17 : Nat), (13 : Nat))]) ∈ zG := zG_of 625 (by decide +kernel) (by decide +kernel)
theorem wd_626 : (Jvm.Cond.methodLink "SerialRecapsLaw" (26 : Nat) ({ cls := "SerialRecaps", name := "set", desc := "(II)I" } : Jvm.MethodName)) ∈ zG := zG_of 626 (by decide +kernel) (by decide +kernel)
theorem wd_627 : (Jvm.Cond.instanceMethod ({ cls := "SerialRecaps", name := "set", desc := "(II)I" } : Jvm.MethodName)) ∈ zG := zG_of 627 (by decide +kernel) (by decide +kernel)
theorem wd_628 : (Jvm.Cond.selects "SerialRecaps" ({ cls := "SerialRecaps", name := "set", desc := "(II)I" } : Jvm.MethodName) ({ cls := "SerialRecaps", name := "set", desc := "(II)I" } : Jvm.MethodName)) ∈ zG := zG_of 628 (by decide +kernel) (by decide +kernel)
theorem wd_629 : (Jvm.Cond.code ({ cls := "SerialRecaps", name := "set", desc := "(II)I" } : Jvm.MethodName) prog_1_method_5_code (6 : Nat) (Option.some Jvm.ClassFile.FieldType.int)) ∈ zG := zG_of 629 (by decide +kernel) (by decide +kernel)
theorem wd_630 : (Jvm.Cond.methodLink "SerialRecaps" (92 : Nat) ({ cls := "SerialRecaps", name := "checkSetting", desc := "(I)V" } : Jvm.MethodName)) ∈ zG := zG_of 630 (by decide +kernel) (by decide +kernel)
theorem wd_631 : (Jvm.Cond.static ({ cls := "SerialRecaps", name := "checkSetting", desc := "(I)V" } : Jvm.MethodName)) ∈ zG := zG_of 631 (by decide +kernel) (by decide +kernel)
theorem wd_632 : (Jvm.Cond.code ({ cls := "SerialRecaps", name := "checkSetting", desc := "(I)V" } : Jvm.MethodName) prog_1_method_35_code (1 : Nat) (Option.none : Option Jvm.ClassFile.FieldType)) ∈ zG := zG_of 632 (by decide +kernel) (by decide +kernel)
theorem wd_637 : (Jvm.Cond.codeWith ({ cls := "SerialRecapsLaw", name := "mail", desc := "(LSerialRecaps;II[J)I" } : Jvm.MethodName) method_7_code (5 : Nat) (Option.some Jvm.ClassFile.FieldType.int) [((0 : Nat), (10 : Nat), (13 : Nat), (20 : Nat)), ((0 : Nat), (10 : Nat), (17 : Nat), (15 : Nat))]) ∈ zG := zG_of 637 (by decide +kernel) (by decide +kernel)
theorem wd_638 : (Jvm.Cond.methodLink "SerialRecapsLaw" (30 : Nat) ({ cls := "SerialRecaps", name := "mail", desc := "(II)I" } : Jvm.MethodName)) ∈ zG := zG_of 638 (by decide +kernel) (by decide +kernel)
theorem wd_639 : (Jvm.Cond.instanceMethod ({ cls := "SerialRecaps", name := "mail", desc := "(II)I" } : Jvm.MethodName)) ∈ zG := zG_of 639 (by decide +kernel) (by decide +kernel)
theorem wd_640 : (Jvm.Cond.selects "SerialRecaps" ({ cls := "SerialRecaps", name := "mail", desc := "(II)I" } : Jvm.MethodName) ({ cls := "SerialRecaps", name := "mail", desc := "(II)I" } : Jvm.MethodName)) ∈ zG := zG_of 640 (by decide +kernel) (by decide +kernel)
theorem wd_641 : (Jvm.Cond.code ({ cls := "SerialRecaps", name := "mail", desc := "(II)I" } : Jvm.MethodName) prog_1_method_6_code (3 : Nat) (Option.some Jvm.ClassFile.FieldType.int)) ∈ zG := zG_of 641 (by decide +kernel) (by decide +kernel)
theorem wd_642 : (Jvm.Cond.methodLink "SerialRecaps" (101 : Nat) ({ cls := "SerialRecaps", name := "checkReader", desc := "(I)V" } : Jvm.MethodName)) ∈ zG := zG_of 642 (by decide +kernel) (by decide +kernel)
theorem wd_643 : (Jvm.Cond.static ({ cls := "SerialRecaps", name := "checkReader", desc := "(I)V" } : Jvm.MethodName)) ∈ zG := zG_of 643 (by decide +kernel) (by decide +kernel)
theorem wd_644 : (Jvm.Cond.code ({ cls := "SerialRecaps", name := "checkReader", desc := "(I)V" } : Jvm.MethodName) prog_1_method_34_code (1 : Nat) (Option.none : Option Jvm.ClassFile.FieldType)) ∈ zG := zG_of 644 (by decide +kernel) (by decide +kernel)
theorem wd_646 : (Jvm.Cond.methodLink "SerialRecaps" (104 : Nat) ({ cls := "SerialRecaps$Audience", name := "hasRead", desc := "(II)Z" } : Jvm.MethodName)) ∈ zG := zG_of 646 (by decide +kernel) (by decide +kernel)
theorem wd_648 : (Jvm.Cond.methodLink "SerialRecaps" (110 : Nat) ({ cls := "SerialRecaps$State", name := "deliver", desc := "(II)I" } : Jvm.MethodName)) ∈ zG := zG_of 648 (by decide +kernel) (by decide +kernel)
theorem wd_649 : (Jvm.Cond.instanceMethod ({ cls := "SerialRecaps$State", name := "deliver", desc := "(II)I" } : Jvm.MethodName)) ∈ zG := zG_of 649 (by decide +kernel) (by decide +kernel)
theorem wd_650 : (Jvm.Cond.selects "SerialRecaps$State" ({ cls := "SerialRecaps$State", name := "deliver", desc := "(II)I" } : Jvm.MethodName) ({ cls := "SerialRecaps$State", name := "deliver", desc := "(II)I" } : Jvm.MethodName)) ∈ zG := zG_of 650 (by decide +kernel) (by decide +kernel)
theorem wd_651 : (Jvm.Cond.code ({ cls := "SerialRecaps$State", name := "deliver", desc := "(II)I" } : Jvm.MethodName) prog_5_method_8_code (6 : Nat) (Option.some Jvm.ClassFile.FieldType.int)) ∈ zG := zG_of 651 (by decide +kernel) (by decide +kernel)
theorem wd_652 : (Jvm.Cond.methodLink "SerialRecaps$State" (84 : Nat) ({ cls := "SerialRecaps$Audience", name := "takeIn", desc := "(III)V" } : Jvm.MethodName)) ∈ zG := zG_of 652 (by decide +kernel) (by decide +kernel)
theorem wd_653 : (Jvm.Cond.instanceMethod ({ cls := "SerialRecaps$Audience", name := "takeIn", desc := "(III)V" } : Jvm.MethodName)) ∈ zG := zG_of 653 (by decide +kernel) (by decide +kernel)
theorem wd_654 : (Jvm.Cond.selects "SerialRecaps$Audience" ({ cls := "SerialRecaps$Audience", name := "takeIn", desc := "(III)V" } : Jvm.MethodName) ({ cls := "SerialRecaps$Audience", name := "takeIn", desc := "(III)V" } : Jvm.MethodName)) ∈ zG := zG_of 654 (by decide +kernel) (by decide +kernel)
theorem wd_655 : (Jvm.Cond.code ({ cls := "SerialRecaps$Audience", name := "takeIn", desc := "(III)V" } : Jvm.MethodName) prog_2_method_12_code (4 : Nat) (Option.none : Option Jvm.ClassFile.FieldType)) ∈ zG := zG_of 655 (by decide +kernel) (by decide +kernel)
theorem wd_658 : (Jvm.Cond.codeWith ({ cls := "SerialRecapsLaw", name := "mailAll", desc := "(LSerialRecaps;II[J)I" } : Jvm.MethodName) method_8_code (5 : Nat) (Option.some Jvm.ClassFile.FieldType.int) [((0 : Nat), (10 : Nat), (13 : Nat), (20 : Nat)), ((0 : Nat), (10 : Nat), (17 : Nat), (13 : Nat))]) ∈ zG := zG_of 658 (by decide +kernel) (by decide +kernel)
theorem wd_659 : (Jvm.Cond.methodLink "SerialRecapsLaw" (33 : Nat) ({ cls := "SerialRecaps", name := "mailAll", desc := "(II)I" } : Jvm.MethodName)) ∈ zG := zG_of 659 (by decide +kernel) (by decide +kernel)
theorem wd_660 : (Jvm.Cond.instanceMethod ({ cls := "SerialRecaps", name := "mailAll", desc := "(II)I" } : Jvm.MethodName)) ∈ zG := zG_of 660 (by decide +kernel) (by decide +kernel)
theorem wd_661 : (Jvm.Cond.selects "SerialRecaps" ({ cls := "SerialRecaps", name := "mailAll", desc := "(II)I" } : Jvm.MethodName) ({ cls := "SerialRecaps", name := "mailAll", desc := "(II)I" } : Jvm.MethodName)) ∈ zG := zG_of 661 (by decide +kernel) (by decide +kernel)
theorem wd_662 : (Jvm.Cond.code ({ cls := "SerialRecaps", name := "mailAll", desc := "(II)I" } : Jvm.MethodName) prog_1_method_7_code (3 : Nat) (Option.some Jvm.ClassFile.FieldType.int)) ∈ zG := zG_of 662 (by decide +kernel) (by decide +kernel)
theorem wd_664 : (Jvm.Cond.methodLink "SerialRecaps" (116 : Nat) ({ cls := "SerialRecaps$State", name := "deliverToAll", desc := "(II)I" } : Jvm.MethodName)) ∈ zG := zG_of 664 (by decide +kernel) (by decide +kernel)
theorem wd_665 : (Jvm.Cond.instanceMethod ({ cls := "SerialRecaps$State", name := "deliverToAll", desc := "(II)I" } : Jvm.MethodName)) ∈ zG := zG_of 665 (by decide +kernel) (by decide +kernel)
theorem wd_666 : (Jvm.Cond.selects "SerialRecaps$State" ({ cls := "SerialRecaps$State", name := "deliverToAll", desc := "(II)I" } : Jvm.MethodName) ({ cls := "SerialRecaps$State", name := "deliverToAll", desc := "(II)I" } : Jvm.MethodName)) ∈ zG := zG_of 666 (by decide +kernel) (by decide +kernel)
theorem wd_667 : (Jvm.Cond.code ({ cls := "SerialRecaps$State", name := "deliverToAll", desc := "(II)I" } : Jvm.MethodName) prog_5_method_9_code (5 : Nat) (Option.some Jvm.ClassFile.FieldType.int)) ∈ zG := zG_of 667 (by decide +kernel) (by decide +kernel)
theorem wd_668 : (Jvm.Cond.methodLink "SerialRecaps$State" (100 : Nat) ({ cls := "SerialRecaps$State", name := "deliver", desc := "(II)I" } : Jvm.MethodName)) ∈ zG := zG_of 668 (by decide +kernel) (by decide +kernel)
theorem wd_671 : (Jvm.Cond.codeWith ({ cls := "SerialRecapsLaw", name := "forget", desc := "(LSerialRecaps;I[J)I" } : Jvm.MethodName) method_9_code (4 : Nat) (Option.some Jvm.ClassFile.FieldType.int) [((0 : Nat), (9 : Nat), (12 : Nat), (20 : Nat))]) ∈ zG := zG_of 671 (by decide +kernel) (by decide +kernel)
theorem wd_672 : (Jvm.Cond.methodLink "SerialRecapsLaw" (36 : Nat) ({ cls := "SerialRecaps", name := "forget", desc := "(I)I" } : Jvm.MethodName)) ∈ zG := zG_of 672 (by decide +kernel) (by decide +kernel)
theorem wd_673 : (Jvm.Cond.instanceMethod ({ cls := "SerialRecaps", name := "forget", desc := "(I)I" } : Jvm.MethodName)) ∈ zG := zG_of 673 (by decide +kernel) (by decide +kernel)
theorem wd_674 : (Jvm.Cond.selects "SerialRecaps" ({ cls := "SerialRecaps", name := "forget", desc := "(I)I" } : Jvm.MethodName) ({ cls := "SerialRecaps", name := "forget", desc := "(I)I" } : Jvm.MethodName)) ∈ zG := zG_of 674 (by decide +kernel) (by decide +kernel)
theorem wd_675 : (Jvm.Cond.code ({ cls := "SerialRecaps", name := "forget", desc := "(I)I" } : Jvm.MethodName) prog_1_method_8_code (2 : Nat) (Option.some Jvm.ClassFile.FieldType.int)) ∈ zG := zG_of 675 (by decide +kernel) (by decide +kernel)
theorem wd_676 : (Jvm.Cond.methodLink "SerialRecaps" (119 : Nat) ({ cls := "SerialRecaps$Audience", name := "dropTold", desc := "(I)I" } : Jvm.MethodName)) ∈ zG := zG_of 676 (by decide +kernel) (by decide +kernel)
theorem wd_677 : (Jvm.Cond.instanceMethod ({ cls := "SerialRecaps$Audience", name := "dropTold", desc := "(I)I" } : Jvm.MethodName)) ∈ zG := zG_of 677 (by decide +kernel) (by decide +kernel)
theorem wd_678 : (Jvm.Cond.selects "SerialRecaps$Audience" ({ cls := "SerialRecaps$Audience", name := "dropTold", desc := "(I)I" } : Jvm.MethodName) ({ cls := "SerialRecaps$Audience", name := "dropTold", desc := "(I)I" } : Jvm.MethodName)) ∈ zG := zG_of 678 (by decide +kernel) (by decide +kernel)
theorem wd_679 : (Jvm.Cond.code ({ cls := "SerialRecaps$Audience", name := "dropTold", desc := "(I)I" } : Jvm.MethodName) prog_2_method_10_code (3 : Nat) (Option.some Jvm.ClassFile.FieldType.int)) ∈ zG := zG_of 679 (by decide +kernel) (by decide +kernel)
theorem wd_682 : (Jvm.Cond.codeWith ({ cls := "SerialRecapsLaw", name := "catchUp", desc := "(LSerialRecaps;I[J)I" } : Jvm.MethodName) method_10_code (4 : Nat) (Option.some Jvm.ClassFile.FieldType.int) [((0 : Nat), (9 : Nat), (12 : Nat), (20 : Nat))]) ∈ zG := zG_of 682 (by decide +kernel) (by decide +kernel)
theorem wd_683 : (Jvm.Cond.methodLink "SerialRecapsLaw" (40 : Nat) ({ cls := "SerialRecaps", name := "catchUp", desc := "(I)I" } : Jvm.MethodName)) ∈ zG := zG_of 683 (by decide +kernel) (by decide +kernel)
theorem wd_684 : (Jvm.Cond.instanceMethod ({ cls := "SerialRecaps", name := "catchUp", desc := "(I)I" } : Jvm.MethodName)) ∈ zG := zG_of 684 (by decide +kernel) (by decide +kernel)
theorem wd_685 : (Jvm.Cond.selects "SerialRecaps" ({ cls := "SerialRecaps", name := "catchUp", desc := "(I)I" } : Jvm.MethodName) ({ cls := "SerialRecaps", name := "catchUp", desc := "(I)I" } : Jvm.MethodName)) ∈ zG := zG_of 685 (by decide +kernel) (by decide +kernel)
theorem wd_686 : (Jvm.Cond.code ({ cls := "SerialRecaps", name := "catchUp", desc := "(I)I" } : Jvm.MethodName) prog_1_method_9_code (2 : Nat) (Option.some Jvm.ClassFile.FieldType.int)) ∈ zG := zG_of 686 (by decide +kernel) (by decide +kernel)
theorem wd_687 : (Jvm.Cond.methodLink "SerialRecaps" (122 : Nat) ({ cls := "SerialRecaps$State", name := "deliverUnread", desc := "(I)I" } : Jvm.MethodName)) ∈ zG := zG_of 687 (by decide +kernel) (by decide +kernel)
theorem wd_688 : (Jvm.Cond.instanceMethod ({ cls := "SerialRecaps$State", name := "deliverUnread", desc := "(I)I" } : Jvm.MethodName)) ∈ zG := zG_of 688 (by decide +kernel) (by decide +kernel)
theorem wd_689 : (Jvm.Cond.selects "SerialRecaps$State" ({ cls := "SerialRecaps$State", name := "deliverUnread", desc := "(I)I" } : Jvm.MethodName) ({ cls := "SerialRecaps$State", name := "deliverUnread", desc := "(I)I" } : Jvm.MethodName)) ∈ zG := zG_of 689 (by decide +kernel) (by decide +kernel)
theorem wd_690 : (Jvm.Cond.code ({ cls := "SerialRecaps$State", name := "deliverUnread", desc := "(I)I" } : Jvm.MethodName) prog_5_method_10_code (4 : Nat) (Option.some Jvm.ClassFile.FieldType.int)) ∈ zG := zG_of 690 (by decide +kernel) (by decide +kernel)
theorem wd_693 : (Jvm.Cond.codeWith ({ cls := "SerialRecapsLaw", name := "append", desc := "(LSerialRecaps;I[J)I" } : Jvm.MethodName) method_11_code (4 : Nat) (Option.some Jvm.ClassFile.FieldType.int) [((0 : Nat), (9 : Nat), (12 : Nat), (13 : Nat)), ((0 : Nat), (9 : Nat), (15 : Nat), (15 : Nat))]) ∈ zG := zG_of 693 (by decide +kernel) (by decide +kernel)
theorem wd_694 : (Jvm.Cond.methodLink "SerialRecapsLaw" (43 : Nat) ({ cls := "SerialRecaps", name := "append", desc := "(I)I" } : Jvm.MethodName)) ∈ zG := zG_of 694 (by decide +kernel) (by decide +kernel)
theorem wd_695 : (Jvm.Cond.instanceMethod ({ cls := "SerialRecaps", name := "append", desc := "(I)I" } : Jvm.MethodName)) ∈ zG := zG_of 695 (by decide +kernel) (by decide +kernel)
theorem wd_696 : (Jvm.Cond.selects "SerialRecaps" ({ cls := "SerialRecaps", name := "append", desc := "(I)I" } : Jvm.MethodName) ({ cls := "SerialRecaps", name := "append", desc := "(I)I" } : Jvm.MethodName)) ∈ zG := zG_of 696 (by decide +kernel) (by decide +kernel)
theorem wd_697 : (Jvm.Cond.code ({ cls := "SerialRecaps", name := "append", desc := "(I)I" } : Jvm.MethodName) prog_1_method_10_code (2 : Nat) (Option.some Jvm.ClassFile.FieldType.int)) ∈ zG := zG_of 697 (by decide +kernel) (by decide +kernel)
theorem wd_700 : (Jvm.Cond.methodLink "SerialRecaps" (132 : Nat) ({ cls := "SerialRecaps$Text", name := "put", desc := "(I)V" } : Jvm.MethodName)) ∈ zG := zG_of 700 (by decide +kernel) (by decide +kernel)
theorem wd_701 : (Jvm.Cond.instanceMethod ({ cls := "SerialRecaps$Text", name := "put", desc := "(I)V" } : Jvm.MethodName)) ∈ zG := zG_of 701 (by decide +kernel) (by decide +kernel)
theorem wd_702 : (Jvm.Cond.selects "SerialRecaps$Text" ({ cls := "SerialRecaps$Text", name := "put", desc := "(I)V" } : Jvm.MethodName) ({ cls := "SerialRecaps$Text", name := "put", desc := "(I)V" } : Jvm.MethodName)) ∈ zG := zG_of 702 (by decide +kernel) (by decide +kernel)
theorem wd_703 : (Jvm.Cond.code ({ cls := "SerialRecaps$Text", name := "put", desc := "(I)V" } : Jvm.MethodName) prog_7_method_2_code (2 : Nat) (Option.none : Option Jvm.ClassFile.FieldType)) ∈ zG := zG_of 703 (by decide +kernel) (by decide +kernel)
theorem wd_706 : (Jvm.Cond.codeWith ({ cls := "SerialRecapsLaw", name := "addAll", desc := "(LSerialRecaps;[J)I" } : Jvm.MethodName) method_12_code (3 : Nat) (Option.some Jvm.ClassFile.FieldType.int) [((0 : Nat), (8 : Nat), (11 : Nat), (13 : Nat)), ((0 : Nat), (8 : Nat), (14 : Nat), (15 : Nat))]) ∈ zG := zG_of 706 (by decide +kernel) (by decide +kernel)
theorem wd_707 : (Jvm.Cond.methodLink "SerialRecapsLaw" (46 : Nat) ({ cls := "SerialRecaps", name := "addAll", desc := "()I" } : Jvm.MethodName)) ∈ zG := zG_of 707 (by decide +kernel) (by decide +kernel)
theorem wd_708 : (Jvm.Cond.instanceMethod ({ cls := "SerialRecaps", name := "addAll", desc := "()I" } : Jvm.MethodName)) ∈ zG := zG_of 708 (by decide +kernel) (by decide +kernel)
theorem wd_709 : (Jvm.Cond.selects "SerialRecaps" ({ cls := "SerialRecaps", name := "addAll", desc := "()I" } : Jvm.MethodName) ({ cls := "SerialRecaps", name := "addAll", desc := "()I" } : Jvm.MethodName)) ∈ zG := zG_of 709 (by decide +kernel) (by decide +kernel)
theorem wd_710 : (Jvm.Cond.code ({ cls := "SerialRecaps", name := "addAll", desc := "()I" } : Jvm.MethodName) prog_1_method_13_code (1 : Nat) (Option.some Jvm.ClassFile.FieldType.int)) ∈ zG := zG_of 710 (by decide +kernel) (by decide +kernel)
theorem wd_711 : (Jvm.Cond.methodLink "SerialRecaps" (138 : Nat) ({ cls := "SerialRecaps$Text", name := "isComplete", desc := "()Z" } : Jvm.MethodName)) ∈ zG := zG_of 711 (by decide +kernel) (by decide +kernel)
theorem wd_712 : (Jvm.Cond.instanceMethod ({ cls := "SerialRecaps$Text", name := "isComplete", desc := "()Z" } : Jvm.MethodName)) ∈ zG := zG_of 712 (by decide +kernel) (by decide +kernel)
theorem wd_713 : (Jvm.Cond.selects "SerialRecaps$Text" ({ cls := "SerialRecaps$Text", name := "isComplete", desc := "()Z" } : Jvm.MethodName) ({ cls := "SerialRecaps$Text", name := "isComplete", desc := "()Z" } : Jvm.MethodName)) ∈ zG := zG_of 713 (by decide +kernel) (by decide +kernel)
theorem wd_714 : (Jvm.Cond.code ({ cls := "SerialRecaps$Text", name := "isComplete", desc := "()Z" } : Jvm.MethodName) prog_7_method_4_code (1 : Nat) (Option.some Jvm.ClassFile.FieldType.boolean)) ∈ zG := zG_of 714 (by decide +kernel) (by decide +kernel)
theorem wd_715 : (Jvm.Cond.methodLink "SerialRecaps$Text" (33 : Nat) ({ cls := "SerialRecaps$Text", name := "readUntilError", desc := "()I" } : Jvm.MethodName)) ∈ zG := zG_of 715 (by decide +kernel) (by decide +kernel)
theorem wd_716 : (Jvm.Cond.methodLink "SerialRecaps$Text" (37 : Nat) ({ cls := "SerialRecaps$Grammar", name := "mayEnd", desc := "()Z" } : Jvm.MethodName)) ∈ zG := zG_of 716 (by decide +kernel) (by decide +kernel)
theorem wd_717 : (Jvm.Cond.instanceMethod ({ cls := "SerialRecaps$Grammar", name := "mayEnd", desc := "()Z" } : Jvm.MethodName)) ∈ zG := zG_of 717 (by decide +kernel) (by decide +kernel)
theorem wd_718 : (Jvm.Cond.selects "SerialRecaps$Grammar" ({ cls := "SerialRecaps$Grammar", name := "mayEnd", desc := "()Z" } : Jvm.MethodName) ({ cls := "SerialRecaps$Grammar", name := "mayEnd", desc := "()Z" } : Jvm.MethodName)) ∈ zG := zG_of 718 (by decide +kernel) (by decide +kernel)
theorem wd_719 : (Jvm.Cond.code ({ cls := "SerialRecaps$Grammar", name := "mayEnd", desc := "()Z" } : Jvm.MethodName) prog_3_method_3_code (1 : Nat) (Option.some Jvm.ClassFile.FieldType.boolean)) ∈ zG := zG_of 719 (by decide +kernel) (by decide +kernel)
theorem wd_721 : (Jvm.Cond.methodLink "SerialRecaps" (144 : Nat) ({ cls := "SerialRecaps$Text", name := "completeParts", desc := "()I" } : Jvm.MethodName)) ∈ zG := zG_of 721 (by decide +kernel) (by decide +kernel)
theorem wd_722 : (Jvm.Cond.instanceMethod ({ cls := "SerialRecaps$Text", name := "completeParts", desc := "()I" } : Jvm.MethodName)) ∈ zG := zG_of 722 (by decide +kernel) (by decide +kernel)
theorem wd_723 : (Jvm.Cond.selects "SerialRecaps$Text" ({ cls := "SerialRecaps$Text", name := "completeParts", desc := "()I" } : Jvm.MethodName) ({ cls := "SerialRecaps$Text", name := "completeParts", desc := "()I" } : Jvm.MethodName)) ∈ zG := zG_of 723 (by decide +kernel) (by decide +kernel)
theorem wd_724 : (Jvm.Cond.code ({ cls := "SerialRecaps$Text", name := "completeParts", desc := "()I" } : Jvm.MethodName) prog_7_method_5_code (3 : Nat) (Option.some Jvm.ClassFile.FieldType.int)) ∈ zG := zG_of 724 (by decide +kernel) (by decide +kernel)
theorem wd_726 : (Jvm.Cond.methodLink "SerialRecaps" (149 : Nat) ({ cls := "SerialRecaps$Text", name := "tellTo", desc := "(LSerialRecaps$Story;)V" } : Jvm.MethodName)) ∈ zG := zG_of 726 (by decide +kernel) (by decide +kernel)
theorem wd_727 : (Jvm.Cond.instanceMethod ({ cls := "SerialRecaps$Text", name := "tellTo", desc := "(LSerialRecaps$Story;)V" } : Jvm.MethodName)) ∈ zG := zG_of 727 (by decide +kernel) (by decide +kernel)
theorem wd_728 : (Jvm.Cond.selects "SerialRecaps$Text" ({ cls := "SerialRecaps$Text", name := "tellTo", desc := "(LSerialRecaps$Story;)V" } : Jvm.MethodName) ({ cls := "SerialRecaps$Text", name := "tellTo", desc := "(LSerialRecaps$Story;)V" } : Jvm.MethodName)) ∈ zG := zG_of 728 (by decide +kernel) (by decide +kernel)
theorem wd_729 : (Jvm.Cond.code ({ cls := "SerialRecaps$Text", name := "tellTo", desc := "(LSerialRecaps$Story;)V" } : Jvm.MethodName) prog_7_method_6_code (3 : Nat) (Option.none : Option Jvm.ClassFile.FieldType)) ∈ zG := zG_of 729 (by decide +kernel) (by decide +kernel)
theorem wd_730 : (Jvm.Cond.methodLink "SerialRecaps$Text" (50 : Nat) ({ cls := "SerialRecaps$Story", name := "put", desc := "(III)V" } : Jvm.MethodName)) ∈ zG := zG_of 730 (by decide +kernel) (by decide +kernel)
theorem wd_733 : (Jvm.Cond.codeWith ({ cls := "SerialRecapsLaw", name := "undo", desc := "(LSerialRecaps;[J)I" } : Jvm.MethodName) method_13_code (3 : Nat) (Option.some Jvm.ClassFile.FieldType.int) [((0 : Nat), (8 : Nat), (11 : Nat), (15 : Nat))]) ∈ zG := zG_of 733 (by decide +kernel) (by decide +kernel)
theorem wd_734 : (Jvm.Cond.methodLink "SerialRecapsLaw" (49 : Nat) ({ cls := "SerialRecaps", name := "undo", desc := "()I" } : Jvm.MethodName)) ∈ zG := zG_of 734 (by decide +kernel) (by decide +kernel)
theorem wd_735 : (Jvm.Cond.instanceMethod ({ cls := "SerialRecaps", name := "undo", desc := "()I" } : Jvm.MethodName)) ∈ zG := zG_of 735 (by decide +kernel) (by decide +kernel)
theorem wd_736 : (Jvm.Cond.selects "SerialRecaps" ({ cls := "SerialRecaps", name := "undo", desc := "()I" } : Jvm.MethodName) ({ cls := "SerialRecaps", name := "undo", desc := "()I" } : Jvm.MethodName)) ∈ zG := zG_of 736 (by decide +kernel) (by decide +kernel)
theorem wd_737 : (Jvm.Cond.code ({ cls := "SerialRecaps", name := "undo", desc := "()I" } : Jvm.MethodName) prog_1_method_14_code (2 : Nat) (Option.some Jvm.ClassFile.FieldType.int)) ∈ zG := zG_of 737 (by decide +kernel) (by decide +kernel)
theorem wd_738 : (Jvm.Cond.methodLink "SerialRecaps" (153 : Nat) ({ cls := "SerialRecaps$History", name := "latest", desc := "()LSerialRecaps$State;" } : Jvm.MethodName)) ∈ zG := zG_of 738 (by decide +kernel) (by decide +kernel)
theorem wd_739 : (Jvm.Cond.instanceMethod ({ cls := "SerialRecaps$History", name := "latest", desc := "()LSerialRecaps$State;" } : Jvm.MethodName)) ∈ zG := zG_of 739 (by decide +kernel) (by decide +kernel)
theorem wd_740 : (Jvm.Cond.selects "SerialRecaps$History" ({ cls := "SerialRecaps$History", name := "latest", desc := "()LSerialRecaps$State;" } : Jvm.MethodName) ({ cls := "SerialRecaps$History", name := "latest", desc := "()LSerialRecaps$State;" } : Jvm.MethodName)) ∈ zG := zG_of 740 (by decide +kernel) (by decide +kernel)
theorem wd_741 : (Jvm.Cond.code ({ cls := "SerialRecaps$History", name := "latest", desc := "()LSerialRecaps$State;" } : Jvm.MethodName) prog_4_method_3_code (1 : Nat) (Option.some (Jvm.ClassFile.FieldType.object "SerialRecaps$State"))) ∈ zG := zG_of 741 (by decide +kernel) (by decide +kernel)
theorem wd_743 : (Jvm.Cond.methodLink "SerialRecaps" (159 : Nat) ({ cls := "SerialRecaps$State", name := "copyFrom", desc := "(LSerialRecaps$State;)V" } : Jvm.MethodName)) ∈ zG := zG_of 743 (by decide +kernel) (by decide +kernel)
theorem wd_744 : (Jvm.Cond.methodLink "SerialRecaps" (162 : Nat) ({ cls := "SerialRecaps$History", name := "dropLatest", desc := "()V" } : Jvm.MethodName)) ∈ zG := zG_of 744 (by decide +kernel) (by decide +kernel)
theorem wd_745 : (Jvm.Cond.instanceMethod ({ cls := "SerialRecaps$History", name := "dropLatest", desc := "()V" } : Jvm.MethodName)) ∈ zG := zG_of 745 (by decide +kernel) (by decide +kernel)
theorem wd_746 : (Jvm.Cond.selects "SerialRecaps$History" ({ cls := "SerialRecaps$History", name := "dropLatest", desc := "()V" } : Jvm.MethodName) ({ cls := "SerialRecaps$History", name := "dropLatest", desc := "()V" } : Jvm.MethodName)) ∈ zG := zG_of 746 (by decide +kernel) (by decide +kernel)
theorem wd_747 : (Jvm.Cond.code ({ cls := "SerialRecaps$History", name := "dropLatest", desc := "()V" } : Jvm.MethodName) prog_4_method_4_code (1 : Nat) (Option.none : Option Jvm.ClassFile.FieldType)) ∈ zG := zG_of 747 (by decide +kernel) (by decide +kernel)
theorem wd_750 : (Jvm.Cond.codeWith ({ cls := "SerialRecapsLaw", name := "part", desc := "(LSerialRecaps;II[J)I" } : Jvm.MethodName) method_14_code (5 : Nat) (Option.some Jvm.ClassFile.FieldType.int) [((0 : Nat), (10 : Nat), (13 : Nat), (20 : Nat)), ((0 : Nat), (10 : Nat), (17 : Nat), (13 : Nat))]) ∈ zG := zG_of 750 (by decide +kernel) (by decide +kernel)
theorem wd_751 : (Jvm.Cond.methodLink "SerialRecapsLaw" (52 : Nat) ({ cls := "SerialRecaps", name := "part", desc := "(II)I" } : Jvm.MethodName)) ∈ zG := zG_of 751 (by decide +kernel) (by decide +kernel)
theorem wd_752 : (Jvm.Cond.instanceMethod ({ cls := "SerialRecaps", name := "part", desc := "(II)I" } : Jvm.MethodName)) ∈ zG := zG_of 752 (by decide +kernel) (by decide +kernel)
theorem wd_753 : (Jvm.Cond.selects "SerialRecaps" ({ cls := "SerialRecaps", name := "part", desc := "(II)I" } : Jvm.MethodName) ({ cls := "SerialRecaps", name := "part", desc := "(II)I" } : Jvm.MethodName)) ∈ zG := zG_of 753 (by decide +kernel) (by decide +kernel)
theorem wd_754 : (Jvm.Cond.code ({ cls := "SerialRecaps", name := "part", desc := "(II)I" } : Jvm.MethodName) prog_1_method_15_code (3 : Nat) (Option.some Jvm.ClassFile.FieldType.int)) ∈ zG := zG_of 754 (by decide +kernel) (by decide +kernel)
theorem wd_755 : (Jvm.Cond.methodLink "SerialRecaps" (168 : Nat) ({ cls := "SerialRecaps", name := "checkWhat", desc := "(II)V" } : Jvm.MethodName)) ∈ zG := zG_of 755 (by decide +kernel) (by decide +kernel)
theorem wd_756 : (Jvm.Cond.static ({ cls := "SerialRecaps", name := "checkWhat", desc := "(II)V" } : Jvm.MethodName)) ∈ zG := zG_of 756 (by decide +kernel) (by decide +kernel)
theorem wd_757 : (Jvm.Cond.code ({ cls := "SerialRecaps", name := "checkWhat", desc := "(II)V" } : Jvm.MethodName) prog_1_method_36_code (2 : Nat) (Option.none : Option Jvm.ClassFile.FieldType)) ∈ zG := zG_of 757 (by decide +kernel) (by decide +kernel)
theorem wd_761 : (Jvm.Cond.codeWith ({ cls := "SerialRecapsLaw", name := "knows", desc := "(LSerialRecaps;II[J)I" } : Jvm.MethodName) method_15_code (5 : Nat) (Option.some Jvm.ClassFile.FieldType.int) [((0 : Nat), (10 : Nat), (13 : Nat), (20 : Nat))]) ∈ zG := zG_of 761 (by decide +kernel) (by decide +kernel)
theorem wd_762 : (Jvm.Cond.methodLink "SerialRecapsLaw" (55 : Nat) ({ cls := "SerialRecaps", name := "knows", desc := "(II)I" } : Jvm.MethodName)) ∈ zG := zG_of 762 (by decide +kernel) (by decide +kernel)
theorem wd_763 : (Jvm.Cond.instanceMethod ({ cls := "SerialRecaps", name := "knows", desc := "(II)I" } : Jvm.MethodName)) ∈ zG := zG_of 763 (by decide +kernel) (by decide +kernel)
theorem wd_764 : (Jvm.Cond.selects "SerialRecaps" ({ cls := "SerialRecaps", name := "knows", desc := "(II)I" } : Jvm.MethodName) ({ cls := "SerialRecaps", name := "knows", desc := "(II)I" } : Jvm.MethodName)) ∈ zG := zG_of 764 (by decide +kernel) (by decide +kernel)
theorem wd_765 : (Jvm.Cond.code ({ cls := "SerialRecaps", name := "knows", desc := "(II)I" } : Jvm.MethodName) prog_1_method_16_code (3 : Nat) (Option.some Jvm.ClassFile.FieldType.int)) ∈ zG := zG_of 765 (by decide +kernel) (by decide +kernel)
theorem wd_768 : (Jvm.Cond.codeWith ({ cls := "SerialRecapsLaw", name := "reader", desc := "(LSerialRecaps;II[J)I" } : Jvm.MethodName) method_16_code (5 : Nat) (Option.some Jvm.ClassFile.FieldType.int) [((0 : Nat), (10 : Nat), (13 : Nat), (20 : Nat)), ((0 : Nat), (10 : Nat), (17 : Nat), (13 : Nat))]) ∈ zG := zG_of 768 (by decide +kernel) (by decide +kernel)
theorem wd_769 : (Jvm.Cond.methodLink "SerialRecapsLaw" (58 : Nat) ({ cls := "SerialRecaps", name := "reader", desc := "(II)I" } : Jvm.MethodName)) ∈ zG := zG_of 769 (by decide +kernel) (by decide +kernel)
theorem wd_770 : (Jvm.Cond.instanceMethod ({ cls := "SerialRecaps", name := "reader", desc := "(II)I" } : Jvm.MethodName)) ∈ zG := zG_of 770 (by decide +kernel) (by decide +kernel)
theorem wd_771 : (Jvm.Cond.selects "SerialRecaps" ({ cls := "SerialRecaps", name := "reader", desc := "(II)I" } : Jvm.MethodName) ({ cls := "SerialRecaps", name := "reader", desc := "(II)I" } : Jvm.MethodName)) ∈ zG := zG_of 771 (by decide +kernel) (by decide +kernel)
theorem wd_772 : (Jvm.Cond.code ({ cls := "SerialRecaps", name := "reader", desc := "(II)I" } : Jvm.MethodName) prog_1_method_17_code (3 : Nat) (Option.some Jvm.ClassFile.FieldType.int)) ∈ zG := zG_of 772 (by decide +kernel) (by decide +kernel)
theorem wd_775 : (Jvm.Cond.codeWith ({ cls := "SerialRecapsLaw", name := "plot", desc := "(LSerialRecaps;II[J)I" } : Jvm.MethodName) method_17_code (5 : Nat) (Option.some Jvm.ClassFile.FieldType.int) [((0 : Nat), (10 : Nat), (13 : Nat), (20 : Nat)), ((0 : Nat), (10 : Nat), (17 : Nat), (13 : Nat))]) ∈ zG := zG_of 775 (by decide +kernel) (by decide +kernel)
theorem wd_776 : (Jvm.Cond.methodLink "SerialRecapsLaw" (61 : Nat) ({ cls := "SerialRecaps", name := "plot", desc := "(II)I" } : Jvm.MethodName)) ∈ zG := zG_of 776 (by decide +kernel) (by decide +kernel)
theorem wd_777 : (Jvm.Cond.instanceMethod ({ cls := "SerialRecaps", name := "plot", desc := "(II)I" } : Jvm.MethodName)) ∈ zG := zG_of 777 (by decide +kernel) (by decide +kernel)
theorem wd_778 : (Jvm.Cond.selects "SerialRecaps" ({ cls := "SerialRecaps", name := "plot", desc := "(II)I" } : Jvm.MethodName) ({ cls := "SerialRecaps", name := "plot", desc := "(II)I" } : Jvm.MethodName)) ∈ zG := zG_of 778 (by decide +kernel) (by decide +kernel)
theorem wd_779 : (Jvm.Cond.code ({ cls := "SerialRecaps", name := "plot", desc := "(II)I" } : Jvm.MethodName) prog_1_method_18_code (3 : Nat) (Option.some Jvm.ClassFile.FieldType.int)) ∈ zG := zG_of 779 (by decide +kernel) (by decide +kernel)
theorem wd_783 : (Jvm.Cond.codeWith ({ cls := "SerialRecapsLaw", name := "count", desc := "(LSerialRecaps;I[J)I" } : Jvm.MethodName) method_18_code (4 : Nat) (Option.some Jvm.ClassFile.FieldType.int) [((0 : Nat), (9 : Nat), (12 : Nat), (13 : Nat))]) ∈ zG := zG_of 783 (by decide +kernel) (by decide +kernel)
theorem wd_784 : (Jvm.Cond.methodLink "SerialRecapsLaw" (64 : Nat) ({ cls := "SerialRecaps", name := "count", desc := "(I)I" } : Jvm.MethodName)) ∈ zG := zG_of 784 (by decide +kernel) (by decide +kernel)
theorem wd_785 : (Jvm.Cond.instanceMethod ({ cls := "SerialRecaps", name := "count", desc := "(I)I" } : Jvm.MethodName)) ∈ zG := zG_of 785 (by decide +kernel) (by decide +kernel)
theorem wd_786 : (Jvm.Cond.selects "SerialRecaps" ({ cls := "SerialRecaps", name := "count", desc := "(I)I" } : Jvm.MethodName) ({ cls := "SerialRecaps", name := "count", desc := "(I)I" } : Jvm.MethodName)) ∈ zG := zG_of 786 (by decide +kernel) (by decide +kernel)
theorem wd_787 : (Jvm.Cond.code ({ cls := "SerialRecaps", name := "count", desc := "(I)I" } : Jvm.MethodName) prog_1_method_19_code (2 : Nat) (Option.some Jvm.ClassFile.FieldType.int)) ∈ zG := zG_of 787 (by decide +kernel) (by decide +kernel)
theorem wd_790 : (Jvm.Cond.codeWith ({ cls := "SerialRecapsLaw", name := "setting", desc := "(LSerialRecaps;I[J)I" } : Jvm.MethodName) method_19_code (4 : Nat) (Option.some Jvm.ClassFile.FieldType.int) [((0 : Nat), (9 : Nat), (12 : Nat), (20 : Nat))]) ∈ zG := zG_of 790 (by decide +kernel) (by decide +kernel)
theorem wd_791 : (Jvm.Cond.methodLink "SerialRecapsLaw" (67 : Nat) ({ cls := "SerialRecaps", name := "setting", desc := "(I)I" } : Jvm.MethodName)) ∈ zG := zG_of 791 (by decide +kernel) (by decide +kernel)
theorem wd_792 : (Jvm.Cond.instanceMethod ({ cls := "SerialRecaps", name := "setting", desc := "(I)I" } : Jvm.MethodName)) ∈ zG := zG_of 792 (by decide +kernel) (by decide +kernel)
theorem wd_793 : (Jvm.Cond.selects "SerialRecaps" ({ cls := "SerialRecaps", name := "setting", desc := "(I)I" } : Jvm.MethodName) ({ cls := "SerialRecaps", name := "setting", desc := "(I)I" } : Jvm.MethodName)) ∈ zG := zG_of 793 (by decide +kernel) (by decide +kernel)
theorem wd_794 : (Jvm.Cond.code ({ cls := "SerialRecaps", name := "setting", desc := "(I)I" } : Jvm.MethodName) prog_1_method_20_code (2 : Nat) (Option.some Jvm.ClassFile.FieldType.int)) ∈ zG := zG_of 794 (by decide +kernel) (by decide +kernel)
theorem wd_797 : (Jvm.Cond.codeWith ({ cls := "SerialRecapsLaw", name := "recap", desc := "(LSerialRecaps;III[J)I" } : Jvm.MethodName) method_20_code (6 : Nat) (Option.some Jvm.ClassFile.FieldType.int) [((0 : Nat), (12 : Nat), (15 : Nat), (20 : Nat)), ((0 : Nat), (12 : Nat), (19 : Nat), (13 : Nat))]) ∈ zG := zG_of 797 (by decide +kernel) (by decide +kernel)
theorem wd_798 : (Jvm.Cond.methodLink "SerialRecapsLaw" (70 : Nat) ({ cls := "SerialRecaps", name := "recap", desc := "(III)I" } : Jvm.MethodName)) ∈ zG := zG_of 798 (by decide +kernel) (by decide +kernel)
theorem wd_799 : (Jvm.Cond.instanceMethod ({ cls := "SerialRecaps", name := "recap", desc := "(III)I" } : Jvm.MethodName)) ∈ zG := zG_of 799 (by decide +kernel) (by decide +kernel)
theorem wd_800 : (Jvm.Cond.selects "SerialRecaps" ({ cls := "SerialRecaps", name := "recap", desc := "(III)I" } : Jvm.MethodName) ({ cls := "SerialRecaps", name := "recap", desc := "(III)I" } : Jvm.MethodName)) ∈ zG := zG_of 800 (by decide +kernel) (by decide +kernel)
theorem wd_801 : (Jvm.Cond.code ({ cls := "SerialRecaps", name := "recap", desc := "(III)I" } : Jvm.MethodName) prog_1_method_21_code (4 : Nat) (Option.some Jvm.ClassFile.FieldType.int)) ∈ zG := zG_of 801 (by decide +kernel) (by decide +kernel)
theorem wd_804 : (Jvm.Cond.codeWith ({ cls := "SerialRecapsLaw", name := "easiest", desc := "(LSerialRecaps;I[J)I" } : Jvm.MethodName) method_21_code (4 : Nat) (Option.some Jvm.ClassFile.FieldType.int) [((0 : Nat), (9 : Nat), (12 : Nat), (20 : Nat))]) ∈ zG := zG_of 804 (by decide +kernel) (by decide +kernel)
theorem wd_805 : (Jvm.Cond.methodLink "SerialRecapsLaw" (73 : Nat) ({ cls := "SerialRecaps", name := "easiest", desc := "(I)I" } : Jvm.MethodName)) ∈ zG := zG_of 805 (by decide +kernel) (by decide +kernel)
theorem wd_806 : (Jvm.Cond.instanceMethod ({ cls := "SerialRecaps", name := "easiest", desc := "(I)I" } : Jvm.MethodName)) ∈ zG := zG_of 806 (by decide +kernel) (by decide +kernel)
theorem wd_807 : (Jvm.Cond.selects "SerialRecaps" ({ cls := "SerialRecaps", name := "easiest", desc := "(I)I" } : Jvm.MethodName) ({ cls := "SerialRecaps", name := "easiest", desc := "(I)I" } : Jvm.MethodName)) ∈ zG := zG_of 807 (by decide +kernel) (by decide +kernel)
theorem wd_808 : (Jvm.Cond.code ({ cls := "SerialRecaps", name := "easiest", desc := "(I)I" } : Jvm.MethodName) prog_1_method_22_code (2 : Nat) (Option.some Jvm.ClassFile.FieldType.int)) ∈ zG := zG_of 808 (by decide +kernel) (by decide +kernel)
theorem wd_811 : (Jvm.Cond.codeWith ({ cls := "SerialRecapsLaw", name := "enough", desc := "(LSerialRecaps;I[J)I" } : Jvm.MethodName) method_22_code (4 : Nat) (Option.some Jvm.ClassFile.FieldType.int) [((0 : Nat), (9 : Nat), (12 : Nat), (20 : Nat))]) ∈ zG := zG_of 811 (by decide +kernel) (by decide +kernel)
theorem wd_812 : (Jvm.Cond.methodLink "SerialRecapsLaw" (76 : Nat) ({ cls := "SerialRecaps", name := "enough", desc := "(I)I" } : Jvm.MethodName)) ∈ zG := zG_of 812 (by decide +kernel) (by decide +kernel)
theorem wd_813 : (Jvm.Cond.instanceMethod ({ cls := "SerialRecaps", name := "enough", desc := "(I)I" } : Jvm.MethodName)) ∈ zG := zG_of 813 (by decide +kernel) (by decide +kernel)
theorem wd_814 : (Jvm.Cond.selects "SerialRecaps" ({ cls := "SerialRecaps", name := "enough", desc := "(I)I" } : Jvm.MethodName) ({ cls := "SerialRecaps", name := "enough", desc := "(I)I" } : Jvm.MethodName)) ∈ zG := zG_of 814 (by decide +kernel) (by decide +kernel)
theorem wd_815 : (Jvm.Cond.code ({ cls := "SerialRecaps", name := "enough", desc := "(I)I" } : Jvm.MethodName) prog_1_method_23_code (2 : Nat) (Option.some Jvm.ClassFile.FieldType.int)) ∈ zG := zG_of 815 (by decide +kernel) (by decide +kernel)
theorem wd_821 : (Jvm.Cond.methodLink "SerialRecapsModel" (1 : Nat) ({ cls := "java/lang/Object", name := "<init>", desc := "()V" } : Jvm.MethodName)) ∈ zG := zG_of 821 (by decide +kernel) (by decide +kernel)
theorem wd_822 : (Jvm.Cond.fieldLink "SerialRecapsModel" (23 : Nat) "SerialRecapsModel" "thrown" "I") ∈ zG := zG_of 822 (by decide +kernel) (by decide +kernel)
theorem wd_823 : (Jvm.Cond.fieldLink "SerialRecapsModel" (7 : Nat) "SerialRecapsModel" "s" "[I") ∈ zG := zG_of 823 (by decide +kernel) (by decide +kernel)
theorem wd_824 : (Jvm.Cond.fieldLink "SerialRecapsModel" (13 : Nat) "SerialRecapsModel" "past" "[I") ∈ zG := zG_of 824 (by decide +kernel) (by decide +kernel)
theorem wd_825 : (Jvm.Cond.fieldLink "SerialRecapsModel" (27 : Nat) "SerialRecapsModel" "saved" "I") ∈ zG := zG_of 825 (by decide +kernel) (by decide +kernel)
theorem wd_826 : (Jvm.Cond.fieldLink "SerialRecapsModel" (16 : Nat) "SerialRecapsModel" "text" "[C") ∈ zG := zG_of 826 (by decide +kernel) (by decide +kernel)
theorem wd_827 : (Jvm.Cond.fieldLink "SerialRecapsModel" (96 : Nat) "SerialRecapsModel" "length" "I") ∈ zG := zG_of 827 (by decide +kernel) (by decide +kernel)
theorem wd_828 : (Jvm.Cond.fieldLink "SerialRecapsModel" (99 : Nat) "SerialRecapsModel" "spot" "I") ∈ zG := zG_of 828 (by decide +kernel) (by decide +kernel)
theorem wd_829 : (Jvm.Cond.fieldLink "SerialRecapsModel" (20 : Nat) "SerialRecapsModel" "read" "[I") ∈ zG := zG_of 829 (by decide +kernel) (by decide +kernel)
theorem wd_830 : (Jvm.Cond.fieldLink "SerialRecapsModel" (119 : Nat) "SerialRecapsModel" "reads" "I") ∈ zG := zG_of 830 (by decide +kernel) (by decide +kernel)
theorem wd_831 : (Jvm.Cond.fieldLink "SerialRecapsModel" (184 : Nat) "SerialRecapsModel" "hash" "J") ∈ zG := zG_of 831 (by decide +kernel) (by decide +kernel)
theorem wd_853 : (Jvm.Cond.arrayClass Jvm.ClassFile.FieldType.char) ∈ zG := zG_of 853 (by decide +kernel) (by decide +kernel)
theorem wd_862 : (Jvm.Cond.methodLink "SerialRecapsModel" (30 : Nat) ({ cls := "SerialRecapsModel", name := "refuses", desc := "(I)Z" } : Jvm.MethodName)) ∈ zG := zG_of 862 (by decide +kernel) (by decide +kernel)
theorem wd_864 : (Jvm.Cond.instanceMethod ({ cls := "SerialRecapsModel", name := "refuses", desc := "(I)Z" } : Jvm.MethodName)) ∈ zG := zG_of 864 (by decide +kernel) (by decide +kernel)
theorem wd_865 : (Jvm.Cond.code ({ cls := "SerialRecapsModel", name := "refuses", desc := "(I)Z" } : Jvm.MethodName) prog_9_method_4_code (2 : Nat) (Option.some Jvm.ClassFile.FieldType.boolean)) ∈ zG := zG_of 865 (by decide +kernel) (by decide +kernel)
theorem wd_870 : (Jvm.Cond.methodLink "SerialRecapsModel" (34 : Nat) ({ cls := "SerialRecapsModel", name := "in", desc := "(III)Z" } : Jvm.MethodName)) ∈ zG := zG_of 870 (by decide +kernel) (by decide +kernel)
theorem wd_871 : (Jvm.Cond.static ({ cls := "SerialRecapsModel", name := "in", desc := "(III)Z" } : Jvm.MethodName)) ∈ zG := zG_of 871 (by decide +kernel) (by decide +kernel)
theorem wd_872 : (Jvm.Cond.code ({ cls := "SerialRecapsModel", name := "in", desc := "(III)Z" } : Jvm.MethodName) prog_9_method_3_code (3 : Nat) (Option.some Jvm.ClassFile.FieldType.boolean)) ∈ zG := zG_of 872 (by decide +kernel) (by decide +kernel)
theorem wd_873 : (Jvm.Cond.methodLink "SerialRecapsModel" (59 : Nat) ({ cls := "SerialRecapsModel", name := "isCliff", desc := "(II)Z" } : Jvm.MethodName)) ∈ zG := zG_of 873 (by decide +kernel) (by decide +kernel)
theorem wd_874 : (Jvm.Cond.static ({ cls := "SerialRecapsModel", name := "isCliff", desc := "(II)Z" } : Jvm.MethodName)) ∈ zG := zG_of 874 (by decide +kernel) (by decide +kernel)
theorem wd_875 : (Jvm.Cond.code ({ cls := "SerialRecapsModel", name := "isCliff", desc := "(II)Z" } : Jvm.MethodName) prog_9_method_21_code (2 : Nat) (Option.some Jvm.ClassFile.FieldType.boolean)) ∈ zG := zG_of 875 (by decide +kernel) (by decide +kernel)
theorem wd_876 : (Jvm.Cond.methodLink "SerialRecapsModel" (63 : Nat) ({ cls := "SerialRecapsModel", name := "saves", desc := "()V" } : Jvm.MethodName)) ∈ zG := zG_of 876 (by decide +kernel) (by decide +kernel)
theorem wd_878 : (Jvm.Cond.instanceMethod ({ cls := "SerialRecapsModel", name := "saves", desc := "()V" } : Jvm.MethodName)) ∈ zG := zG_of 878 (by decide +kernel) (by decide +kernel)
theorem wd_879 : (Jvm.Cond.code ({ cls := "SerialRecapsModel", name := "saves", desc := "()V" } : Jvm.MethodName) prog_9_method_5_code (2 : Nat) (Option.none : Option Jvm.ClassFile.FieldType)) ∈ zG := zG_of 879 (by decide +kernel) (by decide +kernel)
theorem wd_880 : (Jvm.Cond.methodLink "SerialRecapsModel" (66 : Nat) ({ cls := "SerialRecapsModel", name := "adds", desc := "(III)V" } : Jvm.MethodName)) ∈ zG := zG_of 880 (by decide +kernel) (by decide +kernel)
theorem wd_882 : (Jvm.Cond.instanceMethod ({ cls := "SerialRecapsModel", name := "adds", desc := "(III)V" } : Jvm.MethodName)) ∈ zG := zG_of 882 (by decide +kernel) (by decide +kernel)
theorem wd_883 : (Jvm.Cond.code ({ cls := "SerialRecapsModel", name := "adds", desc := "(III)V" } : Jvm.MethodName) prog_9_method_22_code (6 : Nat) (Option.none : Option Jvm.ClassFile.FieldType)) ∈ zG := zG_of 883 (by decide +kernel) (by decide +kernel)
theorem wd_884 : (Jvm.Cond.methodLink "SerialRecapsModel" (55 : Nat) ({ cls := "SerialRecapsModel", name := "learns", desc := "(III)V" } : Jvm.MethodName)) ∈ zG := zG_of 884 (by decide +kernel) (by decide +kernel)
theorem wd_886 : (Jvm.Cond.instanceMethod ({ cls := "SerialRecapsModel", name := "learns", desc := "(III)V" } : Jvm.MethodName)) ∈ zG := zG_of 886 (by decide +kernel) (by decide +kernel)
theorem wd_887 : (Jvm.Cond.code ({ cls := "SerialRecapsModel", name := "learns", desc := "(III)V" } : Jvm.MethodName) prog_9_method_12_code (4 : Nat) (Option.none : Option Jvm.ClassFile.FieldType)) ∈ zG := zG_of 887 (by decide +kernel) (by decide +kernel)
theorem wd_892 : (Jvm.Cond.methodLink "SerialRecapsModel" (69 : Nat) ({ cls := "SerialRecapsModel", name := "isPart", desc := "(I)Z" } : Jvm.MethodName)) ∈ zG := zG_of 892 (by decide +kernel) (by decide +kernel)
theorem wd_894 : (Jvm.Cond.instanceMethod ({ cls := "SerialRecapsModel", name := "isPart", desc := "(I)Z" } : Jvm.MethodName)) ∈ zG := zG_of 894 (by decide +kernel) (by decide +kernel)
theorem wd_895 : (Jvm.Cond.code ({ cls := "SerialRecapsModel", name := "isPart", desc := "(I)Z" } : Jvm.MethodName) prog_9_method_7_code (2 : Nat) (Option.some Jvm.ClassFile.FieldType.boolean)) ∈ zG := zG_of 895 (by decide +kernel) (by decide +kernel)
theorem wd_896 : (Jvm.Cond.methodLink "SerialRecapsModel" (38 : Nat) ({ cls := "SerialRecapsModel", name := "of", desc := "(II)I" } : Jvm.MethodName)) ∈ zG := zG_of 896 (by decide +kernel) (by decide +kernel)
theorem wd_898 : (Jvm.Cond.instanceMethod ({ cls := "SerialRecapsModel", name := "of", desc := "(II)I" } : Jvm.MethodName)) ∈ zG := zG_of 898 (by decide +kernel) (by decide +kernel)
theorem wd_899 : (Jvm.Cond.code ({ cls := "SerialRecapsModel", name := "of", desc := "(II)I" } : Jvm.MethodName) prog_9_method_9_code (3 : Nat) (Option.some Jvm.ClassFile.FieldType.int)) ∈ zG := zG_of 899 (by decide +kernel) (by decide +kernel)
theorem wd_904 : (Jvm.Cond.methodLink "SerialRecapsModel" (72 : Nat) ({ cls := "SerialRecapsModel", name := "readersOf", desc := "(I)I" } : Jvm.MethodName)) ∈ zG := zG_of 904 (by decide +kernel) (by decide +kernel)
theorem wd_906 : (Jvm.Cond.instanceMethod ({ cls := "SerialRecapsModel", name := "readersOf", desc := "(I)I" } : Jvm.MethodName)) ∈ zG := zG_of 906 (by decide +kernel) (by decide +kernel)
theorem wd_907 : (Jvm.Cond.code ({ cls := "SerialRecapsModel", name := "readersOf", desc := "(I)I" } : Jvm.MethodName) prog_9_method_25_code (4 : Nat) (Option.some Jvm.ClassFile.FieldType.int)) ∈ zG := zG_of 907 (by decide +kernel) (by decide +kernel)
theorem wd_908 : (Jvm.Cond.methodLink "SerialRecapsModel" (46 : Nat) ({ cls := "SerialRecapsModel", name := "known", desc := "(II)I" } : Jvm.MethodName)) ∈ zG := zG_of 908 (by decide +kernel) (by decide +kernel)
theorem wd_910 : (Jvm.Cond.instanceMethod ({ cls := "SerialRecapsModel", name := "known", desc := "(II)I" } : Jvm.MethodName)) ∈ zG := zG_of 910 (by decide +kernel) (by decide +kernel)
theorem wd_911 : (Jvm.Cond.code ({ cls := "SerialRecapsModel", name := "known", desc := "(II)I" } : Jvm.MethodName) prog_9_method_11_code (3 : Nat) (Option.some Jvm.ClassFile.FieldType.int)) ∈ zG := zG_of 911 (by decide +kernel) (by decide +kernel)
theorem wd_912 : (Jvm.Cond.methodLink "SerialRecapsModel" (75 : Nat) ({ cls := "SerialRecapsModel", name := "ones", desc := "(I)I" } : Jvm.MethodName)) ∈ zG := zG_of 912 (by decide +kernel) (by decide +kernel)
theorem wd_913 : (Jvm.Cond.static ({ cls := "SerialRecapsModel", name := "ones", desc := "(I)I" } : Jvm.MethodName)) ∈ zG := zG_of 913 (by decide +kernel) (by decide +kernel)
theorem wd_914 : (Jvm.Cond.code ({ cls := "SerialRecapsModel", name := "ones", desc := "(I)I" } : Jvm.MethodName) prog_9_method_14_code (3 : Nat) (Option.some Jvm.ClassFile.FieldType.int)) ∈ zG := zG_of 914 (by decide +kernel) (by decide +kernel)
theorem wd_923 : (Jvm.Cond.methodLink "SerialRecapsModel" (90 : Nat) ({ cls := "SerialRecapsModel", name := "isReader", desc := "(I)Z" } : Jvm.MethodName)) ∈ zG := zG_of 923 (by decide +kernel) (by decide +kernel)
theorem wd_924 : (Jvm.Cond.static ({ cls := "SerialRecapsModel", name := "isReader", desc := "(I)Z" } : Jvm.MethodName)) ∈ zG := zG_of 924 (by decide +kernel) (by decide +kernel)
theorem wd_925 : (Jvm.Cond.code ({ cls := "SerialRecapsModel", name := "isReader", desc := "(I)Z" } : Jvm.MethodName) prog_9_method_8_code (1 : Nat) (Option.some Jvm.ClassFile.FieldType.boolean)) ∈ zG := zG_of 925 (by decide +kernel) (by decide +kernel)
theorem wd_926 : (Jvm.Cond.methodLink "SerialRecapsModel" (93 : Nat) ({ cls := "SerialRecapsModel", name := "reaches", desc := "(II)I" } : Jvm.MethodName)) ∈ zG := zG_of 926 (by decide +kernel) (by decide +kernel)
theorem wd_928 : (Jvm.Cond.instanceMethod ({ cls := "SerialRecapsModel", name := "reaches", desc := "(II)I" } : Jvm.MethodName)) ∈ zG := zG_of 928 (by decide +kernel) (by decide +kernel)
theorem wd_929 : (Jvm.Cond.code ({ cls := "SerialRecapsModel", name := "reaches", desc := "(II)I" } : Jvm.MethodName) prog_9_method_28_code (7 : Nat) (Option.some Jvm.ClassFile.FieldType.int)) ∈ zG := zG_of 929 (by decide +kernel) (by decide +kernel)
theorem wd_930 : (Jvm.Cond.methodLink "SerialRecapsModel" (78 : Nat) ({ cls := "SerialRecapsModel", name := "missed", desc := "(II)I" } : Jvm.MethodName)) ∈ zG := zG_of 930 (by decide +kernel) (by decide +kernel)
theorem wd_932 : (Jvm.Cond.instanceMethod ({ cls := "SerialRecapsModel", name := "missed", desc := "(II)I" } : Jvm.MethodName)) ∈ zG := zG_of 932 (by decide +kernel) (by decide +kernel)
theorem wd_933 : (Jvm.Cond.code ({ cls := "SerialRecapsModel", name := "missed", desc := "(II)I" } : Jvm.MethodName) prog_9_method_18_code (3 : Nat) (Option.some Jvm.ClassFile.FieldType.int)) ∈ zG := zG_of 933 (by decide +kernel) (by decide +kernel)
theorem wd_934 : (Jvm.Cond.methodLink "SerialRecapsModel" (49 : Nat) ({ cls := "SerialRecapsModel", name := "unknown", desc := "(I)I" } : Jvm.MethodName)) ∈ zG := zG_of 934 (by decide +kernel) (by decide +kernel)
theorem wd_936 : (Jvm.Cond.instanceMethod ({ cls := "SerialRecapsModel", name := "unknown", desc := "(I)I" } : Jvm.MethodName)) ∈ zG := zG_of 936 (by decide +kernel) (by decide +kernel)
theorem wd_937 : (Jvm.Cond.code ({ cls := "SerialRecapsModel", name := "unknown", desc := "(I)I" } : Jvm.MethodName) prog_9_method_17_code (4 : Nat) (Option.some Jvm.ClassFile.FieldType.int)) ∈ zG := zG_of 937 (by decide +kernel) (by decide +kernel)
theorem wd_938 : (Jvm.Cond.methodLink "SerialRecapsModel" (52 : Nat) ({ cls := "SerialRecapsModel", name := "needsAmong", desc := "(II)I" } : Jvm.MethodName)) ∈ zG := zG_of 938 (by decide +kernel) (by decide +kernel)
theorem wd_940 : (Jvm.Cond.instanceMethod ({ cls := "SerialRecapsModel", name := "needsAmong", desc := "(II)I" } : Jvm.MethodName)) ∈ zG := zG_of 940 (by decide +kernel) (by decide +kernel)
theorem wd_941 : (Jvm.Cond.code ({ cls := "SerialRecapsModel", name := "needsAmong", desc := "(II)I" } : Jvm.MethodName) prog_9_method_16_code (5 : Nat) (Option.some Jvm.ClassFile.FieldType.int)) ∈ zG := zG_of 941 (by decide +kernel) (by decide +kernel)
theorem wd_942 : (Jvm.Cond.methodLink "SerialRecapsModel" (42 : Nat) ({ cls := "SerialRecapsModel", name := "needs", desc := "(I)I" } : Jvm.MethodName)) ∈ zG := zG_of 942 (by decide +kernel) (by decide +kernel)
theorem wd_944 : (Jvm.Cond.instanceMethod ({ cls := "SerialRecapsModel", name := "needs", desc := "(I)I" } : Jvm.MethodName)) ∈ zG := zG_of 944 (by decide +kernel) (by decide +kernel)
theorem wd_945 : (Jvm.Cond.code ({ cls := "SerialRecapsModel", name := "needs", desc := "(I)I" } : Jvm.MethodName) prog_9_method_15_code (5 : Nat) (Option.some Jvm.ClassFile.FieldType.int)) ∈ zG := zG_of 945 (by decide +kernel) (by decide +kernel)
theorem wd_946 : (Jvm.Cond.methodLink "SerialRecapsModel" (81 : Nat) ({ cls := "SerialRecapsModel", name := "told", desc := "(I)I" } : Jvm.MethodName)) ∈ zG := zG_of 946 (by decide +kernel) (by decide +kernel)
theorem wd_948 : (Jvm.Cond.instanceMethod ({ cls := "SerialRecapsModel", name := "told", desc := "(I)I" } : Jvm.MethodName)) ∈ zG := zG_of 948 (by decide +kernel) (by decide +kernel)
theorem wd_949 : (Jvm.Cond.code ({ cls := "SerialRecapsModel", name := "told", desc := "(I)I" } : Jvm.MethodName) prog_9_method_19_code (6 : Nat) (Option.some Jvm.ClassFile.FieldType.int)) ∈ zG := zG_of 949 (by decide +kernel) (by decide +kernel)
theorem wd_950 : (Jvm.Cond.methodLink "SerialRecapsModel" (84 : Nat) ({ cls := "SerialRecapsModel", name := "wordsOf", desc := "(I)I" } : Jvm.MethodName)) ∈ zG := zG_of 950 (by decide +kernel) (by decide +kernel)
theorem wd_952 : (Jvm.Cond.instanceMethod ({ cls := "SerialRecapsModel", name := "wordsOf", desc := "(I)I" } : Jvm.MethodName)) ∈ zG := zG_of 952 (by decide +kernel) (by decide +kernel)
theorem wd_953 : (Jvm.Cond.code ({ cls := "SerialRecapsModel", name := "wordsOf", desc := "(I)I" } : Jvm.MethodName) prog_9_method_20_code (5 : Nat) (Option.some Jvm.ClassFile.FieldType.int)) ∈ zG := zG_of 953 (by decide +kernel) (by decide +kernel)
theorem wd_954 : (Jvm.Cond.methodLink "SerialRecapsModel" (87 : Nat) ({ cls := "SerialRecapsModel", name := "grows", desc := "(III)V" } : Jvm.MethodName)) ∈ zG := zG_of 954 (by decide +kernel) (by decide +kernel)
theorem wd_956 : (Jvm.Cond.instanceMethod ({ cls := "SerialRecapsModel", name := "grows", desc := "(III)V" } : Jvm.MethodName)) ∈ zG := zG_of 956 (by decide +kernel) (by decide +kernel)
theorem wd_957 : (Jvm.Cond.code ({ cls := "SerialRecapsModel", name := "grows", desc := "(III)V" } : Jvm.MethodName) prog_9_method_13_code (4 : Nat) (Option.none : Option Jvm.ClassFile.FieldType)) ∈ zG := zG_of 957 (by decide +kernel) (by decide +kernel)
theorem wd_982 : (Jvm.Cond.methodLink "SerialRecapsModel" (126 : Nat) ({ cls := "SerialRecapsModel", name := "isText", desc := "()Z" } : Jvm.MethodName)) ∈ zG := zG_of 982 (by decide +kernel) (by decide +kernel)
theorem wd_984 : (Jvm.Cond.instanceMethod ({ cls := "SerialRecapsModel", name := "isText", desc := "()Z" } : Jvm.MethodName)) ∈ zG := zG_of 984 (by decide +kernel) (by decide +kernel)
theorem wd_985 : (Jvm.Cond.code ({ cls := "SerialRecapsModel", name := "isText", desc := "()Z" } : Jvm.MethodName) prog_9_method_41_code (2 : Nat) (Option.some Jvm.ClassFile.FieldType.boolean)) ∈ zG := zG_of 985 (by decide +kernel) (by decide +kernel)
theorem wd_986 : (Jvm.Cond.methodLink "SerialRecapsModel" (122 : Nat) ({ cls := "SerialRecapsModel", name := "readsPart", desc := "()Z" } : Jvm.MethodName)) ∈ zG := zG_of 986 (by decide +kernel) (by decide +kernel)
theorem wd_988 : (Jvm.Cond.instanceMethod ({ cls := "SerialRecapsModel", name := "readsPart", desc := "()Z" } : Jvm.MethodName)) ∈ zG := zG_of 988 (by decide +kernel) (by decide +kernel)
theorem wd_989 : (Jvm.Cond.code ({ cls := "SerialRecapsModel", name := "readsPart", desc := "()Z" } : Jvm.MethodName) prog_9_method_40_code (5 : Nat) (Option.some Jvm.ClassFile.FieldType.boolean)) ∈ zG := zG_of 989 (by decide +kernel) (by decide +kernel)
theorem wd_990 : (Jvm.Cond.methodLink "SerialRecapsModel" (105 : Nat) ({ cls := "SerialRecapsModel", name := "readsPlots", desc := "()I" } : Jvm.MethodName)) ∈ zG := zG_of 990 (by decide +kernel) (by decide +kernel)
theorem wd_992 : (Jvm.Cond.instanceMethod ({ cls := "SerialRecapsModel", name := "readsPlots", desc := "()I" } : Jvm.MethodName)) ∈ zG := zG_of 992 (by decide +kernel) (by decide +kernel)
theorem wd_993 : (Jvm.Cond.code ({ cls := "SerialRecapsModel", name := "readsPlots", desc := "()I" } : Jvm.MethodName) prog_9_method_37_code (3 : Nat) (Option.some Jvm.ClassFile.FieldType.int)) ∈ zG := zG_of 993 (by decide +kernel) (by decide +kernel)
theorem wd_994 : (Jvm.Cond.methodLink "SerialRecapsModel" (102 : Nat) ({ cls := "SerialRecapsModel", name := "sees", desc := "(II)Z" } : Jvm.MethodName)) ∈ zG := zG_of 994 (by decide +kernel) (by decide +kernel)
theorem wd_996 : (Jvm.Cond.instanceMethod ({ cls := "SerialRecapsModel", name := "sees", desc := "(II)Z" } : Jvm.MethodName)) ∈ zG := zG_of 996 (by decide +kernel) (by decide +kernel)
theorem wd_997 : (Jvm.Cond.code ({ cls := "SerialRecapsModel", name := "sees", desc := "(II)Z" } : Jvm.MethodName) prog_9_method_35_code (3 : Nat) (Option.some Jvm.ClassFile.FieldType.boolean)) ∈ zG := zG_of 997 (by decide +kernel) (by decide +kernel)
theorem wd_998 : (Jvm.Cond.methodLink "SerialRecapsModel" (109 : Nat) ({ cls := "SerialRecapsModel", name := "takes", desc := "(C)Z" } : Jvm.MethodName)) ∈ zG := zG_of 998 (by decide +kernel) (by decide +kernel)
theorem wd_1000 : (Jvm.Cond.instanceMethod ({ cls := "SerialRecapsModel", name := "takes", desc := "(C)Z" } : Jvm.MethodName)) ∈ zG := zG_of 1000 (by decide +kernel) (by decide +kernel)
theorem wd_1001 : (Jvm.Cond.code ({ cls := "SerialRecapsModel", name := "takes", desc := "(C)Z" } : Jvm.MethodName) prog_9_method_36_code (3 : Nat) (Option.some Jvm.ClassFile.FieldType.boolean)) ∈ zG := zG_of 1001 (by decide +kernel) (by decide +kernel)
theorem wd_1002 : (Jvm.Cond.methodLink "SerialRecapsModel" (113 : Nat) ({ cls := "SerialRecapsModel", name := "readsCliff", desc := "(I)I" } : Jvm.MethodName)) ∈ zG := zG_of 1002 (by decide +kernel) (by decide +kernel)
theorem wd_1004 : (Jvm.Cond.instanceMethod ({ cls := "SerialRecapsModel", name := "readsCliff", desc := "(I)I" } : Jvm.MethodName)) ∈ zG := zG_of 1004 (by decide +kernel) (by decide +kernel)
theorem wd_1005 : (Jvm.Cond.code ({ cls := "SerialRecapsModel", name := "readsCliff", desc := "(I)I" } : Jvm.MethodName) prog_9_method_38_code (3 : Nat) (Option.some Jvm.ClassFile.FieldType.int)) ∈ zG := zG_of 1005 (by decide +kernel) (by decide +kernel)
theorem wd_1006 : (Jvm.Cond.methodLink "SerialRecapsModel" (116 : Nat) ({ cls := "SerialRecapsModel", name := "readsWords", desc := "()I" } : Jvm.MethodName)) ∈ zG := zG_of 1006 (by decide +kernel) (by decide +kernel)
theorem wd_1008 : (Jvm.Cond.instanceMethod ({ cls := "SerialRecapsModel", name := "readsWords", desc := "()I" } : Jvm.MethodName)) ∈ zG := zG_of 1008 (by decide +kernel) (by decide +kernel)
theorem wd_1009 : (Jvm.Cond.code ({ cls := "SerialRecapsModel", name := "readsWords", desc := "()I" } : Jvm.MethodName) prog_9_method_39_code (2 : Nat) (Option.some Jvm.ClassFile.FieldType.int)) ∈ zG := zG_of 1009 (by decide +kernel) (by decide +kernel)
theorem wd_1018 : (Jvm.Cond.methodLink "SerialRecapsModel" (132 : Nat) ({ cls := "SerialRecapsModel", name := "partOf", desc := "(II)I" } : Jvm.MethodName)) ∈ zG := zG_of 1018 (by decide +kernel) (by decide +kernel)
theorem wd_1020 : (Jvm.Cond.instanceMethod ({ cls := "SerialRecapsModel", name := "partOf", desc := "(II)I" } : Jvm.MethodName)) ∈ zG := zG_of 1020 (by decide +kernel) (by decide +kernel)
theorem wd_1021 : (Jvm.Cond.code ({ cls := "SerialRecapsModel", name := "partOf", desc := "(II)I" } : Jvm.MethodName) prog_9_method_45_code (3 : Nat) (Option.some Jvm.ClassFile.FieldType.int)) ∈ zG := zG_of 1021 (by decide +kernel) (by decide +kernel)
theorem wd_1022 : (Jvm.Cond.methodLink "SerialRecapsModel" (129 : Nat) ({ cls := "SerialRecapsModel", name := "needing", desc := "(I)I" } : Jvm.MethodName)) ∈ zG := zG_of 1022 (by decide +kernel) (by decide +kernel)
theorem wd_1024 : (Jvm.Cond.instanceMethod ({ cls := "SerialRecapsModel", name := "needing", desc := "(I)I" } : Jvm.MethodName)) ∈ zG := zG_of 1024 (by decide +kernel) (by decide +kernel)
theorem wd_1025 : (Jvm.Cond.code ({ cls := "SerialRecapsModel", name := "needing", desc := "(I)I" } : Jvm.MethodName) prog_9_method_44_code (4 : Nat) (Option.some Jvm.ClassFile.FieldType.int)) ∈ zG := zG_of 1025 (by decide +kernel) (by decide +kernel)
theorem wd_1034 : (Jvm.Cond.methodLink "SerialRecapsModel" (141 : Nat) ({ cls := "SerialRecapsModel", name := "readerOf", desc := "(II)I" } : Jvm.MethodName)) ∈ zG := zG_of 1034 (by decide +kernel) (by decide +kernel)
theorem wd_1036 : (Jvm.Cond.instanceMethod ({ cls := "SerialRecapsModel", name := "readerOf", desc := "(II)I" } : Jvm.MethodName)) ∈ zG := zG_of 1036 (by decide +kernel) (by decide +kernel)
theorem wd_1037 : (Jvm.Cond.code ({ cls := "SerialRecapsModel", name := "readerOf", desc := "(II)I" } : Jvm.MethodName) prog_9_method_50_code (3 : Nat) (Option.some Jvm.ClassFile.FieldType.int)) ∈ zG := zG_of 1037 (by decide +kernel) (by decide +kernel)
theorem wd_1038 : (Jvm.Cond.methodLink "SerialRecapsModel" (135 : Nat) ({ cls := "SerialRecapsModel", name := "manyKnown", desc := "(II)I" } : Jvm.MethodName)) ∈ zG := zG_of 1038 (by decide +kernel) (by decide +kernel)
theorem wd_1040 : (Jvm.Cond.instanceMethod ({ cls := "SerialRecapsModel", name := "manyKnown", desc := "(II)I" } : Jvm.MethodName)) ∈ zG := zG_of 1040 (by decide +kernel) (by decide +kernel)
theorem wd_1041 : (Jvm.Cond.code ({ cls := "SerialRecapsModel", name := "manyKnown", desc := "(II)I" } : Jvm.MethodName) prog_9_method_48_code (5 : Nat) (Option.some Jvm.ClassFile.FieldType.int)) ∈ zG := zG_of 1041 (by decide +kernel) (by decide +kernel)
theorem wd_1042 : (Jvm.Cond.methodLink "SerialRecapsModel" (138 : Nat) ({ cls := "SerialRecapsModel", name := "open", desc := "(I)I" } : Jvm.MethodName)) ∈ zG := zG_of 1042 (by decide +kernel) (by decide +kernel)
theorem wd_1044 : (Jvm.Cond.instanceMethod ({ cls := "SerialRecapsModel", name := "open", desc := "(I)I" } : Jvm.MethodName)) ∈ zG := zG_of 1044 (by decide +kernel) (by decide +kernel)
theorem wd_1045 : (Jvm.Cond.code ({ cls := "SerialRecapsModel", name := "open", desc := "(I)I" } : Jvm.MethodName) prog_9_method_49_code (4 : Nat) (Option.some Jvm.ClassFile.FieldType.int)) ∈ zG := zG_of 1045 (by decide +kernel) (by decide +kernel)
theorem wd_1050 : (Jvm.Cond.methodLink "SerialRecapsModel" (153 : Nat) ({ cls := "SerialRecapsModel", name := "plotOf", desc := "(II)I" } : Jvm.MethodName)) ∈ zG := zG_of 1050 (by decide +kernel) (by decide +kernel)
theorem wd_1052 : (Jvm.Cond.instanceMethod ({ cls := "SerialRecapsModel", name := "plotOf", desc := "(II)I" } : Jvm.MethodName)) ∈ zG := zG_of 1052 (by decide +kernel) (by decide +kernel)
theorem wd_1053 : (Jvm.Cond.code ({ cls := "SerialRecapsModel", name := "plotOf", desc := "(II)I" } : Jvm.MethodName) prog_9_method_54_code (3 : Nat) (Option.some Jvm.ClassFile.FieldType.int)) ∈ zG := zG_of 1053 (by decide +kernel) (by decide +kernel)
theorem wd_1054 : (Jvm.Cond.methodLink "SerialRecapsModel" (147 : Nat) ({ cls := "SerialRecapsModel", name := "openTo", desc := "(I)I" } : Jvm.MethodName)) ∈ zG := zG_of 1054 (by decide +kernel) (by decide +kernel)
theorem wd_1056 : (Jvm.Cond.instanceMethod ({ cls := "SerialRecapsModel", name := "openTo", desc := "(I)I" } : Jvm.MethodName)) ∈ zG := zG_of 1056 (by decide +kernel) (by decide +kernel)
theorem wd_1057 : (Jvm.Cond.code ({ cls := "SerialRecapsModel", name := "openTo", desc := "(I)I" } : Jvm.MethodName) prog_9_method_53_code (4 : Nat) (Option.some Jvm.ClassFile.FieldType.int)) ∈ zG := zG_of 1057 (by decide +kernel) (by decide +kernel)
theorem wd_1058 : (Jvm.Cond.methodLink "SerialRecapsModel" (150 : Nat) ({ cls := "SerialRecapsModel", name := "ofParts", desc := "(II)I" } : Jvm.MethodName)) ∈ zG := zG_of 1058 (by decide +kernel) (by decide +kernel)
theorem wd_1060 : (Jvm.Cond.instanceMethod ({ cls := "SerialRecapsModel", name := "ofParts", desc := "(II)I" } : Jvm.MethodName)) ∈ zG := zG_of 1060 (by decide +kernel) (by decide +kernel)
theorem wd_1061 : (Jvm.Cond.code ({ cls := "SerialRecapsModel", name := "ofParts", desc := "(II)I" } : Jvm.MethodName) prog_9_method_52_code (7 : Nat) (Option.some Jvm.ClassFile.FieldType.int)) ∈ zG := zG_of 1061 (by decide +kernel) (by decide +kernel)
theorem wd_1062 : (Jvm.Cond.methodLink "SerialRecapsModel" (144 : Nat) ({ cls := "SerialRecapsModel", name := "goesOn", desc := "(II)Z" } : Jvm.MethodName)) ∈ zG := zG_of 1062 (by decide +kernel) (by decide +kernel)
theorem wd_1064 : (Jvm.Cond.instanceMethod ({ cls := "SerialRecapsModel", name := "goesOn", desc := "(II)Z" } : Jvm.MethodName)) ∈ zG := zG_of 1064 (by decide +kernel) (by decide +kernel)
theorem wd_1065 : (Jvm.Cond.code ({ cls := "SerialRecapsModel", name := "goesOn", desc := "(II)Z" } : Jvm.MethodName) prog_9_method_10_code (3 : Nat) (Option.some Jvm.ClassFile.FieldType.boolean)) ∈ zG := zG_of 1065 (by decide +kernel) (by decide +kernel)
theorem wd_1070 : (Jvm.Cond.methodLink "SerialRecapsModel" (165 : Nat) ({ cls := "SerialRecapsModel", name := "counted", desc := "(I)I" } : Jvm.MethodName)) ∈ zG := zG_of 1070 (by decide +kernel) (by decide +kernel)
theorem wd_1072 : (Jvm.Cond.instanceMethod ({ cls := "SerialRecapsModel", name := "counted", desc := "(I)I" } : Jvm.MethodName)) ∈ zG := zG_of 1072 (by decide +kernel) (by decide +kernel)
theorem wd_1073 : (Jvm.Cond.code ({ cls := "SerialRecapsModel", name := "counted", desc := "(I)I" } : Jvm.MethodName) prog_9_method_59_code (2 : Nat) (Option.some Jvm.ClassFile.FieldType.int)) ∈ zG := zG_of 1073 (by decide +kernel) (by decide +kernel)
theorem wd_1074 : (Jvm.Cond.methodLink "SerialRecapsModel" (156 : Nat) ({ cls := "SerialRecapsModel", name := "allWords", desc := "()I" } : Jvm.MethodName)) ∈ zG := zG_of 1074 (by decide +kernel) (by decide +kernel)
theorem wd_1076 : (Jvm.Cond.instanceMethod ({ cls := "SerialRecapsModel", name := "allWords", desc := "()I" } : Jvm.MethodName)) ∈ zG := zG_of 1076 (by decide +kernel) (by decide +kernel)
theorem wd_1077 : (Jvm.Cond.code ({ cls := "SerialRecapsModel", name := "allWords", desc := "()I" } : Jvm.MethodName) prog_9_method_56_code (3 : Nat) (Option.some Jvm.ClassFile.FieldType.int)) ∈ zG := zG_of 1077 (by decide +kernel) (by decide +kernel)
theorem wd_1078 : (Jvm.Cond.methodLink "SerialRecapsModel" (159 : Nat) ({ cls := "SerialRecapsModel", name := "wordsRead", desc := "()I" } : Jvm.MethodName)) ∈ zG := zG_of 1078 (by decide +kernel) (by decide +kernel)
theorem wd_1080 : (Jvm.Cond.instanceMethod ({ cls := "SerialRecapsModel", name := "wordsRead", desc := "()I" } : Jvm.MethodName)) ∈ zG := zG_of 1080 (by decide +kernel) (by decide +kernel)
theorem wd_1081 : (Jvm.Cond.code ({ cls := "SerialRecapsModel", name := "wordsRead", desc := "()I" } : Jvm.MethodName) prog_9_method_57_code (3 : Nat) (Option.some Jvm.ClassFile.FieldType.int)) ∈ zG := zG_of 1081 (by decide +kernel) (by decide +kernel)
theorem wd_1082 : (Jvm.Cond.methodLink "SerialRecapsModel" (162 : Nat) ({ cls := "SerialRecapsModel", name := "knowAll", desc := "()I" } : Jvm.MethodName)) ∈ zG := zG_of 1082 (by decide +kernel) (by decide +kernel)
theorem wd_1084 : (Jvm.Cond.instanceMethod ({ cls := "SerialRecapsModel", name := "knowAll", desc := "()I" } : Jvm.MethodName)) ∈ zG := zG_of 1084 (by decide +kernel) (by decide +kernel)
theorem wd_1085 : (Jvm.Cond.code ({ cls := "SerialRecapsModel", name := "knowAll", desc := "()I" } : Jvm.MethodName) prog_9_method_58_code (3 : Nat) (Option.some Jvm.ClassFile.FieldType.int)) ∈ zG := zG_of 1085 (by decide +kernel) (by decide +kernel)
theorem wd_1094 : (Jvm.Cond.methodLink "SerialRecapsModel" (168 : Nat) ({ cls := "SerialRecapsModel", name := "recapOf", desc := "(III)I" } : Jvm.MethodName)) ∈ zG := zG_of 1094 (by decide +kernel) (by decide +kernel)
theorem wd_1096 : (Jvm.Cond.instanceMethod ({ cls := "SerialRecapsModel", name := "recapOf", desc := "(III)I" } : Jvm.MethodName)) ∈ zG := zG_of 1096 (by decide +kernel) (by decide +kernel)
theorem wd_1097 : (Jvm.Cond.code ({ cls := "SerialRecapsModel", name := "recapOf", desc := "(III)I" } : Jvm.MethodName) prog_9_method_62_code (6 : Nat) (Option.some Jvm.ClassFile.FieldType.int)) ∈ zG := zG_of 1097 (by decide +kernel) (by decide +kernel)
theorem wd_1102 : (Jvm.Cond.methodLink "SerialRecapsModel" (172 : Nat) ({ cls := "SerialRecapsModel", name := "easiestOf", desc := "(I)I" } : Jvm.MethodName)) ∈ zG := zG_of 1102 (by decide +kernel) (by decide +kernel)
theorem wd_1104 : (Jvm.Cond.instanceMethod ({ cls := "SerialRecapsModel", name := "easiestOf", desc := "(I)I" } : Jvm.MethodName)) ∈ zG := zG_of 1104 (by decide +kernel) (by decide +kernel)
theorem wd_1105 : (Jvm.Cond.code ({ cls := "SerialRecapsModel", name := "easiestOf", desc := "(I)I" } : Jvm.MethodName) prog_9_method_64_code (9 : Nat) (Option.some Jvm.ClassFile.FieldType.int)) ∈ zG := zG_of 1105 (by decide +kernel) (by decide +kernel)
theorem wd_1110 : (Jvm.Cond.methodLink "SerialRecapsModel" (175 : Nat) ({ cls := "SerialRecapsModel", name := "enoughOf", desc := "(I)I" } : Jvm.MethodName)) ∈ zG := zG_of 1110 (by decide +kernel) (by decide +kernel)
theorem wd_1112 : (Jvm.Cond.instanceMethod ({ cls := "SerialRecapsModel", name := "enoughOf", desc := "(I)I" } : Jvm.MethodName)) ∈ zG := zG_of 1112 (by decide +kernel) (by decide +kernel)
theorem wd_1113 : (Jvm.Cond.code ({ cls := "SerialRecapsModel", name := "enoughOf", desc := "(I)I" } : Jvm.MethodName) prog_9_method_66_code (5 : Nat) (Option.some Jvm.ClassFile.FieldType.int)) ∈ zG := zG_of 1113 (by decide +kernel) (by decide +kernel)
theorem wd_1118 : (Jvm.Cond.methodLink "SerialRecapsModel" (178 : Nat) ({ cls := "SerialRecapsModel", name := "share", desc := "()D" } : Jvm.MethodName)) ∈ zG := zG_of 1118 (by decide +kernel) (by decide +kernel)
theorem wd_1120 : (Jvm.Cond.instanceMethod ({ cls := "SerialRecapsModel", name := "share", desc := "()D" } : Jvm.MethodName)) ∈ zG := zG_of 1120 (by decide +kernel) (by decide +kernel)
theorem wd_1121 : (Jvm.Cond.code ({ cls := "SerialRecapsModel", name := "share", desc := "()D" } : Jvm.MethodName) prog_9_method_68_code (3 : Nat) (Option.some Jvm.ClassFile.FieldType.double)) ∈ zG := zG_of 1121 (by decide +kernel) (by decide +kernel)
theorem wd_1126 : (Jvm.Cond.constantLong "SerialRecapsModel" (192 : Nat) (2803 : Int64)) ∈ zG := zG_of 1126 (by decide +kernel) (by decide +kernel)
theorem wd_1127 : (Jvm.Cond.methodLink "SerialRecapsModel" (188 : Nat) ({ cls := "SerialRecapsModel", name := "mixes", desc := "(J)V" } : Jvm.MethodName)) ∈ zG := zG_of 1127 (by decide +kernel) (by decide +kernel)
theorem wd_1129 : (Jvm.Cond.instanceMethod ({ cls := "SerialRecapsModel", name := "mixes", desc := "(J)V" } : Jvm.MethodName)) ∈ zG := zG_of 1129 (by decide +kernel) (by decide +kernel)
theorem wd_1130 : (Jvm.Cond.code ({ cls := "SerialRecapsModel", name := "mixes", desc := "(J)V" } : Jvm.MethodName) prog_9_method_70_code (3 : Nat) (Option.none : Option Jvm.ClassFile.FieldType)) ∈ zG := zG_of 1130 (by decide +kernel) (by decide +kernel)
theorem wd_1131 : (Jvm.Cond.constantLong "SerialRecapsModel" (182 : Nat) (31 : Int64)) ∈ zG := zG_of 1131 (by decide +kernel) (by decide +kernel)
theorem wd_1132 : (Jvm.Cond.methodLink "SerialRecapsModel" (194 : Nat) ({ cls := "SerialRecapsModel", name := "mixesReader", desc := "(I)V" } : Jvm.MethodName)) ∈ zG := zG_of 1132 (by decide +kernel) (by decide +kernel)
theorem wd_1134 : (Jvm.Cond.instanceMethod ({ cls := "SerialRecapsModel", name := "mixesReader", desc := "(I)V" } : Jvm.MethodName)) ∈ zG := zG_of 1134 (by decide +kernel) (by decide +kernel)
theorem wd_1135 : (Jvm.Cond.code ({ cls := "SerialRecapsModel", name := "mixesReader", desc := "(I)V" } : Jvm.MethodName) prog_9_method_71_code (3 : Nat) (Option.none : Option Jvm.ClassFile.FieldType)) ∈ zG := zG_of 1135 (by decide +kernel) (by decide +kernel)
theorem wd_1136 : (Jvm.Cond.methodLink "SerialRecapsModel" (198 : Nat) ({ cls := "java/lang/Double", name := "doubleToLongBits", desc := "(D)J" } : Jvm.MethodName)) ∈ zG := zG_of 1136 (by decide +kernel) (by decide +kernel)
theorem wd_1137 : (Jvm.Cond.static ({ cls := "java/lang/Double", name := "doubleToLongBits", desc := "(D)J" } : Jvm.MethodName)) ∈ zG := zG_of 1137 (by decide +kernel) (by decide +kernel)
theorem wd_1138 : (Jvm.Cond.code ({ cls := "java/lang/Double", name := "doubleToLongBits", desc := "(D)J" } : Jvm.MethodName) prog_10_method_23_code (2 : Nat) (Option.some Jvm.ClassFile.FieldType.long)) ∈ zG := zG_of 1138 (by decide +kernel) (by decide +kernel)
theorem wd_1139 : (Jvm.Cond.methodLink "java/lang/Double" (122 : Nat) ({ cls := "java/lang/Double", name := "isNaN", desc := "(D)Z" } : Jvm.MethodName)) ∈ zG := zG_of 1139 (by decide +kernel) (by decide +kernel)
theorem wd_1140 : (Jvm.Cond.static ({ cls := "java/lang/Double", name := "isNaN", desc := "(D)Z" } : Jvm.MethodName)) ∈ zG := zG_of 1140 (by decide +kernel) (by decide +kernel)
theorem wd_1141 : (Jvm.Cond.code ({ cls := "java/lang/Double", name := "isNaN", desc := "(D)Z" } : Jvm.MethodName) prog_10_method_6_code (2 : Nat) (Option.some Jvm.ClassFile.FieldType.boolean)) ∈ zG := zG_of 1141 (by decide +kernel) (by decide +kernel)
theorem wd_1142 : (Jvm.Cond.methodLink "java/lang/Double" (134 : Nat) ({ cls := "java/lang/Double", name := "doubleToRawLongBits", desc := "(D)J" } : Jvm.MethodName)) ∈ zG := zG_of 1142 (by decide +kernel) (by decide +kernel)
theorem wd_1143 : (Jvm.Cond.static ({ cls := "java/lang/Double", name := "doubleToRawLongBits", desc := "(D)J" } : Jvm.MethodName)) ∈ zG := zG_of 1143 (by decide +kernel) (by decide +kernel)
theorem wd_1144 : (Jvm.Cond.native ({ cls := "java/lang/Double", name := "doubleToRawLongBits", desc := "(D)J" } : Jvm.MethodName)) ∈ zG := zG_of 1144 (by decide +kernel) (by decide +kernel)
theorem wd_1145 : (Jvm.Cond.constantLong "java/lang/Double" (137 : Nat) (9221120237041090560 : Int64)) ∈ zG := zG_of 1145 (by decide +kernel) (by decide +kernel)
theorem kb_10 : (Int8.ofInt 10).toInt32 = 10 := by decide
theorem kb_119 : (Int8.ofInt 119).toInt32 = 119 := by decide
theorem kb_126 : (Int8.ofInt 126).toInt32 = 126 := by decide
theorem kb_16 : (Int8.ofInt 16).toInt32 = 16 := by decide
theorem kb_19 : (Int8.ofInt 19).toInt32 = 19 := by decide
theorem kb_20 : (Int8.ofInt 20).toInt32 = 20 := by decide
theorem kb_24 : (Int8.ofInt 24).toInt32 = 24 := by decide
theorem kb_33 : (Int8.ofInt 33).toInt32 = 33 := by decide
theorem kb_48 : (Int8.ofInt 48).toInt32 = 48 := by decide
theorem kb_49 : (Int8.ofInt 49).toInt32 = 49 := by decide
theorem kb_52 : (Int8.ofInt 52).toInt32 = 52 := by decide
theorem kb_53 : (Int8.ofInt 53).toInt32 = 53 := by decide
theorem kb_57 : (Int8.ofInt 57).toInt32 = 57 := by decide
theorem kb_59 : (Int8.ofInt 59).toInt32 = 59 := by decide
theorem kb_6 : (Int8.ofInt 6).toInt32 = 6 := by decide
theorem kb_60 : (Int8.ofInt 60).toInt32 = 60 := by decide
theorem kb_63 : (Int8.ofInt 63).toInt32 = 63 := by decide
theorem kb_65 : (Int8.ofInt 65).toInt32 = 65 := by decide
theorem kb_7 : (Int8.ofInt 7).toInt32 = 7 := by decide
theorem kb_8 : (Int8.ofInt 8).toInt32 = 8 := by decide
theorem kb_83 : (Int8.ofInt 83).toInt32 = 83 := by decide
theorem kb_96 : (Int8.ofInt 96).toInt32 = 96 := by decide
theorem kb_99 : (Int8.ofInt 99).toInt32 = 99 := by decide
theorem kb_m2 : (Int8.ofInt (-2)).toInt32 = (-2) := by decide
theorem kh_1015 : (Int16.ofInt 1015).toInt32 = 1015 := by decide
theorem kh_1218 : (Int16.ofInt 1218).toInt32 = 1218 := by decide
theorem kh_203 : (Int16.ofInt 203).toInt32 = 203 := by decide
theorem ki_0 : Int32.ofInt 0 = 0 := by decide
theorem ki_1 : Int32.ofInt 1 = 1 := by decide
theorem ki_2 : Int32.ofInt 2 = 2 := by decide
theorem ki_3 : Int32.ofInt 3 = 3 := by decide
theorem ki_4 : Int32.ofInt 4 = 4 := by decide
theorem ki_5 : Int32.ofInt 5 = 5 := by decide
theorem ki_m1 : Int32.ofInt (-1) = (-1) := by decide
theorem kl_0 : Int64.ofInt 0 = 0 := by decide
theorem kl_1 : Int64.ofInt 1 = 1 := by decide
theorem ok_J6_bitCount_0f7a4 : zOK yJ6_bitCount_0f7a4 1 := by unfold zOK; decide +kernel
theorem ok_Jxe99ae_doubleToLongBits_ccdee : zOK yJxe99ae_doubleToLongBits_ccdee 1 := by unfold zOK; decide +kernel
theorem ok_Jxe99ae_isNaN_b9ae7 : zOK yJxe99ae_isNaN_b9ae7 1 := by unfold zOK; decide +kernel
theorem ok_X0_copyFrom : zOK yX0_copyFrom 1 := by unfold zOK; decide +kernel
theorem ok_X0_dropPart : zOK yX0_dropPart 1 := by unfold zOK; decide +kernel
theorem ok_X0_dropTold : zOK yX0_dropTold 1 := by unfold zOK; decide +kernel
theorem ok_X0_hasRead : zOK yX0_hasRead 2 := by unfold zOK; decide +kernel
theorem ok_X0_howManyKnowAll : zOK yX0_howManyKnowAll 1 := by unfold zOK; decide +kernel
theorem ok_X0_init : zOK yX0_init 0 := by unfold zOK; decide +kernel
theorem ok_X0_knowledge : zOK yX0_knowledge 2 := by unfold zOK; decide +kernel
theorem ok_X0_known : zOK yX0_known 1 := by unfold zOK; decide +kernel
theorem ok_X0_sumOfRead : zOK yX0_sumOfRead 0 := by unfold zOK; decide +kernel
theorem ok_X0_sumOfWordsRead : zOK yX0_sumOfWordsRead 0 := by unfold zOK; decide +kernel
theorem ok_X0_takeIn : zOK yX0_takeIn 3 := by unfold zOK; decide +kernel
theorem ok_X0_whoRead : zOK yX0_whoRead 1 := by unfold zOK; decide +kernel
theorem ok_X1_init : zOK yX1_init 0 := by unfold zOK; decide +kernel
theorem ok_X1_mayEnd : zOK yX1_mayEnd 0 := by unfold zOK; decide +kernel
theorem ok_X1_restart : zOK yX1_restart 0 := by unfold zOK; decide +kernel
theorem ok_X1_takes : zOK yX1_takes 1 := by unfold zOK; decide +kernel
theorem ok_X1_takesCliff : zOK yX1_takesCliff 1 := by unfold zOK; decide +kernel
theorem ok_X1_takesDigit : zOK yX1_takesDigit 3 := by unfold zOK; decide +kernel
theorem ok_X1_takesEnd : zOK yX1_takesEnd 1 := by unfold zOK; decide +kernel
theorem ok_X1_takesPlot : zOK yX1_takesPlot 1 := by unfold zOK; decide +kernel
theorem ok_X1_takesSign : zOK yX1_takesSign 3 := by unfold zOK; decide +kernel
theorem ok_X2_dropLatest : zOK yX2_dropLatest 0 := by unfold zOK; decide +kernel
theorem ok_X2_init : zOK yX2_init 0 := by unfold zOK; decide +kernel
theorem ok_X2_keep : zOK yX2_keep 1 := by unfold zOK; decide +kernel
theorem ok_X2_latest : zOK yX2_latest 0 := by unfold zOK; decide +kernel
theorem ok_X3_bestPart : zOK yX3_bestPart 1 := by unfold zOK; decide +kernel
theorem ok_X3_copyFrom : zOK yX3_copyFrom 1 := by unfold zOK; decide +kernel
theorem ok_X3_deliver : zOK yX3_deliver 2 := by unfold zOK; decide +kernel
theorem ok_X3_deliverToAll : zOK yX3_deliverToAll 2 := by unfold zOK; decide +kernel
theorem ok_X3_deliverUnread : zOK yX3_deliverUnread 1 := by unfold zOK; decide +kernel
theorem ok_X3_howManyHang : zOK yX3_howManyHang 1 := by unfold zOK; decide +kernel
theorem ok_X3_init : zOK yX3_init 0 := by unfold zOK; decide +kernel
theorem ok_X3_lineWords : zOK yX3_lineWords 1 := by unfold zOK; decide +kernel
theorem ok_X3_linesForAll : zOK yX3_linesForAll 1 := by unfold zOK; decide +kernel
theorem ok_X3_missedParts : zOK yX3_missedParts 2 := by unfold zOK; decide +kernel
theorem ok_X3_ofAll : zOK yX3_ofAll 1 := by unfold zOK; decide +kernel
theorem ok_X3_ofPart : zOK yX3_ofPart 2 := by unfold zOK; decide +kernel
theorem ok_X3_ofPlot : zOK yX3_ofPlot 2 := by unfold zOK; decide +kernel
theorem ok_X3_ofReader : zOK yX3_ofReader 2 := by unfold zOK; decide +kernel
theorem ok_X3_ofRecap : zOK yX3_ofRecap 3 := by unfold zOK; decide +kernel
theorem ok_X3_shareRead : zOK yX3_shareRead 0 := by unfold zOK; decide +kernel
theorem ok_X3_shortened : zOK yX3_shortened 1 := by unfold zOK; decide +kernel
theorem ok_X3_toldParts : zOK yX3_toldParts 1 := by unfold zOK; decide +kernel
theorem ok_X4_allNeeds : zOK yX4_allNeeds 2 := by unfold zOK; decide +kernel
theorem ok_X4_copyFrom : zOK yX4_copyFrom 1 := by unfold zOK; decide +kernel
theorem ok_X4_everyPart : zOK yX4_everyPart 0 := by unfold zOK; decide +kernel
theorem ok_X4_findNeeds : zOK yX4_findNeeds 1 := by unfold zOK; decide +kernel
theorem ok_X4_howManyCliffs : zOK yX4_howManyCliffs 1 := by unfold zOK; decide +kernel
theorem ok_X4_howManyGoOnWith : zOK yX4_howManyGoOnWith 1 := by unfold zOK; decide +kernel
theorem ok_X4_howManyNeed : zOK yX4_howManyNeed 1 := by unfold zOK; decide +kernel
theorem ok_X4_init : zOK yX4_init 0 := by unfold zOK; decide +kernel
theorem ok_X4_latestWith : zOK yX4_latestWith 1 := by unfold zOK; decide +kernel
theorem ok_X4_openCliffs : zOK yX4_openCliffs 1 := by unfold zOK; decide +kernel
theorem ok_X4_put : zOK yX4_put 3 := by unfold zOK; decide +kernel
theorem ok_X4_rewrite : zOK yX4_rewrite 3 := by unfold zOK; decide +kernel
theorem ok_X4_sumOfWords : zOK yX4_sumOfWords 0 := by unfold zOK; decide +kernel
theorem ok_X5_completeParts : zOK yX5_completeParts 0 := by unfold zOK; decide +kernel
theorem ok_X5_init : zOK yX5_init 0 := by unfold zOK; decide +kernel
theorem ok_X5_isComplete : zOK yX5_isComplete 0 := by unfold zOK; decide +kernel
theorem ok_X5_put : zOK yX5_put 1 := by unfold zOK; decide +kernel
theorem ok_X5_readUntilError : zOK yX5_readUntilError 0 := by unfold zOK; decide +kernel
theorem ok_X5_tellTo : zOK yX5_tellTo 1 := by unfold zOK; decide +kernel
theorem ok_X6_add : zOK yX6_add 3 := by unfold zOK; decide +kernel
theorem ok_X6_addAll : zOK yX6_addAll 0 := by unfold zOK; decide +kernel
theorem ok_X6_append : zOK yX6_append 1 := by unfold zOK; decide +kernel
theorem ok_X6_bitsOfShare : zOK yX6_bitsOfShare 1 := by unfold zOK; decide +kernel
theorem ok_X6_catchUp : zOK yX6_catchUp 1 := by unfold zOK; decide +kernel
theorem ok_X6_change : zOK yX6_change 3 := by unfold zOK; decide +kernel
theorem ok_X6_checkPart : zOK yX6_checkPart 1 := by unfold zOK; decide +kernel
theorem ok_X6_checkPlots : zOK yX6_checkPlots 2 := by unfold zOK; decide +kernel
theorem ok_X6_checkReader : zOK yX6_checkReader 1 := by unfold zOK; decide +kernel
theorem ok_X6_checkSetting : zOK yX6_checkSetting 1 := by unfold zOK; decide +kernel
theorem ok_X6_checkWhat : zOK yX6_checkWhat 2 := by unfold zOK; decide +kernel
theorem ok_X6_count : zOK yX6_count 1 := by unfold zOK; decide +kernel
theorem ok_X6_easiest : zOK yX6_easiest 1 := by unfold zOK; decide +kernel
theorem ok_X6_enough : zOK yX6_enough 1 := by unfold zOK; decide +kernel
theorem ok_X6_forget : zOK yX6_forget 1 := by unfold zOK; decide +kernel
theorem ok_X6_init : zOK yX6_init 0 := by unfold zOK; decide +kernel
theorem ok_X6_isIn : zOK yX6_isIn 2 := by unfold zOK; decide +kernel
theorem ok_X6_knows : zOK yX6_knows 2 := by unfold zOK; decide +kernel
theorem ok_X6_mail : zOK yX6_mail 2 := by unfold zOK; decide +kernel
theorem ok_X6_mailAll : zOK yX6_mailAll 2 := by unfold zOK; decide +kernel
theorem ok_X6_mix : zOK yX6_mix 2 := by unfold zOK; decide +kernel
theorem ok_X6_mixParts : zOK yX6_mixParts 1 := by unfold zOK; decide +kernel
theorem ok_X6_mixPlots : zOK yX6_mixPlots 1 := by unfold zOK; decide +kernel
theorem ok_X6_mixReader : zOK yX6_mixReader 2 := by unfold zOK; decide +kernel
theorem ok_X6_mixText : zOK yX6_mixText 1 := by unfold zOK; decide +kernel
theorem ok_X6_part : zOK yX6_part 2 := by unfold zOK; decide +kernel
theorem ok_X6_plot : zOK yX6_plot 2 := by unfold zOK; decide +kernel
theorem ok_X6_reader : zOK yX6_reader 2 := by unfold zOK; decide +kernel
theorem ok_X6_recap : zOK yX6_recap 3 := by unfold zOK; decide +kernel
theorem ok_X6_removeLast : zOK yX6_removeLast 0 := by unfold zOK; decide +kernel
theorem ok_X6_set : zOK yX6_set 2 := by unfold zOK; decide +kernel
theorem ok_X6_setting : zOK yX6_setting 1 := by unfold zOK; decide +kernel
theorem ok_X6_total : zOK yX6_total 1 := by unfold zOK; decide +kernel
theorem ok_X6_undo : zOK yX6_undo 0 := by unfold zOK; decide +kernel
theorem ok_X7_adds : zOK yX7_adds 3 := by unfold zOK; decide +kernel
theorem ok_X7_allWords : zOK yX7_allWords 0 := by unfold zOK; decide +kernel
theorem ok_X7_counted : zOK yX7_counted 1 := by unfold zOK; decide +kernel
theorem ok_X7_easiestOf : zOK yX7_easiestOf 1 := by unfold zOK; decide +kernel
theorem ok_X7_enoughOf : zOK yX7_enoughOf 1 := by unfold zOK; decide +kernel
theorem ok_X7_goesOn : zOK yX7_goesOn 2 := by unfold zOK; decide +kernel
theorem ok_X7_grows : zOK yX7_grows 3 := by unfold zOK; decide +kernel
theorem ok_X7_in : zOK yX7_in 3 := by unfold zOK; decide +kernel
theorem ok_X7_init : zOK yX7_init 0 := by unfold zOK; decide +kernel
theorem ok_X7_isCliff : zOK yX7_isCliff 2 := by unfold zOK; decide +kernel
theorem ok_X7_isPart : zOK yX7_isPart 1 := by unfold zOK; decide +kernel
theorem ok_X7_isReader : zOK yX7_isReader 1 := by unfold zOK; decide +kernel
theorem ok_X7_isText : zOK yX7_isText 0 := by unfold zOK; decide +kernel
theorem ok_X7_knowAll : zOK yX7_knowAll 0 := by unfold zOK; decide +kernel
theorem ok_X7_known : zOK yX7_known 2 := by unfold zOK; decide +kernel
theorem ok_X7_learns : zOK yX7_learns 3 := by unfold zOK; decide +kernel
theorem ok_X7_manyKnown : zOK yX7_manyKnown 2 := by unfold zOK; decide +kernel
theorem ok_X7_missed : zOK yX7_missed 2 := by unfold zOK; decide +kernel
theorem ok_X7_mixes : zOK yX7_mixes 1 := by unfold zOK; decide +kernel
theorem ok_X7_mixesReader : zOK yX7_mixesReader 1 := by unfold zOK; decide +kernel
theorem ok_X7_needing : zOK yX7_needing 1 := by unfold zOK; decide +kernel
theorem ok_X7_needs : zOK yX7_needs 1 := by unfold zOK; decide +kernel
theorem ok_X7_needsAmong : zOK yX7_needsAmong 2 := by unfold zOK; decide +kernel
theorem ok_X7_of : zOK yX7_of 2 := by unfold zOK; decide +kernel
theorem ok_X7_ofParts : zOK yX7_ofParts 2 := by unfold zOK; decide +kernel
theorem ok_X7_ones : zOK yX7_ones 1 := by unfold zOK; decide +kernel
theorem ok_X7_open : zOK yX7_open 1 := by unfold zOK; decide +kernel
theorem ok_X7_openTo : zOK yX7_openTo 1 := by unfold zOK; decide +kernel
theorem ok_X7_partOf : zOK yX7_partOf 2 := by unfold zOK; decide +kernel
theorem ok_X7_plotOf : zOK yX7_plotOf 2 := by unfold zOK; decide +kernel
theorem ok_X7_reaches : zOK yX7_reaches 2 := by unfold zOK; decide +kernel
theorem ok_X7_readerOf : zOK yX7_readerOf 2 := by unfold zOK; decide +kernel
theorem ok_X7_readersOf : zOK yX7_readersOf 1 := by unfold zOK; decide +kernel
theorem ok_X7_readsCliff : zOK yX7_readsCliff 1 := by unfold zOK; decide +kernel
theorem ok_X7_readsPart : zOK yX7_readsPart 0 := by unfold zOK; decide +kernel
theorem ok_X7_readsPlots : zOK yX7_readsPlots 0 := by unfold zOK; decide +kernel
theorem ok_X7_readsWords : zOK yX7_readsWords 0 := by unfold zOK; decide +kernel
theorem ok_X7_recapOf : zOK yX7_recapOf 3 := by unfold zOK; decide +kernel
theorem ok_X7_refuses : zOK yX7_refuses 1 := by unfold zOK; decide +kernel
theorem ok_X7_saves : zOK yX7_saves 0 := by unfold zOK; decide +kernel
theorem ok_X7_sees : zOK yX7_sees 2 := by unfold zOK; decide +kernel
theorem ok_X7_share : zOK yX7_share 0 := by unfold zOK; decide +kernel
theorem ok_X7_takes : zOK yX7_takes 1 := by unfold zOK; decide +kernel
theorem ok_X7_told : zOK yX7_told 1 := by unfold zOK; decide +kernel
theorem ok_X7_unknown : zOK yX7_unknown 1 := by unfold zOK; decide +kernel
theorem ok_X7_wordsOf : zOK yX7_wordsOf 1 := by unfold zOK; decide +kernel
theorem ok_X7_wordsRead : zOK yX7_wordsRead 0 := by unfold zOK; decide +kernel
theorem inG_X0 : ∀ w ∈ u_ws RX0 TX0 5, w ∈ zG := by decide +kernel
def wX0 (Δ : zE) (ad : Nat → Nat) (told : Nat → Int32) (rea : Nat → Int32) (wread : Nat → Int32) (ltold : Nat → Int32) (lout : Nat → Int32) : va_W := [(ad 0, .inr (0, [.ref (ad 1), .ref (ad 2), .ref (ad 3), .ref (ad 4), .ref (ad 5)])), (ad 1, .inl (Δ.2.1, 6, .inl told)), (ad 2, .inl (Δ.2.1, 6, .inl rea)), (ad 3, .inl (Δ.2.1, 6, .inl wread)), (ad 4, .inl (Δ.2.1, 6, .inl ltold)), (ad 5, .inl (Δ.2.1, 6, .inl lout))]
theorem inG_X1 : ∀ w ∈ u_ws RX1 TX1 4, w ∈ zG := by decide +kernel
def wX1 (Δ : zE) (ad : Nat → Nat) (gpl : Int32) (gps : Int32) (gcl : Int32) (gwo : Int32) : va_W := [(ad 0, .inr (1, [.int gpl, .int gps, .int gcl, .int gwo]))]
theorem inG_X2 : ∀ w ∈ u_ws RX2 TX2 3, w ∈ zG := by decide +kernel
def wX2 (Δ : zE) (ad : Nat → Nat) (oldest : Int32) (kept : Int32) (rows : Nat → Option Nat) : va_W := [(ad 0, .inr (2, [.ref (ad 1), .int oldest, .int kept])), (ad 1, .inl (Δ.2.2.2.2, 6, .inr (.inr (.inr (.inr rows)))))]
theorem inG_X3 : ∀ w ∈ u_ws RX3 TX3 5, w ∈ zG := by decide +kernel
def wX3 (Δ : zE) (ad : Nat → Nat) (reached : Int32) (lost : Int32) (size : Int32) (plots : Nat → Int32) (cliffs : Nat → Int32) (words : Nat → Int32) (needs : Nat → Int32) (told : Nat → Int32) (rea : Nat → Int32) (wread : Nat → Int32) (ltold : Nat → Int32) (lout : Nat → Int32) (sets : Nat → Int32) : va_W := [(ad 0, .inr (3, [.ref (ad 1), .ref (ad 6), .ref (ad 12), .int reached, .int lost])), (ad 1, .inr (4, [.int size, .ref (ad 2), .ref (ad 3), .ref (ad 4), .ref (ad 5)])), (ad 2, .inl (Δ.2.1, 20, .inl plots)), (ad 3, .inl (Δ.2.1, 20, .inl cliffs)), (ad 4, .inl (Δ.2.1, 20, .inl words)), (ad 5, .inl (Δ.2.1, 20, .inl needs)), (ad 6, .inr (0, [.ref (ad 7), .ref (ad 8), .ref (ad 9), .ref (ad 10), .ref (ad 11)])), (ad 7, .inl (Δ.2.1, 6, .inl told)), (ad 8, .inl (Δ.2.1, 6, .inl rea)), (ad 9, .inl (Δ.2.1, 6, .inl wread)), (ad 10, .inl (Δ.2.1, 6, .inl ltold)), (ad 11, .inl (Δ.2.1, 6, .inl lout)), (ad 12, .inl (Δ.2.1, 2, .inl sets))]
theorem inG_X4 : ∀ w ∈ u_ws RX4 TX4 5, w ∈ zG := by decide +kernel
def wX4 (Δ : zE) (ad : Nat → Nat) (size : Int32) (plots : Nat → Int32) (cliffs : Nat → Int32) (words : Nat → Int32) (needs : Nat → Int32) : va_W := [(ad 0, .inr (4, [.int size, .ref (ad 1), .ref (ad 2), .ref (ad 3), .ref (ad 4)])), (ad 1, .inl (Δ.2.1, 20, .inl plots)), (ad 2, .inl (Δ.2.1, 20, .inl cliffs)), (ad 3, .inl (Δ.2.1, 20, .inl words)), (ad 4, .inl (Δ.2.1, 20, .inl needs))]
theorem inG_X5 : ∀ w ∈ u_ws RX5 TX5 3, w ∈ zG := by decide +kernel
def wX5 (Δ : zE) (ad : Nat → Nat) (len : Int32) (codes : Nat → Int32) (gpl : Int32) (gps : Int32) (gcl : Int32) (gwo : Int32) : va_W := [(ad 0, .inr (5, [.ref (ad 1), .int len, .ref (ad 2)])), (ad 1, .inl (Δ.2.1, 60, .inl codes)), (ad 2, .inr (1, [.int gpl, .int gps, .int gcl, .int gwo]))]
theorem inG_X6 : ∀ w ∈ u_ws RX6 TX6 3, w ∈ zG := by decide +kernel
def wX6 (Δ : zE) (ad : Nat → Nat) (reached : Int32) (lost : Int32) (size : Int32) (plots : Nat → Int32) (cliffs : Nat → Int32) (words : Nat → Int32) (needs : Nat → Int32) (told : Nat → Int32) (rea : Nat → Int32) (wread : Nat → Int32) (ltold : Nat → Int32) (lout : Nat → Int32) (sets : Nat → Int32) (oldest : Int32) (kept : Int32) (rows : Nat → Option Nat) (len : Int32) (codes : Nat → Int32) (gpl : Int32) (gps : Int32) (gcl : Int32) (gwo : Int32) : va_W := [(ad 0, .inr (6, [.ref (ad 1), .ref (ad 14), .ref (ad 16)])), (ad 1, .inr (3, [.ref (ad 2), .ref (ad 7), .ref (ad 13), .int reached, .int lost])), (ad 2, .inr (4, [.int size, .ref (ad 3), .ref (ad 4), .ref (ad 5), .ref (ad 6)])), (ad 3, .inl (Δ.2.1, 20, .inl plots)), (ad 4, .inl (Δ.2.1, 20, .inl cliffs)), (ad 5, .inl (Δ.2.1, 20, .inl words)), (ad 6, .inl (Δ.2.1, 20, .inl needs)), (ad 7, .inr (0, [.ref (ad 8), .ref (ad 9), .ref (ad 10), .ref (ad 11), .ref (ad 12)])), (ad 8, .inl (Δ.2.1, 6, .inl told)), (ad 9, .inl (Δ.2.1, 6, .inl rea)), (ad 10, .inl (Δ.2.1, 6, .inl wread)), (ad 11, .inl (Δ.2.1, 6, .inl ltold)), (ad 12, .inl (Δ.2.1, 6, .inl lout)), (ad 13, .inl (Δ.2.1, 2, .inl sets)), (ad 14, .inr (2, [.ref (ad 15), .int oldest, .int kept])), (ad 15, .inl (Δ.2.2.2.2, 6, .inr (.inr (.inr (.inr rows))))), (ad 16, .inr (5, [.ref (ad 17), .int len, .ref (ad 18)])), (ad 17, .inl (Δ.2.1, 60, .inl codes)), (ad 18, .inr (1, [.int gpl, .int gps, .int gcl, .int gwo]))]
theorem inG_X7 : ∀ w ∈ u_ws RX7 TX7 10, w ∈ zG := by decide +kernel
def wX7 (Δ : zE) (ad : Nat → Nat) (thr : Int32) (saved : Int32) (mlen : Int32) (spot : Int32) (reads : Int32) (hash : Int64) (ms : Nat → Int32) (mpast : Nat → Int32) (mtext : Nat → Int32) (mread : Nat → Int32) : va_W := [(ad 0, .inr (7, [.int thr, .ref (ad 1), .ref (ad 2), .int saved, .ref (ad 3), .int mlen, .int spot, .ref (ad 4), .int reads, .long hash])), (ad 1, .inl (Δ.2.1, 203, .inl ms)), (ad 2, .inl (Δ.2.1, 1218, .inl mpast)), (ad 3, .inl (Δ.2.2.1, 60, .inl mtext)), (ad 4, .inl (Δ.2.1, 96, .inl mread))]
theorem z_copyi {p : Program} {l : Launch} {e : Env} {R : Room} {s : State} {m : MethodId} {args : Array Value} {below : List Frame} {meth : Method} {c : Code} {H : Heap} {locs : List Loc} {cells slots : Nat} {Q : State → Prop} {Δ : zE} {y0 : MethodName} {cc : ByteArray} {nL : Nat} {rt : Option FieldType} {A : Nat → Prop} {ws w' : va_W} {pc : Nat} {ls : Array Slot} {rest : List Value} {lvs : List (Nat × Value)} {index : Nat}
    (X : zX Δ p s m args meth c y0 cc nL rt A) (Z : zW Δ A s.heap ws H locs) (hl : lv_has ls nL lvs) (h1 : Cond.methodLink y0.cls index arraycopyName ∈ zG) (h2 : Cond.native arraycopyName ∈ zG) (h3 : Cond.static arraycopyName ∈ zG) (h4 : Cond.initialized "java/lang/System" ∈ zG) (q0 q1 : Nat) {a a0 n0 n1 : Nat} {f g : Nat → Int32} (ha0 : ws[q0]? = some (a0, .inl (Δ.2.1, n0, .inl f))) (ha1 : ws[q1]? = some (a, .inl (Δ.2.1, n1, .inl g)))
    {sp dp n : Int32} (g1 : ¬ sp < 0) (g2 : ¬ dp < 0) (g3 : ¬ n < 0) (g4 : sp.toNatClampNeg + n.toNatClampNeg ≤ n0) (g5 : dp.toNatClampNeg + n.toNatClampNeg ≤ n1) (hframes : 1 ≤ R.frames) (hlocals : (rest.map fun v => v.category).sum + (nativeFrameWords "java/lang/System" "arraycopy" 5 + 11) ≤ R.locals) (hw : ws.set q1 (a, .inl (Δ.2.1, n1, .inl (va_cpy f g sp.toNatClampNeg dp.toNatClampNeg n.toNatClampNeg))) = w') (hdg : decode cc pc = .ok (.invokestatic index, 3))
    (kk : ∀ (H1 : Heap) (locs1 : List Loc), zW Δ A s.heap w' H1 locs1 → W p l e R s m args below meth c H1 locs1 cells slots Q (F0 m (pc + 3) ls rest)) : W p l e R s m args below meth c H locs cells slots Q (F0 m pc ls (.int n :: .int dp :: .ref a :: .int sp :: .ref a0 :: rest)) := by
  subst hw
  exact va_copyi X.x X.b (X.1.2.2.1.trans hl.1.symm) X.own (X.ts _ h1) (X.ts _ h2) (X.ts _ h3) (X.ts _ h4) X.K.1 Z.1 Z.2.1 Z.2.2 q0 q1 0 0 ha0 ha1 rfl rfl rfl g1 g2 g3 g4 g5 (fun _ _ => rfl) hframes hlocals hdg (fun H1 locs1 a b d => kk H1 locs1 ⟨a, b, d⟩)
theorem xg_38 : ∀ w ∈ (vx_atS "SerialRecaps" 38 "java/lang/IllegalArgumentException" zNm).filter goodWord, w ∈ zG := by decide +kernel
theorem xn_38 : ∀ w ∈ (vx_atS "SerialRecaps" 38 "java/lang/IllegalArgumentException" zNm).filter (fun w => !goodWord w), w ∈ zNw := by decide +kernel
theorem xo_34_38 : ∀ w ∈ Cond.classLink "SerialRecaps" 34 "java/lang/IllegalArgumentException" :: Cond.initialized "java/lang/IllegalArgumentException" :: vx_atS "SerialRecaps" 38 "java/lang/IllegalArgumentException" zNm, vx_ot w = true := by decide +kernel
theorem xg_55 : ∀ w ∈ (vx_atS "SerialRecaps" 55 "java/lang/IllegalStateException" zNm).filter goodWord, w ∈ zG := by decide +kernel
theorem xn_55 : ∀ w ∈ (vx_atS "SerialRecaps" 55 "java/lang/IllegalStateException" zNm).filter (fun w => !goodWord w), w ∈ zNw := by decide +kernel
theorem xo_51_55 : ∀ w ∈ Cond.classLink "SerialRecaps" 51 "java/lang/IllegalStateException" :: Cond.initialized "java/lang/IllegalStateException" :: vx_atS "SerialRecaps" 55 "java/lang/IllegalStateException" zNm, vx_ot w = true := by decide +kernel
theorem xg_184 : ∀ w ∈ (vx_atS "SerialRecaps" 184 "java/lang/IndexOutOfBoundsException" zNm).filter goodWord, w ∈ zG := by decide +kernel
theorem xn_184 : ∀ w ∈ (vx_atS "SerialRecaps" 184 "java/lang/IndexOutOfBoundsException" zNm).filter (fun w => !goodWord w), w ∈ zNw := by decide +kernel
theorem xo_180_184 : ∀ w ∈ Cond.classLink "SerialRecaps" 180 "java/lang/IndexOutOfBoundsException" :: Cond.initialized "java/lang/IndexOutOfBoundsException" :: vx_atS "SerialRecaps" 184 "java/lang/IndexOutOfBoundsException" zNm, vx_ot w = true := by decide +kernel
def zxb {α β : Type} (x : Option (String ⊕ α)) (f : α → Option (String ⊕ β)) : Option (String ⊕ β) := match x with
  | none => none
  | some (.inl E) => some (.inl E)
  | some (.inr a) => f a
theorem zxb_ok {α β : Type} {x : Option (String ⊕ α)} {f : α → Option (String ⊕ β)} {r : String ⊕ β} (h : zxb x f = some r) : (∃ E, x = some (.inl E) ∧ r = .inl E) ∨ (∃ a, x = some (.inr a) ∧ f a = some r) := by
  match x, h with
  | some (.inl E), h => exact Or.inl ⟨E, rfl, (Option.some.inj h).symm⟩
  | some (.inr a), h => exact Or.inr ⟨a, rfl, h⟩
