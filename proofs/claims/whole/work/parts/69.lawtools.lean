theorem ok_L_add : zOK yL_add 5 := by unfold zOK; decide +kernel
theorem ok_L_addAll : zOK yL_addAll 2 := by unfold zOK; decide +kernel
theorem ok_L_append : zOK yL_append 3 := by unfold zOK; decide +kernel
theorem ok_L_catchUp : zOK yL_catchUp 3 := by unfold zOK; decide +kernel
theorem ok_L_change : zOK yL_change 5 := by unfold zOK; decide +kernel
theorem ok_L_count : zOK yL_count 3 := by unfold zOK; decide +kernel
theorem ok_L_easiest : zOK yL_easiest 3 := by unfold zOK; decide +kernel
theorem ok_L_enough : zOK yL_enough 3 := by unfold zOK; decide +kernel
theorem ok_L_forget : zOK yL_forget 3 := by unfold zOK; decide +kernel
theorem ok_L_knows : zOK yL_knows 4 := by unfold zOK; decide +kernel
theorem ok_L_mail : zOK yL_mail 4 := by unfold zOK; decide +kernel
theorem ok_L_mailAll : zOK yL_mailAll 4 := by unfold zOK; decide +kernel
theorem ok_L_part : zOK yL_part 4 := by unfold zOK; decide +kernel
theorem ok_L_plot : zOK yL_plot 4 := by unfold zOK; decide +kernel
theorem ok_L_reader : zOK yL_reader 4 := by unfold zOK; decide +kernel
theorem ok_L_recap : zOK yL_recap 5 := by unfold zOK; decide +kernel
theorem ok_L_removeLast : zOK yL_removeLast 2 := by unfold zOK; decide +kernel
theorem ok_L_set : zOK yL_set 4 := by unfold zOK; decide +kernel
theorem ok_L_setting : zOK yL_setting 3 := by unfold zOK; decide +kernel
theorem ok_L_undo : zOK yL_undo 2 := by unfold zOK; decide +kernel
theorem ok_X6_clearBuffer : zOK yX6_clearBuffer 0 := by unfold zOK; decide +kernel
theorem ok_X6_digest : zOK yX6_digest 0 := by unfold zOK; decide +kernel
theorem ok_X6_firstError : zOK yX6_firstError 0 := by unfold zOK; decide +kernel
theorem ok_X6_readShare : zOK yX6_readShare 0 := by unfold zOK; decide +kernel
theorem ok_X7_add : zOK yX7_add 3 := by unfold zOK; decide +kernel
theorem ok_X7_addAll : zOK yX7_addAll 0 := by unfold zOK; decide +kernel
theorem ok_X7_append : zOK yX7_append 1 := by unfold zOK; decide +kernel
theorem ok_X7_catchUp : zOK yX7_catchUp 1 := by unfold zOK; decide +kernel
theorem ok_X7_change : zOK yX7_change 3 := by unfold zOK; decide +kernel
theorem ok_X7_clearBuffer : zOK yX7_clearBuffer 0 := by unfold zOK; decide +kernel
theorem ok_X7_count : zOK yX7_count 1 := by unfold zOK; decide +kernel
theorem ok_X7_digest : zOK yX7_digest 0 := by unfold zOK; decide +kernel
theorem ok_X7_easiest : zOK yX7_easiest 1 := by unfold zOK; decide +kernel
theorem ok_X7_enough : zOK yX7_enough 1 := by unfold zOK; decide +kernel
theorem ok_X7_firstError : zOK yX7_firstError 0 := by unfold zOK; decide +kernel
theorem ok_X7_forget : zOK yX7_forget 1 := by unfold zOK; decide +kernel
theorem ok_X7_knows : zOK yX7_knows 2 := by unfold zOK; decide +kernel
theorem ok_X7_mail : zOK yX7_mail 2 := by unfold zOK; decide +kernel
theorem ok_X7_mailAll : zOK yX7_mailAll 2 := by unfold zOK; decide +kernel
theorem ok_X7_part : zOK yX7_part 2 := by unfold zOK; decide +kernel
theorem ok_X7_plot : zOK yX7_plot 2 := by unfold zOK; decide +kernel
theorem ok_X7_readShare : zOK yX7_readShare 0 := by unfold zOK; decide +kernel
theorem ok_X7_reader : zOK yX7_reader 2 := by unfold zOK; decide +kernel
theorem ok_X7_recap : zOK yX7_recap 3 := by unfold zOK; decide +kernel
theorem ok_X7_removeLast : zOK yX7_removeLast 0 := by unfold zOK; decide +kernel
theorem ok_X7_set : zOK yX7_set 2 := by unfold zOK; decide +kernel
theorem ok_X7_setting : zOK yX7_setting 1 := by unfold zOK; decide +kernel
theorem ok_X7_thrown : zOK yX7_thrown 0 := by unfold zOK; decide +kernel
theorem ok_X7_undo : zOK yX7_undo 0 := by unfold zOK; decide +kernel
theorem wd_1010 : (Jvm.Cond.methodLink "SerialRecapsLaw" (129 : Nat) ({ cls := "SerialRecapsModel", name := "addAll", desc := "()I" } : Jvm.MethodName)) ∈ zG := zG_of 1010 (by decide +kernel) (by decide +kernel)
theorem wd_1011 : (Jvm.Cond.instanceMethod ({ cls := "SerialRecapsModel", name := "addAll", desc := "()I" } : Jvm.MethodName)) ∈ zG := zG_of 1011 (by decide +kernel) (by decide +kernel)
theorem wd_1012 : (Jvm.Cond.selects "SerialRecapsModel" ({ cls := "SerialRecapsModel", name := "addAll", desc := "()I" } : Jvm.MethodName) ({ cls := "SerialRecapsModel", name := "addAll", desc := "()I" } : Jvm.MethodName)) ∈ zG := zG_of 1012 (by decide +kernel) (by decide +kernel)
theorem wd_1013 : (Jvm.Cond.code ({ cls := "SerialRecapsModel", name := "addAll", desc := "()I" } : Jvm.MethodName) prog_9_method_43_code (3 : Nat) (Option.some Jvm.ClassFile.FieldType.int)) ∈ zG := zG_of 1013 (by decide +kernel) (by decide +kernel)
theorem wd_1014 : (Jvm.Cond.methodLink "SerialRecapsLaw" (135 : Nat) ({ cls := "SerialRecapsModel", name := "part", desc := "(II)I" } : Jvm.MethodName)) ∈ zG := zG_of 1014 (by decide +kernel) (by decide +kernel)
theorem wd_1015 : (Jvm.Cond.instanceMethod ({ cls := "SerialRecapsModel", name := "part", desc := "(II)I" } : Jvm.MethodName)) ∈ zG := zG_of 1015 (by decide +kernel) (by decide +kernel)
theorem wd_1016 : (Jvm.Cond.selects "SerialRecapsModel" ({ cls := "SerialRecapsModel", name := "part", desc := "(II)I" } : Jvm.MethodName) ({ cls := "SerialRecapsModel", name := "part", desc := "(II)I" } : Jvm.MethodName)) ∈ zG := zG_of 1016 (by decide +kernel) (by decide +kernel)
theorem wd_1017 : (Jvm.Cond.code ({ cls := "SerialRecapsModel", name := "part", desc := "(II)I" } : Jvm.MethodName) prog_9_method_46_code (3 : Nat) (Option.some Jvm.ClassFile.FieldType.int)) ∈ zG := zG_of 1017 (by decide +kernel) (by decide +kernel)
theorem wd_1026 : (Jvm.Cond.methodLink "SerialRecapsLaw" (138 : Nat) ({ cls := "SerialRecapsModel", name := "knows", desc := "(II)I" } : Jvm.MethodName)) ∈ zG := zG_of 1026 (by decide +kernel) (by decide +kernel)
theorem wd_1027 : (Jvm.Cond.instanceMethod ({ cls := "SerialRecapsModel", name := "knows", desc := "(II)I" } : Jvm.MethodName)) ∈ zG := zG_of 1027 (by decide +kernel) (by decide +kernel)
theorem wd_1028 : (Jvm.Cond.selects "SerialRecapsModel" ({ cls := "SerialRecapsModel", name := "knows", desc := "(II)I" } : Jvm.MethodName) ({ cls := "SerialRecapsModel", name := "knows", desc := "(II)I" } : Jvm.MethodName)) ∈ zG := zG_of 1028 (by decide +kernel) (by decide +kernel)
theorem wd_1029 : (Jvm.Cond.code ({ cls := "SerialRecapsModel", name := "knows", desc := "(II)I" } : Jvm.MethodName) prog_9_method_47_code (3 : Nat) (Option.some Jvm.ClassFile.FieldType.int)) ∈ zG := zG_of 1029 (by decide +kernel) (by decide +kernel)
theorem wd_1030 : (Jvm.Cond.methodLink "SerialRecapsLaw" (141 : Nat) ({ cls := "SerialRecapsModel", name := "reader", desc := "(II)I" } : Jvm.MethodName)) ∈ zG := zG_of 1030 (by decide +kernel) (by decide +kernel)
theorem wd_1031 : (Jvm.Cond.instanceMethod ({ cls := "SerialRecapsModel", name := "reader", desc := "(II)I" } : Jvm.MethodName)) ∈ zG := zG_of 1031 (by decide +kernel) (by decide +kernel)
theorem wd_1032 : (Jvm.Cond.selects "SerialRecapsModel" ({ cls := "SerialRecapsModel", name := "reader", desc := "(II)I" } : Jvm.MethodName) ({ cls := "SerialRecapsModel", name := "reader", desc := "(II)I" } : Jvm.MethodName)) ∈ zG := zG_of 1032 (by decide +kernel) (by decide +kernel)
theorem wd_1033 : (Jvm.Cond.code ({ cls := "SerialRecapsModel", name := "reader", desc := "(II)I" } : Jvm.MethodName) prog_9_method_51_code (3 : Nat) (Option.some Jvm.ClassFile.FieldType.int)) ∈ zG := zG_of 1033 (by decide +kernel) (by decide +kernel)
theorem wd_1046 : (Jvm.Cond.methodLink "SerialRecapsLaw" (144 : Nat) ({ cls := "SerialRecapsModel", name := "plot", desc := "(II)I" } : Jvm.MethodName)) ∈ zG := zG_of 1046 (by decide +kernel) (by decide +kernel)
theorem wd_1047 : (Jvm.Cond.instanceMethod ({ cls := "SerialRecapsModel", name := "plot", desc := "(II)I" } : Jvm.MethodName)) ∈ zG := zG_of 1047 (by decide +kernel) (by decide +kernel)
theorem wd_1048 : (Jvm.Cond.selects "SerialRecapsModel" ({ cls := "SerialRecapsModel", name := "plot", desc := "(II)I" } : Jvm.MethodName) ({ cls := "SerialRecapsModel", name := "plot", desc := "(II)I" } : Jvm.MethodName)) ∈ zG := zG_of 1048 (by decide +kernel) (by decide +kernel)
theorem wd_1049 : (Jvm.Cond.code ({ cls := "SerialRecapsModel", name := "plot", desc := "(II)I" } : Jvm.MethodName) prog_9_method_55_code (3 : Nat) (Option.some Jvm.ClassFile.FieldType.int)) ∈ zG := zG_of 1049 (by decide +kernel) (by decide +kernel)
theorem wd_1066 : (Jvm.Cond.methodLink "SerialRecapsLaw" (147 : Nat) ({ cls := "SerialRecapsModel", name := "count", desc := "(I)I" } : Jvm.MethodName)) ∈ zG := zG_of 1066 (by decide +kernel) (by decide +kernel)
theorem wd_1067 : (Jvm.Cond.instanceMethod ({ cls := "SerialRecapsModel", name := "count", desc := "(I)I" } : Jvm.MethodName)) ∈ zG := zG_of 1067 (by decide +kernel) (by decide +kernel)
theorem wd_1068 : (Jvm.Cond.selects "SerialRecapsModel" ({ cls := "SerialRecapsModel", name := "count", desc := "(I)I" } : Jvm.MethodName) ({ cls := "SerialRecapsModel", name := "count", desc := "(I)I" } : Jvm.MethodName)) ∈ zG := zG_of 1068 (by decide +kernel) (by decide +kernel)
theorem wd_1069 : (Jvm.Cond.code ({ cls := "SerialRecapsModel", name := "count", desc := "(I)I" } : Jvm.MethodName) prog_9_method_60_code (2 : Nat) (Option.some Jvm.ClassFile.FieldType.int)) ∈ zG := zG_of 1069 (by decide +kernel) (by decide +kernel)
theorem wd_1086 : (Jvm.Cond.methodLink "SerialRecapsLaw" (150 : Nat) ({ cls := "SerialRecapsModel", name := "setting", desc := "(I)I" } : Jvm.MethodName)) ∈ zG := zG_of 1086 (by decide +kernel) (by decide +kernel)
theorem wd_1087 : (Jvm.Cond.instanceMethod ({ cls := "SerialRecapsModel", name := "setting", desc := "(I)I" } : Jvm.MethodName)) ∈ zG := zG_of 1087 (by decide +kernel) (by decide +kernel)
theorem wd_1088 : (Jvm.Cond.selects "SerialRecapsModel" ({ cls := "SerialRecapsModel", name := "setting", desc := "(I)I" } : Jvm.MethodName) ({ cls := "SerialRecapsModel", name := "setting", desc := "(I)I" } : Jvm.MethodName)) ∈ zG := zG_of 1088 (by decide +kernel) (by decide +kernel)
theorem wd_1089 : (Jvm.Cond.code ({ cls := "SerialRecapsModel", name := "setting", desc := "(I)I" } : Jvm.MethodName) prog_9_method_61_code (2 : Nat) (Option.some Jvm.ClassFile.FieldType.int)) ∈ zG := zG_of 1089 (by decide +kernel) (by decide +kernel)
theorem wd_1090 : (Jvm.Cond.methodLink "SerialRecapsLaw" (153 : Nat) ({ cls := "SerialRecapsModel", name := "recap", desc := "(III)I" } : Jvm.MethodName)) ∈ zG := zG_of 1090 (by decide +kernel) (by decide +kernel)
theorem wd_1091 : (Jvm.Cond.instanceMethod ({ cls := "SerialRecapsModel", name := "recap", desc := "(III)I" } : Jvm.MethodName)) ∈ zG := zG_of 1091 (by decide +kernel) (by decide +kernel)
theorem wd_1092 : (Jvm.Cond.selects "SerialRecapsModel" ({ cls := "SerialRecapsModel", name := "recap", desc := "(III)I" } : Jvm.MethodName) ({ cls := "SerialRecapsModel", name := "recap", desc := "(III)I" } : Jvm.MethodName)) ∈ zG := zG_of 1092 (by decide +kernel) (by decide +kernel)
theorem wd_1093 : (Jvm.Cond.code ({ cls := "SerialRecapsModel", name := "recap", desc := "(III)I" } : Jvm.MethodName) prog_9_method_63_code (4 : Nat) (Option.some Jvm.ClassFile.FieldType.int)) ∈ zG := zG_of 1093 (by decide +kernel) (by decide +kernel)
theorem wd_1098 : (Jvm.Cond.methodLink "SerialRecapsLaw" (156 : Nat) ({ cls := "SerialRecapsModel", name := "easiest", desc := "(I)I" } : Jvm.MethodName)) ∈ zG := zG_of 1098 (by decide +kernel) (by decide +kernel)
theorem wd_1099 : (Jvm.Cond.instanceMethod ({ cls := "SerialRecapsModel", name := "easiest", desc := "(I)I" } : Jvm.MethodName)) ∈ zG := zG_of 1099 (by decide +kernel) (by decide +kernel)
theorem wd_1100 : (Jvm.Cond.selects "SerialRecapsModel" ({ cls := "SerialRecapsModel", name := "easiest", desc := "(I)I" } : Jvm.MethodName) ({ cls := "SerialRecapsModel", name := "easiest", desc := "(I)I" } : Jvm.MethodName)) ∈ zG := zG_of 1100 (by decide +kernel) (by decide +kernel)
theorem wd_1101 : (Jvm.Cond.code ({ cls := "SerialRecapsModel", name := "easiest", desc := "(I)I" } : Jvm.MethodName) prog_9_method_65_code (2 : Nat) (Option.some Jvm.ClassFile.FieldType.int)) ∈ zG := zG_of 1101 (by decide +kernel) (by decide +kernel)
theorem wd_1106 : (Jvm.Cond.methodLink "SerialRecapsLaw" (159 : Nat) ({ cls := "SerialRecapsModel", name := "enough", desc := "(I)I" } : Jvm.MethodName)) ∈ zG := zG_of 1106 (by decide +kernel) (by decide +kernel)
theorem wd_1107 : (Jvm.Cond.instanceMethod ({ cls := "SerialRecapsModel", name := "enough", desc := "(I)I" } : Jvm.MethodName)) ∈ zG := zG_of 1107 (by decide +kernel) (by decide +kernel)
theorem wd_1108 : (Jvm.Cond.selects "SerialRecapsModel" ({ cls := "SerialRecapsModel", name := "enough", desc := "(I)I" } : Jvm.MethodName) ({ cls := "SerialRecapsModel", name := "enough", desc := "(I)I" } : Jvm.MethodName)) ∈ zG := zG_of 1108 (by decide +kernel) (by decide +kernel)
theorem wd_1109 : (Jvm.Cond.code ({ cls := "SerialRecapsModel", name := "enough", desc := "(I)I" } : Jvm.MethodName) prog_9_method_67_code (2 : Nat) (Option.some Jvm.ClassFile.FieldType.int)) ∈ zG := zG_of 1109 (by decide +kernel) (by decide +kernel)
theorem wd_1114 : (Jvm.Cond.methodLink "SerialRecapsLaw" (164 : Nat) ({ cls := "SerialRecapsModel", name := "readShare", desc := "()D" } : Jvm.MethodName)) ∈ zG := zG_of 1114 (by decide +kernel) (by decide +kernel)
theorem wd_1115 : (Jvm.Cond.instanceMethod ({ cls := "SerialRecapsModel", name := "readShare", desc := "()D" } : Jvm.MethodName)) ∈ zG := zG_of 1115 (by decide +kernel) (by decide +kernel)
theorem wd_1116 : (Jvm.Cond.selects "SerialRecapsModel" ({ cls := "SerialRecapsModel", name := "readShare", desc := "()D" } : Jvm.MethodName) ({ cls := "SerialRecapsModel", name := "readShare", desc := "()D" } : Jvm.MethodName)) ∈ zG := zG_of 1116 (by decide +kernel) (by decide +kernel)
theorem wd_1117 : (Jvm.Cond.code ({ cls := "SerialRecapsModel", name := "readShare", desc := "()D" } : Jvm.MethodName) prog_9_method_69_code (1 : Nat) (Option.some Jvm.ClassFile.FieldType.double)) ∈ zG := zG_of 1117 (by decide +kernel) (by decide +kernel)
theorem wd_1122 : (Jvm.Cond.methodLink "SerialRecapsLaw" (169 : Nat) ({ cls := "SerialRecapsModel", name := "digest", desc := "()J" } : Jvm.MethodName)) ∈ zG := zG_of 1122 (by decide +kernel) (by decide +kernel)
theorem wd_1123 : (Jvm.Cond.instanceMethod ({ cls := "SerialRecapsModel", name := "digest", desc := "()J" } : Jvm.MethodName)) ∈ zG := zG_of 1123 (by decide +kernel) (by decide +kernel)
theorem wd_1124 : (Jvm.Cond.selects "SerialRecapsModel" ({ cls := "SerialRecapsModel", name := "digest", desc := "()J" } : Jvm.MethodName) ({ cls := "SerialRecapsModel", name := "digest", desc := "()J" } : Jvm.MethodName)) ∈ zG := zG_of 1124 (by decide +kernel) (by decide +kernel)
theorem wd_1125 : (Jvm.Cond.code ({ cls := "SerialRecapsModel", name := "digest", desc := "()J" } : Jvm.MethodName) prog_9_method_72_code (2 : Nat) (Option.some Jvm.ClassFile.FieldType.long)) ∈ zG := zG_of 1125 (by decide +kernel) (by decide +kernel)
theorem wd_237 : (Jvm.Cond.methodLink "SerialRecapsLaw" (119 : Nat) ({ cls := "SerialRecaps", name := "clearBuffer", desc := "()I" } : Jvm.MethodName)) ∈ zG := zG_of 237 (by decide +kernel) (by decide +kernel)
theorem wd_238 : (Jvm.Cond.instanceMethod ({ cls := "SerialRecaps", name := "clearBuffer", desc := "()I" } : Jvm.MethodName)) ∈ zG := zG_of 238 (by decide +kernel) (by decide +kernel)
theorem wd_239 : (Jvm.Cond.selects "SerialRecaps" ({ cls := "SerialRecaps", name := "clearBuffer", desc := "()I" } : Jvm.MethodName) ({ cls := "SerialRecaps", name := "clearBuffer", desc := "()I" } : Jvm.MethodName)) ∈ zG := zG_of 239 (by decide +kernel) (by decide +kernel)
theorem wd_240 : (Jvm.Cond.code ({ cls := "SerialRecaps", name := "clearBuffer", desc := "()I" } : Jvm.MethodName) prog_1_method_11_code (2 : Nat) (Option.some Jvm.ClassFile.FieldType.int)) ∈ zG := zG_of 240 (by decide +kernel) (by decide +kernel)
theorem wd_241 : (Jvm.Cond.methodLink "SerialRecapsLaw" (123 : Nat) ({ cls := "SerialRecaps", name := "firstError", desc := "()I" } : Jvm.MethodName)) ∈ zG := zG_of 241 (by decide +kernel) (by decide +kernel)
theorem wd_242 : (Jvm.Cond.instanceMethod ({ cls := "SerialRecaps", name := "firstError", desc := "()I" } : Jvm.MethodName)) ∈ zG := zG_of 242 (by decide +kernel) (by decide +kernel)
theorem wd_243 : (Jvm.Cond.selects "SerialRecaps" ({ cls := "SerialRecaps", name := "firstError", desc := "()I" } : Jvm.MethodName) ({ cls := "SerialRecaps", name := "firstError", desc := "()I" } : Jvm.MethodName)) ∈ zG := zG_of 243 (by decide +kernel) (by decide +kernel)
theorem wd_244 : (Jvm.Cond.code ({ cls := "SerialRecaps", name := "firstError", desc := "()I" } : Jvm.MethodName) prog_1_method_12_code (1 : Nat) (Option.some Jvm.ClassFile.FieldType.int)) ∈ zG := zG_of 244 (by decide +kernel) (by decide +kernel)
theorem wd_281 : (Jvm.Cond.methodLink "SerialRecapsLaw" (160 : Nat) ({ cls := "SerialRecaps", name := "readShare", desc := "()D" } : Jvm.MethodName)) ∈ zG := zG_of 281 (by decide +kernel) (by decide +kernel)
theorem wd_282 : (Jvm.Cond.instanceMethod ({ cls := "SerialRecaps", name := "readShare", desc := "()D" } : Jvm.MethodName)) ∈ zG := zG_of 282 (by decide +kernel) (by decide +kernel)
theorem wd_283 : (Jvm.Cond.selects "SerialRecaps" ({ cls := "SerialRecaps", name := "readShare", desc := "()D" } : Jvm.MethodName) ({ cls := "SerialRecaps", name := "readShare", desc := "()D" } : Jvm.MethodName)) ∈ zG := zG_of 283 (by decide +kernel) (by decide +kernel)
theorem wd_284 : (Jvm.Cond.code ({ cls := "SerialRecaps", name := "readShare", desc := "()D" } : Jvm.MethodName) prog_1_method_24_code (1 : Nat) (Option.some Jvm.ClassFile.FieldType.double)) ∈ zG := zG_of 284 (by decide +kernel) (by decide +kernel)
theorem wd_299 : (Jvm.Cond.methodLink "SerialRecapsLaw" (165 : Nat) ({ cls := "SerialRecaps", name := "digest", desc := "()J" } : Jvm.MethodName)) ∈ zG := zG_of 299 (by decide +kernel) (by decide +kernel)
theorem wd_300 : (Jvm.Cond.instanceMethod ({ cls := "SerialRecaps", name := "digest", desc := "()J" } : Jvm.MethodName)) ∈ zG := zG_of 300 (by decide +kernel) (by decide +kernel)
theorem wd_301 : (Jvm.Cond.selects "SerialRecaps" ({ cls := "SerialRecaps", name := "digest", desc := "()J" } : Jvm.MethodName) ({ cls := "SerialRecaps", name := "digest", desc := "()J" } : Jvm.MethodName)) ∈ zG := zG_of 301 (by decide +kernel) (by decide +kernel)
theorem wd_302 : (Jvm.Cond.code ({ cls := "SerialRecaps", name := "digest", desc := "()J" } : Jvm.MethodName) prog_1_method_25_code (4 : Nat) (Option.some Jvm.ClassFile.FieldType.long)) ∈ zG := zG_of 302 (by decide +kernel) (by decide +kernel)
theorem wd_448 : (Jvm.Cond.methodLink "SerialRecapsLaw" (83 : Nat) ({ cls := "SerialRecapsLaw", name := "add", desc := "(LSerialRecaps;III[J)I" } : Jvm.MethodName)) ∈ zG := zG_of 448 (by decide +kernel) (by decide +kernel)
theorem wd_449 : (Jvm.Cond.static ({ cls := "SerialRecapsLaw", name := "add", desc := "(LSerialRecaps;III[J)I" } : Jvm.MethodName)) ∈ zG := zG_of 449 (by decide +kernel) (by decide +kernel)
theorem wd_577 : (Jvm.Cond.methodLink "SerialRecapsLaw" (92 : Nat) ({ cls := "SerialRecapsLaw", name := "change", desc := "(LSerialRecaps;III[J)I" } : Jvm.MethodName)) ∈ zG := zG_of 577 (by decide +kernel) (by decide +kernel)
theorem wd_578 : (Jvm.Cond.static ({ cls := "SerialRecapsLaw", name := "change", desc := "(LSerialRecaps;III[J)I" } : Jvm.MethodName)) ∈ zG := zG_of 578 (by decide +kernel) (by decide +kernel)
theorem wd_60 : (Jvm.Cond.initialized "SerialRecapsLaw") ∈ zG := zG_of 60 (by decide +kernel) (by decide +kernel)
theorem wd_609 : (Jvm.Cond.methodLink "SerialRecapsLaw" (95 : Nat) ({ cls := "SerialRecapsLaw", name := "removeLast", desc := "(LSerialRecaps;[J)I" } : Jvm.MethodName)) ∈ zG := zG_of 609 (by decide +kernel) (by decide +kernel)
theorem wd_610 : (Jvm.Cond.static ({ cls := "SerialRecapsLaw", name := "removeLast", desc := "(LSerialRecaps;[J)I" } : Jvm.MethodName)) ∈ zG := zG_of 610 (by decide +kernel) (by decide +kernel)
theorem wd_623 : (Jvm.Cond.methodLink "SerialRecapsLaw" (99 : Nat) ({ cls := "SerialRecapsLaw", name := "set", desc := "(LSerialRecaps;II[J)I" } : Jvm.MethodName)) ∈ zG := zG_of 623 (by decide +kernel) (by decide +kernel)
theorem wd_624 : (Jvm.Cond.static ({ cls := "SerialRecapsLaw", name := "set", desc := "(LSerialRecaps;II[J)I" } : Jvm.MethodName)) ∈ zG := zG_of 624 (by decide +kernel) (by decide +kernel)
theorem wd_635 : (Jvm.Cond.methodLink "SerialRecapsLaw" (103 : Nat) ({ cls := "SerialRecapsLaw", name := "mail", desc := "(LSerialRecaps;II[J)I" } : Jvm.MethodName)) ∈ zG := zG_of 635 (by decide +kernel) (by decide +kernel)
theorem wd_636 : (Jvm.Cond.static ({ cls := "SerialRecapsLaw", name := "mail", desc := "(LSerialRecaps;II[J)I" } : Jvm.MethodName)) ∈ zG := zG_of 636 (by decide +kernel) (by decide +kernel)
theorem wd_656 : (Jvm.Cond.methodLink "SerialRecapsLaw" (106 : Nat) ({ cls := "SerialRecapsLaw", name := "mailAll", desc := "(LSerialRecaps;II[J)I" } : Jvm.MethodName)) ∈ zG := zG_of 656 (by decide +kernel) (by decide +kernel)
theorem wd_657 : (Jvm.Cond.static ({ cls := "SerialRecapsLaw", name := "mailAll", desc := "(LSerialRecaps;II[J)I" } : Jvm.MethodName)) ∈ zG := zG_of 657 (by decide +kernel) (by decide +kernel)
theorem wd_669 : (Jvm.Cond.methodLink "SerialRecapsLaw" (109 : Nat) ({ cls := "SerialRecapsLaw", name := "forget", desc := "(LSerialRecaps;I[J)I" } : Jvm.MethodName)) ∈ zG := zG_of 669 (by decide +kernel) (by decide +kernel)
theorem wd_670 : (Jvm.Cond.static ({ cls := "SerialRecapsLaw", name := "forget", desc := "(LSerialRecaps;I[J)I" } : Jvm.MethodName)) ∈ zG := zG_of 670 (by decide +kernel) (by decide +kernel)
theorem wd_680 : (Jvm.Cond.methodLink "SerialRecapsLaw" (113 : Nat) ({ cls := "SerialRecapsLaw", name := "catchUp", desc := "(LSerialRecaps;I[J)I" } : Jvm.MethodName)) ∈ zG := zG_of 680 (by decide +kernel) (by decide +kernel)
theorem wd_681 : (Jvm.Cond.static ({ cls := "SerialRecapsLaw", name := "catchUp", desc := "(LSerialRecaps;I[J)I" } : Jvm.MethodName)) ∈ zG := zG_of 681 (by decide +kernel) (by decide +kernel)
theorem wd_691 : (Jvm.Cond.methodLink "SerialRecapsLaw" (116 : Nat) ({ cls := "SerialRecapsLaw", name := "append", desc := "(LSerialRecaps;I[J)I" } : Jvm.MethodName)) ∈ zG := zG_of 691 (by decide +kernel) (by decide +kernel)
theorem wd_692 : (Jvm.Cond.static ({ cls := "SerialRecapsLaw", name := "append", desc := "(LSerialRecaps;I[J)I" } : Jvm.MethodName)) ∈ zG := zG_of 692 (by decide +kernel) (by decide +kernel)
theorem wd_704 : (Jvm.Cond.methodLink "SerialRecapsLaw" (127 : Nat) ({ cls := "SerialRecapsLaw", name := "addAll", desc := "(LSerialRecaps;[J)I" } : Jvm.MethodName)) ∈ zG := zG_of 704 (by decide +kernel) (by decide +kernel)
theorem wd_705 : (Jvm.Cond.static ({ cls := "SerialRecapsLaw", name := "addAll", desc := "(LSerialRecaps;[J)I" } : Jvm.MethodName)) ∈ zG := zG_of 705 (by decide +kernel) (by decide +kernel)
theorem wd_731 : (Jvm.Cond.methodLink "SerialRecapsLaw" (130 : Nat) ({ cls := "SerialRecapsLaw", name := "undo", desc := "(LSerialRecaps;[J)I" } : Jvm.MethodName)) ∈ zG := zG_of 731 (by decide +kernel) (by decide +kernel)
theorem wd_732 : (Jvm.Cond.static ({ cls := "SerialRecapsLaw", name := "undo", desc := "(LSerialRecaps;[J)I" } : Jvm.MethodName)) ∈ zG := zG_of 732 (by decide +kernel) (by decide +kernel)
theorem wd_748 : (Jvm.Cond.methodLink "SerialRecapsLaw" (133 : Nat) ({ cls := "SerialRecapsLaw", name := "part", desc := "(LSerialRecaps;II[J)I" } : Jvm.MethodName)) ∈ zG := zG_of 748 (by decide +kernel) (by decide +kernel)
theorem wd_749 : (Jvm.Cond.static ({ cls := "SerialRecapsLaw", name := "part", desc := "(LSerialRecaps;II[J)I" } : Jvm.MethodName)) ∈ zG := zG_of 749 (by decide +kernel) (by decide +kernel)
theorem wd_759 : (Jvm.Cond.methodLink "SerialRecapsLaw" (136 : Nat) ({ cls := "SerialRecapsLaw", name := "knows", desc := "(LSerialRecaps;II[J)I" } : Jvm.MethodName)) ∈ zG := zG_of 759 (by decide +kernel) (by decide +kernel)
theorem wd_760 : (Jvm.Cond.static ({ cls := "SerialRecapsLaw", name := "knows", desc := "(LSerialRecaps;II[J)I" } : Jvm.MethodName)) ∈ zG := zG_of 760 (by decide +kernel) (by decide +kernel)
theorem wd_766 : (Jvm.Cond.methodLink "SerialRecapsLaw" (139 : Nat) ({ cls := "SerialRecapsLaw", name := "reader", desc := "(LSerialRecaps;II[J)I" } : Jvm.MethodName)) ∈ zG := zG_of 766 (by decide +kernel) (by decide +kernel)
theorem wd_767 : (Jvm.Cond.static ({ cls := "SerialRecapsLaw", name := "reader", desc := "(LSerialRecaps;II[J)I" } : Jvm.MethodName)) ∈ zG := zG_of 767 (by decide +kernel) (by decide +kernel)
theorem wd_773 : (Jvm.Cond.methodLink "SerialRecapsLaw" (142 : Nat) ({ cls := "SerialRecapsLaw", name := "plot", desc := "(LSerialRecaps;II[J)I" } : Jvm.MethodName)) ∈ zG := zG_of 773 (by decide +kernel) (by decide +kernel)
theorem wd_774 : (Jvm.Cond.static ({ cls := "SerialRecapsLaw", name := "plot", desc := "(LSerialRecaps;II[J)I" } : Jvm.MethodName)) ∈ zG := zG_of 774 (by decide +kernel) (by decide +kernel)
theorem wd_781 : (Jvm.Cond.methodLink "SerialRecapsLaw" (145 : Nat) ({ cls := "SerialRecapsLaw", name := "count", desc := "(LSerialRecaps;I[J)I" } : Jvm.MethodName)) ∈ zG := zG_of 781 (by decide +kernel) (by decide +kernel)
theorem wd_782 : (Jvm.Cond.static ({ cls := "SerialRecapsLaw", name := "count", desc := "(LSerialRecaps;I[J)I" } : Jvm.MethodName)) ∈ zG := zG_of 782 (by decide +kernel) (by decide +kernel)
theorem wd_788 : (Jvm.Cond.methodLink "SerialRecapsLaw" (148 : Nat) ({ cls := "SerialRecapsLaw", name := "setting", desc := "(LSerialRecaps;I[J)I" } : Jvm.MethodName)) ∈ zG := zG_of 788 (by decide +kernel) (by decide +kernel)
theorem wd_789 : (Jvm.Cond.static ({ cls := "SerialRecapsLaw", name := "setting", desc := "(LSerialRecaps;I[J)I" } : Jvm.MethodName)) ∈ zG := zG_of 789 (by decide +kernel) (by decide +kernel)
theorem wd_795 : (Jvm.Cond.methodLink "SerialRecapsLaw" (151 : Nat) ({ cls := "SerialRecapsLaw", name := "recap", desc := "(LSerialRecaps;III[J)I" } : Jvm.MethodName)) ∈ zG := zG_of 795 (by decide +kernel) (by decide +kernel)
theorem wd_796 : (Jvm.Cond.static ({ cls := "SerialRecapsLaw", name := "recap", desc := "(LSerialRecaps;III[J)I" } : Jvm.MethodName)) ∈ zG := zG_of 796 (by decide +kernel) (by decide +kernel)
theorem wd_802 : (Jvm.Cond.methodLink "SerialRecapsLaw" (154 : Nat) ({ cls := "SerialRecapsLaw", name := "easiest", desc := "(LSerialRecaps;I[J)I" } : Jvm.MethodName)) ∈ zG := zG_of 802 (by decide +kernel) (by decide +kernel)
theorem wd_803 : (Jvm.Cond.static ({ cls := "SerialRecapsLaw", name := "easiest", desc := "(LSerialRecaps;I[J)I" } : Jvm.MethodName)) ∈ zG := zG_of 803 (by decide +kernel) (by decide +kernel)
theorem wd_809 : (Jvm.Cond.methodLink "SerialRecapsLaw" (157 : Nat) ({ cls := "SerialRecapsLaw", name := "enough", desc := "(LSerialRecaps;I[J)I" } : Jvm.MethodName)) ∈ zG := zG_of 809 (by decide +kernel) (by decide +kernel)
theorem wd_810 : (Jvm.Cond.static ({ cls := "SerialRecapsLaw", name := "enough", desc := "(LSerialRecaps;I[J)I" } : Jvm.MethodName)) ∈ zG := zG_of 810 (by decide +kernel) (by decide +kernel)
theorem wd_854 : (Jvm.Cond.methodLink "SerialRecapsLaw" (89 : Nat) ({ cls := "SerialRecapsModel", name := "thrown", desc := "()I" } : Jvm.MethodName)) ∈ zG := zG_of 854 (by decide +kernel) (by decide +kernel)
theorem wd_855 : (Jvm.Cond.instanceMethod ({ cls := "SerialRecapsModel", name := "thrown", desc := "()I" } : Jvm.MethodName)) ∈ zG := zG_of 855 (by decide +kernel) (by decide +kernel)
theorem wd_856 : (Jvm.Cond.selects "SerialRecapsModel" ({ cls := "SerialRecapsModel", name := "thrown", desc := "()I" } : Jvm.MethodName) ({ cls := "SerialRecapsModel", name := "thrown", desc := "()I" } : Jvm.MethodName)) ∈ zG := zG_of 856 (by decide +kernel) (by decide +kernel)
theorem wd_857 : (Jvm.Cond.code ({ cls := "SerialRecapsModel", name := "thrown", desc := "()I" } : Jvm.MethodName) prog_9_method_2_code (1 : Nat) (Option.some Jvm.ClassFile.FieldType.int)) ∈ zG := zG_of 857 (by decide +kernel) (by decide +kernel)
theorem wd_858 : (Jvm.Cond.methodLink "SerialRecapsLaw" (132 : Nat) ({ cls := "SerialRecapsModel", name := "undo", desc := "()I" } : Jvm.MethodName)) ∈ zG := zG_of 858 (by decide +kernel) (by decide +kernel)
theorem wd_859 : (Jvm.Cond.instanceMethod ({ cls := "SerialRecapsModel", name := "undo", desc := "()I" } : Jvm.MethodName)) ∈ zG := zG_of 859 (by decide +kernel) (by decide +kernel)
theorem wd_860 : (Jvm.Cond.selects "SerialRecapsModel" ({ cls := "SerialRecapsModel", name := "undo", desc := "()I" } : Jvm.MethodName) ({ cls := "SerialRecapsModel", name := "undo", desc := "()I" } : Jvm.MethodName)) ∈ zG := zG_of 860 (by decide +kernel) (by decide +kernel)
theorem wd_861 : (Jvm.Cond.code ({ cls := "SerialRecapsModel", name := "undo", desc := "()I" } : Jvm.MethodName) prog_9_method_6_code (2 : Nat) (Option.some Jvm.ClassFile.FieldType.int)) ∈ zG := zG_of 861 (by decide +kernel) (by decide +kernel)
theorem wd_866 : (Jvm.Cond.methodLink "SerialRecapsLaw" (88 : Nat) ({ cls := "SerialRecapsModel", name := "add", desc := "(III)I" } : Jvm.MethodName)) ∈ zG := zG_of 866 (by decide +kernel) (by decide +kernel)
theorem wd_867 : (Jvm.Cond.instanceMethod ({ cls := "SerialRecapsModel", name := "add", desc := "(III)I" } : Jvm.MethodName)) ∈ zG := zG_of 867 (by decide +kernel) (by decide +kernel)
theorem wd_868 : (Jvm.Cond.selects "SerialRecapsModel" ({ cls := "SerialRecapsModel", name := "add", desc := "(III)I" } : Jvm.MethodName) ({ cls := "SerialRecapsModel", name := "add", desc := "(III)I" } : Jvm.MethodName)) ∈ zG := zG_of 868 (by decide +kernel) (by decide +kernel)
theorem wd_869 : (Jvm.Cond.code ({ cls := "SerialRecapsModel", name := "add", desc := "(III)I" } : Jvm.MethodName) prog_9_method_23_code (5 : Nat) (Option.some Jvm.ClassFile.FieldType.int)) ∈ zG := zG_of 869 (by decide +kernel) (by decide +kernel)
theorem wd_888 : (Jvm.Cond.methodLink "SerialRecapsLaw" (94 : Nat) ({ cls := "SerialRecapsModel", name := "change", desc := "(III)I" } : Jvm.MethodName)) ∈ zG := zG_of 888 (by decide +kernel) (by decide +kernel)
theorem wd_889 : (Jvm.Cond.instanceMethod ({ cls := "SerialRecapsModel", name := "change", desc := "(III)I" } : Jvm.MethodName)) ∈ zG := zG_of 889 (by decide +kernel) (by decide +kernel)
theorem wd_890 : (Jvm.Cond.selects "SerialRecapsModel" ({ cls := "SerialRecapsModel", name := "change", desc := "(III)I" } : Jvm.MethodName) ({ cls := "SerialRecapsModel", name := "change", desc := "(III)I" } : Jvm.MethodName)) ∈ zG := zG_of 890 (by decide +kernel) (by decide +kernel)
theorem wd_891 : (Jvm.Cond.code ({ cls := "SerialRecapsModel", name := "change", desc := "(III)I" } : Jvm.MethodName) prog_9_method_24_code (5 : Nat) (Option.some Jvm.ClassFile.FieldType.int)) ∈ zG := zG_of 891 (by decide +kernel) (by decide +kernel)
theorem wd_900 : (Jvm.Cond.methodLink "SerialRecapsLaw" (98 : Nat) ({ cls := "SerialRecapsModel", name := "removeLast", desc := "()I" } : Jvm.MethodName)) ∈ zG := zG_of 900 (by decide +kernel) (by decide +kernel)
theorem wd_901 : (Jvm.Cond.instanceMethod ({ cls := "SerialRecapsModel", name := "removeLast", desc := "()I" } : Jvm.MethodName)) ∈ zG := zG_of 901 (by decide +kernel) (by decide +kernel)
theorem wd_902 : (Jvm.Cond.selects "SerialRecapsModel" ({ cls := "SerialRecapsModel", name := "removeLast", desc := "()I" } : Jvm.MethodName) ({ cls := "SerialRecapsModel", name := "removeLast", desc := "()I" } : Jvm.MethodName)) ∈ zG := zG_of 902 (by decide +kernel) (by decide +kernel)
theorem wd_903 : (Jvm.Cond.code ({ cls := "SerialRecapsModel", name := "removeLast", desc := "()I" } : Jvm.MethodName) prog_9_method_26_code (3 : Nat) (Option.some Jvm.ClassFile.FieldType.int)) ∈ zG := zG_of 903 (by decide +kernel) (by decide +kernel)
theorem wd_915 : (Jvm.Cond.methodLink "SerialRecapsLaw" (102 : Nat) ({ cls := "SerialRecapsModel", name := "set", desc := "(II)I" } : Jvm.MethodName)) ∈ zG := zG_of 915 (by decide +kernel) (by decide +kernel)
theorem wd_916 : (Jvm.Cond.instanceMethod ({ cls := "SerialRecapsModel", name := "set", desc := "(II)I" } : Jvm.MethodName)) ∈ zG := zG_of 916 (by decide +kernel) (by decide +kernel)
theorem wd_917 : (Jvm.Cond.selects "SerialRecapsModel" ({ cls := "SerialRecapsModel", name := "set", desc := "(II)I" } : Jvm.MethodName) ({ cls := "SerialRecapsModel", name := "set", desc := "(II)I" } : Jvm.MethodName)) ∈ zG := zG_of 917 (by decide +kernel) (by decide +kernel)
theorem wd_918 : (Jvm.Cond.code ({ cls := "SerialRecapsModel", name := "set", desc := "(II)I" } : Jvm.MethodName) prog_9_method_27_code (4 : Nat) (Option.some Jvm.ClassFile.FieldType.int)) ∈ zG := zG_of 918 (by decide +kernel) (by decide +kernel)
theorem wd_919 : (Jvm.Cond.methodLink "SerialRecapsLaw" (105 : Nat) ({ cls := "SerialRecapsModel", name := "mail", desc := "(II)I" } : Jvm.MethodName)) ∈ zG := zG_of 919 (by decide +kernel) (by decide +kernel)
theorem wd_920 : (Jvm.Cond.instanceMethod ({ cls := "SerialRecapsModel", name := "mail", desc := "(II)I" } : Jvm.MethodName)) ∈ zG := zG_of 920 (by decide +kernel) (by decide +kernel)
theorem wd_921 : (Jvm.Cond.selects "SerialRecapsModel" ({ cls := "SerialRecapsModel", name := "mail", desc := "(II)I" } : Jvm.MethodName) ({ cls := "SerialRecapsModel", name := "mail", desc := "(II)I" } : Jvm.MethodName)) ∈ zG := zG_of 921 (by decide +kernel) (by decide +kernel)
theorem wd_922 : (Jvm.Cond.code ({ cls := "SerialRecapsModel", name := "mail", desc := "(II)I" } : Jvm.MethodName) prog_9_method_29_code (3 : Nat) (Option.some Jvm.ClassFile.FieldType.int)) ∈ zG := zG_of 922 (by decide +kernel) (by decide +kernel)
theorem wd_958 : (Jvm.Cond.methodLink "SerialRecapsLaw" (108 : Nat) ({ cls := "SerialRecapsModel", name := "mailAll", desc := "(II)I" } : Jvm.MethodName)) ∈ zG := zG_of 958 (by decide +kernel) (by decide +kernel)
theorem wd_959 : (Jvm.Cond.instanceMethod ({ cls := "SerialRecapsModel", name := "mailAll", desc := "(II)I" } : Jvm.MethodName)) ∈ zG := zG_of 959 (by decide +kernel) (by decide +kernel)
theorem wd_960 : (Jvm.Cond.selects "SerialRecapsModel" ({ cls := "SerialRecapsModel", name := "mailAll", desc := "(II)I" } : Jvm.MethodName) ({ cls := "SerialRecapsModel", name := "mailAll", desc := "(II)I" } : Jvm.MethodName)) ∈ zG := zG_of 960 (by decide +kernel) (by decide +kernel)
theorem wd_961 : (Jvm.Cond.code ({ cls := "SerialRecapsModel", name := "mailAll", desc := "(II)I" } : Jvm.MethodName) prog_9_method_30_code (8 : Nat) (Option.some Jvm.ClassFile.FieldType.int)) ∈ zG := zG_of 961 (by decide +kernel) (by decide +kernel)
theorem wd_962 : (Jvm.Cond.methodLink "SerialRecapsLaw" (112 : Nat) ({ cls := "SerialRecapsModel", name := "forget", desc := "(I)I" } : Jvm.MethodName)) ∈ zG := zG_of 962 (by decide +kernel) (by decide +kernel)
theorem wd_963 : (Jvm.Cond.instanceMethod ({ cls := "SerialRecapsModel", name := "forget", desc := "(I)I" } : Jvm.MethodName)) ∈ zG := zG_of 963 (by decide +kernel) (by decide +kernel)
theorem wd_964 : (Jvm.Cond.selects "SerialRecapsModel" ({ cls := "SerialRecapsModel", name := "forget", desc := "(I)I" } : Jvm.MethodName) ({ cls := "SerialRecapsModel", name := "forget", desc := "(I)I" } : Jvm.MethodName)) ∈ zG := zG_of 964 (by decide +kernel) (by decide +kernel)
theorem wd_965 : (Jvm.Cond.code ({ cls := "SerialRecapsModel", name := "forget", desc := "(I)I" } : Jvm.MethodName) prog_9_method_31_code (4 : Nat) (Option.some Jvm.ClassFile.FieldType.int)) ∈ zG := zG_of 965 (by decide +kernel) (by decide +kernel)
theorem wd_966 : (Jvm.Cond.methodLink "SerialRecapsLaw" (115 : Nat) ({ cls := "SerialRecapsModel", name := "catchUp", desc := "(I)I" } : Jvm.MethodName)) ∈ zG := zG_of 966 (by decide +kernel) (by decide +kernel)
theorem wd_967 : (Jvm.Cond.instanceMethod ({ cls := "SerialRecapsModel", name := "catchUp", desc := "(I)I" } : Jvm.MethodName)) ∈ zG := zG_of 967 (by decide +kernel) (by decide +kernel)
theorem wd_968 : (Jvm.Cond.selects "SerialRecapsModel" ({ cls := "SerialRecapsModel", name := "catchUp", desc := "(I)I" } : Jvm.MethodName) ({ cls := "SerialRecapsModel", name := "catchUp", desc := "(I)I" } : Jvm.MethodName)) ∈ zG := zG_of 968 (by decide +kernel) (by decide +kernel)
theorem wd_969 : (Jvm.Cond.code ({ cls := "SerialRecapsModel", name := "catchUp", desc := "(I)I" } : Jvm.MethodName) prog_9_method_32_code (5 : Nat) (Option.some Jvm.ClassFile.FieldType.int)) ∈ zG := zG_of 969 (by decide +kernel) (by decide +kernel)
theorem wd_970 : (Jvm.Cond.methodLink "SerialRecapsLaw" (118 : Nat) ({ cls := "SerialRecapsModel", name := "append", desc := "(I)I" } : Jvm.MethodName)) ∈ zG := zG_of 970 (by decide +kernel) (by decide +kernel)
theorem wd_971 : (Jvm.Cond.instanceMethod ({ cls := "SerialRecapsModel", name := "append", desc := "(I)I" } : Jvm.MethodName)) ∈ zG := zG_of 971 (by decide +kernel) (by decide +kernel)
theorem wd_972 : (Jvm.Cond.selects "SerialRecapsModel" ({ cls := "SerialRecapsModel", name := "append", desc := "(I)I" } : Jvm.MethodName) ({ cls := "SerialRecapsModel", name := "append", desc := "(I)I" } : Jvm.MethodName)) ∈ zG := zG_of 972 (by decide +kernel) (by decide +kernel)
theorem wd_973 : (Jvm.Cond.code ({ cls := "SerialRecapsModel", name := "append", desc := "(I)I" } : Jvm.MethodName) prog_9_method_33_code (2 : Nat) (Option.some Jvm.ClassFile.FieldType.int)) ∈ zG := zG_of 973 (by decide +kernel) (by decide +kernel)
theorem wd_974 : (Jvm.Cond.methodLink "SerialRecapsLaw" (122 : Nat) ({ cls := "SerialRecapsModel", name := "clearBuffer", desc := "()I" } : Jvm.MethodName)) ∈ zG := zG_of 974 (by decide +kernel) (by decide +kernel)
theorem wd_975 : (Jvm.Cond.instanceMethod ({ cls := "SerialRecapsModel", name := "clearBuffer", desc := "()I" } : Jvm.MethodName)) ∈ zG := zG_of 975 (by decide +kernel) (by decide +kernel)
theorem wd_976 : (Jvm.Cond.selects "SerialRecapsModel" ({ cls := "SerialRecapsModel", name := "clearBuffer", desc := "()I" } : Jvm.MethodName) ({ cls := "SerialRecapsModel", name := "clearBuffer", desc := "()I" } : Jvm.MethodName)) ∈ zG := zG_of 976 (by decide +kernel) (by decide +kernel)
theorem wd_977 : (Jvm.Cond.code ({ cls := "SerialRecapsModel", name := "clearBuffer", desc := "()I" } : Jvm.MethodName) prog_9_method_34_code (2 : Nat) (Option.some Jvm.ClassFile.FieldType.int)) ∈ zG := zG_of 977 (by decide +kernel) (by decide +kernel)
theorem wd_978 : (Jvm.Cond.methodLink "SerialRecapsLaw" (126 : Nat) ({ cls := "SerialRecapsModel", name := "firstError", desc := "()I" } : Jvm.MethodName)) ∈ zG := zG_of 978 (by decide +kernel) (by decide +kernel)
theorem wd_979 : (Jvm.Cond.instanceMethod ({ cls := "SerialRecapsModel", name := "firstError", desc := "()I" } : Jvm.MethodName)) ∈ zG := zG_of 979 (by decide +kernel) (by decide +kernel)
theorem wd_980 : (Jvm.Cond.selects "SerialRecapsModel" ({ cls := "SerialRecapsModel", name := "firstError", desc := "()I" } : Jvm.MethodName) ({ cls := "SerialRecapsModel", name := "firstError", desc := "()I" } : Jvm.MethodName)) ∈ zG := zG_of 980 (by decide +kernel) (by decide +kernel)
theorem wd_981 : (Jvm.Cond.code ({ cls := "SerialRecapsModel", name := "firstError", desc := "()I" } : Jvm.MethodName) prog_9_method_42_code (2 : Nat) (Option.some Jvm.ClassFile.FieldType.int)) ∈ zG := zG_of 981 (by decide +kernel) (by decide +kernel)
/-! THE LAW: tools -/
theorem zMu.go {T : Type} {A B : String} {f6 : Option (String ⊕ T)} {f7 : Option zR7} {saved : Int32} {ms mpast : Nat → Int32} {S : Int32} {Pm : Nat → Int32} {P : T → Int32 → (Nat → Int32) → Prop} (h : zMu A B f6 f7 saved ms mpast S Pm P) (hAB : ¬ B = A) : ∃ (res : String ⊕ T) (v1 v2 v3 : Int32) (v4 v5 : Nat → Int32), f6 = some res ∧ f7 = some (v1, v2, v3, v4, v5) ∧ (∀ E, res = .inl E → E = A ∨ E = B) ∧ (∀ r, res = .inr r → v2 = 0 ∧ v3 = S ∧ v5 = Pm ∧ P r v1 v4) ∧ (∀ E, res = .inl E → v2 = (if E = A then 1 else 2) ∧ saved = v3 ∧ ms = v4 ∧ mpast = v5) := by
  rcases h with ⟨r, b, m, h1, h2, h3⟩ | ⟨h1, h2⟩ | ⟨h1, h2⟩
  · exact ⟨_, _, _, _, _, _, h1, h2, fun E h => by (cases h), fun r' h => by (cases h; exact ⟨rfl, rfl, rfl, h3⟩), fun E h => by (cases h)⟩
  · exact ⟨_, _, _, _, _, _, h1, h2, fun E h => by (cases h; exact Or.inl rfl), fun r' h => by (cases h), fun E h => by (cases h; exact ⟨(if_pos rfl).symm, rfl, rfl, rfl⟩)⟩
  · exact ⟨_, _, _, _, _, _, h1, h2, fun E h => by (cases h; exact Or.inr rfl), fun r' h => by (cases h), fun E h => by (cases h; exact ⟨(if_neg hAB).symm, rfl, rfl, rfl⟩)⟩
theorem zMu1.go {T : Type} {A : String} {f6 : Option (String ⊕ T)} {f7 : Option zR7} {saved : Int32} {ms mpast : Nat → Int32} {S : Int32} {Pm : Nat → Int32} {P : T → Int32 → (Nat → Int32) → Prop} (h : zMu1 A f6 f7 saved ms mpast S Pm P) : ∃ (res : String ⊕ T) (v1 v2 v3 : Int32) (v4 v5 : Nat → Int32), f6 = some res ∧ f7 = some (v1, v2, v3, v4, v5) ∧ (∀ E, res = .inl E → E = A) ∧ (∀ r, res = .inr r → v2 = 0 ∧ v3 = S ∧ v5 = Pm ∧ P r v1 v4) ∧ (∀ E, res = .inl E → v2 = 1 ∧ saved = v3 ∧ ms = v4 ∧ mpast = v5) := by
  rcases h with ⟨r, b, m, h1, h2, h3⟩ | ⟨h1, h2⟩
  · exact ⟨_, _, _, _, _, _, h1, h2, fun E h => by (cases h), fun r' h => by (cases h; exact ⟨rfl, rfl, rfl, h3⟩), fun E h => by (cases h)⟩
  · exact ⟨_, _, _, _, _, _, h1, h2, fun E h => by (cases h; rfl), fun r' h => by (cases h), fun E h => by (cases h; exact ⟨rfl, rfl, rfl, rfl⟩)⟩
theorem zLk.go {A B : String} {f6 : Option (String ⊕ Int32)} {f7 : Option (Int32 × Int32)} (h : zLk A B f6 f7) (hAB : ¬ B = A) : ∃ (res : String ⊕ Int32) (v1 v2 : Int32), f6 = some res ∧ f7 = some (v1, v2) ∧ (∀ E, res = .inl E → E = A ∨ E = B) ∧ (∀ r, res = .inr r → v2 = 0 ∧ v1 = r) ∧ (∀ E, res = .inl E → v2 = (if E = A then 1 else 2)) := by
  rcases h with ⟨r, h1, h2⟩ | ⟨h1, h2⟩ | ⟨h1, h2⟩
  · exact ⟨_, _, _, h1, h2, fun E h => by (cases h), fun r' h => by (cases h; exact ⟨rfl, rfl⟩), fun E h => by (cases h)⟩
  · exact ⟨_, _, _, h1, h2, fun E h => by (cases h; exact Or.inl rfl), fun r' h => by (cases h), fun E h => by (cases h; exact (if_pos rfl).symm)⟩
  · exact ⟨_, _, _, h1, h2, fun E h => by (cases h; exact Or.inr rfl), fun r' h => by (cases h), fun E h => by (cases h; exact (if_neg hAB).symm)⟩
theorem zLk1.go {A : String} {f6 : Option (String ⊕ Int32)} {f7 : Option (Int32 × Int32)} (h : zLk1 A f6 f7) : ∃ (res : String ⊕ Int32) (v1 v2 : Int32), f6 = some res ∧ f7 = some (v1, v2) ∧ (∀ E, res = .inl E → E = A) ∧ (∀ r, res = .inr r → v2 = 0 ∧ v1 = r) ∧ (∀ E, res = .inl E → v2 = 1) := by
  rcases h with ⟨r, h1, h2⟩ | ⟨h1, h2⟩
  · exact ⟨_, _, _, h1, h2, fun E h => by (cases h), fun r' h => by (cases h; exact ⟨rfl, rfl⟩), fun E h => by (cases h)⟩
  · exact ⟨_, _, _, h1, h2, fun E h => by (cases h; rfl), fun r' h => by (cases h), fun E h => by (cases h; rfl)⟩
theorem zif12 {E A : String} : ¬ (if E = A then (1 : Int32) else 2) = 0 := by
  split <;> decide
theorem pL1 {a o w P : va_W} : (a ++ (o ++ (w ++ P))).Perm ((o ++ w) ++ (P ++ a)) := by
  have h : a ++ (o ++ (w ++ P)) = a ++ (((o ++ w) ++ P)) := by rw [List.append_assoc o w P]
  rw [h]
  refine List.perm_append_comm.trans ?_
  rw [List.append_assoc]
theorem pL2 {a o w P : va_W} : ((o ++ w) ++ (P ++ a)).Perm (a ++ (o ++ (w ++ P))) := pL1.symm
theorem pL3 {a o w P : va_W} : (a ++ (o ++ (w ++ P))).Perm (w ++ (P ++ (a ++ o))) := by
  have h : a ++ (o ++ (w ++ P)) = (a ++ o) ++ (w ++ P) := by rw [List.append_assoc]
  rw [h]
  refine List.perm_append_comm.trans ?_
  rw [List.append_assoc]
theorem pL4 {a o w P : va_W} : (w ++ (P ++ (a ++ o))).Perm (a ++ (o ++ (w ++ P))) := pL3.symm
section LT
variable {p : Program} {l : Launch} {e : Env} {s : State} {m : MethodId} {below : List Frame} {meth : Method} {c : Code} {H : Heap} {locs : List Loc} {cells slots : Nat} {Q : State → Prop} {Δ : zE} {b L : Nat} {xs : Nat → Int32} {ls : Array Slot} {rest : List Value} {ws : va_W} {lvs : List (Nat × Value)}
/-- an argument out of the script -/
theorem law_arg (Y : zY Δ p l s m #[Value.ref b] meth c ⟨"SerialRecapsLaw", meth.name, ""⟩ code 9 (some .boolean) (fun q => s.heap.size ≤ q)) (hX : va_X b L xs s s.heap) (hbl : b < s.heap.size) (Z : zW Δ (fun q => s.heap.size ≤ q) s.heap ws H locs) (hl : lv_has ls 9 lvs) (k0 k4 : Nat) {i : Int32} (h0 : lvs[k0]? = some (0, .ref b)) (h4 : lvs[k4]? = some (4, .int i)) {pc : Nat} {n : Int} {v x : Int32} (hv : Int32.ofInt n = v) (hx : xs (i + v).toNatClampNeg = x) (hin : vp_in (i + v) L) (d0 : decode code pc = .ok (.aload_n 0, 1)) (d1 : decode code (pc + 1) = .ok (.iload 4, 2)) (d2 : decode code (pc + 3) = .ok (.iconst n, 1)) (d3 : decode code (pc + 4) = .ok (.iadd, 1)) (d4 : decode code (pc + 5) = .ok (.iaload, 1)) (kk : W p l e room_1 s m #[Value.ref b] below meth c H locs cells slots Q (F0 m (pc + 6) ls (.int x :: rest))) : W p l e room_1 s m #[Value.ref b] below meth c H locs cells slots Q (F0 m pc ls rest) := by
  have X := Y.1
  refine lv_aload_n X.x X.b d0 rfl (lv_at hl k0 h0) ?_
  refine lv_iload X.x X.b d1 (lv_at hl k4 h4) ?_
  refine lv_iconst (v := v) X.x X.b d2 hv ?_
  refine lv_iadd X.x X.b d3 ?_
  refine va_sld X.x X.b hX hbl (Nat.not_le.mpr hbl) Z.2.2 hin d4 ?_
  rw [hx]
  exact kk
/-- behind the reference's call: both answered alike -/
theorem law_tail (Y : zY Δ p l s m #[Value.ref b] meth c ⟨"SerialRecapsLaw", meth.name, ""⟩ code 9 (some .boolean) (fun q => s.heap.size ≤ q)) {adm : Nat → Nat} {kc bb saved mlen spot reads i : Int32} {hash : Int64} {ms mpast mtext mread : Nat → Int32} {out : Nat → Int64} {Wc : va_W} {a1 ao P : Nat} {off : Int} (Z : zW Δ (fun q => s.heap.size ≤ q) s.heap (wX7 Δ adm kc saved mlen spot reads hash ms mpast mtext mread ++ ([(ao, .inl (Δ.2.2.2.1, 1, .inr (.inl out)))] ++ Wc)) H locs) (hl : lv_has ls 9 [(5, .int kc), (0, .ref b), (1, .ref a1), (2, .ref (adm 0)), (3, .ref ao), (4, .int i)]) (hk : kc = 0 → out (0 : Int32).toNatClampNeg = bb.toInt64) (hc : cells ≤ 601024 ∧ slots ≤ 7293034)
    (d0 : decode code P = .ok (.istore 6, 2)) (d2 : decode code (P + 2) = .ok (.aload_n 2, 1)) (d3 : decode code (P + 3) = .ok (.invokevirtual 89, 3)) (d6 : decode code (P + 6) = .ok (.iload 5, 2)) (d8 : decode code (P + 8) = .ok (.if_icmp .eq 5, 3)) (d13 : decode code (P + 13) = .ok (.iload 5, 2)) (d15 : decode code (P + 15) = .ok (.ifCond .ne 15, 3)) (d18 : decode code (P + 18) = .ok (.aload_n 3, 1)) (d19 : decode code (P + 19) = .ok (.iconst 0, 1)) (d20 : decode code (P + 20) = .ok (.laload, 1)) (d21 : decode code (P + 21) = .ok (.iload 6, 2)) (d23 : decode code (P + 23) = .ok (.i2l, 1)) (d24 : decode code (P + 24) = .ok (.lcmp, 1)) (d25 : decode code (P + 25) = .ok (.ifCond .eq 5, 3)) (d30 : decode code (P + 30) = .ok (.goto off, 3)) (hgo : ((P + 30 : Nat) : Int) + off = 1469)
    (next : ∀ (H1 : Heap) (locs1 : List Loc) (ls1 : Array Slot), zW Δ (fun q => s.heap.size ≤ q) s.heap (wX7 Δ adm kc saved mlen spot reads hash ms mpast mtext mread ++ ([(ao, .inl (Δ.2.2.2.1, 1, .inr (.inl out)))] ++ Wc)) H1 locs1 → lv_has ls1 9 [(0, .ref b), (1, .ref a1), (2, .ref (adm 0)), (3, .ref ao), (4, .int i)] → W p l e room_1 s m #[Value.ref b] below meth c H1 locs1 cells slots Q (F0 m 1469 ls1 [])) : W p l e room_1 s m #[Value.ref b] below meth c H locs cells slots Q (F0 m P ls [.int bb]) := by
  have X := Y.1
  refine lv_istore (lv' := [(6, .int bb), (5, .int kc), (0, .ref b), (1, .ref a1), (2, .ref (adm 0)), (3, .ref ao), (4, .int i)]) X.x X.b d0 hl (Nat.le_of_ble_eq_true rfl) rfl (fun ls hl => ?_)
  refine lv_aload_n X.x X.b d2 rfl (lv_at hl 4 rfl) ?_
  refine z_callVP X Z hl (mX7_thrown l Δ adm kc saved mlen spot reads hash ms mpast mtext mread rfl) wd_854 wd_855 wd_856 wd_68 wd_857 ok_X7_thrown 7 rfl 0 rfl (List.Perm.refl _) rfl rfl (rest := []) rfl (Nat.le_of_ble_eq_true rfl) ⟨Nat.le_of_ble_eq_true rfl, Nat.le_of_ble_eq_true rfl⟩ hc (st1 := [.int kc]) rfl d3 (fun H1 locs1 Z1 => ?_)
  refine lv_iload X.x X.b d6 (lv_at hl 1 rfl) ?_
  refine lv_icmp_eq (tgt := P + 13) X.x X.b d8 (by omega) (fun _ => ?_) (fun h => absurd rfl h)
  refine lv_iload X.x X.b d13 (lv_at hl 1 rfl) ?_
  refine lv_if_ne (tgt := P + 30) X.x X.b d15 (by omega) (fun _ => ?_) (fun h => ?_)
  · refine lv_goto (tgt := 1469) X.x X.b d30 hgo ?_
    exact next H1 locs1 ls Z1 (lv_sub hl [2, 3, 4, 5, 6] rfl)
  · refine lv_aload_n X.x X.b d18 rfl (lv_at hl 5 rfl) ?_
    refine lv_iconst (v := 0) X.x X.b d19 (by decide) ?_
    refine z_lald X Z1 5 rfl (zvin (by decide)) d20 ?_
    refine lv_iload X.x X.b d21 (lv_at hl 0 rfl) ?_
    refine lv_i2l (v := bb.toInt64) X.x X.b d23 rfl ?_
    refine W.lcmp X.x X.b d24 ?_
    refine lv_if_eq (tgt := P + 30) X.x X.b d25 (by omega) (fun _ => ?_) (fun g => absurd ((lg_cmp_eq _ _).mpr (hk h)) g)
    refine lv_goto (tgt := 1469) X.x X.b d30 hgo ?_
    exact next H1 locs1 ls Z1 (lv_sub hl [2, 3, 4, 5, 6] rfl)
end LT
/-- at the loop's head and at its end: class and reference stand alike -/
def zInv (Δ : zE) (s : State) (b a1 a2 ao : Nat) (i : Int32) (H : Heap) (locs : List Loc) (ls : Array Slot) : Prop := ∃ (ad adm : Nat → Nat) (out : Nat → Int64) (x : zSC) (len : Int32) (codes : Nat → Int32) (gpl gps gcl gwo : Int32) (o k n : Nat) (α : Nat → Nat → Nat) (σ : Nat → zSC) (thr mlen spot reads : Int32) (hash : Int64) (ms mpast mtext mread : Nat → Int32), ad 0 = a1 ∧ adm 0 = a2 ∧ zW Δ (fun q => s.heap.size ≤ q) s.heap (wX7 Δ adm thr (nI k) mlen spot reads hash ms mpast mtext mread ++ ([(ao, .inl (Δ.2.2.2.1, 1, .inr (.inl out)))] ++ (wX6 Δ ad x.1 x.2.1 x.2.2.1 x.2.2.2.1 x.2.2.2.2.1 x.2.2.2.2.2.1 x.2.2.2.2.2.2.1 x.2.2.2.2.2.2.2.1 x.2.2.2.2.2.2.2.2.1 x.2.2.2.2.2.2.2.2.2.1 x.2.2.2.2.2.2.2.2.2.2.1 x.2.2.2.2.2.2.2.2.2.2.2.1 x.2.2.2.2.2.2.2.2.2.2.2.2 (nI o) (nI k) (zRows n α) len codes gpl gps gcl gwo ++ zPool Δ n α σ))) H locs ∧ zO x ms ∧ zHS o k n σ mpast ∧ zTx len codes mlen mtext ∧ lv_has ls 9 [(0, .ref b), (1, .ref a1), (2, .ref a2), (3, .ref ao), (4, .int i)]
theorem share_cmp {x : UInt64} (h1 : fJxe99ae_doubleToLongBits_ccdee x = some x.toInt64) (h2 : zn64 x = true) : Op.cmpValue (FP.dcmp x x) CmpOp.l = 0 := by
  by_cases h : Op.cmpValue (FP.dcmp x x) CmpOp.l = 0
  · exact h
  · unfold fJxe99ae_doubleToLongBits_ccdee fJxe99ae_isNaN_b9ae7 at h1
    rw [if_neg h, Option.bind_some, if_neg ne01] at h1
    have h3 : (9221120237041090560 : Int64) = x.toInt64 := Option.some.inj h1
    have h4 : x = (9221120237041090560 : Int64).toUInt64 := by rw [h3]; rfl
    rw [h4] at h2
    exact absurd h2 (by decide)
theorem appGo {A B : String} {f6 : Option (String ⊕ (Int32 × Int32 × (Nat → Int32)))} {f7 : Option (Int32 × Int32 × Int32 × (Nat → Int32))} {mlen : Int32} {mtext : Nat → Int32} {P : Int32 → (Nat → Int32) → Int32 → (Nat → Int32) → Prop} (h : (∃ r v, f6 = some (.inr r) ∧ f7 = some v ∧ v.1 = r.1 ∧ v.2.1 = 0 ∧ P r.2.1 r.2.2 v.2.2.1 v.2.2.2) ∨ (f6 = some (.inl A) ∧ f7 = some (0, 1, mlen, mtext)) ∨ (f6 = some (.inl B) ∧ f7 = some (0, 2, mlen, mtext))) (hAB : ¬ B = A := by decide) : ∃ (res : String ⊕ (Int32 × Int32 × (Nat → Int32))) (v1 v2 v3 : Int32) (v4 : Nat → Int32), f6 = some res ∧ f7 = some (v1, v2, v3, v4) ∧ (∀ E, res = .inl E → E = A ∨ E = B) ∧ (∀ r, res = .inr r → v1 = r.1 ∧ v2 = 0 ∧ P r.2.1 r.2.2 v3 v4) ∧ (∀ E, res = .inl E → v2 = (if E = A then 1 else 2) ∧ mlen = v3 ∧ mtext = v4) := by
  rcases h with ⟨r, ⟨v1, v2, v3, v4⟩, h1, h2, h3, h4, h5⟩ | ⟨h1, h2⟩ | ⟨h1, h2⟩
  · exact ⟨_, _, _, _, _, h1, h2, fun E h => by (cases h), fun r' h => by (cases h; exact ⟨h3, h4, h5⟩), fun E h => by (cases h)⟩
  · exact ⟨_, _, _, _, _, h1, h2, fun E h => by (cases h; exact Or.inl rfl), fun r' h => by (cases h), fun E h => by (cases h; exact ⟨(if_pos rfl).symm, rfl, rfl⟩)⟩
  · exact ⟨_, _, _, _, _, h1, h2, fun E h => by (cases h; exact Or.inr rfl), fun r' h => by (cases h), fun E h => by (cases h; exact ⟨(if_neg hAB).symm, rfl, rfl⟩)⟩
abbrev zA6 : Type := Int32 × Int32 × (Nat → Int32) × (Nat → Int32) × (Nat → Int32) × (Nat → Int32) × Int32 × Int32 × Int32 × Int32 × Int32
abbrev zA7 : Type := Int32 × Int32 × Int32 × Int32 × Int32 × Int32 × (Nat → Int32) × (Nat → Int32) × (Nat → Int32)
theorem aaGo {A B : String} {f6 : Option (String ⊕ zA6)} {f7 : Option zA7} {saved mlen S : Int32} {ms mpast Pm : Nat → Int32} {P : zA6 → (Nat → Int32) → Prop} (h : (∃ r v, f6 = some (.inr r) ∧ f7 = some v ∧ v.1 = r.1 ∧ v.2.1 = 0 ∧ v.2.2.1 = S ∧ v.2.2.2.1 = 0 ∧ r.2.2.2.2.2.2.1 = 0 ∧ v.2.2.2.2.2.2.2.1 = Pm ∧ P r v.2.2.2.2.2.2.1) ∨ (f6 = some (.inl A) ∧ ∃ sp rd m, f7 = some (0, 1, saved, mlen, sp, rd, ms, mpast, m)) ∨ (f6 = some (.inl B) ∧ ∃ sp rd m, f7 = some (0, 2, saved, mlen, sp, rd, ms, mpast, m))) (hAB : ¬ B = A := by decide) : ∃ (res : String ⊕ zA6) (v1 v2 v3 v4 v5 v6 : Int32) (v7 v8 v9 : Nat → Int32), f6 = some res ∧ f7 = some (v1, v2, v3, v4, v5, v6, v7, v8, v9) ∧ (∀ E, res = .inl E → E = A ∨ E = B) ∧ (∀ r, res = .inr r → v1 = r.1 ∧ v2 = 0 ∧ v3 = S ∧ v4 = 0 ∧ r.2.2.2.2.2.2.1 = 0 ∧ v8 = Pm ∧ P r v7) ∧ (∀ E, res = .inl E → v2 = (if E = A then 1 else 2) ∧ saved = v3 ∧ mlen = v4 ∧ ms = v7 ∧ mpast = v8) := by
  rcases h with ⟨r, ⟨v1, v2, v3, v4, v5, v6, v7, v8, v9⟩, h1, h2, h3, h4, h5, h6, h7, h8, h9⟩ | ⟨h1, sp, rd, m, h2⟩ | ⟨h1, sp, rd, m, h2⟩
  · exact ⟨_, _, _, _, _, _, _, _, _, _, h1, h2, fun E h => by (cases h), fun r' h => by (cases h; exact ⟨h3, h4, h5, h6, h7, h8, h9⟩), fun E h => by (cases h)⟩
  · exact ⟨_, _, _, _, _, _, _, _, _, _, h1, h2, fun E h => by (cases h; exact Or.inl rfl), fun r' h => by (cases h), fun E h => by (cases h; exact ⟨(if_pos rfl).symm, rfl, rfl, rfl, rfl⟩)⟩
  · exact ⟨_, _, _, _, _, _, _, _, _, _, h1, h2, fun E h => by (cases h; exact Or.inr rfl), fun r' h => by (cases h), fun E h => by (cases h; exact ⟨(if_neg hAB).symm, rfl, rfl, rfl, rfl⟩)⟩
