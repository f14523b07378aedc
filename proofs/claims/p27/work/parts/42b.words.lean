set_option maxRecDepth 100000 in
theorem wd_492 : (Jvm.Cond.code ({ cls := "SerialRecaps", name := "mailAll", desc := "(II)I" } : Jvm.MethodName) prog_1_method_7_code (3 : Nat) (Option.some Jvm.ClassFile.FieldType.int)) ∈ zG := zG_of 492 (by decide +kernel) (by decide +kernel)
set_option maxRecDepth 100000 in
theorem wd_503 : (Jvm.Cond.code ({ cls := "SerialRecaps", name := "forget", desc := "(I)I" } : Jvm.MethodName) prog_1_method_8_code (2 : Nat) (Option.some Jvm.ClassFile.FieldType.int)) ∈ zG := zG_of 503 (by decide +kernel) (by decide +kernel)
set_option maxRecDepth 100000 in
theorem wd_512 : (Jvm.Cond.code ({ cls := "SerialRecaps", name := "catchUp", desc := "(I)I" } : Jvm.MethodName) prog_1_method_9_code (2 : Nat) (Option.some Jvm.ClassFile.FieldType.int)) ∈ zG := zG_of 512 (by decide +kernel) (by decide +kernel)
set_option maxRecDepth 100000 in
theorem wd_520 : (Jvm.Cond.code ({ cls := "SerialRecaps", name := "append", desc := "(I)I" } : Jvm.MethodName) prog_1_method_10_code (2 : Nat) (Option.some Jvm.ClassFile.FieldType.int)) ∈ zG := zG_of 520 (by decide +kernel) (by decide +kernel)
set_option maxRecDepth 100000 in
theorem wd_530 : (Jvm.Cond.code ({ cls := "SerialRecaps", name := "addAll", desc := "()I" } : Jvm.MethodName) prog_1_method_13_code (1 : Nat) (Option.some Jvm.ClassFile.FieldType.int)) ∈ zG := zG_of 530 (by decide +kernel) (by decide +kernel)
set_option maxRecDepth 100000 in
theorem wd_587 : (Jvm.Cond.code ({ cls := "SerialRecaps", name := "part", desc := "(II)I" } : Jvm.MethodName) prog_1_method_15_code (3 : Nat) (Option.some Jvm.ClassFile.FieldType.int)) ∈ zG := zG_of 587 (by decide +kernel) (by decide +kernel)
set_option maxRecDepth 100000 in
theorem wd_600 : (Jvm.Cond.code ({ cls := "SerialRecaps", name := "knows", desc := "(II)I" } : Jvm.MethodName) prog_1_method_16_code (3 : Nat) (Option.some Jvm.ClassFile.FieldType.int)) ∈ zG := zG_of 600 (by decide +kernel) (by decide +kernel)
set_option maxRecDepth 100000 in
theorem wd_608 : (Jvm.Cond.code ({ cls := "SerialRecaps", name := "reader", desc := "(II)I" } : Jvm.MethodName) prog_1_method_17_code (3 : Nat) (Option.some Jvm.ClassFile.FieldType.int)) ∈ zG := zG_of 608 (by decide +kernel) (by decide +kernel)
set_option maxRecDepth 100000 in
theorem wd_620 : (Jvm.Cond.code ({ cls := "SerialRecaps", name := "plot", desc := "(II)I" } : Jvm.MethodName) prog_1_method_18_code (3 : Nat) (Option.some Jvm.ClassFile.FieldType.int)) ∈ zG := zG_of 620 (by decide +kernel) (by decide +kernel)
set_option maxRecDepth 100000 in
theorem wd_645 : (Jvm.Cond.code ({ cls := "SerialRecaps", name := "setting", desc := "(I)I" } : Jvm.MethodName) prog_1_method_20_code (2 : Nat) (Option.some Jvm.ClassFile.FieldType.int)) ∈ zG := zG_of 645 (by decide +kernel) (by decide +kernel)
set_option maxRecDepth 100000 in
theorem wd_649 : (Jvm.Cond.code ({ cls := "SerialRecaps", name := "recap", desc := "(III)I" } : Jvm.MethodName) prog_1_method_21_code (4 : Nat) (Option.some Jvm.ClassFile.FieldType.int)) ∈ zG := zG_of 649 (by decide +kernel) (by decide +kernel)
set_option maxRecDepth 100000 in
theorem wd_657 : (Jvm.Cond.code ({ cls := "SerialRecaps", name := "easiest", desc := "(I)I" } : Jvm.MethodName) prog_1_method_22_code (2 : Nat) (Option.some Jvm.ClassFile.FieldType.int)) ∈ zG := zG_of 657 (by decide +kernel) (by decide +kernel)
