set_option maxRecDepth 100000 in
theorem wd_39 : (Jvm.Cond.code ({ cls := "SerialRecaps", name := "<init>", desc := "()V" } : Jvm.MethodName) prog_1_method_1_code (1 : Nat) (Option.none : Option Jvm.ClassFile.FieldType)) ∈ zG := zG_of 39 (by decide +kernel) (by decide +kernel)
set_option maxRecDepth 100000 in
theorem wd_196 : (Jvm.Cond.code ({ cls := "SerialRecaps", name := "undo", desc := "()I" } : Jvm.MethodName) prog_1_method_14_code (2 : Nat) (Option.some Jvm.ClassFile.FieldType.int)) ∈ zG := zG_of 196 (by decide +kernel) (by decide +kernel)
set_option maxRecDepth 100000 in
theorem wd_293 : (Jvm.Cond.code ({ cls := "SerialRecaps", name := "count", desc := "(I)I" } : Jvm.MethodName) prog_1_method_19_code (2 : Nat) (Option.some Jvm.ClassFile.FieldType.int)) ∈ zG := zG_of 293 (by decide +kernel) (by decide +kernel)
set_option maxRecDepth 100000 in
theorem wd_343 : (Jvm.Cond.code ({ cls := "SerialRecapsLaw", name := "part", desc := "(II)I" } : Jvm.MethodName) method_2_code (2 : Nat) (Option.some Jvm.ClassFile.FieldType.int)) ∈ zG := zG_of 343 (by rfl) (by decide +kernel)
set_option maxRecDepth 100000 in
theorem wd_347 : (Jvm.Cond.code ({ cls := "SerialRecapsLaw", name := "drawn", desc := "([II)I" } : Jvm.MethodName) method_3_code (2 : Nat) (Option.some Jvm.ClassFile.FieldType.int)) ∈ zG := zG_of 347 (by rfl) (by decide +kernel)
set_option maxRecDepth 100000 in
theorem wd_351 : (Jvm.Cond.codeWith ({ cls := "SerialRecapsLaw", name := "told", desc := "(LSerialRecaps;IIII)I" } : Jvm.MethodName) method_5_code (6 : Nat) (Option.some Jvm.ClassFile.FieldType.int) [((0 : Nat), (9 : Nat), (10 : Nat), (81 : Nat)), ((0 : Nat), (9 : Nat), (15 : Nat), (83 : Nat)), ((0 : Nat), (9 : Nat), (20 : Nat), (85 : Nat))]) ∈ zG := zG_of 351 (by rfl) (by decide +kernel)
set_option maxRecDepth 100000 in
theorem wd_357 : (Jvm.Cond.code ({ cls := "SerialRecapsLaw", name := "call", desc := "(LSerialRecaps;IIII)I" } : Jvm.MethodName) method_4_code (5 : Nat) (Option.some Jvm.ClassFile.FieldType.int)) ∈ zG := zG_of 357 (by rfl) (by decide +kernel)
set_option maxRecDepth 100000 in
theorem wd_361 : (Jvm.Cond.code ({ cls := "SerialRecaps", name := "add", desc := "(III)I" } : Jvm.MethodName) prog_1_method_2_code (4 : Nat) (Option.some Jvm.ClassFile.FieldType.int)) ∈ zG := zG_of 361 (by decide +kernel) (by decide +kernel)
set_option maxRecDepth 100000 in
theorem wd_389 : (Jvm.Cond.code ({ cls := "SerialRecaps", name := "change", desc := "(III)I" } : Jvm.MethodName) prog_1_method_3_code (4 : Nat) (Option.some Jvm.ClassFile.FieldType.int)) ∈ zG := zG_of 389 (by decide +kernel) (by decide +kernel)
set_option maxRecDepth 100000 in
theorem wd_417 : (Jvm.Cond.code ({ cls := "SerialRecaps", name := "removeLast", desc := "()I" } : Jvm.MethodName) prog_1_method_4_code (3 : Nat) (Option.some Jvm.ClassFile.FieldType.int)) ∈ zG := zG_of 417 (by decide +kernel) (by decide +kernel)
set_option maxRecDepth 100000 in
theorem wd_441 : (Jvm.Cond.code ({ cls := "SerialRecaps", name := "set", desc := "(II)I" } : Jvm.MethodName) prog_1_method_5_code (6 : Nat) (Option.some Jvm.ClassFile.FieldType.int)) ∈ zG := zG_of 441 (by decide +kernel) (by decide +kernel)
set_option maxRecDepth 100000 in
theorem wd_450 : (Jvm.Cond.code ({ cls := "SerialRecaps", name := "mail", desc := "(II)I" } : Jvm.MethodName) prog_1_method_6_code (3 : Nat) (Option.some Jvm.ClassFile.FieldType.int)) ∈ zG := zG_of 450 (by decide +kernel) (by decide +kernel)
