set_option maxRecDepth 100000 in
theorem wd_666 : (Jvm.Cond.code ({ cls := "SerialRecaps", name := "enough", desc := "(I)I" } : Jvm.MethodName) prog_1_method_23_code (2 : Nat) (Option.some Jvm.ClassFile.FieldType.int)) ∈ zG := zG_of 666 (by decide +kernel) (by decide +kernel)
set_option maxRecDepth 100000 in
theorem wd_676 : (Jvm.Cond.code ({ cls := "SerialRecapsLaw", name := "refused", desc := "(LSerialRecaps;)Z" } : Jvm.MethodName) method_7_code (3 : Nat) (Option.some Jvm.ClassFile.FieldType.boolean)) ∈ zG := zG_of 676 (by rfl) (by decide +kernel)
set_option maxRecDepth 100000 in
theorem wd_680 : (Jvm.Cond.code ({ cls := "SerialRecaps", name := "digest", desc := "()J" } : Jvm.MethodName) prog_1_method_25_code (4 : Nat) (Option.some Jvm.ClassFile.FieldType.long)) ∈ zG := zG_of 680 (by decide +kernel) (by decide +kernel)
set_option maxRecDepth 100000 in
theorem wd_718 : (Jvm.Cond.code ({ cls := "SerialRecapsLaw", name := "refusesAny", desc := "(LSerialRecaps;I)Z" } : Jvm.MethodName) method_6_code (4 : Nat) (Option.some Jvm.ClassFile.FieldType.boolean)) ∈ zG := zG_of 718 (by rfl) (by decide +kernel)
set_option maxRecDepth 100000 in
theorem wd_721 : (Jvm.Cond.code ({ cls := "SerialRecapsLaw", name := "serial", desc := "()Z" } : Jvm.MethodName) method_8_code (3 : Nat) (Option.some Jvm.ClassFile.FieldType.boolean)) ∈ zG := zG_of 721 (by rfl) (by decide +kernel)
set_option maxRecDepth 100000 in
theorem wd_725 : (Jvm.Cond.code ({ cls := "SerialRecaps", name := "readShare", desc := "()D" } : Jvm.MethodName) prog_1_method_24_code (1 : Nat) (Option.some Jvm.ClassFile.FieldType.double)) ∈ zG := zG_of 725 (by decide +kernel) (by decide +kernel)
set_option maxRecDepth 100000 in
theorem wd_730 : (Jvm.Cond.code ({ cls := "SerialRecaps", name := "clearBuffer", desc := "()I" } : Jvm.MethodName) prog_1_method_11_code (2 : Nat) (Option.some Jvm.ClassFile.FieldType.int)) ∈ zG := zG_of 730 (by decide +kernel) (by decide +kernel)
set_option maxRecDepth 100000 in
theorem wd_733 : (Jvm.Cond.code ({ cls := "SerialRecapsLaw", name := "texts", desc := "()Z" } : Jvm.MethodName) method_11_code (2 : Nat) (Option.some Jvm.ClassFile.FieldType.boolean)) ∈ zG := zG_of 733 (by rfl) (by decide +kernel)
set_option maxRecDepth 100000 in
theorem wd_736 : (Jvm.Cond.code ({ cls := "SerialRecapsLaw", name := "errorOf", desc := "(JJ)I" } : Jvm.MethodName) method_10_code (7 : Nat) (Option.some Jvm.ClassFile.FieldType.int)) ∈ zG := zG_of 736 (by rfl) (by decide +kernel)
set_option maxRecDepth 100000 in
theorem wd_739 : (Jvm.Cond.code ({ cls := "SerialRecapsLaw", name := "types", desc := "(LSerialRecaps;J)Z" } : Jvm.MethodName) method_9_code (6 : Nat) (Option.some Jvm.ClassFile.FieldType.boolean)) ∈ zG := zG_of 739 (by rfl) (by decide +kernel)
set_option maxRecDepth 100000 in
theorem wd_744 : (Jvm.Cond.code ({ cls := "SerialRecaps", name := "firstError", desc := "()I" } : Jvm.MethodName) prog_1_method_12_code (1 : Nat) (Option.some Jvm.ClassFile.FieldType.int)) ∈ zG := zG_of 744 (by decide +kernel) (by decide +kernel)
set_option maxRecDepth 100000 in
theorem wd_768 : (Jvm.Cond.code ({ cls := "SerialRecapsLaw", name := "seen", desc := "(LSerialRecaps;)J" } : Jvm.MethodName) method_12_code (4 : Nat) (Option.some Jvm.ClassFile.FieldType.long)) ∈ zG := zG_of 768 (by rfl) (by decide +kernel)
