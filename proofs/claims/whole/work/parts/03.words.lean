theorem wd2 : (Jvm.Cond.initialized "MeterDesk$Source") ∈ tb := tb_of (i := 45) (by decide +kernel) rfl
theorem wd23 : (Jvm.Cond.fieldLink "MeterDesk$Source" (9 : Nat) "MeterDesk$Source" "octets" "[I") ∈ tb := tb_of (i := 66) (by decide +kernel) rfl
theorem wd25 : (Jvm.Cond.fieldLink "MeterDesk$Source" (15 : Nat) "MeterDesk$Source" "handlerParts" "[I") ∈ tb := tb_of (i := 68) (by decide +kernel) rfl
theorem wd26 : (Jvm.Cond.fieldLink "MeterDesk$Source" (18 : Nat) "MeterDesk$Source" "size" "I") ∈ tb := tb_of (i := 69) (by decide +kernel) rfl
theorem wd272 : (Jvm.Cond.methodLink "MeterDesk$Source" (25 : Nat) ({ cls := "MeterDesk$Source", name := "u1", desc := "(I)I" } : Jvm.MethodName)) ∈ tb := tb_of (i := 315) (by decide +kernel) rfl
theorem wd273 : (Jvm.Cond.instanceMethod ({ cls := "MeterDesk$Source", name := "u1", desc := "(I)I" } : Jvm.MethodName)) ∈ tb := tb_of (i := 316) (by decide +kernel) rfl
theorem wd274 : (Jvm.Cond.selects "MeterDesk$Source" ({ cls := "MeterDesk$Source", name := "u1", desc := "(I)I" } : Jvm.MethodName) ({ cls := "MeterDesk$Source", name := "u1", desc := "(I)I" } : Jvm.MethodName)) ∈ tb := tb_of (i := 317) (by decide +kernel) rfl
theorem wd275 : (Jvm.Cond.code ({ cls := "MeterDesk$Source", name := "u1", desc := "(I)I" } : Jvm.MethodName) prog_5_method_5_code (2 : Nat) (Option.some Jvm.ClassFile.FieldType.int)) ∈ tb := tb_of (i := 318) (by decide +kernel) rfl
