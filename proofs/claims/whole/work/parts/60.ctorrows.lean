theorem wd14 : (Jvm.Cond.methodLink "MeterDesk" (1 : Nat) ({ cls := "java/lang/Object", name := "<init>", desc := "()V" } : Jvm.MethodName)) ∈ tb := tb_of (i := 57) (by decide +kernel) rfl
theorem wd15 : (Jvm.Cond.instanceMethod ({ cls := "java/lang/Object", name := "<init>", desc := "()V" } : Jvm.MethodName)) ∈ tb := tb_of (i := 58) (by decide +kernel) rfl
theorem wd16 : (Jvm.Cond.code ({ cls := "java/lang/Object", name := "<init>", desc := "()V" } : Jvm.MethodName) object_method_1_code (1 : Nat) (Option.none : Option Jvm.ClassFile.FieldType)) ∈ tb := tb_of (i := 59) (by decide +kernel) rfl
theorem wd17 : (Jvm.Cond.classLink "MeterDesk" (7 : Nat) "MeterDesk$Source") ∈ tb := tb_of (i := 60) (by decide +kernel) rfl
theorem wd18 : (Jvm.Cond.instantiable "MeterDesk$Source" (4 : Nat)) ∈ tb := tb_of (i := 61) (by decide +kernel) rfl
theorem wd20 : (Jvm.Cond.instanceMethod ({ cls := "MeterDesk$Source", name := "<init>", desc := "()V" } : Jvm.MethodName)) ∈ tb := tb_of (i := 63) (by decide +kernel) rfl
theorem wd21 : (Jvm.Cond.code ({ cls := "MeterDesk$Source", name := "<init>", desc := "()V" } : Jvm.MethodName) prog_5_method_1_code (1 : Nat) (Option.none : Option Jvm.ClassFile.FieldType)) ∈ tb := tb_of (i := 64) (by decide +kernel) rfl
theorem wd22 : (Jvm.Cond.methodLink "MeterDesk$Source" (3 : Nat) ({ cls := "java/lang/Object", name := "<init>", desc := "()V" } : Jvm.MethodName)) ∈ tb := tb_of (i := 65) (by decide +kernel) rfl
theorem wd42 : (Jvm.Cond.arrayClass Jvm.ClassFile.FieldType.int) ∈ tb := tb_of (i := 85) (by decide +kernel) rfl
theorem wd43 : (Jvm.Cond.classLink "MeterDesk" (10 : Nat) "MeterDesk$Tariff") ∈ tb := tb_of (i := 86) (by decide +kernel) rfl
theorem wd44 : (Jvm.Cond.instantiable "MeterDesk$Tariff" (4 : Nat)) ∈ tb := tb_of (i := 87) (by decide +kernel) rfl
theorem wd45 : (Jvm.Cond.methodLink "MeterDesk" (12 : Nat) ({ cls := "MeterDesk$Tariff", name := "<init>", desc := "()V" } : Jvm.MethodName)) ∈ tb := tb_of (i := 88) (by decide +kernel) rfl
theorem wd46 : (Jvm.Cond.instanceMethod ({ cls := "MeterDesk$Tariff", name := "<init>", desc := "()V" } : Jvm.MethodName)) ∈ tb := tb_of (i := 89) (by decide +kernel) rfl
theorem wd47 : (Jvm.Cond.code ({ cls := "MeterDesk$Tariff", name := "<init>", desc := "()V" } : Jvm.MethodName) prog_6_method_1_code (1 : Nat) (Option.none : Option Jvm.ClassFile.FieldType)) ∈ tb := tb_of (i := 90) (by decide +kernel) rfl
theorem wd48 : (Jvm.Cond.methodLink "MeterDesk$Tariff" (3 : Nat) ({ cls := "java/lang/Object", name := "<init>", desc := "()V" } : Jvm.MethodName)) ∈ tb := tb_of (i := 91) (by decide +kernel) rfl
theorem wd49 : (Jvm.Cond.methodLink "MeterDesk$Tariff" (26 : Nat) ({ cls := "java/util/Arrays", name := "fill", desc := "([II)V" } : Jvm.MethodName)) ∈ tb := tb_of (i := 92) (by decide +kernel) rfl
theorem wd52 : (Jvm.Cond.fieldLink "MeterDesk$Tariff" (9 : Nat) "MeterDesk$Tariff" "costs" "[I") ∈ tb := tb_of (i := 95) (by decide +kernel) rfl
theorem wd57 : (Jvm.Cond.fieldLink "MeterDesk$Tariff" (19 : Nat) "MeterDesk$Tariff" "base" "I") ∈ tb := tb_of (i := 100) (by decide +kernel) rfl
theorem wd60 : (Jvm.Cond.fieldLink "MeterDesk$Tariff" (23 : Nat) "MeterDesk$Tariff" "reach" "I") ∈ tb := tb_of (i := 103) (by decide +kernel) rfl
theorem wd72 : (Jvm.Cond.arrayClass Jvm.ClassFile.FieldType.boolean) ∈ tb := tb_of (i := 115) (by decide +kernel) rfl
theorem wd73 : (Jvm.Cond.classLink "MeterDesk" (13 : Nat) "MeterDesk$Layout") ∈ tb := tb_of (i := 116) (by decide +kernel) rfl
theorem wd74 : (Jvm.Cond.instantiable "MeterDesk$Layout" (16 : Nat)) ∈ tb := tb_of (i := 117) (by decide +kernel) rfl
theorem wd75 : (Jvm.Cond.methodLink "MeterDesk" (15 : Nat) ({ cls := "MeterDesk$Layout", name := "<init>", desc := "(LMeterDesk$Source;LMeterDesk$Tariff;)V" } : Jvm.MethodName)) ∈ tb := tb_of (i := 118) (by decide +kernel) rfl
theorem wd76 : (Jvm.Cond.instanceMethod ({ cls := "MeterDesk$Layout", name := "<init>", desc := "(LMeterDesk$Source;LMeterDesk$Tariff;)V" } : Jvm.MethodName)) ∈ tb := tb_of (i := 119) (by decide +kernel) rfl
theorem wd77 : (Jvm.Cond.code ({ cls := "MeterDesk$Layout", name := "<init>", desc := "(LMeterDesk$Source;LMeterDesk$Tariff;)V" } : Jvm.MethodName) prog_2_method_1_code (3 : Nat) (Option.none : Option Jvm.ClassFile.FieldType)) ∈ tb := tb_of (i := 120) (by decide +kernel) rfl
theorem wd78 : (Jvm.Cond.methodLink "MeterDesk$Layout" (3 : Nat) ({ cls := "java/lang/Object", name := "<init>", desc := "()V" } : Jvm.MethodName)) ∈ tb := tb_of (i := 121) (by decide +kernel) rfl
theorem wd148 : (Jvm.Cond.classLink "MeterDesk" (32 : Nat) "MeterDesk$Output") ∈ tb := tb_of (i := 191) (by decide +kernel) rfl
theorem wd149 : (Jvm.Cond.instantiable "MeterDesk$Output" (9 : Nat)) ∈ tb := tb_of (i := 192) (by decide +kernel) rfl
theorem wd150 : (Jvm.Cond.methodLink "MeterDesk" (34 : Nat) ({ cls := "MeterDesk$Output", name := "<init>", desc := "(LMeterDesk$Source;LMeterDesk$Tariff;LMeterDesk$Layout;)V" } : Jvm.MethodName)) ∈ tb := tb_of (i := 193) (by decide +kernel) rfl
theorem wd151 : (Jvm.Cond.instanceMethod ({ cls := "MeterDesk$Output", name := "<init>", desc := "(LMeterDesk$Source;LMeterDesk$Tariff;LMeterDesk$Layout;)V" } : Jvm.MethodName)) ∈ tb := tb_of (i := 194) (by decide +kernel) rfl
theorem wd152 : (Jvm.Cond.code ({ cls := "MeterDesk$Output", name := "<init>", desc := "(LMeterDesk$Source;LMeterDesk$Tariff;LMeterDesk$Layout;)V" } : Jvm.MethodName) prog_4_method_1_code (4 : Nat) (Option.none : Option Jvm.ClassFile.FieldType)) ∈ tb := tb_of (i := 195) (by decide +kernel) rfl
theorem wd153 : (Jvm.Cond.methodLink "MeterDesk$Output" (3 : Nat) ({ cls := "java/lang/Object", name := "<init>", desc := "()V" } : Jvm.MethodName)) ∈ tb := tb_of (i := 196) (by decide +kernel) rfl
theorem wd490 : (Jvm.Cond.methodLink "MeterDeskModel" (1 : Nat) ({ cls := "java/lang/Object", name := "<init>", desc := "()V" } : Jvm.MethodName)) ∈ tb := tb_of (i := 533) (by decide +kernel) rfl
theorem d_Source_init_0 : decode prog_5_method_1_code 0 = .ok (.aload_n 0, 1) := by decide +kernel
theorem d_Source_init_1 : decode prog_5_method_1_code 1 = .ok (.invokespecial 3, 3) := by decide +kernel
theorem d_Source_init_4 : decode prog_5_method_1_code 4 = .ok (.aload_n 0, 1) := by decide +kernel
theorem d_Source_init_5 : decode prog_5_method_1_code 5 = .ok (.sipush 200, 3) := by decide +kernel
theorem d_Source_init_8 : decode prog_5_method_1_code 8 = .ok (.newarray .int, 2) := by decide +kernel
theorem d_Source_init_10 : decode prog_5_method_1_code 10 = .ok (.putfield 9, 3) := by decide +kernel
theorem d_Source_init_13 : decode prog_5_method_1_code 13 = .ok (.aload_n 0, 1) := by decide +kernel
theorem d_Source_init_14 : decode prog_5_method_1_code 14 = .ok (.bipush 16, 2) := by decide +kernel
theorem d_Source_init_16 : decode prog_5_method_1_code 16 = .ok (.newarray .int, 2) := by decide +kernel
theorem d_Source_init_18 : decode prog_5_method_1_code 18 = .ok (.putfield 15, 3) := by decide +kernel
theorem d_Source_init_21 : decode prog_5_method_1_code 21 = .ok (.return_, 1) := by decide +kernel
theorem d_Tariff_init_0 : decode prog_6_method_1_code 0 = .ok (.aload_n 0, 1) := by decide +kernel
theorem d_Tariff_init_1 : decode prog_6_method_1_code 1 = .ok (.invokespecial 3, 3) := by decide +kernel
theorem d_Tariff_init_4 : decode prog_6_method_1_code 4 = .ok (.aload_n 0, 1) := by decide +kernel
theorem d_Tariff_init_5 : decode prog_6_method_1_code 5 = .ok (.sipush 201, 3) := by decide +kernel
theorem d_Tariff_init_8 : decode prog_6_method_1_code 8 = .ok (.newarray .int, 2) := by decide +kernel
theorem d_Tariff_init_10 : decode prog_6_method_1_code 10 = .ok (.putfield 9, 3) := by decide +kernel
theorem d_Tariff_init_13 : decode prog_6_method_1_code 13 = .ok (.aload_n 0, 1) := by decide +kernel
theorem d_Tariff_init_14 : decode prog_6_method_1_code 14 = .ok (.sipush 256, 3) := by decide +kernel
theorem d_Tariff_init_17 : decode prog_6_method_1_code 17 = .ok (.newarray .boolean, 2) := by decide +kernel
theorem d_Tariff_init_19 : decode prog_6_method_1_code 19 = .ok (.putfield 15, 3) := by decide +kernel
theorem d_Tariff_init_22 : decode prog_6_method_1_code 22 = .ok (.aload_n 0, 1) := by decide +kernel
theorem d_Tariff_init_23 : decode prog_6_method_1_code 23 = .ok (.sipush 1000, 3) := by decide +kernel
theorem d_Tariff_init_26 : decode prog_6_method_1_code 26 = .ok (.putfield 19, 3) := by decide +kernel
theorem d_Tariff_init_29 : decode prog_6_method_1_code 29 = .ok (.aload_n 0, 1) := by decide +kernel
theorem d_Tariff_init_30 : decode prog_6_method_1_code 30 = .ok (.sipush 32767, 3) := by decide +kernel
theorem d_Tariff_init_33 : decode prog_6_method_1_code 33 = .ok (.putfield 23, 3) := by decide +kernel
theorem d_Tariff_init_36 : decode prog_6_method_1_code 36 = .ok (.aload_n 0, 1) := by decide +kernel
theorem d_Tariff_init_37 : decode prog_6_method_1_code 37 = .ok (.getfield 9, 3) := by decide +kernel
theorem d_Tariff_init_40 : decode prog_6_method_1_code 40 = .ok (.iconst 1, 1) := by decide +kernel
theorem d_Tariff_init_41 : decode prog_6_method_1_code 41 = .ok (.invokestatic 26, 3) := by decide +kernel
theorem d_Tariff_init_44 : decode prog_6_method_1_code 44 = .ok (.return_, 1) := by decide +kernel
theorem d_Layout_init_0 : decode prog_2_method_1_code 0 = .ok (.aload_n 0, 1) := by decide +kernel
theorem d_Layout_init_1 : decode prog_2_method_1_code 1 = .ok (.invokespecial 3, 3) := by decide +kernel
theorem d_Layout_init_4 : decode prog_2_method_1_code 4 = .ok (.aload_n 0, 1) := by decide +kernel
theorem d_Layout_init_5 : decode prog_2_method_1_code 5 = .ok (.sipush 200, 3) := by decide +kernel
theorem d_Layout_init_8 : decode prog_2_method_1_code 8 = .ok (.newarray .int, 2) := by decide +kernel
theorem d_Layout_init_10 : decode prog_2_method_1_code 10 = .ok (.putfield 9, 3) := by decide +kernel
theorem d_Layout_init_13 : decode prog_2_method_1_code 13 = .ok (.aload_n 0, 1) := by decide +kernel
theorem d_Layout_init_14 : decode prog_2_method_1_code 14 = .ok (.sipush 201, 3) := by decide +kernel
theorem d_Layout_init_17 : decode prog_2_method_1_code 17 = .ok (.newarray .int, 2) := by decide +kernel
theorem d_Layout_init_19 : decode prog_2_method_1_code 19 = .ok (.putfield 15, 3) := by decide +kernel
theorem d_Layout_init_22 : decode prog_2_method_1_code 22 = .ok (.aload_n 0, 1) := by decide +kernel
theorem d_Layout_init_23 : decode prog_2_method_1_code 23 = .ok (.sipush 201, 3) := by decide +kernel
theorem d_Layout_init_26 : decode prog_2_method_1_code 26 = .ok (.newarray .int, 2) := by decide +kernel
theorem d_Layout_init_28 : decode prog_2_method_1_code 28 = .ok (.putfield 18, 3) := by decide +kernel
theorem d_Layout_init_31 : decode prog_2_method_1_code 31 = .ok (.aload_n 0, 1) := by decide +kernel
theorem d_Layout_init_32 : decode prog_2_method_1_code 32 = .ok (.sipush 201, 3) := by decide +kernel
theorem d_Layout_init_35 : decode prog_2_method_1_code 35 = .ok (.newarray .int, 2) := by decide +kernel
theorem d_Layout_init_37 : decode prog_2_method_1_code 37 = .ok (.putfield 21, 3) := by decide +kernel
theorem d_Layout_init_40 : decode prog_2_method_1_code 40 = .ok (.aload_n 0, 1) := by decide +kernel
theorem d_Layout_init_41 : decode prog_2_method_1_code 41 = .ok (.sipush 201, 3) := by decide +kernel
theorem d_Layout_init_44 : decode prog_2_method_1_code 44 = .ok (.newarray .boolean, 2) := by decide +kernel
theorem d_Layout_init_46 : decode prog_2_method_1_code 46 = .ok (.putfield 24, 3) := by decide +kernel
theorem d_Layout_init_49 : decode prog_2_method_1_code 49 = .ok (.aload_n 0, 1) := by decide +kernel
theorem d_Layout_init_50 : decode prog_2_method_1_code 50 = .ok (.sipush 201, 3) := by decide +kernel
theorem d_Layout_init_53 : decode prog_2_method_1_code 53 = .ok (.newarray .int, 2) := by decide +kernel
theorem d_Layout_init_55 : decode prog_2_method_1_code 55 = .ok (.putfield 28, 3) := by decide +kernel
theorem d_Layout_init_58 : decode prog_2_method_1_code 58 = .ok (.aload_n 0, 1) := by decide +kernel
theorem d_Layout_init_59 : decode prog_2_method_1_code 59 = .ok (.sipush 201, 3) := by decide +kernel
theorem d_Layout_init_62 : decode prog_2_method_1_code 62 = .ok (.newarray .int, 2) := by decide +kernel
theorem d_Layout_init_64 : decode prog_2_method_1_code 64 = .ok (.putfield 31, 3) := by decide +kernel
theorem d_Layout_init_67 : decode prog_2_method_1_code 67 = .ok (.aload_n 0, 1) := by decide +kernel
theorem d_Layout_init_68 : decode prog_2_method_1_code 68 = .ok (.sipush 201, 3) := by decide +kernel
theorem d_Layout_init_71 : decode prog_2_method_1_code 71 = .ok (.newarray .int, 2) := by decide +kernel
theorem d_Layout_init_73 : decode prog_2_method_1_code 73 = .ok (.putfield 34, 3) := by decide +kernel
theorem d_Layout_init_76 : decode prog_2_method_1_code 76 = .ok (.aload_n 0, 1) := by decide +kernel
theorem d_Layout_init_77 : decode prog_2_method_1_code 77 = .ok (.sipush 201, 3) := by decide +kernel
theorem d_Layout_init_80 : decode prog_2_method_1_code 80 = .ok (.newarray .boolean, 2) := by decide +kernel
theorem d_Layout_init_82 : decode prog_2_method_1_code 82 = .ok (.putfield 37, 3) := by decide +kernel
theorem d_Layout_init_85 : decode prog_2_method_1_code 85 = .ok (.aload_n 0, 1) := by decide +kernel
theorem d_Layout_init_86 : decode prog_2_method_1_code 86 = .ok (.aload_n 1, 1) := by decide +kernel
theorem d_Layout_init_87 : decode prog_2_method_1_code 87 = .ok (.putfield 40, 3) := by decide +kernel
theorem d_Layout_init_90 : decode prog_2_method_1_code 90 = .ok (.aload_n 0, 1) := by decide +kernel
theorem d_Layout_init_91 : decode prog_2_method_1_code 91 = .ok (.aload_n 2, 1) := by decide +kernel
theorem d_Layout_init_92 : decode prog_2_method_1_code 92 = .ok (.putfield 44, 3) := by decide +kernel
theorem d_Layout_init_95 : decode prog_2_method_1_code 95 = .ok (.return_, 1) := by decide +kernel
theorem d_Output_init_0 : decode prog_4_method_1_code 0 = .ok (.aload_n 0, 1) := by decide +kernel
theorem d_Output_init_1 : decode prog_4_method_1_code 1 = .ok (.invokespecial 3, 3) := by decide +kernel
theorem d_Output_init_4 : decode prog_4_method_1_code 4 = .ok (.aload_n 0, 1) := by decide +kernel
theorem d_Output_init_5 : decode prog_4_method_1_code 5 = .ok (.sipush 1200, 3) := by decide +kernel
theorem d_Output_init_8 : decode prog_4_method_1_code 8 = .ok (.newarray .int, 2) := by decide +kernel
theorem d_Output_init_10 : decode prog_4_method_1_code 10 = .ok (.putfield 9, 3) := by decide +kernel
theorem d_Output_init_13 : decode prog_4_method_1_code 13 = .ok (.aload_n 0, 1) := by decide +kernel
theorem d_Output_init_14 : decode prog_4_method_1_code 14 = .ok (.bipush 16, 2) := by decide +kernel
theorem d_Output_init_16 : decode prog_4_method_1_code 16 = .ok (.newarray .int, 2) := by decide +kernel
theorem d_Output_init_18 : decode prog_4_method_1_code 18 = .ok (.putfield 17, 3) := by decide +kernel
theorem d_Output_init_21 : decode prog_4_method_1_code 21 = .ok (.aload_n 0, 1) := by decide +kernel
theorem d_Output_init_22 : decode prog_4_method_1_code 22 = .ok (.aload_n 1, 1) := by decide +kernel
theorem d_Output_init_23 : decode prog_4_method_1_code 23 = .ok (.putfield 20, 3) := by decide +kernel
theorem d_Output_init_26 : decode prog_4_method_1_code 26 = .ok (.aload_n 0, 1) := by decide +kernel
theorem d_Output_init_27 : decode prog_4_method_1_code 27 = .ok (.aload_n 2, 1) := by decide +kernel
theorem d_Output_init_28 : decode prog_4_method_1_code 28 = .ok (.putfield 24, 3) := by decide +kernel
theorem d_Output_init_31 : decode prog_4_method_1_code 31 = .ok (.aload_n 0, 1) := by decide +kernel
theorem d_Output_init_32 : decode prog_4_method_1_code 32 = .ok (.aload_n 3, 1) := by decide +kernel
theorem d_Output_init_33 : decode prog_4_method_1_code 33 = .ok (.putfield 28, 3) := by decide +kernel
theorem d_Output_init_36 : decode prog_4_method_1_code 36 = .ok (.return_, 1) := by decide +kernel
theorem d_Desk_init_0 : decode prog_1_method_1_code 0 = .ok (.aload_n 0, 1) := by decide +kernel
theorem d_Desk_init_1 : decode prog_1_method_1_code 1 = .ok (.invokespecial 1, 3) := by decide +kernel
theorem d_Desk_init_4 : decode prog_1_method_1_code 4 = .ok (.new 7, 3) := by decide +kernel
theorem d_Desk_init_7 : decode prog_1_method_1_code 7 = .ok (.dup, 1) := by decide +kernel
theorem d_Desk_init_8 : decode prog_1_method_1_code 8 = .ok (.invokespecial 9, 3) := by decide +kernel
theorem d_Desk_init_11 : decode prog_1_method_1_code 11 = .ok (.astore_n 1, 1) := by decide +kernel
theorem d_Desk_init_12 : decode prog_1_method_1_code 12 = .ok (.new 10, 3) := by decide +kernel
theorem d_Desk_init_15 : decode prog_1_method_1_code 15 = .ok (.dup, 1) := by decide +kernel
theorem d_Desk_init_16 : decode prog_1_method_1_code 16 = .ok (.invokespecial 12, 3) := by decide +kernel
theorem d_Desk_init_19 : decode prog_1_method_1_code 19 = .ok (.astore_n 2, 1) := by decide +kernel
theorem d_Desk_init_20 : decode prog_1_method_1_code 20 = .ok (.new 13, 3) := by decide +kernel
theorem d_Desk_init_23 : decode prog_1_method_1_code 23 = .ok (.dup, 1) := by decide +kernel
theorem d_Desk_init_24 : decode prog_1_method_1_code 24 = .ok (.aload_n 1, 1) := by decide +kernel
theorem d_Desk_init_25 : decode prog_1_method_1_code 25 = .ok (.aload_n 2, 1) := by decide +kernel
theorem d_Desk_init_26 : decode prog_1_method_1_code 26 = .ok (.invokespecial 15, 3) := by decide +kernel
theorem d_Desk_init_29 : decode prog_1_method_1_code 29 = .ok (.astore_n 3, 1) := by decide +kernel
theorem d_Desk_init_30 : decode prog_1_method_1_code 30 = .ok (.aload_n 0, 1) := by decide +kernel
theorem d_Desk_init_31 : decode prog_1_method_1_code 31 = .ok (.aload_n 1, 1) := by decide +kernel
theorem d_Desk_init_32 : decode prog_1_method_1_code 32 = .ok (.putfield 18, 3) := by decide +kernel
theorem d_Desk_init_35 : decode prog_1_method_1_code 35 = .ok (.aload_n 0, 1) := by decide +kernel
theorem d_Desk_init_36 : decode prog_1_method_1_code 36 = .ok (.aload_n 2, 1) := by decide +kernel
theorem d_Desk_init_37 : decode prog_1_method_1_code 37 = .ok (.putfield 24, 3) := by decide +kernel
theorem d_Desk_init_40 : decode prog_1_method_1_code 40 = .ok (.aload_n 0, 1) := by decide +kernel
theorem d_Desk_init_41 : decode prog_1_method_1_code 41 = .ok (.aload_n 3, 1) := by decide +kernel
theorem d_Desk_init_42 : decode prog_1_method_1_code 42 = .ok (.putfield 28, 3) := by decide +kernel
theorem d_Desk_init_45 : decode prog_1_method_1_code 45 = .ok (.aload_n 0, 1) := by decide +kernel
theorem d_Desk_init_46 : decode prog_1_method_1_code 46 = .ok (.new 32, 3) := by decide +kernel
theorem d_Desk_init_49 : decode prog_1_method_1_code 49 = .ok (.dup, 1) := by decide +kernel
theorem d_Desk_init_50 : decode prog_1_method_1_code 50 = .ok (.aload_n 1, 1) := by decide +kernel
theorem d_Desk_init_51 : decode prog_1_method_1_code 51 = .ok (.aload_n 2, 1) := by decide +kernel
theorem d_Desk_init_52 : decode prog_1_method_1_code 52 = .ok (.aload_n 3, 1) := by decide +kernel
theorem d_Desk_init_53 : decode prog_1_method_1_code 53 = .ok (.invokespecial 34, 3) := by decide +kernel
theorem d_Desk_init_56 : decode prog_1_method_1_code 56 = .ok (.putfield 37, 3) := by decide +kernel
theorem d_Desk_init_59 : decode prog_1_method_1_code 59 = .ok (.return_, 1) := by decide +kernel
theorem d_Model_init_0 : decode prog_8_method_1_code 0 = .ok (.aload_n 0, 1) := by decide +kernel
theorem d_Model_init_1 : decode prog_8_method_1_code 1 = .ok (.invokespecial 1, 3) := by decide +kernel
theorem d_Model_init_4 : decode prog_8_method_1_code 4 = .ok (.aload_n 0, 1) := by decide +kernel
theorem d_Model_init_5 : decode prog_8_method_1_code 5 = .ok (.sipush 200, 3) := by decide +kernel
theorem d_Model_init_8 : decode prog_8_method_1_code 8 = .ok (.newarray .int, 2) := by decide +kernel
theorem d_Model_init_10 : decode prog_8_method_1_code 10 = .ok (.putfield 7, 3) := by decide +kernel
theorem d_Model_init_13 : decode prog_8_method_1_code 13 = .ok (.aload_n 0, 1) := by decide +kernel
theorem d_Model_init_14 : decode prog_8_method_1_code 14 = .ok (.iconst 4, 1) := by decide +kernel
theorem d_Model_init_15 : decode prog_8_method_1_code 15 = .ok (.newarray .int, 2) := by decide +kernel
theorem d_Model_init_17 : decode prog_8_method_1_code 17 = .ok (.putfield 13, 3) := by decide +kernel
theorem d_Model_init_20 : decode prog_8_method_1_code 20 = .ok (.aload_n 0, 1) := by decide +kernel
theorem d_Model_init_21 : decode prog_8_method_1_code 21 = .ok (.iconst 4, 1) := by decide +kernel
theorem d_Model_init_22 : decode prog_8_method_1_code 22 = .ok (.newarray .int, 2) := by decide +kernel
theorem d_Model_init_24 : decode prog_8_method_1_code 24 = .ok (.putfield 16, 3) := by decide +kernel
theorem d_Model_init_27 : decode prog_8_method_1_code 27 = .ok (.aload_n 0, 1) := by decide +kernel
theorem d_Model_init_28 : decode prog_8_method_1_code 28 = .ok (.iconst 4, 1) := by decide +kernel
theorem d_Model_init_29 : decode prog_8_method_1_code 29 = .ok (.newarray .int, 2) := by decide +kernel
theorem d_Model_init_31 : decode prog_8_method_1_code 31 = .ok (.putfield 19, 3) := by decide +kernel
theorem d_Model_init_34 : decode prog_8_method_1_code 34 = .ok (.aload_n 0, 1) := by decide +kernel
theorem d_Model_init_35 : decode prog_8_method_1_code 35 = .ok (.iconst 4, 1) := by decide +kernel
theorem d_Model_init_36 : decode prog_8_method_1_code 36 = .ok (.newarray .int, 2) := by decide +kernel
theorem d_Model_init_38 : decode prog_8_method_1_code 38 = .ok (.putfield 22, 3) := by decide +kernel
theorem d_Model_init_41 : decode prog_8_method_1_code 41 = .ok (.aload_n 0, 1) := by decide +kernel
theorem d_Model_init_42 : decode prog_8_method_1_code 42 = .ok (.sipush 201, 3) := by decide +kernel
theorem d_Model_init_45 : decode prog_8_method_1_code 45 = .ok (.newarray .int, 2) := by decide +kernel
theorem d_Model_init_47 : decode prog_8_method_1_code 47 = .ok (.putfield 25, 3) := by decide +kernel
theorem d_Model_init_50 : decode prog_8_method_1_code 50 = .ok (.aload_n 0, 1) := by decide +kernel
theorem d_Model_init_51 : decode prog_8_method_1_code 51 = .ok (.sipush 256, 3) := by decide +kernel
theorem d_Model_init_54 : decode prog_8_method_1_code 54 = .ok (.newarray .boolean, 2) := by decide +kernel
theorem d_Model_init_56 : decode prog_8_method_1_code 56 = .ok (.putfield 28, 3) := by decide +kernel
theorem d_Model_init_59 : decode prog_8_method_1_code 59 = .ok (.aload_n 0, 1) := by decide +kernel
theorem d_Model_init_60 : decode prog_8_method_1_code 60 = .ok (.sipush 1000, 3) := by decide +kernel
theorem d_Model_init_63 : decode prog_8_method_1_code 63 = .ok (.putfield 32, 3) := by decide +kernel
theorem d_Model_init_66 : decode prog_8_method_1_code 66 = .ok (.aload_n 0, 1) := by decide +kernel
theorem d_Model_init_67 : decode prog_8_method_1_code 67 = .ok (.sipush 32767, 3) := by decide +kernel
theorem d_Model_init_70 : decode prog_8_method_1_code 70 = .ok (.putfield 36, 3) := by decide +kernel
theorem d_Model_init_73 : decode prog_8_method_1_code 73 = .ok (.aload_n 0, 1) := by decide +kernel
theorem d_Model_init_74 : decode prog_8_method_1_code 74 = .ok (.sipush 201, 3) := by decide +kernel
theorem d_Model_init_77 : decode prog_8_method_1_code 77 = .ok (.newarray .boolean, 2) := by decide +kernel
theorem d_Model_init_79 : decode prog_8_method_1_code 79 = .ok (.putfield 39, 3) := by decide +kernel
theorem d_Model_init_82 : decode prog_8_method_1_code 82 = .ok (.aload_n 0, 1) := by decide +kernel
theorem d_Model_init_83 : decode prog_8_method_1_code 83 = .ok (.sipush 201, 3) := by decide +kernel
theorem d_Model_init_86 : decode prog_8_method_1_code 86 = .ok (.newarray .boolean, 2) := by decide +kernel
theorem d_Model_init_88 : decode prog_8_method_1_code 88 = .ok (.putfield 42, 3) := by decide +kernel
theorem d_Model_init_91 : decode prog_8_method_1_code 91 = .ok (.aload_n 0, 1) := by decide +kernel
theorem d_Model_init_92 : decode prog_8_method_1_code 92 = .ok (.sipush 200, 3) := by decide +kernel
theorem d_Model_init_95 : decode prog_8_method_1_code 95 = .ok (.newarray .int, 2) := by decide +kernel
theorem d_Model_init_97 : decode prog_8_method_1_code 97 = .ok (.putfield 45, 3) := by decide +kernel
theorem d_Model_init_100 : decode prog_8_method_1_code 100 = .ok (.aload_n 0, 1) := by decide +kernel
theorem d_Model_init_101 : decode prog_8_method_1_code 101 = .ok (.sipush 201, 3) := by decide +kernel
theorem d_Model_init_104 : decode prog_8_method_1_code 104 = .ok (.newarray .int, 2) := by decide +kernel
theorem d_Model_init_106 : decode prog_8_method_1_code 106 = .ok (.putfield 48, 3) := by decide +kernel
theorem d_Model_init_109 : decode prog_8_method_1_code 109 = .ok (.aload_n 0, 1) := by decide +kernel
theorem d_Model_init_110 : decode prog_8_method_1_code 110 = .ok (.sipush 201, 3) := by decide +kernel
theorem d_Model_init_113 : decode prog_8_method_1_code 113 = .ok (.newarray .int, 2) := by decide +kernel
theorem d_Model_init_115 : decode prog_8_method_1_code 115 = .ok (.putfield 51, 3) := by decide +kernel
theorem d_Model_init_118 : decode prog_8_method_1_code 118 = .ok (.aload_n 0, 1) := by decide +kernel
theorem d_Model_init_119 : decode prog_8_method_1_code 119 = .ok (.sipush 201, 3) := by decide +kernel
theorem d_Model_init_122 : decode prog_8_method_1_code 122 = .ok (.newarray .int, 2) := by decide +kernel
theorem d_Model_init_124 : decode prog_8_method_1_code 124 = .ok (.putfield 54, 3) := by decide +kernel
theorem d_Model_init_127 : decode prog_8_method_1_code 127 = .ok (.aload_n 0, 1) := by decide +kernel
theorem d_Model_init_128 : decode prog_8_method_1_code 128 = .ok (.sipush 201, 3) := by decide +kernel
theorem d_Model_init_131 : decode prog_8_method_1_code 131 = .ok (.newarray .int, 2) := by decide +kernel
theorem d_Model_init_133 : decode prog_8_method_1_code 133 = .ok (.putfield 57, 3) := by decide +kernel
theorem d_Model_init_136 : decode prog_8_method_1_code 136 = .ok (.aload_n 0, 1) := by decide +kernel
theorem d_Model_init_137 : decode prog_8_method_1_code 137 = .ok (.sipush 1300, 3) := by decide +kernel
theorem d_Model_init_140 : decode prog_8_method_1_code 140 = .ok (.newarray .int, 2) := by decide +kernel
theorem d_Model_init_142 : decode prog_8_method_1_code 142 = .ok (.putfield 60, 3) := by decide +kernel
theorem d_Model_init_145 : decode prog_8_method_1_code 145 = .ok (.aload_n 0, 1) := by decide +kernel
theorem d_Model_init_146 : decode prog_8_method_1_code 146 = .ok (.iconst 4, 1) := by decide +kernel
theorem d_Model_init_147 : decode prog_8_method_1_code 147 = .ok (.newarray .int, 2) := by decide +kernel
theorem d_Model_init_149 : decode prog_8_method_1_code 149 = .ok (.putfield 63, 3) := by decide +kernel
theorem d_Model_init_152 : decode prog_8_method_1_code 152 = .ok (.aload_n 0, 1) := by decide +kernel
theorem d_Model_init_153 : decode prog_8_method_1_code 153 = .ok (.iconst 4, 1) := by decide +kernel
theorem d_Model_init_154 : decode prog_8_method_1_code 154 = .ok (.newarray .int, 2) := by decide +kernel
theorem d_Model_init_156 : decode prog_8_method_1_code 156 = .ok (.putfield 66, 3) := by decide +kernel
theorem d_Model_init_159 : decode prog_8_method_1_code 159 = .ok (.aload_n 0, 1) := by decide +kernel
theorem d_Model_init_160 : decode prog_8_method_1_code 160 = .ok (.iconst 4, 1) := by decide +kernel
theorem d_Model_init_161 : decode prog_8_method_1_code 161 = .ok (.newarray .int, 2) := by decide +kernel
theorem d_Model_init_163 : decode prog_8_method_1_code 163 = .ok (.putfield 69, 3) := by decide +kernel
theorem d_Model_init_166 : decode prog_8_method_1_code 166 = .ok (.aload_n 0, 1) := by decide +kernel
theorem d_Model_init_167 : decode prog_8_method_1_code 167 = .ok (.iconst 4, 1) := by decide +kernel
theorem d_Model_init_168 : decode prog_8_method_1_code 168 = .ok (.newarray .int, 2) := by decide +kernel
theorem d_Model_init_170 : decode prog_8_method_1_code 170 = .ok (.putfield 72, 3) := by decide +kernel
theorem d_Model_init_173 : decode prog_8_method_1_code 173 = .ok (.iconst 0, 1) := by decide +kernel
theorem d_Model_init_174 : decode prog_8_method_1_code 174 = .ok (.istore_n 1, 1) := by decide +kernel
theorem d_Model_init_175 : decode prog_8_method_1_code 175 = .ok (.iload_n 1, 1) := by decide +kernel
theorem d_Model_init_176 : decode prog_8_method_1_code 176 = .ok (.sipush 201, 3) := by decide +kernel
theorem d_Model_init_179 : decode prog_8_method_1_code 179 = .ok (.if_icmp .ge 16, 3) := by decide +kernel
theorem d_Model_init_182 : decode prog_8_method_1_code 182 = .ok (.aload_n 0, 1) := by decide +kernel
theorem d_Model_init_183 : decode prog_8_method_1_code 183 = .ok (.getfield 25, 3) := by decide +kernel
theorem d_Model_init_186 : decode prog_8_method_1_code 186 = .ok (.iload_n 1, 1) := by decide +kernel
theorem d_Model_init_187 : decode prog_8_method_1_code 187 = .ok (.iconst 1, 1) := by decide +kernel
theorem d_Model_init_188 : decode prog_8_method_1_code 188 = .ok (.iastore, 1) := by decide +kernel
theorem d_Model_init_189 : decode prog_8_method_1_code 189 = .ok (.iinc 1 1, 3) := by decide +kernel
theorem d_Model_init_192 : decode prog_8_method_1_code 192 = .ok (.goto (-17), 3) := by decide +kernel
theorem d_Model_init_195 : decode prog_8_method_1_code 195 = .ok (.return_, 1) := by decide +kernel
