theorem wd1 : (Jvm.Cond.initialized "MeterDesk") ∈ tb := tb_of (i := 44) (by decide +kernel) rfl
theorem wd2 : (Jvm.Cond.initialized "MeterDesk$Source") ∈ tb := tb_of (i := 45) (by decide +kernel) rfl
theorem wd3 : (Jvm.Cond.initialized "MeterDesk$Tariff") ∈ tb := tb_of (i := 46) (by decide +kernel) rfl
theorem wd4 : (Jvm.Cond.initialized "java/util/Arrays") ∈ tb := tb_of (i := 47) (by decide +kernel) rfl
theorem wd5 : (Jvm.Cond.initialized "MeterDesk$Layout") ∈ tb := tb_of (i := 48) (by decide +kernel) rfl
theorem wd6 : (Jvm.Cond.initialized "MeterDesk$Output") ∈ tb := tb_of (i := 49) (by decide +kernel) rfl
theorem wd8 : (Jvm.Cond.initialized "MeterDesk$Opcodes") ∈ tb := tb_of (i := 51) (by decide +kernel) rfl
theorem wd23 : (Jvm.Cond.fieldLink "MeterDesk$Source" (9 : Nat) "MeterDesk$Source" "octets" "[I") ∈ tb := tb_of (i := 66) (by decide +kernel) rfl
theorem wd24 : (Jvm.Cond.fieldLink "MeterDesk" (53 : Nat) "MeterDesk$Source" "octets" "[I") ∈ tb := tb_of (i := 67) (by decide +kernel) rfl
theorem wd25 : (Jvm.Cond.fieldLink "MeterDesk$Source" (15 : Nat) "MeterDesk$Source" "handlerParts" "[I") ∈ tb := tb_of (i := 68) (by decide +kernel) rfl
theorem wd26 : (Jvm.Cond.fieldLink "MeterDesk$Source" (18 : Nat) "MeterDesk$Source" "size" "I") ∈ tb := tb_of (i := 69) (by decide +kernel) rfl
theorem wd27 : (Jvm.Cond.fieldLink "MeterDesk" (41 : Nat) "MeterDesk$Source" "size" "I") ∈ tb := tb_of (i := 70) (by decide +kernel) rfl
theorem wd28 : (Jvm.Cond.fieldLink "MeterDesk$Layout" (70 : Nat) "MeterDesk$Source" "size" "I") ∈ tb := tb_of (i := 71) (by decide +kernel) rfl
theorem wd29 : (Jvm.Cond.fieldLink "MeterDesk$Source" (22 : Nat) "MeterDesk$Source" "handlers" "I") ∈ tb := tb_of (i := 72) (by decide +kernel) rfl
theorem wd30 : (Jvm.Cond.fieldLink "MeterDesk" (57 : Nat) "MeterDesk$Source" "handlers" "I") ∈ tb := tb_of (i := 73) (by decide +kernel) rfl
theorem wd31 : (Jvm.Cond.fieldLink "MeterDesk$Output" (149 : Nat) "MeterDesk$Source" "handlers" "I") ∈ tb := tb_of (i := 74) (by decide +kernel) rfl
theorem wd32 : (Jvm.Cond.fieldLink "MeterDesk$Layout" (139 : Nat) "MeterDesk$Source" "handlers" "I") ∈ tb := tb_of (i := 75) (by decide +kernel) rfl
theorem wd50 : (Jvm.Cond.static ({ cls := "java/util/Arrays", name := "fill", desc := "([II)V" } : Jvm.MethodName)) ∈ tb := tb_of (i := 93) (by decide +kernel) rfl
theorem wd51 : (Jvm.Cond.code ({ cls := "java/util/Arrays", name := "fill", desc := "([II)V" } : Jvm.MethodName) prog_9_method_103_code (4 : Nat) (Option.none : Option Jvm.ClassFile.FieldType)) ∈ tb := tb_of (i := 94) (by decide +kernel) rfl
theorem wd53 : (Jvm.Cond.fieldLink "MeterDesk" (71 : Nat) "MeterDesk$Tariff" "costs" "[I") ∈ tb := tb_of (i := 96) (by decide +kernel) rfl
theorem wd54 : (Jvm.Cond.fieldLink "MeterDesk$Layout" (150 : Nat) "MeterDesk$Tariff" "costs" "[I") ∈ tb := tb_of (i := 97) (by decide +kernel) rfl
theorem wd55 : (Jvm.Cond.fieldLink "MeterDesk$Tariff" (15 : Nat) "MeterDesk$Tariff" "marked" "[Z") ∈ tb := tb_of (i := 98) (by decide +kernel) rfl
theorem wd56 : (Jvm.Cond.fieldLink "MeterDesk" (67 : Nat) "MeterDesk$Tariff" "marked" "[Z") ∈ tb := tb_of (i := 99) (by decide +kernel) rfl
theorem wd58 : (Jvm.Cond.fieldLink "MeterDesk" (75 : Nat) "MeterDesk$Tariff" "base" "I") ∈ tb := tb_of (i := 101) (by decide +kernel) rfl
theorem wd59 : (Jvm.Cond.fieldLink "MeterDesk$Output" (155 : Nat) "MeterDesk$Tariff" "base" "I") ∈ tb := tb_of (i := 102) (by decide +kernel) rfl
theorem wd61 : (Jvm.Cond.fieldLink "MeterDesk" (78 : Nat) "MeterDesk$Tariff" "reach" "I") ∈ tb := tb_of (i := 104) (by decide +kernel) rfl
theorem wd62 : (Jvm.Cond.fieldLink "MeterDesk$Layout" (174 : Nat) "MeterDesk$Tariff" "reach" "I") ∈ tb := tb_of (i := 105) (by decide +kernel) rfl
theorem wd79 : (Jvm.Cond.fieldLink "MeterDesk$Layout" (40 : Nat) "MeterDesk$Layout" "source" "LMeterDesk$Source;") ∈ tb := tb_of (i := 122) (by decide +kernel) rfl
theorem wd80 : (Jvm.Cond.fieldLink "MeterDesk$Layout" (44 : Nat) "MeterDesk$Layout" "tariff" "LMeterDesk$Tariff;") ∈ tb := tb_of (i := 123) (by decide +kernel) rfl
theorem wd81 : (Jvm.Cond.fieldLink "MeterDesk$Layout" (9 : Nat) "MeterDesk$Layout" "places" "[I") ∈ tb := tb_of (i := 124) (by decide +kernel) rfl
theorem wd82 : (Jvm.Cond.fieldLink "MeterDesk$Output" (50 : Nat) "MeterDesk$Layout" "places" "[I") ∈ tb := tb_of (i := 125) (by decide +kernel) rfl
theorem wd83 : (Jvm.Cond.fieldLink "MeterDesk" (120 : Nat) "MeterDesk$Layout" "places" "[I") ∈ tb := tb_of (i := 126) (by decide +kernel) rfl
theorem wd84 : (Jvm.Cond.fieldLink "MeterDesk$Layout" (15 : Nat) "MeterDesk$Layout" "length" "[I") ∈ tb := tb_of (i := 127) (by decide +kernel) rfl
theorem wd85 : (Jvm.Cond.fieldLink "MeterDesk$Output" (123 : Nat) "MeterDesk$Layout" "length" "[I") ∈ tb := tb_of (i := 128) (by decide +kernel) rfl
theorem wd86 : (Jvm.Cond.fieldLink "MeterDesk$Layout" (18 : Nat) "MeterDesk$Layout" "newLength" "[I") ∈ tb := tb_of (i := 129) (by decide +kernel) rfl
theorem wd87 : (Jvm.Cond.fieldLink "MeterDesk" (108 : Nat) "MeterDesk$Layout" "newLength" "[I") ∈ tb := tb_of (i := 130) (by decide +kernel) rfl
theorem wd88 : (Jvm.Cond.fieldLink "MeterDesk$Layout" (21 : Nat) "MeterDesk$Layout" "blockCost" "[I") ∈ tb := tb_of (i := 131) (by decide +kernel) rfl
theorem wd89 : (Jvm.Cond.fieldLink "MeterDesk$Output" (77 : Nat) "MeterDesk$Layout" "blockCost" "[I") ∈ tb := tb_of (i := 132) (by decide +kernel) rfl
theorem wd90 : (Jvm.Cond.fieldLink "MeterDesk" (111 : Nat) "MeterDesk$Layout" "blockCost" "[I") ∈ tb := tb_of (i := 133) (by decide +kernel) rfl
theorem wd91 : (Jvm.Cond.fieldLink "MeterDesk$Layout" (24 : Nat) "MeterDesk$Layout" "looks" "[Z") ∈ tb := tb_of (i := 134) (by decide +kernel) rfl
theorem wd92 : (Jvm.Cond.fieldLink "MeterDesk$Output" (70 : Nat) "MeterDesk$Layout" "looks" "[Z") ∈ tb := tb_of (i := 135) (by decide +kernel) rfl
theorem wd93 : (Jvm.Cond.fieldLink "MeterDesk$Layout" (28 : Nat) "MeterDesk$Layout" "lead" "[I") ∈ tb := tb_of (i := 136) (by decide +kernel) rfl
theorem wd94 : (Jvm.Cond.fieldLink "MeterDesk" (105 : Nat) "MeterDesk$Layout" "lead" "[I") ∈ tb := tb_of (i := 137) (by decide +kernel) rfl
theorem wd95 : (Jvm.Cond.fieldLink "MeterDesk$Layout" (31 : Nat) "MeterDesk$Layout" "front" "[I") ∈ tb := tb_of (i := 138) (by decide +kernel) rfl
theorem wd96 : (Jvm.Cond.fieldLink "MeterDesk$Output" (111 : Nat) "MeterDesk$Layout" "front" "[I") ∈ tb := tb_of (i := 139) (by decide +kernel) rfl
theorem wd97 : (Jvm.Cond.fieldLink "MeterDesk" (99 : Nat) "MeterDesk$Layout" "front" "[I") ∈ tb := tb_of (i := 140) (by decide +kernel) rfl
theorem wd98 : (Jvm.Cond.fieldLink "MeterDesk$Layout" (34 : Nat) "MeterDesk$Layout" "spot" "[I") ∈ tb := tb_of (i := 141) (by decide +kernel) rfl
theorem wd99 : (Jvm.Cond.fieldLink "MeterDesk$Output" (117 : Nat) "MeterDesk$Layout" "spot" "[I") ∈ tb := tb_of (i := 142) (by decide +kernel) rfl
theorem wd100 : (Jvm.Cond.fieldLink "MeterDesk" (102 : Nat) "MeterDesk$Layout" "spot" "[I") ∈ tb := tb_of (i := 143) (by decide +kernel) rfl
theorem wd101 : (Jvm.Cond.fieldLink "MeterDesk$Layout" (37 : Nat) "MeterDesk$Layout" "far" "[Z") ∈ tb := tb_of (i := 144) (by decide +kernel) rfl
theorem wd102 : (Jvm.Cond.fieldLink "MeterDesk$Output" (99 : Nat) "MeterDesk$Layout" "far" "[Z") ∈ tb := tb_of (i := 145) (by decide +kernel) rfl
theorem wd103 : (Jvm.Cond.fieldLink "MeterDesk" (114 : Nat) "MeterDesk$Layout" "far" "[Z") ∈ tb := tb_of (i := 146) (by decide +kernel) rfl
theorem wd104 : (Jvm.Cond.fieldLink "MeterDesk$Output" (45 : Nat) "MeterDesk$Layout" "instructions" "I") ∈ tb := tb_of (i := 147) (by decide +kernel) rfl
theorem wd105 : (Jvm.Cond.fieldLink "MeterDesk$Layout" (82 : Nat) "MeterDesk$Layout" "instructions" "I") ∈ tb := tb_of (i := 148) (by decide +kernel) rfl
theorem wd106 : (Jvm.Cond.fieldLink "MeterDesk" (117 : Nat) "MeterDesk$Layout" "instructions" "I") ∈ tb := tb_of (i := 149) (by decide +kernel) rfl
theorem wd107 : (Jvm.Cond.fieldLink "MeterDesk$Layout" (85 : Nat) "MeterDesk$Layout" "blocks" "I") ∈ tb := tb_of (i := 150) (by decide +kernel) rfl
theorem wd108 : (Jvm.Cond.fieldLink "MeterDesk" (129 : Nat) "MeterDesk$Layout" "blocks" "I") ∈ tb := tb_of (i := 151) (by decide +kernel) rfl
theorem wd109 : (Jvm.Cond.fieldLink "MeterDesk$Layout" (88 : Nat) "MeterDesk$Layout" "rounds" "I") ∈ tb := tb_of (i := 152) (by decide +kernel) rfl
theorem wd110 : (Jvm.Cond.fieldLink "MeterDesk" (132 : Nat) "MeterDesk$Layout" "rounds" "I") ∈ tb := tb_of (i := 153) (by decide +kernel) rfl
theorem wd111 : (Jvm.Cond.fieldLink "MeterDesk$Layout" (91 : Nat) "MeterDesk$Layout" "stretched" "I") ∈ tb := tb_of (i := 154) (by decide +kernel) rfl
theorem wd112 : (Jvm.Cond.fieldLink "MeterDesk" (135 : Nat) "MeterDesk$Layout" "stretched" "I") ∈ tb := tb_of (i := 155) (by decide +kernel) rfl
theorem wd113 : (Jvm.Cond.fieldLink "MeterDesk$Layout" (94 : Nat) "MeterDesk$Layout" "costSum" "I") ∈ tb := tb_of (i := 156) (by decide +kernel) rfl
theorem wd114 : (Jvm.Cond.fieldLink "MeterDesk" (138 : Nat) "MeterDesk$Layout" "costSum" "I") ∈ tb := tb_of (i := 157) (by decide +kernel) rfl
theorem wd154 : (Jvm.Cond.fieldLink "MeterDesk$Output" (20 : Nat) "MeterDesk$Output" "source" "LMeterDesk$Source;") ∈ tb := tb_of (i := 197) (by decide +kernel) rfl
theorem wd155 : (Jvm.Cond.fieldLink "MeterDesk$Output" (24 : Nat) "MeterDesk$Output" "tariff" "LMeterDesk$Tariff;") ∈ tb := tb_of (i := 198) (by decide +kernel) rfl
theorem wd156 : (Jvm.Cond.fieldLink "MeterDesk$Output" (28 : Nat) "MeterDesk$Output" "layout" "LMeterDesk$Layout;") ∈ tb := tb_of (i := 199) (by decide +kernel) rfl
theorem wd157 : (Jvm.Cond.fieldLink "MeterDesk$Output" (9 : Nat) "MeterDesk$Output" "octets" "[I") ∈ tb := tb_of (i := 200) (by decide +kernel) rfl
theorem wd158 : (Jvm.Cond.fieldLink "MeterDesk" (95 : Nat) "MeterDesk$Output" "octets" "[I") ∈ tb := tb_of (i := 201) (by decide +kernel) rfl
theorem wd159 : (Jvm.Cond.fieldLink "MeterDesk$Output" (17 : Nat) "MeterDesk$Output" "guardParts" "[I") ∈ tb := tb_of (i := 202) (by decide +kernel) rfl
theorem wd160 : (Jvm.Cond.fieldLink "MeterDesk" (126 : Nat) "MeterDesk$Output" "guardParts" "[I") ∈ tb := tb_of (i := 203) (by decide +kernel) rfl
theorem wd161 : (Jvm.Cond.fieldLink "MeterDesk$Output" (32 : Nat) "MeterDesk$Output" "size" "I") ∈ tb := tb_of (i := 204) (by decide +kernel) rfl
theorem wd162 : (Jvm.Cond.fieldLink "MeterDesk" (94 : Nat) "MeterDesk$Output" "size" "I") ∈ tb := tb_of (i := 205) (by decide +kernel) rfl
theorem wd163 : (Jvm.Cond.fieldLink "MeterDesk$Output" (36 : Nat) "MeterDesk$Output" "guards" "I") ∈ tb := tb_of (i := 206) (by decide +kernel) rfl
theorem wd164 : (Jvm.Cond.fieldLink "MeterDesk" (123 : Nat) "MeterDesk$Output" "guards" "I") ∈ tb := tb_of (i := 207) (by decide +kernel) rfl
theorem wd165 : (Jvm.Cond.fieldLink "MeterDesk$Output" (39 : Nat) "MeterDesk$Output" "calls" "I") ∈ tb := tb_of (i := 208) (by decide +kernel) rfl
theorem wd166 : (Jvm.Cond.fieldLink "MeterDesk" (141 : Nat) "MeterDesk$Output" "calls" "I") ∈ tb := tb_of (i := 209) (by decide +kernel) rfl
theorem wd167 : (Jvm.Cond.fieldLink "MeterDesk$Output" (42 : Nat) "MeterDesk$Output" "pushes" "I") ∈ tb := tb_of (i := 210) (by decide +kernel) rfl
theorem wd168 : (Jvm.Cond.fieldLink "MeterDesk" (144 : Nat) "MeterDesk$Output" "pushes" "I") ∈ tb := tb_of (i := 211) (by decide +kernel) rfl
theorem wd188 : (Jvm.Cond.fieldLink "MeterDesk" (18 : Nat) "MeterDesk" "source" "LMeterDesk$Source;") ∈ tb := tb_of (i := 231) (by decide +kernel) rfl
theorem wd189 : (Jvm.Cond.fieldLink "MeterDesk" (24 : Nat) "MeterDesk" "tariff" "LMeterDesk$Tariff;") ∈ tb := tb_of (i := 232) (by decide +kernel) rfl
theorem wd190 : (Jvm.Cond.fieldLink "MeterDesk" (28 : Nat) "MeterDesk" "layout" "LMeterDesk$Layout;") ∈ tb := tb_of (i := 233) (by decide +kernel) rfl
theorem wd191 : (Jvm.Cond.fieldLink "MeterDesk" (37 : Nat) "MeterDesk" "output" "LMeterDesk$Output;") ∈ tb := tb_of (i := 234) (by decide +kernel) rfl
theorem wd192 : (Jvm.Cond.fieldLink "MeterDesk" (91 : Nat) "MeterDesk" "timesRewritten" "I") ∈ tb := tb_of (i := 235) (by decide +kernel) rfl
theorem wd208 : (Jvm.Cond.methodLink "MeterDesk" (45 : Nat) ({ cls := "MeterDesk$Source", name := "append", desc := "(I)V" } : Jvm.MethodName)) ∈ tb := tb_of (i := 251) (by decide +kernel) rfl
theorem wd209 : (Jvm.Cond.instanceMethod ({ cls := "MeterDesk$Source", name := "append", desc := "(I)V" } : Jvm.MethodName)) ∈ tb := tb_of (i := 252) (by decide +kernel) rfl
theorem wd210 : (Jvm.Cond.selects "MeterDesk$Source" ({ cls := "MeterDesk$Source", name := "append", desc := "(I)V" } : Jvm.MethodName) ({ cls := "MeterDesk$Source", name := "append", desc := "(I)V" } : Jvm.MethodName)) ∈ tb := tb_of (i := 253) (by decide +kernel) rfl
theorem wd211 : (Jvm.Cond.code ({ cls := "MeterDesk$Source", name := "append", desc := "(I)V" } : Jvm.MethodName) prog_5_method_2_code (2 : Nat) (Option.none : Option Jvm.ClassFile.FieldType)) ∈ tb := tb_of (i := 254) (by decide +kernel) rfl
theorem wd216 : (Jvm.Cond.methodLink "MeterDesk" (49 : Nat) ({ cls := "MeterDesk", name := "isOctet", desc := "(I)Z" } : Jvm.MethodName)) ∈ tb := tb_of (i := 259) (by decide +kernel) rfl
theorem wd217 : (Jvm.Cond.static ({ cls := "MeterDesk", name := "isOctet", desc := "(I)Z" } : Jvm.MethodName)) ∈ tb := tb_of (i := 260) (by decide +kernel) rfl
theorem wd218 : (Jvm.Cond.code ({ cls := "MeterDesk", name := "isOctet", desc := "(I)Z" } : Jvm.MethodName) prog_1_method_16_code (1 : Nat) (Option.some Jvm.ClassFile.FieldType.boolean)) ∈ tb := tb_of (i := 261) (by decide +kernel) rfl
theorem wd227 : (Jvm.Cond.methodLink "MeterDesk" (60 : Nat) ({ cls := "MeterDesk", name := "isPlace", desc := "(I)Z" } : Jvm.MethodName)) ∈ tb := tb_of (i := 270) (by decide +kernel) rfl
theorem wd228 : (Jvm.Cond.static ({ cls := "MeterDesk", name := "isPlace", desc := "(I)Z" } : Jvm.MethodName)) ∈ tb := tb_of (i := 271) (by decide +kernel) rfl
theorem wd229 : (Jvm.Cond.code ({ cls := "MeterDesk", name := "isPlace", desc := "(I)Z" } : Jvm.MethodName) prog_1_method_17_code (1 : Nat) (Option.some Jvm.ClassFile.FieldType.boolean)) ∈ tb := tb_of (i := 272) (by decide +kernel) rfl
theorem wd230 : (Jvm.Cond.methodLink "MeterDesk" (63 : Nat) ({ cls := "MeterDesk$Source", name := "appendHandler", desc := "(IIII)V" } : Jvm.MethodName)) ∈ tb := tb_of (i := 273) (by decide +kernel) rfl
theorem wd231 : (Jvm.Cond.instanceMethod ({ cls := "MeterDesk$Source", name := "appendHandler", desc := "(IIII)V" } : Jvm.MethodName)) ∈ tb := tb_of (i := 274) (by decide +kernel) rfl
theorem wd232 : (Jvm.Cond.selects "MeterDesk$Source" ({ cls := "MeterDesk$Source", name := "appendHandler", desc := "(IIII)V" } : Jvm.MethodName) ({ cls := "MeterDesk$Source", name := "appendHandler", desc := "(IIII)V" } : Jvm.MethodName)) ∈ tb := tb_of (i := 275) (by decide +kernel) rfl
theorem wd233 : (Jvm.Cond.code ({ cls := "MeterDesk$Source", name := "appendHandler", desc := "(IIII)V" } : Jvm.MethodName) prog_5_method_3_code (6 : Nat) (Option.none : Option Jvm.ClassFile.FieldType)) ∈ tb := tb_of (i := 276) (by decide +kernel) rfl
theorem wd246 : (Jvm.Cond.constant "MeterDesk" (74 : Nat) (65530 : Int32)) ∈ tb := tb_of (i := 289) (by decide +kernel) rfl
theorem wd251 : (Jvm.Cond.methodLink "MeterDesk" (81 : Nat) ({ cls := "MeterDesk$Output", name := "forget", desc := "()V" } : Jvm.MethodName)) ∈ tb := tb_of (i := 294) (by decide +kernel) rfl
theorem wd252 : (Jvm.Cond.instanceMethod ({ cls := "MeterDesk$Output", name := "forget", desc := "()V" } : Jvm.MethodName)) ∈ tb := tb_of (i := 295) (by decide +kernel) rfl
theorem wd253 : (Jvm.Cond.selects "MeterDesk$Output" ({ cls := "MeterDesk$Output", name := "forget", desc := "()V" } : Jvm.MethodName) ({ cls := "MeterDesk$Output", name := "forget", desc := "()V" } : Jvm.MethodName)) ∈ tb := tb_of (i := 296) (by decide +kernel) rfl
theorem wd254 : (Jvm.Cond.code ({ cls := "MeterDesk$Output", name := "forget", desc := "()V" } : Jvm.MethodName) prog_4_method_2_code (1 : Nat) (Option.none : Option Jvm.ClassFile.FieldType)) ∈ tb := tb_of (i := 297) (by decide +kernel) rfl
theorem wd255 : (Jvm.Cond.methodLink "MeterDesk" (84 : Nat) ({ cls := "MeterDesk$Layout", name := "make", desc := "()I" } : Jvm.MethodName)) ∈ tb := tb_of (i := 298) (by decide +kernel) rfl
theorem wd256 : (Jvm.Cond.instanceMethod ({ cls := "MeterDesk$Layout", name := "make", desc := "()I" } : Jvm.MethodName)) ∈ tb := tb_of (i := 299) (by decide +kernel) rfl
theorem wd257 : (Jvm.Cond.selects "MeterDesk$Layout" ({ cls := "MeterDesk$Layout", name := "make", desc := "()I" } : Jvm.MethodName) ({ cls := "MeterDesk$Layout", name := "make", desc := "()I" } : Jvm.MethodName)) ∈ tb := tb_of (i := 300) (by decide +kernel) rfl
theorem wd258 : (Jvm.Cond.code ({ cls := "MeterDesk$Layout", name := "make", desc := "()I" } : Jvm.MethodName) prog_2_method_3_code (2 : Nat) (Option.some Jvm.ClassFile.FieldType.int)) ∈ tb := tb_of (i := 301) (by decide +kernel) rfl
theorem wd259 : (Jvm.Cond.methodLink "MeterDesk$Layout" (48 : Nat) ({ cls := "MeterDesk$Layout", name := "forget", desc := "()V" } : Jvm.MethodName)) ∈ tb := tb_of (i := 302) (by decide +kernel) rfl
theorem wd261 : (Jvm.Cond.instanceMethod ({ cls := "MeterDesk$Layout", name := "forget", desc := "()V" } : Jvm.MethodName)) ∈ tb := tb_of (i := 304) (by decide +kernel) rfl
theorem wd262 : (Jvm.Cond.code ({ cls := "MeterDesk$Layout", name := "forget", desc := "()V" } : Jvm.MethodName) prog_2_method_4_code (2 : Nat) (Option.none : Option Jvm.ClassFile.FieldType)) ∈ tb := tb_of (i := 305) (by decide +kernel) rfl
theorem wd263 : (Jvm.Cond.methodLink "MeterDesk$Layout" (76 : Nat) ({ cls := "java/util/Arrays", name := "fill", desc := "([II)V" } : Jvm.MethodName)) ∈ tb := tb_of (i := 306) (by decide +kernel) rfl
theorem wd264 : (Jvm.Cond.methodLink "MeterDesk$Layout" (51 : Nat) ({ cls := "MeterDesk$Layout", name := "readInstructions", desc := "()Z" } : Jvm.MethodName)) ∈ tb := tb_of (i := 307) (by decide +kernel) rfl
theorem wd266 : (Jvm.Cond.instanceMethod ({ cls := "MeterDesk$Layout", name := "readInstructions", desc := "()Z" } : Jvm.MethodName)) ∈ tb := tb_of (i := 309) (by decide +kernel) rfl
theorem wd267 : (Jvm.Cond.code ({ cls := "MeterDesk$Layout", name := "readInstructions", desc := "()Z" } : Jvm.MethodName) prog_2_method_5_code (4 : Nat) (Option.some Jvm.ClassFile.FieldType.boolean)) ∈ tb := tb_of (i := 310) (by decide +kernel) rfl
theorem wd268 : (Jvm.Cond.methodLink "MeterDesk$Layout" (97 : Nat) ({ cls := "MeterDesk$Source", name := "lengthAt", desc := "(I)I" } : Jvm.MethodName)) ∈ tb := tb_of (i := 311) (by decide +kernel) rfl
theorem wd269 : (Jvm.Cond.instanceMethod ({ cls := "MeterDesk$Source", name := "lengthAt", desc := "(I)I" } : Jvm.MethodName)) ∈ tb := tb_of (i := 312) (by decide +kernel) rfl
theorem wd270 : (Jvm.Cond.selects "MeterDesk$Source" ({ cls := "MeterDesk$Source", name := "lengthAt", desc := "(I)I" } : Jvm.MethodName) ({ cls := "MeterDesk$Source", name := "lengthAt", desc := "(I)I" } : Jvm.MethodName)) ∈ tb := tb_of (i := 313) (by decide +kernel) rfl
theorem wd271 : (Jvm.Cond.code ({ cls := "MeterDesk$Source", name := "lengthAt", desc := "(I)I" } : Jvm.MethodName) prog_5_method_8_code (4 : Nat) (Option.some Jvm.ClassFile.FieldType.int)) ∈ tb := tb_of (i := 314) (by decide +kernel) rfl
theorem wd272 : (Jvm.Cond.methodLink "MeterDesk$Source" (25 : Nat) ({ cls := "MeterDesk$Source", name := "u1", desc := "(I)I" } : Jvm.MethodName)) ∈ tb := tb_of (i := 315) (by decide +kernel) rfl
theorem wd273 : (Jvm.Cond.instanceMethod ({ cls := "MeterDesk$Source", name := "u1", desc := "(I)I" } : Jvm.MethodName)) ∈ tb := tb_of (i := 316) (by decide +kernel) rfl
theorem wd274 : (Jvm.Cond.selects "MeterDesk$Source" ({ cls := "MeterDesk$Source", name := "u1", desc := "(I)I" } : Jvm.MethodName) ({ cls := "MeterDesk$Source", name := "u1", desc := "(I)I" } : Jvm.MethodName)) ∈ tb := tb_of (i := 317) (by decide +kernel) rfl
theorem wd275 : (Jvm.Cond.code ({ cls := "MeterDesk$Source", name := "u1", desc := "(I)I" } : Jvm.MethodName) prog_5_method_5_code (2 : Nat) (Option.some Jvm.ClassFile.FieldType.int)) ∈ tb := tb_of (i := 318) (by decide +kernel) rfl
theorem wd276 : (Jvm.Cond.methodLink "MeterDesk$Source" (29 : Nat) ({ cls := "MeterDesk$Opcodes", name := "exists", desc := "(I)Z" } : Jvm.MethodName)) ∈ tb := tb_of (i := 319) (by decide +kernel) rfl
theorem wd277 : (Jvm.Cond.static ({ cls := "MeterDesk$Opcodes", name := "exists", desc := "(I)Z" } : Jvm.MethodName)) ∈ tb := tb_of (i := 320) (by decide +kernel) rfl
theorem wd278 : (Jvm.Cond.code ({ cls := "MeterDesk$Opcodes", name := "exists", desc := "(I)Z" } : Jvm.MethodName) prog_3_method_2_code (1 : Nat) (Option.some Jvm.ClassFile.FieldType.boolean)) ∈ tb := tb_of (i := 321) (by decide +kernel) rfl
theorem wd279 : (Jvm.Cond.methodLink "MeterDesk$Source" (35 : Nat) ({ cls := "MeterDesk$Source", name := "wideLength", desc := "(I)I" } : Jvm.MethodName)) ∈ tb := tb_of (i := 322) (by decide +kernel) rfl
theorem wd281 : (Jvm.Cond.instanceMethod ({ cls := "MeterDesk$Source", name := "wideLength", desc := "(I)I" } : Jvm.MethodName)) ∈ tb := tb_of (i := 324) (by decide +kernel) rfl
theorem wd282 : (Jvm.Cond.code ({ cls := "MeterDesk$Source", name := "wideLength", desc := "(I)I" } : Jvm.MethodName) prog_5_method_9_code (2 : Nat) (Option.some Jvm.ClassFile.FieldType.int)) ∈ tb := tb_of (i := 325) (by decide +kernel) rfl
theorem wd283 : (Jvm.Cond.methodLink "MeterDesk$Source" (48 : Nat) ({ cls := "MeterDesk$Opcodes", name := "isLocal", desc := "(I)Z" } : Jvm.MethodName)) ∈ tb := tb_of (i := 326) (by decide +kernel) rfl
theorem wd284 : (Jvm.Cond.static ({ cls := "MeterDesk$Opcodes", name := "isLocal", desc := "(I)Z" } : Jvm.MethodName)) ∈ tb := tb_of (i := 327) (by decide +kernel) rfl
theorem wd285 : (Jvm.Cond.code ({ cls := "MeterDesk$Opcodes", name := "isLocal", desc := "(I)Z" } : Jvm.MethodName) prog_3_method_8_code (1 : Nat) (Option.some Jvm.ClassFile.FieldType.boolean)) ∈ tb := tb_of (i := 328) (by decide +kernel) rfl
theorem wd286 : (Jvm.Cond.methodLink "MeterDesk$Source" (38 : Nat) ({ cls := "MeterDesk$Opcodes", name := "isSwitch", desc := "(I)Z" } : Jvm.MethodName)) ∈ tb := tb_of (i := 329) (by decide +kernel) rfl
theorem wd287 : (Jvm.Cond.static ({ cls := "MeterDesk$Opcodes", name := "isSwitch", desc := "(I)Z" } : Jvm.MethodName)) ∈ tb := tb_of (i := 330) (by decide +kernel) rfl
theorem wd288 : (Jvm.Cond.code ({ cls := "MeterDesk$Opcodes", name := "isSwitch", desc := "(I)Z" } : Jvm.MethodName) prog_3_method_4_code (1 : Nat) (Option.some Jvm.ClassFile.FieldType.boolean)) ∈ tb := tb_of (i := 331) (by decide +kernel) rfl
theorem wd289 : (Jvm.Cond.methodLink "MeterDesk$Source" (41 : Nat) ({ cls := "MeterDesk$Source", name := "switchLength", desc := "(II)I" } : Jvm.MethodName)) ∈ tb := tb_of (i := 332) (by decide +kernel) rfl
theorem wd291 : (Jvm.Cond.instanceMethod ({ cls := "MeterDesk$Source", name := "switchLength", desc := "(II)I" } : Jvm.MethodName)) ∈ tb := tb_of (i := 334) (by decide +kernel) rfl
theorem wd292 : (Jvm.Cond.code ({ cls := "MeterDesk$Source", name := "switchLength", desc := "(II)I" } : Jvm.MethodName) prog_5_method_10_code (8 : Nat) (Option.some Jvm.ClassFile.FieldType.int)) ∈ tb := tb_of (i := 335) (by decide +kernel) rfl
theorem wd293 : (Jvm.Cond.methodLink "MeterDesk$Source" (51 : Nat) ({ cls := "MeterDesk$Source", name := "wordsFrom", desc := "(I)I" } : Jvm.MethodName)) ∈ tb := tb_of (i := 336) (by decide +kernel) rfl
theorem wd294 : (Jvm.Cond.static ({ cls := "MeterDesk$Source", name := "wordsFrom", desc := "(I)I" } : Jvm.MethodName)) ∈ tb := tb_of (i := 337) (by decide +kernel) rfl
theorem wd295 : (Jvm.Cond.code ({ cls := "MeterDesk$Source", name := "wordsFrom", desc := "(I)I" } : Jvm.MethodName) prog_5_method_11_code (1 : Nat) (Option.some Jvm.ClassFile.FieldType.int)) ∈ tb := tb_of (i := 338) (by decide +kernel) rfl
theorem wd296 : (Jvm.Cond.methodLink "MeterDesk$Source" (54 : Nat) ({ cls := "MeterDesk$Source", name := "s4", desc := "(I)I" } : Jvm.MethodName)) ∈ tb := tb_of (i := 339) (by decide +kernel) rfl
theorem wd297 : (Jvm.Cond.instanceMethod ({ cls := "MeterDesk$Source", name := "s4", desc := "(I)I" } : Jvm.MethodName)) ∈ tb := tb_of (i := 340) (by decide +kernel) rfl
theorem wd298 : (Jvm.Cond.selects "MeterDesk$Source" ({ cls := "MeterDesk$Source", name := "s4", desc := "(I)I" } : Jvm.MethodName) ({ cls := "MeterDesk$Source", name := "s4", desc := "(I)I" } : Jvm.MethodName)) ∈ tb := tb_of (i := 341) (by decide +kernel) rfl
theorem wd299 : (Jvm.Cond.code ({ cls := "MeterDesk$Source", name := "s4", desc := "(I)I" } : Jvm.MethodName) prog_5_method_7_code (2 : Nat) (Option.some Jvm.ClassFile.FieldType.int)) ∈ tb := tb_of (i := 342) (by decide +kernel) rfl
theorem wd300 : (Jvm.Cond.constantLong "MeterDesk$Source" (57 : Nat) (20 : Int64)) ∈ tb := tb_of (i := 343) (by decide +kernel) rfl
theorem wd301 : (Jvm.Cond.methodLink "MeterDesk$Source" (45 : Nat) ({ cls := "MeterDesk$Opcodes", name := "operands", desc := "(I)I" } : Jvm.MethodName)) ∈ tb := tb_of (i := 344) (by decide +kernel) rfl
theorem wd302 : (Jvm.Cond.static ({ cls := "MeterDesk$Opcodes", name := "operands", desc := "(I)I" } : Jvm.MethodName)) ∈ tb := tb_of (i := 345) (by decide +kernel) rfl
theorem wd303 : (Jvm.Cond.code ({ cls := "MeterDesk$Opcodes", name := "operands", desc := "(I)I" } : Jvm.MethodName) prog_3_method_9_code (1 : Nat) (Option.some Jvm.ClassFile.FieldType.int)) ∈ tb := tb_of (i := 346) (by decide +kernel) rfl
theorem wd304 : (Jvm.Cond.methodLink "MeterDesk$Opcodes" (21 : Nat) ({ cls := "MeterDesk$Opcodes", name := "isLocal", desc := "(I)Z" } : Jvm.MethodName)) ∈ tb := tb_of (i := 347) (by decide +kernel) rfl
theorem wd305 : (Jvm.Cond.methodLink "MeterDesk$Opcodes" (11 : Nat) ({ cls := "MeterDesk$Opcodes", name := "isShortJump", desc := "(I)Z" } : Jvm.MethodName)) ∈ tb := tb_of (i := 348) (by decide +kernel) rfl
theorem wd306 : (Jvm.Cond.static ({ cls := "MeterDesk$Opcodes", name := "isShortJump", desc := "(I)Z" } : Jvm.MethodName)) ∈ tb := tb_of (i := 349) (by decide +kernel) rfl
theorem wd307 : (Jvm.Cond.code ({ cls := "MeterDesk$Opcodes", name := "isShortJump", desc := "(I)Z" } : Jvm.MethodName) prog_3_method_3_code (1 : Nat) (Option.some Jvm.ClassFile.FieldType.boolean)) ∈ tb := tb_of (i := 350) (by decide +kernel) rfl
theorem wd308 : (Jvm.Cond.methodLink "MeterDesk$Layout" (101 : Nat) ({ cls := "MeterDesk$Source", name := "u1", desc := "(I)I" } : Jvm.MethodName)) ∈ tb := tb_of (i := 351) (by decide +kernel) rfl
theorem wd309 : (Jvm.Cond.methodLink "MeterDesk$Layout" (55 : Nat) ({ cls := "MeterDesk$Layout", name := "readGoals", desc := "()Z" } : Jvm.MethodName)) ∈ tb := tb_of (i := 352) (by decide +kernel) rfl
theorem wd311 : (Jvm.Cond.instanceMethod ({ cls := "MeterDesk$Layout", name := "readGoals", desc := "()Z" } : Jvm.MethodName)) ∈ tb := tb_of (i := 354) (by decide +kernel) rfl
theorem wd312 : (Jvm.Cond.code ({ cls := "MeterDesk$Layout", name := "readGoals", desc := "()Z" } : Jvm.MethodName) prog_2_method_6_code (5 : Nat) (Option.some Jvm.ClassFile.FieldType.boolean)) ∈ tb := tb_of (i := 355) (by decide +kernel) rfl
theorem wd313 : (Jvm.Cond.methodLink "MeterDesk$Layout" (106 : Nat) ({ cls := "MeterDesk$Opcodes", name := "isSwitch", desc := "(I)Z" } : Jvm.MethodName)) ∈ tb := tb_of (i := 356) (by decide +kernel) rfl
theorem wd314 : (Jvm.Cond.methodLink "MeterDesk$Layout" (110 : Nat) ({ cls := "MeterDesk$Layout", name := "readWordGoals", desc := "(II)Z" } : Jvm.MethodName)) ∈ tb := tb_of (i := 357) (by decide +kernel) rfl
theorem wd316 : (Jvm.Cond.instanceMethod ({ cls := "MeterDesk$Layout", name := "readWordGoals", desc := "(II)Z" } : Jvm.MethodName)) ∈ tb := tb_of (i := 359) (by decide +kernel) rfl
theorem wd317 : (Jvm.Cond.code ({ cls := "MeterDesk$Layout", name := "readWordGoals", desc := "(II)Z" } : Jvm.MethodName) prog_2_method_7_code (5 : Nat) (Option.some Jvm.ClassFile.FieldType.boolean)) ∈ tb := tb_of (i := 360) (by decide +kernel) rfl
theorem wd318 : (Jvm.Cond.methodLink "MeterDesk$Layout" (123 : Nat) ({ cls := "MeterDesk$Layout", name := "wordsOf", desc := "(I)I" } : Jvm.MethodName)) ∈ tb := tb_of (i := 361) (by decide +kernel) rfl
theorem wd319 : (Jvm.Cond.instanceMethod ({ cls := "MeterDesk$Layout", name := "wordsOf", desc := "(I)I" } : Jvm.MethodName)) ∈ tb := tb_of (i := 362) (by decide +kernel) rfl
theorem wd320 : (Jvm.Cond.selects "MeterDesk$Layout" ({ cls := "MeterDesk$Layout", name := "wordsOf", desc := "(I)I" } : Jvm.MethodName) ({ cls := "MeterDesk$Layout", name := "wordsOf", desc := "(I)I" } : Jvm.MethodName)) ∈ tb := tb_of (i := 363) (by decide +kernel) rfl
theorem wd321 : (Jvm.Cond.code ({ cls := "MeterDesk$Layout", name := "wordsOf", desc := "(I)I" } : Jvm.MethodName) prog_2_method_8_code (2 : Nat) (Option.some Jvm.ClassFile.FieldType.int)) ∈ tb := tb_of (i := 364) (by decide +kernel) rfl
theorem wd322 : (Jvm.Cond.methodLink "MeterDesk$Layout" (133 : Nat) ({ cls := "MeterDesk$Source", name := "wordsFrom", desc := "(I)I" } : Jvm.MethodName)) ∈ tb := tb_of (i := 365) (by decide +kernel) rfl
theorem wd323 : (Jvm.Cond.methodLink "MeterDesk$Layout" (126 : Nat) ({ cls := "MeterDesk$Opcodes", name := "isGoalWord", desc := "(II)Z" } : Jvm.MethodName)) ∈ tb := tb_of (i := 366) (by decide +kernel) rfl
theorem wd324 : (Jvm.Cond.static ({ cls := "MeterDesk$Opcodes", name := "isGoalWord", desc := "(II)Z" } : Jvm.MethodName)) ∈ tb := tb_of (i := 367) (by decide +kernel) rfl
theorem wd325 : (Jvm.Cond.code ({ cls := "MeterDesk$Opcodes", name := "isGoalWord", desc := "(II)Z" } : Jvm.MethodName) prog_3_method_11_code (2 : Nat) (Option.some Jvm.ClassFile.FieldType.boolean)) ∈ tb := tb_of (i := 368) (by decide +kernel) rfl
theorem wd326 : (Jvm.Cond.methodLink "MeterDesk$Layout" (129 : Nat) ({ cls := "MeterDesk$Source", name := "wordGoal", desc := "(II)I" } : Jvm.MethodName)) ∈ tb := tb_of (i := 369) (by decide +kernel) rfl
theorem wd327 : (Jvm.Cond.instanceMethod ({ cls := "MeterDesk$Source", name := "wordGoal", desc := "(II)I" } : Jvm.MethodName)) ∈ tb := tb_of (i := 370) (by decide +kernel) rfl
theorem wd328 : (Jvm.Cond.selects "MeterDesk$Source" ({ cls := "MeterDesk$Source", name := "wordGoal", desc := "(II)I" } : Jvm.MethodName) ({ cls := "MeterDesk$Source", name := "wordGoal", desc := "(II)I" } : Jvm.MethodName)) ∈ tb := tb_of (i := 371) (by decide +kernel) rfl
theorem wd329 : (Jvm.Cond.code ({ cls := "MeterDesk$Source", name := "wordGoal", desc := "(II)I" } : Jvm.MethodName) prog_5_method_13_code (3 : Nat) (Option.some Jvm.ClassFile.FieldType.int)) ∈ tb := tb_of (i := 372) (by decide +kernel) rfl
theorem wd330 : (Jvm.Cond.methodLink "MeterDesk$Layout" (120 : Nat) ({ cls := "MeterDesk$Layout", name := "beginBlock", desc := "(I)Z" } : Jvm.MethodName)) ∈ tb := tb_of (i := 373) (by decide +kernel) rfl
theorem wd332 : (Jvm.Cond.instanceMethod ({ cls := "MeterDesk$Layout", name := "beginBlock", desc := "(I)Z" } : Jvm.MethodName)) ∈ tb := tb_of (i := 375) (by decide +kernel) rfl
theorem wd333 : (Jvm.Cond.code ({ cls := "MeterDesk$Layout", name := "beginBlock", desc := "(I)Z" } : Jvm.MethodName) prog_2_method_9_code (2 : Nat) (Option.some Jvm.ClassFile.FieldType.boolean)) ∈ tb := tb_of (i := 376) (by decide +kernel) rfl
theorem wd334 : (Jvm.Cond.methodLink "MeterDesk$Layout" (136 : Nat) ({ cls := "MeterDesk$Layout", name := "begins", desc := "(I)Z" } : Jvm.MethodName)) ∈ tb := tb_of (i := 377) (by decide +kernel) rfl
theorem wd335 : (Jvm.Cond.instanceMethod ({ cls := "MeterDesk$Layout", name := "begins", desc := "(I)Z" } : Jvm.MethodName)) ∈ tb := tb_of (i := 378) (by decide +kernel) rfl
theorem wd336 : (Jvm.Cond.selects "MeterDesk$Layout" ({ cls := "MeterDesk$Layout", name := "begins", desc := "(I)Z" } : Jvm.MethodName) ({ cls := "MeterDesk$Layout", name := "begins", desc := "(I)Z" } : Jvm.MethodName)) ∈ tb := tb_of (i := 379) (by decide +kernel) rfl
theorem wd337 : (Jvm.Cond.code ({ cls := "MeterDesk$Layout", name := "begins", desc := "(I)Z" } : Jvm.MethodName) prog_2_method_2_code (2 : Nat) (Option.some Jvm.ClassFile.FieldType.boolean)) ∈ tb := tb_of (i := 380) (by decide +kernel) rfl
theorem wd338 : (Jvm.Cond.methodLink "MeterDesk$Layout" (114 : Nat) ({ cls := "MeterDesk$Opcodes", name := "isShortJump", desc := "(I)Z" } : Jvm.MethodName)) ∈ tb := tb_of (i := 381) (by decide +kernel) rfl
theorem wd339 : (Jvm.Cond.methodLink "MeterDesk$Layout" (117 : Nat) ({ cls := "MeterDesk$Source", name := "jumpGoal", desc := "(I)I" } : Jvm.MethodName)) ∈ tb := tb_of (i := 382) (by decide +kernel) rfl
theorem wd340 : (Jvm.Cond.instanceMethod ({ cls := "MeterDesk$Source", name := "jumpGoal", desc := "(I)I" } : Jvm.MethodName)) ∈ tb := tb_of (i := 383) (by decide +kernel) rfl
theorem wd341 : (Jvm.Cond.selects "MeterDesk$Source" ({ cls := "MeterDesk$Source", name := "jumpGoal", desc := "(I)I" } : Jvm.MethodName) ({ cls := "MeterDesk$Source", name := "jumpGoal", desc := "(I)I" } : Jvm.MethodName)) ∈ tb := tb_of (i := 384) (by decide +kernel) rfl
theorem wd342 : (Jvm.Cond.code ({ cls := "MeterDesk$Source", name := "jumpGoal", desc := "(I)I" } : Jvm.MethodName) prog_5_method_12_code (2 : Nat) (Option.some Jvm.ClassFile.FieldType.int)) ∈ tb := tb_of (i := 385) (by decide +kernel) rfl
theorem wd343 : (Jvm.Cond.methodLink "MeterDesk$Source" (59 : Nat) ({ cls := "MeterDesk$Source", name := "s2", desc := "(I)I" } : Jvm.MethodName)) ∈ tb := tb_of (i := 386) (by decide +kernel) rfl
theorem wd344 : (Jvm.Cond.instanceMethod ({ cls := "MeterDesk$Source", name := "s2", desc := "(I)I" } : Jvm.MethodName)) ∈ tb := tb_of (i := 387) (by decide +kernel) rfl
theorem wd345 : (Jvm.Cond.selects "MeterDesk$Source" ({ cls := "MeterDesk$Source", name := "s2", desc := "(I)I" } : Jvm.MethodName) ({ cls := "MeterDesk$Source", name := "s2", desc := "(I)I" } : Jvm.MethodName)) ∈ tb := tb_of (i := 388) (by decide +kernel) rfl
theorem wd346 : (Jvm.Cond.code ({ cls := "MeterDesk$Source", name := "s2", desc := "(I)I" } : Jvm.MethodName) prog_5_method_6_code (2 : Nat) (Option.some Jvm.ClassFile.FieldType.int)) ∈ tb := tb_of (i := 389) (by decide +kernel) rfl
theorem wd347 : (Jvm.Cond.methodLink "MeterDesk$Layout" (58 : Nat) ({ cls := "MeterDesk$Layout", name := "readHandlers", desc := "()Z" } : Jvm.MethodName)) ∈ tb := tb_of (i := 390) (by decide +kernel) rfl
theorem wd349 : (Jvm.Cond.instanceMethod ({ cls := "MeterDesk$Layout", name := "readHandlers", desc := "()Z" } : Jvm.MethodName)) ∈ tb := tb_of (i := 392) (by decide +kernel) rfl
theorem wd350 : (Jvm.Cond.code ({ cls := "MeterDesk$Layout", name := "readHandlers", desc := "()Z" } : Jvm.MethodName) prog_2_method_10_code (6 : Nat) (Option.some Jvm.ClassFile.FieldType.boolean)) ∈ tb := tb_of (i := 393) (by decide +kernel) rfl
theorem wd351 : (Jvm.Cond.methodLink "MeterDesk$Layout" (142 : Nat) ({ cls := "MeterDesk$Source", name := "part", desc := "(II)I" } : Jvm.MethodName)) ∈ tb := tb_of (i := 394) (by decide +kernel) rfl
theorem wd352 : (Jvm.Cond.instanceMethod ({ cls := "MeterDesk$Source", name := "part", desc := "(II)I" } : Jvm.MethodName)) ∈ tb := tb_of (i := 395) (by decide +kernel) rfl
theorem wd353 : (Jvm.Cond.selects "MeterDesk$Source" ({ cls := "MeterDesk$Source", name := "part", desc := "(II)I" } : Jvm.MethodName) ({ cls := "MeterDesk$Source", name := "part", desc := "(II)I" } : Jvm.MethodName)) ∈ tb := tb_of (i := 396) (by decide +kernel) rfl
theorem wd354 : (Jvm.Cond.code ({ cls := "MeterDesk$Source", name := "part", desc := "(II)I" } : Jvm.MethodName) prog_5_method_4_code (3 : Nat) (Option.some Jvm.ClassFile.FieldType.int)) ∈ tb := tb_of (i := 397) (by decide +kernel) rfl
theorem wd355 : (Jvm.Cond.methodLink "MeterDesk$Layout" (145 : Nat) ({ cls := "MeterDesk$Tariff", name := "isDangerous", desc := "(I)Z" } : Jvm.MethodName)) ∈ tb := tb_of (i := 398) (by decide +kernel) rfl
theorem wd356 : (Jvm.Cond.instanceMethod ({ cls := "MeterDesk$Tariff", name := "isDangerous", desc := "(I)Z" } : Jvm.MethodName)) ∈ tb := tb_of (i := 399) (by decide +kernel) rfl
theorem wd357 : (Jvm.Cond.selects "MeterDesk$Tariff" ({ cls := "MeterDesk$Tariff", name := "isDangerous", desc := "(I)Z" } : Jvm.MethodName) ({ cls := "MeterDesk$Tariff", name := "isDangerous", desc := "(I)Z" } : Jvm.MethodName)) ∈ tb := tb_of (i := 400) (by decide +kernel) rfl
theorem wd358 : (Jvm.Cond.code ({ cls := "MeterDesk$Tariff", name := "isDangerous", desc := "(I)Z" } : Jvm.MethodName) prog_6_method_2_code (2 : Nat) (Option.some Jvm.ClassFile.FieldType.boolean)) ∈ tb := tb_of (i := 401) (by decide +kernel) rfl
theorem wd359 : (Jvm.Cond.methodLink "MeterDesk$Layout" (61 : Nat) ({ cls := "MeterDesk$Layout", name := "sumBlocks", desc := "()V" } : Jvm.MethodName)) ∈ tb := tb_of (i := 402) (by decide +kernel) rfl
theorem wd361 : (Jvm.Cond.instanceMethod ({ cls := "MeterDesk$Layout", name := "sumBlocks", desc := "()V" } : Jvm.MethodName)) ∈ tb := tb_of (i := 404) (by decide +kernel) rfl
theorem wd362 : (Jvm.Cond.code ({ cls := "MeterDesk$Layout", name := "sumBlocks", desc := "()V" } : Jvm.MethodName) prog_2_method_11_code (7 : Nat) (Option.none : Option Jvm.ClassFile.FieldType)) ∈ tb := tb_of (i := 405) (by decide +kernel) rfl
theorem wd363 : (Jvm.Cond.methodLink "MeterDesk$Layout" (153 : Nat) ({ cls := "MeterDesk$Opcodes", name := "endsBlock", desc := "(I)Z" } : Jvm.MethodName)) ∈ tb := tb_of (i := 406) (by decide +kernel) rfl
theorem wd364 : (Jvm.Cond.static ({ cls := "MeterDesk$Opcodes", name := "endsBlock", desc := "(I)Z" } : Jvm.MethodName)) ∈ tb := tb_of (i := 407) (by decide +kernel) rfl
theorem wd365 : (Jvm.Cond.code ({ cls := "MeterDesk$Opcodes", name := "endsBlock", desc := "(I)Z" } : Jvm.MethodName) prog_3_method_7_code (1 : Nat) (Option.some Jvm.ClassFile.FieldType.boolean)) ∈ tb := tb_of (i := 408) (by decide +kernel) rfl
theorem wd366 : (Jvm.Cond.methodLink "MeterDesk$Opcodes" (15 : Nat) ({ cls := "MeterDesk$Opcodes", name := "isSwitch", desc := "(I)Z" } : Jvm.MethodName)) ∈ tb := tb_of (i := 409) (by decide +kernel) rfl
theorem wd367 : (Jvm.Cond.methodLink "MeterDesk$Opcodes" (18 : Nat) ({ cls := "MeterDesk$Opcodes", name := "isReturn", desc := "(I)Z" } : Jvm.MethodName)) ∈ tb := tb_of (i := 410) (by decide +kernel) rfl
theorem wd368 : (Jvm.Cond.static ({ cls := "MeterDesk$Opcodes", name := "isReturn", desc := "(I)Z" } : Jvm.MethodName)) ∈ tb := tb_of (i := 411) (by decide +kernel) rfl
theorem wd369 : (Jvm.Cond.code ({ cls := "MeterDesk$Opcodes", name := "isReturn", desc := "(I)Z" } : Jvm.MethodName) prog_3_method_5_code (1 : Nat) (Option.some Jvm.ClassFile.FieldType.boolean)) ∈ tb := tb_of (i := 412) (by decide +kernel) rfl
theorem wd370 : (Jvm.Cond.methodLink "MeterDesk$Layout" (64 : Nat) ({ cls := "MeterDesk$Layout", name := "measureLeads", desc := "()V" } : Jvm.MethodName)) ∈ tb := tb_of (i := 413) (by decide +kernel) rfl
theorem wd372 : (Jvm.Cond.instanceMethod ({ cls := "MeterDesk$Layout", name := "measureLeads", desc := "()V" } : Jvm.MethodName)) ∈ tb := tb_of (i := 415) (by decide +kernel) rfl
theorem wd373 : (Jvm.Cond.code ({ cls := "MeterDesk$Layout", name := "measureLeads", desc := "()V" } : Jvm.MethodName) prog_2_method_12_code (4 : Nat) (Option.none : Option Jvm.ClassFile.FieldType)) ∈ tb := tb_of (i := 416) (by decide +kernel) rfl
theorem wd374 : (Jvm.Cond.methodLink "MeterDesk$Layout" (156 : Nat) ({ cls := "MeterDesk$Layout", name := "pushLength", desc := "(I)I" } : Jvm.MethodName)) ∈ tb := tb_of (i := 417) (by decide +kernel) rfl
theorem wd375 : (Jvm.Cond.static ({ cls := "MeterDesk$Layout", name := "pushLength", desc := "(I)I" } : Jvm.MethodName)) ∈ tb := tb_of (i := 418) (by decide +kernel) rfl
theorem wd376 : (Jvm.Cond.code ({ cls := "MeterDesk$Layout", name := "pushLength", desc := "(I)I" } : Jvm.MethodName) prog_2_method_13_code (1 : Nat) (Option.some Jvm.ClassFile.FieldType.int)) ∈ tb := tb_of (i := 419) (by decide +kernel) rfl
theorem wd377 : (Jvm.Cond.methodLink "MeterDesk$Layout" (159 : Nat) ({ cls := "MeterDesk$Opcodes", name := "isReturn", desc := "(I)Z" } : Jvm.MethodName)) ∈ tb := tb_of (i := 420) (by decide +kernel) rfl
theorem wd378 : (Jvm.Cond.methodLink "MeterDesk$Layout" (162 : Nat) ({ cls := "MeterDesk$Opcodes", name := "makesArray", desc := "(I)Z" } : Jvm.MethodName)) ∈ tb := tb_of (i := 421) (by decide +kernel) rfl
theorem wd379 : (Jvm.Cond.static ({ cls := "MeterDesk$Opcodes", name := "makesArray", desc := "(I)Z" } : Jvm.MethodName)) ∈ tb := tb_of (i := 422) (by decide +kernel) rfl
theorem wd380 : (Jvm.Cond.code ({ cls := "MeterDesk$Opcodes", name := "makesArray", desc := "(I)Z" } : Jvm.MethodName) prog_3_method_6_code (1 : Nat) (Option.some Jvm.ClassFile.FieldType.boolean)) ∈ tb := tb_of (i := 423) (by decide +kernel) rfl
theorem wd381 : (Jvm.Cond.methodLink "MeterDesk$Layout" (67 : Nat) ({ cls := "MeterDesk$Layout", name := "settle", desc := "()V" } : Jvm.MethodName)) ∈ tb := tb_of (i := 424) (by decide +kernel) rfl
theorem wd383 : (Jvm.Cond.instanceMethod ({ cls := "MeterDesk$Layout", name := "settle", desc := "()V" } : Jvm.MethodName)) ∈ tb := tb_of (i := 426) (by decide +kernel) rfl
theorem wd384 : (Jvm.Cond.code ({ cls := "MeterDesk$Layout", name := "settle", desc := "()V" } : Jvm.MethodName) prog_2_method_14_code (2 : Nat) (Option.none : Option Jvm.ClassFile.FieldType)) ∈ tb := tb_of (i := 427) (by decide +kernel) rfl
theorem wd385 : (Jvm.Cond.methodLink "MeterDesk$Layout" (165 : Nat) ({ cls := "MeterDesk$Layout", name := "givePlaces", desc := "()V" } : Jvm.MethodName)) ∈ tb := tb_of (i := 428) (by decide +kernel) rfl
theorem wd387 : (Jvm.Cond.instanceMethod ({ cls := "MeterDesk$Layout", name := "givePlaces", desc := "()V" } : Jvm.MethodName)) ∈ tb := tb_of (i := 430) (by decide +kernel) rfl
theorem wd388 : (Jvm.Cond.code ({ cls := "MeterDesk$Layout", name := "givePlaces", desc := "()V" } : Jvm.MethodName) prog_2_method_15_code (4 : Nat) (Option.none : Option Jvm.ClassFile.FieldType)) ∈ tb := tb_of (i := 431) (by decide +kernel) rfl
theorem wd389 : (Jvm.Cond.methodLink "MeterDesk$Layout" (171 : Nat) ({ cls := "MeterDesk$Layout", name := "lengthAtSpot", desc := "(I)I" } : Jvm.MethodName)) ∈ tb := tb_of (i := 432) (by decide +kernel) rfl
theorem wd391 : (Jvm.Cond.instanceMethod ({ cls := "MeterDesk$Layout", name := "lengthAtSpot", desc := "(I)I" } : Jvm.MethodName)) ∈ tb := tb_of (i := 434) (by decide +kernel) rfl
theorem wd392 : (Jvm.Cond.code ({ cls := "MeterDesk$Layout", name := "lengthAtSpot", desc := "(I)I" } : Jvm.MethodName) prog_2_method_16_code (3 : Nat) (Option.some Jvm.ClassFile.FieldType.int)) ∈ tb := tb_of (i := 435) (by decide +kernel) rfl
theorem wd393 : (Jvm.Cond.methodLink "MeterDesk$Layout" (168 : Nat) ({ cls := "MeterDesk$Layout", name := "stretchJumps", desc := "()Z" } : Jvm.MethodName)) ∈ tb := tb_of (i := 436) (by decide +kernel) rfl
theorem wd395 : (Jvm.Cond.instanceMethod ({ cls := "MeterDesk$Layout", name := "stretchJumps", desc := "()Z" } : Jvm.MethodName)) ∈ tb := tb_of (i := 438) (by decide +kernel) rfl
theorem wd396 : (Jvm.Cond.code ({ cls := "MeterDesk$Layout", name := "stretchJumps", desc := "()Z" } : Jvm.MethodName) prog_2_method_17_code (5 : Nat) (Option.some Jvm.ClassFile.FieldType.boolean)) ∈ tb := tb_of (i := 439) (by decide +kernel) rfl
theorem wd397 : (Jvm.Cond.methodLink "MeterDesk" (88 : Nat) ({ cls := "MeterDesk$Output", name := "write", desc := "()V" } : Jvm.MethodName)) ∈ tb := tb_of (i := 440) (by decide +kernel) rfl
theorem wd398 : (Jvm.Cond.instanceMethod ({ cls := "MeterDesk$Output", name := "write", desc := "()V" } : Jvm.MethodName)) ∈ tb := tb_of (i := 441) (by decide +kernel) rfl
theorem wd399 : (Jvm.Cond.selects "MeterDesk$Output" ({ cls := "MeterDesk$Output", name := "write", desc := "()V" } : Jvm.MethodName) ({ cls := "MeterDesk$Output", name := "write", desc := "()V" } : Jvm.MethodName)) ∈ tb := tb_of (i := 442) (by decide +kernel) rfl
theorem wd400 : (Jvm.Cond.code ({ cls := "MeterDesk$Output", name := "write", desc := "()V" } : Jvm.MethodName) prog_4_method_3_code (3 : Nat) (Option.none : Option Jvm.ClassFile.FieldType)) ∈ tb := tb_of (i := 443) (by decide +kernel) rfl
theorem wd401 : (Jvm.Cond.methodLink "MeterDesk$Output" (53 : Nat) ({ cls := "MeterDesk$Output", name := "writeLead", desc := "(I)V" } : Jvm.MethodName)) ∈ tb := tb_of (i := 444) (by decide +kernel) rfl
theorem wd403 : (Jvm.Cond.instanceMethod ({ cls := "MeterDesk$Output", name := "writeLead", desc := "(I)V" } : Jvm.MethodName)) ∈ tb := tb_of (i := 446) (by decide +kernel) rfl
theorem wd404 : (Jvm.Cond.code ({ cls := "MeterDesk$Output", name := "writeLead", desc := "(I)V" } : Jvm.MethodName) prog_4_method_4_code (3 : Nat) (Option.none : Option Jvm.ClassFile.FieldType)) ∈ tb := tb_of (i := 447) (by decide +kernel) rfl
theorem wd405 : (Jvm.Cond.methodLink "MeterDesk$Output" (63 : Nat) ({ cls := "MeterDesk$Source", name := "u1", desc := "(I)I" } : Jvm.MethodName)) ∈ tb := tb_of (i := 448) (by decide +kernel) rfl
theorem wd406 : (Jvm.Cond.methodLink "MeterDesk$Output" (67 : Nat) ({ cls := "MeterDesk$Output", name := "putCall", desc := "(I)V" } : Jvm.MethodName)) ∈ tb := tb_of (i := 449) (by decide +kernel) rfl
theorem wd408 : (Jvm.Cond.instanceMethod ({ cls := "MeterDesk$Output", name := "putCall", desc := "(I)V" } : Jvm.MethodName)) ∈ tb := tb_of (i := 451) (by decide +kernel) rfl
theorem wd409 : (Jvm.Cond.code ({ cls := "MeterDesk$Output", name := "putCall", desc := "(I)V" } : Jvm.MethodName) prog_4_method_9_code (2 : Nat) (Option.none : Option Jvm.ClassFile.FieldType)) ∈ tb := tb_of (i := 452) (by decide +kernel) rfl
theorem wd410 : (Jvm.Cond.methodLink "MeterDesk$Output" (108 : Nat) ({ cls := "MeterDesk$Output", name := "put1", desc := "(I)V" } : Jvm.MethodName)) ∈ tb := tb_of (i := 453) (by decide +kernel) rfl
theorem wd412 : (Jvm.Cond.instanceMethod ({ cls := "MeterDesk$Output", name := "put1", desc := "(I)V" } : Jvm.MethodName)) ∈ tb := tb_of (i := 455) (by decide +kernel) rfl
theorem wd413 : (Jvm.Cond.code ({ cls := "MeterDesk$Output", name := "put1", desc := "(I)V" } : Jvm.MethodName) prog_4_method_12_code (2 : Nat) (Option.none : Option Jvm.ClassFile.FieldType)) ∈ tb := tb_of (i := 456) (by decide +kernel) rfl
theorem wd414 : (Jvm.Cond.methodLink "MeterDesk$Output" (120 : Nat) ({ cls := "MeterDesk$Output", name := "put2", desc := "(I)V" } : Jvm.MethodName)) ∈ tb := tb_of (i := 457) (by decide +kernel) rfl
theorem wd416 : (Jvm.Cond.instanceMethod ({ cls := "MeterDesk$Output", name := "put2", desc := "(I)V" } : Jvm.MethodName)) ∈ tb := tb_of (i := 459) (by decide +kernel) rfl
theorem wd417 : (Jvm.Cond.code ({ cls := "MeterDesk$Output", name := "put2", desc := "(I)V" } : Jvm.MethodName) prog_4_method_13_code (2 : Nat) (Option.none : Option Jvm.ClassFile.FieldType)) ∈ tb := tb_of (i := 460) (by decide +kernel) rfl
theorem wd418 : (Jvm.Cond.methodLink "MeterDesk$Output" (74 : Nat) ({ cls := "MeterDesk$Output", name := "putDuplicate", desc := "()V" } : Jvm.MethodName)) ∈ tb := tb_of (i := 461) (by decide +kernel) rfl
theorem wd420 : (Jvm.Cond.instanceMethod ({ cls := "MeterDesk$Output", name := "putDuplicate", desc := "()V" } : Jvm.MethodName)) ∈ tb := tb_of (i := 463) (by decide +kernel) rfl
theorem wd421 : (Jvm.Cond.code ({ cls := "MeterDesk$Output", name := "putDuplicate", desc := "()V" } : Jvm.MethodName) prog_4_method_10_code (1 : Nat) (Option.none : Option Jvm.ClassFile.FieldType)) ∈ tb := tb_of (i := 464) (by decide +kernel) rfl
theorem wd422 : (Jvm.Cond.methodLink "MeterDesk$Output" (80 : Nat) ({ cls := "MeterDesk$Output", name := "putCost", desc := "(I)V" } : Jvm.MethodName)) ∈ tb := tb_of (i := 465) (by decide +kernel) rfl
theorem wd424 : (Jvm.Cond.instanceMethod ({ cls := "MeterDesk$Output", name := "putCost", desc := "(I)V" } : Jvm.MethodName)) ∈ tb := tb_of (i := 467) (by decide +kernel) rfl
theorem wd425 : (Jvm.Cond.code ({ cls := "MeterDesk$Output", name := "putCost", desc := "(I)V" } : Jvm.MethodName) prog_4_method_11_code (2 : Nat) (Option.none : Option Jvm.ClassFile.FieldType)) ∈ tb := tb_of (i := 468) (by decide +kernel) rfl
theorem wd426 : (Jvm.Cond.methodLink "MeterDesk$Output" (83 : Nat) ({ cls := "MeterDesk$Opcodes", name := "isReturn", desc := "(I)Z" } : Jvm.MethodName)) ∈ tb := tb_of (i := 469) (by decide +kernel) rfl
theorem wd427 : (Jvm.Cond.methodLink "MeterDesk$Output" (89 : Nat) ({ cls := "MeterDesk$Opcodes", name := "makesArray", desc := "(I)Z" } : Jvm.MethodName)) ∈ tb := tb_of (i := 470) (by decide +kernel) rfl
theorem wd428 : (Jvm.Cond.methodLink "MeterDesk$Output" (57 : Nat) ({ cls := "MeterDesk$Output", name := "writeInstruction", desc := "(I)V" } : Jvm.MethodName)) ∈ tb := tb_of (i := 471) (by decide +kernel) rfl
theorem wd430 : (Jvm.Cond.instanceMethod ({ cls := "MeterDesk$Output", name := "writeInstruction", desc := "(I)V" } : Jvm.MethodName)) ∈ tb := tb_of (i := 473) (by decide +kernel) rfl
theorem wd431 : (Jvm.Cond.code ({ cls := "MeterDesk$Output", name := "writeInstruction", desc := "(I)V" } : Jvm.MethodName) prog_4_method_5_code (4 : Nat) (Option.none : Option Jvm.ClassFile.FieldType)) ∈ tb := tb_of (i := 474) (by decide +kernel) rfl
theorem wd432 : (Jvm.Cond.methodLink "MeterDesk$Output" (92 : Nat) ({ cls := "MeterDesk$Opcodes", name := "isSwitch", desc := "(I)Z" } : Jvm.MethodName)) ∈ tb := tb_of (i := 475) (by decide +kernel) rfl
theorem wd433 : (Jvm.Cond.methodLink "MeterDesk$Output" (95 : Nat) ({ cls := "MeterDesk$Output", name := "writeSwitch", desc := "(II)V" } : Jvm.MethodName)) ∈ tb := tb_of (i := 476) (by decide +kernel) rfl
theorem wd435 : (Jvm.Cond.instanceMethod ({ cls := "MeterDesk$Output", name := "writeSwitch", desc := "(II)V" } : Jvm.MethodName)) ∈ tb := tb_of (i := 478) (by decide +kernel) rfl
theorem wd436 : (Jvm.Cond.code ({ cls := "MeterDesk$Output", name := "writeSwitch", desc := "(II)V" } : Jvm.MethodName) prog_4_method_7_code (6 : Nat) (Option.none : Option Jvm.ClassFile.FieldType)) ∈ tb := tb_of (i := 479) (by decide +kernel) rfl
theorem wd437 : (Jvm.Cond.methodLink "MeterDesk$Output" (132 : Nat) ({ cls := "MeterDesk$Source", name := "wordsFrom", desc := "(I)I" } : Jvm.MethodName)) ∈ tb := tb_of (i := 480) (by decide +kernel) rfl
theorem wd438 : (Jvm.Cond.methodLink "MeterDesk$Output" (135 : Nat) ({ cls := "MeterDesk$Layout", name := "wordsOf", desc := "(I)I" } : Jvm.MethodName)) ∈ tb := tb_of (i := 481) (by decide +kernel) rfl
theorem wd439 : (Jvm.Cond.methodLink "MeterDesk$Output" (138 : Nat) ({ cls := "MeterDesk$Opcodes", name := "isGoalWord", desc := "(II)Z" } : Jvm.MethodName)) ∈ tb := tb_of (i := 482) (by decide +kernel) rfl
theorem wd440 : (Jvm.Cond.methodLink "MeterDesk$Output" (142 : Nat) ({ cls := "MeterDesk$Source", name := "wordGoal", desc := "(II)I" } : Jvm.MethodName)) ∈ tb := tb_of (i := 483) (by decide +kernel) rfl
theorem wd441 : (Jvm.Cond.methodLink "MeterDesk$Output" (129 : Nat) ({ cls := "MeterDesk$Output", name := "put4", desc := "(I)V" } : Jvm.MethodName)) ∈ tb := tb_of (i := 484) (by decide +kernel) rfl
theorem wd443 : (Jvm.Cond.instanceMethod ({ cls := "MeterDesk$Output", name := "put4", desc := "(I)V" } : Jvm.MethodName)) ∈ tb := tb_of (i := 486) (by decide +kernel) rfl
theorem wd444 : (Jvm.Cond.code ({ cls := "MeterDesk$Output", name := "put4", desc := "(I)V" } : Jvm.MethodName) prog_4_method_14_code (2 : Nat) (Option.none : Option Jvm.ClassFile.FieldType)) ∈ tb := tb_of (i := 487) (by decide +kernel) rfl
theorem wd445 : (Jvm.Cond.methodLink "MeterDesk$Output" (146 : Nat) ({ cls := "MeterDesk$Source", name := "s4", desc := "(I)I" } : Jvm.MethodName)) ∈ tb := tb_of (i := 488) (by decide +kernel) rfl
theorem wd446 : (Jvm.Cond.methodLink "MeterDesk$Output" (102 : Nat) ({ cls := "MeterDesk$Output", name := "writeFarJump", desc := "(II)V" } : Jvm.MethodName)) ∈ tb := tb_of (i := 489) (by decide +kernel) rfl
theorem wd448 : (Jvm.Cond.instanceMethod ({ cls := "MeterDesk$Output", name := "writeFarJump", desc := "(II)V" } : Jvm.MethodName)) ∈ tb := tb_of (i := 491) (by decide +kernel) rfl
theorem wd449 : (Jvm.Cond.code ({ cls := "MeterDesk$Output", name := "writeFarJump", desc := "(II)V" } : Jvm.MethodName) prog_4_method_6_code (4 : Nat) (Option.none : Option Jvm.ClassFile.FieldType)) ∈ tb := tb_of (i := 492) (by decide +kernel) rfl
theorem wd450 : (Jvm.Cond.methodLink "MeterDesk$Output" (126 : Nat) ({ cls := "MeterDesk$Opcodes", name := "opposite", desc := "(I)I" } : Jvm.MethodName)) ∈ tb := tb_of (i := 493) (by decide +kernel) rfl
theorem wd451 : (Jvm.Cond.static ({ cls := "MeterDesk$Opcodes", name := "opposite", desc := "(I)I" } : Jvm.MethodName)) ∈ tb := tb_of (i := 494) (by decide +kernel) rfl
theorem wd452 : (Jvm.Cond.code ({ cls := "MeterDesk$Opcodes", name := "opposite", desc := "(I)I" } : Jvm.MethodName) prog_3_method_10_code (1 : Nat) (Option.some Jvm.ClassFile.FieldType.int)) ∈ tb := tb_of (i := 495) (by decide +kernel) rfl
theorem wd453 : (Jvm.Cond.methodLink "MeterDesk$Output" (114 : Nat) ({ cls := "MeterDesk$Source", name := "jumpGoal", desc := "(I)I" } : Jvm.MethodName)) ∈ tb := tb_of (i := 496) (by decide +kernel) rfl
theorem wd454 : (Jvm.Cond.methodLink "MeterDesk$Output" (105 : Nat) ({ cls := "MeterDesk$Opcodes", name := "isShortJump", desc := "(I)Z" } : Jvm.MethodName)) ∈ tb := tb_of (i := 497) (by decide +kernel) rfl
theorem wd455 : (Jvm.Cond.methodLink "MeterDesk$Output" (60 : Nat) ({ cls := "MeterDesk$Output", name := "writeGuards", desc := "()V" } : Jvm.MethodName)) ∈ tb := tb_of (i := 498) (by decide +kernel) rfl
theorem wd457 : (Jvm.Cond.instanceMethod ({ cls := "MeterDesk$Output", name := "writeGuards", desc := "()V" } : Jvm.MethodName)) ∈ tb := tb_of (i := 500) (by decide +kernel) rfl
theorem wd458 : (Jvm.Cond.code ({ cls := "MeterDesk$Output", name := "writeGuards", desc := "()V" } : Jvm.MethodName) prog_4_method_8_code (4 : Nat) (Option.none : Option Jvm.ClassFile.FieldType)) ∈ tb := tb_of (i := 501) (by decide +kernel) rfl
theorem wd459 : (Jvm.Cond.methodLink "MeterDesk$Output" (152 : Nat) ({ cls := "MeterDesk$Source", name := "part", desc := "(II)I" } : Jvm.MethodName)) ∈ tb := tb_of (i := 502) (by decide +kernel) rfl
theorem wd468 : (Jvm.Cond.methodLink "MeterDesk" (96 : Nat) ({ cls := "MeterDesk$Layout", name := "begins", desc := "(I)Z" } : Jvm.MethodName)) ∈ tb := tb_of (i := 511) (by decide +kernel) rfl
theorem ws0 : Cond.selects "MeterDesk$Layout" ⟨"MeterDesk$Layout", "forget", "()V"⟩ ⟨"MeterDesk$Layout", "forget", "()V"⟩ ∈ tb := tb_of (i := 0) (by decide +kernel) rfl
theorem ws1 : Cond.selects "MeterDesk$Layout" ⟨"MeterDesk$Layout", "readInstructions", "()Z"⟩ ⟨"MeterDesk$Layout", "readInstructions", "()Z"⟩ ∈ tb := tb_of (i := 1) (by decide +kernel) rfl
theorem ws2 : Cond.selects "MeterDesk$Source" ⟨"MeterDesk$Source", "wideLength", "(I)I"⟩ ⟨"MeterDesk$Source", "wideLength", "(I)I"⟩ ∈ tb := tb_of (i := 2) (by decide +kernel) rfl
theorem ws3 : Cond.selects "MeterDesk$Source" ⟨"MeterDesk$Source", "switchLength", "(II)I"⟩ ⟨"MeterDesk$Source", "switchLength", "(II)I"⟩ ∈ tb := tb_of (i := 3) (by decide +kernel) rfl
theorem ws4 : Cond.selects "MeterDesk$Layout" ⟨"MeterDesk$Layout", "readGoals", "()Z"⟩ ⟨"MeterDesk$Layout", "readGoals", "()Z"⟩ ∈ tb := tb_of (i := 4) (by decide +kernel) rfl
theorem ws5 : Cond.selects "MeterDesk$Layout" ⟨"MeterDesk$Layout", "readWordGoals", "(II)Z"⟩ ⟨"MeterDesk$Layout", "readWordGoals", "(II)Z"⟩ ∈ tb := tb_of (i := 5) (by decide +kernel) rfl
theorem ws6 : Cond.selects "MeterDesk$Layout" ⟨"MeterDesk$Layout", "beginBlock", "(I)Z"⟩ ⟨"MeterDesk$Layout", "beginBlock", "(I)Z"⟩ ∈ tb := tb_of (i := 6) (by decide +kernel) rfl
theorem ws7 : Cond.selects "MeterDesk$Layout" ⟨"MeterDesk$Layout", "readHandlers", "()Z"⟩ ⟨"MeterDesk$Layout", "readHandlers", "()Z"⟩ ∈ tb := tb_of (i := 7) (by decide +kernel) rfl
theorem ws8 : Cond.selects "MeterDesk$Layout" ⟨"MeterDesk$Layout", "sumBlocks", "()V"⟩ ⟨"MeterDesk$Layout", "sumBlocks", "()V"⟩ ∈ tb := tb_of (i := 8) (by decide +kernel) rfl
theorem ws9 : Cond.selects "MeterDesk$Layout" ⟨"MeterDesk$Layout", "measureLeads", "()V"⟩ ⟨"MeterDesk$Layout", "measureLeads", "()V"⟩ ∈ tb := tb_of (i := 9) (by decide +kernel) rfl
theorem ws10 : Cond.selects "MeterDesk$Layout" ⟨"MeterDesk$Layout", "settle", "()V"⟩ ⟨"MeterDesk$Layout", "settle", "()V"⟩ ∈ tb := tb_of (i := 10) (by decide +kernel) rfl
theorem ws11 : Cond.selects "MeterDesk$Layout" ⟨"MeterDesk$Layout", "givePlaces", "()V"⟩ ⟨"MeterDesk$Layout", "givePlaces", "()V"⟩ ∈ tb := tb_of (i := 11) (by decide +kernel) rfl
theorem ws12 : Cond.selects "MeterDesk$Layout" ⟨"MeterDesk$Layout", "lengthAtSpot", "(I)I"⟩ ⟨"MeterDesk$Layout", "lengthAtSpot", "(I)I"⟩ ∈ tb := tb_of (i := 12) (by decide +kernel) rfl
theorem ws13 : Cond.selects "MeterDesk$Layout" ⟨"MeterDesk$Layout", "stretchJumps", "()Z"⟩ ⟨"MeterDesk$Layout", "stretchJumps", "()Z"⟩ ∈ tb := tb_of (i := 13) (by decide +kernel) rfl
theorem ws14 : Cond.selects "MeterDesk$Output" ⟨"MeterDesk$Output", "writeLead", "(I)V"⟩ ⟨"MeterDesk$Output", "writeLead", "(I)V"⟩ ∈ tb := tb_of (i := 14) (by decide +kernel) rfl
theorem ws15 : Cond.selects "MeterDesk$Output" ⟨"MeterDesk$Output", "putCall", "(I)V"⟩ ⟨"MeterDesk$Output", "putCall", "(I)V"⟩ ∈ tb := tb_of (i := 15) (by decide +kernel) rfl
theorem ws16 : Cond.selects "MeterDesk$Output" ⟨"MeterDesk$Output", "put1", "(I)V"⟩ ⟨"MeterDesk$Output", "put1", "(I)V"⟩ ∈ tb := tb_of (i := 16) (by decide +kernel) rfl
theorem ws17 : Cond.selects "MeterDesk$Output" ⟨"MeterDesk$Output", "put2", "(I)V"⟩ ⟨"MeterDesk$Output", "put2", "(I)V"⟩ ∈ tb := tb_of (i := 17) (by decide +kernel) rfl
theorem ws18 : Cond.selects "MeterDesk$Output" ⟨"MeterDesk$Output", "putDuplicate", "()V"⟩ ⟨"MeterDesk$Output", "putDuplicate", "()V"⟩ ∈ tb := tb_of (i := 18) (by decide +kernel) rfl
theorem ws19 : Cond.selects "MeterDesk$Output" ⟨"MeterDesk$Output", "putCost", "(I)V"⟩ ⟨"MeterDesk$Output", "putCost", "(I)V"⟩ ∈ tb := tb_of (i := 19) (by decide +kernel) rfl
theorem ws20 : Cond.selects "MeterDesk$Output" ⟨"MeterDesk$Output", "writeInstruction", "(I)V"⟩ ⟨"MeterDesk$Output", "writeInstruction", "(I)V"⟩ ∈ tb := tb_of (i := 20) (by decide +kernel) rfl
theorem ws21 : Cond.selects "MeterDesk$Output" ⟨"MeterDesk$Output", "writeSwitch", "(II)V"⟩ ⟨"MeterDesk$Output", "writeSwitch", "(II)V"⟩ ∈ tb := tb_of (i := 21) (by decide +kernel) rfl
theorem ws22 : Cond.selects "MeterDesk$Output" ⟨"MeterDesk$Output", "put4", "(I)V"⟩ ⟨"MeterDesk$Output", "put4", "(I)V"⟩ ∈ tb := tb_of (i := 22) (by decide +kernel) rfl
theorem ws23 : Cond.selects "MeterDesk$Output" ⟨"MeterDesk$Output", "writeFarJump", "(II)V"⟩ ⟨"MeterDesk$Output", "writeFarJump", "(II)V"⟩ ∈ tb := tb_of (i := 23) (by decide +kernel) rfl
theorem ws24 : Cond.selects "MeterDesk$Output" ⟨"MeterDesk$Output", "writeGuards", "()V"⟩ ⟨"MeterDesk$Output", "writeGuards", "()V"⟩ ∈ tb := tb_of (i := 24) (by decide +kernel) rfl
