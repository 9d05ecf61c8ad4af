theorem wd204 : (Jvm.Cond.methodLink "MeterDeskLaw" (15 : Nat) ({ cls := "MeterDesk", name := "code", desc := "(JI)I" } : Jvm.MethodName)) ∈ tb := tb_of (i := 247) (by decide +kernel) rfl
theorem wd205 : (Jvm.Cond.instanceMethod ({ cls := "MeterDesk", name := "code", desc := "(JI)I" } : Jvm.MethodName)) ∈ tb := tb_of (i := 248) (by decide +kernel) rfl
theorem wd206 : (Jvm.Cond.selects "MeterDesk" ({ cls := "MeterDesk", name := "code", desc := "(JI)I" } : Jvm.MethodName) ({ cls := "MeterDesk", name := "code", desc := "(JI)I" } : Jvm.MethodName)) ∈ tb := tb_of (i := 249) (by decide +kernel) rfl
theorem wd207 : (Jvm.Cond.code ({ cls := "MeterDesk", name := "code", desc := "(JI)I" } : Jvm.MethodName) prog_1_method_2_code (5 : Nat) (Option.some Jvm.ClassFile.FieldType.int)) ∈ tb := tb_of (i := 250) (by decide +kernel) rfl
theorem wd212 : (Jvm.Cond.methodLink "MeterDeskLaw" (20 : Nat) ({ cls := "MeterDesk", name := "change", desc := "(II)I" } : Jvm.MethodName)) ∈ tb := tb_of (i := 255) (by decide +kernel) rfl
theorem wd213 : (Jvm.Cond.instanceMethod ({ cls := "MeterDesk", name := "change", desc := "(II)I" } : Jvm.MethodName)) ∈ tb := tb_of (i := 256) (by decide +kernel) rfl
theorem wd214 : (Jvm.Cond.selects "MeterDesk" ({ cls := "MeterDesk", name := "change", desc := "(II)I" } : Jvm.MethodName) ({ cls := "MeterDesk", name := "change", desc := "(II)I" } : Jvm.MethodName)) ∈ tb := tb_of (i := 257) (by decide +kernel) rfl
theorem wd215 : (Jvm.Cond.code ({ cls := "MeterDesk", name := "change", desc := "(II)I" } : Jvm.MethodName) prog_1_method_3_code (4 : Nat) (Option.some Jvm.ClassFile.FieldType.int)) ∈ tb := tb_of (i := 258) (by decide +kernel) rfl
theorem wd219 : (Jvm.Cond.methodLink "MeterDeskLaw" (25 : Nat) ({ cls := "MeterDesk", name := "clear", desc := "()I" } : Jvm.MethodName)) ∈ tb := tb_of (i := 262) (by decide +kernel) rfl
theorem wd220 : (Jvm.Cond.instanceMethod ({ cls := "MeterDesk", name := "clear", desc := "()I" } : Jvm.MethodName)) ∈ tb := tb_of (i := 263) (by decide +kernel) rfl
theorem wd221 : (Jvm.Cond.selects "MeterDesk" ({ cls := "MeterDesk", name := "clear", desc := "()I" } : Jvm.MethodName) ({ cls := "MeterDesk", name := "clear", desc := "()I" } : Jvm.MethodName)) ∈ tb := tb_of (i := 264) (by decide +kernel) rfl
theorem wd222 : (Jvm.Cond.code ({ cls := "MeterDesk", name := "clear", desc := "()I" } : Jvm.MethodName) prog_1_method_4_code (2 : Nat) (Option.some Jvm.ClassFile.FieldType.int)) ∈ tb := tb_of (i := 265) (by decide +kernel) rfl
theorem wd223 : (Jvm.Cond.methodLink "MeterDeskLaw" (30 : Nat) ({ cls := "MeterDesk", name := "handler", desc := "(IIII)I" } : Jvm.MethodName)) ∈ tb := tb_of (i := 266) (by decide +kernel) rfl
theorem wd224 : (Jvm.Cond.instanceMethod ({ cls := "MeterDesk", name := "handler", desc := "(IIII)I" } : Jvm.MethodName)) ∈ tb := tb_of (i := 267) (by decide +kernel) rfl
theorem wd225 : (Jvm.Cond.selects "MeterDesk" ({ cls := "MeterDesk", name := "handler", desc := "(IIII)I" } : Jvm.MethodName) ({ cls := "MeterDesk", name := "handler", desc := "(IIII)I" } : Jvm.MethodName)) ∈ tb := tb_of (i := 268) (by decide +kernel) rfl
theorem wd226 : (Jvm.Cond.code ({ cls := "MeterDesk", name := "handler", desc := "(IIII)I" } : Jvm.MethodName) prog_1_method_5_code (5 : Nat) (Option.some Jvm.ClassFile.FieldType.int)) ∈ tb := tb_of (i := 269) (by decide +kernel) rfl
theorem wd234 : (Jvm.Cond.methodLink "MeterDeskLaw" (35 : Nat) ({ cls := "MeterDesk", name := "mark", desc := "(IZ)Z" } : Jvm.MethodName)) ∈ tb := tb_of (i := 277) (by decide +kernel) rfl
theorem wd235 : (Jvm.Cond.instanceMethod ({ cls := "MeterDesk", name := "mark", desc := "(IZ)Z" } : Jvm.MethodName)) ∈ tb := tb_of (i := 278) (by decide +kernel) rfl
theorem wd236 : (Jvm.Cond.selects "MeterDesk" ({ cls := "MeterDesk", name := "mark", desc := "(IZ)Z" } : Jvm.MethodName) ({ cls := "MeterDesk", name := "mark", desc := "(IZ)Z" } : Jvm.MethodName)) ∈ tb := tb_of (i := 279) (by decide +kernel) rfl
theorem wd237 : (Jvm.Cond.code ({ cls := "MeterDesk", name := "mark", desc := "(IZ)Z" } : Jvm.MethodName) prog_1_method_6_code (3 : Nat) (Option.some Jvm.ClassFile.FieldType.boolean)) ∈ tb := tb_of (i := 280) (by decide +kernel) rfl
theorem wd238 : (Jvm.Cond.methodLink "MeterDeskLaw" (40 : Nat) ({ cls := "MeterDesk", name := "cost", desc := "(II)I" } : Jvm.MethodName)) ∈ tb := tb_of (i := 281) (by decide +kernel) rfl
theorem wd239 : (Jvm.Cond.instanceMethod ({ cls := "MeterDesk", name := "cost", desc := "(II)I" } : Jvm.MethodName)) ∈ tb := tb_of (i := 282) (by decide +kernel) rfl
theorem wd240 : (Jvm.Cond.selects "MeterDesk" ({ cls := "MeterDesk", name := "cost", desc := "(II)I" } : Jvm.MethodName) ({ cls := "MeterDesk", name := "cost", desc := "(II)I" } : Jvm.MethodName)) ∈ tb := tb_of (i := 283) (by decide +kernel) rfl
theorem wd241 : (Jvm.Cond.code ({ cls := "MeterDesk", name := "cost", desc := "(II)I" } : Jvm.MethodName) prog_1_method_7_code (4 : Nat) (Option.some Jvm.ClassFile.FieldType.int)) ∈ tb := tb_of (i := 284) (by decide +kernel) rfl
theorem wd242 : (Jvm.Cond.methodLink "MeterDeskLaw" (44 : Nat) ({ cls := "MeterDesk", name := "set", desc := "(II)Z" } : Jvm.MethodName)) ∈ tb := tb_of (i := 285) (by decide +kernel) rfl
theorem wd243 : (Jvm.Cond.instanceMethod ({ cls := "MeterDesk", name := "set", desc := "(II)Z" } : Jvm.MethodName)) ∈ tb := tb_of (i := 286) (by decide +kernel) rfl
theorem wd244 : (Jvm.Cond.selects "MeterDesk" ({ cls := "MeterDesk", name := "set", desc := "(II)Z" } : Jvm.MethodName) ({ cls := "MeterDesk", name := "set", desc := "(II)Z" } : Jvm.MethodName)) ∈ tb := tb_of (i := 287) (by decide +kernel) rfl
theorem wd245 : (Jvm.Cond.code ({ cls := "MeterDesk", name := "set", desc := "(II)Z" } : Jvm.MethodName) prog_1_method_8_code (3 : Nat) (Option.some Jvm.ClassFile.FieldType.boolean)) ∈ tb := tb_of (i := 288) (by decide +kernel) rfl
theorem wd247 : (Jvm.Cond.methodLink "MeterDeskLaw" (49 : Nat) ({ cls := "MeterDesk", name := "rewrite", desc := "()I" } : Jvm.MethodName)) ∈ tb := tb_of (i := 290) (by decide +kernel) rfl
theorem wd248 : (Jvm.Cond.instanceMethod ({ cls := "MeterDesk", name := "rewrite", desc := "()I" } : Jvm.MethodName)) ∈ tb := tb_of (i := 291) (by decide +kernel) rfl
theorem wd249 : (Jvm.Cond.selects "MeterDesk" ({ cls := "MeterDesk", name := "rewrite", desc := "()I" } : Jvm.MethodName) ({ cls := "MeterDesk", name := "rewrite", desc := "()I" } : Jvm.MethodName)) ∈ tb := tb_of (i := 292) (by decide +kernel) rfl
theorem wd250 : (Jvm.Cond.code ({ cls := "MeterDesk", name := "rewrite", desc := "()I" } : Jvm.MethodName) prog_1_method_9_code (2 : Nat) (Option.some Jvm.ClassFile.FieldType.int)) ∈ tb := tb_of (i := 293) (by decide +kernel) rfl
theorem wd460 : (Jvm.Cond.methodLink "MeterDeskLaw" (53 : Nat) ({ cls := "MeterDesk", name := "octet", desc := "(I)I" } : Jvm.MethodName)) ∈ tb := tb_of (i := 503) (by decide +kernel) rfl
theorem wd461 : (Jvm.Cond.instanceMethod ({ cls := "MeterDesk", name := "octet", desc := "(I)I" } : Jvm.MethodName)) ∈ tb := tb_of (i := 504) (by decide +kernel) rfl
theorem wd462 : (Jvm.Cond.selects "MeterDesk" ({ cls := "MeterDesk", name := "octet", desc := "(I)I" } : Jvm.MethodName) ({ cls := "MeterDesk", name := "octet", desc := "(I)I" } : Jvm.MethodName)) ∈ tb := tb_of (i := 505) (by decide +kernel) rfl
theorem wd463 : (Jvm.Cond.code ({ cls := "MeterDesk", name := "octet", desc := "(I)I" } : Jvm.MethodName) prog_1_method_10_code (2 : Nat) (Option.some Jvm.ClassFile.FieldType.int)) ∈ tb := tb_of (i := 506) (by decide +kernel) rfl
theorem wd464 : (Jvm.Cond.methodLink "MeterDeskLaw" (58 : Nat) ({ cls := "MeterDesk", name := "moved", desc := "(II)I" } : Jvm.MethodName)) ∈ tb := tb_of (i := 507) (by decide +kernel) rfl
theorem wd465 : (Jvm.Cond.instanceMethod ({ cls := "MeterDesk", name := "moved", desc := "(II)I" } : Jvm.MethodName)) ∈ tb := tb_of (i := 508) (by decide +kernel) rfl
theorem wd466 : (Jvm.Cond.selects "MeterDesk" ({ cls := "MeterDesk", name := "moved", desc := "(II)I" } : Jvm.MethodName) ({ cls := "MeterDesk", name := "moved", desc := "(II)I" } : Jvm.MethodName)) ∈ tb := tb_of (i := 509) (by decide +kernel) rfl
theorem wd467 : (Jvm.Cond.code ({ cls := "MeterDesk", name := "moved", desc := "(II)I" } : Jvm.MethodName) prog_1_method_11_code (3 : Nat) (Option.some Jvm.ClassFile.FieldType.int)) ∈ tb := tb_of (i := 510) (by decide +kernel) rfl
theorem wd469 : (Jvm.Cond.methodLink "MeterDeskLaw" (62 : Nat) ({ cls := "MeterDesk", name := "back", desc := "(I)I" } : Jvm.MethodName)) ∈ tb := tb_of (i := 512) (by decide +kernel) rfl
theorem wd470 : (Jvm.Cond.instanceMethod ({ cls := "MeterDesk", name := "back", desc := "(I)I" } : Jvm.MethodName)) ∈ tb := tb_of (i := 513) (by decide +kernel) rfl
theorem wd471 : (Jvm.Cond.selects "MeterDesk" ({ cls := "MeterDesk", name := "back", desc := "(I)I" } : Jvm.MethodName) ({ cls := "MeterDesk", name := "back", desc := "(I)I" } : Jvm.MethodName)) ∈ tb := tb_of (i := 514) (by decide +kernel) rfl
theorem wd472 : (Jvm.Cond.code ({ cls := "MeterDesk", name := "back", desc := "(I)I" } : Jvm.MethodName) prog_1_method_12_code (4 : Nat) (Option.some Jvm.ClassFile.FieldType.int)) ∈ tb := tb_of (i := 515) (by decide +kernel) rfl
theorem wd473 : (Jvm.Cond.methodLink "MeterDeskLaw" (66 : Nat) ({ cls := "MeterDesk", name := "guard", desc := "(II)I" } : Jvm.MethodName)) ∈ tb := tb_of (i := 516) (by decide +kernel) rfl
theorem wd474 : (Jvm.Cond.instanceMethod ({ cls := "MeterDesk", name := "guard", desc := "(II)I" } : Jvm.MethodName)) ∈ tb := tb_of (i := 517) (by decide +kernel) rfl
theorem wd475 : (Jvm.Cond.selects "MeterDesk" ({ cls := "MeterDesk", name := "guard", desc := "(II)I" } : Jvm.MethodName) ({ cls := "MeterDesk", name := "guard", desc := "(II)I" } : Jvm.MethodName)) ∈ tb := tb_of (i := 518) (by decide +kernel) rfl
theorem wd476 : (Jvm.Cond.code ({ cls := "MeterDesk", name := "guard", desc := "(II)I" } : Jvm.MethodName) prog_1_method_13_code (3 : Nat) (Option.some Jvm.ClassFile.FieldType.int)) ∈ tb := tb_of (i := 519) (by decide +kernel) rfl
theorem wd477 : (Jvm.Cond.methodLink "MeterDeskLaw" (70 : Nat) ({ cls := "MeterDesk", name := "about", desc := "(I)I" } : Jvm.MethodName)) ∈ tb := tb_of (i := 520) (by decide +kernel) rfl
theorem wd478 : (Jvm.Cond.instanceMethod ({ cls := "MeterDesk", name := "about", desc := "(I)I" } : Jvm.MethodName)) ∈ tb := tb_of (i := 521) (by decide +kernel) rfl
theorem wd479 : (Jvm.Cond.selects "MeterDesk" ({ cls := "MeterDesk", name := "about", desc := "(I)I" } : Jvm.MethodName) ({ cls := "MeterDesk", name := "about", desc := "(I)I" } : Jvm.MethodName)) ∈ tb := tb_of (i := 522) (by decide +kernel) rfl
theorem wd480 : (Jvm.Cond.code ({ cls := "MeterDesk", name := "about", desc := "(I)I" } : Jvm.MethodName) prog_1_method_14_code (2 : Nat) (Option.some Jvm.ClassFile.FieldType.int)) ∈ tb := tb_of (i := 523) (by decide +kernel) rfl
theorem wd481 : (Jvm.Cond.methodLink "MeterDeskLaw" (74 : Nat) ({ cls := "MeterDesk", name := "count", desc := "(I)I" } : Jvm.MethodName)) ∈ tb := tb_of (i := 524) (by decide +kernel) rfl
theorem wd482 : (Jvm.Cond.instanceMethod ({ cls := "MeterDesk", name := "count", desc := "(I)I" } : Jvm.MethodName)) ∈ tb := tb_of (i := 525) (by decide +kernel) rfl
theorem wd483 : (Jvm.Cond.selects "MeterDesk" ({ cls := "MeterDesk", name := "count", desc := "(I)I" } : Jvm.MethodName) ({ cls := "MeterDesk", name := "count", desc := "(I)I" } : Jvm.MethodName)) ∈ tb := tb_of (i := 526) (by decide +kernel) rfl
theorem wd484 : (Jvm.Cond.code ({ cls := "MeterDesk", name := "count", desc := "(I)I" } : Jvm.MethodName) prog_1_method_15_code (2 : Nat) (Option.some Jvm.ClassFile.FieldType.int)) ∈ tb := tb_of (i := 527) (by decide +kernel) rfl
theorem wd600 : (Jvm.Cond.methodLink "MeterDeskLaw" (19 : Nat) ({ cls := "MeterDeskModel", name := "code", desc := "(JI)I" } : Jvm.MethodName)) ∈ tb := tb_of (i := 643) (by decide +kernel) rfl
theorem wd601 : (Jvm.Cond.instanceMethod ({ cls := "MeterDeskModel", name := "code", desc := "(JI)I" } : Jvm.MethodName)) ∈ tb := tb_of (i := 644) (by decide +kernel) rfl
theorem wd602 : (Jvm.Cond.selects "MeterDeskModel" ({ cls := "MeterDeskModel", name := "code", desc := "(JI)I" } : Jvm.MethodName) ({ cls := "MeterDeskModel", name := "code", desc := "(JI)I" } : Jvm.MethodName)) ∈ tb := tb_of (i := 645) (by decide +kernel) rfl
theorem wd603 : (Jvm.Cond.code ({ cls := "MeterDeskModel", name := "code", desc := "(JI)I" } : Jvm.MethodName) prog_8_method_3_code (5 : Nat) (Option.some Jvm.ClassFile.FieldType.int)) ∈ tb := tb_of (i := 646) (by decide +kernel) rfl
theorem wd608 : (Jvm.Cond.methodLink "MeterDeskLaw" (24 : Nat) ({ cls := "MeterDeskModel", name := "change", desc := "(II)I" } : Jvm.MethodName)) ∈ tb := tb_of (i := 651) (by decide +kernel) rfl
theorem wd609 : (Jvm.Cond.instanceMethod ({ cls := "MeterDeskModel", name := "change", desc := "(II)I" } : Jvm.MethodName)) ∈ tb := tb_of (i := 652) (by decide +kernel) rfl
theorem wd610 : (Jvm.Cond.selects "MeterDeskModel" ({ cls := "MeterDeskModel", name := "change", desc := "(II)I" } : Jvm.MethodName) ({ cls := "MeterDeskModel", name := "change", desc := "(II)I" } : Jvm.MethodName)) ∈ tb := tb_of (i := 653) (by decide +kernel) rfl
theorem wd611 : (Jvm.Cond.code ({ cls := "MeterDeskModel", name := "change", desc := "(II)I" } : Jvm.MethodName) prog_8_method_4_code (4 : Nat) (Option.some Jvm.ClassFile.FieldType.int)) ∈ tb := tb_of (i := 654) (by decide +kernel) rfl
theorem wd612 : (Jvm.Cond.methodLink "MeterDeskLaw" (29 : Nat) ({ cls := "MeterDeskModel", name := "clear", desc := "()I" } : Jvm.MethodName)) ∈ tb := tb_of (i := 655) (by decide +kernel) rfl
theorem wd613 : (Jvm.Cond.instanceMethod ({ cls := "MeterDeskModel", name := "clear", desc := "()I" } : Jvm.MethodName)) ∈ tb := tb_of (i := 656) (by decide +kernel) rfl
theorem wd614 : (Jvm.Cond.selects "MeterDeskModel" ({ cls := "MeterDeskModel", name := "clear", desc := "()I" } : Jvm.MethodName) ({ cls := "MeterDeskModel", name := "clear", desc := "()I" } : Jvm.MethodName)) ∈ tb := tb_of (i := 657) (by decide +kernel) rfl
theorem wd615 : (Jvm.Cond.code ({ cls := "MeterDeskModel", name := "clear", desc := "()I" } : Jvm.MethodName) prog_8_method_5_code (2 : Nat) (Option.some Jvm.ClassFile.FieldType.int)) ∈ tb := tb_of (i := 658) (by decide +kernel) rfl
theorem wd616 : (Jvm.Cond.methodLink "MeterDeskLaw" (34 : Nat) ({ cls := "MeterDeskModel", name := "handler", desc := "(IIII)I" } : Jvm.MethodName)) ∈ tb := tb_of (i := 659) (by decide +kernel) rfl
theorem wd617 : (Jvm.Cond.instanceMethod ({ cls := "MeterDeskModel", name := "handler", desc := "(IIII)I" } : Jvm.MethodName)) ∈ tb := tb_of (i := 660) (by decide +kernel) rfl
theorem wd618 : (Jvm.Cond.selects "MeterDeskModel" ({ cls := "MeterDeskModel", name := "handler", desc := "(IIII)I" } : Jvm.MethodName) ({ cls := "MeterDeskModel", name := "handler", desc := "(IIII)I" } : Jvm.MethodName)) ∈ tb := tb_of (i := 661) (by decide +kernel) rfl
theorem wd619 : (Jvm.Cond.code ({ cls := "MeterDeskModel", name := "handler", desc := "(IIII)I" } : Jvm.MethodName) prog_8_method_6_code (5 : Nat) (Option.some Jvm.ClassFile.FieldType.int)) ∈ tb := tb_of (i := 662) (by decide +kernel) rfl
theorem wd620 : (Jvm.Cond.methodLink "MeterDeskLaw" (39 : Nat) ({ cls := "MeterDeskModel", name := "mark", desc := "(IZ)Z" } : Jvm.MethodName)) ∈ tb := tb_of (i := 663) (by decide +kernel) rfl
theorem wd621 : (Jvm.Cond.instanceMethod ({ cls := "MeterDeskModel", name := "mark", desc := "(IZ)Z" } : Jvm.MethodName)) ∈ tb := tb_of (i := 664) (by decide +kernel) rfl
theorem wd622 : (Jvm.Cond.selects "MeterDeskModel" ({ cls := "MeterDeskModel", name := "mark", desc := "(IZ)Z" } : Jvm.MethodName) ({ cls := "MeterDeskModel", name := "mark", desc := "(IZ)Z" } : Jvm.MethodName)) ∈ tb := tb_of (i := 665) (by decide +kernel) rfl
theorem wd623 : (Jvm.Cond.code ({ cls := "MeterDeskModel", name := "mark", desc := "(IZ)Z" } : Jvm.MethodName) prog_8_method_7_code (3 : Nat) (Option.some Jvm.ClassFile.FieldType.boolean)) ∈ tb := tb_of (i := 666) (by decide +kernel) rfl
theorem wd624 : (Jvm.Cond.methodLink "MeterDeskLaw" (43 : Nat) ({ cls := "MeterDeskModel", name := "cost", desc := "(II)I" } : Jvm.MethodName)) ∈ tb := tb_of (i := 667) (by decide +kernel) rfl
theorem wd625 : (Jvm.Cond.instanceMethod ({ cls := "MeterDeskModel", name := "cost", desc := "(II)I" } : Jvm.MethodName)) ∈ tb := tb_of (i := 668) (by decide +kernel) rfl
theorem wd626 : (Jvm.Cond.selects "MeterDeskModel" ({ cls := "MeterDeskModel", name := "cost", desc := "(II)I" } : Jvm.MethodName) ({ cls := "MeterDeskModel", name := "cost", desc := "(II)I" } : Jvm.MethodName)) ∈ tb := tb_of (i := 669) (by decide +kernel) rfl
theorem wd627 : (Jvm.Cond.code ({ cls := "MeterDeskModel", name := "cost", desc := "(II)I" } : Jvm.MethodName) prog_8_method_8_code (4 : Nat) (Option.some Jvm.ClassFile.FieldType.int)) ∈ tb := tb_of (i := 670) (by decide +kernel) rfl
theorem wd628 : (Jvm.Cond.methodLink "MeterDeskLaw" (48 : Nat) ({ cls := "MeterDeskModel", name := "set", desc := "(II)Z" } : Jvm.MethodName)) ∈ tb := tb_of (i := 671) (by decide +kernel) rfl
theorem wd629 : (Jvm.Cond.instanceMethod ({ cls := "MeterDeskModel", name := "set", desc := "(II)Z" } : Jvm.MethodName)) ∈ tb := tb_of (i := 672) (by decide +kernel) rfl
theorem wd630 : (Jvm.Cond.selects "MeterDeskModel" ({ cls := "MeterDeskModel", name := "set", desc := "(II)Z" } : Jvm.MethodName) ({ cls := "MeterDeskModel", name := "set", desc := "(II)Z" } : Jvm.MethodName)) ∈ tb := tb_of (i := 673) (by decide +kernel) rfl
theorem wd631 : (Jvm.Cond.code ({ cls := "MeterDeskModel", name := "set", desc := "(II)Z" } : Jvm.MethodName) prog_8_method_9_code (3 : Nat) (Option.some Jvm.ClassFile.FieldType.boolean)) ∈ tb := tb_of (i := 674) (by decide +kernel) rfl
theorem wd633 : (Jvm.Cond.methodLink "MeterDeskLaw" (52 : Nat) ({ cls := "MeterDeskModel", name := "rewrite", desc := "()I" } : Jvm.MethodName)) ∈ tb := tb_of (i := 676) (by decide +kernel) rfl
theorem wd634 : (Jvm.Cond.instanceMethod ({ cls := "MeterDeskModel", name := "rewrite", desc := "()I" } : Jvm.MethodName)) ∈ tb := tb_of (i := 677) (by decide +kernel) rfl
theorem wd635 : (Jvm.Cond.selects "MeterDeskModel" ({ cls := "MeterDeskModel", name := "rewrite", desc := "()I" } : Jvm.MethodName) ({ cls := "MeterDeskModel", name := "rewrite", desc := "()I" } : Jvm.MethodName)) ∈ tb := tb_of (i := 678) (by decide +kernel) rfl
theorem wd636 : (Jvm.Cond.code ({ cls := "MeterDeskModel", name := "rewrite", desc := "()I" } : Jvm.MethodName) prog_8_method_27_code (6 : Nat) (Option.some Jvm.ClassFile.FieldType.int)) ∈ tb := tb_of (i := 679) (by decide +kernel) rfl
theorem wd728 : (Jvm.Cond.methodLink "MeterDeskLaw" (57 : Nat) ({ cls := "MeterDeskModel", name := "octet", desc := "(I)I" } : Jvm.MethodName)) ∈ tb := tb_of (i := 771) (by decide +kernel) rfl
theorem wd729 : (Jvm.Cond.instanceMethod ({ cls := "MeterDeskModel", name := "octet", desc := "(I)I" } : Jvm.MethodName)) ∈ tb := tb_of (i := 772) (by decide +kernel) rfl
theorem wd730 : (Jvm.Cond.selects "MeterDeskModel" ({ cls := "MeterDeskModel", name := "octet", desc := "(I)I" } : Jvm.MethodName) ({ cls := "MeterDeskModel", name := "octet", desc := "(I)I" } : Jvm.MethodName)) ∈ tb := tb_of (i := 773) (by decide +kernel) rfl
theorem wd731 : (Jvm.Cond.code ({ cls := "MeterDeskModel", name := "octet", desc := "(I)I" } : Jvm.MethodName) prog_8_method_35_code (2 : Nat) (Option.some Jvm.ClassFile.FieldType.int)) ∈ tb := tb_of (i := 774) (by decide +kernel) rfl
theorem wd732 : (Jvm.Cond.methodLink "MeterDeskLaw" (61 : Nat) ({ cls := "MeterDeskModel", name := "moved", desc := "(II)I" } : Jvm.MethodName)) ∈ tb := tb_of (i := 775) (by decide +kernel) rfl
theorem wd733 : (Jvm.Cond.instanceMethod ({ cls := "MeterDeskModel", name := "moved", desc := "(II)I" } : Jvm.MethodName)) ∈ tb := tb_of (i := 776) (by decide +kernel) rfl
theorem wd734 : (Jvm.Cond.selects "MeterDeskModel" ({ cls := "MeterDeskModel", name := "moved", desc := "(II)I" } : Jvm.MethodName) ({ cls := "MeterDeskModel", name := "moved", desc := "(II)I" } : Jvm.MethodName)) ∈ tb := tb_of (i := 777) (by decide +kernel) rfl
theorem wd735 : (Jvm.Cond.code ({ cls := "MeterDeskModel", name := "moved", desc := "(II)I" } : Jvm.MethodName) prog_8_method_36_code (3 : Nat) (Option.some Jvm.ClassFile.FieldType.int)) ∈ tb := tb_of (i := 778) (by decide +kernel) rfl
theorem wd736 : (Jvm.Cond.methodLink "MeterDeskLaw" (65 : Nat) ({ cls := "MeterDeskModel", name := "back", desc := "(I)I" } : Jvm.MethodName)) ∈ tb := tb_of (i := 779) (by decide +kernel) rfl
theorem wd737 : (Jvm.Cond.instanceMethod ({ cls := "MeterDeskModel", name := "back", desc := "(I)I" } : Jvm.MethodName)) ∈ tb := tb_of (i := 780) (by decide +kernel) rfl
theorem wd738 : (Jvm.Cond.selects "MeterDeskModel" ({ cls := "MeterDeskModel", name := "back", desc := "(I)I" } : Jvm.MethodName) ({ cls := "MeterDeskModel", name := "back", desc := "(I)I" } : Jvm.MethodName)) ∈ tb := tb_of (i := 781) (by decide +kernel) rfl
theorem wd739 : (Jvm.Cond.code ({ cls := "MeterDeskModel", name := "back", desc := "(I)I" } : Jvm.MethodName) prog_8_method_37_code (3 : Nat) (Option.some Jvm.ClassFile.FieldType.int)) ∈ tb := tb_of (i := 782) (by decide +kernel) rfl
theorem wd740 : (Jvm.Cond.methodLink "MeterDeskLaw" (69 : Nat) ({ cls := "MeterDeskModel", name := "guard", desc := "(II)I" } : Jvm.MethodName)) ∈ tb := tb_of (i := 783) (by decide +kernel) rfl
theorem wd741 : (Jvm.Cond.instanceMethod ({ cls := "MeterDeskModel", name := "guard", desc := "(II)I" } : Jvm.MethodName)) ∈ tb := tb_of (i := 784) (by decide +kernel) rfl
theorem wd742 : (Jvm.Cond.selects "MeterDeskModel" ({ cls := "MeterDeskModel", name := "guard", desc := "(II)I" } : Jvm.MethodName) ({ cls := "MeterDeskModel", name := "guard", desc := "(II)I" } : Jvm.MethodName)) ∈ tb := tb_of (i := 785) (by decide +kernel) rfl
theorem wd743 : (Jvm.Cond.code ({ cls := "MeterDeskModel", name := "guard", desc := "(II)I" } : Jvm.MethodName) prog_8_method_38_code (3 : Nat) (Option.some Jvm.ClassFile.FieldType.int)) ∈ tb := tb_of (i := 786) (by decide +kernel) rfl
theorem wd744 : (Jvm.Cond.methodLink "MeterDeskLaw" (73 : Nat) ({ cls := "MeterDeskModel", name := "about", desc := "(I)I" } : Jvm.MethodName)) ∈ tb := tb_of (i := 787) (by decide +kernel) rfl
theorem wd745 : (Jvm.Cond.instanceMethod ({ cls := "MeterDeskModel", name := "about", desc := "(I)I" } : Jvm.MethodName)) ∈ tb := tb_of (i := 788) (by decide +kernel) rfl
theorem wd746 : (Jvm.Cond.selects "MeterDeskModel" ({ cls := "MeterDeskModel", name := "about", desc := "(I)I" } : Jvm.MethodName) ({ cls := "MeterDeskModel", name := "about", desc := "(I)I" } : Jvm.MethodName)) ∈ tb := tb_of (i := 789) (by decide +kernel) rfl
theorem wd747 : (Jvm.Cond.code ({ cls := "MeterDeskModel", name := "about", desc := "(I)I" } : Jvm.MethodName) prog_8_method_39_code (2 : Nat) (Option.some Jvm.ClassFile.FieldType.int)) ∈ tb := tb_of (i := 790) (by decide +kernel) rfl
theorem wd748 : (Jvm.Cond.methodLink "MeterDeskLaw" (77 : Nat) ({ cls := "MeterDeskModel", name := "count", desc := "(I)I" } : Jvm.MethodName)) ∈ tb := tb_of (i := 791) (by decide +kernel) rfl
theorem wd749 : (Jvm.Cond.instanceMethod ({ cls := "MeterDeskModel", name := "count", desc := "(I)I" } : Jvm.MethodName)) ∈ tb := tb_of (i := 792) (by decide +kernel) rfl
theorem wd750 : (Jvm.Cond.selects "MeterDeskModel" ({ cls := "MeterDeskModel", name := "count", desc := "(I)I" } : Jvm.MethodName) ({ cls := "MeterDeskModel", name := "count", desc := "(I)I" } : Jvm.MethodName)) ∈ tb := tb_of (i := 793) (by decide +kernel) rfl
theorem wd751 : (Jvm.Cond.code ({ cls := "MeterDeskModel", name := "count", desc := "(I)I" } : Jvm.MethodName) prog_8_method_40_code (2 : Nat) (Option.some Jvm.ClassFile.FieldType.int)) ∈ tb := tb_of (i := 794) (by decide +kernel) rfl
theorem wd752 : (Jvm.Cond.constantLong "MeterDeskLaw" (13 : Nat) (4294967295 : Int64)) ∈ tb := tb_of (i := 795) (by decide +kernel) rfl
theorem d_Law_law_0 : decode code 0 = .ok (.new 7, 3) := by decide +kernel
theorem d_Law_law_3 : decode code 3 = .ok (.dup, 1) := by decide +kernel
theorem d_Law_law_4 : decode code 4 = .ok (.invokespecial 9, 3) := by decide +kernel
theorem d_Law_law_7 : decode code 7 = .ok (.astore_n 1, 1) := by decide +kernel
theorem d_Law_law_8 : decode code 8 = .ok (.new 10, 3) := by decide +kernel
theorem d_Law_law_11 : decode code 11 = .ok (.dup, 1) := by decide +kernel
theorem d_Law_law_12 : decode code 12 = .ok (.invokespecial 12, 3) := by decide +kernel
theorem d_Law_law_15 : decode code 15 = .ok (.astore_n 2, 1) := by decide +kernel
theorem d_Law_law_16 : decode code 16 = .ok (.iconst 0, 1) := by decide +kernel
theorem d_Law_law_17 : decode code 17 = .ok (.istore_n 3, 1) := by decide +kernel
theorem d_Law_law_18 : decode code 18 = .ok (.iload_n 3, 1) := by decide +kernel
theorem d_Law_law_19 : decode code 19 = .ok (.aload_n 0, 1) := by decide +kernel
theorem d_Law_law_20 : decode code 20 = .ok (.arraylength, 1) := by decide +kernel
theorem d_Law_law_21 : decode code 21 = .ok (.iconst 5, 1) := by decide +kernel
theorem d_Law_law_22 : decode code 22 = .ok (.isub, 1) := by decide +kernel
theorem d_Law_law_23 : decode code 23 = .ok (.if_icmp .gt 535, 3) := by decide +kernel
theorem d_Law_law_26 : decode code 26 = .ok (.aload_n 0, 1) := by decide +kernel
theorem d_Law_law_27 : decode code 27 = .ok (.iload_n 3, 1) := by decide +kernel
theorem d_Law_law_28 : decode code 28 = .ok (.iaload, 1) := by decide +kernel
theorem d_Law_law_29 : decode code 29 = .ok (.bipush 15, 2) := by decide +kernel
theorem d_Law_law_31 : decode code 31 = .ok (.iand, 1) := by decide +kernel
theorem d_Law_law_32 : decode code 32 = .ok (.tableswitch 520 0 13 #[72, 135, 168, 181, 234, 283, 316, 349, 362, 385, 418, 441, 474, 497], 72) := by decide +kernel
theorem d_Law_law_104 : decode code 104 = .ok (.aload_n 1, 1) := by decide +kernel
theorem d_Law_law_105 : decode code 105 = .ok (.aload_n 0, 1) := by decide +kernel
theorem d_Law_law_106 : decode code 106 = .ok (.iload_n 3, 1) := by decide +kernel
theorem d_Law_law_107 : decode code 107 = .ok (.iconst 1, 1) := by decide +kernel
theorem d_Law_law_108 : decode code 108 = .ok (.iadd, 1) := by decide +kernel
theorem d_Law_law_109 : decode code 109 = .ok (.iaload, 1) := by decide +kernel
theorem d_Law_law_110 : decode code 110 = .ok (.i2l, 1) := by decide +kernel
theorem d_Law_law_111 : decode code 111 = .ok (.bipush 32, 2) := by decide +kernel
theorem d_Law_law_113 : decode code 113 = .ok (.lshl, 1) := by decide +kernel
theorem d_Law_law_114 : decode code 114 = .ok (.aload_n 0, 1) := by decide +kernel
theorem d_Law_law_115 : decode code 115 = .ok (.iload_n 3, 1) := by decide +kernel
theorem d_Law_law_116 : decode code 116 = .ok (.iconst 2, 1) := by decide +kernel
theorem d_Law_law_117 : decode code 117 = .ok (.iadd, 1) := by decide +kernel
theorem d_Law_law_118 : decode code 118 = .ok (.iaload, 1) := by decide +kernel
theorem d_Law_law_119 : decode code 119 = .ok (.i2l, 1) := by decide +kernel
theorem d_Law_law_120 : decode code 120 = .ok (.ldc2_w 13, 3) := by decide +kernel
theorem d_Law_law_123 : decode code 123 = .ok (.land, 1) := by decide +kernel
theorem d_Law_law_124 : decode code 124 = .ok (.lor, 1) := by decide +kernel
theorem d_Law_law_125 : decode code 125 = .ok (.aload_n 0, 1) := by decide +kernel
theorem d_Law_law_126 : decode code 126 = .ok (.iload_n 3, 1) := by decide +kernel
theorem d_Law_law_127 : decode code 127 = .ok (.iconst 3, 1) := by decide +kernel
theorem d_Law_law_128 : decode code 128 = .ok (.iadd, 1) := by decide +kernel
theorem d_Law_law_129 : decode code 129 = .ok (.iaload, 1) := by decide +kernel
theorem d_Law_law_130 : decode code 130 = .ok (.invokevirtual 15, 3) := by decide +kernel
theorem d_Law_law_133 : decode code 133 = .ok (.aload_n 2, 1) := by decide +kernel
theorem d_Law_law_134 : decode code 134 = .ok (.aload_n 0, 1) := by decide +kernel
theorem d_Law_law_135 : decode code 135 = .ok (.iload_n 3, 1) := by decide +kernel
theorem d_Law_law_136 : decode code 136 = .ok (.iconst 1, 1) := by decide +kernel
theorem d_Law_law_137 : decode code 137 = .ok (.iadd, 1) := by decide +kernel
theorem d_Law_law_138 : decode code 138 = .ok (.iaload, 1) := by decide +kernel
theorem d_Law_law_139 : decode code 139 = .ok (.i2l, 1) := by decide +kernel
theorem d_Law_law_140 : decode code 140 = .ok (.bipush 32, 2) := by decide +kernel
theorem d_Law_law_142 : decode code 142 = .ok (.lshl, 1) := by decide +kernel
theorem d_Law_law_143 : decode code 143 = .ok (.aload_n 0, 1) := by decide +kernel
theorem d_Law_law_144 : decode code 144 = .ok (.iload_n 3, 1) := by decide +kernel
theorem d_Law_law_145 : decode code 145 = .ok (.iconst 2, 1) := by decide +kernel
theorem d_Law_law_146 : decode code 146 = .ok (.iadd, 1) := by decide +kernel
theorem d_Law_law_147 : decode code 147 = .ok (.iaload, 1) := by decide +kernel
theorem d_Law_law_148 : decode code 148 = .ok (.i2l, 1) := by decide +kernel
theorem d_Law_law_149 : decode code 149 = .ok (.ldc2_w 13, 3) := by decide +kernel
theorem d_Law_law_152 : decode code 152 = .ok (.land, 1) := by decide +kernel
theorem d_Law_law_153 : decode code 153 = .ok (.lor, 1) := by decide +kernel
theorem d_Law_law_154 : decode code 154 = .ok (.aload_n 0, 1) := by decide +kernel
theorem d_Law_law_155 : decode code 155 = .ok (.iload_n 3, 1) := by decide +kernel
theorem d_Law_law_156 : decode code 156 = .ok (.iconst 3, 1) := by decide +kernel
theorem d_Law_law_157 : decode code 157 = .ok (.iadd, 1) := by decide +kernel
theorem d_Law_law_158 : decode code 158 = .ok (.iaload, 1) := by decide +kernel
theorem d_Law_law_159 : decode code 159 = .ok (.invokevirtual 19, 3) := by decide +kernel
theorem d_Law_law_162 : decode code 162 = .ok (.if_icmp .eq 390, 3) := by decide +kernel
theorem d_Law_law_165 : decode code 165 = .ok (.iconst 0, 1) := by decide +kernel
theorem d_Law_law_166 : decode code 166 = .ok (.ireturn, 1) := by decide +kernel
theorem d_Law_law_167 : decode code 167 = .ok (.aload_n 1, 1) := by decide +kernel
theorem d_Law_law_168 : decode code 168 = .ok (.aload_n 0, 1) := by decide +kernel
theorem d_Law_law_169 : decode code 169 = .ok (.iload_n 3, 1) := by decide +kernel
theorem d_Law_law_170 : decode code 170 = .ok (.iconst 1, 1) := by decide +kernel
theorem d_Law_law_171 : decode code 171 = .ok (.iadd, 1) := by decide +kernel
theorem d_Law_law_172 : decode code 172 = .ok (.iaload, 1) := by decide +kernel
theorem d_Law_law_173 : decode code 173 = .ok (.aload_n 0, 1) := by decide +kernel
theorem d_Law_law_174 : decode code 174 = .ok (.iload_n 3, 1) := by decide +kernel
theorem d_Law_law_175 : decode code 175 = .ok (.iconst 2, 1) := by decide +kernel
theorem d_Law_law_176 : decode code 176 = .ok (.iadd, 1) := by decide +kernel
theorem d_Law_law_177 : decode code 177 = .ok (.iaload, 1) := by decide +kernel
theorem d_Law_law_178 : decode code 178 = .ok (.invokevirtual 20, 3) := by decide +kernel
theorem d_Law_law_181 : decode code 181 = .ok (.aload_n 2, 1) := by decide +kernel
theorem d_Law_law_182 : decode code 182 = .ok (.aload_n 0, 1) := by decide +kernel
theorem d_Law_law_183 : decode code 183 = .ok (.iload_n 3, 1) := by decide +kernel
theorem d_Law_law_184 : decode code 184 = .ok (.iconst 1, 1) := by decide +kernel
theorem d_Law_law_185 : decode code 185 = .ok (.iadd, 1) := by decide +kernel
theorem d_Law_law_186 : decode code 186 = .ok (.iaload, 1) := by decide +kernel
theorem d_Law_law_187 : decode code 187 = .ok (.aload_n 0, 1) := by decide +kernel
theorem d_Law_law_188 : decode code 188 = .ok (.iload_n 3, 1) := by decide +kernel
theorem d_Law_law_189 : decode code 189 = .ok (.iconst 2, 1) := by decide +kernel
theorem d_Law_law_190 : decode code 190 = .ok (.iadd, 1) := by decide +kernel
theorem d_Law_law_191 : decode code 191 = .ok (.iaload, 1) := by decide +kernel
theorem d_Law_law_192 : decode code 192 = .ok (.invokevirtual 24, 3) := by decide +kernel
theorem d_Law_law_195 : decode code 195 = .ok (.if_icmp .eq 357, 3) := by decide +kernel
theorem d_Law_law_198 : decode code 198 = .ok (.iconst 0, 1) := by decide +kernel
theorem d_Law_law_199 : decode code 199 = .ok (.ireturn, 1) := by decide +kernel
theorem d_Law_law_200 : decode code 200 = .ok (.aload_n 1, 1) := by decide +kernel
theorem d_Law_law_201 : decode code 201 = .ok (.invokevirtual 25, 3) := by decide +kernel
theorem d_Law_law_204 : decode code 204 = .ok (.aload_n 2, 1) := by decide +kernel
theorem d_Law_law_205 : decode code 205 = .ok (.invokevirtual 29, 3) := by decide +kernel
theorem d_Law_law_208 : decode code 208 = .ok (.if_icmp .eq 344, 3) := by decide +kernel
theorem d_Law_law_211 : decode code 211 = .ok (.iconst 0, 1) := by decide +kernel
theorem d_Law_law_212 : decode code 212 = .ok (.ireturn, 1) := by decide +kernel
theorem d_Law_law_213 : decode code 213 = .ok (.aload_n 1, 1) := by decide +kernel
theorem d_Law_law_214 : decode code 214 = .ok (.aload_n 0, 1) := by decide +kernel
theorem d_Law_law_215 : decode code 215 = .ok (.iload_n 3, 1) := by decide +kernel
theorem d_Law_law_216 : decode code 216 = .ok (.iconst 1, 1) := by decide +kernel
theorem d_Law_law_217 : decode code 217 = .ok (.iadd, 1) := by decide +kernel
theorem d_Law_law_218 : decode code 218 = .ok (.iaload, 1) := by decide +kernel
theorem d_Law_law_219 : decode code 219 = .ok (.aload_n 0, 1) := by decide +kernel
theorem d_Law_law_220 : decode code 220 = .ok (.iload_n 3, 1) := by decide +kernel
theorem d_Law_law_221 : decode code 221 = .ok (.iconst 2, 1) := by decide +kernel
theorem d_Law_law_222 : decode code 222 = .ok (.iadd, 1) := by decide +kernel
theorem d_Law_law_223 : decode code 223 = .ok (.iaload, 1) := by decide +kernel
theorem d_Law_law_224 : decode code 224 = .ok (.aload_n 0, 1) := by decide +kernel
theorem d_Law_law_225 : decode code 225 = .ok (.iload_n 3, 1) := by decide +kernel
theorem d_Law_law_226 : decode code 226 = .ok (.iconst 3, 1) := by decide +kernel
theorem d_Law_law_227 : decode code 227 = .ok (.iadd, 1) := by decide +kernel
theorem d_Law_law_228 : decode code 228 = .ok (.iaload, 1) := by decide +kernel
theorem d_Law_law_229 : decode code 229 = .ok (.aload_n 0, 1) := by decide +kernel
theorem d_Law_law_230 : decode code 230 = .ok (.iload_n 3, 1) := by decide +kernel
theorem d_Law_law_231 : decode code 231 = .ok (.iconst 4, 1) := by decide +kernel
theorem d_Law_law_232 : decode code 232 = .ok (.iadd, 1) := by decide +kernel
theorem d_Law_law_233 : decode code 233 = .ok (.iaload, 1) := by decide +kernel
theorem d_Law_law_234 : decode code 234 = .ok (.invokevirtual 30, 3) := by decide +kernel
theorem d_Law_law_237 : decode code 237 = .ok (.aload_n 2, 1) := by decide +kernel
theorem d_Law_law_238 : decode code 238 = .ok (.aload_n 0, 1) := by decide +kernel
theorem d_Law_law_239 : decode code 239 = .ok (.iload_n 3, 1) := by decide +kernel
theorem d_Law_law_240 : decode code 240 = .ok (.iconst 1, 1) := by decide +kernel
theorem d_Law_law_241 : decode code 241 = .ok (.iadd, 1) := by decide +kernel
theorem d_Law_law_242 : decode code 242 = .ok (.iaload, 1) := by decide +kernel
theorem d_Law_law_243 : decode code 243 = .ok (.aload_n 0, 1) := by decide +kernel
theorem d_Law_law_244 : decode code 244 = .ok (.iload_n 3, 1) := by decide +kernel
theorem d_Law_law_245 : decode code 245 = .ok (.iconst 2, 1) := by decide +kernel
theorem d_Law_law_246 : decode code 246 = .ok (.iadd, 1) := by decide +kernel
theorem d_Law_law_247 : decode code 247 = .ok (.iaload, 1) := by decide +kernel
theorem d_Law_law_248 : decode code 248 = .ok (.aload_n 0, 1) := by decide +kernel
theorem d_Law_law_249 : decode code 249 = .ok (.iload_n 3, 1) := by decide +kernel
theorem d_Law_law_250 : decode code 250 = .ok (.iconst 3, 1) := by decide +kernel
theorem d_Law_law_251 : decode code 251 = .ok (.iadd, 1) := by decide +kernel
theorem d_Law_law_252 : decode code 252 = .ok (.iaload, 1) := by decide +kernel
theorem d_Law_law_253 : decode code 253 = .ok (.aload_n 0, 1) := by decide +kernel
theorem d_Law_law_254 : decode code 254 = .ok (.iload_n 3, 1) := by decide +kernel
theorem d_Law_law_255 : decode code 255 = .ok (.iconst 4, 1) := by decide +kernel
theorem d_Law_law_256 : decode code 256 = .ok (.iadd, 1) := by decide +kernel
theorem d_Law_law_257 : decode code 257 = .ok (.iaload, 1) := by decide +kernel
theorem d_Law_law_258 : decode code 258 = .ok (.invokevirtual 34, 3) := by decide +kernel
theorem d_Law_law_261 : decode code 261 = .ok (.if_icmp .eq 291, 3) := by decide +kernel
theorem d_Law_law_264 : decode code 264 = .ok (.iconst 0, 1) := by decide +kernel
theorem d_Law_law_265 : decode code 265 = .ok (.ireturn, 1) := by decide +kernel
theorem d_Law_law_266 : decode code 266 = .ok (.aload_n 1, 1) := by decide +kernel
theorem d_Law_law_267 : decode code 267 = .ok (.aload_n 0, 1) := by decide +kernel
theorem d_Law_law_268 : decode code 268 = .ok (.iload_n 3, 1) := by decide +kernel
theorem d_Law_law_269 : decode code 269 = .ok (.iconst 1, 1) := by decide +kernel
theorem d_Law_law_270 : decode code 270 = .ok (.iadd, 1) := by decide +kernel
theorem d_Law_law_271 : decode code 271 = .ok (.iaload, 1) := by decide +kernel
theorem d_Law_law_272 : decode code 272 = .ok (.aload_n 0, 1) := by decide +kernel
theorem d_Law_law_273 : decode code 273 = .ok (.iload_n 3, 1) := by decide +kernel
theorem d_Law_law_274 : decode code 274 = .ok (.iconst 2, 1) := by decide +kernel
theorem d_Law_law_275 : decode code 275 = .ok (.iadd, 1) := by decide +kernel
theorem d_Law_law_276 : decode code 276 = .ok (.iaload, 1) := by decide +kernel
theorem d_Law_law_277 : decode code 277 = .ok (.ifCond .eq 7, 3) := by decide +kernel
theorem d_Law_law_280 : decode code 280 = .ok (.iconst 1, 1) := by decide +kernel
theorem d_Law_law_281 : decode code 281 = .ok (.goto 4, 3) := by decide +kernel
theorem d_Law_law_284 : decode code 284 = .ok (.iconst 0, 1) := by decide +kernel
theorem d_Law_law_285 : decode code 285 = .ok (.invokevirtual 35, 3) := by decide +kernel
theorem d_Law_law_288 : decode code 288 = .ok (.aload_n 2, 1) := by decide +kernel
theorem d_Law_law_289 : decode code 289 = .ok (.aload_n 0, 1) := by decide +kernel
theorem d_Law_law_290 : decode code 290 = .ok (.iload_n 3, 1) := by decide +kernel
theorem d_Law_law_291 : decode code 291 = .ok (.iconst 1, 1) := by decide +kernel
theorem d_Law_law_292 : decode code 292 = .ok (.iadd, 1) := by decide +kernel
theorem d_Law_law_293 : decode code 293 = .ok (.iaload, 1) := by decide +kernel
theorem d_Law_law_294 : decode code 294 = .ok (.aload_n 0, 1) := by decide +kernel
theorem d_Law_law_295 : decode code 295 = .ok (.iload_n 3, 1) := by decide +kernel
theorem d_Law_law_296 : decode code 296 = .ok (.iconst 2, 1) := by decide +kernel
theorem d_Law_law_297 : decode code 297 = .ok (.iadd, 1) := by decide +kernel
theorem d_Law_law_298 : decode code 298 = .ok (.iaload, 1) := by decide +kernel
theorem d_Law_law_299 : decode code 299 = .ok (.ifCond .eq 7, 3) := by decide +kernel
theorem d_Law_law_302 : decode code 302 = .ok (.iconst 1, 1) := by decide +kernel
theorem d_Law_law_303 : decode code 303 = .ok (.goto 4, 3) := by decide +kernel
theorem d_Law_law_306 : decode code 306 = .ok (.iconst 0, 1) := by decide +kernel
theorem d_Law_law_307 : decode code 307 = .ok (.invokevirtual 39, 3) := by decide +kernel
theorem d_Law_law_310 : decode code 310 = .ok (.if_icmp .eq 242, 3) := by decide +kernel
theorem d_Law_law_313 : decode code 313 = .ok (.iconst 0, 1) := by decide +kernel
theorem d_Law_law_314 : decode code 314 = .ok (.ireturn, 1) := by decide +kernel
theorem d_Law_law_315 : decode code 315 = .ok (.aload_n 1, 1) := by decide +kernel
theorem d_Law_law_316 : decode code 316 = .ok (.aload_n 0, 1) := by decide +kernel
theorem d_Law_law_317 : decode code 317 = .ok (.iload_n 3, 1) := by decide +kernel
theorem d_Law_law_318 : decode code 318 = .ok (.iconst 1, 1) := by decide +kernel
theorem d_Law_law_319 : decode code 319 = .ok (.iadd, 1) := by decide +kernel
theorem d_Law_law_320 : decode code 320 = .ok (.iaload, 1) := by decide +kernel
theorem d_Law_law_321 : decode code 321 = .ok (.aload_n 0, 1) := by decide +kernel
theorem d_Law_law_322 : decode code 322 = .ok (.iload_n 3, 1) := by decide +kernel
theorem d_Law_law_323 : decode code 323 = .ok (.iconst 2, 1) := by decide +kernel
theorem d_Law_law_324 : decode code 324 = .ok (.iadd, 1) := by decide +kernel
theorem d_Law_law_325 : decode code 325 = .ok (.iaload, 1) := by decide +kernel
theorem d_Law_law_326 : decode code 326 = .ok (.invokevirtual 40, 3) := by decide +kernel
theorem d_Law_law_329 : decode code 329 = .ok (.aload_n 2, 1) := by decide +kernel
theorem d_Law_law_330 : decode code 330 = .ok (.aload_n 0, 1) := by decide +kernel
theorem d_Law_law_331 : decode code 331 = .ok (.iload_n 3, 1) := by decide +kernel
theorem d_Law_law_332 : decode code 332 = .ok (.iconst 1, 1) := by decide +kernel
theorem d_Law_law_333 : decode code 333 = .ok (.iadd, 1) := by decide +kernel
theorem d_Law_law_334 : decode code 334 = .ok (.iaload, 1) := by decide +kernel
theorem d_Law_law_335 : decode code 335 = .ok (.aload_n 0, 1) := by decide +kernel
theorem d_Law_law_336 : decode code 336 = .ok (.iload_n 3, 1) := by decide +kernel
theorem d_Law_law_337 : decode code 337 = .ok (.iconst 2, 1) := by decide +kernel
theorem d_Law_law_338 : decode code 338 = .ok (.iadd, 1) := by decide +kernel
theorem d_Law_law_339 : decode code 339 = .ok (.iaload, 1) := by decide +kernel
theorem d_Law_law_340 : decode code 340 = .ok (.invokevirtual 43, 3) := by decide +kernel
theorem d_Law_law_343 : decode code 343 = .ok (.if_icmp .eq 209, 3) := by decide +kernel
theorem d_Law_law_346 : decode code 346 = .ok (.iconst 0, 1) := by decide +kernel
theorem d_Law_law_347 : decode code 347 = .ok (.ireturn, 1) := by decide +kernel
theorem d_Law_law_348 : decode code 348 = .ok (.aload_n 1, 1) := by decide +kernel
theorem d_Law_law_349 : decode code 349 = .ok (.aload_n 0, 1) := by decide +kernel
theorem d_Law_law_350 : decode code 350 = .ok (.iload_n 3, 1) := by decide +kernel
theorem d_Law_law_351 : decode code 351 = .ok (.iconst 1, 1) := by decide +kernel
theorem d_Law_law_352 : decode code 352 = .ok (.iadd, 1) := by decide +kernel
theorem d_Law_law_353 : decode code 353 = .ok (.iaload, 1) := by decide +kernel
theorem d_Law_law_354 : decode code 354 = .ok (.aload_n 0, 1) := by decide +kernel
theorem d_Law_law_355 : decode code 355 = .ok (.iload_n 3, 1) := by decide +kernel
theorem d_Law_law_356 : decode code 356 = .ok (.iconst 2, 1) := by decide +kernel
theorem d_Law_law_357 : decode code 357 = .ok (.iadd, 1) := by decide +kernel
theorem d_Law_law_358 : decode code 358 = .ok (.iaload, 1) := by decide +kernel
theorem d_Law_law_359 : decode code 359 = .ok (.invokevirtual 44, 3) := by decide +kernel
theorem d_Law_law_362 : decode code 362 = .ok (.aload_n 2, 1) := by decide +kernel
theorem d_Law_law_363 : decode code 363 = .ok (.aload_n 0, 1) := by decide +kernel
theorem d_Law_law_364 : decode code 364 = .ok (.iload_n 3, 1) := by decide +kernel
theorem d_Law_law_365 : decode code 365 = .ok (.iconst 1, 1) := by decide +kernel
theorem d_Law_law_366 : decode code 366 = .ok (.iadd, 1) := by decide +kernel
theorem d_Law_law_367 : decode code 367 = .ok (.iaload, 1) := by decide +kernel
theorem d_Law_law_368 : decode code 368 = .ok (.aload_n 0, 1) := by decide +kernel
theorem d_Law_law_369 : decode code 369 = .ok (.iload_n 3, 1) := by decide +kernel
theorem d_Law_law_370 : decode code 370 = .ok (.iconst 2, 1) := by decide +kernel
theorem d_Law_law_371 : decode code 371 = .ok (.iadd, 1) := by decide +kernel
theorem d_Law_law_372 : decode code 372 = .ok (.iaload, 1) := by decide +kernel
theorem d_Law_law_373 : decode code 373 = .ok (.invokevirtual 48, 3) := by decide +kernel
theorem d_Law_law_376 : decode code 376 = .ok (.if_icmp .eq 176, 3) := by decide +kernel
theorem d_Law_law_379 : decode code 379 = .ok (.iconst 0, 1) := by decide +kernel
theorem d_Law_law_380 : decode code 380 = .ok (.ireturn, 1) := by decide +kernel
theorem d_Law_law_381 : decode code 381 = .ok (.aload_n 1, 1) := by decide +kernel
theorem d_Law_law_382 : decode code 382 = .ok (.invokevirtual 49, 3) := by decide +kernel
theorem d_Law_law_385 : decode code 385 = .ok (.aload_n 2, 1) := by decide +kernel
theorem d_Law_law_386 : decode code 386 = .ok (.invokevirtual 52, 3) := by decide +kernel
theorem d_Law_law_389 : decode code 389 = .ok (.if_icmp .eq 163, 3) := by decide +kernel
theorem d_Law_law_392 : decode code 392 = .ok (.iconst 0, 1) := by decide +kernel
theorem d_Law_law_393 : decode code 393 = .ok (.ireturn, 1) := by decide +kernel
theorem d_Law_law_394 : decode code 394 = .ok (.aload_n 1, 1) := by decide +kernel
theorem d_Law_law_395 : decode code 395 = .ok (.aload_n 0, 1) := by decide +kernel
theorem d_Law_law_396 : decode code 396 = .ok (.iload_n 3, 1) := by decide +kernel
theorem d_Law_law_397 : decode code 397 = .ok (.iconst 1, 1) := by decide +kernel
theorem d_Law_law_398 : decode code 398 = .ok (.iadd, 1) := by decide +kernel
theorem d_Law_law_399 : decode code 399 = .ok (.iaload, 1) := by decide +kernel
theorem d_Law_law_400 : decode code 400 = .ok (.invokevirtual 53, 3) := by decide +kernel
theorem d_Law_law_403 : decode code 403 = .ok (.aload_n 2, 1) := by decide +kernel
theorem d_Law_law_404 : decode code 404 = .ok (.aload_n 0, 1) := by decide +kernel
theorem d_Law_law_405 : decode code 405 = .ok (.iload_n 3, 1) := by decide +kernel
theorem d_Law_law_406 : decode code 406 = .ok (.iconst 1, 1) := by decide +kernel
theorem d_Law_law_407 : decode code 407 = .ok (.iadd, 1) := by decide +kernel
theorem d_Law_law_408 : decode code 408 = .ok (.iaload, 1) := by decide +kernel
theorem d_Law_law_409 : decode code 409 = .ok (.invokevirtual 57, 3) := by decide +kernel
theorem d_Law_law_412 : decode code 412 = .ok (.if_icmp .eq 140, 3) := by decide +kernel
theorem d_Law_law_415 : decode code 415 = .ok (.iconst 0, 1) := by decide +kernel
theorem d_Law_law_416 : decode code 416 = .ok (.ireturn, 1) := by decide +kernel
theorem d_Law_law_417 : decode code 417 = .ok (.aload_n 1, 1) := by decide +kernel
theorem d_Law_law_418 : decode code 418 = .ok (.aload_n 0, 1) := by decide +kernel
theorem d_Law_law_419 : decode code 419 = .ok (.iload_n 3, 1) := by decide +kernel
theorem d_Law_law_420 : decode code 420 = .ok (.iconst 1, 1) := by decide +kernel
theorem d_Law_law_421 : decode code 421 = .ok (.iadd, 1) := by decide +kernel
theorem d_Law_law_422 : decode code 422 = .ok (.iaload, 1) := by decide +kernel
theorem d_Law_law_423 : decode code 423 = .ok (.aload_n 0, 1) := by decide +kernel
theorem d_Law_law_424 : decode code 424 = .ok (.iload_n 3, 1) := by decide +kernel
theorem d_Law_law_425 : decode code 425 = .ok (.iconst 2, 1) := by decide +kernel
theorem d_Law_law_426 : decode code 426 = .ok (.iadd, 1) := by decide +kernel
theorem d_Law_law_427 : decode code 427 = .ok (.iaload, 1) := by decide +kernel
theorem d_Law_law_428 : decode code 428 = .ok (.invokevirtual 58, 3) := by decide +kernel
theorem d_Law_law_431 : decode code 431 = .ok (.aload_n 2, 1) := by decide +kernel
theorem d_Law_law_432 : decode code 432 = .ok (.aload_n 0, 1) := by decide +kernel
theorem d_Law_law_433 : decode code 433 = .ok (.iload_n 3, 1) := by decide +kernel
theorem d_Law_law_434 : decode code 434 = .ok (.iconst 1, 1) := by decide +kernel
theorem d_Law_law_435 : decode code 435 = .ok (.iadd, 1) := by decide +kernel
theorem d_Law_law_436 : decode code 436 = .ok (.iaload, 1) := by decide +kernel
theorem d_Law_law_437 : decode code 437 = .ok (.aload_n 0, 1) := by decide +kernel
theorem d_Law_law_438 : decode code 438 = .ok (.iload_n 3, 1) := by decide +kernel
theorem d_Law_law_439 : decode code 439 = .ok (.iconst 2, 1) := by decide +kernel
theorem d_Law_law_440 : decode code 440 = .ok (.iadd, 1) := by decide +kernel
theorem d_Law_law_441 : decode code 441 = .ok (.iaload, 1) := by decide +kernel
theorem d_Law_law_442 : decode code 442 = .ok (.invokevirtual 61, 3) := by decide +kernel
theorem d_Law_law_445 : decode code 445 = .ok (.if_icmp .eq 107, 3) := by decide +kernel
theorem d_Law_law_448 : decode code 448 = .ok (.iconst 0, 1) := by decide +kernel
theorem d_Law_law_449 : decode code 449 = .ok (.ireturn, 1) := by decide +kernel
theorem d_Law_law_450 : decode code 450 = .ok (.aload_n 1, 1) := by decide +kernel
theorem d_Law_law_451 : decode code 451 = .ok (.aload_n 0, 1) := by decide +kernel
theorem d_Law_law_452 : decode code 452 = .ok (.iload_n 3, 1) := by decide +kernel
theorem d_Law_law_453 : decode code 453 = .ok (.iconst 1, 1) := by decide +kernel
theorem d_Law_law_454 : decode code 454 = .ok (.iadd, 1) := by decide +kernel
theorem d_Law_law_455 : decode code 455 = .ok (.iaload, 1) := by decide +kernel
theorem d_Law_law_456 : decode code 456 = .ok (.invokevirtual 62, 3) := by decide +kernel
theorem d_Law_law_459 : decode code 459 = .ok (.aload_n 2, 1) := by decide +kernel
theorem d_Law_law_460 : decode code 460 = .ok (.aload_n 0, 1) := by decide +kernel
theorem d_Law_law_461 : decode code 461 = .ok (.iload_n 3, 1) := by decide +kernel
theorem d_Law_law_462 : decode code 462 = .ok (.iconst 1, 1) := by decide +kernel
theorem d_Law_law_463 : decode code 463 = .ok (.iadd, 1) := by decide +kernel
theorem d_Law_law_464 : decode code 464 = .ok (.iaload, 1) := by decide +kernel
theorem d_Law_law_465 : decode code 465 = .ok (.invokevirtual 65, 3) := by decide +kernel
theorem d_Law_law_468 : decode code 468 = .ok (.if_icmp .eq 84, 3) := by decide +kernel
theorem d_Law_law_471 : decode code 471 = .ok (.iconst 0, 1) := by decide +kernel
theorem d_Law_law_472 : decode code 472 = .ok (.ireturn, 1) := by decide +kernel
theorem d_Law_law_473 : decode code 473 = .ok (.aload_n 1, 1) := by decide +kernel
theorem d_Law_law_474 : decode code 474 = .ok (.aload_n 0, 1) := by decide +kernel
theorem d_Law_law_475 : decode code 475 = .ok (.iload_n 3, 1) := by decide +kernel
theorem d_Law_law_476 : decode code 476 = .ok (.iconst 1, 1) := by decide +kernel
theorem d_Law_law_477 : decode code 477 = .ok (.iadd, 1) := by decide +kernel
theorem d_Law_law_478 : decode code 478 = .ok (.iaload, 1) := by decide +kernel
theorem d_Law_law_479 : decode code 479 = .ok (.aload_n 0, 1) := by decide +kernel
theorem d_Law_law_480 : decode code 480 = .ok (.iload_n 3, 1) := by decide +kernel
theorem d_Law_law_481 : decode code 481 = .ok (.iconst 2, 1) := by decide +kernel
theorem d_Law_law_482 : decode code 482 = .ok (.iadd, 1) := by decide +kernel
theorem d_Law_law_483 : decode code 483 = .ok (.iaload, 1) := by decide +kernel
theorem d_Law_law_484 : decode code 484 = .ok (.invokevirtual 66, 3) := by decide +kernel
theorem d_Law_law_487 : decode code 487 = .ok (.aload_n 2, 1) := by decide +kernel
theorem d_Law_law_488 : decode code 488 = .ok (.aload_n 0, 1) := by decide +kernel
theorem d_Law_law_489 : decode code 489 = .ok (.iload_n 3, 1) := by decide +kernel
theorem d_Law_law_490 : decode code 490 = .ok (.iconst 1, 1) := by decide +kernel
theorem d_Law_law_491 : decode code 491 = .ok (.iadd, 1) := by decide +kernel
theorem d_Law_law_492 : decode code 492 = .ok (.iaload, 1) := by decide +kernel
theorem d_Law_law_493 : decode code 493 = .ok (.aload_n 0, 1) := by decide +kernel
theorem d_Law_law_494 : decode code 494 = .ok (.iload_n 3, 1) := by decide +kernel
theorem d_Law_law_495 : decode code 495 = .ok (.iconst 2, 1) := by decide +kernel
theorem d_Law_law_496 : decode code 496 = .ok (.iadd, 1) := by decide +kernel
theorem d_Law_law_497 : decode code 497 = .ok (.iaload, 1) := by decide +kernel
theorem d_Law_law_498 : decode code 498 = .ok (.invokevirtual 69, 3) := by decide +kernel
theorem d_Law_law_501 : decode code 501 = .ok (.if_icmp .eq 51, 3) := by decide +kernel
theorem d_Law_law_504 : decode code 504 = .ok (.iconst 0, 1) := by decide +kernel
theorem d_Law_law_505 : decode code 505 = .ok (.ireturn, 1) := by decide +kernel
theorem d_Law_law_506 : decode code 506 = .ok (.aload_n 1, 1) := by decide +kernel
theorem d_Law_law_507 : decode code 507 = .ok (.aload_n 0, 1) := by decide +kernel
theorem d_Law_law_508 : decode code 508 = .ok (.iload_n 3, 1) := by decide +kernel
theorem d_Law_law_509 : decode code 509 = .ok (.iconst 1, 1) := by decide +kernel
theorem d_Law_law_510 : decode code 510 = .ok (.iadd, 1) := by decide +kernel
theorem d_Law_law_511 : decode code 511 = .ok (.iaload, 1) := by decide +kernel
theorem d_Law_law_512 : decode code 512 = .ok (.invokevirtual 70, 3) := by decide +kernel
theorem d_Law_law_515 : decode code 515 = .ok (.aload_n 2, 1) := by decide +kernel
theorem d_Law_law_516 : decode code 516 = .ok (.aload_n 0, 1) := by decide +kernel
theorem d_Law_law_517 : decode code 517 = .ok (.iload_n 3, 1) := by decide +kernel
theorem d_Law_law_518 : decode code 518 = .ok (.iconst 1, 1) := by decide +kernel
theorem d_Law_law_519 : decode code 519 = .ok (.iadd, 1) := by decide +kernel
theorem d_Law_law_520 : decode code 520 = .ok (.iaload, 1) := by decide +kernel
theorem d_Law_law_521 : decode code 521 = .ok (.invokevirtual 73, 3) := by decide +kernel
theorem d_Law_law_524 : decode code 524 = .ok (.if_icmp .eq 28, 3) := by decide +kernel
theorem d_Law_law_527 : decode code 527 = .ok (.iconst 0, 1) := by decide +kernel
theorem d_Law_law_528 : decode code 528 = .ok (.ireturn, 1) := by decide +kernel
theorem d_Law_law_529 : decode code 529 = .ok (.aload_n 1, 1) := by decide +kernel
theorem d_Law_law_530 : decode code 530 = .ok (.aload_n 0, 1) := by decide +kernel
theorem d_Law_law_531 : decode code 531 = .ok (.iload_n 3, 1) := by decide +kernel
theorem d_Law_law_532 : decode code 532 = .ok (.iconst 1, 1) := by decide +kernel
theorem d_Law_law_533 : decode code 533 = .ok (.iadd, 1) := by decide +kernel
theorem d_Law_law_534 : decode code 534 = .ok (.iaload, 1) := by decide +kernel
theorem d_Law_law_535 : decode code 535 = .ok (.invokevirtual 74, 3) := by decide +kernel
theorem d_Law_law_538 : decode code 538 = .ok (.aload_n 2, 1) := by decide +kernel
theorem d_Law_law_539 : decode code 539 = .ok (.aload_n 0, 1) := by decide +kernel
theorem d_Law_law_540 : decode code 540 = .ok (.iload_n 3, 1) := by decide +kernel
theorem d_Law_law_541 : decode code 541 = .ok (.iconst 1, 1) := by decide +kernel
theorem d_Law_law_542 : decode code 542 = .ok (.iadd, 1) := by decide +kernel
theorem d_Law_law_543 : decode code 543 = .ok (.iaload, 1) := by decide +kernel
theorem d_Law_law_544 : decode code 544 = .ok (.invokevirtual 77, 3) := by decide +kernel
theorem d_Law_law_547 : decode code 547 = .ok (.if_icmp .eq 5, 3) := by decide +kernel
theorem d_Law_law_550 : decode code 550 = .ok (.iconst 0, 1) := by decide +kernel
theorem d_Law_law_551 : decode code 551 = .ok (.ireturn, 1) := by decide +kernel
theorem d_Law_law_552 : decode code 552 = .ok (.iinc 3 5, 3) := by decide +kernel
theorem d_Law_law_555 : decode code 555 = .ok (.goto (-537), 3) := by decide +kernel
theorem d_Law_law_558 : decode code 558 = .ok (.iconst 1, 1) := by decide +kernel
theorem d_Law_law_559 : decode code 559 = .ok (.ireturn, 1) := by decide +kernel
