theorem wd7 : (Jvm.Cond.initialized "MeterDeskModel") ∈ tb := tb_of (i := 50) (by decide +kernel) rfl
theorem wd491 : (Jvm.Cond.fieldLink "MeterDeskModel" (7 : Nat) "MeterDeskModel" "code" "[I") ∈ tb := tb_of (i := 534) (by decide +kernel) rfl
theorem wd492 : (Jvm.Cond.fieldLink "MeterDeskModel" (13 : Nat) "MeterDeskModel" "from" "[I") ∈ tb := tb_of (i := 535) (by decide +kernel) rfl
theorem wd493 : (Jvm.Cond.fieldLink "MeterDeskModel" (16 : Nat) "MeterDeskModel" "to" "[I") ∈ tb := tb_of (i := 536) (by decide +kernel) rfl
theorem wd494 : (Jvm.Cond.fieldLink "MeterDeskModel" (19 : Nat) "MeterDeskModel" "at" "[I") ∈ tb := tb_of (i := 537) (by decide +kernel) rfl
theorem wd495 : (Jvm.Cond.fieldLink "MeterDeskModel" (22 : Nat) "MeterDeskModel" "caught" "[I") ∈ tb := tb_of (i := 538) (by decide +kernel) rfl
theorem wd496 : (Jvm.Cond.fieldLink "MeterDeskModel" (25 : Nat) "MeterDeskModel" "costs" "[I") ∈ tb := tb_of (i := 539) (by decide +kernel) rfl
theorem wd497 : (Jvm.Cond.fieldLink "MeterDeskModel" (28 : Nat) "MeterDeskModel" "marked" "[Z") ∈ tb := tb_of (i := 540) (by decide +kernel) rfl
theorem wd498 : (Jvm.Cond.fieldLink "MeterDeskModel" (79 : Nat) "MeterDeskModel" "size" "I") ∈ tb := tb_of (i := 541) (by decide +kernel) rfl
theorem wd499 : (Jvm.Cond.fieldLink "MeterDeskModel" (84 : Nat) "MeterDeskModel" "handlers" "I") ∈ tb := tb_of (i := 542) (by decide +kernel) rfl
theorem wd500 : (Jvm.Cond.fieldLink "MeterDeskModel" (32 : Nat) "MeterDeskModel" "base" "I") ∈ tb := tb_of (i := 543) (by decide +kernel) rfl
theorem wd501 : (Jvm.Cond.fieldLink "MeterDeskModel" (36 : Nat) "MeterDeskModel" "reach" "I") ∈ tb := tb_of (i := 544) (by decide +kernel) rfl
theorem wd502 : (Jvm.Cond.fieldLink "MeterDeskModel" (161 : Nat) "MeterDeskModel" "times" "I") ∈ tb := tb_of (i := 545) (by decide +kernel) rfl
theorem wd503 : (Jvm.Cond.fieldLink "MeterDeskModel" (39 : Nat) "MeterDeskModel" "starts" "[Z") ∈ tb := tb_of (i := 546) (by decide +kernel) rfl
theorem wd504 : (Jvm.Cond.fieldLink "MeterDeskModel" (42 : Nat) "MeterDeskModel" "far" "[Z") ∈ tb := tb_of (i := 547) (by decide +kernel) rfl
theorem wd505 : (Jvm.Cond.fieldLink "MeterDeskModel" (45 : Nat) "MeterDeskModel" "old" "[I") ∈ tb := tb_of (i := 548) (by decide +kernel) rfl
theorem wd506 : (Jvm.Cond.fieldLink "MeterDeskModel" (48 : Nat) "MeterDeskModel" "place" "[I") ∈ tb := tb_of (i := 549) (by decide +kernel) rfl
theorem wd507 : (Jvm.Cond.fieldLink "MeterDeskModel" (51 : Nat) "MeterDeskModel" "prefix" "[I") ∈ tb := tb_of (i := 550) (by decide +kernel) rfl
theorem wd508 : (Jvm.Cond.fieldLink "MeterDeskModel" (54 : Nat) "MeterDeskModel" "long1" "[I") ∈ tb := tb_of (i := 551) (by decide +kernel) rfl
theorem wd509 : (Jvm.Cond.fieldLink "MeterDeskModel" (57 : Nat) "MeterDeskModel" "block" "[I") ∈ tb := tb_of (i := 552) (by decide +kernel) rfl
theorem wd510 : (Jvm.Cond.fieldLink "MeterDeskModel" (60 : Nat) "MeterDeskModel" "out" "[I") ∈ tb := tb_of (i := 553) (by decide +kernel) rfl
theorem wd511 : (Jvm.Cond.fieldLink "MeterDeskModel" (63 : Nat) "MeterDeskModel" "newFrom" "[I") ∈ tb := tb_of (i := 554) (by decide +kernel) rfl
theorem wd512 : (Jvm.Cond.fieldLink "MeterDeskModel" (66 : Nat) "MeterDeskModel" "newTo" "[I") ∈ tb := tb_of (i := 555) (by decide +kernel) rfl
theorem wd513 : (Jvm.Cond.fieldLink "MeterDeskModel" (69 : Nat) "MeterDeskModel" "newAt" "[I") ∈ tb := tb_of (i := 556) (by decide +kernel) rfl
theorem wd514 : (Jvm.Cond.fieldLink "MeterDeskModel" (72 : Nat) "MeterDeskModel" "newCaught" "[I") ∈ tb := tb_of (i := 557) (by decide +kernel) rfl
theorem wd515 : (Jvm.Cond.fieldLink "MeterDeskModel" (92 : Nat) "MeterDeskModel" "olds" "I") ∈ tb := tb_of (i := 558) (by decide +kernel) rfl
theorem wd516 : (Jvm.Cond.fieldLink "MeterDeskModel" (135 : Nat) "MeterDeskModel" "all" "I") ∈ tb := tb_of (i := 559) (by decide +kernel) rfl
theorem wd517 : (Jvm.Cond.fieldLink "MeterDeskModel" (199 : Nat) "MeterDeskModel" "guards" "I") ∈ tb := tb_of (i := 560) (by decide +kernel) rfl
theorem wd518 : (Jvm.Cond.fieldLink "MeterDeskModel" (149 : Nat) "MeterDeskModel" "rounds" "I") ∈ tb := tb_of (i := 561) (by decide +kernel) rfl
theorem wd519 : (Jvm.Cond.fieldLink "MeterDeskModel" (181 : Nat) "MeterDeskModel" "instructions" "I") ∈ tb := tb_of (i := 562) (by decide +kernel) rfl
theorem wd520 : (Jvm.Cond.fieldLink "MeterDeskModel" (184 : Nat) "MeterDeskModel" "blocks" "I") ∈ tb := tb_of (i := 563) (by decide +kernel) rfl
theorem wd521 : (Jvm.Cond.fieldLink "MeterDeskModel" (187 : Nat) "MeterDeskModel" "fars" "I") ∈ tb := tb_of (i := 564) (by decide +kernel) rfl
theorem wd522 : (Jvm.Cond.fieldLink "MeterDeskModel" (190 : Nat) "MeterDeskModel" "sum" "I") ∈ tb := tb_of (i := 565) (by decide +kernel) rfl
theorem wd523 : (Jvm.Cond.fieldLink "MeterDeskModel" (171 : Nat) "MeterDeskModel" "calls" "I") ∈ tb := tb_of (i := 566) (by decide +kernel) rfl
theorem wd524 : (Jvm.Cond.fieldLink "MeterDeskModel" (174 : Nat) "MeterDeskModel" "pushes" "I") ∈ tb := tb_of (i := 567) (by decide +kernel) rfl
theorem wd525 : (Jvm.Cond.fieldLink "MeterDeskModel" (164 : Nat) "MeterDeskModel" "written" "I") ∈ tb := tb_of (i := 568) (by decide +kernel) rfl
theorem wd526 : (Jvm.Cond.fieldLink "MeterDeskModel" (138 : Nat) "MeterDeskModel" "good" "Z") ∈ tb := tb_of (i := 569) (by decide +kernel) rfl
theorem wd604 : (Jvm.Cond.methodLink "MeterDeskModel" (75 : Nat) ({ cls := "MeterDeskModel", name := "in", desc := "(III)Z" } : Jvm.MethodName)) ∈ tb := tb_of (i := 647) (by decide +kernel) rfl
theorem wd605 : (Jvm.Cond.static ({ cls := "MeterDeskModel", name := "in", desc := "(III)Z" } : Jvm.MethodName)) ∈ tb := tb_of (i := 648) (by decide +kernel) rfl
theorem wd606 : (Jvm.Cond.code ({ cls := "MeterDeskModel", name := "in", desc := "(III)Z" } : Jvm.MethodName) prog_8_method_2_code (3 : Nat) (Option.some Jvm.ClassFile.FieldType.boolean)) ∈ tb := tb_of (i := 649) (by decide +kernel) rfl
theorem wd607 : (Jvm.Cond.constantLong "MeterDeskModel" (82 : Nat) (255 : Int64)) ∈ tb := tb_of (i := 650) (by decide +kernel) rfl
theorem wd632 : (Jvm.Cond.constant "MeterDeskModel" (87 : Nat) (65530 : Int32)) ∈ tb := tb_of (i := 675) (by decide +kernel) rfl
theorem wd637 : (Jvm.Cond.methodLink "MeterDeskModel" (142 : Nat) ({ cls := "MeterDeskModel", name := "isFormed", desc := "()Z" } : Jvm.MethodName)) ∈ tb := tb_of (i := 680) (by decide +kernel) rfl
theorem wd639 : (Jvm.Cond.instanceMethod ({ cls := "MeterDeskModel", name := "isFormed", desc := "()Z" } : Jvm.MethodName)) ∈ tb := tb_of (i := 682) (by decide +kernel) rfl
theorem wd640 : (Jvm.Cond.code ({ cls := "MeterDeskModel", name := "isFormed", desc := "()Z" } : Jvm.MethodName) prog_8_method_19_code (5 : Nat) (Option.some Jvm.ClassFile.FieldType.boolean)) ∈ tb := tb_of (i := 683) (by decide +kernel) rfl
theorem wd641 : (Jvm.Cond.methodLink "MeterDeskModel" (107 : Nat) ({ cls := "MeterDeskModel", name := "length", desc := "(I)I" } : Jvm.MethodName)) ∈ tb := tb_of (i := 684) (by decide +kernel) rfl
theorem wd643 : (Jvm.Cond.instanceMethod ({ cls := "MeterDeskModel", name := "length", desc := "(I)I" } : Jvm.MethodName)) ∈ tb := tb_of (i := 686) (by decide +kernel) rfl
theorem wd644 : (Jvm.Cond.code ({ cls := "MeterDeskModel", name := "length", desc := "(I)I" } : Jvm.MethodName) prog_8_method_14_code (7 : Nat) (Option.some Jvm.ClassFile.FieldType.int)) ∈ tb := tb_of (i := 687) (by decide +kernel) rfl
theorem wd645 : (Jvm.Cond.methodLink "MeterDeskModel" (88 : Nat) ({ cls := "MeterDeskModel", name := "plain", desc := "(I)I" } : Jvm.MethodName)) ∈ tb := tb_of (i := 688) (by decide +kernel) rfl
theorem wd646 : (Jvm.Cond.static ({ cls := "MeterDeskModel", name := "plain", desc := "(I)I" } : Jvm.MethodName)) ∈ tb := tb_of (i := 689) (by decide +kernel) rfl
theorem wd647 : (Jvm.Cond.code ({ cls := "MeterDeskModel", name := "plain", desc := "(I)I" } : Jvm.MethodName) prog_8_method_13_code (1 : Nat) (Option.some Jvm.ClassFile.FieldType.int)) ∈ tb := tb_of (i := 690) (by decide +kernel) rfl
theorem wd648 : (Jvm.Cond.methodLink "MeterDeskModel" (95 : Nat) ({ cls := "MeterDeskModel", name := "isTable", desc := "(I)Z" } : Jvm.MethodName)) ∈ tb := tb_of (i := 691) (by decide +kernel) rfl
theorem wd649 : (Jvm.Cond.static ({ cls := "MeterDeskModel", name := "isTable", desc := "(I)Z" } : Jvm.MethodName)) ∈ tb := tb_of (i := 692) (by decide +kernel) rfl
theorem wd650 : (Jvm.Cond.code ({ cls := "MeterDeskModel", name := "isTable", desc := "(I)Z" } : Jvm.MethodName) prog_8_method_12_code (1 : Nat) (Option.some Jvm.ClassFile.FieldType.boolean)) ∈ tb := tb_of (i := 693) (by decide +kernel) rfl
theorem wd651 : (Jvm.Cond.methodLink "MeterDeskModel" (99 : Nat) ({ cls := "MeterDeskModel", name := "s4", desc := "(I)I" } : Jvm.MethodName)) ∈ tb := tb_of (i := 694) (by decide +kernel) rfl
theorem wd653 : (Jvm.Cond.instanceMethod ({ cls := "MeterDeskModel", name := "s4", desc := "(I)I" } : Jvm.MethodName)) ∈ tb := tb_of (i := 696) (by decide +kernel) rfl
theorem wd654 : (Jvm.Cond.code ({ cls := "MeterDeskModel", name := "s4", desc := "(I)I" } : Jvm.MethodName) prog_8_method_10_code (2 : Nat) (Option.some Jvm.ClassFile.FieldType.int)) ∈ tb := tb_of (i := 697) (by decide +kernel) rfl
theorem wd655 : (Jvm.Cond.constantLong "MeterDeskModel" (102 : Nat) (20 : Int64)) ∈ tb := tb_of (i := 698) (by decide +kernel) rfl
theorem wd656 : (Jvm.Cond.methodLink "MeterDeskModel" (114 : Nat) ({ cls := "MeterDeskModel", name := "goals", desc := "(I)I" } : Jvm.MethodName)) ∈ tb := tb_of (i := 699) (by decide +kernel) rfl
theorem wd658 : (Jvm.Cond.instanceMethod ({ cls := "MeterDeskModel", name := "goals", desc := "(I)I" } : Jvm.MethodName)) ∈ tb := tb_of (i := 701) (by decide +kernel) rfl
theorem wd659 : (Jvm.Cond.code ({ cls := "MeterDeskModel", name := "goals", desc := "(I)I" } : Jvm.MethodName) prog_8_method_15_code (4 : Nat) (Option.some Jvm.ClassFile.FieldType.int)) ∈ tb := tb_of (i := 702) (by decide +kernel) rfl
theorem wd660 : (Jvm.Cond.methodLink "MeterDeskModel" (104 : Nat) ({ cls := "MeterDeskModel", name := "isJump", desc := "(I)Z" } : Jvm.MethodName)) ∈ tb := tb_of (i := 703) (by decide +kernel) rfl
theorem wd661 : (Jvm.Cond.static ({ cls := "MeterDeskModel", name := "isJump", desc := "(I)Z" } : Jvm.MethodName)) ∈ tb := tb_of (i := 704) (by decide +kernel) rfl
theorem wd662 : (Jvm.Cond.code ({ cls := "MeterDeskModel", name := "isJump", desc := "(I)Z" } : Jvm.MethodName) prog_8_method_11_code (1 : Nat) (Option.some Jvm.ClassFile.FieldType.boolean)) ∈ tb := tb_of (i := 705) (by decide +kernel) rfl
theorem wd663 : (Jvm.Cond.methodLink "MeterDeskModel" (117 : Nat) ({ cls := "MeterDeskModel", name := "goal", desc := "(II)I" } : Jvm.MethodName)) ∈ tb := tb_of (i := 706) (by decide +kernel) rfl
theorem wd665 : (Jvm.Cond.instanceMethod ({ cls := "MeterDeskModel", name := "goal", desc := "(II)I" } : Jvm.MethodName)) ∈ tb := tb_of (i := 708) (by decide +kernel) rfl
theorem wd666 : (Jvm.Cond.code ({ cls := "MeterDeskModel", name := "goal", desc := "(II)I" } : Jvm.MethodName) prog_8_method_17_code (4 : Nat) (Option.some Jvm.ClassFile.FieldType.int)) ∈ tb := tb_of (i := 709) (by decide +kernel) rfl
theorem wd667 : (Jvm.Cond.methodLink "MeterDeskModel" (110 : Nat) ({ cls := "MeterDeskModel", name := "placeOfGoal", desc := "(II)I" } : Jvm.MethodName)) ∈ tb := tb_of (i := 710) (by decide +kernel) rfl
theorem wd669 : (Jvm.Cond.instanceMethod ({ cls := "MeterDeskModel", name := "placeOfGoal", desc := "(II)I" } : Jvm.MethodName)) ∈ tb := tb_of (i := 712) (by decide +kernel) rfl
theorem wd670 : (Jvm.Cond.code ({ cls := "MeterDeskModel", name := "placeOfGoal", desc := "(II)I" } : Jvm.MethodName) prog_8_method_16_code (5 : Nat) (Option.some Jvm.ClassFile.FieldType.int)) ∈ tb := tb_of (i := 713) (by decide +kernel) rfl
theorem wd671 : (Jvm.Cond.methodLink "MeterDeskModel" (120 : Nat) ({ cls := "MeterDeskModel", name := "begins", desc := "(I)Z" } : Jvm.MethodName)) ∈ tb := tb_of (i := 714) (by decide +kernel) rfl
theorem wd673 : (Jvm.Cond.instanceMethod ({ cls := "MeterDeskModel", name := "begins", desc := "(I)Z" } : Jvm.MethodName)) ∈ tb := tb_of (i := 716) (by decide +kernel) rfl
theorem wd674 : (Jvm.Cond.code ({ cls := "MeterDeskModel", name := "begins", desc := "(I)Z" } : Jvm.MethodName) prog_8_method_18_code (2 : Nat) (Option.some Jvm.ClassFile.FieldType.boolean)) ∈ tb := tb_of (i := 717) (by decide +kernel) rfl
theorem wd675 : (Jvm.Cond.methodLink "MeterDeskModel" (146 : Nat) ({ cls := "MeterDeskModel", name := "findBlocks", desc := "()V" } : Jvm.MethodName)) ∈ tb := tb_of (i := 718) (by decide +kernel) rfl
theorem wd677 : (Jvm.Cond.instanceMethod ({ cls := "MeterDeskModel", name := "findBlocks", desc := "()V" } : Jvm.MethodName)) ∈ tb := tb_of (i := 720) (by decide +kernel) rfl
theorem wd678 : (Jvm.Cond.code ({ cls := "MeterDeskModel", name := "findBlocks", desc := "()V" } : Jvm.MethodName) prog_8_method_22_code (6 : Nat) (Option.none : Option Jvm.ClassFile.FieldType)) ∈ tb := tb_of (i := 721) (by decide +kernel) rfl
theorem wd679 : (Jvm.Cond.methodLink "MeterDeskModel" (123 : Nat) ({ cls := "MeterDeskModel", name := "ends", desc := "(I)Z" } : Jvm.MethodName)) ∈ tb := tb_of (i := 722) (by decide +kernel) rfl
theorem wd680 : (Jvm.Cond.static ({ cls := "MeterDeskModel", name := "ends", desc := "(I)Z" } : Jvm.MethodName)) ∈ tb := tb_of (i := 723) (by decide +kernel) rfl
theorem wd681 : (Jvm.Cond.code ({ cls := "MeterDeskModel", name := "ends", desc := "(I)Z" } : Jvm.MethodName) prog_8_method_21_code (1 : Nat) (Option.some Jvm.ClassFile.FieldType.boolean)) ∈ tb := tb_of (i := 724) (by decide +kernel) rfl
theorem wd682 : (Jvm.Cond.methodLink "MeterDeskModel" (152 : Nat) ({ cls := "MeterDeskModel", name := "layOut", desc := "()V" } : Jvm.MethodName)) ∈ tb := tb_of (i := 725) (by decide +kernel) rfl
theorem wd684 : (Jvm.Cond.instanceMethod ({ cls := "MeterDeskModel", name := "layOut", desc := "()V" } : Jvm.MethodName)) ∈ tb := tb_of (i := 727) (by decide +kernel) rfl
theorem wd685 : (Jvm.Cond.code ({ cls := "MeterDeskModel", name := "layOut", desc := "()V" } : Jvm.MethodName) prog_8_method_26_code (5 : Nat) (Option.none : Option Jvm.ClassFile.FieldType)) ∈ tb := tb_of (i := 728) (by decide +kernel) rfl
theorem wd686 : (Jvm.Cond.methodLink "MeterDeskModel" (126 : Nat) ({ cls := "MeterDeskModel", name := "looks", desc := "(I)Z" } : Jvm.MethodName)) ∈ tb := tb_of (i := 729) (by decide +kernel) rfl
theorem wd688 : (Jvm.Cond.instanceMethod ({ cls := "MeterDeskModel", name := "looks", desc := "(I)Z" } : Jvm.MethodName)) ∈ tb := tb_of (i := 731) (by decide +kernel) rfl
theorem wd689 : (Jvm.Cond.code ({ cls := "MeterDeskModel", name := "looks", desc := "(I)Z" } : Jvm.MethodName) prog_8_method_20_code (3 : Nat) (Option.some Jvm.ClassFile.FieldType.boolean)) ∈ tb := tb_of (i := 732) (by decide +kernel) rfl
theorem wd690 : (Jvm.Cond.methodLink "MeterDeskModel" (129 : Nat) ({ cls := "MeterDeskModel", name := "weigh", desc := "(I)I" } : Jvm.MethodName)) ∈ tb := tb_of (i := 733) (by decide +kernel) rfl
theorem wd691 : (Jvm.Cond.static ({ cls := "MeterDeskModel", name := "weigh", desc := "(I)I" } : Jvm.MethodName)) ∈ tb := tb_of (i := 734) (by decide +kernel) rfl
theorem wd692 : (Jvm.Cond.code ({ cls := "MeterDeskModel", name := "weigh", desc := "(I)I" } : Jvm.MethodName) prog_8_method_23_code (1 : Nat) (Option.some Jvm.ClassFile.FieldType.int)) ∈ tb := tb_of (i := 735) (by decide +kernel) rfl
theorem wd693 : (Jvm.Cond.methodLink "MeterDeskModel" (132 : Nat) ({ cls := "MeterDeskModel", name := "opcodeAt", desc := "(I)I" } : Jvm.MethodName)) ∈ tb := tb_of (i := 736) (by decide +kernel) rfl
theorem wd695 : (Jvm.Cond.instanceMethod ({ cls := "MeterDeskModel", name := "opcodeAt", desc := "(I)I" } : Jvm.MethodName)) ∈ tb := tb_of (i := 738) (by decide +kernel) rfl
theorem wd696 : (Jvm.Cond.code ({ cls := "MeterDeskModel", name := "opcodeAt", desc := "(I)I" } : Jvm.MethodName) prog_8_method_25_code (2 : Nat) (Option.some Jvm.ClassFile.FieldType.int)) ∈ tb := tb_of (i := 739) (by decide +kernel) rfl
theorem wd697 : (Jvm.Cond.methodLink "MeterDeskModel" (155 : Nat) ({ cls := "MeterDeskModel", name := "front", desc := "(I)I" } : Jvm.MethodName)) ∈ tb := tb_of (i := 740) (by decide +kernel) rfl
theorem wd699 : (Jvm.Cond.instanceMethod ({ cls := "MeterDeskModel", name := "front", desc := "(I)I" } : Jvm.MethodName)) ∈ tb := tb_of (i := 742) (by decide +kernel) rfl
theorem wd700 : (Jvm.Cond.code ({ cls := "MeterDeskModel", name := "front", desc := "(I)I" } : Jvm.MethodName) prog_8_method_24_code (2 : Nat) (Option.some Jvm.ClassFile.FieldType.int)) ∈ tb := tb_of (i := 743) (by decide +kernel) rfl
theorem wd701 : (Jvm.Cond.methodLink "MeterDeskModel" (158 : Nat) ({ cls := "MeterDeskModel", name := "write", desc := "()V" } : Jvm.MethodName)) ∈ tb := tb_of (i := 744) (by decide +kernel) rfl
theorem wd703 : (Jvm.Cond.instanceMethod ({ cls := "MeterDeskModel", name := "write", desc := "()V" } : Jvm.MethodName)) ∈ tb := tb_of (i := 746) (by decide +kernel) rfl
theorem wd704 : (Jvm.Cond.code ({ cls := "MeterDeskModel", name := "write", desc := "()V" } : Jvm.MethodName) prog_8_method_31_code (4 : Nat) (Option.none : Option Jvm.ClassFile.FieldType)) ∈ tb := tb_of (i := 747) (by decide +kernel) rfl
theorem wd705 : (Jvm.Cond.methodLink "MeterDeskModel" (177 : Nat) ({ cls := "MeterDeskModel", name := "call", desc := "(I)V" } : Jvm.MethodName)) ∈ tb := tb_of (i := 748) (by decide +kernel) rfl
theorem wd707 : (Jvm.Cond.instanceMethod ({ cls := "MeterDeskModel", name := "call", desc := "(I)V" } : Jvm.MethodName)) ∈ tb := tb_of (i := 750) (by decide +kernel) rfl
theorem wd708 : (Jvm.Cond.code ({ cls := "MeterDeskModel", name := "call", desc := "(I)V" } : Jvm.MethodName) prog_8_method_29_code (2 : Nat) (Option.none : Option Jvm.ClassFile.FieldType)) ∈ tb := tb_of (i := 751) (by decide +kernel) rfl
theorem wd709 : (Jvm.Cond.methodLink "MeterDeskModel" (167 : Nat) ({ cls := "MeterDeskModel", name := "put", desc := "(II)V" } : Jvm.MethodName)) ∈ tb := tb_of (i := 752) (by decide +kernel) rfl
theorem wd711 : (Jvm.Cond.instanceMethod ({ cls := "MeterDeskModel", name := "put", desc := "(II)V" } : Jvm.MethodName)) ∈ tb := tb_of (i := 754) (by decide +kernel) rfl
theorem wd712 : (Jvm.Cond.code ({ cls := "MeterDeskModel", name := "put", desc := "(II)V" } : Jvm.MethodName) prog_8_method_28_code (4 : Nat) (Option.none : Option Jvm.ClassFile.FieldType)) ∈ tb := tb_of (i := 755) (by decide +kernel) rfl
theorem wd713 : (Jvm.Cond.methodLink "MeterDeskModel" (193 : Nat) ({ cls := "MeterDeskModel", name := "twice", desc := "(I)V" } : Jvm.MethodName)) ∈ tb := tb_of (i := 756) (by decide +kernel) rfl
theorem wd715 : (Jvm.Cond.instanceMethod ({ cls := "MeterDeskModel", name := "twice", desc := "(I)V" } : Jvm.MethodName)) ∈ tb := tb_of (i := 758) (by decide +kernel) rfl
theorem wd716 : (Jvm.Cond.code ({ cls := "MeterDeskModel", name := "twice", desc := "(I)V" } : Jvm.MethodName) prog_8_method_30_code (2 : Nat) (Option.none : Option Jvm.ClassFile.FieldType)) ∈ tb := tb_of (i := 759) (by decide +kernel) rfl
theorem wd717 : (Jvm.Cond.methodLink "MeterDeskModel" (196 : Nat) ({ cls := "MeterDeskModel", name := "instruction", desc := "(II)V" } : Jvm.MethodName)) ∈ tb := tb_of (i := 760) (by decide +kernel) rfl
theorem wd719 : (Jvm.Cond.instanceMethod ({ cls := "MeterDeskModel", name := "instruction", desc := "(II)V" } : Jvm.MethodName)) ∈ tb := tb_of (i := 762) (by decide +kernel) rfl
theorem wd720 : (Jvm.Cond.code ({ cls := "MeterDeskModel", name := "instruction", desc := "(II)V" } : Jvm.MethodName) prog_8_method_33_code (7 : Nat) (Option.none : Option Jvm.ClassFile.FieldType)) ∈ tb := tb_of (i := 763) (by decide +kernel) rfl
theorem wd721 : (Jvm.Cond.methodLink "MeterDeskModel" (202 : Nat) ({ cls := "MeterDeskModel", name := "table", desc := "(IIII)V" } : Jvm.MethodName)) ∈ tb := tb_of (i := 764) (by decide +kernel) rfl
theorem wd723 : (Jvm.Cond.instanceMethod ({ cls := "MeterDeskModel", name := "table", desc := "(IIII)V" } : Jvm.MethodName)) ∈ tb := tb_of (i := 766) (by decide +kernel) rfl
theorem wd724 : (Jvm.Cond.code ({ cls := "MeterDeskModel", name := "table", desc := "(IIII)V" } : Jvm.MethodName) prog_8_method_34_code (9 : Nat) (Option.none : Option Jvm.ClassFile.FieldType)) ∈ tb := tb_of (i := 767) (by decide +kernel) rfl
theorem wd725 : (Jvm.Cond.methodLink "MeterDeskModel" (206 : Nat) ({ cls := "MeterDeskModel", name := "opposite", desc := "(I)I" } : Jvm.MethodName)) ∈ tb := tb_of (i := 768) (by decide +kernel) rfl
theorem wd726 : (Jvm.Cond.static ({ cls := "MeterDeskModel", name := "opposite", desc := "(I)I" } : Jvm.MethodName)) ∈ tb := tb_of (i := 769) (by decide +kernel) rfl
theorem wd727 : (Jvm.Cond.code ({ cls := "MeterDeskModel", name := "opposite", desc := "(I)I" } : Jvm.MethodName) prog_8_method_32_code (1 : Nat) (Option.some Jvm.ClassFile.FieldType.int)) ∈ tb := tb_of (i := 770) (by decide +kernel) rfl
theorem ws25 : Cond.selects "MeterDeskModel" ⟨"MeterDeskModel", "isFormed", "()Z"⟩ ⟨"MeterDeskModel", "isFormed", "()Z"⟩ ∈ tb := tb_of (i := 25) (by decide +kernel) rfl
theorem ws26 : Cond.selects "MeterDeskModel" ⟨"MeterDeskModel", "length", "(I)I"⟩ ⟨"MeterDeskModel", "length", "(I)I"⟩ ∈ tb := tb_of (i := 26) (by decide +kernel) rfl
theorem ws27 : Cond.selects "MeterDeskModel" ⟨"MeterDeskModel", "s4", "(I)I"⟩ ⟨"MeterDeskModel", "s4", "(I)I"⟩ ∈ tb := tb_of (i := 27) (by decide +kernel) rfl
theorem ws28 : Cond.selects "MeterDeskModel" ⟨"MeterDeskModel", "goals", "(I)I"⟩ ⟨"MeterDeskModel", "goals", "(I)I"⟩ ∈ tb := tb_of (i := 28) (by decide +kernel) rfl
theorem ws29 : Cond.selects "MeterDeskModel" ⟨"MeterDeskModel", "goal", "(II)I"⟩ ⟨"MeterDeskModel", "goal", "(II)I"⟩ ∈ tb := tb_of (i := 29) (by decide +kernel) rfl
theorem ws30 : Cond.selects "MeterDeskModel" ⟨"MeterDeskModel", "placeOfGoal", "(II)I"⟩ ⟨"MeterDeskModel", "placeOfGoal", "(II)I"⟩ ∈ tb := tb_of (i := 30) (by decide +kernel) rfl
theorem ws31 : Cond.selects "MeterDeskModel" ⟨"MeterDeskModel", "begins", "(I)Z"⟩ ⟨"MeterDeskModel", "begins", "(I)Z"⟩ ∈ tb := tb_of (i := 31) (by decide +kernel) rfl
theorem ws32 : Cond.selects "MeterDeskModel" ⟨"MeterDeskModel", "findBlocks", "()V"⟩ ⟨"MeterDeskModel", "findBlocks", "()V"⟩ ∈ tb := tb_of (i := 32) (by decide +kernel) rfl
theorem ws33 : Cond.selects "MeterDeskModel" ⟨"MeterDeskModel", "layOut", "()V"⟩ ⟨"MeterDeskModel", "layOut", "()V"⟩ ∈ tb := tb_of (i := 33) (by decide +kernel) rfl
theorem ws34 : Cond.selects "MeterDeskModel" ⟨"MeterDeskModel", "looks", "(I)Z"⟩ ⟨"MeterDeskModel", "looks", "(I)Z"⟩ ∈ tb := tb_of (i := 34) (by decide +kernel) rfl
theorem ws35 : Cond.selects "MeterDeskModel" ⟨"MeterDeskModel", "opcodeAt", "(I)I"⟩ ⟨"MeterDeskModel", "opcodeAt", "(I)I"⟩ ∈ tb := tb_of (i := 35) (by decide +kernel) rfl
theorem ws36 : Cond.selects "MeterDeskModel" ⟨"MeterDeskModel", "front", "(I)I"⟩ ⟨"MeterDeskModel", "front", "(I)I"⟩ ∈ tb := tb_of (i := 36) (by decide +kernel) rfl
theorem ws37 : Cond.selects "MeterDeskModel" ⟨"MeterDeskModel", "write", "()V"⟩ ⟨"MeterDeskModel", "write", "()V"⟩ ∈ tb := tb_of (i := 37) (by decide +kernel) rfl
theorem ws38 : Cond.selects "MeterDeskModel" ⟨"MeterDeskModel", "call", "(I)V"⟩ ⟨"MeterDeskModel", "call", "(I)V"⟩ ∈ tb := tb_of (i := 38) (by decide +kernel) rfl
theorem ws39 : Cond.selects "MeterDeskModel" ⟨"MeterDeskModel", "put", "(II)V"⟩ ⟨"MeterDeskModel", "put", "(II)V"⟩ ∈ tb := tb_of (i := 39) (by decide +kernel) rfl
theorem ws40 : Cond.selects "MeterDeskModel" ⟨"MeterDeskModel", "twice", "(I)V"⟩ ⟨"MeterDeskModel", "twice", "(I)V"⟩ ∈ tb := tb_of (i := 40) (by decide +kernel) rfl
theorem ws41 : Cond.selects "MeterDeskModel" ⟨"MeterDeskModel", "instruction", "(II)V"⟩ ⟨"MeterDeskModel", "instruction", "(II)V"⟩ ∈ tb := tb_of (i := 41) (by decide +kernel) rfl
theorem ws42 : Cond.selects "MeterDeskModel" ⟨"MeterDeskModel", "table", "(IIII)V"⟩ ⟨"MeterDeskModel", "table", "(IIII)V"⟩ ∈ tb := tb_of (i := 42) (by decide +kernel) rfl
