-- ===== PART A: goes FIRST, ahead of the names: the tables' words, and 'selects' of the private methods out of them =====
/-- a private method of a class that the tables say can be made, by its rows of tables_1 -/
def lw_okq (q : MethodName × Nat) : Prop := (q.1.cls ≠ "java/lang/invoke/MethodHandle" ∧ q.1.cls ≠ "java/lang/invoke/VarHandle") ∧ Cond.instantiable q.1.cls q.2 ∈ tables_1 ∧ Cond.privateMethod q.1 ∈ tables_1 ∧ Cond.instanceMethod q.1 ∈ tables_1
theorem lw_p0 : lw_okq (⟨"MeterDesk$Layout", "forget", "()V"⟩, 16) := ⟨⟨by decide +kernel, by decide +kernel⟩, List.mem_of_getElem? (i := 74) (by decide +kernel), List.mem_of_getElem? (i := 260) (by decide +kernel), List.mem_of_getElem? (i := 261) (by decide +kernel)⟩
theorem lw_p1 : lw_okq (⟨"MeterDesk$Layout", "readInstructions", "()Z"⟩, 16) := ⟨⟨by decide +kernel, by decide +kernel⟩, List.mem_of_getElem? (i := 74) (by decide +kernel), List.mem_of_getElem? (i := 265) (by decide +kernel), List.mem_of_getElem? (i := 266) (by decide +kernel)⟩
theorem lw_p2 : lw_okq (⟨"MeterDesk$Source", "wideLength", "(I)I"⟩, 4) := ⟨⟨by decide +kernel, by decide +kernel⟩, List.mem_of_getElem? (i := 18) (by decide +kernel), List.mem_of_getElem? (i := 280) (by decide +kernel), List.mem_of_getElem? (i := 281) (by decide +kernel)⟩
theorem lw_p3 : lw_okq (⟨"MeterDesk$Source", "switchLength", "(II)I"⟩, 4) := ⟨⟨by decide +kernel, by decide +kernel⟩, List.mem_of_getElem? (i := 18) (by decide +kernel), List.mem_of_getElem? (i := 290) (by decide +kernel), List.mem_of_getElem? (i := 291) (by decide +kernel)⟩
theorem lw_p4 : lw_okq (⟨"MeterDesk$Layout", "readGoals", "()Z"⟩, 16) := ⟨⟨by decide +kernel, by decide +kernel⟩, List.mem_of_getElem? (i := 74) (by decide +kernel), List.mem_of_getElem? (i := 310) (by decide +kernel), List.mem_of_getElem? (i := 311) (by decide +kernel)⟩
theorem lw_p5 : lw_okq (⟨"MeterDesk$Layout", "readWordGoals", "(II)Z"⟩, 16) := ⟨⟨by decide +kernel, by decide +kernel⟩, List.mem_of_getElem? (i := 74) (by decide +kernel), List.mem_of_getElem? (i := 315) (by decide +kernel), List.mem_of_getElem? (i := 316) (by decide +kernel)⟩
theorem lw_p6 : lw_okq (⟨"MeterDesk$Layout", "beginBlock", "(I)Z"⟩, 16) := ⟨⟨by decide +kernel, by decide +kernel⟩, List.mem_of_getElem? (i := 74) (by decide +kernel), List.mem_of_getElem? (i := 331) (by decide +kernel), List.mem_of_getElem? (i := 332) (by decide +kernel)⟩
theorem lw_p7 : lw_okq (⟨"MeterDesk$Layout", "readHandlers", "()Z"⟩, 16) := ⟨⟨by decide +kernel, by decide +kernel⟩, List.mem_of_getElem? (i := 74) (by decide +kernel), List.mem_of_getElem? (i := 348) (by decide +kernel), List.mem_of_getElem? (i := 349) (by decide +kernel)⟩
theorem lw_p8 : lw_okq (⟨"MeterDesk$Layout", "sumBlocks", "()V"⟩, 16) := ⟨⟨by decide +kernel, by decide +kernel⟩, List.mem_of_getElem? (i := 74) (by decide +kernel), List.mem_of_getElem? (i := 360) (by decide +kernel), List.mem_of_getElem? (i := 361) (by decide +kernel)⟩
theorem lw_p9 : lw_okq (⟨"MeterDesk$Layout", "measureLeads", "()V"⟩, 16) := ⟨⟨by decide +kernel, by decide +kernel⟩, List.mem_of_getElem? (i := 74) (by decide +kernel), List.mem_of_getElem? (i := 371) (by decide +kernel), List.mem_of_getElem? (i := 372) (by decide +kernel)⟩
theorem lw_p10 : lw_okq (⟨"MeterDesk$Layout", "settle", "()V"⟩, 16) := ⟨⟨by decide +kernel, by decide +kernel⟩, List.mem_of_getElem? (i := 74) (by decide +kernel), List.mem_of_getElem? (i := 382) (by decide +kernel), List.mem_of_getElem? (i := 383) (by decide +kernel)⟩
theorem lw_p11 : lw_okq (⟨"MeterDesk$Layout", "givePlaces", "()V"⟩, 16) := ⟨⟨by decide +kernel, by decide +kernel⟩, List.mem_of_getElem? (i := 74) (by decide +kernel), List.mem_of_getElem? (i := 386) (by decide +kernel), List.mem_of_getElem? (i := 387) (by decide +kernel)⟩
theorem lw_p12 : lw_okq (⟨"MeterDesk$Layout", "lengthAtSpot", "(I)I"⟩, 16) := ⟨⟨by decide +kernel, by decide +kernel⟩, List.mem_of_getElem? (i := 74) (by decide +kernel), List.mem_of_getElem? (i := 390) (by decide +kernel), List.mem_of_getElem? (i := 391) (by decide +kernel)⟩
theorem lw_p13 : lw_okq (⟨"MeterDesk$Layout", "stretchJumps", "()Z"⟩, 16) := ⟨⟨by decide +kernel, by decide +kernel⟩, List.mem_of_getElem? (i := 74) (by decide +kernel), List.mem_of_getElem? (i := 394) (by decide +kernel), List.mem_of_getElem? (i := 395) (by decide +kernel)⟩
theorem lw_p14 : lw_okq (⟨"MeterDesk$Output", "writeLead", "(I)V"⟩, 9) := ⟨⟨by decide +kernel, by decide +kernel⟩, List.mem_of_getElem? (i := 149) (by decide +kernel), List.mem_of_getElem? (i := 402) (by decide +kernel), List.mem_of_getElem? (i := 403) (by decide +kernel)⟩
theorem lw_p15 : lw_okq (⟨"MeterDesk$Output", "putCall", "(I)V"⟩, 9) := ⟨⟨by decide +kernel, by decide +kernel⟩, List.mem_of_getElem? (i := 149) (by decide +kernel), List.mem_of_getElem? (i := 407) (by decide +kernel), List.mem_of_getElem? (i := 408) (by decide +kernel)⟩
def lw_privs_1 : List (MethodName × Nat) := [(⟨"MeterDesk$Layout", "forget", "()V"⟩, 16), (⟨"MeterDesk$Layout", "readInstructions", "()Z"⟩, 16), (⟨"MeterDesk$Source", "wideLength", "(I)I"⟩, 4), (⟨"MeterDesk$Source", "switchLength", "(II)I"⟩, 4), (⟨"MeterDesk$Layout", "readGoals", "()Z"⟩, 16), (⟨"MeterDesk$Layout", "readWordGoals", "(II)Z"⟩, 16), (⟨"MeterDesk$Layout", "beginBlock", "(I)Z"⟩, 16), (⟨"MeterDesk$Layout", "readHandlers", "()Z"⟩, 16), (⟨"MeterDesk$Layout", "sumBlocks", "()V"⟩, 16), (⟨"MeterDesk$Layout", "measureLeads", "()V"⟩, 16), (⟨"MeterDesk$Layout", "settle", "()V"⟩, 16), (⟨"MeterDesk$Layout", "givePlaces", "()V"⟩, 16), (⟨"MeterDesk$Layout", "lengthAtSpot", "(I)I"⟩, 16), (⟨"MeterDesk$Layout", "stretchJumps", "()Z"⟩, 16), (⟨"MeterDesk$Output", "writeLead", "(I)V"⟩, 9), (⟨"MeterDesk$Output", "putCall", "(I)V"⟩, 9)]
theorem lw_r1 : ∀ q ∈ lw_privs_1, lw_okq q := List.forall_mem_cons.mpr ⟨lw_p0, List.forall_mem_cons.mpr ⟨lw_p1, List.forall_mem_cons.mpr ⟨lw_p2, List.forall_mem_cons.mpr ⟨lw_p3, List.forall_mem_cons.mpr ⟨lw_p4, List.forall_mem_cons.mpr ⟨lw_p5, List.forall_mem_cons.mpr ⟨lw_p6, List.forall_mem_cons.mpr ⟨lw_p7, List.forall_mem_cons.mpr ⟨lw_p8, List.forall_mem_cons.mpr ⟨lw_p9, List.forall_mem_cons.mpr ⟨lw_p10, List.forall_mem_cons.mpr ⟨lw_p11, List.forall_mem_cons.mpr ⟨lw_p12, List.forall_mem_cons.mpr ⟨lw_p13, List.forall_mem_cons.mpr ⟨lw_p14, List.forall_mem_cons.mpr ⟨lw_p15, fun _ h => absurd h List.not_mem_nil⟩⟩⟩⟩⟩⟩⟩⟩⟩⟩⟩⟩⟩⟩⟩⟩
theorem lw_p16 : lw_okq (⟨"MeterDesk$Output", "put1", "(I)V"⟩, 9) := ⟨⟨by decide +kernel, by decide +kernel⟩, List.mem_of_getElem? (i := 149) (by decide +kernel), List.mem_of_getElem? (i := 411) (by decide +kernel), List.mem_of_getElem? (i := 412) (by decide +kernel)⟩
theorem lw_p17 : lw_okq (⟨"MeterDesk$Output", "put2", "(I)V"⟩, 9) := ⟨⟨by decide +kernel, by decide +kernel⟩, List.mem_of_getElem? (i := 149) (by decide +kernel), List.mem_of_getElem? (i := 415) (by decide +kernel), List.mem_of_getElem? (i := 416) (by decide +kernel)⟩
theorem lw_p18 : lw_okq (⟨"MeterDesk$Output", "putDuplicate", "()V"⟩, 9) := ⟨⟨by decide +kernel, by decide +kernel⟩, List.mem_of_getElem? (i := 149) (by decide +kernel), List.mem_of_getElem? (i := 419) (by decide +kernel), List.mem_of_getElem? (i := 420) (by decide +kernel)⟩
theorem lw_p19 : lw_okq (⟨"MeterDesk$Output", "putCost", "(I)V"⟩, 9) := ⟨⟨by decide +kernel, by decide +kernel⟩, List.mem_of_getElem? (i := 149) (by decide +kernel), List.mem_of_getElem? (i := 423) (by decide +kernel), List.mem_of_getElem? (i := 424) (by decide +kernel)⟩
theorem lw_p20 : lw_okq (⟨"MeterDesk$Output", "writeInstruction", "(I)V"⟩, 9) := ⟨⟨by decide +kernel, by decide +kernel⟩, List.mem_of_getElem? (i := 149) (by decide +kernel), List.mem_of_getElem? (i := 429) (by decide +kernel), List.mem_of_getElem? (i := 430) (by decide +kernel)⟩
theorem lw_p21 : lw_okq (⟨"MeterDesk$Output", "writeSwitch", "(II)V"⟩, 9) := ⟨⟨by decide +kernel, by decide +kernel⟩, List.mem_of_getElem? (i := 149) (by decide +kernel), List.mem_of_getElem? (i := 434) (by decide +kernel), List.mem_of_getElem? (i := 435) (by decide +kernel)⟩
theorem lw_p22 : lw_okq (⟨"MeterDesk$Output", "put4", "(I)V"⟩, 9) := ⟨⟨by decide +kernel, by decide +kernel⟩, List.mem_of_getElem? (i := 149) (by decide +kernel), List.mem_of_getElem? (i := 442) (by decide +kernel), List.mem_of_getElem? (i := 443) (by decide +kernel)⟩
theorem lw_p23 : lw_okq (⟨"MeterDesk$Output", "writeFarJump", "(II)V"⟩, 9) := ⟨⟨by decide +kernel, by decide +kernel⟩, List.mem_of_getElem? (i := 149) (by decide +kernel), List.mem_of_getElem? (i := 447) (by decide +kernel), List.mem_of_getElem? (i := 448) (by decide +kernel)⟩
theorem lw_p24 : lw_okq (⟨"MeterDesk$Output", "writeGuards", "()V"⟩, 9) := ⟨⟨by decide +kernel, by decide +kernel⟩, List.mem_of_getElem? (i := 149) (by decide +kernel), List.mem_of_getElem? (i := 456) (by decide +kernel), List.mem_of_getElem? (i := 457) (by decide +kernel)⟩
theorem lw_p25 : lw_okq (⟨"MeterDeskModel", "isFormed", "()Z"⟩, 36) := ⟨⟨by decide +kernel, by decide +kernel⟩, List.mem_of_getElem? (i := 486) (by decide +kernel), List.mem_of_getElem? (i := 638) (by decide +kernel), List.mem_of_getElem? (i := 639) (by decide +kernel)⟩
theorem lw_p26 : lw_okq (⟨"MeterDeskModel", "length", "(I)I"⟩, 36) := ⟨⟨by decide +kernel, by decide +kernel⟩, List.mem_of_getElem? (i := 486) (by decide +kernel), List.mem_of_getElem? (i := 642) (by decide +kernel), List.mem_of_getElem? (i := 643) (by decide +kernel)⟩
theorem lw_p27 : lw_okq (⟨"MeterDeskModel", "s4", "(I)I"⟩, 36) := ⟨⟨by decide +kernel, by decide +kernel⟩, List.mem_of_getElem? (i := 486) (by decide +kernel), List.mem_of_getElem? (i := 652) (by decide +kernel), List.mem_of_getElem? (i := 653) (by decide +kernel)⟩
theorem lw_p28 : lw_okq (⟨"MeterDeskModel", "goals", "(I)I"⟩, 36) := ⟨⟨by decide +kernel, by decide +kernel⟩, List.mem_of_getElem? (i := 486) (by decide +kernel), List.mem_of_getElem? (i := 657) (by decide +kernel), List.mem_of_getElem? (i := 658) (by decide +kernel)⟩
theorem lw_p29 : lw_okq (⟨"MeterDeskModel", "goal", "(II)I"⟩, 36) := ⟨⟨by decide +kernel, by decide +kernel⟩, List.mem_of_getElem? (i := 486) (by decide +kernel), List.mem_of_getElem? (i := 664) (by decide +kernel), List.mem_of_getElem? (i := 665) (by decide +kernel)⟩
theorem lw_p30 : lw_okq (⟨"MeterDeskModel", "placeOfGoal", "(II)I"⟩, 36) := ⟨⟨by decide +kernel, by decide +kernel⟩, List.mem_of_getElem? (i := 486) (by decide +kernel), List.mem_of_getElem? (i := 668) (by decide +kernel), List.mem_of_getElem? (i := 669) (by decide +kernel)⟩
theorem lw_p31 : lw_okq (⟨"MeterDeskModel", "begins", "(I)Z"⟩, 36) := ⟨⟨by decide +kernel, by decide +kernel⟩, List.mem_of_getElem? (i := 486) (by decide +kernel), List.mem_of_getElem? (i := 672) (by decide +kernel), List.mem_of_getElem? (i := 673) (by decide +kernel)⟩
def lw_privs_2 : List (MethodName × Nat) := [(⟨"MeterDesk$Output", "put1", "(I)V"⟩, 9), (⟨"MeterDesk$Output", "put2", "(I)V"⟩, 9), (⟨"MeterDesk$Output", "putDuplicate", "()V"⟩, 9), (⟨"MeterDesk$Output", "putCost", "(I)V"⟩, 9), (⟨"MeterDesk$Output", "writeInstruction", "(I)V"⟩, 9), (⟨"MeterDesk$Output", "writeSwitch", "(II)V"⟩, 9), (⟨"MeterDesk$Output", "put4", "(I)V"⟩, 9), (⟨"MeterDesk$Output", "writeFarJump", "(II)V"⟩, 9), (⟨"MeterDesk$Output", "writeGuards", "()V"⟩, 9), (⟨"MeterDeskModel", "isFormed", "()Z"⟩, 36), (⟨"MeterDeskModel", "length", "(I)I"⟩, 36), (⟨"MeterDeskModel", "s4", "(I)I"⟩, 36), (⟨"MeterDeskModel", "goals", "(I)I"⟩, 36), (⟨"MeterDeskModel", "goal", "(II)I"⟩, 36), (⟨"MeterDeskModel", "placeOfGoal", "(II)I"⟩, 36), (⟨"MeterDeskModel", "begins", "(I)Z"⟩, 36)]
theorem lw_r2 : ∀ q ∈ lw_privs_2, lw_okq q := List.forall_mem_cons.mpr ⟨lw_p16, List.forall_mem_cons.mpr ⟨lw_p17, List.forall_mem_cons.mpr ⟨lw_p18, List.forall_mem_cons.mpr ⟨lw_p19, List.forall_mem_cons.mpr ⟨lw_p20, List.forall_mem_cons.mpr ⟨lw_p21, List.forall_mem_cons.mpr ⟨lw_p22, List.forall_mem_cons.mpr ⟨lw_p23, List.forall_mem_cons.mpr ⟨lw_p24, List.forall_mem_cons.mpr ⟨lw_p25, List.forall_mem_cons.mpr ⟨lw_p26, List.forall_mem_cons.mpr ⟨lw_p27, List.forall_mem_cons.mpr ⟨lw_p28, List.forall_mem_cons.mpr ⟨lw_p29, List.forall_mem_cons.mpr ⟨lw_p30, List.forall_mem_cons.mpr ⟨lw_p31, fun _ h => absurd h List.not_mem_nil⟩⟩⟩⟩⟩⟩⟩⟩⟩⟩⟩⟩⟩⟩⟩⟩
theorem lw_p32 : lw_okq (⟨"MeterDeskModel", "findBlocks", "()V"⟩, 36) := ⟨⟨by decide +kernel, by decide +kernel⟩, List.mem_of_getElem? (i := 486) (by decide +kernel), List.mem_of_getElem? (i := 676) (by decide +kernel), List.mem_of_getElem? (i := 677) (by decide +kernel)⟩
theorem lw_p33 : lw_okq (⟨"MeterDeskModel", "layOut", "()V"⟩, 36) := ⟨⟨by decide +kernel, by decide +kernel⟩, List.mem_of_getElem? (i := 486) (by decide +kernel), List.mem_of_getElem? (i := 683) (by decide +kernel), List.mem_of_getElem? (i := 684) (by decide +kernel)⟩
theorem lw_p34 : lw_okq (⟨"MeterDeskModel", "looks", "(I)Z"⟩, 36) := ⟨⟨by decide +kernel, by decide +kernel⟩, List.mem_of_getElem? (i := 486) (by decide +kernel), List.mem_of_getElem? (i := 687) (by decide +kernel), List.mem_of_getElem? (i := 688) (by decide +kernel)⟩
theorem lw_p35 : lw_okq (⟨"MeterDeskModel", "opcodeAt", "(I)I"⟩, 36) := ⟨⟨by decide +kernel, by decide +kernel⟩, List.mem_of_getElem? (i := 486) (by decide +kernel), List.mem_of_getElem? (i := 694) (by decide +kernel), List.mem_of_getElem? (i := 695) (by decide +kernel)⟩
theorem lw_p36 : lw_okq (⟨"MeterDeskModel", "front", "(I)I"⟩, 36) := ⟨⟨by decide +kernel, by decide +kernel⟩, List.mem_of_getElem? (i := 486) (by decide +kernel), List.mem_of_getElem? (i := 698) (by decide +kernel), List.mem_of_getElem? (i := 699) (by decide +kernel)⟩
theorem lw_p37 : lw_okq (⟨"MeterDeskModel", "write", "()V"⟩, 36) := ⟨⟨by decide +kernel, by decide +kernel⟩, List.mem_of_getElem? (i := 486) (by decide +kernel), List.mem_of_getElem? (i := 702) (by decide +kernel), List.mem_of_getElem? (i := 703) (by decide +kernel)⟩
theorem lw_p38 : lw_okq (⟨"MeterDeskModel", "call", "(I)V"⟩, 36) := ⟨⟨by decide +kernel, by decide +kernel⟩, List.mem_of_getElem? (i := 486) (by decide +kernel), List.mem_of_getElem? (i := 706) (by decide +kernel), List.mem_of_getElem? (i := 707) (by decide +kernel)⟩
theorem lw_p39 : lw_okq (⟨"MeterDeskModel", "put", "(II)V"⟩, 36) := ⟨⟨by decide +kernel, by decide +kernel⟩, List.mem_of_getElem? (i := 486) (by decide +kernel), List.mem_of_getElem? (i := 710) (by decide +kernel), List.mem_of_getElem? (i := 711) (by decide +kernel)⟩
theorem lw_p40 : lw_okq (⟨"MeterDeskModel", "twice", "(I)V"⟩, 36) := ⟨⟨by decide +kernel, by decide +kernel⟩, List.mem_of_getElem? (i := 486) (by decide +kernel), List.mem_of_getElem? (i := 714) (by decide +kernel), List.mem_of_getElem? (i := 715) (by decide +kernel)⟩
theorem lw_p41 : lw_okq (⟨"MeterDeskModel", "instruction", "(II)V"⟩, 36) := ⟨⟨by decide +kernel, by decide +kernel⟩, List.mem_of_getElem? (i := 486) (by decide +kernel), List.mem_of_getElem? (i := 718) (by decide +kernel), List.mem_of_getElem? (i := 719) (by decide +kernel)⟩
theorem lw_p42 : lw_okq (⟨"MeterDeskModel", "table", "(IIII)V"⟩, 36) := ⟨⟨by decide +kernel, by decide +kernel⟩, List.mem_of_getElem? (i := 486) (by decide +kernel), List.mem_of_getElem? (i := 722) (by decide +kernel), List.mem_of_getElem? (i := 723) (by decide +kernel)⟩
def lw_privs_3 : List (MethodName × Nat) := [(⟨"MeterDeskModel", "findBlocks", "()V"⟩, 36), (⟨"MeterDeskModel", "layOut", "()V"⟩, 36), (⟨"MeterDeskModel", "looks", "(I)Z"⟩, 36), (⟨"MeterDeskModel", "opcodeAt", "(I)I"⟩, 36), (⟨"MeterDeskModel", "front", "(I)I"⟩, 36), (⟨"MeterDeskModel", "write", "()V"⟩, 36), (⟨"MeterDeskModel", "call", "(I)V"⟩, 36), (⟨"MeterDeskModel", "put", "(II)V"⟩, 36), (⟨"MeterDeskModel", "twice", "(I)V"⟩, 36), (⟨"MeterDeskModel", "instruction", "(II)V"⟩, 36), (⟨"MeterDeskModel", "table", "(IIII)V"⟩, 36)]
theorem lw_r3 : ∀ q ∈ lw_privs_3, lw_okq q := List.forall_mem_cons.mpr ⟨lw_p32, List.forall_mem_cons.mpr ⟨lw_p33, List.forall_mem_cons.mpr ⟨lw_p34, List.forall_mem_cons.mpr ⟨lw_p35, List.forall_mem_cons.mpr ⟨lw_p36, List.forall_mem_cons.mpr ⟨lw_p37, List.forall_mem_cons.mpr ⟨lw_p38, List.forall_mem_cons.mpr ⟨lw_p39, List.forall_mem_cons.mpr ⟨lw_p40, List.forall_mem_cons.mpr ⟨lw_p41, List.forall_mem_cons.mpr ⟨lw_p42, fun _ h => absurd h List.not_mem_nil⟩⟩⟩⟩⟩⟩⟩⟩⟩⟩⟩
def lw_privs : List (MethodName × Nat) := lw_privs_1 ++ (lw_privs_2 ++ (lw_privs_3))
def lw_tbl : List Cond := k2_sels lw_privs ++ tables_1
theorem lw_privs_ok : ∀ q ∈ lw_privs, lw_okq q := by
  show ∀ q ∈ lw_privs_1 ++ (lw_privs_2 ++ (lw_privs_3)), lw_okq q
  exact List.forall_mem_append.mpr ⟨lw_r1, List.forall_mem_append.mpr ⟨lw_r2, lw_r3⟩⟩
def tb : List Cond := lw_tbl.filter goodWord
theorem tb_of {i : Nat} {w : Cond} (h : lw_tbl[i]? = some w) (g : goodWord w = true) : w ∈ tb := List.mem_filter.mpr ⟨List.mem_of_getElem? h, g⟩
def R_Desk : String := "MeterDesk"
def T_Desk : u_T := fun k => match k with
  | 0 => ("MeterDesk", "source", "LMeterDesk$Source;", true)
  | 1 => ("MeterDesk", "tariff", "LMeterDesk$Tariff;", true)
  | 2 => ("MeterDesk", "layout", "LMeterDesk$Layout;", true)
  | 3 => ("MeterDesk", "output", "LMeterDesk$Output;", true)
  | _ => ("MeterDesk", "timesRewritten", "I", false)
def t_Desk : Nat → FieldType := fun k => match k with
  | 0 => .object "MeterDesk$Source"
  | 1 => .object "MeterDesk$Tariff"
  | 2 => .object "MeterDesk$Layout"
  | 3 => .object "MeterDesk$Output"
  | _ => .int
theorem no_Desk : ∀ a, a < 5 → ∀ b, b < 5 → a ≠ b → (T_Desk a).2.1 ≠ (T_Desk b).2.1 := by decide +kernel
theorem to_Desk : ∀ k, k < 5 → parseFieldDescriptor (T_Desk k).2.2.1 = some (t_Desk k) := by decide +kernel
theorem in_Desk : ∀ w ∈ u_ws R_Desk T_Desk 5, w ∈ tb := by decide +kernel
def R_Source : String := "MeterDesk$Source"
def T_Source : u_T := fun k => match k with
  | 0 => ("MeterDesk$Source", "octets", "[I", true)
  | 1 => ("MeterDesk$Source", "handlerParts", "[I", true)
  | 2 => ("MeterDesk$Source", "size", "I", false)
  | _ => ("MeterDesk$Source", "handlers", "I", false)
def t_Source : Nat → FieldType := fun k => match k with
  | 0 => .array .int
  | 1 => .array .int
  | 2 => .int
  | _ => .int
theorem no_Source : ∀ a, a < 4 → ∀ b, b < 4 → a ≠ b → (T_Source a).2.1 ≠ (T_Source b).2.1 := by decide +kernel
theorem to_Source : ∀ k, k < 4 → parseFieldDescriptor (T_Source k).2.2.1 = some (t_Source k) := by decide +kernel
theorem in_Source : ∀ w ∈ u_ws R_Source T_Source 4, w ∈ tb := by decide +kernel
def R_Tariff : String := "MeterDesk$Tariff"
def T_Tariff : u_T := fun k => match k with
  | 0 => ("MeterDesk$Tariff", "costs", "[I", true)
  | 1 => ("MeterDesk$Tariff", "marked", "[Z", true)
  | 2 => ("MeterDesk$Tariff", "base", "I", false)
  | _ => ("MeterDesk$Tariff", "reach", "I", false)
def t_Tariff : Nat → FieldType := fun k => match k with
  | 0 => .array .int
  | 1 => .array .boolean
  | 2 => .int
  | _ => .int
theorem no_Tariff : ∀ a, a < 4 → ∀ b, b < 4 → a ≠ b → (T_Tariff a).2.1 ≠ (T_Tariff b).2.1 := by decide +kernel
theorem to_Tariff : ∀ k, k < 4 → parseFieldDescriptor (T_Tariff k).2.2.1 = some (t_Tariff k) := by decide +kernel
theorem in_Tariff : ∀ w ∈ u_ws R_Tariff T_Tariff 4, w ∈ tb := by decide +kernel
def R_Layout : String := "MeterDesk$Layout"
def T_Layout : u_T := fun k => match k with
  | 0 => ("MeterDesk$Layout", "source", "LMeterDesk$Source;", true)
  | 1 => ("MeterDesk$Layout", "tariff", "LMeterDesk$Tariff;", true)
  | 2 => ("MeterDesk$Layout", "places", "[I", true)
  | 3 => ("MeterDesk$Layout", "length", "[I", true)
  | 4 => ("MeterDesk$Layout", "newLength", "[I", true)
  | 5 => ("MeterDesk$Layout", "blockCost", "[I", true)
  | 6 => ("MeterDesk$Layout", "looks", "[Z", true)
  | 7 => ("MeterDesk$Layout", "lead", "[I", true)
  | 8 => ("MeterDesk$Layout", "front", "[I", true)
  | 9 => ("MeterDesk$Layout", "spot", "[I", true)
  | 10 => ("MeterDesk$Layout", "far", "[Z", true)
  | 11 => ("MeterDesk$Layout", "instructions", "I", false)
  | 12 => ("MeterDesk$Layout", "blocks", "I", false)
  | 13 => ("MeterDesk$Layout", "rounds", "I", false)
  | 14 => ("MeterDesk$Layout", "stretched", "I", false)
  | _ => ("MeterDesk$Layout", "costSum", "I", false)
def t_Layout : Nat → FieldType := fun k => match k with
  | 0 => .object "MeterDesk$Source"
  | 1 => .object "MeterDesk$Tariff"
  | 2 => .array .int
  | 3 => .array .int
  | 4 => .array .int
  | 5 => .array .int
  | 6 => .array .boolean
  | 7 => .array .int
  | 8 => .array .int
  | 9 => .array .int
  | 10 => .array .boolean
  | 11 => .int
  | 12 => .int
  | 13 => .int
  | 14 => .int
  | _ => .int
theorem no_Layout : ∀ a, a < 16 → ∀ b, b < 16 → a ≠ b → (T_Layout a).2.1 ≠ (T_Layout b).2.1 := by decide +kernel
theorem to_Layout : ∀ k, k < 16 → parseFieldDescriptor (T_Layout k).2.2.1 = some (t_Layout k) := by decide +kernel
theorem in_Layout : ∀ w ∈ u_ws R_Layout T_Layout 16, w ∈ tb := by decide +kernel
def R_Output : String := "MeterDesk$Output"
def T_Output : u_T := fun k => match k with
  | 0 => ("MeterDesk$Output", "source", "LMeterDesk$Source;", true)
  | 1 => ("MeterDesk$Output", "tariff", "LMeterDesk$Tariff;", true)
  | 2 => ("MeterDesk$Output", "layout", "LMeterDesk$Layout;", true)
  | 3 => ("MeterDesk$Output", "octets", "[I", true)
  | 4 => ("MeterDesk$Output", "guardParts", "[I", true)
  | 5 => ("MeterDesk$Output", "size", "I", false)
  | 6 => ("MeterDesk$Output", "guards", "I", false)
  | 7 => ("MeterDesk$Output", "calls", "I", false)
  | _ => ("MeterDesk$Output", "pushes", "I", false)
def t_Output : Nat → FieldType := fun k => match k with
  | 0 => .object "MeterDesk$Source"
  | 1 => .object "MeterDesk$Tariff"
  | 2 => .object "MeterDesk$Layout"
  | 3 => .array .int
  | 4 => .array .int
  | 5 => .int
  | 6 => .int
  | 7 => .int
  | _ => .int
theorem no_Output : ∀ a, a < 9 → ∀ b, b < 9 → a ≠ b → (T_Output a).2.1 ≠ (T_Output b).2.1 := by decide +kernel
theorem to_Output : ∀ k, k < 9 → parseFieldDescriptor (T_Output k).2.2.1 = some (t_Output k) := by decide +kernel
theorem in_Output : ∀ w ∈ u_ws R_Output T_Output 9, w ∈ tb := by decide +kernel
def R_Model : String := "MeterDeskModel"
def T_Model : u_T := fun k => match k with
  | 0 => ("MeterDeskModel", "code", "[I", true)
  | 1 => ("MeterDeskModel", "from", "[I", true)
  | 2 => ("MeterDeskModel", "to", "[I", true)
  | 3 => ("MeterDeskModel", "at", "[I", true)
  | 4 => ("MeterDeskModel", "caught", "[I", true)
  | 5 => ("MeterDeskModel", "costs", "[I", true)
  | 6 => ("MeterDeskModel", "marked", "[Z", true)
  | 7 => ("MeterDeskModel", "size", "I", false)
  | 8 => ("MeterDeskModel", "handlers", "I", false)
  | 9 => ("MeterDeskModel", "base", "I", false)
  | 10 => ("MeterDeskModel", "reach", "I", false)
  | 11 => ("MeterDeskModel", "times", "I", false)
  | 12 => ("MeterDeskModel", "starts", "[Z", true)
  | 13 => ("MeterDeskModel", "far", "[Z", true)
  | 14 => ("MeterDeskModel", "old", "[I", true)
  | 15 => ("MeterDeskModel", "place", "[I", true)
  | 16 => ("MeterDeskModel", "prefix", "[I", true)
  | 17 => ("MeterDeskModel", "long1", "[I", true)
  | 18 => ("MeterDeskModel", "block", "[I", true)
  | 19 => ("MeterDeskModel", "out", "[I", true)
  | 20 => ("MeterDeskModel", "newFrom", "[I", true)
  | 21 => ("MeterDeskModel", "newTo", "[I", true)
  | 22 => ("MeterDeskModel", "newAt", "[I", true)
  | 23 => ("MeterDeskModel", "newCaught", "[I", true)
  | 24 => ("MeterDeskModel", "olds", "I", false)
  | 25 => ("MeterDeskModel", "all", "I", false)
  | 26 => ("MeterDeskModel", "guards", "I", false)
  | 27 => ("MeterDeskModel", "rounds", "I", false)
  | 28 => ("MeterDeskModel", "instructions", "I", false)
  | 29 => ("MeterDeskModel", "blocks", "I", false)
  | 30 => ("MeterDeskModel", "fars", "I", false)
  | 31 => ("MeterDeskModel", "sum", "I", false)
  | 32 => ("MeterDeskModel", "calls", "I", false)
  | 33 => ("MeterDeskModel", "pushes", "I", false)
  | 34 => ("MeterDeskModel", "written", "I", false)
  | _ => ("MeterDeskModel", "good", "Z", false)
def t_Model : Nat → FieldType := fun k => match k with
  | 0 => .array .int
  | 1 => .array .int
  | 2 => .array .int
  | 3 => .array .int
  | 4 => .array .int
  | 5 => .array .int
  | 6 => .array .boolean
  | 7 => .int
  | 8 => .int
  | 9 => .int
  | 10 => .int
  | 11 => .int
  | 12 => .array .boolean
  | 13 => .array .boolean
  | 14 => .array .int
  | 15 => .array .int
  | 16 => .array .int
  | 17 => .array .int
  | 18 => .array .int
  | 19 => .array .int
  | 20 => .array .int
  | 21 => .array .int
  | 22 => .array .int
  | 23 => .array .int
  | 24 => .int
  | 25 => .int
  | 26 => .int
  | 27 => .int
  | 28 => .int
  | 29 => .int
  | 30 => .int
  | 31 => .int
  | 32 => .int
  | 33 => .int
  | 34 => .int
  | _ => .boolean
theorem no_Model : ∀ a, a < 36 → ∀ b, b < 36 → a ≠ b → (T_Model a).2.1 ≠ (T_Model b).2.1 := by decide +kernel
theorem to_Model : ∀ k, k < 36 → parseFieldDescriptor (T_Model k).2.2.1 = some (t_Model k) := by decide +kernel
theorem in_Model : ∀ w ∈ u_ws R_Model T_Model 36, w ∈ tb := by decide +kernel
def R_Opcodes : String := "MeterDesk$Opcodes"
def R_Arrays : String := "java/util/Arrays"
abbrev vwCl : List vw_C := [(R_Desk, T_Desk, 5), (R_Source, T_Source, 4), (R_Tariff, T_Tariff, 4), (R_Layout, T_Layout, 16), (R_Output, T_Output, 9), (R_Model, T_Model, 36)]
def y_Desk_init : MethodName := ⟨"MeterDesk", "<init>", "()V"⟩
def w_Desk_init : List Cond := Cond.code y_Desk_init prog_1_method_1_code 4 (Option.none : Option Jvm.ClassFile.FieldType) :: tb
def y_Source_init : MethodName := ⟨"MeterDesk$Source", "<init>", "()V"⟩
def w_Source_init : List Cond := Cond.code y_Source_init prog_5_method_1_code 1 (Option.none : Option Jvm.ClassFile.FieldType) :: tb
def y_Tariff_init : MethodName := ⟨"MeterDesk$Tariff", "<init>", "()V"⟩
def w_Tariff_init : List Cond := Cond.code y_Tariff_init prog_6_method_1_code 1 (Option.none : Option Jvm.ClassFile.FieldType) :: tb
def y_Arrays_fill : MethodName := ⟨"java/util/Arrays", "fill", "([II)V"⟩
def w_Arrays_fill : List Cond := Cond.code y_Arrays_fill prog_9_method_103_code 4 (Option.none : Option Jvm.ClassFile.FieldType) :: tb
def y_Layout_init : MethodName := ⟨"MeterDesk$Layout", "<init>", "(LMeterDesk$Source;LMeterDesk$Tariff;)V"⟩
def w_Layout_init : List Cond := Cond.code y_Layout_init prog_2_method_1_code 3 (Option.none : Option Jvm.ClassFile.FieldType) :: tb
def y_Output_init : MethodName := ⟨"MeterDesk$Output", "<init>", "(LMeterDesk$Source;LMeterDesk$Tariff;LMeterDesk$Layout;)V"⟩
def w_Output_init : List Cond := Cond.code y_Output_init prog_4_method_1_code 4 (Option.none : Option Jvm.ClassFile.FieldType) :: tb
def y_Desk_code : MethodName := ⟨"MeterDesk", "code", "(JI)I"⟩
def w_Desk_code : List Cond := Cond.code y_Desk_code prog_1_method_2_code 5 (Option.some Jvm.ClassFile.FieldType.int) :: tb
def y_Source_append : MethodName := ⟨"MeterDesk$Source", "append", "(I)V"⟩
def w_Source_append : List Cond := Cond.code y_Source_append prog_5_method_2_code 2 (Option.none : Option Jvm.ClassFile.FieldType) :: tb
def y_Desk_change : MethodName := ⟨"MeterDesk", "change", "(II)I"⟩
def w_Desk_change : List Cond := Cond.code y_Desk_change prog_1_method_3_code 4 (Option.some Jvm.ClassFile.FieldType.int) :: tb
def y_Desk_isOctet : MethodName := ⟨"MeterDesk", "isOctet", "(I)Z"⟩
def w_Desk_isOctet : List Cond := Cond.code y_Desk_isOctet prog_1_method_16_code 1 (Option.some Jvm.ClassFile.FieldType.boolean) :: tb
def y_Desk_clear : MethodName := ⟨"MeterDesk", "clear", "()I"⟩
def w_Desk_clear : List Cond := Cond.code y_Desk_clear prog_1_method_4_code 2 (Option.some Jvm.ClassFile.FieldType.int) :: tb
def y_Desk_handler : MethodName := ⟨"MeterDesk", "handler", "(IIII)I"⟩
def w_Desk_handler : List Cond := Cond.code y_Desk_handler prog_1_method_5_code 5 (Option.some Jvm.ClassFile.FieldType.int) :: tb
def y_Desk_isPlace : MethodName := ⟨"MeterDesk", "isPlace", "(I)Z"⟩
def w_Desk_isPlace : List Cond := Cond.code y_Desk_isPlace prog_1_method_17_code 1 (Option.some Jvm.ClassFile.FieldType.boolean) :: tb
def y_Source_appendHandler : MethodName := ⟨"MeterDesk$Source", "appendHandler", "(IIII)V"⟩
def w_Source_appendHandler : List Cond := Cond.code y_Source_appendHandler prog_5_method_3_code 6 (Option.none : Option Jvm.ClassFile.FieldType) :: tb
def y_Desk_mark : MethodName := ⟨"MeterDesk", "mark", "(IZ)Z"⟩
def w_Desk_mark : List Cond := Cond.code y_Desk_mark prog_1_method_6_code 3 (Option.some Jvm.ClassFile.FieldType.boolean) :: tb
def y_Desk_cost : MethodName := ⟨"MeterDesk", "cost", "(II)I"⟩
def w_Desk_cost : List Cond := Cond.code y_Desk_cost prog_1_method_7_code 4 (Option.some Jvm.ClassFile.FieldType.int) :: tb
def y_Desk_set : MethodName := ⟨"MeterDesk", "set", "(II)Z"⟩
def w_Desk_set : List Cond := Cond.code y_Desk_set prog_1_method_8_code 3 (Option.some Jvm.ClassFile.FieldType.boolean) :: tb
def y_Desk_rewrite : MethodName := ⟨"MeterDesk", "rewrite", "()I"⟩
def w_Desk_rewrite : List Cond := Cond.code y_Desk_rewrite prog_1_method_9_code 2 (Option.some Jvm.ClassFile.FieldType.int) :: tb
def y_Output_forget : MethodName := ⟨"MeterDesk$Output", "forget", "()V"⟩
def w_Output_forget : List Cond := Cond.code y_Output_forget prog_4_method_2_code 1 (Option.none : Option Jvm.ClassFile.FieldType) :: tb
def y_Layout_make : MethodName := ⟨"MeterDesk$Layout", "make", "()I"⟩
def w_Layout_make : List Cond := Cond.code y_Layout_make prog_2_method_3_code 2 (Option.some Jvm.ClassFile.FieldType.int) :: tb
def y_Layout_forget : MethodName := ⟨"MeterDesk$Layout", "forget", "()V"⟩
def w_Layout_forget : List Cond := Cond.code y_Layout_forget prog_2_method_4_code 2 (Option.none : Option Jvm.ClassFile.FieldType) :: tb
def y_Layout_readInstructions : MethodName := ⟨"MeterDesk$Layout", "readInstructions", "()Z"⟩
def w_Layout_readInstructions : List Cond := Cond.code y_Layout_readInstructions prog_2_method_5_code 4 (Option.some Jvm.ClassFile.FieldType.boolean) :: tb
def y_Source_lengthAt : MethodName := ⟨"MeterDesk$Source", "lengthAt", "(I)I"⟩
def w_Source_lengthAt : List Cond := Cond.code y_Source_lengthAt prog_5_method_8_code 4 (Option.some Jvm.ClassFile.FieldType.int) :: tb
def y_Source_u1 : MethodName := ⟨"MeterDesk$Source", "u1", "(I)I"⟩
def w_Source_u1 : List Cond := Cond.code y_Source_u1 prog_5_method_5_code 2 (Option.some Jvm.ClassFile.FieldType.int) :: tb
def y_Opcodes_exists : MethodName := ⟨"MeterDesk$Opcodes", "exists", "(I)Z"⟩
def w_Opcodes_exists : List Cond := Cond.code y_Opcodes_exists prog_3_method_2_code 1 (Option.some Jvm.ClassFile.FieldType.boolean) :: tb
def y_Source_wideLength : MethodName := ⟨"MeterDesk$Source", "wideLength", "(I)I"⟩
def w_Source_wideLength : List Cond := Cond.code y_Source_wideLength prog_5_method_9_code 2 (Option.some Jvm.ClassFile.FieldType.int) :: tb
def y_Opcodes_isLocal : MethodName := ⟨"MeterDesk$Opcodes", "isLocal", "(I)Z"⟩
def w_Opcodes_isLocal : List Cond := Cond.code y_Opcodes_isLocal prog_3_method_8_code 1 (Option.some Jvm.ClassFile.FieldType.boolean) :: tb
def y_Opcodes_isSwitch : MethodName := ⟨"MeterDesk$Opcodes", "isSwitch", "(I)Z"⟩
def w_Opcodes_isSwitch : List Cond := Cond.code y_Opcodes_isSwitch prog_3_method_4_code 1 (Option.some Jvm.ClassFile.FieldType.boolean) :: tb
def y_Source_switchLength : MethodName := ⟨"MeterDesk$Source", "switchLength", "(II)I"⟩
def w_Source_switchLength : List Cond := Cond.code y_Source_switchLength prog_5_method_10_code 8 (Option.some Jvm.ClassFile.FieldType.int) :: tb
def y_Source_wordsFrom : MethodName := ⟨"MeterDesk$Source", "wordsFrom", "(I)I"⟩
def w_Source_wordsFrom : List Cond := Cond.code y_Source_wordsFrom prog_5_method_11_code 1 (Option.some Jvm.ClassFile.FieldType.int) :: tb
def y_Source_s4 : MethodName := ⟨"MeterDesk$Source", "s4", "(I)I"⟩
def w_Source_s4 : List Cond := Cond.code y_Source_s4 prog_5_method_7_code 2 (Option.some Jvm.ClassFile.FieldType.int) :: tb
def y_Opcodes_operands : MethodName := ⟨"MeterDesk$Opcodes", "operands", "(I)I"⟩
def w_Opcodes_operands : List Cond := Cond.code y_Opcodes_operands prog_3_method_9_code 1 (Option.some Jvm.ClassFile.FieldType.int) :: tb
def y_Opcodes_isShortJump : MethodName := ⟨"MeterDesk$Opcodes", "isShortJump", "(I)Z"⟩
def w_Opcodes_isShortJump : List Cond := Cond.code y_Opcodes_isShortJump prog_3_method_3_code 1 (Option.some Jvm.ClassFile.FieldType.boolean) :: tb
def y_Layout_readGoals : MethodName := ⟨"MeterDesk$Layout", "readGoals", "()Z"⟩
def w_Layout_readGoals : List Cond := Cond.code y_Layout_readGoals prog_2_method_6_code 5 (Option.some Jvm.ClassFile.FieldType.boolean) :: tb
def y_Layout_readWordGoals : MethodName := ⟨"MeterDesk$Layout", "readWordGoals", "(II)Z"⟩
def w_Layout_readWordGoals : List Cond := Cond.code y_Layout_readWordGoals prog_2_method_7_code 5 (Option.some Jvm.ClassFile.FieldType.boolean) :: tb
def y_Layout_wordsOf : MethodName := ⟨"MeterDesk$Layout", "wordsOf", "(I)I"⟩
def w_Layout_wordsOf : List Cond := Cond.code y_Layout_wordsOf prog_2_method_8_code 2 (Option.some Jvm.ClassFile.FieldType.int) :: tb
def y_Opcodes_isGoalWord : MethodName := ⟨"MeterDesk$Opcodes", "isGoalWord", "(II)Z"⟩
def w_Opcodes_isGoalWord : List Cond := Cond.code y_Opcodes_isGoalWord prog_3_method_11_code 2 (Option.some Jvm.ClassFile.FieldType.boolean) :: tb
def y_Source_wordGoal : MethodName := ⟨"MeterDesk$Source", "wordGoal", "(II)I"⟩
def w_Source_wordGoal : List Cond := Cond.code y_Source_wordGoal prog_5_method_13_code 3 (Option.some Jvm.ClassFile.FieldType.int) :: tb
def y_Layout_beginBlock : MethodName := ⟨"MeterDesk$Layout", "beginBlock", "(I)Z"⟩
def w_Layout_beginBlock : List Cond := Cond.code y_Layout_beginBlock prog_2_method_9_code 2 (Option.some Jvm.ClassFile.FieldType.boolean) :: tb
def y_Layout_begins : MethodName := ⟨"MeterDesk$Layout", "begins", "(I)Z"⟩
def w_Layout_begins : List Cond := Cond.code y_Layout_begins prog_2_method_2_code 2 (Option.some Jvm.ClassFile.FieldType.boolean) :: tb
def y_Source_jumpGoal : MethodName := ⟨"MeterDesk$Source", "jumpGoal", "(I)I"⟩
def w_Source_jumpGoal : List Cond := Cond.code y_Source_jumpGoal prog_5_method_12_code 2 (Option.some Jvm.ClassFile.FieldType.int) :: tb
def y_Source_s2 : MethodName := ⟨"MeterDesk$Source", "s2", "(I)I"⟩
def w_Source_s2 : List Cond := Cond.code y_Source_s2 prog_5_method_6_code 2 (Option.some Jvm.ClassFile.FieldType.int) :: tb
def y_Layout_readHandlers : MethodName := ⟨"MeterDesk$Layout", "readHandlers", "()Z"⟩
def w_Layout_readHandlers : List Cond := Cond.code y_Layout_readHandlers prog_2_method_10_code 6 (Option.some Jvm.ClassFile.FieldType.boolean) :: tb
def y_Source_part : MethodName := ⟨"MeterDesk$Source", "part", "(II)I"⟩
def w_Source_part : List Cond := Cond.code y_Source_part prog_5_method_4_code 3 (Option.some Jvm.ClassFile.FieldType.int) :: tb
def y_Tariff_isDangerous : MethodName := ⟨"MeterDesk$Tariff", "isDangerous", "(I)Z"⟩
def w_Tariff_isDangerous : List Cond := Cond.code y_Tariff_isDangerous prog_6_method_2_code 2 (Option.some Jvm.ClassFile.FieldType.boolean) :: tb
def y_Layout_sumBlocks : MethodName := ⟨"MeterDesk$Layout", "sumBlocks", "()V"⟩
def w_Layout_sumBlocks : List Cond := Cond.code y_Layout_sumBlocks prog_2_method_11_code 7 (Option.none : Option Jvm.ClassFile.FieldType) :: tb
def y_Opcodes_endsBlock : MethodName := ⟨"MeterDesk$Opcodes", "endsBlock", "(I)Z"⟩
def w_Opcodes_endsBlock : List Cond := Cond.code y_Opcodes_endsBlock prog_3_method_7_code 1 (Option.some Jvm.ClassFile.FieldType.boolean) :: tb
def y_Opcodes_isReturn : MethodName := ⟨"MeterDesk$Opcodes", "isReturn", "(I)Z"⟩
def w_Opcodes_isReturn : List Cond := Cond.code y_Opcodes_isReturn prog_3_method_5_code 1 (Option.some Jvm.ClassFile.FieldType.boolean) :: tb
def y_Layout_measureLeads : MethodName := ⟨"MeterDesk$Layout", "measureLeads", "()V"⟩
def w_Layout_measureLeads : List Cond := Cond.code y_Layout_measureLeads prog_2_method_12_code 4 (Option.none : Option Jvm.ClassFile.FieldType) :: tb
def y_Layout_pushLength : MethodName := ⟨"MeterDesk$Layout", "pushLength", "(I)I"⟩
def w_Layout_pushLength : List Cond := Cond.code y_Layout_pushLength prog_2_method_13_code 1 (Option.some Jvm.ClassFile.FieldType.int) :: tb
def y_Opcodes_makesArray : MethodName := ⟨"MeterDesk$Opcodes", "makesArray", "(I)Z"⟩
def w_Opcodes_makesArray : List Cond := Cond.code y_Opcodes_makesArray prog_3_method_6_code 1 (Option.some Jvm.ClassFile.FieldType.boolean) :: tb
def y_Layout_settle : MethodName := ⟨"MeterDesk$Layout", "settle", "()V"⟩
def w_Layout_settle : List Cond := Cond.code y_Layout_settle prog_2_method_14_code 2 (Option.none : Option Jvm.ClassFile.FieldType) :: tb
def y_Layout_givePlaces : MethodName := ⟨"MeterDesk$Layout", "givePlaces", "()V"⟩
def w_Layout_givePlaces : List Cond := Cond.code y_Layout_givePlaces prog_2_method_15_code 4 (Option.none : Option Jvm.ClassFile.FieldType) :: tb
def y_Layout_lengthAtSpot : MethodName := ⟨"MeterDesk$Layout", "lengthAtSpot", "(I)I"⟩
def w_Layout_lengthAtSpot : List Cond := Cond.code y_Layout_lengthAtSpot prog_2_method_16_code 3 (Option.some Jvm.ClassFile.FieldType.int) :: tb
def y_Layout_stretchJumps : MethodName := ⟨"MeterDesk$Layout", "stretchJumps", "()Z"⟩
def w_Layout_stretchJumps : List Cond := Cond.code y_Layout_stretchJumps prog_2_method_17_code 5 (Option.some Jvm.ClassFile.FieldType.boolean) :: tb
def y_Output_write : MethodName := ⟨"MeterDesk$Output", "write", "()V"⟩
def w_Output_write : List Cond := Cond.code y_Output_write prog_4_method_3_code 3 (Option.none : Option Jvm.ClassFile.FieldType) :: tb
def y_Output_writeLead : MethodName := ⟨"MeterDesk$Output", "writeLead", "(I)V"⟩
def w_Output_writeLead : List Cond := Cond.code y_Output_writeLead prog_4_method_4_code 3 (Option.none : Option Jvm.ClassFile.FieldType) :: tb
def y_Output_putCall : MethodName := ⟨"MeterDesk$Output", "putCall", "(I)V"⟩
def w_Output_putCall : List Cond := Cond.code y_Output_putCall prog_4_method_9_code 2 (Option.none : Option Jvm.ClassFile.FieldType) :: tb
def y_Output_put1 : MethodName := ⟨"MeterDesk$Output", "put1", "(I)V"⟩
def w_Output_put1 : List Cond := Cond.code y_Output_put1 prog_4_method_12_code 2 (Option.none : Option Jvm.ClassFile.FieldType) :: tb
def y_Output_put2 : MethodName := ⟨"MeterDesk$Output", "put2", "(I)V"⟩
def w_Output_put2 : List Cond := Cond.code y_Output_put2 prog_4_method_13_code 2 (Option.none : Option Jvm.ClassFile.FieldType) :: tb
def y_Output_putDuplicate : MethodName := ⟨"MeterDesk$Output", "putDuplicate", "()V"⟩
def w_Output_putDuplicate : List Cond := Cond.code y_Output_putDuplicate prog_4_method_10_code 1 (Option.none : Option Jvm.ClassFile.FieldType) :: tb
def y_Output_putCost : MethodName := ⟨"MeterDesk$Output", "putCost", "(I)V"⟩
def w_Output_putCost : List Cond := Cond.code y_Output_putCost prog_4_method_11_code 2 (Option.none : Option Jvm.ClassFile.FieldType) :: tb
def y_Output_writeInstruction : MethodName := ⟨"MeterDesk$Output", "writeInstruction", "(I)V"⟩
def w_Output_writeInstruction : List Cond := Cond.code y_Output_writeInstruction prog_4_method_5_code 4 (Option.none : Option Jvm.ClassFile.FieldType) :: tb
def y_Output_writeSwitch : MethodName := ⟨"MeterDesk$Output", "writeSwitch", "(II)V"⟩
def w_Output_writeSwitch : List Cond := Cond.code y_Output_writeSwitch prog_4_method_7_code 6 (Option.none : Option Jvm.ClassFile.FieldType) :: tb
def y_Output_put4 : MethodName := ⟨"MeterDesk$Output", "put4", "(I)V"⟩
def w_Output_put4 : List Cond := Cond.code y_Output_put4 prog_4_method_14_code 2 (Option.none : Option Jvm.ClassFile.FieldType) :: tb
def y_Output_writeFarJump : MethodName := ⟨"MeterDesk$Output", "writeFarJump", "(II)V"⟩
def w_Output_writeFarJump : List Cond := Cond.code y_Output_writeFarJump prog_4_method_6_code 4 (Option.none : Option Jvm.ClassFile.FieldType) :: tb
def y_Opcodes_opposite : MethodName := ⟨"MeterDesk$Opcodes", "opposite", "(I)I"⟩
def w_Opcodes_opposite : List Cond := Cond.code y_Opcodes_opposite prog_3_method_10_code 1 (Option.some Jvm.ClassFile.FieldType.int) :: tb
def y_Output_writeGuards : MethodName := ⟨"MeterDesk$Output", "writeGuards", "()V"⟩
def w_Output_writeGuards : List Cond := Cond.code y_Output_writeGuards prog_4_method_8_code 4 (Option.none : Option Jvm.ClassFile.FieldType) :: tb
def y_Desk_octet : MethodName := ⟨"MeterDesk", "octet", "(I)I"⟩
def w_Desk_octet : List Cond := Cond.code y_Desk_octet prog_1_method_10_code 2 (Option.some Jvm.ClassFile.FieldType.int) :: tb
def y_Desk_moved : MethodName := ⟨"MeterDesk", "moved", "(II)I"⟩
def w_Desk_moved : List Cond := Cond.code y_Desk_moved prog_1_method_11_code 3 (Option.some Jvm.ClassFile.FieldType.int) :: tb
def y_Desk_back : MethodName := ⟨"MeterDesk", "back", "(I)I"⟩
def w_Desk_back : List Cond := Cond.code y_Desk_back prog_1_method_12_code 4 (Option.some Jvm.ClassFile.FieldType.int) :: tb
def y_Desk_guard : MethodName := ⟨"MeterDesk", "guard", "(II)I"⟩
def w_Desk_guard : List Cond := Cond.code y_Desk_guard prog_1_method_13_code 3 (Option.some Jvm.ClassFile.FieldType.int) :: tb
def y_Desk_about : MethodName := ⟨"MeterDesk", "about", "(I)I"⟩
def w_Desk_about : List Cond := Cond.code y_Desk_about prog_1_method_14_code 2 (Option.some Jvm.ClassFile.FieldType.int) :: tb
def y_Desk_count : MethodName := ⟨"MeterDesk", "count", "(I)I"⟩
def w_Desk_count : List Cond := Cond.code y_Desk_count prog_1_method_15_code 2 (Option.some Jvm.ClassFile.FieldType.int) :: tb
def y_Model_init : MethodName := ⟨"MeterDeskModel", "<init>", "()V"⟩
def w_Model_init : List Cond := Cond.code y_Model_init prog_8_method_1_code 2 (Option.none : Option Jvm.ClassFile.FieldType) :: tb
def y_Model_code : MethodName := ⟨"MeterDeskModel", "code", "(JI)I"⟩
def w_Model_code : List Cond := Cond.code y_Model_code prog_8_method_3_code 5 (Option.some Jvm.ClassFile.FieldType.int) :: tb
def y_Model_in : MethodName := ⟨"MeterDeskModel", "in", "(III)Z"⟩
def w_Model_in : List Cond := Cond.code y_Model_in prog_8_method_2_code 3 (Option.some Jvm.ClassFile.FieldType.boolean) :: tb
def y_Model_change : MethodName := ⟨"MeterDeskModel", "change", "(II)I"⟩
def w_Model_change : List Cond := Cond.code y_Model_change prog_8_method_4_code 4 (Option.some Jvm.ClassFile.FieldType.int) :: tb
def y_Model_clear : MethodName := ⟨"MeterDeskModel", "clear", "()I"⟩
def w_Model_clear : List Cond := Cond.code y_Model_clear prog_8_method_5_code 2 (Option.some Jvm.ClassFile.FieldType.int) :: tb
def y_Model_handler : MethodName := ⟨"MeterDeskModel", "handler", "(IIII)I"⟩
def w_Model_handler : List Cond := Cond.code y_Model_handler prog_8_method_6_code 5 (Option.some Jvm.ClassFile.FieldType.int) :: tb
def y_Model_mark : MethodName := ⟨"MeterDeskModel", "mark", "(IZ)Z"⟩
def w_Model_mark : List Cond := Cond.code y_Model_mark prog_8_method_7_code 3 (Option.some Jvm.ClassFile.FieldType.boolean) :: tb
def y_Model_cost : MethodName := ⟨"MeterDeskModel", "cost", "(II)I"⟩
def w_Model_cost : List Cond := Cond.code y_Model_cost prog_8_method_8_code 4 (Option.some Jvm.ClassFile.FieldType.int) :: tb
def y_Model_set : MethodName := ⟨"MeterDeskModel", "set", "(II)Z"⟩
def w_Model_set : List Cond := Cond.code y_Model_set prog_8_method_9_code 3 (Option.some Jvm.ClassFile.FieldType.boolean) :: tb
def y_Model_rewrite : MethodName := ⟨"MeterDeskModel", "rewrite", "()I"⟩
def w_Model_rewrite : List Cond := Cond.code y_Model_rewrite prog_8_method_27_code 6 (Option.some Jvm.ClassFile.FieldType.int) :: tb
def y_Model_isFormed : MethodName := ⟨"MeterDeskModel", "isFormed", "()Z"⟩
def w_Model_isFormed : List Cond := Cond.code y_Model_isFormed prog_8_method_19_code 5 (Option.some Jvm.ClassFile.FieldType.boolean) :: tb
def y_Model_length : MethodName := ⟨"MeterDeskModel", "length", "(I)I"⟩
def w_Model_length : List Cond := Cond.code y_Model_length prog_8_method_14_code 7 (Option.some Jvm.ClassFile.FieldType.int) :: tb
def y_Model_plain : MethodName := ⟨"MeterDeskModel", "plain", "(I)I"⟩
def w_Model_plain : List Cond := Cond.code y_Model_plain prog_8_method_13_code 1 (Option.some Jvm.ClassFile.FieldType.int) :: tb
def y_Model_isTable : MethodName := ⟨"MeterDeskModel", "isTable", "(I)Z"⟩
def w_Model_isTable : List Cond := Cond.code y_Model_isTable prog_8_method_12_code 1 (Option.some Jvm.ClassFile.FieldType.boolean) :: tb
def y_Model_s4 : MethodName := ⟨"MeterDeskModel", "s4", "(I)I"⟩
def w_Model_s4 : List Cond := Cond.code y_Model_s4 prog_8_method_10_code 2 (Option.some Jvm.ClassFile.FieldType.int) :: tb
def y_Model_goals : MethodName := ⟨"MeterDeskModel", "goals", "(I)I"⟩
def w_Model_goals : List Cond := Cond.code y_Model_goals prog_8_method_15_code 4 (Option.some Jvm.ClassFile.FieldType.int) :: tb
def y_Model_isJump : MethodName := ⟨"MeterDeskModel", "isJump", "(I)Z"⟩
def w_Model_isJump : List Cond := Cond.code y_Model_isJump prog_8_method_11_code 1 (Option.some Jvm.ClassFile.FieldType.boolean) :: tb
def y_Model_goal : MethodName := ⟨"MeterDeskModel", "goal", "(II)I"⟩
def w_Model_goal : List Cond := Cond.code y_Model_goal prog_8_method_17_code 4 (Option.some Jvm.ClassFile.FieldType.int) :: tb
def y_Model_placeOfGoal : MethodName := ⟨"MeterDeskModel", "placeOfGoal", "(II)I"⟩
def w_Model_placeOfGoal : List Cond := Cond.code y_Model_placeOfGoal prog_8_method_16_code 5 (Option.some Jvm.ClassFile.FieldType.int) :: tb
def y_Model_begins : MethodName := ⟨"MeterDeskModel", "begins", "(I)Z"⟩
def w_Model_begins : List Cond := Cond.code y_Model_begins prog_8_method_18_code 2 (Option.some Jvm.ClassFile.FieldType.boolean) :: tb
def y_Model_findBlocks : MethodName := ⟨"MeterDeskModel", "findBlocks", "()V"⟩
def w_Model_findBlocks : List Cond := Cond.code y_Model_findBlocks prog_8_method_22_code 6 (Option.none : Option Jvm.ClassFile.FieldType) :: tb
def y_Model_ends : MethodName := ⟨"MeterDeskModel", "ends", "(I)Z"⟩
def w_Model_ends : List Cond := Cond.code y_Model_ends prog_8_method_21_code 1 (Option.some Jvm.ClassFile.FieldType.boolean) :: tb
def y_Model_layOut : MethodName := ⟨"MeterDeskModel", "layOut", "()V"⟩
def w_Model_layOut : List Cond := Cond.code y_Model_layOut prog_8_method_26_code 5 (Option.none : Option Jvm.ClassFile.FieldType) :: tb
def y_Model_looks : MethodName := ⟨"MeterDeskModel", "looks", "(I)Z"⟩
def w_Model_looks : List Cond := Cond.code y_Model_looks prog_8_method_20_code 3 (Option.some Jvm.ClassFile.FieldType.boolean) :: tb
def y_Model_weigh : MethodName := ⟨"MeterDeskModel", "weigh", "(I)I"⟩
def w_Model_weigh : List Cond := Cond.code y_Model_weigh prog_8_method_23_code 1 (Option.some Jvm.ClassFile.FieldType.int) :: tb
def y_Model_opcodeAt : MethodName := ⟨"MeterDeskModel", "opcodeAt", "(I)I"⟩
def w_Model_opcodeAt : List Cond := Cond.code y_Model_opcodeAt prog_8_method_25_code 2 (Option.some Jvm.ClassFile.FieldType.int) :: tb
def y_Model_front : MethodName := ⟨"MeterDeskModel", "front", "(I)I"⟩
def w_Model_front : List Cond := Cond.code y_Model_front prog_8_method_24_code 2 (Option.some Jvm.ClassFile.FieldType.int) :: tb
def y_Model_write : MethodName := ⟨"MeterDeskModel", "write", "()V"⟩
def w_Model_write : List Cond := Cond.code y_Model_write prog_8_method_31_code 4 (Option.none : Option Jvm.ClassFile.FieldType) :: tb
def y_Model_call : MethodName := ⟨"MeterDeskModel", "call", "(I)V"⟩
def w_Model_call : List Cond := Cond.code y_Model_call prog_8_method_29_code 2 (Option.none : Option Jvm.ClassFile.FieldType) :: tb
def y_Model_put : MethodName := ⟨"MeterDeskModel", "put", "(II)V"⟩
def w_Model_put : List Cond := Cond.code y_Model_put prog_8_method_28_code 4 (Option.none : Option Jvm.ClassFile.FieldType) :: tb
def y_Model_twice : MethodName := ⟨"MeterDeskModel", "twice", "(I)V"⟩
def w_Model_twice : List Cond := Cond.code y_Model_twice prog_8_method_30_code 2 (Option.none : Option Jvm.ClassFile.FieldType) :: tb
def y_Model_instruction : MethodName := ⟨"MeterDeskModel", "instruction", "(II)V"⟩
def w_Model_instruction : List Cond := Cond.code y_Model_instruction prog_8_method_33_code 7 (Option.none : Option Jvm.ClassFile.FieldType) :: tb
def y_Model_table : MethodName := ⟨"MeterDeskModel", "table", "(IIII)V"⟩
def w_Model_table : List Cond := Cond.code y_Model_table prog_8_method_34_code 9 (Option.none : Option Jvm.ClassFile.FieldType) :: tb
def y_Model_opposite : MethodName := ⟨"MeterDeskModel", "opposite", "(I)I"⟩
def w_Model_opposite : List Cond := Cond.code y_Model_opposite prog_8_method_32_code 1 (Option.some Jvm.ClassFile.FieldType.int) :: tb
def y_Model_octet : MethodName := ⟨"MeterDeskModel", "octet", "(I)I"⟩
def w_Model_octet : List Cond := Cond.code y_Model_octet prog_8_method_35_code 2 (Option.some Jvm.ClassFile.FieldType.int) :: tb
def y_Model_moved : MethodName := ⟨"MeterDeskModel", "moved", "(II)I"⟩
def w_Model_moved : List Cond := Cond.code y_Model_moved prog_8_method_36_code 3 (Option.some Jvm.ClassFile.FieldType.int) :: tb
def y_Model_back : MethodName := ⟨"MeterDeskModel", "back", "(I)I"⟩
def w_Model_back : List Cond := Cond.code y_Model_back prog_8_method_37_code 3 (Option.some Jvm.ClassFile.FieldType.int) :: tb
def y_Model_guard : MethodName := ⟨"MeterDeskModel", "guard", "(II)I"⟩
def w_Model_guard : List Cond := Cond.code y_Model_guard prog_8_method_38_code 3 (Option.some Jvm.ClassFile.FieldType.int) :: tb
def y_Model_about : MethodName := ⟨"MeterDeskModel", "about", "(I)I"⟩
def w_Model_about : List Cond := Cond.code y_Model_about prog_8_method_39_code 2 (Option.some Jvm.ClassFile.FieldType.int) :: tb
def y_Model_count : MethodName := ⟨"MeterDeskModel", "count", "(I)I"⟩
def w_Model_count : List Cond := Cond.code y_Model_count prog_8_method_40_code 2 (Option.some Jvm.ClassFile.FieldType.int) :: tb
