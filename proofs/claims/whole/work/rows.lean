section
-- ===== PART A: goes FIRST, ahead of the names: the tables' words, and 'selects' of the private methods out of them =====
/-- a private method of a class that the tables say can be made, by its rows of tables_1 -/
def lw_okq (q : MethodName × Nat) : Prop := (q.1.cls ≠ "java/lang/invoke/MethodHandle" ∧ q.1.cls ≠ "java/lang/invoke/VarHandle") ∧ Cond.instantiable q.1.cls q.2 ∈ tables_1 ∧ Cond.privateMethod q.1 ∈ tables_1 ∧ Cond.instanceMethod q.1 ∈ tables_1
theorem lw_p0 : lw_okq (⟨"MeterDesk$Layout", "forget", "()V"⟩, 16) := ⟨⟨by decide +kernel, by decide +kernel⟩, List.mem_of_getElem? (i := 74) (by decide +kernel), List.mem_of_getElem? (i := 260) (by decide +kernel), List.mem_of_getElem? (i := 261) (by decide +kernel)⟩
theorem lw_p1 : lw_okq (⟨"MeterDesk$Layout", "readInstructions", "()Z"⟩, 16) := ⟨⟨by decide +kernel, by decide +kernel⟩, List.mem_of_getElem? (i := 74) (by decide +kernel), List.mem_of_getElem? (i := 265) (by decide +kernel), List.mem_of_getElem? (i := 266) (by decide +kernel)⟩
theorem lw_p2 : lw_okq (⟨"MeterDesk$Source", "wideLength", "(I)I"⟩, 4) := ⟨⟨by decide +kernel, by decide +kernel⟩, List.mem_of_getElem? (i := 18) (by decide +kernel), List.mem_of_getElem? (i := 280) (by decide +kernel), List.mem_of_getElem? (i := 281) (by decide +kernel)⟩
theorem lw_p3 : lw_okq (⟨"MeterDesk$Source", "switchLength", "(II)I"⟩, 4) := ⟨⟨by decide +kernel, by decide +kernel⟩, List.mem_of_getElem? (i := 18) (by decide +kernel), List.mem_of_getElem? (i := 290) (by decide +kernel), List.mem_of_getElem? (i := 291) (by decide +kernel)⟩
theorem lw_p4 : lw_okq (⟨"MeterDesk$Layout", "readGoals", "()Z"⟩, 16) := ⟨⟨by decide +kernel, by decide +kernel⟩, List.mem_of_getElem? (i := 74) (by decide +kernel), List.mem_of_getElem? (i := 310) (by decide +kernel), List.mem_of_getElem? (i := 311) (by decide +kernel)⟩
theorem lw_p5 : lw_okq (⟨"MeterDesk$Layout", "readWordGoals", "(II)Z"⟩, 16) := ⟨⟨by decide +kernel, by decide +kernel⟩, List.mem_of_getElem? (i := 74) (by decide +kernel), List.mem_of_getElem? (i := 315) (by decide +kernel), List.mem_of_getElem? (i := 316) (by decide +kernel)⟩
theorem lw_p6 : lw_okq (⟨"MeterDesk$Layout", "beginBlock", "(I)Z"⟩, 16) := ⟨⟨by decide +kernel, by decide +kernel⟩, List.mem_of_getElem? (i := 74) (by decide +kernel), List.mem_of_getElem? (i := 331) (by decide +kernel), List.mem_of_getElem? (i := 332) (by decide +kernel)⟩
theorem lw_p7 : lw_okq (⟨"MeterDesk$Layout", "readHandlers", "()Z"⟩, 16) := ⟨⟨by decide +kernel, by decide +kernel⟩, List.mem_of_getElem? (i := 74) (by decide +kernel), List.mem_of_getElem? (i := 348) (by decide +kernel), List.mem_of_getElem? (i := 349) (by decide +kernel)⟩
theorem lw_p8 : lw_okq (⟨"MeterDesk$Layout", "sumBlocks", "()V"⟩, 16) := ⟨⟨by decide +kernel, by decide +kernel⟩, List.mem_of_getElem? (i := 74) (by decide +kernel), List.mem_of_getElem? (i := 360) (by decide +kernel), List.mem_of_getElem? (i := 361) (by decide +kernel)⟩
theorem lw_p9 : lw_okq (⟨"MeterDesk$Layout", "measureLeads", "()V"⟩, 16) := ⟨⟨by decide +kernel, by decide +kernel⟩, List.mem_of_getElem? (i := 74) (by decide +kernel), List.mem_of_getElem? (i := 371) (by decide +kernel), List.mem_of_getElem? (i := 372) (by decide +kernel)⟩
theorem lw_p10 : lw_okq (⟨"MeterDesk$Layout", "settle", "()V"⟩, 16) := ⟨⟨by decide +kernel, by decide +kernel⟩, List.mem_of_getElem? (i := 74) (by decide +kernel), List.mem_of_getElem? (i := 382) (by decide +kernel), List.mem_of_getElem? (i := 383) (by decide +kernel)⟩
theorem lw_p11 : lw_okq (⟨"MeterDesk$Layout", "givePlaces", "()V"⟩, 16) := ⟨⟨by decide +kernel, by decide +kernel⟩, List.mem_of_getElem? (i := 74) (by decide +kernel), List.mem_of_getElem? (i := 386) (by decide +kernel), List.mem_of_getElem? (i := 387) (by decide +kernel)⟩
theorem lw_p12 : lw_okq (⟨"MeterDesk$Layout", "lengthAtSpot", "(I)I"⟩, 16) := ⟨⟨by decide +kernel, by decide +kernel⟩, List.mem_of_getElem? (i := 74) (by decide +kernel), List.mem_of_getElem? (i := 390) (by decide +kernel), List.mem_of_getElem? (i := 391) (by decide +kernel)⟩
theorem lw_p13 : lw_okq (⟨"MeterDesk$Layout", "stretchJumps", "()Z"⟩, 16) := ⟨⟨by decide +kernel, by decide +kernel⟩, List.mem_of_getElem? (i := 74) (by decide +kernel), List.mem_of_getElem? (i := 394) (by decide +kernel), List.mem_of_getElem? (i := 395) (by decide +kernel)⟩
theorem lw_p14 : lw_okq (⟨"MeterDesk$Output", "writeLead", "(I)V"⟩, 9) := ⟨⟨by decide +kernel, by decide +kernel⟩, List.mem_of_getElem? (i := 149) (by decide +kernel), List.mem_of_getElem? (i := 402) (by decide +kernel), List.mem_of_getElem? (i := 403) (by decide +kernel)⟩
theorem lw_p15 : lw_okq (⟨"MeterDesk$Output", "putCall", "(I)V"⟩, 9) := ⟨⟨by decide +kernel, by decide +kernel⟩, List.mem_of_getElem? (i := 149) (by decide +kernel), List.mem_of_getElem? (i := 407) (by decide +kernel), List.mem_of_getElem? (i := 408) (by decide +kernel)⟩
def lw_privs_1 : List (MethodName × Nat) := [(⟨"MeterDesk$Layout", "forget", "()V"⟩, 16), (⟨"MeterDesk$Layout", "readInstructions", "()Z"⟩, 16), (⟨"MeterDesk$Source", "wideLength", "(I)I"⟩, 4), (⟨"MeterDesk$Source", "switchLength", "(II)I"⟩, 4), (⟨"MeterDesk$Layout", "readGoals", "()Z"⟩, 16), (⟨"MeterDesk$Layout", "readWordGoals", "(II)Z"⟩, 16), (⟨"MeterDesk$Layout", "beginBlock", "(I)Z"⟩, 16), (⟨"MeterDesk$Layout", "readHandlers", "()Z"⟩, 16), (⟨"MeterDesk$Layout", "sumBlocks", "()V"⟩, 16), (⟨"MeterDesk$Layout", "measureLeads", "()V"⟩, 16), (⟨"MeterDesk$Layout", "settle", "()V"⟩, 16), (⟨"MeterDesk$Layout", "givePlaces", "()V"⟩, 16), (⟨"MeterDesk$Layout", "lengthAtSpot", "(I)I"⟩, 16), (⟨"MeterDesk$Layout", "stretchJumps", "()Z"⟩, 16), (⟨"MeterDesk$Output", "writeLead", "(I)V"⟩, 9), (⟨"MeterDesk$Output", "putCall", "(I)V"⟩, 9)]
theorem lw_r1 : ∀ q ∈ lw_privs_1, lw_okq q := List.forall_mem_cons.mpr ⟨lw_p0, List.forall_mem_cons.mpr ⟨lw_p1, List.forall_mem_cons.mpr ⟨lw_p2, List.forall_mem_cons.mpr ⟨lw_p3, List.forall_mem_cons.mpr ⟨lw_p4, List.forall_mem_cons.mpr ⟨lw_p5, List.forall_mem_cons.mpr ⟨lw_p6, List.forall_mem_cons.mpr ⟨lw_p7, List.forall_mem_cons.mpr ⟨lw_p8, List.forall_mem_cons.mpr ⟨lw_p9, List.forall_mem_cons.mpr ⟨lw_p10, List.forall_mem_cons.mpr ⟨lw_p11, List.forall_mem_cons.mpr ⟨lw_p12, List.forall_mem_cons.mpr ⟨lw_p13, List.forall_mem_cons.mpr ⟨lw_p14, List.forall_mem_cons.mpr ⟨lw_p15, fun _ h => absurd h List.not_mem_nil⟩⟩⟩⟩⟩⟩⟩⟩⟩⟩⟩⟩⟩⟩⟩⟩
theorem lw_p16 : lw_okq (⟨"MeterDesk$Output", "put1", "(I)V"⟩, 9) := ⟨⟨by decide +kernel, by decide +kernel⟩, List.mem_of_getElem? (i := 149) (by decide +kernel), List.mem_of_getElem? (i := 411) (by decide +kernel), List.mem_of_getElem? (i := 412) (by decide +kernel)⟩
theorem lw_p17 : lw_okq (⟨"MeterDesk$Output", "put2", "(I)V"⟩, 9) := ⟨⟨by decide +kernel, by decide +kernel⟩, List.mem_of_getElem? (i := 149) (by decide +kernel), List.mem_of_getElem? (i := 415) (by decide +kernel), List.mem_of_getElem? (i := 416) (by decide +kernel)⟩
theorem lw_p18 : lw_okq (⟨"MeterDesk$Output", "putDuplicate", "()V"⟩, 9) := ⟨⟨by decide +kernel, by decide +kernel⟩, List.mem_of_getElem? (i := 149) (by decide +kernel), List.mem_of_getElem? (i := 419) (by decide +kernel), List.mem_of_getElem? (i := 420) (by decide +kernel)⟩
theorem lw_p19 : lw_okq (⟨"MeterDesk$Output", "putCost", "(I)V"⟩, 9) := ⟨⟨by decide +kernel, by decide +kernel⟩, List.mem_of_getElem? (i := 149) (by decide +kernel), List.mem_of_getElem? (i := 423) (by decide +kernel), List.mem_of_getElem? (i := 424) (by decide +kernel)⟩
theorem lw_p20 : lw_okq (⟨"MeterDesk$Output", "writeInstruction", "(I)V"⟩, 9) := ⟨⟨by decide +kernel, by decide +kernel⟩, List.mem_of_getElem? (i := 149) (by decide +kernel), List.mem_of_getElem? (i := 429) (by decide +kernel), List.mem_of_getElem? (i := 430) (by decide +kernel)⟩
theorem lw_p21 : lw_okq (⟨"MeterDesk$Output", "writeSwitch", "(II)V"⟩, 9) := ⟨⟨by decide +kernel, by decide +kernel⟩, List.mem_of_getElem? (i := 149) (by decide +kernel), List.mem_of_getElem? (i := 434) (by decide +kernel), List.mem_of_getElem? (i := 435) (by decide +kernel)⟩
theorem lw_p22 : lw_okq (⟨"MeterDesk$Output", "put4", "(I)V"⟩, 9) := ⟨⟨by decide +kernel, by decide +kernel⟩, List.mem_of_getElem? (i := 149) (by decide +kernel), List.mem_of_getElem? (i := 442) (by decide +kernel), List.mem_of_getElem? (i := 443) (by decide +kernel)⟩
theorem lw_p23 : lw_okq (⟨"MeterDesk$Output", "writeFarJump", "(II)V"⟩, 9) := ⟨⟨by decide +kernel, by decide +kernel⟩, List.mem_of_getElem? (i := 149) (by decide +kernel), List.mem_of_getElem? (i := 447) (by decide +kernel), List.mem_of_getElem? (i := 448) (by decide +kernel)⟩
theorem lw_p24 : lw_okq (⟨"MeterDesk$Output", "writeGuards", "()V"⟩, 9) := ⟨⟨by decide +kernel, by decide +kernel⟩, List.mem_of_getElem? (i := 149) (by decide +kernel), List.mem_of_getElem? (i := 456) (by decide +kernel), List.mem_of_getElem? (i := 457) (by decide +kernel)⟩
theorem lw_p25 : lw_okq (⟨"MeterDeskModel", "isFormed", "()Z"⟩, 36) := ⟨⟨by decide +kernel, by decide +kernel⟩, List.mem_of_getElem? (i := 486) (by decide +kernel), List.mem_of_getElem? (i := 638) (by decide +kernel), List.mem_of_getElem? (i := 639) (by decide +kernel)⟩
theorem lw_p26 : lw_okq (⟨"MeterDeskModel", "length", "(I)I"⟩, 36) := ⟨⟨by decide +kernel, by decide +kernel⟩, List.mem_of_getElem? (i := 486) (by decide +kernel), List.mem_of_getElem? (i := 642) (by decide +kernel), List.mem_of_getElem? (i := 643) (by decide +kernel)⟩
theorem lw_p27 : lw_okq (⟨"MeterDeskModel", "s4", "(I)I"⟩, 36) := ⟨⟨by decide +kernel, by decide +kernel⟩, List.mem_of_getElem? (i := 486) (by decide +kernel), List.mem_of_getElem? (i := 652) (by decide +kernel), List.mem_of_getElem? (i := 653) (by decide +kernel)⟩
theorem lw_p28 : lw_okq (⟨"MeterDeskModel", "goals", "(I)I"⟩, 36) := ⟨⟨by decide +kernel, by decide +kernel⟩, List.mem_of_getElem? (i := 486) (by decide +kernel), List.mem_of_getElem? (i := 657) (by decide +kernel), List.mem_of_getElem? (i := 658) (by decide +kernel)⟩
theorem lw_p29 : lw_okq (⟨"MeterDeskModel", "goal", "(II)I"⟩, 36) := ⟨⟨by decide +kernel, by decide +kernel⟩, List.mem_of_getElem? (i := 486) (by decide +kernel), List.mem_of_getElem? (i := 664) (by decide +kernel), List.mem_of_getElem? (i := 665) (by decide +kernel)⟩
theorem lw_p30 : lw_okq (⟨"MeterDeskModel", "placeOfGoal", "(II)I"⟩, 36) := ⟨⟨by decide +kernel, by decide +kernel⟩, List.mem_of_getElem? (i := 486) (by decide +kernel), List.mem_of_getElem? (i := 668) (by decide +kernel), List.mem_of_getElem? (i := 669) (by decide +kernel)⟩
theorem lw_p31 : lw_okq (⟨"MeterDeskModel", "begins", "(I)Z"⟩, 36) := ⟨⟨by decide +kernel, by decide +kernel⟩, List.mem_of_getElem? (i := 486) (by decide +kernel), List.mem_of_getElem? (i := 672) (by decide +kernel), List.mem_of_getElem? (i := 673) (by decide +kernel)⟩
def lw_privs_2 : List (MethodName × Nat) := [(⟨"MeterDesk$Output", "put1", "(I)V"⟩, 9), (⟨"MeterDesk$Output", "put2", "(I)V"⟩, 9), (⟨"MeterDesk$Output", "putDuplicate", "()V"⟩, 9), (⟨"MeterDesk$Output", "putCost", "(I)V"⟩, 9), (⟨"MeterDesk$Output", "writeInstruction", "(I)V"⟩, 9), (⟨"MeterDesk$Output", "writeSwitch", "(II)V"⟩, 9), (⟨"MeterDesk$Output", "put4", "(I)V"⟩, 9), (⟨"MeterDesk$Output", "writeFarJump", "(II)V"⟩, 9), (⟨"MeterDesk$Output", "writeGuards", "()V"⟩, 9), (⟨"MeterDeskModel", "isFormed", "()Z"⟩, 36), (⟨"MeterDeskModel", "length", "(I)I"⟩, 36), (⟨"MeterDeskModel", "s4", "(I)I"⟩, 36), (⟨"MeterDeskModel", "goals", "(I)I"⟩, 36), (⟨"MeterDeskModel", "goal", "(II)I"⟩, 36), (⟨"MeterDeskModel", "placeOfGoal", "(II)I"⟩, 36), (⟨"MeterDeskModel", "begins", "(I)Z"⟩, 36)]
theorem lw_r2 : ∀ q ∈ lw_privs_2, lw_okq q := List.forall_mem_cons.mpr ⟨lw_p16, List.forall_mem_cons.mpr ⟨lw_p17, List.forall_mem_cons.mpr ⟨lw_p18, List.forall_mem_cons.mpr ⟨lw_p19, List.forall_mem_cons.mpr ⟨lw_p20, List.forall_mem_cons.mpr ⟨lw_p21, List.forall_mem_cons.mpr ⟨lw_p22, List.forall_mem_cons.mpr ⟨lw_p23, List.forall_mem_cons.mpr ⟨lw_p24, List.forall_mem_cons.mpr ⟨lw_p25, List.forall_mem_cons.mpr ⟨lw_p26, List.forall_mem_cons.mpr ⟨lw_p27, List.forall_mem_cons.mpr ⟨lw_p28, List.forall_mem_cons.mpr ⟨lw_p29, List.forall_mem_cons.mpr ⟨lw_p30, List.forall_mem_cons.mpr ⟨lw_p31, fun _ h => absurd h List.not_mem_nil⟩⟩⟩⟩⟩⟩⟩⟩⟩⟩⟩⟩⟩⟩⟩⟩
theorem lw_p32 : lw_okq (⟨"MeterDeskModel", "findBlocks", "()V"⟩, 36) := ⟨⟨by decide +kernel, by decide +kernel⟩, List.mem_of_getElem? (i := 486) (by decide +kernel), List.mem_of_getElem? (i := 676) (by decide +kernel), List.mem_of_getElem? (i := 677) (by decide +kernel)⟩
theorem lw_p33 : lw_okq (⟨"MeterDeskModel", "layOut", "()V"⟩, 36) := ⟨⟨by decide +kernel, by decide +kernel⟩, List.mem_of_getElem? (i := 486) (by decide +kernel), List.mem_of_getElem? (i := 683) (by decide +kernel), List.mem_of_getElem? (i := 684) (by decide +kernel)⟩
theorem lw_p34 : lw_okq (⟨"MeterDeskModel", "looks", "(I)Z"⟩, 36) := ⟨⟨by decide +kernel, by decide +kernel⟩, List.mem_of_getElem? (i := 486) (by decide +kernel), List.mem_of_getElem? (i := 687) (by decide +kernel), List.mem_of_getElem? (i := 688) (by decide +kernel)⟩
theorem lw_p35 : lw_okq (⟨"MeterDeskModel", "opcodeAt", "(I)I"⟩, 36) := ⟨⟨by decide +kernel, by decide +kernel⟩, List.mem_of_getElem? (i := 486) (by decide +kernel), List.mem_of_getElem? (i := 694) (by decide +kernel), List.mem_of_getElem? (i := 695) (by decide +kernel)⟩
theorem lw_p36 : lw_okq (⟨"MeterDeskModel", "front", "(I)I"⟩, 36) := ⟨⟨by decide +kernel, by decide +kernel⟩, List.mem_of_getElem? (i := 486) (by decide +kernel), List.mem_of_getElem? (i := 698) (by decide +kernel), List.mem_of_getElem? (i := 699) (by decide +kernel)⟩
theorem lw_p37 : lw_okq (⟨"MeterDeskModel", "write", "()V"⟩, 36) := ⟨⟨by decide +kernel, by decide +kernel⟩, List.mem_of_getElem? (i := 486) (by decide +kernel), List.mem_of_getElem? (i := 702) (by decide +kernel), List.mem_of_getElem? (i := 703) (by decide +kernel)⟩
theorem lw_p38 : lw_okq (⟨"MeterDeskModel", "call", "(I)V"⟩, 36) := ⟨⟨by decide +kernel, by decide +kernel⟩, List.mem_of_getElem? (i := 486) (by decide +kernel), List.mem_of_getElem? (i := 706) (by decide +kernel), List.mem_of_getElem? (i := 707) (by decide +kernel)⟩
theorem lw_p39 : lw_okq (⟨"MeterDeskModel", "put", "(II)V"⟩, 36) := ⟨⟨by decide +kernel, by decide +kernel⟩, List.mem_of_getElem? (i := 486) (by decide +kernel), List.mem_of_getElem? (i := 710) (by decide +kernel), List.mem_of_getElem? (i := 711) (by decide +kernel)⟩
theorem lw_p40 : lw_okq (⟨"MeterDeskModel", "twice", "(I)V"⟩, 36) := ⟨⟨by decide +kernel, by decide +kernel⟩, List.mem_of_getElem? (i := 486) (by decide +kernel), List.mem_of_getElem? (i := 714) (by decide +kernel), List.mem_of_getElem? (i := 715) (by decide +kernel)⟩
theorem lw_p41 : lw_okq (⟨"MeterDeskModel", "instruction", "(II)V"⟩, 36) := ⟨⟨by decide +kernel, by decide +kernel⟩, List.mem_of_getElem? (i := 486) (by decide +kernel), List.mem_of_getElem? (i := 718) (by decide +kernel), List.mem_of_getElem? (i := 719) (by decide +kernel)⟩
theorem lw_p42 : lw_okq (⟨"MeterDeskModel", "table", "(IIII)V"⟩, 36) := ⟨⟨by decide +kernel, by decide +kernel⟩, List.mem_of_getElem? (i := 486) (by decide +kernel), List.mem_of_getElem? (i := 722) (by decide +kernel), List.mem_of_getElem? (i := 723) (by decide +kernel)⟩
def lw_privs_3 : List (MethodName × Nat) := [(⟨"MeterDeskModel", "findBlocks", "()V"⟩, 36), (⟨"MeterDeskModel", "layOut", "()V"⟩, 36), (⟨"MeterDeskModel", "looks", "(I)Z"⟩, 36), (⟨"MeterDeskModel", "opcodeAt", "(I)I"⟩, 36), (⟨"MeterDeskModel", "front", "(I)I"⟩, 36), (⟨"MeterDeskModel", "write", "()V"⟩, 36), (⟨"MeterDeskModel", "call", "(I)V"⟩, 36), (⟨"MeterDeskModel", "put", "(II)V"⟩, 36), (⟨"MeterDeskModel", "twice", "(I)V"⟩, 36), (⟨"MeterDeskModel", "instruction", "(II)V"⟩, 36), (⟨"MeterDeskModel", "table", "(IIII)V"⟩, 36)]
theorem lw_r3 : ∀ q ∈ lw_privs_3, lw_okq q := List.forall_mem_cons.mpr ⟨lw_p32, List.forall_mem_cons.mpr ⟨lw_p33, List.forall_mem_cons.mpr ⟨lw_p34, List.forall_mem_cons.mpr ⟨lw_p35, List.forall_mem_cons.mpr ⟨lw_p36, List.forall_mem_cons.mpr ⟨lw_p37, List.forall_mem_cons.mpr ⟨lw_p38, List.forall_mem_cons.mpr ⟨lw_p39, List.forall_mem_cons.mpr ⟨lw_p40, List.forall_mem_cons.mpr ⟨lw_p41, List.forall_mem_cons.mpr ⟨lw_p42, fun _ h => absurd h List.not_mem_nil⟩⟩⟩⟩⟩⟩⟩⟩⟩⟩⟩
def lw_privs : List (MethodName × Nat) := lw_privs_1 ++ (lw_privs_2 ++ (lw_privs_3))
def lw_tbl : List Cond := k2_sels lw_privs ++ tables_1
theorem lw_privs_ok : ∀ q ∈ lw_privs, lw_okq q := by
  show ∀ q ∈ lw_privs_1 ++ (lw_privs_2 ++ (lw_privs_3)), lw_okq q
  exact List.forall_mem_append.mpr ⟨lw_r1, List.forall_mem_append.mpr ⟨lw_r2, lw_r3⟩⟩
def tb : List Cond := lw_tbl.filter goodWord
theorem tb_of {i : Nat} {w : Cond} (h : lw_tbl[i]? = some w) (g : goodWord w = true) : w ∈ tb := List.mem_filter.mpr ⟨List.mem_of_getElem? h, g⟩
def R_Desk : String := "MeterDesk"
def T_Desk : u_T := fun k => match k with
  | 0 => ("MeterDesk", "source", "LMeterDesk$Source;", true)
  | 1 => ("MeterDesk", "tariff", "LMeterDesk$Tariff;", true)
  | 2 => ("MeterDesk", "layout", "LMeterDesk$Layout;", true)
  | 3 => ("MeterDesk", "output", "LMeterDesk$Output;", true)
  | _ => ("MeterDesk", "timesRewritten", "I", false)
def t_Desk : Nat → FieldType := fun k => match k with
  | 0 => .object "MeterDesk$Source"
  | 1 => .object "MeterDesk$Tariff"
  | 2 => .object "MeterDesk$Layout"
  | 3 => .object "MeterDesk$Output"
  | _ => .int
theorem no_Desk : ∀ a, a < 5 → ∀ b, b < 5 → a ≠ b → (T_Desk a).2.1 ≠ (T_Desk b).2.1 := by decide +kernel
theorem to_Desk : ∀ k, k < 5 → parseFieldDescriptor (T_Desk k).2.2.1 = some (t_Desk k) := by decide +kernel
theorem in_Desk : ∀ w ∈ u_ws R_Desk T_Desk 5, w ∈ tb := by decide +kernel
def R_Source : String := "MeterDesk$Source"
def T_Source : u_T := fun k => match k with
  | 0 => ("MeterDesk$Source", "octets", "[I", true)
  | 1 => ("MeterDesk$Source", "handlerParts", "[I", true)
  | 2 => ("MeterDesk$Source", "size", "I", false)
  | _ => ("MeterDesk$Source", "handlers", "I", false)
def t_Source : Nat → FieldType := fun k => match k with
  | 0 => .array .int
  | 1 => .array .int
  | 2 => .int
  | _ => .int
theorem no_Source : ∀ a, a < 4 → ∀ b, b < 4 → a ≠ b → (T_Source a).2.1 ≠ (T_Source b).2.1 := by decide +kernel
theorem to_Source : ∀ k, k < 4 → parseFieldDescriptor (T_Source k).2.2.1 = some (t_Source k) := by decide +kernel
theorem in_Source : ∀ w ∈ u_ws R_Source T_Source 4, w ∈ tb := by decide +kernel
def R_Tariff : String := "MeterDesk$Tariff"
def T_Tariff : u_T := fun k => match k with
  | 0 => ("MeterDesk$Tariff", "costs", "[I", true)
  | 1 => ("MeterDesk$Tariff", "marked", "[Z", true)
  | 2 => ("MeterDesk$Tariff", "base", "I", false)
  | _ => ("MeterDesk$Tariff", "reach", "I", false)
def t_Tariff : Nat → FieldType := fun k => match k with
  | 0 => .array .int
  | 1 => .array .boolean
  | 2 => .int
  | _ => .int
theorem no_Tariff : ∀ a, a < 4 → ∀ b, b < 4 → a ≠ b → (T_Tariff a).2.1 ≠ (T_Tariff b).2.1 := by decide +kernel
theorem to_Tariff : ∀ k, k < 4 → parseFieldDescriptor (T_Tariff k).2.2.1 = some (t_Tariff k) := by decide +kernel
theorem in_Tariff : ∀ w ∈ u_ws R_Tariff T_Tariff 4, w ∈ tb := by decide +kernel
def R_Layout : String := "MeterDesk$Layout"
def T_Layout : u_T := fun k => match k with
  | 0 => ("MeterDesk$Layout", "source", "LMeterDesk$Source;", true)
  | 1 => ("MeterDesk$Layout", "tariff", "LMeterDesk$Tariff;", true)
  | 2 => ("MeterDesk$Layout", "places", "[I", true)
  | 3 => ("MeterDesk$Layout", "length", "[I", true)
  | 4 => ("MeterDesk$Layout", "newLength", "[I", true)
  | 5 => ("MeterDesk$Layout", "blockCost", "[I", true)
  | 6 => ("MeterDesk$Layout", "looks", "[Z", true)
  | 7 => ("MeterDesk$Layout", "lead", "[I", true)
  | 8 => ("MeterDesk$Layout", "front", "[I", true)
  | 9 => ("MeterDesk$Layout", "spot", "[I", true)
  | 10 => ("MeterDesk$Layout", "far", "[Z", true)
  | 11 => ("MeterDesk$Layout", "instructions", "I", false)
  | 12 => ("MeterDesk$Layout", "blocks", "I", false)
  | 13 => ("MeterDesk$Layout", "rounds", "I", false)
  | 14 => ("MeterDesk$Layout", "stretched", "I", false)
  | _ => ("MeterDesk$Layout", "costSum", "I", false)
def t_Layout : Nat → FieldType := fun k => match k with
  | 0 => .object "MeterDesk$Source"
  | 1 => .object "MeterDesk$Tariff"
  | 2 => .array .int
  | 3 => .array .int
  | 4 => .array .int
  | 5 => .array .int
  | 6 => .array .boolean
  | 7 => .array .int
  | 8 => .array .int
  | 9 => .array .int
  | 10 => .array .boolean
  | 11 => .int
  | 12 => .int
  | 13 => .int
  | 14 => .int
  | _ => .int
theorem no_Layout : ∀ a, a < 16 → ∀ b, b < 16 → a ≠ b → (T_Layout a).2.1 ≠ (T_Layout b).2.1 := by decide +kernel
theorem to_Layout : ∀ k, k < 16 → parseFieldDescriptor (T_Layout k).2.2.1 = some (t_Layout k) := by decide +kernel
theorem in_Layout : ∀ w ∈ u_ws R_Layout T_Layout 16, w ∈ tb := by decide +kernel
def R_Output : String := "MeterDesk$Output"
def T_Output : u_T := fun k => match k with
  | 0 => ("MeterDesk$Output", "source", "LMeterDesk$Source;", true)
  | 1 => ("MeterDesk$Output", "tariff", "LMeterDesk$Tariff;", true)
  | 2 => ("MeterDesk$Output", "layout", "LMeterDesk$Layout;", true)
  | 3 => ("MeterDesk$Output", "octets", "[I", true)
  | 4 => ("MeterDesk$Output", "guardParts", "[I", true)
  | 5 => ("MeterDesk$Output", "size", "I", false)
  | 6 => ("MeterDesk$Output", "guards", "I", false)
  | 7 => ("MeterDesk$Output", "calls", "I", false)
  | _ => ("MeterDesk$Output", "pushes", "I", false)
def t_Output : Nat → FieldType := fun k => match k with
  | 0 => .object "MeterDesk$Source"
  | 1 => .object "MeterDesk$Tariff"
  | 2 => .object "MeterDesk$Layout"
  | 3 => .array .int
  | 4 => .array .int
  | 5 => .int
  | 6 => .int
  | 7 => .int
  | _ => .int
theorem no_Output : ∀ a, a < 9 → ∀ b, b < 9 → a ≠ b → (T_Output a).2.1 ≠ (T_Output b).2.1 := by decide +kernel
theorem to_Output : ∀ k, k < 9 → parseFieldDescriptor (T_Output k).2.2.1 = some (t_Output k) := by decide +kernel
theorem in_Output : ∀ w ∈ u_ws R_Output T_Output 9, w ∈ tb := by decide +kernel
def R_Model : String := "MeterDeskModel"
def T_Model : u_T := fun k => match k with
  | 0 => ("MeterDeskModel", "code", "[I", true)
  | 1 => ("MeterDeskModel", "from", "[I", true)
  | 2 => ("MeterDeskModel", "to", "[I", true)
  | 3 => ("MeterDeskModel", "at", "[I", true)
  | 4 => ("MeterDeskModel", "caught", "[I", true)
  | 5 => ("MeterDeskModel", "costs", "[I", true)
  | 6 => ("MeterDeskModel", "marked", "[Z", true)
  | 7 => ("MeterDeskModel", "size", "I", false)
  | 8 => ("MeterDeskModel", "handlers", "I", false)
  | 9 => ("MeterDeskModel", "base", "I", false)
  | 10 => ("MeterDeskModel", "reach", "I", false)
  | 11 => ("MeterDeskModel", "times", "I", false)
  | 12 => ("MeterDeskModel", "starts", "[Z", true)
  | 13 => ("MeterDeskModel", "far", "[Z", true)
  | 14 => ("MeterDeskModel", "old", "[I", true)
  | 15 => ("MeterDeskModel", "place", "[I", true)
  | 16 => ("MeterDeskModel", "prefix", "[I", true)
  | 17 => ("MeterDeskModel", "long1", "[I", true)
  | 18 => ("MeterDeskModel", "block", "[I", true)
  | 19 => ("MeterDeskModel", "out", "[I", true)
  | 20 => ("MeterDeskModel", "newFrom", "[I", true)
  | 21 => ("MeterDeskModel", "newTo", "[I", true)
  | 22 => ("MeterDeskModel", "newAt", "[I", true)
  | 23 => ("MeterDeskModel", "newCaught", "[I", true)
  | 24 => ("MeterDeskModel", "olds", "I", false)
  | 25 => ("MeterDeskModel", "all", "I", false)
  | 26 => ("MeterDeskModel", "guards", "I", false)
  | 27 => ("MeterDeskModel", "rounds", "I", false)
  | 28 => ("MeterDeskModel", "instructions", "I", false)
  | 29 => ("MeterDeskModel", "blocks", "I", false)
  | 30 => ("MeterDeskModel", "fars", "I", false)
  | 31 => ("MeterDeskModel", "sum", "I", false)
  | 32 => ("MeterDeskModel", "calls", "I", false)
  | 33 => ("MeterDeskModel", "pushes", "I", false)
  | 34 => ("MeterDeskModel", "written", "I", false)
  | _ => ("MeterDeskModel", "good", "Z", false)
def t_Model : Nat → FieldType := fun k => match k with
  | 0 => .array .int
  | 1 => .array .int
  | 2 => .array .int
  | 3 => .array .int
  | 4 => .array .int
  | 5 => .array .int
  | 6 => .array .boolean
  | 7 => .int
  | 8 => .int
  | 9 => .int
  | 10 => .int
  | 11 => .int
  | 12 => .array .boolean
  | 13 => .array .boolean
  | 14 => .array .int
  | 15 => .array .int
  | 16 => .array .int
  | 17 => .array .int
  | 18 => .array .int
  | 19 => .array .int
  | 20 => .array .int
  | 21 => .array .int
  | 22 => .array .int
  | 23 => .array .int
  | 24 => .int
  | 25 => .int
  | 26 => .int
  | 27 => .int
  | 28 => .int
  | 29 => .int
  | 30 => .int
  | 31 => .int
  | 32 => .int
  | 33 => .int
  | 34 => .int
  | _ => .boolean
theorem no_Model : ∀ a, a < 36 → ∀ b, b < 36 → a ≠ b → (T_Model a).2.1 ≠ (T_Model b).2.1 := by decide +kernel
theorem to_Model : ∀ k, k < 36 → parseFieldDescriptor (T_Model k).2.2.1 = some (t_Model k) := by decide +kernel
theorem in_Model : ∀ w ∈ u_ws R_Model T_Model 36, w ∈ tb := by decide +kernel
def R_Opcodes : String := "MeterDesk$Opcodes"
def R_Arrays : String := "java/util/Arrays"
abbrev vwCl : List vw_C := [(R_Desk, T_Desk, 5), (R_Source, T_Source, 4), (R_Tariff, T_Tariff, 4), (R_Layout, T_Layout, 16), (R_Output, T_Output, 9), (R_Model, T_Model, 36)]
def y_Desk_init : MethodName := ⟨"MeterDesk", "<init>", "()V"⟩
def w_Desk_init : List Cond := Cond.code y_Desk_init prog_1_method_1_code 4 (Option.none : Option Jvm.ClassFile.FieldType) :: tb
def y_Source_init : MethodName := ⟨"MeterDesk$Source", "<init>", "()V"⟩
def w_Source_init : List Cond := Cond.code y_Source_init prog_5_method_1_code 1 (Option.none : Option Jvm.ClassFile.FieldType) :: tb
def y_Tariff_init : MethodName := ⟨"MeterDesk$Tariff", "<init>", "()V"⟩
def w_Tariff_init : List Cond := Cond.code y_Tariff_init prog_6_method_1_code 1 (Option.none : Option Jvm.ClassFile.FieldType) :: tb
def y_Arrays_fill : MethodName := ⟨"java/util/Arrays", "fill", "([II)V"⟩
def w_Arrays_fill : List Cond := Cond.code y_Arrays_fill prog_9_method_103_code 4 (Option.none : Option Jvm.ClassFile.FieldType) :: tb
def y_Layout_init : MethodName := ⟨"MeterDesk$Layout", "<init>", "(LMeterDesk$Source;LMeterDesk$Tariff;)V"⟩
def w_Layout_init : List Cond := Cond.code y_Layout_init prog_2_method_1_code 3 (Option.none : Option Jvm.ClassFile.FieldType) :: tb
def y_Output_init : MethodName := ⟨"MeterDesk$Output", "<init>", "(LMeterDesk$Source;LMeterDesk$Tariff;LMeterDesk$Layout;)V"⟩
def w_Output_init : List Cond := Cond.code y_Output_init prog_4_method_1_code 4 (Option.none : Option Jvm.ClassFile.FieldType) :: tb
def y_Desk_code : MethodName := ⟨"MeterDesk", "code", "(JI)I"⟩
def w_Desk_code : List Cond := Cond.code y_Desk_code prog_1_method_2_code 5 (Option.some Jvm.ClassFile.FieldType.int) :: tb
def y_Source_append : MethodName := ⟨"MeterDesk$Source", "append", "(I)V"⟩
def w_Source_append : List Cond := Cond.code y_Source_append prog_5_method_2_code 2 (Option.none : Option Jvm.ClassFile.FieldType) :: tb
def y_Desk_change : MethodName := ⟨"MeterDesk", "change", "(II)I"⟩
def w_Desk_change : List Cond := Cond.code y_Desk_change prog_1_method_3_code 4 (Option.some Jvm.ClassFile.FieldType.int) :: tb
def y_Desk_isOctet : MethodName := ⟨"MeterDesk", "isOctet", "(I)Z"⟩
def w_Desk_isOctet : List Cond := Cond.code y_Desk_isOctet prog_1_method_16_code 1 (Option.some Jvm.ClassFile.FieldType.boolean) :: tb
def y_Desk_clear : MethodName := ⟨"MeterDesk", "clear", "()I"⟩
def w_Desk_clear : List Cond := Cond.code y_Desk_clear prog_1_method_4_code 2 (Option.some Jvm.ClassFile.FieldType.int) :: tb
def y_Desk_handler : MethodName := ⟨"MeterDesk", "handler", "(IIII)I"⟩
def w_Desk_handler : List Cond := Cond.code y_Desk_handler prog_1_method_5_code 5 (Option.some Jvm.ClassFile.FieldType.int) :: tb
def y_Desk_isPlace : MethodName := ⟨"MeterDesk", "isPlace", "(I)Z"⟩
def w_Desk_isPlace : List Cond := Cond.code y_Desk_isPlace prog_1_method_17_code 1 (Option.some Jvm.ClassFile.FieldType.boolean) :: tb
def y_Source_appendHandler : MethodName := ⟨"MeterDesk$Source", "appendHandler", "(IIII)V"⟩
def w_Source_appendHandler : List Cond := Cond.code y_Source_appendHandler prog_5_method_3_code 6 (Option.none : Option Jvm.ClassFile.FieldType) :: tb
def y_Desk_mark : MethodName := ⟨"MeterDesk", "mark", "(IZ)Z"⟩
def w_Desk_mark : List Cond := Cond.code y_Desk_mark prog_1_method_6_code 3 (Option.some Jvm.ClassFile.FieldType.boolean) :: tb
def y_Desk_cost : MethodName := ⟨"MeterDesk", "cost", "(II)I"⟩
def w_Desk_cost : List Cond := Cond.code y_Desk_cost prog_1_method_7_code 4 (Option.some Jvm.ClassFile.FieldType.int) :: tb
def y_Desk_set : MethodName := ⟨"MeterDesk", "set", "(II)Z"⟩
def w_Desk_set : List Cond := Cond.code y_Desk_set prog_1_method_8_code 3 (Option.some Jvm.ClassFile.FieldType.boolean) :: tb
def y_Desk_rewrite : MethodName := ⟨"MeterDesk", "rewrite", "()I"⟩
def w_Desk_rewrite : List Cond := Cond.code y_Desk_rewrite prog_1_method_9_code 2 (Option.some Jvm.ClassFile.FieldType.int) :: tb
def y_Output_forget : MethodName := ⟨"MeterDesk$Output", "forget", "()V"⟩
def w_Output_forget : List Cond := Cond.code y_Output_forget prog_4_method_2_code 1 (Option.none : Option Jvm.ClassFile.FieldType) :: tb
def y_Layout_make : MethodName := ⟨"MeterDesk$Layout", "make", "()I"⟩
def w_Layout_make : List Cond := Cond.code y_Layout_make prog_2_method_3_code 2 (Option.some Jvm.ClassFile.FieldType.int) :: tb
def y_Layout_forget : MethodName := ⟨"MeterDesk$Layout", "forget", "()V"⟩
def w_Layout_forget : List Cond := Cond.code y_Layout_forget prog_2_method_4_code 2 (Option.none : Option Jvm.ClassFile.FieldType) :: tb
def y_Layout_readInstructions : MethodName := ⟨"MeterDesk$Layout", "readInstructions", "()Z"⟩
def w_Layout_readInstructions : List Cond := Cond.code y_Layout_readInstructions prog_2_method_5_code 4 (Option.some Jvm.ClassFile.FieldType.boolean) :: tb
def y_Source_lengthAt : MethodName := ⟨"MeterDesk$Source", "lengthAt", "(I)I"⟩
def w_Source_lengthAt : List Cond := Cond.code y_Source_lengthAt prog_5_method_8_code 4 (Option.some Jvm.ClassFile.FieldType.int) :: tb
def y_Source_u1 : MethodName := ⟨"MeterDesk$Source", "u1", "(I)I"⟩
def w_Source_u1 : List Cond := Cond.code y_Source_u1 prog_5_method_5_code 2 (Option.some Jvm.ClassFile.FieldType.int) :: tb
def y_Opcodes_exists : MethodName := ⟨"MeterDesk$Opcodes", "exists", "(I)Z"⟩
def w_Opcodes_exists : List Cond := Cond.code y_Opcodes_exists prog_3_method_2_code 1 (Option.some Jvm.ClassFile.FieldType.boolean) :: tb
def y_Source_wideLength : MethodName := ⟨"MeterDesk$Source", "wideLength", "(I)I"⟩
def w_Source_wideLength : List Cond := Cond.code y_Source_wideLength prog_5_method_9_code 2 (Option.some Jvm.ClassFile.FieldType.int) :: tb
def y_Opcodes_isLocal : MethodName := ⟨"MeterDesk$Opcodes", "isLocal", "(I)Z"⟩
def w_Opcodes_isLocal : List Cond := Cond.code y_Opcodes_isLocal prog_3_method_8_code 1 (Option.some Jvm.ClassFile.FieldType.boolean) :: tb
def y_Opcodes_isSwitch : MethodName := ⟨"MeterDesk$Opcodes", "isSwitch", "(I)Z"⟩
def w_Opcodes_isSwitch : List Cond := Cond.code y_Opcodes_isSwitch prog_3_method_4_code 1 (Option.some Jvm.ClassFile.FieldType.boolean) :: tb
def y_Source_switchLength : MethodName := ⟨"MeterDesk$Source", "switchLength", "(II)I"⟩
def w_Source_switchLength : List Cond := Cond.code y_Source_switchLength prog_5_method_10_code 8 (Option.some Jvm.ClassFile.FieldType.int) :: tb
def y_Source_wordsFrom : MethodName := ⟨"MeterDesk$Source", "wordsFrom", "(I)I"⟩
def w_Source_wordsFrom : List Cond := Cond.code y_Source_wordsFrom prog_5_method_11_code 1 (Option.some Jvm.ClassFile.FieldType.int) :: tb
def y_Source_s4 : MethodName := ⟨"MeterDesk$Source", "s4", "(I)I"⟩
def w_Source_s4 : List Cond := Cond.code y_Source_s4 prog_5_method_7_code 2 (Option.some Jvm.ClassFile.FieldType.int) :: tb
def y_Opcodes_operands : MethodName := ⟨"MeterDesk$Opcodes", "operands", "(I)I"⟩
def w_Opcodes_operands : List Cond := Cond.code y_Opcodes_operands prog_3_method_9_code 1 (Option.some Jvm.ClassFile.FieldType.int) :: tb
def y_Opcodes_isShortJump : MethodName := ⟨"MeterDesk$Opcodes", "isShortJump", "(I)Z"⟩
def w_Opcodes_isShortJump : List Cond := Cond.code y_Opcodes_isShortJump prog_3_method_3_code 1 (Option.some Jvm.ClassFile.FieldType.boolean) :: tb
def y_Layout_readGoals : MethodName := ⟨"MeterDesk$Layout", "readGoals", "()Z"⟩
def w_Layout_readGoals : List Cond := Cond.code y_Layout_readGoals prog_2_method_6_code 5 (Option.some Jvm.ClassFile.FieldType.boolean) :: tb
def y_Layout_readWordGoals : MethodName := ⟨"MeterDesk$Layout", "readWordGoals", "(II)Z"⟩
def w_Layout_readWordGoals : List Cond := Cond.code y_Layout_readWordGoals prog_2_method_7_code 5 (Option.some Jvm.ClassFile.FieldType.boolean) :: tb
def y_Layout_wordsOf : MethodName := ⟨"MeterDesk$Layout", "wordsOf", "(I)I"⟩
def w_Layout_wordsOf : List Cond := Cond.code y_Layout_wordsOf prog_2_method_8_code 2 (Option.some Jvm.ClassFile.FieldType.int) :: tb
def y_Opcodes_isGoalWord : MethodName := ⟨"MeterDesk$Opcodes", "isGoalWord", "(II)Z"⟩
def w_Opcodes_isGoalWord : List Cond := Cond.code y_Opcodes_isGoalWord prog_3_method_11_code 2 (Option.some Jvm.ClassFile.FieldType.boolean) :: tb
def y_Source_wordGoal : MethodName := ⟨"MeterDesk$Source", "wordGoal", "(II)I"⟩
def w_Source_wordGoal : List Cond := Cond.code y_Source_wordGoal prog_5_method_13_code 3 (Option.some Jvm.ClassFile.FieldType.int) :: tb
def y_Layout_beginBlock : MethodName := ⟨"MeterDesk$Layout", "beginBlock", "(I)Z"⟩
def w_Layout_beginBlock : List Cond := Cond.code y_Layout_beginBlock prog_2_method_9_code 2 (Option.some Jvm.ClassFile.FieldType.boolean) :: tb
def y_Layout_begins : MethodName := ⟨"MeterDesk$Layout", "begins", "(I)Z"⟩
def w_Layout_begins : List Cond := Cond.code y_Layout_begins prog_2_method_2_code 2 (Option.some Jvm.ClassFile.FieldType.boolean) :: tb
def y_Source_jumpGoal : MethodName := ⟨"MeterDesk$Source", "jumpGoal", "(I)I"⟩
def w_Source_jumpGoal : List Cond := Cond.code y_Source_jumpGoal prog_5_method_12_code 2 (Option.some Jvm.ClassFile.FieldType.int) :: tb
def y_Source_s2 : MethodName := ⟨"MeterDesk$Source", "s2", "(I)I"⟩
def w_Source_s2 : List Cond := Cond.code y_Source_s2 prog_5_method_6_code 2 (Option.some Jvm.ClassFile.FieldType.int) :: tb
def y_Layout_readHandlers : MethodName := ⟨"MeterDesk$Layout", "readHandlers", "()Z"⟩
def w_Layout_readHandlers : List Cond := Cond.code y_Layout_readHandlers prog_2_method_10_code 6 (Option.some Jvm.ClassFile.FieldType.boolean) :: tb
def y_Source_part : MethodName := ⟨"MeterDesk$Source", "part", "(II)I"⟩
def w_Source_part : List Cond := Cond.code y_Source_part prog_5_method_4_code 3 (Option.some Jvm.ClassFile.FieldType.int) :: tb
def y_Tariff_isDangerous : MethodName := ⟨"MeterDesk$Tariff", "isDangerous", "(I)Z"⟩
def w_Tariff_isDangerous : List Cond := Cond.code y_Tariff_isDangerous prog_6_method_2_code 2 (Option.some Jvm.ClassFile.FieldType.boolean) :: tb
def y_Layout_sumBlocks : MethodName := ⟨"MeterDesk$Layout", "sumBlocks", "()V"⟩
def w_Layout_sumBlocks : List Cond := Cond.code y_Layout_sumBlocks prog_2_method_11_code 7 (Option.none : Option Jvm.ClassFile.FieldType) :: tb
def y_Opcodes_endsBlock : MethodName := ⟨"MeterDesk$Opcodes", "endsBlock", "(I)Z"⟩
def w_Opcodes_endsBlock : List Cond := Cond.code y_Opcodes_endsBlock prog_3_method_7_code 1 (Option.some Jvm.ClassFile.FieldType.boolean) :: tb
def y_Opcodes_isReturn : MethodName := ⟨"MeterDesk$Opcodes", "isReturn", "(I)Z"⟩
def w_Opcodes_isReturn : List Cond := Cond.code y_Opcodes_isReturn prog_3_method_5_code 1 (Option.some Jvm.ClassFile.FieldType.boolean) :: tb
def y_Layout_measureLeads : MethodName := ⟨"MeterDesk$Layout", "measureLeads", "()V"⟩
def w_Layout_measureLeads : List Cond := Cond.code y_Layout_measureLeads prog_2_method_12_code 4 (Option.none : Option Jvm.ClassFile.FieldType) :: tb
def y_Layout_pushLength : MethodName := ⟨"MeterDesk$Layout", "pushLength", "(I)I"⟩
def w_Layout_pushLength : List Cond := Cond.code y_Layout_pushLength prog_2_method_13_code 1 (Option.some Jvm.ClassFile.FieldType.int) :: tb
def y_Opcodes_makesArray : MethodName := ⟨"MeterDesk$Opcodes", "makesArray", "(I)Z"⟩
def w_Opcodes_makesArray : List Cond := Cond.code y_Opcodes_makesArray prog_3_method_6_code 1 (Option.some Jvm.ClassFile.FieldType.boolean) :: tb
def y_Layout_settle : MethodName := ⟨"MeterDesk$Layout", "settle", "()V"⟩
def w_Layout_settle : List Cond := Cond.code y_Layout_settle prog_2_method_14_code 2 (Option.none : Option Jvm.ClassFile.FieldType) :: tb
def y_Layout_givePlaces : MethodName := ⟨"MeterDesk$Layout", "givePlaces", "()V"⟩
def w_Layout_givePlaces : List Cond := Cond.code y_Layout_givePlaces prog_2_method_15_code 4 (Option.none : Option Jvm.ClassFile.FieldType) :: tb
def y_Layout_lengthAtSpot : MethodName := ⟨"MeterDesk$Layout", "lengthAtSpot", "(I)I"⟩
def w_Layout_lengthAtSpot : List Cond := Cond.code y_Layout_lengthAtSpot prog_2_method_16_code 3 (Option.some Jvm.ClassFile.FieldType.int) :: tb
def y_Layout_stretchJumps : MethodName := ⟨"MeterDesk$Layout", "stretchJumps", "()Z"⟩
def w_Layout_stretchJumps : List Cond := Cond.code y_Layout_stretchJumps prog_2_method_17_code 5 (Option.some Jvm.ClassFile.FieldType.boolean) :: tb
def y_Output_write : MethodName := ⟨"MeterDesk$Output", "write", "()V"⟩
def w_Output_write : List Cond := Cond.code y_Output_write prog_4_method_3_code 3 (Option.none : Option Jvm.ClassFile.FieldType) :: tb
def y_Output_writeLead : MethodName := ⟨"MeterDesk$Output", "writeLead", "(I)V"⟩
def w_Output_writeLead : List Cond := Cond.code y_Output_writeLead prog_4_method_4_code 3 (Option.none : Option Jvm.ClassFile.FieldType) :: tb
def y_Output_putCall : MethodName := ⟨"MeterDesk$Output", "putCall", "(I)V"⟩
def w_Output_putCall : List Cond := Cond.code y_Output_putCall prog_4_method_9_code 2 (Option.none : Option Jvm.ClassFile.FieldType) :: tb
def y_Output_put1 : MethodName := ⟨"MeterDesk$Output", "put1", "(I)V"⟩
def w_Output_put1 : List Cond := Cond.code y_Output_put1 prog_4_method_12_code 2 (Option.none : Option Jvm.ClassFile.FieldType) :: tb
def y_Output_put2 : MethodName := ⟨"MeterDesk$Output", "put2", "(I)V"⟩
def w_Output_put2 : List Cond := Cond.code y_Output_put2 prog_4_method_13_code 2 (Option.none : Option Jvm.ClassFile.FieldType) :: tb
def y_Output_putDuplicate : MethodName := ⟨"MeterDesk$Output", "putDuplicate", "()V"⟩
def w_Output_putDuplicate : List Cond := Cond.code y_Output_putDuplicate prog_4_method_10_code 1 (Option.none : Option Jvm.ClassFile.FieldType) :: tb
def y_Output_putCost : MethodName := ⟨"MeterDesk$Output", "putCost", "(I)V"⟩
def w_Output_putCost : List Cond := Cond.code y_Output_putCost prog_4_method_11_code 2 (Option.none : Option Jvm.ClassFile.FieldType) :: tb
def y_Output_writeInstruction : MethodName := ⟨"MeterDesk$Output", "writeInstruction", "(I)V"⟩
def w_Output_writeInstruction : List Cond := Cond.code y_Output_writeInstruction prog_4_method_5_code 4 (Option.none : Option Jvm.ClassFile.FieldType) :: tb
def y_Output_writeSwitch : MethodName := ⟨"MeterDesk$Output", "writeSwitch", "(II)V"⟩
def w_Output_writeSwitch : List Cond := Cond.code y_Output_writeSwitch prog_4_method_7_code 6 (Option.none : Option Jvm.ClassFile.FieldType) :: tb
def y_Output_put4 : MethodName := ⟨"MeterDesk$Output", "put4", "(I)V"⟩
def w_Output_put4 : List Cond := Cond.code y_Output_put4 prog_4_method_14_code 2 (Option.none : Option Jvm.ClassFile.FieldType) :: tb
def y_Output_writeFarJump : MethodName := ⟨"MeterDesk$Output", "writeFarJump", "(II)V"⟩
def w_Output_writeFarJump : List Cond := Cond.code y_Output_writeFarJump prog_4_method_6_code 4 (Option.none : Option Jvm.ClassFile.FieldType) :: tb
def y_Opcodes_opposite : MethodName := ⟨"MeterDesk$Opcodes", "opposite", "(I)I"⟩
def w_Opcodes_opposite : List Cond := Cond.code y_Opcodes_opposite prog_3_method_10_code 1 (Option.some Jvm.ClassFile.FieldType.int) :: tb
def y_Output_writeGuards : MethodName := ⟨"MeterDesk$Output", "writeGuards", "()V"⟩
def w_Output_writeGuards : List Cond := Cond.code y_Output_writeGuards prog_4_method_8_code 4 (Option.none : Option Jvm.ClassFile.FieldType) :: tb
def y_Desk_octet : MethodName := ⟨"MeterDesk", "octet", "(I)I"⟩
def w_Desk_octet : List Cond := Cond.code y_Desk_octet prog_1_method_10_code 2 (Option.some Jvm.ClassFile.FieldType.int) :: tb
def y_Desk_moved : MethodName := ⟨"MeterDesk", "moved", "(II)I"⟩
def w_Desk_moved : List Cond := Cond.code y_Desk_moved prog_1_method_11_code 3 (Option.some Jvm.ClassFile.FieldType.int) :: tb
def y_Desk_back : MethodName := ⟨"MeterDesk", "back", "(I)I"⟩
def w_Desk_back : List Cond := Cond.code y_Desk_back prog_1_method_12_code 4 (Option.some Jvm.ClassFile.FieldType.int) :: tb
def y_Desk_guard : MethodName := ⟨"MeterDesk", "guard", "(II)I"⟩
def w_Desk_guard : List Cond := Cond.code y_Desk_guard prog_1_method_13_code 3 (Option.some Jvm.ClassFile.FieldType.int) :: tb
def y_Desk_about : MethodName := ⟨"MeterDesk", "about", "(I)I"⟩
def w_Desk_about : List Cond := Cond.code y_Desk_about prog_1_method_14_code 2 (Option.some Jvm.ClassFile.FieldType.int) :: tb
def y_Desk_count : MethodName := ⟨"MeterDesk", "count", "(I)I"⟩
def w_Desk_count : List Cond := Cond.code y_Desk_count prog_1_method_15_code 2 (Option.some Jvm.ClassFile.FieldType.int) :: tb
def y_Model_init : MethodName := ⟨"MeterDeskModel", "<init>", "()V"⟩
def w_Model_init : List Cond := Cond.code y_Model_init prog_8_method_1_code 2 (Option.none : Option Jvm.ClassFile.FieldType) :: tb
def y_Model_code : MethodName := ⟨"MeterDeskModel", "code", "(JI)I"⟩
def w_Model_code : List Cond := Cond.code y_Model_code prog_8_method_3_code 5 (Option.some Jvm.ClassFile.FieldType.int) :: tb
def y_Model_in : MethodName := ⟨"MeterDeskModel", "in", "(III)Z"⟩
def w_Model_in : List Cond := Cond.code y_Model_in prog_8_method_2_code 3 (Option.some Jvm.ClassFile.FieldType.boolean) :: tb
def y_Model_change : MethodName := ⟨"MeterDeskModel", "change", "(II)I"⟩
def w_Model_change : List Cond := Cond.code y_Model_change prog_8_method_4_code 4 (Option.some Jvm.ClassFile.FieldType.int) :: tb
def y_Model_clear : MethodName := ⟨"MeterDeskModel", "clear", "()I"⟩
def w_Model_clear : List Cond := Cond.code y_Model_clear prog_8_method_5_code 2 (Option.some Jvm.ClassFile.FieldType.int) :: tb
def y_Model_handler : MethodName := ⟨"MeterDeskModel", "handler", "(IIII)I"⟩
def w_Model_handler : List Cond := Cond.code y_Model_handler prog_8_method_6_code 5 (Option.some Jvm.ClassFile.FieldType.int) :: tb
def y_Model_mark : MethodName := ⟨"MeterDeskModel", "mark", "(IZ)Z"⟩
def w_Model_mark : List Cond := Cond.code y_Model_mark prog_8_method_7_code 3 (Option.some Jvm.ClassFile.FieldType.boolean) :: tb
def y_Model_cost : MethodName := ⟨"MeterDeskModel", "cost", "(II)I"⟩
def w_Model_cost : List Cond := Cond.code y_Model_cost prog_8_method_8_code 4 (Option.some Jvm.ClassFile.FieldType.int) :: tb
def y_Model_set : MethodName := ⟨"MeterDeskModel", "set", "(II)Z"⟩
def w_Model_set : List Cond := Cond.code y_Model_set prog_8_method_9_code 3 (Option.some Jvm.ClassFile.FieldType.boolean) :: tb
def y_Model_rewrite : MethodName := ⟨"MeterDeskModel", "rewrite", "()I"⟩
def w_Model_rewrite : List Cond := Cond.code y_Model_rewrite prog_8_method_27_code 6 (Option.some Jvm.ClassFile.FieldType.int) :: tb
def y_Model_isFormed : MethodName := ⟨"MeterDeskModel", "isFormed", "()Z"⟩
def w_Model_isFormed : List Cond := Cond.code y_Model_isFormed prog_8_method_19_code 5 (Option.some Jvm.ClassFile.FieldType.boolean) :: tb
def y_Model_length : MethodName := ⟨"MeterDeskModel", "length", "(I)I"⟩
def w_Model_length : List Cond := Cond.code y_Model_length prog_8_method_14_code 7 (Option.some Jvm.ClassFile.FieldType.int) :: tb
def y_Model_plain : MethodName := ⟨"MeterDeskModel", "plain", "(I)I"⟩
def w_Model_plain : List Cond := Cond.code y_Model_plain prog_8_method_13_code 1 (Option.some Jvm.ClassFile.FieldType.int) :: tb
def y_Model_isTable : MethodName := ⟨"MeterDeskModel", "isTable", "(I)Z"⟩
def w_Model_isTable : List Cond := Cond.code y_Model_isTable prog_8_method_12_code 1 (Option.some Jvm.ClassFile.FieldType.boolean) :: tb
def y_Model_s4 : MethodName := ⟨"MeterDeskModel", "s4", "(I)I"⟩
def w_Model_s4 : List Cond := Cond.code y_Model_s4 prog_8_method_10_code 2 (Option.some Jvm.ClassFile.FieldType.int) :: tb
def y_Model_goals : MethodName := ⟨"MeterDeskModel", "goals", "(I)I"⟩
def w_Model_goals : List Cond := Cond.code y_Model_goals prog_8_method_15_code 4 (Option.some Jvm.ClassFile.FieldType.int) :: tb
def y_Model_isJump : MethodName := ⟨"MeterDeskModel", "isJump", "(I)Z"⟩
def w_Model_isJump : List Cond := Cond.code y_Model_isJump prog_8_method_11_code 1 (Option.some Jvm.ClassFile.FieldType.boolean) :: tb
def y_Model_goal : MethodName := ⟨"MeterDeskModel", "goal", "(II)I"⟩
def w_Model_goal : List Cond := Cond.code y_Model_goal prog_8_method_17_code 4 (Option.some Jvm.ClassFile.FieldType.int) :: tb
def y_Model_placeOfGoal : MethodName := ⟨"MeterDeskModel", "placeOfGoal", "(II)I"⟩
def w_Model_placeOfGoal : List Cond := Cond.code y_Model_placeOfGoal prog_8_method_16_code 5 (Option.some Jvm.ClassFile.FieldType.int) :: tb
def y_Model_begins : MethodName := ⟨"MeterDeskModel", "begins", "(I)Z"⟩
def w_Model_begins : List Cond := Cond.code y_Model_begins prog_8_method_18_code 2 (Option.some Jvm.ClassFile.FieldType.boolean) :: tb
def y_Model_findBlocks : MethodName := ⟨"MeterDeskModel", "findBlocks", "()V"⟩
def w_Model_findBlocks : List Cond := Cond.code y_Model_findBlocks prog_8_method_22_code 6 (Option.none : Option Jvm.ClassFile.FieldType) :: tb
def y_Model_ends : MethodName := ⟨"MeterDeskModel", "ends", "(I)Z"⟩
def w_Model_ends : List Cond := Cond.code y_Model_ends prog_8_method_21_code 1 (Option.some Jvm.ClassFile.FieldType.boolean) :: tb
def y_Model_layOut : MethodName := ⟨"MeterDeskModel", "layOut", "()V"⟩
def w_Model_layOut : List Cond := Cond.code y_Model_layOut prog_8_method_26_code 5 (Option.none : Option Jvm.ClassFile.FieldType) :: tb
def y_Model_looks : MethodName := ⟨"MeterDeskModel", "looks", "(I)Z"⟩
def w_Model_looks : List Cond := Cond.code y_Model_looks prog_8_method_20_code 3 (Option.some Jvm.ClassFile.FieldType.boolean) :: tb
def y_Model_weigh : MethodName := ⟨"MeterDeskModel", "weigh", "(I)I"⟩
def w_Model_weigh : List Cond := Cond.code y_Model_weigh prog_8_method_23_code 1 (Option.some Jvm.ClassFile.FieldType.int) :: tb
def y_Model_opcodeAt : MethodName := ⟨"MeterDeskModel", "opcodeAt", "(I)I"⟩
def w_Model_opcodeAt : List Cond := Cond.code y_Model_opcodeAt prog_8_method_25_code 2 (Option.some Jvm.ClassFile.FieldType.int) :: tb
def y_Model_front : MethodName := ⟨"MeterDeskModel", "front", "(I)I"⟩
def w_Model_front : List Cond := Cond.code y_Model_front prog_8_method_24_code 2 (Option.some Jvm.ClassFile.FieldType.int) :: tb
def y_Model_write : MethodName := ⟨"MeterDeskModel", "write", "()V"⟩
def w_Model_write : List Cond := Cond.code y_Model_write prog_8_method_31_code 4 (Option.none : Option Jvm.ClassFile.FieldType) :: tb
def y_Model_call : MethodName := ⟨"MeterDeskModel", "call", "(I)V"⟩
def w_Model_call : List Cond := Cond.code y_Model_call prog_8_method_29_code 2 (Option.none : Option Jvm.ClassFile.FieldType) :: tb
def y_Model_put : MethodName := ⟨"MeterDeskModel", "put", "(II)V"⟩
def w_Model_put : List Cond := Cond.code y_Model_put prog_8_method_28_code 4 (Option.none : Option Jvm.ClassFile.FieldType) :: tb
def y_Model_twice : MethodName := ⟨"MeterDeskModel", "twice", "(I)V"⟩
def w_Model_twice : List Cond := Cond.code y_Model_twice prog_8_method_30_code 2 (Option.none : Option Jvm.ClassFile.FieldType) :: tb
def y_Model_instruction : MethodName := ⟨"MeterDeskModel", "instruction", "(II)V"⟩
def w_Model_instruction : List Cond := Cond.code y_Model_instruction prog_8_method_33_code 7 (Option.none : Option Jvm.ClassFile.FieldType) :: tb
def y_Model_table : MethodName := ⟨"MeterDeskModel", "table", "(IIII)V"⟩
def w_Model_table : List Cond := Cond.code y_Model_table prog_8_method_34_code 9 (Option.none : Option Jvm.ClassFile.FieldType) :: tb
def y_Model_opposite : MethodName := ⟨"MeterDeskModel", "opposite", "(I)I"⟩
def w_Model_opposite : List Cond := Cond.code y_Model_opposite prog_8_method_32_code 1 (Option.some Jvm.ClassFile.FieldType.int) :: tb
def y_Model_octet : MethodName := ⟨"MeterDeskModel", "octet", "(I)I"⟩
def w_Model_octet : List Cond := Cond.code y_Model_octet prog_8_method_35_code 2 (Option.some Jvm.ClassFile.FieldType.int) :: tb
def y_Model_moved : MethodName := ⟨"MeterDeskModel", "moved", "(II)I"⟩
def w_Model_moved : List Cond := Cond.code y_Model_moved prog_8_method_36_code 3 (Option.some Jvm.ClassFile.FieldType.int) :: tb
def y_Model_back : MethodName := ⟨"MeterDeskModel", "back", "(I)I"⟩
def w_Model_back : List Cond := Cond.code y_Model_back prog_8_method_37_code 3 (Option.some Jvm.ClassFile.FieldType.int) :: tb
def y_Model_guard : MethodName := ⟨"MeterDeskModel", "guard", "(II)I"⟩
def w_Model_guard : List Cond := Cond.code y_Model_guard prog_8_method_38_code 3 (Option.some Jvm.ClassFile.FieldType.int) :: tb
def y_Model_about : MethodName := ⟨"MeterDeskModel", "about", "(I)I"⟩
def w_Model_about : List Cond := Cond.code y_Model_about prog_8_method_39_code 2 (Option.some Jvm.ClassFile.FieldType.int) :: tb
def y_Model_count : MethodName := ⟨"MeterDeskModel", "count", "(I)I"⟩
def w_Model_count : List Cond := Cond.code y_Model_count prog_8_method_40_code 2 (Option.some Jvm.ClassFile.FieldType.int) :: tb
end
section
/-! States, worlds, contracts by a weakest-precondition predicate: rows that hold for every world. -/
/-- a state: numbers by row and place -/
abbrev St : Type := Nat → Nat → Int32
def su (s : St) (r k : Nat) (x : Int32) : St := fun q => if q = r then upd (s r) k x else s q
/-- a loop's predicate, by the number of turns that are left -/
def itr {α : Type} (F : (α → Prop) → α → Prop) : Nat → α → Prop
  | 0, _ => False
  | n + 1, a => F (itr F n) a
theorem itr_ind {α : Type} (F : (α → Prop) → α → Prop) (I : α → Prop) (μ : α → Nat) (hs : ∀ (K : α → Prop) (a : α), I a → (∀ b, I b → μ b < μ a → K b) → F K a) : ∀ (n : Nat) (a : α), I a → μ a < n → itr F n a := by
  intro n
  induction n with
  | zero => intro a _ h; omega
  | succ n ih =>
    intro a ha h
    exact hs (itr F n) a ha (fun b hb hlt => ih b hb (by omega))
def preG (D : va_G) (cl : List vw_C) (tys : List (ClassId × FieldType)) {σ : Type} (w : σ → va_W) (sz : Nat) (u : σ) (U : State) : Prop := U.heap.size = sz ∧ va_P D cl (w u) U.heap ∧ va_K D cl tys U ∧ va_D (fun _ => True) (w u)
def atG (D : va_G) (cl : List vw_C) (tys : List (ClassId × FieldType)) {σ : Type} (w : σ → va_W) (A : Nat → Prop) (u : σ) (t : State) : Prop := va_P D cl (w u) t.heap ∧ va_K D cl tys t ∧ va_D A (w u)
def CtI (l : Launch) (y : MethodName) (ws : List Cond) (rm : Room) (D : va_G) (cl : List vw_C) (tys : List (ClassId × FieldType)) {σ : Type} (w : σ → va_W) (sz : Nat) (av : List Value) (u : σ) (Post : Int32 → σ → Prop) : Prop :=
  Met l y ws rm (va_Pc av (preG D cl tys w sz u)) (va_Qi Post (atG D cl tys w (va_A (w u) sz)) (va_A (w u) sz)) 0 0 (va_A (w u) sz)
def CtV (l : Launch) (y : MethodName) (ws : List Cond) (rm : Room) (D : va_G) (cl : List vw_C) (tys : List (ClassId × FieldType)) {σ : Type} (w : σ → va_W) (sz : Nat) (av : List Value) (u : σ) (Post : σ → Prop) : Prop :=
  Met l y ws rm (va_Pc av (preG D cl tys w sz u)) (va_Qv Post (atG D cl tys w (va_A (w u) sz)) (va_A (w u) sz)) 0 0 (va_A (w u) sz)
/-- the machine at pc, in any heap that holds the world of u -/
def Bk (D : va_G) (cl : List vw_C) {σ : Type} (w : σ → va_W) (A : Nat → Prop) (p : Program) (l : Launch) (e : Env) (R : Room) (s0 : State) (m : MethodId) (args : Array Value) (below : List Frame) (meth : Method) (c : Code) (Q : State → Prop) (nL pc : Nat) (u : σ) (lvl : List (Nat × Value)) (stk : List Value) : Prop :=
  ∀ (H : Heap) (locs : List Loc) (ls : Array Slot), va_P D cl (w u) H → va_D A (w u) → va_S A s0.heap H locs → lv_has ls nL lvl → W p l e R s0 m args below meth c H locs 0 0 Q (F0 m pc ls stk)
section KG
variable {p : Program} {l : Launch} {e : Env} {R : Room} {s0 : State} {m : MethodId} {args : Array Value} {below : List Frame} {meth : Method} {c : Code} {H : Heap} {locs : List Loc} {Q : State → Prop} {pc nL maxL n index sz : Nat} {ls : Array Slot} {lvl : List (Nat × Value)} {stk As rest av : List Value} {cc bytes : ByteArray} {own C : String} {Ts ws ws' : List Cond} {y : MethodName} {ret : Option FieldType} {rm : Room} {D : va_G} {cl : List vw_C} {tys : List (ClassId × FieldType)} {σ : Type} {w : σ → va_W} {A : Nat → Prop} {u : σ} {b : Nat}
theorem ct_i {Post : Int32 → σ → Prop} (hy : plainName y.cls = true) (hw : ws = Cond.code y cc maxL ret :: ws') (hn : (lg_sl av).length ≤ maxL)
    (body : ∀ (p : Program) (e : Env) (s0 : State) (m : MethodId) (args : Array Value) (below : List Frame) (meth : Method) (c : Code) (A : Nat → Prop), p.tables.exec = Jvm.exec → c.code = cc → meth.sig.returnType = ret → (∀ w ∈ ws', w.before args s0 = true) → s0.vm.findClass y.cls = some m.cls → meth.locks = false → c.maxLocals = maxL → va_K D cl tys s0 → (∀ q, s0.heap.size ≤ q → A q) →
      Bk D cl w A p l e rm s0 m args below meth c (MQ below (va_Qi Post (atG D cl tys w A) A) args s0 0 0 A) maxL 0 u (lv_args 0 av) []) : CtI l y ws rm D cl tys w sz av u Post := by
  refine Met.ofW (cc := cc) (maxL := maxL) (ret := ret) hy hw ?_
  intro p e s m args below meth c s₁ B hml hv
  obtain ⟨rfl, hsz, hP, hK, hD0⟩ := hv
  subst hsz
  rw [lg_entry_eq]
  exact body p e s m _ below meth c (va_A (w u) s.heap.size) B.exec B.bytes B.returns (fun w h => atoms_spec (ws := ws) B.pre w (by rw [hw]; exact List.mem_cons_of_mem _ h)) (findClass_of_methodNamed B.named) B.notSynchronized hml hK (fun q h => Or.inr h) s.heap [] _ hP (hD0.self (sz := s.heap.size)) va_S.rf (lv_entry av hn)
theorem ct_v {Post : σ → Prop} (hy : plainName y.cls = true) (hw : ws = Cond.code y cc maxL ret :: ws') (hn : (lg_sl av).length ≤ maxL)
    (body : ∀ (p : Program) (e : Env) (s0 : State) (m : MethodId) (args : Array Value) (below : List Frame) (meth : Method) (c : Code) (A : Nat → Prop), p.tables.exec = Jvm.exec → c.code = cc → meth.sig.returnType = ret → (∀ w ∈ ws', w.before args s0 = true) → s0.vm.findClass y.cls = some m.cls → meth.locks = false → c.maxLocals = maxL → va_K D cl tys s0 → (∀ q, s0.heap.size ≤ q → A q) →
      Bk D cl w A p l e rm s0 m args below meth c (MQ below (va_Qv Post (atG D cl tys w A) A) args s0 0 0 A) maxL 0 u (lv_args 0 av) []) : CtV l y ws rm D cl tys w sz av u Post := by
  refine Met.ofW (cc := cc) (maxL := maxL) (ret := ret) hy hw ?_
  intro p e s m args below meth c s₁ B hml hv
  obtain ⟨rfl, hsz, hP, hK, hD0⟩ := hv
  subst hsz
  rw [lg_entry_eq]
  exact body p e s m _ below meth c (va_A (w u) s.heap.size) B.exec B.bytes B.returns (fun w h => atoms_spec (ws := ws) B.pre w (by rw [hw]; exact List.mem_cons_of_mem _ h)) (findClass_of_methodNamed B.named) B.notSynchronized hml hK (fun q h => Or.inr h) s.heap [] _ hP (hD0.self (sz := s.heap.size)) va_S.rf (lv_entry av hn)
theorem rt_i {Post : Int32 → σ → Prop} {v : Int32} (hx : p.tables.exec = Jvm.exec) (hb : c.code = cc) (hr : meth.sig.returnType = some .int) (hlocks : meth.locks = false) (hK : va_K D cl tys s0) (hP : va_P D cl (w u) H) (hD : va_D A (w u)) (hS : va_S A s0.heap H locs) (hdg : decode cc pc = .ok (.ireturn, 1)) (hm : Post v u) :
    W p l e R s0 m args below meth c H locs 0 0 (MQ below (va_Qi Post (atG D cl tys w A) A) args s0 0 0 A) (F0 m pc ls [.int v]) :=
  W.iret (v := v) hx hb hr (fun t ht hW => ⟨⟨v, u, rfl, hm, by rw [ht]; exact hP, va_K.moved hW.alike hK, hD⟩, hS.F ht⟩) hS.2.2 hdg hlocks
theorem rt_z {Post : Int32 → σ → Prop} {v : Int32} {ty : FieldType} (hx : p.tables.exec = Jvm.exec) (hb : c.code = cc) (hr : meth.sig.returnType = some ty) (hn : narrow ty (.int v) = .int v) (hlocks : meth.locks = false) (hK : va_K D cl tys s0) (hP : va_P D cl (w u) H) (hD : va_D A (w u)) (hS : va_S A s0.heap H locs) (hdg : decode cc pc = .ok (.ireturn, 1)) (hm : Post v u) :
    W p l e R s0 m args below meth c H locs 0 0 (MQ below (va_Qi Post (atG D cl tys w A) A) args s0 0 0 A) (F0 m pc ls [.int v]) :=
  W.zret (v := v) hx hb hr hn (fun t ht hW => ⟨⟨v, u, rfl, hm, by rw [ht]; exact hP, va_K.moved hW.alike hK, hD⟩, hS.F ht⟩) hS.2.2 hdg hlocks
theorem rt_v {Post : σ → Prop} (hx : p.tables.exec = Jvm.exec) (hb : c.code = cc) (hr : meth.sig.returnType = none) (hlocks : meth.locks = false) (hK : va_K D cl tys s0) (hP : va_P D cl (w u) H) (hD : va_D A (w u)) (hS : va_S A s0.heap H locs) (hdg : decode cc pc = .ok (.return_, 1)) (hm : Post u) :
    W p l e R s0 m args below meth c H locs 0 0 (MQ below (va_Qv Post (atG D cl tys w A) A) args s0 0 0 A) (F0 m pc ls []) :=
  W.vret hx hb hr (fun t ht hW => ⟨⟨u, rfl, hm, by rw [ht]; exact hP, va_K.moved hW.alike hK, hD⟩, hS.F ht⟩) hS.2.2 hdg hlocks
theorem cg_free (hD : va_D A (w u)) (hS : va_S A s0.heap H locs) (hA : ∀ q, s0.heap.size ≤ q → A q) : ∀ q, va_A (w u) H.size q → A q := by
  intro q h
  rcases h with ⟨k, e, h⟩ | h
  · exact hD.2 k (q, e) h
  · exact hA q (Nat.le_trans hS.1 h)
theorem cg_blind (av : List Value) (sz : Nat) (u : σ) : FrameBlind (va_Pc av (preG D cl tys w sz u)) := by
  intro a U g mk q
  obtain ⟨q0, q1, qP, qK, qD⟩ := q
  exact ⟨q0, q1, qP, va_K.moved (u := U) (U := U.calling g mk a) (Vm.Alike.refl U.vm) qK, qD⟩
theorem cg_pre (av : List Value) (hK : va_K D cl tys s0) (hP : va_P D cl (w u) H) (hD : va_D A (w u)) : ∀ U : State, U.heap = H → s0.WarmedH U.vm → va_Pc av (preG D cl tys w H.size u) av.toArray U := by
  intro U hU hW
  exact ⟨rfl, by rw [hU], by rw [hU]; exact hP, va_K.moved hW.alike hK, hD.weaken (fun _ _ _ _ => trivial)⟩
theorem cg_Vi {Post : Int32 → σ → Prop} (S : CallFix p m c cc nL s0 args Ts own) (hK : va_K D cl tys s0) (hP : va_P D cl (w u) H) (hD : va_D A (w u)) (hS : va_S A s0.heap H locs) (hA : ∀ q, s0.heap.size ≤ q → A q)
    (hM : CtI l y ws rm D cl tys w H.size (.ref b :: As) u Post) (cw : CallW R s0 args own C index y bytes maxL ret ws rm 0 0 n)
    (hrec : ∃ cellB : Cell, H[b]? = some cellB ∧ cellB.vm.isStatics = false ∧ s0.vm.findClass C = some cellB.cls)
    (hn : As.length = n) (hl : lv_has ls nL lvl) (hstack : stk = As.reverse ++ .ref b :: rest) (hroom : (rest.map fun v => v.category).sum ≤ 8) (hdg : decode cc pc = .ok (.invokevirtual index, 3))
    (kk : ∀ (r : Int32) (u' : σ), Post r u' → Bk D cl w A p l e R s0 m args below meth c Q nL (pc + 3) u' lvl (.int r :: rest)) :
    W p l e R s0 m args below meth c H locs 0 0 Q (F0 m pc ls stk) := by
  subst hstack
  have hFc := cg_free (w := w) (u := u) hD hS hA
  refine va_calli (va_runV (As := As) (rest := rest) S hM cw ⟨cg_blind _ _ _, hrec, cg_pre _ hK hP hD⟩ rfl hn hl.1 rfl (lv_room hroom) hdg ⟨Nat.zero_le _, Nat.zero_le _⟩) hS (fun q _ h => hFc q h) hFc ?_
  intro r u' t H1 locs1 ht hvm hm hB hz1 hk1 hS1
  obtain ⟨hP1, hK1, hD1⟩ := hB
  rw [ht] at hP1
  exact kk r u' hm H1 locs1 ls hP1 (hD1.weaken (fun k q _ h => hFc q.1 h)) hS1 hl
theorem cg_Vv {Post : σ → Prop} (S : CallFix p m c cc nL s0 args Ts own) (hK : va_K D cl tys s0) (hP : va_P D cl (w u) H) (hD : va_D A (w u)) (hS : va_S A s0.heap H locs) (hA : ∀ q, s0.heap.size ≤ q → A q)
    (hM : CtV l y ws rm D cl tys w H.size (.ref b :: As) u Post) (cw : CallW R s0 args own C index y bytes maxL ret ws rm 0 0 n)
    (hrec : ∃ cellB : Cell, H[b]? = some cellB ∧ cellB.vm.isStatics = false ∧ s0.vm.findClass C = some cellB.cls)
    (hn : As.length = n) (hl : lv_has ls nL lvl) (hstack : stk = As.reverse ++ .ref b :: rest) (hroom : (rest.map fun v => v.category).sum ≤ 8) (hdg : decode cc pc = .ok (.invokevirtual index, 3))
    (kk : ∀ (u' : σ), Post u' → Bk D cl w A p l e R s0 m args below meth c Q nL (pc + 3) u' lvl rest) :
    W p l e R s0 m args below meth c H locs 0 0 Q (F0 m pc ls stk) := by
  subst hstack
  have hFc := cg_free (w := w) (u := u) hD hS hA
  refine va_callv (va_runV (As := As) (rest := rest) S hM cw ⟨cg_blind _ _ _, hrec, cg_pre _ hK hP hD⟩ rfl hn hl.1 rfl (lv_room hroom) hdg ⟨Nat.zero_le _, Nat.zero_le _⟩) hS (fun q _ h => hFc q h) hFc ?_
  intro u' t H1 locs1 ht hvm hm hB hz1 hk1 hS1
  obtain ⟨hP1, hK1, hD1⟩ := hB
  rw [ht] at hP1
  exact kk u' hm H1 locs1 ls hP1 (hD1.weaken (fun k q _ h => hFc q.1 h)) hS1 hl
theorem cg_Si {Post : Int32 → σ → Prop} (S : CallFix p m c cc nL s0 args Ts own) (hK : va_K D cl tys s0) (hP : va_P D cl (w u) H) (hD : va_D A (w u)) (hS : va_S A s0.heap H locs) (hA : ∀ q, s0.heap.size ≤ q → A q)
    (hM : CtI l y ws rm D cl tys w H.size As u Post) (cw : CallB R s0 args own index y bytes maxL ret ws rm 0 0 n ∧ (Cond.static y).before args s0 = true)
    (hn : As.length = n) (hl : lv_has ls nL lvl) (hstack : stk = As.reverse ++ rest) (hroom : (rest.map fun v => v.category).sum ≤ 8) (hdg : decode cc pc = .ok (.invokestatic index, 3))
    (kk : ∀ (r : Int32) (u' : σ), Post r u' → Bk D cl w A p l e R s0 m args below meth c Q nL (pc + 3) u' lvl (.int r :: rest)) :
    W p l e R s0 m args below meth c H locs 0 0 Q (F0 m pc ls stk) := by
  subst hstack
  have hFc := cg_free (w := w) (u := u) hD hS hA
  refine va_calli (va_runS (As := As) (rest := rest) S hM cw ⟨cg_blind _ _ _, cg_pre _ hK hP hD⟩ rfl hn hl.1 rfl (lv_room hroom) hdg ⟨Nat.zero_le _, Nat.zero_le _⟩) hS (fun q _ h => hFc q h) hFc ?_
  intro r u' t H1 locs1 ht hvm hm hB hz1 hk1 hS1
  obtain ⟨hP1, hK1, hD1⟩ := hB
  rw [ht] at hP1
  exact kk r u' hm H1 locs1 ls hP1 (hD1.weaken (fun k q _ h => hFc q.1 h)) hS1 hl
theorem cg_Sv {Post : σ → Prop} (S : CallFix p m c cc nL s0 args Ts own) (hK : va_K D cl tys s0) (hP : va_P D cl (w u) H) (hD : va_D A (w u)) (hS : va_S A s0.heap H locs) (hA : ∀ q, s0.heap.size ≤ q → A q)
    (hM : CtV l y ws rm D cl tys w H.size As u Post) (cw : CallB R s0 args own index y bytes maxL ret ws rm 0 0 n ∧ (Cond.static y).before args s0 = true)
    (hn : As.length = n) (hl : lv_has ls nL lvl) (hstack : stk = As.reverse ++ rest) (hroom : (rest.map fun v => v.category).sum ≤ 8) (hdg : decode cc pc = .ok (.invokestatic index, 3))
    (kk : ∀ (u' : σ), Post u' → Bk D cl w A p l e R s0 m args below meth c Q nL (pc + 3) u' lvl rest) :
    W p l e R s0 m args below meth c H locs 0 0 Q (F0 m pc ls stk) := by
  subst hstack
  have hFc := cg_free (w := w) (u := u) hD hS hA
  refine va_callv (va_runS (As := As) (rest := rest) S hM cw ⟨cg_blind _ _ _, cg_pre _ hK hP hD⟩ rfl hn hl.1 rfl (lv_room hroom) hdg ⟨Nat.zero_le _, Nat.zero_le _⟩) hS (fun q _ h => hFc q h) hFc ?_
  intro u' t H1 locs1 ht hvm hm hB hz1 hk1 hS1
  obtain ⟨hP1, hK1, hD1⟩ := hB
  rw [ht] at hP1
  exact kk u' hm H1 locs1 ls hP1 (hD1.weaken (fun k q _ h => hFc q.1 h)) hS1 hl
end KG
theorem good_tb : GoodIn tb tb := fun w h => ⟨h, good_of_word (List.mem_filter.mp h).2⟩
theorem good_cons {y : MethodName} {bytes : ByteArray} {maxL : Nat} {ret : Option FieldType} (h : Cond.code y bytes maxL ret ∈ tb) : GoodIn tb (Cond.code y bytes maxL ret :: tb) := by
  intro w hw
  rcases List.mem_cons.mp hw with e | e
  · rw [e]; exact good_tb _ h
  · exact good_tb _ e
section KW
variable {R : Room} {s : State} {args : Array Value} {own : String} {index : Nat} {y : MethodName} {bytes : ByteArray} {maxL : Nat} {ret : Option FieldType} {f lo : Nat}
/-- a call's words, of an instance method: all out of the one table -/
theorem cwA (n : Nat) (ht : ∀ w ∈ tb, w.before args s = true) (hc : Cond.code y bytes maxL ret ∈ tb) (hini : Cond.initialized y.cls ∈ tb) (hl : Cond.methodLink own index y ∈ tb) (hin : Cond.instanceMethod y ∈ tb) (hs : Cond.selects y.cls y y ∈ tb)
    (hd : y.cls ≠ "java/lang/invoke/MethodHandle" ∧ y.cls ≠ "java/lang/invoke/VarHandle" ∧ (parseMethodDescriptor y.desc).map (fun d => d.parameters.length) = some n) (hR : f + 1 ≤ R.frames ∧ 8 + (maxL + 11) + lo ≤ R.locals) :
    CallW R s args own y.cls index y bytes maxL ret (Cond.code y bytes maxL ret :: tb) { frames := f, cells := 0, slots := 0, locals := lo } 0 0 n :=
  ⟨callB_of n ht (good_cons hc) rfl rfl rfl (ht _ hini) (ht _ hl) hd hR, ht _ hin, ht _ hs⟩
/-- the same of a static method -/
theorem cwB (n : Nat) (ht : ∀ w ∈ tb, w.before args s = true) (hc : Cond.code y bytes maxL ret ∈ tb) (hini : Cond.initialized y.cls ∈ tb) (hl : Cond.methodLink own index y ∈ tb) (hst : Cond.static y ∈ tb)
    (hd : y.cls ≠ "java/lang/invoke/MethodHandle" ∧ y.cls ≠ "java/lang/invoke/VarHandle" ∧ (parseMethodDescriptor y.desc).map (fun d => d.parameters.length) = some n) (hR : f + 1 ≤ R.frames ∧ 8 + (maxL + 11) + lo ≤ R.locals) :
    CallB R s args own index y bytes maxL ret (Cond.code y bytes maxL ret :: tb) { frames := f, cells := 0, slots := 0, locals := lo } 0 0 n ∧ (Cond.static y).before args s = true :=
  ⟨callB_of n ht (good_cons hc) rfl rfl rfl (ht _ hini) (ht _ hl) hd hR, ht _ hst⟩
end KW
end
section
theorem wd2 : (Jvm.Cond.initialized "MeterDesk$Source") ∈ tb := tb_of (i := 45) (by decide +kernel) rfl
theorem wd23 : (Jvm.Cond.fieldLink "MeterDesk$Source" (9 : Nat) "MeterDesk$Source" "octets" "[I") ∈ tb := tb_of (i := 66) (by decide +kernel) rfl
theorem wd25 : (Jvm.Cond.fieldLink "MeterDesk$Source" (15 : Nat) "MeterDesk$Source" "handlerParts" "[I") ∈ tb := tb_of (i := 68) (by decide +kernel) rfl
theorem wd26 : (Jvm.Cond.fieldLink "MeterDesk$Source" (18 : Nat) "MeterDesk$Source" "size" "I") ∈ tb := tb_of (i := 69) (by decide +kernel) rfl
theorem wd272 : (Jvm.Cond.methodLink "MeterDesk$Source" (25 : Nat) ({ cls := "MeterDesk$Source", name := "u1", desc := "(I)I" } : Jvm.MethodName)) ∈ tb := tb_of (i := 315) (by decide +kernel) rfl
theorem wd273 : (Jvm.Cond.instanceMethod ({ cls := "MeterDesk$Source", name := "u1", desc := "(I)I" } : Jvm.MethodName)) ∈ tb := tb_of (i := 316) (by decide +kernel) rfl
theorem wd274 : (Jvm.Cond.selects "MeterDesk$Source" ({ cls := "MeterDesk$Source", name := "u1", desc := "(I)I" } : Jvm.MethodName) ({ cls := "MeterDesk$Source", name := "u1", desc := "(I)I" } : Jvm.MethodName)) ∈ tb := tb_of (i := 317) (by decide +kernel) rfl
theorem wd275 : (Jvm.Cond.code ({ cls := "MeterDesk$Source", name := "u1", desc := "(I)I" } : Jvm.MethodName) prog_5_method_5_code (2 : Nat) (Option.some Jvm.ClassFile.FieldType.int)) ∈ tb := tb_of (i := 318) (by decide +kernel) rfl
end
section
theorem d_Source_append_0 : decode prog_5_method_2_code 0 = .ok (.aload_n 0, 1) := by decide +kernel
theorem d_Source_append_1 : decode prog_5_method_2_code 1 = .ok (.getfield 18, 3) := by decide +kernel
theorem d_Source_append_4 : decode prog_5_method_2_code 4 = .ok (.sipush 200, 3) := by decide +kernel
theorem d_Source_append_7 : decode prog_5_method_2_code 7 = .ok (.if_icmp .ge 20, 3) := by decide +kernel
theorem d_Source_append_10 : decode prog_5_method_2_code 10 = .ok (.aload_n 0, 1) := by decide +kernel
theorem d_Source_append_11 : decode prog_5_method_2_code 11 = .ok (.getfield 9, 3) := by decide +kernel
theorem d_Source_append_14 : decode prog_5_method_2_code 14 = .ok (.aload_n 0, 1) := by decide +kernel
theorem d_Source_append_15 : decode prog_5_method_2_code 15 = .ok (.dup, 1) := by decide +kernel
theorem d_Source_append_16 : decode prog_5_method_2_code 16 = .ok (.getfield 18, 3) := by decide +kernel
theorem d_Source_append_19 : decode prog_5_method_2_code 19 = .ok (.dup_x1, 1) := by decide +kernel
theorem d_Source_append_20 : decode prog_5_method_2_code 20 = .ok (.iconst 1, 1) := by decide +kernel
theorem d_Source_append_21 : decode prog_5_method_2_code 21 = .ok (.iadd, 1) := by decide +kernel
theorem d_Source_append_22 : decode prog_5_method_2_code 22 = .ok (.putfield 18, 3) := by decide +kernel
theorem d_Source_append_25 : decode prog_5_method_2_code 25 = .ok (.iload_n 1, 1) := by decide +kernel
theorem d_Source_append_26 : decode prog_5_method_2_code 26 = .ok (.iastore, 1) := by decide +kernel
theorem d_Source_append_27 : decode prog_5_method_2_code 27 = .ok (.return_, 1) := by decide +kernel
theorem d_Source_u1_0 : decode prog_5_method_5_code 0 = .ok (.iload_n 1, 1) := by decide +kernel
theorem d_Source_u1_1 : decode prog_5_method_5_code 1 = .ok (.ifCond .lt 20, 3) := by decide +kernel
theorem d_Source_u1_4 : decode prog_5_method_5_code 4 = .ok (.iload_n 1, 1) := by decide +kernel
theorem d_Source_u1_5 : decode prog_5_method_5_code 5 = .ok (.aload_n 0, 1) := by decide +kernel
theorem d_Source_u1_6 : decode prog_5_method_5_code 6 = .ok (.getfield 18, 3) := by decide +kernel
theorem d_Source_u1_9 : decode prog_5_method_5_code 9 = .ok (.if_icmp .ge 12, 3) := by decide +kernel
theorem d_Source_u1_12 : decode prog_5_method_5_code 12 = .ok (.aload_n 0, 1) := by decide +kernel
theorem d_Source_u1_13 : decode prog_5_method_5_code 13 = .ok (.getfield 9, 3) := by decide +kernel
theorem d_Source_u1_16 : decode prog_5_method_5_code 16 = .ok (.iload_n 1, 1) := by decide +kernel
theorem d_Source_u1_17 : decode prog_5_method_5_code 17 = .ok (.iaload, 1) := by decide +kernel
theorem d_Source_u1_18 : decode prog_5_method_5_code 18 = .ok (.goto 4, 3) := by decide +kernel
theorem d_Source_u1_21 : decode prog_5_method_5_code 21 = .ok (.iconst 0, 1) := by decide +kernel
theorem d_Source_u1_22 : decode prog_5_method_5_code 22 = .ok (.ireturn, 1) := by decide +kernel
theorem d_Source_s2_0 : decode prog_5_method_6_code 0 = .ok (.aload_n 0, 1) := by decide +kernel
theorem d_Source_s2_1 : decode prog_5_method_6_code 1 = .ok (.iload_n 1, 1) := by decide +kernel
theorem d_Source_s2_2 : decode prog_5_method_6_code 2 = .ok (.invokevirtual 25, 3) := by decide +kernel
theorem d_Source_s2_5 : decode prog_5_method_6_code 5 = .ok (.bipush 8, 2) := by decide +kernel
theorem d_Source_s2_7 : decode prog_5_method_6_code 7 = .ok (.ishl, 1) := by decide +kernel
theorem d_Source_s2_8 : decode prog_5_method_6_code 8 = .ok (.aload_n 0, 1) := by decide +kernel
theorem d_Source_s2_9 : decode prog_5_method_6_code 9 = .ok (.iload_n 1, 1) := by decide +kernel
theorem d_Source_s2_10 : decode prog_5_method_6_code 10 = .ok (.iconst 1, 1) := by decide +kernel
theorem d_Source_s2_11 : decode prog_5_method_6_code 11 = .ok (.iadd, 1) := by decide +kernel
theorem d_Source_s2_12 : decode prog_5_method_6_code 12 = .ok (.invokevirtual 25, 3) := by decide +kernel
theorem d_Source_s2_15 : decode prog_5_method_6_code 15 = .ok (.ior, 1) := by decide +kernel
theorem d_Source_s2_16 : decode prog_5_method_6_code 16 = .ok (.i2s, 1) := by decide +kernel
theorem d_Source_s2_17 : decode prog_5_method_6_code 17 = .ok (.ireturn, 1) := by decide +kernel
theorem d_Source_part_0 : decode prog_5_method_4_code 0 = .ok (.aload_n 0, 1) := by decide +kernel
theorem d_Source_part_1 : decode prog_5_method_4_code 1 = .ok (.getfield 15, 3) := by decide +kernel
theorem d_Source_part_4 : decode prog_5_method_4_code 4 = .ok (.iload_n 1, 1) := by decide +kernel
theorem d_Source_part_5 : decode prog_5_method_4_code 5 = .ok (.iconst 4, 1) := by decide +kernel
theorem d_Source_part_6 : decode prog_5_method_4_code 6 = .ok (.imul, 1) := by decide +kernel
theorem d_Source_part_7 : decode prog_5_method_4_code 7 = .ok (.iload_n 2, 1) := by decide +kernel
theorem d_Source_part_8 : decode prog_5_method_4_code 8 = .ok (.iadd, 1) := by decide +kernel
theorem d_Source_part_9 : decode prog_5_method_4_code 9 = .ok (.iaload, 1) := by decide +kernel
theorem d_Source_part_10 : decode prog_5_method_4_code 10 = .ok (.ireturn, 1) := by decide +kernel
end
section
def wX (ad : Nat → Nat) (ca : Nat → ClassId) (s : St) : va_W := [
  (ad 0, .inr (0, [.ref (ad 1), .ref (ad 4), .ref (ad 7), .ref (ad 17), .int (s 15 0)])),
  (ad 1, .inr (1, [.ref (ad 2), .ref (ad 3), .int (s 15 1), .int (s 15 2)])),
  (ad 2, .inl (ca 0, 200, .inl (s 0))),
  (ad 3, .inl (ca 1, 16, .inl (s 1))),
  (ad 4, .inr (2, [.ref (ad 5), .ref (ad 6), .int (s 15 3), .int (s 15 4)])),
  (ad 5, .inl (ca 2, 201, .inl (s 2))),
  (ad 6, .inl (ca 3, 256, .inl (s 3))),
  (ad 7, .inr (3, [.ref (ad 1), .ref (ad 4), .ref (ad 8), .ref (ad 9), .ref (ad 10), .ref (ad 11), .ref (ad 12), .ref (ad 13), .ref (ad 14), .ref (ad 15), .ref (ad 16), .int (s 15 5), .int (s 15 6), .int (s 15 7), .int (s 15 8), .int (s 15 9)])),
  (ad 8, .inl (ca 4, 200, .inl (s 4))),
  (ad 9, .inl (ca 5, 201, .inl (s 5))),
  (ad 10, .inl (ca 6, 201, .inl (s 6))),
  (ad 11, .inl (ca 7, 201, .inl (s 7))),
  (ad 12, .inl (ca 8, 201, .inl (s 8))),
  (ad 13, .inl (ca 9, 201, .inl (s 9))),
  (ad 14, .inl (ca 10, 201, .inl (s 10))),
  (ad 15, .inl (ca 11, 201, .inl (s 11))),
  (ad 16, .inl (ca 12, 201, .inl (s 12))),
  (ad 17, .inr (4, [.ref (ad 1), .ref (ad 4), .ref (ad 7), .ref (ad 18), .ref (ad 19), .int (s 15 10), .int (s 15 11), .int (s 15 12), .int (s 15 13)])),
  (ad 18, .inl (ca 13, 1200, .inl (s 13))),
  (ad 19, .inl (ca 14, 16, .inl (s 14)))]
def tyX (ca : Nat → ClassId) : List (ClassId × FieldType) := [(ca 0, .int), (ca 1, .int), (ca 2, .int), (ca 3, .boolean), (ca 4, .int), (ca 5, .int), (ca 6, .int), (ca 7, .int), (ca 8, .boolean), (ca 9, .int), (ca 10, .int), (ca 11, .int), (ca 12, .boolean), (ca 13, .int), (ca 14, .int)]
end
section
def x_Source_append (s : St) (a1 : Int32) (Post : St → Prop) : Prop :=
  ((200 : Int32) ≤ (s 15 1) → Post s) ∧ (¬ (200 : Int32) ≤ (s 15 1) → ∀ s2 : St, s2 = su s 15 1 ((s 15 1) + (1 : Int32)) → vp_in (s 15 1) 200 ∧ ∀ s4 : St, s4 = su s2 0 ((s 15 1)).toNatClampNeg a1 → Post s4)
set_option maxHeartbeats 4000000 in
set_option maxRecDepth 100000 in
theorem c_Source_append (l : Launch) (D : va_G) (ad : Nat → Nat) (ca : Nat → ClassId) (sz : Nat) (s : St) (a1 : Int32) (Post : St → Prop) (hm : x_Source_append s a1 Post) : CtV l y_Source_append w_Source_append { frames := 0, cells := 0, slots := 0, locals := 0 } D vwCl (tyX ca) (wX ad ca) sz [.ref (ad 1), .int a1] s Post := by
  refine ct_v (cc := prog_5_method_2_code) (maxL := 2) (ret := none) (by decide) rfl (Nat.le_of_ble_eq_true rfl) ?_
  intro p e s0 m args below meth c A hx hb hr hts hown hlocks hml hK hA
  have hown : s0.vm.findClass R_Source = some m.cls := hown
  intro H locs ls hP hD hS hl
  have hl : lv_has ls 2 [(0, .ref (ad 1)), (1, .int a1)] := hl
  unfold x_Source_append at hm
  refine lv_aload_n hx hb d_Source_append_0 rfl (lv_at hl 0 rfl) ?_
  refine va_get (D := D) (ci := 1) (v := .int (s 15 1)) (C := R_Source) (T := T_Source) (N := 4) hx hb hts in_Source hown hK hP 1 rfl rfl 2 (by decide) (hts _ wd26) (fun _ h9 => h9) rfl d_Source_append_1 ?_
  refine lv_sipush (v := 200) hx hb d_Source_append_4 (by decide) ?_
  refine lv_icmp_ge (tgt := 27) hx hb d_Source_append_7 (by decide) (fun c1 => ?_) (fun c1 => ?_)
  · replace hm := hm.1 c1
    exact rt_v hx hb hr hlocks hK hP hD hS d_Source_append_27 hm
  · replace hm := hm.2 c1
    refine lv_aload_n hx hb d_Source_append_10 rfl (lv_at hl 0 rfl) ?_
    refine va_get (D := D) (ci := 1) (v := .ref (ad 2)) (C := R_Source) (T := T_Source) (N := 4) hx hb hts in_Source hown hK hP 1 rfl rfl 0 (by decide) (hts _ wd23) (fun _ h9 => h9) rfl d_Source_append_11 ?_
    refine lv_aload_n hx hb d_Source_append_14 rfl (lv_at hl 0 rfl) ?_
    refine lv_dup hx hb d_Source_append_15 rfl ?_
    refine va_get (D := D) (ci := 1) (v := .int (s 15 1)) (C := R_Source) (T := T_Source) (N := 4) hx hb hts in_Source hown hK hP 1 rfl rfl 2 (by decide) (hts _ wd26) (fun _ h9 => h9) rfl d_Source_append_16 ?_
    refine lv_dup_x1 hx hb d_Source_append_19 rfl rfl ?_
    refine lv_iconst (v := 1) hx hb d_Source_append_20 (by decide) ?_
    refine lv_iadd hx hb d_Source_append_21 ?_
    refine va_put (D := D) (ci := 1) (v := .int ((s 15 1) + (1 : Int32))) (ty := .int) (C := R_Source) (T := T_Source) (N := 4) hx hb hts in_Source t_Source to_Source no_Source hown hK hP hD hS 1 rfl rfl 2 (by decide) (hts _ wd26) (fun _ h9 => h9) rfl (by decide +kernel) rfl rfl (Nat.le_of_ble_eq_true rfl) d_Source_append_22 (fun H locs hP hD hS => ?_)
    have hP : va_P D vwCl (wX ad ca (su s 15 1 ((s 15 1) + (1 : Int32)))) H := hP
    have hD : va_D A (wX ad ca (su s 15 1 ((s 15 1) + (1 : Int32)))) := hD
    obtain ⟨s2, es2⟩ : ∃ z : St, z = su s 15 1 ((s 15 1) + (1 : Int32)) := ⟨_, rfl⟩
    rw [← es2] at hP hD
    replace hm := hm s2 es2
    refine lv_iload_n hx hb d_Source_append_25 rfl (lv_at hl 1 rfl) ?_
    obtain ⟨h3, hm⟩ := hm
    refine va_iast hx hb hK hP hD hS 2 0 rfl rfl h3 d_Source_append_26 (fun H locs hP hD hS => ?_)
    have hP : va_P D vwCl (wX ad ca (su s2 0 ((s 15 1)).toNatClampNeg a1)) H := hP
    have hD : va_D A (wX ad ca (su s2 0 ((s 15 1)).toNatClampNeg a1)) := hD
    obtain ⟨s4, es4⟩ : ∃ z : St, z = su s2 0 ((s 15 1)).toNatClampNeg a1 := ⟨_, rfl⟩
    rw [← es4] at hP hD
    replace hm := hm s4 es4
    exact rt_v hx hb hr hlocks hK hP hD hS d_Source_append_27 hm
def x_Source_u1 (s : St) (a1 : Int32) (Post : Int32 → St → Prop) : Prop :=
  (a1 < 0 → Post (0 : Int32) s) ∧ (¬ a1 < 0 → ((s 15 1) ≤ a1 → Post (0 : Int32) s) ∧ (¬ (s 15 1) ≤ a1 → vp_in a1 200 ∧ Post (s 0 (a1).toNatClampNeg) s))
set_option maxHeartbeats 4000000 in
set_option maxRecDepth 100000 in
theorem c_Source_u1 (l : Launch) (D : va_G) (ad : Nat → Nat) (ca : Nat → ClassId) (sz : Nat) (s : St) (a1 : Int32) (Post : Int32 → St → Prop) (hm : x_Source_u1 s a1 Post) : CtI l y_Source_u1 w_Source_u1 { frames := 0, cells := 0, slots := 0, locals := 0 } D vwCl (tyX ca) (wX ad ca) sz [.ref (ad 1), .int a1] s Post := by
  refine ct_i (cc := prog_5_method_5_code) (maxL := 2) (ret := (some .int)) (by decide) rfl (Nat.le_of_ble_eq_true rfl) ?_
  intro p e s0 m args below meth c A hx hb hr hts hown hlocks hml hK hA
  have hown : s0.vm.findClass R_Source = some m.cls := hown
  intro H locs ls hP hD hS hl
  have hl : lv_has ls 2 [(0, .ref (ad 1)), (1, .int a1)] := hl
  unfold x_Source_u1 at hm
  refine lv_iload_n hx hb d_Source_u1_0 rfl (lv_at hl 1 rfl) ?_
  refine lv_if_lt (tgt := 21) hx hb d_Source_u1_1 (by decide) (fun c1 => ?_) (fun c1 => ?_)
  · replace hm := hm.1 c1
    refine lv_iconst (v := 0) hx hb d_Source_u1_21 (by decide) ?_
    exact rt_i hx hb hr hlocks hK hP hD hS d_Source_u1_22 hm
  · replace hm := hm.2 c1
    refine lv_iload_n hx hb d_Source_u1_4 rfl (lv_at hl 1 rfl) ?_
    refine lv_aload_n hx hb d_Source_u1_5 rfl (lv_at hl 0 rfl) ?_
    refine va_get (D := D) (ci := 1) (v := .int (s 15 1)) (C := R_Source) (T := T_Source) (N := 4) hx hb hts in_Source hown hK hP 1 rfl rfl 2 (by decide) (hts _ wd26) (fun _ h9 => h9) rfl d_Source_u1_6 ?_
    refine lv_icmp_ge (tgt := 21) hx hb d_Source_u1_9 (by decide) (fun c2 => ?_) (fun c2 => ?_)
    · replace hm := hm.1 c2
      refine lv_iconst (v := 0) hx hb d_Source_u1_21 (by decide) ?_
      exact rt_i hx hb hr hlocks hK hP hD hS d_Source_u1_22 hm
    · replace hm := hm.2 c2
      refine lv_aload_n hx hb d_Source_u1_12 rfl (lv_at hl 0 rfl) ?_
      refine va_get (D := D) (ci := 1) (v := .ref (ad 2)) (C := R_Source) (T := T_Source) (N := 4) hx hb hts in_Source hown hK hP 1 rfl rfl 0 (by decide) (hts _ wd23) (fun _ h9 => h9) rfl d_Source_u1_13 ?_
      refine lv_iload_n hx hb d_Source_u1_16 rfl (lv_at hl 1 rfl) ?_
      obtain ⟨h3, hm⟩ := hm
      refine va_iald hx hb hK hP 2 0 rfl rfl h3 d_Source_u1_17 ?_
      refine lv_goto (tgt := 22) hx hb d_Source_u1_18 (by decide) ?_
      exact rt_i hx hb hr hlocks hK hP hD hS d_Source_u1_22 hm
def x_Source_s2 (s : St) (a1 : Int32) (Post : Int32 → St → Prop) : Prop :=
  x_Source_u1 s a1 (fun r1 s2 => x_Source_u1 s2 (a1 + (1 : Int32)) (fun r3 s4 => Post (((r1 <<< ((8 : Int32) &&& 31)) ||| r3)).toInt16.toInt32 s4))
set_option maxHeartbeats 4000000 in
set_option maxRecDepth 100000 in
theorem c_Source_s2 (l : Launch) (D : va_G) (ad : Nat → Nat) (ca : Nat → ClassId) (sz : Nat) (s : St) (a1 : Int32) (Post : Int32 → St → Prop) (hm : x_Source_s2 s a1 Post) : CtI l y_Source_s2 w_Source_s2 { frames := 1, cells := 0, slots := 0, locals := 21 } D vwCl (tyX ca) (wX ad ca) sz [.ref (ad 1), .int a1] s Post := by
  refine ct_i (cc := prog_5_method_6_code) (maxL := 2) (ret := (some .int)) (by decide) rfl (Nat.le_of_ble_eq_true rfl) ?_
  intro p e s0 m args below meth c A hx hb hr hts hown hlocks hml hK hA
  have hown : s0.vm.findClass R_Source = some m.cls := hown
  intro H locs ls hP hD hS hl
  have hl : lv_has ls 2 [(0, .ref (ad 1)), (1, .int a1)] := hl
  unfold x_Source_s2 at hm
  refine lv_aload_n hx hb d_Source_s2_0 rfl (lv_at hl 0 rfl) ?_
  refine lv_iload_n hx hb d_Source_s2_1 rfl (lv_at hl 1 rfl) ?_
  refine cg_Vi (b := (ad 1)) (As := [.int a1]) (rest := []) ⟨hx, hb, hml, hown, hts⟩ hK hP hD hS hA (c_Source_u1 l D ad ca H.size s a1 _ hm) (cwA 1 hts wd275 wd2 wd272 wd273 wd274 (by decide +kernel) ⟨Nat.le_of_ble_eq_true rfl, Nat.le_of_ble_eq_true rfl⟩) (va_recv hK hP (ci := 1) (q0 := 1) rfl rfl) rfl hl rfl (Nat.le_of_ble_eq_true rfl) d_Source_s2_2 (fun r1 s2 hm => ?_)
  intro H locs ls hP hD hS hl
  refine lv_bipush (v := 8) hx hb d_Source_s2_5 (by decide) ?_
  refine lv_ishl hx hb d_Source_s2_7 ?_
  refine lv_aload_n hx hb d_Source_s2_8 rfl (lv_at hl 0 rfl) ?_
  refine lv_iload_n hx hb d_Source_s2_9 rfl (lv_at hl 1 rfl) ?_
  refine lv_iconst (v := 1) hx hb d_Source_s2_10 (by decide) ?_
  refine lv_iadd hx hb d_Source_s2_11 ?_
  refine cg_Vi (b := (ad 1)) (As := [.int (a1 + (1 : Int32))]) (rest := [.int (r1 <<< ((8 : Int32) &&& 31))]) ⟨hx, hb, hml, hown, hts⟩ hK hP hD hS hA (c_Source_u1 l D ad ca H.size s2 (a1 + (1 : Int32)) _ hm) (cwA 1 hts wd275 wd2 wd272 wd273 wd274 (by decide +kernel) ⟨Nat.le_of_ble_eq_true rfl, Nat.le_of_ble_eq_true rfl⟩) (va_recv hK hP (ci := 1) (q0 := 1) rfl rfl) rfl hl rfl (Nat.le_of_ble_eq_true rfl) d_Source_s2_12 (fun r3 s4 hm => ?_)
  intro H locs ls hP hD hS hl
  refine lv_ior hx hb d_Source_s2_15 ?_
  refine lv_i2s (v := (((r1 <<< ((8 : Int32) &&& 31)) ||| r3)).toInt16.toInt32) hx hb d_Source_s2_16 rfl ?_
  exact rt_i hx hb hr hlocks hK hP hD hS d_Source_s2_17 hm
def x_Source_part (s : St) (a1 : Int32) (a2 : Int32) (Post : Int32 → St → Prop) : Prop :=
  vp_in ((a1 * (4 : Int32)) + a2) 16 ∧ Post (s 1 (((a1 * (4 : Int32)) + a2)).toNatClampNeg) s
set_option maxHeartbeats 4000000 in
set_option maxRecDepth 100000 in
theorem c_Source_part (l : Launch) (D : va_G) (ad : Nat → Nat) (ca : Nat → ClassId) (sz : Nat) (s : St) (a1 : Int32) (a2 : Int32) (Post : Int32 → St → Prop) (hm : x_Source_part s a1 a2 Post) : CtI l y_Source_part w_Source_part { frames := 0, cells := 0, slots := 0, locals := 0 } D vwCl (tyX ca) (wX ad ca) sz [.ref (ad 1), .int a1, .int a2] s Post := by
  refine ct_i (cc := prog_5_method_4_code) (maxL := 3) (ret := (some .int)) (by decide) rfl (Nat.le_of_ble_eq_true rfl) ?_
  intro p e s0 m args below meth c A hx hb hr hts hown hlocks hml hK hA
  have hown : s0.vm.findClass R_Source = some m.cls := hown
  intro H locs ls hP hD hS hl
  have hl : lv_has ls 3 [(0, .ref (ad 1)), (1, .int a1), (2, .int a2)] := hl
  unfold x_Source_part at hm
  refine lv_aload_n hx hb d_Source_part_0 rfl (lv_at hl 0 rfl) ?_
  refine va_get (D := D) (ci := 1) (v := .ref (ad 3)) (C := R_Source) (T := T_Source) (N := 4) hx hb hts in_Source hown hK hP 1 rfl rfl 1 (by decide) (hts _ wd25) (fun _ h9 => h9) rfl d_Source_part_1 ?_
  refine lv_iload_n hx hb d_Source_part_4 rfl (lv_at hl 1 rfl) ?_
  refine lv_iconst (v := 4) hx hb d_Source_part_5 (by decide) ?_
  refine lv_imul hx hb d_Source_part_6 ?_
  refine lv_iload_n hx hb d_Source_part_7 rfl (lv_at hl 2 rfl) ?_
  refine lv_iadd hx hb d_Source_part_8 ?_
  obtain ⟨h1, hm⟩ := hm
  refine va_iald hx hb hK hP 3 1 rfl rfl h1 d_Source_part_9 ?_
  exact rt_i hx hb hr hlocks hK hP hD hS d_Source_part_10 hm
end
