section
-- ===== PART A: goes FIRST, ahead of the names: the tables' words, and 'selects' of the private methods out of them =====
/-- a private method of a class that the tables say can be made, by its rows of tables_1 -/
def lw_okq (q : MethodName × Nat) : Prop := (q.1.cls ≠ "java/lang/invoke/MethodHandle" ∧ q.1.cls ≠ "java/lang/invoke/VarHandle") ∧ Cond.instantiable q.1.cls q.2 ∈ tables_1 ∧ Cond.privateMethod q.1 ∈ tables_1 ∧ Cond.instanceMethod q.1 ∈ tables_1
theorem lw_p0 : lw_okq (⟨"KeptTables", "putDraft", "(I)I"⟩, 6) := ⟨⟨by decide +kernel, by decide +kernel⟩, List.mem_of_getElem? (i := 12) (by decide +kernel), List.mem_of_getElem? (i := 141) (by decide +kernel), List.mem_of_getElem? (i := 142) (by decide +kernel)⟩
theorem lw_p1 : lw_okq (⟨"KeptTables", "gridAt", "(I)LKeptTables$Grid;"⟩, 6) := ⟨⟨by decide +kernel, by decide +kernel⟩, List.mem_of_getElem? (i := 12) (by decide +kernel), List.mem_of_getElem? (i := 191) (by decide +kernel), List.mem_of_getElem? (i := 192) (by decide +kernel)⟩
theorem lw_p2 : lw_okq (⟨"KeptTables$Grid", "drop", "(II)V"⟩, 4) := ⟨⟨by decide +kernel, by decide +kernel⟩, List.mem_of_getElem? (i := 68) (by decide +kernel), List.mem_of_getElem? (i := 294) (by decide +kernel), List.mem_of_getElem? (i := 295) (by decide +kernel)⟩
theorem lw_p3 : lw_okq (⟨"KeptTables$Grid", "addRowMultiple", "(ILKeptTables$Grid;IJ)V"⟩, 4) := ⟨⟨by decide +kernel, by decide +kernel⟩, List.mem_of_getElem? (i := 68) (by decide +kernel), List.mem_of_getElem? (i := 320) (by decide +kernel), List.mem_of_getElem? (i := 321) (by decide +kernel)⟩
theorem lw_p4 : lw_okq (⟨"KeptTables$Grid", "productOfRows", "(ILKeptTables$Grid;I)J"⟩, 4) := ⟨⟨by decide +kernel, by decide +kernel⟩, List.mem_of_getElem? (i := 68) (by decide +kernel), List.mem_of_getElem? (i := 373) (by decide +kernel), List.mem_of_getElem? (i := 374) (by decide +kernel)⟩
theorem lw_p5 : lw_okq (⟨"KeptTables$Grid", "productOfColumns", "(ILKeptTables$Grid;I)J"⟩, 4) := ⟨⟨by decide +kernel, by decide +kernel⟩, List.mem_of_getElem? (i := 68) (by decide +kernel), List.mem_of_getElem? (i := 381) (by decide +kernel), List.mem_of_getElem? (i := 382) (by decide +kernel)⟩
theorem lw_p6 : lw_okq (⟨"KeptTables$Graph", "walkOn", "(LKeptTables$Grid;)V"⟩, 6) := ⟨⟨by decide +kernel, by decide +kernel⟩, List.mem_of_getElem? (i := 44) (by decide +kernel), List.mem_of_getElem? (i := 472) (by decide +kernel), List.mem_of_getElem? (i := 473) (by decide +kernel)⟩
theorem lw_p7 : lw_okq (⟨"KeptTables$Graph", "sourcesOf", "(I)I"⟩, 6) := ⟨⟨by decide +kernel, by decide +kernel⟩, List.mem_of_getElem? (i := 44) (by decide +kernel), List.mem_of_getElem? (i := 487) (by decide +kernel), List.mem_of_getElem? (i := 488) (by decide +kernel)⟩
theorem lw_p8 : lw_okq (⟨"KeptTables$Graph", "targetsOf", "(I)I"⟩, 6) := ⟨⟨by decide +kernel, by decide +kernel⟩, List.mem_of_getElem? (i := 44) (by decide +kernel), List.mem_of_getElem? (i := 496) (by decide +kernel), List.mem_of_getElem? (i := 497) (by decide +kernel)⟩
theorem lw_p9 : lw_okq (⟨"KeptTables$Graph", "allNodes", "()I"⟩, 6) := ⟨⟨by decide +kernel, by decide +kernel⟩, List.mem_of_getElem? (i := 44) (by decide +kernel), List.mem_of_getElem? (i := 526) (by decide +kernel), List.mem_of_getElem? (i := 527) (by decide +kernel)⟩
theorem lw_p10 : lw_okq (⟨"KeptTables$Graph", "leastWithoutSource", "(I)I"⟩, 6) := ⟨⟨by decide +kernel, by decide +kernel⟩, List.mem_of_getElem? (i := 44) (by decide +kernel), List.mem_of_getElem? (i := 531) (by decide +kernel), List.mem_of_getElem? (i := 532) (by decide +kernel)⟩
theorem lw_p11 : lw_okq (⟨"KeptTables", "putDraftNumbers", "()V"⟩, 6) := ⟨⟨by decide +kernel, by decide +kernel⟩, List.mem_of_getElem? (i := 12) (by decide +kernel), List.mem_of_getElem? (i := 536) (by decide +kernel), List.mem_of_getElem? (i := 537) (by decide +kernel)⟩
theorem lw_p12 : lw_okq (⟨"KeptTables$Graph", "moveFewest", "(IILKeptTables$Numbers;)I"⟩, 6) := ⟨⟨by decide +kernel, by decide +kernel⟩, List.mem_of_getElem? (i := 44) (by decide +kernel), List.mem_of_getElem? (i := 548) (by decide +kernel), List.mem_of_getElem? (i := 549) (by decide +kernel)⟩
theorem lw_p13 : lw_okq (⟨"KeptTables$Graph", "neighboursOf", "(I)I"⟩, 6) := ⟨⟨by decide +kernel, by decide +kernel⟩, List.mem_of_getElem? (i := 44) (by decide +kernel), List.mem_of_getElem? (i := 554) (by decide +kernel), List.mem_of_getElem? (i := 555) (by decide +kernel)⟩
theorem lw_p14 : lw_okq (⟨"KeptTables$Graph", "moveAll", "(IILKeptTables$Numbers;)I"⟩, 6) := ⟨⟨by decide +kernel, by decide +kernel⟩, List.mem_of_getElem? (i := 44) (by decide +kernel), List.mem_of_getElem? (i := 558) (by decide +kernel), List.mem_of_getElem? (i := 559) (by decide +kernel)⟩
theorem lw_p15 : lw_okq (⟨"KeptTablesModel", "begin", "(II)V"⟩, 14) := ⟨⟨by decide +kernel, by decide +kernel⟩, List.mem_of_getElem? (i := 579) (by decide +kernel), List.mem_of_getElem? (i := 636) (by decide +kernel), List.mem_of_getElem? (i := 637) (by decide +kernel)⟩
def lw_privs_1 : List (MethodName × Nat) := [(⟨"KeptTables", "putDraft", "(I)I"⟩, 6), (⟨"KeptTables", "gridAt", "(I)LKeptTables$Grid;"⟩, 6), (⟨"KeptTables$Grid", "drop", "(II)V"⟩, 4), (⟨"KeptTables$Grid", "addRowMultiple", "(ILKeptTables$Grid;IJ)V"⟩, 4), (⟨"KeptTables$Grid", "productOfRows", "(ILKeptTables$Grid;I)J"⟩, 4), (⟨"KeptTables$Grid", "productOfColumns", "(ILKeptTables$Grid;I)J"⟩, 4), (⟨"KeptTables$Graph", "walkOn", "(LKeptTables$Grid;)V"⟩, 6), (⟨"KeptTables$Graph", "sourcesOf", "(I)I"⟩, 6), (⟨"KeptTables$Graph", "targetsOf", "(I)I"⟩, 6), (⟨"KeptTables$Graph", "allNodes", "()I"⟩, 6), (⟨"KeptTables$Graph", "leastWithoutSource", "(I)I"⟩, 6), (⟨"KeptTables", "putDraftNumbers", "()V"⟩, 6), (⟨"KeptTables$Graph", "moveFewest", "(IILKeptTables$Numbers;)I"⟩, 6), (⟨"KeptTables$Graph", "neighboursOf", "(I)I"⟩, 6), (⟨"KeptTables$Graph", "moveAll", "(IILKeptTables$Numbers;)I"⟩, 6), (⟨"KeptTablesModel", "begin", "(II)V"⟩, 14)]
theorem lw_r1 : ∀ q ∈ lw_privs_1, lw_okq q := List.forall_mem_cons.mpr ⟨lw_p0, List.forall_mem_cons.mpr ⟨lw_p1, List.forall_mem_cons.mpr ⟨lw_p2, List.forall_mem_cons.mpr ⟨lw_p3, List.forall_mem_cons.mpr ⟨lw_p4, List.forall_mem_cons.mpr ⟨lw_p5, List.forall_mem_cons.mpr ⟨lw_p6, List.forall_mem_cons.mpr ⟨lw_p7, List.forall_mem_cons.mpr ⟨lw_p8, List.forall_mem_cons.mpr ⟨lw_p9, List.forall_mem_cons.mpr ⟨lw_p10, List.forall_mem_cons.mpr ⟨lw_p11, List.forall_mem_cons.mpr ⟨lw_p12, List.forall_mem_cons.mpr ⟨lw_p13, List.forall_mem_cons.mpr ⟨lw_p14, List.forall_mem_cons.mpr ⟨lw_p15, fun _ h => absurd h List.not_mem_nil⟩⟩⟩⟩⟩⟩⟩⟩⟩⟩⟩⟩⟩⟩⟩⟩
theorem lw_p16 : lw_okq (⟨"KeptTablesModel", "putAt", "(I)I"⟩, 14) := ⟨⟨by decide +kernel, by decide +kernel⟩, List.mem_of_getElem? (i := 579) (by decide +kernel), List.mem_of_getElem? (i := 640) (by decide +kernel), List.mem_of_getElem? (i := 641) (by decide +kernel)⟩
theorem lw_p17 : lw_okq (⟨"KeptTablesModel", "many", "(I)I"⟩, 14) := ⟨⟨by decide +kernel, by decide +kernel⟩, List.mem_of_getElem? (i := 579) (by decide +kernel), List.mem_of_getElem? (i := 644) (by decide +kernel), List.mem_of_getElem? (i := 645) (by decide +kernel)⟩
theorem lw_p18 : lw_okq (⟨"KeptTablesModel", "isTable", "(I)Z"⟩, 14) := ⟨⟨by decide +kernel, by decide +kernel⟩, List.mem_of_getElem? (i := 579) (by decide +kernel), List.mem_of_getElem? (i := 664) (by decide +kernel), List.mem_of_getElem? (i := 665) (by decide +kernel)⟩
theorem lw_p19 : lw_okq (⟨"KeptTablesModel", "take", "(I)V"⟩, 14) := ⟨⟨by decide +kernel, by decide +kernel⟩, List.mem_of_getElem? (i := 579) (by decide +kernel), List.mem_of_getElem? (i := 668) (by decide +kernel), List.mem_of_getElem? (i := 669) (by decide +kernel)⟩
theorem lw_p20 : lw_okq (⟨"KeptTablesModel", "isIn", "(III)Z"⟩, 14) := ⟨⟨by decide +kernel, by decide +kernel⟩, List.mem_of_getElem? (i := 579) (by decide +kernel), List.mem_of_getElem? (i := 672) (by decide +kernel), List.mem_of_getElem? (i := 673) (by decide +kernel)⟩
theorem lw_p21 : lw_okq (⟨"KeptTablesModel", "holds", "(III)J"⟩, 14) := ⟨⟨by decide +kernel, by decide +kernel⟩, List.mem_of_getElem? (i := 579) (by decide +kernel), List.mem_of_getElem? (i := 684) (by decide +kernel), List.mem_of_getElem? (i := 685) (by decide +kernel)⟩
theorem lw_p22 : lw_okq (⟨"KeptTablesModel", "has", "(III)Z"⟩, 14) := ⟨⟨by decide +kernel, by decide +kernel⟩, List.mem_of_getElem? (i := 579) (by decide +kernel), List.mem_of_getElem? (i := 688) (by decide +kernel), List.mem_of_getElem? (i := 689) (by decide +kernel)⟩
theorem lw_p23 : lw_okq (⟨"KeptTablesModel", "areLike", "(II)Z"⟩, 14) := ⟨⟨by decide +kernel, by decide +kernel⟩, List.mem_of_getElem? (i := 579) (by decide +kernel), List.mem_of_getElem? (i := 715) (by decide +kernel), List.mem_of_getElem? (i := 716) (by decide +kernel)⟩
theorem lw_p24 : lw_okq (⟨"KeptTablesModel", "keep", "(IIJ)V"⟩, 14) := ⟨⟨by decide +kernel, by decide +kernel⟩, List.mem_of_getElem? (i := 579) (by decide +kernel), List.mem_of_getElem? (i := 719) (by decide +kernel), List.mem_of_getElem? (i := 720) (by decide +kernel)⟩
theorem lw_p25 : lw_okq (⟨"KeptTablesModel", "layOut", "(III)V"⟩, 14) := ⟨⟨by decide +kernel, by decide +kernel⟩, List.mem_of_getElem? (i := 579) (by decide +kernel), List.mem_of_getElem? (i := 758) (by decide +kernel), List.mem_of_getElem? (i := 759) (by decide +kernel)⟩
theorem lw_p26 : lw_okq (⟨"KeptTablesModel", "lay", "(J)V"⟩, 14) := ⟨⟨by decide +kernel, by decide +kernel⟩, List.mem_of_getElem? (i := 579) (by decide +kernel), List.mem_of_getElem? (i := 762) (by decide +kernel), List.mem_of_getElem? (i := 763) (by decide +kernel)⟩
theorem lw_p27 : lw_okq (⟨"KeptTablesModel", "byRows", "(I)V"⟩, 14) := ⟨⟨by decide +kernel, by decide +kernel⟩, List.mem_of_getElem? (i := 579) (by decide +kernel), List.mem_of_getElem? (i := 766) (by decide +kernel), List.mem_of_getElem? (i := 767) (by decide +kernel)⟩
theorem lw_p28 : lw_okq (⟨"KeptTablesModel", "byColumns", "(I)V"⟩, 14) := ⟨⟨by decide +kernel, by decide +kernel⟩, List.mem_of_getElem? (i := 579) (by decide +kernel), List.mem_of_getElem? (i := 770) (by decide +kernel), List.mem_of_getElem? (i := 771) (by decide +kernel)⟩
theorem lw_p29 : lw_okq (⟨"KeptTablesModel", "blocks", "(II)V"⟩, 14) := ⟨⟨by decide +kernel, by decide +kernel⟩, List.mem_of_getElem? (i := 579) (by decide +kernel), List.mem_of_getElem? (i := 774) (by decide +kernel), List.mem_of_getElem? (i := 775) (by decide +kernel)⟩
theorem lw_p30 : lw_okq (⟨"KeptTablesModel", "isBlock", "(IIII)Z"⟩, 14) := ⟨⟨by decide +kernel, by decide +kernel⟩, List.mem_of_getElem? (i := 579) (by decide +kernel), List.mem_of_getElem? (i := 778) (by decide +kernel), List.mem_of_getElem? (i := 779) (by decide +kernel)⟩
theorem lw_p31 : lw_okq (⟨"KeptTablesModel", "layBlock", "(IIIII)V"⟩, 14) := ⟨⟨by decide +kernel, by decide +kernel⟩, List.mem_of_getElem? (i := 579) (by decide +kernel), List.mem_of_getElem? (i := 782) (by decide +kernel), List.mem_of_getElem? (i := 783) (by decide +kernel)⟩
def lw_privs_2 : List (MethodName × Nat) := [(⟨"KeptTablesModel", "putAt", "(I)I"⟩, 14), (⟨"KeptTablesModel", "many", "(I)I"⟩, 14), (⟨"KeptTablesModel", "isTable", "(I)Z"⟩, 14), (⟨"KeptTablesModel", "take", "(I)V"⟩, 14), (⟨"KeptTablesModel", "isIn", "(III)Z"⟩, 14), (⟨"KeptTablesModel", "holds", "(III)J"⟩, 14), (⟨"KeptTablesModel", "has", "(III)Z"⟩, 14), (⟨"KeptTablesModel", "areLike", "(II)Z"⟩, 14), (⟨"KeptTablesModel", "keep", "(IIJ)V"⟩, 14), (⟨"KeptTablesModel", "layOut", "(III)V"⟩, 14), (⟨"KeptTablesModel", "lay", "(J)V"⟩, 14), (⟨"KeptTablesModel", "byRows", "(I)V"⟩, 14), (⟨"KeptTablesModel", "byColumns", "(I)V"⟩, 14), (⟨"KeptTablesModel", "blocks", "(II)V"⟩, 14), (⟨"KeptTablesModel", "isBlock", "(IIII)Z"⟩, 14), (⟨"KeptTablesModel", "layBlock", "(IIIII)V"⟩, 14)]
theorem lw_r2 : ∀ q ∈ lw_privs_2, lw_okq q := List.forall_mem_cons.mpr ⟨lw_p16, List.forall_mem_cons.mpr ⟨lw_p17, List.forall_mem_cons.mpr ⟨lw_p18, List.forall_mem_cons.mpr ⟨lw_p19, List.forall_mem_cons.mpr ⟨lw_p20, List.forall_mem_cons.mpr ⟨lw_p21, List.forall_mem_cons.mpr ⟨lw_p22, List.forall_mem_cons.mpr ⟨lw_p23, List.forall_mem_cons.mpr ⟨lw_p24, List.forall_mem_cons.mpr ⟨lw_p25, List.forall_mem_cons.mpr ⟨lw_p26, List.forall_mem_cons.mpr ⟨lw_p27, List.forall_mem_cons.mpr ⟨lw_p28, List.forall_mem_cons.mpr ⟨lw_p29, List.forall_mem_cons.mpr ⟨lw_p30, List.forall_mem_cons.mpr ⟨lw_p31, fun _ h => absurd h List.not_mem_nil⟩⟩⟩⟩⟩⟩⟩⟩⟩⟩⟩⟩⟩⟩⟩⟩
theorem lw_p32 : lw_okq (⟨"KeptTablesModel", "slants", "(I)V"⟩, 14) := ⟨⟨by decide +kernel, by decide +kernel⟩, List.mem_of_getElem? (i := 579) (by decide +kernel), List.mem_of_getElem? (i := 786) (by decide +kernel), List.mem_of_getElem? (i := 787) (by decide +kernel)⟩
theorem lw_p33 : lw_okq (⟨"KeptTablesModel", "isGraph", "(I)Z"⟩, 14) := ⟨⟨by decide +kernel, by decide +kernel⟩, List.mem_of_getElem? (i := 579) (by decide +kernel), List.mem_of_getElem? (i := 803) (by decide +kernel), List.mem_of_getElem? (i := 804) (by decide +kernel)⟩
theorem lw_p34 : lw_okq (⟨"KeptTablesModel", "reach", "(III)I"⟩, 14) := ⟨⟨by decide +kernel, by decide +kernel⟩, List.mem_of_getElem? (i := 579) (by decide +kernel), List.mem_of_getElem? (i := 811) (by decide +kernel), List.mem_of_getElem? (i := 812) (by decide +kernel)⟩
theorem lw_p35 : lw_okq (⟨"KeptTablesModel", "leader", "(II)I"⟩, 14) := ⟨⟨by decide +kernel, by decide +kernel⟩, List.mem_of_getElem? (i := 579) (by decide +kernel), List.mem_of_getElem? (i := 819) (by decide +kernel), List.mem_of_getElem? (i := 820) (by decide +kernel)⟩
theorem lw_p36 : lw_okq (⟨"KeptTablesModel", "isRing", "(III)Z"⟩, 14) := ⟨⟨by decide +kernel, by decide +kernel⟩, List.mem_of_getElem? (i := 579) (by decide +kernel), List.mem_of_getElem? (i := 823) (by decide +kernel), List.mem_of_getElem? (i := 824) (by decide +kernel)⟩
theorem lw_p37 : lw_okq (⟨"KeptTablesModel", "isLed", "(III)Z"⟩, 14) := ⟨⟨by decide +kernel, by decide +kernel⟩, List.mem_of_getElem? (i := 579) (by decide +kernel), List.mem_of_getElem? (i := 831) (by decide +kernel), List.mem_of_getElem? (i := 832) (by decide +kernel)⟩
theorem lw_p38 : lw_okq (⟨"KeptTablesModel", "fewest", "(III)I"⟩, 14) := ⟨⟨by decide +kernel, by decide +kernel⟩, List.mem_of_getElem? (i := 579) (by decide +kernel), List.mem_of_getElem? (i := 839) (by decide +kernel), List.mem_of_getElem? (i := 840) (by decide +kernel)⟩
theorem lw_p39 : lw_okq (⟨"KeptTablesModel", "areJoined", "(III)Z"⟩, 14) := ⟨⟨by decide +kernel, by decide +kernel⟩, List.mem_of_getElem? (i := 579) (by decide +kernel), List.mem_of_getElem? (i := 843) (by decide +kernel), List.mem_of_getElem? (i := 844) (by decide +kernel)⟩
theorem lw_p40 : lw_okq (⟨"KeptTablesModel", "neighbours", "(II)I"⟩, 14) := ⟨⟨by decide +kernel, by decide +kernel⟩, List.mem_of_getElem? (i := 579) (by decide +kernel), List.mem_of_getElem? (i := 847) (by decide +kernel), List.mem_of_getElem? (i := 848) (by decide +kernel)⟩
theorem lw_p41 : lw_okq (⟨"KeptTablesModel", "widthOf", "(I)I"⟩, 14) := ⟨⟨by decide +kernel, by decide +kernel⟩, List.mem_of_getElem? (i := 579) (by decide +kernel), List.mem_of_getElem? (i := 851) (by decide +kernel), List.mem_of_getElem? (i := 852) (by decide +kernel)⟩
def lw_privs_3 : List (MethodName × Nat) := [(⟨"KeptTablesModel", "slants", "(I)V"⟩, 14), (⟨"KeptTablesModel", "isGraph", "(I)Z"⟩, 14), (⟨"KeptTablesModel", "reach", "(III)I"⟩, 14), (⟨"KeptTablesModel", "leader", "(II)I"⟩, 14), (⟨"KeptTablesModel", "isRing", "(III)Z"⟩, 14), (⟨"KeptTablesModel", "isLed", "(III)Z"⟩, 14), (⟨"KeptTablesModel", "fewest", "(III)I"⟩, 14), (⟨"KeptTablesModel", "areJoined", "(III)Z"⟩, 14), (⟨"KeptTablesModel", "neighbours", "(II)I"⟩, 14), (⟨"KeptTablesModel", "widthOf", "(I)I"⟩, 14)]
theorem lw_r3 : ∀ q ∈ lw_privs_3, lw_okq q := List.forall_mem_cons.mpr ⟨lw_p32, List.forall_mem_cons.mpr ⟨lw_p33, List.forall_mem_cons.mpr ⟨lw_p34, List.forall_mem_cons.mpr ⟨lw_p35, List.forall_mem_cons.mpr ⟨lw_p36, List.forall_mem_cons.mpr ⟨lw_p37, List.forall_mem_cons.mpr ⟨lw_p38, List.forall_mem_cons.mpr ⟨lw_p39, List.forall_mem_cons.mpr ⟨lw_p40, List.forall_mem_cons.mpr ⟨lw_p41, fun _ h => absurd h List.not_mem_nil⟩⟩⟩⟩⟩⟩⟩⟩⟩⟩
def lw_privs : List (MethodName × Nat) := lw_privs_1 ++ (lw_privs_2 ++ (lw_privs_3))
def lw_tbl : List Cond := k2_sels lw_privs ++ tables_1
theorem lw_privs_ok : ∀ q ∈ lw_privs, lw_okq q := by
  show ∀ q ∈ lw_privs_1 ++ (lw_privs_2 ++ (lw_privs_3)), lw_okq q
  exact List.forall_mem_append.mpr ⟨lw_r1, List.forall_mem_append.mpr ⟨lw_r2, lw_r3⟩⟩
-- ===== end of PART A; then your names; then what follows =====
end
section
/-! ===== BEGIN words of one list among another's, by their places ===== -/
theorem goodIn_r {big : List Cond} (ws : List Cond) (ps : List Nat) (hp : ws = ps.filterMap (fun i => big[i]?)) (h : ws.all goodWord = true) : GoodIn big ws := by
  intro w hw
  have h1 := List.all_eq_true.mp h w hw
  rw [hp] at hw
  obtain ⟨i, -, hi⟩ := List.mem_filterMap.mp hw
  have hm : w ∈ big := by first | exact List.mem_of_getElem? hi | exact List.getElem?_mem hi
  exact ⟨hm, good_of_word h1⟩
theorem goodIn_app {big a b : List Cond} (ha : GoodIn big a) (hb : GoodIn big b) : GoodIn big (a ++ b) := fun w h => (List.mem_append.mp h).elim (ha w) (hb w)
theorem goodIn_ca {big a b : List Cond} {c : Cond} (ha : GoodIn big (c :: a)) (hb : GoodIn big b) : GoodIn big (c :: (a ++ b)) := fun w h => (List.mem_cons.mp h).elim (fun e => ha w (List.mem_cons.mpr (Or.inl e))) (fun h => (List.mem_append.mp h).elim (fun h => ha w (List.mem_cons.mpr (Or.inr h))) (hb w))
theorem goodIn_sub {big ws : List Cond} (hm : ∀ w ∈ ws, w ∈ big) (h : ws.all goodWord = true) : GoodIn big ws := fun w hw => ⟨hm w hw, good_of_word (List.all_eq_true.mp h w hw)⟩
/-! ===== END ===== -/

/-! ===== BEGIN printed: names, fields, word lists, decode rows ===== -/
def RX0 : String := "KeptTables$Forms"
def TX0 : u_T := fun k => match k with
  | _ => ("", "", "", false)
def tyX0 : Nat → FieldType := fun k => match k with
  | _ => .int
abbrev wsX00 : List Cond := u_ws RX0 TX0 0
theorem nmX0 : ∀ a, a < 0 → ∀ b, b < 0 → a ≠ b → (TX0 a).2.1 ≠ (TX0 b).2.1 := by decide +kernel
theorem tyX0_ok : ∀ k, k < 0 → parseFieldDescriptor (TX0 k).2.2.1 = some (tyX0 k) := by decide +kernel
abbrev cX0_isForm : ByteArray := prog_2_method_2_code
def yX0_isForm : MethodName := ⟨RX0, "isForm", "(II)Z"⟩
abbrev cX0_isBlockSide : ByteArray := prog_2_method_3_code
def yX0_isBlockSide : MethodName := ⟨RX0, "isBlockSide", "(I)Z"⟩
abbrev cX0_cellCount : ByteArray := prog_2_method_4_code
def yX0_cellCount : MethodName := ⟨RX0, "cellCount", "(LKeptTables$Grid;IILKeptTables$Grid;)I"⟩
abbrev cX0_cellValue : ByteArray := prog_2_method_5_code
def yX0_cellValue : MethodName := ⟨RX0, "cellValue", "(LKeptTables$Grid;IIILKeptTables$Grid;)J"⟩
abbrev cX0_triplesCell : ByteArray := prog_2_method_6_code
def yX0_triplesCell : MethodName := ⟨RX0, "triplesCell", "(LKeptTables$Grid;I)J"⟩
abbrev cX0_byRowsCell : ByteArray := prog_2_method_7_code
def yX0_byRowsCell : MethodName := ⟨RX0, "byRowsCell", "(LKeptTables$Grid;I)J"⟩
abbrev cX0_blocksCell : ByteArray := prog_2_method_8_code
def yX0_blocksCell : MethodName := ⟨RX0, "blocksCell", "(LKeptTables$Grid;LKeptTables$Grid;II)J"⟩
abbrev cX0_headLength : ByteArray := prog_2_method_9_code
def yX0_headLength : MethodName := ⟨RX0, "headLength", "(LKeptTables$Grid;)I"⟩
abbrev cX0_headCell : ByteArray := prog_2_method_10_code
def yX0_headCell : MethodName := ⟨RX0, "headCell", "(LKeptTables$Grid;I)I"⟩
abbrev cX0_fullCell : ByteArray := prog_2_method_11_code
def yX0_fullCell : MethodName := ⟨RX0, "fullCell", "(LKeptTables$Grid;I)J"⟩
abbrev cX0_slantCount : ByteArray := prog_2_method_12_code
def yX0_slantCount : MethodName := ⟨RX0, "slantCount", "(LKeptTables$Grid;)I"⟩
abbrev cX0_slantsCell : ByteArray := prog_2_method_13_code
def yX0_slantsCell : MethodName := ⟨RX0, "slantsCell", "(LKeptTables$Grid;I)J"⟩
def RX1 : String := "KeptTables$Graph"
def TX1 : u_T := fun k => match k with
  | 0 => ("KeptTables$Graph", "size", "I", false)
  | 1 => ("KeptTables$Graph", "arcs", "[I", true)
  | 2 => ("KeptTables$Graph", "neighbours", "[I", true)
  | 3 => ("KeptTables$Graph", "reach", "[I", true)
  | 4 => ("KeptTables$Graph", "steps", "[J", false)
  | _ => ("KeptTables$Graph", "nextSteps", "[J", false)
def tyX1 : Nat → FieldType := fun k => match k with
  | 0 => .int
  | 1 => .array .int
  | 2 => .array .int
  | 3 => .array .int
  | 4 => .array .long
  | _ => .array .long
abbrev wsX10 : List Cond := u_ws RX1 TX1 6
theorem nmX1 : ∀ a, a < 6 → ∀ b, b < 6 → a ≠ b → (TX1 a).2.1 ≠ (TX1 b).2.1 := by decide +kernel
theorem tyX1_ok : ∀ k, k < 6 → parseFieldDescriptor (TX1 k).2.2.1 = some (tyX1 k) := by decide +kernel
abbrev cX1_init : ByteArray := prog_3_method_1_code
def yX1_init : MethodName := ⟨RX1, "<init>", "()V"⟩
abbrev cX1_read : ByteArray := prog_3_method_2_code
def yX1_read : MethodName := ⟨RX1, "read", "(LKeptTables$Grid;)V"⟩
abbrev cX1_sourcesOf : ByteArray := prog_3_method_3_code
def yX1_sourcesOf : MethodName := ⟨RX1, "sourcesOf", "(I)I"⟩
abbrev cX1_allNodes : ByteArray := prog_3_method_4_code
def yX1_allNodes : MethodName := ⟨RX1, "allNodes", "()I"⟩
abbrev cX1_walkSum : ByteArray := prog_3_method_5_code
def yX1_walkSum : MethodName := ⟨RX1, "walkSum", "(LKeptTables$Grid;III)J"⟩
abbrev cX1_walkOn : ByteArray := prog_3_method_6_code
def yX1_walkOn : MethodName := ⟨RX1, "walkOn", "(LKeptTables$Grid;)V"⟩
abbrev cX1_wayLength : ByteArray := prog_3_method_7_code
def yX1_wayLength : MethodName := ⟨RX1, "wayLength", "(II)I"⟩
abbrev cX1_targetsOf : ByteArray := prog_3_method_8_code
def yX1_targetsOf : MethodName := ⟨RX1, "targetsOf", "(I)I"⟩
abbrev cX1_closeReach : ByteArray := prog_3_method_9_code
def yX1_closeReach : MethodName := ⟨RX1, "closeReach", "()V"⟩
abbrev cX1_leastOfRing : ByteArray := prog_3_method_10_code
def yX1_leastOfRing : MethodName := ⟨RX1, "leastOfRing", "(I)I"⟩
abbrev cX1_ringsBelow : ByteArray := prog_3_method_11_code
def yX1_ringsBelow : MethodName := ⟨RX1, "ringsBelow", "(I)I"⟩
abbrev cX1_sortInto : ByteArray := prog_3_method_12_code
def yX1_sortInto : MethodName := ⟨RX1, "sortInto", "(LKeptTables$Numbers;)Z"⟩
abbrev cX1_leastWithoutSource : ByteArray := prog_3_method_13_code
def yX1_leastWithoutSource : MethodName := ⟨RX1, "leastWithoutSource", "(I)I"⟩
abbrev cX1_narrowInto : ByteArray := prog_3_method_14_code
def yX1_narrowInto : MethodName := ⟨RX1, "narrowInto", "(LKeptTables$Numbers;)V"⟩
abbrev cX1_moveAll : ByteArray := prog_3_method_15_code
def yX1_moveAll : MethodName := ⟨RX1, "moveAll", "(IILKeptTables$Numbers;)I"⟩
abbrev cX1_moveFewest : ByteArray := prog_3_method_16_code
def yX1_moveFewest : MethodName := ⟨RX1, "moveFewest", "(IILKeptTables$Numbers;)I"⟩
abbrev cX1_neighboursOf : ByteArray := prog_3_method_17_code
def yX1_neighboursOf : MethodName := ⟨RX1, "neighboursOf", "(I)I"⟩
abbrev cX1_widthOf : ByteArray := prog_3_method_18_code
def yX1_widthOf : MethodName := ⟨RX1, "widthOf", "(LKeptTables$Numbers;)I"⟩
def RX2 : String := "KeptTables$Grid"
def TX2 : u_T := fun k => match k with
  | 0 => ("KeptTables$Grid", "rowCount", "I", false)
  | 1 => ("KeptTables$Grid", "columnCount", "I", false)
  | 2 => ("KeptTables$Grid", "keptColumns", "[I", true)
  | _ => ("KeptTables$Grid", "values", "[J", true)
def tyX2 : Nat → FieldType := fun k => match k with
  | 0 => .int
  | 1 => .int
  | 2 => .array .int
  | _ => .array .long
abbrev wsX20 : List Cond := u_ws RX2 TX2 4
theorem nmX2 : ∀ a, a < 4 → ∀ b, b < 4 → a ≠ b → (TX2 a).2.1 ≠ (TX2 b).2.1 := by decide +kernel
theorem tyX2_ok : ∀ k, k < 4 → parseFieldDescriptor (TX2 k).2.2.1 = some (tyX2 k) := by decide +kernel
abbrev cX2_init : ByteArray := prog_4_method_1_code
def yX2_init : MethodName := ⟨RX2, "<init>", "()V"⟩
abbrev cX2_begin : ByteArray := prog_4_method_2_code
def yX2_begin : MethodName := ⟨RX2, "begin", "(II)V"⟩
abbrev cX2_become : ByteArray := prog_4_method_3_code
def yX2_become : MethodName := ⟨RX2, "become", "(LKeptTables$Grid;)V"⟩
abbrev cX2_hasRow : ByteArray := prog_4_method_4_code
def yX2_hasRow : MethodName := ⟨RX2, "hasRow", "(I)Z"⟩
abbrev cX2_covers : ByteArray := prog_4_method_5_code
def yX2_covers : MethodName := ⟨RX2, "covers", "(II)Z"⟩
abbrev cX2_isSquare : ByteArray := prog_4_method_6_code
def yX2_isSquare : MethodName := ⟨RX2, "isSquare", "()Z"⟩
abbrev cX2_hasSizeOf : ByteArray := prog_4_method_7_code
def yX2_hasSizeOf : MethodName := ⟨RX2, "hasSizeOf", "(LKeptTables$Grid;)Z"⟩
abbrev cX2_columnsOf : ByteArray := prog_4_method_8_code
def yX2_columnsOf : MethodName := ⟨RX2, "columnsOf", "(I)I"⟩
abbrev cX2_keeps : ByteArray := prog_4_method_9_code
def yX2_keeps : MethodName := ⟨RX2, "keeps", "(II)Z"⟩
abbrev cX2_value : ByteArray := prog_4_method_10_code
def yX2_value : MethodName := ⟨RX2, "value", "(II)J"⟩
abbrev cX2_put : ByteArray := prog_4_method_11_code
def yX2_put : MethodName := ⟨RX2, "put", "(IIJ)V"⟩
abbrev cX2_putSum : ByteArray := prog_4_method_12_code
def yX2_putSum : MethodName := ⟨RX2, "putSum", "(IIJ)V"⟩
abbrev cX2_drop : ByteArray := prog_4_method_13_code
def yX2_drop : MethodName := ⟨RX2, "drop", "(II)V"⟩
abbrev cX2_keptCount : ByteArray := prog_4_method_14_code
def yX2_keptCount : MethodName := ⟨RX2, "keptCount", "()I"⟩
abbrev cX2_keptAhead : ByteArray := prog_4_method_15_code
def yX2_keptAhead : MethodName := ⟨RX2, "keptAhead", "(I)I"⟩
abbrev cX2_orderNumber : ByteArray := prog_4_method_16_code
def yX2_orderNumber : MethodName := ⟨RX2, "orderNumber", "(II)I"⟩
abbrev cX2_placeNumber : ByteArray := prog_4_method_17_code
def yX2_placeNumber : MethodName := ⟨RX2, "placeNumber", "(I)I"⟩
abbrev cX2_bitNumber : ByteArray := prog_4_method_18_code
def yX2_bitNumber : MethodName := ⟨RX2, "bitNumber", "(II)I"⟩
abbrev cX2_keptZeros : ByteArray := prog_4_method_19_code
def yX2_keptZeros : MethodName := ⟨RX2, "keptZeros", "()I"⟩
abbrev cX2_dropZeros : ByteArray := prog_4_method_20_code
def yX2_dropZeros : MethodName := ⟨RX2, "dropZeros", "()I"⟩
abbrev cX2_rowSum : ByteArray := prog_4_method_21_code
def yX2_rowSum : MethodName := ⟨RX2, "rowSum", "(I)J"⟩
abbrev cX2_columnSum : ByteArray := prog_4_method_22_code
def yX2_columnSum : MethodName := ⟨RX2, "columnSum", "(I)J"⟩
abbrev cX2_addMultiple : ByteArray := prog_4_method_23_code
def yX2_addMultiple : MethodName := ⟨RX2, "addMultiple", "(LKeptTables$Grid;J)V"⟩
abbrev cX2_becomeProduct : ByteArray := prog_4_method_24_code
def yX2_becomeProduct : MethodName := ⟨RX2, "becomeProduct", "(LKeptTables$Grid;LKeptTables$Grid;)V"⟩
abbrev cX2_addRowMultiple : ByteArray := prog_4_method_25_code
def yX2_addRowMultiple : MethodName := ⟨RX2, "addRowMultiple", "(ILKeptTables$Grid;IJ)V"⟩
abbrev cX2_becomeEach : ByteArray := prog_4_method_26_code
def yX2_becomeEach : MethodName := ⟨RX2, "becomeEach", "(LKeptTables$Grid;LKeptTables$Grid;)V"⟩
abbrev cX2_becomeMasked : ByteArray := prog_4_method_27_code
def yX2_becomeMasked : MethodName := ⟨RX2, "becomeMasked", "(LKeptTables$Grid;LKeptTables$Grid;Z)V"⟩
abbrev cX2_becomeTurned : ByteArray := prog_4_method_28_code
def yX2_becomeTurned : MethodName := ⟨RX2, "becomeTurned", "(LKeptTables$Grid;)V"⟩
abbrev cX2_becomeRows : ByteArray := prog_4_method_29_code
def yX2_becomeRows : MethodName := ⟨RX2, "becomeRows", "(LKeptTables$Grid;LKeptTables$Numbers;)V"⟩
abbrev cX2_becomeSlopesOfLeft : ByteArray := prog_4_method_30_code
def yX2_becomeSlopesOfLeft : MethodName := ⟨RX2, "becomeSlopesOfLeft", "(LKeptTables$Grid;LKeptTables$Grid;LKeptTables$Grid;)V"⟩
abbrev cX2_becomeSlopesOfRight : ByteArray := prog_4_method_31_code
def yX2_becomeSlopesOfRight : MethodName := ⟨RX2, "becomeSlopesOfRight", "(LKeptTables$Grid;LKeptTables$Grid;LKeptTables$Grid;)V"⟩
abbrev cX2_productOfRows : ByteArray := prog_4_method_32_code
def yX2_productOfRows : MethodName := ⟨RX2, "productOfRows", "(ILKeptTables$Grid;I)J"⟩
abbrev cX2_productOfColumns : ByteArray := prog_4_method_33_code
def yX2_productOfColumns : MethodName := ⟨RX2, "productOfColumns", "(ILKeptTables$Grid;I)J"⟩
abbrev cX2_becomeBlocks : ByteArray := prog_4_method_34_code
def yX2_becomeBlocks : MethodName := ⟨RX2, "becomeBlocks", "(LKeptTables$Grid;I)V"⟩
abbrev cX2_keepsOnSlant : ByteArray := prog_4_method_35_code
def yX2_keepsOnSlant : MethodName := ⟨RX2, "keepsOnSlant", "(I)Z"⟩
def RX3 : String := "KeptTables$Numbers"
def TX3 : u_T := fun k => match k with
  | 0 => ("KeptTables$Numbers", "length", "I", false)
  | _ => ("KeptTables$Numbers", "items", "[I", true)
def tyX3 : Nat → FieldType := fun k => match k with
  | 0 => .int
  | _ => .array .int
abbrev wsX30 : List Cond := u_ws RX3 TX3 2
theorem nmX3 : ∀ a, a < 2 → ∀ b, b < 2 → a ≠ b → (TX3 a).2.1 ≠ (TX3 b).2.1 := by decide +kernel
theorem tyX3_ok : ∀ k, k < 2 → parseFieldDescriptor (TX3 k).2.2.1 = some (tyX3 k) := by decide +kernel
abbrev cX3_init : ByteArray := prog_5_method_1_code
def yX3_init : MethodName := ⟨RX3, "<init>", "()V"⟩
abbrev cX3_append : ByteArray := prog_5_method_2_code
def yX3_append : MethodName := ⟨RX3, "append", "(I)V"⟩
abbrev cX3_clear : ByteArray := prog_5_method_3_code
def yX3_clear : MethodName := ⟨RX3, "clear", "()V"⟩
abbrev cX3_item : ByteArray := prog_5_method_4_code
def yX3_item : MethodName := ⟨RX3, "item", "(I)I"⟩
abbrev cX3_areBelow : ByteArray := prog_5_method_5_code
def yX3_areBelow : MethodName := ⟨RX3, "areBelow", "(I)Z"⟩
abbrev cX3_areEachBelowOnce : ByteArray := prog_5_method_6_code
def yX3_areEachBelowOnce : MethodName := ⟨RX3, "areEachBelowOnce", "(I)Z"⟩
def RX4 : String := "KeptTables$Triples"
def TX4 : u_T := fun k => match k with
  | 0 => ("KeptTables$Triples", "length", "I", false)
  | 1 => ("KeptTables$Triples", "rowNumbers", "[I", true)
  | 2 => ("KeptTables$Triples", "columnNumbers", "[I", true)
  | _ => ("KeptTables$Triples", "values", "[J", true)
def tyX4 : Nat → FieldType := fun k => match k with
  | 0 => .int
  | 1 => .array .int
  | 2 => .array .int
  | _ => .array .long
abbrev wsX40 : List Cond := u_ws RX4 TX4 4
theorem nmX4 : ∀ a, a < 4 → ∀ b, b < 4 → a ≠ b → (TX4 a).2.1 ≠ (TX4 b).2.1 := by decide +kernel
theorem tyX4_ok : ∀ k, k < 4 → parseFieldDescriptor (TX4 k).2.2.1 = some (tyX4 k) := by decide +kernel
abbrev cX4_init : ByteArray := prog_6_method_1_code
def yX4_init : MethodName := ⟨RX4, "<init>", "()V"⟩
abbrev cX4_append : ByteArray := prog_6_method_2_code
def yX4_append : MethodName := ⟨RX4, "append", "(IIJ)V"⟩
abbrev cX4_clear : ByteArray := prog_6_method_3_code
def yX4_clear : MethodName := ⟨RX4, "clear", "()V"⟩
abbrev cX4_lieIn : ByteArray := prog_6_method_4_code
def yX4_lieIn : MethodName := ⟨RX4, "lieIn", "(LKeptTables$Grid;)Z"⟩
abbrev cX4_addTo : ByteArray := prog_6_method_5_code
def yX4_addTo : MethodName := ⟨RX4, "addTo", "(LKeptTables$Grid;)V"⟩
def RX5 : String := "KeptTables"
def TX5 : u_T := fun k => match k with
  | 0 => ("KeptTables", "grids", "[LKeptTables$Grid;", true)
  | 1 => ("KeptTables", "triples", "LKeptTables$Triples;", true)
  | 2 => ("KeptTables", "graph", "LKeptTables$Graph;", true)
  | 3 => ("KeptTables", "draft", "LKeptTables$Grid;", false)
  | 4 => ("KeptTables", "numbers", "LKeptTables$Numbers;", false)
  | _ => ("KeptTables", "draftNumbers", "LKeptTables$Numbers;", false)
def tyX5 : Nat → FieldType := fun k => match k with
  | 0 => .array (.object "KeptTables$Grid")
  | 1 => .object "KeptTables$Triples"
  | 2 => .object "KeptTables$Graph"
  | 3 => .object "KeptTables$Grid"
  | 4 => .object "KeptTables$Numbers"
  | _ => .object "KeptTables$Numbers"
abbrev wsX50 : List Cond := u_ws RX5 TX5 6
theorem nmX5 : ∀ a, a < 6 → ∀ b, b < 6 → a ≠ b → (TX5 a).2.1 ≠ (TX5 b).2.1 := by decide +kernel
theorem tyX5_ok : ∀ k, k < 6 → parseFieldDescriptor (TX5 k).2.2.1 = some (tyX5 k) := by decide +kernel
abbrev cX5_init : ByteArray := prog_1_method_1_code
def yX5_init : MethodName := ⟨RX5, "<init>", "()V"⟩
abbrev cX5_table : ByteArray := prog_1_method_2_code
def yX5_table : MethodName := ⟨RX5, "table", "(III)I"⟩
abbrev cX5_triple : ByteArray := prog_1_method_3_code
def yX5_triple : MethodName := ⟨RX5, "triple", "(IIJ)I"⟩
abbrev cX5_list : ByteArray := prog_1_method_4_code
def yX5_list : MethodName := ⟨RX5, "list", "(I)I"⟩
abbrev cX5_listed : ByteArray := prog_1_method_5_code
def yX5_listed : MethodName := ⟨RX5, "listed", "(I)I"⟩
abbrev cX5_join : ByteArray := prog_1_method_6_code
def yX5_join : MethodName := ⟨RX5, "join", "(I)I"⟩
abbrev cX5_count : ByteArray := prog_1_method_7_code
def yX5_count : MethodName := ⟨RX5, "count", "(II)I"⟩
abbrev cX5_at : ByteArray := prog_1_method_8_code
def yX5_at : MethodName := ⟨RX5, "at", "(III)J"⟩
abbrev cX5_kept : ByteArray := prog_1_method_9_code
def yX5_kept : MethodName := ⟨RX5, "kept", "(III)I"⟩
abbrev cX5_place : ByteArray := prog_1_method_10_code
def yX5_place : MethodName := ⟨RX5, "place", "(II)I"⟩
abbrev cX5_set : ByteArray := prog_1_method_11_code
def yX5_set : MethodName := ⟨RX5, "set", "(IIIJ)I"⟩
abbrev cX5_prune : ByteArray := prog_1_method_12_code
def yX5_prune : MethodName := ⟨RX5, "prune", "(I)I"⟩
abbrev cX5_add : ByteArray := prog_1_method_13_code
def yX5_add : MethodName := ⟨RX5, "add", "(IIIJJ)I"⟩
abbrev cX5_times : ByteArray := prog_1_method_14_code
def yX5_times : MethodName := ⟨RX5, "times", "(III)I"⟩
abbrev cX5_each : ByteArray := prog_1_method_15_code
def yX5_each : MethodName := ⟨RX5, "each", "(III)I"⟩
abbrev cX5_mask : ByteArray := prog_1_method_16_code
def yX5_mask : MethodName := ⟨RX5, "mask", "(IIIZ)I"⟩
abbrev cX5_turn : ByteArray := prog_1_method_17_code
def yX5_turn : MethodName := ⟨RX5, "turn", "(II)I"⟩
abbrev cX5_rows : ByteArray := prog_1_method_18_code
def yX5_rows : MethodName := ⟨RX5, "rows", "(II)I"⟩
abbrev cX5_slopes : ByteArray := prog_1_method_19_code
def yX5_slopes : MethodName := ⟨RX5, "slopes", "(IIIIZ)I"⟩
abbrev cX5_sum : ByteArray := prog_1_method_20_code
def yX5_sum : MethodName := ⟨RX5, "sum", "(IZI)J"⟩
abbrev cX5_cost : ByteArray := prog_1_method_21_code
def yX5_cost : MethodName := ⟨RX5, "cost", "(III)I"⟩
abbrev cX5_cheapest : ByteArray := prog_1_method_22_code
def yX5_cheapest : MethodName := ⟨RX5, "cheapest", "(II)I"⟩
abbrev cX5_cell : ByteArray := prog_1_method_23_code
def yX5_cell : MethodName := ⟨RX5, "cell", "(IIII)J"⟩
abbrev cX5_walks : ByteArray := prog_1_method_24_code
def yX5_walks : MethodName := ⟨RX5, "walks", "(IIII)J"⟩
abbrev cX5_way : ByteArray := prog_1_method_25_code
def yX5_way : MethodName := ⟨RX5, "way", "(III)I"⟩
abbrev cX5_ring : ByteArray := prog_1_method_26_code
def yX5_ring : MethodName := ⟨RX5, "ring", "(II)I"⟩
abbrev cX5_sort : ByteArray := prog_1_method_27_code
def yX5_sort : MethodName := ⟨RX5, "sort", "(I)I"⟩
abbrev cX5_narrow : ByteArray := prog_1_method_28_code
def yX5_narrow : MethodName := ⟨RX5, "narrow", "(I)I"⟩
abbrev cX5_width : ByteArray := prog_1_method_29_code
def yX5_width : MethodName := ⟨RX5, "width", "(I)I"⟩
abbrev cX5_isSlot : ByteArray := prog_1_method_30_code
def yX5_isSlot : MethodName := ⟨RX5, "isSlot", "(I)Z"⟩
abbrev cX5_isSize : ByteArray := prog_1_method_31_code
def yX5_isSize : MethodName := ⟨RX5, "isSize", "(I)Z"⟩
abbrev cX5_isLine : ByteArray := prog_1_method_32_code
def yX5_isLine : MethodName := ⟨RX5, "isLine", "(I)Z"⟩
abbrev cX5_hasBit : ByteArray := prog_1_method_33_code
def yX5_hasBit : MethodName := ⟨RX5, "hasBit", "(II)Z"⟩
abbrev cX5_gridAt : ByteArray := prog_1_method_34_code
def yX5_gridAt : MethodName := ⟨RX5, "gridAt", "(I)LKeptTables$Grid;"⟩
abbrev cX5_putDraft : ByteArray := prog_1_method_35_code
def yX5_putDraft : MethodName := ⟨RX5, "putDraft", "(I)I"⟩
abbrev cX5_putDraftNumbers : ByteArray := prog_1_method_36_code
def yX5_putDraftNumbers : MethodName := ⟨RX5, "putDraftNumbers", "()V"⟩
def RX6 : String := "KeptTablesModel"
def TX6 : u_T := fun k => match k with
  | 0 => ("KeptTablesModel", "there", "[Z", true)
  | 1 => ("KeptTablesModel", "high", "[I", true)
  | 2 => ("KeptTablesModel", "wide", "[I", true)
  | 3 => ("KeptTablesModel", "isKept", "[Z", true)
  | 4 => ("KeptTablesModel", "value", "[J", true)
  | 5 => ("KeptTablesModel", "triples", "I", false)
  | 6 => ("KeptTablesModel", "tripleAt", "[I", true)
  | 7 => ("KeptTablesModel", "tripleValue", "[J", true)
  | 8 => ("KeptTablesModel", "listMany", "I", false)
  | 9 => ("KeptTablesModel", "listOf", "[I", true)
  | 10 => ("KeptTablesModel", "cells", "[J", true)
  | 11 => ("KeptTablesModel", "laid", "I", false)
  | 12 => ("KeptTablesModel", "here", "[J", true)
  | _ => ("KeptTablesModel", "next", "[J", true)
def tyX6 : Nat → FieldType := fun k => match k with
  | 0 => .array .boolean
  | 1 => .array .int
  | 2 => .array .int
  | 3 => .array .boolean
  | 4 => .array .long
  | 5 => .int
  | 6 => .array .int
  | 7 => .array .long
  | 8 => .int
  | 9 => .array .int
  | 10 => .array .long
  | 11 => .int
  | 12 => .array .long
  | _ => .array .long
abbrev wsX60 : List Cond := u_ws RX6 TX6 14
theorem nmX6 : ∀ a, a < 14 → ∀ b, b < 14 → a ≠ b → (TX6 a).2.1 ≠ (TX6 b).2.1 := by decide +kernel
theorem tyX6_ok : ∀ k, k < 14 → parseFieldDescriptor (TX6 k).2.2.1 = some (tyX6 k) := by decide +kernel
abbrev cX6_init : ByteArray := prog_8_method_1_code
def yX6_init : MethodName := ⟨RX6, "<init>", "()V"⟩
abbrev cX6_isNumber : ByteArray := prog_8_method_3_code
def yX6_isNumber : MethodName := ⟨RX6, "isNumber", "(I)Z"⟩
abbrev cX6_isTable : ByteArray := prog_8_method_4_code
def yX6_isTable : MethodName := ⟨RX6, "isTable", "(I)Z"⟩
abbrev cX6_cellOf : ByteArray := prog_8_method_5_code
def yX6_cellOf : MethodName := ⟨RX6, "cellOf", "(III)I"⟩
abbrev cX6_isIn : ByteArray := prog_8_method_6_code
def yX6_isIn : MethodName := ⟨RX6, "isIn", "(III)Z"⟩
abbrev cX6_begin : ByteArray := prog_8_method_7_code
def yX6_begin : MethodName := ⟨RX6, "begin", "(II)V"⟩
abbrev cX6_many : ByteArray := prog_8_method_8_code
def yX6_many : MethodName := ⟨RX6, "many", "(I)I"⟩
abbrev cX6_putAt : ByteArray := prog_8_method_9_code
def yX6_putAt : MethodName := ⟨RX6, "putAt", "(I)I"⟩
abbrev cX6_keep : ByteArray := prog_8_method_10_code
def yX6_keep : MethodName := ⟨RX6, "keep", "(IIJ)V"⟩
abbrev cX6_has : ByteArray := prog_8_method_11_code
def yX6_has : MethodName := ⟨RX6, "has", "(III)Z"⟩
abbrev cX6_holds : ByteArray := prog_8_method_12_code
def yX6_holds : MethodName := ⟨RX6, "holds", "(III)J"⟩
abbrev cX6_table : ByteArray := prog_8_method_13_code
def yX6_table : MethodName := ⟨RX6, "table", "(III)I"⟩
abbrev cX6_triple : ByteArray := prog_8_method_14_code
def yX6_triple : MethodName := ⟨RX6, "triple", "(IIJ)I"⟩
abbrev cX6_list : ByteArray := prog_8_method_15_code
def yX6_list : MethodName := ⟨RX6, "list", "(I)I"⟩
abbrev cX6_listed : ByteArray := prog_8_method_16_code
def yX6_listed : MethodName := ⟨RX6, "listed", "(I)I"⟩
abbrev cX6_take : ByteArray := prog_8_method_17_code
def yX6_take : MethodName := ⟨RX6, "take", "(I)V"⟩
abbrev cX6_join : ByteArray := prog_8_method_18_code
def yX6_join : MethodName := ⟨RX6, "join", "(I)I"⟩
abbrev cX6_count : ByteArray := prog_8_method_19_code
def yX6_count : MethodName := ⟨RX6, "count", "(II)I"⟩
abbrev cX6_at : ByteArray := prog_8_method_20_code
def yX6_at : MethodName := ⟨RX6, "at", "(III)J"⟩
abbrev cX6_kept : ByteArray := prog_8_method_21_code
def yX6_kept : MethodName := ⟨RX6, "kept", "(III)I"⟩
abbrev cX6_place : ByteArray := prog_8_method_22_code
def yX6_place : MethodName := ⟨RX6, "place", "(II)I"⟩
abbrev cX6_set : ByteArray := prog_8_method_23_code
def yX6_set : MethodName := ⟨RX6, "set", "(IIIJ)I"⟩
abbrev cX6_prune : ByteArray := prog_8_method_24_code
def yX6_prune : MethodName := ⟨RX6, "prune", "(I)I"⟩
abbrev cX6_areLike : ByteArray := prog_8_method_25_code
def yX6_areLike : MethodName := ⟨RX6, "areLike", "(II)Z"⟩
abbrev cX6_add : ByteArray := prog_8_method_26_code
def yX6_add : MethodName := ⟨RX6, "add", "(IIIJJ)I"⟩
abbrev cX6_times : ByteArray := prog_8_method_27_code
def yX6_times : MethodName := ⟨RX6, "times", "(III)I"⟩
abbrev cX6_each : ByteArray := prog_8_method_28_code
def yX6_each : MethodName := ⟨RX6, "each", "(III)I"⟩
abbrev cX6_mask : ByteArray := prog_8_method_29_code
def yX6_mask : MethodName := ⟨RX6, "mask", "(IIIZ)I"⟩
abbrev cX6_turn : ByteArray := prog_8_method_30_code
def yX6_turn : MethodName := ⟨RX6, "turn", "(II)I"⟩
abbrev cX6_rows : ByteArray := prog_8_method_31_code
def yX6_rows : MethodName := ⟨RX6, "rows", "(II)I"⟩
abbrev cX6_slopes : ByteArray := prog_8_method_32_code
def yX6_slopes : MethodName := ⟨RX6, "slopes", "(IIIIZ)I"⟩
abbrev cX6_sum : ByteArray := prog_8_method_33_code
def yX6_sum : MethodName := ⟨RX6, "sum", "(IZI)J"⟩
abbrev cX6_lay : ByteArray := prog_8_method_34_code
def yX6_lay : MethodName := ⟨RX6, "lay", "(J)V"⟩
abbrev cX6_byRows : ByteArray := prog_8_method_35_code
def yX6_byRows : MethodName := ⟨RX6, "byRows", "(I)V"⟩
abbrev cX6_byColumns : ByteArray := prog_8_method_36_code
def yX6_byColumns : MethodName := ⟨RX6, "byColumns", "(I)V"⟩
abbrev cX6_isBlock : ByteArray := prog_8_method_37_code
def yX6_isBlock : MethodName := ⟨RX6, "isBlock", "(IIII)Z"⟩
abbrev cX6_blocks : ByteArray := prog_8_method_38_code
def yX6_blocks : MethodName := ⟨RX6, "blocks", "(II)V"⟩
abbrev cX6_layBlock : ByteArray := prog_8_method_39_code
def yX6_layBlock : MethodName := ⟨RX6, "layBlock", "(IIIII)V"⟩
abbrev cX6_slants : ByteArray := prog_8_method_40_code
def yX6_slants : MethodName := ⟨RX6, "slants", "(I)V"⟩
abbrev cX6_layOut : ByteArray := prog_8_method_41_code
def yX6_layOut : MethodName := ⟨RX6, "layOut", "(III)V"⟩
abbrev cX6_isForm : ByteArray := prog_8_method_42_code
def yX6_isForm : MethodName := ⟨RX6, "isForm", "(II)Z"⟩
abbrev cX6_cost : ByteArray := prog_8_method_43_code
def yX6_cost : MethodName := ⟨RX6, "cost", "(III)I"⟩
abbrev cX6_cheapest : ByteArray := prog_8_method_44_code
def yX6_cheapest : MethodName := ⟨RX6, "cheapest", "(II)I"⟩
abbrev cX6_cell : ByteArray := prog_8_method_45_code
def yX6_cell : MethodName := ⟨RX6, "cell", "(IIII)J"⟩
abbrev cX6_isGraph : ByteArray := prog_8_method_46_code
def yX6_isGraph : MethodName := ⟨RX6, "isGraph", "(I)Z"⟩
abbrev cX6_walks : ByteArray := prog_8_method_47_code
def yX6_walks : MethodName := ⟨RX6, "walks", "(IIII)J"⟩
abbrev cX6_reach : ByteArray := prog_8_method_48_code
def yX6_reach : MethodName := ⟨RX6, "reach", "(III)I"⟩
abbrev cX6_way : ByteArray := prog_8_method_49_code
def yX6_way : MethodName := ⟨RX6, "way", "(III)I"⟩
abbrev cX6_isRing : ByteArray := prog_8_method_50_code
def yX6_isRing : MethodName := ⟨RX6, "isRing", "(III)Z"⟩
abbrev cX6_leader : ByteArray := prog_8_method_51_code
def yX6_leader : MethodName := ⟨RX6, "leader", "(II)I"⟩
abbrev cX6_ring : ByteArray := prog_8_method_52_code
def yX6_ring : MethodName := ⟨RX6, "ring", "(II)I"⟩
abbrev cX6_sort : ByteArray := prog_8_method_53_code
def yX6_sort : MethodName := ⟨RX6, "sort", "(I)I"⟩
abbrev cX6_isLed : ByteArray := prog_8_method_54_code
def yX6_isLed : MethodName := ⟨RX6, "isLed", "(III)Z"⟩
abbrev cX6_areJoined : ByteArray := prog_8_method_55_code
def yX6_areJoined : MethodName := ⟨RX6, "areJoined", "(III)Z"⟩
abbrev cX6_neighbours : ByteArray := prog_8_method_56_code
def yX6_neighbours : MethodName := ⟨RX6, "neighbours", "(II)I"⟩
abbrev cX6_fewest : ByteArray := prog_8_method_57_code
def yX6_fewest : MethodName := ⟨RX6, "fewest", "(III)I"⟩
abbrev cX6_narrow : ByteArray := prog_8_method_58_code
def yX6_narrow : MethodName := ⟨RX6, "narrow", "(I)I"⟩
abbrev cX6_widthOf : ByteArray := prog_8_method_59_code
def yX6_widthOf : MethodName := ⟨RX6, "widthOf", "(I)I"⟩
abbrev cX6_width : ByteArray := prog_8_method_60_code
def yX6_width : MethodName := ⟨RX6, "width", "(I)I"⟩
def RJ6 : String := "java/lang/Integer"
def TJ6 : u_T := fun k => match k with
  | _ => ("", "", "", false)
def tyJ6 : Nat → FieldType := fun k => match k with
  | _ => .int
abbrev wsJ60 : List Cond := u_ws RJ6 TJ6 0
theorem nmJ6 : ∀ a, a < 0 → ∀ b, b < 0 → a ≠ b → (TJ6 a).2.1 ≠ (TJ6 b).2.1 := by decide +kernel
theorem tyJ6_ok : ∀ k, k < 0 → parseFieldDescriptor (TJ6 k).2.2.1 = some (tyJ6 k) := by decide +kernel
abbrev cJ6_bitCount_0f7a4 : ByteArray := prog_9_method_49_code
def yJ6_bitCount_0f7a4 : MethodName := ⟨RJ6, "bitCount", "(I)I"⟩
def RJ9 : String := "java/lang/Math"
def TJ9 : u_T := fun k => match k with
  | _ => ("", "", "", false)
def tyJ9 : Nat → FieldType := fun k => match k with
  | _ => .int
abbrev wsJ90 : List Cond := u_ws RJ9 TJ9 0
theorem nmJ9 : ∀ a, a < 0 → ∀ b, b < 0 → a ≠ b → (TJ9 a).2.1 ≠ (TJ9 b).2.1 := by decide +kernel
theorem tyJ9_ok : ∀ k, k < 0 → parseFieldDescriptor (TJ9 k).2.2.1 = some (tyJ9 k) := by decide +kernel
abbrev cJ9_max_7cf53 : ByteArray := prog_10_method_65_code
def yJ9_max_7cf53 : MethodName := ⟨RJ9, "max", "(II)I"⟩
def RJ10 : String := "java/lang/System"
def TJ10 : u_T := fun k => match k with
  | _ => ("", "", "", false)
def tyJ10 : Nat → FieldType := fun k => match k with
  | _ => .int
abbrev wsJ100 : List Cond := u_ws RJ10 TJ10 0
theorem nmJ10 : ∀ a, a < 0 → ∀ b, b < 0 → a ≠ b → (TJ10 a).2.1 ≠ (TJ10 b).2.1 := by decide +kernel
theorem tyJ10_ok : ∀ k, k < 0 → parseFieldDescriptor (TJ10 k).2.2.1 = some (tyJ10 k) := by decide +kernel
def RL : String := "KeptTablesLaw"
abbrev cL_law : ByteArray := code
def yL_law : MethodName := ⟨RL, "law", "([I)Z"⟩
abbrev vwCl : List vw_C := [(RX1, TX1, 6), (RX2, TX2, 4), (RX3, TX3, 2), (RX4, TX4, 4), (RX5, TX5, 6), (RX6, TX6, 14)]
end
section
def wsU : List Cond := lw_tbl.filter goodWord
theorem wsU_good : ∀ w ∈ wsU, (w.onTables && w.keeps) = true ∨ ∃ ty, w = .arrayClass ty := fun w h => good_of_word (List.mem_filter.mp h).2
theorem wsU_in : ∀ w ∈ wsU, w ∈ lw_tbl := fun w h => (List.mem_filter.mp h).1
theorem tin_1 : ∀ w ∈ tables_1_1, w ∈ lw_tbl := fun _ h => List.mem_append_right _ (List.mem_append_left _ h)
theorem uin_1 {w : Cond} (h : w ∈ tables_1_1) (g : goodWord w = true) : w ∈ wsU := List.mem_filter.mpr ⟨tin_1 w h, g⟩
theorem tin_2 : ∀ w ∈ tables_1_2, w ∈ lw_tbl := fun _ h => List.mem_append_right _ (List.mem_append_right _ (List.mem_append_left _ h))
theorem uin_2 {w : Cond} (h : w ∈ tables_1_2) (g : goodWord w = true) : w ∈ wsU := List.mem_filter.mpr ⟨tin_2 w h, g⟩
theorem tin_3 : ∀ w ∈ tables_1_3, w ∈ lw_tbl := fun _ h => List.mem_append_right _ (List.mem_append_right _ (List.mem_append_right _ (List.mem_append_left _ h)))
theorem uin_3 {w : Cond} (h : w ∈ tables_1_3) (g : goodWord w = true) : w ∈ wsU := List.mem_filter.mpr ⟨tin_3 w h, g⟩
theorem tin_4 : ∀ w ∈ tables_1_4, w ∈ lw_tbl := fun _ h => List.mem_append_right _ (List.mem_append_right _ (List.mem_append_right _ (List.mem_append_right _ (h))))
theorem uin_4 {w : Cond} (h : w ∈ tables_1_4) (g : goodWord w = true) : w ∈ wsU := List.mem_filter.mpr ⟨tin_4 w h, g⟩
theorem uw_1_0 : (Cond.initialized RL : Cond) ∈ wsU := uin_1 (List.mem_of_getElem? (i := 0) rfl) rfl
theorem uw_1_1 : (Cond.initialized RX5 : Cond) ∈ wsU := uin_1 (List.mem_of_getElem? (i := 1) rfl) rfl
theorem uw_1_2 : (Cond.initialized RX4 : Cond) ∈ wsU := uin_1 (List.mem_of_getElem? (i := 2) rfl) rfl
theorem uw_1_3 : (Cond.initialized RX1 : Cond) ∈ wsU := uin_1 (List.mem_of_getElem? (i := 3) rfl) rfl
theorem uw_1_4 : (Cond.initialized RX2 : Cond) ∈ wsU := uin_1 (List.mem_of_getElem? (i := 4) rfl) rfl
theorem uw_1_5 : (Cond.initialized RX3 : Cond) ∈ wsU := uin_1 (List.mem_of_getElem? (i := 5) rfl) rfl
theorem uw_1_6 : (Cond.initialized RX6 : Cond) ∈ wsU := uin_1 (List.mem_of_getElem? (i := 6) rfl) rfl
theorem uw_1_7 : (Cond.initialized RJ6 : Cond) ∈ wsU := uin_1 (List.mem_of_getElem? (i := 7) rfl) rfl
theorem uw_1_8 : (Cond.initialized RJ10 : Cond) ∈ wsU := uin_1 (List.mem_of_getElem? (i := 8) rfl) rfl
theorem uw_1_9 : (Cond.initialized RX0 : Cond) ∈ wsU := uin_1 (List.mem_of_getElem? (i := 9) rfl) rfl
theorem uw_1_10 : (Cond.initialized RJ9 : Cond) ∈ wsU := uin_1 (List.mem_of_getElem? (i := 10) rfl) rfl
theorem uw_1_11 : (Cond.classLink RL 7 RX5 : Cond) ∈ wsU := uin_1 (List.mem_of_getElem? (i := 11) rfl) rfl
theorem uw_1_12 : (Cond.instantiable RX5 6 : Cond) ∈ wsU := uin_1 (List.mem_of_getElem? (i := 12) rfl) rfl
theorem uw_1_13 : (Cond.methodLink RL 9 yX5_init : Cond) ∈ wsU := uin_1 (List.mem_of_getElem? (i := 13) rfl) rfl
theorem uw_1_14 : (Cond.instanceMethod yX5_init : Cond) ∈ wsU := uin_1 (List.mem_of_getElem? (i := 14) rfl) rfl
theorem uw_1_15 : (Cond.code yX5_init cX5_init 2 none : Cond) ∈ wsU := uin_1 (List.mem_of_getElem? (i := 15) rfl) rfl
theorem uw_1_16 : (Cond.methodLink RX5 1 objectInit : Cond) ∈ wsU := uin_1 (List.mem_of_getElem? (i := 16) rfl) rfl
theorem uw_1_17 : (Cond.instanceMethod objectInit : Cond) ∈ wsU := uin_1 (List.mem_of_getElem? (i := 17) rfl) rfl
theorem uw_1_18 : (Cond.code objectInit object_method_1_code 1 none : Cond) ∈ wsU := uin_1 (List.mem_of_getElem? (i := 18) rfl) rfl
theorem uw_1_19 : (Cond.classLink RX5 9 RX2 : Cond) ∈ wsU := uin_1 (List.mem_of_getElem? (i := 19) rfl) rfl
theorem uw_1_21 : (Cond.classLink RX5 15 RX4 : Cond) ∈ wsU := uin_1 (List.mem_of_getElem? (i := 21) rfl) rfl
theorem uw_1_22 : (Cond.instantiable RX4 4 : Cond) ∈ wsU := uin_1 (List.mem_of_getElem? (i := 22) rfl) rfl
theorem uw_1_24 : (Cond.instanceMethod yX4_init : Cond) ∈ wsU := uin_1 (List.mem_of_getElem? (i := 24) rfl) rfl
theorem uw_1_25 : (Cond.code yX4_init cX4_init 1 none : Cond) ∈ wsU := uin_1 (List.mem_of_getElem? (i := 25) rfl) rfl
theorem uw_1_26 : (Cond.methodLink RX4 3 objectInit : Cond) ∈ wsU := uin_1 (List.mem_of_getElem? (i := 26) rfl) rfl
theorem uw_1_27 : (Cond.fieldLink RX4 9 "KeptTables$Triples" "length" "I" : Cond) ∈ wsU := uin_1 (List.mem_of_getElem? (i := 27) rfl) rfl
theorem uw_1_28 : (Cond.fieldLink RX5 62 "KeptTables$Triples" "length" "I" : Cond) ∈ wsU := uin_1 (List.mem_of_getElem? (i := 28) rfl) rfl
theorem uw_1_29 : (Cond.fieldLink RX4 15 "KeptTables$Triples" "rowNumbers" "[I" : Cond) ∈ wsU := uin_1 (List.mem_of_getElem? (i := 29) rfl) rfl
theorem uw_1_30 : (Cond.fieldLink RX4 19 "KeptTables$Triples" "columnNumbers" "[I" : Cond) ∈ wsU := uin_1 (List.mem_of_getElem? (i := 30) rfl) rfl
theorem uw_1_31 : (Cond.fieldLink RX4 22 "KeptTables$Triples" "values" "[J" : Cond) ∈ wsU := uin_1 (List.mem_of_getElem? (i := 31) rfl) rfl
theorem uw_1_32 : (Cond.lays RX4 "KeptTables$Triples" "length" "I" : Cond) ∈ wsU := uin_1 (List.mem_of_getElem? (i := 32) rfl) rfl
theorem uw_1_34 : (Cond.laysFinal RX4 "KeptTables$Triples" "rowNumbers" "[I" : Cond) ∈ wsU := uin_1 (List.mem_of_getElem? (i := 34) rfl) rfl
theorem uw_1_36 : (Cond.laysFinal RX4 "KeptTables$Triples" "columnNumbers" "[I" : Cond) ∈ wsU := uin_1 (List.mem_of_getElem? (i := 36) rfl) rfl
theorem uw_1_38 : (Cond.laysFinal RX4 "KeptTables$Triples" "values" "[J" : Cond) ∈ wsU := uin_1 (List.mem_of_getElem? (i := 38) rfl) rfl
theorem uw_1_41 : (Cond.arrayClass .int : Cond) ∈ wsU := uin_1 (List.mem_of_getElem? (i := 41) rfl) rfl
theorem uw_1_42 : (Cond.arrayClass .long : Cond) ∈ wsU := uin_1 (List.mem_of_getElem? (i := 42) rfl) rfl
theorem uw_1_43 : (Cond.classLink RX5 22 RX1 : Cond) ∈ wsU := uin_1 (List.mem_of_getElem? (i := 43) rfl) rfl
theorem uw_1_44 : (Cond.instantiable RX1 6 : Cond) ∈ wsU := uin_1 (List.mem_of_getElem? (i := 44) rfl) rfl
theorem uw_1_46 : (Cond.instanceMethod yX1_init : Cond) ∈ wsU := uin_1 (List.mem_of_getElem? (i := 46) rfl) rfl
theorem uw_1_47 : (Cond.code yX1_init cX1_init 1 none : Cond) ∈ wsU := uin_1 (List.mem_of_getElem? (i := 47) rfl) rfl
theorem uw_1_48 : (Cond.methodLink RX1 3 objectInit : Cond) ∈ wsU := uin_1 (List.mem_of_getElem? (i := 48) rfl) rfl
theorem uw_1_49 : (Cond.fieldLink RX1 9 "KeptTables$Graph" "size" "I" : Cond) ∈ wsU := uin_1 (List.mem_of_getElem? (i := 49) rfl) rfl
theorem uw_1_50 : (Cond.fieldLink RX1 15 "KeptTables$Graph" "arcs" "[I" : Cond) ∈ wsU := uin_1 (List.mem_of_getElem? (i := 50) rfl) rfl
theorem uw_1_51 : (Cond.fieldLink RX1 19 "KeptTables$Graph" "neighbours" "[I" : Cond) ∈ wsU := uin_1 (List.mem_of_getElem? (i := 51) rfl) rfl
theorem uw_1_52 : (Cond.fieldLink RX1 22 "KeptTables$Graph" "reach" "[I" : Cond) ∈ wsU := uin_1 (List.mem_of_getElem? (i := 52) rfl) rfl
theorem uw_1_53 : (Cond.fieldLink RX1 25 "KeptTables$Graph" "steps" "[J" : Cond) ∈ wsU := uin_1 (List.mem_of_getElem? (i := 53) rfl) rfl
theorem uw_1_54 : (Cond.fieldLink RX1 29 "KeptTables$Graph" "nextSteps" "[J" : Cond) ∈ wsU := uin_1 (List.mem_of_getElem? (i := 54) rfl) rfl
theorem uw_1_55 : (Cond.lays RX1 "KeptTables$Graph" "size" "I" : Cond) ∈ wsU := uin_1 (List.mem_of_getElem? (i := 55) rfl) rfl
theorem uw_1_57 : (Cond.laysFinal RX1 "KeptTables$Graph" "arcs" "[I" : Cond) ∈ wsU := uin_1 (List.mem_of_getElem? (i := 57) rfl) rfl
theorem uw_1_59 : (Cond.laysFinal RX1 "KeptTables$Graph" "neighbours" "[I" : Cond) ∈ wsU := uin_1 (List.mem_of_getElem? (i := 59) rfl) rfl
theorem uw_1_61 : (Cond.laysFinal RX1 "KeptTables$Graph" "reach" "[I" : Cond) ∈ wsU := uin_1 (List.mem_of_getElem? (i := 61) rfl) rfl
theorem uw_1_63 : (Cond.lays RX1 "KeptTables$Graph" "steps" "[J" : Cond) ∈ wsU := uin_1 (List.mem_of_getElem? (i := 63) rfl) rfl
theorem uw_1_65 : (Cond.lays RX1 "KeptTables$Graph" "nextSteps" "[J" : Cond) ∈ wsU := uin_1 (List.mem_of_getElem? (i := 65) rfl) rfl
theorem uw_1_68 : (Cond.instantiable RX2 4 : Cond) ∈ wsU := uin_1 (List.mem_of_getElem? (i := 68) rfl) rfl
theorem uw_1_70 : (Cond.instanceMethod yX2_init : Cond) ∈ wsU := uin_1 (List.mem_of_getElem? (i := 70) rfl) rfl
theorem uw_1_71 : (Cond.code yX2_init cX2_init 1 none : Cond) ∈ wsU := uin_1 (List.mem_of_getElem? (i := 71) rfl) rfl
theorem uw_1_72 : (Cond.methodLink RX2 3 objectInit : Cond) ∈ wsU := uin_1 (List.mem_of_getElem? (i := 72) rfl) rfl
theorem uw_1_73 : (Cond.fieldLink RX2 9 "KeptTables$Grid" "rowCount" "I" : Cond) ∈ wsU := uin_1 (List.mem_of_getElem? (i := 73) rfl) rfl
theorem uw_1_74 : (Cond.fieldLink RX1 32 "KeptTables$Grid" "rowCount" "I" : Cond) ∈ wsU := uin_1 (List.mem_of_getElem? (i := 74) rfl) rfl
theorem uw_1_75 : (Cond.fieldLink RX0 21 "KeptTables$Grid" "rowCount" "I" : Cond) ∈ wsU := uin_1 (List.mem_of_getElem? (i := 75) rfl) rfl
theorem uw_1_76 : (Cond.fieldLink RX5 95 "KeptTables$Grid" "rowCount" "I" : Cond) ∈ wsU := uin_1 (List.mem_of_getElem? (i := 76) rfl) rfl
theorem uw_1_77 : (Cond.fieldLink RX2 15 "KeptTables$Grid" "columnCount" "I" : Cond) ∈ wsU := uin_1 (List.mem_of_getElem? (i := 77) rfl) rfl
theorem uw_1_78 : (Cond.fieldLink RX0 25 "KeptTables$Grid" "columnCount" "I" : Cond) ∈ wsU := uin_1 (List.mem_of_getElem? (i := 78) rfl) rfl
theorem uw_1_79 : (Cond.fieldLink RX5 98 "KeptTables$Grid" "columnCount" "I" : Cond) ∈ wsU := uin_1 (List.mem_of_getElem? (i := 79) rfl) rfl
theorem uw_1_80 : (Cond.fieldLink RX2 18 "KeptTables$Grid" "keptColumns" "[I" : Cond) ∈ wsU := uin_1 (List.mem_of_getElem? (i := 80) rfl) rfl
theorem uw_1_81 : (Cond.fieldLink RX2 22 "KeptTables$Grid" "values" "[J" : Cond) ∈ wsU := uin_1 (List.mem_of_getElem? (i := 81) rfl) rfl
theorem uw_1_82 : (Cond.lays RX2 "KeptTables$Grid" "rowCount" "I" : Cond) ∈ wsU := uin_1 (List.mem_of_getElem? (i := 82) rfl) rfl
theorem uw_1_84 : (Cond.lays RX2 "KeptTables$Grid" "columnCount" "I" : Cond) ∈ wsU := uin_1 (List.mem_of_getElem? (i := 84) rfl) rfl
theorem uw_1_86 : (Cond.laysFinal RX2 "KeptTables$Grid" "keptColumns" "[I" : Cond) ∈ wsU := uin_1 (List.mem_of_getElem? (i := 86) rfl) rfl
theorem uw_1_88 : (Cond.laysFinal RX2 "KeptTables$Grid" "values" "[J" : Cond) ∈ wsU := uin_1 (List.mem_of_getElem? (i := 88) rfl) rfl
theorem uw_1_91 : (Cond.classLink RX5 34 RX3 : Cond) ∈ wsU := uin_1 (List.mem_of_getElem? (i := 91) rfl) rfl
theorem uw_1_92 : (Cond.instantiable RX3 2 : Cond) ∈ wsU := uin_1 (List.mem_of_getElem? (i := 92) rfl) rfl
theorem uw_1_94 : (Cond.instanceMethod yX3_init : Cond) ∈ wsU := uin_1 (List.mem_of_getElem? (i := 94) rfl) rfl
theorem uw_1_95 : (Cond.code yX3_init cX3_init 1 none : Cond) ∈ wsU := uin_1 (List.mem_of_getElem? (i := 95) rfl) rfl
theorem uw_1_96 : (Cond.methodLink RX3 3 objectInit : Cond) ∈ wsU := uin_1 (List.mem_of_getElem? (i := 96) rfl) rfl
theorem uw_1_97 : (Cond.fieldLink RX3 9 "KeptTables$Numbers" "length" "I" : Cond) ∈ wsU := uin_1 (List.mem_of_getElem? (i := 97) rfl) rfl
theorem uw_1_98 : (Cond.fieldLink RX5 70 "KeptTables$Numbers" "length" "I" : Cond) ∈ wsU := uin_1 (List.mem_of_getElem? (i := 98) rfl) rfl
theorem uw_1_99 : (Cond.fieldLink RX1 85 "KeptTables$Numbers" "length" "I" : Cond) ∈ wsU := uin_1 (List.mem_of_getElem? (i := 99) rfl) rfl
theorem uw_1_100 : (Cond.fieldLink RX2 88 "KeptTables$Numbers" "length" "I" : Cond) ∈ wsU := uin_1 (List.mem_of_getElem? (i := 100) rfl) rfl
theorem uw_1_101 : (Cond.fieldLink RX3 15 "KeptTables$Numbers" "items" "[I" : Cond) ∈ wsU := uin_1 (List.mem_of_getElem? (i := 101) rfl) rfl
theorem uw_1_102 : (Cond.lays RX3 "KeptTables$Numbers" "length" "I" : Cond) ∈ wsU := uin_1 (List.mem_of_getElem? (i := 102) rfl) rfl
theorem uw_1_104 : (Cond.laysFinal RX3 "KeptTables$Numbers" "items" "[I" : Cond) ∈ wsU := uin_1 (List.mem_of_getElem? (i := 104) rfl) rfl
theorem uw_1_107 : (Cond.fieldLink RX5 11 "KeptTables" "grids" "[LKeptTables$Grid;" : Cond) ∈ wsU := uin_1 (List.mem_of_getElem? (i := 107) rfl) rfl
theorem uw_1_108 : (Cond.fieldLink RX5 18 "KeptTables" "triples" "LKeptTables$Triples;" : Cond) ∈ wsU := uin_1 (List.mem_of_getElem? (i := 108) rfl) rfl
theorem uw_1_109 : (Cond.fieldLink RX5 25 "KeptTables" "graph" "LKeptTables$Graph;" : Cond) ∈ wsU := uin_1 (List.mem_of_getElem? (i := 109) rfl) rfl
theorem uw_1_110 : (Cond.fieldLink RX5 30 "KeptTables" "draft" "LKeptTables$Grid;" : Cond) ∈ wsU := uin_1 (List.mem_of_getElem? (i := 110) rfl) rfl
theorem uw_1_111 : (Cond.fieldLink RX5 37 "KeptTables" "numbers" "LKeptTables$Numbers;" : Cond) ∈ wsU := uin_1 (List.mem_of_getElem? (i := 111) rfl) rfl
theorem uw_1_112 : (Cond.fieldLink RX5 41 "KeptTables" "draftNumbers" "LKeptTables$Numbers;" : Cond) ∈ wsU := uin_1 (List.mem_of_getElem? (i := 112) rfl) rfl
theorem uw_1_113 : (Cond.laysFinal RX5 "KeptTables" "grids" "[LKeptTables$Grid;" : Cond) ∈ wsU := uin_1 (List.mem_of_getElem? (i := 113) rfl) rfl
theorem uw_1_115 : (Cond.laysFinal RX5 "KeptTables" "triples" "LKeptTables$Triples;" : Cond) ∈ wsU := uin_1 (List.mem_of_getElem? (i := 115) rfl) rfl
theorem uw_1_117 : (Cond.laysFinal RX5 "KeptTables" "graph" "LKeptTables$Graph;" : Cond) ∈ wsU := uin_1 (List.mem_of_getElem? (i := 117) rfl) rfl
theorem uw_1_119 : (Cond.lays RX5 "KeptTables" "draft" "LKeptTables$Grid;" : Cond) ∈ wsU := uin_1 (List.mem_of_getElem? (i := 119) rfl) rfl
theorem uw_1_121 : (Cond.lays RX5 "KeptTables" "numbers" "LKeptTables$Numbers;" : Cond) ∈ wsU := uin_1 (List.mem_of_getElem? (i := 121) rfl) rfl
theorem uw_1_123 : (Cond.lays RX5 "KeptTables" "draftNumbers" "LKeptTables$Numbers;" : Cond) ∈ wsU := uin_1 (List.mem_of_getElem? (i := 123) rfl) rfl
theorem uw_1_126 : (Cond.methodLink RL 13 yX5_table : Cond) ∈ wsU := uin_1 (List.mem_of_getElem? (i := 126) rfl) rfl
theorem uw_1_127 : (Cond.instanceMethod yX5_table : Cond) ∈ wsU := uin_1 (List.mem_of_getElem? (i := 127) rfl) rfl
theorem uw_1_128 : (Cond.selects RX5 yX5_table yX5_table : Cond) ∈ wsU := uin_1 (List.mem_of_getElem? (i := 128) rfl) rfl
theorem uw_1_129 : (Cond.code yX5_table cX5_table 4 (some .int) : Cond) ∈ wsU := uin_1 (List.mem_of_getElem? (i := 129) rfl) rfl
theorem uw_1_130 : (Cond.methodLink RX5 44 yX5_isSlot : Cond) ∈ wsU := uin_1 (List.mem_of_getElem? (i := 130) rfl) rfl
theorem uw_1_131 : (Cond.static yX5_isSlot : Cond) ∈ wsU := uin_1 (List.mem_of_getElem? (i := 131) rfl) rfl
theorem uw_1_132 : (Cond.code yX5_isSlot cX5_isSlot 1 (some .boolean) : Cond) ∈ wsU := uin_1 (List.mem_of_getElem? (i := 132) rfl) rfl
theorem uw_1_133 : (Cond.methodLink RX5 48 yX5_isSize : Cond) ∈ wsU := uin_1 (List.mem_of_getElem? (i := 133) rfl) rfl
theorem uw_1_134 : (Cond.static yX5_isSize : Cond) ∈ wsU := uin_1 (List.mem_of_getElem? (i := 134) rfl) rfl
theorem uw_1_135 : (Cond.code yX5_isSize cX5_isSize 1 (some .boolean) : Cond) ∈ wsU := uin_1 (List.mem_of_getElem? (i := 135) rfl) rfl
theorem uw_1_136 : (Cond.methodLink RX5 51 yX2_begin : Cond) ∈ wsU := uin_1 (List.mem_of_getElem? (i := 136) rfl) rfl
theorem uw_1_137 : (Cond.instanceMethod yX2_begin : Cond) ∈ wsU := uin_1 (List.mem_of_getElem? (i := 137) rfl) rfl
theorem uw_1_138 : (Cond.selects RX2 yX2_begin yX2_begin : Cond) ∈ wsU := uin_1 (List.mem_of_getElem? (i := 138) rfl) rfl
theorem uw_1_139 : (Cond.code yX2_begin cX2_begin 4 none : Cond) ∈ wsU := uin_1 (List.mem_of_getElem? (i := 139) rfl) rfl
theorem uw_1_140 : (Cond.methodLink RX5 55 yX5_putDraft : Cond) ∈ wsU := uin_1 (List.mem_of_getElem? (i := 140) rfl) rfl
theorem uw_1_142 : (Cond.instanceMethod yX5_putDraft : Cond) ∈ wsU := uin_1 (List.mem_of_getElem? (i := 142) rfl) rfl
theorem uw_1_143 : (Cond.code yX5_putDraft cX5_putDraft 4 (some .int) : Cond) ∈ wsU := uin_1 (List.mem_of_getElem? (i := 143) rfl) rfl
theorem uw_1_144 : (Cond.methodLink RX5 101 yX2_keptCount : Cond) ∈ wsU := uin_1 (List.mem_of_getElem? (i := 144) rfl) rfl
theorem uw_1_145 : (Cond.instanceMethod yX2_keptCount : Cond) ∈ wsU := uin_1 (List.mem_of_getElem? (i := 145) rfl) rfl
theorem uw_1_146 : (Cond.selects RX2 yX2_keptCount yX2_keptCount : Cond) ∈ wsU := uin_1 (List.mem_of_getElem? (i := 146) rfl) rfl
theorem uw_1_147 : (Cond.code yX2_keptCount cX2_keptCount 1 (some .int) : Cond) ∈ wsU := uin_1 (List.mem_of_getElem? (i := 147) rfl) rfl
theorem uw_1_148 : (Cond.methodLink RX2 51 yX2_keptAhead : Cond) ∈ wsU := uin_1 (List.mem_of_getElem? (i := 148) rfl) rfl
theorem uw_1_149 : (Cond.instanceMethod yX2_keptAhead : Cond) ∈ wsU := uin_1 (List.mem_of_getElem? (i := 149) rfl) rfl
theorem uw_1_150 : (Cond.selects RX2 yX2_keptAhead yX2_keptAhead : Cond) ∈ wsU := uin_1 (List.mem_of_getElem? (i := 150) rfl) rfl
theorem uw_1_151 : (Cond.code yX2_keptAhead cX2_keptAhead 4 (some .int) : Cond) ∈ wsU := uin_1 (List.mem_of_getElem? (i := 151) rfl) rfl
theorem uw_1_152 : (Cond.methodLink RX2 55 yJ6_bitCount_0f7a4 : Cond) ∈ wsU := uin_1 (List.mem_of_getElem? (i := 152) rfl) rfl
theorem uw_1_153 : (Cond.static yJ6_bitCount_0f7a4 : Cond) ∈ wsU := uin_1 (List.mem_of_getElem? (i := 153) rfl) rfl
theorem uw_1_154 : (Cond.code yJ6_bitCount_0f7a4 cJ6_bitCount_0f7a4 1 (some .int) : Cond) ∈ wsU := uin_1 (List.mem_of_getElem? (i := 154) rfl) rfl
theorem uw_1_155 : (Cond.constant RJ6 265 (1431655765 : Int32) : Cond) ∈ wsU := uin_1 (List.mem_of_getElem? (i := 155) rfl) rfl
theorem uw_1_156 : (Cond.constant RJ6 266 (858993459 : Int32) : Cond) ∈ wsU := uin_1 (List.mem_of_getElem? (i := 156) rfl) rfl
theorem uw_1_157 : (Cond.constant RJ6 267 (252645135 : Int32) : Cond) ∈ wsU := uin_1 (List.mem_of_getElem? (i := 157) rfl) rfl
theorem uw_1_158 : (Cond.methodLink RL 20 yX5_triple : Cond) ∈ wsU := uin_1 (List.mem_of_getElem? (i := 158) rfl) rfl
theorem uw_1_159 : (Cond.instanceMethod yX5_triple : Cond) ∈ wsU := uin_1 (List.mem_of_getElem? (i := 159) rfl) rfl
theorem uw_1_160 : (Cond.selects RX5 yX5_triple yX5_triple : Cond) ∈ wsU := uin_1 (List.mem_of_getElem? (i := 160) rfl) rfl
theorem uw_1_161 : (Cond.code yX5_triple cX5_triple 5 (some .int) : Cond) ∈ wsU := uin_1 (List.mem_of_getElem? (i := 161) rfl) rfl
theorem uw_1_162 : (Cond.methodLink RX5 59 yX5_isLine : Cond) ∈ wsU := uin_1 (List.mem_of_getElem? (i := 162) rfl) rfl
theorem uw_1_163 : (Cond.static yX5_isLine : Cond) ∈ wsU := uin_1 (List.mem_of_getElem? (i := 163) rfl) rfl
theorem uw_1_164 : (Cond.code yX5_isLine cX5_isLine 1 (some .boolean) : Cond) ∈ wsU := uin_1 (List.mem_of_getElem? (i := 164) rfl) rfl
theorem uw_1_165 : (Cond.methodLink RX5 66 yX4_append : Cond) ∈ wsU := uin_1 (List.mem_of_getElem? (i := 165) rfl) rfl
theorem uw_1_166 : (Cond.instanceMethod yX4_append : Cond) ∈ wsU := uin_1 (List.mem_of_getElem? (i := 166) rfl) rfl
theorem uw_1_167 : (Cond.selects RX4 yX4_append yX4_append : Cond) ∈ wsU := uin_1 (List.mem_of_getElem? (i := 167) rfl) rfl
theorem uw_1_168 : (Cond.code yX4_append cX4_append 5 none : Cond) ∈ wsU := uin_1 (List.mem_of_getElem? (i := 168) rfl) rfl
theorem uw_1_169 : (Cond.methodLink RL 25 yX5_list : Cond) ∈ wsU := uin_1 (List.mem_of_getElem? (i := 169) rfl) rfl
theorem uw_1_170 : (Cond.instanceMethod yX5_list : Cond) ∈ wsU := uin_1 (List.mem_of_getElem? (i := 170) rfl) rfl
theorem uw_1_171 : (Cond.selects RX5 yX5_list yX5_list : Cond) ∈ wsU := uin_1 (List.mem_of_getElem? (i := 171) rfl) rfl
theorem uw_1_172 : (Cond.code yX5_list cX5_list 2 (some .int) : Cond) ∈ wsU := uin_1 (List.mem_of_getElem? (i := 172) rfl) rfl
theorem uw_1_173 : (Cond.methodLink RX5 71 yX3_append : Cond) ∈ wsU := uin_1 (List.mem_of_getElem? (i := 173) rfl) rfl
theorem uw_1_174 : (Cond.instanceMethod yX3_append : Cond) ∈ wsU := uin_1 (List.mem_of_getElem? (i := 174) rfl) rfl
theorem uw_1_175 : (Cond.selects RX3 yX3_append yX3_append : Cond) ∈ wsU := uin_1 (List.mem_of_getElem? (i := 175) rfl) rfl
theorem uw_1_176 : (Cond.code yX3_append cX3_append 2 none : Cond) ∈ wsU := uin_1 (List.mem_of_getElem? (i := 176) rfl) rfl
theorem uw_1_178 : (Cond.methodLink RL 30 yX5_listed : Cond) ∈ wsU := uin_1 (List.mem_of_getElem? (i := 178) rfl) rfl
theorem uw_1_179 : (Cond.instanceMethod yX5_listed : Cond) ∈ wsU := uin_1 (List.mem_of_getElem? (i := 179) rfl) rfl
theorem uw_1_180 : (Cond.selects RX5 yX5_listed yX5_listed : Cond) ∈ wsU := uin_1 (List.mem_of_getElem? (i := 180) rfl) rfl
theorem uw_1_181 : (Cond.code yX5_listed cX5_listed 2 (some .int) : Cond) ∈ wsU := uin_1 (List.mem_of_getElem? (i := 181) rfl) rfl
theorem uw_1_182 : (Cond.methodLink RX5 74 yX3_item : Cond) ∈ wsU := uin_1 (List.mem_of_getElem? (i := 182) rfl) rfl
theorem uw_1_183 : (Cond.instanceMethod yX3_item : Cond) ∈ wsU := uin_1 (List.mem_of_getElem? (i := 183) rfl) rfl
theorem uw_1_184 : (Cond.selects RX3 yX3_item yX3_item : Cond) ∈ wsU := uin_1 (List.mem_of_getElem? (i := 184) rfl) rfl
theorem uw_1_185 : (Cond.code yX3_item cX3_item 2 (some .int) : Cond) ∈ wsU := uin_1 (List.mem_of_getElem? (i := 185) rfl) rfl
theorem uw_1_186 : (Cond.methodLink RL 34 yX5_join : Cond) ∈ wsU := uin_1 (List.mem_of_getElem? (i := 186) rfl) rfl
theorem uw_1_187 : (Cond.instanceMethod yX5_join : Cond) ∈ wsU := uin_1 (List.mem_of_getElem? (i := 187) rfl) rfl
theorem uw_1_188 : (Cond.selects RX5 yX5_join yX5_join : Cond) ∈ wsU := uin_1 (List.mem_of_getElem? (i := 188) rfl) rfl
theorem uw_1_189 : (Cond.code yX5_join cX5_join 4 (some .int) : Cond) ∈ wsU := uin_1 (List.mem_of_getElem? (i := 189) rfl) rfl
theorem uw_1_190 : (Cond.methodLink RX5 77 yX5_gridAt : Cond) ∈ wsU := uin_1 (List.mem_of_getElem? (i := 190) rfl) rfl
theorem uw_1_192 : (Cond.instanceMethod yX5_gridAt : Cond) ∈ wsU := uin_1 (List.mem_of_getElem? (i := 192) rfl) rfl
theorem uw_1_193 : (Cond.code yX5_gridAt cX5_gridAt 3 (some (.object "KeptTables$Grid")) : Cond) ∈ wsU := uin_1 (List.mem_of_getElem? (i := 193) rfl) rfl
theorem uw_1_194 : (Cond.methodLink RX5 81 yX4_lieIn : Cond) ∈ wsU := uin_1 (List.mem_of_getElem? (i := 194) rfl) rfl
theorem uw_1_195 : (Cond.instanceMethod yX4_lieIn : Cond) ∈ wsU := uin_1 (List.mem_of_getElem? (i := 195) rfl) rfl
theorem uw_1_196 : (Cond.selects RX4 yX4_lieIn yX4_lieIn : Cond) ∈ wsU := uin_1 (List.mem_of_getElem? (i := 196) rfl) rfl
theorem uw_1_197 : (Cond.code yX4_lieIn cX4_lieIn 3 (some .boolean) : Cond) ∈ wsU := uin_1 (List.mem_of_getElem? (i := 197) rfl) rfl
theorem uw_1_198 : (Cond.methodLink RX4 26 yX2_covers : Cond) ∈ wsU := uin_1 (List.mem_of_getElem? (i := 198) rfl) rfl
theorem uw_1_199 : (Cond.instanceMethod yX2_covers : Cond) ∈ wsU := uin_1 (List.mem_of_getElem? (i := 199) rfl) rfl
theorem uw_1_200 : (Cond.selects RX2 yX2_covers yX2_covers : Cond) ∈ wsU := uin_1 (List.mem_of_getElem? (i := 200) rfl) rfl
theorem uw_1_201 : (Cond.code yX2_covers cX2_covers 3 (some .boolean) : Cond) ∈ wsU := uin_1 (List.mem_of_getElem? (i := 201) rfl) rfl
theorem uw_1_202 : (Cond.methodLink RX2 32 yX2_hasRow : Cond) ∈ wsU := uin_1 (List.mem_of_getElem? (i := 202) rfl) rfl
theorem uw_1_203 : (Cond.instanceMethod yX2_hasRow : Cond) ∈ wsU := uin_1 (List.mem_of_getElem? (i := 203) rfl) rfl
theorem uw_1_204 : (Cond.selects RX2 yX2_hasRow yX2_hasRow : Cond) ∈ wsU := uin_1 (List.mem_of_getElem? (i := 204) rfl) rfl
theorem uw_1_205 : (Cond.code yX2_hasRow cX2_hasRow 2 (some .boolean) : Cond) ∈ wsU := uin_1 (List.mem_of_getElem? (i := 205) rfl) rfl
theorem uw_1_206 : (Cond.methodLink RX5 85 yX2_become : Cond) ∈ wsU := uin_1 (List.mem_of_getElem? (i := 206) rfl) rfl
theorem uw_1_207 : (Cond.instanceMethod yX2_become : Cond) ∈ wsU := uin_1 (List.mem_of_getElem? (i := 207) rfl) rfl
theorem uw_1_208 : (Cond.selects RX2 yX2_become yX2_become : Cond) ∈ wsU := uin_1 (List.mem_of_getElem? (i := 208) rfl) rfl
theorem uw_1_209 : (Cond.code yX2_become cX2_become 2 none : Cond) ∈ wsU := uin_1 (List.mem_of_getElem? (i := 209) rfl) rfl
theorem uw_1_210 : (Cond.methodLink RX2 26 ⟨"java/lang/System", "arraycopy", "(Ljava/lang/Object;ILjava/lang/Object;II)V"⟩ : Cond) ∈ wsU := uin_1 (List.mem_of_getElem? (i := 210) rfl) rfl
theorem uw_1_211 : (Cond.static ⟨"java/lang/System", "arraycopy", "(Ljava/lang/Object;ILjava/lang/Object;II)V"⟩ : Cond) ∈ wsU := uin_1 (List.mem_of_getElem? (i := 211) rfl) rfl
theorem uw_1_212 : (Cond.native ⟨"java/lang/System", "arraycopy", "(Ljava/lang/Object;ILjava/lang/Object;II)V"⟩ : Cond) ∈ wsU := uin_1 (List.mem_of_getElem? (i := 212) rfl) rfl
theorem uw_1_213 : (Cond.methodLink RX5 89 yX4_addTo : Cond) ∈ wsU := uin_1 (List.mem_of_getElem? (i := 213) rfl) rfl
theorem uw_1_214 : (Cond.instanceMethod yX4_addTo : Cond) ∈ wsU := uin_1 (List.mem_of_getElem? (i := 214) rfl) rfl
theorem uw_1_215 : (Cond.selects RX4 yX4_addTo yX4_addTo : Cond) ∈ wsU := uin_1 (List.mem_of_getElem? (i := 215) rfl) rfl
theorem uw_1_216 : (Cond.code yX4_addTo cX4_addTo 3 none : Cond) ∈ wsU := uin_1 (List.mem_of_getElem? (i := 216) rfl) rfl
theorem uw_1_217 : (Cond.methodLink RX4 32 yX2_putSum : Cond) ∈ wsU := uin_1 (List.mem_of_getElem? (i := 217) rfl) rfl
theorem uw_1_218 : (Cond.instanceMethod yX2_putSum : Cond) ∈ wsU := uin_1 (List.mem_of_getElem? (i := 218) rfl) rfl
theorem uw_1_219 : (Cond.selects RX2 yX2_putSum yX2_putSum : Cond) ∈ wsU := uin_1 (List.mem_of_getElem? (i := 219) rfl) rfl
theorem uw_1_220 : (Cond.code yX2_putSum cX2_putSum 5 none : Cond) ∈ wsU := uin_1 (List.mem_of_getElem? (i := 220) rfl) rfl
theorem uw_1_221 : (Cond.methodLink RX2 43 yX2_value : Cond) ∈ wsU := uin_1 (List.mem_of_getElem? (i := 221) rfl) rfl
theorem uw_1_222 : (Cond.instanceMethod yX2_value : Cond) ∈ wsU := uin_1 (List.mem_of_getElem? (i := 222) rfl) rfl
theorem uw_1_223 : (Cond.selects RX2 yX2_value yX2_value : Cond) ∈ wsU := uin_1 (List.mem_of_getElem? (i := 223) rfl) rfl
theorem uw_1_224 : (Cond.code yX2_value cX2_value 3 (some .long) : Cond) ∈ wsU := uin_1 (List.mem_of_getElem? (i := 224) rfl) rfl
theorem uw_1_226 : (Cond.methodLink RX2 47 yX2_put : Cond) ∈ wsU := uin_1 (List.mem_of_getElem? (i := 226) rfl) rfl
theorem uw_1_227 : (Cond.instanceMethod yX2_put : Cond) ∈ wsU := uin_1 (List.mem_of_getElem? (i := 227) rfl) rfl
theorem uw_1_228 : (Cond.selects RX2 yX2_put yX2_put : Cond) ∈ wsU := uin_1 (List.mem_of_getElem? (i := 228) rfl) rfl
theorem uw_1_229 : (Cond.code yX2_put cX2_put 5 none : Cond) ∈ wsU := uin_1 (List.mem_of_getElem? (i := 229) rfl) rfl
theorem uw_1_230 : (Cond.methodLink RX5 92 yX4_clear : Cond) ∈ wsU := uin_1 (List.mem_of_getElem? (i := 230) rfl) rfl
theorem uw_1_231 : (Cond.instanceMethod yX4_clear : Cond) ∈ wsU := uin_1 (List.mem_of_getElem? (i := 231) rfl) rfl
theorem uw_1_232 : (Cond.selects RX4 yX4_clear yX4_clear : Cond) ∈ wsU := uin_1 (List.mem_of_getElem? (i := 232) rfl) rfl
theorem uw_1_233 : (Cond.code yX4_clear cX4_clear 1 none : Cond) ∈ wsU := uin_1 (List.mem_of_getElem? (i := 233) rfl) rfl
theorem uw_1_234 : (Cond.methodLink RL 38 yX5_count : Cond) ∈ wsU := uin_1 (List.mem_of_getElem? (i := 234) rfl) rfl
theorem uw_1_235 : (Cond.instanceMethod yX5_count : Cond) ∈ wsU := uin_1 (List.mem_of_getElem? (i := 235) rfl) rfl
theorem uw_1_236 : (Cond.selects RX5 yX5_count yX5_count : Cond) ∈ wsU := uin_1 (List.mem_of_getElem? (i := 236) rfl) rfl
theorem uw_1_237 : (Cond.code yX5_count cX5_count 4 (some .int) : Cond) ∈ wsU := uin_1 (List.mem_of_getElem? (i := 237) rfl) rfl
theorem uw_1_238 : (Cond.methodLink RX5 105 yX2_keptZeros : Cond) ∈ wsU := uin_1 (List.mem_of_getElem? (i := 238) rfl) rfl
theorem uw_1_239 : (Cond.instanceMethod yX2_keptZeros : Cond) ∈ wsU := uin_1 (List.mem_of_getElem? (i := 239) rfl) rfl
theorem uw_2_0 : (Cond.selects RX2 yX2_keptZeros yX2_keptZeros : Cond) ∈ wsU := uin_2 (List.mem_of_getElem? (i := 0) rfl) rfl
theorem uw_2_1 : (Cond.code yX2_keptZeros cX2_keptZeros 4 (some .int) : Cond) ∈ wsU := uin_2 (List.mem_of_getElem? (i := 1) rfl) rfl
theorem uw_2_2 : (Cond.methodLink RX2 67 yX2_keeps : Cond) ∈ wsU := uin_2 (List.mem_of_getElem? (i := 2) rfl) rfl
theorem uw_2_3 : (Cond.instanceMethod yX2_keeps : Cond) ∈ wsU := uin_2 (List.mem_of_getElem? (i := 3) rfl) rfl
theorem uw_2_4 : (Cond.selects RX2 yX2_keeps yX2_keeps : Cond) ∈ wsU := uin_2 (List.mem_of_getElem? (i := 4) rfl) rfl
theorem uw_2_5 : (Cond.code yX2_keeps cX2_keeps 3 (some .boolean) : Cond) ∈ wsU := uin_2 (List.mem_of_getElem? (i := 5) rfl) rfl
theorem uw_2_7 : (Cond.static yX5_hasBit : Cond) ∈ wsU := uin_2 (List.mem_of_getElem? (i := 7) rfl) rfl
theorem uw_2_8 : (Cond.code yX5_hasBit cX5_hasBit 2 (some .boolean) : Cond) ∈ wsU := uin_2 (List.mem_of_getElem? (i := 8) rfl) rfl
theorem uw_2_9 : (Cond.methodLink RL 43 yX5_at : Cond) ∈ wsU := uin_2 (List.mem_of_getElem? (i := 9) rfl) rfl
theorem uw_2_10 : (Cond.instanceMethod yX5_at : Cond) ∈ wsU := uin_2 (List.mem_of_getElem? (i := 10) rfl) rfl
theorem uw_2_11 : (Cond.selects RX5 yX5_at yX5_at : Cond) ∈ wsU := uin_2 (List.mem_of_getElem? (i := 11) rfl) rfl
theorem uw_2_12 : (Cond.code yX5_at cX5_at 5 (some .long) : Cond) ∈ wsU := uin_2 (List.mem_of_getElem? (i := 12) rfl) rfl
theorem uw_2_13 : (Cond.methodLink RX5 108 yX2_covers : Cond) ∈ wsU := uin_2 (List.mem_of_getElem? (i := 13) rfl) rfl
theorem uw_2_14 : (Cond.methodLink RX5 112 yX2_value : Cond) ∈ wsU := uin_2 (List.mem_of_getElem? (i := 14) rfl) rfl
theorem uw_2_15 : (Cond.methodLink RL 48 yX5_kept : Cond) ∈ wsU := uin_2 (List.mem_of_getElem? (i := 15) rfl) rfl
theorem uw_2_16 : (Cond.instanceMethod yX5_kept : Cond) ∈ wsU := uin_2 (List.mem_of_getElem? (i := 16) rfl) rfl
theorem uw_2_17 : (Cond.selects RX5 yX5_kept yX5_kept : Cond) ∈ wsU := uin_2 (List.mem_of_getElem? (i := 17) rfl) rfl
theorem uw_2_18 : (Cond.code yX5_kept cX5_kept 5 (some .int) : Cond) ∈ wsU := uin_2 (List.mem_of_getElem? (i := 18) rfl) rfl
theorem uw_2_19 : (Cond.methodLink RX5 116 yX2_keeps : Cond) ∈ wsU := uin_2 (List.mem_of_getElem? (i := 19) rfl) rfl
theorem uw_2_20 : (Cond.methodLink RX5 119 yX2_orderNumber : Cond) ∈ wsU := uin_2 (List.mem_of_getElem? (i := 20) rfl) rfl
theorem uw_2_21 : (Cond.instanceMethod yX2_orderNumber : Cond) ∈ wsU := uin_2 (List.mem_of_getElem? (i := 21) rfl) rfl
theorem uw_2_22 : (Cond.selects RX2 yX2_orderNumber yX2_orderNumber : Cond) ∈ wsU := uin_2 (List.mem_of_getElem? (i := 22) rfl) rfl
theorem uw_2_23 : (Cond.code yX2_orderNumber cX2_orderNumber 4 (some .int) : Cond) ∈ wsU := uin_2 (List.mem_of_getElem? (i := 23) rfl) rfl
theorem uw_2_24 : (Cond.methodLink RX2 60 yX2_columnsOf : Cond) ∈ wsU := uin_2 (List.mem_of_getElem? (i := 24) rfl) rfl
theorem uw_2_25 : (Cond.instanceMethod yX2_columnsOf : Cond) ∈ wsU := uin_2 (List.mem_of_getElem? (i := 25) rfl) rfl
theorem uw_2_26 : (Cond.selects RX2 yX2_columnsOf yX2_columnsOf : Cond) ∈ wsU := uin_2 (List.mem_of_getElem? (i := 26) rfl) rfl
theorem uw_2_27 : (Cond.code yX2_columnsOf cX2_columnsOf 2 (some .int) : Cond) ∈ wsU := uin_2 (List.mem_of_getElem? (i := 27) rfl) rfl
theorem uw_2_28 : (Cond.methodLink RL 52 yX5_place : Cond) ∈ wsU := uin_2 (List.mem_of_getElem? (i := 28) rfl) rfl
theorem uw_2_29 : (Cond.instanceMethod yX5_place : Cond) ∈ wsU := uin_2 (List.mem_of_getElem? (i := 29) rfl) rfl
theorem uw_2_30 : (Cond.selects RX5 yX5_place yX5_place : Cond) ∈ wsU := uin_2 (List.mem_of_getElem? (i := 30) rfl) rfl
theorem uw_2_31 : (Cond.code yX5_place cX5_place 4 (some .int) : Cond) ∈ wsU := uin_2 (List.mem_of_getElem? (i := 31) rfl) rfl
theorem uw_2_32 : (Cond.methodLink RX5 123 yX2_placeNumber : Cond) ∈ wsU := uin_2 (List.mem_of_getElem? (i := 32) rfl) rfl
theorem uw_2_33 : (Cond.instanceMethod yX2_placeNumber : Cond) ∈ wsU := uin_2 (List.mem_of_getElem? (i := 33) rfl) rfl
theorem uw_2_34 : (Cond.selects RX2 yX2_placeNumber yX2_placeNumber : Cond) ∈ wsU := uin_2 (List.mem_of_getElem? (i := 34) rfl) rfl
theorem uw_2_35 : (Cond.code yX2_placeNumber cX2_placeNumber 5 (some .int) : Cond) ∈ wsU := uin_2 (List.mem_of_getElem? (i := 35) rfl) rfl
theorem uw_2_36 : (Cond.methodLink RX2 63 yX2_bitNumber : Cond) ∈ wsU := uin_2 (List.mem_of_getElem? (i := 36) rfl) rfl
theorem uw_2_37 : (Cond.static yX2_bitNumber : Cond) ∈ wsU := uin_2 (List.mem_of_getElem? (i := 37) rfl) rfl
theorem uw_2_38 : (Cond.code yX2_bitNumber cX2_bitNumber 4 (some .int) : Cond) ∈ wsU := uin_2 (List.mem_of_getElem? (i := 38) rfl) rfl
theorem uw_2_39 : (Cond.methodLink RL 56 yX5_set : Cond) ∈ wsU := uin_2 (List.mem_of_getElem? (i := 39) rfl) rfl
theorem uw_2_40 : (Cond.instanceMethod yX5_set : Cond) ∈ wsU := uin_2 (List.mem_of_getElem? (i := 40) rfl) rfl
theorem uw_2_41 : (Cond.selects RX5 yX5_set yX5_set : Cond) ∈ wsU := uin_2 (List.mem_of_getElem? (i := 41) rfl) rfl
theorem uw_2_42 : (Cond.code yX5_set cX5_set 7 (some .int) : Cond) ∈ wsU := uin_2 (List.mem_of_getElem? (i := 42) rfl) rfl
theorem uw_2_43 : (Cond.methodLink RX5 126 yX2_put : Cond) ∈ wsU := uin_2 (List.mem_of_getElem? (i := 43) rfl) rfl
theorem uw_2_44 : (Cond.methodLink RL 61 yX5_prune : Cond) ∈ wsU := uin_2 (List.mem_of_getElem? (i := 44) rfl) rfl
theorem uw_2_45 : (Cond.instanceMethod yX5_prune : Cond) ∈ wsU := uin_2 (List.mem_of_getElem? (i := 45) rfl) rfl
theorem uw_2_46 : (Cond.selects RX5 yX5_prune yX5_prune : Cond) ∈ wsU := uin_2 (List.mem_of_getElem? (i := 46) rfl) rfl
theorem uw_2_47 : (Cond.code yX5_prune cX5_prune 3 (some .int) : Cond) ∈ wsU := uin_2 (List.mem_of_getElem? (i := 47) rfl) rfl
theorem uw_2_48 : (Cond.methodLink RX5 129 yX2_dropZeros : Cond) ∈ wsU := uin_2 (List.mem_of_getElem? (i := 48) rfl) rfl
theorem uw_2_49 : (Cond.instanceMethod yX2_dropZeros : Cond) ∈ wsU := uin_2 (List.mem_of_getElem? (i := 49) rfl) rfl
theorem uw_2_50 : (Cond.selects RX2 yX2_dropZeros yX2_dropZeros : Cond) ∈ wsU := uin_2 (List.mem_of_getElem? (i := 50) rfl) rfl
theorem uw_2_51 : (Cond.code yX2_dropZeros cX2_dropZeros 4 (some .int) : Cond) ∈ wsU := uin_2 (List.mem_of_getElem? (i := 51) rfl) rfl
theorem uw_2_52 : (Cond.methodLink RX2 70 yX2_keptZeros : Cond) ∈ wsU := uin_2 (List.mem_of_getElem? (i := 52) rfl) rfl
theorem uw_2_53 : (Cond.methodLink RX2 74 yX2_drop : Cond) ∈ wsU := uin_2 (List.mem_of_getElem? (i := 53) rfl) rfl
theorem uw_2_55 : (Cond.instanceMethod yX2_drop : Cond) ∈ wsU := uin_2 (List.mem_of_getElem? (i := 55) rfl) rfl
theorem uw_2_56 : (Cond.code yX2_drop cX2_drop 3 none : Cond) ∈ wsU := uin_2 (List.mem_of_getElem? (i := 56) rfl) rfl
theorem uw_2_57 : (Cond.methodLink RL 65 yX5_add : Cond) ∈ wsU := uin_2 (List.mem_of_getElem? (i := 57) rfl) rfl
theorem uw_2_58 : (Cond.instanceMethod yX5_add : Cond) ∈ wsU := uin_2 (List.mem_of_getElem? (i := 58) rfl) rfl
theorem uw_2_59 : (Cond.selects RX5 yX5_add yX5_add : Cond) ∈ wsU := uin_2 (List.mem_of_getElem? (i := 59) rfl) rfl
theorem uw_2_60 : (Cond.code yX5_add cX5_add 10 (some .int) : Cond) ∈ wsU := uin_2 (List.mem_of_getElem? (i := 60) rfl) rfl
theorem uw_2_61 : (Cond.methodLink RX5 132 yX2_hasSizeOf : Cond) ∈ wsU := uin_2 (List.mem_of_getElem? (i := 61) rfl) rfl
theorem uw_2_62 : (Cond.instanceMethod yX2_hasSizeOf : Cond) ∈ wsU := uin_2 (List.mem_of_getElem? (i := 62) rfl) rfl
theorem uw_2_63 : (Cond.selects RX2 yX2_hasSizeOf yX2_hasSizeOf : Cond) ∈ wsU := uin_2 (List.mem_of_getElem? (i := 63) rfl) rfl
theorem uw_2_64 : (Cond.code yX2_hasSizeOf cX2_hasSizeOf 2 (some .boolean) : Cond) ∈ wsU := uin_2 (List.mem_of_getElem? (i := 64) rfl) rfl
theorem uw_2_65 : (Cond.methodLink RX5 135 yX2_addMultiple : Cond) ∈ wsU := uin_2 (List.mem_of_getElem? (i := 65) rfl) rfl
theorem uw_2_66 : (Cond.instanceMethod yX2_addMultiple : Cond) ∈ wsU := uin_2 (List.mem_of_getElem? (i := 66) rfl) rfl
theorem uw_2_67 : (Cond.selects RX2 yX2_addMultiple yX2_addMultiple : Cond) ∈ wsU := uin_2 (List.mem_of_getElem? (i := 67) rfl) rfl
theorem uw_2_68 : (Cond.code yX2_addMultiple cX2_addMultiple 6 none : Cond) ∈ wsU := uin_2 (List.mem_of_getElem? (i := 68) rfl) rfl
theorem uw_2_69 : (Cond.methodLink RX2 78 yX2_putSum : Cond) ∈ wsU := uin_2 (List.mem_of_getElem? (i := 69) rfl) rfl
theorem uw_2_70 : (Cond.methodLink RL 70 yX5_times : Cond) ∈ wsU := uin_2 (List.mem_of_getElem? (i := 70) rfl) rfl
theorem uw_2_71 : (Cond.instanceMethod yX5_times : Cond) ∈ wsU := uin_2 (List.mem_of_getElem? (i := 71) rfl) rfl
theorem uw_2_72 : (Cond.selects RX5 yX5_times yX5_times : Cond) ∈ wsU := uin_2 (List.mem_of_getElem? (i := 72) rfl) rfl
theorem uw_2_73 : (Cond.code yX5_times cX5_times 6 (some .int) : Cond) ∈ wsU := uin_2 (List.mem_of_getElem? (i := 73) rfl) rfl
theorem uw_2_74 : (Cond.methodLink RX5 139 yX2_becomeProduct : Cond) ∈ wsU := uin_2 (List.mem_of_getElem? (i := 74) rfl) rfl
theorem uw_2_75 : (Cond.instanceMethod yX2_becomeProduct : Cond) ∈ wsU := uin_2 (List.mem_of_getElem? (i := 75) rfl) rfl
theorem uw_2_76 : (Cond.selects RX2 yX2_becomeProduct yX2_becomeProduct : Cond) ∈ wsU := uin_2 (List.mem_of_getElem? (i := 76) rfl) rfl
theorem uw_2_77 : (Cond.code yX2_becomeProduct cX2_becomeProduct 5 none : Cond) ∈ wsU := uin_2 (List.mem_of_getElem? (i := 77) rfl) rfl
theorem uw_2_78 : (Cond.methodLink RX2 81 yX2_begin : Cond) ∈ wsU := uin_2 (List.mem_of_getElem? (i := 78) rfl) rfl
theorem uw_2_79 : (Cond.methodLink RX2 84 yX2_addRowMultiple : Cond) ∈ wsU := uin_2 (List.mem_of_getElem? (i := 79) rfl) rfl
theorem uw_2_81 : (Cond.instanceMethod yX2_addRowMultiple : Cond) ∈ wsU := uin_2 (List.mem_of_getElem? (i := 81) rfl) rfl
theorem uw_2_82 : (Cond.code yX2_addRowMultiple cX2_addRowMultiple 7 none : Cond) ∈ wsU := uin_2 (List.mem_of_getElem? (i := 82) rfl) rfl
theorem uw_2_83 : (Cond.methodLink RL 74 yX5_each : Cond) ∈ wsU := uin_2 (List.mem_of_getElem? (i := 83) rfl) rfl
theorem uw_2_84 : (Cond.instanceMethod yX5_each : Cond) ∈ wsU := uin_2 (List.mem_of_getElem? (i := 84) rfl) rfl
theorem uw_2_85 : (Cond.selects RX5 yX5_each yX5_each : Cond) ∈ wsU := uin_2 (List.mem_of_getElem? (i := 85) rfl) rfl
theorem uw_2_86 : (Cond.code yX5_each cX5_each 6 (some .int) : Cond) ∈ wsU := uin_2 (List.mem_of_getElem? (i := 86) rfl) rfl
theorem uw_2_87 : (Cond.methodLink RX5 143 yX2_becomeEach : Cond) ∈ wsU := uin_2 (List.mem_of_getElem? (i := 87) rfl) rfl
theorem uw_2_88 : (Cond.instanceMethod yX2_becomeEach : Cond) ∈ wsU := uin_2 (List.mem_of_getElem? (i := 88) rfl) rfl
theorem uw_2_89 : (Cond.selects RX2 yX2_becomeEach yX2_becomeEach : Cond) ∈ wsU := uin_2 (List.mem_of_getElem? (i := 89) rfl) rfl
theorem uw_2_90 : (Cond.code yX2_becomeEach cX2_becomeEach 5 none : Cond) ∈ wsU := uin_2 (List.mem_of_getElem? (i := 90) rfl) rfl
theorem uw_2_91 : (Cond.methodLink RL 78 yX5_mask : Cond) ∈ wsU := uin_2 (List.mem_of_getElem? (i := 91) rfl) rfl
theorem uw_2_92 : (Cond.instanceMethod yX5_mask : Cond) ∈ wsU := uin_2 (List.mem_of_getElem? (i := 92) rfl) rfl
theorem uw_2_93 : (Cond.selects RX5 yX5_mask yX5_mask : Cond) ∈ wsU := uin_2 (List.mem_of_getElem? (i := 93) rfl) rfl
theorem uw_2_94 : (Cond.code yX5_mask cX5_mask 7 (some .int) : Cond) ∈ wsU := uin_2 (List.mem_of_getElem? (i := 94) rfl) rfl
theorem uw_2_95 : (Cond.methodLink RX5 146 yX2_becomeMasked : Cond) ∈ wsU := uin_2 (List.mem_of_getElem? (i := 95) rfl) rfl
theorem uw_2_96 : (Cond.instanceMethod yX2_becomeMasked : Cond) ∈ wsU := uin_2 (List.mem_of_getElem? (i := 96) rfl) rfl
theorem uw_2_97 : (Cond.selects RX2 yX2_becomeMasked yX2_becomeMasked : Cond) ∈ wsU := uin_2 (List.mem_of_getElem? (i := 97) rfl) rfl
theorem uw_2_98 : (Cond.code yX2_becomeMasked cX2_becomeMasked 6 none : Cond) ∈ wsU := uin_2 (List.mem_of_getElem? (i := 98) rfl) rfl
theorem uw_2_99 : (Cond.methodLink RL 83 yX5_turn : Cond) ∈ wsU := uin_2 (List.mem_of_getElem? (i := 99) rfl) rfl
theorem uw_2_100 : (Cond.instanceMethod yX5_turn : Cond) ∈ wsU := uin_2 (List.mem_of_getElem? (i := 100) rfl) rfl
theorem uw_2_101 : (Cond.selects RX5 yX5_turn yX5_turn : Cond) ∈ wsU := uin_2 (List.mem_of_getElem? (i := 101) rfl) rfl
theorem uw_2_102 : (Cond.code yX5_turn cX5_turn 4 (some .int) : Cond) ∈ wsU := uin_2 (List.mem_of_getElem? (i := 102) rfl) rfl
theorem uw_2_103 : (Cond.methodLink RX5 150 yX2_becomeTurned : Cond) ∈ wsU := uin_2 (List.mem_of_getElem? (i := 103) rfl) rfl
theorem uw_2_104 : (Cond.instanceMethod yX2_becomeTurned : Cond) ∈ wsU := uin_2 (List.mem_of_getElem? (i := 104) rfl) rfl
theorem uw_2_105 : (Cond.selects RX2 yX2_becomeTurned yX2_becomeTurned : Cond) ∈ wsU := uin_2 (List.mem_of_getElem? (i := 105) rfl) rfl
theorem uw_2_106 : (Cond.code yX2_becomeTurned cX2_becomeTurned 4 none : Cond) ∈ wsU := uin_2 (List.mem_of_getElem? (i := 106) rfl) rfl
theorem uw_2_107 : (Cond.methodLink RL 87 yX5_rows : Cond) ∈ wsU := uin_2 (List.mem_of_getElem? (i := 107) rfl) rfl
theorem uw_2_108 : (Cond.instanceMethod yX5_rows : Cond) ∈ wsU := uin_2 (List.mem_of_getElem? (i := 108) rfl) rfl
theorem uw_2_109 : (Cond.selects RX5 yX5_rows yX5_rows : Cond) ∈ wsU := uin_2 (List.mem_of_getElem? (i := 109) rfl) rfl
theorem uw_2_110 : (Cond.code yX5_rows cX5_rows 5 (some .int) : Cond) ∈ wsU := uin_2 (List.mem_of_getElem? (i := 110) rfl) rfl
theorem uw_2_111 : (Cond.methodLink RX5 153 yX3_areBelow : Cond) ∈ wsU := uin_2 (List.mem_of_getElem? (i := 111) rfl) rfl
theorem uw_2_112 : (Cond.instanceMethod yX3_areBelow : Cond) ∈ wsU := uin_2 (List.mem_of_getElem? (i := 112) rfl) rfl
theorem uw_2_113 : (Cond.selects RX3 yX3_areBelow yX3_areBelow : Cond) ∈ wsU := uin_2 (List.mem_of_getElem? (i := 113) rfl) rfl
theorem uw_2_114 : (Cond.code yX3_areBelow cX3_areBelow 3 (some .boolean) : Cond) ∈ wsU := uin_2 (List.mem_of_getElem? (i := 114) rfl) rfl
theorem uw_2_115 : (Cond.methodLink RX5 156 yX2_becomeRows : Cond) ∈ wsU := uin_2 (List.mem_of_getElem? (i := 115) rfl) rfl
theorem uw_2_116 : (Cond.instanceMethod yX2_becomeRows : Cond) ∈ wsU := uin_2 (List.mem_of_getElem? (i := 116) rfl) rfl
theorem uw_2_117 : (Cond.selects RX2 yX2_becomeRows yX2_becomeRows : Cond) ∈ wsU := uin_2 (List.mem_of_getElem? (i := 117) rfl) rfl
theorem uw_2_118 : (Cond.code yX2_becomeRows cX2_becomeRows 4 none : Cond) ∈ wsU := uin_2 (List.mem_of_getElem? (i := 118) rfl) rfl
theorem uw_2_119 : (Cond.methodLink RX2 93 yX3_item : Cond) ∈ wsU := uin_2 (List.mem_of_getElem? (i := 119) rfl) rfl
theorem uw_2_120 : (Cond.methodLink RX5 160 yX3_clear : Cond) ∈ wsU := uin_2 (List.mem_of_getElem? (i := 120) rfl) rfl
theorem uw_2_121 : (Cond.instanceMethod yX3_clear : Cond) ∈ wsU := uin_2 (List.mem_of_getElem? (i := 121) rfl) rfl
theorem uw_2_122 : (Cond.selects RX3 yX3_clear yX3_clear : Cond) ∈ wsU := uin_2 (List.mem_of_getElem? (i := 122) rfl) rfl
theorem uw_2_123 : (Cond.code yX3_clear cX3_clear 1 none : Cond) ∈ wsU := uin_2 (List.mem_of_getElem? (i := 123) rfl) rfl
theorem uw_2_124 : (Cond.methodLink RL 91 yX5_slopes : Cond) ∈ wsU := uin_2 (List.mem_of_getElem? (i := 124) rfl) rfl
theorem uw_2_125 : (Cond.instanceMethod yX5_slopes : Cond) ∈ wsU := uin_2 (List.mem_of_getElem? (i := 125) rfl) rfl
theorem uw_2_126 : (Cond.selects RX5 yX5_slopes yX5_slopes : Cond) ∈ wsU := uin_2 (List.mem_of_getElem? (i := 126) rfl) rfl
theorem uw_2_127 : (Cond.code yX5_slopes cX5_slopes 9 (some .int) : Cond) ∈ wsU := uin_2 (List.mem_of_getElem? (i := 127) rfl) rfl
theorem uw_2_128 : (Cond.methodLink RX5 161 yX2_becomeSlopesOfLeft : Cond) ∈ wsU := uin_2 (List.mem_of_getElem? (i := 128) rfl) rfl
theorem uw_2_129 : (Cond.instanceMethod yX2_becomeSlopesOfLeft : Cond) ∈ wsU := uin_2 (List.mem_of_getElem? (i := 129) rfl) rfl
theorem uw_2_130 : (Cond.selects RX2 yX2_becomeSlopesOfLeft yX2_becomeSlopesOfLeft : Cond) ∈ wsU := uin_2 (List.mem_of_getElem? (i := 130) rfl) rfl
theorem uw_2_131 : (Cond.code yX2_becomeSlopesOfLeft cX2_becomeSlopesOfLeft 6 none : Cond) ∈ wsU := uin_2 (List.mem_of_getElem? (i := 131) rfl) rfl
theorem uw_2_132 : (Cond.methodLink RX2 96 yX2_productOfRows : Cond) ∈ wsU := uin_2 (List.mem_of_getElem? (i := 132) rfl) rfl
theorem uw_2_134 : (Cond.instanceMethod yX2_productOfRows : Cond) ∈ wsU := uin_2 (List.mem_of_getElem? (i := 134) rfl) rfl
theorem uw_2_135 : (Cond.code yX2_productOfRows cX2_productOfRows 7 (some .long) : Cond) ∈ wsU := uin_2 (List.mem_of_getElem? (i := 135) rfl) rfl
theorem uw_2_136 : (Cond.methodLink RX5 165 yX2_becomeSlopesOfRight : Cond) ∈ wsU := uin_2 (List.mem_of_getElem? (i := 136) rfl) rfl
theorem uw_2_137 : (Cond.instanceMethod yX2_becomeSlopesOfRight : Cond) ∈ wsU := uin_2 (List.mem_of_getElem? (i := 137) rfl) rfl
theorem uw_2_138 : (Cond.selects RX2 yX2_becomeSlopesOfRight yX2_becomeSlopesOfRight : Cond) ∈ wsU := uin_2 (List.mem_of_getElem? (i := 138) rfl) rfl
theorem uw_2_139 : (Cond.code yX2_becomeSlopesOfRight cX2_becomeSlopesOfRight 6 none : Cond) ∈ wsU := uin_2 (List.mem_of_getElem? (i := 139) rfl) rfl
theorem uw_2_140 : (Cond.methodLink RX2 100 yX2_productOfColumns : Cond) ∈ wsU := uin_2 (List.mem_of_getElem? (i := 140) rfl) rfl
theorem uw_2_142 : (Cond.instanceMethod yX2_productOfColumns : Cond) ∈ wsU := uin_2 (List.mem_of_getElem? (i := 142) rfl) rfl
theorem uw_2_143 : (Cond.code yX2_productOfColumns cX2_productOfColumns 7 (some .long) : Cond) ∈ wsU := uin_2 (List.mem_of_getElem? (i := 143) rfl) rfl
theorem uw_2_144 : (Cond.methodLink RL 96 yX5_sum : Cond) ∈ wsU := uin_2 (List.mem_of_getElem? (i := 144) rfl) rfl
theorem uw_2_145 : (Cond.instanceMethod yX5_sum : Cond) ∈ wsU := uin_2 (List.mem_of_getElem? (i := 145) rfl) rfl
theorem uw_2_146 : (Cond.selects RX5 yX5_sum yX5_sum : Cond) ∈ wsU := uin_2 (List.mem_of_getElem? (i := 146) rfl) rfl
theorem uw_2_147 : (Cond.code yX5_sum cX5_sum 5 (some .long) : Cond) ∈ wsU := uin_2 (List.mem_of_getElem? (i := 147) rfl) rfl
theorem uw_2_148 : (Cond.methodLink RX5 168 yX2_rowSum : Cond) ∈ wsU := uin_2 (List.mem_of_getElem? (i := 148) rfl) rfl
theorem uw_2_149 : (Cond.instanceMethod yX2_rowSum : Cond) ∈ wsU := uin_2 (List.mem_of_getElem? (i := 149) rfl) rfl
theorem uw_2_150 : (Cond.selects RX2 yX2_rowSum yX2_rowSum : Cond) ∈ wsU := uin_2 (List.mem_of_getElem? (i := 150) rfl) rfl
theorem uw_2_151 : (Cond.code yX2_rowSum cX2_rowSum 5 (some .long) : Cond) ∈ wsU := uin_2 (List.mem_of_getElem? (i := 151) rfl) rfl
theorem uw_2_152 : (Cond.methodLink RX5 172 yX2_columnSum : Cond) ∈ wsU := uin_2 (List.mem_of_getElem? (i := 152) rfl) rfl
theorem uw_2_153 : (Cond.instanceMethod yX2_columnSum : Cond) ∈ wsU := uin_2 (List.mem_of_getElem? (i := 153) rfl) rfl
theorem uw_2_154 : (Cond.selects RX2 yX2_columnSum yX2_columnSum : Cond) ∈ wsU := uin_2 (List.mem_of_getElem? (i := 154) rfl) rfl
theorem uw_2_155 : (Cond.code yX2_columnSum cX2_columnSum 5 (some .long) : Cond) ∈ wsU := uin_2 (List.mem_of_getElem? (i := 155) rfl) rfl
theorem uw_2_156 : (Cond.methodLink RL 101 yX5_cost : Cond) ∈ wsU := uin_2 (List.mem_of_getElem? (i := 156) rfl) rfl
theorem uw_2_157 : (Cond.instanceMethod yX5_cost : Cond) ∈ wsU := uin_2 (List.mem_of_getElem? (i := 157) rfl) rfl
theorem uw_2_158 : (Cond.selects RX5 yX5_cost yX5_cost : Cond) ∈ wsU := uin_2 (List.mem_of_getElem? (i := 158) rfl) rfl
theorem uw_2_159 : (Cond.code yX5_cost cX5_cost 5 (some .int) : Cond) ∈ wsU := uin_2 (List.mem_of_getElem? (i := 159) rfl) rfl
theorem uw_2_160 : (Cond.methodLink RX5 175 yX0_isForm : Cond) ∈ wsU := uin_2 (List.mem_of_getElem? (i := 160) rfl) rfl
theorem uw_2_161 : (Cond.static yX0_isForm : Cond) ∈ wsU := uin_2 (List.mem_of_getElem? (i := 161) rfl) rfl
theorem uw_2_162 : (Cond.code yX0_isForm cX0_isForm 2 (some .boolean) : Cond) ∈ wsU := uin_2 (List.mem_of_getElem? (i := 162) rfl) rfl
theorem uw_2_163 : (Cond.methodLink RX0 9 yX0_isBlockSide : Cond) ∈ wsU := uin_2 (List.mem_of_getElem? (i := 163) rfl) rfl
theorem uw_2_164 : (Cond.static yX0_isBlockSide : Cond) ∈ wsU := uin_2 (List.mem_of_getElem? (i := 164) rfl) rfl
theorem uw_2_165 : (Cond.code yX0_isBlockSide cX0_isBlockSide 1 (some .boolean) : Cond) ∈ wsU := uin_2 (List.mem_of_getElem? (i := 165) rfl) rfl
theorem uw_2_166 : (Cond.methodLink RX5 180 yX0_cellCount : Cond) ∈ wsU := uin_2 (List.mem_of_getElem? (i := 166) rfl) rfl
theorem uw_2_167 : (Cond.static yX0_cellCount : Cond) ∈ wsU := uin_2 (List.mem_of_getElem? (i := 167) rfl) rfl
theorem uw_2_168 : (Cond.code yX0_cellCount cX0_cellCount 5 (some .int) : Cond) ∈ wsU := uin_2 (List.mem_of_getElem? (i := 168) rfl) rfl
theorem uw_2_169 : (Cond.methodLink RX0 15 yX2_keptCount : Cond) ∈ wsU := uin_2 (List.mem_of_getElem? (i := 169) rfl) rfl
theorem uw_2_170 : (Cond.methodLink RX0 28 yX2_becomeBlocks : Cond) ∈ wsU := uin_2 (List.mem_of_getElem? (i := 170) rfl) rfl
theorem uw_2_171 : (Cond.instanceMethod yX2_becomeBlocks : Cond) ∈ wsU := uin_2 (List.mem_of_getElem? (i := 171) rfl) rfl
theorem uw_2_172 : (Cond.selects RX2 yX2_becomeBlocks yX2_becomeBlocks : Cond) ∈ wsU := uin_2 (List.mem_of_getElem? (i := 172) rfl) rfl
theorem uw_2_173 : (Cond.code yX2_becomeBlocks cX2_becomeBlocks 5 none : Cond) ∈ wsU := uin_2 (List.mem_of_getElem? (i := 173) rfl) rfl
theorem uw_2_174 : (Cond.methodLink RX0 32 yX0_headLength : Cond) ∈ wsU := uin_2 (List.mem_of_getElem? (i := 174) rfl) rfl
theorem uw_2_175 : (Cond.static yX0_headLength : Cond) ∈ wsU := uin_2 (List.mem_of_getElem? (i := 175) rfl) rfl
theorem uw_2_176 : (Cond.code yX0_headLength cX0_headLength 1 (some .int) : Cond) ∈ wsU := uin_2 (List.mem_of_getElem? (i := 176) rfl) rfl
theorem uw_2_177 : (Cond.methodLink RX0 36 yX0_slantCount : Cond) ∈ wsU := uin_2 (List.mem_of_getElem? (i := 177) rfl) rfl
theorem uw_2_178 : (Cond.static yX0_slantCount : Cond) ∈ wsU := uin_2 (List.mem_of_getElem? (i := 178) rfl) rfl
theorem uw_2_179 : (Cond.code yX0_slantCount cX0_slantCount 3 (some .int) : Cond) ∈ wsU := uin_2 (List.mem_of_getElem? (i := 179) rfl) rfl
theorem uw_2_180 : (Cond.methodLink RX0 75 yX2_keepsOnSlant : Cond) ∈ wsU := uin_2 (List.mem_of_getElem? (i := 180) rfl) rfl
theorem uw_2_181 : (Cond.instanceMethod yX2_keepsOnSlant : Cond) ∈ wsU := uin_2 (List.mem_of_getElem? (i := 181) rfl) rfl
theorem uw_2_182 : (Cond.selects RX2 yX2_keepsOnSlant yX2_keepsOnSlant : Cond) ∈ wsU := uin_2 (List.mem_of_getElem? (i := 182) rfl) rfl
theorem uw_2_183 : (Cond.code yX2_keepsOnSlant cX2_keepsOnSlant 3 (some .boolean) : Cond) ∈ wsU := uin_2 (List.mem_of_getElem? (i := 183) rfl) rfl
theorem uw_2_184 : (Cond.methodLink RL 105 yX5_cheapest : Cond) ∈ wsU := uin_2 (List.mem_of_getElem? (i := 184) rfl) rfl
theorem uw_2_185 : (Cond.instanceMethod yX5_cheapest : Cond) ∈ wsU := uin_2 (List.mem_of_getElem? (i := 185) rfl) rfl
theorem uw_2_186 : (Cond.selects RX5 yX5_cheapest yX5_cheapest : Cond) ∈ wsU := uin_2 (List.mem_of_getElem? (i := 186) rfl) rfl
theorem uw_2_187 : (Cond.code yX5_cheapest cX5_cheapest 8 (some .int) : Cond) ∈ wsU := uin_2 (List.mem_of_getElem? (i := 187) rfl) rfl
theorem uw_2_188 : (Cond.methodLink RX5 184 yX0_isBlockSide : Cond) ∈ wsU := uin_2 (List.mem_of_getElem? (i := 188) rfl) rfl
theorem uw_2_189 : (Cond.methodLink RL 109 yX5_cell : Cond) ∈ wsU := uin_2 (List.mem_of_getElem? (i := 189) rfl) rfl
theorem uw_2_190 : (Cond.instanceMethod yX5_cell : Cond) ∈ wsU := uin_2 (List.mem_of_getElem? (i := 190) rfl) rfl
theorem uw_2_191 : (Cond.selects RX5 yX5_cell yX5_cell : Cond) ∈ wsU := uin_2 (List.mem_of_getElem? (i := 191) rfl) rfl
theorem uw_2_192 : (Cond.code yX5_cell cX5_cell 6 (some .long) : Cond) ∈ wsU := uin_2 (List.mem_of_getElem? (i := 192) rfl) rfl
theorem uw_2_193 : (Cond.methodLink RX5 187 yX0_cellValue : Cond) ∈ wsU := uin_2 (List.mem_of_getElem? (i := 193) rfl) rfl
theorem uw_2_194 : (Cond.static yX0_cellValue : Cond) ∈ wsU := uin_2 (List.mem_of_getElem? (i := 194) rfl) rfl
theorem uw_2_195 : (Cond.code yX0_cellValue cX0_cellValue 5 (some .long) : Cond) ∈ wsU := uin_2 (List.mem_of_getElem? (i := 195) rfl) rfl
theorem uw_2_196 : (Cond.methodLink RX0 39 yX0_triplesCell : Cond) ∈ wsU := uin_2 (List.mem_of_getElem? (i := 196) rfl) rfl
theorem uw_2_197 : (Cond.static yX0_triplesCell : Cond) ∈ wsU := uin_2 (List.mem_of_getElem? (i := 197) rfl) rfl
theorem uw_2_198 : (Cond.code yX0_triplesCell cX0_triplesCell 3 (some .long) : Cond) ∈ wsU := uin_2 (List.mem_of_getElem? (i := 198) rfl) rfl
theorem uw_2_199 : (Cond.methodLink RX0 60 yX2_placeNumber : Cond) ∈ wsU := uin_2 (List.mem_of_getElem? (i := 199) rfl) rfl
theorem uw_2_200 : (Cond.methodLink RX0 64 yX2_value : Cond) ∈ wsU := uin_2 (List.mem_of_getElem? (i := 200) rfl) rfl
theorem uw_2_201 : (Cond.methodLink RX0 43 yX0_byRowsCell : Cond) ∈ wsU := uin_2 (List.mem_of_getElem? (i := 201) rfl) rfl
theorem uw_2_202 : (Cond.static yX0_byRowsCell : Cond) ∈ wsU := uin_2 (List.mem_of_getElem? (i := 202) rfl) rfl
theorem uw_2_203 : (Cond.code yX0_byRowsCell cX0_byRowsCell 4 (some .long) : Cond) ∈ wsU := uin_2 (List.mem_of_getElem? (i := 203) rfl) rfl
theorem uw_2_204 : (Cond.methodLink RX0 68 yX0_headCell : Cond) ∈ wsU := uin_2 (List.mem_of_getElem? (i := 204) rfl) rfl
theorem uw_2_205 : (Cond.static yX0_headCell : Cond) ∈ wsU := uin_2 (List.mem_of_getElem? (i := 205) rfl) rfl
theorem uw_2_206 : (Cond.code yX0_headCell cX0_headCell 2 (some .int) : Cond) ∈ wsU := uin_2 (List.mem_of_getElem? (i := 206) rfl) rfl
theorem uw_2_207 : (Cond.methodLink RX0 72 yX2_keptAhead : Cond) ∈ wsU := uin_2 (List.mem_of_getElem? (i := 207) rfl) rfl
theorem uw_2_208 : (Cond.methodLink RX0 46 yX2_becomeTurned : Cond) ∈ wsU := uin_2 (List.mem_of_getElem? (i := 208) rfl) rfl
theorem uw_2_209 : (Cond.methodLink RX0 50 yX0_blocksCell : Cond) ∈ wsU := uin_2 (List.mem_of_getElem? (i := 209) rfl) rfl
theorem uw_2_210 : (Cond.static yX0_blocksCell : Cond) ∈ wsU := uin_2 (List.mem_of_getElem? (i := 210) rfl) rfl
theorem uw_2_211 : (Cond.code yX0_blocksCell cX0_blocksCell 8 (some .long) : Cond) ∈ wsU := uin_2 (List.mem_of_getElem? (i := 211) rfl) rfl
theorem uw_2_212 : (Cond.methodLink RX0 54 yX0_fullCell : Cond) ∈ wsU := uin_2 (List.mem_of_getElem? (i := 212) rfl) rfl
theorem uw_2_213 : (Cond.static yX0_fullCell : Cond) ∈ wsU := uin_2 (List.mem_of_getElem? (i := 213) rfl) rfl
theorem uw_2_214 : (Cond.code yX0_fullCell cX0_fullCell 3 (some .long) : Cond) ∈ wsU := uin_2 (List.mem_of_getElem? (i := 214) rfl) rfl
theorem uw_2_215 : (Cond.methodLink RX0 57 yX0_slantsCell : Cond) ∈ wsU := uin_2 (List.mem_of_getElem? (i := 215) rfl) rfl
theorem uw_2_216 : (Cond.static yX0_slantsCell : Cond) ∈ wsU := uin_2 (List.mem_of_getElem? (i := 216) rfl) rfl
theorem uw_2_217 : (Cond.code yX0_slantsCell cX0_slantsCell 4 (some .long) : Cond) ∈ wsU := uin_2 (List.mem_of_getElem? (i := 217) rfl) rfl
theorem uw_2_218 : (Cond.methodLink RL 114 yX5_walks : Cond) ∈ wsU := uin_2 (List.mem_of_getElem? (i := 218) rfl) rfl
theorem uw_2_219 : (Cond.instanceMethod yX5_walks : Cond) ∈ wsU := uin_2 (List.mem_of_getElem? (i := 219) rfl) rfl
theorem uw_2_220 : (Cond.selects RX5 yX5_walks yX5_walks : Cond) ∈ wsU := uin_2 (List.mem_of_getElem? (i := 220) rfl) rfl
theorem uw_2_221 : (Cond.code yX5_walks cX5_walks 6 (some .long) : Cond) ∈ wsU := uin_2 (List.mem_of_getElem? (i := 221) rfl) rfl
theorem uw_2_222 : (Cond.methodLink RX5 191 yX2_isSquare : Cond) ∈ wsU := uin_2 (List.mem_of_getElem? (i := 222) rfl) rfl
theorem uw_2_223 : (Cond.instanceMethod yX2_isSquare : Cond) ∈ wsU := uin_2 (List.mem_of_getElem? (i := 223) rfl) rfl
theorem uw_2_224 : (Cond.selects RX2 yX2_isSquare yX2_isSquare : Cond) ∈ wsU := uin_2 (List.mem_of_getElem? (i := 224) rfl) rfl
theorem uw_2_225 : (Cond.code yX2_isSquare cX2_isSquare 1 (some .boolean) : Cond) ∈ wsU := uin_2 (List.mem_of_getElem? (i := 225) rfl) rfl
theorem uw_2_226 : (Cond.methodLink RX5 195 yX1_walkSum : Cond) ∈ wsU := uin_2 (List.mem_of_getElem? (i := 226) rfl) rfl
theorem uw_2_227 : (Cond.instanceMethod yX1_walkSum : Cond) ∈ wsU := uin_2 (List.mem_of_getElem? (i := 227) rfl) rfl
theorem uw_2_228 : (Cond.selects RX1 yX1_walkSum yX1_walkSum : Cond) ∈ wsU := uin_2 (List.mem_of_getElem? (i := 228) rfl) rfl
theorem uw_2_229 : (Cond.code yX1_walkSum cX1_walkSum 6 (some .long) : Cond) ∈ wsU := uin_2 (List.mem_of_getElem? (i := 229) rfl) rfl
theorem uw_2_231 : (Cond.methodLink RX1 55 yX1_walkOn : Cond) ∈ wsU := uin_2 (List.mem_of_getElem? (i := 231) rfl) rfl
theorem uw_2_233 : (Cond.instanceMethod yX1_walkOn : Cond) ∈ wsU := uin_2 (List.mem_of_getElem? (i := 233) rfl) rfl
theorem uw_2_234 : (Cond.code yX1_walkOn cX1_walkOn 4 none : Cond) ∈ wsU := uin_2 (List.mem_of_getElem? (i := 234) rfl) rfl
theorem uw_2_235 : (Cond.methodLink RX1 59 yX2_value : Cond) ∈ wsU := uin_2 (List.mem_of_getElem? (i := 235) rfl) rfl
theorem uw_2_236 : (Cond.methodLink RL 118 yX5_way : Cond) ∈ wsU := uin_2 (List.mem_of_getElem? (i := 236) rfl) rfl
theorem uw_2_237 : (Cond.instanceMethod yX5_way : Cond) ∈ wsU := uin_2 (List.mem_of_getElem? (i := 237) rfl) rfl
theorem uw_2_238 : (Cond.selects RX5 yX5_way yX5_way : Cond) ∈ wsU := uin_2 (List.mem_of_getElem? (i := 238) rfl) rfl
theorem uw_2_239 : (Cond.code yX5_way cX5_way 5 (some .int) : Cond) ∈ wsU := uin_2 (List.mem_of_getElem? (i := 239) rfl) rfl
theorem uw_3_0 : (Cond.methodLink RX5 199 yX2_hasRow : Cond) ∈ wsU := uin_3 (List.mem_of_getElem? (i := 0) rfl) rfl
theorem uw_3_1 : (Cond.methodLink RX5 202 yX1_read : Cond) ∈ wsU := uin_3 (List.mem_of_getElem? (i := 1) rfl) rfl
theorem uw_3_2 : (Cond.instanceMethod yX1_read : Cond) ∈ wsU := uin_3 (List.mem_of_getElem? (i := 2) rfl) rfl
theorem uw_3_3 : (Cond.selects RX1 yX1_read yX1_read : Cond) ∈ wsU := uin_3 (List.mem_of_getElem? (i := 3) rfl) rfl
theorem uw_3_4 : (Cond.code yX1_read cX1_read 3 none : Cond) ∈ wsU := uin_3 (List.mem_of_getElem? (i := 4) rfl) rfl
theorem uw_3_5 : (Cond.methodLink RX1 37 yX2_columnsOf : Cond) ∈ wsU := uin_3 (List.mem_of_getElem? (i := 5) rfl) rfl
theorem uw_3_6 : (Cond.methodLink RX1 41 yX1_sourcesOf : Cond) ∈ wsU := uin_3 (List.mem_of_getElem? (i := 6) rfl) rfl
theorem uw_3_8 : (Cond.instanceMethod yX1_sourcesOf : Cond) ∈ wsU := uin_3 (List.mem_of_getElem? (i := 8) rfl) rfl
theorem uw_3_9 : (Cond.code yX1_sourcesOf cX1_sourcesOf 4 (some .int) : Cond) ∈ wsU := uin_3 (List.mem_of_getElem? (i := 9) rfl) rfl
theorem uw_3_11 : (Cond.methodLink RX5 205 yX1_wayLength : Cond) ∈ wsU := uin_3 (List.mem_of_getElem? (i := 11) rfl) rfl
theorem uw_3_12 : (Cond.instanceMethod yX1_wayLength : Cond) ∈ wsU := uin_3 (List.mem_of_getElem? (i := 12) rfl) rfl
theorem uw_3_13 : (Cond.selects RX1 yX1_wayLength yX1_wayLength : Cond) ∈ wsU := uin_3 (List.mem_of_getElem? (i := 13) rfl) rfl
theorem uw_3_14 : (Cond.code yX1_wayLength cX1_wayLength 5 (some .int) : Cond) ∈ wsU := uin_3 (List.mem_of_getElem? (i := 14) rfl) rfl
theorem uw_3_15 : (Cond.methodLink RX1 63 yX1_targetsOf : Cond) ∈ wsU := uin_3 (List.mem_of_getElem? (i := 15) rfl) rfl
theorem uw_3_17 : (Cond.instanceMethod yX1_targetsOf : Cond) ∈ wsU := uin_3 (List.mem_of_getElem? (i := 17) rfl) rfl
theorem uw_3_18 : (Cond.code yX1_targetsOf cX1_targetsOf 4 (some .int) : Cond) ∈ wsU := uin_3 (List.mem_of_getElem? (i := 18) rfl) rfl
theorem uw_3_19 : (Cond.methodLink RL 122 yX5_ring : Cond) ∈ wsU := uin_3 (List.mem_of_getElem? (i := 19) rfl) rfl
theorem uw_3_20 : (Cond.instanceMethod yX5_ring : Cond) ∈ wsU := uin_3 (List.mem_of_getElem? (i := 20) rfl) rfl
theorem uw_3_21 : (Cond.selects RX5 yX5_ring yX5_ring : Cond) ∈ wsU := uin_3 (List.mem_of_getElem? (i := 21) rfl) rfl
theorem uw_3_22 : (Cond.code yX5_ring cX5_ring 4 (some .int) : Cond) ∈ wsU := uin_3 (List.mem_of_getElem? (i := 22) rfl) rfl
theorem uw_3_23 : (Cond.methodLink RX5 208 yX1_closeReach : Cond) ∈ wsU := uin_3 (List.mem_of_getElem? (i := 23) rfl) rfl
theorem uw_3_24 : (Cond.instanceMethod yX1_closeReach : Cond) ∈ wsU := uin_3 (List.mem_of_getElem? (i := 24) rfl) rfl
theorem uw_3_25 : (Cond.selects RX1 yX1_closeReach yX1_closeReach : Cond) ∈ wsU := uin_3 (List.mem_of_getElem? (i := 25) rfl) rfl
theorem uw_3_26 : (Cond.code yX1_closeReach cX1_closeReach 3 none : Cond) ∈ wsU := uin_3 (List.mem_of_getElem? (i := 26) rfl) rfl
theorem uw_3_27 : (Cond.methodLink RX5 211 yX1_leastOfRing : Cond) ∈ wsU := uin_3 (List.mem_of_getElem? (i := 27) rfl) rfl
theorem uw_3_28 : (Cond.instanceMethod yX1_leastOfRing : Cond) ∈ wsU := uin_3 (List.mem_of_getElem? (i := 28) rfl) rfl
theorem uw_3_29 : (Cond.selects RX1 yX1_leastOfRing yX1_leastOfRing : Cond) ∈ wsU := uin_3 (List.mem_of_getElem? (i := 29) rfl) rfl
theorem uw_3_30 : (Cond.code yX1_leastOfRing cX1_leastOfRing 3 (some .int) : Cond) ∈ wsU := uin_3 (List.mem_of_getElem? (i := 30) rfl) rfl
theorem uw_3_31 : (Cond.methodLink RX5 214 yX1_ringsBelow : Cond) ∈ wsU := uin_3 (List.mem_of_getElem? (i := 31) rfl) rfl
theorem uw_3_32 : (Cond.instanceMethod yX1_ringsBelow : Cond) ∈ wsU := uin_3 (List.mem_of_getElem? (i := 32) rfl) rfl
theorem uw_3_33 : (Cond.selects RX1 yX1_ringsBelow yX1_ringsBelow : Cond) ∈ wsU := uin_3 (List.mem_of_getElem? (i := 33) rfl) rfl
theorem uw_3_34 : (Cond.code yX1_ringsBelow cX1_ringsBelow 4 (some .int) : Cond) ∈ wsU := uin_3 (List.mem_of_getElem? (i := 34) rfl) rfl
theorem uw_3_35 : (Cond.methodLink RX1 66 yX1_leastOfRing : Cond) ∈ wsU := uin_3 (List.mem_of_getElem? (i := 35) rfl) rfl
theorem uw_3_36 : (Cond.methodLink RL 126 yX5_sort : Cond) ∈ wsU := uin_3 (List.mem_of_getElem? (i := 36) rfl) rfl
theorem uw_3_37 : (Cond.instanceMethod yX5_sort : Cond) ∈ wsU := uin_3 (List.mem_of_getElem? (i := 37) rfl) rfl
theorem uw_3_38 : (Cond.selects RX5 yX5_sort yX5_sort : Cond) ∈ wsU := uin_3 (List.mem_of_getElem? (i := 38) rfl) rfl
theorem uw_3_39 : (Cond.code yX5_sort cX5_sort 3 (some .int) : Cond) ∈ wsU := uin_3 (List.mem_of_getElem? (i := 39) rfl) rfl
theorem uw_3_40 : (Cond.methodLink RX5 217 yX1_sortInto : Cond) ∈ wsU := uin_3 (List.mem_of_getElem? (i := 40) rfl) rfl
theorem uw_3_41 : (Cond.instanceMethod yX1_sortInto : Cond) ∈ wsU := uin_3 (List.mem_of_getElem? (i := 41) rfl) rfl
theorem uw_3_42 : (Cond.selects RX1 yX1_sortInto yX1_sortInto : Cond) ∈ wsU := uin_3 (List.mem_of_getElem? (i := 42) rfl) rfl
theorem uw_3_43 : (Cond.code yX1_sortInto cX1_sortInto 5 (some .boolean) : Cond) ∈ wsU := uin_3 (List.mem_of_getElem? (i := 43) rfl) rfl
theorem uw_3_44 : (Cond.methodLink RX1 69 yX3_clear : Cond) ∈ wsU := uin_3 (List.mem_of_getElem? (i := 44) rfl) rfl
theorem uw_3_45 : (Cond.methodLink RX1 74 yX1_allNodes : Cond) ∈ wsU := uin_3 (List.mem_of_getElem? (i := 45) rfl) rfl
theorem uw_3_47 : (Cond.instanceMethod yX1_allNodes : Cond) ∈ wsU := uin_3 (List.mem_of_getElem? (i := 47) rfl) rfl
theorem uw_3_48 : (Cond.code yX1_allNodes cX1_allNodes 1 (some .int) : Cond) ∈ wsU := uin_3 (List.mem_of_getElem? (i := 48) rfl) rfl
theorem uw_3_50 : (Cond.methodLink RX1 78 yX1_leastWithoutSource : Cond) ∈ wsU := uin_3 (List.mem_of_getElem? (i := 50) rfl) rfl
theorem uw_3_52 : (Cond.instanceMethod yX1_leastWithoutSource : Cond) ∈ wsU := uin_3 (List.mem_of_getElem? (i := 52) rfl) rfl
theorem uw_3_53 : (Cond.code yX1_leastWithoutSource cX1_leastWithoutSource 4 (some .int) : Cond) ∈ wsU := uin_3 (List.mem_of_getElem? (i := 53) rfl) rfl
theorem uw_3_54 : (Cond.methodLink RX1 81 yX3_append : Cond) ∈ wsU := uin_3 (List.mem_of_getElem? (i := 54) rfl) rfl
theorem uw_3_55 : (Cond.methodLink RX5 221 yX5_putDraftNumbers : Cond) ∈ wsU := uin_3 (List.mem_of_getElem? (i := 55) rfl) rfl
theorem uw_3_57 : (Cond.instanceMethod yX5_putDraftNumbers : Cond) ∈ wsU := uin_3 (List.mem_of_getElem? (i := 57) rfl) rfl
theorem uw_3_58 : (Cond.code yX5_putDraftNumbers cX5_putDraftNumbers 2 none : Cond) ∈ wsU := uin_3 (List.mem_of_getElem? (i := 58) rfl) rfl
theorem uw_3_59 : (Cond.methodLink RL 130 yX5_narrow : Cond) ∈ wsU := uin_3 (List.mem_of_getElem? (i := 59) rfl) rfl
theorem uw_3_60 : (Cond.instanceMethod yX5_narrow : Cond) ∈ wsU := uin_3 (List.mem_of_getElem? (i := 60) rfl) rfl
theorem uw_3_61 : (Cond.selects RX5 yX5_narrow yX5_narrow : Cond) ∈ wsU := uin_3 (List.mem_of_getElem? (i := 61) rfl) rfl
theorem uw_3_62 : (Cond.code yX5_narrow cX5_narrow 3 (some .int) : Cond) ∈ wsU := uin_3 (List.mem_of_getElem? (i := 62) rfl) rfl
theorem uw_3_63 : (Cond.methodLink RX5 224 yX1_narrowInto : Cond) ∈ wsU := uin_3 (List.mem_of_getElem? (i := 63) rfl) rfl
theorem uw_3_64 : (Cond.instanceMethod yX1_narrowInto : Cond) ∈ wsU := uin_3 (List.mem_of_getElem? (i := 64) rfl) rfl
theorem uw_3_65 : (Cond.selects RX1 yX1_narrowInto yX1_narrowInto : Cond) ∈ wsU := uin_3 (List.mem_of_getElem? (i := 65) rfl) rfl
theorem uw_3_66 : (Cond.code yX1_narrowInto cX1_narrowInto 5 none : Cond) ∈ wsU := uin_3 (List.mem_of_getElem? (i := 66) rfl) rfl
theorem uw_3_67 : (Cond.methodLink RX1 88 yX1_moveFewest : Cond) ∈ wsU := uin_3 (List.mem_of_getElem? (i := 67) rfl) rfl
theorem uw_3_69 : (Cond.instanceMethod yX1_moveFewest : Cond) ∈ wsU := uin_3 (List.mem_of_getElem? (i := 69) rfl) rfl
theorem uw_3_70 : (Cond.code yX1_moveFewest cX1_moveFewest 8 (some .int) : Cond) ∈ wsU := uin_3 (List.mem_of_getElem? (i := 70) rfl) rfl
theorem uw_3_71 : (Cond.methodLink RX1 101 yJ6_bitCount_0f7a4 : Cond) ∈ wsU := uin_3 (List.mem_of_getElem? (i := 71) rfl) rfl
theorem uw_3_72 : (Cond.methodLink RX1 92 yX3_item : Cond) ∈ wsU := uin_3 (List.mem_of_getElem? (i := 72) rfl) rfl
theorem uw_3_73 : (Cond.methodLink RX1 95 yX1_neighboursOf : Cond) ∈ wsU := uin_3 (List.mem_of_getElem? (i := 73) rfl) rfl
theorem uw_3_75 : (Cond.instanceMethod yX1_neighboursOf : Cond) ∈ wsU := uin_3 (List.mem_of_getElem? (i := 75) rfl) rfl
theorem uw_3_76 : (Cond.code yX1_neighboursOf cX1_neighboursOf 2 (some .int) : Cond) ∈ wsU := uin_3 (List.mem_of_getElem? (i := 76) rfl) rfl
theorem uw_3_77 : (Cond.methodLink RX1 98 yX1_moveAll : Cond) ∈ wsU := uin_3 (List.mem_of_getElem? (i := 77) rfl) rfl
theorem uw_3_79 : (Cond.instanceMethod yX1_moveAll : Cond) ∈ wsU := uin_3 (List.mem_of_getElem? (i := 79) rfl) rfl
theorem uw_3_80 : (Cond.code yX1_moveAll cX1_moveAll 6 (some .int) : Cond) ∈ wsU := uin_3 (List.mem_of_getElem? (i := 80) rfl) rfl
theorem uw_3_81 : (Cond.methodLink RX5 228 yX1_widthOf : Cond) ∈ wsU := uin_3 (List.mem_of_getElem? (i := 81) rfl) rfl
theorem uw_3_82 : (Cond.instanceMethod yX1_widthOf : Cond) ∈ wsU := uin_3 (List.mem_of_getElem? (i := 82) rfl) rfl
theorem uw_3_83 : (Cond.selects RX1 yX1_widthOf yX1_widthOf : Cond) ∈ wsU := uin_3 (List.mem_of_getElem? (i := 83) rfl) rfl
theorem uw_3_84 : (Cond.code yX1_widthOf cX1_widthOf 5 (some .int) : Cond) ∈ wsU := uin_3 (List.mem_of_getElem? (i := 84) rfl) rfl
theorem uw_3_85 : (Cond.methodLink RX1 106 yJ9_max_7cf53 : Cond) ∈ wsU := uin_3 (List.mem_of_getElem? (i := 85) rfl) rfl
theorem uw_3_86 : (Cond.static yJ9_max_7cf53 : Cond) ∈ wsU := uin_3 (List.mem_of_getElem? (i := 86) rfl) rfl
theorem uw_3_87 : (Cond.code yJ9_max_7cf53 cJ9_max_7cf53 2 (some .int) : Cond) ∈ wsU := uin_3 (List.mem_of_getElem? (i := 87) rfl) rfl
theorem uw_3_88 : (Cond.methodLink RL 134 yX5_width : Cond) ∈ wsU := uin_3 (List.mem_of_getElem? (i := 88) rfl) rfl
theorem uw_3_89 : (Cond.instanceMethod yX5_width : Cond) ∈ wsU := uin_3 (List.mem_of_getElem? (i := 89) rfl) rfl
theorem uw_3_90 : (Cond.selects RX5 yX5_width yX5_width : Cond) ∈ wsU := uin_3 (List.mem_of_getElem? (i := 90) rfl) rfl
theorem uw_3_91 : (Cond.code yX5_width cX5_width 3 (some .int) : Cond) ∈ wsU := uin_3 (List.mem_of_getElem? (i := 91) rfl) rfl
theorem uw_3_92 : (Cond.methodLink RX5 232 yX3_areEachBelowOnce : Cond) ∈ wsU := uin_3 (List.mem_of_getElem? (i := 92) rfl) rfl
theorem uw_3_93 : (Cond.instanceMethod yX3_areEachBelowOnce : Cond) ∈ wsU := uin_3 (List.mem_of_getElem? (i := 93) rfl) rfl
theorem uw_3_94 : (Cond.selects RX3 yX3_areEachBelowOnce yX3_areEachBelowOnce : Cond) ∈ wsU := uin_3 (List.mem_of_getElem? (i := 94) rfl) rfl
theorem uw_3_95 : (Cond.code yX3_areEachBelowOnce cX3_areEachBelowOnce 4 (some .boolean) : Cond) ∈ wsU := uin_3 (List.mem_of_getElem? (i := 95) rfl) rfl
theorem uw_3_96 : (Cond.methodLink RX3 23 yX3_areBelow : Cond) ∈ wsU := uin_3 (List.mem_of_getElem? (i := 96) rfl) rfl
theorem uw_3_97 : (Cond.methodLink RX3 26 yJ6_bitCount_0f7a4 : Cond) ∈ wsU := uin_3 (List.mem_of_getElem? (i := 97) rfl) rfl
theorem uw_3_98 : (Cond.classLink RL 10 RX6 : Cond) ∈ wsU := uin_3 (List.mem_of_getElem? (i := 98) rfl) rfl
theorem uw_3_99 : (Cond.instantiable RX6 14 : Cond) ∈ wsU := uin_3 (List.mem_of_getElem? (i := 99) rfl) rfl
theorem uw_3_100 : (Cond.methodLink RL 12 yX6_init : Cond) ∈ wsU := uin_3 (List.mem_of_getElem? (i := 100) rfl) rfl
theorem uw_3_101 : (Cond.instanceMethod yX6_init : Cond) ∈ wsU := uin_3 (List.mem_of_getElem? (i := 101) rfl) rfl
theorem uw_3_102 : (Cond.code yX6_init cX6_init 1 none : Cond) ∈ wsU := uin_3 (List.mem_of_getElem? (i := 102) rfl) rfl
theorem uw_3_103 : (Cond.methodLink RX6 1 objectInit : Cond) ∈ wsU := uin_3 (List.mem_of_getElem? (i := 103) rfl) rfl
theorem uw_3_104 : (Cond.fieldLink RX6 7 "KeptTablesModel" "there" "[Z" : Cond) ∈ wsU := uin_3 (List.mem_of_getElem? (i := 104) rfl) rfl
theorem uw_3_105 : (Cond.fieldLink RX6 13 "KeptTablesModel" "high" "[I" : Cond) ∈ wsU := uin_3 (List.mem_of_getElem? (i := 105) rfl) rfl
theorem uw_3_106 : (Cond.fieldLink RX6 17 "KeptTablesModel" "wide" "[I" : Cond) ∈ wsU := uin_3 (List.mem_of_getElem? (i := 106) rfl) rfl
theorem uw_3_107 : (Cond.fieldLink RX6 20 "KeptTablesModel" "isKept" "[Z" : Cond) ∈ wsU := uin_3 (List.mem_of_getElem? (i := 107) rfl) rfl
theorem uw_3_108 : (Cond.fieldLink RX6 23 "KeptTablesModel" "value" "[J" : Cond) ∈ wsU := uin_3 (List.mem_of_getElem? (i := 108) rfl) rfl
theorem uw_3_109 : (Cond.fieldLink RX6 71 "KeptTablesModel" "triples" "I" : Cond) ∈ wsU := uin_3 (List.mem_of_getElem? (i := 109) rfl) rfl
theorem uw_3_110 : (Cond.fieldLink RX6 27 "KeptTablesModel" "tripleAt" "[I" : Cond) ∈ wsU := uin_3 (List.mem_of_getElem? (i := 110) rfl) rfl
theorem uw_3_111 : (Cond.fieldLink RX6 30 "KeptTablesModel" "tripleValue" "[J" : Cond) ∈ wsU := uin_3 (List.mem_of_getElem? (i := 111) rfl) rfl
theorem uw_3_112 : (Cond.fieldLink RX6 75 "KeptTablesModel" "listMany" "I" : Cond) ∈ wsU := uin_3 (List.mem_of_getElem? (i := 112) rfl) rfl
theorem uw_3_113 : (Cond.fieldLink RX6 33 "KeptTablesModel" "listOf" "[I" : Cond) ∈ wsU := uin_3 (List.mem_of_getElem? (i := 113) rfl) rfl
theorem uw_3_114 : (Cond.fieldLink RX6 36 "KeptTablesModel" "cells" "[J" : Cond) ∈ wsU := uin_3 (List.mem_of_getElem? (i := 114) rfl) rfl
theorem uw_3_115 : (Cond.fieldLink RX6 97 "KeptTablesModel" "laid" "I" : Cond) ∈ wsU := uin_3 (List.mem_of_getElem? (i := 115) rfl) rfl
theorem uw_3_116 : (Cond.fieldLink RX6 39 "KeptTablesModel" "here" "[J" : Cond) ∈ wsU := uin_3 (List.mem_of_getElem? (i := 116) rfl) rfl
theorem uw_3_117 : (Cond.fieldLink RX6 42 "KeptTablesModel" "next" "[J" : Cond) ∈ wsU := uin_3 (List.mem_of_getElem? (i := 117) rfl) rfl
theorem uw_3_118 : (Cond.laysFinal RX6 "KeptTablesModel" "there" "[Z" : Cond) ∈ wsU := uin_3 (List.mem_of_getElem? (i := 118) rfl) rfl
theorem uw_3_120 : (Cond.laysFinal RX6 "KeptTablesModel" "high" "[I" : Cond) ∈ wsU := uin_3 (List.mem_of_getElem? (i := 120) rfl) rfl
theorem uw_3_122 : (Cond.laysFinal RX6 "KeptTablesModel" "wide" "[I" : Cond) ∈ wsU := uin_3 (List.mem_of_getElem? (i := 122) rfl) rfl
theorem uw_3_124 : (Cond.laysFinal RX6 "KeptTablesModel" "isKept" "[Z" : Cond) ∈ wsU := uin_3 (List.mem_of_getElem? (i := 124) rfl) rfl
theorem uw_3_126 : (Cond.laysFinal RX6 "KeptTablesModel" "value" "[J" : Cond) ∈ wsU := uin_3 (List.mem_of_getElem? (i := 126) rfl) rfl
theorem uw_3_128 : (Cond.lays RX6 "KeptTablesModel" "triples" "I" : Cond) ∈ wsU := uin_3 (List.mem_of_getElem? (i := 128) rfl) rfl
theorem uw_3_130 : (Cond.laysFinal RX6 "KeptTablesModel" "tripleAt" "[I" : Cond) ∈ wsU := uin_3 (List.mem_of_getElem? (i := 130) rfl) rfl
theorem uw_3_132 : (Cond.laysFinal RX6 "KeptTablesModel" "tripleValue" "[J" : Cond) ∈ wsU := uin_3 (List.mem_of_getElem? (i := 132) rfl) rfl
theorem uw_3_134 : (Cond.lays RX6 "KeptTablesModel" "listMany" "I" : Cond) ∈ wsU := uin_3 (List.mem_of_getElem? (i := 134) rfl) rfl
theorem uw_3_136 : (Cond.laysFinal RX6 "KeptTablesModel" "listOf" "[I" : Cond) ∈ wsU := uin_3 (List.mem_of_getElem? (i := 136) rfl) rfl
theorem uw_3_138 : (Cond.laysFinal RX6 "KeptTablesModel" "cells" "[J" : Cond) ∈ wsU := uin_3 (List.mem_of_getElem? (i := 138) rfl) rfl
theorem uw_3_140 : (Cond.lays RX6 "KeptTablesModel" "laid" "I" : Cond) ∈ wsU := uin_3 (List.mem_of_getElem? (i := 140) rfl) rfl
theorem uw_3_142 : (Cond.laysFinal RX6 "KeptTablesModel" "here" "[J" : Cond) ∈ wsU := uin_3 (List.mem_of_getElem? (i := 142) rfl) rfl
theorem uw_3_144 : (Cond.laysFinal RX6 "KeptTablesModel" "next" "[J" : Cond) ∈ wsU := uin_3 (List.mem_of_getElem? (i := 144) rfl) rfl
theorem uw_3_147 : (Cond.arrayClass .boolean : Cond) ∈ wsU := uin_3 (List.mem_of_getElem? (i := 147) rfl) rfl
theorem uw_3_148 : (Cond.methodLink RL 17 yX6_table : Cond) ∈ wsU := uin_3 (List.mem_of_getElem? (i := 148) rfl) rfl
theorem uw_3_149 : (Cond.instanceMethod yX6_table : Cond) ∈ wsU := uin_3 (List.mem_of_getElem? (i := 149) rfl) rfl
theorem uw_3_150 : (Cond.selects RX6 yX6_table yX6_table : Cond) ∈ wsU := uin_3 (List.mem_of_getElem? (i := 150) rfl) rfl
theorem uw_3_151 : (Cond.code yX6_table cX6_table 4 (some .int) : Cond) ∈ wsU := uin_3 (List.mem_of_getElem? (i := 151) rfl) rfl
theorem uw_3_152 : (Cond.methodLink RX6 45 yX6_isNumber : Cond) ∈ wsU := uin_3 (List.mem_of_getElem? (i := 152) rfl) rfl
theorem uw_3_153 : (Cond.static yX6_isNumber : Cond) ∈ wsU := uin_3 (List.mem_of_getElem? (i := 153) rfl) rfl
theorem uw_3_154 : (Cond.code yX6_isNumber cX6_isNumber 1 (some .boolean) : Cond) ∈ wsU := uin_3 (List.mem_of_getElem? (i := 154) rfl) rfl
theorem uw_3_155 : (Cond.methodLink RX6 64 yX6_begin : Cond) ∈ wsU := uin_3 (List.mem_of_getElem? (i := 155) rfl) rfl
theorem uw_3_157 : (Cond.instanceMethod yX6_begin : Cond) ∈ wsU := uin_3 (List.mem_of_getElem? (i := 157) rfl) rfl
theorem uw_3_158 : (Cond.code yX6_begin cX6_begin 4 none : Cond) ∈ wsU := uin_3 (List.mem_of_getElem? (i := 158) rfl) rfl
theorem uw_3_159 : (Cond.methodLink RX6 68 yX6_putAt : Cond) ∈ wsU := uin_3 (List.mem_of_getElem? (i := 159) rfl) rfl
theorem uw_3_161 : (Cond.instanceMethod yX6_putAt : Cond) ∈ wsU := uin_3 (List.mem_of_getElem? (i := 161) rfl) rfl
theorem uw_3_162 : (Cond.code yX6_putAt cX6_putAt 4 (some .int) : Cond) ∈ wsU := uin_3 (List.mem_of_getElem? (i := 162) rfl) rfl
theorem uw_3_163 : (Cond.methodLink RX6 49 yX6_many : Cond) ∈ wsU := uin_3 (List.mem_of_getElem? (i := 163) rfl) rfl
theorem uw_3_165 : (Cond.instanceMethod yX6_many : Cond) ∈ wsU := uin_3 (List.mem_of_getElem? (i := 165) rfl) rfl
theorem uw_3_166 : (Cond.code yX6_many cX6_many 4 (some .int) : Cond) ∈ wsU := uin_3 (List.mem_of_getElem? (i := 166) rfl) rfl
theorem uw_3_167 : (Cond.methodLink RL 24 yX6_triple : Cond) ∈ wsU := uin_3 (List.mem_of_getElem? (i := 167) rfl) rfl
theorem uw_3_168 : (Cond.instanceMethod yX6_triple : Cond) ∈ wsU := uin_3 (List.mem_of_getElem? (i := 168) rfl) rfl
theorem uw_3_169 : (Cond.selects RX6 yX6_triple yX6_triple : Cond) ∈ wsU := uin_3 (List.mem_of_getElem? (i := 169) rfl) rfl
theorem uw_3_170 : (Cond.code yX6_triple cX6_triple 5 (some .int) : Cond) ∈ wsU := uin_3 (List.mem_of_getElem? (i := 170) rfl) rfl
theorem uw_3_171 : (Cond.methodLink RL 29 yX6_list : Cond) ∈ wsU := uin_3 (List.mem_of_getElem? (i := 171) rfl) rfl
theorem uw_3_172 : (Cond.instanceMethod yX6_list : Cond) ∈ wsU := uin_3 (List.mem_of_getElem? (i := 172) rfl) rfl
theorem uw_3_173 : (Cond.selects RX6 yX6_list yX6_list : Cond) ∈ wsU := uin_3 (List.mem_of_getElem? (i := 173) rfl) rfl
theorem uw_3_174 : (Cond.code yX6_list cX6_list 2 (some .int) : Cond) ∈ wsU := uin_3 (List.mem_of_getElem? (i := 174) rfl) rfl
theorem uw_3_175 : (Cond.methodLink RL 33 yX6_listed : Cond) ∈ wsU := uin_3 (List.mem_of_getElem? (i := 175) rfl) rfl
theorem uw_3_176 : (Cond.instanceMethod yX6_listed : Cond) ∈ wsU := uin_3 (List.mem_of_getElem? (i := 176) rfl) rfl
theorem uw_3_177 : (Cond.selects RX6 yX6_listed yX6_listed : Cond) ∈ wsU := uin_3 (List.mem_of_getElem? (i := 177) rfl) rfl
theorem uw_3_178 : (Cond.code yX6_listed cX6_listed 2 (some .int) : Cond) ∈ wsU := uin_3 (List.mem_of_getElem? (i := 178) rfl) rfl
theorem uw_3_179 : (Cond.methodLink RL 37 yX6_join : Cond) ∈ wsU := uin_3 (List.mem_of_getElem? (i := 179) rfl) rfl
theorem uw_3_180 : (Cond.instanceMethod yX6_join : Cond) ∈ wsU := uin_3 (List.mem_of_getElem? (i := 180) rfl) rfl
theorem uw_3_181 : (Cond.selects RX6 yX6_join yX6_join : Cond) ∈ wsU := uin_3 (List.mem_of_getElem? (i := 181) rfl) rfl
theorem uw_3_182 : (Cond.code yX6_join cX6_join 5 (some .int) : Cond) ∈ wsU := uin_3 (List.mem_of_getElem? (i := 182) rfl) rfl
theorem uw_3_183 : (Cond.methodLink RX6 78 yX6_isTable : Cond) ∈ wsU := uin_3 (List.mem_of_getElem? (i := 183) rfl) rfl
theorem uw_3_185 : (Cond.instanceMethod yX6_isTable : Cond) ∈ wsU := uin_3 (List.mem_of_getElem? (i := 185) rfl) rfl
theorem uw_3_186 : (Cond.code yX6_isTable cX6_isTable 2 (some .boolean) : Cond) ∈ wsU := uin_3 (List.mem_of_getElem? (i := 186) rfl) rfl
theorem uw_3_187 : (Cond.methodLink RX6 81 yX6_take : Cond) ∈ wsU := uin_3 (List.mem_of_getElem? (i := 187) rfl) rfl
theorem uw_3_189 : (Cond.instanceMethod yX6_take : Cond) ∈ wsU := uin_3 (List.mem_of_getElem? (i := 189) rfl) rfl
theorem uw_3_190 : (Cond.code yX6_take cX6_take 3 none : Cond) ∈ wsU := uin_3 (List.mem_of_getElem? (i := 190) rfl) rfl
theorem uw_3_191 : (Cond.methodLink RX6 57 yX6_isIn : Cond) ∈ wsU := uin_3 (List.mem_of_getElem? (i := 191) rfl) rfl
theorem uw_3_193 : (Cond.instanceMethod yX6_isIn : Cond) ∈ wsU := uin_3 (List.mem_of_getElem? (i := 193) rfl) rfl
theorem uw_3_194 : (Cond.code yX6_isIn cX6_isIn 4 (some .boolean) : Cond) ∈ wsU := uin_3 (List.mem_of_getElem? (i := 194) rfl) rfl
theorem uw_3_195 : (Cond.methodLink RL 42 yX6_count : Cond) ∈ wsU := uin_3 (List.mem_of_getElem? (i := 195) rfl) rfl
theorem uw_3_196 : (Cond.instanceMethod yX6_count : Cond) ∈ wsU := uin_3 (List.mem_of_getElem? (i := 196) rfl) rfl
theorem uw_3_197 : (Cond.selects RX6 yX6_count yX6_count : Cond) ∈ wsU := uin_3 (List.mem_of_getElem? (i := 197) rfl) rfl
theorem uw_3_198 : (Cond.code yX6_count cX6_count 5 (some .int) : Cond) ∈ wsU := uin_3 (List.mem_of_getElem? (i := 198) rfl) rfl
theorem uw_3_199 : (Cond.methodLink RL 47 yX6_at : Cond) ∈ wsU := uin_3 (List.mem_of_getElem? (i := 199) rfl) rfl
theorem uw_3_200 : (Cond.instanceMethod yX6_at : Cond) ∈ wsU := uin_3 (List.mem_of_getElem? (i := 200) rfl) rfl
theorem uw_3_201 : (Cond.selects RX6 yX6_at yX6_at : Cond) ∈ wsU := uin_3 (List.mem_of_getElem? (i := 201) rfl) rfl
theorem uw_3_202 : (Cond.code yX6_at cX6_at 4 (some .long) : Cond) ∈ wsU := uin_3 (List.mem_of_getElem? (i := 202) rfl) rfl
theorem uw_3_203 : (Cond.methodLink RX6 85 yX6_holds : Cond) ∈ wsU := uin_3 (List.mem_of_getElem? (i := 203) rfl) rfl
theorem uw_3_205 : (Cond.instanceMethod yX6_holds : Cond) ∈ wsU := uin_3 (List.mem_of_getElem? (i := 205) rfl) rfl
theorem uw_3_206 : (Cond.code yX6_holds cX6_holds 4 (some .long) : Cond) ∈ wsU := uin_3 (List.mem_of_getElem? (i := 206) rfl) rfl
theorem uw_3_207 : (Cond.methodLink RX6 61 yX6_has : Cond) ∈ wsU := uin_3 (List.mem_of_getElem? (i := 207) rfl) rfl
theorem uw_3_209 : (Cond.instanceMethod yX6_has : Cond) ∈ wsU := uin_3 (List.mem_of_getElem? (i := 209) rfl) rfl
theorem uw_3_210 : (Cond.code yX6_has cX6_has 4 (some .boolean) : Cond) ∈ wsU := uin_3 (List.mem_of_getElem? (i := 210) rfl) rfl
theorem uw_3_211 : (Cond.methodLink RX6 53 yX6_cellOf : Cond) ∈ wsU := uin_3 (List.mem_of_getElem? (i := 211) rfl) rfl
theorem uw_3_212 : (Cond.static yX6_cellOf : Cond) ∈ wsU := uin_3 (List.mem_of_getElem? (i := 212) rfl) rfl
theorem uw_3_213 : (Cond.code yX6_cellOf cX6_cellOf 3 (some .int) : Cond) ∈ wsU := uin_3 (List.mem_of_getElem? (i := 213) rfl) rfl
theorem uw_3_214 : (Cond.methodLink RL 51 yX6_kept : Cond) ∈ wsU := uin_3 (List.mem_of_getElem? (i := 214) rfl) rfl
theorem uw_3_215 : (Cond.instanceMethod yX6_kept : Cond) ∈ wsU := uin_3 (List.mem_of_getElem? (i := 215) rfl) rfl
theorem uw_3_216 : (Cond.selects RX6 yX6_kept yX6_kept : Cond) ∈ wsU := uin_3 (List.mem_of_getElem? (i := 216) rfl) rfl
theorem uw_3_217 : (Cond.code yX6_kept cX6_kept 6 (some .int) : Cond) ∈ wsU := uin_3 (List.mem_of_getElem? (i := 217) rfl) rfl
theorem uw_3_218 : (Cond.methodLink RL 55 yX6_place : Cond) ∈ wsU := uin_3 (List.mem_of_getElem? (i := 218) rfl) rfl
theorem uw_3_219 : (Cond.instanceMethod yX6_place : Cond) ∈ wsU := uin_3 (List.mem_of_getElem? (i := 219) rfl) rfl
theorem uw_3_220 : (Cond.selects RX6 yX6_place yX6_place : Cond) ∈ wsU := uin_3 (List.mem_of_getElem? (i := 220) rfl) rfl
theorem uw_3_221 : (Cond.code yX6_place cX6_place 5 (some .int) : Cond) ∈ wsU := uin_3 (List.mem_of_getElem? (i := 221) rfl) rfl
theorem uw_3_222 : (Cond.methodLink RL 60 yX6_set : Cond) ∈ wsU := uin_3 (List.mem_of_getElem? (i := 222) rfl) rfl
theorem uw_3_223 : (Cond.instanceMethod yX6_set : Cond) ∈ wsU := uin_3 (List.mem_of_getElem? (i := 223) rfl) rfl
theorem uw_3_224 : (Cond.selects RX6 yX6_set yX6_set : Cond) ∈ wsU := uin_3 (List.mem_of_getElem? (i := 224) rfl) rfl
theorem uw_3_225 : (Cond.code yX6_set cX6_set 6 (some .int) : Cond) ∈ wsU := uin_3 (List.mem_of_getElem? (i := 225) rfl) rfl
theorem uw_3_226 : (Cond.methodLink RL 64 yX6_prune : Cond) ∈ wsU := uin_3 (List.mem_of_getElem? (i := 226) rfl) rfl
theorem uw_3_227 : (Cond.instanceMethod yX6_prune : Cond) ∈ wsU := uin_3 (List.mem_of_getElem? (i := 227) rfl) rfl
theorem uw_3_228 : (Cond.selects RX6 yX6_prune yX6_prune : Cond) ∈ wsU := uin_3 (List.mem_of_getElem? (i := 228) rfl) rfl
theorem uw_3_229 : (Cond.code yX6_prune cX6_prune 4 (some .int) : Cond) ∈ wsU := uin_3 (List.mem_of_getElem? (i := 229) rfl) rfl
theorem uw_3_230 : (Cond.methodLink RL 69 yX6_add : Cond) ∈ wsU := uin_3 (List.mem_of_getElem? (i := 230) rfl) rfl
theorem uw_3_231 : (Cond.instanceMethod yX6_add : Cond) ∈ wsU := uin_3 (List.mem_of_getElem? (i := 231) rfl) rfl
theorem uw_3_232 : (Cond.selects RX6 yX6_add yX6_add : Cond) ∈ wsU := uin_3 (List.mem_of_getElem? (i := 232) rfl) rfl
theorem uw_3_233 : (Cond.code yX6_add cX6_add 10 (some .int) : Cond) ∈ wsU := uin_3 (List.mem_of_getElem? (i := 233) rfl) rfl
theorem uw_3_234 : (Cond.methodLink RX6 89 yX6_areLike : Cond) ∈ wsU := uin_3 (List.mem_of_getElem? (i := 234) rfl) rfl
theorem uw_3_236 : (Cond.instanceMethod yX6_areLike : Cond) ∈ wsU := uin_3 (List.mem_of_getElem? (i := 236) rfl) rfl
theorem uw_3_237 : (Cond.code yX6_areLike cX6_areLike 3 (some .boolean) : Cond) ∈ wsU := uin_3 (List.mem_of_getElem? (i := 237) rfl) rfl
theorem uw_3_238 : (Cond.methodLink RX6 93 yX6_keep : Cond) ∈ wsU := uin_3 (List.mem_of_getElem? (i := 238) rfl) rfl
theorem uw_4_0 : (Cond.instanceMethod yX6_keep : Cond) ∈ wsU := uin_4 (List.mem_of_getElem? (i := 0) rfl) rfl
theorem uw_4_1 : (Cond.code yX6_keep cX6_keep 5 none : Cond) ∈ wsU := uin_4 (List.mem_of_getElem? (i := 1) rfl) rfl
theorem uw_4_2 : (Cond.methodLink RL 73 yX6_times : Cond) ∈ wsU := uin_4 (List.mem_of_getElem? (i := 2) rfl) rfl
theorem uw_4_3 : (Cond.instanceMethod yX6_times : Cond) ∈ wsU := uin_4 (List.mem_of_getElem? (i := 3) rfl) rfl
theorem uw_4_4 : (Cond.selects RX6 yX6_times yX6_times : Cond) ∈ wsU := uin_4 (List.mem_of_getElem? (i := 4) rfl) rfl
theorem uw_4_5 : (Cond.code yX6_times cX6_times 10 (some .int) : Cond) ∈ wsU := uin_4 (List.mem_of_getElem? (i := 5) rfl) rfl
theorem uw_4_6 : (Cond.methodLink RL 77 yX6_each : Cond) ∈ wsU := uin_4 (List.mem_of_getElem? (i := 6) rfl) rfl
theorem uw_4_7 : (Cond.instanceMethod yX6_each : Cond) ∈ wsU := uin_4 (List.mem_of_getElem? (i := 7) rfl) rfl
theorem uw_4_8 : (Cond.selects RX6 yX6_each yX6_each : Cond) ∈ wsU := uin_4 (List.mem_of_getElem? (i := 8) rfl) rfl
theorem uw_4_9 : (Cond.code yX6_each cX6_each 6 (some .int) : Cond) ∈ wsU := uin_4 (List.mem_of_getElem? (i := 9) rfl) rfl
theorem uw_4_10 : (Cond.methodLink RL 82 yX6_mask : Cond) ∈ wsU := uin_4 (List.mem_of_getElem? (i := 10) rfl) rfl
theorem uw_4_11 : (Cond.instanceMethod yX6_mask : Cond) ∈ wsU := uin_4 (List.mem_of_getElem? (i := 11) rfl) rfl
theorem uw_4_12 : (Cond.selects RX6 yX6_mask yX6_mask : Cond) ∈ wsU := uin_4 (List.mem_of_getElem? (i := 12) rfl) rfl
theorem uw_4_13 : (Cond.code yX6_mask cX6_mask 7 (some .int) : Cond) ∈ wsU := uin_4 (List.mem_of_getElem? (i := 13) rfl) rfl
theorem uw_4_14 : (Cond.methodLink RL 86 yX6_turn : Cond) ∈ wsU := uin_4 (List.mem_of_getElem? (i := 14) rfl) rfl
theorem uw_4_15 : (Cond.instanceMethod yX6_turn : Cond) ∈ wsU := uin_4 (List.mem_of_getElem? (i := 15) rfl) rfl
theorem uw_4_16 : (Cond.selects RX6 yX6_turn yX6_turn : Cond) ∈ wsU := uin_4 (List.mem_of_getElem? (i := 16) rfl) rfl
theorem uw_4_17 : (Cond.code yX6_turn cX6_turn 5 (some .int) : Cond) ∈ wsU := uin_4 (List.mem_of_getElem? (i := 17) rfl) rfl
theorem uw_4_18 : (Cond.methodLink RL 90 yX6_rows : Cond) ∈ wsU := uin_4 (List.mem_of_getElem? (i := 18) rfl) rfl
theorem uw_4_19 : (Cond.instanceMethod yX6_rows : Cond) ∈ wsU := uin_4 (List.mem_of_getElem? (i := 19) rfl) rfl
theorem uw_4_20 : (Cond.selects RX6 yX6_rows yX6_rows : Cond) ∈ wsU := uin_4 (List.mem_of_getElem? (i := 20) rfl) rfl
theorem uw_4_21 : (Cond.code yX6_rows cX6_rows 6 (some .int) : Cond) ∈ wsU := uin_4 (List.mem_of_getElem? (i := 21) rfl) rfl
theorem uw_4_22 : (Cond.methodLink RL 95 yX6_slopes : Cond) ∈ wsU := uin_4 (List.mem_of_getElem? (i := 22) rfl) rfl
theorem uw_4_23 : (Cond.instanceMethod yX6_slopes : Cond) ∈ wsU := uin_4 (List.mem_of_getElem? (i := 23) rfl) rfl
theorem uw_4_24 : (Cond.selects RX6 yX6_slopes yX6_slopes : Cond) ∈ wsU := uin_4 (List.mem_of_getElem? (i := 24) rfl) rfl
theorem uw_4_25 : (Cond.code yX6_slopes cX6_slopes 12 (some .int) : Cond) ∈ wsU := uin_4 (List.mem_of_getElem? (i := 25) rfl) rfl
theorem uw_4_26 : (Cond.methodLink RL 100 yX6_sum : Cond) ∈ wsU := uin_4 (List.mem_of_getElem? (i := 26) rfl) rfl
theorem uw_4_27 : (Cond.instanceMethod yX6_sum : Cond) ∈ wsU := uin_4 (List.mem_of_getElem? (i := 27) rfl) rfl
theorem uw_4_28 : (Cond.selects RX6 yX6_sum yX6_sum : Cond) ∈ wsU := uin_4 (List.mem_of_getElem? (i := 28) rfl) rfl
theorem uw_4_29 : (Cond.code yX6_sum cX6_sum 7 (some .long) : Cond) ∈ wsU := uin_4 (List.mem_of_getElem? (i := 29) rfl) rfl
theorem uw_4_30 : (Cond.methodLink RL 104 yX6_cost : Cond) ∈ wsU := uin_4 (List.mem_of_getElem? (i := 30) rfl) rfl
theorem uw_4_31 : (Cond.instanceMethod yX6_cost : Cond) ∈ wsU := uin_4 (List.mem_of_getElem? (i := 31) rfl) rfl
theorem uw_4_32 : (Cond.selects RX6 yX6_cost yX6_cost : Cond) ∈ wsU := uin_4 (List.mem_of_getElem? (i := 32) rfl) rfl
theorem uw_4_33 : (Cond.code yX6_cost cX6_cost 4 (some .int) : Cond) ∈ wsU := uin_4 (List.mem_of_getElem? (i := 33) rfl) rfl
theorem uw_4_34 : (Cond.methodLink RX6 124 yX6_isForm : Cond) ∈ wsU := uin_4 (List.mem_of_getElem? (i := 34) rfl) rfl
theorem uw_4_35 : (Cond.static yX6_isForm : Cond) ∈ wsU := uin_4 (List.mem_of_getElem? (i := 35) rfl) rfl
theorem uw_4_36 : (Cond.code yX6_isForm cX6_isForm 2 (some .boolean) : Cond) ∈ wsU := uin_4 (List.mem_of_getElem? (i := 36) rfl) rfl
theorem uw_4_37 : (Cond.methodLink RX6 127 yX6_layOut : Cond) ∈ wsU := uin_4 (List.mem_of_getElem? (i := 37) rfl) rfl
theorem uw_4_39 : (Cond.instanceMethod yX6_layOut : Cond) ∈ wsU := uin_4 (List.mem_of_getElem? (i := 39) rfl) rfl
theorem uw_4_40 : (Cond.code yX6_layOut cX6_layOut 5 none : Cond) ∈ wsU := uin_4 (List.mem_of_getElem? (i := 40) rfl) rfl
theorem uw_4_41 : (Cond.methodLink RX6 100 yX6_lay : Cond) ∈ wsU := uin_4 (List.mem_of_getElem? (i := 41) rfl) rfl
theorem uw_4_43 : (Cond.instanceMethod yX6_lay : Cond) ∈ wsU := uin_4 (List.mem_of_getElem? (i := 43) rfl) rfl
theorem uw_4_44 : (Cond.code yX6_lay cX6_lay 3 none : Cond) ∈ wsU := uin_4 (List.mem_of_getElem? (i := 44) rfl) rfl
theorem uw_4_45 : (Cond.methodLink RX6 112 yX6_byRows : Cond) ∈ wsU := uin_4 (List.mem_of_getElem? (i := 45) rfl) rfl
theorem uw_4_47 : (Cond.instanceMethod yX6_byRows : Cond) ∈ wsU := uin_4 (List.mem_of_getElem? (i := 47) rfl) rfl
theorem uw_4_48 : (Cond.code yX6_byRows cX6_byRows 5 none : Cond) ∈ wsU := uin_4 (List.mem_of_getElem? (i := 48) rfl) rfl
theorem uw_4_49 : (Cond.methodLink RX6 115 yX6_byColumns : Cond) ∈ wsU := uin_4 (List.mem_of_getElem? (i := 49) rfl) rfl
theorem uw_4_51 : (Cond.instanceMethod yX6_byColumns : Cond) ∈ wsU := uin_4 (List.mem_of_getElem? (i := 51) rfl) rfl
theorem uw_4_52 : (Cond.code yX6_byColumns cX6_byColumns 7 none : Cond) ∈ wsU := uin_4 (List.mem_of_getElem? (i := 52) rfl) rfl
theorem uw_4_53 : (Cond.methodLink RX6 118 yX6_blocks : Cond) ∈ wsU := uin_4 (List.mem_of_getElem? (i := 53) rfl) rfl
theorem uw_4_55 : (Cond.instanceMethod yX6_blocks : Cond) ∈ wsU := uin_4 (List.mem_of_getElem? (i := 55) rfl) rfl
theorem uw_4_56 : (Cond.code yX6_blocks cX6_blocks 9 none : Cond) ∈ wsU := uin_4 (List.mem_of_getElem? (i := 56) rfl) rfl
theorem uw_4_57 : (Cond.methodLink RX6 104 yX6_isBlock : Cond) ∈ wsU := uin_4 (List.mem_of_getElem? (i := 57) rfl) rfl
theorem uw_4_59 : (Cond.instanceMethod yX6_isBlock : Cond) ∈ wsU := uin_4 (List.mem_of_getElem? (i := 59) rfl) rfl
theorem uw_4_60 : (Cond.code yX6_isBlock cX6_isBlock 8 (some .boolean) : Cond) ∈ wsU := uin_4 (List.mem_of_getElem? (i := 60) rfl) rfl
theorem uw_4_61 : (Cond.methodLink RX6 108 yX6_layBlock : Cond) ∈ wsU := uin_4 (List.mem_of_getElem? (i := 61) rfl) rfl
theorem uw_4_63 : (Cond.instanceMethod yX6_layBlock : Cond) ∈ wsU := uin_4 (List.mem_of_getElem? (i := 63) rfl) rfl
theorem uw_4_64 : (Cond.code yX6_layBlock cX6_layBlock 7 none : Cond) ∈ wsU := uin_4 (List.mem_of_getElem? (i := 64) rfl) rfl
theorem uw_4_65 : (Cond.methodLink RX6 121 yX6_slants : Cond) ∈ wsU := uin_4 (List.mem_of_getElem? (i := 65) rfl) rfl
theorem uw_4_67 : (Cond.instanceMethod yX6_slants : Cond) ∈ wsU := uin_4 (List.mem_of_getElem? (i := 67) rfl) rfl
theorem uw_4_68 : (Cond.code yX6_slants cX6_slants 5 none : Cond) ∈ wsU := uin_4 (List.mem_of_getElem? (i := 68) rfl) rfl
theorem uw_4_69 : (Cond.methodLink RL 108 yX6_cheapest : Cond) ∈ wsU := uin_4 (List.mem_of_getElem? (i := 69) rfl) rfl
theorem uw_4_70 : (Cond.instanceMethod yX6_cheapest : Cond) ∈ wsU := uin_4 (List.mem_of_getElem? (i := 70) rfl) rfl
theorem uw_4_71 : (Cond.selects RX6 yX6_cheapest yX6_cheapest : Cond) ∈ wsU := uin_4 (List.mem_of_getElem? (i := 71) rfl) rfl
theorem uw_4_72 : (Cond.code yX6_cheapest cX6_cheapest 5 (some .int) : Cond) ∈ wsU := uin_4 (List.mem_of_getElem? (i := 72) rfl) rfl
theorem uw_4_73 : (Cond.methodLink RX6 131 yX6_cost : Cond) ∈ wsU := uin_4 (List.mem_of_getElem? (i := 73) rfl) rfl
theorem uw_4_74 : (Cond.methodLink RL 113 yX6_cell : Cond) ∈ wsU := uin_4 (List.mem_of_getElem? (i := 74) rfl) rfl
theorem uw_4_75 : (Cond.instanceMethod yX6_cell : Cond) ∈ wsU := uin_4 (List.mem_of_getElem? (i := 75) rfl) rfl
theorem uw_4_76 : (Cond.selects RX6 yX6_cell yX6_cell : Cond) ∈ wsU := uin_4 (List.mem_of_getElem? (i := 76) rfl) rfl
theorem uw_4_77 : (Cond.code yX6_cell cX6_cell 5 (some .long) : Cond) ∈ wsU := uin_4 (List.mem_of_getElem? (i := 77) rfl) rfl
theorem uw_4_78 : (Cond.methodLink RL 117 yX6_walks : Cond) ∈ wsU := uin_4 (List.mem_of_getElem? (i := 78) rfl) rfl
theorem uw_4_79 : (Cond.instanceMethod yX6_walks : Cond) ∈ wsU := uin_4 (List.mem_of_getElem? (i := 79) rfl) rfl
theorem uw_4_80 : (Cond.selects RX6 yX6_walks yX6_walks : Cond) ∈ wsU := uin_4 (List.mem_of_getElem? (i := 80) rfl) rfl
theorem uw_4_81 : (Cond.code yX6_walks cX6_walks 8 (some .long) : Cond) ∈ wsU := uin_4 (List.mem_of_getElem? (i := 81) rfl) rfl
theorem uw_4_82 : (Cond.methodLink RX6 134 yX6_isGraph : Cond) ∈ wsU := uin_4 (List.mem_of_getElem? (i := 82) rfl) rfl
theorem uw_4_84 : (Cond.instanceMethod yX6_isGraph : Cond) ∈ wsU := uin_4 (List.mem_of_getElem? (i := 84) rfl) rfl
theorem uw_4_85 : (Cond.code yX6_isGraph cX6_isGraph 2 (some .boolean) : Cond) ∈ wsU := uin_4 (List.mem_of_getElem? (i := 85) rfl) rfl
theorem uw_4_86 : (Cond.methodLink RL 121 yX6_way : Cond) ∈ wsU := uin_4 (List.mem_of_getElem? (i := 86) rfl) rfl
theorem uw_4_87 : (Cond.instanceMethod yX6_way : Cond) ∈ wsU := uin_4 (List.mem_of_getElem? (i := 87) rfl) rfl
theorem uw_4_88 : (Cond.selects RX6 yX6_way yX6_way : Cond) ∈ wsU := uin_4 (List.mem_of_getElem? (i := 88) rfl) rfl
theorem uw_4_89 : (Cond.code yX6_way cX6_way 5 (some .int) : Cond) ∈ wsU := uin_4 (List.mem_of_getElem? (i := 89) rfl) rfl
theorem uw_4_90 : (Cond.methodLink RX6 137 yX6_reach : Cond) ∈ wsU := uin_4 (List.mem_of_getElem? (i := 90) rfl) rfl
theorem uw_4_92 : (Cond.instanceMethod yX6_reach : Cond) ∈ wsU := uin_4 (List.mem_of_getElem? (i := 92) rfl) rfl
theorem uw_4_93 : (Cond.code yX6_reach cX6_reach 9 (some .int) : Cond) ∈ wsU := uin_4 (List.mem_of_getElem? (i := 93) rfl) rfl
theorem uw_4_94 : (Cond.methodLink RL 125 yX6_ring : Cond) ∈ wsU := uin_4 (List.mem_of_getElem? (i := 94) rfl) rfl
theorem uw_4_95 : (Cond.instanceMethod yX6_ring : Cond) ∈ wsU := uin_4 (List.mem_of_getElem? (i := 95) rfl) rfl
theorem uw_4_96 : (Cond.selects RX6 yX6_ring yX6_ring : Cond) ∈ wsU := uin_4 (List.mem_of_getElem? (i := 96) rfl) rfl
theorem uw_4_97 : (Cond.code yX6_ring cX6_ring 6 (some .int) : Cond) ∈ wsU := uin_4 (List.mem_of_getElem? (i := 97) rfl) rfl
theorem uw_4_98 : (Cond.methodLink RX6 143 yX6_leader : Cond) ∈ wsU := uin_4 (List.mem_of_getElem? (i := 98) rfl) rfl
theorem uw_4_100 : (Cond.instanceMethod yX6_leader : Cond) ∈ wsU := uin_4 (List.mem_of_getElem? (i := 100) rfl) rfl
theorem uw_4_101 : (Cond.code yX6_leader cX6_leader 4 (some .int) : Cond) ∈ wsU := uin_4 (List.mem_of_getElem? (i := 101) rfl) rfl
theorem uw_4_102 : (Cond.methodLink RX6 140 yX6_isRing : Cond) ∈ wsU := uin_4 (List.mem_of_getElem? (i := 102) rfl) rfl
theorem uw_4_104 : (Cond.instanceMethod yX6_isRing : Cond) ∈ wsU := uin_4 (List.mem_of_getElem? (i := 104) rfl) rfl
theorem uw_4_105 : (Cond.code yX6_isRing cX6_isRing 4 (some .boolean) : Cond) ∈ wsU := uin_4 (List.mem_of_getElem? (i := 105) rfl) rfl
theorem uw_4_106 : (Cond.methodLink RL 129 yX6_sort : Cond) ∈ wsU := uin_4 (List.mem_of_getElem? (i := 106) rfl) rfl
theorem uw_4_107 : (Cond.instanceMethod yX6_sort : Cond) ∈ wsU := uin_4 (List.mem_of_getElem? (i := 107) rfl) rfl
theorem uw_4_108 : (Cond.selects RX6 yX6_sort yX6_sort : Cond) ∈ wsU := uin_4 (List.mem_of_getElem? (i := 108) rfl) rfl
theorem uw_4_109 : (Cond.code yX6_sort cX6_sort 5 (some .int) : Cond) ∈ wsU := uin_4 (List.mem_of_getElem? (i := 109) rfl) rfl
theorem uw_4_110 : (Cond.methodLink RX6 147 yX6_isLed : Cond) ∈ wsU := uin_4 (List.mem_of_getElem? (i := 110) rfl) rfl
theorem uw_4_112 : (Cond.instanceMethod yX6_isLed : Cond) ∈ wsU := uin_4 (List.mem_of_getElem? (i := 112) rfl) rfl
theorem uw_4_113 : (Cond.code yX6_isLed cX6_isLed 6 (some .boolean) : Cond) ∈ wsU := uin_4 (List.mem_of_getElem? (i := 113) rfl) rfl
theorem uw_4_114 : (Cond.methodLink RL 133 yX6_narrow : Cond) ∈ wsU := uin_4 (List.mem_of_getElem? (i := 114) rfl) rfl
theorem uw_4_115 : (Cond.instanceMethod yX6_narrow : Cond) ∈ wsU := uin_4 (List.mem_of_getElem? (i := 115) rfl) rfl
theorem uw_4_116 : (Cond.selects RX6 yX6_narrow yX6_narrow : Cond) ∈ wsU := uin_4 (List.mem_of_getElem? (i := 116) rfl) rfl
theorem uw_4_117 : (Cond.code yX6_narrow cX6_narrow 6 (some .int) : Cond) ∈ wsU := uin_4 (List.mem_of_getElem? (i := 117) rfl) rfl
theorem uw_4_118 : (Cond.methodLink RX6 156 yX6_fewest : Cond) ∈ wsU := uin_4 (List.mem_of_getElem? (i := 118) rfl) rfl
theorem uw_4_120 : (Cond.instanceMethod yX6_fewest : Cond) ∈ wsU := uin_4 (List.mem_of_getElem? (i := 120) rfl) rfl
theorem uw_4_121 : (Cond.code yX6_fewest cX6_fewest 6 (some .int) : Cond) ∈ wsU := uin_4 (List.mem_of_getElem? (i := 121) rfl) rfl
theorem uw_4_122 : (Cond.methodLink RX6 150 yX6_areJoined : Cond) ∈ wsU := uin_4 (List.mem_of_getElem? (i := 122) rfl) rfl
theorem uw_4_124 : (Cond.instanceMethod yX6_areJoined : Cond) ∈ wsU := uin_4 (List.mem_of_getElem? (i := 124) rfl) rfl
theorem uw_4_125 : (Cond.code yX6_areJoined cX6_areJoined 4 (some .boolean) : Cond) ∈ wsU := uin_4 (List.mem_of_getElem? (i := 125) rfl) rfl
theorem uw_4_126 : (Cond.methodLink RX6 153 yX6_neighbours : Cond) ∈ wsU := uin_4 (List.mem_of_getElem? (i := 126) rfl) rfl
theorem uw_4_128 : (Cond.instanceMethod yX6_neighbours : Cond) ∈ wsU := uin_4 (List.mem_of_getElem? (i := 128) rfl) rfl
theorem uw_4_129 : (Cond.code yX6_neighbours cX6_neighbours 5 (some .int) : Cond) ∈ wsU := uin_4 (List.mem_of_getElem? (i := 129) rfl) rfl
theorem uw_4_130 : (Cond.methodLink RX6 159 yX6_widthOf : Cond) ∈ wsU := uin_4 (List.mem_of_getElem? (i := 130) rfl) rfl
theorem uw_4_132 : (Cond.instanceMethod yX6_widthOf : Cond) ∈ wsU := uin_4 (List.mem_of_getElem? (i := 132) rfl) rfl
theorem uw_4_133 : (Cond.code yX6_widthOf cX6_widthOf 5 (some .int) : Cond) ∈ wsU := uin_4 (List.mem_of_getElem? (i := 133) rfl) rfl
theorem uw_4_134 : (Cond.methodLink RL 137 yX6_width : Cond) ∈ wsU := uin_4 (List.mem_of_getElem? (i := 134) rfl) rfl
theorem uw_4_135 : (Cond.instanceMethod yX6_width : Cond) ∈ wsU := uin_4 (List.mem_of_getElem? (i := 135) rfl) rfl
theorem uw_4_136 : (Cond.selects RX6 yX6_width yX6_width : Cond) ∈ wsU := uin_4 (List.mem_of_getElem? (i := 136) rfl) rfl
theorem uw_4_137 : (Cond.code yX6_width cX6_width 4 (some .int) : Cond) ∈ wsU := uin_4 (List.mem_of_getElem? (i := 137) rfl) rfl
theorem uw_4_138 : (Cond.constantLong RL 18 (4294967295 : Int64) : Cond) ∈ wsU := uin_4 (List.mem_of_getElem? (i := 138) rfl) rfl
theorem us_1_0 : (Cond.selects RX5 yX5_putDraft yX5_putDraft : Cond) ∈ wsU := List.mem_filter.mpr ⟨List.mem_append_left _ (List.mem_map.mpr ⟨(yX5_putDraft, 6), List.mem_append_left _ (List.mem_of_getElem? (i := 0) rfl), rfl⟩), rfl⟩
theorem us_1_1 : (Cond.selects RX5 yX5_gridAt yX5_gridAt : Cond) ∈ wsU := List.mem_filter.mpr ⟨List.mem_append_left _ (List.mem_map.mpr ⟨(yX5_gridAt, 6), List.mem_append_left _ (List.mem_of_getElem? (i := 1) rfl), rfl⟩), rfl⟩
theorem us_1_2 : (Cond.selects RX2 yX2_drop yX2_drop : Cond) ∈ wsU := List.mem_filter.mpr ⟨List.mem_append_left _ (List.mem_map.mpr ⟨(yX2_drop, 4), List.mem_append_left _ (List.mem_of_getElem? (i := 2) rfl), rfl⟩), rfl⟩
theorem us_1_3 : (Cond.selects RX2 yX2_addRowMultiple yX2_addRowMultiple : Cond) ∈ wsU := List.mem_filter.mpr ⟨List.mem_append_left _ (List.mem_map.mpr ⟨(yX2_addRowMultiple, 4), List.mem_append_left _ (List.mem_of_getElem? (i := 3) rfl), rfl⟩), rfl⟩
theorem us_1_4 : (Cond.selects RX2 yX2_productOfRows yX2_productOfRows : Cond) ∈ wsU := List.mem_filter.mpr ⟨List.mem_append_left _ (List.mem_map.mpr ⟨(yX2_productOfRows, 4), List.mem_append_left _ (List.mem_of_getElem? (i := 4) rfl), rfl⟩), rfl⟩
theorem us_1_5 : (Cond.selects RX2 yX2_productOfColumns yX2_productOfColumns : Cond) ∈ wsU := List.mem_filter.mpr ⟨List.mem_append_left _ (List.mem_map.mpr ⟨(yX2_productOfColumns, 4), List.mem_append_left _ (List.mem_of_getElem? (i := 5) rfl), rfl⟩), rfl⟩
theorem us_1_6 : (Cond.selects RX1 yX1_walkOn yX1_walkOn : Cond) ∈ wsU := List.mem_filter.mpr ⟨List.mem_append_left _ (List.mem_map.mpr ⟨(yX1_walkOn, 6), List.mem_append_left _ (List.mem_of_getElem? (i := 6) rfl), rfl⟩), rfl⟩
theorem us_1_7 : (Cond.selects RX1 yX1_sourcesOf yX1_sourcesOf : Cond) ∈ wsU := List.mem_filter.mpr ⟨List.mem_append_left _ (List.mem_map.mpr ⟨(yX1_sourcesOf, 6), List.mem_append_left _ (List.mem_of_getElem? (i := 7) rfl), rfl⟩), rfl⟩
theorem us_1_8 : (Cond.selects RX1 yX1_targetsOf yX1_targetsOf : Cond) ∈ wsU := List.mem_filter.mpr ⟨List.mem_append_left _ (List.mem_map.mpr ⟨(yX1_targetsOf, 6), List.mem_append_left _ (List.mem_of_getElem? (i := 8) rfl), rfl⟩), rfl⟩
theorem us_1_9 : (Cond.selects RX1 yX1_allNodes yX1_allNodes : Cond) ∈ wsU := List.mem_filter.mpr ⟨List.mem_append_left _ (List.mem_map.mpr ⟨(yX1_allNodes, 6), List.mem_append_left _ (List.mem_of_getElem? (i := 9) rfl), rfl⟩), rfl⟩
theorem us_1_10 : (Cond.selects RX1 yX1_leastWithoutSource yX1_leastWithoutSource : Cond) ∈ wsU := List.mem_filter.mpr ⟨List.mem_append_left _ (List.mem_map.mpr ⟨(yX1_leastWithoutSource, 6), List.mem_append_left _ (List.mem_of_getElem? (i := 10) rfl), rfl⟩), rfl⟩
theorem us_1_11 : (Cond.selects RX5 yX5_putDraftNumbers yX5_putDraftNumbers : Cond) ∈ wsU := List.mem_filter.mpr ⟨List.mem_append_left _ (List.mem_map.mpr ⟨(yX5_putDraftNumbers, 6), List.mem_append_left _ (List.mem_of_getElem? (i := 11) rfl), rfl⟩), rfl⟩
theorem us_1_12 : (Cond.selects RX1 yX1_moveFewest yX1_moveFewest : Cond) ∈ wsU := List.mem_filter.mpr ⟨List.mem_append_left _ (List.mem_map.mpr ⟨(yX1_moveFewest, 6), List.mem_append_left _ (List.mem_of_getElem? (i := 12) rfl), rfl⟩), rfl⟩
theorem us_1_13 : (Cond.selects RX1 yX1_neighboursOf yX1_neighboursOf : Cond) ∈ wsU := List.mem_filter.mpr ⟨List.mem_append_left _ (List.mem_map.mpr ⟨(yX1_neighboursOf, 6), List.mem_append_left _ (List.mem_of_getElem? (i := 13) rfl), rfl⟩), rfl⟩
theorem us_1_14 : (Cond.selects RX1 yX1_moveAll yX1_moveAll : Cond) ∈ wsU := List.mem_filter.mpr ⟨List.mem_append_left _ (List.mem_map.mpr ⟨(yX1_moveAll, 6), List.mem_append_left _ (List.mem_of_getElem? (i := 14) rfl), rfl⟩), rfl⟩
theorem us_1_15 : (Cond.selects RX6 yX6_begin yX6_begin : Cond) ∈ wsU := List.mem_filter.mpr ⟨List.mem_append_left _ (List.mem_map.mpr ⟨(yX6_begin, 14), List.mem_append_left _ (List.mem_of_getElem? (i := 15) rfl), rfl⟩), rfl⟩
theorem us_2_0 : (Cond.selects RX6 yX6_putAt yX6_putAt : Cond) ∈ wsU := List.mem_filter.mpr ⟨List.mem_append_left _ (List.mem_map.mpr ⟨(yX6_putAt, 14), List.mem_append_right _ (List.mem_append_left _ (List.mem_of_getElem? (i := 0) rfl)), rfl⟩), rfl⟩
theorem us_2_1 : (Cond.selects RX6 yX6_many yX6_many : Cond) ∈ wsU := List.mem_filter.mpr ⟨List.mem_append_left _ (List.mem_map.mpr ⟨(yX6_many, 14), List.mem_append_right _ (List.mem_append_left _ (List.mem_of_getElem? (i := 1) rfl)), rfl⟩), rfl⟩
theorem us_2_2 : (Cond.selects RX6 yX6_isTable yX6_isTable : Cond) ∈ wsU := List.mem_filter.mpr ⟨List.mem_append_left _ (List.mem_map.mpr ⟨(yX6_isTable, 14), List.mem_append_right _ (List.mem_append_left _ (List.mem_of_getElem? (i := 2) rfl)), rfl⟩), rfl⟩
theorem us_2_3 : (Cond.selects RX6 yX6_take yX6_take : Cond) ∈ wsU := List.mem_filter.mpr ⟨List.mem_append_left _ (List.mem_map.mpr ⟨(yX6_take, 14), List.mem_append_right _ (List.mem_append_left _ (List.mem_of_getElem? (i := 3) rfl)), rfl⟩), rfl⟩
theorem us_2_4 : (Cond.selects RX6 yX6_isIn yX6_isIn : Cond) ∈ wsU := List.mem_filter.mpr ⟨List.mem_append_left _ (List.mem_map.mpr ⟨(yX6_isIn, 14), List.mem_append_right _ (List.mem_append_left _ (List.mem_of_getElem? (i := 4) rfl)), rfl⟩), rfl⟩
theorem us_2_5 : (Cond.selects RX6 yX6_holds yX6_holds : Cond) ∈ wsU := List.mem_filter.mpr ⟨List.mem_append_left _ (List.mem_map.mpr ⟨(yX6_holds, 14), List.mem_append_right _ (List.mem_append_left _ (List.mem_of_getElem? (i := 5) rfl)), rfl⟩), rfl⟩
theorem us_2_6 : (Cond.selects RX6 yX6_has yX6_has : Cond) ∈ wsU := List.mem_filter.mpr ⟨List.mem_append_left _ (List.mem_map.mpr ⟨(yX6_has, 14), List.mem_append_right _ (List.mem_append_left _ (List.mem_of_getElem? (i := 6) rfl)), rfl⟩), rfl⟩
theorem us_2_7 : (Cond.selects RX6 yX6_areLike yX6_areLike : Cond) ∈ wsU := List.mem_filter.mpr ⟨List.mem_append_left _ (List.mem_map.mpr ⟨(yX6_areLike, 14), List.mem_append_right _ (List.mem_append_left _ (List.mem_of_getElem? (i := 7) rfl)), rfl⟩), rfl⟩
theorem us_2_8 : (Cond.selects RX6 yX6_keep yX6_keep : Cond) ∈ wsU := List.mem_filter.mpr ⟨List.mem_append_left _ (List.mem_map.mpr ⟨(yX6_keep, 14), List.mem_append_right _ (List.mem_append_left _ (List.mem_of_getElem? (i := 8) rfl)), rfl⟩), rfl⟩
theorem us_2_9 : (Cond.selects RX6 yX6_layOut yX6_layOut : Cond) ∈ wsU := List.mem_filter.mpr ⟨List.mem_append_left _ (List.mem_map.mpr ⟨(yX6_layOut, 14), List.mem_append_right _ (List.mem_append_left _ (List.mem_of_getElem? (i := 9) rfl)), rfl⟩), rfl⟩
theorem us_2_10 : (Cond.selects RX6 yX6_lay yX6_lay : Cond) ∈ wsU := List.mem_filter.mpr ⟨List.mem_append_left _ (List.mem_map.mpr ⟨(yX6_lay, 14), List.mem_append_right _ (List.mem_append_left _ (List.mem_of_getElem? (i := 10) rfl)), rfl⟩), rfl⟩
theorem us_2_11 : (Cond.selects RX6 yX6_byRows yX6_byRows : Cond) ∈ wsU := List.mem_filter.mpr ⟨List.mem_append_left _ (List.mem_map.mpr ⟨(yX6_byRows, 14), List.mem_append_right _ (List.mem_append_left _ (List.mem_of_getElem? (i := 11) rfl)), rfl⟩), rfl⟩
theorem us_2_12 : (Cond.selects RX6 yX6_byColumns yX6_byColumns : Cond) ∈ wsU := List.mem_filter.mpr ⟨List.mem_append_left _ (List.mem_map.mpr ⟨(yX6_byColumns, 14), List.mem_append_right _ (List.mem_append_left _ (List.mem_of_getElem? (i := 12) rfl)), rfl⟩), rfl⟩
theorem us_2_13 : (Cond.selects RX6 yX6_blocks yX6_blocks : Cond) ∈ wsU := List.mem_filter.mpr ⟨List.mem_append_left _ (List.mem_map.mpr ⟨(yX6_blocks, 14), List.mem_append_right _ (List.mem_append_left _ (List.mem_of_getElem? (i := 13) rfl)), rfl⟩), rfl⟩
theorem us_2_14 : (Cond.selects RX6 yX6_isBlock yX6_isBlock : Cond) ∈ wsU := List.mem_filter.mpr ⟨List.mem_append_left _ (List.mem_map.mpr ⟨(yX6_isBlock, 14), List.mem_append_right _ (List.mem_append_left _ (List.mem_of_getElem? (i := 14) rfl)), rfl⟩), rfl⟩
theorem us_2_15 : (Cond.selects RX6 yX6_layBlock yX6_layBlock : Cond) ∈ wsU := List.mem_filter.mpr ⟨List.mem_append_left _ (List.mem_map.mpr ⟨(yX6_layBlock, 14), List.mem_append_right _ (List.mem_append_left _ (List.mem_of_getElem? (i := 15) rfl)), rfl⟩), rfl⟩
theorem us_3_0 : (Cond.selects RX6 yX6_slants yX6_slants : Cond) ∈ wsU := List.mem_filter.mpr ⟨List.mem_append_left _ (List.mem_map.mpr ⟨(yX6_slants, 14), List.mem_append_right _ (List.mem_append_right _ (List.mem_of_getElem? (i := 0) rfl)), rfl⟩), rfl⟩
theorem us_3_1 : (Cond.selects RX6 yX6_isGraph yX6_isGraph : Cond) ∈ wsU := List.mem_filter.mpr ⟨List.mem_append_left _ (List.mem_map.mpr ⟨(yX6_isGraph, 14), List.mem_append_right _ (List.mem_append_right _ (List.mem_of_getElem? (i := 1) rfl)), rfl⟩), rfl⟩
theorem us_3_2 : (Cond.selects RX6 yX6_reach yX6_reach : Cond) ∈ wsU := List.mem_filter.mpr ⟨List.mem_append_left _ (List.mem_map.mpr ⟨(yX6_reach, 14), List.mem_append_right _ (List.mem_append_right _ (List.mem_of_getElem? (i := 2) rfl)), rfl⟩), rfl⟩
theorem us_3_3 : (Cond.selects RX6 yX6_leader yX6_leader : Cond) ∈ wsU := List.mem_filter.mpr ⟨List.mem_append_left _ (List.mem_map.mpr ⟨(yX6_leader, 14), List.mem_append_right _ (List.mem_append_right _ (List.mem_of_getElem? (i := 3) rfl)), rfl⟩), rfl⟩
theorem us_3_4 : (Cond.selects RX6 yX6_isRing yX6_isRing : Cond) ∈ wsU := List.mem_filter.mpr ⟨List.mem_append_left _ (List.mem_map.mpr ⟨(yX6_isRing, 14), List.mem_append_right _ (List.mem_append_right _ (List.mem_of_getElem? (i := 4) rfl)), rfl⟩), rfl⟩
theorem us_3_5 : (Cond.selects RX6 yX6_isLed yX6_isLed : Cond) ∈ wsU := List.mem_filter.mpr ⟨List.mem_append_left _ (List.mem_map.mpr ⟨(yX6_isLed, 14), List.mem_append_right _ (List.mem_append_right _ (List.mem_of_getElem? (i := 5) rfl)), rfl⟩), rfl⟩
theorem us_3_6 : (Cond.selects RX6 yX6_fewest yX6_fewest : Cond) ∈ wsU := List.mem_filter.mpr ⟨List.mem_append_left _ (List.mem_map.mpr ⟨(yX6_fewest, 14), List.mem_append_right _ (List.mem_append_right _ (List.mem_of_getElem? (i := 6) rfl)), rfl⟩), rfl⟩
theorem us_3_7 : (Cond.selects RX6 yX6_areJoined yX6_areJoined : Cond) ∈ wsU := List.mem_filter.mpr ⟨List.mem_append_left _ (List.mem_map.mpr ⟨(yX6_areJoined, 14), List.mem_append_right _ (List.mem_append_right _ (List.mem_of_getElem? (i := 7) rfl)), rfl⟩), rfl⟩
theorem us_3_8 : (Cond.selects RX6 yX6_neighbours yX6_neighbours : Cond) ∈ wsU := List.mem_filter.mpr ⟨List.mem_append_left _ (List.mem_map.mpr ⟨(yX6_neighbours, 14), List.mem_append_right _ (List.mem_append_right _ (List.mem_of_getElem? (i := 8) rfl)), rfl⟩), rfl⟩
theorem us_3_9 : (Cond.selects RX6 yX6_widthOf yX6_widthOf : Cond) ∈ wsU := List.mem_filter.mpr ⟨List.mem_append_left _ (List.mem_map.mpr ⟨(yX6_widthOf, 14), List.mem_append_right _ (List.mem_append_right _ (List.mem_of_getElem? (i := 9) rfl)), rfl⟩), rfl⟩
theorem inUX1 : ∀ w ∈ u_ws RX1 TX1 6, w ∈ wsU := by
  intro w hw
  obtain ⟨k, hk, rfl⟩ := List.mem_map.mp hw
  have hk := List.mem_range.mp hk
  match k, hk with
  | 0, _ => exact uw_1_55
  | 1, _ => exact uw_1_57
  | 2, _ => exact uw_1_59
  | 3, _ => exact uw_1_61
  | 4, _ => exact uw_1_63
  | 5, _ => exact uw_1_65
  | k + 6, hk => exact absurd hk (by omega)
theorem inUX2 : ∀ w ∈ u_ws RX2 TX2 4, w ∈ wsU := by
  intro w hw
  obtain ⟨k, hk, rfl⟩ := List.mem_map.mp hw
  have hk := List.mem_range.mp hk
  match k, hk with
  | 0, _ => exact uw_1_82
  | 1, _ => exact uw_1_84
  | 2, _ => exact uw_1_86
  | 3, _ => exact uw_1_88
  | k + 4, hk => exact absurd hk (by omega)
theorem inUX3 : ∀ w ∈ u_ws RX3 TX3 2, w ∈ wsU := by
  intro w hw
  obtain ⟨k, hk, rfl⟩ := List.mem_map.mp hw
  have hk := List.mem_range.mp hk
  match k, hk with
  | 0, _ => exact uw_1_102
  | 1, _ => exact uw_1_104
  | k + 2, hk => exact absurd hk (by omega)
theorem inUX4 : ∀ w ∈ u_ws RX4 TX4 4, w ∈ wsU := by
  intro w hw
  obtain ⟨k, hk, rfl⟩ := List.mem_map.mp hw
  have hk := List.mem_range.mp hk
  match k, hk with
  | 0, _ => exact uw_1_32
  | 1, _ => exact uw_1_34
  | 2, _ => exact uw_1_36
  | 3, _ => exact uw_1_38
  | k + 4, hk => exact absurd hk (by omega)
theorem inUX5 : ∀ w ∈ u_ws RX5 TX5 6, w ∈ wsU := by
  intro w hw
  obtain ⟨k, hk, rfl⟩ := List.mem_map.mp hw
  have hk := List.mem_range.mp hk
  match k, hk with
  | 0, _ => exact uw_1_113
  | 1, _ => exact uw_1_115
  | 2, _ => exact uw_1_117
  | 3, _ => exact uw_1_119
  | 4, _ => exact uw_1_121
  | 5, _ => exact uw_1_123
  | k + 6, hk => exact absurd hk (by omega)
theorem inUX6 : ∀ w ∈ u_ws RX6 TX6 14, w ∈ wsU := by
  intro w hw
  obtain ⟨k, hk, rfl⟩ := List.mem_map.mp hw
  have hk := List.mem_range.mp hk
  match k, hk with
  | 0, _ => exact uw_3_118
  | 1, _ => exact uw_3_120
  | 2, _ => exact uw_3_122
  | 3, _ => exact uw_3_124
  | 4, _ => exact uw_3_126
  | 5, _ => exact uw_3_128
  | 6, _ => exact uw_3_130
  | 7, _ => exact uw_3_132
  | 8, _ => exact uw_3_134
  | 9, _ => exact uw_3_136
  | 10, _ => exact uw_3_138
  | 11, _ => exact uw_3_140
  | 12, _ => exact uw_3_142
  | 13, _ => exact uw_3_144
  | k + 14, hk => exact absurd hk (by omega)
end
section
/-! the abstract heap: cells by their numbers (not addresses); a cell is an object (class, fields) or an array -/
abbrev AC : Type := (Nat × List Value) ⊕ (Nat × ((Nat → Int32) ⊕ ((Nat → Int64) ⊕ ((Nat → Int32) ⊕ (Nat → Option Nat)))))
abbrev HP : Type := Nat → AC
def NC : Nat := 55
def cnV (ad : Nat → Nat) : Value → Value
  | .ref a => .ref (ad a)
  | v => v
def cnE (ad : Nat → Nat) (cy : Nat → ClassId) : AC → va_E
  | .inl (ci, fs) => .inr (ci, fs.map (cnV ad))
  | .inr (n, .inl f) => .inl (cy 0, n, .inl f)
  | .inr (n, .inr (.inl f)) => .inl (cy 1, n, .inr (.inl f))
  | .inr (n, .inr (.inr (.inl f))) => .inl (cy 2, n, .inl f)
  | .inr (n, .inr (.inr (.inr g))) => .inl (cy 3, n, .inr (.inr (.inr (.inr fun j => (g j).map ad))))
def wl (ad : Nat → Nat) (cy : Nat → ClassId) (h : HP) : va_W := (List.range NC).map fun k => (ad k, cnE ad cy (h k))
theorem wl_get {ad : Nat → Nat} {cy : Nat → ClassId} {h : HP} {a : Nat} (ha : a < NC) : (wl ad cy h)[a]? = some (ad a, cnE ad cy (h a)) := by
  simp [wl, List.getElem?_range ha]
theorem wl_at {ad : Nat → Nat} {cy : Nat → ClassId} {h : HP} {a : Nat} {x : AC} (ha : a < NC) (hx : h a = x) : (wl ad cy h)[a]? = some (ad a, cnE ad cy x) := by
  rw [wl_get ha, hx]
theorem wl_key {ad : Nat → Nat} {cy : Nat → ClassId} {h : HP} {k : Nat} {q : Nat × va_E} (hq : (wl ad cy h)[k]? = some q) : k < NC ∧ q.1 = ad k := by
  simp only [wl, List.getElem?_map] at hq
  cases hr : (List.range NC)[k]? with
  | none => rw [hr] at hq; cases hq
  | some b =>
    obtain ⟨hb, e⟩ := List.getElem?_eq_some_iff.mp hr
    rw [List.getElem_range] at e
    subst e
    rw [hr] at hq
    cases hq
    exact ⟨by simpa using hb, rfl⟩
theorem wl_set {ad : Nat → Nat} {cy : Nat → ClassId} {h : HP} {a : Nat} {e : AC} (ha : a < NC) : (wl ad cy h).set a (ad a, cnE ad cy e) = wl ad cy (va_up h a e) := by
  apply List.ext_getElem?
  intro j
  by_cases hj : j = a
  · subst hj
    rw [List.getElem?_set_self (by simpa [wl] using ha), wl_get ha, va_up_self]
  · rw [List.getElem?_set_ne (Ne.symm hj)]
    simp only [wl, List.getElem?_map]
    cases hr : (List.range NC)[j]? with
    | none => rfl
    | some b =>
      obtain ⟨hb, e⟩ := List.getElem?_eq_some_iff.mp hr
      rw [List.getElem_range] at e
      subst e
      simp [va_up_ne _ _ hj]
def Aw (ad : Nat → Nat) : Nat → Prop := fun q => ∃ k, k < NC ∧ q = ad k
def tyl (cy : Nat → ClassId) : List (ClassId × FieldType) := [(cy 0, .int), (cy 1, .long), (cy 2, .boolean), (cy 3, .object RX2)]
def nestl : List (String × Nat × MethodName × String) := [(RX5, 17, yX4_init, RX5), (RX5, 24, yX1_init, RX5), (RX5, 29, yX2_init, RX5), (RX5, 36, yX3_init, RX5), (RX3, 19, yX5_isLine, RX5), (RX2, 36, yX5_isLine, RX5), (RX2, 39, yX5_hasBit, RX5), (RX1, 52, yX5_isLine, RX5), (RX1, 44, yX5_hasBit, RX5), (RX1, 48, yX5_isSize, RX5)]
def NW (U : State) : Prop := ∀ (k : Nat) (q : String × Nat × MethodName × String), nestl[k]? = some q → va_Nw (.methodLinkNest q.1 q.2.1 q.2.2.1 q.2.2.2) U
theorem NW.warm {s U : State} (hW : s.WarmedH U.vm) (h : NW s) : NW U := fun k q hk => va_Nw.warmM hW (h k q hk)
theorem NW.same {u U : State} (e : u.vm = U.vm) (h : NW u) : NW U := fun k q hk => va_Nw.same rfl e (h k q hk)
def PW (D : va_G) (ad : Nat → Nat) (cy : Nat → ClassId) (h : HP) (U : State) : Prop := va_P D vwCl (wl ad cy h) U.heap ∧ va_K D vwCl (tyl cy) U ∧ va_D (Aw ad) (wl ad cy h) ∧ NW U
def QV (D : va_G) (ad : Nat → Nat) (cy : Nat → ClassId) (v : Option Value) (h : HP) : Array Value → State → Outcome → State → Prop := fun _ st oc t => oc = .returned v ∧ PW D ad cy h t ∧ va_F (Aw ad) st t
def Wd (D : va_G) (ad : Nat → Nat) (cy : Nat → ClassId) (A : Nat → Prop) (H0 H : Heap) (locs : List Loc) (h : HP) : Prop := va_P D vwCl (wl ad cy h) H ∧ va_D A (wl ad cy h) ∧ va_S A H0 H locs
theorem Wd.D {D : va_G} {ad : Nat → Nat} {cy : Nat → ClassId} {A : Nat → Prop} {H0 H : Heap} {locs : List Loc} {h : HP} (w : Wd D ad cy A H0 H locs h) : va_D (Aw ad) (wl ad cy h) := ⟨w.2.1.1, fun k q hk => ⟨k, wl_key hk⟩⟩
theorem Wd.A {D : va_G} {ad : Nat → Nat} {cy : Nat → ClassId} {A : Nat → Prop} {H0 H : Heap} {locs : List Loc} {h : HP} (w : Wd D ad cy A H0 H locs h) : ∀ q, Aw ad q → A q := by
  rintro q ⟨k, hk, rfl⟩
  exact w.2.1.2 k _ (wl_get hk)
theorem PW.blind {D : va_G} {ad : Nat → Nat} {cy : Nat → ClassId} {h : HP} {av : List Value} : FrameBlind (va_Pc av (PW D ad cy h)) := fun a U g mk q => ⟨q.1, q.2.1, va_K.moved (u := U) (U := U.calling g mk a) (Vm.Alike.refl U.vm) q.2.2.1, q.2.2.2.1, NW.same rfl q.2.2.2.2⟩
def EE (p : Program) (s : State) (m : MethodId) (args : Array Value) (c : Code) (cc : ByteArray) (nL : Nat) (Ts : List Cond) (own : String) (D : va_G) (cy : Nat → ClassId) : Prop := CallFix p m c cc nL s args Ts own ∧ va_K D vwCl (tyl cy) s ∧ NW s
theorem Wd.PW {D : va_G} {ad : Nat → Nat} {cy : Nat → ClassId} {A : Nat → Prop} {H0 H : Heap} {locs : List Loc} {h : HP} {s U : State} (w : Wd D ad cy A H0 H locs h) (hK : va_K D vwCl (tyl cy) s) (hN : NW s) (hU : U.heap = H) (hW : s.WarmedH U.vm) : PW D ad cy h U := ⟨by rw [hU]; exact w.1, va_K.moved hW.alike hK, w.D, hN.warm hW⟩
/-- the machine stands in this method at pc, with these locals, this stack, this abstract heap: it comes to Q -/
def JJ (p : Program) (l : Launch) (e : Env) (R : Room) (s : State) (m : MethodId) (args : Array Value) (below : List Frame) (meth : Method) (c : Code) (cells slots : Nat) (Q : State → Prop) (D : va_G) (ad : Nat → Nat) (cy : Nat → ClassId) (A : Nat → Prop) (nL : Nat) (h : HP) (lv : List (Nat × Value)) (pc : Nat) (st : List Value) : Prop :=
  ∀ (H : Heap) (locs : List Loc) (ls : Array Slot), Wd D ad cy A s.heap H locs h → lv_has ls nL lv → W p l e R s m args below meth c H locs cells slots Q (F0 m pc ls st)
/-! partial operations on the abstract heap -/
def gf (ci : Nat) (h : HP) (a k : Nat) : Option Value := if a < NC then (match h a with | .inl (c, fs) => if c = ci then fs[k]? else none | .inr _ => none) else none
def gI (ci : Nat) (h : HP) (a k : Nat) : Option Int32 := match gf ci h a k with | some (.int x) => some x | _ => none
def gR (ci : Nat) (h : HP) (a k : Nat) : Option Nat := match gf ci h a k with | some (.ref b) => some b | _ => none
def pV (ci : Nat) (h : HP) (a k : Nat) (v : Value) : Option HP := if a < NC then (match h a with | .inl (c, fs) => if c = ci ∧ k < fs.length then some (va_up h a (.inl (c, fs.set k v))) else none | .inr _ => none) else none
def pI (ci : Nat) (h : HP) (a k : Nat) (x : Int32) : Option HP := pV ci h a k (.int x)
def pR (ci : Nat) (h : HP) (a k : Nat) (o : Option Nat) : Option HP := pV ci h a k (va_rf o)
def aI (h : HP) (a : Nat) (i : Int32) : Option Int32 := if a < NC then (match h a with | .inr (n, .inl f) => if i < 0 ∨ n ≤ i.toNatClampNeg then none else some (f i.toNatClampNeg) | _ => none) else none
def aJ (h : HP) (a : Nat) (i : Int32) : Option Int64 := if a < NC then (match h a with | .inr (n, .inr (.inl f)) => if i < 0 ∨ n ≤ i.toNatClampNeg then none else some (f i.toNatClampNeg) | _ => none) else none
def aZ (h : HP) (a : Nat) (i : Int32) : Option Int32 := if a < NC then (match h a with | .inr (n, .inr (.inr (.inl f))) => if i < 0 ∨ n ≤ i.toNatClampNeg then none else some (f i.toNatClampNeg) | _ => none) else none
def aG (h : HP) (a : Nat) (i : Int32) : Option (Option Nat) := if a < NC then (match h a with | .inr (n, .inr (.inr (.inr f))) => if i < 0 ∨ n ≤ i.toNatClampNeg then none else some (f i.toNatClampNeg) | _ => none) else none
def sI (h : HP) (a : Nat) (i x : Int32) : Option HP := if a < NC then (match h a with | .inr (n, .inl f) => if i < 0 ∨ n ≤ i.toNatClampNeg then none else some (va_up h a (.inr (n, .inl (upd f i.toNatClampNeg x)))) | _ => none) else none
def sJ (h : HP) (a : Nat) (i : Int32) (x : Int64) : Option HP := if a < NC then (match h a with | .inr (n, .inr (.inl f)) => if i < 0 ∨ n ≤ i.toNatClampNeg then none else some (va_up h a (.inr (n, .inr (.inl (vp_updL f i.toNatClampNeg x))))) | _ => none) else none
def sZ (h : HP) (a : Nat) (i x : Int32) : Option HP := if a < NC then (match h a with | .inr (n, .inr (.inr (.inl f))) => if i < 0 ∨ n ≤ i.toNatClampNeg then none else some (va_up h a (.inr (n, .inr (.inr (.inl (upd f i.toNatClampNeg (vp_nar .boolean x))))))) | _ => none) else none
/-- is this cell an object of that class -/
def iO (ci : Nat) (h : HP) (b : Nat) : Bool := decide (b < NC) && (match h b with | .inl (c, _) => decide (c = ci) | .inr _ => false)
def sG (h : HP) (a : Nat) (i : Int32) (b : Nat) : Option HP := if a < NC ∧ iO 1 h b = true then (match h a with | .inr (n, .inr (.inr (.inr f))) => if i < 0 ∨ n ≤ i.toNatClampNeg then none else some (va_up h a (.inr (n, .inr (.inr (.inr (va_up f i.toNatClampNeg (some b))))))) | _ => none) else none
def ck {α : Type} (ci : Nat) (h : HP) (b : Nat) (k : Option α) : Option α := if iO ci h b = true then k else none
def cz {α : Type} (x : Int32) (k : Option α) : Option α := if narrow .boolean (.int x) = .int x then k else none
def nz {α : Type} (y : Int32) (k : Option α) : Option α := if y = 0 then none else k
def cpI (h : HP) (a : Nat) (sp : Int32) (b : Nat) (dp n : Int32) : Option HP := if a < NC ∧ b < NC then (match h a, h b with | .inr (n0, .inl f), .inr (n1, .inl g) => if sp < 0 ∨ dp < 0 ∨ n < 0 ∨ n0 < sp.toNatClampNeg + n.toNatClampNeg ∨ n1 < dp.toNatClampNeg + n.toNatClampNeg then none else some (va_up h b (.inr (n1, .inl (va_cpy f g sp.toNatClampNeg dp.toNatClampNeg n.toNatClampNeg)))) | _, _ => none) else none
def cpJ (h : HP) (a : Nat) (sp : Int32) (b : Nat) (dp n : Int32) : Option HP := if a < NC ∧ b < NC then (match h a, h b with | .inr (n0, .inr (.inl f)), .inr (n1, .inr (.inl g)) => if sp < 0 ∨ dp < 0 ∨ n < 0 ∨ n0 < sp.toNatClampNeg + n.toNatClampNeg ∨ n1 < dp.toNatClampNeg + n.toNatClampNeg then none else some (va_up h b (.inr (n1, .inr (.inl (va_cpy f g sp.toNatClampNeg dp.toNatClampNeg n.toNatClampNeg))))) | _, _ => none) else none
theorem bs {α β : Type} {o : Option α} {f : α → Option β} {r : β} (h : o.bind f = some r) : ∃ v, o = some v ∧ f v = some r := by
  cases o with
  | none => cases h
  | some v => exact ⟨v, rfl, h⟩
theorem iO_spec {ci : Nat} {h : HP} {b : Nat} (e : iO ci h b = true) : b < NC ∧ ∃ fs, h b = .inl (ci, fs) := by
  unfold iO at e
  rw [Bool.and_eq_true, decide_eq_true_eq] at e
  refine ⟨e.1, ?_⟩
  have e2 := e.2
  cases hb : h b with
  | inl q =>
    obtain ⟨c, fs⟩ := q
    rw [hb] at e2
    have : c = ci := by simpa using e2
    subst this
    exact ⟨fs, rfl⟩
  | inr q => rw [hb] at e2; cases e2
theorem ck_spec {α : Type} {ci : Nat} {h : HP} {b : Nat} {k : Option α} {r : α} (e : ck ci h b k = some r) : iO ci h b = true ∧ k = some r := by
  unfold ck at e
  by_cases q : iO ci h b = true
  · rw [if_pos q] at e; exact ⟨q, e⟩
  · rw [if_neg q] at e; cases e
theorem cz_spec {α : Type} {x : Int32} {k : Option α} {r : α} (e : cz x k = some r) : narrow .boolean (.int x) = .int x ∧ k = some r := by
  unfold cz at e
  by_cases q : narrow .boolean (.int x) = .int x
  · rw [if_pos q] at e; exact ⟨q, e⟩
  · rw [if_neg q] at e; cases e
theorem nz_spec {α : Type} {x : Int32} {k : Option α} {r : α} (e : nz x k = some r) : ¬ x = 0 ∧ k = some r := by
  unfold nz at e
  by_cases q : x = 0
  · rw [if_pos q] at e; cases e
  · rw [if_neg q] at e; exact ⟨q, e⟩
theorem gf_spec {ci : Nat} {h : HP} {a k : Nat} {v : Value} (e : gf ci h a k = some v) : a < NC ∧ ∃ fs, h a = .inl (ci, fs) ∧ fs[k]? = some v := by
  unfold gf at e
  by_cases q : a < NC
  · rw [if_pos q] at e
    refine ⟨q, ?_⟩
    cases hb : h a with
    | inl z =>
      obtain ⟨c, fs⟩ := z
      rw [hb] at e
      by_cases hc : c = ci
      · subst hc
        exact ⟨fs, rfl, by simpa using e⟩
      · simp [hc] at e
    | inr z => rw [hb] at e; cases e
  · rw [if_neg q] at e; cases e
theorem gI_spec {ci : Nat} {h : HP} {a k : Nat} {x : Int32} (e : gI ci h a k = some x) : gf ci h a k = some (.int x) := by
  unfold gI at e
  split at e
  · rename_i q; rw [q]; cases e; rfl
  · cases e
theorem gR_spec {ci : Nat} {h : HP} {a k : Nat} {x : Nat} (e : gR ci h a k = some x) : gf ci h a k = some (.ref x) := by
  unfold gR at e
  split at e
  · rename_i q; rw [q]; cases e; rfl
  · cases e
theorem pV_spec {ci : Nat} {h h' : HP} {a k : Nat} {v : Value} (e : pV ci h a k v = some h') : a < NC ∧ ∃ fs, h a = .inl (ci, fs) ∧ k < fs.length ∧ h' = va_up h a (.inl (ci, fs.set k v)) := by
  unfold pV at e
  by_cases q : a < NC
  · rw [if_pos q] at e
    refine ⟨q, ?_⟩
    cases hb : h a with
    | inl z =>
      obtain ⟨c, fs⟩ := z
      rw [hb] at e
      by_cases hc : c = ci ∧ k < fs.length
      · obtain ⟨rfl, hk⟩ := hc
        simp [hk] at e
        exact ⟨fs, rfl, hk, e.symm⟩
      · simp [hc] at e
    | inr z => rw [hb] at e; cases e
  · rw [if_neg q] at e; cases e
theorem aI_spec {h : HP} {a : Nat} {i : Int32} {x : Int32} (e : aI h a i = some x) : a < NC ∧ ∃ n f, h a = .inr (n, .inl f) ∧ vp_in i n ∧ x = f i.toNatClampNeg := by
  unfold aI at e
  by_cases q : a < NC
  · rw [if_pos q] at e
    refine ⟨q, ?_⟩
    split at e
    · rename_i n f hb
      by_cases z : i < 0 ∨ n ≤ i.toNatClampNeg
      · rw [if_pos z] at e; cases e
      · rw [if_neg z] at e; cases e; exact ⟨n, f, hb, z, rfl⟩
    · cases e
  · rw [if_neg q] at e; cases e
theorem aJ_spec {h : HP} {a : Nat} {i : Int32} {x : Int64} (e : aJ h a i = some x) : a < NC ∧ ∃ n f, h a = .inr (n, .inr (.inl f)) ∧ vp_in i n ∧ x = f i.toNatClampNeg := by
  unfold aJ at e
  by_cases q : a < NC
  · rw [if_pos q] at e
    refine ⟨q, ?_⟩
    split at e
    · rename_i n f hb
      by_cases z : i < 0 ∨ n ≤ i.toNatClampNeg
      · rw [if_pos z] at e; cases e
      · rw [if_neg z] at e; cases e; exact ⟨n, f, hb, z, rfl⟩
    · cases e
  · rw [if_neg q] at e; cases e
theorem aZ_spec {h : HP} {a : Nat} {i : Int32} {x : Int32} (e : aZ h a i = some x) : a < NC ∧ ∃ n f, h a = .inr (n, .inr (.inr (.inl f))) ∧ vp_in i n ∧ x = f i.toNatClampNeg := by
  unfold aZ at e
  by_cases q : a < NC
  · rw [if_pos q] at e
    refine ⟨q, ?_⟩
    split at e
    · rename_i n f hb
      by_cases z : i < 0 ∨ n ≤ i.toNatClampNeg
      · rw [if_pos z] at e; cases e
      · rw [if_neg z] at e; cases e; exact ⟨n, f, hb, z, rfl⟩
    · cases e
  · rw [if_neg q] at e; cases e
theorem aG_spec {h : HP} {a : Nat} {i : Int32} {x : Option Nat} (e : aG h a i = some x) : a < NC ∧ ∃ n f, h a = .inr (n, .inr (.inr (.inr f))) ∧ vp_in i n ∧ x = f i.toNatClampNeg := by
  unfold aG at e
  by_cases q : a < NC
  · rw [if_pos q] at e
    refine ⟨q, ?_⟩
    split at e
    · rename_i n f hb
      by_cases z : i < 0 ∨ n ≤ i.toNatClampNeg
      · rw [if_pos z] at e; cases e
      · rw [if_neg z] at e; cases e; exact ⟨n, f, hb, z, rfl⟩
    · cases e
  · rw [if_neg q] at e; cases e
theorem sI_spec {h h' : HP} {a : Nat} {i : Int32} {x : Int32} (e : sI h a i x = some h') : a < NC ∧ ∃ n f, h a = .inr (n, .inl f) ∧ vp_in i n ∧ h' = va_up h a (.inr (n, .inl (upd f i.toNatClampNeg x))) := by
  unfold sI at e
  by_cases q : a < NC
  · rw [if_pos q] at e
    refine ⟨q, ?_⟩
    split at e
    · rename_i n f hb
      by_cases z : i < 0 ∨ n ≤ i.toNatClampNeg
      · rw [if_pos z] at e; cases e
      · rw [if_neg z] at e; cases e; exact ⟨n, f, hb, z, rfl⟩
    · cases e
  · rw [if_neg q] at e; cases e
theorem sJ_spec {h h' : HP} {a : Nat} {i : Int32} {x : Int64} (e : sJ h a i x = some h') : a < NC ∧ ∃ n f, h a = .inr (n, .inr (.inl f)) ∧ vp_in i n ∧ h' = va_up h a (.inr (n, .inr (.inl (vp_updL f i.toNatClampNeg x)))) := by
  unfold sJ at e
  by_cases q : a < NC
  · rw [if_pos q] at e
    refine ⟨q, ?_⟩
    split at e
    · rename_i n f hb
      by_cases z : i < 0 ∨ n ≤ i.toNatClampNeg
      · rw [if_pos z] at e; cases e
      · rw [if_neg z] at e; cases e; exact ⟨n, f, hb, z, rfl⟩
    · cases e
  · rw [if_neg q] at e; cases e
theorem sZ_spec {h h' : HP} {a : Nat} {i : Int32} {x : Int32} (e : sZ h a i x = some h') : a < NC ∧ ∃ n f, h a = .inr (n, .inr (.inr (.inl f))) ∧ vp_in i n ∧ h' = va_up h a (.inr (n, .inr (.inr (.inl (upd f i.toNatClampNeg (vp_nar .boolean x)))))) := by
  unfold sZ at e
  by_cases q : a < NC
  · rw [if_pos q] at e
    refine ⟨q, ?_⟩
    split at e
    · rename_i n f hb
      by_cases z : i < 0 ∨ n ≤ i.toNatClampNeg
      · rw [if_pos z] at e; cases e
      · rw [if_neg z] at e; cases e; exact ⟨n, f, hb, z, rfl⟩
    · cases e
  · rw [if_neg q] at e; cases e
theorem sG_spec {h h' : HP} {a : Nat} {i : Int32} {x : Nat} (e : sG h a i x = some h') : a < NC ∧ iO 1 h x = true ∧ ∃ n f, h a = .inr (n, .inr (.inr (.inr f))) ∧ vp_in i n ∧ h' = va_up h a (.inr (n, .inr (.inr (.inr (va_up f i.toNatClampNeg (some x)))))) := by
  unfold sG at e
  by_cases q : a < NC ∧ iO 1 h x = true
  · rw [if_pos q] at e
    refine ⟨q.1, q.2, ?_⟩
    split at e
    · rename_i n f hb
      by_cases z : i < 0 ∨ n ≤ i.toNatClampNeg
      · rw [if_pos z] at e; cases e
      · rw [if_neg z] at e; cases e; exact ⟨n, f, hb, z, rfl⟩
    · cases e
  · rw [if_neg q] at e; cases e
theorem cpI_spec {h h' : HP} {a b : Nat} {sp dp n : Int32} (e : cpI h a sp b dp n = some h') : a < NC ∧ b < NC ∧ ∃ n0 f n1 g, h a = .inr (n0, .inl f) ∧ h b = .inr (n1, .inl g) ∧ ¬ sp < 0 ∧ ¬ dp < 0 ∧ ¬ n < 0 ∧ sp.toNatClampNeg + n.toNatClampNeg ≤ n0 ∧ dp.toNatClampNeg + n.toNatClampNeg ≤ n1 ∧ h' = va_up h b (.inr (n1, .inl (va_cpy f g sp.toNatClampNeg dp.toNatClampNeg n.toNatClampNeg))) := by
  unfold cpI at e
  by_cases q : a < NC ∧ b < NC
  · rw [if_pos q] at e
    refine ⟨q.1, q.2, ?_⟩
    split at e
    · rename_i n0 f n1 g hb hc
      by_cases z : sp < 0 ∨ dp < 0 ∨ n < 0 ∨ n0 < sp.toNatClampNeg + n.toNatClampNeg ∨ n1 < dp.toNatClampNeg + n.toNatClampNeg
      · rw [if_pos z] at e; cases e
      · rw [if_neg z] at e
        cases e
        exact ⟨n0, f, n1, g, hb, hc, fun y => z (Or.inl y), fun y => z (Or.inr (Or.inl y)), fun y => z (Or.inr (Or.inr (Or.inl y))), Nat.not_lt.mp fun y => z (Or.inr (Or.inr (Or.inr (Or.inl y)))), Nat.not_lt.mp fun y => z (Or.inr (Or.inr (Or.inr (Or.inr y)))), rfl⟩
    · cases e
  · rw [if_neg q] at e; cases e
theorem cpJ_spec {h h' : HP} {a b : Nat} {sp dp n : Int32} (e : cpJ h a sp b dp n = some h') : a < NC ∧ b < NC ∧ ∃ n0 f n1 g, h a = .inr (n0, .inr (.inl f)) ∧ h b = .inr (n1, .inr (.inl g)) ∧ ¬ sp < 0 ∧ ¬ dp < 0 ∧ ¬ n < 0 ∧ sp.toNatClampNeg + n.toNatClampNeg ≤ n0 ∧ dp.toNatClampNeg + n.toNatClampNeg ≤ n1 ∧ h' = va_up h b (.inr (n1, .inr (.inl (va_cpy f g sp.toNatClampNeg dp.toNatClampNeg n.toNatClampNeg)))) := by
  unfold cpJ at e
  by_cases q : a < NC ∧ b < NC
  · rw [if_pos q] at e
    refine ⟨q.1, q.2, ?_⟩
    split at e
    · rename_i n0 f n1 g hb hc
      by_cases z : sp < 0 ∨ dp < 0 ∨ n < 0 ∨ n0 < sp.toNatClampNeg + n.toNatClampNeg ∨ n1 < dp.toNatClampNeg + n.toNatClampNeg
      · rw [if_pos z] at e; cases e
      · rw [if_neg z] at e
        cases e
        exact ⟨n0, f, n1, g, hb, hc, fun y => z (Or.inl y), fun y => z (Or.inr (Or.inl y)), fun y => z (Or.inr (Or.inr (Or.inl y))), Nat.not_lt.mp fun y => z (Or.inr (Or.inr (Or.inr (Or.inl y)))), Nat.not_lt.mp fun y => z (Or.inr (Or.inr (Or.inr (Or.inr y)))), rfl⟩
    · cases e
  · rw [if_neg q] at e; cases e
section ROWS
variable {p : Program} {l : Launch} {e : Env} {R : Room} {s : State} {m : MethodId} {args : Array Value} {below : List Frame} {meth : Method} {c : Code} {cells slots : Nat} {Q : State → Prop} {D : va_G} {ad : Nat → Nat} {cy : Nat → ClassId} {A : Nat → Prop} {nL : Nat} {h : HP} {lv : List (Nat × Value)} {pc : Nat} {st : List Value} {cc : ByteArray} {Ts : List Cond} {own : String}
theorem j_iconst (E : EE p s m args c cc nL Ts own D cy) {n : Int} {v : Int32} (hd : decode cc pc = .ok (.iconst n, 1)) (hv : Int32.ofInt n = v) (k : JJ p l e R s m args below meth c cells slots Q D ad cy A nL h lv (pc + 1) (.int v :: st)) : JJ p l e R s m args below meth c cells slots Q D ad cy A nL h lv pc st := fun H locs ls w q => lv_iconst E.1.1 E.1.2.1 hd hv (k H locs ls w q)
theorem j_bipush (E : EE p s m args c cc nL Ts own D cy) {n : Int} {v : Int32} (hd : decode cc pc = .ok (.bipush n, 2)) (hv : (Int8.ofInt n).toInt32 = v) (k : JJ p l e R s m args below meth c cells slots Q D ad cy A nL h lv (pc + 2) (.int v :: st)) : JJ p l e R s m args below meth c cells slots Q D ad cy A nL h lv pc st := fun H locs ls w q => lv_bipush E.1.1 E.1.2.1 hd hv (k H locs ls w q)
theorem j_sipush (E : EE p s m args c cc nL Ts own D cy) {n : Int} {v : Int32} (hd : decode cc pc = .ok (.sipush n, 3)) (hv : (Int16.ofInt n).toInt32 = v) (k : JJ p l e R s m args below meth c cells slots Q D ad cy A nL h lv (pc + 3) (.int v :: st)) : JJ p l e R s m args below meth c cells slots Q D ad cy A nL h lv pc st := fun H locs ls w q => lv_sipush E.1.1 E.1.2.1 hd hv (k H locs ls w q)
theorem j_lconst (E : EE p s m args c cc nL Ts own D cy) {n : Fin 2} {v : Int64} (hd : decode cc pc = .ok (.lconst n, 1)) (hv : Int64.ofNat (n : Nat) = v) (k : JJ p l e R s m args below meth c cells slots Q D ad cy A nL h lv (pc + 1) (.long v :: st)) : JJ p l e R s m args below meth c cells slots Q D ad cy A nL h lv pc st := fun H locs ls w q => lv_lconst E.1.1 E.1.2.1 hd hv (k H locs ls w q)
theorem j_null (E : EE p s m args c cc nL Ts own D cy)  (hd : decode cc pc = .ok (.aconst_null, 1))  (k : JJ p l e R s m args below meth c cells slots Q D ad cy A nL h lv (pc + 1) (.null :: st)) : JJ p l e R s m args below meth c cells slots Q D ad cy A nL h lv pc st := fun H locs ls w q => lv_null E.1.1 E.1.2.1 hd (k H locs ls w q)
theorem j_iload_n (E : EE p s m args c cc nL Ts own D cy) {kk : Fin 4} {i : Nat} {x : Int32} (k0 : Nat) (hk : lv[k0]? = some (i, .int x)) (hd : decode cc pc = .ok (.iload_n kk, 1)) (hi : (kk : Nat) = i) (k : JJ p l e R s m args below meth c cells slots Q D ad cy A nL h lv (pc + 1) (.int x :: st)) : JJ p l e R s m args below meth c cells slots Q D ad cy A nL h lv pc st := fun H locs ls w q => lv_iload_n E.1.1 E.1.2.1 hd hi (lv_at q k0 hk) (k H locs ls w q)
theorem j_iload (E : EE p s m args c cc nL Ts own D cy) {i : Nat} {x : Int32} (k0 : Nat) (hk : lv[k0]? = some (i, .int x)) (hd : decode cc pc = .ok (.iload i, 2))  (k : JJ p l e R s m args below meth c cells slots Q D ad cy A nL h lv (pc + 2) (.int x :: st)) : JJ p l e R s m args below meth c cells slots Q D ad cy A nL h lv pc st := fun H locs ls w q => lv_iload E.1.1 E.1.2.1 hd (lv_at q k0 hk) (k H locs ls w q)
theorem j_lload_n (E : EE p s m args c cc nL Ts own D cy) {kk : Fin 4} {i : Nat} {x : Int64} (k0 : Nat) (hk : lv[k0]? = some (i, .long x)) (hd : decode cc pc = .ok (.lload_n kk, 1)) (hi : (kk : Nat) = i) (k : JJ p l e R s m args below meth c cells slots Q D ad cy A nL h lv (pc + 1) (.long x :: st)) : JJ p l e R s m args below meth c cells slots Q D ad cy A nL h lv pc st := fun H locs ls w q => lv_lload_n E.1.1 E.1.2.1 hd hi (lv_at q k0 hk) (k H locs ls w q)
theorem j_lload (E : EE p s m args c cc nL Ts own D cy) {i : Nat} {x : Int64} (k0 : Nat) (hk : lv[k0]? = some (i, .long x)) (hd : decode cc pc = .ok (.lload i, 2))  (k : JJ p l e R s m args below meth c cells slots Q D ad cy A nL h lv (pc + 2) (.long x :: st)) : JJ p l e R s m args below meth c cells slots Q D ad cy A nL h lv pc st := fun H locs ls w q => lv_lload E.1.1 E.1.2.1 hd (lv_at q k0 hk) (k H locs ls w q)
theorem j_aload_n (E : EE p s m args c cc nL Ts own D cy) {kk : Fin 4} {i : Nat} {x : Nat} (k0 : Nat) (hk : lv[k0]? = some (i, .ref x)) (hd : decode cc pc = .ok (.aload_n kk, 1)) (hi : (kk : Nat) = i) (k : JJ p l e R s m args below meth c cells slots Q D ad cy A nL h lv (pc + 1) (.ref x :: st)) : JJ p l e R s m args below meth c cells slots Q D ad cy A nL h lv pc st := fun H locs ls w q => lv_aload_n E.1.1 E.1.2.1 hd hi (lv_at q k0 hk) (k H locs ls w q)
theorem j_aload (E : EE p s m args c cc nL Ts own D cy) {i : Nat} {x : Nat} (k0 : Nat) (hk : lv[k0]? = some (i, .ref x)) (hd : decode cc pc = .ok (.aload i, 2))  (k : JJ p l e R s m args below meth c cells slots Q D ad cy A nL h lv (pc + 2) (.ref x :: st)) : JJ p l e R s m args below meth c cells slots Q D ad cy A nL h lv pc st := fun H locs ls w q => lv_aload E.1.1 E.1.2.1 hd (lv_at q k0 hk) (k H locs ls w q)
theorem j_istore_n (E : EE p s m args c cc nL Ts own D cy) {kk : Fin 4} {i : Nat} {x : Int32} {lv' : List (Nat × Value)} (hd : decode cc pc = .ok (.istore_n kk, 1)) (hi : (kk : Nat) = i) (hn : i < nL) (hl : (i, Value.int x) :: lv.filter (fun q => !(q.1 == i) && !(q.1 + 1 == i && q.2.category == 2)) = lv') (k : JJ p l e R s m args below meth c cells slots Q D ad cy A nL h lv' (pc + 1) st) : JJ p l e R s m args below meth c cells slots Q D ad cy A nL h lv pc (.int x :: st) := fun H locs ls w q => lv_istore_n E.1.1 E.1.2.1 hd hi q hn hl (fun ls q => k H locs ls w q)
theorem j_istore (E : EE p s m args c cc nL Ts own D cy) {i : Nat} {x : Int32} {lv' : List (Nat × Value)} (hd : decode cc pc = .ok (.istore i, 2)) (hn : i < nL) (hl : (i, Value.int x) :: lv.filter (fun q => !(q.1 == i) && !(q.1 + 1 == i && q.2.category == 2)) = lv') (k : JJ p l e R s m args below meth c cells slots Q D ad cy A nL h lv' (pc + 2) st) : JJ p l e R s m args below meth c cells slots Q D ad cy A nL h lv pc (.int x :: st) := fun H locs ls w q => lv_istore E.1.1 E.1.2.1 hd q hn hl (fun ls q => k H locs ls w q)
theorem j_lstore_n (E : EE p s m args c cc nL Ts own D cy) {kk : Fin 4} {i : Nat} {x : Int64} {lv' : List (Nat × Value)} (hd : decode cc pc = .ok (.lstore_n kk, 1)) (hi : (kk : Nat) = i) (hn : i + 1 < nL) (hl : (i, Value.long x) :: lv.filter (fun q => !(q.1 == i) && (!(q.1 == i + 1) && !(q.1 + 1 == i && q.2.category == 2))) = lv') (k : JJ p l e R s m args below meth c cells slots Q D ad cy A nL h lv' (pc + 1) st) : JJ p l e R s m args below meth c cells slots Q D ad cy A nL h lv pc (.long x :: st) := fun H locs ls w q => lv_lstore_n E.1.1 E.1.2.1 hd hi q hn hl (fun ls q => k H locs ls w q)
theorem j_lstore (E : EE p s m args c cc nL Ts own D cy) {i : Nat} {x : Int64} {lv' : List (Nat × Value)} (hd : decode cc pc = .ok (.lstore i, 2)) (hn : i + 1 < nL) (hl : (i, Value.long x) :: lv.filter (fun q => !(q.1 == i) && (!(q.1 == i + 1) && !(q.1 + 1 == i && q.2.category == 2))) = lv') (k : JJ p l e R s m args below meth c cells slots Q D ad cy A nL h lv' (pc + 2) st) : JJ p l e R s m args below meth c cells slots Q D ad cy A nL h lv pc (.long x :: st) := fun H locs ls w q => lv_lstore E.1.1 E.1.2.1 hd q hn hl (fun ls q => k H locs ls w q)
theorem j_astore_n (E : EE p s m args c cc nL Ts own D cy) {kk : Fin 4} {i : Nat} {x : Nat} {lv' : List (Nat × Value)} (hd : decode cc pc = .ok (.astore_n kk, 1)) (hi : (kk : Nat) = i) (hn : i < nL) (hl : (i, Value.ref x) :: lv.filter (fun q => !(q.1 == i) && !(q.1 + 1 == i && q.2.category == 2)) = lv') (k : JJ p l e R s m args below meth c cells slots Q D ad cy A nL h lv' (pc + 1) st) : JJ p l e R s m args below meth c cells slots Q D ad cy A nL h lv pc (.ref x :: st) := fun H locs ls w q => lv_astore_n E.1.1 E.1.2.1 hd hi q hn hl (fun ls q => k H locs ls w q)
theorem j_astore (E : EE p s m args c cc nL Ts own D cy) {i : Nat} {x : Nat} {lv' : List (Nat × Value)} (hd : decode cc pc = .ok (.astore i, 2)) (hn : i < nL) (hl : (i, Value.ref x) :: lv.filter (fun q => !(q.1 == i) && !(q.1 + 1 == i && q.2.category == 2)) = lv') (k : JJ p l e R s m args below meth c cells slots Q D ad cy A nL h lv' (pc + 2) st) : JJ p l e R s m args below meth c cells slots Q D ad cy A nL h lv pc (.ref x :: st) := fun H locs ls w q => lv_astore E.1.1 E.1.2.1 hd q hn hl (fun ls q => k H locs ls w q)
theorem j_iinc (E : EE p s m args c cc nL Ts own D cy) {i k0 : Nat} {n : Int} {x v : Int32} {lv' : List (Nat × Value)} (hd : decode cc pc = .ok (.iinc i n, 3)) (hk : lv[k0]? = some (i, .int x)) (hv : x + Int32.ofInt n = v) (hn : i < nL) (hl : (i, Value.int v) :: lv.filter (fun q => !(q.1 == i) && !(q.1 + 1 == i && q.2.category == 2)) = lv') (k : JJ p l e R s m args below meth c cells slots Q D ad cy A nL h lv' (pc + 3) st) : JJ p l e R s m args below meth c cells slots Q D ad cy A nL h lv pc st := fun H locs ls w q => lv_iinc E.1.1 E.1.2.1 hd q hk hv hn hl (fun ls q => k H locs ls w q)
theorem j_perm {lv' : List (Nat × Value)} (ks : List Nat) (hl : lv_pick lv ks = lv') (k : JJ p l e R s m args below meth c cells slots Q D ad cy A nL h lv' pc st) : JJ p l e R s m args below meth c cells slots Q D ad cy A nL h lv pc st := fun H locs ls w q => k H locs ls w (lv_sub q ks hl)
theorem j_stk {st' : List Value} (hs : st = st') (k : JJ p l e R s m args below meth c cells slots Q D ad cy A nL h lv pc st') : JJ p l e R s m args below meth c cells slots Q D ad cy A nL h lv pc st := hs ▸ k
theorem j_iadd (E : EE p s m args c cc nL Ts own D cy) {x y : Int32} (hd : decode cc pc = .ok (.iadd, 1))  (k : JJ p l e R s m args below meth c cells slots Q D ad cy A nL h lv (pc + 1) (.int (x + y) :: st)) : JJ p l e R s m args below meth c cells slots Q D ad cy A nL h lv pc (.int y :: .int x :: st) := fun H locs ls w q => lv_iadd E.1.1 E.1.2.1 hd (k H locs ls w q)
theorem j_isub (E : EE p s m args c cc nL Ts own D cy) {x y : Int32} (hd : decode cc pc = .ok (.isub, 1))  (k : JJ p l e R s m args below meth c cells slots Q D ad cy A nL h lv (pc + 1) (.int (x - y) :: st)) : JJ p l e R s m args below meth c cells slots Q D ad cy A nL h lv pc (.int y :: .int x :: st) := fun H locs ls w q => lv_isub E.1.1 E.1.2.1 hd (k H locs ls w q)
theorem j_imul (E : EE p s m args c cc nL Ts own D cy) {x y : Int32} (hd : decode cc pc = .ok (.imul, 1))  (k : JJ p l e R s m args below meth c cells slots Q D ad cy A nL h lv (pc + 1) (.int (x * y) :: st)) : JJ p l e R s m args below meth c cells slots Q D ad cy A nL h lv pc (.int y :: .int x :: st) := fun H locs ls w q => lv_imul E.1.1 E.1.2.1 hd (k H locs ls w q)
theorem j_iand (E : EE p s m args c cc nL Ts own D cy) {x y : Int32} (hd : decode cc pc = .ok (.iand, 1))  (k : JJ p l e R s m args below meth c cells slots Q D ad cy A nL h lv (pc + 1) (.int (x &&& y) :: st)) : JJ p l e R s m args below meth c cells slots Q D ad cy A nL h lv pc (.int y :: .int x :: st) := fun H locs ls w q => lv_iand E.1.1 E.1.2.1 hd (k H locs ls w q)
theorem j_ior (E : EE p s m args c cc nL Ts own D cy) {x y : Int32} (hd : decode cc pc = .ok (.ior, 1))  (k : JJ p l e R s m args below meth c cells slots Q D ad cy A nL h lv (pc + 1) (.int (x ||| y) :: st)) : JJ p l e R s m args below meth c cells slots Q D ad cy A nL h lv pc (.int y :: .int x :: st) := fun H locs ls w q => lv_ior E.1.1 E.1.2.1 hd (k H locs ls w q)
theorem j_ixor (E : EE p s m args c cc nL Ts own D cy) {x y : Int32} (hd : decode cc pc = .ok (.ixor, 1))  (k : JJ p l e R s m args below meth c cells slots Q D ad cy A nL h lv (pc + 1) (.int (x ^^^ y) :: st)) : JJ p l e R s m args below meth c cells slots Q D ad cy A nL h lv pc (.int y :: .int x :: st) := fun H locs ls w q => lv_ixor E.1.1 E.1.2.1 hd (k H locs ls w q)
theorem j_ishl (E : EE p s m args c cc nL Ts own D cy) {x y : Int32} (hd : decode cc pc = .ok (.ishl, 1))  (k : JJ p l e R s m args below meth c cells slots Q D ad cy A nL h lv (pc + 1) (.int (x <<< (y &&& 31)) :: st)) : JJ p l e R s m args below meth c cells slots Q D ad cy A nL h lv pc (.int y :: .int x :: st) := fun H locs ls w q => lv_ishl E.1.1 E.1.2.1 hd (k H locs ls w q)
theorem j_ishr (E : EE p s m args c cc nL Ts own D cy) {x y : Int32} (hd : decode cc pc = .ok (.ishr, 1))  (k : JJ p l e R s m args below meth c cells slots Q D ad cy A nL h lv (pc + 1) (.int (x >>> (y &&& 31)) :: st)) : JJ p l e R s m args below meth c cells slots Q D ad cy A nL h lv pc (.int y :: .int x :: st) := fun H locs ls w q => lv_ishr E.1.1 E.1.2.1 hd (k H locs ls w q)
theorem j_ladd (E : EE p s m args c cc nL Ts own D cy) {x y : Int64} (hd : decode cc pc = .ok (.ladd, 1))  (k : JJ p l e R s m args below meth c cells slots Q D ad cy A nL h lv (pc + 1) (.long (x + y) :: st)) : JJ p l e R s m args below meth c cells slots Q D ad cy A nL h lv pc (.long y :: .long x :: st) := fun H locs ls w q => lv_ladd E.1.1 E.1.2.1 hd (k H locs ls w q)
theorem j_lmul (E : EE p s m args c cc nL Ts own D cy) {x y : Int64} (hd : decode cc pc = .ok (.lmul, 1))  (k : JJ p l e R s m args below meth c cells slots Q D ad cy A nL h lv (pc + 1) (.long (x * y) :: st)) : JJ p l e R s m args below meth c cells slots Q D ad cy A nL h lv pc (.long y :: .long x :: st) := fun H locs ls w q => lv_lmul E.1.1 E.1.2.1 hd (k H locs ls w q)
theorem j_land (E : EE p s m args c cc nL Ts own D cy) {x y : Int64} (hd : decode cc pc = .ok (.land, 1))  (k : JJ p l e R s m args below meth c cells slots Q D ad cy A nL h lv (pc + 1) (.long (x &&& y) :: st)) : JJ p l e R s m args below meth c cells slots Q D ad cy A nL h lv pc (.long y :: .long x :: st) := fun H locs ls w q => lv_land E.1.1 E.1.2.1 hd (k H locs ls w q)
theorem j_lor (E : EE p s m args c cc nL Ts own D cy) {x y : Int64} (hd : decode cc pc = .ok (.lor, 1))  (k : JJ p l e R s m args below meth c cells slots Q D ad cy A nL h lv (pc + 1) (.long (x ||| y) :: st)) : JJ p l e R s m args below meth c cells slots Q D ad cy A nL h lv pc (.long y :: .long x :: st) := fun H locs ls w q => lv_lor E.1.1 E.1.2.1 hd (k H locs ls w q)
theorem j_idiv (E : EE p s m args c cc nL Ts own D cy) {x y : Int32} (hne : ¬ y = 0) (hd : decode cc pc = .ok (.idiv, 1))  (k : JJ p l e R s m args below meth c cells slots Q D ad cy A nL h lv (pc + 1) (.int (x / y) :: st)) : JJ p l e R s m args below meth c cells slots Q D ad cy A nL h lv pc (.int y :: .int x :: st) := fun H locs ls w q => lv_idiv E.1.1 E.1.2.1 hd hne (k H locs ls w q)
theorem j_irem (E : EE p s m args c cc nL Ts own D cy) {x y : Int32} (hne : ¬ y = 0) (hd : decode cc pc = .ok (.irem, 1))  (k : JJ p l e R s m args below meth c cells slots Q D ad cy A nL h lv (pc + 1) (.int (x - x / y * y) :: st)) : JJ p l e R s m args below meth c cells slots Q D ad cy A nL h lv pc (.int y :: .int x :: st) := fun H locs ls w q => lv_irem E.1.1 E.1.2.1 hd hne (k H locs ls w q)
theorem j_iushr (E : EE p s m args c cc nL Ts own D cy) {x y : Int32} (hd : decode cc pc = .ok (.iushr, 1))  (k : JJ p l e R s m args below meth c cells slots Q D ad cy A nL h lv (pc + 1) (.int ((x.toUInt32 >>> (y.toUInt32 &&& Int32.toUInt32 31)).toInt32) :: st)) : JJ p l e R s m args below meth c cells slots Q D ad cy A nL h lv pc (.int y :: .int x :: st) := fun H locs ls w q => lv_iushr E.1.1 E.1.2.1 hd rfl (k H locs ls w q)
theorem j_lshl (E : EE p s m args c cc nL Ts own D cy) {x : Int64} {y : Int32} (hd : decode cc pc = .ok (.lshl, 1))  (k : JJ p l e R s m args below meth c cells slots Q D ad cy A nL h lv (pc + 1) (.long (x <<< (y.toInt64 &&& 63)) :: st)) : JJ p l e R s m args below meth c cells slots Q D ad cy A nL h lv pc (.int y :: .long x :: st) := fun H locs ls w q => lv_lshl E.1.1 E.1.2.1 hd rfl (k H locs ls w q)
theorem j_i2l (E : EE p s m args c cc nL Ts own D cy) {x : Int32} (hd : decode cc pc = .ok (.i2l, 1))  (k : JJ p l e R s m args below meth c cells slots Q D ad cy A nL h lv (pc + 1) (.long x.toInt64 :: st)) : JJ p l e R s m args below meth c cells slots Q D ad cy A nL h lv pc (.int x :: st) := fun H locs ls w q => lv_i2l E.1.1 E.1.2.1 hd rfl (k H locs ls w q)
theorem j_lcmp (E : EE p s m args c cc nL Ts own D cy) {x y : Int64} (hd : decode cc pc = .ok (.lcmp, 1))  (k : JJ p l e R s m args below meth c cells slots Q D ad cy A nL h lv (pc + 1) (.int (lg_cmp x y) :: st)) : JJ p l e R s m args below meth c cells slots Q D ad cy A nL h lv pc (.long y :: .long x :: st) := fun H locs ls w q => W.lcmp E.1.1 E.1.2.1 hd (k H locs ls w q)
theorem j_dup (E : EE p s m args c cc nL Ts own D cy) {va : Value} (hd : decode cc pc = .ok (.dup, 1)) (hva : va.category = 1) (k : JJ p l e R s m args below meth c cells slots Q D ad cy A nL h lv (pc + 1) (va :: va :: st)) : JJ p l e R s m args below meth c cells slots Q D ad cy A nL h lv pc (va :: st) := fun H locs ls w q => lv_dup E.1.1 E.1.2.1 hd hva (k H locs ls w q)
theorem j_pop (E : EE p s m args c cc nL Ts own D cy) {va : Value} (hd : decode cc pc = .ok (.pop, 1)) (hva : va.category = 1) (k : JJ p l e R s m args below meth c cells slots Q D ad cy A nL h lv (pc + 1) st) : JJ p l e R s m args below meth c cells slots Q D ad cy A nL h lv pc (va :: st) := fun H locs ls w q => lv_pop E.1.1 E.1.2.1 hd hva (k H locs ls w q)
theorem j_dup2 (E : EE p s m args c cc nL Ts own D cy) {va vb : Value} (hd : decode cc pc = .ok (.dup2, 1)) (hva : va.category = 1) (hvb : vb.category = 1) (k : JJ p l e R s m args below meth c cells slots Q D ad cy A nL h lv (pc + 1) (va :: vb :: va :: vb :: st)) : JJ p l e R s m args below meth c cells slots Q D ad cy A nL h lv pc (va :: vb :: st) := fun H locs ls w q => lv_dup2_11 E.1.1 E.1.2.1 hd hva hvb (k H locs ls w q)
theorem j_ldcw (E : EE p s m args c cc nL Ts own D cy) {index : Nat} {v : Int32} (hm : Cond.constant own index v ∈ Ts) (hd : decode cc pc = .ok (.ldc_w index, 3))  (k : JJ p l e R s m args below meth c cells slots Q D ad cy A nL h lv (pc + 3) (.int v :: st)) : JJ p l e R s m args below meth c cells slots Q D ad cy A nL h lv pc st := fun H locs ls w q => lv_ldcw E.1.1 E.1.2.1 E.1.2.2.2.1 (E.1.2.2.2.2 _ hm) hd (k H locs ls w q)
theorem j_ldc2 (E : EE p s m args c cc nL Ts own D cy) {index : Nat} {v : Int64} (hm : Cond.constantLong own index v ∈ Ts) (hd : decode cc pc = .ok (.ldc2_w index, 3))  (k : JJ p l e R s m args below meth c cells slots Q D ad cy A nL h lv (pc + 3) (.long v :: st)) : JJ p l e R s m args below meth c cells slots Q D ad cy A nL h lv pc st := fun H locs ls w q => lv_ldc2 E.1.1 E.1.2.1 E.1.2.2.2.1 (E.1.2.2.2.2 _ hm) hd (k H locs ls w q)
theorem j_if_eq (E : EE p s m args c cc nL Ts own D cy) {x : Int32} {off : Int} {tgt : Nat} (hd : decode cc pc = .ok (.ifCond .eq off, 3)) (ht : (pc : Int) + off = (tgt : Int)) (kt : x = 0 → JJ p l e R s m args below meth c cells slots Q D ad cy A nL h lv tgt st) (kf : ¬ x = 0 → JJ p l e R s m args below meth c cells slots Q D ad cy A nL h lv (pc + 3) st) : JJ p l e R s m args below meth c cells slots Q D ad cy A nL h lv pc (.int x :: st) := fun H locs ls w q => lv_if_eq E.1.1 E.1.2.1 hd ht (fun z => kt z H locs ls w q) (fun z => kf z H locs ls w q)
theorem j_icmp_eq (E : EE p s m args c cc nL Ts own D cy) {x y : Int32} {off : Int} {tgt : Nat} (hd : decode cc pc = .ok (.if_icmp .eq off, 3)) (ht : (pc : Int) + off = (tgt : Int)) (kt : x = y → JJ p l e R s m args below meth c cells slots Q D ad cy A nL h lv tgt st) (kf : ¬ x = y → JJ p l e R s m args below meth c cells slots Q D ad cy A nL h lv (pc + 3) st) : JJ p l e R s m args below meth c cells slots Q D ad cy A nL h lv pc (.int y :: .int x :: st) := fun H locs ls w q => lv_icmp_eq E.1.1 E.1.2.1 hd ht (fun z => kt z H locs ls w q) (fun z => kf z H locs ls w q)
theorem j_if_lt (E : EE p s m args c cc nL Ts own D cy) {x : Int32} {off : Int} {tgt : Nat} (hd : decode cc pc = .ok (.ifCond .lt off, 3)) (ht : (pc : Int) + off = (tgt : Int)) (kt : x < 0 → JJ p l e R s m args below meth c cells slots Q D ad cy A nL h lv tgt st) (kf : ¬ x < 0 → JJ p l e R s m args below meth c cells slots Q D ad cy A nL h lv (pc + 3) st) : JJ p l e R s m args below meth c cells slots Q D ad cy A nL h lv pc (.int x :: st) := fun H locs ls w q => lv_if_lt E.1.1 E.1.2.1 hd ht (fun z => kt z H locs ls w q) (fun z => kf z H locs ls w q)
theorem j_icmp_lt (E : EE p s m args c cc nL Ts own D cy) {x y : Int32} {off : Int} {tgt : Nat} (hd : decode cc pc = .ok (.if_icmp .lt off, 3)) (ht : (pc : Int) + off = (tgt : Int)) (kt : x < y → JJ p l e R s m args below meth c cells slots Q D ad cy A nL h lv tgt st) (kf : ¬ x < y → JJ p l e R s m args below meth c cells slots Q D ad cy A nL h lv (pc + 3) st) : JJ p l e R s m args below meth c cells slots Q D ad cy A nL h lv pc (.int y :: .int x :: st) := fun H locs ls w q => lv_icmp_lt E.1.1 E.1.2.1 hd ht (fun z => kt z H locs ls w q) (fun z => kf z H locs ls w q)
theorem j_if_ge (E : EE p s m args c cc nL Ts own D cy) {x : Int32} {off : Int} {tgt : Nat} (hd : decode cc pc = .ok (.ifCond .ge off, 3)) (ht : (pc : Int) + off = (tgt : Int)) (kt : 0 ≤ x → JJ p l e R s m args below meth c cells slots Q D ad cy A nL h lv tgt st) (kf : ¬ 0 ≤ x → JJ p l e R s m args below meth c cells slots Q D ad cy A nL h lv (pc + 3) st) : JJ p l e R s m args below meth c cells slots Q D ad cy A nL h lv pc (.int x :: st) := fun H locs ls w q => lv_if_ge E.1.1 E.1.2.1 hd ht (fun z => kt z H locs ls w q) (fun z => kf z H locs ls w q)
theorem j_icmp_ge (E : EE p s m args c cc nL Ts own D cy) {x y : Int32} {off : Int} {tgt : Nat} (hd : decode cc pc = .ok (.if_icmp .ge off, 3)) (ht : (pc : Int) + off = (tgt : Int)) (kt : y ≤ x → JJ p l e R s m args below meth c cells slots Q D ad cy A nL h lv tgt st) (kf : ¬ y ≤ x → JJ p l e R s m args below meth c cells slots Q D ad cy A nL h lv (pc + 3) st) : JJ p l e R s m args below meth c cells slots Q D ad cy A nL h lv pc (.int y :: .int x :: st) := fun H locs ls w q => lv_icmp_ge E.1.1 E.1.2.1 hd ht (fun z => kt z H locs ls w q) (fun z => kf z H locs ls w q)
theorem j_if_gt (E : EE p s m args c cc nL Ts own D cy) {x : Int32} {off : Int} {tgt : Nat} (hd : decode cc pc = .ok (.ifCond .gt off, 3)) (ht : (pc : Int) + off = (tgt : Int)) (kt : 0 < x → JJ p l e R s m args below meth c cells slots Q D ad cy A nL h lv tgt st) (kf : ¬ 0 < x → JJ p l e R s m args below meth c cells slots Q D ad cy A nL h lv (pc + 3) st) : JJ p l e R s m args below meth c cells slots Q D ad cy A nL h lv pc (.int x :: st) := fun H locs ls w q => lv_if_gt E.1.1 E.1.2.1 hd ht (fun z => kt z H locs ls w q) (fun z => kf z H locs ls w q)
theorem j_icmp_gt (E : EE p s m args c cc nL Ts own D cy) {x y : Int32} {off : Int} {tgt : Nat} (hd : decode cc pc = .ok (.if_icmp .gt off, 3)) (ht : (pc : Int) + off = (tgt : Int)) (kt : y < x → JJ p l e R s m args below meth c cells slots Q D ad cy A nL h lv tgt st) (kf : ¬ y < x → JJ p l e R s m args below meth c cells slots Q D ad cy A nL h lv (pc + 3) st) : JJ p l e R s m args below meth c cells slots Q D ad cy A nL h lv pc (.int y :: .int x :: st) := fun H locs ls w q => lv_icmp_gt E.1.1 E.1.2.1 hd ht (fun z => kt z H locs ls w q) (fun z => kf z H locs ls w q)
theorem j_if_le (E : EE p s m args c cc nL Ts own D cy) {x : Int32} {off : Int} {tgt : Nat} (hd : decode cc pc = .ok (.ifCond .le off, 3)) (ht : (pc : Int) + off = (tgt : Int)) (kt : x ≤ 0 → JJ p l e R s m args below meth c cells slots Q D ad cy A nL h lv tgt st) (kf : ¬ x ≤ 0 → JJ p l e R s m args below meth c cells slots Q D ad cy A nL h lv (pc + 3) st) : JJ p l e R s m args below meth c cells slots Q D ad cy A nL h lv pc (.int x :: st) := fun H locs ls w q => lv_if_le E.1.1 E.1.2.1 hd ht (fun z => kt z H locs ls w q) (fun z => kf z H locs ls w q)
theorem j_icmp_le (E : EE p s m args c cc nL Ts own D cy) {x y : Int32} {off : Int} {tgt : Nat} (hd : decode cc pc = .ok (.if_icmp .le off, 3)) (ht : (pc : Int) + off = (tgt : Int)) (kt : x ≤ y → JJ p l e R s m args below meth c cells slots Q D ad cy A nL h lv tgt st) (kf : ¬ x ≤ y → JJ p l e R s m args below meth c cells slots Q D ad cy A nL h lv (pc + 3) st) : JJ p l e R s m args below meth c cells slots Q D ad cy A nL h lv pc (.int y :: .int x :: st) := fun H locs ls w q => lv_icmp_le E.1.1 E.1.2.1 hd ht (fun z => kt z H locs ls w q) (fun z => kf z H locs ls w q)
theorem j_if_ne (E : EE p s m args c cc nL Ts own D cy) {x : Int32} {off : Int} {tgt : Nat} (hd : decode cc pc = .ok (.ifCond .ne off, 3)) (ht : (pc : Int) + off = (tgt : Int)) (kt : ¬ x = 0 → JJ p l e R s m args below meth c cells slots Q D ad cy A nL h lv tgt st) (kf : x = 0 → JJ p l e R s m args below meth c cells slots Q D ad cy A nL h lv (pc + 3) st) : JJ p l e R s m args below meth c cells slots Q D ad cy A nL h lv pc (.int x :: st) := fun H locs ls w q => lv_if_ne E.1.1 E.1.2.1 hd ht (fun z => kt z H locs ls w q) (fun z => kf z H locs ls w q)
theorem j_icmp_ne (E : EE p s m args c cc nL Ts own D cy) {x y : Int32} {off : Int} {tgt : Nat} (hd : decode cc pc = .ok (.if_icmp .ne off, 3)) (ht : (pc : Int) + off = (tgt : Int)) (kt : ¬ x = y → JJ p l e R s m args below meth c cells slots Q D ad cy A nL h lv tgt st) (kf : x = y → JJ p l e R s m args below meth c cells slots Q D ad cy A nL h lv (pc + 3) st) : JJ p l e R s m args below meth c cells slots Q D ad cy A nL h lv pc (.int y :: .int x :: st) := fun H locs ls w q => lv_icmp_ne E.1.1 E.1.2.1 hd ht (fun z => kt z H locs ls w q) (fun z => kf z H locs ls w q)
theorem j_goto (E : EE p s m args c cc nL Ts own D cy) {off : Int} {tgt : Nat} (hd : decode cc pc = .ok (.goto off, 3)) (ht : (pc : Int) + off = (tgt : Int)) (k : JJ p l e R s m args below meth c cells slots Q D ad cy A nL h lv tgt st) : JJ p l e R s m args below meth c cells slots Q D ad cy A nL h lv pc st := fun H locs ls w q => lv_goto E.1.1 E.1.2.1 hd ht (k H locs ls w q)
theorem j_ifnull (E : EE p s m args c cc nL Ts own D cy) {x : Nat} {off : Int} (hd : decode cc pc = .ok (.ifnull off, 3)) (k : JJ p l e R s m args below meth c cells slots Q D ad cy A nL h lv (pc + 3) st) : JJ p l e R s m args below meth c cells slots Q D ad cy A nL h lv pc (.ref x :: st) := fun H locs ls w q => lv_ifnull E.1.1 E.1.2.1 hd (k H locs ls w q)
theorem j_ifnullN (E : EE p s m args c cc nL Ts own D cy) {off : Int} {tgt : Nat} (hd : decode cc pc = .ok (.ifnull off, 3)) (ht : (pc : Int) + off = (tgt : Int)) (k : JJ p l e R s m args below meth c cells slots Q D ad cy A nL h lv tgt st) : JJ p l e R s m args below meth c cells slots Q D ad cy A nL h lv pc (.null :: st) := fun H locs ls w q => lv_ifnullN E.1.1 E.1.2.1 hd ht (k H locs ls w q)
theorem j_ifnonnull (E : EE p s m args c cc nL Ts own D cy) {x : Nat} {off : Int} {tgt : Nat} (hd : decode cc pc = .ok (.ifnonnull off, 3)) (ht : (pc : Int) + off = (tgt : Int)) (k : JJ p l e R s m args below meth c cells slots Q D ad cy A nL h lv tgt st) : JJ p l e R s m args below meth c cells slots Q D ad cy A nL h lv pc (.ref x :: st) := fun H locs ls w q => lv_ifnonnull E.1.1 E.1.2.1 hd ht (k H locs ls w q)
theorem j_ifnonnullN (E : EE p s m args c cc nL Ts own D cy) {off : Int} (hd : decode cc pc = .ok (.ifnonnull off, 3)) (k : JJ p l e R s m args below meth c cells slots Q D ad cy A nL h lv (pc + 3) st) : JJ p l e R s m args below meth c cells slots Q D ad cy A nL h lv pc (.null :: st) := fun H locs ls w q => lv_ifnonnullN E.1.1 E.1.2.1 hd (k H locs ls w q)
theorem j_tabIn (E : EE p s m args c cc nL Ts own D cy) {dflt lo hi : Int} {offs : Array Int} {len : Nat} {x : Int32} {off : Int} {tgt : Nat} (hd : decode cc pc = .ok (.tableswitch dflt lo hi offs, len)) (h1 : ¬ x.toInt < lo) (h2 : ¬ hi < x.toInt) (ho : offs[(x.toInt - lo).toNat]? = some off) (ht : (pc : Int) + off = (tgt : Int)) (k : JJ p l e R s m args below meth c cells slots Q D ad cy A nL h lv tgt st) : JJ p l e R s m args below meth c cells slots Q D ad cy A nL h lv pc (.int x :: st) := fun H locs ls w q => lv_tableIn E.1.1 E.1.2.1 hd h1 h2 ho ht (k H locs ls w q)
theorem j_tabOut (E : EE p s m args c cc nL Ts own D cy) {dflt lo hi : Int} {offs : Array Int} {len : Nat} {x : Int32} {tgt : Nat} (hd : decode cc pc = .ok (.tableswitch dflt lo hi offs, len)) (h1 : x.toInt < lo ∨ hi < x.toInt) (ht : (pc : Int) + dflt = (tgt : Int)) (k : JJ p l e R s m args below meth c cells slots Q D ad cy A nL h lv tgt st) : JJ p l e R s m args below meth c cells slots Q D ad cy A nL h lv pc (.int x :: st) := fun H locs ls w q => lv_tableOut E.1.1 E.1.2.1 hd h1 ht (k H locs ls w q)
theorem j_look (E : EE p s m args c cc nL Ts own D cy) {dflt : Int} {ps : Array (Int × Int)} {len : Nat} {x : Int32} {off : Int} {tgt : Nat} (hd : decode cc pc = .ok (.lookupswitch dflt ps, len)) (hp : (ps.toList.zip (ps.toList.drop 1)).all (fun (a, next) => a.1 < next.1) = true) (ho : Op.lookupswitch.offset ps.toList dflt x.toInt = off) (ht : (pc : Int) + off = (tgt : Int)) (k : JJ p l e R s m args below meth c cells slots Q D ad cy A nL h lv tgt st) : JJ p l e R s m args below meth c cells slots Q D ad cy A nL h lv pc (.int x :: st) := fun H locs ls w q => lv_lookup E.1.1 E.1.2.1 hd hp ho ht (k H locs ls w q)
theorem j_getV (E : EE p s m args c cc nL Ts own D cy) {C : String} {T : u_T} {N ci index a k0 : Nat} (hin : ∀ w ∈ u_ws C T N, w ∈ Ts) (hc : vwCl[ci]? = some (C, T, N)) (hk : k0 < N) (hm : Cond.fieldLink own index (T k0).1 (T k0).2.1 (T k0).2.2.1 ∈ Ts) {v : Value} (hv : gf ci h a k0 = some v) (hd : decode cc pc = .ok (.getfield index, 3)) (k : JJ p l e R s m args below meth c cells slots Q D ad cy A nL h lv (pc + 3) (cnV ad v :: st)) : JJ p l e R s m args below meth c cells slots Q D ad cy A nL h lv pc (.ref (ad a) :: st) := by
  intro H locs ls w q
  obtain ⟨ha, fs, h1, h2⟩ := gf_spec hv
  exact va_get (D := D) (v := cnV ad v) E.1.1 E.1.2.1 E.1.2.2.2.2 hin E.1.2.2.2.1 E.2.1 w.1 a (fs := fs.map (cnV ad)) (wl_at ha h1) hc k0 hk (E.1.2.2.2.2 _ hm) (fun _ h9 => h9) (by rw [List.getElem?_map, h2]; rfl) hd (k H locs ls w q)
theorem j_getI (E : EE p s m args c cc nL Ts own D cy) {C : String} {T : u_T} {N ci index a k0 : Nat} (hin : ∀ w ∈ u_ws C T N, w ∈ Ts) (hc : vwCl[ci]? = some (C, T, N)) (hk : k0 < N) (hm : Cond.fieldLink own index (T k0).1 (T k0).2.1 (T k0).2.2.1 ∈ Ts) {x : Int32} (hv : gI ci h a k0 = some x) (hd : decode cc pc = .ok (.getfield index, 3)) (k : JJ p l e R s m args below meth c cells slots Q D ad cy A nL h lv (pc + 3) (.int x :: st)) : JJ p l e R s m args below meth c cells slots Q D ad cy A nL h lv pc (.ref (ad a) :: st) := j_getV E hin hc hk hm (gI_spec hv) hd k
theorem j_getR (E : EE p s m args c cc nL Ts own D cy) {C : String} {T : u_T} {N ci index a k0 : Nat} (hin : ∀ w ∈ u_ws C T N, w ∈ Ts) (hc : vwCl[ci]? = some (C, T, N)) (hk : k0 < N) (hm : Cond.fieldLink own index (T k0).1 (T k0).2.1 (T k0).2.2.1 ∈ Ts) {b : Nat} (hv : gR ci h a k0 = some b) (hd : decode cc pc = .ok (.getfield index, 3)) (k : JJ p l e R s m args below meth c cells slots Q D ad cy A nL h lv (pc + 3) (.ref (ad b) :: st)) : JJ p l e R s m args below meth c cells slots Q D ad cy A nL h lv pc (.ref (ad a) :: st) := j_getV E hin hc hk hm (gR_spec hv) hd k
theorem j_putV (E : EE p s m args c cc nL Ts own D cy) {C : String} {T : u_T} {N ci index a k0 : Nat} (hin : ∀ w ∈ u_ws C T N, w ∈ Ts) (hc : vwCl[ci]? = some (C, T, N)) (hk : k0 < N) (hm : Cond.fieldLink own index (T k0).1 (T k0).2.1 (T k0).2.2.1 ∈ Ts) (ty0 : Nat → FieldType) (hty : ∀ k, k < N → parseFieldDescriptor (T k).2.2.1 = some (ty0 k)) (hnm : ∀ a, a < N → ∀ b, b < N → a ≠ b → (T a).2.1 ≠ (T b).2.1) (hfin : (T k0).2.2.2 = false) {v : Value} {h' : HP} {ty : FieldType} (hdd : parseFieldDescriptor (T k0).2.2.1 = some ty) (hn : narrow ty (cnV ad v) = cnV ad v) (hfit : fits ty (cnV ad v) = true) (hv : pV ci h a k0 v = some h') (hd : decode cc pc = .ok (.putfield index, 3)) (k : JJ p l e R s m args below meth c cells slots Q D ad cy A nL h' lv (pc + 3) st) : JJ p l e R s m args below meth c cells slots Q D ad cy A nL h lv pc (cnV ad v :: .ref (ad a) :: st) := by
  intro H locs ls w q
  obtain ⟨ha, fs, h1, h2, rfl⟩ := pV_spec hv
  refine va_put (D := D) (v := cnV ad v) E.1.1 E.1.2.1 E.1.2.2.2.2 hin ty0 hty hnm E.1.2.2.2.1 E.2.1 w.1 w.2.1 w.2.2 a (fs := fs.map (cnV ad)) (wl_at ha h1) hc k0 hk (E.1.2.2.2.2 _ hm) (fun _ h9 => h9) hfin hdd hn hfit (by rw [List.length_map]; exact h2) hd (fun H1 locs1 hP hD hS => ?_)
  have e : (wl ad cy h).set a (ad a, .inr (ci, (fs.map (cnV ad)).set k0 (cnV ad v))) = wl ad cy (va_up h a (.inl (ci, fs.set k0 v))) := by
    rw [← wl_set ha]
    simp only [cnE, List.map_set]
  rw [e] at hP hD
  exact k H1 locs1 ls ⟨hP, hD, hS⟩ q
theorem j_putI (E : EE p s m args c cc nL Ts own D cy) {C : String} {T : u_T} {N ci index a k0 : Nat} (hin : ∀ w ∈ u_ws C T N, w ∈ Ts) (hc : vwCl[ci]? = some (C, T, N)) (hk : k0 < N) (hm : Cond.fieldLink own index (T k0).1 (T k0).2.1 (T k0).2.2.1 ∈ Ts) (ty0 : Nat → FieldType) (hty : ∀ k, k < N → parseFieldDescriptor (T k).2.2.1 = some (ty0 k)) (hnm : ∀ a, a < N → ∀ b, b < N → a ≠ b → (T a).2.1 ≠ (T b).2.1) (hfin : (T k0).2.2.2 = false) {x : Int32} {h' : HP} (hdd : parseFieldDescriptor (T k0).2.2.1 = some .int) (hv : pI ci h a k0 x = some h') (hd : decode cc pc = .ok (.putfield index, 3)) (k : JJ p l e R s m args below meth c cells slots Q D ad cy A nL h' lv (pc + 3) st) : JJ p l e R s m args below meth c cells slots Q D ad cy A nL h lv pc (.int x :: .ref (ad a) :: st) := j_putV (v := .int x) E hin hc hk hm ty0 hty hnm hfin hdd rfl rfl hv hd k
theorem j_putR (E : EE p s m args c cc nL Ts own D cy) {C : String} {T : u_T} {N ci index a k0 : Nat} (hin : ∀ w ∈ u_ws C T N, w ∈ Ts) (hc : vwCl[ci]? = some (C, T, N)) (hk : k0 < N) (hm : Cond.fieldLink own index (T k0).1 (T k0).2.1 (T k0).2.2.1 ∈ Ts) (ty0 : Nat → FieldType) (hty : ∀ k, k < N → parseFieldDescriptor (T k).2.2.1 = some (ty0 k)) (hnm : ∀ a, a < N → ∀ b, b < N → a ≠ b → (T a).2.1 ≠ (T b).2.1) (hfin : (T k0).2.2.2 = false) {b : Nat} {h' : HP} {ty : FieldType} (hdd : parseFieldDescriptor (T k0).2.2.1 = some ty) (hrt : (∃ n, ty = .object n) ∨ ∃ t, ty = .array t) (hv : pR ci h a k0 (some b) = some h') (hd : decode cc pc = .ok (.putfield index, 3)) (k : JJ p l e R s m args below meth c cells slots Q D ad cy A nL h' lv (pc + 3) st) : JJ p l e R s m args below meth c cells slots Q D ad cy A nL h lv pc (.ref (ad b) :: .ref (ad a) :: st) := j_putV (v := .ref b) E hin hc hk hm ty0 hty hnm hfin hdd (by rcases hrt with ⟨n, rfl⟩ | ⟨t, rfl⟩ <;> rfl) (by rcases hrt with ⟨n, rfl⟩ | ⟨t, rfl⟩ <;> rfl) hv hd k
theorem j_putN (E : EE p s m args c cc nL Ts own D cy) {C : String} {T : u_T} {N ci index a k0 : Nat} (hin : ∀ w ∈ u_ws C T N, w ∈ Ts) (hc : vwCl[ci]? = some (C, T, N)) (hk : k0 < N) (hm : Cond.fieldLink own index (T k0).1 (T k0).2.1 (T k0).2.2.1 ∈ Ts) (ty0 : Nat → FieldType) (hty : ∀ k, k < N → parseFieldDescriptor (T k).2.2.1 = some (ty0 k)) (hnm : ∀ a, a < N → ∀ b, b < N → a ≠ b → (T a).2.1 ≠ (T b).2.1) (hfin : (T k0).2.2.2 = false) {h' : HP} {ty : FieldType} (hdd : parseFieldDescriptor (T k0).2.2.1 = some ty) (hrt : (∃ n, ty = .object n) ∨ ∃ t, ty = .array t) (hv : pR ci h a k0 none = some h') (hd : decode cc pc = .ok (.putfield index, 3)) (k : JJ p l e R s m args below meth c cells slots Q D ad cy A nL h' lv (pc + 3) st) : JJ p l e R s m args below meth c cells slots Q D ad cy A nL h lv pc (.null :: .ref (ad a) :: st) := j_putV (v := .null) E hin hc hk hm ty0 hty hnm hfin hdd (by rcases hrt with ⟨n, rfl⟩ | ⟨t, rfl⟩ <;> rfl) (by rcases hrt with ⟨n, rfl⟩ | ⟨t, rfl⟩ <;> rfl) hv hd k
theorem j_aI (E : EE p s m args c cc nL Ts own D cy) {a : Nat} {i : Int32} {x : Int32} (hv : aI h a i = some x) (hd : decode cc pc = .ok (.iaload, 1)) (k : JJ p l e R s m args below meth c cells slots Q D ad cy A nL h lv (pc + 1) (.int x :: st)) : JJ p l e R s m args below meth c cells slots Q D ad cy A nL h lv pc (.int i :: .ref (ad a) :: st) := by
  intro H locs ls w q
  obtain ⟨ha, n, f, h1, h2, rfl⟩ := aI_spec hv
  exact va_iald (D := D) E.1.1 E.1.2.1 E.2.1 w.1 a 0 (wl_at ha h1) rfl h2 hd (k H locs ls w q)
theorem j_aJ (E : EE p s m args c cc nL Ts own D cy) {a : Nat} {i : Int32} {x : Int64} (hv : aJ h a i = some x) (hd : decode cc pc = .ok (.laload, 1)) (k : JJ p l e R s m args below meth c cells slots Q D ad cy A nL h lv (pc + 1) (.long x :: st)) : JJ p l e R s m args below meth c cells slots Q D ad cy A nL h lv pc (.int i :: .ref (ad a) :: st) := by
  intro H locs ls w q
  obtain ⟨ha, n, f, h1, h2, rfl⟩ := aJ_spec hv
  exact va_lald (D := D) E.1.1 E.1.2.1 E.2.1 w.1 a 1 (wl_at ha h1) rfl h2 hd (k H locs ls w q)
theorem j_aZ (E : EE p s m args c cc nL Ts own D cy) {a : Nat} {i : Int32} {x : Int32} (hv : aZ h a i = some x) (hd : decode cc pc = .ok (.baload, 1)) (k : JJ p l e R s m args below meth c cells slots Q D ad cy A nL h lv (pc + 1) (.int x :: st)) : JJ p l e R s m args below meth c cells slots Q D ad cy A nL h lv pc (.int i :: .ref (ad a) :: st) := by
  intro H locs ls w q
  obtain ⟨ha, n, f, h1, h2, rfl⟩ := aZ_spec hv
  exact va_zald (D := D) E.1.1 E.1.2.1 E.2.1 w.1 a 2 (wl_at ha h1) rfl h2 hd (k H locs ls w q)
theorem j_aG (E : EE p s m args c cc nL Ts own D cy) {a : Nat} {i : Int32} {x : Option Nat} (hv : aG h a i = some x) (hd : decode cc pc = .ok (.aaload, 1)) (k : JJ p l e R s m args below meth c cells slots Q D ad cy A nL h lv (pc + 1) (va_rf (x.map ad) :: st)) : JJ p l e R s m args below meth c cells slots Q D ad cy A nL h lv pc (.int i :: .ref (ad a) :: st) := by
  intro H locs ls w q
  obtain ⟨ha, n, f, h1, h2, rfl⟩ := aG_spec hv
  exact va_aldq (D := D) E.1.1 E.1.2.1 E.2.1 w.1 a 3 (wl_at ha h1) rfl h2 hd (k H locs ls w q)
theorem j_sI (E : EE p s m args c cc nL Ts own D cy) {a : Nat} {i : Int32} {x : Int32} {h' : HP} (hv : sI h a i x = some h') (hd : decode cc pc = .ok (.iastore, 1)) (k : JJ p l e R s m args below meth c cells slots Q D ad cy A nL h' lv (pc + 1) st) : JJ p l e R s m args below meth c cells slots Q D ad cy A nL h lv pc (.int x :: .int i :: .ref (ad a) :: st) := by
  intro H locs ls w q
  obtain ⟨ha, n, f, h1, h2, rfl⟩ := sI_spec hv
  refine va_iast (D := D) E.1.1 E.1.2.1 E.2.1 w.1 w.2.1 w.2.2 a 0 (wl_at ha h1) rfl h2 hd (fun H1 locs1 hP hD hS => ?_)
  exact k H1 locs1 ls ⟨by rw [← wl_set ha]; exact hP, by rw [← wl_set ha]; exact hD, hS⟩ q
theorem j_sJ (E : EE p s m args c cc nL Ts own D cy) {a : Nat} {i : Int32} {x : Int64} {h' : HP} (hv : sJ h a i x = some h') (hd : decode cc pc = .ok (.lastore, 1)) (k : JJ p l e R s m args below meth c cells slots Q D ad cy A nL h' lv (pc + 1) st) : JJ p l e R s m args below meth c cells slots Q D ad cy A nL h lv pc (.long x :: .int i :: .ref (ad a) :: st) := by
  intro H locs ls w q
  obtain ⟨ha, n, f, h1, h2, rfl⟩ := sJ_spec hv
  refine va_last (D := D) E.1.1 E.1.2.1 E.2.1 w.1 w.2.1 w.2.2 a 1 (wl_at ha h1) rfl h2 hd (fun H1 locs1 hP hD hS => ?_)
  exact k H1 locs1 ls ⟨by rw [← wl_set ha]; exact hP, by rw [← wl_set ha]; exact hD, hS⟩ q
theorem j_sZ (E : EE p s m args c cc nL Ts own D cy) {a : Nat} {i : Int32} {x : Int32} {h' : HP} (hv : sZ h a i x = some h') (hd : decode cc pc = .ok (.bastore, 1)) (k : JJ p l e R s m args below meth c cells slots Q D ad cy A nL h' lv (pc + 1) st) : JJ p l e R s m args below meth c cells slots Q D ad cy A nL h lv pc (.int x :: .int i :: .ref (ad a) :: st) := by
  intro H locs ls w q
  obtain ⟨ha, n, f, h1, h2, rfl⟩ := sZ_spec hv
  refine va_zast (D := D) E.1.1 E.1.2.1 E.2.1 w.1 w.2.1 w.2.2 a 2 (wl_at ha h1) rfl h2 hd (fun H1 locs1 hP hD hS => ?_)
  exact k H1 locs1 ls ⟨by rw [← wl_set ha]; exact hP, by rw [← wl_set ha]; exact hD, hS⟩ q
end ROWS
end
section
section CALLS
variable {p : Program} {l : Launch} {e : Env} {R : Room} {s : State} {m : MethodId} {args : Array Value} {below : List Frame} {meth : Method} {c : Code} {cells slots : Nat} {Q : State → Prop} {D : va_G} {ad : Nat → Nat} {cy : Nat → ClassId} {A : Nat → Prop} {nL : Nat} {h h' : HP} {lv : List (Nat × Value)} {pc : Nat} {st : List Value} {cc : ByteArray} {Ts : List Cond} {own : String}
theorem j_sG (E : EE p s m args c cc nL Ts own D cy) {a b : Nat} {i : Int32} (hv : sG h a i b = some h') (hd : decode cc pc = .ok (.aastore, 1)) (k : JJ p l e R s m args below meth c cells slots Q D ad cy A nL h' lv (pc + 1) st) : JJ p l e R s m args below meth c cells slots Q D ad cy A nL h lv pc (.ref (ad b) :: .int i :: .ref (ad a) :: st) := by
  intro H locs ls w q
  obtain ⟨ha, ho, n, f, h1, h2, rfl⟩ := sG_spec hv
  obtain ⟨hb, fs, h3⟩ := iO_spec ho
  refine va_astq (D := D) (r := (RX2, TX2, 4)) E.1.1 E.1.2.1 E.2.1 w.1 w.2.1 w.2.2 a 3 b 1 (wl_at ha h1) rfl (wl_at hb h3) rfl h2 hd (fun H1 locs1 hP hD hS => ?_)
  have e : (wl ad cy h).set a (ad a, .inl (cy 3, n, .inr (.inr (.inr (.inr (va_up (fun j => (f j).map ad) i.toNatClampNeg (some (ad b)))))))) = wl ad cy (va_up h a (.inr (n, .inr (.inr (.inr (va_up f i.toNatClampNeg (some b))))))) := by
    rw [← wl_set ha]
    have e2 : (fun j => (va_up f i.toNatClampNeg (some b) j).map ad) = va_up (fun j => (f j).map ad) i.toNatClampNeg (some (ad b)) := by
      funext j
      by_cases hj : j = i.toNatClampNeg
      · subst hj; simp [va_up]
      · simp [va_up, hj]
    simp only [cnE, e2]
  rw [e] at hP hD
  exact k H1 locs1 ls ⟨hP, hD, hS⟩ q
theorem j_cpI (E : EE p s m args c cc nL Ts own D cy) {a b index : Nat} {sp dp n : Int32} (hlink : Cond.methodLink own index arraycopyName ∈ Ts) (hnat : Cond.native arraycopyName ∈ Ts) (hstat : Cond.static arraycopyName ∈ Ts) (hini : Cond.initialized "java/lang/System" ∈ Ts) (hfr : 1 ≤ R.frames) (hlo : (st.map fun v => v.category).sum + (nativeFrameWords "java/lang/System" "arraycopy" 5 + 11) ≤ R.locals) (hv : cpI h a sp b dp n = some h') (hd : decode cc pc = .ok (.invokestatic index, 3)) (k : JJ p l e R s m args below meth c cells slots Q D ad cy A nL h' lv (pc + 3) st) : JJ p l e R s m args below meth c cells slots Q D ad cy A nL h lv pc (.int n :: .int dp :: .ref (ad b) :: .int sp :: .ref (ad a) :: st) := by
  intro H locs ls w q
  obtain ⟨ha, hb, n0, f, n1, g, h1, h2, g1, g2, g3, g4, g5, rfl⟩ := cpI_spec hv
  refine va_copyi (D := D) E.1.1 E.1.2.1 (E.1.2.2.1.trans q.1.symm) E.1.2.2.2.1 (E.1.2.2.2.2 _ hlink) (E.1.2.2.2.2 _ hnat) (E.1.2.2.2.2 _ hstat) (E.1.2.2.2.2 _ hini) E.2.1 w.1 w.2.1 w.2.2 a b 0 0 (wl_at ha h1) (wl_at hb h2) rfl rfl rfl g1 g2 g3 g4 g5 (fun _ _ => rfl) hfr hlo hd (fun H1 locs1 hP hD hS => ?_)
  exact k H1 locs1 ls ⟨by rw [← wl_set hb]; exact hP, by rw [← wl_set hb]; exact hD, hS⟩ q
theorem j_cpJ (E : EE p s m args c cc nL Ts own D cy) {a b index : Nat} {sp dp n : Int32} (hlink : Cond.methodLink own index arraycopyName ∈ Ts) (hnat : Cond.native arraycopyName ∈ Ts) (hstat : Cond.static arraycopyName ∈ Ts) (hini : Cond.initialized "java/lang/System" ∈ Ts) (hfr : 1 ≤ R.frames) (hlo : (st.map fun v => v.category).sum + (nativeFrameWords "java/lang/System" "arraycopy" 5 + 11) ≤ R.locals) (hv : cpJ h a sp b dp n = some h') (hd : decode cc pc = .ok (.invokestatic index, 3)) (k : JJ p l e R s m args below meth c cells slots Q D ad cy A nL h' lv (pc + 3) st) : JJ p l e R s m args below meth c cells slots Q D ad cy A nL h lv pc (.int n :: .int dp :: .ref (ad b) :: .int sp :: .ref (ad a) :: st) := by
  intro H locs ls w q
  obtain ⟨ha, hb, n0, f, n1, g, h1, h2, g1, g2, g3, g4, g5, rfl⟩ := cpJ_spec hv
  refine va_copyl (D := D) E.1.1 E.1.2.1 (E.1.2.2.1.trans q.1.symm) E.1.2.2.2.1 (E.1.2.2.2.2 _ hlink) (E.1.2.2.2.2 _ hnat) (E.1.2.2.2.2 _ hstat) (E.1.2.2.2.2 _ hini) E.2.1 w.1 w.2.1 w.2.2 a b 1 1 (wl_at ha h1) (wl_at hb h2) rfl rfl rfl g1 g2 g3 g4 g5 (fun _ _ => rfl) hfr hlo hd (fun H1 locs1 hP hD hS => ?_)
  exact k H1 locs1 ls ⟨by rw [← wl_set hb]; exact hP, by rw [← wl_set hb]; exact hD, hS⟩ q
theorem j_run {v : Option Value} {st0 rest : List Value} {a : Array Value} (run : ∀ (H : Heap) (locs : List Loc) (ls : Array Slot), Wd D ad cy A s.heap H locs h → lv_has ls nL lv → va_Run p l e R s m args below meth c H locs cells slots 0 0 (F0 m pc ls st0) rest (QV D ad cy v h' a) (Aw ad)) (k : JJ p l e R s m args below meth c cells slots Q D ad cy A nL h' lv (pc + 3) (v.toList ++ rest)) : JJ p l e R s m args below meth c cells slots Q D ad cy A nL h lv pc st0 := by
  intro H locs ls w q T hT X
  obtain ⟨v', st₀, t, T', L, h0, X', hL, e1, e2, ⟨hv, hPW, hF⟩, st⟩ := run H locs ls w q T hT X
  cases hv
  have hA := w.A
  obtain ⟨hz, hk⟩ := hF
  rw [h0] at hz hk
  have hS := w.2.2
  obtain ⟨t2, a1, b1⟩ := k T'.heap (locs ++ L) ls ⟨by rw [e1]; exact hPW.1, hPW.2.2.1.weaken (fun _ q _ z => hA q.1 z), Nat.le_trans hS.1 (by rw [e1]; exact hz), fun q h1 h2 => by rw [e1, hk q (Nat.lt_of_lt_of_le h1 hS.1) (fun z => h2 (hA q z))]; exact hS.2.1 q h1 h2, fun q hq => by
      rcases List.mem_append.mp hq with h | h
      · exact hS.2.2 q h
      · exact hA _ (hL q h)⟩ q T' rfl X'
  exact ⟨t2, st t2 a1, b1⟩
theorem j_callV (E : EE p s m args c cc nL Ts own D cy) {y : MethodName} {ws : List Cond} {rm : Room} {bytes : ByteArray} {maxL n index : Nat} {ret : Option FieldType} {As rest st0 : List Value} {v : Option Value} {C : String} {T : u_T} {N ci b : Nat} (hM : Met l y ws rm (va_Pc (.ref (ad b) :: As) (PW D ad cy h)) (QV D ad cy v h') 0 0 (Aw ad)) (cw : CallW R s args own C index y bytes maxL ret ws rm 0 0 n) (hc : vwCl[ci]? = some (C, T, N)) (hb : iO ci h b = true) (hn : As.length = n) (hst : st0 = As.reverse ++ .ref (ad b) :: rest) (hW : (rest.map fun v => v.category).sum ≤ 8) (hd : decode cc pc = .ok (.invokevirtual index, 3)) (hf : cells ≤ R.cells ∧ slots ≤ R.slots) (k : JJ p l e R s m args below meth c cells slots Q D ad cy A nL h' lv (pc + 3) (v.toList ++ rest)) : JJ p l e R s m args below meth c cells slots Q D ad cy A nL h lv pc st0 := by
  obtain ⟨hb1, fs, hb2⟩ := iO_spec hb
  exact j_run (a := (Value.ref (ad b) :: As).toArray) (fun H locs ls w q => va_runV E.1 hM cw ⟨PW.blind, va_recv E.2.1 w.1 hc (wl_at hb1 hb2), fun U hU hW => ⟨rfl, w.PW E.2.1 E.2.2 hU hW⟩⟩ rfl hn q.1 hst (lv_room hW) hd hf) k
theorem j_callS (E : EE p s m args c cc nL Ts own D cy) {y : MethodName} {ws : List Cond} {rm : Room} {bytes : ByteArray} {maxL n index : Nat} {ret : Option FieldType} {As rest st0 : List Value} {v : Option Value} (hM : Met l y ws rm (va_Pc As (PW D ad cy h)) (QV D ad cy v h') 0 0 (Aw ad)) (cw : CallB R s args own index y bytes maxL ret ws rm 0 0 n ∧ (Cond.static y).before args s = true) (hn : As.length = n) (hst : st0 = As.reverse ++ rest) (hW : (rest.map fun v => v.category).sum ≤ 8) (hd : decode cc pc = .ok (.invokestatic index, 3)) (hf : cells ≤ R.cells ∧ slots ≤ R.slots) (k : JJ p l e R s m args below meth c cells slots Q D ad cy A nL h' lv (pc + 3) (v.toList ++ rest)) : JJ p l e R s m args below meth c cells slots Q D ad cy A nL h lv pc st0 :=
  j_run (a := As.toArray) (fun H locs ls w q => va_runS E.1 hM cw ⟨PW.blind, fun U hU hW => ⟨rfl, w.PW E.2.1 E.2.2 hU hW⟩⟩ rfl hn q.1 hst (lv_room hW) hd hf) k
theorem j_callSN (E : EE p s m args c cc nL Ts own D cy) {y : MethodName} {ws : List Cond} {rm : Room} {bytes : ByteArray} {maxL n index : Nat} {ret : Option FieldType} {As rest st0 : List Value} {v : Option Value} {host : String} (hM : Met l y ws rm (va_Pc As (PW D ad cy h)) (QV D ad cy v h') 0 0 (Aw ad)) (cw : va_CN R s args own index y host bytes maxL ret ws rm 0 0 n ∧ (Cond.static y).before args s = true ∧ True) (hn : As.length = n) (hst : st0 = As.reverse ++ rest) (hW : (rest.map fun v => v.category).sum ≤ 8) (hd : decode cc pc = .ok (.invokestatic index, 3)) (hf : cells ≤ R.cells ∧ slots ≤ R.slots) (k : JJ p l e R s m args below meth c cells slots Q D ad cy A nL h' lv (pc + 3) (v.toList ++ rest)) : JJ p l e R s m args below meth c cells slots Q D ad cy A nL h lv pc st0 :=
  j_run (a := As.toArray) (fun H locs ls w q => va_runSN E.1 hM cw ⟨PW.blind, fun U hU hW => ⟨rfl, w.PW E.2.1 E.2.2 hU hW⟩⟩ rfl hn q.1 hst (lv_room hW) hd hf) k
/-- words: a method's own code, and all that the tables say -/
abbrev wsM (y : MethodName) (cc : ByteArray) (n : Nat) (ret : Option FieldType) : List Cond := Cond.code y cc n ret :: wsU
theorem good_wsM {y y2 : MethodName} {cc cc2 : ByteArray} {n n2 : Nat} {ret ret2 : Option FieldType} (hc : Cond.code y2 cc2 n2 ret2 ∈ wsU) : GoodIn (wsM y cc n ret) (wsM y2 cc2 n2 ret2) := by
  intro w hw
  rcases List.mem_cons.mp hw with rfl | h
  · exact ⟨List.mem_cons_of_mem _ hc, wsU_good _ hc⟩
  · exact ⟨List.mem_cons_of_mem _ h, wsU_good _ h⟩
theorem mcw {y2 : MethodName} {cc2 : ByteArray} {n2 mc ms maxL n index : Nat} {ret2 ret : Option FieldType} {own2 C : String} {y : MethodName} {bytes : ByteArray} {rm : Room} (E : ∀ w ∈ wsM y2 cc2 n2 ret2, w.before args s = true) (hcode : Cond.code y bytes maxL ret ∈ wsU) (hl : Cond.methodLink own2 index y ∈ wsU) (hi : Cond.instanceMethod y ∈ wsU) (hs : Cond.selects C y y ∈ wsU) (hin : Cond.initialized C ∈ wsU) (hrc : rm.cells = mc) (hrs : rm.slots = ms)
    (hd : y.cls = C ∧ y.cls ≠ "java/lang/invoke/MethodHandle" ∧ y.cls ≠ "java/lang/invoke/VarHandle" ∧ (parseMethodDescriptor y.desc).map (fun d => d.parameters.length) = some n) (hR : rm.frames + 1 ≤ R.frames ∧ 8 + (maxL + 11) + rm.locals ≤ R.locals) : CallW R s args own2 C index y bytes maxL ret (wsM y bytes maxL ret) rm mc ms n :=
  have t : ∀ w ∈ wsU, w.before args s = true := fun w h => E w (List.mem_cons_of_mem _ h)
  ⟨callB_of n E (good_wsM hcode) rfl hrc hrs (by rw [hd.1]; exact t _ hin) (t _ hl) hd.2 hR, t _ hi, t _ hs⟩
theorem mcs {y2 : MethodName} {cc2 : ByteArray} {n2 mc ms maxL n index : Nat} {ret2 ret : Option FieldType} {own2 C : String} {y : MethodName} {bytes : ByteArray} {rm : Room} (E : ∀ w ∈ wsM y2 cc2 n2 ret2, w.before args s = true) (hcode : Cond.code y bytes maxL ret ∈ wsU) (hl : Cond.methodLink own2 index y ∈ wsU) (hi : Cond.static y ∈ wsU) (hin : Cond.initialized C ∈ wsU) (hrc : rm.cells = mc) (hrs : rm.slots = ms)
    (hd : y.cls = C ∧ y.cls ≠ "java/lang/invoke/MethodHandle" ∧ y.cls ≠ "java/lang/invoke/VarHandle" ∧ (parseMethodDescriptor y.desc).map (fun d => d.parameters.length) = some n) (hR : rm.frames + 1 ≤ R.frames ∧ 8 + (maxL + 11) + rm.locals ≤ R.locals) : CallB R s args own2 index y bytes maxL ret (wsM y bytes maxL ret) rm mc ms n ∧ (Cond.static y).before args s = true :=
  have t : ∀ w ∈ wsU, w.before args s = true := fun w h => E w (List.mem_cons_of_mem _ h)
  ⟨callB_of n E (good_wsM hcode) rfl hrc hrs (by rw [hd.1]; exact t _ hin) (t _ hl) hd.2 hR, t _ hi⟩
theorem mcn {y2 : MethodName} {cc2 : ByteArray} {n2 mc ms maxL n index : Nat} {ret2 ret : Option FieldType} {own2 C host : String} {y : MethodName} {bytes : ByteArray} {rm : Room} (E : ∀ w ∈ wsM y2 cc2 n2 ret2, w.before args s = true) (hN : NW s) (k0 : Nat) (hk : nestl[k0]? = some (own2, index, y, host)) (hcode : Cond.code y bytes maxL ret ∈ wsU) (hi : Cond.static y ∈ wsU) (hin : Cond.initialized C ∈ wsU) (hrc : rm.cells = mc) (hrs : rm.slots = ms)
    (hd : y.cls = C ∧ y.cls ≠ "java/lang/invoke/MethodHandle" ∧ y.cls ≠ "java/lang/invoke/VarHandle" ∧ (parseMethodDescriptor y.desc).map (fun d => d.parameters.length) = some n) (hR : rm.frames + 1 ≤ R.frames ∧ 8 + (maxL + 11) + rm.locals ≤ R.locals) : va_CN R s args own2 index y host bytes maxL ret (wsM y bytes maxL ret) rm mc ms n ∧ (Cond.static y).before args s = true ∧ True :=
  have t : ∀ w ∈ wsU, w.before args s = true := fun w h => E w (List.mem_cons_of_mem _ h)
  ⟨va_cnB n E (good_wsM hcode) rfl hrc hrs (hN k0 _ hk) (by rw [hd.1]; exact t _ hin) hd.2 hR, t _ hi, trivial⟩
theorem met_of {y : MethodName} {maxL : Nat} {ret : Option FieldType} {rm : Room} {av : List Value} {v : Option Value} (hy : plainName y.cls = true) (ho : y.cls = own) (hlen : (lg_sl av).length ≤ maxL) (hlv : lv_args 0 av = lv)
    (body : ∀ (p : Program) (e : Env) (s : State) (m : MethodId) (args : Array Value) (below : List Frame) (meth : Method) (c : Code), EE p s m args c cc maxL (wsM y cc maxL ret) own D cy → meth.sig.returnType = ret → meth.locks = false → JJ p l e rm s m args below meth c 0 0 (MQ below (QV D ad cy v h') args s 0 0 (Aw ad)) D ad cy (Aw ad) maxL h lv 0 []) :
    Met l y (wsM y cc maxL ret) rm (va_Pc av (PW D ad cy h)) (QV D ad cy v h') 0 0 (Aw ad) := by
  subst ho
  subst hlv
  refine Met.ofW (cc := cc) (maxL := maxL) (ret := ret) hy rfl ?_
  intro p e s m args below meth c s₁ B hml hv
  obtain ⟨rfl, hP, hK, hD, hN⟩ := hv
  have hl := lv_entry av (n := maxL) hlen
  rw [lg_entry_eq]
  exact body p e s m _ below meth c ⟨⟨B.exec, B.bytes, hml, findClass_of_methodNamed B.named, atoms_spec (ws := wsM y cc maxL ret) B.pre⟩, hK, hN⟩ B.returns B.notSynchronized s.heap [] _ ⟨hP, hD, va_S.rf⟩ hl
end CALLS
section RETS
variable {p : Program} {l : Launch} {e : Env} {R : Room} {s : State} {m : MethodId} {args : Array Value} {below : List Frame} {meth : Method} {c : Code} {D : va_G} {ad : Nat → Nat} {cy : Nat → ClassId} {nL : Nat} {h h' : HP} {lv : List (Nat × Value)} {pc : Nat} {cc : ByteArray} {Ts : List Cond} {own : String}
theorem j_iret (E : EE p s m args c cc nL Ts own D cy) (hr : meth.sig.returnType = some .int) (hlk : meth.locks = false) {x : Int32} (hd : decode cc pc = .ok (.ireturn, 1)) : JJ p l e R s m args below meth c 0 0 (MQ below (QV D ad cy (some (.int x)) h) args s 0 0 (Aw ad)) D ad cy (Aw ad) nL h lv pc [.int x] := fun H locs ls w q => W.iret E.1.1 E.1.2.1 hr (fun t ht hW => ⟨rfl, w.PW E.2.1 E.2.2 ht hW, w.2.2.F ht⟩) w.2.2.2.2 hd hlk
theorem j_lret (E : EE p s m args c cc nL Ts own D cy) (hr : meth.sig.returnType = some .long) (hlk : meth.locks = false) {x : Int64} (hd : decode cc pc = .ok (.lreturn, 1)) : JJ p l e R s m args below meth c 0 0 (MQ below (QV D ad cy (some (.long x)) h) args s 0 0 (Aw ad)) D ad cy (Aw ad) nL h lv pc [.long x] := fun H locs ls w q => W.lret E.1.1 E.1.2.1 hr (fun t ht hW => ⟨rfl, w.PW E.2.1 E.2.2 ht hW, w.2.2.F ht⟩) w.2.2.2.2 hd hlk
theorem j_zret (E : EE p s m args c cc nL Ts own D cy) (hr : meth.sig.returnType = some .boolean) (hlk : meth.locks = false) {x : Int32} (hn : narrow .boolean (.int x) = .int x) (hd : decode cc pc = .ok (.ireturn, 1)) : JJ p l e R s m args below meth c 0 0 (MQ below (QV D ad cy (some (.int x)) h) args s 0 0 (Aw ad)) D ad cy (Aw ad) nL h lv pc [.int x] := fun H locs ls w q => W.zret E.1.1 E.1.2.1 hr hn (fun t ht hW => ⟨rfl, w.PW E.2.1 E.2.2 ht hW, w.2.2.F ht⟩) w.2.2.2.2 hd hlk
theorem j_vret (E : EE p s m args c cc nL Ts own D cy) (hr : meth.sig.returnType = none) (hlk : meth.locks = false) (hd : decode cc pc = .ok (.return_, 1)) : JJ p l e R s m args below meth c 0 0 (MQ below (QV D ad cy none h) args s 0 0 (Aw ad)) D ad cy (Aw ad) nL h lv pc [] := fun H locs ls w q => W.vret E.1.1 E.1.2.1 hr (fun t ht hW => ⟨rfl, w.PW E.2.1 E.2.2 ht hW, w.2.2.F ht⟩) w.2.2.2.2 hd hlk
theorem j_aret (E : EE p s m args c cc nL Ts own D cy) {C : String} (hr : meth.sig.returnType = some (.object C)) (hlk : meth.locks = false) {v : Value} (hv : v = .null ∨ ∃ a, v = .ref a) (hd : decode cc pc = .ok (.areturn, 1)) : JJ p l e R s m args below meth c 0 0 (MQ below (QV D ad cy (some v) h) args s 0 0 (Aw ad)) D ad cy (Aw ad) nL h lv pc [v] := fun H locs ls w q => W.aret E.1.1 E.1.2.1 hr (Or.inl ⟨C, rfl⟩) hv (fun t ht hW => ⟨rfl, w.PW E.2.1 E.2.2 ht hW, w.2.2.F ht⟩) w.2.2.2.2 hd hlk
end RETS
def FU : Nat := 6000
theorem sw_out (x : Int32) (hi : Nat) (hs : hi < 2 ^ 31) (h : ∀ k : Nat, k ≤ hi → ¬ x = nI k) : x.toInt < 0 ∨ (hi : Int) < x.toInt := by
  by_cases h0 : x < 0
  · left
    have := Int32.lt_iff_toInt_lt.mp h0
    simpa using this
  · obtain ⟨j, hj, e⟩ := nI_of h0
    by_cases hk : j ≤ hi
    · exact absurd e (h j hk)
    · right
      rw [e, nI_toInt hj]
      omega
end
