section
-- ===== PART A: goes FIRST, ahead of the names: the tables' words, and 'selects' of the private methods out of them =====
/-- a private method of a class that the tables say can be made, by its rows of tables_1 -/
def lw_okq (q : MethodName × Nat) : Prop := (q.1.cls ≠ "java/lang/invoke/MethodHandle" ∧ q.1.cls ≠ "java/lang/invoke/VarHandle") ∧ Cond.instantiable q.1.cls q.2 ∈ tables_1 ∧ Cond.privateMethod q.1 ∈ tables_1 ∧ Cond.instanceMethod q.1 ∈ tables_1
theorem lw_p0 : lw_okq (⟨"BlockRanks$History", "dropOldest", "()V"⟩, 2) := ⟨⟨by decide +kernel, by decide +kernel⟩, List.mem_of_getElem? (i := 60) (by decide +kernel), List.mem_of_getElem? (i := 183) (by decide +kernel), List.mem_of_getElem? (i := 184) (by decide +kernel)⟩
theorem lw_p1 : lw_okq (⟨"BlockRanks", "leafStart", "(II)I"⟩, 9) := ⟨⟨by decide +kernel, by decide +kernel⟩, List.mem_of_getElem? (i := 12) (by decide +kernel), List.mem_of_getElem? (i := 242) (by decide +kernel), List.mem_of_getElem? (i := 243) (by decide +kernel)⟩
theorem lw_p2 : lw_okq (⟨"BlockRanks$Text", "take", "(I)Z"⟩, 9) := ⟨⟨by decide +kernel, by decide +kernel⟩, List.mem_of_getElem? (i := 77) (by decide +kernel), List.mem_of_getElem? (i := 261) (by decide +kernel), List.mem_of_getElem? (i := 262) (by decide +kernel)⟩
theorem lw_p3 : lw_okq (⟨"BlockRanks$Text", "nextSign", "()I"⟩, 9) := ⟨⟨by decide +kernel, by decide +kernel⟩, List.mem_of_getElem? (i := 77) (by decide +kernel), List.mem_of_getElem? (i := 265) (by decide +kernel), List.mem_of_getElem? (i := 266) (by decide +kernel)⟩
theorem lw_p4 : lw_okq (⟨"BlockRanks$Text", "takeNumber", "()Z"⟩, 9) := ⟨⟨by decide +kernel, by decide +kernel⟩, List.mem_of_getElem? (i := 77) (by decide +kernel), List.mem_of_getElem? (i := 269) (by decide +kernel), List.mem_of_getElem? (i := 270) (by decide +kernel)⟩
theorem lw_p5 : lw_okq (⟨"BlockRanks$Text", "takeDigit", "()I"⟩, 9) := ⟨⟨by decide +kernel, by decide +kernel⟩, List.mem_of_getElem? (i := 77) (by decide +kernel), List.mem_of_getElem? (i := 276) (by decide +kernel), List.mem_of_getElem? (i := 277) (by decide +kernel)⟩
theorem lw_p6 : lw_okq (⟨"BlockRanks$Text", "faultBehind", "()I"⟩, 9) := ⟨⟨by decide +kernel, by decide +kernel⟩, List.mem_of_getElem? (i := 77) (by decide +kernel), List.mem_of_getElem? (i := 280) (by decide +kernel), List.mem_of_getElem? (i := 281) (by decide +kernel)⟩
theorem lw_p7 : lw_okq (⟨"BlockRanks", "addRowsOfText", "(LBlockRanks$Table;II)V"⟩, 9) := ⟨⟨by decide +kernel, by decide +kernel⟩, List.mem_of_getElem? (i := 12) (by decide +kernel), List.mem_of_getElem? (i := 295) (by decide +kernel), List.mem_of_getElem? (i := 296) (by decide +kernel)⟩
theorem lw_p8 : lw_okq (⟨"BlockRanks", "blockRank", "(LBlockRanks$Table;II)I"⟩, 9) := ⟨⟨by decide +kernel, by decide +kernel⟩, List.mem_of_getElem? (i := 12) (by decide +kernel), List.mem_of_getElem? (i := 308) (by decide +kernel), List.mem_of_getElem? (i := 309) (by decide +kernel)⟩
theorem lw_p9 : lw_okq (⟨"BlockRanks$Elimination", "firstRowWith", "(I)I"⟩, 5) := ⟨⟨by decide +kernel, by decide +kernel⟩, List.mem_of_getElem? (i := 116) (by decide +kernel), List.mem_of_getElem? (i := 325) (by decide +kernel), List.mem_of_getElem? (i := 326) (by decide +kernel)⟩
theorem lw_p10 : lw_okq (⟨"BlockRanks$Elimination", "exchangeRows", "(II)V"⟩, 5) := ⟨⟨by decide +kernel, by decide +kernel⟩, List.mem_of_getElem? (i := 116) (by decide +kernel), List.mem_of_getElem? (i := 329) (by decide +kernel), List.mem_of_getElem? (i := 330) (by decide +kernel)⟩
theorem lw_p11 : lw_okq (⟨"BlockRanks$Elimination", "clearColumn", "(I)V"⟩, 5) := ⟨⟨by decide +kernel, by decide +kernel⟩, List.mem_of_getElem? (i := 116) (by decide +kernel), List.mem_of_getElem? (i := 335) (by decide +kernel), List.mem_of_getElem? (i := 336) (by decide +kernel)⟩
theorem lw_p12 : lw_okq (⟨"BlockRanks$Elimination", "subtract", "([I[III)V"⟩, 5) := ⟨⟨by decide +kernel, by decide +kernel⟩, List.mem_of_getElem? (i := 116) (by decide +kernel), List.mem_of_getElem? (i := 342) (by decide +kernel), List.mem_of_getElem? (i := 343) (by decide +kernel)⟩
theorem lw_p13 : lw_okq (⟨"BlockRanks$Text", "takeLetter", "()I"⟩, 9) := ⟨⟨by decide +kernel, by decide +kernel⟩, List.mem_of_getElem? (i := 77) (by decide +kernel), List.mem_of_getElem? (i := 354) (by decide +kernel), List.mem_of_getElem? (i := 355) (by decide +kernel)⟩
theorem lw_p14 : lw_okq (⟨"BlockRanks$Text", "takeOperation", "()I"⟩, 9) := ⟨⟨by decide +kernel, by decide +kernel⟩, List.mem_of_getElem? (i := 77) (by decide +kernel), List.mem_of_getElem? (i := 358) (by decide +kernel), List.mem_of_getElem? (i := 359) (by decide +kernel)⟩
theorem lw_p15 : lw_okq (⟨"BlockRanks", "formulaCell", "(LBlockRanks$Table;LBlockRanks$Table;II)I"⟩, 9) := ⟨⟨by decide +kernel, by decide +kernel⟩, List.mem_of_getElem? (i := 12) (by decide +kernel), List.mem_of_getElem? (i := 362) (by decide +kernel), List.mem_of_getElem? (i := 363) (by decide +kernel)⟩
def lw_privs_1 : List (MethodName × Nat) := [(⟨"BlockRanks$History", "dropOldest", "()V"⟩, 2), (⟨"BlockRanks", "leafStart", "(II)I"⟩, 9), (⟨"BlockRanks$Text", "take", "(I)Z"⟩, 9), (⟨"BlockRanks$Text", "nextSign", "()I"⟩, 9), (⟨"BlockRanks$Text", "takeNumber", "()Z"⟩, 9), (⟨"BlockRanks$Text", "takeDigit", "()I"⟩, 9), (⟨"BlockRanks$Text", "faultBehind", "()I"⟩, 9), (⟨"BlockRanks", "addRowsOfText", "(LBlockRanks$Table;II)V"⟩, 9), (⟨"BlockRanks", "blockRank", "(LBlockRanks$Table;II)I"⟩, 9), (⟨"BlockRanks$Elimination", "firstRowWith", "(I)I"⟩, 5), (⟨"BlockRanks$Elimination", "exchangeRows", "(II)V"⟩, 5), (⟨"BlockRanks$Elimination", "clearColumn", "(I)V"⟩, 5), (⟨"BlockRanks$Elimination", "subtract", "([I[III)V"⟩, 5), (⟨"BlockRanks$Text", "takeLetter", "()I"⟩, 9), (⟨"BlockRanks$Text", "takeOperation", "()I"⟩, 9), (⟨"BlockRanks", "formulaCell", "(LBlockRanks$Table;LBlockRanks$Table;II)I"⟩, 9)]
theorem lw_r1 : ∀ q ∈ lw_privs_1, lw_okq q := List.forall_mem_cons.mpr ⟨lw_p0, List.forall_mem_cons.mpr ⟨lw_p1, List.forall_mem_cons.mpr ⟨lw_p2, List.forall_mem_cons.mpr ⟨lw_p3, List.forall_mem_cons.mpr ⟨lw_p4, List.forall_mem_cons.mpr ⟨lw_p5, List.forall_mem_cons.mpr ⟨lw_p6, List.forall_mem_cons.mpr ⟨lw_p7, List.forall_mem_cons.mpr ⟨lw_p8, List.forall_mem_cons.mpr ⟨lw_p9, List.forall_mem_cons.mpr ⟨lw_p10, List.forall_mem_cons.mpr ⟨lw_p11, List.forall_mem_cons.mpr ⟨lw_p12, List.forall_mem_cons.mpr ⟨lw_p13, List.forall_mem_cons.mpr ⟨lw_p14, List.forall_mem_cons.mpr ⟨lw_p15, fun _ h => absurd h List.not_mem_nil⟩⟩⟩⟩⟩⟩⟩⟩⟩⟩⟩⟩⟩⟩⟩⟩
theorem lw_p16 : lw_okq (⟨"BlockRanks", "putFactors", "(LBlockRanks$Table;LBlockRanks$Table;)V"⟩, 9) := ⟨⟨by decide +kernel, by decide +kernel⟩, List.mem_of_getElem? (i := 12) (by decide +kernel), List.mem_of_getElem? (i := 381) (by decide +kernel), List.mem_of_getElem? (i := 382) (by decide +kernel)⟩
theorem lw_p17 : lw_okq (⟨"BlockRanks$Tree", "putSize", "(II)V"⟩, 1) := ⟨⟨by decide +kernel, by decide +kernel⟩, List.mem_of_getElem? (i := 33) (by decide +kernel), List.mem_of_getElem? (i := 405) (by decide +kernel), List.mem_of_getElem? (i := 406) (by decide +kernel)⟩
theorem lw_p18 : lw_okq (⟨"BlockRanks", "findLeastTree", "(LBlockRanks$Table;)I"⟩, 9) := ⟨⟨by decide +kernel, by decide +kernel⟩, List.mem_of_getElem? (i := 12) (by decide +kernel), List.mem_of_getElem? (i := 437) (by decide +kernel), List.mem_of_getElem? (i := 438) (by decide +kernel)⟩
theorem lw_p19 : lw_okq (⟨"BlockRanks", "leastCostOfQuarters", "(II)I"⟩, 9) := ⟨⟨by decide +kernel, by decide +kernel⟩, List.mem_of_getElem? (i := 12) (by decide +kernel), List.mem_of_getElem? (i := 445) (by decide +kernel), List.mem_of_getElem? (i := 446) (by decide +kernel)⟩
theorem lw_p20 : lw_okq (⟨"BlockRanks", "tableDeterminant", "(LBlockRanks$Table;)I"⟩, 9) := ⟨⟨by decide +kernel, by decide +kernel⟩, List.mem_of_getElem? (i := 12) (by decide +kernel), List.mem_of_getElem? (i := 492) (by decide +kernel), List.mem_of_getElem? (i := 493) (by decide +kernel)⟩
theorem lw_p21 : lw_okq (⟨"BlockRanks", "costOfTables", "(II)I"⟩, 9) := ⟨⟨by decide +kernel, by decide +kernel⟩, List.mem_of_getElem? (i := 12) (by decide +kernel), List.mem_of_getElem? (i := 501) (by decide +kernel), List.mem_of_getElem? (i := 502) (by decide +kernel)⟩
theorem lw_p22 : lw_okq (⟨"BlockRanks", "greatestLeafRank", "(LBlockRanks$Table;)I"⟩, 9) := ⟨⟨by decide +kernel, by decide +kernel⟩, List.mem_of_getElem? (i := 12) (by decide +kernel), List.mem_of_getElem? (i := 505) (by decide +kernel), List.mem_of_getElem? (i := 506) (by decide +kernel)⟩
theorem lw_p23 : lw_okq (⟨"BlockRanks", "refusalOfRow", "(II)I"⟩, 9) := ⟨⟨by decide +kernel, by decide +kernel⟩, List.mem_of_getElem? (i := 12) (by decide +kernel), List.mem_of_getElem? (i := 540) (by decide +kernel), List.mem_of_getElem? (i := 541) (by decide +kernel)⟩
theorem lw_p24 : lw_okq (⟨"BlockRanks", "leavesOfAll", "()I"⟩, 9) := ⟨⟨by decide +kernel, by decide +kernel⟩, List.mem_of_getElem? (i := 12) (by decide +kernel), List.mem_of_getElem? (i := 560) (by decide +kernel), List.mem_of_getElem? (i := 561) (by decide +kernel)⟩
theorem lw_p25 : lw_okq (⟨"BlockRanksModel", "record", "()V"⟩, 14) := ⟨⟨by decide +kernel, by decide +kernel⟩, List.mem_of_getElem? (i := 564) (by decide +kernel), List.mem_of_getElem? (i := 627) (by decide +kernel), List.mem_of_getElem? (i := 628) (by decide +kernel)⟩
theorem lw_p26 : lw_okq (⟨"BlockRanksModel", "noLeaf", "(II)Z"⟩, 14) := ⟨⟨by decide +kernel, by decide +kernel⟩, List.mem_of_getElem? (i := 564) (by decide +kernel), List.mem_of_getElem? (i := 666) (by decide +kernel), List.mem_of_getElem? (i := 667) (by decide +kernel)⟩
theorem lw_p27 : lw_okq (⟨"BlockRanksModel", "beginOf", "(II)I"⟩, 14) := ⟨⟨by decide +kernel, by decide +kernel⟩, List.mem_of_getElem? (i := 564) (by decide +kernel), List.mem_of_getElem? (i := 670) (by decide +kernel), List.mem_of_getElem? (i := 671) (by decide +kernel)⟩
theorem lw_p28 : lw_okq (⟨"BlockRanksModel", "sizeAt", "(II)I"⟩, 14) := ⟨⟨by decide +kernel, by decide +kernel⟩, List.mem_of_getElem? (i := 564) (by decide +kernel), List.mem_of_getElem? (i := 674) (by decide +kernel), List.mem_of_getElem? (i := 675) (by decide +kernel)⟩
theorem lw_p29 : lw_okq (⟨"BlockRanksModel", "isSplitAt", "(II)Z"⟩, 14) := ⟨⟨by decide +kernel, by decide +kernel⟩, List.mem_of_getElem? (i := 564) (by decide +kernel), List.mem_of_getElem? (i := 678) (by decide +kernel), List.mem_of_getElem? (i := 679) (by decide +kernel)⟩
theorem lw_p30 : lw_okq (⟨"BlockRanksModel", "readTwo", "(I)Z"⟩, 14) := ⟨⟨by decide +kernel, by decide +kernel⟩, List.mem_of_getElem? (i := 564) (by decide +kernel), List.mem_of_getElem? (i := 682) (by decide +kernel), List.mem_of_getElem? (i := 683) (by decide +kernel)⟩
theorem lw_p31 : lw_okq (⟨"BlockRanksModel", "readRow", "(II)Z"⟩, 14) := ⟨⟨by decide +kernel, by decide +kernel⟩, List.mem_of_getElem? (i := 564) (by decide +kernel), List.mem_of_getElem? (i := 686) (by decide +kernel), List.mem_of_getElem? (i := 687) (by decide +kernel)⟩
def lw_privs_2 : List (MethodName × Nat) := [(⟨"BlockRanks", "putFactors", "(LBlockRanks$Table;LBlockRanks$Table;)V"⟩, 9), (⟨"BlockRanks$Tree", "putSize", "(II)V"⟩, 1), (⟨"BlockRanks", "findLeastTree", "(LBlockRanks$Table;)I"⟩, 9), (⟨"BlockRanks", "leastCostOfQuarters", "(II)I"⟩, 9), (⟨"BlockRanks", "tableDeterminant", "(LBlockRanks$Table;)I"⟩, 9), (⟨"BlockRanks", "costOfTables", "(II)I"⟩, 9), (⟨"BlockRanks", "greatestLeafRank", "(LBlockRanks$Table;)I"⟩, 9), (⟨"BlockRanks", "refusalOfRow", "(II)I"⟩, 9), (⟨"BlockRanks", "leavesOfAll", "()I"⟩, 9), (⟨"BlockRanksModel", "record", "()V"⟩, 14), (⟨"BlockRanksModel", "noLeaf", "(II)Z"⟩, 14), (⟨"BlockRanksModel", "beginOf", "(II)I"⟩, 14), (⟨"BlockRanksModel", "sizeAt", "(II)I"⟩, 14), (⟨"BlockRanksModel", "isSplitAt", "(II)Z"⟩, 14), (⟨"BlockRanksModel", "readTwo", "(I)Z"⟩, 14), (⟨"BlockRanksModel", "readRow", "(II)Z"⟩, 14)]
theorem lw_r2 : ∀ q ∈ lw_privs_2, lw_okq q := List.forall_mem_cons.mpr ⟨lw_p16, List.forall_mem_cons.mpr ⟨lw_p17, List.forall_mem_cons.mpr ⟨lw_p18, List.forall_mem_cons.mpr ⟨lw_p19, List.forall_mem_cons.mpr ⟨lw_p20, List.forall_mem_cons.mpr ⟨lw_p21, List.forall_mem_cons.mpr ⟨lw_p22, List.forall_mem_cons.mpr ⟨lw_p23, List.forall_mem_cons.mpr ⟨lw_p24, List.forall_mem_cons.mpr ⟨lw_p25, List.forall_mem_cons.mpr ⟨lw_p26, List.forall_mem_cons.mpr ⟨lw_p27, List.forall_mem_cons.mpr ⟨lw_p28, List.forall_mem_cons.mpr ⟨lw_p29, List.forall_mem_cons.mpr ⟨lw_p30, List.forall_mem_cons.mpr ⟨lw_p31, fun _ h => absurd h List.not_mem_nil⟩⟩⟩⟩⟩⟩⟩⟩⟩⟩⟩⟩⟩⟩⟩⟩
theorem lw_p32 : lw_okq (⟨"BlockRanksModel", "takes", "(I)Z"⟩, 14) := ⟨⟨by decide +kernel, by decide +kernel⟩, List.mem_of_getElem? (i := 564) (by decide +kernel), List.mem_of_getElem? (i := 690) (by decide +kernel), List.mem_of_getElem? (i := 691) (by decide +kernel)⟩
theorem lw_p33 : lw_okq (⟨"BlockRanksModel", "sees", "(II)Z"⟩, 14) := ⟨⟨by decide +kernel, by decide +kernel⟩, List.mem_of_getElem? (i := 564) (by decide +kernel), List.mem_of_getElem? (i := 694) (by decide +kernel), List.mem_of_getElem? (i := 695) (by decide +kernel)⟩
theorem lw_p34 : lw_okq (⟨"BlockRanksModel", "areLess", "(I)Z"⟩, 14) := ⟨⟨by decide +kernel, by decide +kernel⟩, List.mem_of_getElem? (i := 564) (by decide +kernel), List.mem_of_getElem? (i := 698) (by decide +kernel), List.mem_of_getElem? (i := 699) (by decide +kernel)⟩
theorem lw_p35 : lw_okq (⟨"BlockRanksModel", "mod", "(I)I"⟩, 14) := ⟨⟨by decide +kernel, by decide +kernel⟩, List.mem_of_getElem? (i := 564) (by decide +kernel), List.mem_of_getElem? (i := 708) (by decide +kernel), List.mem_of_getElem? (i := 709) (by decide +kernel)⟩
theorem lw_p36 : lw_okq (⟨"BlockRanksModel", "rank", "(III)I"⟩, 14) := ⟨⟨by decide +kernel, by decide +kernel⟩, List.mem_of_getElem? (i := 564) (by decide +kernel), List.mem_of_getElem? (i := 712) (by decide +kernel), List.mem_of_getElem? (i := 713) (by decide +kernel)⟩
theorem lw_p37 : lw_okq (⟨"BlockRanksModel", "layBlock", "(IIII)V"⟩, 14) := ⟨⟨by decide +kernel, by decide +kernel⟩, List.mem_of_getElem? (i := 564) (by decide +kernel), List.mem_of_getElem? (i := 716) (by decide +kernel), List.mem_of_getElem? (i := 717) (by decide +kernel)⟩
theorem lw_p38 : lw_okq (⟨"BlockRanksModel", "reduce", "(II)I"⟩, 14) := ⟨⟨by decide +kernel, by decide +kernel⟩, List.mem_of_getElem? (i := 564) (by decide +kernel), List.mem_of_getElem? (i := 720) (by decide +kernel), List.mem_of_getElem? (i := 721) (by decide +kernel)⟩
theorem lw_p39 : lw_okq (⟨"BlockRanksModel", "exchange", "(III)V"⟩, 14) := ⟨⟨by decide +kernel, by decide +kernel⟩, List.mem_of_getElem? (i := 564) (by decide +kernel), List.mem_of_getElem? (i := 724) (by decide +kernel), List.mem_of_getElem? (i := 725) (by decide +kernel)⟩
theorem lw_p40 : lw_okq (⟨"BlockRanksModel", "clear", "(IIII)V"⟩, 14) := ⟨⟨by decide +kernel, by decide +kernel⟩, List.mem_of_getElem? (i := 564) (by decide +kernel), List.mem_of_getElem? (i := 728) (by decide +kernel), List.mem_of_getElem? (i := 729) (by decide +kernel)⟩
theorem lw_p41 : lw_okq (⟨"BlockRanksModel", "quotient", "(II)I"⟩, 14) := ⟨⟨by decide +kernel, by decide +kernel⟩, List.mem_of_getElem? (i := 564) (by decide +kernel), List.mem_of_getElem? (i := 732) (by decide +kernel), List.mem_of_getElem? (i := 733) (by decide +kernel)⟩
theorem lw_p42 : lw_okq (⟨"BlockRanksModel", "worked", "(IIIII)I"⟩, 14) := ⟨⟨by decide +kernel, by decide +kernel⟩, List.mem_of_getElem? (i := 564) (by decide +kernel), List.mem_of_getElem? (i := 740) (by decide +kernel), List.mem_of_getElem? (i := 741) (by decide +kernel)⟩
theorem lw_p43 : lw_okq (⟨"BlockRanksModel", "cellOf", "(III)I"⟩, 14) := ⟨⟨by decide +kernel, by decide +kernel⟩, List.mem_of_getElem? (i := 564) (by decide +kernel), List.mem_of_getElem? (i := 744) (by decide +kernel), List.mem_of_getElem? (i := 745) (by decide +kernel)⟩
theorem lw_p44 : lw_okq (⟨"BlockRanksModel", "lay", "(I)V"⟩, 14) := ⟨⟨by decide +kernel, by decide +kernel⟩, List.mem_of_getElem? (i := 564) (by decide +kernel), List.mem_of_getElem? (i := 748) (by decide +kernel), List.mem_of_getElem? (i := 749) (by decide +kernel)⟩
theorem lw_p45 : lw_okq (⟨"BlockRanksModel", "divide", "()Z"⟩, 14) := ⟨⟨by decide +kernel, by decide +kernel⟩, List.mem_of_getElem? (i := 564) (by decide +kernel), List.mem_of_getElem? (i := 756) (by decide +kernel), List.mem_of_getElem? (i := 757) (by decide +kernel)⟩
theorem lw_p46 : lw_okq (⟨"BlockRanksModel", "nodeOf", "(II)I"⟩, 14) := ⟨⟨by decide +kernel, by decide +kernel⟩, List.mem_of_getElem? (i := 564) (by decide +kernel), List.mem_of_getElem? (i := 764) (by decide +kernel), List.mem_of_getElem? (i := 765) (by decide +kernel)⟩
theorem lw_p47 : lw_okq (⟨"BlockRanksModel", "leavesTo", "(II)I"⟩, 14) := ⟨⟨by decide +kernel, by decide +kernel⟩, List.mem_of_getElem? (i := 564) (by decide +kernel), List.mem_of_getElem? (i := 768) (by decide +kernel), List.mem_of_getElem? (i := 769) (by decide +kernel)⟩
def lw_privs_3 : List (MethodName × Nat) := [(⟨"BlockRanksModel", "takes", "(I)Z"⟩, 14), (⟨"BlockRanksModel", "sees", "(II)Z"⟩, 14), (⟨"BlockRanksModel", "areLess", "(I)Z"⟩, 14), (⟨"BlockRanksModel", "mod", "(I)I"⟩, 14), (⟨"BlockRanksModel", "rank", "(III)I"⟩, 14), (⟨"BlockRanksModel", "layBlock", "(IIII)V"⟩, 14), (⟨"BlockRanksModel", "reduce", "(II)I"⟩, 14), (⟨"BlockRanksModel", "exchange", "(III)V"⟩, 14), (⟨"BlockRanksModel", "clear", "(IIII)V"⟩, 14), (⟨"BlockRanksModel", "quotient", "(II)I"⟩, 14), (⟨"BlockRanksModel", "worked", "(IIIII)I"⟩, 14), (⟨"BlockRanksModel", "cellOf", "(III)I"⟩, 14), (⟨"BlockRanksModel", "lay", "(I)V"⟩, 14), (⟨"BlockRanksModel", "divide", "()Z"⟩, 14), (⟨"BlockRanksModel", "nodeOf", "(II)I"⟩, 14), (⟨"BlockRanksModel", "leavesTo", "(II)I"⟩, 14)]
theorem lw_r3 : ∀ q ∈ lw_privs_3, lw_okq q := List.forall_mem_cons.mpr ⟨lw_p32, List.forall_mem_cons.mpr ⟨lw_p33, List.forall_mem_cons.mpr ⟨lw_p34, List.forall_mem_cons.mpr ⟨lw_p35, List.forall_mem_cons.mpr ⟨lw_p36, List.forall_mem_cons.mpr ⟨lw_p37, List.forall_mem_cons.mpr ⟨lw_p38, List.forall_mem_cons.mpr ⟨lw_p39, List.forall_mem_cons.mpr ⟨lw_p40, List.forall_mem_cons.mpr ⟨lw_p41, List.forall_mem_cons.mpr ⟨lw_p42, List.forall_mem_cons.mpr ⟨lw_p43, List.forall_mem_cons.mpr ⟨lw_p44, List.forall_mem_cons.mpr ⟨lw_p45, List.forall_mem_cons.mpr ⟨lw_p46, List.forall_mem_cons.mpr ⟨lw_p47, fun _ h => absurd h List.not_mem_nil⟩⟩⟩⟩⟩⟩⟩⟩⟩⟩⟩⟩⟩⟩⟩⟩
theorem lw_p48 : lw_okq (⟨"BlockRanksModel", "findLeast", "(I)V"⟩, 14) := ⟨⟨by decide +kernel, by decide +kernel⟩, List.mem_of_getElem? (i := 564) (by decide +kernel), List.mem_of_getElem? (i := 780) (by decide +kernel), List.mem_of_getElem? (i := 781) (by decide +kernel)⟩
theorem lw_p49 : lw_okq (⟨"BlockRanksModel", "costOf", "(III)I"⟩, 14) := ⟨⟨by decide +kernel, by decide +kernel⟩, List.mem_of_getElem? (i := 564) (by decide +kernel), List.mem_of_getElem? (i := 784) (by decide +kernel), List.mem_of_getElem? (i := 785) (by decide +kernel)⟩
theorem lw_p50 : lw_okq (⟨"BlockRanksModel", "determinantOf", "(I)I"⟩, 14) := ⟨⟨by decide +kernel, by decide +kernel⟩, List.mem_of_getElem? (i := 564) (by decide +kernel), List.mem_of_getElem? (i := 796) (by decide +kernel), List.mem_of_getElem? (i := 797) (by decide +kernel)⟩
theorem lw_p51 : lw_okq (⟨"BlockRanksModel", "diagonal", "(I)I"⟩, 14) := ⟨⟨by decide +kernel, by decide +kernel⟩, List.mem_of_getElem? (i := 564) (by decide +kernel), List.mem_of_getElem? (i := 800) (by decide +kernel), List.mem_of_getElem? (i := 801) (by decide +kernel)⟩
theorem lw_p52 : lw_okq (⟨"BlockRanksModel", "overLeaves", "(IZ)I"⟩, 14) := ⟨⟨by decide +kernel, by decide +kernel⟩, List.mem_of_getElem? (i := 564) (by decide +kernel), List.mem_of_getElem? (i := 804) (by decide +kernel), List.mem_of_getElem? (i := 805) (by decide +kernel)⟩
theorem lw_p53 : lw_okq (⟨"BlockRanksModel", "leastLeaves", "()I"⟩, 14) := ⟨⟨by decide +kernel, by decide +kernel⟩, List.mem_of_getElem? (i := 564) (by decide +kernel), List.mem_of_getElem? (i := 808) (by decide +kernel), List.mem_of_getElem? (i := 809) (by decide +kernel)⟩
theorem lw_p54 : lw_okq (⟨"BlockRanksModel", "notZero", "(I)I"⟩, 14) := ⟨⟨by decide +kernel, by decide +kernel⟩, List.mem_of_getElem? (i := 564) (by decide +kernel), List.mem_of_getElem? (i := 812) (by decide +kernel), List.mem_of_getElem? (i := 813) (by decide +kernel)⟩
theorem lw_p55 : lw_okq (⟨"BlockRanksModel", "against", "(II)I"⟩, 14) := ⟨⟨by decide +kernel, by decide +kernel⟩, List.mem_of_getElem? (i := 564) (by decide +kernel), List.mem_of_getElem? (i := 832) (by decide +kernel), List.mem_of_getElem? (i := 833) (by decide +kernel)⟩
theorem lw_p56 : lw_okq (⟨"BlockRanksModel", "overTables", "(Z)I"⟩, 14) := ⟨⟨by decide +kernel, by decide +kernel⟩, List.mem_of_getElem? (i := 564) (by decide +kernel), List.mem_of_getElem? (i := 844) (by decide +kernel), List.mem_of_getElem? (i := 845) (by decide +kernel)⟩
def lw_privs_4 : List (MethodName × Nat) := [(⟨"BlockRanksModel", "findLeast", "(I)V"⟩, 14), (⟨"BlockRanksModel", "costOf", "(III)I"⟩, 14), (⟨"BlockRanksModel", "determinantOf", "(I)I"⟩, 14), (⟨"BlockRanksModel", "diagonal", "(I)I"⟩, 14), (⟨"BlockRanksModel", "overLeaves", "(IZ)I"⟩, 14), (⟨"BlockRanksModel", "leastLeaves", "()I"⟩, 14), (⟨"BlockRanksModel", "notZero", "(I)I"⟩, 14), (⟨"BlockRanksModel", "against", "(II)I"⟩, 14), (⟨"BlockRanksModel", "overTables", "(Z)I"⟩, 14)]
theorem lw_r4 : ∀ q ∈ lw_privs_4, lw_okq q := List.forall_mem_cons.mpr ⟨lw_p48, List.forall_mem_cons.mpr ⟨lw_p49, List.forall_mem_cons.mpr ⟨lw_p50, List.forall_mem_cons.mpr ⟨lw_p51, List.forall_mem_cons.mpr ⟨lw_p52, List.forall_mem_cons.mpr ⟨lw_p53, List.forall_mem_cons.mpr ⟨lw_p54, List.forall_mem_cons.mpr ⟨lw_p55, List.forall_mem_cons.mpr ⟨lw_p56, fun _ h => absurd h List.not_mem_nil⟩⟩⟩⟩⟩⟩⟩⟩⟩
def lw_privs : List (MethodName × Nat) := lw_privs_1 ++ (lw_privs_2 ++ (lw_privs_3 ++ (lw_privs_4)))
def lw_tbl : List Cond := k2_sels lw_privs ++ tables_1
theorem lw_privs_ok : ∀ q ∈ lw_privs, lw_okq q := by
  show ∀ q ∈ lw_privs_1 ++ (lw_privs_2 ++ (lw_privs_3 ++ (lw_privs_4))), lw_okq q
  exact List.forall_mem_append.mpr ⟨lw_r1, List.forall_mem_append.mpr ⟨lw_r2, List.forall_mem_append.mpr ⟨lw_r3, lw_r4⟩⟩⟩
end
section
/-! names, fields, types: copied from claim/NAMES.whole.lean.txt -/
def RX0 : String := "BlockRanks$Elimination"
def TX0 : u_T := fun k => match k with
  | 0 => ("BlockRanks$Elimination", "rows", "[[I", true)
  | 1 => ("BlockRanks$Elimination", "prime", "I", false)
  | 2 => ("BlockRanks$Elimination", "size", "I", false)
  | 3 => ("BlockRanks$Elimination", "rank", "I", false)
  | _ => ("BlockRanks$Elimination", "determinant", "I", false)
def tyX0 : Nat → FieldType := fun k => match k with
  | 0 => .array (.array .int)
  | 1 => .int
  | 2 => .int
  | 3 => .int
  | _ => .int
abbrev wsX00 : List Cond := u_ws RX0 TX0 5
theorem nmX0 : ∀ a, a < 5 → ∀ b, b < 5 → a ≠ b → (TX0 a).2.1 ≠ (TX0 b).2.1 := by decide +kernel
theorem tyX0_ok : ∀ k, k < 5 → parseFieldDescriptor (TX0 k).2.2.1 = some (tyX0 k) := by decide +kernel
abbrev cX0_init : ByteArray := prog_2_method_1_code
def yX0_init : MethodName := ⟨RX0, "<init>", "()V"⟩
abbrev cX0_load : ByteArray := prog_2_method_2_code
def yX0_load : MethodName := ⟨RX0, "load", "(LBlockRanks$Table;III)V"⟩
abbrev cX0_putRightSide : ByteArray := prog_2_method_3_code
def yX0_putRightSide : MethodName := ⟨RX0, "putRightSide", "(II)V"⟩
abbrev cX0_rightSideAt : ByteArray := prog_2_method_4_code
def yX0_rightSideAt : MethodName := ⟨RX0, "rightSideAt", "(I)I"⟩
abbrev cX0_reduce : ByteArray := prog_2_method_5_code
def yX0_reduce : MethodName := ⟨RX0, "reduce", "()V"⟩
abbrev cX0_firstRowWith : ByteArray := prog_2_method_6_code
def yX0_firstRowWith : MethodName := ⟨RX0, "firstRowWith", "(I)I"⟩
abbrev cX0_exchangeRows : ByteArray := prog_2_method_7_code
def yX0_exchangeRows : MethodName := ⟨RX0, "exchangeRows", "(II)V"⟩
abbrev cX0_clearColumn : ByteArray := prog_2_method_8_code
def yX0_clearColumn : MethodName := ⟨RX0, "clearColumn", "(I)V"⟩
abbrev cX0_subtract : ByteArray := prog_2_method_9_code
def yX0_subtract : MethodName := ⟨RX0, "subtract", "([I[III)V"⟩
abbrev cX0_decompose : ByteArray := prog_2_method_10_code
def yX0_decompose : MethodName := ⟨RX0, "decompose", "()Z"⟩
abbrev cX0_lowerFactorAt : ByteArray := prog_2_method_11_code
def yX0_lowerFactorAt : MethodName := ⟨RX0, "lowerFactorAt", "(II)I"⟩
abbrev cX0_upperFactorAt : ByteArray := prog_2_method_12_code
def yX0_upperFactorAt : MethodName := ⟨RX0, "upperFactorAt", "(II)I"⟩
def RX1 : String := "BlockRanks$History"
def TX1 : u_T := fun k => match k with
  | 0 => ("BlockRanks$History", "states", "[LBlockRanks$State;", true)
  | _ => ("BlockRanks$History", "length", "I", false)
def tyX1 : Nat → FieldType := fun k => match k with
  | 0 => .array (.object "BlockRanks$State")
  | _ => .int
abbrev wsX10 : List Cond := u_ws RX1 TX1 2
theorem nmX1 : ∀ a, a < 2 → ∀ b, b < 2 → a ≠ b → (TX1 a).2.1 ≠ (TX1 b).2.1 := by decide +kernel
theorem tyX1_ok : ∀ k, k < 2 → parseFieldDescriptor (TX1 k).2.2.1 = some (tyX1 k) := by decide +kernel
abbrev cX1_init : ByteArray := prog_3_method_1_code
def yX1_init : MethodName := ⟨RX1, "<init>", "()V"⟩
abbrev cX1_record : ByteArray := prog_3_method_2_code
def yX1_record : MethodName := ⟨RX1, "record", "(LBlockRanks$State;)V"⟩
abbrev cX1_dropOldest : ByteArray := prog_3_method_3_code
def yX1_dropOldest : MethodName := ⟨RX1, "dropOldest", "()V"⟩
abbrev cX1_takeLatest : ByteArray := prog_3_method_4_code
def yX1_takeLatest : MethodName := ⟨RX1, "takeLatest", "(LBlockRanks$State;)Z"⟩
def RX2 : String := "BlockRanks$State"
def TX2 : u_T := fun k => match k with
  | 0 => ("BlockRanks$State", "prime", "I", false)
  | _ => ("BlockRanks$State", "tables", "[LBlockRanks$Table;", true)
def tyX2 : Nat → FieldType := fun k => match k with
  | 0 => .int
  | _ => .array (.object "BlockRanks$Table")
abbrev wsX20 : List Cond := u_ws RX2 TX2 2
theorem nmX2 : ∀ a, a < 2 → ∀ b, b < 2 → a ≠ b → (TX2 a).2.1 ≠ (TX2 b).2.1 := by decide +kernel
theorem tyX2_ok : ∀ k, k < 2 → parseFieldDescriptor (TX2 k).2.2.1 = some (tyX2 k) := by decide +kernel
abbrev cX2_init : ByteArray := prog_4_method_1_code
def yX2_init : MethodName := ⟨RX2, "<init>", "()V"⟩
abbrev cX2_tableOf : ByteArray := prog_4_method_2_code
def yX2_tableOf : MethodName := ⟨RX2, "tableOf", "(I)LBlockRanks$Table;"⟩
abbrev cX2_changePrime : ByteArray := prog_4_method_3_code
def yX2_changePrime : MethodName := ⟨RX2, "changePrime", "(I)V"⟩
abbrev cX2_copyFrom : ByteArray := prog_4_method_4_code
def yX2_copyFrom : MethodName := ⟨RX2, "copyFrom", "(LBlockRanks$State;)V"⟩
def RX3 : String := "BlockRanks$Table"
def TX3 : u_T := fun k => match k with
  | 0 => ("BlockRanks$Table", "cells", "[I", true)
  | _ => ("BlockRanks$Table", "tree", "LBlockRanks$Tree;", true)
def tyX3 : Nat → FieldType := fun k => match k with
  | 0 => .array .int
  | _ => .object "BlockRanks$Tree"
abbrev wsX30 : List Cond := u_ws RX3 TX3 2
theorem nmX3 : ∀ a, a < 2 → ∀ b, b < 2 → a ≠ b → (TX3 a).2.1 ≠ (TX3 b).2.1 := by decide +kernel
theorem tyX3_ok : ∀ k, k < 2 → parseFieldDescriptor (TX3 k).2.2.1 = some (tyX3 k) := by decide +kernel
abbrev cX3_init : ByteArray := prog_5_method_1_code
def yX3_init : MethodName := ⟨RX3, "<init>", "()V"⟩
abbrev cX3_at : ByteArray := prog_5_method_2_code
def yX3_at : MethodName := ⟨RX3, "at", "(II)I"⟩
abbrev cX3_put : ByteArray := prog_5_method_3_code
def yX3_put : MethodName := ⟨RX3, "put", "(III)V"⟩
abbrev cX3_putAll : ByteArray := prog_5_method_4_code
def yX3_putAll : MethodName := ⟨RX3, "putAll", "([I)V"⟩
abbrev cX3_reduceCells : ByteArray := prog_5_method_5_code
def yX3_reduceCells : MethodName := ⟨RX3, "reduceCells", "(I)V"⟩
abbrev cX3_diagonalSum : ByteArray := prog_5_method_6_code
def yX3_diagonalSum : MethodName := ⟨RX3, "diagonalSum", "()I"⟩
abbrev cX3_cellsNotZero : ByteArray := prog_5_method_7_code
def yX3_cellsNotZero : MethodName := ⟨RX3, "cellsNotZero", "()I"⟩
abbrev cX3_cellsUnlike : ByteArray := prog_5_method_8_code
def yX3_cellsUnlike : MethodName := ⟨RX3, "cellsUnlike", "(LBlockRanks$Table;)I"⟩
abbrev cX3_copyFrom : ByteArray := prog_5_method_9_code
def yX3_copyFrom : MethodName := ⟨RX3, "copyFrom", "(LBlockRanks$Table;)V"⟩
def RX4 : String := "BlockRanks$Text"
def TX4 : u_T := fun k => match k with
  | 0 => ("BlockRanks$Text", "signs", "[I", true)
  | 1 => ("BlockRanks$Text", "numbers", "[I", true)
  | 2 => ("BlockRanks$Text", "length", "I", false)
  | 3 => ("BlockRanks$Text", "place", "I", false)
  | 4 => ("BlockRanks$Text", "numbersRead", "I", false)
  | 5 => ("BlockRanks$Text", "target", "I", false)
  | 6 => ("BlockRanks$Text", "left", "I", false)
  | 7 => ("BlockRanks$Text", "right", "I", false)
  | _ => ("BlockRanks$Text", "operation", "I", false)
def tyX4 : Nat → FieldType := fun k => match k with
  | 0 => .array .int
  | 1 => .array .int
  | 2 => .int
  | 3 => .int
  | 4 => .int
  | 5 => .int
  | 6 => .int
  | 7 => .int
  | _ => .int
abbrev wsX40 : List Cond := u_ws RX4 TX4 9
theorem nmX4 : ∀ a, a < 9 → ∀ b, b < 9 → a ≠ b → (TX4 a).2.1 ≠ (TX4 b).2.1 := by decide +kernel
theorem tyX4_ok : ∀ k, k < 9 → parseFieldDescriptor (TX4 k).2.2.1 = some (tyX4 k) := by decide +kernel
abbrev cX4_init : ByteArray := prog_6_method_1_code
def yX4_init : MethodName := ⟨RX4, "<init>", "()V"⟩
abbrev cX4_append : ByteArray := prog_6_method_2_code
def yX4_append : MethodName := ⟨RX4, "append", "(C)Z"⟩
abbrev cX4_numberAt : ByteArray := prog_6_method_3_code
def yX4_numberAt : MethodName := ⟨RX4, "numberAt", "(I)I"⟩
abbrev cX4_greatestNumber : ByteArray := prog_6_method_4_code
def yX4_greatestNumber : MethodName := ⟨RX4, "greatestNumber", "()I"⟩
abbrev cX4_readRows : ByteArray := prog_6_method_5_code
def yX4_readRows : MethodName := ⟨RX4, "readRows", "(II)I"⟩
abbrev cX4_readFormula : ByteArray := prog_6_method_6_code
def yX4_readFormula : MethodName := ⟨RX4, "readFormula", "()I"⟩
abbrev cX4_faultBehind : ByteArray := prog_6_method_7_code
def yX4_faultBehind : MethodName := ⟨RX4, "faultBehind", "()I"⟩
abbrev cX4_nextSign : ByteArray := prog_6_method_8_code
def yX4_nextSign : MethodName := ⟨RX4, "nextSign", "()I"⟩
abbrev cX4_take : ByteArray := prog_6_method_9_code
def yX4_take : MethodName := ⟨RX4, "take", "(I)Z"⟩
abbrev cX4_takeLetter : ByteArray := prog_6_method_10_code
def yX4_takeLetter : MethodName := ⟨RX4, "takeLetter", "()I"⟩
abbrev cX4_takeOperation : ByteArray := prog_6_method_11_code
def yX4_takeOperation : MethodName := ⟨RX4, "takeOperation", "()I"⟩
abbrev cX4_takeNumber : ByteArray := prog_6_method_12_code
def yX4_takeNumber : MethodName := ⟨RX4, "takeNumber", "()Z"⟩
abbrev cX4_takeDigit : ByteArray := prog_6_method_13_code
def yX4_takeDigit : MethodName := ⟨RX4, "takeDigit", "()I"⟩
abbrev cX4_isDigit : ByteArray := prog_6_method_14_code
def yX4_isDigit : MethodName := ⟨RX4, "isDigit", "(I)Z"⟩
def RX5 : String := "BlockRanks$Tree"
def TX5 : u_T := fun k => match k with
  | _ => ("BlockRanks$Tree", "sizes", "[I", true)
def tyX5 : Nat → FieldType := fun k => match k with
  | _ => .array .int
abbrev wsX50 : List Cond := u_ws RX5 TX5 1
theorem nmX5 : ∀ a, a < 1 → ∀ b, b < 1 → a ≠ b → (TX5 a).2.1 ≠ (TX5 b).2.1 := by decide +kernel
theorem tyX5_ok : ∀ k, k < 1 → parseFieldDescriptor (TX5 k).2.2.1 = some (tyX5 k) := by decide +kernel
abbrev cX5_init : ByteArray := prog_7_method_1_code
def yX5_init : MethodName := ⟨RX5, "<init>", "()V"⟩
abbrev cX5_rowOf : ByteArray := prog_7_method_2_code
def yX5_rowOf : MethodName := ⟨RX5, "rowOf", "(I)I"⟩
abbrev cX5_columnOf : ByteArray := prog_7_method_3_code
def yX5_columnOf : MethodName := ⟨RX5, "columnOf", "(I)I"⟩
abbrev cX5_stepOf : ByteArray := prog_7_method_4_code
def yX5_stepOf : MethodName := ⟨RX5, "stepOf", "(II)I"⟩
abbrev cX5_spread : ByteArray := prog_7_method_5_code
def yX5_spread : MethodName := ⟨RX5, "spread", "(I)I"⟩
abbrev cX5_startOfBlock : ByteArray := prog_7_method_6_code
def yX5_startOfBlock : MethodName := ⟨RX5, "startOfBlock", "(II)I"⟩
abbrev cX5_startOfQuarter : ByteArray := prog_7_method_7_code
def yX5_startOfQuarter : MethodName := ⟨RX5, "startOfQuarter", "(III)I"⟩
abbrev cX5_sizeAt : ByteArray := prog_7_method_8_code
def yX5_sizeAt : MethodName := ⟨RX5, "sizeAt", "(I)I"⟩
abbrev cX5_putSize : ByteArray := prog_7_method_9_code
def yX5_putSize : MethodName := ⟨RX5, "putSize", "(II)V"⟩
abbrev cX5_leaves : ByteArray := prog_7_method_10_code
def yX5_leaves : MethodName := ⟨RX5, "leaves", "()I"⟩
abbrev cX5_leavesBefore : ByteArray := prog_7_method_11_code
def yX5_leavesBefore : MethodName := ⟨RX5, "leavesBefore", "(I)I"⟩
abbrev cX5_startOf : ByteArray := prog_7_method_12_code
def yX5_startOf : MethodName := ⟨RX5, "startOf", "(I)I"⟩
abbrev cX5_cut : ByteArray := prog_7_method_13_code
def yX5_cut : MethodName := ⟨RX5, "cut", "(I)V"⟩
abbrev cX5_hasFourLeaves : ByteArray := prog_7_method_14_code
def yX5_hasFourLeaves : MethodName := ⟨RX5, "hasFourLeaves", "(II)Z"⟩
abbrev cX5_merge : ByteArray := prog_7_method_15_code
def yX5_merge : MethodName := ⟨RX5, "merge", "(II)V"⟩
abbrev cX5_isLike : ByteArray := prog_7_method_16_code
def yX5_isLike : MethodName := ⟨RX5, "isLike", "(LBlockRanks$Tree;)Z"⟩
abbrev cX5_copyFrom : ByteArray := prog_7_method_17_code
def yX5_copyFrom : MethodName := ⟨RX5, "copyFrom", "(LBlockRanks$Tree;)V"⟩
def RX6 : String := "BlockRanks"
def TX6 : u_T := fun k => match k with
  | 0 => ("BlockRanks", "now", "LBlockRanks$State;", true)
  | 1 => ("BlockRanks", "snapshot", "LBlockRanks$State;", true)
  | 2 => ("BlockRanks", "hasSnapshot", "Z", false)
  | 3 => ("BlockRanks", "history", "LBlockRanks$History;", true)
  | 4 => ("BlockRanks", "text", "LBlockRanks$Text;", true)
  | 5 => ("BlockRanks", "elimination", "LBlockRanks$Elimination;", true)
  | 6 => ("BlockRanks", "leastTree", "LBlockRanks$Tree;", true)
  | 7 => ("BlockRanks", "leastCosts", "[I", true)
  | _ => ("BlockRanks", "results", "[I", true)
def tyX6 : Nat → FieldType := fun k => match k with
  | 0 => .object "BlockRanks$State"
  | 1 => .object "BlockRanks$State"
  | 2 => .boolean
  | 3 => .object "BlockRanks$History"
  | 4 => .object "BlockRanks$Text"
  | 5 => .object "BlockRanks$Elimination"
  | 6 => .object "BlockRanks$Tree"
  | 7 => .array .int
  | _ => .array .int
abbrev wsX60 : List Cond := u_ws RX6 TX6 9
theorem nmX6 : ∀ a, a < 9 → ∀ b, b < 9 → a ≠ b → (TX6 a).2.1 ≠ (TX6 b).2.1 := by decide +kernel
theorem tyX6_ok : ∀ k, k < 9 → parseFieldDescriptor (TX6 k).2.2.1 = some (tyX6 k) := by decide +kernel
abbrev cX6_init : ByteArray := prog_1_method_1_code
def yX6_init : MethodName := ⟨RX6, "<init>", "()V"⟩
abbrev cX6_setPrime : ByteArray := prog_1_method_2_code
def yX6_setPrime : MethodName := ⟨RX6, "setPrime", "(I)I"⟩
abbrev cX6_set : ByteArray := prog_1_method_3_code
def yX6_set : MethodName := ⟨RX6, "set", "(IIII)I"⟩
abbrev cX6_addProduct : ByteArray := prog_1_method_4_code
def yX6_addProduct : MethodName := ⟨RX6, "addProduct", "(II)I"⟩
abbrev cX6_work : ByteArray := prog_1_method_5_code
def yX6_work : MethodName := ⟨RX6, "work", "()I"⟩
abbrev cX6_factor : ByteArray := prog_1_method_6_code
def yX6_factor : MethodName := ⟨RX6, "factor", "(III)I"⟩
abbrev cX6_split : ByteArray := prog_1_method_7_code
def yX6_split : MethodName := ⟨RX6, "split", "(II)I"⟩
abbrev cX6_join : ByteArray := prog_1_method_8_code
def yX6_join : MethodName := ⟨RX6, "join", "(II)I"⟩
abbrev cX6_recompress : ByteArray := prog_1_method_9_code
def yX6_recompress : MethodName := ⟨RX6, "recompress", "(I)I"⟩
abbrev cX6_type : ByteArray := prog_1_method_10_code
def yX6_type : MethodName := ⟨RX6, "type", "(C)I"⟩
abbrev cX6_clearText : ByteArray := prog_1_method_11_code
def yX6_clearText : MethodName := ⟨RX6, "clearText", "()I"⟩
abbrev cX6_undo : ByteArray := prog_1_method_12_code
def yX6_undo : MethodName := ⟨RX6, "undo", "()I"⟩
abbrev cX6_keep : ByteArray := prog_1_method_13_code
def yX6_keep : MethodName := ⟨RX6, "keep", "()I"⟩
abbrev cX6_restore : ByteArray := prog_1_method_14_code
def yX6_restore : MethodName := ⟨RX6, "restore", "()I"⟩
abbrev cX6_cell : ByteArray := prog_1_method_15_code
def yX6_cell : MethodName := ⟨RX6, "cell", "(III)I"⟩
abbrev cX6_table : ByteArray := prog_1_method_16_code
def yX6_table : MethodName := ⟨RX6, "table", "(II)I"⟩
abbrev cX6_leaf : ByteArray := prog_1_method_17_code
def yX6_leaf : MethodName := ⟨RX6, "leaf", "(III)I"⟩
abbrev cX6_leafAt : ByteArray := prog_1_method_18_code
def yX6_leafAt : MethodName := ⟨RX6, "leafAt", "(III)I"⟩
abbrev cX6_differ : ByteArray := prog_1_method_19_code
def yX6_differ : MethodName := ⟨RX6, "differ", "(II)I"⟩
abbrev cX6_times : ByteArray := prog_1_method_20_code
def yX6_times : MethodName := ⟨RX6, "times", "(II)I"⟩
abbrev cX6_solve : ByteArray := prog_1_method_21_code
def yX6_solve : MethodName := ⟨RX6, "solve", "(II)I"⟩
abbrev cX6_count : ByteArray := prog_1_method_22_code
def yX6_count : MethodName := ⟨RX6, "count", "(I)I"⟩
abbrev cX6_isTable : ByteArray := prog_1_method_23_code
def yX6_isTable : MethodName := ⟨RX6, "isTable", "(I)Z"⟩
abbrev cX6_isInside : ByteArray := prog_1_method_24_code
def yX6_isInside : MethodName := ⟨RX6, "isInside", "(I)Z"⟩
abbrev cX6_isPrime : ByteArray := prog_1_method_25_code
def yX6_isPrime : MethodName := ⟨RX6, "isPrime", "(I)Z"⟩
abbrev cX6_leafStart : ByteArray := prog_1_method_26_code
def yX6_leafStart : MethodName := ⟨RX6, "leafStart", "(II)I"⟩
abbrev cX6_refusalOfRow : ByteArray := prog_1_method_27_code
def yX6_refusalOfRow : MethodName := ⟨RX6, "refusalOfRow", "(II)I"⟩
abbrev cX6_remainder : ByteArray := prog_1_method_28_code
def yX6_remainder : MethodName := ⟨RX6, "remainder", "(II)I"⟩
abbrev cX6_inverse : ByteArray := prog_1_method_29_code
def yX6_inverse : MethodName := ⟨RX6, "inverse", "(II)I"⟩
abbrev cX6_addRowsOfText : ByteArray := prog_1_method_30_code
def yX6_addRowsOfText : MethodName := ⟨RX6, "addRowsOfText", "(LBlockRanks$Table;II)V"⟩
abbrev cX6_formulaCell : ByteArray := prog_1_method_31_code
def yX6_formulaCell : MethodName := ⟨RX6, "formulaCell", "(LBlockRanks$Table;LBlockRanks$Table;II)I"⟩
abbrev cX6_productCell : ByteArray := prog_1_method_32_code
def yX6_productCell : MethodName := ⟨RX6, "productCell", "(LBlockRanks$Table;LBlockRanks$Table;II)I"⟩
abbrev cX6_putFactors : ByteArray := prog_1_method_33_code
def yX6_putFactors : MethodName := ⟨RX6, "putFactors", "(LBlockRanks$Table;LBlockRanks$Table;)V"⟩
abbrev cX6_blockRank : ByteArray := prog_1_method_34_code
def yX6_blockRank : MethodName := ⟨RX6, "blockRank", "(LBlockRanks$Table;II)I"⟩
abbrev cX6_tableDeterminant : ByteArray := prog_1_method_35_code
def yX6_tableDeterminant : MethodName := ⟨RX6, "tableDeterminant", "(LBlockRanks$Table;)I"⟩
abbrev cX6_leafCost : ByteArray := prog_1_method_36_code
def yX6_leafCost : MethodName := ⟨RX6, "leafCost", "(II)I"⟩
abbrev cX6_costOfTables : ByteArray := prog_1_method_37_code
def yX6_costOfTables : MethodName := ⟨RX6, "costOfTables", "(II)I"⟩
abbrev cX6_greatestLeafRank : ByteArray := prog_1_method_38_code
def yX6_greatestLeafRank : MethodName := ⟨RX6, "greatestLeafRank", "(LBlockRanks$Table;)I"⟩
abbrev cX6_leavesOfAll : ByteArray := prog_1_method_39_code
def yX6_leavesOfAll : MethodName := ⟨RX6, "leavesOfAll", "()I"⟩
abbrev cX6_findLeastTree : ByteArray := prog_1_method_40_code
def yX6_findLeastTree : MethodName := ⟨RX6, "findLeastTree", "(LBlockRanks$Table;)I"⟩
abbrev cX6_leastCostOfQuarters : ByteArray := prog_1_method_41_code
def yX6_leastCostOfQuarters : MethodName := ⟨RX6, "leastCostOfQuarters", "(II)I"⟩
def RX7 : String := "BlockRanksModel"
def TX7 : u_T := fun k => match k with
  | 0 => ("BlockRanksModel", "row", "[I", true)
  | 1 => ("BlockRanksModel", "past", "[I", true)
  | 2 => ("BlockRanksModel", "aside", "[I", true)
  | 3 => ("BlockRanksModel", "states", "I", false)
  | 4 => ("BlockRanksModel", "isAside", "Z", false)
  | 5 => ("BlockRanksModel", "text", "[C", true)
  | 6 => ("BlockRanksModel", "length", "I", false)
  | 7 => ("BlockRanksModel", "at", "I", false)
  | 8 => ("BlockRanksModel", "read", "[I", true)
  | 9 => ("BlockRanksModel", "work", "[I", true)
  | 10 => ("BlockRanksModel", "made", "[I", true)
  | 11 => ("BlockRanksModel", "least", "[I", true)
  | 12 => ("BlockRanksModel", "isSplit", "[Z", true)
  | _ => ("BlockRanksModel", "determinant", "I", false)
def tyX7 : Nat → FieldType := fun k => match k with
  | 0 => .array .int
  | 1 => .array .int
  | 2 => .array .int
  | 3 => .int
  | 4 => .boolean
  | 5 => .array .char
  | 6 => .int
  | 7 => .int
  | 8 => .array .int
  | 9 => .array .int
  | 10 => .array .int
  | 11 => .array .int
  | 12 => .array .boolean
  | _ => .int
abbrev wsX70 : List Cond := u_ws RX7 TX7 14
theorem nmX7 : ∀ a, a < 14 → ∀ b, b < 14 → a ≠ b → (TX7 a).2.1 ≠ (TX7 b).2.1 := by decide +kernel
theorem tyX7_ok : ∀ k, k < 14 → parseFieldDescriptor (TX7 k).2.2.1 = some (tyX7 k) := by decide +kernel
abbrev cX7_init : ByteArray := prog_9_method_1_code
def yX7_init : MethodName := ⟨RX7, "<init>", "()V"⟩
abbrev cX7_in : ByteArray := prog_9_method_2_code
def yX7_in : MethodName := ⟨RX7, "in", "(III)Z"⟩
abbrev cX7_record : ByteArray := prog_9_method_3_code
def yX7_record : MethodName := ⟨RX7, "record", "()V"⟩
abbrev cX7_undo : ByteArray := prog_9_method_4_code
def yX7_undo : MethodName := ⟨RX7, "undo", "()I"⟩
abbrev cX7_keep : ByteArray := prog_9_method_5_code
def yX7_keep : MethodName := ⟨RX7, "keep", "()I"⟩
abbrev cX7_restore : ByteArray := prog_9_method_6_code
def yX7_restore : MethodName := ⟨RX7, "restore", "()I"⟩
abbrev cX7_noTable : ByteArray := prog_9_method_7_code
def yX7_noTable : MethodName := ⟨RX7, "noTable", "(I)Z"⟩
abbrev cX7_noPlace : ByteArray := prog_9_method_8_code
def yX7_noPlace : MethodName := ⟨RX7, "noPlace", "(I)Z"⟩
abbrev cX7_cellAt : ByteArray := prog_9_method_9_code
def yX7_cellAt : MethodName := ⟨RX7, "cellAt", "(III)I"⟩
abbrev cX7_mod : ByteArray := prog_9_method_10_code
def yX7_mod : MethodName := ⟨RX7, "mod", "(I)I"⟩
abbrev cX7_quotient : ByteArray := prog_9_method_11_code
def yX7_quotient : MethodName := ⟨RX7, "quotient", "(II)I"⟩
abbrev cX7_isPrime : ByteArray := prog_9_method_12_code
def yX7_isPrime : MethodName := ⟨RX7, "isPrime", "(I)Z"⟩
abbrev cX7_setPrime : ByteArray := prog_9_method_13_code
def yX7_setPrime : MethodName := ⟨RX7, "setPrime", "(I)I"⟩
abbrev cX7_set : ByteArray := prog_9_method_14_code
def yX7_set : MethodName := ⟨RX7, "set", "(IIII)I"⟩
abbrev cX7_rowOf : ByteArray := prog_9_method_15_code
def yX7_rowOf : MethodName := ⟨RX7, "rowOf", "(I)I"⟩
abbrev cX7_columnOf : ByteArray := prog_9_method_16_code
def yX7_columnOf : MethodName := ⟨RX7, "columnOf", "(I)I"⟩
abbrev cX7_isSplitAt : ByteArray := prog_9_method_17_code
def yX7_isSplitAt : MethodName := ⟨RX7, "isSplitAt", "(II)Z"⟩
abbrev cX7_sizeAt : ByteArray := prog_9_method_18_code
def yX7_sizeAt : MethodName := ⟨RX7, "sizeAt", "(II)I"⟩
abbrev cX7_beginOf : ByteArray := prog_9_method_19_code
def yX7_beginOf : MethodName := ⟨RX7, "beginOf", "(II)I"⟩
abbrev cX7_leavesTo : ByteArray := prog_9_method_20_code
def yX7_leavesTo : MethodName := ⟨RX7, "leavesTo", "(II)I"⟩
abbrev cX7_layBlock : ByteArray := prog_9_method_21_code
def yX7_layBlock : MethodName := ⟨RX7, "layBlock", "(IIII)V"⟩
abbrev cX7_reduce : ByteArray := prog_9_method_22_code
def yX7_reduce : MethodName := ⟨RX7, "reduce", "(II)I"⟩
abbrev cX7_exchange : ByteArray := prog_9_method_23_code
def yX7_exchange : MethodName := ⟨RX7, "exchange", "(III)V"⟩
abbrev cX7_clear : ByteArray := prog_9_method_24_code
def yX7_clear : MethodName := ⟨RX7, "clear", "(IIII)V"⟩
abbrev cX7_rank : ByteArray := prog_9_method_25_code
def yX7_rank : MethodName := ⟨RX7, "rank", "(III)I"⟩
abbrev cX7_costOf : ByteArray := prog_9_method_26_code
def yX7_costOf : MethodName := ⟨RX7, "costOf", "(III)I"⟩
abbrev cX7_overLeaves : ByteArray := prog_9_method_27_code
def yX7_overLeaves : MethodName := ⟨RX7, "overLeaves", "(IZ)I"⟩
abbrev cX7_findLeast : ByteArray := prog_9_method_28_code
def yX7_findLeast : MethodName := ⟨RX7, "findLeast", "(I)V"⟩
abbrev cX7_leastLeaves : ByteArray := prog_9_method_29_code
def yX7_leastLeaves : MethodName := ⟨RX7, "leastLeaves", "()I"⟩
abbrev cX7_type : ByteArray := prog_9_method_30_code
def yX7_type : MethodName := ⟨RX7, "type", "(C)I"⟩
abbrev cX7_clearText : ByteArray := prog_9_method_31_code
def yX7_clearText : MethodName := ⟨RX7, "clearText", "()I"⟩
abbrev cX7_sees : ByteArray := prog_9_method_32_code
def yX7_sees : MethodName := ⟨RX7, "sees", "(II)Z"⟩
abbrev cX7_takes : ByteArray := prog_9_method_33_code
def yX7_takes : MethodName := ⟨RX7, "takes", "(I)Z"⟩
abbrev cX7_readRow : ByteArray := prog_9_method_34_code
def yX7_readRow : MethodName := ⟨RX7, "readRow", "(II)Z"⟩
abbrev cX7_areLess : ByteArray := prog_9_method_35_code
def yX7_areLess : MethodName := ⟨RX7, "areLess", "(I)Z"⟩
abbrev cX7_readTwo : ByteArray := prog_9_method_36_code
def yX7_readTwo : MethodName := ⟨RX7, "readTwo", "(I)Z"⟩
abbrev cX7_noLeaf : ByteArray := prog_9_method_37_code
def yX7_noLeaf : MethodName := ⟨RX7, "noLeaf", "(II)Z"⟩
abbrev cX7_addProduct : ByteArray := prog_9_method_38_code
def yX7_addProduct : MethodName := ⟨RX7, "addProduct", "(II)I"⟩
abbrev cX7_cellOf : ByteArray := prog_9_method_39_code
def yX7_cellOf : MethodName := ⟨RX7, "cellOf", "(III)I"⟩
abbrev cX7_worked : ByteArray := prog_9_method_40_code
def yX7_worked : MethodName := ⟨RX7, "worked", "(IIIII)I"⟩
abbrev cX7_lay : ByteArray := prog_9_method_41_code
def yX7_lay : MethodName := ⟨RX7, "lay", "(I)V"⟩
abbrev cX7_work : ByteArray := prog_9_method_42_code
def yX7_work : MethodName := ⟨RX7, "work", "()I"⟩
abbrev cX7_divide : ByteArray := prog_9_method_43_code
def yX7_divide : MethodName := ⟨RX7, "divide", "()Z"⟩
abbrev cX7_factor : ByteArray := prog_9_method_44_code
def yX7_factor : MethodName := ⟨RX7, "factor", "(III)I"⟩
abbrev cX7_nodeOf : ByteArray := prog_9_method_45_code
def yX7_nodeOf : MethodName := ⟨RX7, "nodeOf", "(II)I"⟩
abbrev cX7_split : ByteArray := prog_9_method_46_code
def yX7_split : MethodName := ⟨RX7, "split", "(II)I"⟩
abbrev cX7_join : ByteArray := prog_9_method_47_code
def yX7_join : MethodName := ⟨RX7, "join", "(II)I"⟩
abbrev cX7_recompress : ByteArray := prog_9_method_48_code
def yX7_recompress : MethodName := ⟨RX7, "recompress", "(I)I"⟩
abbrev cX7_cell : ByteArray := prog_9_method_49_code
def yX7_cell : MethodName := ⟨RX7, "cell", "(III)I"⟩
abbrev cX7_determinantOf : ByteArray := prog_9_method_50_code
def yX7_determinantOf : MethodName := ⟨RX7, "determinantOf", "(I)I"⟩
abbrev cX7_diagonal : ByteArray := prog_9_method_51_code
def yX7_diagonal : MethodName := ⟨RX7, "diagonal", "(I)I"⟩
abbrev cX7_notZero : ByteArray := prog_9_method_52_code
def yX7_notZero : MethodName := ⟨RX7, "notZero", "(I)I"⟩
abbrev cX7_table : ByteArray := prog_9_method_53_code
def yX7_table : MethodName := ⟨RX7, "table", "(II)I"⟩
abbrev cX7_leaf : ByteArray := prog_9_method_54_code
def yX7_leaf : MethodName := ⟨RX7, "leaf", "(III)I"⟩
abbrev cX7_leafAt : ByteArray := prog_9_method_55_code
def yX7_leafAt : MethodName := ⟨RX7, "leafAt", "(III)I"⟩
abbrev cX7_differ : ByteArray := prog_9_method_56_code
def yX7_differ : MethodName := ⟨RX7, "differ", "(II)I"⟩
abbrev cX7_against : ByteArray := prog_9_method_57_code
def yX7_against : MethodName := ⟨RX7, "against", "(II)I"⟩
abbrev cX7_times : ByteArray := prog_9_method_58_code
def yX7_times : MethodName := ⟨RX7, "times", "(II)I"⟩
abbrev cX7_solve : ByteArray := prog_9_method_59_code
def yX7_solve : MethodName := ⟨RX7, "solve", "(II)I"⟩
abbrev cX7_overTables : ByteArray := prog_9_method_60_code
def yX7_overTables : MethodName := ⟨RX7, "overTables", "(Z)I"⟩
abbrev cX7_count : ByteArray := prog_9_method_61_code
def yX7_count : MethodName := ⟨RX7, "count", "(I)I"⟩
def RJ9 : String := "java/lang/Math"
def TJ9 : u_T := fun k => match k with
  | _ => ("", "", "", false)
def tyJ9 : Nat → FieldType := fun k => match k with
  | _ => .int
abbrev wsJ90 : List Cond := u_ws RJ9 TJ9 0
theorem nmJ9 : ∀ a, a < 0 → ∀ b, b < 0 → a ≠ b → (TJ9 a).2.1 ≠ (TJ9 b).2.1 := by decide +kernel
theorem tyJ9_ok : ∀ k, k < 0 → parseFieldDescriptor (TJ9 k).2.2.1 = some (tyJ9 k) := by decide +kernel
abbrev cJ9_max_7cf53 : ByteArray := prog_10_method_65_code
def yJ9_max_7cf53 : MethodName := ⟨RJ9, "max", "(II)I"⟩
abbrev cJ9_min_7cf53 : ByteArray := prog_10_method_69_code
def yJ9_min_7cf53 : MethodName := ⟨RJ9, "min", "(II)I"⟩
def RJ10 : String := "java/lang/System"
def TJ10 : u_T := fun k => match k with
  | _ => ("", "", "", false)
def tyJ10 : Nat → FieldType := fun k => match k with
  | _ => .int
abbrev wsJ100 : List Cond := u_ws RJ10 TJ10 0
theorem nmJ10 : ∀ a, a < 0 → ∀ b, b < 0 → a ≠ b → (TJ10 a).2.1 ≠ (TJ10 b).2.1 := by decide +kernel
theorem tyJ10_ok : ∀ k, k < 0 → parseFieldDescriptor (TJ10 k).2.2.1 = some (tyJ10 k) := by decide +kernel
def RL : String := "BlockRanksLaw"
abbrev cL_law : ByteArray := code
def yL_law : MethodName := ⟨RL, "law", "([I)Z"⟩
abbrev vwCl : List vw_C := [(RX0, TX0, 5), (RX1, TX1, 2), (RX2, TX2, 2), (RX3, TX3, 2), (RX4, TX4, 9), (RX5, TX5, 1), (RX6, TX6, 9), (RX7, TX7, 14)]
end
section
/-! ===== ints as integers ===== -/
def iI (z : Int) : Int32 := Int32.ofInt z
abbrev vi (z : Int) : Value := .int (iI z)
def R32 (z : Int) : Prop := -2147483648 ≤ z ∧ z < 2147483648
theorem iI_add (a b : Int) : iI a + iI b = iI (a + b) := (Int32.ofInt_add a b).symm
theorem iI_sub (a b : Int) : iI a - iI b = iI (a - b) := (Int32.ofInt_sub a b).symm
theorem iI_mul (a b : Int) : iI a * iI b = iI (a * b) := (Int32.ofInt_mul a b).symm
theorem iI_neg (a : Int) : - iI a = iI (- a) := (Int32.ofInt_neg a).symm
theorem iI_toInt {z : Int} (h : R32 z) : (iI z).toInt = z := Int32.toInt_ofInt_of_le (by have := h.1; omega) (by have := h.2; omega)
theorem iI_of (x : Int32) : iI x.toInt = x := Int32.ofInt_toInt x
theorem R32_toInt (x : Int32) : R32 x.toInt := ⟨by have := Int32.le_toInt x; omega, by have := Int32.toInt_lt x; omega⟩
theorem iI_inj {a b : Int} (ha : R32 a) (hb : R32 b) : iI a = iI b ↔ a = b := ⟨fun h => by rw [← iI_toInt ha, ← iI_toInt hb, h], fun h => by rw [h]⟩
theorem iI_lt {a b : Int} (ha : R32 a) (hb : R32 b) : iI a < iI b ↔ a < b := by rw [Int32.lt_iff_toInt_lt, iI_toInt ha, iI_toInt hb]
theorem iI_le {a b : Int} (ha : R32 a) (hb : R32 b) : iI a ≤ iI b ↔ a ≤ b := by rw [Int32.le_iff_toInt_le, iI_toInt ha, iI_toInt hb]
theorem iI_0 : iI 0 = 0 := rfl
theorem R32_0 : R32 0 := ⟨by omega, by omega⟩
theorem iI_cl {z : Int} (h : R32 z) : (iI z).toNatClampNeg = z.toNat := by
  show (iI z).toInt.toNat = _
  rw [iI_toInt h]
theorem iI_vin {z : Int} {n : Nat} (h0 : 0 ≤ z) (h : z < n) (hr : R32 z) : vp_in (iI z) n := vp_in_iff.mpr ⟨by rw [iI_toInt hr]; exact h0, by rw [iI_toInt hr]; exact h⟩
theorem iI_nat (n : Nat) : Int32.ofNat n = iI n := by
  show _ = Int32.ofInt n
  exact (Int32.ofInt_eq_ofNat ).symm
theorem tdiv_R32 {a b : Int} (ha : R32 a) (hb : 0 < b) (hb2 : R32 b) : R32 (a.tdiv b) := by
  obtain ⟨h1, h2⟩ := ha
  have h := Int.natAbs_tdiv a b
  have h3 : (a.tdiv b).natAbs ≤ a.natAbs := by rw [h]; exact Nat.div_le_self _ _
  constructor
  · omega
  · rcases (show a < 0 ∨ 0 ≤ a by omega) with q | q
    · have : a.tdiv b ≤ 0 := by
        have h5 := Int.tdiv_nonneg (a := -a) (b := b) (by omega) (by omega)
        rw [Int.neg_tdiv] at h5
        omega
      omega
    · omega
theorem iI_div {a b : Int} (ha : R32 a) (hb : R32 b) (h0 : 0 < b) : iI a / iI b = iI (a.tdiv b) := by
  apply Int32.toInt_inj.mp
  rw [iI_toInt (tdiv_R32 ha h0 hb), Int32.toInt_div, iI_toInt ha, iI_toInt hb]
  have h := tdiv_R32 ha h0 hb
  rw [Int.bmod_eq_of_le] <;> (unfold R32 at h; omega)
theorem iI_rem {a b : Int} (ha : R32 a) (hb : R32 b) (h0 : 0 < b) : iI a - iI a / iI b * iI b = iI (a.tmod b) := by
  rw [iI_div ha hb h0, iI_mul, iI_sub]
  congr 1
  have := Int.tmod_add_mul_tdiv a b
  rw [Int.mul_comm b] at this
  omega
theorem iI_ne0 {b : Int} (hb : R32 b) (h0 : b ≠ 0) : ¬ iI b = 0 := fun h => h0 ((iI_inj hb R32_0).mp (h.trans iI_0.symm))
/-- f, but v at k -/
def fup {α : Type} (f : Nat → α) (k : Nat) (v : α) : Nat → α := fun j => if j = k then v else f j
theorem fup_upd (f : Nat → Int) (k : Nat) (x : Int) : upd (fun j => iI (f j)) k (iI x) = fun j => iI (fup f k x j) := by
  funext j
  unfold upd fup
  split <;> rfl
/-! ===== worlds by address ===== -/
abbrev Wd : Type := Nat → Option va_E
def wup (σ : Wd) (a : Nat) (e : va_E) : Wd := fun q => if q = a then some e else σ q
theorem wup_s (σ : Wd) (a : Nat) (e : va_E) : wup σ a e a = some e := if_pos rfl
theorem wup_n {σ : Wd} {a b : Nat} {e : va_E} (h : b ≠ a) : wup σ a e b = σ b := if_neg h
theorem wup_of {σ : Wd} {a b : Nat} {e x : va_E} (h : σ b = some x) (hn : b ≠ a) : wup σ a e b = some x := by rw [wup_n hn]; exact h
theorem wup_wup (σ : Wd) (a : Nat) (e e' : va_E) : wup (wup σ a e) a e' = wup σ a e' := by
  funext q
  unfold wup
  split <;> rfl
theorem wup_id {σ : Wd} {a : Nat} {e : va_E} (h : σ a = some e) : wup σ a e = σ := by
  funext q
  unfold wup
  split
  · next h1 => rw [h1, h]
  · rfl
theorem wup_swap {σ : Wd} {a b : Nat} {e e' : va_E} (h : a ≠ b) : wup (wup σ a e) b e' = wup (wup σ b e') a e := by
  funext q
  unfold wup
  by_cases h1 : q = a
  · by_cases h2 : q = b
    · exact absurd (h1.symm.trans h2) h
    · simp [h1, h]
  · by_cases h2 : q = b <;> simp [h1, h2, Ne.symm h]
/-- D: class ids and slots; the ids of the arrays' classes: 0 int, 1 char, 2 boolean, 3 Table, 4 State, 5 int[] -/
abbrev gD : Type := va_G × (Nat → ClassId)
abbrev tysOf (D : gD) : List (ClassId × FieldType) := [(D.2 0, .int), (D.2 1, .char), (D.2 2, .boolean), (D.2 3, .object "BlockRanks$Table"), (D.2 4, .object "BlockRanks$State"), (D.2 5, .array .int)]
abbrev ia (D : gD) (n : Nat) (f : Nat → Int) : va_E := .inl (D.2 0, n, .inl (fun j => iI (f j)))
abbrev ca (D : gD) (n : Nat) (f : Nat → Int) : va_E := .inl (D.2 1, n, .inl (fun j => iI (f j)))
abbrev za (D : gD) (n : Nat) (f : Nat → Int) : va_E := .inl (D.2 2, n, .inl (fun j => iI (f j)))
abbrev qa (D : gD) (k n : Nat) (f : Nat → Option Nat) : va_E := .inl (D.2 k, n, .inr (.inr (.inr (.inr f))))
def XR (D : gD) (U : State) : Prop := ∃ (kR kI : Class), U.vm.classes[D.2 5]? = some kR ∧ kR.kind = .array (D.2 0) (.array .int) ∧ U.vm.classes[D.2 0]? = some kI ∧ U.vm.assignable (D.2 0) (D.2 0) = true
theorem XR.moved {D : gD} {u U : State} (hvm : u.vm.Alike U.vm) (h : XR D u) : XR D U := by
  obtain ⟨kR, kI, h1, h2, h3, h4⟩ := h
  obtain ⟨kR', q1, q2⟩ := hvm.2.2 _ _ h1
  obtain ⟨kI', q3, q4⟩ := hvm.2.2 _ _ h3
  exact ⟨kR', kI', q1, by rw [q2]; exact h2, q3, by rw [hvm.assignable]; exact h4⟩
def KK (D : gD) (U : State) : Prop := va_K D.1 vwCl (tysOf D) U ∧ XR D U
theorem KK.moved {D : gD} {u U : State} (hvm : u.vm.Alike U.vm) (h : KK D u) : KK D U := ⟨va_K.moved hvm h.1, h.2.moved hvm⟩
def isNest : Cond → Bool
  | .methodLinkNest .. => true
  | .fieldLinkNest .. => true
  | _ => false
def TBl : List Cond := lw_tbl.filter (fun w => goodWord w || isNest w)
def TB (U : State) : Prop := ∀ w ∈ TBl, ∀ a : Array Value, w.before a U = true
theorem TB.warm {s U : State} (hW : s.WarmedH U.vm) (h : TB s) : TB U := by
  intro w hw a
  have hg := (List.mem_filter.mp hw).2
  rw [Bool.or_eq_true] at hg
  rcases hg with hg | hg
  · exact word_at hW (good_of_word hg) (h w hw #[])
  · cases w <;> first | (simp [isNest] at hg; done) | skip
    · exact va_Nw.use rfl (va_Nw.warmM hW (va_Nw.of rfl (h _ hw #[])))
    · exact va_Nw.use rfl (va_Nw.warmF hW (va_Nw.of rfl (h _ hw #[])))
theorem TB_in {w : Cond} (n : Nat) (h : lw_tbl[n]? = some w) (hg : (goodWord w || isNest w) = true) : w ∈ TBl := List.mem_filter.mpr ⟨List.mem_of_getElem? h, hg⟩
def HW (D : gD) (σ : Wd) (H : Heap) : Prop := ∃ ws : va_W, va_P D.1 vwCl ws H ∧ va_D (fun _ => True) ws ∧ ∀ (a : Nat) (e : va_E), σ a = some e ↔ ∃ k : Nat, ws[k]? = some (a, e)
theorem HW.lt {D : gD} {σ : Wd} {H : Heap} (h : HW D σ H) {a : Nat} {e : va_E} (ha : σ a = some e) : a < H.size := by
  obtain ⟨ws, hP, -, hs⟩ := h
  obtain ⟨k, hk⟩ := (hs a e).mp ha
  exact (hP k _ hk).lt
theorem HW.set' {D : gD} {σ : Wd} {H1 : Heap} {A : Nat → Prop} {ws : va_W} {q0 a : Nat} {e0 e : va_E} (hs : ∀ (a : Nat) (e : va_E), σ a = some e ↔ ∃ k : Nat, ws[k]? = some (a, e)) (h0 : ws[q0]? = some (a, e0))
    (hP1 : va_P D.1 vwCl (ws.set q0 (a, e)) H1) (hD1 : va_D A (ws.set q0 (a, e))) : HW D (wup σ a e) H1 := by
  have hl := (List.getElem?_eq_some_iff.mp h0).1
  refine ⟨_, hP1, hD1.weaken (fun _ _ _ _ => trivial), fun b x => ?_⟩
  by_cases hb : b = a
  · subst hb
    rw [wup_s]
    constructor
    · intro h
      cases h
      exact ⟨q0, List.getElem?_set_self hl⟩
    · rintro ⟨k, hk⟩
      have h1 : (ws.set q0 (b, e))[q0]? = some (b, e) := List.getElem?_set_self hl
      have := hD1.1 k q0 _ _ hk h1 rfl
      subst this
      rw [hk] at h1
      cases h1
      rfl
  · rw [wup_n hb, hs]
    constructor
    · rintro ⟨k, hk⟩
      have hne : q0 ≠ k := fun z => hb (by subst z; rw [hk] at h0; cases h0; rfl)
      exact ⟨k, by rw [List.getElem?_set_ne hne]; exact hk⟩
    · rintro ⟨k, hk⟩
      by_cases hne : q0 = k
      · subst hne
        rw [List.getElem?_set_self hl] at hk
        cases hk
        exact absurd rfl hb
      · rw [List.getElem?_set_ne hne] at hk
        exact ⟨k, hk⟩
theorem HW.push {D : gD} {σ : Wd} {H1 : Heap} {A : Nat → Prop} {ws : va_W} {a : Nat} {e : va_E} (hs : ∀ (a : Nat) (e : va_E), σ a = some e ↔ ∃ k : Nat, ws[k]? = some (a, e))
    (hP1 : va_P D.1 vwCl (ws ++ [(a, e)]) H1) (hD1 : va_D A (ws ++ [(a, e)])) : HW D (wup σ a e) H1 := by
  refine ⟨_, hP1, hD1.weaken (fun _ _ _ _ => trivial), fun b x => ?_⟩
  have hlast : (ws ++ [(a, e)])[ws.length]? = some (a, e) := by simp
  by_cases hb : b = a
  · subst hb
    rw [wup_s]
    constructor
    · intro h
      cases h
      exact ⟨ws.length, hlast⟩
    · rintro ⟨k, hk⟩
      have := hD1.1 k ws.length _ _ hk hlast rfl
      subst this
      rw [hk] at hlast
      cases hlast
      rfl
  · rw [wup_n hb, hs]
    constructor
    · rintro ⟨k, hk⟩
      exact ⟨k, by rw [List.getElem?_append_left (List.getElem?_eq_some_iff.mp hk).1]; exact hk⟩
    · rintro ⟨k, hk⟩
      by_cases hl : k < ws.length
      · rw [List.getElem?_append_left hl] at hk
        exact ⟨k, hk⟩
      · have : k < (ws ++ [(a, e)]).length := (List.getElem?_eq_some_iff.mp hk).1
        have hkl : k = ws.length := by simp at this; omega
        subst hkl
        rw [hlast] at hk
        cases hk
        exact absurd rfl hb
/-! ===== locals by place ===== -/
def posl : Nat → List (Option Value) → List (Nat × Value)
  | _, [] => []
  | k, none :: L => posl (k + 1) L
  | k, some v :: L => (k, v) :: posl (k + 1) L
theorem posl_mem : ∀ (L : List (Option Value)) (k : Nat) (q : Nat × Value), q ∈ posl k L ↔ ∃ j : Nat, q.1 = k + j ∧ L[j]? = some (some q.2)
  | [], k, q => by simp [posl]
  | none :: L, k, q => by
    show q ∈ posl (k + 1) L ↔ _
    rw [posl_mem L (k + 1) q]
    constructor
    · rintro ⟨j, h1, h2⟩
      exact ⟨j + 1, by omega, by simpa using h2⟩
    · rintro ⟨j, h1, h2⟩
      cases j with
      | zero => simp at h2
      | succ j => exact ⟨j, by omega, by simpa using h2⟩
  | some v :: L, k, q => by
    show q ∈ (k, v) :: posl (k + 1) L ↔ _
    rw [List.mem_cons, posl_mem L (k + 1) q]
    constructor
    · rintro (h | ⟨j, h1, h2⟩)
      · subst h
        exact ⟨0, rfl, rfl⟩
      · exact ⟨j + 1, by omega, by simpa using h2⟩
    · rintro ⟨j, h1, h2⟩
      cases j with
      | zero =>
        left
        simp at h2
        obtain ⟨q1, q2⟩ := q
        simp at h1 h2
        rw [h1, h2]
      | succ j => exact Or.inr ⟨j, by omega, by simpa using h2⟩
def LH (ls : Array Slot) (nL : Nat) (L : List (Option Value)) : Prop := lv_has ls nL (posl 0 L) ∧ ∀ (i : Nat) (v : Value), L[i]? = some (some v) → v.category = 1
theorem LH.at {ls : Array Slot} {nL : Nat} {L : List (Option Value)} (h : LH ls nL L) {i : Nat} {v : Value} (hi : L[i]? = some (some v)) : ls[i]? = some (.val v) :=
  h.1.2.2 (i, v) ((posl_mem L 0 (i, v)).mpr ⟨i, by simp, hi⟩)
theorem LH.put {ls : Array Slot} {nL : Nat} {L : List (Option Value)} (h : LH ls nL L) (i : Nat) {v : Value} (hv : v.category = 1) {ls' : Array Slot} (h' : lv_has ls' nL ((i, v) :: (posl 0 L).filter (fun q => !(q.1 == i) && !(q.1 + 1 == i && q.2.category == 2)))) : LH ls' nL (L.set i (some v)) := by
  refine ⟨⟨h'.1, h'.2.1, fun q hq => h'.2.2 q ?_⟩, fun j w hw => ?_⟩
  · obtain ⟨j, h1, h2⟩ := (posl_mem _ 0 q).mp hq
    by_cases hj : j = i
    · subst hj
      obtain ⟨q1, q2⟩ := q
      have hlt : j < L.length := by
        have := (List.getElem?_eq_some_iff.mp h2).1
        simpa using this
      rw [List.getElem?_set_self hlt] at h2
      simp at h1 h2
      subst h1
      subst h2
      exact List.mem_cons_self
    · rw [List.getElem?_set_ne (Ne.symm hj)] at h2
      refine List.mem_cons_of_mem _ (List.mem_filter.mpr ⟨(posl_mem L 0 q).mpr ⟨j, h1, h2⟩, ?_⟩)
      have hc := h.2 j q.2 h2
      have : q.1 ≠ i := by omega
      simp [this, hc]
  · by_cases hj : j = i
    · subst hj
      have hlt : j < L.length := by
        have := (List.getElem?_eq_some_iff.mp hw).1
        simpa using this
      rw [List.getElem?_set_self hlt] at hw
      simp at hw
      rw [← hw]
      exact hv
    · rw [List.getElem?_set_ne (Ne.symm hj)] at hw
      exact h.2 j w hw
/-- fewer locals -/
def LLe : List (Option Value) → List (Option Value) → Prop
  | [], _ => True
  | none :: L, _ :: M => LLe L M
  | some v :: L, x :: M => x = some v ∧ LLe L M
  | none :: L, [] => LLe L []
  | some _ :: _, [] => False
theorem LLe.get : ∀ {L M : List (Option Value)}, LLe L M → ∀ {i : Nat} {v : Value}, L[i]? = some (some v) → M[i]? = some (some v)
  | [], M, _, i, v, h => by simp at h
  | none :: L, x :: M, h, i, v, hi => by
    cases i with
    | zero => simp at hi
    | succ i =>
      have h' : LLe L M := h
      have := h'.get (i := i) (v := v) (by simpa using hi)
      simpa using this
  | some w :: L, x :: M, h, i, v, hi => by
    obtain ⟨h1, h2⟩ := h
    cases i with
    | zero =>
      simp at hi
      simp [h1, hi]
    | succ i =>
      have := h2.get (i := i) (v := v) (by simpa using hi)
      simpa using this
  | none :: L, [], h, i, v, hi => by
    cases i with
    | zero => simp at hi
    | succ i =>
      have h' : LLe L [] := h
      have := h'.get (i := i) (v := v) (by simpa using hi)
      simp at this
  | some _ :: _, [], h, _, _, _ => h.elim
theorem LH.le {ls : Array Slot} {nL : Nat} {L M : List (Option Value)} (h : LH ls nL M) (hl : LLe L M) : LH ls nL L :=
  ⟨⟨h.1.1, h.1.2.1, fun q hq => by
    obtain ⟨j, h1, h2⟩ := (posl_mem L 0 q).mp hq
    exact h.1.2.2 q ((posl_mem M 0 q).mpr ⟨j, h1, hl.get h2⟩)⟩, fun i v hi => h.2 i v (hl.get hi)⟩
end
section
/-! ===== the judgement: a method's frame at pc, over a world ===== -/
def JC (D : gD) (y : MethodName) (cc : ByteArray) (nL : Nat) (rt : Option FieldType) (sz : Nat) (p : Program) (s : State) (m : MethodId) (meth : Method) (c : Code) : Prop :=
  p.tables.exec = Jvm.exec ∧ c.code = cc ∧ c.maxLocals = nL ∧ meth.sig.returnType = rt ∧ s.vm.findClass y.cls = some m.cls ∧ meth.locks = false ∧ meth.name = y.name ∧ TB s ∧ KK D s ∧ s.heap.size = sz
/-- at pc, with the locals L, the stack st and the world σ, k cells of n slots made: it comes to its end -/
def J (l : Launch) (D : gD) (y : MethodName) (cc : ByteArray) (nL : Nat) (rt : Option FieldType) (R : Room) (sz : Nat) (A : Nat → Prop) (QE : List Frame → Array Value → State → State → Prop) (k n pc : Nat) (L : List (Option Value)) (st : List Value) (σ : Wd) : Prop :=
  ∀ (p : Program) (e : Env) (s : State) (m : MethodId) (args : Array Value) (below : List Frame) (meth : Method) (c : Code), JC D y cc nL rt sz p s m meth c →
    ∀ (H : Heap) (locs : List Loc) (ls : Array Slot), LH ls nL L → HW D σ H → (∀ a e, σ a = some e → A a) → (∀ q, sz ≤ q → A q) → va_S A s.heap H locs → W p l e R s m args below meth c H locs k n (QE below args s) (F0 m pc ls st)
section JR
variable {l : Launch} {D : gD} {y : MethodName} {cc : ByteArray} {nL : Nat} {rt : Option FieldType} {R : Room} {sz : Nat} {A : Nat → Prop} {QE : List Frame → Array Value → State → State → Prop} {k n pc : Nat} {L L' : List (Option Value)} {st : List Value} {σ : Wd}
theorem j_go {pc' : Nat} {st st' : List Value}
    (step : ∀ (p : Program) (e : Env) (s : State) (m : MethodId) (args : Array Value) (below : List Frame) (meth : Method) (c : Code), JC D y cc nL rt sz p s m meth c → ∀ (ls : Array Slot), LH ls nL L → ∀ (H : Heap) (locs : List Loc) (Q : State → Prop), W p l e R s m args below meth c H locs k n Q (F0 m pc' ls st') → W p l e R s m args below meth c H locs k n Q (F0 m pc ls st))
    (kk : J l D y cc nL rt R sz A QE k n pc' L st' σ) : J l D y cc nL rt R sz A QE k n pc L st σ :=
  fun p e s m args below meth c C H locs ls hl hW hd hq hS => step p e s m args below meth c C ls hl H locs _ (kk p e s m args below meth c C H locs ls hl hW hd hq hS)
theorem j_weak {M : List (Option Value)} (hl : LLe L M) (kk : J l D y cc nL rt R sz A QE k n pc L st σ) : J l D y cc nL rt R sz A QE k n pc M st σ :=
  fun p e s m args below meth c C H locs ls h hW hd hq hS => kk p e s m args below meth c C H locs ls (h.le hl) hW hd hq hS
theorem j_eqw {σ' : Wd} (h : σ' = σ) (kk : J l D y cc nL rt R sz A QE k n pc L st σ') : J l D y cc nL rt R sz A QE k n pc L st σ := h ▸ kk
theorem j_iconst {z : Int} (hdg : decode cc pc = .ok (.iconst z, 1)) (kk : J l D y cc nL rt R sz A QE k n (pc + 1) L (vi z :: st) σ) : J l D y cc nL rt R sz A QE k n pc L st σ :=
  j_go (fun _ _ _ _ _ _ _ _ C _ _ _ _ _ h => lv_iconst C.1 C.2.1 hdg rfl h) kk
theorem j_bipush {z : Int} (hdg : decode cc pc = .ok (.bipush z, 2)) (hv : (Int8.ofInt z).toInt32 = iI z) (kk : J l D y cc nL rt R sz A QE k n (pc + 2) L (vi z :: st) σ) : J l D y cc nL rt R sz A QE k n pc L st σ :=
  j_go (fun _ _ _ _ _ _ _ _ C _ _ _ _ _ h => lv_bipush C.1 C.2.1 hdg hv h) kk
theorem j_sipush {z : Int} (hdg : decode cc pc = .ok (.sipush z, 3)) (hv : (Int16.ofInt z).toInt32 = iI z) (kk : J l D y cc nL rt R sz A QE k n (pc + 3) L (vi z :: st) σ) : J l D y cc nL rt R sz A QE k n pc L st σ :=
  j_go (fun _ _ _ _ _ _ _ _ C _ _ _ _ _ h => lv_sipush C.1 C.2.1 hdg hv h) kk
theorem j_iload_n {i : Fin 4} {x : Int32} (hdg : decode cc pc = .ok (.iload_n i, 1)) (hl : L[(i : Nat)]? = some (some (.int x))) (kk : J l D y cc nL rt R sz A QE k n (pc + 1) L (.int x :: st) σ) : J l D y cc nL rt R sz A QE k n pc L st σ :=
  j_go (fun _ _ _ _ _ _ _ _ C _ h0 _ _ _ h => lv_iload_n C.1 C.2.1 hdg rfl (h0.at hl) h) kk
theorem j_iload {i : Nat} {x : Int32} (hdg : decode cc pc = .ok (.iload i, 2)) (hl : L[i]? = some (some (.int x))) (kk : J l D y cc nL rt R sz A QE k n (pc + 2) L (.int x :: st) σ) : J l D y cc nL rt R sz A QE k n pc L st σ :=
  j_go (fun _ _ _ _ _ _ _ _ C _ h0 _ _ _ h => lv_iload C.1 C.2.1 hdg (h0.at hl) h) kk
theorem j_aload_n {i : Fin 4} {x : Nat} (hdg : decode cc pc = .ok (.aload_n i, 1)) (hl : L[(i : Nat)]? = some (some (.ref x))) (kk : J l D y cc nL rt R sz A QE k n (pc + 1) L (.ref x :: st) σ) : J l D y cc nL rt R sz A QE k n pc L st σ :=
  j_go (fun _ _ _ _ _ _ _ _ C _ h0 _ _ _ h => lv_aload_n C.1 C.2.1 hdg rfl (h0.at hl) h) kk
theorem j_aload {i : Nat} {x : Nat} (hdg : decode cc pc = .ok (.aload i, 2)) (hl : L[i]? = some (some (.ref x))) (kk : J l D y cc nL rt R sz A QE k n (pc + 2) L (.ref x :: st) σ) : J l D y cc nL rt R sz A QE k n pc L st σ :=
  j_go (fun _ _ _ _ _ _ _ _ C _ h0 _ _ _ h => lv_aload C.1 C.2.1 hdg (h0.at hl) h) kk
theorem j_istore_n {i : Fin 4} {x : Int32} (hdg : decode cc pc = .ok (.istore_n i, 1)) (hn : (i : Nat) < nL) (hL : L.set i (some (.int x)) = L') (kk : J l D y cc nL rt R sz A QE k n (pc + 1) L' st σ) : J l D y cc nL rt R sz A QE k n pc L (.int x :: st) σ :=
  fun p e s m args below meth c C H locs ls hl hW hd hq hS => lv_istore_n C.1 C.2.1 hdg rfl hl.1 hn rfl (fun ls' h' => kk p e s m args below meth c C H locs ls' (hL ▸ hl.put i rfl h') hW hd hq hS)
theorem j_istore {i : Nat} {x : Int32} (hdg : decode cc pc = .ok (.istore i, 2)) (hn : i < nL) (hL : L.set i (some (.int x)) = L') (kk : J l D y cc nL rt R sz A QE k n (pc + 2) L' st σ) : J l D y cc nL rt R sz A QE k n pc L (.int x :: st) σ :=
  fun p e s m args below meth c C H locs ls hl hW hd hq hS => lv_istore C.1 C.2.1 hdg hl.1 hn rfl (fun ls' h' => kk p e s m args below meth c C H locs ls' (hL ▸ hl.put i rfl h') hW hd hq hS)
theorem j_astore_n {i : Fin 4} {x : Nat} (hdg : decode cc pc = .ok (.astore_n i, 1)) (hn : (i : Nat) < nL) (hL : L.set i (some (.ref x)) = L') (kk : J l D y cc nL rt R sz A QE k n (pc + 1) L' st σ) : J l D y cc nL rt R sz A QE k n pc L (.ref x :: st) σ :=
  fun p e s m args below meth c C H locs ls hl hW hd hq hS => lv_astore_n C.1 C.2.1 hdg rfl hl.1 hn rfl (fun ls' h' => kk p e s m args below meth c C H locs ls' (hL ▸ hl.put i rfl h') hW hd hq hS)
theorem j_astore {i : Nat} {x : Nat} (hdg : decode cc pc = .ok (.astore i, 2)) (hn : i < nL) (hL : L.set i (some (.ref x)) = L') (kk : J l D y cc nL rt R sz A QE k n (pc + 2) L' st σ) : J l D y cc nL rt R sz A QE k n pc L (.ref x :: st) σ :=
  fun p e s m args below meth c C H locs ls hl hW hd hq hS => lv_astore C.1 C.2.1 hdg hl.1 hn rfl (fun ls' h' => kk p e s m args below meth c C H locs ls' (hL ▸ hl.put i rfl h') hW hd hq hS)
theorem j_iinc {i : Nat} {z x : Int} (hdg : decode cc pc = .ok (.iinc i z, 3)) (hl0 : L[i]? = some (some (vi x))) (hn : i < nL) (hL : L.set i (some (vi (x + z))) = L') (kk : J l D y cc nL rt R sz A QE k n (pc + 3) L' st σ) : J l D y cc nL rt R sz A QE k n pc L st σ :=
  fun p e s m args below meth c C H locs ls hl hW hd hq hS => by
    have hmem : (i, vi x) ∈ posl 0 L := (posl_mem L 0 (i, vi x)).mpr ⟨i, by simp, hl0⟩
    obtain ⟨kx, hkx⟩ := List.getElem?_of_mem hmem
    exact lv_iinc (v := iI (x + z)) C.1 C.2.1 hdg hl.1 hkx (iI_add x z) hn rfl (fun ls' h' => kk p e s m args below meth c C H locs ls' (hL ▸ hl.put i rfl h') hW hd hq hS)
theorem j_iadd {a b : Int} (hdg : decode cc pc = .ok (.iadd, 1)) (kk : J l D y cc nL rt R sz A QE k n (pc + 1) L (vi (a + b) :: st) σ) : J l D y cc nL rt R sz A QE k n pc L (vi b :: vi a :: st) σ :=
  j_go (fun _ _ _ _ _ _ _ _ C _ _ _ _ _ h => lv_iadd C.1 C.2.1 hdg (by rw [iI_add]; exact h)) kk
theorem j_isub {a b : Int} (hdg : decode cc pc = .ok (.isub, 1)) (kk : J l D y cc nL rt R sz A QE k n (pc + 1) L (vi (a - b) :: st) σ) : J l D y cc nL rt R sz A QE k n pc L (vi b :: vi a :: st) σ :=
  j_go (fun _ _ _ _ _ _ _ _ C _ _ _ _ _ h => lv_isub C.1 C.2.1 hdg (by rw [iI_sub]; exact h)) kk
theorem j_imul {a b : Int} (hdg : decode cc pc = .ok (.imul, 1)) (kk : J l D y cc nL rt R sz A QE k n (pc + 1) L (vi (a * b) :: st) σ) : J l D y cc nL rt R sz A QE k n pc L (vi b :: vi a :: st) σ :=
  j_go (fun _ _ _ _ _ _ _ _ C _ _ _ _ _ h => lv_imul C.1 C.2.1 hdg (by rw [iI_mul]; exact h)) kk
theorem j_ineg {a : Int} (hdg : decode cc pc = .ok (.ineg, 1)) (kk : J l D y cc nL rt R sz A QE k n (pc + 1) L (vi (- a) :: st) σ) : J l D y cc nL rt R sz A QE k n pc L (vi a :: st) σ :=
  j_go (fun _ _ _ _ _ _ _ _ C _ _ _ _ _ h => lv_ineg C.1 C.2.1 hdg (by rw [iI_neg]; exact h)) kk
theorem j_idiv {a b : Int} (hdg : decode cc pc = .ok (.idiv, 1)) (ha : R32 a) (hb : R32 b) (h0 : 0 < b) (kk : J l D y cc nL rt R sz A QE k n (pc + 1) L (vi (a.tdiv b) :: st) σ) : J l D y cc nL rt R sz A QE k n pc L (vi b :: vi a :: st) σ :=
  j_go (fun _ _ _ _ _ _ _ _ C _ _ _ _ _ h => lv_idiv C.1 C.2.1 hdg (iI_ne0 hb (by omega)) (by rw [iI_div ha hb h0]; exact h)) kk
theorem j_irem {a b : Int} (hdg : decode cc pc = .ok (.irem, 1)) (ha : R32 a) (hb : R32 b) (h0 : 0 < b) (kk : J l D y cc nL rt R sz A QE k n (pc + 1) L (vi (a.tmod b) :: st) σ) : J l D y cc nL rt R sz A QE k n pc L (vi b :: vi a :: st) σ :=
  j_go (fun _ _ _ _ _ _ _ _ C _ _ _ _ _ h => lv_irem C.1 C.2.1 hdg (iI_ne0 hb (by omega)) (by rw [iI_rem ha hb h0]; exact h)) kk
theorem j_iand {a b : Int32} (hdg : decode cc pc = .ok (.iand, 1)) (kk : J l D y cc nL rt R sz A QE k n (pc + 1) L (.int (a &&& b) :: st) σ) : J l D y cc nL rt R sz A QE k n pc L (.int b :: .int a :: st) σ :=
  j_go (fun _ _ _ _ _ _ _ _ C _ _ _ _ _ h => lv_iand C.1 C.2.1 hdg h) kk
theorem j_ior {a b : Int32} (hdg : decode cc pc = .ok (.ior, 1)) (kk : J l D y cc nL rt R sz A QE k n (pc + 1) L (.int (a ||| b) :: st) σ) : J l D y cc nL rt R sz A QE k n pc L (.int b :: .int a :: st) σ :=
  j_go (fun _ _ _ _ _ _ _ _ C _ _ _ _ _ h => lv_ior C.1 C.2.1 hdg h) kk
theorem j_ishl {a b : Int32} (hdg : decode cc pc = .ok (.ishl, 1)) (kk : J l D y cc nL rt R sz A QE k n (pc + 1) L (.int (a <<< (b &&& 31)) :: st) σ) : J l D y cc nL rt R sz A QE k n pc L (.int b :: .int a :: st) σ :=
  j_go (fun _ _ _ _ _ _ _ _ C _ _ _ _ _ h => lv_ishl C.1 C.2.1 hdg h) kk
theorem j_ishr {a b : Int32} (hdg : decode cc pc = .ok (.ishr, 1)) (kk : J l D y cc nL rt R sz A QE k n (pc + 1) L (.int (a >>> (b &&& 31)) :: st) σ) : J l D y cc nL rt R sz A QE k n pc L (.int b :: .int a :: st) σ :=
  j_go (fun _ _ _ _ _ _ _ _ C _ _ _ _ _ h => lv_ishr C.1 C.2.1 hdg h) kk
theorem j_i2c {a : Int32} (hdg : decode cc pc = .ok (.i2c, 1)) (kk : J l D y cc nL rt R sz A QE k n (pc + 1) L (.int (a.toUInt32 % 65536).toInt32 :: st) σ) : J l D y cc nL rt R sz A QE k n pc L (.int a :: st) σ :=
  j_go (fun _ _ _ _ _ _ _ _ C _ _ _ _ _ h => lv_i2c C.1 C.2.1 hdg rfl h) kk
/-- another name of the number on top -/
theorem j_top {x x' : Int32} (h : x = x') (kk : J l D y cc nL rt R sz A QE k n pc L (.int x' :: st) σ) : J l D y cc nL rt R sz A QE k n pc L (.int x :: st) σ := h ▸ kk
theorem j_tops {a a' : Int} (h : a = a') (kk : J l D y cc nL rt R sz A QE k n pc L (vi a' :: st) σ) : J l D y cc nL rt R sz A QE k n pc L (vi a :: st) σ := h ▸ kk
theorem j_dup {v : Value} (hdg : decode cc pc = .ok (.dup, 1)) (hv : v.category = 1) (kk : J l D y cc nL rt R sz A QE k n (pc + 1) L (v :: v :: st) σ) : J l D y cc nL rt R sz A QE k n pc L (v :: st) σ :=
  j_go (fun _ _ _ _ _ _ _ _ C _ _ _ _ _ h => lv_dup C.1 C.2.1 hdg hv h) kk
theorem j_pop {v : Value} (hdg : decode cc pc = .ok (.pop, 1)) (hv : v.category = 1) (kk : J l D y cc nL rt R sz A QE k n (pc + 1) L st σ) : J l D y cc nL rt R sz A QE k n pc L (v :: st) σ :=
  j_go (fun _ _ _ _ _ _ _ _ C _ _ _ _ _ h => lv_pop C.1 C.2.1 hdg hv h) kk
theorem j_dup2 {v w : Value} (hdg : decode cc pc = .ok (.dup2, 1)) (hv : v.category = 1) (hw : w.category = 1) (kk : J l D y cc nL rt R sz A QE k n (pc + 1) L (v :: w :: v :: w :: st) σ) : J l D y cc nL rt R sz A QE k n pc L (v :: w :: st) σ :=
  j_go (fun _ _ _ _ _ _ _ _ C _ _ _ _ _ h => lv_dup2_11 C.1 C.2.1 hdg hv hw h) kk
theorem j_goto {off : Int} {tgt : Nat} (hdg : decode cc pc = .ok (.goto off, 3)) (ht : (pc : Int) + off = (tgt : Int)) (kk : J l D y cc nL rt R sz A QE k n tgt L st σ) : J l D y cc nL rt R sz A QE k n pc L st σ :=
  j_go (fun _ _ _ _ _ _ _ _ C _ _ _ _ _ h => lv_goto C.1 C.2.1 hdg ht h) kk
theorem j_icmp_eq {a b : Int} {off : Int} {tgt : Nat} (hdg : decode cc pc = .ok (.if_icmp .eq off, 3)) (ht : (pc : Int) + off = (tgt : Int)) (ha : R32 a) (hb : R32 b)
    (kt : a = b → J l D y cc nL rt R sz A QE k n tgt L st σ) (kf : ¬ a = b → J l D y cc nL rt R sz A QE k n (pc + 3) L st σ) : J l D y cc nL rt R sz A QE k n pc L (vi b :: vi a :: st) σ := by
  have I := (iI_inj ha hb)
  intro p e s m args below meth c C H locs ls hl hW hd hq hS
  exact lv_icmp_eq C.1 C.2.1 hdg ht (fun h => kt (I.mp h) p e s m args below meth c C H locs ls hl hW hd hq hS) (fun h => kf (fun q => h (I.mpr q)) p e s m args below meth c C H locs ls hl hW hd hq hS)
theorem j_icmp_ne {a b : Int} {off : Int} {tgt : Nat} (hdg : decode cc pc = .ok (.if_icmp .ne off, 3)) (ht : (pc : Int) + off = (tgt : Int)) (ha : R32 a) (hb : R32 b)
    (kt : ¬ a = b → J l D y cc nL rt R sz A QE k n tgt L st σ) (kf : a = b → J l D y cc nL rt R sz A QE k n (pc + 3) L st σ) : J l D y cc nL rt R sz A QE k n pc L (vi b :: vi a :: st) σ := by
  have I := (iI_inj ha hb)
  intro p e s m args below meth c C H locs ls hl hW hd hq hS
  exact lv_icmp_ne C.1 C.2.1 hdg ht (fun h => kt (fun q => h (I.mpr q)) p e s m args below meth c C H locs ls hl hW hd hq hS) (fun h => kf (I.mp h) p e s m args below meth c C H locs ls hl hW hd hq hS)
theorem j_icmp_lt {a b : Int} {off : Int} {tgt : Nat} (hdg : decode cc pc = .ok (.if_icmp .lt off, 3)) (ht : (pc : Int) + off = (tgt : Int)) (ha : R32 a) (hb : R32 b)
    (kt : a < b → J l D y cc nL rt R sz A QE k n tgt L st σ) (kf : b ≤ a → J l D y cc nL rt R sz A QE k n (pc + 3) L st σ) : J l D y cc nL rt R sz A QE k n pc L (vi b :: vi a :: st) σ := by
  have I := (iI_lt ha hb)
  intro p e s m args below meth c C H locs ls hl hW hd hq hS
  exact lv_icmp_lt C.1 C.2.1 hdg ht (fun h => kt (I.mp h) p e s m args below meth c C H locs ls hl hW hd hq hS) (fun h => kf (by have w : ¬ (a < b) := fun q => h (I.mpr q); omega) p e s m args below meth c C H locs ls hl hW hd hq hS)
theorem j_icmp_ge {a b : Int} {off : Int} {tgt : Nat} (hdg : decode cc pc = .ok (.if_icmp .ge off, 3)) (ht : (pc : Int) + off = (tgt : Int)) (ha : R32 a) (hb : R32 b)
    (kt : b ≤ a → J l D y cc nL rt R sz A QE k n tgt L st σ) (kf : a < b → J l D y cc nL rt R sz A QE k n (pc + 3) L st σ) : J l D y cc nL rt R sz A QE k n pc L (vi b :: vi a :: st) σ := by
  have I := (iI_le hb ha)
  intro p e s m args below meth c C H locs ls hl hW hd hq hS
  exact lv_icmp_ge C.1 C.2.1 hdg ht (fun h => kt (I.mp h) p e s m args below meth c C H locs ls hl hW hd hq hS) (fun h => kf (by have w : ¬ (b ≤ a) := fun q => h (I.mpr q); omega) p e s m args below meth c C H locs ls hl hW hd hq hS)
theorem j_icmp_gt {a b : Int} {off : Int} {tgt : Nat} (hdg : decode cc pc = .ok (.if_icmp .gt off, 3)) (ht : (pc : Int) + off = (tgt : Int)) (ha : R32 a) (hb : R32 b)
    (kt : b < a → J l D y cc nL rt R sz A QE k n tgt L st σ) (kf : a ≤ b → J l D y cc nL rt R sz A QE k n (pc + 3) L st σ) : J l D y cc nL rt R sz A QE k n pc L (vi b :: vi a :: st) σ := by
  have I := (iI_lt hb ha)
  intro p e s m args below meth c C H locs ls hl hW hd hq hS
  exact lv_icmp_gt C.1 C.2.1 hdg ht (fun h => kt (I.mp h) p e s m args below meth c C H locs ls hl hW hd hq hS) (fun h => kf (by have w : ¬ (b < a) := fun q => h (I.mpr q); omega) p e s m args below meth c C H locs ls hl hW hd hq hS)
theorem j_icmp_le {a b : Int} {off : Int} {tgt : Nat} (hdg : decode cc pc = .ok (.if_icmp .le off, 3)) (ht : (pc : Int) + off = (tgt : Int)) (ha : R32 a) (hb : R32 b)
    (kt : a ≤ b → J l D y cc nL rt R sz A QE k n tgt L st σ) (kf : b < a → J l D y cc nL rt R sz A QE k n (pc + 3) L st σ) : J l D y cc nL rt R sz A QE k n pc L (vi b :: vi a :: st) σ := by
  have I := (iI_le ha hb)
  intro p e s m args below meth c C H locs ls hl hW hd hq hS
  exact lv_icmp_le C.1 C.2.1 hdg ht (fun h => kt (I.mp h) p e s m args below meth c C H locs ls hl hW hd hq hS) (fun h => kf (by have w : ¬ (a ≤ b) := fun q => h (I.mpr q); omega) p e s m args below meth c C H locs ls hl hW hd hq hS)
theorem j_if_eq {a : Int} {off : Int} {tgt : Nat} (hdg : decode cc pc = .ok (.ifCond .eq off, 3)) (ht : (pc : Int) + off = (tgt : Int)) (ha : R32 a)
    (kt : a = 0 → J l D y cc nL rt R sz A QE k n tgt L st σ) (kf : ¬ a = 0 → J l D y cc nL rt R sz A QE k n (pc + 3) L st σ) : J l D y cc nL rt R sz A QE k n pc L (vi a :: st) σ := by
  have I := (iI_inj ha R32_0)
  intro p e s m args below meth c C H locs ls hl hW hd hq hS
  exact lv_if_eq C.1 C.2.1 hdg ht (fun h => kt (I.mp h) p e s m args below meth c C H locs ls hl hW hd hq hS) (fun h => kf (fun q => h (I.mpr q)) p e s m args below meth c C H locs ls hl hW hd hq hS)
theorem j_if_ne {a : Int} {off : Int} {tgt : Nat} (hdg : decode cc pc = .ok (.ifCond .ne off, 3)) (ht : (pc : Int) + off = (tgt : Int)) (ha : R32 a)
    (kt : ¬ a = 0 → J l D y cc nL rt R sz A QE k n tgt L st σ) (kf : a = 0 → J l D y cc nL rt R sz A QE k n (pc + 3) L st σ) : J l D y cc nL rt R sz A QE k n pc L (vi a :: st) σ := by
  have I := (iI_inj ha R32_0)
  intro p e s m args below meth c C H locs ls hl hW hd hq hS
  exact lv_if_ne C.1 C.2.1 hdg ht (fun h => kt (fun q => h (I.mpr q)) p e s m args below meth c C H locs ls hl hW hd hq hS) (fun h => kf (I.mp h) p e s m args below meth c C H locs ls hl hW hd hq hS)
theorem j_if_lt {a : Int} {off : Int} {tgt : Nat} (hdg : decode cc pc = .ok (.ifCond .lt off, 3)) (ht : (pc : Int) + off = (tgt : Int)) (ha : R32 a)
    (kt : a < 0 → J l D y cc nL rt R sz A QE k n tgt L st σ) (kf : 0 ≤ a → J l D y cc nL rt R sz A QE k n (pc + 3) L st σ) : J l D y cc nL rt R sz A QE k n pc L (vi a :: st) σ := by
  have I := (iI_lt ha R32_0)
  intro p e s m args below meth c C H locs ls hl hW hd hq hS
  exact lv_if_lt C.1 C.2.1 hdg ht (fun h => kt (I.mp h) p e s m args below meth c C H locs ls hl hW hd hq hS) (fun h => kf (by have w : ¬ (a < 0) := fun q => h (I.mpr q); omega) p e s m args below meth c C H locs ls hl hW hd hq hS)
theorem j_if_ge {a : Int} {off : Int} {tgt : Nat} (hdg : decode cc pc = .ok (.ifCond .ge off, 3)) (ht : (pc : Int) + off = (tgt : Int)) (ha : R32 a)
    (kt : 0 ≤ a → J l D y cc nL rt R sz A QE k n tgt L st σ) (kf : a < 0 → J l D y cc nL rt R sz A QE k n (pc + 3) L st σ) : J l D y cc nL rt R sz A QE k n pc L (vi a :: st) σ := by
  have I := (iI_le R32_0 ha)
  intro p e s m args below meth c C H locs ls hl hW hd hq hS
  exact lv_if_ge C.1 C.2.1 hdg ht (fun h => kt (I.mp h) p e s m args below meth c C H locs ls hl hW hd hq hS) (fun h => kf (by have w : ¬ (0 ≤ a) := fun q => h (I.mpr q); omega) p e s m args below meth c C H locs ls hl hW hd hq hS)
theorem j_if_gt {a : Int} {off : Int} {tgt : Nat} (hdg : decode cc pc = .ok (.ifCond .gt off, 3)) (ht : (pc : Int) + off = (tgt : Int)) (ha : R32 a)
    (kt : 0 < a → J l D y cc nL rt R sz A QE k n tgt L st σ) (kf : a ≤ 0 → J l D y cc nL rt R sz A QE k n (pc + 3) L st σ) : J l D y cc nL rt R sz A QE k n pc L (vi a :: st) σ := by
  have I := (iI_lt R32_0 ha)
  intro p e s m args below meth c C H locs ls hl hW hd hq hS
  exact lv_if_gt C.1 C.2.1 hdg ht (fun h => kt (I.mp h) p e s m args below meth c C H locs ls hl hW hd hq hS) (fun h => kf (by have w : ¬ (0 < a) := fun q => h (I.mpr q); omega) p e s m args below meth c C H locs ls hl hW hd hq hS)
theorem j_if_le {a : Int} {off : Int} {tgt : Nat} (hdg : decode cc pc = .ok (.ifCond .le off, 3)) (ht : (pc : Int) + off = (tgt : Int)) (ha : R32 a)
    (kt : a ≤ 0 → J l D y cc nL rt R sz A QE k n tgt L st σ) (kf : 0 < a → J l D y cc nL rt R sz A QE k n (pc + 3) L st σ) : J l D y cc nL rt R sz A QE k n pc L (vi a :: st) σ := by
  have I := (iI_le ha R32_0)
  intro p e s m args below meth c C H locs ls hl hW hd hq hS
  exact lv_if_le C.1 C.2.1 hdg ht (fun h => kt (I.mp h) p e s m args below meth c C H locs ls hl hW hd hq hS) (fun h => kf (by have w : ¬ (a ≤ 0) := fun q => h (I.mpr q); omega) p e s m args below meth c C H locs ls hl hW hd hq hS)
theorem j_tsOut {dflt lo hi : Int} {offs : Array Int} {len : Nat} {a : Int} {tgt : Nat} (hdg : decode cc pc = .ok (.tableswitch dflt lo hi offs, len)) (ha : R32 a) (h : a < lo ∨ hi < a) (ht : (pc : Int) + dflt = (tgt : Int)) (kk : J l D y cc nL rt R sz A QE k n tgt L st σ) : J l D y cc nL rt R sz A QE k n pc L (vi a :: st) σ :=
  j_go (fun _ _ _ _ _ _ _ _ C _ _ _ _ _ q => lv_tableOut C.1 C.2.1 hdg (by rw [iI_toInt ha]; exact h) ht q) kk
theorem j_tsIn {dflt lo hi : Int} {offs : Array Int} {len : Nat} {a off : Int} {tgt : Nat} (hdg : decode cc pc = .ok (.tableswitch dflt lo hi offs, len)) (ha : R32 a) (h1 : lo ≤ a) (h2 : a ≤ hi) (ho : offs[(a - lo).toNat]? = some off) (ht : (pc : Int) + off = (tgt : Int)) (kk : J l D y cc nL rt R sz A QE k n tgt L st σ) : J l D y cc nL rt R sz A QE k n pc L (vi a :: st) σ :=
  j_go (fun _ _ _ _ _ _ _ _ C _ _ _ _ _ q => lv_tableIn C.1 C.2.1 hdg (by rw [iI_toInt ha]; omega) (by rw [iI_toInt ha]; omega) (by rw [iI_toInt ha]; exact ho) ht q) kk
end JR
end
section
/-! ===== rows over the world ===== -/
def AA (σ0 : Wd) (sz : Nat) : Nat → Prop := fun q => σ0 q ≠ none ∨ sz ≤ q
def Qc0 (D : gD) (σ0 : Wd) (sz : Nat) (P : Option Value → Wd → Prop) : Array Value → State → Outcome → State → Prop := fun _ st o t =>
  (∃ (r : Option Value) (σ' : Wd), o = .returned r ∧ P r σ' ∧ HW D σ' t.heap ∧ ∀ a e, σ' a = some e → AA σ0 sz a) ∧ va_F (AA σ0 sz) st t
def QN (D : gD) (σ0 : Wd) (sz : Nat) (P : Option Value → Wd → Prop) (mc ms : Nat) : List Frame → Array Value → State → State → Prop := fun below args s => MQ below (Qc0 D σ0 sz P) args s mc ms (AA σ0 sz)
/-- a method's contract: from the world σ with the arguments as it returns, its answer and world have P -/
def SP (l : Launch) (D : gD) (y : MethodName) (b : ByteArray) (nL : Nat) (rt : Option FieldType) (rm : Room) (as : List Value) (σ : Wd) (mc ms : Nat) (P : Nat → Option Value → Wd → Prop) : Prop :=
  ∀ sz : Nat, Met l y [Cond.code y b nL rt] rm (va_Pc as (fun U => U.heap.size = sz ∧ HW D σ U.heap ∧ KK D U ∧ TB U)) (Qc0 D σ sz (P sz)) mc ms (AA σ sz)
theorem SP.mono {l : Launch} {D : gD} {y : MethodName} {b : ByteArray} {nL : Nat} {rt : Option FieldType} {rm : Room} {as : List Value} {σ : Wd} {mc ms : Nat} {P P' : Nat → Option Value → Wd → Prop} (h : SP l D y b nL rt rm as σ mc ms P) (hp : ∀ sz r σ', P sz r σ' → P' sz r σ') : SP l D y b nL rt rm as σ mc ms P' := by
  intro sz
  have h1 := h sz
  unfold Met at h1 ⊢
  intro p e ha hc hk s m args below hf hP hK _
  obtain ⟨t, o, q1, q2, q3, ⟨⟨⟨r, σ', e1, e2, e3⟩, hF⟩, hL⟩⟩ := h1 p e ha hc hk s m args below hf hP hK trivial
  exact ⟨t, o, q1, q2, q3, ⟨⟨⟨r, σ', e1, hp sz r σ' e2, e3⟩, hF⟩, hL⟩⟩
theorem posl_args : ∀ (as : List Value) (m k : Nat), (∀ v ∈ as, v.category = 1) → posl k (as.map some ++ List.replicate m none) = lv_args k as
  | [], m, k, _ => by
    show posl k (List.replicate m none) = []
    induction m generalizing k with
    | zero => rfl
    | succ m ih => exact ih (k + 1)
  | v :: as, m, k, h => by
    have hv : v.category = 1 := h v List.mem_cons_self
    show (k, v) :: posl (k + 1) (as.map some ++ List.replicate m none) = (k, v) :: lv_args (if v.category = 2 then k + 2 else k + 1) as
    rw [posl_args as m (k + 1) (fun w hw => h w (List.mem_cons_of_mem _ hw)), if_neg (by omega)]
theorem lg_sl_len : ∀ (as : List Value), (∀ v ∈ as, v.category = 1) → (lg_sl as).length = as.length
  | [], _ => rfl
  | v :: as, h => by
    have hv : v.category = 1 := h v List.mem_cons_self
    have := lg_sl_len as (fun w hw => h w (List.mem_cons_of_mem _ hw))
    unfold lg_sl at this ⊢
    rw [List.flatMap_cons, List.length_append, this, if_neg (by omega)]
    simp
    omega
theorem sp_of {l : Launch} {D : gD} {y : MethodName} {b : ByteArray} {nL : Nat} {rt : Option FieldType} {rm : Room} {as : List Value} {σ : Wd} {mc ms : Nat} {P : Nat → Option Value → Wd → Prop} (hy : plainName y.cls = true) (hcat : ∀ v ∈ as, v.category = 1) (hlen : as.length ≤ nL) (L : List (Option Value)) (hL : L = as.map some ++ List.replicate (nL - as.length) none)
    (h : ∀ sz, J l D y b nL rt rm sz (AA σ sz) (QN D σ sz (P sz) mc ms) 0 0 0 L [] σ) : SP l D y b nL rt rm as σ mc ms P := by
  intro sz
  refine Met.ofW (cc := b) (maxL := nL) (ret := rt) hy rfl ?_
  intro p e s m args below meth c s₁ B hml hv
  obtain ⟨rfl, hsz, hW, hK, hT⟩ := hv
  rw [lg_entry_eq]
  have hc : ∀ v ∈ as, v.category = 1 := hcat
  have he := lv_entry as (n := nL) (by rw [lg_sl_len as hc]; exact hlen)
  refine h sz p e s m _ below meth c ⟨B.exec, B.bytes, hml, B.returns, findClass_of_methodNamed B.named, B.notSynchronized, (name_of_methodNamed B.named B.method).1, hT, hK, hsz⟩ s.heap [] _ ⟨?_, ?_⟩ hW (fun a e h => Or.inl (by rw [h]; simp)) (fun q h => Or.inr h) va_S.rf
  · rw [hL, posl_args as _ 0 hc]
    exact he
  · intro i v hv
    rw [hL] at hv
    have hm := List.mem_of_getElem? hv
    rcases List.mem_append.mp hm with q | q
    · obtain ⟨w, hw, hw2⟩ := List.mem_map.mp q
      cases hw2
      exact hc _ hw
    · have := List.eq_of_mem_replicate q
      cases this
section JH
variable {l : Launch} {D : gD} {y : MethodName} {cc : ByteArray} {nL : Nat} {rt : Option FieldType} {R : Room} {sz : Nat} {A : Nat → Prop} {QE : List Frame → Array Value → State → State → Prop} {k n pc : Nat} {L L' : List (Option Value)} {st : List Value} {σ σ0 : Wd} {P : Option Value → Wd → Prop}
theorem j_iret {z : Int} (hdg : decode cc pc = .ok (.ireturn, 1)) (h : P (some (vi z)) σ) : J l D y cc nL (some .int) R sz (AA σ0 sz) (QN D σ0 sz P k n) k n pc L [vi z] σ :=
  fun p e s m args below meth c C H locs ls hl hW hd hq hS => W.iret C.1 C.2.1 C.2.2.2.1 (fun t ht _ => ⟨⟨_, σ, rfl, h, by rw [ht]; exact hW, hd⟩, hS.F ht⟩) hS.2.2 hdg C.2.2.2.2.2.1
theorem j_zret {z : Int} (hdg : decode cc pc = .ok (.ireturn, 1)) (hz : z = 0 ∨ z = 1) (h : P (some (vi z)) σ) : J l D y cc nL (some .boolean) R sz (AA σ0 sz) (QN D σ0 sz P k n) k n pc L [vi z] σ :=
  fun p e s m args below meth c C H locs ls hl hW hd hq hS => W.zret C.1 C.2.1 C.2.2.2.1 (by rcases hz with rfl | rfl <;> decide) (fun t ht _ => ⟨⟨_, σ, rfl, h, by rw [ht]; exact hW, hd⟩, hS.F ht⟩) hS.2.2 hdg C.2.2.2.2.2.1
theorem j_vret (hdg : decode cc pc = .ok (.return_, 1)) (h : P none σ) : J l D y cc nL none R sz (AA σ0 sz) (QN D σ0 sz P k n) k n pc L [] σ :=
  fun p e s m args below meth c C H locs ls hl hW hd hq hS => W.vret C.1 C.2.1 C.2.2.2.1 (fun t ht _ => ⟨⟨_, σ, rfl, h, by rw [ht]; exact hW, hd⟩, hS.F ht⟩) hS.2.2 hdg C.2.2.2.2.2.1
theorem j_aret {a : Nat} {cn : String} (hdg : decode cc pc = .ok (.areturn, 1)) (h : P (some (.ref a)) σ) : J l D y cc nL (some (.object cn)) R sz (AA σ0 sz) (QN D σ0 sz P k n) k n pc L [.ref a] σ :=
  fun p e s m args below meth c C H locs ls hl hW hd hq hS => W.aret C.1 C.2.1 C.2.2.2.1 (Or.inl ⟨_, rfl⟩) (Or.inr ⟨_, rfl⟩) (fun t ht _ => ⟨⟨_, σ, rfl, h, by rw [ht]; exact hW, hd⟩, hS.F ht⟩) hS.2.2 hdg C.2.2.2.2.2.1
theorem va_DA {ws : va_W} (hD : va_D (fun _ => True) ws) (hs : ∀ (a : Nat) (e : va_E), σ a = some e ↔ ∃ k : Nat, ws[k]? = some (a, e)) (hd : ∀ a e, σ a = some e → A a) : va_D A ws :=
  hD.weaken (fun k q hk _ => hd q.1 q.2 ((hs q.1 q.2).mpr ⟨k, hk⟩))
theorem wup_dom {a : Nat} {e0 e : va_E} (hd : ∀ a e, σ a = some e → A a) (h0 : σ a = some e0) : ∀ b x, wup σ a e b = some x → A b := by
  intro b x hb
  by_cases h : b = a
  · rw [h]
    exact hd a e0 h0
  · rw [wup_n h] at hb
    exact hd b x hb
theorem j_get {C : String} {T : u_T} {N ci idx a : Nat} {fs : List Value} {v : Value} (hin : ∀ w ∈ u_ws C T N, w ∈ TBl) (hc : vwCl[ci]? = some (C, T, N)) (f : Nat) (hf : f < N) (hlink : Cond.fieldLink y.cls idx (T f).1 (T f).2.1 (T f).2.2.1 ∈ TBl) (hdg : decode cc pc = .ok (.getfield idx, 3)) (hσ : σ a = some (.inr (ci, fs))) (hv : fs[f]? = some v)
    (kk : J l D y cc nL rt R sz A QE k n (pc + 3) L (v :: st) σ) : J l D y cc nL rt R sz A QE k n pc L (.ref a :: st) σ := by
  intro p e s m args below meth c Cx H locs ls hl hW hd hq hS
  obtain ⟨ws, hP, hD, hs⟩ := id hW
  obtain ⟨q0, hq0⟩ := (hs a _).mp hσ
  exact va_get Cx.1 Cx.2.1 (fun w hw => Cx.2.2.2.2.2.2.2.1 w hw args) hin Cx.2.2.2.2.1 Cx.2.2.2.2.2.2.2.2.1.1 hP q0 hq0 hc f hf (Cx.2.2.2.2.2.2.2.1 _ hlink args) (fun _ h => h) hv hdg (kk p e s m args below meth c Cx H locs ls hl hW hd hq hS)
theorem j_getN {C host : String} {T : u_T} {N ci idx a : Nat} {fs : List Value} {v : Value} (hin : ∀ w ∈ u_ws C T N, w ∈ TBl) (hc : vwCl[ci]? = some (C, T, N)) (f : Nat) (hf : f < N) (hlink : Cond.fieldLinkNest y.cls idx (T f).1 (T f).2.1 (T f).2.2.1 host ∈ TBl) (hdg : decode cc pc = .ok (.getfield idx, 3)) (hσ : σ a = some (.inr (ci, fs))) (hv : fs[f]? = some v)
    (kk : J l D y cc nL rt R sz A QE k n (pc + 3) L (v :: st) σ) : J l D y cc nL rt R sz A QE k n pc L (.ref a :: st) σ := by
  intro p e s m args below meth c Cx H locs ls hl hW hd hq hS
  obtain ⟨ws, hP, hD, hs⟩ := id hW
  obtain ⟨q0, hq0⟩ := (hs a _).mp hσ
  exact va_getN Cx.1 Cx.2.1 (fun w hw => Cx.2.2.2.2.2.2.2.1 w hw args) hin Cx.2.2.2.2.1 Cx.2.2.2.2.2.2.2.2.1.1 hP q0 hq0 hc f hf (Cx.2.2.2.2.2.2.2.1 _ hlink args) (fun _ h => h) hv hdg (kk p e s m args below meth c Cx H locs ls hl hW hd hq hS)
theorem j_put {C : String} {T : u_T} {N ci idx a : Nat} {fs : List Value} {v : Value} {ty : FieldType} (hin : ∀ w ∈ u_ws C T N, w ∈ TBl) (ty0 : Nat → FieldType) (hty : ∀ k, k < N → parseFieldDescriptor (T k).2.2.1 = some (ty0 k)) (hnm : ∀ a, a < N → ∀ b, b < N → a ≠ b → (T a).2.1 ≠ (T b).2.1) (hc : vwCl[ci]? = some (C, T, N)) (f : Nat) (hf : f < N) (hlink : Cond.fieldLink y.cls idx (T f).1 (T f).2.1 (T f).2.2.1 ∈ TBl) (hfin : (T f).2.2.2 = false) (hpd : parseFieldDescriptor (T f).2.2.1 = some ty) (hdg : decode cc pc = .ok (.putfield idx, 3)) (hσ : σ a = some (.inr (ci, fs))) (hn : narrow ty v = v) (hfit : fits ty v = true) (hl0 : f < fs.length)
    (kk : J l D y cc nL rt R sz A QE k n (pc + 3) L st (wup σ a (.inr (ci, fs.set f v)))) : J l D y cc nL rt R sz A QE k n pc L (v :: .ref a :: st) σ := by
  intro p e s m args below meth c Cx H locs ls hl hW hd hq hS
  obtain ⟨ws, hP, hD, hs⟩ := id hW
  obtain ⟨q0, hq0⟩ := (hs a _).mp hσ
  exact va_put Cx.1 Cx.2.1 (fun w hw => Cx.2.2.2.2.2.2.2.1 w hw args) hin ty0 hty hnm Cx.2.2.2.2.1 Cx.2.2.2.2.2.2.2.2.1.1 hP (va_DA hD hs hd) hS q0 hq0 hc f hf (Cx.2.2.2.2.2.2.2.1 _ hlink args) (fun _ h => h) hfin hpd hn hfit hl0 hdg
    (fun H1 locs1 hP1 hD1 hS1 => kk p e s m args below meth c Cx H1 locs1 ls hl (HW.set' hs hq0 hP1 hD1) (wup_dom hd hσ) hq hS1)
theorem j_putF {C : String} {T : u_T} {N ci idx a : Nat} {fs : List Value} {v : Value} {ty : FieldType} (hin : ∀ w ∈ u_ws C T N, w ∈ TBl) (ty0 : Nat → FieldType) (hty : ∀ k, k < N → parseFieldDescriptor (T k).2.2.1 = some (ty0 k)) (hnm : ∀ a, a < N → ∀ b, b < N → a ≠ b → (T a).2.1 ≠ (T b).2.1) (hc : vwCl[ci]? = some (C, T, N)) (f : Nat) (hf : f < N) (hlink : Cond.fieldLink y.cls idx (T f).1 (T f).2.1 (T f).2.2.1 ∈ TBl) (hfin : (T f).2.2.2 = true) (hpd : parseFieldDescriptor (T f).2.2.1 = some ty) (hini : y.name = "<init>") (hdecl : (T f).1 = y.cls) (hdg : decode cc pc = .ok (.putfield idx, 3)) (hσ : σ a = some (.inr (ci, fs))) (hn : narrow ty v = v) (hfit : fits ty v = true) (hl0 : f < fs.length)
    (kk : J l D y cc nL rt R sz A QE k n (pc + 3) L st (wup σ a (.inr (ci, fs.set f v)))) : J l D y cc nL rt R sz A QE k n pc L (v :: .ref a :: st) σ := by
  intro p e s m args below meth c Cx H locs ls hl hW hd hq hS
  obtain ⟨ws, hP, hD, hs⟩ := id hW
  obtain ⟨q0, hq0⟩ := (hs a _).mp hσ
  exact va_putF Cx.1 Cx.2.1 (fun w hw => Cx.2.2.2.2.2.2.2.1 w hw args) hin ty0 hty hnm Cx.2.2.2.2.1 Cx.2.2.2.2.2.2.2.2.1.1 hP (va_DA hD hs hd) hS q0 hq0 hc f hf (Cx.2.2.2.2.2.2.2.1 _ hlink args) (fun _ h => h) hfin (Cx.2.2.2.2.2.2.1.trans hini) hdecl hpd hn hfit hl0 hdg
    (fun H1 locs1 hP1 hD1 hS1 => kk p e s m args below meth c Cx H1 locs1 ls hl (HW.set' hs hq0 hP1 hD1) (wup_dom hd hσ) hq hS1)
theorem j_iald {a N : Nat} {f : Nat → Int} {z : Int} (hdg : decode cc pc = .ok (.iaload, 1)) (hσ : σ a = some (ia D N f)) (h0 : 0 ≤ z) (h1 : z < N) (hz : R32 z) (kk : J l D y cc nL rt R sz A QE k n (pc + 1) L (vi (f z.toNat) :: st) σ) : J l D y cc nL rt R sz A QE k n pc L (vi z :: .ref a :: st) σ := by
  intro p e s m args below meth c Cx H locs ls hl hW hd hq hS
  obtain ⟨ws, hP, hD, hs⟩ := id hW
  obtain ⟨q0, hq0⟩ := (hs a _).mp hσ
  exact va_iald Cx.1 Cx.2.1 Cx.2.2.2.2.2.2.2.2.1.1 hP q0 0 hq0 rfl (iI_vin h0 h1 hz) hdg (by rw [iI_cl hz]; exact kk p e s m args below meth c Cx H locs ls hl hW hd hq hS)
theorem j_cald {a N : Nat} {f : Nat → Int} {z : Int} (hdg : decode cc pc = .ok (.caload, 1)) (hσ : σ a = some (ca D N f)) (h0 : 0 ≤ z) (h1 : z < N) (hz : R32 z) (kk : J l D y cc nL rt R sz A QE k n (pc + 1) L (vi (f z.toNat) :: st) σ) : J l D y cc nL rt R sz A QE k n pc L (vi z :: .ref a :: st) σ := by
  intro p e s m args below meth c Cx H locs ls hl hW hd hq hS
  obtain ⟨ws, hP, hD, hs⟩ := id hW
  obtain ⟨q0, hq0⟩ := (hs a _).mp hσ
  exact va_cald Cx.1 Cx.2.1 Cx.2.2.2.2.2.2.2.2.1.1 hP q0 1 hq0 rfl (iI_vin h0 h1 hz) hdg (by rw [iI_cl hz]; exact kk p e s m args below meth c Cx H locs ls hl hW hd hq hS)
theorem j_zald {a N : Nat} {f : Nat → Int} {z : Int} (hdg : decode cc pc = .ok (.baload, 1)) (hσ : σ a = some (za D N f)) (h0 : 0 ≤ z) (h1 : z < N) (hz : R32 z) (kk : J l D y cc nL rt R sz A QE k n (pc + 1) L (vi (f z.toNat) :: st) σ) : J l D y cc nL rt R sz A QE k n pc L (vi z :: .ref a :: st) σ := by
  intro p e s m args below meth c Cx H locs ls hl hW hd hq hS
  obtain ⟨ws, hP, hD, hs⟩ := id hW
  obtain ⟨q0, hq0⟩ := (hs a _).mp hσ
  exact va_zald Cx.1 Cx.2.1 Cx.2.2.2.2.2.2.2.2.1.1 hP q0 2 hq0 rfl (iI_vin h0 h1 hz) hdg (by rw [iI_cl hz]; exact kk p e s m args below meth c Cx H locs ls hl hW hd hq hS)
theorem j_aaldO {a N t : Nat} {f : Nat → Option Nat} {z : Int} {C : String} (ht : (tysOf D)[t]? = some (D.2 t, .object C)) (hdg : decode cc pc = .ok (.aaload, 1)) (hσ : σ a = some (qa D t N f)) (h0 : 0 ≤ z) (h1 : z < N) (hz : R32 z) (kk : J l D y cc nL rt R sz A QE k n (pc + 1) L (va_rf (f z.toNat) :: st) σ) : J l D y cc nL rt R sz A QE k n pc L (vi z :: .ref a :: st) σ := by
  intro p e s m args below meth c Cx H locs ls hl hW hd hq hS
  obtain ⟨ws, hP, hD, hs⟩ := id hW
  obtain ⟨q0, hq0⟩ := (hs a _).mp hσ
  exact va_aldq Cx.1 Cx.2.1 Cx.2.2.2.2.2.2.2.2.1.1 hP q0 t hq0 ht (iI_vin h0 h1 hz) hdg (by rw [iI_cl hz]; exact kk p e s m args below meth c Cx H locs ls hl hW hd hq hS)
theorem j_aaldA {a N : Nat} {f : Nat → Option Nat} {z : Int} (hdg : decode cc pc = .ok (.aaload, 1)) (hσ : σ a = some (qa D 5 N f)) (h0 : 0 ≤ z) (h1 : z < N) (hz : R32 z) (kk : J l D y cc nL rt R sz A QE k n (pc + 1) L (va_rf (f z.toNat) :: st) σ) : J l D y cc nL rt R sz A QE k n pc L (vi z :: .ref a :: st) σ := by
  intro p e s m args below meth c Cx H locs ls hl hW hd hq hS
  obtain ⟨ws, hP, hD, hs⟩ := id hW
  obtain ⟨q0, hq0⟩ := (hs a _).mp hσ
  have hin := iI_vin h0 h1 hz
  have hlt : (iI z).toNatClampNeg < N := Nat.not_le.mp fun q => hin (Or.inr q)
  have hK := Cx.2.2.2.2.2.2.2.2.1.1
  exact W.aald (v := va_rf (f (iI z).toNatClampNeg)) (ty := .array .int) Cx.1 Cx.2.1 (hP q0 _ hq0) ((hK.2 5 _ rfl).1 N (fun j => va_rf (f j))) rfl (fun q => by cases q) (by show ¬ (iI z < 0 ∨ (arrV _ _ _).slots.size ≤ _); rw [arrV_size]; exact hin) (by show (arrV _ _ _).slots[_]? = _; rw [arrV_read _ _ hlt]) rfl rfl hdg (by rw [iI_cl hz]; exact kk p e s m args below meth c Cx H locs ls hl hW hd hq hS)
theorem j_iast {a N : Nat} {f : Nat → Int} {z x : Int} (hdg : decode cc pc = .ok (.iastore, 1)) (hσ : σ a = some (ia D N f)) (h0 : 0 ≤ z) (h1 : z < N) (hz : R32 z) (kk : J l D y cc nL rt R sz A QE k n (pc + 1) L st (wup σ a (ia D N (fup f z.toNat x)))) : J l D y cc nL rt R sz A QE k n pc L (vi x :: vi z :: .ref a :: st) σ := by
  intro p e s m args below meth c Cx H locs ls hl hW hd hq hS
  obtain ⟨ws, hP, hD, hs⟩ := id hW
  obtain ⟨q0, hq0⟩ := (hs a _).mp hσ
  exact va_iast Cx.1 Cx.2.1 Cx.2.2.2.2.2.2.2.2.1.1 hP (va_DA hD hs hd) hS q0 0 hq0 rfl (iI_vin h0 h1 hz) hdg (fun H1 locs1 hP1 hD1 hS1 => by
    rw [iI_cl hz, fup_upd] at hP1 hD1
    exact kk p e s m args below meth c Cx H1 locs1 ls hl (HW.set' hs hq0 hP1 hD1) (wup_dom hd hσ) hq hS1)
theorem j_cast {a N : Nat} {f : Nat → Int} {z x : Int} (hdg : decode cc pc = .ok (.castore, 1)) (hσ : σ a = some (ca D N f)) (h0 : 0 ≤ z) (h1 : z < N) (hz : R32 z) (hx : vp_nar .char (iI x) = iI x) (kk : J l D y cc nL rt R sz A QE k n (pc + 1) L st (wup σ a (ca D N (fup f z.toNat x)))) : J l D y cc nL rt R sz A QE k n pc L (vi x :: vi z :: .ref a :: st) σ := by
  intro p e s m args below meth c Cx H locs ls hl hW hd hq hS
  obtain ⟨ws, hP, hD, hs⟩ := id hW
  obtain ⟨q0, hq0⟩ := (hs a _).mp hσ
  exact va_cast Cx.1 Cx.2.1 Cx.2.2.2.2.2.2.2.2.1.1 hP (va_DA hD hs hd) hS q0 1 hq0 rfl (iI_vin h0 h1 hz) hdg (fun H1 locs1 hP1 hD1 hS1 => by
    rw [iI_cl hz, hx, fup_upd] at hP1 hD1
    exact kk p e s m args below meth c Cx H1 locs1 ls hl (HW.set' hs hq0 hP1 hD1) (wup_dom hd hσ) hq hS1)
theorem nar_bool {x : Int} (hx : x = 0 ∨ x = 1) : vp_nar .boolean (iI x) = iI x := by rcases hx with rfl | rfl <;> decide
theorem j_zast {a N : Nat} {f : Nat → Int} {z x : Int} (hdg : decode cc pc = .ok (.bastore, 1)) (hσ : σ a = some (za D N f)) (h0 : 0 ≤ z) (h1 : z < N) (hz : R32 z) (hx : x = 0 ∨ x = 1) (kk : J l D y cc nL rt R sz A QE k n (pc + 1) L st (wup σ a (za D N (fup f z.toNat x)))) : J l D y cc nL rt R sz A QE k n pc L (vi x :: vi z :: .ref a :: st) σ := by
  intro p e s m args below meth c Cx H locs ls hl hW hd hq hS
  obtain ⟨ws, hP, hD, hs⟩ := id hW
  obtain ⟨q0, hq0⟩ := (hs a _).mp hσ
  exact va_zast Cx.1 Cx.2.1 Cx.2.2.2.2.2.2.2.2.1.1 hP (va_DA hD hs hd) hS q0 2 hq0 rfl (iI_vin h0 h1 hz) hdg (fun H1 locs1 hP1 hD1 hS1 => by
    rw [iI_cl hz, nar_bool hx, fup_upd] at hP1 hD1
    exact kk p e s m args below meth c Cx H1 locs1 ls hl (HW.set' hs hq0 hP1 hD1) (wup_dom hd hσ) hq hS1)
theorem va_up_fup (f : Nat → Option Nat) (i : Nat) (v : Option Nat) : va_up f i v = fup f i v := rfl
theorem j_aastO {a N t v ci : Nat} {f : Nat → Option Nat} {z : Int} {r : vw_C} {vs : List Value} (ht : (tysOf D)[t]? = some (D.2 t, .object r.1)) (hc : vwCl[ci]? = some r) (hdg : decode cc pc = .ok (.aastore, 1)) (hσ : σ a = some (qa D t N f)) (hv : σ v = some (.inr (ci, vs))) (h0 : 0 ≤ z) (h1 : z < N) (hz : R32 z) (kk : J l D y cc nL rt R sz A QE k n (pc + 1) L st (wup σ a (qa D t N (fup f z.toNat (some v))))) : J l D y cc nL rt R sz A QE k n pc L (.ref v :: vi z :: .ref a :: st) σ := by
  intro p e s m args below meth c Cx H locs ls hl hW hd hq hS
  obtain ⟨ws, hP, hD, hs⟩ := id hW
  obtain ⟨q0, hq0⟩ := (hs a _).mp hσ
  obtain ⟨q1, hq1⟩ := (hs v _).mp hv
  exact va_astq Cx.1 Cx.2.1 Cx.2.2.2.2.2.2.2.2.1.1 hP (va_DA hD hs hd) hS q0 t q1 ci hq0 ht hq1 hc (iI_vin h0 h1 hz) hdg (fun H1 locs1 hP1 hD1 hS1 => by
    rw [iI_cl hz, va_up_fup] at hP1 hD1
    exact kk p e s m args below meth c Cx H1 locs1 ls hl (HW.set' hs hq0 hP1 hD1) (wup_dom hd hσ) hq hS1)
theorem j_alen {a N : Nat} {f : Nat → Int} (hdg : decode cc pc = .ok (.arraylength, 1)) (hσ : σ a = some (ia D N f)) (kk : J l D y cc nL rt R sz A QE k n (pc + 1) L (vi N :: st) σ) : J l D y cc nL rt R sz A QE k n pc L (.ref a :: st) σ := by
  intro p e s m args below meth c Cx H locs ls hl hW hd hq hS
  obtain ⟨ws, hP, hD, hs⟩ := id hW
  obtain ⟨q0, hq0⟩ := (hs a _).mp hσ
  exact va_alen Cx.1 Cx.2.1 Cx.2.2.2.2.2.2.2.2.1.1 hP q0 0 hq0 rfl (iI_nat N) hdg (kk p e s m args below meth c Cx H locs ls hl hW hd hq hS)
end JH
end
section
/-! ===== calls ===== -/
def revOn : List Value → List Value → List Value
  | [], r => r
  | a :: as, r => revOn as (a :: r)
theorem revOn_eq : ∀ (as r : List Value), revOn as r = as.reverse ++ r
  | [], r => rfl
  | a :: as, r => by
    show revOn as (a :: r) = _
    rw [revOn_eq as (a :: r)]
    simp
theorem W_size {p : Program} {l : Launch} {e : Env} {R : Room} {s : State} {m : MethodId} {args : Array Value} {below : List Frame} {meth : Method} {c : Code} {H : Heap} {locs : List Loc} {cells slots : Nat} {Q : State → Prop} {g : JFrame}
    (h : H.size ≤ s.heap.size + cells → W p l e R s m args below meth c H locs cells slots Q g) : W p l e R s m args below meth c H locs cells slots Q g := by
  intro T hT X
  have h3 := X.same.2.2.1
  refine h ?_ T hT X
  rw [← hT]
  exact h3
theorem TB_calling {U : State} {g : JFrame} {mk : MethodId} {a : Array Value} (h : TB U) : TB (U.calling g mk a) := h.warm (State.WarmedH.refl U)
theorem pre_blind {D : gD} {as : List Value} {σ : Wd} {sz : Nat} : FrameBlind (va_Pc as (fun U => U.heap.size = sz ∧ HW D σ U.heap ∧ KK D U ∧ TB U)) := by
  rintro a U g mk ⟨h1, h2, h3, h4, h5⟩
  exact ⟨h1, h2, h3, KK.moved (U := U.calling g mk a) (Vm.Alike.refl U.vm) h4, TB_calling h5⟩
def wCallB (own : String) (idx : Nat) (y : MethodName) (b : ByteArray) (nL : Nat) (rt : Option FieldType) (ar : Nat) : Prop :=
  plainName y.cls = true ∧ Cond.code y b nL rt ∈ TBl ∧ Cond.initialized y.cls ∈ TBl ∧ (y.cls ≠ "java/lang/invoke/MethodHandle" ∧ y.cls ≠ "java/lang/invoke/VarHandle") ∧ (parseMethodDescriptor y.desc).map (fun d => d.parameters.length) = some ar
theorem callB_mk {R : Room} {s : State} {args : Array Value} {own : String} {idx : Nat} {y : MethodName} {b : ByteArray} {nL : Nat} {rt : Option FieldType} {ar : Nat} {rm : Room} {mc ms : Nat} (hT : TB s) (w : wCallB own idx y b nL rt ar) (hrc : rm.cells = mc) (hrs : rm.slots = ms) (hR : rm.frames + 1 ≤ R.frames ∧ 8 + (nL + 11) + rm.locals ≤ R.locals) :
    (rm.cells = mc ∧ rm.slots = ms ∧ rm.frames + 1 ≤ R.frames ∧ 8 + (nL + 11) + rm.locals ≤ R.locals ∧ (∀ w ∈ [Cond.code y b nL rt], ∀ (a' : Array Value) (U : State), s.WarmedH U.vm → w.before a' U = true) ∧ Cond.code y b nL rt ∈ [Cond.code y b nL rt]) ∧
    (Cond.code y b nL rt).before args s = true ∧ (Cond.initialized y.cls).before args s = true ∧ (y.cls ≠ "java/lang/invoke/MethodHandle" ∧ y.cls ≠ "java/lang/invoke/VarHandle") ∧ (∀ sig, parseMethodDescriptor y.desc = some sig → ar = sig.parameters.length) := by
  obtain ⟨-, w1, w2, w3, w4⟩ := w
  refine ⟨⟨hrc, hrs, hR.1, hR.2, fun w hw a' U hW => ?_, List.mem_singleton.mpr rfl⟩, hT _ w1 args, hT _ w2 args, w3, fun sig h => ?_⟩
  · rw [List.mem_singleton.mp hw]
    exact hT.warm hW _ w1 a'
  · rw [h] at w4
    exact (Option.some.inj w4).symm
section JCall
variable {l : Launch} {D : gD} {y : MethodName} {cc : ByteArray} {nL : Nat} {rt : Option FieldType} {R : Room} {sz : Nat} {A : Nat → Prop} {QE : List Frame → Array Value → State → State → Prop} {k n pc : Nat} {L L' : List (Option Value)} {st : List Value} {σ σ0 : Wd}
theorem j_ofRun {mc ms sz' : Nat} {rest st0 : List Value} {p : Program} {e : Env} {s : State} {m : MethodId} {args : Array Value} {below : List Frame} {meth : Method} {c : Code} {H : Heap} {locs : List Loc} {ls : Array Slot} {P : Option Value → Wd → Prop} {a : Array Value}
    (hr : va_Run p l e R s m args below meth c H locs k n mc ms (F0 m pc ls st0) rest (Qc0 D σ sz' P a) (AA σ sz')) (hsz : H.size = sz') (C : JC D y cc nL rt sz p s m meth c) (hl : LH ls nL L) (hd : ∀ a e, σ a = some e → A a) (hq : ∀ q, sz ≤ q → A q) (hS : va_S A s.heap H locs)
    (kk : ∀ (r : Option Value) (σ1 : Wd), P r σ1 → J l D y cc nL rt R sz A QE (k + mc) (n + ms) (pc + 3) L (r.toList ++ rest) σ1) : W p l e R s m args below meth c H locs k n (QE below args s) (F0 m pc ls st0) := by
  have hAA : ∀ q, AA σ sz' q → A q := by
    intro q h
    rcases h with h | h
    · cases hσ : σ q with
      | none => exact absurd hσ h
      | some e => exact hd q e hσ
    · exact hq q (by have h1 := hS.1; have h2 := C.2.2.2.2.2.2.2.2.2; omega)
  intro T hT X
  obtain ⟨v, st₀, t, T', Lc, h0, X', hL, e1, e2, ⟨⟨r, σ1, hv, hP, hW1, hd1⟩, hz, hk⟩, st⟩ := hr T hT X
  cases hv
  rw [h0] at hz hk
  obtain ⟨t2, a1, b1⟩ := kk v σ1 hP p e s m args below meth c C T'.heap (locs ++ Lc) ls hl (by rw [e1]; exact hW1) (fun a e h => hAA a (hd1 a e h)) hq
    ⟨Nat.le_trans hS.1 (by rw [e1]; exact hz), fun q h1 h2 => by rw [e1, hk q (Nat.lt_of_lt_of_le h1 hS.1) (fun z => h2 (hAA q z))]; exact hS.2.1 q h1 h2, fun q hq => by
      rcases List.mem_append.mp hq with h | h
      · exact hS.2.2 q h
      · exact hAA _ (hL q h)⟩ T' rfl X'
  exact ⟨t2, st t2 a1, b1⟩
theorem j_pre {as : List Value} {s : State} {H : Heap} (hT : TB s) (hK : KK D s) (hW : HW D σ H) : ∀ U : State, U.heap = H → s.WarmedH U.vm → va_Pc as (fun U => U.heap.size = H.size ∧ HW D σ U.heap ∧ KK D U ∧ TB U) as.toArray U :=
  fun U hU hw => ⟨rfl, by rw [hU], by rw [hU]; exact hW, hK.moved hw.alike, hT.warm hw⟩
theorem j_recv {s : State} {H : Heap} {b ci : Nat} {fs : List Value} {r : vw_C} (hK : KK D s) (hW : HW D σ H) (hb : σ b = some (.inr (ci, fs))) (hc : vwCl[ci]? = some r) : ∃ cell : Cell, H[b]? = some cell ∧ cell.vm.isStatics = false ∧ s.vm.findClass r.1 = some cell.cls := by
  obtain ⟨ws, hP, hD, hs⟩ := hW
  obtain ⟨q0, hq0⟩ := (hs b _).mp hb
  exact va_recv hK.1 hP hc hq0
theorem j_callV {yM : MethodName} {bM : ByteArray} {nLM : Nat} {rtM : Option FieldType} {rm : Room} {mc ms b ci idx ar : Nat} {fs : List Value} {r : vw_C} {As rest : List Value} {P : Nat → Option Value → Wd → Prop} (w : wCallB y.cls idx yM bM nLM rtM ar) (hlink : Cond.methodLink y.cls idx yM ∈ TBl) (hinst : Cond.instanceMethod yM ∈ TBl) (hsel : Cond.selects yM.cls yM yM ∈ TBl) (hc : vwCl[ci]? = some r) (hcn : r.1 = yM.cls)
    (hdg : decode cc pc = .ok (.invokevirtual idx, 3)) (hM : SP l D yM bM nLM rtM rm (.ref b :: As) σ mc ms P) (hb : σ b = some (.inr (ci, fs))) (har : As.length = ar) (hrm : rm.cells = mc ∧ rm.slots = ms) (hR : rm.frames + 1 ≤ R.frames ∧ 8 + (nLM + 11) + rm.locals ≤ R.locals) (hcat : (rest.map fun v => v.category).sum ≤ 8) (hf : k + mc ≤ R.cells ∧ n + ms ≤ R.slots)
    (kk : ∀ (sz' : Nat) (r : Option Value) (σ1 : Wd), (sz ≤ sz' ∧ sz' ≤ sz + k ∧ ∀ a e, σ a = some e → a < sz') → P sz' r σ1 → J l D y cc nL rt R sz A QE (k + mc) (n + ms) (pc + 3) L (r.toList ++ rest) σ1) : J l D y cc nL rt R sz A QE k n pc L (revOn As (.ref b :: rest)) σ := by
  intro p e s m args below meth c C H locs ls hl hW hd hq hS
  obtain ⟨hx, hbc, hml, hrt, hown, hlk, hnm, hT, hK, hsz⟩ := id C
  obtain ⟨g1, g2, g3, g4, g5⟩ := callB_mk (args := args) (R := R) (rm := rm) (mc := mc) (ms := ms) hT w hrm.1 hrm.2 hR
  refine W_size (fun hsz1 => ?_)
  refine j_ofRun (va_runV (As := As) (rest := rest) (b := b) (C := r.1) (n := ar) (ws := [Cond.code yM bM nLM rtM]) (bytes := bM) (maxL := nLM) (ret := rtM) (Ts := TBl) ⟨hx, hbc, hml, hown, fun w hw => hT w hw args⟩ (hM H.size) ⟨⟨g1.1, g1.2.1, g1.2.2.1, g1.2.2.2.1, g1.2.2.2.2.1, g1.2.2.2.2.2, g2, g3, g4, g5, hT _ hlink args⟩, hT _ hinst args, by rw [hcn]; exact hT _ hsel args⟩ ⟨pre_blind, j_recv hK hW hb hc, j_pre hT hK hW⟩ rfl har hl.1.1 (by rw [revOn_eq]) (lv_room hcat) hdg hf) rfl C hl hd hq hS (fun r1 σ1 h => kk H.size r1 σ1 ⟨by rw [← hsz]; exact hS.1, by rw [← hsz]; exact hsz1, fun a e h => hW.lt h⟩ h)
theorem j_callS {yM : MethodName} {bM : ByteArray} {nLM : Nat} {rtM : Option FieldType} {rm : Room} {mc ms idx ar : Nat} {As rest : List Value} {P : Nat → Option Value → Wd → Prop} (w : wCallB y.cls idx yM bM nLM rtM ar) (hlink : Cond.methodLink y.cls idx yM ∈ TBl) (hst : Cond.static yM ∈ TBl)
    (hdg : decode cc pc = .ok (.invokestatic idx, 3)) (hM : SP l D yM bM nLM rtM rm As σ mc ms P) (har : As.length = ar) (hrm : rm.cells = mc ∧ rm.slots = ms) (hR : rm.frames + 1 ≤ R.frames ∧ 8 + (nLM + 11) + rm.locals ≤ R.locals) (hcat : (rest.map fun v => v.category).sum ≤ 8) (hf : k + mc ≤ R.cells ∧ n + ms ≤ R.slots)
    (kk : ∀ (sz' : Nat) (r : Option Value) (σ1 : Wd), (sz ≤ sz' ∧ sz' ≤ sz + k ∧ ∀ a e, σ a = some e → a < sz') → P sz' r σ1 → J l D y cc nL rt R sz A QE (k + mc) (n + ms) (pc + 3) L (r.toList ++ rest) σ1) : J l D y cc nL rt R sz A QE k n pc L (revOn As rest) σ := by
  intro p e s m args below meth c C H locs ls hl hW hd hq hS
  obtain ⟨hx, hbc, hml, hrt, hown, hlk, hnm, hT, hK, hsz⟩ := id C
  obtain ⟨g1, g2, g3, g4, g5⟩ := callB_mk (args := args) (R := R) (rm := rm) (mc := mc) (ms := ms) hT w hrm.1 hrm.2 hR
  refine W_size (fun hsz1 => ?_)
  refine j_ofRun (va_runS (As := As) (rest := rest) (n := ar) (ws := [Cond.code yM bM nLM rtM]) (bytes := bM) (maxL := nLM) (ret := rtM) (Ts := TBl) ⟨hx, hbc, hml, hown, fun w hw => hT w hw args⟩ (hM H.size) ⟨⟨g1.1, g1.2.1, g1.2.2.1, g1.2.2.2.1, g1.2.2.2.2.1, g1.2.2.2.2.2, g2, g3, g4, g5, hT _ hlink args⟩, hT _ hst args⟩ ⟨pre_blind, j_pre hT hK hW⟩ rfl har hl.1.1 (by rw [revOn_eq]) (lv_room hcat) hdg hf) rfl C hl hd hq hS (fun r1 σ1 h => kk H.size r1 σ1 ⟨by rw [← hsz]; exact hS.1, by rw [← hsz]; exact hsz1, fun a e h => hW.lt h⟩ h)
theorem j_callSN {yM : MethodName} {host : String} {bM : ByteArray} {nLM : Nat} {rtM : Option FieldType} {rm : Room} {mc ms idx ar : Nat} {As rest : List Value} {P : Nat → Option Value → Wd → Prop} (w : wCallB y.cls idx yM bM nLM rtM ar) (hlink : Cond.methodLinkNest y.cls idx yM host ∈ TBl) (hst : Cond.static yM ∈ TBl)
    (hdg : decode cc pc = .ok (.invokestatic idx, 3)) (hM : SP l D yM bM nLM rtM rm As σ mc ms P) (har : As.length = ar) (hrm : rm.cells = mc ∧ rm.slots = ms) (hR : rm.frames + 1 ≤ R.frames ∧ 8 + (nLM + 11) + rm.locals ≤ R.locals) (hcat : (rest.map fun v => v.category).sum ≤ 8) (hf : k + mc ≤ R.cells ∧ n + ms ≤ R.slots)
    (kk : ∀ (sz' : Nat) (r : Option Value) (σ1 : Wd), (sz ≤ sz' ∧ sz' ≤ sz + k ∧ ∀ a e, σ a = some e → a < sz') → P sz' r σ1 → J l D y cc nL rt R sz A QE (k + mc) (n + ms) (pc + 3) L (r.toList ++ rest) σ1) : J l D y cc nL rt R sz A QE k n pc L (revOn As rest) σ := by
  intro p e s m args below meth c C H locs ls hl hW hd hq hS
  obtain ⟨hx, hbc, hml, hrt, hown, hlk, hnm, hT, hK, hsz⟩ := id C
  obtain ⟨g1, g2, g3, g4, g5⟩ := callB_mk (args := args) (R := R) (rm := rm) (mc := mc) (ms := ms) hT w hrm.1 hrm.2 hR
  refine W_size (fun hsz1 => ?_)
  refine j_ofRun (va_runSN (As := As) (rest := rest) (n := ar) (ws := [Cond.code yM bM nLM rtM]) (bytes := bM) (maxL := nLM) (ret := rtM) (Ts := TBl) ⟨hx, hbc, hml, hown, fun w hw => hT w hw args⟩ (hM H.size) ⟨⟨g1, g2, g3, g4, g5, hT _ hlink args⟩, hT _ hst args, trivial⟩ ⟨pre_blind, j_pre hT hK hW⟩ rfl har hl.1.1 (by rw [revOn_eq]) (lv_room hcat) hdg hf) rfl C hl hd hq hS (fun r1 σ1 h => kk H.size r1 σ1 ⟨by rw [← hsz]; exact hS.1, by rw [← hsz]; exact hsz1, fun a e h => hW.lt h⟩ h)
theorem j_callI {yM : MethodName} {bM : ByteArray} {nLM : Nat} {rm : Room} {mc ms b idx ar : Nat} {As rest : List Value} {P : Nat → Option Value → Wd → Prop} (w : wCallB y.cls idx yM bM nLM none ar) (hlink : Cond.methodLink y.cls idx yM ∈ TBl) (hinst : Cond.instanceMethod yM ∈ TBl) (hini : yM.name = "<init>")
    (hdg : decode cc pc = .ok (.invokespecial idx, 3)) (hM : SP l D yM bM nLM none rm (.ref b :: As) σ mc ms P) (har : As.length = ar) (hrm : rm.cells = mc ∧ rm.slots = ms) (hR : rm.frames + 1 ≤ R.frames ∧ 8 + (nLM + 11) + rm.locals ≤ R.locals) (hcat : (rest.map fun v => v.category).sum ≤ 8) (hf : k + mc ≤ R.cells ∧ n + ms ≤ R.slots)
    (kk : ∀ (sz' : Nat) (r : Option Value) (σ1 : Wd), (sz ≤ sz' ∧ sz' ≤ sz + k ∧ ∀ a e, σ a = some e → a < sz') → P sz' r σ1 → J l D y cc nL rt R sz A QE (k + mc) (n + ms) (pc + 3) L (r.toList ++ rest) σ1) : J l D y cc nL rt R sz A QE k n pc L (revOn As (.ref b :: rest)) σ := by
  intro p e s m args below meth c C H locs ls hl hW hd hq hS
  obtain ⟨hx, hbc, hml, hrt, hown, hlk, hnm, hT, hK, hsz⟩ := id C
  obtain ⟨g1, g2, g3, g4, g5⟩ := callB_mk (args := args) (R := R) (rm := rm) (mc := mc) (ms := ms) hT w hrm.1 hrm.2 hR
  refine W_size (fun hsz1 => ?_)
  refine j_ofRun (va_runI (As := As) (rest := rest) (b := b) (n := ar) (ws := [Cond.code yM bM nLM none]) (bytes := bM) (maxL := nLM) (Ts := TBl) ⟨hx, hbc, hml, hown, fun w hw => hT w hw args⟩ (hM H.size) ⟨⟨g1.1, g1.2.1, g1.2.2.1, g1.2.2.2.1, g1.2.2.2.2.1, g1.2.2.2.2.2, g2, g3, g4, g5, hT _ hlink args⟩, hini, hT _ hinst args⟩ ⟨pre_blind, j_pre hT hK hW⟩ rfl har hl.1.1 (by rw [revOn_eq]) (lv_room hcat) hdg hf) rfl C hl hd hq hS (fun r1 σ1 h => kk H.size r1 σ1 ⟨by rw [← hsz]; exact hS.1, by rw [← hsz]; exact hsz1, fun a e h => hW.lt h⟩ h)
theorem j_callIN {yM : MethodName} {host : String} {bM : ByteArray} {nLM : Nat} {rm : Room} {mc ms b idx ar : Nat} {As rest : List Value} {P : Nat → Option Value → Wd → Prop} (w : wCallB y.cls idx yM bM nLM none ar) (hlink : Cond.methodLinkNest y.cls idx yM host ∈ TBl) (hinst : Cond.instanceMethod yM ∈ TBl) (hini : yM.name = "<init>")
    (hdg : decode cc pc = .ok (.invokespecial idx, 3)) (hM : SP l D yM bM nLM none rm (.ref b :: As) σ mc ms P) (har : As.length = ar) (hrm : rm.cells = mc ∧ rm.slots = ms) (hR : rm.frames + 1 ≤ R.frames ∧ 8 + (nLM + 11) + rm.locals ≤ R.locals) (hcat : (rest.map fun v => v.category).sum ≤ 8) (hf : k + mc ≤ R.cells ∧ n + ms ≤ R.slots)
    (kk : ∀ (sz' : Nat) (r : Option Value) (σ1 : Wd), (sz ≤ sz' ∧ sz' ≤ sz + k ∧ ∀ a e, σ a = some e → a < sz') → P sz' r σ1 → J l D y cc nL rt R sz A QE (k + mc) (n + ms) (pc + 3) L (r.toList ++ rest) σ1) : J l D y cc nL rt R sz A QE k n pc L (revOn As (.ref b :: rest)) σ := by
  intro p e s m args below meth c C H locs ls hl hW hd hq hS
  obtain ⟨hx, hbc, hml, hrt, hown, hlk, hnm, hT, hK, hsz⟩ := id C
  obtain ⟨g1, g2, g3, g4, g5⟩ := callB_mk (args := args) (R := R) (rm := rm) (mc := mc) (ms := ms) hT w hrm.1 hrm.2 hR
  refine W_size (fun hsz1 => ?_)
  refine j_ofRun (va_runIN (As := As) (rest := rest) (b := b) (n := ar) (ws := [Cond.code yM bM nLM none]) (bytes := bM) (maxL := nLM) (Ts := TBl) ⟨hx, hbc, hml, hown, fun w hw => hT w hw args⟩ (hM H.size) ⟨⟨g1, g2, g3, g4, g5, hT _ hlink args⟩, hini, hT _ hinst args⟩ ⟨pre_blind, j_pre hT hK hW⟩ rfl har hl.1.1 (by rw [revOn_eq]) (lv_room hcat) hdg hf) rfl C hl hd hq hS (fun r1 σ1 h => kk H.size r1 σ1 ⟨by rw [← hsz]; exact hS.1, by rw [← hsz]; exact hsz1, fun a e h => hW.lt h⟩ h)
end JCall
end
