-- ===== PART A: goes FIRST, ahead of the names: the tables' words, and 'selects' of the private methods out of them =====
/-- a private method of a class that the tables say can be made, by its rows of tables_1 -/
def lw_okq (q : MethodName × Nat) : Prop := (q.1.cls ≠ "java/lang/invoke/MethodHandle" ∧ q.1.cls ≠ "java/lang/invoke/VarHandle") ∧ Cond.instantiable q.1.cls q.2 ∈ tables_1 ∧ Cond.privateMethod q.1 ∈ tables_1 ∧ Cond.instanceMethod q.1 ∈ tables_1
theorem lw_p0 : lw_okq (⟨"RiceBlocks", "changeSetting", "(II)I"⟩, 6) := ⟨⟨by decide +kernel, by decide +kernel⟩, List.mem_of_getElem? (i := 13) (by decide +kernel), List.mem_of_getElem? (i := 225) (by decide +kernel), List.mem_of_getElem? (i := 226) (by decide +kernel)⟩
theorem lw_p1 : lw_okq (⟨"RiceBlocks", "settle", "(I)I"⟩, 6) := ⟨⟨by decide +kernel, by decide +kernel⟩, List.mem_of_getElem? (i := 13) (by decide +kernel), List.mem_of_getElem? (i := 232) (by decide +kernel), List.mem_of_getElem? (i := 233) (by decide +kernel)⟩
theorem lw_p2 : lw_okq (⟨"RiceBlocks$Coding", "codeBlock", "(LRiceBlocks$Row;I)V"⟩, 4) := ⟨⟨by decide +kernel, by decide +kernel⟩, List.mem_of_getElem? (i := 63) (by decide +kernel), List.mem_of_getElem? (i := 276) (by decide +kernel), List.mem_of_getElem? (i := 277) (by decide +kernel)⟩
theorem lw_p3 : lw_okq (⟨"RiceBlocks", "addNumber", "(I)I"⟩, 6) := ⟨⟨by decide +kernel, by decide +kernel⟩, List.mem_of_getElem? (i := 13) (by decide +kernel), List.mem_of_getElem? (i := 315) (by decide +kernel), List.mem_of_getElem? (i := 316) (by decide +kernel)⟩
theorem lw_p4 : lw_okq (⟨"RiceBlocks", "dropNumber", "(I)I"⟩, 6) := ⟨⟨by decide +kernel, by decide +kernel⟩, List.mem_of_getElem? (i := 13) (by decide +kernel), List.mem_of_getElem? (i := 344) (by decide +kernel), List.mem_of_getElem? (i := 345) (by decide +kernel)⟩
theorem lw_p5 : lw_okq (⟨"RiceBlocks", "escapesIn", "(III)I"⟩, 6) := ⟨⟨by decide +kernel, by decide +kernel⟩, List.mem_of_getElem? (i := 13) (by decide +kernel), List.mem_of_getElem? (i := 372) (by decide +kernel), List.mem_of_getElem? (i := 373) (by decide +kernel)⟩
theorem lw_p6 : lw_okq (⟨"RiceBlocks", "greatestGap", "(II)I"⟩, 6) := ⟨⟨by decide +kernel, by decide +kernel⟩, List.mem_of_getElem? (i := 13) (by decide +kernel), List.mem_of_getElem? (i := 398) (by decide +kernel), List.mem_of_getElem? (i := 399) (by decide +kernel)⟩
theorem lw_p7 : lw_okq (⟨"RiceBlocks", "allEscapes", "()I"⟩, 6) := ⟨⟨by decide +kernel, by decide +kernel⟩, List.mem_of_getElem? (i := 13) (by decide +kernel), List.mem_of_getElem? (i := 433) (by decide +kernel), List.mem_of_getElem? (i := 434) (by decide +kernel)⟩
theorem lw_p8 : lw_okq (⟨"RiceBlocks", "greatestExponent", "()I"⟩, 6) := ⟨⟨by decide +kernel, by decide +kernel⟩, List.mem_of_getElem? (i := 13) (by decide +kernel), List.mem_of_getElem? (i := 437) (by decide +kernel), List.mem_of_getElem? (i := 438) (by decide +kernel)⟩
theorem lw_p9 : lw_okq (⟨"RiceBlocks", "openBlock", "(I)V"⟩, 6) := ⟨⟨by decide +kernel, by decide +kernel⟩, List.mem_of_getElem? (i := 13) (by decide +kernel), List.mem_of_getElem? (i := 445) (by decide +kernel), List.mem_of_getElem? (i := 446) (by decide +kernel)⟩
theorem lw_p10 : lw_okq (⟨"RiceBlocks$Stream", "readBits", "(I)I"⟩, 6) := ⟨⟨by decide +kernel, by decide +kernel⟩, List.mem_of_getElem? (i := 84) (by decide +kernel), List.mem_of_getElem? (i := 457) (by decide +kernel), List.mem_of_getElem? (i := 458) (by decide +kernel)⟩
theorem lw_p11 : lw_okq (⟨"RiceBlocks$Stream", "readGap", "(I)I"⟩, 6) := ⟨⟨by decide +kernel, by decide +kernel⟩, List.mem_of_getElem? (i := 84) (by decide +kernel), List.mem_of_getElem? (i := 465) (by decide +kernel), List.mem_of_getElem? (i := 466) (by decide +kernel)⟩
theorem lw_p12 : lw_okq (⟨"RiceBlocks", "readUpTo", "(II)I"⟩, 6) := ⟨⟨by decide +kernel, by decide +kernel⟩, List.mem_of_getElem? (i := 13) (by decide +kernel), List.mem_of_getElem? (i := 481) (by decide +kernel), List.mem_of_getElem? (i := 482) (by decide +kernel)⟩
theorem lw_p13 : lw_okq (⟨"RiceBlocks", "carryOrders", "()I"⟩, 6) := ⟨⟨by decide +kernel, by decide +kernel⟩, List.mem_of_getElem? (i := 13) (by decide +kernel), List.mem_of_getElem? (i := 554) (by decide +kernel), List.mem_of_getElem? (i := 555) (by decide +kernel)⟩
theorem lw_p14 : lw_okq (⟨"RiceBlocks", "carryNumber", "(II)I"⟩, 6) := ⟨⟨by decide +kernel, by decide +kernel⟩, List.mem_of_getElem? (i := 13) (by decide +kernel), List.mem_of_getElem? (i := 563) (by decide +kernel), List.mem_of_getElem? (i := 564) (by decide +kernel)⟩
theorem lw_p15 : lw_okq (⟨"RiceBlocksModel", "keep", "()V"⟩, 13) := ⟨⟨by decide +kernel, by decide +kernel⟩, List.mem_of_getElem? (i := 597) (by decide +kernel), List.mem_of_getElem? (i := 647) (by decide +kernel), List.mem_of_getElem? (i := 648) (by decide +kernel)⟩
def lw_privs_1 : List (MethodName × Nat) := [(⟨"RiceBlocks", "changeSetting", "(II)I"⟩, 6), (⟨"RiceBlocks", "settle", "(I)I"⟩, 6), (⟨"RiceBlocks$Coding", "codeBlock", "(LRiceBlocks$Row;I)V"⟩, 4), (⟨"RiceBlocks", "addNumber", "(I)I"⟩, 6), (⟨"RiceBlocks", "dropNumber", "(I)I"⟩, 6), (⟨"RiceBlocks", "escapesIn", "(III)I"⟩, 6), (⟨"RiceBlocks", "greatestGap", "(II)I"⟩, 6), (⟨"RiceBlocks", "allEscapes", "()I"⟩, 6), (⟨"RiceBlocks", "greatestExponent", "()I"⟩, 6), (⟨"RiceBlocks", "openBlock", "(I)V"⟩, 6), (⟨"RiceBlocks$Stream", "readBits", "(I)I"⟩, 6), (⟨"RiceBlocks$Stream", "readGap", "(I)I"⟩, 6), (⟨"RiceBlocks", "readUpTo", "(II)I"⟩, 6), (⟨"RiceBlocks", "carryOrders", "()I"⟩, 6), (⟨"RiceBlocks", "carryNumber", "(II)I"⟩, 6), (⟨"RiceBlocksModel", "keep", "()V"⟩, 13)]
theorem lw_r1 : ∀ q ∈ lw_privs_1, lw_okq q := List.forall_mem_cons.mpr ⟨lw_p0, List.forall_mem_cons.mpr ⟨lw_p1, List.forall_mem_cons.mpr ⟨lw_p2, List.forall_mem_cons.mpr ⟨lw_p3, List.forall_mem_cons.mpr ⟨lw_p4, List.forall_mem_cons.mpr ⟨lw_p5, List.forall_mem_cons.mpr ⟨lw_p6, List.forall_mem_cons.mpr ⟨lw_p7, List.forall_mem_cons.mpr ⟨lw_p8, List.forall_mem_cons.mpr ⟨lw_p9, List.forall_mem_cons.mpr ⟨lw_p10, List.forall_mem_cons.mpr ⟨lw_p11, List.forall_mem_cons.mpr ⟨lw_p12, List.forall_mem_cons.mpr ⟨lw_p13, List.forall_mem_cons.mpr ⟨lw_p14, List.forall_mem_cons.mpr ⟨lw_p15, fun _ h => absurd h List.not_mem_nil⟩⟩⟩⟩⟩⟩⟩⟩⟩⟩⟩⟩⟩⟩⟩⟩
theorem lw_p16 : lw_okq (⟨"RiceBlocksModel", "doSet", "(II)I"⟩, 13) := ⟨⟨by decide +kernel, by decide +kernel⟩, List.mem_of_getElem? (i := 597) (by decide +kernel), List.mem_of_getElem? (i := 651) (by decide +kernel), List.mem_of_getElem? (i := 652) (by decide +kernel)⟩
theorem lw_p17 : lw_okq (⟨"RiceBlocksModel", "changed", "(I)I"⟩, 13) := ⟨⟨by decide +kernel, by decide +kernel⟩, List.mem_of_getElem? (i := 597) (by decide +kernel), List.mem_of_getElem? (i := 663) (by decide +kernel), List.mem_of_getElem? (i := 664) (by decide +kernel)⟩
theorem lw_p18 : lw_okq (⟨"RiceBlocksModel", "doPutIn", "(I)I"⟩, 13) := ⟨⟨by decide +kernel, by decide +kernel⟩, List.mem_of_getElem? (i := 597) (by decide +kernel), List.mem_of_getElem? (i := 671) (by decide +kernel), List.mem_of_getElem? (i := 672) (by decide +kernel)⟩
theorem lw_p19 : lw_okq (⟨"RiceBlocksModel", "isThere", "(I)Z"⟩, 13) := ⟨⟨by decide +kernel, by decide +kernel⟩, List.mem_of_getElem? (i := 597) (by decide +kernel), List.mem_of_getElem? (i := 679) (by decide +kernel), List.mem_of_getElem? (i := 680) (by decide +kernel)⟩
theorem lw_p20 : lw_okq (⟨"RiceBlocksModel", "lowest", "(I)I"⟩, 13) := ⟨⟨by decide +kernel, by decide +kernel⟩, List.mem_of_getElem? (i := 597) (by decide +kernel), List.mem_of_getElem? (i := 683) (by decide +kernel), List.mem_of_getElem? (i := 684) (by decide +kernel)⟩
theorem lw_p21 : lw_okq (⟨"RiceBlocksModel", "number", "(I)I"⟩, 13) := ⟨⟨by decide +kernel, by decide +kernel⟩, List.mem_of_getElem? (i := 597) (by decide +kernel), List.mem_of_getElem? (i := 687) (by decide +kernel), List.mem_of_getElem? (i := 688) (by decide +kernel)⟩
theorem lw_p22 : lw_okq (⟨"RiceBlocksModel", "doTakeOut", "(I)I"⟩, 13) := ⟨⟨by decide +kernel, by decide +kernel⟩, List.mem_of_getElem? (i := 597) (by decide +kernel), List.mem_of_getElem? (i := 695) (by decide +kernel), List.mem_of_getElem? (i := 696) (by decide +kernel)⟩
theorem lw_p23 : lw_okq (⟨"RiceBlocksModel", "doShift", "(II)I"⟩, 13) := ⟨⟨by decide +kernel, by decide +kernel⟩, List.mem_of_getElem? (i := 597) (by decide +kernel), List.mem_of_getElem? (i := 703) (by decide +kernel), List.mem_of_getElem? (i := 704) (by decide +kernel)⟩
theorem lw_p24 : lw_okq (⟨"RiceBlocksModel", "isPlace", "(I)Z"⟩, 13) := ⟨⟨by decide +kernel, by decide +kernel⟩, List.mem_of_getElem? (i := 597) (by decide +kernel), List.mem_of_getElem? (i := 707) (by decide +kernel), List.mem_of_getElem? (i := 708) (by decide +kernel)⟩
theorem lw_p25 : lw_okq (⟨"RiceBlocksModel", "streamBits", "()I"⟩, 13) := ⟨⟨by decide +kernel, by decide +kernel⟩, List.mem_of_getElem? (i := 597) (by decide +kernel), List.mem_of_getElem? (i := 712) (by decide +kernel), List.mem_of_getElem? (i := 713) (by decide +kernel)⟩
theorem lw_p26 : lw_okq (⟨"RiceBlocksModel", "blocks", "()I"⟩, 13) := ⟨⟨by decide +kernel, by decide +kernel⟩, List.mem_of_getElem? (i := 597) (by decide +kernel), List.mem_of_getElem? (i := 716) (by decide +kernel), List.mem_of_getElem? (i := 717) (by decide +kernel)⟩
theorem lw_p27 : lw_okq (⟨"RiceBlocksModel", "skip", "(I)I"⟩, 13) := ⟨⟨by decide +kernel, by decide +kernel⟩, List.mem_of_getElem? (i := 597) (by decide +kernel), List.mem_of_getElem? (i := 720) (by decide +kernel), List.mem_of_getElem? (i := 721) (by decide +kernel)⟩
theorem lw_p28 : lw_okq (⟨"RiceBlocksModel", "blockBits", "(I)I"⟩, 13) := ⟨⟨by decide +kernel, by decide +kernel⟩, List.mem_of_getElem? (i := 597) (by decide +kernel), List.mem_of_getElem? (i := 724) (by decide +kernel), List.mem_of_getElem? (i := 725) (by decide +kernel)⟩
theorem lw_p29 : lw_okq (⟨"RiceBlocksModel", "exponentOf", "(I)I"⟩, 13) := ⟨⟨by decide +kernel, by decide +kernel⟩, List.mem_of_getElem? (i := 597) (by decide +kernel), List.mem_of_getElem? (i := 728) (by decide +kernel), List.mem_of_getElem? (i := 729) (by decide +kernel)⟩
theorem lw_p30 : lw_okq (⟨"RiceBlocksModel", "costOf", "(II)I"⟩, 13) := ⟨⟨by decide +kernel, by decide +kernel⟩, List.mem_of_getElem? (i := 597) (by decide +kernel), List.mem_of_getElem? (i := 732) (by decide +kernel), List.mem_of_getElem? (i := 733) (by decide +kernel)⟩
theorem lw_p31 : lw_okq (⟨"RiceBlocksModel", "first", "(I)I"⟩, 13) := ⟨⟨by decide +kernel, by decide +kernel⟩, List.mem_of_getElem? (i := 597) (by decide +kernel), List.mem_of_getElem? (i := 736) (by decide +kernel), List.mem_of_getElem? (i := 737) (by decide +kernel)⟩
def lw_privs_2 : List (MethodName × Nat) := [(⟨"RiceBlocksModel", "doSet", "(II)I"⟩, 13), (⟨"RiceBlocksModel", "changed", "(I)I"⟩, 13), (⟨"RiceBlocksModel", "doPutIn", "(I)I"⟩, 13), (⟨"RiceBlocksModel", "isThere", "(I)Z"⟩, 13), (⟨"RiceBlocksModel", "lowest", "(I)I"⟩, 13), (⟨"RiceBlocksModel", "number", "(I)I"⟩, 13), (⟨"RiceBlocksModel", "doTakeOut", "(I)I"⟩, 13), (⟨"RiceBlocksModel", "doShift", "(II)I"⟩, 13), (⟨"RiceBlocksModel", "isPlace", "(I)Z"⟩, 13), (⟨"RiceBlocksModel", "streamBits", "()I"⟩, 13), (⟨"RiceBlocksModel", "blocks", "()I"⟩, 13), (⟨"RiceBlocksModel", "skip", "(I)I"⟩, 13), (⟨"RiceBlocksModel", "blockBits", "(I)I"⟩, 13), (⟨"RiceBlocksModel", "exponentOf", "(I)I"⟩, 13), (⟨"RiceBlocksModel", "costOf", "(II)I"⟩, 13), (⟨"RiceBlocksModel", "first", "(I)I"⟩, 13)]
theorem lw_r2 : ∀ q ∈ lw_privs_2, lw_okq q := List.forall_mem_cons.mpr ⟨lw_p16, List.forall_mem_cons.mpr ⟨lw_p17, List.forall_mem_cons.mpr ⟨lw_p18, List.forall_mem_cons.mpr ⟨lw_p19, List.forall_mem_cons.mpr ⟨lw_p20, List.forall_mem_cons.mpr ⟨lw_p21, List.forall_mem_cons.mpr ⟨lw_p22, List.forall_mem_cons.mpr ⟨lw_p23, List.forall_mem_cons.mpr ⟨lw_p24, List.forall_mem_cons.mpr ⟨lw_p25, List.forall_mem_cons.mpr ⟨lw_p26, List.forall_mem_cons.mpr ⟨lw_p27, List.forall_mem_cons.mpr ⟨lw_p28, List.forall_mem_cons.mpr ⟨lw_p29, List.forall_mem_cons.mpr ⟨lw_p30, List.forall_mem_cons.mpr ⟨lw_p31, fun _ h => absurd h List.not_mem_nil⟩⟩⟩⟩⟩⟩⟩⟩⟩⟩⟩⟩⟩⟩⟩⟩
theorem lw_p32 : lw_okq (⟨"RiceBlocksModel", "end", "(I)I"⟩, 13) := ⟨⟨by decide +kernel, by decide +kernel⟩, List.mem_of_getElem? (i := 597) (by decide +kernel), List.mem_of_getElem? (i := 740) (by decide +kernel), List.mem_of_getElem? (i := 741) (by decide +kernel)⟩
theorem lw_p33 : lw_okq (⟨"RiceBlocksModel", "gapOf", "(I)I"⟩, 13) := ⟨⟨by decide +kernel, by decide +kernel⟩, List.mem_of_getElem? (i := 597) (by decide +kernel), List.mem_of_getElem? (i := 744) (by decide +kernel), List.mem_of_getElem? (i := 745) (by decide +kernel)⟩
theorem lw_p34 : lw_okq (⟨"RiceBlocksModel", "codeBits", "(II)I"⟩, 13) := ⟨⟨by decide +kernel, by decide +kernel⟩, List.mem_of_getElem? (i := 597) (by decide +kernel), List.mem_of_getElem? (i := 748) (by decide +kernel), List.mem_of_getElem? (i := 749) (by decide +kernel)⟩
theorem lw_p35 : lw_okq (⟨"RiceBlocksModel", "isEscape", "(II)Z"⟩, 13) := ⟨⟨by decide +kernel, by decide +kernel⟩, List.mem_of_getElem? (i := 597) (by decide +kernel), List.mem_of_getElem? (i := 752) (by decide +kernel), List.mem_of_getElem? (i := 753) (by decide +kernel)⟩
theorem lw_p36 : lw_okq (⟨"RiceBlocksModel", "bitsAhead", "(II)I"⟩, 13) := ⟨⟨by decide +kernel, by decide +kernel⟩, List.mem_of_getElem? (i := 597) (by decide +kernel), List.mem_of_getElem? (i := 760) (by decide +kernel), List.mem_of_getElem? (i := 761) (by decide +kernel)⟩
theorem lw_p37 : lw_okq (⟨"RiceBlocksModel", "isBlock", "(I)Z"⟩, 13) := ⟨⟨by decide +kernel, by decide +kernel⟩, List.mem_of_getElem? (i := 597) (by decide +kernel), List.mem_of_getElem? (i := 768) (by decide +kernel), List.mem_of_getElem? (i := 769) (by decide +kernel)⟩
theorem lw_p38 : lw_okq (⟨"RiceBlocksModel", "base", "(I)I"⟩, 13) := ⟨⟨by decide +kernel, by decide +kernel⟩, List.mem_of_getElem? (i := 597) (by decide +kernel), List.mem_of_getElem? (i := 772) (by decide +kernel), List.mem_of_getElem? (i := 773) (by decide +kernel)⟩
theorem lw_p39 : lw_okq (⟨"RiceBlocksModel", "escapes", "(I)I"⟩, 13) := ⟨⟨by decide +kernel, by decide +kernel⟩, List.mem_of_getElem? (i := 597) (by decide +kernel), List.mem_of_getElem? (i := 776) (by decide +kernel), List.mem_of_getElem? (i := 777) (by decide +kernel)⟩
theorem lw_p40 : lw_okq (⟨"RiceBlocksModel", "greatestGap", "(I)I"⟩, 13) := ⟨⟨by decide +kernel, by decide +kernel⟩, List.mem_of_getElem? (i := 597) (by decide +kernel), List.mem_of_getElem? (i := 780) (by decide +kernel), List.mem_of_getElem? (i := 781) (by decide +kernel)⟩
theorem lw_p41 : lw_okq (⟨"RiceBlocksModel", "lays", "()V"⟩, 13) := ⟨⟨by decide +kernel, by decide +kernel⟩, List.mem_of_getElem? (i := 597) (by decide +kernel), List.mem_of_getElem? (i := 788) (by decide +kernel), List.mem_of_getElem? (i := 789) (by decide +kernel)⟩
theorem lw_p42 : lw_okq (⟨"RiceBlocksModel", "writes", "(II)V"⟩, 13) := ⟨⟨by decide +kernel, by decide +kernel⟩, List.mem_of_getElem? (i := 597) (by decide +kernel), List.mem_of_getElem? (i := 792) (by decide +kernel), List.mem_of_getElem? (i := 793) (by decide +kernel)⟩
theorem lw_p43 : lw_okq (⟨"RiceBlocksModel", "writesOnes", "(I)V"⟩, 13) := ⟨⟨by decide +kernel, by decide +kernel⟩, List.mem_of_getElem? (i := 597) (by decide +kernel), List.mem_of_getElem? (i := 796) (by decide +kernel), List.mem_of_getElem? (i := 797) (by decide +kernel)⟩
theorem lw_p44 : lw_okq (⟨"RiceBlocksModel", "escapesOfAll", "()I"⟩, 13) := ⟨⟨by decide +kernel, by decide +kernel⟩, List.mem_of_getElem? (i := 597) (by decide +kernel), List.mem_of_getElem? (i := 810) (by decide +kernel), List.mem_of_getElem? (i := 811) (by decide +kernel)⟩
theorem lw_p45 : lw_okq (⟨"RiceBlocksModel", "greatestExponent", "()I"⟩, 13) := ⟨⟨by decide +kernel, by decide +kernel⟩, List.mem_of_getElem? (i := 597) (by decide +kernel), List.mem_of_getElem? (i := 814) (by decide +kernel), List.mem_of_getElem? (i := 815) (by decide +kernel)⟩
theorem lw_p46 : lw_okq (⟨"RiceBlocksModel", "blockFor", "(I)I"⟩, 13) := ⟨⟨by decide +kernel, by decide +kernel⟩, List.mem_of_getElem? (i := 597) (by decide +kernel), List.mem_of_getElem? (i := 827) (by decide +kernel), List.mem_of_getElem? (i := 828) (by decide +kernel)⟩
theorem lw_p47 : lw_okq (⟨"RiceBlocksModel", "readFor", "(I)I"⟩, 13) := ⟨⟨by decide +kernel, by decide +kernel⟩, List.mem_of_getElem? (i := 597) (by decide +kernel), List.mem_of_getElem? (i := 831) (by decide +kernel), List.mem_of_getElem? (i := 832) (by decide +kernel)⟩
def lw_privs_3 : List (MethodName × Nat) := [(⟨"RiceBlocksModel", "end", "(I)I"⟩, 13), (⟨"RiceBlocksModel", "gapOf", "(I)I"⟩, 13), (⟨"RiceBlocksModel", "codeBits", "(II)I"⟩, 13), (⟨"RiceBlocksModel", "isEscape", "(II)Z"⟩, 13), (⟨"RiceBlocksModel", "bitsAhead", "(II)I"⟩, 13), (⟨"RiceBlocksModel", "isBlock", "(I)Z"⟩, 13), (⟨"RiceBlocksModel", "base", "(I)I"⟩, 13), (⟨"RiceBlocksModel", "escapes", "(I)I"⟩, 13), (⟨"RiceBlocksModel", "greatestGap", "(I)I"⟩, 13), (⟨"RiceBlocksModel", "lays", "()V"⟩, 13), (⟨"RiceBlocksModel", "writes", "(II)V"⟩, 13), (⟨"RiceBlocksModel", "writesOnes", "(I)V"⟩, 13), (⟨"RiceBlocksModel", "escapesOfAll", "()I"⟩, 13), (⟨"RiceBlocksModel", "greatestExponent", "()I"⟩, 13), (⟨"RiceBlocksModel", "blockFor", "(I)I"⟩, 13), (⟨"RiceBlocksModel", "readFor", "(I)I"⟩, 13)]
theorem lw_r3 : ∀ q ∈ lw_privs_3, lw_okq q := List.forall_mem_cons.mpr ⟨lw_p32, List.forall_mem_cons.mpr ⟨lw_p33, List.forall_mem_cons.mpr ⟨lw_p34, List.forall_mem_cons.mpr ⟨lw_p35, List.forall_mem_cons.mpr ⟨lw_p36, List.forall_mem_cons.mpr ⟨lw_p37, List.forall_mem_cons.mpr ⟨lw_p38, List.forall_mem_cons.mpr ⟨lw_p39, List.forall_mem_cons.mpr ⟨lw_p40, List.forall_mem_cons.mpr ⟨lw_p41, List.forall_mem_cons.mpr ⟨lw_p42, List.forall_mem_cons.mpr ⟨lw_p43, List.forall_mem_cons.mpr ⟨lw_p44, List.forall_mem_cons.mpr ⟨lw_p45, List.forall_mem_cons.mpr ⟨lw_p46, List.forall_mem_cons.mpr ⟨lw_p47, fun _ h => absurd h List.not_mem_nil⟩⟩⟩⟩⟩⟩⟩⟩⟩⟩⟩⟩⟩⟩⟩⟩
theorem lw_p48 : lw_okq (⟨"RiceBlocksModel", "bitsWith", "(II)I"⟩, 13) := ⟨⟨by decide +kernel, by decide +kernel⟩, List.mem_of_getElem? (i := 597) (by decide +kernel), List.mem_of_getElem? (i := 844) (by decide +kernel), List.mem_of_getElem? (i := 845) (by decide +kernel)⟩
theorem lw_p49 : lw_okq (⟨"RiceBlocksModel", "reads", "(I)I"⟩, 13) := ⟨⟨by decide +kernel, by decide +kernel⟩, List.mem_of_getElem? (i := 597) (by decide +kernel), List.mem_of_getElem? (i := 856) (by decide +kernel), List.mem_of_getElem? (i := 857) (by decide +kernel)⟩
theorem lw_p50 : lw_okq (⟨"RiceBlocksModel", "readsGap", "(I)I"⟩, 13) := ⟨⟨by decide +kernel, by decide +kernel⟩, List.mem_of_getElem? (i := 597) (by decide +kernel), List.mem_of_getElem? (i := 860) (by decide +kernel), List.mem_of_getElem? (i := 861) (by decide +kernel)⟩
theorem lw_p51 : lw_okq (⟨"RiceBlocksModel", "readsLetter", "()I"⟩, 13) := ⟨⟨by decide +kernel, by decide +kernel⟩, List.mem_of_getElem? (i := 597) (by decide +kernel), List.mem_of_getElem? (i := 879) (by decide +kernel), List.mem_of_getElem? (i := 880) (by decide +kernel)⟩
theorem lw_p52 : lw_okq (⟨"RiceBlocksModel", "readsNumber", "()Z"⟩, 13) := ⟨⟨by decide +kernel, by decide +kernel⟩, List.mem_of_getElem? (i := 597) (by decide +kernel), List.mem_of_getElem? (i := 883) (by decide +kernel), List.mem_of_getElem? (i := 884) (by decide +kernel)⟩
theorem lw_p53 : lw_okq (⟨"RiceBlocksModel", "isHere", "(II)Z"⟩, 13) := ⟨⟨by decide +kernel, by decide +kernel⟩, List.mem_of_getElem? (i := 597) (by decide +kernel), List.mem_of_getElem? (i := 887) (by decide +kernel), List.mem_of_getElem? (i := 888) (by decide +kernel)⟩
theorem lw_p54 : lw_okq (⟨"RiceBlocksModel", "takes", "(I)Z"⟩, 13) := ⟨⟨by decide +kernel, by decide +kernel⟩, List.mem_of_getElem? (i := 597) (by decide +kernel), List.mem_of_getElem? (i := 892) (by decide +kernel), List.mem_of_getElem? (i := 893) (by decide +kernel)⟩
theorem lw_p55 : lw_okq (⟨"RiceBlocksModel", "doesOrder", "()Z"⟩, 13) := ⟨⟨by decide +kernel, by decide +kernel⟩, List.mem_of_getElem? (i := 597) (by decide +kernel), List.mem_of_getElem? (i := 901) (by decide +kernel), List.mem_of_getElem? (i := 902) (by decide +kernel)⟩
theorem lw_p56 : lw_okq (⟨"RiceBlocksModel", "putsAll", "()Z"⟩, 13) := ⟨⟨by decide +kernel, by decide +kernel⟩, List.mem_of_getElem? (i := 597) (by decide +kernel), List.mem_of_getElem? (i := 905) (by decide +kernel), List.mem_of_getElem? (i := 906) (by decide +kernel)⟩
def lw_privs_4 : List (MethodName × Nat) := [(⟨"RiceBlocksModel", "bitsWith", "(II)I"⟩, 13), (⟨"RiceBlocksModel", "reads", "(I)I"⟩, 13), (⟨"RiceBlocksModel", "readsGap", "(I)I"⟩, 13), (⟨"RiceBlocksModel", "readsLetter", "()I"⟩, 13), (⟨"RiceBlocksModel", "readsNumber", "()Z"⟩, 13), (⟨"RiceBlocksModel", "isHere", "(II)Z"⟩, 13), (⟨"RiceBlocksModel", "takes", "(I)Z"⟩, 13), (⟨"RiceBlocksModel", "doesOrder", "()Z"⟩, 13), (⟨"RiceBlocksModel", "putsAll", "()Z"⟩, 13)]
theorem lw_r4 : ∀ q ∈ lw_privs_4, lw_okq q := List.forall_mem_cons.mpr ⟨lw_p48, List.forall_mem_cons.mpr ⟨lw_p49, List.forall_mem_cons.mpr ⟨lw_p50, List.forall_mem_cons.mpr ⟨lw_p51, List.forall_mem_cons.mpr ⟨lw_p52, List.forall_mem_cons.mpr ⟨lw_p53, List.forall_mem_cons.mpr ⟨lw_p54, List.forall_mem_cons.mpr ⟨lw_p55, List.forall_mem_cons.mpr ⟨lw_p56, fun _ h => absurd h List.not_mem_nil⟩⟩⟩⟩⟩⟩⟩⟩⟩
def lw_privs : List (MethodName × Nat) := lw_privs_1 ++ (lw_privs_2 ++ (lw_privs_3 ++ (lw_privs_4)))
def lw_tbl : List Cond := k2_sels lw_privs ++ tables_1
theorem lw_privs_ok : ∀ q ∈ lw_privs, lw_okq q := by
  show ∀ q ∈ lw_privs_1 ++ (lw_privs_2 ++ (lw_privs_3 ++ (lw_privs_4))), lw_okq q
  exact List.forall_mem_append.mpr ⟨lw_r1, List.forall_mem_append.mpr ⟨lw_r2, List.forall_mem_append.mpr ⟨lw_r3, lw_r4⟩⟩⟩
def RX0 : String := "RiceBlocks$Cells"
def TX0 : u_T := fun k => match k with
  | _ => ("RiceBlocks$Cells", "cells", "[I", true)
def tyX0 : Nat → FieldType := fun k => match k with
  | _ => .array .int
abbrev wsX00 : List Cond := u_ws RX0 TX0 1
theorem nmX0 : ∀ a, a < 1 → ∀ b, b < 1 → a ≠ b → (TX0 a).2.1 ≠ (TX0 b).2.1 := by decide +kernel
theorem tyX0_ok : ∀ k, k < 1 → parseFieldDescriptor (TX0 k).2.2.1 = some (tyX0 k) := by decide +kernel
abbrev cX0_init : ByteArray := prog_2_method_1_code
def yX0_init : MethodName := ⟨RX0, "<init>", "(I)V"⟩
abbrev cX0_read : ByteArray := prog_2_method_2_code
def yX0_read : MethodName := ⟨RX0, "read", "(I)I"⟩
abbrev cX0_write : ByteArray := prog_2_method_3_code
def yX0_write : MethodName := ⟨RX0, "write", "(II)V"⟩
def RX1 : String := "RiceBlocks$Coding"
def TX1 : u_T := fun k => match k with
  | 0 => ("RiceBlocks$Coding", "prices", "LRiceBlocks$Prices;", true)
  | 1 => ("RiceBlocks$Coding", "stream", "LRiceBlocks$Stream;", true)
  | 2 => ("RiceBlocks$Coding", "exponents", "LRiceBlocks$Cells;", true)
  | _ => ("RiceBlocks$Coding", "skips", "LRiceBlocks$Cells;", true)
def tyX1 : Nat → FieldType := fun k => match k with
  | 0 => .object "RiceBlocks$Prices"
  | 1 => .object "RiceBlocks$Stream"
  | 2 => .object "RiceBlocks$Cells"
  | _ => .object "RiceBlocks$Cells"
abbrev wsX10 : List Cond := u_ws RX1 TX1 4
theorem nmX1 : ∀ a, a < 4 → ∀ b, b < 4 → a ≠ b → (TX1 a).2.1 ≠ (TX1 b).2.1 := by decide +kernel
theorem tyX1_ok : ∀ k, k < 4 → parseFieldDescriptor (TX1 k).2.2.1 = some (tyX1 k) := by decide +kernel
abbrev cX1_init : ByteArray := prog_3_method_1_code
def yX1_init : MethodName := ⟨RX1, "<init>", "()V"⟩
abbrev cX1_codeAnew : ByteArray := prog_3_method_2_code
def yX1_codeAnew : MethodName := ⟨RX1, "codeAnew", "(LRiceBlocks$Row;)V"⟩
abbrev cX1_codeStart : ByteArray := prog_3_method_3_code
def yX1_codeStart : MethodName := ⟨RX1, "codeStart", "(LRiceBlocks$Row;I)I"⟩
abbrev cX1_codeBlock : ByteArray := prog_3_method_4_code
def yX1_codeBlock : MethodName := ⟨RX1, "codeBlock", "(LRiceBlocks$Row;I)V"⟩
def RX2 : String := "RiceBlocks$History"
def TX2 : u_T := fun k => match k with
  | 0 => ("RiceBlocks$History", "states", "LRiceBlocks$States;", true)
  | 1 => ("RiceBlocks$History", "free", "I", false)
  | _ => ("RiceBlocks$History", "length", "I", false)
def tyX2 : Nat → FieldType := fun k => match k with
  | 0 => .object "RiceBlocks$States"
  | 1 => .int
  | _ => .int
abbrev wsX20 : List Cond := u_ws RX2 TX2 3
theorem nmX2 : ∀ a, a < 3 → ∀ b, b < 3 → a ≠ b → (TX2 a).2.1 ≠ (TX2 b).2.1 := by decide +kernel
theorem tyX2_ok : ∀ k, k < 3 → parseFieldDescriptor (TX2 k).2.2.1 = some (tyX2 k) := by decide +kernel
abbrev cX2_init : ByteArray := prog_4_method_1_code
def yX2_init : MethodName := ⟨RX2, "<init>", "()V"⟩
abbrev cX2_note : ByteArray := prog_4_method_2_code
def yX2_note : MethodName := ⟨RX2, "note", "(LRiceBlocks$Row;)V"⟩
abbrev cX2_keepNoted : ByteArray := prog_4_method_3_code
def yX2_keepNoted : MethodName := ⟨RX2, "keepNoted", "()V"⟩
abbrev cX2_bringLatest : ByteArray := prog_4_method_4_code
def yX2_bringLatest : MethodName := ⟨RX2, "bringLatest", "(LRiceBlocks$Row;)V"⟩
def RX3 : String := "RiceBlocks$Pad"
def TX3 : u_T := fun k => match k with
  | 0 => ("RiceBlocks$Pad", "signs", "LRiceBlocks$Cells;", true)
  | _ => ("RiceBlocks$Pad", "length", "I", false)
def tyX3 : Nat → FieldType := fun k => match k with
  | 0 => .object "RiceBlocks$Cells"
  | _ => .int
abbrev wsX30 : List Cond := u_ws RX3 TX3 2
theorem nmX3 : ∀ a, a < 2 → ∀ b, b < 2 → a ≠ b → (TX3 a).2.1 ≠ (TX3 b).2.1 := by decide +kernel
theorem tyX3_ok : ∀ k, k < 2 → parseFieldDescriptor (TX3 k).2.2.1 = some (tyX3 k) := by decide +kernel
abbrev cX3_init : ByteArray := prog_5_method_1_code
def yX3_init : MethodName := ⟨RX3, "<init>", "()V"⟩
abbrev cX3_append : ByteArray := prog_5_method_2_code
def yX3_append : MethodName := ⟨RX3, "append", "(I)V"⟩
abbrev cX3_signOrEnd : ByteArray := prog_5_method_3_code
def yX3_signOrEnd : MethodName := ⟨RX3, "signOrEnd", "(I)I"⟩
abbrev cX3_faultPlace : ByteArray := prog_5_method_4_code
def yX3_faultPlace : MethodName := ⟨RX3, "faultPlace", "()I"⟩
abbrev cX3_withDigit : ByteArray := prog_5_method_5_code
def yX3_withDigit : MethodName := ⟨RX3, "withDigit", "(II)I"⟩
abbrev cX3_isOrder : ByteArray := prog_5_method_6_code
def yX3_isOrder : MethodName := ⟨RX3, "isOrder", "(I)Z"⟩
def RX4 : String := "RiceBlocks$Prices"
def TX4 : u_T := fun k => match k with
  | 0 => ("RiceBlocks$Prices", "sums", "LRiceBlocks$Cells;", true)
  | _ => ("RiceBlocks$Prices", "length", "I", false)
def tyX4 : Nat → FieldType := fun k => match k with
  | 0 => .object "RiceBlocks$Cells"
  | _ => .int
abbrev wsX40 : List Cond := u_ws RX4 TX4 2
theorem nmX4 : ∀ a, a < 2 → ∀ b, b < 2 → a ≠ b → (TX4 a).2.1 ≠ (TX4 b).2.1 := by decide +kernel
theorem tyX4_ok : ∀ k, k < 2 → parseFieldDescriptor (TX4 k).2.2.1 = some (tyX4 k) := by decide +kernel
abbrev cX4_init : ByteArray := prog_6_method_1_code
def yX4_init : MethodName := ⟨RX4, "<init>", "()V"⟩
abbrev cX4_fill : ByteArray := prog_6_method_2_code
def yX4_fill : MethodName := ⟨RX4, "fill", "(LRiceBlocks$Row;I)V"⟩
abbrev cX4_codesBits : ByteArray := prog_6_method_3_code
def yX4_codesBits : MethodName := ⟨RX4, "codesBits", "(III)I"⟩
abbrev cX4_blockBits : ByteArray := prog_6_method_4_code
def yX4_blockBits : MethodName := ⟨RX4, "blockBits", "(III)I"⟩
abbrev cX4_bestExponent : ByteArray := prog_6_method_5_code
def yX4_bestExponent : MethodName := ⟨RX4, "bestExponent", "(II)I"⟩
abbrev cX4_streamBits : ByteArray := prog_6_method_6_code
def yX4_streamBits : MethodName := ⟨RX4, "streamBits", "(I)I"⟩
def RX5 : String := "RiceBlocks$Row"
def TX5 : u_T := fun k => match k with
  | 0 => ("RiceBlocks$Row", "numbers", "LRiceBlocks$Cells;", true)
  | 1 => ("RiceBlocks$Row", "length", "I", false)
  | 2 => ("RiceBlocks$Row", "blockSize", "I", false)
  | _ => ("RiceBlocks$Row", "ones", "I", false)
def tyX5 : Nat → FieldType := fun k => match k with
  | 0 => .object "RiceBlocks$Cells"
  | 1 => .int
  | 2 => .int
  | _ => .int
abbrev wsX50 : List Cond := u_ws RX5 TX5 4
theorem nmX5 : ∀ a, a < 4 → ∀ b, b < 4 → a ≠ b → (TX5 a).2.1 ≠ (TX5 b).2.1 := by decide +kernel
theorem tyX5_ok : ∀ k, k < 4 → parseFieldDescriptor (TX5 k).2.2.1 = some (tyX5 k) := by decide +kernel
abbrev cX5_init : ByteArray := prog_7_method_1_code
def yX5_init : MethodName := ⟨RX5, "<init>", "()V"⟩
abbrev cX5_hasPlace : ByteArray := prog_7_method_2_code
def yX5_hasPlace : MethodName := ⟨RX5, "hasPlace", "(I)Z"⟩
abbrev cX5_number : ByteArray := prog_7_method_3_code
def yX5_number : MethodName := ⟨RX5, "number", "(I)I"⟩
abbrev cX5_numberAhead : ByteArray := prog_7_method_4_code
def yX5_numberAhead : MethodName := ⟨RX5, "numberAhead", "(I)I"⟩
abbrev cX5_gapAhead : ByteArray := prog_7_method_5_code
def yX5_gapAhead : MethodName := ⟨RX5, "gapAhead", "(I)I"⟩
abbrev cX5_placeOf : ByteArray := prog_7_method_6_code
def yX5_placeOf : MethodName := ⟨RX5, "placeOf", "(I)I"⟩
abbrev cX5_holds : ByteArray := prog_7_method_7_code
def yX5_holds : MethodName := ⟨RX5, "holds", "(II)Z"⟩
abbrev cX5_insert : ByteArray := prog_7_method_8_code
def yX5_insert : MethodName := ⟨RX5, "insert", "(II)V"⟩
abbrev cX5_remove : ByteArray := prog_7_method_9_code
def yX5_remove : MethodName := ⟨RX5, "remove", "(I)V"⟩
abbrev cX5_raiseFrom : ByteArray := prog_7_method_10_code
def yX5_raiseFrom : MethodName := ⟨RX5, "raiseFrom", "(II)V"⟩
abbrev cX5_blockOf : ByteArray := prog_7_method_11_code
def yX5_blockOf : MethodName := ⟨RX5, "blockOf", "(I)I"⟩
abbrev cX5_blocks : ByteArray := prog_7_method_12_code
def yX5_blocks : MethodName := ⟨RX5, "blocks", "()I"⟩
abbrev cX5_hasBlock : ByteArray := prog_7_method_13_code
def yX5_hasBlock : MethodName := ⟨RX5, "hasBlock", "(I)Z"⟩
abbrev cX5_firstOf : ByteArray := prog_7_method_14_code
def yX5_firstOf : MethodName := ⟨RX5, "firstOf", "(I)I"⟩
abbrev cX5_endOf : ByteArray := prog_7_method_15_code
def yX5_endOf : MethodName := ⟨RX5, "endOf", "(I)I"⟩
abbrev cX5_blockAround : ByteArray := prog_7_method_16_code
def yX5_blockAround : MethodName := ⟨RX5, "blockAround", "(I)I"⟩
def RX6 : String := "RiceBlocks$States"
def TX6 : u_T := fun k => match k with
  | _ => ("RiceBlocks$States", "cells", "LRiceBlocks$Cells;", true)
def tyX6 : Nat → FieldType := fun k => match k with
  | _ => .object "RiceBlocks$Cells"
abbrev wsX60 : List Cond := u_ws RX6 TX6 1
theorem nmX6 : ∀ a, a < 1 → ∀ b, b < 1 → a ≠ b → (TX6 a).2.1 ≠ (TX6 b).2.1 := by decide +kernel
theorem tyX6_ok : ∀ k, k < 1 → parseFieldDescriptor (TX6 k).2.2.1 = some (tyX6 k) := by decide +kernel
abbrev cX6_init : ByteArray := prog_8_method_1_code
def yX6_init : MethodName := ⟨RX6, "<init>", "(I)V"⟩
abbrev cX6_isStored : ByteArray := prog_8_method_2_code
def yX6_isStored : MethodName := ⟨RX6, "isStored", "(I)Z"⟩
abbrev cX6_store : ByteArray := prog_8_method_3_code
def yX6_store : MethodName := ⟨RX6, "store", "(ILRiceBlocks$Row;)V"⟩
abbrev cX6_load : ByteArray := prog_8_method_4_code
def yX6_load : MethodName := ⟨RX6, "load", "(ILRiceBlocks$Row;)V"⟩
def RX7 : String := "RiceBlocks$Stream"
def TX7 : u_T := fun k => match k with
  | 0 => ("RiceBlocks$Stream", "cells", "LRiceBlocks$Cells;", true)
  | 1 => ("RiceBlocks$Stream", "length", "I", false)
  | 2 => ("RiceBlocks$Stream", "start", "I", false)
  | 3 => ("RiceBlocks$Stream", "next", "I", false)
  | 4 => ("RiceBlocks$Stream", "exponent", "I", false)
  | _ => ("RiceBlocks$Stream", "number", "I", false)
def tyX7 : Nat → FieldType := fun k => match k with
  | 0 => .object "RiceBlocks$Cells"
  | 1 => .int
  | 2 => .int
  | 3 => .int
  | 4 => .int
  | _ => .int
abbrev wsX70 : List Cond := u_ws RX7 TX7 6
theorem nmX7 : ∀ a, a < 6 → ∀ b, b < 6 → a ≠ b → (TX7 a).2.1 ≠ (TX7 b).2.1 := by decide +kernel
theorem tyX7_ok : ∀ k, k < 6 → parseFieldDescriptor (TX7 k).2.2.1 = some (tyX7 k) := by decide +kernel
abbrev cX7_init : ByteArray := prog_9_method_1_code
def yX7_init : MethodName := ⟨RX7, "<init>", "()V"⟩
abbrev cX7_hasPlace : ByteArray := prog_9_method_2_code
def yX7_hasPlace : MethodName := ⟨RX7, "hasPlace", "(I)Z"⟩
abbrev cX7_bitOrZero : ByteArray := prog_9_method_3_code
def yX7_bitOrZero : MethodName := ⟨RX7, "bitOrZero", "(I)I"⟩
abbrev cX7_wordFrom : ByteArray := prog_9_method_4_code
def yX7_wordFrom : MethodName := ⟨RX7, "wordFrom", "(I)J"⟩
abbrev cX7_append : ByteArray := prog_9_method_5_code
def yX7_append : MethodName := ⟨RX7, "append", "(II)V"⟩
abbrev cX7_appendCode : ByteArray := prog_9_method_6_code
def yX7_appendCode : MethodName := ⟨RX7, "appendCode", "(III)V"⟩
abbrev cX7_startAt : ByteArray := prog_9_method_7_code
def yX7_startAt : MethodName := ⟨RX7, "startAt", "(II)V"⟩
abbrev cX7_readExponent : ByteArray := prog_9_method_8_code
def yX7_readExponent : MethodName := ⟨RX7, "readExponent", "()V"⟩
abbrev cX7_readNumber : ByteArray := prog_9_method_9_code
def yX7_readNumber : MethodName := ⟨RX7, "readNumber", "(I)V"⟩
abbrev cX7_bitsRead : ByteArray := prog_9_method_10_code
def yX7_bitsRead : MethodName := ⟨RX7, "bitsRead", "()I"⟩
abbrev cX7_readGap : ByteArray := prog_9_method_11_code
def yX7_readGap : MethodName := ⟨RX7, "readGap", "(I)I"⟩
abbrev cX7_readBits : ByteArray := prog_9_method_12_code
def yX7_readBits : MethodName := ⟨RX7, "readBits", "(I)I"⟩
def RX8 : String := "RiceBlocks"
def TX8 : u_T := fun k => match k with
  | 0 => ("RiceBlocks", "row", "LRiceBlocks$Row;", true)
  | 1 => ("RiceBlocks", "coding", "LRiceBlocks$Coding;", true)
  | 2 => ("RiceBlocks", "trial", "LRiceBlocks$Prices;", true)
  | 3 => ("RiceBlocks", "pad", "LRiceBlocks$Pad;", true)
  | 4 => ("RiceBlocks", "history", "LRiceBlocks$History;", true)
  | _ => ("RiceBlocks", "slots", "LRiceBlocks$States;", true)
def tyX8 : Nat → FieldType := fun k => match k with
  | 0 => .object "RiceBlocks$Row"
  | 1 => .object "RiceBlocks$Coding"
  | 2 => .object "RiceBlocks$Prices"
  | 3 => .object "RiceBlocks$Pad"
  | 4 => .object "RiceBlocks$History"
  | _ => .object "RiceBlocks$States"
abbrev wsX80 : List Cond := u_ws RX8 TX8 6
theorem nmX8 : ∀ a, a < 6 → ∀ b, b < 6 → a ≠ b → (TX8 a).2.1 ≠ (TX8 b).2.1 := by decide +kernel
theorem tyX8_ok : ∀ k, k < 6 → parseFieldDescriptor (TX8 k).2.2.1 = some (tyX8 k) := by decide +kernel
abbrev cX8_init : ByteArray := prog_1_method_1_code
def yX8_init : MethodName := ⟨RX8, "<init>", "()V"⟩
abbrev cX8_set : ByteArray := prog_1_method_2_code
def yX8_set : MethodName := ⟨RX8, "set", "(II)I"⟩
abbrev cX8_putIn : ByteArray := prog_1_method_3_code
def yX8_putIn : MethodName := ⟨RX8, "putIn", "(I)I"⟩
abbrev cX8_takeOut : ByteArray := prog_1_method_4_code
def yX8_takeOut : MethodName := ⟨RX8, "takeOut", "(I)I"⟩
abbrev cX8_shift : ByteArray := prog_1_method_5_code
def yX8_shift : MethodName := ⟨RX8, "shift", "(II)I"⟩
abbrev cX8_gap : ByteArray := prog_1_method_6_code
def yX8_gap : MethodName := ⟨RX8, "gap", "(II)I"⟩
abbrev cX8_block : ByteArray := prog_1_method_7_code
def yX8_block : MethodName := ⟨RX8, "block", "(II)I"⟩
abbrev cX8_bit : ByteArray := prog_1_method_8_code
def yX8_bit : MethodName := ⟨RX8, "bit", "(I)I"⟩
abbrev cX8_bits : ByteArray := prog_1_method_9_code
def yX8_bits : MethodName := ⟨RX8, "bits", "(I)J"⟩
abbrev cX8_count : ByteArray := prog_1_method_10_code
def yX8_count : MethodName := ⟨RX8, "count", "(I)I"⟩
abbrev cX8_at : ByteArray := prog_1_method_11_code
def yX8_at : MethodName := ⟨RX8, "at", "(II)I"⟩
abbrev cX8_find : ByteArray := prog_1_method_12_code
def yX8_find : MethodName := ⟨RX8, "find", "(II)I"⟩
abbrev cX8_cost : ByteArray := prog_1_method_13_code
def yX8_cost : MethodName := ⟨RX8, "cost", "(II)I"⟩
abbrev cX8_with : ByteArray := prog_1_method_14_code
def yX8_with : MethodName := ⟨RX8, "with", "(II)I"⟩
abbrev cX8_best : ByteArray := prog_1_method_15_code
def yX8_best : MethodName := ⟨RX8, "best", "(I)I"⟩
abbrev cX8_check : ByteArray := prog_1_method_16_code
def yX8_check : MethodName := ⟨RX8, "check", "()I"⟩
abbrev cX8_put : ByteArray := prog_1_method_17_code
def yX8_put : MethodName := ⟨RX8, "put", "(J)I"⟩
abbrev cX8_wipe : ByteArray := prog_1_method_18_code
def yX8_wipe : MethodName := ⟨RX8, "wipe", "()I"⟩
abbrev cX8_fault : ByteArray := prog_1_method_19_code
def yX8_fault : MethodName := ⟨RX8, "fault", "()I"⟩
abbrev cX8_carryOut : ByteArray := prog_1_method_20_code
def yX8_carryOut : MethodName := ⟨RX8, "carryOut", "()I"⟩
abbrev cX8_undo : ByteArray := prog_1_method_21_code
def yX8_undo : MethodName := ⟨RX8, "undo", "()I"⟩
abbrev cX8_save : ByteArray := prog_1_method_22_code
def yX8_save : MethodName := ⟨RX8, "save", "(I)I"⟩
abbrev cX8_restore : ByteArray := prog_1_method_23_code
def yX8_restore : MethodName := ⟨RX8, "restore", "(I)I"⟩
abbrev cX8_settle : ByteArray := prog_1_method_24_code
def yX8_settle : MethodName := ⟨RX8, "settle", "(I)I"⟩
abbrev cX8_changeSetting : ByteArray := prog_1_method_25_code
def yX8_changeSetting : MethodName := ⟨RX8, "changeSetting", "(II)I"⟩
abbrev cX8_addNumber : ByteArray := prog_1_method_26_code
def yX8_addNumber : MethodName := ⟨RX8, "addNumber", "(I)I"⟩
abbrev cX8_dropNumber : ByteArray := prog_1_method_27_code
def yX8_dropNumber : MethodName := ⟨RX8, "dropNumber", "(I)I"⟩
abbrev cX8_carryOrders : ByteArray := prog_1_method_28_code
def yX8_carryOrders : MethodName := ⟨RX8, "carryOrders", "()I"⟩
abbrev cX8_carryNumber : ByteArray := prog_1_method_29_code
def yX8_carryNumber : MethodName := ⟨RX8, "carryNumber", "(II)I"⟩
abbrev cX8_openBlock : ByteArray := prog_1_method_30_code
def yX8_openBlock : MethodName := ⟨RX8, "openBlock", "(I)V"⟩
abbrev cX8_readUpTo : ByteArray := prog_1_method_31_code
def yX8_readUpTo : MethodName := ⟨RX8, "readUpTo", "(II)I"⟩
abbrev cX8_escapesIn : ByteArray := prog_1_method_32_code
def yX8_escapesIn : MethodName := ⟨RX8, "escapesIn", "(III)I"⟩
abbrev cX8_allEscapes : ByteArray := prog_1_method_33_code
def yX8_allEscapes : MethodName := ⟨RX8, "allEscapes", "()I"⟩
abbrev cX8_greatestGap : ByteArray := prog_1_method_34_code
def yX8_greatestGap : MethodName := ⟨RX8, "greatestGap", "(II)I"⟩
abbrev cX8_greatestExponent : ByteArray := prog_1_method_35_code
def yX8_greatestExponent : MethodName := ⟨RX8, "greatestExponent", "()I"⟩
abbrev cX8_isNumber : ByteArray := prog_1_method_36_code
def yX8_isNumber : MethodName := ⟨RX8, "isNumber", "(I)Z"⟩
abbrev cX8_isSetting : ByteArray := prog_1_method_37_code
def yX8_isSetting : MethodName := ⟨RX8, "isSetting", "(II)Z"⟩
abbrev cX8_isSlot : ByteArray := prog_1_method_38_code
def yX8_isSlot : MethodName := ⟨RX8, "isSlot", "(I)Z"⟩
abbrev cX8_isDigit : ByteArray := prog_1_method_39_code
def yX8_isDigit : MethodName := ⟨RX8, "isDigit", "(I)Z"⟩
abbrev cX8_isEscape : ByteArray := prog_1_method_40_code
def yX8_isEscape : MethodName := ⟨RX8, "isEscape", "(III)Z"⟩
abbrev cX8_codeBits : ByteArray := prog_1_method_41_code
def yX8_codeBits : MethodName := ⟨RX8, "codeBits", "(III)I"⟩
abbrev cX8_characterAt : ByteArray := prog_1_method_42_code
def yX8_characterAt : MethodName := ⟨RX8, "characterAt", "(JI)I"⟩
abbrev cX8_signsIn : ByteArray := prog_1_method_43_code
def yX8_signsIn : MethodName := ⟨RX8, "signsIn", "(J)I"⟩
def RX9 : String := "RiceBlocksModel"
def TX9 : u_T := fun k => match k with
  | 0 => ("RiceBlocksModel", "all", "[I", true)
  | 1 => ("RiceBlocksModel", "kept", "[I", true)
  | 2 => ("RiceBlocksModel", "history", "[I", true)
  | 3 => ("RiceBlocksModel", "historyLong", "I", false)
  | 4 => ("RiceBlocksModel", "slots", "[I", true)
  | 5 => ("RiceBlocksModel", "isSaved", "[I", true)
  | 6 => ("RiceBlocksModel", "stream", "[I", true)
  | 7 => ("RiceBlocksModel", "streamLong", "I", false)
  | 8 => ("RiceBlocksModel", "spot", "I", false)
  | 9 => ("RiceBlocksModel", "pad", "[I", true)
  | 10 => ("RiceBlocksModel", "padLong", "I", false)
  | 11 => ("RiceBlocksModel", "padSpot", "I", false)
  | _ => ("RiceBlocksModel", "readNumber", "I", false)
def tyX9 : Nat → FieldType := fun k => match k with
  | 0 => .array .int
  | 1 => .array .int
  | 2 => .array .int
  | 3 => .int
  | 4 => .array .int
  | 5 => .array .int
  | 6 => .array .int
  | 7 => .int
  | 8 => .int
  | 9 => .array .int
  | 10 => .int
  | 11 => .int
  | _ => .int
abbrev wsX90 : List Cond := u_ws RX9 TX9 13
theorem nmX9 : ∀ a, a < 13 → ∀ b, b < 13 → a ≠ b → (TX9 a).2.1 ≠ (TX9 b).2.1 := by decide +kernel
theorem tyX9_ok : ∀ k, k < 13 → parseFieldDescriptor (TX9 k).2.2.1 = some (tyX9 k) := by decide +kernel
abbrev cX9_init : ByteArray := prog_11_method_1_code
def yX9_init : MethodName := ⟨RX9, "<init>", "()V"⟩
abbrev cX9_in : ByteArray := prog_11_method_3_code
def yX9_in : MethodName := ⟨RX9, "in", "(JJJ)Z"⟩
abbrev cX9_keep : ByteArray := prog_11_method_4_code
def yX9_keep : MethodName := ⟨RX9, "keep", "()V"⟩
abbrev cX9_changed : ByteArray := prog_11_method_5_code
def yX9_changed : MethodName := ⟨RX9, "changed", "(I)I"⟩
abbrev cX9_number : ByteArray := prog_11_method_6_code
def yX9_number : MethodName := ⟨RX9, "number", "(I)I"⟩
abbrev cX9_gapOf : ByteArray := prog_11_method_7_code
def yX9_gapOf : MethodName := ⟨RX9, "gapOf", "(I)I"⟩
abbrev cX9_blocks : ByteArray := prog_11_method_8_code
def yX9_blocks : MethodName := ⟨RX9, "blocks", "()I"⟩
abbrev cX9_first : ByteArray := prog_11_method_9_code
def yX9_first : MethodName := ⟨RX9, "first", "(I)I"⟩
abbrev cX9_end : ByteArray := prog_11_method_10_code
def yX9_end : MethodName := ⟨RX9, "end", "(I)I"⟩
abbrev cX9_isEscape : ByteArray := prog_11_method_11_code
def yX9_isEscape : MethodName := ⟨RX9, "isEscape", "(II)Z"⟩
abbrev cX9_codeBits : ByteArray := prog_11_method_12_code
def yX9_codeBits : MethodName := ⟨RX9, "codeBits", "(II)I"⟩
abbrev cX9_costOf : ByteArray := prog_11_method_13_code
def yX9_costOf : MethodName := ⟨RX9, "costOf", "(II)I"⟩
abbrev cX9_exponentOf : ByteArray := prog_11_method_14_code
def yX9_exponentOf : MethodName := ⟨RX9, "exponentOf", "(I)I"⟩
abbrev cX9_blockBits : ByteArray := prog_11_method_15_code
def yX9_blockBits : MethodName := ⟨RX9, "blockBits", "(I)I"⟩
abbrev cX9_skip : ByteArray := prog_11_method_16_code
def yX9_skip : MethodName := ⟨RX9, "skip", "(I)I"⟩
abbrev cX9_streamBits : ByteArray := prog_11_method_17_code
def yX9_streamBits : MethodName := ⟨RX9, "streamBits", "()I"⟩
abbrev cX9_bitsAhead : ByteArray := prog_11_method_18_code
def yX9_bitsAhead : MethodName := ⟨RX9, "bitsAhead", "(II)I"⟩
abbrev cX9_writes : ByteArray := prog_11_method_19_code
def yX9_writes : MethodName := ⟨RX9, "writes", "(II)V"⟩
abbrev cX9_writesOnes : ByteArray := prog_11_method_20_code
def yX9_writesOnes : MethodName := ⟨RX9, "writesOnes", "(I)V"⟩
abbrev cX9_lays : ByteArray := prog_11_method_21_code
def yX9_lays : MethodName := ⟨RX9, "lays", "()V"⟩
abbrev cX9_reads : ByteArray := prog_11_method_22_code
def yX9_reads : MethodName := ⟨RX9, "reads", "(I)I"⟩
abbrev cX9_readsGap : ByteArray := prog_11_method_23_code
def yX9_readsGap : MethodName := ⟨RX9, "readsGap", "(I)I"⟩
abbrev cX9_isNumber : ByteArray := prog_11_method_24_code
def yX9_isNumber : MethodName := ⟨RX9, "isNumber", "(I)Z"⟩
abbrev cX9_isSetting : ByteArray := prog_11_method_25_code
def yX9_isSetting : MethodName := ⟨RX9, "isSetting", "(II)Z"⟩
abbrev cX9_doSet : ByteArray := prog_11_method_26_code
def yX9_doSet : MethodName := ⟨RX9, "doSet", "(II)I"⟩
abbrev cX9_lowest : ByteArray := prog_11_method_27_code
def yX9_lowest : MethodName := ⟨RX9, "lowest", "(I)I"⟩
abbrev cX9_isThere : ByteArray := prog_11_method_28_code
def yX9_isThere : MethodName := ⟨RX9, "isThere", "(I)Z"⟩
abbrev cX9_doPutIn : ByteArray := prog_11_method_29_code
def yX9_doPutIn : MethodName := ⟨RX9, "doPutIn", "(I)I"⟩
abbrev cX9_doTakeOut : ByteArray := prog_11_method_30_code
def yX9_doTakeOut : MethodName := ⟨RX9, "doTakeOut", "(I)I"⟩
abbrev cX9_isPlace : ByteArray := prog_11_method_31_code
def yX9_isPlace : MethodName := ⟨RX9, "isPlace", "(I)Z"⟩
abbrev cX9_doShift : ByteArray := prog_11_method_32_code
def yX9_doShift : MethodName := ⟨RX9, "doShift", "(II)I"⟩
abbrev cX9_set : ByteArray := prog_11_method_33_code
def yX9_set : MethodName := ⟨RX9, "set", "(II)I"⟩
abbrev cX9_putIn : ByteArray := prog_11_method_34_code
def yX9_putIn : MethodName := ⟨RX9, "putIn", "(I)I"⟩
abbrev cX9_takeOut : ByteArray := prog_11_method_35_code
def yX9_takeOut : MethodName := ⟨RX9, "takeOut", "(I)I"⟩
abbrev cX9_shift : ByteArray := prog_11_method_36_code
def yX9_shift : MethodName := ⟨RX9, "shift", "(II)I"⟩
abbrev cX9_gap : ByteArray := prog_11_method_37_code
def yX9_gap : MethodName := ⟨RX9, "gap", "(II)I"⟩
abbrev cX9_isBlock : ByteArray := prog_11_method_38_code
def yX9_isBlock : MethodName := ⟨RX9, "isBlock", "(I)Z"⟩
abbrev cX9_escapes : ByteArray := prog_11_method_39_code
def yX9_escapes : MethodName := ⟨RX9, "escapes", "(I)I"⟩
abbrev cX9_greatestGap : ByteArray := prog_11_method_40_code
def yX9_greatestGap : MethodName := ⟨RX9, "greatestGap", "(I)I"⟩
abbrev cX9_base : ByteArray := prog_11_method_41_code
def yX9_base : MethodName := ⟨RX9, "base", "(I)I"⟩
abbrev cX9_block : ByteArray := prog_11_method_42_code
def yX9_block : MethodName := ⟨RX9, "block", "(II)I"⟩
abbrev cX9_bit : ByteArray := prog_11_method_43_code
def yX9_bit : MethodName := ⟨RX9, "bit", "(I)I"⟩
abbrev cX9_bits : ByteArray := prog_11_method_44_code
def yX9_bits : MethodName := ⟨RX9, "bits", "(I)J"⟩
abbrev cX9_escapesOfAll : ByteArray := prog_11_method_45_code
def yX9_escapesOfAll : MethodName := ⟨RX9, "escapesOfAll", "()I"⟩
abbrev cX9_greatestExponent : ByteArray := prog_11_method_46_code
def yX9_greatestExponent : MethodName := ⟨RX9, "greatestExponent", "()I"⟩
abbrev cX9_count : ByteArray := prog_11_method_47_code
def yX9_count : MethodName := ⟨RX9, "count", "(I)I"⟩
abbrev cX9_at : ByteArray := prog_11_method_48_code
def yX9_at : MethodName := ⟨RX9, "at", "(II)I"⟩
abbrev cX9_blockFor : ByteArray := prog_11_method_49_code
def yX9_blockFor : MethodName := ⟨RX9, "blockFor", "(I)I"⟩
abbrev cX9_readFor : ByteArray := prog_11_method_50_code
def yX9_readFor : MethodName := ⟨RX9, "readFor", "(I)I"⟩
abbrev cX9_find : ByteArray := prog_11_method_51_code
def yX9_find : MethodName := ⟨RX9, "find", "(II)I"⟩
abbrev cX9_cost : ByteArray := prog_11_method_52_code
def yX9_cost : MethodName := ⟨RX9, "cost", "(II)I"⟩
abbrev cX9_bitsWith : ByteArray := prog_11_method_53_code
def yX9_bitsWith : MethodName := ⟨RX9, "bitsWith", "(II)I"⟩
abbrev cX9_with : ByteArray := prog_11_method_54_code
def yX9_with : MethodName := ⟨RX9, "with", "(II)I"⟩
abbrev cX9_best : ByteArray := prog_11_method_55_code
def yX9_best : MethodName := ⟨RX9, "best", "(I)I"⟩
abbrev cX9_check : ByteArray := prog_11_method_56_code
def yX9_check : MethodName := ⟨RX9, "check", "()I"⟩
abbrev cX9_put : ByteArray := prog_11_method_57_code
def yX9_put : MethodName := ⟨RX9, "put", "(J)I"⟩
abbrev cX9_wipe : ByteArray := prog_11_method_58_code
def yX9_wipe : MethodName := ⟨RX9, "wipe", "()I"⟩
abbrev cX9_isHere : ByteArray := prog_11_method_59_code
def yX9_isHere : MethodName := ⟨RX9, "isHere", "(II)Z"⟩
abbrev cX9_takes : ByteArray := prog_11_method_60_code
def yX9_takes : MethodName := ⟨RX9, "takes", "(I)Z"⟩
abbrev cX9_readsNumber : ByteArray := prog_11_method_61_code
def yX9_readsNumber : MethodName := ⟨RX9, "readsNumber", "()Z"⟩
abbrev cX9_readsLetter : ByteArray := prog_11_method_62_code
def yX9_readsLetter : MethodName := ⟨RX9, "readsLetter", "()I"⟩
abbrev cX9_fault : ByteArray := prog_11_method_63_code
def yX9_fault : MethodName := ⟨RX9, "fault", "()I"⟩
abbrev cX9_putsAll : ByteArray := prog_11_method_64_code
def yX9_putsAll : MethodName := ⟨RX9, "putsAll", "()Z"⟩
abbrev cX9_doesOrder : ByteArray := prog_11_method_65_code
def yX9_doesOrder : MethodName := ⟨RX9, "doesOrder", "()Z"⟩
abbrev cX9_carryOut : ByteArray := prog_11_method_66_code
def yX9_carryOut : MethodName := ⟨RX9, "carryOut", "()I"⟩
abbrev cX9_undo : ByteArray := prog_11_method_67_code
def yX9_undo : MethodName := ⟨RX9, "undo", "()I"⟩
abbrev cX9_save : ByteArray := prog_11_method_68_code
def yX9_save : MethodName := ⟨RX9, "save", "(I)I"⟩
abbrev cX9_restore : ByteArray := prog_11_method_69_code
def yX9_restore : MethodName := ⟨RX9, "restore", "(I)I"⟩
def RL : String := "RiceBlocksLaw"
abbrev cL_law : ByteArray := code
def yL_law : MethodName := ⟨RL, "law", "([I)Z"⟩
abbrev vwCl : List vw_C := [(RX0, TX0, 1), (RX1, TX1, 4), (RX2, TX2, 3), (RX3, TX3, 2), (RX4, TX4, 2), (RX5, TX5, 4), (RX6, TX6, 1), (RX7, TX7, 6), (RX8, TX8, 6), (RX9, TX9, 13)]
