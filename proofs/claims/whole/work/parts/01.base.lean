-- ===== PART A: goes FIRST, ahead of the names: the tables' words, and 'selects' of the private methods out of them =====
/-- a private method of a class that the tables say can be made, by its rows of tables_1 -/
def lw_okq (q : MethodName × Nat) : Prop := (q.1.cls ≠ "java/lang/invoke/MethodHandle" ∧ q.1.cls ≠ "java/lang/invoke/VarHandle") ∧ Cond.instantiable q.1.cls q.2 ∈ tables_1 ∧ Cond.privateMethod q.1 ∈ tables_1 ∧ Cond.instanceMethod q.1 ∈ tables_1
theorem lw_p0 : lw_okq (⟨"BuriedGoods$Land", "clear", "()V"⟩, 10) := ⟨⟨by decide +kernel, by decide +kernel⟩, List.mem_of_getElem? (i := 45) (by decide +kernel), List.mem_of_getElem? (i := 412) (by decide +kernel), List.mem_of_getElem? (i := 413) (by decide +kernel)⟩
theorem lw_p1 : lw_okq (⟨"BuriedGoods$Tape", "raw", "()I"⟩, 3) := ⟨⟨by decide +kernel, by decide +kernel⟩, List.mem_of_getElem? (i := 28) (by decide +kernel), List.mem_of_getElem? (i := 432) (by decide +kernel), List.mem_of_getElem? (i := 433) (by decide +kernel)⟩
theorem lw_p2 : lw_okq (⟨"BuriedGoods$Land", "opens", "(I)Z"⟩, 10) := ⟨⟨by decide +kernel, by decide +kernel⟩, List.mem_of_getElem? (i := 45) (by decide +kernel), List.mem_of_getElem? (i := 436) (by decide +kernel), List.mem_of_getElem? (i := 437) (by decide +kernel)⟩
theorem lw_p3 : lw_okq (⟨"BuriedGoods$Land", "readItems", "(LBuriedGoods$Tape;I)I"⟩, 10) := ⟨⟨by decide +kernel, by decide +kernel⟩, List.mem_of_getElem? (i := 45) (by decide +kernel), List.mem_of_getElem? (i := 452) (by decide +kernel), List.mem_of_getElem? (i := 453) (by decide +kernel)⟩
theorem lw_p4 : lw_okq (⟨"BuriedGoods$Land", "tell", "(II)V"⟩, 10) := ⟨⟨by decide +kernel, by decide +kernel⟩, List.mem_of_getElem? (i := 45) (by decide +kernel), List.mem_of_getElem? (i := 476) (by decide +kernel), List.mem_of_getElem? (i := 477) (by decide +kernel)⟩
theorem lw_p5 : lw_okq (⟨"BuriedGoods$Land", "isWhole", "()Z"⟩, 10) := ⟨⟨by decide +kernel, by decide +kernel⟩, List.mem_of_getElem? (i := 45) (by decide +kernel), List.mem_of_getElem? (i := 483) (by decide +kernel), List.mem_of_getElem? (i := 484) (by decide +kernel)⟩
theorem lw_p6 : lw_okq (⟨"BuriedGoods$Law", "readClause", "(LBuriedGoods$Tape;)Z"⟩, 4) := ⟨⟨by decide +kernel, by decide +kernel⟩, List.mem_of_getElem? (i := 132) (by decide +kernel), List.mem_of_getElem? (i := 497) (by decide +kernel), List.mem_of_getElem? (i := 498) (by decide +kernel)⟩
theorem lw_p7 : lw_okq (⟨"BuriedGoods$Law", "readSum", "(LBuriedGoods$Tape;I)Z"⟩, 4) := ⟨⟨by decide +kernel, by decide +kernel⟩, List.mem_of_getElem? (i := 132) (by decide +kernel), List.mem_of_getElem? (i := 509) (by decide +kernel), List.mem_of_getElem? (i := 510) (by decide +kernel)⟩
theorem lw_p8 : lw_okq (⟨"BuriedGoods$Law", "readTerm", "(LBuriedGoods$Tape;I)Z"⟩, 4) := ⟨⟨by decide +kernel, by decide +kernel⟩, List.mem_of_getElem? (i := 132) (by decide +kernel), List.mem_of_getElem? (i := 513) (by decide +kernel), List.mem_of_getElem? (i := 514) (by decide +kernel)⟩
theorem lw_p9 : lw_okq (⟨"BuriedGoods$Law", "readAtom", "(LBuriedGoods$Tape;I)Z"⟩, 4) := ⟨⟨by decide +kernel, by decide +kernel⟩, List.mem_of_getElem? (i := 132) (by decide +kernel), List.mem_of_getElem? (i := 517) (by decide +kernel), List.mem_of_getElem? (i := 518) (by decide +kernel)⟩
theorem lw_p10 : lw_okq (⟨"BuriedGoods$Law", "emit", "(I)V"⟩, 4) := ⟨⟨by decide +kernel, by decide +kernel⟩, List.mem_of_getElem? (i := 132) (by decide +kernel), List.mem_of_getElem? (i := 525) (by decide +kernel), List.mem_of_getElem? (i := 526) (by decide +kernel)⟩
theorem lw_p11 : lw_okq (⟨"BuriedGoods$Law", "readCondition", "(LBuriedGoods$Tape;IZ)Z"⟩, 4) := ⟨⟨by decide +kernel, by decide +kernel⟩, List.mem_of_getElem? (i := 132) (by decide +kernel), List.mem_of_getElem? (i := 534) (by decide +kernel), List.mem_of_getElem? (i := 535) (by decide +kernel)⟩
theorem lw_p12 : lw_okq (⟨"BuriedGoods$Law", "readTruth", "(LBuriedGoods$Tape;IZ)Z"⟩, 4) := ⟨⟨by decide +kernel, by decide +kernel⟩, List.mem_of_getElem? (i := 132) (by decide +kernel), List.mem_of_getElem? (i := 538) (by decide +kernel), List.mem_of_getElem? (i := 539) (by decide +kernel)⟩
theorem lw_p13 : lw_okq (⟨"BuriedGoods$Law", "readComparison", "(LBuriedGoods$Tape;I)Z"⟩, 4) := ⟨⟨by decide +kernel, by decide +kernel⟩, List.mem_of_getElem? (i := 132) (by decide +kernel), List.mem_of_getElem? (i := 542) (by decide +kernel), List.mem_of_getElem? (i := 543) (by decide +kernel)⟩
theorem lw_p14 : lw_okq (⟨"BuriedGoods$Law", "readUnit", "(LBuriedGoods$Tape;I)Z"⟩, 4) := ⟨⟨by decide +kernel, by decide +kernel⟩, List.mem_of_getElem? (i := 132) (by decide +kernel), List.mem_of_getElem? (i := 546) (by decide +kernel), List.mem_of_getElem? (i := 547) (by decide +kernel)⟩
theorem lw_p15 : lw_okq (⟨"BuriedGoods$Law", "readGated", "(LBuriedGoods$Tape;)Z"⟩, 4) := ⟨⟨by decide +kernel, by decide +kernel⟩, List.mem_of_getElem? (i := 132) (by decide +kernel), List.mem_of_getElem? (i := 550) (by decide +kernel), List.mem_of_getElem? (i := 551) (by decide +kernel)⟩
def lw_privs_1 : List (MethodName × Nat) := [(⟨"BuriedGoods$Land", "clear", "()V"⟩, 10), (⟨"BuriedGoods$Tape", "raw", "()I"⟩, 3), (⟨"BuriedGoods$Land", "opens", "(I)Z"⟩, 10), (⟨"BuriedGoods$Land", "readItems", "(LBuriedGoods$Tape;I)I"⟩, 10), (⟨"BuriedGoods$Land", "tell", "(II)V"⟩, 10), (⟨"BuriedGoods$Land", "isWhole", "()Z"⟩, 10), (⟨"BuriedGoods$Law", "readClause", "(LBuriedGoods$Tape;)Z"⟩, 4), (⟨"BuriedGoods$Law", "readSum", "(LBuriedGoods$Tape;I)Z"⟩, 4), (⟨"BuriedGoods$Law", "readTerm", "(LBuriedGoods$Tape;I)Z"⟩, 4), (⟨"BuriedGoods$Law", "readAtom", "(LBuriedGoods$Tape;I)Z"⟩, 4), (⟨"BuriedGoods$Law", "emit", "(I)V"⟩, 4), (⟨"BuriedGoods$Law", "readCondition", "(LBuriedGoods$Tape;IZ)Z"⟩, 4), (⟨"BuriedGoods$Law", "readTruth", "(LBuriedGoods$Tape;IZ)Z"⟩, 4), (⟨"BuriedGoods$Law", "readComparison", "(LBuriedGoods$Tape;I)Z"⟩, 4), (⟨"BuriedGoods$Law", "readUnit", "(LBuriedGoods$Tape;I)Z"⟩, 4), (⟨"BuriedGoods$Law", "readGated", "(LBuriedGoods$Tape;)Z"⟩, 4)]
theorem lw_r1 : ∀ q ∈ lw_privs_1, lw_okq q := List.forall_mem_cons.mpr ⟨lw_p0, List.forall_mem_cons.mpr ⟨lw_p1, List.forall_mem_cons.mpr ⟨lw_p2, List.forall_mem_cons.mpr ⟨lw_p3, List.forall_mem_cons.mpr ⟨lw_p4, List.forall_mem_cons.mpr ⟨lw_p5, List.forall_mem_cons.mpr ⟨lw_p6, List.forall_mem_cons.mpr ⟨lw_p7, List.forall_mem_cons.mpr ⟨lw_p8, List.forall_mem_cons.mpr ⟨lw_p9, List.forall_mem_cons.mpr ⟨lw_p10, List.forall_mem_cons.mpr ⟨lw_p11, List.forall_mem_cons.mpr ⟨lw_p12, List.forall_mem_cons.mpr ⟨lw_p13, List.forall_mem_cons.mpr ⟨lw_p14, List.forall_mem_cons.mpr ⟨lw_p15, fun _ h => absurd h List.not_mem_nil⟩⟩⟩⟩⟩⟩⟩⟩⟩⟩⟩⟩⟩⟩⟩⟩
theorem lw_p16 : lw_okq (⟨"BuriedGoods", "beginField", "()V"⟩, 20) := ⟨⟨by decide +kernel, by decide +kernel⟩, List.mem_of_getElem? (i := 20) (by decide +kernel), List.mem_of_getElem? (i := 560) (by decide +kernel), List.mem_of_getElem? (i := 561) (by decide +kernel)⟩
theorem lw_p17 : lw_okq (⟨"BuriedGoods", "keepLaw", "()I"⟩, 20) := ⟨⟨by decide +kernel, by decide +kernel⟩, List.mem_of_getElem? (i := 20) (by decide +kernel), List.mem_of_getElem? (i := 593) (by decide +kernel), List.mem_of_getElem? (i := 594) (by decide +kernel)⟩
theorem lw_p18 : lw_okq (⟨"BuriedGoods", "lawAt", "(I)LBuriedGoods$Law;"⟩, 20) := ⟨⟨by decide +kernel, by decide +kernel⟩, List.mem_of_getElem? (i := 20) (by decide +kernel), List.mem_of_getElem? (i := 597) (by decide +kernel), List.mem_of_getElem? (i := 598) (by decide +kernel)⟩
theorem lw_p19 : lw_okq (⟨"BuriedGoods", "isRow", "(I)Z"⟩, 20) := ⟨⟨by decide +kernel, by decide +kernel⟩, List.mem_of_getElem? (i := 20) (by decide +kernel), List.mem_of_getElem? (i := 614) (by decide +kernel), List.mem_of_getElem? (i := 615) (by decide +kernel)⟩
theorem lw_p20 : lw_okq (⟨"BuriedGoods", "isPlot", "(I)Z"⟩, 20) := ⟨⟨by decide +kernel, by decide +kernel⟩, List.mem_of_getElem? (i := 20) (by decide +kernel), List.mem_of_getElem? (i := 623) (by decide +kernel), List.mem_of_getElem? (i := 624) (by decide +kernel)⟩
theorem lw_p21 : lw_okq (⟨"BuriedGoods", "refuse", "(I)I"⟩, 20) := ⟨⟨by decide +kernel, by decide +kernel⟩, List.mem_of_getElem? (i := 20) (by decide +kernel), List.mem_of_getElem? (i := 652) (by decide +kernel), List.mem_of_getElem? (i := 653) (by decide +kernel)⟩
theorem lw_p22 : lw_okq (⟨"BuriedGoods$Past", "at", "(I)LBuriedGoods$Stand;"⟩, 3) := ⟨⟨by decide +kernel, by decide +kernel⟩, List.mem_of_getElem? (i := 192) (by decide +kernel), List.mem_of_getElem? (i := 661) (by decide +kernel), List.mem_of_getElem? (i := 662) (by decide +kernel)⟩
theorem lw_p23 : lw_okq (⟨"BuriedGoods", "passMonth", "()V"⟩, 20) := ⟨⟨by decide +kernel, by decide +kernel⟩, List.mem_of_getElem? (i := 20) (by decide +kernel), List.mem_of_getElem? (i := 670) (by decide +kernel), List.mem_of_getElem? (i := 671) (by decide +kernel)⟩
theorem lw_p24 : lw_okq (⟨"BuriedGoods", "isRipe", "(LBuriedGoods$Thing;)Z"⟩, 20) := ⟨⟨by decide +kernel, by decide +kernel⟩, List.mem_of_getElem? (i := 20) (by decide +kernel), List.mem_of_getElem? (i := 675) (by decide +kernel), List.mem_of_getElem? (i := 676) (by decide +kernel)⟩
theorem lw_p25 : lw_okq (⟨"BuriedGoods", "startFrom", "(LBuriedGoods$Thing;)V"⟩, 20) := ⟨⟨by decide +kernel, by decide +kernel⟩, List.mem_of_getElem? (i := 20) (by decide +kernel), List.mem_of_getElem? (i := 679) (by decide +kernel), List.mem_of_getElem? (i := 680) (by decide +kernel)⟩
theorem lw_p26 : lw_okq (⟨"BuriedGoods", "countBeside", "(I)I"⟩, 20) := ⟨⟨by decide +kernel, by decide +kernel⟩, List.mem_of_getElem? (i := 20) (by decide +kernel), List.mem_of_getElem? (i := 691) (by decide +kernel), List.mem_of_getElem? (i := 692) (by decide +kernel)⟩
theorem lw_p27 : lw_okq (⟨"BuriedGoods", "grow", "(I)V"⟩, 20) := ⟨⟨by decide +kernel, by decide +kernel⟩, List.mem_of_getElem? (i := 20) (by decide +kernel), List.mem_of_getElem? (i := 703) (by decide +kernel), List.mem_of_getElem? (i := 704) (by decide +kernel)⟩
theorem lw_p28 : lw_okq (⟨"BuriedGoods", "gainOfGrowth", "()I"⟩, 20) := ⟨⟨by decide +kernel, by decide +kernel⟩, List.mem_of_getElem? (i := 20) (by decide +kernel), List.mem_of_getElem? (i := 707) (by decide +kernel), List.mem_of_getElem? (i := 708) (by decide +kernel)⟩
theorem lw_p29 : lw_okq (⟨"BuriedGoods$Law", "pop", "()I"⟩, 4) := ⟨⟨by decide +kernel, by decide +kernel⟩, List.mem_of_getElem? (i := 132) (by decide +kernel), List.mem_of_getElem? (i := 716) (by decide +kernel), List.mem_of_getElem? (i := 717) (by decide +kernel)⟩
theorem lw_p30 : lw_okq (⟨"BuriedGoods$Law", "push", "(I)V"⟩, 4) := ⟨⟨by decide +kernel, by decide +kernel⟩, List.mem_of_getElem? (i := 132) (by decide +kernel), List.mem_of_getElem? (i := 720) (by decide +kernel), List.mem_of_getElem? (i := 721) (by decide +kernel)⟩
theorem lw_p31 : lw_okq (⟨"BuriedGoods", "gainWithoutLaw", "()I"⟩, 20) := ⟨⟨by decide +kernel, by decide +kernel⟩, List.mem_of_getElem? (i := 20) (by decide +kernel), List.mem_of_getElem? (i := 737) (by decide +kernel), List.mem_of_getElem? (i := 738) (by decide +kernel)⟩
def lw_privs_2 : List (MethodName × Nat) := [(⟨"BuriedGoods", "beginField", "()V"⟩, 20), (⟨"BuriedGoods", "keepLaw", "()I"⟩, 20), (⟨"BuriedGoods", "lawAt", "(I)LBuriedGoods$Law;"⟩, 20), (⟨"BuriedGoods", "isRow", "(I)Z"⟩, 20), (⟨"BuriedGoods", "isPlot", "(I)Z"⟩, 20), (⟨"BuriedGoods", "refuse", "(I)I"⟩, 20), (⟨"BuriedGoods$Past", "at", "(I)LBuriedGoods$Stand;"⟩, 3), (⟨"BuriedGoods", "passMonth", "()V"⟩, 20), (⟨"BuriedGoods", "isRipe", "(LBuriedGoods$Thing;)Z"⟩, 20), (⟨"BuriedGoods", "startFrom", "(LBuriedGoods$Thing;)V"⟩, 20), (⟨"BuriedGoods", "countBeside", "(I)I"⟩, 20), (⟨"BuriedGoods", "grow", "(I)V"⟩, 20), (⟨"BuriedGoods", "gainOfGrowth", "()I"⟩, 20), (⟨"BuriedGoods$Law", "pop", "()I"⟩, 4), (⟨"BuriedGoods$Law", "push", "(I)V"⟩, 4), (⟨"BuriedGoods", "gainWithoutLaw", "()I"⟩, 20)]
theorem lw_r2 : ∀ q ∈ lw_privs_2, lw_okq q := List.forall_mem_cons.mpr ⟨lw_p16, List.forall_mem_cons.mpr ⟨lw_p17, List.forall_mem_cons.mpr ⟨lw_p18, List.forall_mem_cons.mpr ⟨lw_p19, List.forall_mem_cons.mpr ⟨lw_p20, List.forall_mem_cons.mpr ⟨lw_p21, List.forall_mem_cons.mpr ⟨lw_p22, List.forall_mem_cons.mpr ⟨lw_p23, List.forall_mem_cons.mpr ⟨lw_p24, List.forall_mem_cons.mpr ⟨lw_p25, List.forall_mem_cons.mpr ⟨lw_p26, List.forall_mem_cons.mpr ⟨lw_p27, List.forall_mem_cons.mpr ⟨lw_p28, List.forall_mem_cons.mpr ⟨lw_p29, List.forall_mem_cons.mpr ⟨lw_p30, List.forall_mem_cons.mpr ⟨lw_p31, fun _ h => absurd h List.not_mem_nil⟩⟩⟩⟩⟩⟩⟩⟩⟩⟩⟩⟩⟩⟩⟩⟩
theorem lw_p32 : lw_okq (⟨"BuriedGoods", "lainAfter", "(II)I"⟩, 20) := ⟨⟨by decide +kernel, by decide +kernel⟩, List.mem_of_getElem? (i := 20) (by decide +kernel), List.mem_of_getElem? (i := 747) (by decide +kernel), List.mem_of_getElem? (i := 748) (by decide +kernel)⟩
theorem lw_p33 : lw_okq (⟨"BuriedGoods", "sendMole", "()V"⟩, 20) := ⟨⟨by decide +kernel, by decide +kernel⟩, List.mem_of_getElem? (i := 20) (by decide +kernel), List.mem_of_getElem? (i := 800) (by decide +kernel), List.mem_of_getElem? (i := 801) (by decide +kernel)⟩
theorem lw_p34 : lw_okq (⟨"BuriedGoods", "draw", "(I)I"⟩, 20) := ⟨⟨by decide +kernel, by decide +kernel⟩, List.mem_of_getElem? (i := 20) (by decide +kernel), List.mem_of_getElem? (i := 804) (by decide +kernel), List.mem_of_getElem? (i := 805) (by decide +kernel)⟩
theorem lw_p35 : lw_okq (⟨"BuriedGoods", "sendThief", "()V"⟩, 20) := ⟨⟨by decide +kernel, by decide +kernel⟩, List.mem_of_getElem? (i := 20) (by decide +kernel), List.mem_of_getElem? (i := 810) (by decide +kernel), List.mem_of_getElem? (i := 811) (by decide +kernel)⟩
theorem lw_p36 : lw_okq (⟨"BuriedGoods", "monthsToRipe", "(LBuriedGoods$Thing;)I"⟩, 20) := ⟨⟨by decide +kernel, by decide +kernel⟩, List.mem_of_getElem? (i := 20) (by decide +kernel), List.mem_of_getElem? (i := 845) (by decide +kernel), List.mem_of_getElem? (i := 846) (by decide +kernel)⟩
theorem lw_p37 : lw_okq (⟨"BuriedGoods", "countLyingIn", "(I)I"⟩, 20) := ⟨⟨by decide +kernel, by decide +kernel⟩, List.mem_of_getElem? (i := 20) (by decide +kernel), List.mem_of_getElem? (i := 862) (by decide +kernel), List.mem_of_getElem? (i := 863) (by decide +kernel)⟩
theorem lw_p38 : lw_okq (⟨"BuriedGoods$Plan", "setMark", "(IJ)V"⟩, 5) := ⟨⟨by decide +kernel, by decide +kernel⟩, List.mem_of_getElem? (i := 278) (by decide +kernel), List.mem_of_getElem? (i := 878) (by decide +kernel), List.mem_of_getElem? (i := 879) (by decide +kernel)⟩
theorem lw_p39 : lw_okq (⟨"BuriedGoods$Plan", "mark", "(I)J"⟩, 5) := ⟨⟨by decide +kernel, by decide +kernel⟩, List.mem_of_getElem? (i := 278) (by decide +kernel), List.mem_of_getElem? (i := 890) (by decide +kernel), List.mem_of_getElem? (i := 891) (by decide +kernel)⟩
theorem lw_p40 : lw_okq (⟨"BuriedGoods", "valueAlone", "(LBuriedGoods$Thing;III)I"⟩, 20) := ⟨⟨by decide +kernel, by decide +kernel⟩, List.mem_of_getElem? (i := 20) (by decide +kernel), List.mem_of_getElem? (i := 895) (by decide +kernel), List.mem_of_getElem? (i := 896) (by decide +kernel)⟩
theorem lw_p41 : lw_okq (⟨"BuriedGoods$Plan", "laidIn", "(II)I"⟩, 5) := ⟨⟨by decide +kernel, by decide +kernel⟩, List.mem_of_getElem? (i := 278) (by decide +kernel), List.mem_of_getElem? (i := 908) (by decide +kernel), List.mem_of_getElem? (i := 909) (by decide +kernel)⟩
theorem lw_p42 : lw_okq (⟨"BuriedGoods$Plan", "bestMark", "()J"⟩, 5) := ⟨⟨by decide +kernel, by decide +kernel⟩, List.mem_of_getElem? (i := 278) (by decide +kernel), List.mem_of_getElem? (i := 919) (by decide +kernel), List.mem_of_getElem? (i := 920) (by decide +kernel)⟩
theorem lw_p43 : lw_okq (⟨"BuriedGoods$Spade", "stepsTo", "(LBuriedGoods$Land;II)I"⟩, 3) := ⟨⟨by decide +kernel, by decide +kernel⟩, List.mem_of_getElem? (i := 301) (by decide +kernel), List.mem_of_getElem? (i := 948) (by decide +kernel), List.mem_of_getElem? (i := 949) (by decide +kernel)⟩
theorem lw_p44 : lw_okq (⟨"BuriedGoods", "toldThing", "(I)LBuriedGoods$Thing;"⟩, 20) := ⟨⟨by decide +kernel, by decide +kernel⟩, List.mem_of_getElem? (i := 20) (by decide +kernel), List.mem_of_getElem? (i := 964) (by decide +kernel), List.mem_of_getElem? (i := 965) (by decide +kernel)⟩
theorem lw_p45 : lw_okq (⟨"BuriedGoods", "mayBeSoDamp", "(II)Z"⟩, 20) := ⟨⟨by decide +kernel, by decide +kernel⟩, List.mem_of_getElem? (i := 20) (by decide +kernel), List.mem_of_getElem? (i := 982) (by decide +kernel), List.mem_of_getElem? (i := 983) (by decide +kernel)⟩
theorem lw_p46 : lw_okq (⟨"BuriedGoods", "askWhen", "(LBuriedGoods$Thing;I)I"⟩, 20) := ⟨⟨by decide +kernel, by decide +kernel⟩, List.mem_of_getElem? (i := 20) (by decide +kernel), List.mem_of_getElem? (i := 990) (by decide +kernel), List.mem_of_getElem? (i := 991) (by decide +kernel)⟩
theorem lw_p47 : lw_okq (⟨"BuriedGoods", "mostAlike", "(I)I"⟩, 20) := ⟨⟨by decide +kernel, by decide +kernel⟩, List.mem_of_getElem? (i := 20) (by decide +kernel), List.mem_of_getElem? (i := 994) (by decide +kernel), List.mem_of_getElem? (i := 995) (by decide +kernel)⟩
def lw_privs_3 : List (MethodName × Nat) := [(⟨"BuriedGoods", "lainAfter", "(II)I"⟩, 20), (⟨"BuriedGoods", "sendMole", "()V"⟩, 20), (⟨"BuriedGoods", "draw", "(I)I"⟩, 20), (⟨"BuriedGoods", "sendThief", "()V"⟩, 20), (⟨"BuriedGoods", "monthsToRipe", "(LBuriedGoods$Thing;)I"⟩, 20), (⟨"BuriedGoods", "countLyingIn", "(I)I"⟩, 20), (⟨"BuriedGoods$Plan", "setMark", "(IJ)V"⟩, 5), (⟨"BuriedGoods$Plan", "mark", "(I)J"⟩, 5), (⟨"BuriedGoods", "valueAlone", "(LBuriedGoods$Thing;III)I"⟩, 20), (⟨"BuriedGoods$Plan", "laidIn", "(II)I"⟩, 5), (⟨"BuriedGoods$Plan", "bestMark", "()J"⟩, 5), (⟨"BuriedGoods$Spade", "stepsTo", "(LBuriedGoods$Land;II)I"⟩, 3), (⟨"BuriedGoods", "toldThing", "(I)LBuriedGoods$Thing;"⟩, 20), (⟨"BuriedGoods", "mayBeSoDamp", "(II)Z"⟩, 20), (⟨"BuriedGoods", "askWhen", "(LBuriedGoods$Thing;I)I"⟩, 20), (⟨"BuriedGoods", "mostAlike", "(I)I"⟩, 20)]
theorem lw_r3 : ∀ q ∈ lw_privs_3, lw_okq q := List.forall_mem_cons.mpr ⟨lw_p32, List.forall_mem_cons.mpr ⟨lw_p33, List.forall_mem_cons.mpr ⟨lw_p34, List.forall_mem_cons.mpr ⟨lw_p35, List.forall_mem_cons.mpr ⟨lw_p36, List.forall_mem_cons.mpr ⟨lw_p37, List.forall_mem_cons.mpr ⟨lw_p38, List.forall_mem_cons.mpr ⟨lw_p39, List.forall_mem_cons.mpr ⟨lw_p40, List.forall_mem_cons.mpr ⟨lw_p41, List.forall_mem_cons.mpr ⟨lw_p42, List.forall_mem_cons.mpr ⟨lw_p43, List.forall_mem_cons.mpr ⟨lw_p44, List.forall_mem_cons.mpr ⟨lw_p45, List.forall_mem_cons.mpr ⟨lw_p46, List.forall_mem_cons.mpr ⟨lw_p47, fun _ h => absurd h List.not_mem_nil⟩⟩⟩⟩⟩⟩⟩⟩⟩⟩⟩⟩⟩⟩⟩⟩
theorem lw_p48 : lw_okq (⟨"BuriedGoods", "mayPlay", "(II)Z"⟩, 20) := ⟨⟨by decide +kernel, by decide +kernel⟩, List.mem_of_getElem? (i := 20) (by decide +kernel), List.mem_of_getElem? (i := 1005) (by decide +kernel), List.mem_of_getElem? (i := 1006) (by decide +kernel)⟩
theorem lw_p49 : lw_okq (⟨"BuriedGoods", "merchantHas", "(IIII)I"⟩, 20) := ⟨⟨by decide +kernel, by decide +kernel⟩, List.mem_of_getElem? (i := 20) (by decide +kernel), List.mem_of_getElem? (i := 1009) (by decide +kernel), List.mem_of_getElem? (i := 1010) (by decide +kernel)⟩
theorem lw_p50 : lw_okq (⟨"BuriedGoods", "valueAt", "(I)I"⟩, 20) := ⟨⟨by decide +kernel, by decide +kernel⟩, List.mem_of_getElem? (i := 20) (by decide +kernel), List.mem_of_getElem? (i := 1013) (by decide +kernel), List.mem_of_getElem? (i := 1014) (by decide +kernel)⟩
theorem lw_p51 : lw_okq (⟨"BuriedGoods", "thiefHas", "(IIII)I"⟩, 20) := ⟨⟨by decide +kernel, by decide +kernel⟩, List.mem_of_getElem? (i := 20) (by decide +kernel), List.mem_of_getElem? (i := 1017) (by decide +kernel), List.mem_of_getElem? (i := 1018) (by decide +kernel)⟩
theorem lw_p52 : lw_okq (⟨"BuriedGoods", "isRest", "(IIII)Z"⟩, 20) := ⟨⟨by decide +kernel, by decide +kernel⟩, List.mem_of_getElem? (i := 20) (by decide +kernel), List.mem_of_getElem? (i := 1025) (by decide +kernel), List.mem_of_getElem? (i := 1026) (by decide +kernel)⟩
theorem lw_p53 : lw_okq (⟨"BuriedGoods", "thiefMean", "(IIII)I"⟩, 20) := ⟨⟨by decide +kernel, by decide +kernel⟩, List.mem_of_getElem? (i := 20) (by decide +kernel), List.mem_of_getElem? (i := 1034) (by decide +kernel), List.mem_of_getElem? (i := 1035) (by decide +kernel)⟩
theorem lw_p54 : lw_okq (⟨"BuriedGoods", "valueByMoles", "(LBuriedGoods$Thing;II)I"⟩, 20) := ⟨⟨by decide +kernel, by decide +kernel⟩, List.mem_of_getElem? (i := 20) (by decide +kernel), List.mem_of_getElem? (i := 1047) (by decide +kernel), List.mem_of_getElem? (i := 1048) (by decide +kernel)⟩
theorem lw_p55 : lw_okq (⟨"BuriedGoods", "valueOfAll", "()I"⟩, 20) := ⟨⟨by decide +kernel, by decide +kernel⟩, List.mem_of_getElem? (i := 20) (by decide +kernel), List.mem_of_getElem? (i := 1055) (by decide +kernel), List.mem_of_getElem? (i := 1056) (by decide +kernel)⟩
theorem lw_p56 : lw_okq (⟨"BuriedGoods", "placeWithMost", "(Z)I"⟩, 20) := ⟨⟨by decide +kernel, by decide +kernel⟩, List.mem_of_getElem? (i := 20) (by decide +kernel), List.mem_of_getElem? (i := 1063) (by decide +kernel), List.mem_of_getElem? (i := 1064) (by decide +kernel)⟩
theorem lw_p57 : lw_okq (⟨"BuriedGoods", "richestRow", "()I"⟩, 20) := ⟨⟨by decide +kernel, by decide +kernel⟩, List.mem_of_getElem? (i := 20) (by decide +kernel), List.mem_of_getElem? (i := 1067) (by decide +kernel), List.mem_of_getElem? (i := 1068) (by decide +kernel)⟩
theorem lw_p58 : lw_okq (⟨"BuriedGoods", "dampestRow", "()I"⟩, 20) := ⟨⟨by decide +kernel, by decide +kernel⟩, List.mem_of_getElem? (i := 20) (by decide +kernel), List.mem_of_getElem? (i := 1071) (by decide +kernel), List.mem_of_getElem? (i := 1072) (by decide +kernel)⟩
theorem lw_p59 : lw_okq (⟨"BuriedGoods", "placesThatAre", "(I)I"⟩, 20) := ⟨⟨by decide +kernel, by decide +kernel⟩, List.mem_of_getElem? (i := 20) (by decide +kernel), List.mem_of_getElem? (i := 1075) (by decide +kernel), List.mem_of_getElem? (i := 1076) (by decide +kernel)⟩
theorem lw_p60 : lw_okq (⟨"BuriedGoods", "isSo", "(LBuriedGoods$Thing;I)Z"⟩, 20) := ⟨⟨by decide +kernel, by decide +kernel⟩, List.mem_of_getElem? (i := 20) (by decide +kernel), List.mem_of_getElem? (i := 1079) (by decide +kernel), List.mem_of_getElem? (i := 1080) (by decide +kernel)⟩
theorem lw_p61 : lw_okq (⟨"BuriedGoods", "lawfulCoins", "()I"⟩, 20) := ⟨⟨by decide +kernel, by decide +kernel⟩, List.mem_of_getElem? (i := 20) (by decide +kernel), List.mem_of_getElem? (i := 1089) (by decide +kernel), List.mem_of_getElem? (i := 1090) (by decide +kernel)⟩
theorem lw_p62 : lw_okq (⟨"BuriedGoods", "pairsBeside", "()I"⟩, 20) := ⟨⟨by decide +kernel, by decide +kernel⟩, List.mem_of_getElem? (i := 20) (by decide +kernel), List.mem_of_getElem? (i := 1093) (by decide +kernel), List.mem_of_getElem? (i := 1094) (by decide +kernel)⟩
theorem lw_p63 : lw_okq (⟨"java/lang/Throwable", "fillInStackTrace", "(I)Ljava/lang/Throwable;"⟩, 6) := ⟨⟨by decide +kernel, by decide +kernel⟩, List.mem_of_getElem? (i := 1154) (by decide +kernel), List.mem_of_getElem? (i := 1152) (by decide +kernel), List.mem_of_getElem? (i := 1153) (by decide +kernel)⟩
def lw_privs_4 : List (MethodName × Nat) := [(⟨"BuriedGoods", "mayPlay", "(II)Z"⟩, 20), (⟨"BuriedGoods", "merchantHas", "(IIII)I"⟩, 20), (⟨"BuriedGoods", "valueAt", "(I)I"⟩, 20), (⟨"BuriedGoods", "thiefHas", "(IIII)I"⟩, 20), (⟨"BuriedGoods", "isRest", "(IIII)Z"⟩, 20), (⟨"BuriedGoods", "thiefMean", "(IIII)I"⟩, 20), (⟨"BuriedGoods", "valueByMoles", "(LBuriedGoods$Thing;II)I"⟩, 20), (⟨"BuriedGoods", "valueOfAll", "()I"⟩, 20), (⟨"BuriedGoods", "placeWithMost", "(Z)I"⟩, 20), (⟨"BuriedGoods", "richestRow", "()I"⟩, 20), (⟨"BuriedGoods", "dampestRow", "()I"⟩, 20), (⟨"BuriedGoods", "placesThatAre", "(I)I"⟩, 20), (⟨"BuriedGoods", "isSo", "(LBuriedGoods$Thing;I)Z"⟩, 20), (⟨"BuriedGoods", "lawfulCoins", "()I"⟩, 20), (⟨"BuriedGoods", "pairsBeside", "()I"⟩, 20), (⟨"java/lang/Throwable", "fillInStackTrace", "(I)Ljava/lang/Throwable;"⟩, 6)]
theorem lw_r4 : ∀ q ∈ lw_privs_4, lw_okq q := List.forall_mem_cons.mpr ⟨lw_p48, List.forall_mem_cons.mpr ⟨lw_p49, List.forall_mem_cons.mpr ⟨lw_p50, List.forall_mem_cons.mpr ⟨lw_p51, List.forall_mem_cons.mpr ⟨lw_p52, List.forall_mem_cons.mpr ⟨lw_p53, List.forall_mem_cons.mpr ⟨lw_p54, List.forall_mem_cons.mpr ⟨lw_p55, List.forall_mem_cons.mpr ⟨lw_p56, List.forall_mem_cons.mpr ⟨lw_p57, List.forall_mem_cons.mpr ⟨lw_p58, List.forall_mem_cons.mpr ⟨lw_p59, List.forall_mem_cons.mpr ⟨lw_p60, List.forall_mem_cons.mpr ⟨lw_p61, List.forall_mem_cons.mpr ⟨lw_p62, List.forall_mem_cons.mpr ⟨lw_p63, fun _ h => absurd h List.not_mem_nil⟩⟩⟩⟩⟩⟩⟩⟩⟩⟩⟩⟩⟩⟩⟩⟩
theorem lw_p64 : lw_okq (⟨"BuriedGoodsModel", "readField", "()I"⟩, 52) := ⟨⟨by decide +kernel, by decide +kernel⟩, List.mem_of_getElem? (i := 1179) (by decide +kernel), List.mem_of_getElem? (i := 1362) (by decide +kernel), List.mem_of_getElem? (i := 1363) (by decide +kernel)⟩
theorem lw_p65 : lw_okq (⟨"BuriedGoodsModel", "look", "()I"⟩, 52) := ⟨⟨by decide +kernel, by decide +kernel⟩, List.mem_of_getElem? (i := 1179) (by decide +kernel), List.mem_of_getElem? (i := 1369) (by decide +kernel), List.mem_of_getElem? (i := 1370) (by decide +kernel)⟩
theorem lw_p66 : lw_okq (⟨"BuriedGoodsModel", "here", "()I"⟩, 52) := ⟨⟨by decide +kernel, by decide +kernel⟩, List.mem_of_getElem? (i := 1179) (by decide +kernel), List.mem_of_getElem? (i := 1373) (by decide +kernel), List.mem_of_getElem? (i := 1374) (by decide +kernel)⟩
theorem lw_p67 : lw_okq (⟨"BuriedGoodsModel", "items", "(I[III)V"⟩, 52) := ⟨⟨by decide +kernel, by decide +kernel⟩, List.mem_of_getElem? (i := 1179) (by decide +kernel), List.mem_of_getElem? (i := 1377) (by decide +kernel), List.mem_of_getElem? (i := 1378) (by decide +kernel)⟩
theorem lw_p68 : lw_okq (⟨"BuriedGoodsModel", "number", "(II)I"⟩, 52) := ⟨⟨by decide +kernel, by decide +kernel⟩, List.mem_of_getElem? (i := 1179) (by decide +kernel), List.mem_of_getElem? (i := 1393) (by decide +kernel), List.mem_of_getElem? (i := 1394) (by decide +kernel)⟩
theorem lw_p69 : lw_okq (⟨"BuriedGoodsModel", "bad", "()V"⟩, 52) := ⟨⟨by decide +kernel, by decide +kernel⟩, List.mem_of_getElem? (i := 1179) (by decide +kernel), List.mem_of_getElem? (i := 1400) (by decide +kernel), List.mem_of_getElem? (i := 1401) (by decide +kernel)⟩
theorem lw_p70 : lw_okq (⟨"BuriedGoodsModel", "isWhole", "()Z"⟩, 52) := ⟨⟨by decide +kernel, by decide +kernel⟩, List.mem_of_getElem? (i := 1179) (by decide +kernel), List.mem_of_getElem? (i := 1407) (by decide +kernel), List.mem_of_getElem? (i := 1408) (by decide +kernel)⟩
theorem lw_p71 : lw_okq (⟨"BuriedGoodsModel", "readLaw", "(I)I"⟩, 52) := ⟨⟨by decide +kernel, by decide +kernel⟩, List.mem_of_getElem? (i := 1179) (by decide +kernel), List.mem_of_getElem? (i := 1411) (by decide +kernel), List.mem_of_getElem? (i := 1412) (by decide +kernel)⟩
theorem lw_p72 : lw_okq (⟨"BuriedGoodsModel", "open", "(I)V"⟩, 52) := ⟨⟨by decide +kernel, by decide +kernel⟩, List.mem_of_getElem? (i := 1179) (by decide +kernel), List.mem_of_getElem? (i := 1415) (by decide +kernel), List.mem_of_getElem? (i := 1416) (by decide +kernel)⟩
theorem lw_p73 : lw_okq (⟨"BuriedGoodsModel", "clause", "()V"⟩, 52) := ⟨⟨by decide +kernel, by decide +kernel⟩, List.mem_of_getElem? (i := 1179) (by decide +kernel), List.mem_of_getElem? (i := 1419) (by decide +kernel), List.mem_of_getElem? (i := 1420) (by decide +kernel)⟩
theorem lw_p74 : lw_okq (⟨"BuriedGoodsModel", "condition", "()V"⟩, 52) := ⟨⟨by decide +kernel, by decide +kernel⟩, List.mem_of_getElem? (i := 1179) (by decide +kernel), List.mem_of_getElem? (i := 1423) (by decide +kernel), List.mem_of_getElem? (i := 1424) (by decide +kernel)⟩
theorem lw_p75 : lw_okq (⟨"BuriedGoodsModel", "unit", "()V"⟩, 52) := ⟨⟨by decide +kernel, by decide +kernel⟩, List.mem_of_getElem? (i := 1179) (by decide +kernel), List.mem_of_getElem? (i := 1427) (by decide +kernel), List.mem_of_getElem? (i := 1428) (by decide +kernel)⟩
theorem lw_p76 : lw_okq (⟨"BuriedGoodsModel", "opens", "()V"⟩, 52) := ⟨⟨by decide +kernel, by decide +kernel⟩, List.mem_of_getElem? (i := 1179) (by decide +kernel), List.mem_of_getElem? (i := 1431) (by decide +kernel), List.mem_of_getElem? (i := 1432) (by decide +kernel)⟩
theorem lw_p77 : lw_okq (⟨"BuriedGoodsModel", "put", "(II)V"⟩, 52) := ⟨⟨by decide +kernel, by decide +kernel⟩, List.mem_of_getElem? (i := 1179) (by decide +kernel), List.mem_of_getElem? (i := 1435) (by decide +kernel), List.mem_of_getElem? (i := 1436) (by decide +kernel)⟩
theorem lw_p78 : lw_okq (⟨"BuriedGoodsModel", "closes", "(I)V"⟩, 52) := ⟨⟨by decide +kernel, by decide +kernel⟩, List.mem_of_getElem? (i := 1179) (by decide +kernel), List.mem_of_getElem? (i := 1439) (by decide +kernel), List.mem_of_getElem? (i := 1440) (by decide +kernel)⟩
theorem lw_p79 : lw_okq (⟨"BuriedGoodsModel", "sum", "()V"⟩, 52) := ⟨⟨by decide +kernel, by decide +kernel⟩, List.mem_of_getElem? (i := 1179) (by decide +kernel), List.mem_of_getElem? (i := 1443) (by decide +kernel), List.mem_of_getElem? (i := 1444) (by decide +kernel)⟩
def lw_privs_5 : List (MethodName × Nat) := [(⟨"BuriedGoodsModel", "readField", "()I"⟩, 52), (⟨"BuriedGoodsModel", "look", "()I"⟩, 52), (⟨"BuriedGoodsModel", "here", "()I"⟩, 52), (⟨"BuriedGoodsModel", "items", "(I[III)V"⟩, 52), (⟨"BuriedGoodsModel", "number", "(II)I"⟩, 52), (⟨"BuriedGoodsModel", "bad", "()V"⟩, 52), (⟨"BuriedGoodsModel", "isWhole", "()Z"⟩, 52), (⟨"BuriedGoodsModel", "readLaw", "(I)I"⟩, 52), (⟨"BuriedGoodsModel", "open", "(I)V"⟩, 52), (⟨"BuriedGoodsModel", "clause", "()V"⟩, 52), (⟨"BuriedGoodsModel", "condition", "()V"⟩, 52), (⟨"BuriedGoodsModel", "unit", "()V"⟩, 52), (⟨"BuriedGoodsModel", "opens", "()V"⟩, 52), (⟨"BuriedGoodsModel", "put", "(II)V"⟩, 52), (⟨"BuriedGoodsModel", "closes", "(I)V"⟩, 52), (⟨"BuriedGoodsModel", "sum", "()V"⟩, 52)]
theorem lw_r5 : ∀ q ∈ lw_privs_5, lw_okq q := List.forall_mem_cons.mpr ⟨lw_p64, List.forall_mem_cons.mpr ⟨lw_p65, List.forall_mem_cons.mpr ⟨lw_p66, List.forall_mem_cons.mpr ⟨lw_p67, List.forall_mem_cons.mpr ⟨lw_p68, List.forall_mem_cons.mpr ⟨lw_p69, List.forall_mem_cons.mpr ⟨lw_p70, List.forall_mem_cons.mpr ⟨lw_p71, List.forall_mem_cons.mpr ⟨lw_p72, List.forall_mem_cons.mpr ⟨lw_p73, List.forall_mem_cons.mpr ⟨lw_p74, List.forall_mem_cons.mpr ⟨lw_p75, List.forall_mem_cons.mpr ⟨lw_p76, List.forall_mem_cons.mpr ⟨lw_p77, List.forall_mem_cons.mpr ⟨lw_p78, List.forall_mem_cons.mpr ⟨lw_p79, fun _ h => absurd h List.not_mem_nil⟩⟩⟩⟩⟩⟩⟩⟩⟩⟩⟩⟩⟩⟩⟩⟩
theorem lw_p80 : lw_okq (⟨"BuriedGoodsModel", "term", "()V"⟩, 52) := ⟨⟨by decide +kernel, by decide +kernel⟩, List.mem_of_getElem? (i := 1179) (by decide +kernel), List.mem_of_getElem? (i := 1447) (by decide +kernel), List.mem_of_getElem? (i := 1448) (by decide +kernel)⟩
theorem lw_p81 : lw_okq (⟨"BuriedGoodsModel", "atom", "()V"⟩, 52) := ⟨⟨by decide +kernel, by decide +kernel⟩, List.mem_of_getElem? (i := 1179) (by decide +kernel), List.mem_of_getElem? (i := 1451) (by decide +kernel), List.mem_of_getElem? (i := 1452) (by decide +kernel)⟩
theorem lw_p82 : lw_okq (⟨"BuriedGoodsModel", "plainNumber", "()I"⟩, 52) := ⟨⟨by decide +kernel, by decide +kernel⟩, List.mem_of_getElem? (i := 1179) (by decide +kernel), List.mem_of_getElem? (i := 1455) (by decide +kernel), List.mem_of_getElem? (i := 1456) (by decide +kernel)⟩
theorem lw_p83 : lw_okq (⟨"BuriedGoodsModel", "compare", "()V"⟩, 52) := ⟨⟨by decide +kernel, by decide +kernel⟩, List.mem_of_getElem? (i := 1179) (by decide +kernel), List.mem_of_getElem? (i := 1462) (by decide +kernel), List.mem_of_getElem? (i := 1463) (by decide +kernel)⟩
theorem lw_p84 : lw_okq (⟨"BuriedGoodsModel", "goOnAnd", "()V"⟩, 52) := ⟨⟨by decide +kernel, by decide +kernel⟩, List.mem_of_getElem? (i := 1179) (by decide +kernel), List.mem_of_getElem? (i := 1469) (by decide +kernel), List.mem_of_getElem? (i := 1470) (by decide +kernel)⟩
theorem lw_p85 : lw_okq (⟨"BuriedGoodsModel", "goOnOr", "()V"⟩, 52) := ⟨⟨by decide +kernel, by decide +kernel⟩, List.mem_of_getElem? (i := 1179) (by decide +kernel), List.mem_of_getElem? (i := 1473) (by decide +kernel), List.mem_of_getElem? (i := 1474) (by decide +kernel)⟩
theorem lw_p86 : lw_okq (⟨"BuriedGoodsModel", "atEnd", "()I"⟩, 52) := ⟨⟨by decide +kernel, by decide +kernel⟩, List.mem_of_getElem? (i := 1179) (by decide +kernel), List.mem_of_getElem? (i := 1477) (by decide +kernel), List.mem_of_getElem? (i := 1478) (by decide +kernel)⟩
theorem lw_p87 : lw_okq (⟨"BuriedGoodsModel", "takeField", "()I"⟩, 52) := ⟨⟨by decide +kernel, by decide +kernel⟩, List.mem_of_getElem? (i := 1179) (by decide +kernel), List.mem_of_getElem? (i := 1485) (by decide +kernel), List.mem_of_getElem? (i := 1486) (by decide +kernel)⟩
theorem lw_p88 : lw_okq (⟨"BuriedGoodsModel", "layTold", "(I)V"⟩, 52) := ⟨⟨by decide +kernel, by decide +kernel⟩, List.mem_of_getElem? (i := 1179) (by decide +kernel), List.mem_of_getElem? (i := 1489) (by decide +kernel), List.mem_of_getElem? (i := 1490) (by decide +kernel)⟩
theorem lw_p89 : lw_okq (⟨"BuriedGoodsModel", "set", "(III)V"⟩, 52) := ⟨⟨by decide +kernel, by decide +kernel⟩, List.mem_of_getElem? (i := 1179) (by decide +kernel), List.mem_of_getElem? (i := 1493) (by decide +kernel), List.mem_of_getElem? (i := 1494) (by decide +kernel)⟩
theorem lw_p90 : lw_okq (⟨"BuriedGoodsModel", "of", "(II)I"⟩, 52) := ⟨⟨by decide +kernel, by decide +kernel⟩, List.mem_of_getElem? (i := 1179) (by decide +kernel), List.mem_of_getElem? (i := 1497) (by decide +kernel), List.mem_of_getElem? (i := 1498) (by decide +kernel)⟩
theorem lw_p91 : lw_okq (⟨"BuriedGoodsModel", "isRow", "(I)Z"⟩, 52) := ⟨⟨by decide +kernel, by decide +kernel⟩, List.mem_of_getElem? (i := 1179) (by decide +kernel), List.mem_of_getElem? (i := 1509) (by decide +kernel), List.mem_of_getElem? (i := 1510) (by decide +kernel)⟩
theorem lw_p92 : lw_okq (⟨"BuriedGoodsModel", "isThere", "(I)Z"⟩, 52) := ⟨⟨by decide +kernel, by decide +kernel⟩, List.mem_of_getElem? (i := 1179) (by decide +kernel), List.mem_of_getElem? (i := 1517) (by decide +kernel), List.mem_of_getElem? (i := 1518) (by decide +kernel)⟩
theorem lw_p93 : lw_okq (⟨"BuriedGoodsModel", "isPlot", "(I)Z"⟩, 52) := ⟨⟨by decide +kernel, by decide +kernel⟩, List.mem_of_getElem? (i := 1179) (by decide +kernel), List.mem_of_getElem? (i := 1525) (by decide +kernel), List.mem_of_getElem? (i := 1526) (by decide +kernel)⟩
theorem lw_p94 : lw_okq (⟨"BuriedGoodsModel", "plots", "()I"⟩, 52) := ⟨⟨by decide +kernel, by decide +kernel⟩, List.mem_of_getElem? (i := 1179) (by decide +kernel), List.mem_of_getElem? (i := 1529) (by decide +kernel), List.mem_of_getElem? (i := 1530) (by decide +kernel)⟩
theorem lw_p95 : lw_okq (⟨"BuriedGoodsModel", "inPlot", "(I)I"⟩, 52) := ⟨⟨by decide +kernel, by decide +kernel⟩, List.mem_of_getElem? (i := 1179) (by decide +kernel), List.mem_of_getElem? (i := 1533) (by decide +kernel), List.mem_of_getElem? (i := 1534) (by decide +kernel)⟩
def lw_privs_6 : List (MethodName × Nat) := [(⟨"BuriedGoodsModel", "term", "()V"⟩, 52), (⟨"BuriedGoodsModel", "atom", "()V"⟩, 52), (⟨"BuriedGoodsModel", "plainNumber", "()I"⟩, 52), (⟨"BuriedGoodsModel", "compare", "()V"⟩, 52), (⟨"BuriedGoodsModel", "goOnAnd", "()V"⟩, 52), (⟨"BuriedGoodsModel", "goOnOr", "()V"⟩, 52), (⟨"BuriedGoodsModel", "atEnd", "()I"⟩, 52), (⟨"BuriedGoodsModel", "takeField", "()I"⟩, 52), (⟨"BuriedGoodsModel", "layTold", "(I)V"⟩, 52), (⟨"BuriedGoodsModel", "set", "(III)V"⟩, 52), (⟨"BuriedGoodsModel", "of", "(II)I"⟩, 52), (⟨"BuriedGoodsModel", "isRow", "(I)Z"⟩, 52), (⟨"BuriedGoodsModel", "isThere", "(I)Z"⟩, 52), (⟨"BuriedGoodsModel", "isPlot", "(I)Z"⟩, 52), (⟨"BuriedGoodsModel", "plots", "()I"⟩, 52), (⟨"BuriedGoodsModel", "inPlot", "(I)I"⟩, 52)]
theorem lw_r6 : ∀ q ∈ lw_privs_6, lw_okq q := List.forall_mem_cons.mpr ⟨lw_p80, List.forall_mem_cons.mpr ⟨lw_p81, List.forall_mem_cons.mpr ⟨lw_p82, List.forall_mem_cons.mpr ⟨lw_p83, List.forall_mem_cons.mpr ⟨lw_p84, List.forall_mem_cons.mpr ⟨lw_p85, List.forall_mem_cons.mpr ⟨lw_p86, List.forall_mem_cons.mpr ⟨lw_p87, List.forall_mem_cons.mpr ⟨lw_p88, List.forall_mem_cons.mpr ⟨lw_p89, List.forall_mem_cons.mpr ⟨lw_p90, List.forall_mem_cons.mpr ⟨lw_p91, List.forall_mem_cons.mpr ⟨lw_p92, List.forall_mem_cons.mpr ⟨lw_p93, List.forall_mem_cons.mpr ⟨lw_p94, List.forall_mem_cons.mpr ⟨lw_p95, fun _ h => absurd h List.not_mem_nil⟩⟩⟩⟩⟩⟩⟩⟩⟩⟩⟩⟩⟩⟩⟩⟩
theorem lw_p96 : lw_okq (⟨"BuriedGoodsModel", "doesLie", "(I)Z"⟩, 52) := ⟨⟨by decide +kernel, by decide +kernel⟩, List.mem_of_getElem? (i := 1179) (by decide +kernel), List.mem_of_getElem? (i := 1537) (by decide +kernel), List.mem_of_getElem? (i := 1538) (by decide +kernel)⟩
theorem lw_p97 : lw_okq (⟨"BuriedGoodsModel", "areMonths", "(I)Z"⟩, 52) := ⟨⟨by decide +kernel, by decide +kernel⟩, List.mem_of_getElem? (i := 1179) (by decide +kernel), List.mem_of_getElem? (i := 1553) (by decide +kernel), List.mem_of_getElem? (i := 1554) (by decide +kernel)⟩
theorem lw_p98 : lw_okq (⟨"BuriedGoodsModel", "isRefused", "(I)Z"⟩, 52) := ⟨⟨by decide +kernel, by decide +kernel⟩, List.mem_of_getElem? (i := 1179) (by decide +kernel), List.mem_of_getElem? (i := 1557) (by decide +kernel), List.mem_of_getElem? (i := 1558) (by decide +kernel)⟩
theorem lw_p99 : lw_okq (⟨"BuriedGoodsModel", "keep", "()V"⟩, 52) := ⟨⟨by decide +kernel, by decide +kernel⟩, List.mem_of_getElem? (i := 1179) (by decide +kernel), List.mem_of_getElem? (i := 1561) (by decide +kernel), List.mem_of_getElem? (i := 1562) (by decide +kernel)⟩
theorem lw_p100 : lw_okq (⟨"BuriedGoodsModel", "passMonth", "()V"⟩, 52) := ⟨⟨by decide +kernel, by decide +kernel⟩, List.mem_of_getElem? (i := 1179) (by decide +kernel), List.mem_of_getElem? (i := 1565) (by decide +kernel), List.mem_of_getElem? (i := 1566) (by decide +kernel)⟩
theorem lw_p101 : lw_okq (⟨"BuriedGoodsModel", "live", "()V"⟩, 52) := ⟨⟨by decide +kernel, by decide +kernel⟩, List.mem_of_getElem? (i := 1179) (by decide +kernel), List.mem_of_getElem? (i := 1569) (by decide +kernel), List.mem_of_getElem? (i := 1570) (by decide +kernel)⟩
theorem lw_p102 : lw_okq (⟨"BuriedGoodsModel", "rowOf", "(I)I"⟩, 52) := ⟨⟨by decide +kernel, by decide +kernel⟩, List.mem_of_getElem? (i := 1179) (by decide +kernel), List.mem_of_getElem? (i := 1573) (by decide +kernel), List.mem_of_getElem? (i := 1574) (by decide +kernel)⟩
theorem lw_p103 : lw_okq (⟨"BuriedGoodsModel", "growthBy", "(II)I"⟩, 52) := ⟨⟨by decide +kernel, by decide +kernel⟩, List.mem_of_getElem? (i := 1179) (by decide +kernel), List.mem_of_getElem? (i := 1577) (by decide +kernel), List.mem_of_getElem? (i := 1578) (by decide +kernel)⟩
theorem lw_p104 : lw_okq (⟨"BuriedGoodsModel", "isRipe", "(I)Z"⟩, 52) := ⟨⟨by decide +kernel, by decide +kernel⟩, List.mem_of_getElem? (i := 1179) (by decide +kernel), List.mem_of_getElem? (i := 1581) (by decide +kernel), List.mem_of_getElem? (i := 1582) (by decide +kernel)⟩
theorem lw_p105 : lw_okq (⟨"BuriedGoodsModel", "besideOf", "(I)I"⟩, 52) := ⟨⟨by decide +kernel, by decide +kernel⟩, List.mem_of_getElem? (i := 1179) (by decide +kernel), List.mem_of_getElem? (i := 1585) (by decide +kernel), List.mem_of_getElem? (i := 1586) (by decide +kernel)⟩
theorem lw_p106 : lw_okq (⟨"BuriedGoodsModel", "stepsFrom", "(II)I"⟩, 52) := ⟨⟨by decide +kernel, by decide +kernel⟩, List.mem_of_getElem? (i := 1179) (by decide +kernel), List.mem_of_getElem? (i := 1589) (by decide +kernel), List.mem_of_getElem? (i := 1590) (by decide +kernel)⟩
theorem lw_p107 : lw_okq (⟨"BuriedGoodsModel", "worthOf", "(I)I"⟩, 52) := ⟨⟨by decide +kernel, by decide +kernel⟩, List.mem_of_getElem? (i := 1179) (by decide +kernel), List.mem_of_getElem? (i := 1594) (by decide +kernel), List.mem_of_getElem? (i := 1595) (by decide +kernel)⟩
theorem lw_p108 : lw_okq (⟨"BuriedGoodsModel", "workOut", "(III)I"⟩, 52) := ⟨⟨by decide +kernel, by decide +kernel⟩, List.mem_of_getElem? (i := 1179) (by decide +kernel), List.mem_of_getElem? (i := 1598) (by decide +kernel), List.mem_of_getElem? (i := 1599) (by decide +kernel)⟩
theorem lw_p109 : lw_okq (⟨"BuriedGoodsModel", "onesWho", "(I)I"⟩, 52) := ⟨⟨by decide +kernel, by decide +kernel⟩, List.mem_of_getElem? (i := 1179) (by decide +kernel), List.mem_of_getElem? (i := 1616) (by decide +kernel), List.mem_of_getElem? (i := 1617) (by decide +kernel)⟩
theorem lw_p110 : lw_okq (⟨"BuriedGoodsModel", "valueOf", "(I)I"⟩, 52) := ⟨⟨by decide +kernel, by decide +kernel⟩, List.mem_of_getElem? (i := 1179) (by decide +kernel), List.mem_of_getElem? (i := 1620) (by decide +kernel), List.mem_of_getElem? (i := 1621) (by decide +kernel)⟩
theorem lw_p111 : lw_okq (⟨"BuriedGoodsModel", "freePlace", "()I"⟩, 52) := ⟨⟨by decide +kernel, by decide +kernel⟩, List.mem_of_getElem? (i := 1179) (by decide +kernel), List.mem_of_getElem? (i := 1641) (by decide +kernel), List.mem_of_getElem? (i := 1642) (by decide +kernel)⟩
def lw_privs_7 : List (MethodName × Nat) := [(⟨"BuriedGoodsModel", "doesLie", "(I)Z"⟩, 52), (⟨"BuriedGoodsModel", "areMonths", "(I)Z"⟩, 52), (⟨"BuriedGoodsModel", "isRefused", "(I)Z"⟩, 52), (⟨"BuriedGoodsModel", "keep", "()V"⟩, 52), (⟨"BuriedGoodsModel", "passMonth", "()V"⟩, 52), (⟨"BuriedGoodsModel", "live", "()V"⟩, 52), (⟨"BuriedGoodsModel", "rowOf", "(I)I"⟩, 52), (⟨"BuriedGoodsModel", "growthBy", "(II)I"⟩, 52), (⟨"BuriedGoodsModel", "isRipe", "(I)Z"⟩, 52), (⟨"BuriedGoodsModel", "besideOf", "(I)I"⟩, 52), (⟨"BuriedGoodsModel", "stepsFrom", "(II)I"⟩, 52), (⟨"BuriedGoodsModel", "worthOf", "(I)I"⟩, 52), (⟨"BuriedGoodsModel", "workOut", "(III)I"⟩, 52), (⟨"BuriedGoodsModel", "onesWho", "(I)I"⟩, 52), (⟨"BuriedGoodsModel", "valueOf", "(I)I"⟩, 52), (⟨"BuriedGoodsModel", "freePlace", "()I"⟩, 52)]
theorem lw_r7 : ∀ q ∈ lw_privs_7, lw_okq q := List.forall_mem_cons.mpr ⟨lw_p96, List.forall_mem_cons.mpr ⟨lw_p97, List.forall_mem_cons.mpr ⟨lw_p98, List.forall_mem_cons.mpr ⟨lw_p99, List.forall_mem_cons.mpr ⟨lw_p100, List.forall_mem_cons.mpr ⟨lw_p101, List.forall_mem_cons.mpr ⟨lw_p102, List.forall_mem_cons.mpr ⟨lw_p103, List.forall_mem_cons.mpr ⟨lw_p104, List.forall_mem_cons.mpr ⟨lw_p105, List.forall_mem_cons.mpr ⟨lw_p106, List.forall_mem_cons.mpr ⟨lw_p107, List.forall_mem_cons.mpr ⟨lw_p108, List.forall_mem_cons.mpr ⟨lw_p109, List.forall_mem_cons.mpr ⟨lw_p110, List.forall_mem_cons.mpr ⟨lw_p111, fun _ h => absurd h List.not_mem_nil⟩⟩⟩⟩⟩⟩⟩⟩⟩⟩⟩⟩⟩⟩⟩⟩
theorem lw_p112 : lw_okq (⟨"BuriedGoodsModel", "drawMonth", "()V"⟩, 52) := ⟨⟨by decide +kernel, by decide +kernel⟩, List.mem_of_getElem? (i := 1179) (by decide +kernel), List.mem_of_getElem? (i := 1662) (by decide +kernel), List.mem_of_getElem? (i := 1663) (by decide +kernel)⟩
theorem lw_p113 : lw_okq (⟨"BuriedGoodsModel", "draw", "(I)I"⟩, 52) := ⟨⟨by decide +kernel, by decide +kernel⟩, List.mem_of_getElem? (i := 1179) (by decide +kernel), List.mem_of_getElem? (i := 1666) (by decide +kernel), List.mem_of_getElem? (i := 1667) (by decide +kernel)⟩
theorem lw_p114 : lw_okq (⟨"BuriedGoodsModel", "putAside", "(I)V"⟩, 52) := ⟨⟨by decide +kernel, by decide +kernel⟩, List.mem_of_getElem? (i := 1179) (by decide +kernel), List.mem_of_getElem? (i := 1688) (by decide +kernel), List.mem_of_getElem? (i := 1689) (by decide +kernel)⟩
theorem lw_p115 : lw_okq (⟨"BuriedGoodsModel", "takeBack", "(I)V"⟩, 52) := ⟨⟨by decide +kernel, by decide +kernel⟩, List.mem_of_getElem? (i := 1179) (by decide +kernel), List.mem_of_getElem? (i := 1692) (by decide +kernel), List.mem_of_getElem? (i := 1693) (by decide +kernel)⟩
theorem lw_p116 : lw_okq (⟨"BuriedGoodsModel", "ripeWithin", "(I)I"⟩, 52) := ⟨⟨by decide +kernel, by decide +kernel⟩, List.mem_of_getElem? (i := 1179) (by decide +kernel), List.mem_of_getElem? (i := 1700) (by decide +kernel), List.mem_of_getElem? (i := 1701) (by decide +kernel)⟩
theorem lw_p117 : lw_okq (⟨"BuriedGoodsModel", "layLaid", "(I)V"⟩, 52) := ⟨⟨by decide +kernel, by decide +kernel⟩, List.mem_of_getElem? (i := 1179) (by decide +kernel), List.mem_of_getElem? (i := 1716) (by decide +kernel), List.mem_of_getElem? (i := 1717) (by decide +kernel)⟩
theorem lw_p118 : lw_okq (⟨"BuriedGoodsModel", "leaveAlone", "(I)V"⟩, 52) := ⟨⟨by decide +kernel, by decide +kernel⟩, List.mem_of_getElem? (i := 1179) (by decide +kernel), List.mem_of_getElem? (i := 1720) (by decide +kernel), List.mem_of_getElem? (i := 1721) (by decide +kernel)⟩
theorem lw_p119 : lw_okq (⟨"BuriedGoodsModel", "tryLaying", "(III)V"⟩, 52) := ⟨⟨by decide +kernel, by decide +kernel⟩, List.mem_of_getElem? (i := 1179) (by decide +kernel), List.mem_of_getElem? (i := 1724) (by decide +kernel), List.mem_of_getElem? (i := 1725) (by decide +kernel)⟩
theorem lw_p120 : lw_okq (⟨"BuriedGoodsModel", "isTold", "(I)Z"⟩, 52) := ⟨⟨by decide +kernel, by decide +kernel⟩, List.mem_of_getElem? (i := 1179) (by decide +kernel), List.mem_of_getElem? (i := 1737) (by decide +kernel), List.mem_of_getElem? (i := 1738) (by decide +kernel)⟩
theorem lw_p121 : lw_okq (⟨"BuriedGoodsModel", "isDamp", "(II)Z"⟩, 52) := ⟨⟨by decide +kernel, by decide +kernel⟩, List.mem_of_getElem? (i := 1179) (by decide +kernel), List.mem_of_getElem? (i := 1745) (by decide +kernel), List.mem_of_getElem? (i := 1746) (by decide +kernel)⟩
theorem lw_p122 : lw_okq (⟨"BuriedGoodsModel", "toldValue", "(IIII)I"⟩, 52) := ⟨⟨by decide +kernel, by decide +kernel⟩, List.mem_of_getElem? (i := 1179) (by decide +kernel), List.mem_of_getElem? (i := 1749) (by decide +kernel), List.mem_of_getElem? (i := 1750) (by decide +kernel)⟩
theorem lw_p123 : lw_okq (⟨"BuriedGoodsModel", "mostAlike", "()I"⟩, 52) := ⟨⟨by decide +kernel, by decide +kernel⟩, List.mem_of_getElem? (i := 1179) (by decide +kernel), List.mem_of_getElem? (i := 1758) (by decide +kernel), List.mem_of_getElem? (i := 1759) (by decide +kernel)⟩
theorem lw_p124 : lw_okq (⟨"BuriedGoodsModel", "areTwo", "(II)Z"⟩, 52) := ⟨⟨by decide +kernel, by decide +kernel⟩, List.mem_of_getElem? (i := 1179) (by decide +kernel), List.mem_of_getElem? (i := 1766) (by decide +kernel), List.mem_of_getElem? (i := 1767) (by decide +kernel)⟩
theorem lw_p125 : lw_okq (⟨"BuriedGoodsModel", "merchantHas", "(IIII)I"⟩, 52) := ⟨⟨by decide +kernel, by decide +kernel⟩, List.mem_of_getElem? (i := 1179) (by decide +kernel), List.mem_of_getElem? (i := 1770) (by decide +kernel), List.mem_of_getElem? (i := 1771) (by decide +kernel)⟩
theorem lw_p126 : lw_okq (⟨"BuriedGoodsModel", "thiefHas", "(IIII)I"⟩, 52) := ⟨⟨by decide +kernel, by decide +kernel⟩, List.mem_of_getElem? (i := 1179) (by decide +kernel), List.mem_of_getElem? (i := 1774) (by decide +kernel), List.mem_of_getElem? (i := 1775) (by decide +kernel)⟩
theorem lw_p127 : lw_okq (⟨"BuriedGoodsModel", "isRest", "(IIII)Z"⟩, 52) := ⟨⟨by decide +kernel, by decide +kernel⟩, List.mem_of_getElem? (i := 1179) (by decide +kernel), List.mem_of_getElem? (i := 1782) (by decide +kernel), List.mem_of_getElem? (i := 1783) (by decide +kernel)⟩
def lw_privs_8 : List (MethodName × Nat) := [(⟨"BuriedGoodsModel", "drawMonth", "()V"⟩, 52), (⟨"BuriedGoodsModel", "draw", "(I)I"⟩, 52), (⟨"BuriedGoodsModel", "putAside", "(I)V"⟩, 52), (⟨"BuriedGoodsModel", "takeBack", "(I)V"⟩, 52), (⟨"BuriedGoodsModel", "ripeWithin", "(I)I"⟩, 52), (⟨"BuriedGoodsModel", "layLaid", "(I)V"⟩, 52), (⟨"BuriedGoodsModel", "leaveAlone", "(I)V"⟩, 52), (⟨"BuriedGoodsModel", "tryLaying", "(III)V"⟩, 52), (⟨"BuriedGoodsModel", "isTold", "(I)Z"⟩, 52), (⟨"BuriedGoodsModel", "isDamp", "(II)Z"⟩, 52), (⟨"BuriedGoodsModel", "toldValue", "(IIII)I"⟩, 52), (⟨"BuriedGoodsModel", "mostAlike", "()I"⟩, 52), (⟨"BuriedGoodsModel", "areTwo", "(II)Z"⟩, 52), (⟨"BuriedGoodsModel", "merchantHas", "(IIII)I"⟩, 52), (⟨"BuriedGoodsModel", "thiefHas", "(IIII)I"⟩, 52), (⟨"BuriedGoodsModel", "isRest", "(IIII)Z"⟩, 52)]
theorem lw_r8 : ∀ q ∈ lw_privs_8, lw_okq q := List.forall_mem_cons.mpr ⟨lw_p112, List.forall_mem_cons.mpr ⟨lw_p113, List.forall_mem_cons.mpr ⟨lw_p114, List.forall_mem_cons.mpr ⟨lw_p115, List.forall_mem_cons.mpr ⟨lw_p116, List.forall_mem_cons.mpr ⟨lw_p117, List.forall_mem_cons.mpr ⟨lw_p118, List.forall_mem_cons.mpr ⟨lw_p119, List.forall_mem_cons.mpr ⟨lw_p120, List.forall_mem_cons.mpr ⟨lw_p121, List.forall_mem_cons.mpr ⟨lw_p122, List.forall_mem_cons.mpr ⟨lw_p123, List.forall_mem_cons.mpr ⟨lw_p124, List.forall_mem_cons.mpr ⟨lw_p125, List.forall_mem_cons.mpr ⟨lw_p126, List.forall_mem_cons.mpr ⟨lw_p127, fun _ h => absurd h List.not_mem_nil⟩⟩⟩⟩⟩⟩⟩⟩⟩⟩⟩⟩⟩⟩⟩⟩
theorem lw_p128 : lw_okq (⟨"BuriedGoodsModel", "meanBy", "(IIII)I"⟩, 52) := ⟨⟨by decide +kernel, by decide +kernel⟩, List.mem_of_getElem? (i := 1179) (by decide +kernel), List.mem_of_getElem? (i := 1790) (by decide +kernel), List.mem_of_getElem? (i := 1791) (by decide +kernel)⟩
theorem lw_p129 : lw_okq (⟨"BuriedGoodsModel", "oddsFrom", "(IIIIII)I"⟩, 52) := ⟨⟨by decide +kernel, by decide +kernel⟩, List.mem_of_getElem? (i := 1179) (by decide +kernel), List.mem_of_getElem? (i := 1799) (by decide +kernel), List.mem_of_getElem? (i := 1800) (by decide +kernel)⟩
theorem lw_p130 : lw_okq (⟨"BuriedGoodsModel", "topThing", "(I)I"⟩, 52) := ⟨⟨by decide +kernel, by decide +kernel⟩, List.mem_of_getElem? (i := 1179) (by decide +kernel), List.mem_of_getElem? (i := 1812) (by decide +kernel), List.mem_of_getElem? (i := 1813) (by decide +kernel)⟩
theorem lw_p131 : lw_okq (⟨"BuriedGoodsModel", "topRow", "(Z)I"⟩, 52) := ⟨⟨by decide +kernel, by decide +kernel⟩, List.mem_of_getElem? (i := 1179) (by decide +kernel), List.mem_of_getElem? (i := 1816) (by decide +kernel), List.mem_of_getElem? (i := 1817) (by decide +kernel)⟩
theorem lw_p132 : lw_okq (⟨"BuriedGoodsModel", "rowValue", "(I)I"⟩, 52) := ⟨⟨by decide +kernel, by decide +kernel⟩, List.mem_of_getElem? (i := 1179) (by decide +kernel), List.mem_of_getElem? (i := 1820) (by decide +kernel), List.mem_of_getElem? (i := 1821) (by decide +kernel)⟩
theorem lw_p133 : lw_okq (⟨"BuriedGoodsModel", "besideMany", "()I"⟩, 52) := ⟨⟨by decide +kernel, by decide +kernel⟩, List.mem_of_getElem? (i := 1179) (by decide +kernel), List.mem_of_getElem? (i := 1824) (by decide +kernel), List.mem_of_getElem? (i := 1825) (by decide +kernel)⟩
def lw_privs_9 : List (MethodName × Nat) := [(⟨"BuriedGoodsModel", "meanBy", "(IIII)I"⟩, 52), (⟨"BuriedGoodsModel", "oddsFrom", "(IIIIII)I"⟩, 52), (⟨"BuriedGoodsModel", "topThing", "(I)I"⟩, 52), (⟨"BuriedGoodsModel", "topRow", "(Z)I"⟩, 52), (⟨"BuriedGoodsModel", "rowValue", "(I)I"⟩, 52), (⟨"BuriedGoodsModel", "besideMany", "()I"⟩, 52)]
theorem lw_r9 : ∀ q ∈ lw_privs_9, lw_okq q := List.forall_mem_cons.mpr ⟨lw_p128, List.forall_mem_cons.mpr ⟨lw_p129, List.forall_mem_cons.mpr ⟨lw_p130, List.forall_mem_cons.mpr ⟨lw_p131, List.forall_mem_cons.mpr ⟨lw_p132, List.forall_mem_cons.mpr ⟨lw_p133, fun _ h => absurd h List.not_mem_nil⟩⟩⟩⟩⟩⟩
def lw_privs : List (MethodName × Nat) := lw_privs_1 ++ (lw_privs_2 ++ (lw_privs_3 ++ (lw_privs_4 ++ (lw_privs_5 ++ (lw_privs_6 ++ (lw_privs_7 ++ (lw_privs_8 ++ (lw_privs_9))))))))
def lw_tbl : List Cond := k2_sels lw_privs ++ tables_1
theorem lw_privs_ok : ∀ q ∈ lw_privs, lw_okq q := by
  show ∀ q ∈ lw_privs_1 ++ (lw_privs_2 ++ (lw_privs_3 ++ (lw_privs_4 ++ (lw_privs_5 ++ (lw_privs_6 ++ (lw_privs_7 ++ (lw_privs_8 ++ (lw_privs_9)))))))), lw_okq q
  exact List.forall_mem_append.mpr ⟨lw_r1, List.forall_mem_append.mpr ⟨lw_r2, List.forall_mem_append.mpr ⟨lw_r3, List.forall_mem_append.mpr ⟨lw_r4, List.forall_mem_append.mpr ⟨lw_r5, List.forall_mem_append.mpr ⟨lw_r6, List.forall_mem_append.mpr ⟨lw_r7, List.forall_mem_append.mpr ⟨lw_r8, lw_r9⟩⟩⟩⟩⟩⟩⟩⟩
-- ===== end of PART A; then your names; then what follows =====
/-! ===== BEGIN printed: names, fields, word lists, decode rows ===== -/
def RX0 : String := "BuriedGoods$Growth"
def TX0 : u_T := fun k => match k with
  | 0 => ("BuriedGoods$Growth", "value", "I", false)
  | 1 => ("BuriedGoods$Growth", "stuff", "I", false)
  | 2 => ("BuriedGoods$Growth", "lain", "I", false)
  | 3 => ("BuriedGoods$Growth", "damp", "I", false)
  | 4 => ("BuriedGoods$Growth", "beside", "I", false)
  | _ => ("BuriedGoods$Growth", "month", "I", false)
def tyX0 : Nat → FieldType := fun k => match k with
  | 0 => .int
  | 1 => .int
  | 2 => .int
  | 3 => .int
  | 4 => .int
  | _ => .int
abbrev wsX00 : List Cond := u_ws RX0 TX0 6
theorem nmX0 : ∀ a, a < 6 → ∀ b, b < 6 → a ≠ b → (TX0 a).2.1 ≠ (TX0 b).2.1 := by decide +kernel
theorem tyX0_ok : ∀ k, k < 6 → parseFieldDescriptor (TX0 k).2.2.1 = some (tyX0 k) := by decide +kernel
abbrev cX0_init : ByteArray := prog_2_method_1_code
def yX0_init : MethodName := ⟨RX0, "<init>", "()V"⟩
abbrev cX0_begin : ByteArray := prog_2_method_2_code
def yX0_begin : MethodName := ⟨RX0, "begin", "(LBuriedGoods$Thing;II)V"⟩
def RX1 : String := "BuriedGoods$Land"
def TX1 : u_T := fun k => match k with
  | 0 => ("BuriedGoods$Land", "damps", "[I", true)
  | 1 => ("BuriedGoods$Land", "things", "[LBuriedGoods$Thing;", true)
  | 2 => ("BuriedGoods$Land", "ruled", "Z", false)
  | 3 => ("BuriedGoods$Land", "wide", "I", false)
  | 4 => ("BuriedGoods$Land", "rows", "I", false)
  | 5 => ("BuriedGoods$Land", "year", "I", false)
  | 6 => ("BuriedGoods$Land", "frost", "I", false)
  | 7 => ("BuriedGoods$Land", "coins", "I", false)
  | 8 => ("BuriedGoods$Land", "toldRows", "I", false)
  | _ => ("BuriedGoods$Land", "toldThings", "I", false)
def tyX1 : Nat → FieldType := fun k => match k with
  | 0 => .array .int
  | 1 => .array (.object "BuriedGoods$Thing")
  | 2 => .boolean
  | 3 => .int
  | 4 => .int
  | 5 => .int
  | 6 => .int
  | 7 => .int
  | 8 => .int
  | _ => .int
abbrev wsX10 : List Cond := u_ws RX1 TX1 10
theorem nmX1 : ∀ a, a < 10 → ∀ b, b < 10 → a ≠ b → (TX1 a).2.1 ≠ (TX1 b).2.1 := by decide +kernel
theorem tyX1_ok : ∀ k, k < 10 → parseFieldDescriptor (TX1 k).2.2.1 = some (tyX1 k) := by decide +kernel
abbrev cX1_init : ByteArray := prog_3_method_1_code
def yX1_init : MethodName := ⟨RX1, "<init>", "()V"⟩
abbrev cX1_thingAt : ByteArray := prog_3_method_2_code
def yX1_thingAt : MethodName := ⟨RX1, "thingAt", "(I)LBuriedGoods$Thing;"⟩
abbrev cX1_plots : ByteArray := prog_3_method_3_code
def yX1_plots : MethodName := ⟨RX1, "plots", "()I"⟩
abbrev cX1_rowOf : ByteArray := prog_3_method_4_code
def yX1_rowOf : MethodName := ⟨RX1, "rowOf", "(I)I"⟩
abbrev cX1_steps : ByteArray := prog_3_method_5_code
def yX1_steps : MethodName := ⟨RX1, "steps", "(II)I"⟩
abbrev cX1_copy : ByteArray := prog_3_method_6_code
def yX1_copy : MethodName := ⟨RX1, "copy", "(LBuriedGoods$Land;)V"⟩
abbrev cX1_clear : ByteArray := prog_3_method_7_code
def yX1_clear : MethodName := ⟨RX1, "clear", "()V"⟩
abbrev cX1_read : ByteArray := prog_3_method_8_code
def yX1_read : MethodName := ⟨RX1, "read", "(LBuriedGoods$Tape;)I"⟩
abbrev cX1_opens : ByteArray := prog_3_method_9_code
def yX1_opens : MethodName := ⟨RX1, "opens", "(I)Z"⟩
abbrev cX1_readItems : ByteArray := prog_3_method_10_code
def yX1_readItems : MethodName := ⟨RX1, "readItems", "(LBuriedGoods$Tape;I)I"⟩
abbrev cX1_itemOf : ByteArray := prog_3_method_11_code
def yX1_itemOf : MethodName := ⟨RX1, "itemOf", "(II)I"⟩
abbrev cX1_tell : ByteArray := prog_3_method_12_code
def yX1_tell : MethodName := ⟨RX1, "tell", "(II)V"⟩
abbrev cX1_tellThing : ByteArray := prog_3_method_13_code
def yX1_tellThing : MethodName := ⟨RX1, "tellThing", "(LBuriedGoods$Thing;II)V"⟩
abbrev cX1_isWhole : ByteArray := prog_3_method_14_code
def yX1_isWhole : MethodName := ⟨RX1, "isWhole", "()Z"⟩
def RX2 : String := "BuriedGoods$Law"
def TX2 : u_T := fun k => match k with
  | 0 => ("BuriedGoods$Law", "code", "[I", true)
  | 1 => ("BuriedGoods$Law", "stack", "[I", true)
  | 2 => ("BuriedGoods$Law", "length", "I", false)
  | _ => ("BuriedGoods$Law", "top", "I", false)
def tyX2 : Nat → FieldType := fun k => match k with
  | 0 => .array .int
  | 1 => .array .int
  | 2 => .int
  | _ => .int
abbrev wsX20 : List Cond := u_ws RX2 TX2 4
theorem nmX2 : ∀ a, a < 4 → ∀ b, b < 4 → a ≠ b → (TX2 a).2.1 ≠ (TX2 b).2.1 := by decide +kernel
theorem tyX2_ok : ∀ k, k < 4 → parseFieldDescriptor (TX2 k).2.2.1 = some (tyX2 k) := by decide +kernel
abbrev cX2_init : ByteArray := prog_4_method_1_code
def yX2_init : MethodName := ⟨RX2, "<init>", "()V"⟩
abbrev cX2_copy : ByteArray := prog_4_method_2_code
def yX2_copy : MethodName := ⟨RX2, "copy", "(LBuriedGoods$Law;)V"⟩
abbrev cX2_read : ByteArray := prog_4_method_3_code
def yX2_read : MethodName := ⟨RX2, "read", "(LBuriedGoods$Tape;)I"⟩
abbrev cX2_emit : ByteArray := prog_4_method_4_code
def yX2_emit : MethodName := ⟨RX2, "emit", "(I)V"⟩
abbrev cX2_readClause : ByteArray := prog_4_method_5_code
def yX2_readClause : MethodName := ⟨RX2, "readClause", "(LBuriedGoods$Tape;)Z"⟩
abbrev cX2_readGated : ByteArray := prog_4_method_6_code
def yX2_readGated : MethodName := ⟨RX2, "readGated", "(LBuriedGoods$Tape;)Z"⟩
abbrev cX2_readCondition : ByteArray := prog_4_method_7_code
def yX2_readCondition : MethodName := ⟨RX2, "readCondition", "(LBuriedGoods$Tape;IZ)Z"⟩
abbrev cX2_readTruth : ByteArray := prog_4_method_8_code
def yX2_readTruth : MethodName := ⟨RX2, "readTruth", "(LBuriedGoods$Tape;IZ)Z"⟩
abbrev cX2_readUnit : ByteArray := prog_4_method_9_code
def yX2_readUnit : MethodName := ⟨RX2, "readUnit", "(LBuriedGoods$Tape;I)Z"⟩
abbrev cX2_readComparison : ByteArray := prog_4_method_10_code
def yX2_readComparison : MethodName := ⟨RX2, "readComparison", "(LBuriedGoods$Tape;I)Z"⟩
abbrev cX2_readSum : ByteArray := prog_4_method_11_code
def yX2_readSum : MethodName := ⟨RX2, "readSum", "(LBuriedGoods$Tape;I)Z"⟩
abbrev cX2_readTerm : ByteArray := prog_4_method_12_code
def yX2_readTerm : MethodName := ⟨RX2, "readTerm", "(LBuriedGoods$Tape;I)Z"⟩
abbrev cX2_readAtom : ByteArray := prog_4_method_13_code
def yX2_readAtom : MethodName := ⟨RX2, "readAtom", "(LBuriedGoods$Tape;I)Z"⟩
abbrev cX2_nests : ByteArray := prog_4_method_14_code
def yX2_nests : MethodName := ⟨RX2, "nests", "(I)Z"⟩
abbrev cX2_compares : ByteArray := prog_4_method_15_code
def yX2_compares : MethodName := ⟨RX2, "compares", "(I)Z"⟩
abbrev cX2_isLetter : ByteArray := prog_4_method_16_code
def yX2_isLetter : MethodName := ⟨RX2, "isLetter", "(I)Z"⟩
abbrev cX2_worth : ByteArray := prog_4_method_17_code
def yX2_worth : MethodName := ⟨RX2, "worth", "(LBuriedGoods$Growth;)I"⟩
abbrev cX2_push : ByteArray := prog_4_method_18_code
def yX2_push : MethodName := ⟨RX2, "push", "(I)V"⟩
abbrev cX2_pop : ByteArray := prog_4_method_19_code
def yX2_pop : MethodName := ⟨RX2, "pop", "()I"⟩
abbrev cX2_letter : ByteArray := prog_4_method_20_code
def yX2_letter : MethodName := ⟨RX2, "letter", "(LBuriedGoods$Growth;I)I"⟩
abbrev cX2_joined : ByteArray := prog_4_method_21_code
def yX2_joined : MethodName := ⟨RX2, "joined", "(III)I"⟩
abbrev cX2_held : ByteArray := prog_4_method_22_code
def yX2_held : MethodName := ⟨RX2, "held", "(J)I"⟩
def RX3 : String := "BuriedGoods$Past"
def TX3 : u_T := fun k => match k with
  | 0 => ("BuriedGoods$Past", "stands", "[LBuriedGoods$Stand;", true)
  | 1 => ("BuriedGoods$Past", "first", "I", false)
  | _ => ("BuriedGoods$Past", "length", "I", false)
def tyX3 : Nat → FieldType := fun k => match k with
  | 0 => .array (.object "BuriedGoods$Stand")
  | 1 => .int
  | _ => .int
abbrev wsX30 : List Cond := u_ws RX3 TX3 3
theorem nmX3 : ∀ a, a < 3 → ∀ b, b < 3 → a ≠ b → (TX3 a).2.1 ≠ (TX3 b).2.1 := by decide +kernel
theorem tyX3_ok : ∀ k, k < 3 → parseFieldDescriptor (TX3 k).2.2.1 = some (tyX3 k) := by decide +kernel
abbrev cX3_init : ByteArray := prog_5_method_1_code
def yX3_init : MethodName := ⟨RX3, "<init>", "()V"⟩
abbrev cX3_size : ByteArray := prog_5_method_2_code
def yX3_size : MethodName := ⟨RX3, "size", "()I"⟩
abbrev cX3_forget : ByteArray := prog_5_method_3_code
def yX3_forget : MethodName := ⟨RX3, "forget", "()V"⟩
abbrev cX3_keep : ByteArray := prog_5_method_4_code
def yX3_keep : MethodName := ⟨RX3, "keep", "(LBuriedGoods$Stand;)V"⟩
abbrev cX3_restore : ByteArray := prog_5_method_5_code
def yX3_restore : MethodName := ⟨RX3, "restore", "(LBuriedGoods$Stand;)Z"⟩
abbrev cX3_at : ByteArray := prog_5_method_6_code
def yX3_at : MethodName := ⟨RX3, "at", "(I)LBuriedGoods$Stand;"⟩
def RX4 : String := "BuriedGoods$Plan"
def TX4 : u_T := fun k => match k with
  | 0 => ("BuriedGoods$Plan", "marks", "[J", true)
  | 1 => ("BuriedGoods$Plan", "room", "[I", true)
  | 2 => ("BuriedGoods$Plan", "unit", "[I", true)
  | 3 => ("BuriedGoods$Plan", "gain", "[I", true)
  | _ => ("BuriedGoods$Plan", "loads", "I", false)
def tyX4 : Nat → FieldType := fun k => match k with
  | 0 => .array .long
  | 1 => .array .int
  | 2 => .array .int
  | 3 => .array .int
  | _ => .int
abbrev wsX40 : List Cond := u_ws RX4 TX4 5
theorem nmX4 : ∀ a, a < 5 → ∀ b, b < 5 → a ≠ b → (TX4 a).2.1 ≠ (TX4 b).2.1 := by decide +kernel
theorem tyX4_ok : ∀ k, k < 5 → parseFieldDescriptor (TX4 k).2.2.1 = some (tyX4 k) := by decide +kernel
abbrev cX4_init : ByteArray := prog_6_method_1_code
def yX4_init : MethodName := ⟨RX4, "<init>", "()V"⟩
abbrev cX4_begin : ByteArray := prog_6_method_2_code
def yX4_begin : MethodName := ⟨RX4, "begin", "()V"⟩
abbrev cX4_setRoom : ByteArray := prog_6_method_3_code
def yX4_setRoom : MethodName := ⟨RX4, "setRoom", "(II)V"⟩
abbrev cX4_setGain : ByteArray := prog_6_method_4_code
def yX4_setGain : MethodName := ⟨RX4, "setGain", "(II)V"⟩
abbrev cX4_open : ByteArray := prog_6_method_5_code
def yX4_open : MethodName := ⟨RX4, "open", "()V"⟩
abbrev cX4_pass : ByteArray := prog_6_method_6_code
def yX4_pass : MethodName := ⟨RX4, "pass", "(I)V"⟩
abbrev cX4_choose : ByteArray := prog_6_method_7_code
def yX4_choose : MethodName := ⟨RX4, "choose", "(II)V"⟩
abbrev cX4_bestValue : ByteArray := prog_6_method_8_code
def yX4_bestValue : MethodName := ⟨RX4, "bestValue", "()I"⟩
abbrev cX4_bestDigits : ByteArray := prog_6_method_9_code
def yX4_bestDigits : MethodName := ⟨RX4, "bestDigits", "()I"⟩
abbrev cX4_bestMark : ByteArray := prog_6_method_10_code
def yX4_bestMark : MethodName := ⟨RX4, "bestMark", "()J"⟩
abbrev cX4_laidIn : ByteArray := prog_6_method_11_code
def yX4_laidIn : MethodName := ⟨RX4, "laidIn", "(II)I"⟩
abbrev cX4_digitOf : ByteArray := prog_6_method_12_code
def yX4_digitOf : MethodName := ⟨RX4, "digitOf", "(I)J"⟩
abbrev cX4_mark : ByteArray := prog_6_method_13_code
def yX4_mark : MethodName := ⟨RX4, "mark", "(I)J"⟩
abbrev cX4_setMark : ByteArray := prog_6_method_14_code
def yX4_setMark : MethodName := ⟨RX4, "setMark", "(IJ)V"⟩
def RX5 : String := "BuriedGoods$Sights"
def TX5 : u_T := fun k => match k with
  | 0 => ("BuriedGoods$Sights", "thing", "[I", true)
  | 1 => ("BuriedGoods$Sights", "row", "[I", true)
  | 2 => ("BuriedGoods$Sights", "behind", "[I", true)
  | 3 => ("BuriedGoods$Sights", "value", "[I", true)
  | 4 => ("BuriedGoods$Sights", "more", "[I", true)
  | _ => ("BuriedGoods$Sights", "length", "I", false)
def tyX5 : Nat → FieldType := fun k => match k with
  | 0 => .array .int
  | 1 => .array .int
  | 2 => .array .int
  | 3 => .array .int
  | 4 => .array .int
  | _ => .int
abbrev wsX50 : List Cond := u_ws RX5 TX5 6
theorem nmX5 : ∀ a, a < 6 → ∀ b, b < 6 → a ≠ b → (TX5 a).2.1 ≠ (TX5 b).2.1 := by decide +kernel
theorem tyX5_ok : ∀ k, k < 6 → parseFieldDescriptor (TX5 k).2.2.1 = some (tyX5 k) := by decide +kernel
abbrev cX5_init : ByteArray := prog_7_method_1_code
def yX5_init : MethodName := ⟨RX5, "<init>", "()V"⟩
abbrev cX5_size : ByteArray := prog_7_method_2_code
def yX5_size : MethodName := ⟨RX5, "size", "()I"⟩
abbrev cX5_forget : ByteArray := prog_7_method_3_code
def yX5_forget : MethodName := ⟨RX5, "forget", "()V"⟩
abbrev cX5_add : ByteArray := prog_7_method_4_code
def yX5_add : MethodName := ⟨RX5, "add", "(IIIIZ)V"⟩
def RX6 : String := "BuriedGoods$Spade"
def TX6 : u_T := fun k => match k with
  | 0 => ("BuriedGoods$Spade", "stops", "[I", true)
  | 1 => ("BuriedGoods$Spade", "fewest", "[I", true)
  | _ => ("BuriedGoods$Spade", "length", "I", false)
def tyX6 : Nat → FieldType := fun k => match k with
  | 0 => .array .int
  | 1 => .array .int
  | _ => .int
abbrev wsX60 : List Cond := u_ws RX6 TX6 3
theorem nmX6 : ∀ a, a < 3 → ∀ b, b < 3 → a ≠ b → (TX6 a).2.1 ≠ (TX6 b).2.1 := by decide +kernel
theorem tyX6_ok : ∀ k, k < 3 → parseFieldDescriptor (TX6 k).2.2.1 = some (tyX6 k) := by decide +kernel
abbrev cX6_init : ByteArray := prog_8_method_1_code
def yX6_init : MethodName := ⟨RX6, "<init>", "()V"⟩
abbrev cX6_begin : ByteArray := prog_8_method_2_code
def yX6_begin : MethodName := ⟨RX6, "begin", "()V"⟩
abbrev cX6_addStop : ByteArray := prog_8_method_3_code
def yX6_addStop : MethodName := ⟨RX6, "addStop", "(I)V"⟩
abbrev cX6_fewestSteps : ByteArray := prog_8_method_4_code
def yX6_fewestSteps : MethodName := ⟨RX6, "fewestSteps", "(LBuriedGoods$Land;)I"⟩
abbrev cX6_stepsTo : ByteArray := prog_8_method_5_code
def yX6_stepsTo : MethodName := ⟨RX6, "stepsTo", "(LBuriedGoods$Land;II)I"⟩
def RX7 : String := "BuriedGoods$Stand"
def TX7 : u_T := fun k => match k with
  | 0 => ("BuriedGoods$Stand", "places", "[LBuriedGoods$Thing;", true)
  | 1 => ("BuriedGoods$Stand", "logValue", "[I", true)
  | 2 => ("BuriedGoods$Stand", "logLying", "[I", true)
  | 3 => ("BuriedGoods$Stand", "logRipened", "[I", true)
  | 4 => ("BuriedGoods$Stand", "logLength", "I", false)
  | 5 => ("BuriedGoods$Stand", "logNext", "I", false)
  | 6 => ("BuriedGoods$Stand", "coins", "I", false)
  | _ => ("BuriedGoods$Stand", "month", "I", false)
def tyX7 : Nat → FieldType := fun k => match k with
  | 0 => .array (.object "BuriedGoods$Thing")
  | 1 => .array .int
  | 2 => .array .int
  | 3 => .array .int
  | 4 => .int
  | 5 => .int
  | 6 => .int
  | _ => .int
abbrev wsX70 : List Cond := u_ws RX7 TX7 8
theorem nmX7 : ∀ a, a < 8 → ∀ b, b < 8 → a ≠ b → (TX7 a).2.1 ≠ (TX7 b).2.1 := by decide +kernel
theorem tyX7_ok : ∀ k, k < 8 → parseFieldDescriptor (TX7 k).2.2.1 = some (tyX7 k) := by decide +kernel
abbrev cX7_init : ByteArray := prog_9_method_1_code
def yX7_init : MethodName := ⟨RX7, "<init>", "()V"⟩
abbrev cX7_slot : ByteArray := prog_9_method_2_code
def yX7_slot : MethodName := ⟨RX7, "slot", "(I)LBuriedGoods$Thing;"⟩
abbrev cX7_find : ByteArray := prog_9_method_3_code
def yX7_find : MethodName := ⟨RX7, "find", "(I)LBuriedGoods$Thing;"⟩
abbrev cX7_findLying : ByteArray := prog_9_method_4_code
def yX7_findLying : MethodName := ⟨RX7, "findLying", "(I)LBuriedGoods$Thing;"⟩
abbrev cX7_placeOfPlot : ByteArray := prog_9_method_5_code
def yX7_placeOfPlot : MethodName := ⟨RX7, "placeOfPlot", "(I)I"⟩
abbrev cX7_freePlace : ByteArray := prog_9_method_6_code
def yX7_freePlace : MethodName := ⟨RX7, "freePlace", "()I"⟩
abbrev cX7_begin : ByteArray := prog_9_method_7_code
def yX7_begin : MethodName := ⟨RX7, "begin", "(LBuriedGoods$Land;)V"⟩
abbrev cX7_copy : ByteArray := prog_9_method_8_code
def yX7_copy : MethodName := ⟨RX7, "copy", "(LBuriedGoods$Stand;)V"⟩
abbrev cX7_write : ByteArray := prog_9_method_9_code
def yX7_write : MethodName := ⟨RX7, "write", "(III)V"⟩
def RX8 : String := "BuriedGoods$Tape"
def TX8 : u_T := fun k => match k with
  | 0 => ("BuriedGoods$Tape", "bytes", "[I", true)
  | 1 => ("BuriedGoods$Tape", "length", "I", false)
  | _ => ("BuriedGoods$Tape", "head", "I", false)
def tyX8 : Nat → FieldType := fun k => match k with
  | 0 => .array .int
  | 1 => .int
  | _ => .int
abbrev wsX80 : List Cond := u_ws RX8 TX8 3
theorem nmX8 : ∀ a, a < 3 → ∀ b, b < 3 → a ≠ b → (TX8 a).2.1 ≠ (TX8 b).2.1 := by decide +kernel
theorem tyX8_ok : ∀ k, k < 3 → parseFieldDescriptor (TX8 k).2.2.1 = some (tyX8 k) := by decide +kernel
abbrev cX8_init : ByteArray := prog_10_method_1_code
def yX8_init : MethodName := ⟨RX8, "<init>", "()V"⟩
abbrev cX8_bytesIn : ByteArray := prog_10_method_2_code
def yX8_bytesIn : MethodName := ⟨RX8, "bytesIn", "(I)I"⟩
abbrev cX8_append : ByteArray := prog_10_method_3_code
def yX8_append : MethodName := ⟨RX8, "append", "(I)V"⟩
abbrev cX8_size : ByteArray := prog_10_method_4_code
def yX8_size : MethodName := ⟨RX8, "size", "()I"⟩
abbrev cX8_cut : ByteArray := prog_10_method_5_code
def yX8_cut : MethodName := ⟨RX8, "cut", "(I)V"⟩
abbrev cX8_rewind : ByteArray := prog_10_method_6_code
def yX8_rewind : MethodName := ⟨RX8, "rewind", "()V"⟩
abbrev cX8_head : ByteArray := prog_10_method_7_code
def yX8_head : MethodName := ⟨RX8, "head", "()I"⟩
abbrev cX8_sign : ByteArray := prog_10_method_8_code
def yX8_sign : MethodName := ⟨RX8, "sign", "()I"⟩
abbrev cX8_raw : ByteArray := prog_10_method_9_code
def yX8_raw : MethodName := ⟨RX8, "raw", "()I"⟩
abbrev cX8_skip : ByteArray := prog_10_method_10_code
def yX8_skip : MethodName := ⟨RX8, "skip", "()V"⟩
abbrev cX8_took : ByteArray := prog_10_method_11_code
def yX8_took : MethodName := ⟨RX8, "took", "(I)Z"⟩
abbrev cX8_number : ByteArray := prog_10_method_12_code
def yX8_number : MethodName := ⟨RX8, "number", "(I)I"⟩
abbrev cX8_isDigit : ByteArray := prog_10_method_13_code
def yX8_isDigit : MethodName := ⟨RX8, "isDigit", "(I)Z"⟩
def RX9 : String := "BuriedGoods$Thing"
def TX9 : u_T := fun k => match k with
  | 0 => ("BuriedGoods$Thing", "there", "Z", false)
  | 1 => ("BuriedGoods$Thing", "value", "I", false)
  | 2 => ("BuriedGoods$Thing", "stuff", "I", false)
  | 3 => ("BuriedGoods$Thing", "plot", "I", false)
  | 4 => ("BuriedGoods$Thing", "lain", "I", false)
  | _ => ("BuriedGoods$Thing", "staked", "Z", false)
def tyX9 : Nat → FieldType := fun k => match k with
  | 0 => .boolean
  | 1 => .int
  | 2 => .int
  | 3 => .int
  | 4 => .int
  | _ => .boolean
abbrev wsX90 : List Cond := u_ws RX9 TX9 6
theorem nmX9 : ∀ a, a < 6 → ∀ b, b < 6 → a ≠ b → (TX9 a).2.1 ≠ (TX9 b).2.1 := by decide +kernel
theorem tyX9_ok : ∀ k, k < 6 → parseFieldDescriptor (TX9 k).2.2.1 = some (tyX9 k) := by decide +kernel
abbrev cX9_init : ByteArray := prog_11_method_1_code
def yX9_init : MethodName := ⟨RX9, "<init>", "()V"⟩
abbrev cX9_clear : ByteArray := prog_11_method_2_code
def yX9_clear : MethodName := ⟨RX9, "clear", "()V"⟩
abbrev cX9_copy : ByteArray := prog_11_method_3_code
def yX9_copy : MethodName := ⟨RX9, "copy", "(LBuriedGoods$Thing;)V"⟩
def RX10 : String := "BuriedGoods"
def TX10 : u_T := fun k => match k with
  | 0 => ("BuriedGoods", "tape", "LBuriedGoods$Tape;", true)
  | 1 => ("BuriedGoods", "draftLand", "LBuriedGoods$Land;", true)
  | 2 => ("BuriedGoods", "land", "LBuriedGoods$Land;", true)
  | 3 => ("BuriedGoods", "draftLaw", "LBuriedGoods$Law;", true)
  | 4 => ("BuriedGoods", "laws", "[LBuriedGoods$Law;", true)
  | 5 => ("BuriedGoods", "now", "LBuriedGoods$Stand;", true)
  | 6 => ("BuriedGoods", "kept", "LBuriedGoods$Stand;", true)
  | 7 => ("BuriedGoods", "past", "LBuriedGoods$Past;", true)
  | 8 => ("BuriedGoods", "sights", "LBuriedGoods$Sights;", true)
  | 9 => ("BuriedGoods", "growth", "LBuriedGoods$Growth;", true)
  | 10 => ("BuriedGoods", "plan", "LBuriedGoods$Plan;", true)
  | 11 => ("BuriedGoods", "spade", "LBuriedGoods$Spade;", true)
  | 12 => ("BuriedGoods", "refused", "[I", true)
  | 13 => ("BuriedGoods", "sprouts", "[I", true)
  | 14 => ("BuriedGoods", "known", "Z", false)
  | 15 => ("BuriedGoods", "imaged", "Z", false)
  | 16 => ("BuriedGoods", "lawCount", "I", false)
  | 17 => ("BuriedGoods", "holding", "I", false)
  | 18 => ("BuriedGoods", "moleCount", "I", false)
  | _ => ("BuriedGoods", "drawn", "J", false)
def tyX10 : Nat → FieldType := fun k => match k with
  | 0 => .object "BuriedGoods$Tape"
  | 1 => .object "BuriedGoods$Land"
  | 2 => .object "BuriedGoods$Land"
  | 3 => .object "BuriedGoods$Law"
  | 4 => .array (.object "BuriedGoods$Law")
  | 5 => .object "BuriedGoods$Stand"
  | 6 => .object "BuriedGoods$Stand"
  | 7 => .object "BuriedGoods$Past"
  | 8 => .object "BuriedGoods$Sights"
  | 9 => .object "BuriedGoods$Growth"
  | 10 => .object "BuriedGoods$Plan"
  | 11 => .object "BuriedGoods$Spade"
  | 12 => .array .int
  | 13 => .array .int
  | 14 => .boolean
  | 15 => .boolean
  | 16 => .int
  | 17 => .int
  | 18 => .int
  | _ => .long
abbrev wsX100 : List Cond := u_ws RX10 TX10 20
theorem nmX10 : ∀ a, a < 20 → ∀ b, b < 20 → a ≠ b → (TX10 a).2.1 ≠ (TX10 b).2.1 := by decide +kernel
theorem tyX10_ok : ∀ k, k < 20 → parseFieldDescriptor (TX10 k).2.2.1 = some (tyX10 k) := by decide +kernel
abbrev cX10_init : ByteArray := prog_1_method_1_code
def yX10_init : MethodName := ⟨RX10, "<init>", "()V"⟩
abbrev cX10_feed : ByteArray := prog_1_method_2_code
def yX10_feed : MethodName := ⟨RX10, "feed", "(IIIII)I"⟩
abbrev cX10_end : ByteArray := prog_1_method_3_code
def yX10_end : MethodName := ⟨RX10, "end", "(I)Z"⟩
abbrev cX10_fault : ByteArray := prog_1_method_4_code
def yX10_fault : MethodName := ⟨RX10, "fault", "(I)I"⟩
abbrev cX10_text : ByteArray := prog_1_method_5_code
def yX10_text : MethodName := ⟨RX10, "text", "(I)I"⟩
abbrev cX10_beginField : ByteArray := prog_1_method_6_code
def yX10_beginField : MethodName := ⟨RX10, "beginField", "()V"⟩
abbrev cX10_keepLaw : ByteArray := prog_1_method_7_code
def yX10_keepLaw : MethodName := ⟨RX10, "keepLaw", "()I"⟩
abbrev cX10_lawAt : ByteArray := prog_1_method_8_code
def yX10_lawAt : MethodName := ⟨RX10, "lawAt", "(I)LBuriedGoods$Law;"⟩
abbrev cX10_rule : ByteArray := prog_1_method_9_code
def yX10_rule : MethodName := ⟨RX10, "rule", "(I)I"⟩
abbrev cX10_damp : ByteArray := prog_1_method_10_code
def yX10_damp : MethodName := ⟨RX10, "damp", "(I)I"⟩
abbrev cX10_thing : ByteArray := prog_1_method_11_code
def yX10_thing : MethodName := ⟨RX10, "thing", "(II)I"⟩
abbrev cX10_lies : ByteArray := prog_1_method_12_code
def yX10_lies : MethodName := ⟨RX10, "lies", "(I)I"⟩
abbrev cX10_isRow : ByteArray := prog_1_method_13_code
def yX10_isRow : MethodName := ⟨RX10, "isRow", "(I)Z"⟩
abbrev cX10_isPlot : ByteArray := prog_1_method_14_code
def yX10_isPlot : MethodName := ⟨RX10, "isPlot", "(I)Z"⟩
abbrev cX10_isRipe : ByteArray := prog_1_method_15_code
def yX10_isRipe : MethodName := ⟨RX10, "isRipe", "(LBuriedGoods$Thing;)Z"⟩
abbrev cX10_law : ByteArray := prog_1_method_16_code
def yX10_law : MethodName := ⟨RX10, "law", "(I)Z"⟩
abbrev cX10_moles : ByteArray := prog_1_method_17_code
def yX10_moles : MethodName := ⟨RX10, "moles", "(I)Z"⟩
abbrev cX10_months : ByteArray := prog_1_method_18_code
def yX10_months : MethodName := ⟨RX10, "months", "(I)I"⟩
abbrev cX10_lay : ByteArray := prog_1_method_19_code
def yX10_lay : MethodName := ⟨RX10, "lay", "(II)I"⟩
abbrev cX10_takes : ByteArray := prog_1_method_20_code
def yX10_takes : MethodName := ⟨RX10, "takes", "(I)I"⟩
abbrev cX10_sell : ByteArray := prog_1_method_21_code
def yX10_sell : MethodName := ⟨RX10, "sell", "(I)I"⟩
abbrev cX10_buy : ByteArray := prog_1_method_22_code
def yX10_buy : MethodName := ⟨RX10, "buy", "(II)I"⟩
abbrev cX10_lose : ByteArray := prog_1_method_23_code
def yX10_lose : MethodName := ⟨RX10, "lose", "(I)I"⟩
abbrev cX10_search : ByteArray := prog_1_method_24_code
def yX10_search : MethodName := ⟨RX10, "search", "(I)I"⟩
abbrev cX10_give : ByteArray := prog_1_method_25_code
def yX10_give : MethodName := ⟨RX10, "give", "(I)I"⟩
abbrev cX10_refuse : ByteArray := prog_1_method_26_code
def yX10_refuse : MethodName := ⟨RX10, "refuse", "(I)I"⟩
abbrev cX10_whyNotAtStake : ByteArray := prog_1_method_27_code
def yX10_whyNotAtStake : MethodName := ⟨RX10, "whyNotAtStake", "(LBuriedGoods$Thing;)I"⟩
abbrev cX10_passMonth : ByteArray := prog_1_method_28_code
def yX10_passMonth : MethodName := ⟨RX10, "passMonth", "()V"⟩
abbrev cX10_startFrom : ByteArray := prog_1_method_29_code
def yX10_startFrom : MethodName := ⟨RX10, "startFrom", "(LBuriedGoods$Thing;)V"⟩
abbrev cX10_grow : ByteArray := prog_1_method_30_code
def yX10_grow : MethodName := ⟨RX10, "grow", "(I)V"⟩
abbrev cX10_gainOfGrowth : ByteArray := prog_1_method_31_code
def yX10_gainOfGrowth : MethodName := ⟨RX10, "gainOfGrowth", "()I"⟩
abbrev cX10_gainWithoutLaw : ByteArray := prog_1_method_32_code
def yX10_gainWithoutLaw : MethodName := ⟨RX10, "gainWithoutLaw", "()I"⟩
abbrev cX10_lainAfter : ByteArray := prog_1_method_33_code
def yX10_lainAfter : MethodName := ⟨RX10, "lainAfter", "(II)I"⟩
abbrev cX10_valueAlone : ByteArray := prog_1_method_34_code
def yX10_valueAlone : MethodName := ⟨RX10, "valueAlone", "(LBuriedGoods$Thing;III)I"⟩
abbrev cX10_countBeside : ByteArray := prog_1_method_35_code
def yX10_countBeside : MethodName := ⟨RX10, "countBeside", "(I)I"⟩
abbrev cX10_years : ByteArray := prog_1_method_36_code
def yX10_years : MethodName := ⟨RX10, "years", "(IJ)I"⟩
abbrev cX10_sendMole : ByteArray := prog_1_method_37_code
def yX10_sendMole : MethodName := ⟨RX10, "sendMole", "()V"⟩
abbrev cX10_sendThief : ByteArray := prog_1_method_38_code
def yX10_sendThief : MethodName := ⟨RX10, "sendThief", "()V"⟩
abbrev cX10_draw : ByteArray := prog_1_method_39_code
def yX10_draw : MethodName := ⟨RX10, "draw", "(I)I"⟩
abbrev cX10_status : ByteArray := prog_1_method_40_code
def yX10_status : MethodName := ⟨RX10, "status", "(I)I"⟩
abbrev cX10_undo : ByteArray := prog_1_method_41_code
def yX10_undo : MethodName := ⟨RX10, "undo", "()I"⟩
abbrev cX10_log : ByteArray := prog_1_method_42_code
def yX10_log : MethodName := ⟨RX10, "log", "(II)I"⟩
abbrev cX10_grown : ByteArray := prog_1_method_43_code
def yX10_grown : MethodName := ⟨RX10, "grown", "(II)I"⟩
abbrev cX10_ripeIn : ByteArray := prog_1_method_44_code
def yX10_ripeIn : MethodName := ⟨RX10, "ripeIn", "(I)I"⟩
abbrev cX10_monthsToRipe : ByteArray := prog_1_method_45_code
def yX10_monthsToRipe : MethodName := ⟨RX10, "monthsToRipe", "(LBuriedGoods$Thing;)I"⟩
abbrev cX10_best : ByteArray := prog_1_method_46_code
def yX10_best : MethodName := ⟨RX10, "best", "(II)I"⟩
abbrev cX10_laying : ByteArray := prog_1_method_47_code
def yX10_laying : MethodName := ⟨RX10, "laying", "(II)I"⟩
abbrev cX10_countLyingIn : ByteArray := prog_1_method_48_code
def yX10_countLyingIn : MethodName := ⟨RX10, "countLyingIn", "(I)I"⟩
abbrev cX10_way : ByteArray := prog_1_method_49_code
def yX10_way : MethodName := ⟨RX10, "way", "()I"⟩
abbrev cX10_full : ByteArray := prog_1_method_50_code
def yX10_full : MethodName := ⟨RX10, "full", "()I"⟩
abbrev cX10_seen : ByteArray := prog_1_method_51_code
def yX10_seen : MethodName := ⟨RX10, "seen", "(IIIIZ)I"⟩
abbrev cX10_damps : ByteArray := prog_1_method_52_code
def yX10_damps : MethodName := ⟨RX10, "damps", "(II)I"⟩
abbrev cX10_ask : ByteArray := prog_1_method_53_code
def yX10_ask : MethodName := ⟨RX10, "ask", "(II)I"⟩
abbrev cX10_askWhen : ByteArray := prog_1_method_54_code
def yX10_askWhen : MethodName := ⟨RX10, "askWhen", "(LBuriedGoods$Thing;I)I"⟩
abbrev cX10_mostAlike : ByteArray := prog_1_method_55_code
def yX10_mostAlike : MethodName := ⟨RX10, "mostAlike", "(I)I"⟩
abbrev cX10_mayBeSoDamp : ByteArray := prog_1_method_56_code
def yX10_mayBeSoDamp : MethodName := ⟨RX10, "mayBeSoDamp", "(II)Z"⟩
abbrev cX10_toldThing : ByteArray := prog_1_method_57_code
def yX10_toldThing : MethodName := ⟨RX10, "toldThing", "(I)LBuriedGoods$Thing;"⟩
abbrev cX10_game : ByteArray := prog_1_method_58_code
def yX10_game : MethodName := ⟨RX10, "game", "(IIIII)I"⟩
abbrev cX10_rests : ByteArray := prog_1_method_59_code
def yX10_rests : MethodName := ⟨RX10, "rests", "(III)I"⟩
abbrev cX10_safe : ByteArray := prog_1_method_60_code
def yX10_safe : MethodName := ⟨RX10, "safe", "(III)I"⟩
abbrev cX10_thiefMean : ByteArray := prog_1_method_61_code
def yX10_thiefMean : MethodName := ⟨RX10, "thiefMean", "(IIII)I"⟩
abbrev cX10_isRest : ByteArray := prog_1_method_62_code
def yX10_isRest : MethodName := ⟨RX10, "isRest", "(IIII)Z"⟩
abbrev cX10_mayPlay : ByteArray := prog_1_method_63_code
def yX10_mayPlay : MethodName := ⟨RX10, "mayPlay", "(II)Z"⟩
abbrev cX10_merchantHas : ByteArray := prog_1_method_64_code
def yX10_merchantHas : MethodName := ⟨RX10, "merchantHas", "(IIII)I"⟩
abbrev cX10_thiefHas : ByteArray := prog_1_method_65_code
def yX10_thiefHas : MethodName := ⟨RX10, "thiefHas", "(IIII)I"⟩
abbrev cX10_valueAt : ByteArray := prog_1_method_66_code
def yX10_valueAt : MethodName := ⟨RX10, "valueAt", "(I)I"⟩
abbrev cX10_isBit : ByteArray := prog_1_method_67_code
def yX10_isBit : MethodName := ⟨RX10, "isBit", "(I)Z"⟩
abbrev cX10_odds : ByteArray := prog_1_method_68_code
def yX10_odds : MethodName := ⟨RX10, "odds", "(IIII)I"⟩
abbrev cX10_partsOf : ByteArray := prog_1_method_69_code
def yX10_partsOf : MethodName := ⟨RX10, "partsOf", "(III)J"⟩
abbrev cX10_valueByMoles : ByteArray := prog_1_method_70_code
def yX10_valueByMoles : MethodName := ⟨RX10, "valueByMoles", "(LBuriedGoods$Thing;II)I"⟩
abbrev cX10_shares : ByteArray := prog_1_method_71_code
def yX10_shares : MethodName := ⟨RX10, "shares", "(II)I"⟩
abbrev cX10_valueOfAll : ByteArray := prog_1_method_72_code
def yX10_valueOfAll : MethodName := ⟨RX10, "valueOfAll", "()I"⟩
abbrev cX10_most : ByteArray := prog_1_method_73_code
def yX10_most : MethodName := ⟨RX10, "most", "(I)I"⟩
abbrev cX10_placeWithMost : ByteArray := prog_1_method_74_code
def yX10_placeWithMost : MethodName := ⟨RX10, "placeWithMost", "(Z)I"⟩
abbrev cX10_richestRow : ByteArray := prog_1_method_75_code
def yX10_richestRow : MethodName := ⟨RX10, "richestRow", "()I"⟩
abbrev cX10_dampestRow : ByteArray := prog_1_method_76_code
def yX10_dampestRow : MethodName := ⟨RX10, "dampestRow", "()I"⟩
abbrev cX10_placesThatAre : ByteArray := prog_1_method_77_code
def yX10_placesThatAre : MethodName := ⟨RX10, "placesThatAre", "(I)I"⟩
abbrev cX10_isSo : ByteArray := prog_1_method_78_code
def yX10_isSo : MethodName := ⟨RX10, "isSo", "(LBuriedGoods$Thing;I)Z"⟩
abbrev cX10_lawfulCoins : ByteArray := prog_1_method_79_code
def yX10_lawfulCoins : MethodName := ⟨RX10, "lawfulCoins", "()I"⟩
abbrev cX10_pairsBeside : ByteArray := prog_1_method_80_code
def yX10_pairsBeside : MethodName := ⟨RX10, "pairsBeside", "()I"⟩
abbrev cX10_image : ByteArray := prog_1_method_81_code
def yX10_image : MethodName := ⟨RX10, "image", "()I"⟩
abbrev cX10_back : ByteArray := prog_1_method_82_code
def yX10_back : MethodName := ⟨RX10, "back", "()I"⟩
abbrev cX10_count : ByteArray := prog_1_method_83_code
def yX10_count : MethodName := ⟨RX10, "count", "(I)I"⟩
abbrev cX10_pick : ByteArray := prog_1_method_84_code
def yX10_pick : MethodName := ⟨RX10, "pick", "([II)I"⟩
abbrev cX10_place : ByteArray := prog_1_method_85_code
def yX10_place : MethodName := ⟨RX10, "place", "([III)V"⟩
abbrev cX10_copyRow : ByteArray := prog_1_method_86_code
def yX10_copyRow : MethodName := ⟨RX10, "copyRow", "([I[I)V"⟩
def RX11 : String := "BuriedGoodsModel"
def TX11 : u_T := fun k => match k with
  | 0 => ("BuriedGoodsModel", "thrown", "I", false)
  | 1 => ("BuriedGoodsModel", "tape", "[I", true)
  | 2 => ("BuriedGoodsModel", "size", "I", false)
  | 3 => ("BuriedGoodsModel", "at", "I", false)
  | 4 => ("BuriedGoodsModel", "wrong", "I", false)
  | 5 => ("BuriedGoodsModel", "deep", "I", false)
  | 6 => ("BuriedGoodsModel", "code", "[I", true)
  | 7 => ("BuriedGoodsModel", "value", "[I", true)
  | 8 => ("BuriedGoodsModel", "codes", "[I", true)
  | 9 => ("BuriedGoodsModel", "clauses", "[I", true)
  | 10 => ("BuriedGoodsModel", "testFrom", "[I", true)
  | 11 => ("BuriedGoodsModel", "sumFrom", "[I", true)
  | 12 => ("BuriedGoodsModel", "sumTo", "[I", true)
  | 13 => ("BuriedGoodsModel", "laws", "I", false)
  | 14 => ("BuriedGoodsModel", "text", "I", false)
  | 15 => ("BuriedGoodsModel", "letters", "[I", true)
  | 16 => ("BuriedGoodsModel", "stack", "[I", true)
  | 17 => ("BuriedGoodsModel", "readRule", "[I", true)
  | 18 => ("BuriedGoodsModel", "readDamp", "[I", true)
  | 19 => ("BuriedGoodsModel", "readThing", "[I", true)
  | 20 => ("BuriedGoodsModel", "readRows", "I", false)
  | 21 => ("BuriedGoodsModel", "readThings", "I", false)
  | 22 => ("BuriedGoodsModel", "rule", "[I", true)
  | 23 => ("BuriedGoodsModel", "damp", "[I", true)
  | 24 => ("BuriedGoodsModel", "thing", "[I", true)
  | 25 => ("BuriedGoodsModel", "toldMany", "I", false)
  | 26 => ("BuriedGoodsModel", "isField", "Z", false)
  | 27 => ("BuriedGoodsModel", "now", "[I", true)
  | 28 => ("BuriedGoodsModel", "refused", "[I", true)
  | 29 => ("BuriedGoodsModel", "holding", "I", false)
  | 30 => ("BuriedGoodsModel", "moling", "I", false)
  | 31 => ("BuriedGoodsModel", "grows", "[I", true)
  | 32 => ("BuriedGoodsModel", "ripened", "I", false)
  | 33 => ("BuriedGoodsModel", "kept", "[I", true)
  | 34 => ("BuriedGoodsModel", "acts", "I", false)
  | 35 => ("BuriedGoodsModel", "draws", "J", false)
  | 36 => ("BuriedGoodsModel", "aside", "[I", true)
  | 37 => ("BuriedGoodsModel", "laid", "[I", true)
  | 38 => ("BuriedGoodsModel", "room", "[I", true)
  | 39 => ("BuriedGoodsModel", "bestSum", "I", false)
  | 40 => ("BuriedGoodsModel", "bestRow", "I", false)
  | 41 => ("BuriedGoodsModel", "ways", "[I", true)
  | 42 => ("BuriedGoodsModel", "noteThing", "[I", true)
  | 43 => ("BuriedGoodsModel", "noteRow", "[I", true)
  | 44 => ("BuriedGoodsModel", "noteMonths", "[I", true)
  | 45 => ("BuriedGoodsModel", "noteValue", "[I", true)
  | 46 => ("BuriedGoodsModel", "noteMore", "[Z", true)
  | 47 => ("BuriedGoodsModel", "noted", "I", false)
  | 48 => ("BuriedGoodsModel", "values", "[I", true)
  | 49 => ("BuriedGoodsModel", "fitting", "[Z", true)
  | 50 => ("BuriedGoodsModel", "image", "[I", true)
  | _ => ("BuriedGoodsModel", "hasImage", "Z", false)
def tyX11 : Nat → FieldType := fun k => match k with
  | 0 => .int
  | 1 => .array .int
  | 2 => .int
  | 3 => .int
  | 4 => .int
  | 5 => .int
  | 6 => .array .int
  | 7 => .array .int
  | 8 => .array .int
  | 9 => .array .int
  | 10 => .array .int
  | 11 => .array .int
  | 12 => .array .int
  | 13 => .int
  | 14 => .int
  | 15 => .array .int
  | 16 => .array .int
  | 17 => .array .int
  | 18 => .array .int
  | 19 => .array .int
  | 20 => .int
  | 21 => .int
  | 22 => .array .int
  | 23 => .array .int
  | 24 => .array .int
  | 25 => .int
  | 26 => .boolean
  | 27 => .array .int
  | 28 => .array .int
  | 29 => .int
  | 30 => .int
  | 31 => .array .int
  | 32 => .int
  | 33 => .array .int
  | 34 => .int
  | 35 => .long
  | 36 => .array .int
  | 37 => .array .int
  | 38 => .array .int
  | 39 => .int
  | 40 => .int
  | 41 => .array .int
  | 42 => .array .int
  | 43 => .array .int
  | 44 => .array .int
  | 45 => .array .int
  | 46 => .array .boolean
  | 47 => .int
  | 48 => .array .int
  | 49 => .array .boolean
  | 50 => .array .int
  | _ => .boolean
abbrev wsX110 : List Cond := u_ws RX11 TX11 52
theorem nmX11 : ∀ a, a < 52 → ∀ b, b < 52 → a ≠ b → (TX11 a).2.1 ≠ (TX11 b).2.1 := by decide +kernel
theorem tyX11_ok : ∀ k, k < 52 → parseFieldDescriptor (TX11 k).2.2.1 = some (tyX11 k) := by decide +kernel
abbrev cX11_in : ByteArray := prog_13_method_1_code
def yX11_in : MethodName := ⟨RX11, "in", "(III)Z"⟩
abbrev cX11_has : ByteArray := prog_13_method_2_code
def yX11_has : MethodName := ⟨RX11, "has", "(II)Z"⟩
abbrev cX11_init : ByteArray := prog_13_method_3_code
def yX11_init : MethodName := ⟨RX11, "<init>", "()V"⟩
abbrev cX11_thrown : ByteArray := prog_13_method_4_code
def yX11_thrown : MethodName := ⟨RX11, "thrown", "()I"⟩
abbrev cX11_byteOf : ByteArray := prog_13_method_5_code
def yX11_byteOf : MethodName := ⟨RX11, "byteOf", "(IIIIII)I"⟩
abbrev cX11_feed : ByteArray := prog_13_method_6_code
def yX11_feed : MethodName := ⟨RX11, "feed", "(IIIII)I"⟩
abbrev cX11_end : ByteArray := prog_13_method_7_code
def yX11_end : MethodName := ⟨RX11, "end", "(I)Z"⟩
abbrev cX11_here : ByteArray := prog_13_method_8_code
def yX11_here : MethodName := ⟨RX11, "here", "()I"⟩
abbrev cX11_look : ByteArray := prog_13_method_9_code
def yX11_look : MethodName := ⟨RX11, "look", "()I"⟩
abbrev cX11_bad : ByteArray := prog_13_method_10_code
def yX11_bad : MethodName := ⟨RX11, "bad", "()V"⟩
abbrev cX11_isDigit : ByteArray := prog_13_method_11_code
def yX11_isDigit : MethodName := ⟨RX11, "isDigit", "(I)Z"⟩
abbrev cX11_put : ByteArray := prog_13_method_12_code
def yX11_put : MethodName := ⟨RX11, "put", "(II)V"⟩
abbrev cX11_letterOf : ByteArray := prog_13_method_13_code
def yX11_letterOf : MethodName := ⟨RX11, "letterOf", "(I)I"⟩
abbrev cX11_opens : ByteArray := prog_13_method_14_code
def yX11_opens : MethodName := ⟨RX11, "opens", "()V"⟩
abbrev cX11_closes : ByteArray := prog_13_method_15_code
def yX11_closes : MethodName := ⟨RX11, "closes", "(I)V"⟩
abbrev cX11_plainNumber : ByteArray := prog_13_method_16_code
def yX11_plainNumber : MethodName := ⟨RX11, "plainNumber", "()I"⟩
abbrev cX11_atom : ByteArray := prog_13_method_17_code
def yX11_atom : MethodName := ⟨RX11, "atom", "()V"⟩
abbrev cX11_term : ByteArray := prog_13_method_18_code
def yX11_term : MethodName := ⟨RX11, "term", "()V"⟩
abbrev cX11_sum : ByteArray := prog_13_method_19_code
def yX11_sum : MethodName := ⟨RX11, "sum", "()V"⟩
abbrev cX11_isSign : ByteArray := prog_13_method_20_code
def yX11_isSign : MethodName := ⟨RX11, "isSign", "(I)Z"⟩
abbrev cX11_compare : ByteArray := prog_13_method_21_code
def yX11_compare : MethodName := ⟨RX11, "compare", "()V"⟩
abbrev cX11_unit : ByteArray := prog_13_method_22_code
def yX11_unit : MethodName := ⟨RX11, "unit", "()V"⟩
abbrev cX11_goOnAnd : ByteArray := prog_13_method_23_code
def yX11_goOnAnd : MethodName := ⟨RX11, "goOnAnd", "()V"⟩
abbrev cX11_goOnOr : ByteArray := prog_13_method_24_code
def yX11_goOnOr : MethodName := ⟨RX11, "goOnOr", "()V"⟩
abbrev cX11_condition : ByteArray := prog_13_method_25_code
def yX11_condition : MethodName := ⟨RX11, "condition", "()V"⟩
abbrev cX11_clause : ByteArray := prog_13_method_26_code
def yX11_clause : MethodName := ⟨RX11, "clause", "()V"⟩
abbrev cX11_open : ByteArray := prog_13_method_27_code
def yX11_open : MethodName := ⟨RX11, "open", "(I)V"⟩
abbrev cX11_atEnd : ByteArray := prog_13_method_28_code
def yX11_atEnd : MethodName := ⟨RX11, "atEnd", "()I"⟩
abbrev cX11_readLaw : ByteArray := prog_13_method_29_code
def yX11_readLaw : MethodName := ⟨RX11, "readLaw", "(I)I"⟩
abbrev cX11_bounded : ByteArray := prog_13_method_30_code
def yX11_bounded : MethodName := ⟨RX11, "bounded", "(J)I"⟩
abbrev cX11_worked : ByteArray := prog_13_method_31_code
def yX11_worked : MethodName := ⟨RX11, "worked", "(IJJ)I"⟩
abbrev cX11_workOut : ByteArray := prog_13_method_32_code
def yX11_workOut : MethodName := ⟨RX11, "workOut", "(III)I"⟩
abbrev cX11_worthOf : ByteArray := prog_13_method_33_code
def yX11_worthOf : MethodName := ⟨RX11, "worthOf", "(I)I"⟩
abbrev cX11_number : ByteArray := prog_13_method_34_code
def yX11_number : MethodName := ⟨RX11, "number", "(II)I"⟩
abbrev cX11_itemOf : ByteArray := prog_13_method_35_code
def yX11_itemOf : MethodName := ⟨RX11, "itemOf", "(II)I"⟩
abbrev cX11_lowest : ByteArray := prog_13_method_36_code
def yX11_lowest : MethodName := ⟨RX11, "lowest", "(II)I"⟩
abbrev cX11_highest : ByteArray := prog_13_method_37_code
def yX11_highest : MethodName := ⟨RX11, "highest", "(II)I"⟩
abbrev cX11_usual : ByteArray := prog_13_method_38_code
def yX11_usual : MethodName := ⟨RX11, "usual", "(II)I"⟩
abbrev cX11_items : ByteArray := prog_13_method_39_code
def yX11_items : MethodName := ⟨RX11, "items", "(I[III)V"⟩
abbrev cX11_isWhole : ByteArray := prog_13_method_40_code
def yX11_isWhole : MethodName := ⟨RX11, "isWhole", "()Z"⟩
abbrev cX11_readField : ByteArray := prog_13_method_41_code
def yX11_readField : MethodName := ⟨RX11, "readField", "()I"⟩
abbrev cX11_fault : ByteArray := prog_13_method_42_code
def yX11_fault : MethodName := ⟨RX11, "fault", "(I)I"⟩
abbrev cX11_of : ByteArray := prog_13_method_43_code
def yX11_of : MethodName := ⟨RX11, "of", "(II)I"⟩
abbrev cX11_set : ByteArray := prog_13_method_44_code
def yX11_set : MethodName := ⟨RX11, "set", "(III)V"⟩
abbrev cX11_layTold : ByteArray := prog_13_method_45_code
def yX11_layTold : MethodName := ⟨RX11, "layTold", "(I)V"⟩
abbrev cX11_takeField : ByteArray := prog_13_method_46_code
def yX11_takeField : MethodName := ⟨RX11, "takeField", "()I"⟩
abbrev cX11_text : ByteArray := prog_13_method_47_code
def yX11_text : MethodName := ⟨RX11, "text", "(I)I"⟩
abbrev cX11_isThere : ByteArray := prog_13_method_48_code
def yX11_isThere : MethodName := ⟨RX11, "isThere", "(I)Z"⟩
abbrev cX11_doesLie : ByteArray := prog_13_method_49_code
def yX11_doesLie : MethodName := ⟨RX11, "doesLie", "(I)Z"⟩
abbrev cX11_plots : ByteArray := prog_13_method_50_code
def yX11_plots : MethodName := ⟨RX11, "plots", "()I"⟩
abbrev cX11_isPlot : ByteArray := prog_13_method_51_code
def yX11_isPlot : MethodName := ⟨RX11, "isPlot", "(I)Z"⟩
abbrev cX11_isRow : ByteArray := prog_13_method_52_code
def yX11_isRow : MethodName := ⟨RX11, "isRow", "(I)Z"⟩
abbrev cX11_rowOf : ByteArray := prog_13_method_53_code
def yX11_rowOf : MethodName := ⟨RX11, "rowOf", "(I)I"⟩
abbrev cX11_isRipe : ByteArray := prog_13_method_54_code
def yX11_isRipe : MethodName := ⟨RX11, "isRipe", "(I)Z"⟩
abbrev cX11_inPlot : ByteArray := prog_13_method_55_code
def yX11_inPlot : MethodName := ⟨RX11, "inPlot", "(I)I"⟩
abbrev cX11_stepsFrom : ByteArray := prog_13_method_56_code
def yX11_stepsFrom : MethodName := ⟨RX11, "stepsFrom", "(II)I"⟩
abbrev cX11_besideOf : ByteArray := prog_13_method_57_code
def yX11_besideOf : MethodName := ⟨RX11, "besideOf", "(I)I"⟩
abbrev cX11_growthBy : ByteArray := prog_13_method_58_code
def yX11_growthBy : MethodName := ⟨RX11, "growthBy", "(II)I"⟩
abbrev cX11_live : ByteArray := prog_13_method_59_code
def yX11_live : MethodName := ⟨RX11, "live", "()V"⟩
abbrev cX11_valueOf : ByteArray := prog_13_method_60_code
def yX11_valueOf : MethodName := ⟨RX11, "valueOf", "(I)I"⟩
abbrev cX11_onesWho : ByteArray := prog_13_method_61_code
def yX11_onesWho : MethodName := ⟨RX11, "onesWho", "(I)I"⟩
abbrev cX11_passMonth : ByteArray := prog_13_method_62_code
def yX11_passMonth : MethodName := ⟨RX11, "passMonth", "()V"⟩
abbrev cX11_rule : ByteArray := prog_13_method_63_code
def yX11_rule : MethodName := ⟨RX11, "rule", "(I)I"⟩
abbrev cX11_damp : ByteArray := prog_13_method_64_code
def yX11_damp : MethodName := ⟨RX11, "damp", "(I)I"⟩
abbrev cX11_thing : ByteArray := prog_13_method_65_code
def yX11_thing : MethodName := ⟨RX11, "thing", "(II)I"⟩
abbrev cX11_lies : ByteArray := prog_13_method_66_code
def yX11_lies : MethodName := ⟨RX11, "lies", "(I)I"⟩
abbrev cX11_law : ByteArray := prog_13_method_67_code
def yX11_law : MethodName := ⟨RX11, "law", "(I)Z"⟩
abbrev cX11_moles : ByteArray := prog_13_method_68_code
def yX11_moles : MethodName := ⟨RX11, "moles", "(I)Z"⟩
abbrev cX11_keep : ByteArray := prog_13_method_69_code
def yX11_keep : MethodName := ⟨RX11, "keep", "()V"⟩
abbrev cX11_isRefused : ByteArray := prog_13_method_70_code
def yX11_isRefused : MethodName := ⟨RX11, "isRefused", "(I)Z"⟩
abbrev cX11_areMonths : ByteArray := prog_13_method_71_code
def yX11_areMonths : MethodName := ⟨RX11, "areMonths", "(I)Z"⟩
abbrev cX11_months : ByteArray := prog_13_method_72_code
def yX11_months : MethodName := ⟨RX11, "months", "(I)I"⟩
abbrev cX11_lay : ByteArray := prog_13_method_73_code
def yX11_lay : MethodName := ⟨RX11, "lay", "(II)I"⟩
abbrev cX11_takes : ByteArray := prog_13_method_74_code
def yX11_takes : MethodName := ⟨RX11, "takes", "(I)I"⟩
abbrev cX11_sell : ByteArray := prog_13_method_75_code
def yX11_sell : MethodName := ⟨RX11, "sell", "(I)I"⟩
abbrev cX11_freePlace : ByteArray := prog_13_method_76_code
def yX11_freePlace : MethodName := ⟨RX11, "freePlace", "()I"⟩
abbrev cX11_buy : ByteArray := prog_13_method_77_code
def yX11_buy : MethodName := ⟨RX11, "buy", "(II)I"⟩
abbrev cX11_lose : ByteArray := prog_13_method_78_code
def yX11_lose : MethodName := ⟨RX11, "lose", "(I)I"⟩
abbrev cX11_search : ByteArray := prog_13_method_79_code
def yX11_search : MethodName := ⟨RX11, "search", "(I)I"⟩
abbrev cX11_give : ByteArray := prog_13_method_80_code
def yX11_give : MethodName := ⟨RX11, "give", "(I)I"⟩
abbrev cX11_draw : ByteArray := prog_13_method_81_code
def yX11_draw : MethodName := ⟨RX11, "draw", "(I)I"⟩
abbrev cX11_drawMonth : ByteArray := prog_13_method_82_code
def yX11_drawMonth : MethodName := ⟨RX11, "drawMonth", "()V"⟩
abbrev cX11_years : ByteArray := prog_13_method_83_code
def yX11_years : MethodName := ⟨RX11, "years", "(IJ)I"⟩
abbrev cX11_status : ByteArray := prog_13_method_84_code
def yX11_status : MethodName := ⟨RX11, "status", "(I)I"⟩
abbrev cX11_undo : ByteArray := prog_13_method_85_code
def yX11_undo : MethodName := ⟨RX11, "undo", "()I"⟩
abbrev cX11_log : ByteArray := prog_13_method_86_code
def yX11_log : MethodName := ⟨RX11, "log", "(II)I"⟩
abbrev cX11_putAside : ByteArray := prog_13_method_87_code
def yX11_putAside : MethodName := ⟨RX11, "putAside", "(I)V"⟩
abbrev cX11_takeBack : ByteArray := prog_13_method_88_code
def yX11_takeBack : MethodName := ⟨RX11, "takeBack", "(I)V"⟩
abbrev cX11_grown : ByteArray := prog_13_method_89_code
def yX11_grown : MethodName := ⟨RX11, "grown", "(II)I"⟩
abbrev cX11_ripeWithin : ByteArray := prog_13_method_90_code
def yX11_ripeWithin : MethodName := ⟨RX11, "ripeWithin", "(I)I"⟩
abbrev cX11_ripeIn : ByteArray := prog_13_method_91_code
def yX11_ripeIn : MethodName := ⟨RX11, "ripeIn", "(I)I"⟩
abbrev cX11_full : ByteArray := prog_13_method_92_code
def yX11_full : MethodName := ⟨RX11, "full", "()I"⟩
abbrev cX11_best : ByteArray := prog_13_method_93_code
def yX11_best : MethodName := ⟨RX11, "best", "(II)I"⟩
abbrev cX11_leaveAlone : ByteArray := prog_13_method_94_code
def yX11_leaveAlone : MethodName := ⟨RX11, "leaveAlone", "(I)V"⟩
abbrev cX11_layLaid : ByteArray := prog_13_method_95_code
def yX11_layLaid : MethodName := ⟨RX11, "layLaid", "(I)V"⟩
abbrev cX11_tryLaying : ByteArray := prog_13_method_96_code
def yX11_tryLaying : MethodName := ⟨RX11, "tryLaying", "(III)V"⟩
abbrev cX11_laying : ByteArray := prog_13_method_97_code
def yX11_laying : MethodName := ⟨RX11, "laying", "(II)I"⟩
abbrev cX11_way : ByteArray := prog_13_method_98_code
def yX11_way : MethodName := ⟨RX11, "way", "()I"⟩
abbrev cX11_isTold : ByteArray := prog_13_method_99_code
def yX11_isTold : MethodName := ⟨RX11, "isTold", "(I)Z"⟩
abbrev cX11_seen : ByteArray := prog_13_method_100_code
def yX11_seen : MethodName := ⟨RX11, "seen", "(IIIIZ)I"⟩
abbrev cX11_toldValue : ByteArray := prog_13_method_101_code
def yX11_toldValue : MethodName := ⟨RX11, "toldValue", "(IIII)I"⟩
abbrev cX11_isDamp : ByteArray := prog_13_method_102_code
def yX11_isDamp : MethodName := ⟨RX11, "isDamp", "(II)Z"⟩
abbrev cX11_damps : ByteArray := prog_13_method_103_code
def yX11_damps : MethodName := ⟨RX11, "damps", "(II)I"⟩
abbrev cX11_mostAlike : ByteArray := prog_13_method_104_code
def yX11_mostAlike : MethodName := ⟨RX11, "mostAlike", "()I"⟩
abbrev cX11_ask : ByteArray := prog_13_method_105_code
def yX11_ask : MethodName := ⟨RX11, "ask", "(II)I"⟩
abbrev cX11_thiefHas : ByteArray := prog_13_method_106_code
def yX11_thiefHas : MethodName := ⟨RX11, "thiefHas", "(IIII)I"⟩
abbrev cX11_merchantHas : ByteArray := prog_13_method_107_code
def yX11_merchantHas : MethodName := ⟨RX11, "merchantHas", "(IIII)I"⟩
abbrev cX11_areTwo : ByteArray := prog_13_method_108_code
def yX11_areTwo : MethodName := ⟨RX11, "areTwo", "(II)Z"⟩
abbrev cX11_game : ByteArray := prog_13_method_109_code
def yX11_game : MethodName := ⟨RX11, "game", "(IIIII)I"⟩
abbrev cX11_isRest : ByteArray := prog_13_method_110_code
def yX11_isRest : MethodName := ⟨RX11, "isRest", "(IIII)Z"⟩
abbrev cX11_rests : ByteArray := prog_13_method_111_code
def yX11_rests : MethodName := ⟨RX11, "rests", "(III)I"⟩
abbrev cX11_meanBy : ByteArray := prog_13_method_112_code
def yX11_meanBy : MethodName := ⟨RX11, "meanBy", "(IIII)I"⟩
abbrev cX11_safe : ByteArray := prog_13_method_113_code
def yX11_safe : MethodName := ⟨RX11, "safe", "(III)I"⟩
abbrev cX11_oddsFrom : ByteArray := prog_13_method_114_code
def yX11_oddsFrom : MethodName := ⟨RX11, "oddsFrom", "(IIIIII)I"⟩
abbrev cX11_odds : ByteArray := prog_13_method_115_code
def yX11_odds : MethodName := ⟨RX11, "odds", "(IIII)I"⟩
abbrev cX11_shares : ByteArray := prog_13_method_116_code
def yX11_shares : MethodName := ⟨RX11, "shares", "(II)I"⟩
abbrev cX11_topThing : ByteArray := prog_13_method_117_code
def yX11_topThing : MethodName := ⟨RX11, "topThing", "(I)I"⟩
abbrev cX11_rowValue : ByteArray := prog_13_method_118_code
def yX11_rowValue : MethodName := ⟨RX11, "rowValue", "(I)I"⟩
abbrev cX11_topRow : ByteArray := prog_13_method_119_code
def yX11_topRow : MethodName := ⟨RX11, "topRow", "(Z)I"⟩
abbrev cX11_besideMany : ByteArray := prog_13_method_120_code
def yX11_besideMany : MethodName := ⟨RX11, "besideMany", "()I"⟩
abbrev cX11_most : ByteArray := prog_13_method_121_code
def yX11_most : MethodName := ⟨RX11, "most", "(I)I"⟩
abbrev cX11_image : ByteArray := prog_13_method_122_code
def yX11_image : MethodName := ⟨RX11, "image", "()I"⟩
abbrev cX11_back : ByteArray := prog_13_method_123_code
def yX11_back : MethodName := ⟨RX11, "back", "()I"⟩
abbrev cX11_count : ByteArray := prog_13_method_124_code
def yX11_count : MethodName := ⟨RX11, "count", "(I)I"⟩
def RJx145de : String := "java/io/Serializable"
def TJx145de : u_T := fun k => match k with
  | _ => ("", "", "", false)
def tyJx145de : Nat → FieldType := fun k => match k with
  | _ => .int
abbrev wsJx145de0 : List Cond := u_ws RJx145de TJx145de 0
theorem nmJx145de : ∀ a, a < 0 → ∀ b, b < 0 → a ≠ b → (TJx145de a).2.1 ≠ (TJx145de b).2.1 := by decide +kernel
theorem tyJx145de_ok : ∀ k, k < 0 → parseFieldDescriptor (TJx145de k).2.2.1 = some (tyJx145de k) := by decide +kernel
def RJ6 : String := "java/lang/Integer"
def TJ6 : u_T := fun k => match k with
  | _ => ("", "", "", false)
def tyJ6 : Nat → FieldType := fun k => match k with
  | _ => .int
abbrev wsJ60 : List Cond := u_ws RJ6 TJ6 0
theorem nmJ6 : ∀ a, a < 0 → ∀ b, b < 0 → a ≠ b → (TJ6 a).2.1 ≠ (TJ6 b).2.1 := by decide +kernel
theorem tyJ6_ok : ∀ k, k < 0 → parseFieldDescriptor (TJ6 k).2.2.1 = some (tyJ6 k) := by decide +kernel
abbrev cJ6_bitCount_0f7a4 : ByteArray := prog_16_method_49_code
def yJ6_bitCount_0f7a4 : MethodName := ⟨RJ6, "bitCount", "(I)I"⟩
def RJ9 : String := "java/lang/Math"
def TJ9 : u_T := fun k => match k with
  | _ => ("", "", "", false)
def tyJ9 : Nat → FieldType := fun k => match k with
  | _ => .int
abbrev wsJ90 : List Cond := u_ws RJ9 TJ9 0
theorem nmJ9 : ∀ a, a < 0 → ∀ b, b < 0 → a ≠ b → (TJ9 a).2.1 ≠ (TJ9 b).2.1 := by decide +kernel
theorem tyJ9_ok : ∀ k, k < 0 → parseFieldDescriptor (TJ9 k).2.2.1 = some (tyJ9 k) := by decide +kernel
abbrev cJ9_floorDiv_f86c9 : ByteArray := prog_17_method_49_code
def yJ9_floorDiv_f86c9 : MethodName := ⟨RJ9, "floorDiv", "(JJ)J"⟩
abbrev cJ9_floorMod_7cf53 : ByteArray := prog_17_method_50_code
def yJ9_floorMod_7cf53 : MethodName := ⟨RJ9, "floorMod", "(II)I"⟩
abbrev cJ9_abs_0f7a4 : ByteArray := prog_17_method_59_code
def yJ9_abs_0f7a4 : MethodName := ⟨RJ9, "abs", "(I)I"⟩
abbrev cJ9_max_7cf53 : ByteArray := prog_17_method_65_code
def yJ9_max_7cf53 : MethodName := ⟨RJ9, "max", "(II)I"⟩
abbrev cJ9_max_f86c9 : ByteArray := prog_17_method_66_code
def yJ9_max_f86c9 : MethodName := ⟨RJ9, "max", "(JJ)J"⟩
abbrev cJ9_min_7cf53 : ByteArray := prog_17_method_69_code
def yJ9_min_7cf53 : MethodName := ⟨RJ9, "min", "(II)I"⟩
abbrev cJ9_min_f86c9 : ByteArray := prog_17_method_70_code
def yJ9_min_f86c9 : MethodName := ⟨RJ9, "min", "(JJ)J"⟩
def RL : String := "BuriedGoodsLaw"
abbrev cL_thing : ByteArray := method_3_code
def yL_thing : MethodName := ⟨RL, "thing", "(LBuriedGoods;II[J)I"⟩
abbrev cL_law : ByteArray := code
def yL_law : MethodName := ⟨RL, "law", "([I)Z"⟩
abbrev vwCl : List vw_C := [(RX0, TX0, 6), (RX1, TX1, 10), (RX2, TX2, 4), (RX3, TX3, 3), (RX4, TX4, 5), (RX5, TX5, 6), (RX6, TX6, 3), (RX7, TX7, 8), (RX8, TX8, 3), (RX9, TX9, 6), (RX10, TX10, 20), (RX11, TX11, 52)]
def mm_Rn : Nat → String := fun c => (bif Nat.blt c 8 then (bif Nat.blt c 4 then (bif Nat.blt c 2 then (bif Nat.blt c 1 then "BuriedGoods$Growth" else "BuriedGoods$Land") else (bif Nat.blt c 3 then "BuriedGoods$Law" else "BuriedGoods$Past")) else (bif Nat.blt c 6 then (bif Nat.blt c 5 then "BuriedGoods$Plan" else "BuriedGoods$Sights") else (bif Nat.blt c 7 then "BuriedGoods$Spade" else "BuriedGoods$Stand"))) else (bif Nat.blt c 12 then (bif Nat.blt c 10 then (bif Nat.blt c 9 then "BuriedGoods$Tape" else "BuriedGoods$Thing") else (bif Nat.blt c 11 then "BuriedGoods" else "BuriedGoodsModel")) else (bif Nat.blt c 14 then (bif Nat.blt c 13 then "BuriedGoodsLaw" else "java/lang/Integer") else (bif Nat.blt c 15 then "java/lang/Math" else "java/lang/Object"))))
def mm_T : Nat → u_T := fun c => (bif Nat.blt c 6 then (bif Nat.blt c 3 then (bif Nat.blt c 1 then TX0 else (bif Nat.blt c 2 then TX1 else TX2)) else (bif Nat.blt c 4 then TX3 else (bif Nat.blt c 5 then TX4 else TX5))) else (bif Nat.blt c 9 then (bif Nat.blt c 7 then TX6 else (bif Nat.blt c 8 then TX7 else TX8)) else (bif Nat.blt c 10 then TX9 else (bif Nat.blt c 11 then TX10 else TX11))))
def mm_ty : Nat → Nat → FieldType := fun c => (bif Nat.blt c 6 then (bif Nat.blt c 3 then (bif Nat.blt c 1 then tyX0 else (bif Nat.blt c 2 then tyX1 else tyX2)) else (bif Nat.blt c 4 then tyX3 else (bif Nat.blt c 5 then tyX4 else tyX5))) else (bif Nat.blt c 9 then (bif Nat.blt c 7 then tyX6 else (bif Nat.blt c 8 then tyX7 else tyX8)) else (bif Nat.blt c 10 then tyX9 else (bif Nat.blt c 11 then tyX10 else tyX11))))
def mm_N : Nat → Nat := fun c => (bif Nat.blt c 6 then (bif Nat.blt c 3 then (bif Nat.blt c 1 then 6 else (bif Nat.blt c 2 then 10 else 4)) else (bif Nat.blt c 4 then 3 else (bif Nat.blt c 5 then 5 else 6))) else (bif Nat.blt c 9 then (bif Nat.blt c 7 then 3 else (bif Nat.blt c 8 then 8 else 3)) else (bif Nat.blt c 10 then 6 else (bif Nat.blt c 11 then 20 else 52))))
