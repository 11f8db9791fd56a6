section
-- ===== PART A: goes FIRST, ahead of the names: the tables' words, and 'selects' of the private methods out of them =====
/-- a private method of a class that the tables say can be made, by its rows of tables_1 -/
def lw_okq (q : MethodName × Nat) : Prop := (q.1.cls ≠ "java/lang/invoke/MethodHandle" ∧ q.1.cls ≠ "java/lang/invoke/VarHandle") ∧ Cond.instantiable q.1.cls q.2 ∈ tables_1 ∧ Cond.privateMethod q.1 ∈ tables_1 ∧ Cond.instanceMethod q.1 ∈ tables_1
theorem lw_p0 : lw_okq (⟨"SudokuGrader$Shape", "enter", "(IIII)V"⟩, 4) := ⟨⟨by decide +kernel, by decide +kernel⟩, List.mem_of_getElem? (i := 23) (by decide +kernel), List.mem_of_getElem? (i := 29) (by decide +kernel), List.mem_of_getElem? (i := 30) (by decide +kernel)⟩
theorem lw_p1 : lw_okq (⟨"SudokuGrader$Shape", "listNear", "(I)V"⟩, 4) := ⟨⟨by decide +kernel, by decide +kernel⟩, List.mem_of_getElem? (i := 23) (by decide +kernel), List.mem_of_getElem? (i := 33) (by decide +kernel), List.mem_of_getElem? (i := 34) (by decide +kernel)⟩
theorem lw_p2 : lw_okq (⟨"SudokuGrader", "startAnew", "()V"⟩, 11) := ⟨⟨by decide +kernel, by decide +kernel⟩, List.mem_of_getElem? (i := 15) (by decide +kernel), List.mem_of_getElem? (i := 331) (by decide +kernel), List.mem_of_getElem? (i := 332) (by decide +kernel)⟩
theorem lw_p3 : lw_okq (⟨"SudokuGrader$Board", "flip", "(I)V"⟩, 5) := ⟨⟨by decide +kernel, by decide +kernel⟩, List.mem_of_getElem? (i := 68) (by decide +kernel), List.mem_of_getElem? (i := 345) (by decide +kernel), List.mem_of_getElem? (i := 346) (by decide +kernel)⟩
theorem lw_p4 : lw_okq (⟨"SudokuGrader", "takeFirstStep", "()Z"⟩, 11) := ⟨⟨by decide +kernel, by decide +kernel⟩, List.mem_of_getElem? (i := 15) (by decide +kernel), List.mem_of_getElem? (i := 407) (by decide +kernel), List.mem_of_getElem? (i := 408) (by decide +kernel)⟩
theorem lw_p5 : lw_okq (⟨"SudokuGrader$Rules", "markFirstSubset", "(LSudokuGrader$Board;I)I"⟩, 5) := ⟨⟨by decide +kernel, by decide +kernel⟩, List.mem_of_getElem? (i := 122) (by decide +kernel), List.mem_of_getElem? (i := 415) (by decide +kernel), List.mem_of_getElem? (i := 416) (by decide +kernel)⟩
theorem lw_p6 : lw_okq (⟨"SudokuGrader$Subsets", "load", "(LSudokuGrader$Board;II)Z"⟩, 3) := ⟨⟨by decide +kernel, by decide +kernel⟩, List.mem_of_getElem? (i := 128) (by decide +kernel), List.mem_of_getElem? (i := 423) (by decide +kernel), List.mem_of_getElem? (i := 424) (by decide +kernel)⟩
theorem lw_p7 : lw_okq (⟨"SudokuGrader$Subsets", "pick", "(IIIII)I"⟩, 3) := ⟨⟨by decide +kernel, by decide +kernel⟩, List.mem_of_getElem? (i := 128) (by decide +kernel), List.mem_of_getElem? (i := 437) (by decide +kernel), List.mem_of_getElem? (i := 438) (by decide +kernel)⟩
theorem lw_p8 : lw_okq (⟨"SudokuGrader$Subsets", "touchesOthers", "(II)Z"⟩, 3) := ⟨⟨by decide +kernel, by decide +kernel⟩, List.mem_of_getElem? (i := 128) (by decide +kernel), List.mem_of_getElem? (i := 447) (by decide +kernel), List.mem_of_getElem? (i := 448) (by decide +kernel)⟩
theorem lw_p9 : lw_okq (⟨"SudokuGrader$Subsets", "markFrom", "(LSudokuGrader$Board;IIII)V"⟩, 3) := ⟨⟨by decide +kernel, by decide +kernel⟩, List.mem_of_getElem? (i := 128) (by decide +kernel), List.mem_of_getElem? (i := 455) (by decide +kernel), List.mem_of_getElem? (i := 456) (by decide +kernel)⟩
theorem lw_p10 : lw_okq (⟨"SudokuGrader$Rules", "markSingle", "(LSudokuGrader$Board;II)V"⟩, 5) := ⟨⟨by decide +kernel, by decide +kernel⟩, List.mem_of_getElem? (i := 122) (by decide +kernel), List.mem_of_getElem? (i := 472) (by decide +kernel), List.mem_of_getElem? (i := 473) (by decide +kernel)⟩
theorem lw_p11 : lw_okq (⟨"SudokuGrader$Rules", "markHidden", "(LSudokuGrader$Board;II)V"⟩, 5) := ⟨⟨by decide +kernel, by decide +kernel⟩, List.mem_of_getElem? (i := 122) (by decide +kernel), List.mem_of_getElem? (i := 477) (by decide +kernel), List.mem_of_getElem? (i := 478) (by decide +kernel)⟩
theorem lw_p12 : lw_okq (⟨"SudokuGrader$Rules", "markPointing", "(LSudokuGrader$Board;II)V"⟩, 5) := ⟨⟨by decide +kernel, by decide +kernel⟩, List.mem_of_getElem? (i := 122) (by decide +kernel), List.mem_of_getElem? (i := 489) (by decide +kernel), List.mem_of_getElem? (i := 490) (by decide +kernel)⟩
theorem lw_p13 : lw_okq (⟨"SudokuGrader$Rules", "markClaiming", "(LSudokuGrader$Board;II)V"⟩, 5) := ⟨⟨by decide +kernel, by decide +kernel⟩, List.mem_of_getElem? (i := 122) (by decide +kernel), List.mem_of_getElem? (i := 493) (by decide +kernel), List.mem_of_getElem? (i := 494) (by decide +kernel)⟩
theorem lw_p14 : lw_okq (⟨"SudokuGrader$Rules", "markClaimed", "(LSudokuGrader$Board;III)V"⟩, 5) := ⟨⟨by decide +kernel, by decide +kernel⟩, List.mem_of_getElem? (i := 122) (by decide +kernel), List.mem_of_getElem? (i := 497) (by decide +kernel), List.mem_of_getElem? (i := 498) (by decide +kernel)⟩
theorem lw_p15 : lw_okq (⟨"SudokuGrader$Chains", "listAllStrong", "(LSudokuGrader$Board;)V"⟩, 17) := ⟨⟨by decide +kernel, by decide +kernel⟩, List.mem_of_getElem? (i := 162) (by decide +kernel), List.mem_of_getElem? (i := 526) (by decide +kernel), List.mem_of_getElem? (i := 527) (by decide +kernel)⟩
def lw_privs_1 : List (MethodName × Nat) := [(⟨"SudokuGrader$Shape", "enter", "(IIII)V"⟩, 4), (⟨"SudokuGrader$Shape", "listNear", "(I)V"⟩, 4), (⟨"SudokuGrader", "startAnew", "()V"⟩, 11), (⟨"SudokuGrader$Board", "flip", "(I)V"⟩, 5), (⟨"SudokuGrader", "takeFirstStep", "()Z"⟩, 11), (⟨"SudokuGrader$Rules", "markFirstSubset", "(LSudokuGrader$Board;I)I"⟩, 5), (⟨"SudokuGrader$Subsets", "load", "(LSudokuGrader$Board;II)Z"⟩, 3), (⟨"SudokuGrader$Subsets", "pick", "(IIIII)I"⟩, 3), (⟨"SudokuGrader$Subsets", "touchesOthers", "(II)Z"⟩, 3), (⟨"SudokuGrader$Subsets", "markFrom", "(LSudokuGrader$Board;IIII)V"⟩, 3), (⟨"SudokuGrader$Rules", "markSingle", "(LSudokuGrader$Board;II)V"⟩, 5), (⟨"SudokuGrader$Rules", "markHidden", "(LSudokuGrader$Board;II)V"⟩, 5), (⟨"SudokuGrader$Rules", "markPointing", "(LSudokuGrader$Board;II)V"⟩, 5), (⟨"SudokuGrader$Rules", "markClaiming", "(LSudokuGrader$Board;II)V"⟩, 5), (⟨"SudokuGrader$Rules", "markClaimed", "(LSudokuGrader$Board;III)V"⟩, 5), (⟨"SudokuGrader$Chains", "listAllStrong", "(LSudokuGrader$Board;)V"⟩, 17)]
theorem lw_r1 : ∀ q ∈ lw_privs_1, lw_okq q := List.forall_mem_cons.mpr ⟨lw_p0, List.forall_mem_cons.mpr ⟨lw_p1, List.forall_mem_cons.mpr ⟨lw_p2, List.forall_mem_cons.mpr ⟨lw_p3, List.forall_mem_cons.mpr ⟨lw_p4, List.forall_mem_cons.mpr ⟨lw_p5, List.forall_mem_cons.mpr ⟨lw_p6, List.forall_mem_cons.mpr ⟨lw_p7, List.forall_mem_cons.mpr ⟨lw_p8, List.forall_mem_cons.mpr ⟨lw_p9, List.forall_mem_cons.mpr ⟨lw_p10, List.forall_mem_cons.mpr ⟨lw_p11, List.forall_mem_cons.mpr ⟨lw_p12, List.forall_mem_cons.mpr ⟨lw_p13, List.forall_mem_cons.mpr ⟨lw_p14, List.forall_mem_cons.mpr ⟨lw_p15, fun _ h => absurd h List.not_mem_nil⟩⟩⟩⟩⟩⟩⟩⟩⟩⟩⟩⟩⟩⟩⟩⟩
theorem lw_p16 : lw_okq (⟨"SudokuGrader$Chains", "addStrongPair", "(II)V"⟩, 17) := ⟨⟨by decide +kernel, by decide +kernel⟩, List.mem_of_getElem? (i := 162) (by decide +kernel), List.mem_of_getElem? (i := 533) (by decide +kernel), List.mem_of_getElem? (i := 534) (by decide +kernel)⟩
theorem lw_p17 : lw_okq (⟨"SudokuGrader$Chains", "addStrong", "(II)V"⟩, 17) := ⟨⟨by decide +kernel, by decide +kernel⟩, List.mem_of_getElem? (i := 162) (by decide +kernel), List.mem_of_getElem? (i := 537) (by decide +kernel), List.mem_of_getElem? (i := 538) (by decide +kernel)⟩
theorem lw_p18 : lw_okq (⟨"SudokuGrader$Chains", "reach", "(LSudokuGrader$Board;II)I"⟩, 17) := ⟨⟨by decide +kernel, by decide +kernel⟩, List.mem_of_getElem? (i := 162) (by decide +kernel), List.mem_of_getElem? (i := 541) (by decide +kernel), List.mem_of_getElem? (i := 542) (by decide +kernel)⟩
theorem lw_p19 : lw_okq (⟨"SudokuGrader$Chains", "listWeak", "(LSudokuGrader$Board;I)V"⟩, 17) := ⟨⟨by decide +kernel, by decide +kernel⟩, List.mem_of_getElem? (i := 162) (by decide +kernel), List.mem_of_getElem? (i := 545) (by decide +kernel), List.mem_of_getElem? (i := 546) (by decide +kernel)⟩
theorem lw_p20 : lw_okq (⟨"SudokuGrader$Chains", "addTails", "(II)V"⟩, 17) := ⟨⟨by decide +kernel, by decide +kernel⟩, List.mem_of_getElem? (i := 162) (by decide +kernel), List.mem_of_getElem? (i := 549) (by decide +kernel), List.mem_of_getElem? (i := 550) (by decide +kernel)⟩
theorem lw_p21 : lw_okq (⟨"SudokuGrader$Chains", "meetsFirst", "()Z"⟩, 17) := ⟨⟨by decide +kernel, by decide +kernel⟩, List.mem_of_getElem? (i := 162) (by decide +kernel), List.mem_of_getElem? (i := 553) (by decide +kernel), List.mem_of_getElem? (i := 554) (by decide +kernel)⟩
theorem lw_p22 : lw_okq (⟨"SudokuGrader$Chains", "addHeads", "(I)V"⟩, 17) := ⟨⟨by decide +kernel, by decide +kernel⟩, List.mem_of_getElem? (i := 162) (by decide +kernel), List.mem_of_getElem? (i := 557) (by decide +kernel), List.mem_of_getElem? (i := 558) (by decide +kernel)⟩
theorem lw_p23 : lw_okq (⟨"SudokuGrader$Chains", "writeChain", "(I)V"⟩, 17) := ⟨⟨by decide +kernel, by decide +kernel⟩, List.mem_of_getElem? (i := 162) (by decide +kernel), List.mem_of_getElem? (i := 561) (by decide +kernel), List.mem_of_getElem? (i := 562) (by decide +kernel)⟩
theorem lw_p24 : lw_okq (⟨"SudokuGrader$Chains", "areStrong", "(LSudokuGrader$Board;II)Z"⟩, 17) := ⟨⟨by decide +kernel, by decide +kernel⟩, List.mem_of_getElem? (i := 162) (by decide +kernel), List.mem_of_getElem? (i := 569) (by decide +kernel), List.mem_of_getElem? (i := 570) (by decide +kernel)⟩
theorem lw_p25 : lw_okq (⟨"SudokuGrader$Chains", "areWeak", "(LSudokuGrader$Board;II)Z"⟩, 17) := ⟨⟨by decide +kernel, by decide +kernel⟩, List.mem_of_getElem? (i := 162) (by decide +kernel), List.mem_of_getElem? (i := 573) (by decide +kernel), List.mem_of_getElem? (i := 574) (by decide +kernel)⟩
theorem lw_p26 : lw_okq (⟨"SudokuGrader", "takenAway", "(I)I"⟩, 11) := ⟨⟨by decide +kernel, by decide +kernel⟩, List.mem_of_getElem? (i := 15) (by decide +kernel), List.mem_of_getElem? (i := 626) (by decide +kernel), List.mem_of_getElem? (i := 627) (by decide +kernel)⟩
theorem lw_p27 : lw_okq (⟨"SudokuGrader", "claimWritten", "(I)I"⟩, 11) := ⟨⟨by decide +kernel, by decide +kernel⟩, List.mem_of_getElem? (i := 15) (by decide +kernel), List.mem_of_getElem? (i := 635) (by decide +kernel), List.mem_of_getElem? (i := 636) (by decide +kernel)⟩
theorem lw_p28 : lw_okq (⟨"SudokuGrader$Solver", "noteCount", "(II)V"⟩, 14) := ⟨⟨by decide +kernel, by decide +kernel⟩, List.mem_of_getElem? (i := 276) (by decide +kernel), List.mem_of_getElem? (i := 648) (by decide +kernel), List.mem_of_getElem? (i := 649) (by decide +kernel)⟩
theorem lw_p29 : lw_okq (⟨"SudokuGrader$Solver", "close", "()V"⟩, 14) := ⟨⟨by decide +kernel, by decide +kernel⟩, List.mem_of_getElem? (i := 276) (by decide +kernel), List.mem_of_getElem? (i := 653) (by decide +kernel), List.mem_of_getElem? (i := 654) (by decide +kernel)⟩
theorem lw_p30 : lw_okq (⟨"SudokuGrader$Solver", "closeCell", "(I)V"⟩, 14) := ⟨⟨by decide +kernel, by decide +kernel⟩, List.mem_of_getElem? (i := 276) (by decide +kernel), List.mem_of_getElem? (i := 657) (by decide +kernel), List.mem_of_getElem? (i := 658) (by decide +kernel)⟩
theorem lw_p31 : lw_okq (⟨"SudokuGrader$Solver", "remove", "(II)V"⟩, 14) := ⟨⟨by decide +kernel, by decide +kernel⟩, List.mem_of_getElem? (i := 276) (by decide +kernel), List.mem_of_getElem? (i := 662) (by decide +kernel), List.mem_of_getElem? (i := 663) (by decide +kernel)⟩
def lw_privs_2 : List (MethodName × Nat) := [(⟨"SudokuGrader$Chains", "addStrongPair", "(II)V"⟩, 17), (⟨"SudokuGrader$Chains", "addStrong", "(II)V"⟩, 17), (⟨"SudokuGrader$Chains", "reach", "(LSudokuGrader$Board;II)I"⟩, 17), (⟨"SudokuGrader$Chains", "listWeak", "(LSudokuGrader$Board;I)V"⟩, 17), (⟨"SudokuGrader$Chains", "addTails", "(II)V"⟩, 17), (⟨"SudokuGrader$Chains", "meetsFirst", "()Z"⟩, 17), (⟨"SudokuGrader$Chains", "addHeads", "(I)V"⟩, 17), (⟨"SudokuGrader$Chains", "writeChain", "(I)V"⟩, 17), (⟨"SudokuGrader$Chains", "areStrong", "(LSudokuGrader$Board;II)Z"⟩, 17), (⟨"SudokuGrader$Chains", "areWeak", "(LSudokuGrader$Board;II)Z"⟩, 17), (⟨"SudokuGrader", "takenAway", "(I)I"⟩, 11), (⟨"SudokuGrader", "claimWritten", "(I)I"⟩, 11), (⟨"SudokuGrader$Solver", "noteCount", "(II)V"⟩, 14), (⟨"SudokuGrader$Solver", "close", "()V"⟩, 14), (⟨"SudokuGrader$Solver", "closeCell", "(I)V"⟩, 14), (⟨"SudokuGrader$Solver", "remove", "(II)V"⟩, 14)]
theorem lw_r2 : ∀ q ∈ lw_privs_2, lw_okq q := List.forall_mem_cons.mpr ⟨lw_p16, List.forall_mem_cons.mpr ⟨lw_p17, List.forall_mem_cons.mpr ⟨lw_p18, List.forall_mem_cons.mpr ⟨lw_p19, List.forall_mem_cons.mpr ⟨lw_p20, List.forall_mem_cons.mpr ⟨lw_p21, List.forall_mem_cons.mpr ⟨lw_p22, List.forall_mem_cons.mpr ⟨lw_p23, List.forall_mem_cons.mpr ⟨lw_p24, List.forall_mem_cons.mpr ⟨lw_p25, List.forall_mem_cons.mpr ⟨lw_p26, List.forall_mem_cons.mpr ⟨lw_p27, List.forall_mem_cons.mpr ⟨lw_p28, List.forall_mem_cons.mpr ⟨lw_p29, List.forall_mem_cons.mpr ⟨lw_p30, List.forall_mem_cons.mpr ⟨lw_p31, fun _ h => absurd h List.not_mem_nil⟩⟩⟩⟩⟩⟩⟩⟩⟩⟩⟩⟩⟩⟩⟩⟩
theorem lw_p32 : lw_okq (⟨"SudokuGrader$Solver", "closePlace", "(I)V"⟩, 14) := ⟨⟨by decide +kernel, by decide +kernel⟩, List.mem_of_getElem? (i := 276) (by decide +kernel), List.mem_of_getElem? (i := 667) (by decide +kernel), List.mem_of_getElem? (i := 668) (by decide +kernel)⟩
theorem lw_p33 : lw_okq (⟨"SudokuGrader$Solver", "keepAlone", "(II)V"⟩, 14) := ⟨⟨by decide +kernel, by decide +kernel⟩, List.mem_of_getElem? (i := 276) (by decide +kernel), List.mem_of_getElem? (i := 671) (by decide +kernel), List.mem_of_getElem? (i := 672) (by decide +kernel)⟩
theorem lw_p34 : lw_okq (⟨"SudokuGrader$Solver", "settle", "()V"⟩, 14) := ⟨⟨by decide +kernel, by decide +kernel⟩, List.mem_of_getElem? (i := 276) (by decide +kernel), List.mem_of_getElem? (i := 675) (by decide +kernel), List.mem_of_getElem? (i := 676) (by decide +kernel)⟩
theorem lw_p35 : lw_okq (⟨"SudokuGrader$Solver", "fewest", "()I"⟩, 14) := ⟨⟨by decide +kernel, by decide +kernel⟩, List.mem_of_getElem? (i := 276) (by decide +kernel), List.mem_of_getElem? (i := 679) (by decide +kernel), List.mem_of_getElem? (i := 680) (by decide +kernel)⟩
theorem lw_p36 : lw_okq (⟨"SudokuGrader$Solver", "keepAnswer", "()V"⟩, 14) := ⟨⟨by decide +kernel, by decide +kernel⟩, List.mem_of_getElem? (i := 276) (by decide +kernel), List.mem_of_getElem? (i := 684) (by decide +kernel), List.mem_of_getElem? (i := 685) (by decide +kernel)⟩
theorem lw_p37 : lw_okq (⟨"SudokuGraderModel", "begin", "()V"⟩, 42) := ⟨⟨by decide +kernel, by decide +kernel⟩, List.mem_of_getElem? (i := 704) (by decide +kernel), List.mem_of_getElem? (i := 710) (by decide +kernel), List.mem_of_getElem? (i := 711) (by decide +kernel)⟩
theorem lw_p38 : lw_okq (⟨"SudokuGraderModel", "stepped", "()Z"⟩, 42) := ⟨⟨by decide +kernel, by decide +kernel⟩, List.mem_of_getElem? (i := 704) (by decide +kernel), List.mem_of_getElem? (i := 858) (by decide +kernel), List.mem_of_getElem? (i := 859) (by decide +kernel)⟩
theorem lw_p39 : lw_okq (⟨"SudokuGraderModel", "findsOne", "([II)Z"⟩, 42) := ⟨⟨by decide +kernel, by decide +kernel⟩, List.mem_of_getElem? (i := 704) (by decide +kernel), List.mem_of_getElem? (i := 862) (by decide +kernel), List.mem_of_getElem? (i := 863) (by decide +kernel)⟩
theorem lw_p40 : lw_okq (⟨"SudokuGraderModel", "found", "([IIII)Z"⟩, 42) := ⟨⟨by decide +kernel, by decide +kernel⟩, List.mem_of_getElem? (i := 704) (by decide +kernel), List.mem_of_getElem? (i := 866) (by decide +kernel), List.mem_of_getElem? (i := 867) (by decide +kernel)⟩
theorem lw_p41 : lw_okq (⟨"SudokuGraderModel", "instance", "([IIII)I"⟩, 42) := ⟨⟨by decide +kernel, by decide +kernel⟩, List.mem_of_getElem? (i := 704) (by decide +kernel), List.mem_of_getElem? (i := 870) (by decide +kernel), List.mem_of_getElem? (i := 871) (by decide +kernel)⟩
theorem lw_p42 : lw_okq (⟨"SudokuGraderModel", "clear", "()V"⟩, 42) := ⟨⟨by decide +kernel, by decide +kernel⟩, List.mem_of_getElem? (i := 704) (by decide +kernel), List.mem_of_getElem? (i := 874) (by decide +kernel), List.mem_of_getElem? (i := 875) (by decide +kernel)⟩
theorem lw_p43 : lw_okq (⟨"SudokuGraderModel", "single", "([III)Z"⟩, 42) := ⟨⟨by decide +kernel, by decide +kernel⟩, List.mem_of_getElem? (i := 704) (by decide +kernel), List.mem_of_getElem? (i := 878) (by decide +kernel), List.mem_of_getElem? (i := 879) (by decide +kernel)⟩
theorem lw_p44 : lw_okq (⟨"SudokuGraderModel", "hiddenOne", "([III)Z"⟩, 42) := ⟨⟨by decide +kernel, by decide +kernel⟩, List.mem_of_getElem? (i := 704) (by decide +kernel), List.mem_of_getElem? (i := 888) (by decide +kernel), List.mem_of_getElem? (i := 889) (by decide +kernel)⟩
theorem lw_p45 : lw_okq (⟨"SudokuGraderModel", "pointing", "([III)Z"⟩, 42) := ⟨⟨by decide +kernel, by decide +kernel⟩, List.mem_of_getElem? (i := 704) (by decide +kernel), List.mem_of_getElem? (i := 901) (by decide +kernel), List.mem_of_getElem? (i := 902) (by decide +kernel)⟩
theorem lw_p46 : lw_okq (⟨"SudokuGraderModel", "claiming", "([III)Z"⟩, 42) := ⟨⟨by decide +kernel, by decide +kernel⟩, List.mem_of_getElem? (i := 704) (by decide +kernel), List.mem_of_getElem? (i := 908) (by decide +kernel), List.mem_of_getElem? (i := 909) (by decide +kernel)⟩
theorem lw_p47 : lw_okq (⟨"SudokuGraderModel", "naked", "([IIII)Z"⟩, 42) := ⟨⟨by decide +kernel, by decide +kernel⟩, List.mem_of_getElem? (i := 704) (by decide +kernel), List.mem_of_getElem? (i := 915) (by decide +kernel), List.mem_of_getElem? (i := 916) (by decide +kernel)⟩
def lw_privs_3 : List (MethodName × Nat) := [(⟨"SudokuGrader$Solver", "closePlace", "(I)V"⟩, 14), (⟨"SudokuGrader$Solver", "keepAlone", "(II)V"⟩, 14), (⟨"SudokuGrader$Solver", "settle", "()V"⟩, 14), (⟨"SudokuGrader$Solver", "fewest", "()I"⟩, 14), (⟨"SudokuGrader$Solver", "keepAnswer", "()V"⟩, 14), (⟨"SudokuGraderModel", "begin", "()V"⟩, 42), (⟨"SudokuGraderModel", "stepped", "()Z"⟩, 42), (⟨"SudokuGraderModel", "findsOne", "([II)Z"⟩, 42), (⟨"SudokuGraderModel", "found", "([IIII)Z"⟩, 42), (⟨"SudokuGraderModel", "instance", "([IIII)I"⟩, 42), (⟨"SudokuGraderModel", "clear", "()V"⟩, 42), (⟨"SudokuGraderModel", "single", "([III)Z"⟩, 42), (⟨"SudokuGraderModel", "hiddenOne", "([III)Z"⟩, 42), (⟨"SudokuGraderModel", "pointing", "([III)Z"⟩, 42), (⟨"SudokuGraderModel", "claiming", "([III)Z"⟩, 42), (⟨"SudokuGraderModel", "naked", "([IIII)Z"⟩, 42)]
theorem lw_r3 : ∀ q ∈ lw_privs_3, lw_okq q := List.forall_mem_cons.mpr ⟨lw_p32, List.forall_mem_cons.mpr ⟨lw_p33, List.forall_mem_cons.mpr ⟨lw_p34, List.forall_mem_cons.mpr ⟨lw_p35, List.forall_mem_cons.mpr ⟨lw_p36, List.forall_mem_cons.mpr ⟨lw_p37, List.forall_mem_cons.mpr ⟨lw_p38, List.forall_mem_cons.mpr ⟨lw_p39, List.forall_mem_cons.mpr ⟨lw_p40, List.forall_mem_cons.mpr ⟨lw_p41, List.forall_mem_cons.mpr ⟨lw_p42, List.forall_mem_cons.mpr ⟨lw_p43, List.forall_mem_cons.mpr ⟨lw_p44, List.forall_mem_cons.mpr ⟨lw_p45, List.forall_mem_cons.mpr ⟨lw_p46, List.forall_mem_cons.mpr ⟨lw_p47, fun _ h => absurd h List.not_mem_nil⟩⟩⟩⟩⟩⟩⟩⟩⟩⟩⟩⟩⟩⟩⟩⟩
theorem lw_p48 : lw_okq (⟨"SudokuGraderModel", "hidden", "([IIII)Z"⟩, 42) := ⟨⟨by decide +kernel, by decide +kernel⟩, List.mem_of_getElem? (i := 704) (by decide +kernel), List.mem_of_getElem? (i := 919) (by decide +kernel), List.mem_of_getElem? (i := 920) (by decide +kernel)⟩
theorem lw_p49 : lw_okq (⟨"SudokuGraderModel", "fish", "([IIII)Z"⟩, 42) := ⟨⟨by decide +kernel, by decide +kernel⟩, List.mem_of_getElem? (i := 704) (by decide +kernel), List.mem_of_getElem? (i := 923) (by decide +kernel), List.mem_of_getElem? (i := 924) (by decide +kernel)⟩
theorem lw_p50 : lw_okq (⟨"SudokuGraderModel", "there", "([I)I"⟩, 42) := ⟨⟨by decide +kernel, by decide +kernel⟩, List.mem_of_getElem? (i := 704) (by decide +kernel), List.mem_of_getElem? (i := 927) (by decide +kernel), List.mem_of_getElem? (i := 928) (by decide +kernel)⟩
theorem lw_p51 : lw_okq (⟨"SudokuGraderModel", "findsSome", "([II)Z"⟩, 42) := ⟨⟨by decide +kernel, by decide +kernel⟩, List.mem_of_getElem? (i := 704) (by decide +kernel), List.mem_of_getElem? (i := 931) (by decide +kernel), List.mem_of_getElem? (i := 932) (by decide +kernel)⟩
theorem lw_p52 : lw_okq (⟨"SudokuGraderModel", "takes", "(II)V"⟩, 42) := ⟨⟨by decide +kernel, by decide +kernel⟩, List.mem_of_getElem? (i := 704) (by decide +kernel), List.mem_of_getElem? (i := 935) (by decide +kernel), List.mem_of_getElem? (i := 936) (by decide +kernel)⟩
theorem lw_p53 : lw_okq (⟨"SudokuGraderModel", "goes", "([I)V"⟩, 42) := ⟨⟨by decide +kernel, by decide +kernel⟩, List.mem_of_getElem? (i := 704) (by decide +kernel), List.mem_of_getElem? (i := 939) (by decide +kernel), List.mem_of_getElem? (i := 940) (by decide +kernel)⟩
theorem lw_p54 : lw_okq (⟨"SudokuGraderModel", "chain", "([I)I"⟩, 42) := ⟨⟨by decide +kernel, by decide +kernel⟩, List.mem_of_getElem? (i := 704) (by decide +kernel), List.mem_of_getElem? (i := 946) (by decide +kernel), List.mem_of_getElem? (i := 947) (by decide +kernel)⟩
theorem lw_p55 : lw_okq (⟨"SudokuGraderModel", "links", "([I)V"⟩, 42) := ⟨⟨by decide +kernel, by decide +kernel⟩, List.mem_of_getElem? (i := 704) (by decide +kernel), List.mem_of_getElem? (i := 950) (by decide +kernel), List.mem_of_getElem? (i := 951) (by decide +kernel)⟩
theorem lw_p56 : lw_okq (⟨"SudokuGraderModel", "link", "([III)V"⟩, 42) := ⟨⟨by decide +kernel, by decide +kernel⟩, List.mem_of_getElem? (i := 704) (by decide +kernel), List.mem_of_getElem? (i := 957) (by decide +kernel), List.mem_of_getElem? (i := 958) (by decide +kernel)⟩
theorem lw_p57 : lw_okq (⟨"SudokuGraderModel", "goesBy", "(II)Z"⟩, 42) := ⟨⟨by decide +kernel, by decide +kernel⟩, List.mem_of_getElem? (i := 704) (by decide +kernel), List.mem_of_getElem? (i := 970) (by decide +kernel), List.mem_of_getElem? (i := 971) (by decide +kernel)⟩
theorem lw_p58 : lw_okq (⟨"SudokuGraderModel", "image", "([JI[J[JI)V"⟩, 42) := ⟨⟨by decide +kernel, by decide +kernel⟩, List.mem_of_getElem? (i := 704) (by decide +kernel), List.mem_of_getElem? (i := 974) (by decide +kernel), List.mem_of_getElem? (i := 975) (by decide +kernel)⟩
theorem lw_p59 : lw_okq (⟨"SudokuGraderModel", "rowOf", "(II)V"⟩, 42) := ⟨⟨by decide +kernel, by decide +kernel⟩, List.mem_of_getElem? (i := 704) (by decide +kernel), List.mem_of_getElem? (i := 981) (by decide +kernel), List.mem_of_getElem? (i := 982) (by decide +kernel)⟩
theorem lw_p60 : lw_okq (⟨"SudokuGraderModel", "byRow", "([I[III)I"⟩, 42) := ⟨⟨by decide +kernel, by decide +kernel⟩, List.mem_of_getElem? (i := 704) (by decide +kernel), List.mem_of_getElem? (i := 985) (by decide +kernel), List.mem_of_getElem? (i := 986) (by decide +kernel)⟩
theorem lw_p61 : lw_okq (⟨"SudokuGraderModel", "meets", "()V"⟩, 42) := ⟨⟨by decide +kernel, by decide +kernel⟩, List.mem_of_getElem? (i := 704) (by decide +kernel), List.mem_of_getElem? (i := 1025) (by decide +kernel), List.mem_of_getElem? (i := 1026) (by decide +kernel)⟩
theorem lw_p62 : lw_okq (⟨"SudokuGraderModel", "closes", "()V"⟩, 42) := ⟨⟨by decide +kernel, by decide +kernel⟩, List.mem_of_getElem? (i := 704) (by decide +kernel), List.mem_of_getElem? (i := 1029) (by decide +kernel), List.mem_of_getElem? (i := 1030) (by decide +kernel)⟩
theorem lw_p63 : lw_okq (⟨"SudokuGraderModel", "isDead", "()Z"⟩, 42) := ⟨⟨by decide +kernel, by decide +kernel⟩, List.mem_of_getElem? (i := 704) (by decide +kernel), List.mem_of_getElem? (i := 1033) (by decide +kernel), List.mem_of_getElem? (i := 1034) (by decide +kernel)⟩
def lw_privs_4 : List (MethodName × Nat) := [(⟨"SudokuGraderModel", "hidden", "([IIII)Z"⟩, 42), (⟨"SudokuGraderModel", "fish", "([IIII)Z"⟩, 42), (⟨"SudokuGraderModel", "there", "([I)I"⟩, 42), (⟨"SudokuGraderModel", "findsSome", "([II)Z"⟩, 42), (⟨"SudokuGraderModel", "takes", "(II)V"⟩, 42), (⟨"SudokuGraderModel", "goes", "([I)V"⟩, 42), (⟨"SudokuGraderModel", "chain", "([I)I"⟩, 42), (⟨"SudokuGraderModel", "links", "([I)V"⟩, 42), (⟨"SudokuGraderModel", "link", "([III)V"⟩, 42), (⟨"SudokuGraderModel", "goesBy", "(II)Z"⟩, 42), (⟨"SudokuGraderModel", "image", "([JI[J[JI)V"⟩, 42), (⟨"SudokuGraderModel", "rowOf", "(II)V"⟩, 42), (⟨"SudokuGraderModel", "byRow", "([I[III)I"⟩, 42), (⟨"SudokuGraderModel", "meets", "()V"⟩, 42), (⟨"SudokuGraderModel", "closes", "()V"⟩, 42), (⟨"SudokuGraderModel", "isDead", "()Z"⟩, 42)]
theorem lw_r4 : ∀ q ∈ lw_privs_4, lw_okq q := List.forall_mem_cons.mpr ⟨lw_p48, List.forall_mem_cons.mpr ⟨lw_p49, List.forall_mem_cons.mpr ⟨lw_p50, List.forall_mem_cons.mpr ⟨lw_p51, List.forall_mem_cons.mpr ⟨lw_p52, List.forall_mem_cons.mpr ⟨lw_p53, List.forall_mem_cons.mpr ⟨lw_p54, List.forall_mem_cons.mpr ⟨lw_p55, List.forall_mem_cons.mpr ⟨lw_p56, List.forall_mem_cons.mpr ⟨lw_p57, List.forall_mem_cons.mpr ⟨lw_p58, List.forall_mem_cons.mpr ⟨lw_p59, List.forall_mem_cons.mpr ⟨lw_p60, List.forall_mem_cons.mpr ⟨lw_p61, List.forall_mem_cons.mpr ⟨lw_p62, List.forall_mem_cons.mpr ⟨lw_p63, fun _ h => absurd h List.not_mem_nil⟩⟩⟩⟩⟩⟩⟩⟩⟩⟩⟩⟩⟩⟩⟩⟩
theorem lw_p64 : lw_okq (⟨"SudokuGraderModel", "leaves", "()V"⟩, 42) := ⟨⟨by decide +kernel, by decide +kernel⟩, List.mem_of_getElem? (i := 704) (by decide +kernel), List.mem_of_getElem? (i := 1037) (by decide +kernel), List.mem_of_getElem? (i := 1038) (by decide +kernel)⟩
def lw_privs_5 : List (MethodName × Nat) := [(⟨"SudokuGraderModel", "leaves", "()V"⟩, 42)]
theorem lw_r5 : ∀ q ∈ lw_privs_5, lw_okq q := List.forall_mem_cons.mpr ⟨lw_p64, fun _ h => absurd h List.not_mem_nil⟩
def lw_privs : List (MethodName × Nat) := lw_privs_1 ++ (lw_privs_2 ++ (lw_privs_3 ++ (lw_privs_4 ++ (lw_privs_5))))
def lw_tbl : List Cond := k2_sels lw_privs ++ tables_1
theorem lw_privs_ok : ∀ q ∈ lw_privs, lw_okq q := by
  show ∀ q ∈ lw_privs_1 ++ (lw_privs_2 ++ (lw_privs_3 ++ (lw_privs_4 ++ (lw_privs_5)))), lw_okq q
  exact List.forall_mem_append.mpr ⟨lw_r1, List.forall_mem_append.mpr ⟨lw_r2, List.forall_mem_append.mpr ⟨lw_r3, List.forall_mem_append.mpr ⟨lw_r4, lw_r5⟩⟩⟩⟩
def RX0 : String := "SudokuGrader$Board"
def TX0 : u_T := fun k => match k with
  | 0 => ("SudokuGrader$Board", "shape", "LSudokuGrader$Shape;", true)
  | 1 => ("SudokuGrader$Board", "cells", "[I", true)
  | 2 => ("SudokuGrader$Board", "places", "[I", true)
  | 3 => ("SudokuGrader$Board", "log", "[I", true)
  | _ => ("SudokuGrader$Board", "logged", "I", false)
def tyX0 : Nat → FieldType := fun k => match k with
  | 0 => .object "SudokuGrader$Shape"
  | 1 => .array .int
  | 2 => .array .int
  | 3 => .array .int
  | _ => .int
abbrev wsX00 : List Cond := u_ws RX0 TX0 5
theorem nmX0 : ∀ a, a < 5 → ∀ b, b < 5 → a ≠ b → (TX0 a).2.1 ≠ (TX0 b).2.1 := by decide +kernel
theorem tyX0_ok : ∀ k, k < 5 → parseFieldDescriptor (TX0 k).2.2.1 = some (tyX0 k) := by decide +kernel
abbrev cX0_init : ByteArray := prog_2_method_1_code
def yX0_init : MethodName := ⟨RX0, "<init>", "(LSudokuGrader$Shape;)V"⟩
abbrev cX0_start : ByteArray := prog_2_method_2_code
def yX0_start : MethodName := ⟨RX0, "start", "([I)V"⟩
abbrev cX0_has : ByteArray := prog_2_method_3_code
def yX0_has : MethodName := ⟨RX0, "has", "(I)Z"⟩
abbrev cX0_logAt : ByteArray := prog_2_method_4_code
def yX0_logAt : MethodName := ⟨RX0, "logAt", "(I)I"⟩
abbrev cX0_drop : ByteArray := prog_2_method_5_code
def yX0_drop : MethodName := ⟨RX0, "drop", "(I)V"⟩
abbrev cX0_undo : ByteArray := prog_2_method_6_code
def yX0_undo : MethodName := ⟨RX0, "undo", "(I)V"⟩
abbrev cX0_flip : ByteArray := prog_2_method_7_code
def yX0_flip : MethodName := ⟨RX0, "flip", "(I)V"⟩
def RX1 : String := "SudokuGrader$Chains"
def TX1 : u_T := fun k => match k with
  | 0 => ("SudokuGrader$Chains", "shape", "LSudokuGrader$Shape;", true)
  | 1 => ("SudokuGrader$Chains", "going", "LSudokuGrader$Going;", true)
  | 2 => ("SudokuGrader$Chains", "strong", "[I", true)
  | 3 => ("SudokuGrader$Chains", "strongCount", "[I", true)
  | 4 => ("SudokuGrader$Chains", "weak", "[I", true)
  | 5 => ("SudokuGrader$Chains", "weakCount", "I", false)
  | 6 => ("SudokuGrader$Chains", "weakToFirst", "[I", true)
  | 7 => ("SudokuGrader$Chains", "headSeen", "[I", true)
  | 8 => ("SudokuGrader$Chains", "tailSeen", "[I", true)
  | 9 => ("SudokuGrader$Chains", "tailBefore", "[I", true)
  | 10 => ("SudokuGrader$Chains", "headBefore", "[I", true)
  | 11 => ("SudokuGrader$Chains", "pairs", "[I", true)
  | 12 => ("SudokuGrader$Chains", "queue", "[I", true)
  | 13 => ("SudokuGrader$Chains", "queued", "I", false)
  | 14 => ("SudokuGrader$Chains", "stamp", "I", false)
  | 15 => ("SudokuGrader$Chains", "chain", "[I", true)
  | _ => ("SudokuGrader$Chains", "count", "I", false)
def tyX1 : Nat → FieldType := fun k => match k with
  | 0 => .object "SudokuGrader$Shape"
  | 1 => .object "SudokuGrader$Going"
  | 2 => .array .int
  | 3 => .array .int
  | 4 => .array .int
  | 5 => .int
  | 6 => .array .int
  | 7 => .array .int
  | 8 => .array .int
  | 9 => .array .int
  | 10 => .array .int
  | 11 => .array .int
  | 12 => .array .int
  | 13 => .int
  | 14 => .int
  | 15 => .array .int
  | _ => .int
abbrev wsX10 : List Cond := u_ws RX1 TX1 17
theorem nmX1 : ∀ a, a < 17 → ∀ b, b < 17 → a ≠ b → (TX1 a).2.1 ≠ (TX1 b).2.1 := by decide +kernel
theorem tyX1_ok : ∀ k, k < 17 → parseFieldDescriptor (TX1 k).2.2.1 = some (tyX1 k) := by decide +kernel
abbrev cX1_init : ByteArray := prog_3_method_1_code
def yX1_init : MethodName := ⟨RX1, "<init>", "(LSudokuGrader$Shape;LSudokuGrader$Going;)V"⟩
abbrev cX1_mark : ByteArray := prog_3_method_2_code
def yX1_mark : MethodName := ⟨RX1, "mark", "(LSudokuGrader$Board;[III)I"⟩
abbrev cX1_markFirst : ByteArray := prog_3_method_3_code
def yX1_markFirst : MethodName := ⟨RX1, "markFirst", "(LSudokuGrader$Board;)I"⟩
abbrev cX1_reach : ByteArray := prog_3_method_4_code
def yX1_reach : MethodName := ⟨RX1, "reach", "(LSudokuGrader$Board;II)I"⟩
abbrev cX1_meetsFirst : ByteArray := prog_3_method_5_code
def yX1_meetsFirst : MethodName := ⟨RX1, "meetsFirst", "()Z"⟩
abbrev cX1_addHeads : ByteArray := prog_3_method_6_code
def yX1_addHeads : MethodName := ⟨RX1, "addHeads", "(I)V"⟩
abbrev cX1_addTails : ByteArray := prog_3_method_7_code
def yX1_addTails : MethodName := ⟨RX1, "addTails", "(II)V"⟩
abbrev cX1_writeChain : ByteArray := prog_3_method_8_code
def yX1_writeChain : MethodName := ⟨RX1, "writeChain", "(I)V"⟩
abbrev cX1_listWeak : ByteArray := prog_3_method_9_code
def yX1_listWeak : MethodName := ⟨RX1, "listWeak", "(LSudokuGrader$Board;I)V"⟩
abbrev cX1_listAllStrong : ByteArray := prog_3_method_10_code
def yX1_listAllStrong : MethodName := ⟨RX1, "listAllStrong", "(LSudokuGrader$Board;)V"⟩
abbrev cX1_addStrongPair : ByteArray := prog_3_method_11_code
def yX1_addStrongPair : MethodName := ⟨RX1, "addStrongPair", "(II)V"⟩
abbrev cX1_addStrong : ByteArray := prog_3_method_12_code
def yX1_addStrong : MethodName := ⟨RX1, "addStrong", "(II)V"⟩
abbrev cX1_areWeak : ByteArray := prog_3_method_13_code
def yX1_areWeak : MethodName := ⟨RX1, "areWeak", "(LSudokuGrader$Board;II)Z"⟩
abbrev cX1_areStrong : ByteArray := prog_3_method_14_code
def yX1_areStrong : MethodName := ⟨RX1, "areStrong", "(LSudokuGrader$Board;II)Z"⟩
def RX2 : String := "SudokuGrader$Going"
def TX2 : u_T := fun k => match k with
  | 0 => ("SudokuGrader$Going", "shape", "LSudokuGrader$Shape;", true)
  | 1 => ("SudokuGrader$Going", "held", "[I", true)
  | _ => ("SudokuGrader$Going", "count", "I", false)
def tyX2 : Nat → FieldType := fun k => match k with
  | 0 => .object "SudokuGrader$Shape"
  | 1 => .array .int
  | _ => .int
abbrev wsX20 : List Cond := u_ws RX2 TX2 3
theorem nmX2 : ∀ a, a < 3 → ∀ b, b < 3 → a ≠ b → (TX2 a).2.1 ≠ (TX2 b).2.1 := by decide +kernel
theorem tyX2_ok : ∀ k, k < 3 → parseFieldDescriptor (TX2 k).2.2.1 = some (tyX2 k) := by decide +kernel
abbrev cX2_init : ByteArray := prog_4_method_1_code
def yX2_init : MethodName := ⟨RX2, "<init>", "(LSudokuGrader$Shape;)V"⟩
abbrev cX2_add : ByteArray := prog_4_method_2_code
def yX2_add : MethodName := ⟨RX2, "add", "(LSudokuGrader$Board;II)V"⟩
abbrev cX2_addPlaces : ByteArray := prog_4_method_3_code
def yX2_addPlaces : MethodName := ⟨RX2, "addPlaces", "(LSudokuGrader$Board;III)V"⟩
abbrev cX2_leave : ByteArray := prog_4_method_4_code
def yX2_leave : MethodName := ⟨RX2, "leave", "(LSudokuGrader$Board;)V"⟩
def RX3 : String := "SudokuGrader$Rules"
def TX3 : u_T := fun k => match k with
  | 0 => ("SudokuGrader$Rules", "shape", "LSudokuGrader$Shape;", true)
  | 1 => ("SudokuGrader$Rules", "going", "LSudokuGrader$Going;", true)
  | 2 => ("SudokuGrader$Rules", "subsets", "LSudokuGrader$Subsets;", true)
  | 3 => ("SudokuGrader$Rules", "foundP", "I", false)
  | _ => ("SudokuGrader$Rules", "foundQ", "I", false)
def tyX3 : Nat → FieldType := fun k => match k with
  | 0 => .object "SudokuGrader$Shape"
  | 1 => .object "SudokuGrader$Going"
  | 2 => .object "SudokuGrader$Subsets"
  | 3 => .int
  | _ => .int
abbrev wsX30 : List Cond := u_ws RX3 TX3 5
theorem nmX3 : ∀ a, a < 5 → ∀ b, b < 5 → a ≠ b → (TX3 a).2.1 ≠ (TX3 b).2.1 := by decide +kernel
theorem tyX3_ok : ∀ k, k < 5 → parseFieldDescriptor (TX3 k).2.2.1 = some (tyX3 k) := by decide +kernel
abbrev cX3_init : ByteArray := prog_5_method_1_code
def yX3_init : MethodName := ⟨RX3, "<init>", "(LSudokuGrader$Shape;LSudokuGrader$Going;)V"⟩
abbrev cX3_markFirst : ByteArray := prog_5_method_2_code
def yX3_markFirst : MethodName := ⟨RX3, "markFirst", "(LSudokuGrader$Board;I)I"⟩
abbrev cX3_markFirstSubset : ByteArray := prog_5_method_3_code
def yX3_markFirstSubset : MethodName := ⟨RX3, "markFirstSubset", "(LSudokuGrader$Board;I)I"⟩
abbrev cX3_mark : ByteArray := prog_5_method_4_code
def yX3_mark : MethodName := ⟨RX3, "mark", "(LSudokuGrader$Board;III)I"⟩
abbrev cX3_markSingle : ByteArray := prog_5_method_5_code
def yX3_markSingle : MethodName := ⟨RX3, "markSingle", "(LSudokuGrader$Board;II)V"⟩
abbrev cX3_markHidden : ByteArray := prog_5_method_6_code
def yX3_markHidden : MethodName := ⟨RX3, "markHidden", "(LSudokuGrader$Board;II)V"⟩
abbrev cX3_markPointing : ByteArray := prog_5_method_7_code
def yX3_markPointing : MethodName := ⟨RX3, "markPointing", "(LSudokuGrader$Board;II)V"⟩
abbrev cX3_markClaiming : ByteArray := prog_5_method_8_code
def yX3_markClaiming : MethodName := ⟨RX3, "markClaiming", "(LSudokuGrader$Board;II)V"⟩
abbrev cX3_markClaimed : ByteArray := prog_5_method_9_code
def yX3_markClaimed : MethodName := ⟨RX3, "markClaimed", "(LSudokuGrader$Board;III)V"⟩
def RX4 : String := "SudokuGrader$Shape"
def TX4 : u_T := fun k => match k with
  | 0 => ("SudokuGrader$Shape", "member", "[I", true)
  | 1 => ("SudokuGrader$Shape", "houseOf", "[I", true)
  | 2 => ("SudokuGrader$Shape", "positionOf", "[I", true)
  | _ => ("SudokuGrader$Shape", "near", "[I", true)
def tyX4 : Nat → FieldType := fun k => match k with
  | 0 => .array .int
  | 1 => .array .int
  | 2 => .array .int
  | _ => .array .int
abbrev wsX40 : List Cond := u_ws RX4 TX4 4
theorem nmX4 : ∀ a, a < 4 → ∀ b, b < 4 → a ≠ b → (TX4 a).2.1 ≠ (TX4 b).2.1 := by decide +kernel
theorem tyX4_ok : ∀ k, k < 4 → parseFieldDescriptor (TX4 k).2.2.1 = some (tyX4 k) := by decide +kernel
abbrev cX4_init : ByteArray := prog_6_method_1_code
def yX4_init : MethodName := ⟨RX4, "<init>", "()V"⟩
abbrev cX4_enter : ByteArray := prog_6_method_2_code
def yX4_enter : MethodName := ⟨RX4, "enter", "(IIII)V"⟩
abbrev cX4_listNear : ByteArray := prog_6_method_3_code
def yX4_listNear : MethodName := ⟨RX4, "listNear", "(I)V"⟩
abbrev cX4_shareHouse : ByteArray := prog_6_method_4_code
def yX4_shareHouse : MethodName := ⟨RX4, "shareHouse", "(II)Z"⟩
def RX5 : String := "SudokuGrader$Solver"
def TX5 : u_T := fun k => match k with
  | 0 => ("SudokuGrader$Solver", "shape", "LSudokuGrader$Shape;", true)
  | 1 => ("SudokuGrader$Solver", "board", "LSudokuGrader$Board;", true)
  | 2 => ("SudokuGrader$Solver", "events", "[I", true)
  | 3 => ("SudokuGrader$Solver", "eventCount", "I", false)
  | 4 => ("SudokuGrader$Solver", "dead", "Z", false)
  | 5 => ("SudokuGrader$Solver", "tryCell", "[I", true)
  | 6 => ("SudokuGrader$Solver", "tryLeft", "[I", true)
  | 7 => ("SudokuGrader$Solver", "tryMark", "[I", true)
  | 8 => ("SudokuGrader$Solver", "depth", "I", false)
  | 9 => ("SudokuGrader$Solver", "begun", "Z", false)
  | 10 => ("SudokuGrader$Solver", "ended", "Z", false)
  | 11 => ("SudokuGrader$Solver", "tries", "I", false)
  | 12 => ("SudokuGrader$Solver", "found", "I", false)
  | _ => ("SudokuGrader$Solver", "answers", "[I", true)
def tyX5 : Nat → FieldType := fun k => match k with
  | 0 => .object "SudokuGrader$Shape"
  | 1 => .object "SudokuGrader$Board"
  | 2 => .array .int
  | 3 => .int
  | 4 => .boolean
  | 5 => .array .int
  | 6 => .array .int
  | 7 => .array .int
  | 8 => .int
  | 9 => .boolean
  | 10 => .boolean
  | 11 => .int
  | 12 => .int
  | _ => .array .int
abbrev wsX50 : List Cond := u_ws RX5 TX5 14
theorem nmX5 : ∀ a, a < 14 → ∀ b, b < 14 → a ≠ b → (TX5 a).2.1 ≠ (TX5 b).2.1 := by decide +kernel
theorem tyX5_ok : ∀ k, k < 14 → parseFieldDescriptor (TX5 k).2.2.1 = some (tyX5 k) := by decide +kernel
abbrev cX5_init : ByteArray := prog_7_method_1_code
def yX5_init : MethodName := ⟨RX5, "<init>", "(LSudokuGrader$Shape;)V"⟩
abbrev cX5_forget : ByteArray := prog_7_method_2_code
def yX5_forget : MethodName := ⟨RX5, "forget", "()V"⟩
abbrev cX5_begin : ByteArray := prog_7_method_3_code
def yX5_begin : MethodName := ⟨RX5, "begin", "([I)V"⟩
abbrev cX5_tryNext : ByteArray := prog_7_method_4_code
def yX5_tryNext : MethodName := ⟨RX5, "tryNext", "()V"⟩
abbrev cX5_close : ByteArray := prog_7_method_5_code
def yX5_close : MethodName := ⟨RX5, "close", "()V"⟩
abbrev cX5_closeCell : ByteArray := prog_7_method_6_code
def yX5_closeCell : MethodName := ⟨RX5, "closeCell", "(I)V"⟩
abbrev cX5_closePlace : ByteArray := prog_7_method_7_code
def yX5_closePlace : MethodName := ⟨RX5, "closePlace", "(I)V"⟩
abbrev cX5_keepAlone : ByteArray := prog_7_method_8_code
def yX5_keepAlone : MethodName := ⟨RX5, "keepAlone", "(II)V"⟩
abbrev cX5_remove : ByteArray := prog_7_method_9_code
def yX5_remove : MethodName := ⟨RX5, "remove", "(II)V"⟩
abbrev cX5_noteCount : ByteArray := prog_7_method_10_code
def yX5_noteCount : MethodName := ⟨RX5, "noteCount", "(II)V"⟩
abbrev cX5_settle : ByteArray := prog_7_method_11_code
def yX5_settle : MethodName := ⟨RX5, "settle", "()V"⟩
abbrev cX5_fewest : ByteArray := prog_7_method_12_code
def yX5_fewest : MethodName := ⟨RX5, "fewest", "()I"⟩
abbrev cX5_keepAnswer : ByteArray := prog_7_method_13_code
def yX5_keepAnswer : MethodName := ⟨RX5, "keepAnswer", "()V"⟩
def RX6 : String := "SudokuGrader$Subsets"
def TX6 : u_T := fun k => match k with
  | 0 => ("SudokuGrader$Subsets", "shape", "LSudokuGrader$Shape;", true)
  | 1 => ("SudokuGrader$Subsets", "going", "LSudokuGrader$Going;", true)
  | _ => ("SudokuGrader$Subsets", "masks", "[I", true)
def tyX6 : Nat → FieldType := fun k => match k with
  | 0 => .object "SudokuGrader$Shape"
  | 1 => .object "SudokuGrader$Going"
  | _ => .array .int
abbrev wsX60 : List Cond := u_ws RX6 TX6 3
theorem nmX6 : ∀ a, a < 3 → ∀ b, b < 3 → a ≠ b → (TX6 a).2.1 ≠ (TX6 b).2.1 := by decide +kernel
theorem tyX6_ok : ∀ k, k < 3 → parseFieldDescriptor (TX6 k).2.2.1 = some (tyX6 k) := by decide +kernel
abbrev cX6_init : ByteArray := prog_8_method_1_code
def yX6_init : MethodName := ⟨RX6, "<init>", "(LSudokuGrader$Shape;LSudokuGrader$Going;)V"⟩
abbrev cX6_first : ByteArray := prog_8_method_2_code
def yX6_first : MethodName := ⟨RX6, "first", "(LSudokuGrader$Board;II)I"⟩
abbrev cX6_mark : ByteArray := prog_8_method_3_code
def yX6_mark : MethodName := ⟨RX6, "mark", "(LSudokuGrader$Board;III)I"⟩
abbrev cX6_markFrom : ByteArray := prog_8_method_4_code
def yX6_markFrom : MethodName := ⟨RX6, "markFrom", "(LSudokuGrader$Board;IIII)V"⟩
abbrev cX6_load : ByteArray := prog_8_method_5_code
def yX6_load : MethodName := ⟨RX6, "load", "(LSudokuGrader$Board;II)Z"⟩
abbrev cX6_fishDigit : ByteArray := prog_8_method_6_code
def yX6_fishDigit : MethodName := ⟨RX6, "fishDigit", "(I)I"⟩
abbrev cX6_baseLine : ByteArray := prog_8_method_7_code
def yX6_baseLine : MethodName := ⟨RX6, "baseLine", "(II)I"⟩
abbrev cX6_pick : ByteArray := prog_8_method_8_code
def yX6_pick : MethodName := ⟨RX6, "pick", "(IIIII)I"⟩
abbrev cX6_touchesOthers : ByteArray := prog_8_method_9_code
def yX6_touchesOthers : MethodName := ⟨RX6, "touchesOthers", "(II)Z"⟩
def RX7 : String := "SudokuGrader$Trace"
def TX7 : u_T := fun k => match k with
  | 0 => ("SudokuGrader$Trace", "rule", "[I", true)
  | 1 => ("SudokuGrader$Trace", "p", "[I", true)
  | 2 => ("SudokuGrader$Trace", "q", "[I", true)
  | 3 => ("SudokuGrader$Trace", "goneFrom", "[I", true)
  | 4 => ("SudokuGrader$Trace", "went", "[I", true)
  | 5 => ("SudokuGrader$Trace", "linkFrom", "[I", true)
  | 6 => ("SudokuGrader$Trace", "linkCount", "[I", true)
  | 7 => ("SudokuGrader$Trace", "links", "[I", true)
  | 8 => ("SudokuGrader$Trace", "linked", "I", false)
  | 9 => ("SudokuGrader$Trace", "size", "I", false)
  | 10 => ("SudokuGrader$Trace", "score", "I", false)
  | _ => ("SudokuGrader$Trace", "level", "I", false)
def tyX7 : Nat → FieldType := fun k => match k with
  | 0 => .array .int
  | 1 => .array .int
  | 2 => .array .int
  | 3 => .array .int
  | 4 => .array .int
  | 5 => .array .int
  | 6 => .array .int
  | 7 => .array .int
  | 8 => .int
  | 9 => .int
  | 10 => .int
  | _ => .int
abbrev wsX70 : List Cond := u_ws RX7 TX7 12
theorem nmX7 : ∀ a, a < 12 → ∀ b, b < 12 → a ≠ b → (TX7 a).2.1 ≠ (TX7 b).2.1 := by decide +kernel
theorem tyX7_ok : ∀ k, k < 12 → parseFieldDescriptor (TX7 k).2.2.1 = some (tyX7 k) := by decide +kernel
abbrev cX7_init : ByteArray := prog_9_method_1_code
def yX7_init : MethodName := ⟨RX7, "<init>", "()V"⟩
abbrev cX7_forget : ByteArray := prog_9_method_2_code
def yX7_forget : MethodName := ⟨RX7, "forget", "()V"⟩
abbrev cX7_has : ByteArray := prog_9_method_3_code
def yX7_has : MethodName := ⟨RX7, "has", "(I)Z"⟩
abbrev cX7_linkAt : ByteArray := prog_9_method_4_code
def yX7_linkAt : MethodName := ⟨RX7, "linkAt", "(I)I"⟩
abbrev cX7_write : ByteArray := prog_9_method_5_code
def yX7_write : MethodName := ⟨RX7, "write", "(IIIII)V"⟩
abbrev cX7_writeLinks : ByteArray := prog_9_method_6_code
def yX7_writeLinks : MethodName := ⟨RX7, "writeLinks", "([II)V"⟩
def RX8 : String := "SudokuGrader"
def TX8 : u_T := fun k => match k with
  | 0 => ("SudokuGrader", "given", "[I", true)
  | 1 => ("SudokuGrader", "now", "LSudokuGrader$Board;", true)
  | 2 => ("SudokuGrader", "checked", "LSudokuGrader$Board;", true)
  | 3 => ("SudokuGrader", "going", "LSudokuGrader$Going;", true)
  | 4 => ("SudokuGrader", "rules", "LSudokuGrader$Rules;", true)
  | 5 => ("SudokuGrader", "chains", "LSudokuGrader$Chains;", true)
  | 6 => ("SudokuGrader", "trace", "LSudokuGrader$Trace;", true)
  | 7 => ("SudokuGrader", "solver", "LSudokuGrader$Solver;", true)
  | 8 => ("SudokuGrader", "putNodes", "[I", true)
  | 9 => ("SudokuGrader", "putCount", "I", false)
  | _ => ("SudokuGrader", "gradingEnded", "Z", false)
def tyX8 : Nat → FieldType := fun k => match k with
  | 0 => .array .int
  | 1 => .object "SudokuGrader$Board"
  | 2 => .object "SudokuGrader$Board"
  | 3 => .object "SudokuGrader$Going"
  | 4 => .object "SudokuGrader$Rules"
  | 5 => .object "SudokuGrader$Chains"
  | 6 => .object "SudokuGrader$Trace"
  | 7 => .object "SudokuGrader$Solver"
  | 8 => .array .int
  | 9 => .int
  | _ => .boolean
abbrev wsX80 : List Cond := u_ws RX8 TX8 11
theorem nmX8 : ∀ a, a < 11 → ∀ b, b < 11 → a ≠ b → (TX8 a).2.1 ≠ (TX8 b).2.1 := by decide +kernel
theorem tyX8_ok : ∀ k, k < 11 → parseFieldDescriptor (TX8 k).2.2.1 = some (tyX8 k) := by decide +kernel
abbrev cX8_init : ByteArray := prog_1_method_1_code
def yX8_init : MethodName := ⟨RX8, "<init>", "()V"⟩
abbrev cX8_give : ByteArray := prog_1_method_2_code
def yX8_give : MethodName := ⟨RX8, "give", "(II)Z"⟩
abbrev cX8_row : ByteArray := prog_1_method_3_code
def yX8_row : MethodName := ⟨RX8, "row", "(II)Z"⟩
abbrev cX8_grade : ByteArray := prog_1_method_4_code
def yX8_grade : MethodName := ⟨RX8, "grade", "(I)I"⟩
abbrev cX8_candidates : ByteArray := prog_1_method_5_code
def yX8_candidates : MethodName := ⟨RX8, "candidates", "(II)I"⟩
abbrev cX8_told : ByteArray := prog_1_method_6_code
def yX8_told : MethodName := ⟨RX8, "told", "(I)I"⟩
abbrev cX8_step : ByteArray := prog_1_method_7_code
def yX8_step : MethodName := ⟨RX8, "step", "(II)I"⟩
abbrev cX8_gone : ByteArray := prog_1_method_8_code
def yX8_gone : MethodName := ⟨RX8, "gone", "(II)I"⟩
abbrev cX8_link : ByteArray := prog_1_method_9_code
def yX8_link : MethodName := ⟨RX8, "link", "(II)I"⟩
abbrev cX8_node : ByteArray := prog_1_method_10_code
def yX8_node : MethodName := ⟨RX8, "node", "(I)I"⟩
abbrev cX8_claim : ByteArray := prog_1_method_11_code
def yX8_claim : MethodName := ⟨RX8, "claim", "(III)I"⟩
abbrev cX8_replay : ByteArray := prog_1_method_12_code
def yX8_replay : MethodName := ⟨RX8, "replay", "(I)I"⟩
abbrev cX8_search : ByteArray := prog_1_method_13_code
def yX8_search : MethodName := ⟨RX8, "search", "(I)I"⟩
abbrev cX8_searched : ByteArray := prog_1_method_14_code
def yX8_searched : MethodName := ⟨RX8, "searched", "(I)I"⟩
abbrev cX8_solution : ByteArray := prog_1_method_15_code
def yX8_solution : MethodName := ⟨RX8, "solution", "(II)I"⟩
abbrev cX8_startAnew : ByteArray := prog_1_method_16_code
def yX8_startAnew : MethodName := ⟨RX8, "startAnew", "()V"⟩
abbrev cX8_takeFirstStep : ByteArray := prog_1_method_17_code
def yX8_takeFirstStep : MethodName := ⟨RX8, "takeFirstStep", "()Z"⟩
abbrev cX8_claimWritten : ByteArray := prog_1_method_18_code
def yX8_claimWritten : MethodName := ⟨RX8, "claimWritten", "(I)I"⟩
abbrev cX8_takenAway : ByteArray := prog_1_method_19_code
def yX8_takenAway : MethodName := ⟨RX8, "takenAway", "(I)I"⟩
abbrev cX8_isCell : ByteArray := prog_1_method_20_code
def yX8_isCell : MethodName := ⟨RX8, "isCell", "(I)Z"⟩
abbrev cX8_atFirst : ByteArray := prog_1_method_21_code
def yX8_atFirst : MethodName := ⟨RX8, "atFirst", "(I)I"⟩
abbrev cX8_isOneBit : ByteArray := prog_1_method_22_code
def yX8_isOneBit : MethodName := ⟨RX8, "isOneBit", "(I)Z"⟩
abbrev cX8_placeOf : ByteArray := prog_1_method_23_code
def yX8_placeOf : MethodName := ⟨RX8, "placeOf", "(I)I"⟩
def RX9 : String := "SudokuGraderModel"
def TX9 : u_T := fun k => match k with
  | 0 => ("SudokuGraderModel", "given", "[I", true)
  | 1 => ("SudokuGraderModel", "first", "[I", true)
  | 2 => ("SudokuGraderModel", "now", "[I", true)
  | 3 => ("SudokuGraderModel", "checker", "[I", true)
  | 4 => ("SudokuGraderModel", "gone", "[I", true)
  | 5 => ("SudokuGraderModel", "weak", "[J", true)
  | 6 => ("SudokuGraderModel", "strong", "[J", true)
  | 7 => ("SudokuGraderModel", "there", "[I", true)
  | 8 => ("SudokuGraderModel", "thereMany", "I", false)
  | 9 => ("SudokuGraderModel", "good", "[J", true)
  | 10 => ("SudokuGraderModel", "begins", "[J", true)
  | 11 => ("SudokuGraderModel", "some", "[J", true)
  | 12 => ("SudokuGraderModel", "layer", "[J", true)
  | 13 => ("SudokuGraderModel", "row", "[I", true)
  | 14 => ("SudokuGraderModel", "sRule", "[I", true)
  | 15 => ("SudokuGraderModel", "sP", "[I", true)
  | 16 => ("SudokuGraderModel", "sQ", "[I", true)
  | 17 => ("SudokuGraderModel", "sGone", "[I", true)
  | 18 => ("SudokuGraderModel", "sFrom", "[I", true)
  | 19 => ("SudokuGraderModel", "sLinks", "[I", true)
  | 20 => ("SudokuGraderModel", "went", "[I", true)
  | 21 => ("SudokuGraderModel", "links", "[I", true)
  | 22 => ("SudokuGraderModel", "steps", "I", false)
  | 23 => ("SudokuGraderModel", "wentAll", "I", false)
  | 24 => ("SudokuGraderModel", "score", "I", false)
  | 25 => ("SudokuGraderModel", "level", "I", false)
  | 26 => ("SudokuGraderModel", "isEnded", "Z", false)
  | 27 => ("SudokuGraderModel", "fP", "I", false)
  | 28 => ("SudokuGraderModel", "fQ", "I", false)
  | 29 => ("SudokuGraderModel", "fMany", "I", false)
  | 30 => ("SudokuGraderModel", "nodes", "[I", true)
  | 31 => ("SudokuGraderModel", "put", "I", false)
  | 32 => ("SudokuGraderModel", "level1", "[I", true)
  | 33 => ("SudokuGraderModel", "cellAt", "[I", true)
  | 34 => ("SudokuGraderModel", "triedAt", "[I", true)
  | 35 => ("SudokuGraderModel", "work", "[I", true)
  | 36 => ("SudokuGraderModel", "solved", "[I", true)
  | 37 => ("SudokuGraderModel", "solutions", "I", false)
  | 38 => ("SudokuGraderModel", "tries", "I", false)
  | 39 => ("SudokuGraderModel", "depth", "I", false)
  | 40 => ("SudokuGraderModel", "isBegun", "Z", false)
  | _ => ("SudokuGraderModel", "isOver", "Z", false)
def tyX9 : Nat → FieldType := fun k => match k with
  | 0 => .array .int
  | 1 => .array .int
  | 2 => .array .int
  | 3 => .array .int
  | 4 => .array .int
  | 5 => .array .long
  | 6 => .array .long
  | 7 => .array .int
  | 8 => .int
  | 9 => .array .long
  | 10 => .array .long
  | 11 => .array .long
  | 12 => .array .long
  | 13 => .array .int
  | 14 => .array .int
  | 15 => .array .int
  | 16 => .array .int
  | 17 => .array .int
  | 18 => .array .int
  | 19 => .array .int
  | 20 => .array .int
  | 21 => .array .int
  | 22 => .int
  | 23 => .int
  | 24 => .int
  | 25 => .int
  | 26 => .boolean
  | 27 => .int
  | 28 => .int
  | 29 => .int
  | 30 => .array .int
  | 31 => .int
  | 32 => .array .int
  | 33 => .array .int
  | 34 => .array .int
  | 35 => .array .int
  | 36 => .array .int
  | 37 => .int
  | 38 => .int
  | 39 => .int
  | 40 => .boolean
  | _ => .boolean
abbrev wsX90 : List Cond := u_ws RX9 TX9 42
theorem nmX9 : ∀ a, a < 42 → ∀ b, b < 42 → a ≠ b → (TX9 a).2.1 ≠ (TX9 b).2.1 := by decide +kernel
theorem tyX9_ok : ∀ k, k < 42 → parseFieldDescriptor (TX9 k).2.2.1 = some (tyX9 k) := by decide +kernel
abbrev cX9_init : ByteArray := prog_11_method_1_code
def yX9_init : MethodName := ⟨RX9, "<init>", "()V"⟩
abbrev cX9_in : ByteArray := prog_11_method_2_code
def yX9_in : MethodName := ⟨RX9, "in", "(III)Z"⟩
abbrev cX9_cellOf : ByteArray := prog_11_method_3_code
def yX9_cellOf : MethodName := ⟨RX9, "cellOf", "(II)I"⟩
abbrev cX9_houseOf : ByteArray := prog_11_method_4_code
def yX9_houseOf : MethodName := ⟨RX9, "houseOf", "(II)I"⟩
abbrev cX9_isIn : ByteArray := prog_11_method_5_code
def yX9_isIn : MethodName := ⟨RX9, "isIn", "(II)Z"⟩
abbrev cX9_arePeers : ByteArray := prog_11_method_6_code
def yX9_arePeers : MethodName := ⟨RX9, "arePeers", "(II)Z"⟩
abbrev cX9_bits : ByteArray := prog_11_method_7_code
def yX9_bits : MethodName := ⟨RX9, "bits", "(I)I"⟩
abbrev cX9_begin : ByteArray := prog_11_method_8_code
def yX9_begin : MethodName := ⟨RX9, "begin", "()V"⟩
abbrev cX9_give : ByteArray := prog_11_method_9_code
def yX9_give : MethodName := ⟨RX9, "give", "(II)Z"⟩
abbrev cX9_row : ByteArray := prog_11_method_10_code
def yX9_row : MethodName := ⟨RX9, "row", "(II)Z"⟩
abbrev cX9_clear : ByteArray := prog_11_method_11_code
def yX9_clear : MethodName := ⟨RX9, "clear", "()V"⟩
abbrev cX9_there : ByteArray := prog_11_method_12_code
def yX9_there : MethodName := ⟨RX9, "there", "([I)I"⟩
abbrev cX9_sizeOf : ByteArray := prog_11_method_13_code
def yX9_sizeOf : MethodName := ⟨RX9, "sizeOf", "(I)I"⟩
abbrev cX9_instance : ByteArray := prog_11_method_14_code
def yX9_instance : MethodName := ⟨RX9, "instance", "([IIII)I"⟩
abbrev cX9_single : ByteArray := prog_11_method_15_code
def yX9_single : MethodName := ⟨RX9, "single", "([III)Z"⟩
abbrev cX9_placesOf : ByteArray := prog_11_method_16_code
def yX9_placesOf : MethodName := ⟨RX9, "placesOf", "([III)I"⟩
abbrev cX9_hiddenOne : ByteArray := prog_11_method_17_code
def yX9_hiddenOne : MethodName := ⟨RX9, "hiddenOne", "([III)Z"⟩
abbrev cX9_pointing : ByteArray := prog_11_method_18_code
def yX9_pointing : MethodName := ⟨RX9, "pointing", "([III)Z"⟩
abbrev cX9_claiming : ByteArray := prog_11_method_19_code
def yX9_claiming : MethodName := ⟨RX9, "claiming", "([III)Z"⟩
abbrev cX9_naked : ByteArray := prog_11_method_20_code
def yX9_naked : MethodName := ⟨RX9, "naked", "([IIII)Z"⟩
abbrev cX9_hidden : ByteArray := prog_11_method_21_code
def yX9_hidden : MethodName := ⟨RX9, "hidden", "([IIII)Z"⟩
abbrev cX9_fish : ByteArray := prog_11_method_22_code
def yX9_fish : MethodName := ⟨RX9, "fish", "([IIII)Z"⟩
abbrev cX9_has : ByteArray := prog_11_method_23_code
def yX9_has : MethodName := ⟨RX9, "has", "([JII)Z"⟩
abbrev cX9_add : ByteArray := prog_11_method_24_code
def yX9_add : MethodName := ⟨RX9, "add", "([JII)V"⟩
abbrev cX9_isWeak : ByteArray := prog_11_method_25_code
def yX9_isWeak : MethodName := ⟨RX9, "isWeak", "([III)Z"⟩
abbrev cX9_isThere : ByteArray := prog_11_method_26_code
def yX9_isThere : MethodName := ⟨RX9, "isThere", "([II)Z"⟩
abbrev cX9_isStrong : ByteArray := prog_11_method_27_code
def yX9_isStrong : MethodName := ⟨RX9, "isStrong", "([III)Z"⟩
abbrev cX9_links : ByteArray := prog_11_method_28_code
def yX9_links : MethodName := ⟨RX9, "links", "([I)V"⟩
abbrev cX9_link : ByteArray := prog_11_method_29_code
def yX9_link : MethodName := ⟨RX9, "link", "([III)V"⟩
abbrev cX9_goesBy : ByteArray := prog_11_method_30_code
def yX9_goesBy : MethodName := ⟨RX9, "goesBy", "(II)Z"⟩
abbrev cX9_image : ByteArray := prog_11_method_31_code
def yX9_image : MethodName := ⟨RX9, "image", "([JI[J[JI)V"⟩
abbrev cX9_chain : ByteArray := prog_11_method_32_code
def yX9_chain : MethodName := ⟨RX9, "chain", "([I)I"⟩
abbrev cX9_rowOf : ByteArray := prog_11_method_33_code
def yX9_rowOf : MethodName := ⟨RX9, "rowOf", "(II)V"⟩
abbrev cX9_byRow : ByteArray := prog_11_method_34_code
def yX9_byRow : MethodName := ⟨RX9, "byRow", "([I[III)I"⟩
abbrev cX9_weight : ByteArray := prog_11_method_35_code
def yX9_weight : MethodName := ⟨RX9, "weight", "(I)I"⟩
abbrev cX9_found : ByteArray := prog_11_method_36_code
def yX9_found : MethodName := ⟨RX9, "found", "([IIII)Z"⟩
abbrev cX9_findsOne : ByteArray := prog_11_method_37_code
def yX9_findsOne : MethodName := ⟨RX9, "findsOne", "([II)Z"⟩
abbrev cX9_findsSome : ByteArray := prog_11_method_38_code
def yX9_findsSome : MethodName := ⟨RX9, "findsSome", "([II)Z"⟩
abbrev cX9_stepped : ByteArray := prog_11_method_39_code
def yX9_stepped : MethodName := ⟨RX9, "stepped", "()Z"⟩
abbrev cX9_takes : ByteArray := prog_11_method_40_code
def yX9_takes : MethodName := ⟨RX9, "takes", "(II)V"⟩
abbrev cX9_goes : ByteArray := prog_11_method_41_code
def yX9_goes : MethodName := ⟨RX9, "goes", "([I)V"⟩
abbrev cX9_grade : ByteArray := prog_11_method_42_code
def yX9_grade : MethodName := ⟨RX9, "grade", "(I)I"⟩
abbrev cX9_candidates : ByteArray := prog_11_method_43_code
def yX9_candidates : MethodName := ⟨RX9, "candidates", "(II)I"⟩
abbrev cX9_told : ByteArray := prog_11_method_44_code
def yX9_told : MethodName := ⟨RX9, "told", "(I)I"⟩
abbrev cX9_step : ByteArray := prog_11_method_45_code
def yX9_step : MethodName := ⟨RX9, "step", "(II)I"⟩
abbrev cX9_gone : ByteArray := prog_11_method_46_code
def yX9_gone : MethodName := ⟨RX9, "gone", "(II)I"⟩
abbrev cX9_link_ : ByteArray := prog_11_method_47_code
def yX9_link_ : MethodName := ⟨RX9, "link", "(II)I"⟩
abbrev cX9_node : ByteArray := prog_11_method_48_code
def yX9_node : MethodName := ⟨RX9, "node", "(I)I"⟩
abbrev cX9_claim : ByteArray := prog_11_method_49_code
def yX9_claim : MethodName := ⟨RX9, "claim", "(III)I"⟩
abbrev cX9_replay : ByteArray := prog_11_method_50_code
def yX9_replay : MethodName := ⟨RX9, "replay", "(I)I"⟩
abbrev cX9_closes : ByteArray := prog_11_method_51_code
def yX9_closes : MethodName := ⟨RX9, "closes", "()V"⟩
abbrev cX9_isDead : ByteArray := prog_11_method_52_code
def yX9_isDead : MethodName := ⟨RX9, "isDead", "()Z"⟩
abbrev cX9_meets : ByteArray := prog_11_method_53_code
def yX9_meets : MethodName := ⟨RX9, "meets", "()V"⟩
abbrev cX9_leaves : ByteArray := prog_11_method_54_code
def yX9_leaves : MethodName := ⟨RX9, "leaves", "()V"⟩
abbrev cX9_search : ByteArray := prog_11_method_55_code
def yX9_search : MethodName := ⟨RX9, "search", "(I)I"⟩
abbrev cX9_searched : ByteArray := prog_11_method_56_code
def yX9_searched : MethodName := ⟨RX9, "searched", "(I)I"⟩
abbrev cX9_solution : ByteArray := prog_11_method_57_code
def yX9_solution : MethodName := ⟨RX9, "solution", "(II)I"⟩
def RJ6 : String := "java/lang/Integer"
def TJ6 : u_T := fun k => match k with
  | _ => ("", "", "", false)
def tyJ6 : Nat → FieldType := fun k => match k with
  | _ => .int
abbrev wsJ60 : List Cond := u_ws RJ6 TJ6 0
theorem nmJ6 : ∀ a, a < 0 → ∀ b, b < 0 → a ≠ b → (TJ6 a).2.1 ≠ (TJ6 b).2.1 := by decide +kernel
theorem tyJ6_ok : ∀ k, k < 0 → parseFieldDescriptor (TJ6 k).2.2.1 = some (tyJ6 k) := by decide +kernel
abbrev cJ6_bitCount_0f7a4 : ByteArray := prog_12_method_49_code
def yJ6_bitCount_0f7a4 : MethodName := ⟨RJ6, "bitCount", "(I)I"⟩
def RJ9 : String := "java/lang/Math"
def TJ9 : u_T := fun k => match k with
  | _ => ("", "", "", false)
def tyJ9 : Nat → FieldType := fun k => match k with
  | _ => .int
abbrev wsJ90 : List Cond := u_ws RJ9 TJ9 0
theorem nmJ9 : ∀ a, a < 0 → ∀ b, b < 0 → a ≠ b → (TJ9 a).2.1 ≠ (TJ9 b).2.1 := by decide +kernel
theorem tyJ9_ok : ∀ k, k < 0 → parseFieldDescriptor (TJ9 k).2.2.1 = some (tyJ9 k) := by decide +kernel
abbrev cJ9_max_7cf53 : ByteArray := prog_13_method_65_code
def yJ9_max_7cf53 : MethodName := ⟨RJ9, "max", "(II)I"⟩
def RJ7 : String := "java/util/Arrays"
def TJ7 : u_T := fun k => match k with
  | _ => ("", "", "", false)
def tyJ7 : Nat → FieldType := fun k => match k with
  | _ => .int
abbrev wsJ70 : List Cond := u_ws RJ7 TJ7 0
theorem nmJ7 : ∀ a, a < 0 → ∀ b, b < 0 → a ≠ b → (TJ7 a).2.1 ≠ (TJ7 b).2.1 := by decide +kernel
theorem tyJ7_ok : ∀ k, k < 0 → parseFieldDescriptor (TJ7 k).2.2.1 = some (tyJ7 k) := by decide +kernel
abbrev cJ7_fill_53178 : ByteArray := prog_14_method_103_code
def yJ7_fill_53178 : MethodName := ⟨RJ7, "fill", "([II)V"⟩
def RL : String := "SudokuGraderLaw"
abbrev cL_law : ByteArray := code
def yL_law : MethodName := ⟨RL, "law", "([I)Z"⟩
abbrev vwCl : List vw_C := [(RX0, TX0, 5), (RX1, TX1, 17), (RX2, TX2, 3), (RX3, TX3, 5), (RX4, TX4, 4), (RX5, TX5, 14), (RX6, TX6, 3), (RX7, TX7, 12), (RX8, TX8, 11), (RX9, TX9, 42)]
end
section
-- the program as data: by program, out of the printed names and the statement's words
abbrev EN : Type := Jvm.ClassFile.Instr × Nat × Nat × Nat × Nat × Nat
def e_X0_drop : List (Option EN) := [some (.aload_n 0, 1, 0, 0, 0, 0), some (.iload_n 1, 1, 0, 0, 0, 0), some (.invokevirtual 43, 3, 2, 1, 0, 0), none, none, some (.ifCond .eq 38, 3, 0, 0, 0, 0), none, none, some (.aload_n 0, 1, 0, 0, 0, 0), some (.getfield 25, 3, 0, 4, 0, 1), none, none, some (.sipush 729, 3, 0, 0, 0, 0), none, none, some (.if_icmp .ge 28, 3, 0, 0, 0, 0), none, none, some (.aload_n 0, 1, 0, 0, 0, 0), some (.iload_n 1, 1, 0, 0, 0, 0), some (.invokevirtual 39, 3, 1, 1, 0, 2), none, none, some (.aload_n 0, 1, 0, 0, 0, 0), some (.getfield 18, 3, 0, 3, 6, 3), none, none, some (.aload_n 0, 1, 0, 0, 0, 0), some (.getfield 25, 3, 0, 4, 0, 1), none, none, some (.iload_n 1, 1, 0, 0, 0, 0), some (.iastore, 1, 0, 0, 0, 0), some (.aload_n 0, 1, 0, 0, 0, 0), some (.dup, 1, 0, 0, 0, 0), some (.getfield 25, 3, 0, 4, 0, 1), none, none, some (.iconst 1, 1, 0, 0, 0, 0), some (.iadd, 1, 0, 0, 0, 0), some (.putfield 25, 3, 0, 4, 0, 1), none, none, some (.return_, 1, 0, 0, 0, 0)]
def e_X0_flip : List (Option EN) := [some (.iload_n 1, 1, 0, 0, 0, 0), some (.bipush 9, 2, 0, 0, 0, 0), none, some (.idiv, 1, 0, 0, 0, 0), some (.istore_n 2, 1, 0, 0, 0, 0), some (.iload_n 1, 1, 0, 0, 0, 0), some (.bipush 9, 2, 0, 0, 0, 0), none, some (.irem, 1, 0, 0, 0, 0), some (.istore_n 3, 1, 0, 0, 0, 0), some (.aload_n 0, 1, 0, 0, 0, 0), some (.getfield 9, 3, 0, 1, 6, 4), none, none, some (.iload_n 2, 1, 0, 0, 0, 0), some (.dup2, 1, 0, 0, 0, 0), some (.iaload, 1, 0, 0, 0, 0), some (.iconst 1, 1, 0, 0, 0, 0), some (.iload_n 3, 1, 0, 0, 0, 0), some (.ishl, 1, 0, 0, 0, 0), some (.ixor, 1, 0, 0, 0, 0), some (.iastore, 1, 0, 0, 0, 0), some (.iconst 0, 1, 0, 0, 0, 0), some (.istore 4, 2, 0, 0, 0, 0), none, some (.iload 4, 2, 0, 0, 0, 0), none, some (.iconst 3, 1, 0, 0, 0, 0), some (.if_icmp .ge 56, 3, 0, 0, 0, 0), none, none, some (.aload_n 0, 1, 0, 0, 0, 0), some (.getfield 21, 3, 0, 0, 6, 5), none, none, some (.getfield 47, 3, 4, 1, 6, 6), none, none, some (.iconst 3, 1, 0, 0, 0, 0), some (.iload_n 2, 1, 0, 0, 0, 0), some (.imul, 1, 0, 0, 0, 0), some (.iload 4, 2, 0, 0, 0, 0), none, some (.iadd, 1, 0, 0, 0, 0), some (.iaload, 1, 0, 0, 0, 0), some (.istore 5, 2, 0, 0, 0, 0), none, some (.aload_n 0, 1, 0, 0, 0, 0), some (.getfield 15, 3, 0, 2, 6, 7), none, none, some (.bipush 9, 2, 0, 0, 0, 0), none, some (.iload 5, 2, 0, 0, 0, 0), none, some (.imul, 1, 0, 0, 0, 0), some (.iload_n 3, 1, 0, 0, 0, 0), some (.iadd, 1, 0, 0, 0, 0), some (.dup2, 1, 0, 0, 0, 0), some (.iaload, 1, 0, 0, 0, 0), some (.iconst 1, 1, 0, 0, 0, 0), some (.aload_n 0, 1, 0, 0, 0, 0), some (.getfield 21, 3, 0, 0, 6, 5), none, none, some (.getfield 52, 3, 4, 2, 6, 8), none, none, some (.iconst 3, 1, 0, 0, 0, 0), some (.iload_n 2, 1, 0, 0, 0, 0), some (.imul, 1, 0, 0, 0, 0), some (.iload 4, 2, 0, 0, 0, 0), none, some (.iadd, 1, 0, 0, 0, 0), some (.iaload, 1, 0, 0, 0, 0), some (.ishl, 1, 0, 0, 0, 0), some (.ixor, 1, 0, 0, 0, 0), some (.iastore, 1, 0, 0, 0, 0), some (.iinc 4 1, 3, 0, 0, 0, 0), none, none, some (.goto (-56), 3, 0, 0, 0, 0), none, none, some (.return_, 1, 0, 0, 0, 0)]
def e_X0_has : List (Option EN) := [some (.iload_n 1, 1, 0, 0, 0, 0), some (.ifCond .lt 33, 3, 0, 0, 0, 0), none, none, some (.iload_n 1, 1, 0, 0, 0, 0), some (.sipush 729, 3, 0, 0, 0, 0), none, none, some (.if_icmp .ge 26, 3, 0, 0, 0, 0), none, none, some (.aload_n 0, 1, 0, 0, 0, 0), some (.getfield 9, 3, 0, 1, 6, 4), none, none, some (.iload_n 1, 1, 0, 0, 0, 0), some (.bipush 9, 2, 0, 0, 0, 0), none, some (.idiv, 1, 0, 0, 0, 0), some (.iaload, 1, 0, 0, 0, 0), some (.iload_n 1, 1, 0, 0, 0, 0), some (.bipush 9, 2, 0, 0, 0, 0), none, some (.irem, 1, 0, 0, 0, 0), some (.ishr, 1, 0, 0, 0, 0), some (.iconst 1, 1, 0, 0, 0, 0), some (.iand, 1, 0, 0, 0, 0), some (.ifCond .eq 7, 3, 0, 0, 0, 0), none, none, some (.iconst 1, 1, 0, 0, 0, 0), some (.goto 4, 3, 0, 0, 0, 0), none, none, some (.iconst 0, 1, 0, 0, 0, 0), some (.ireturn, 1, 0, 0, 0, 0)]
def e_X0_init : List (Option EN) := [some (.aload_n 0, 1, 0, 0, 0, 0), some (.invokespecial 3, 3, 9999, 0, 0, 9), none, none, some (.aload_n 0, 1, 0, 0, 0, 0), some (.bipush 81, 2, 0, 0, 0, 0), none, some (.newarray .int, 2, 0, 0, 0, 0), none, some (.putfield 9, 3, 0, 1, 6, 4), none, none, some (.aload_n 0, 1, 0, 0, 0, 0), some (.sipush 243, 3, 0, 0, 0, 0), none, none, some (.newarray .int, 2, 0, 0, 0, 0), none, some (.putfield 15, 3, 0, 2, 6, 7), none, none, some (.aload_n 0, 1, 0, 0, 0, 0), some (.sipush 729, 3, 0, 0, 0, 0), none, none, some (.newarray .int, 2, 0, 0, 0, 0), none, some (.putfield 18, 3, 0, 3, 6, 3), none, none, some (.aload_n 0, 1, 0, 0, 0, 0), some (.aload_n 1, 1, 0, 0, 0, 0), some (.putfield 21, 3, 0, 0, 6, 5), none, none, some (.return_, 1, 0, 0, 0, 0)]
def e_X0_logAt : List (Option EN) := [some (.iload_n 1, 1, 0, 0, 0, 0), some (.ifCond .lt 27, 3, 0, 0, 0, 0), none, none, some (.iload_n 1, 1, 0, 0, 0, 0), some (.aload_n 0, 1, 0, 0, 0, 0), some (.getfield 25, 3, 0, 4, 0, 1), none, none, some (.if_icmp .ge 19, 3, 0, 0, 0, 0), none, none, some (.iload_n 1, 1, 0, 0, 0, 0), some (.sipush 729, 3, 0, 0, 0, 0), none, none, some (.if_icmp .ge 12, 3, 0, 0, 0, 0), none, none, some (.aload_n 0, 1, 0, 0, 0, 0), some (.getfield 18, 3, 0, 3, 6, 3), none, none, some (.iload_n 1, 1, 0, 0, 0, 0), some (.iaload, 1, 0, 0, 0, 0), some (.goto 4, 3, 0, 0, 0, 0), none, none, some (.iconst (-1), 1, 0, 0, 0, 0), some (.ireturn, 1, 0, 0, 0, 0)]
def e_X0_start : List (Option EN) := [some (.aload_n 0, 1, 0, 0, 0, 0), some (.iconst 0, 1, 0, 0, 0, 0), some (.putfield 25, 3, 0, 4, 0, 1), none, none, some (.aload_n 0, 1, 0, 0, 0, 0), some (.getfield 15, 3, 0, 2, 6, 7), none, none, some (.iconst 0, 1, 0, 0, 0, 0), some (.invokestatic 29, 3, 147, 2, 0, 10), none, none, some (.iconst 0, 1, 0, 0, 0, 0), some (.istore_n 2, 1, 0, 0, 0, 0), some (.iload_n 2, 1, 0, 0, 0, 0), some (.bipush 81, 2, 0, 0, 0, 0), none, some (.if_icmp .ge 59, 3, 0, 0, 0, 0), none, none, some (.aload_n 0, 1, 0, 0, 0, 0), some (.getfield 9, 3, 0, 1, 6, 4), none, none, some (.iload_n 2, 1, 0, 0, 0, 0), some (.iconst 0, 1, 0, 0, 0, 0), some (.iastore, 1, 0, 0, 0, 0), some (.aload_n 1, 1, 0, 0, 0, 0), some (.iload_n 2, 1, 0, 0, 0, 0), some (.iaload, 1, 0, 0, 0, 0), some (.invokestatic 35, 3, 66, 1, 1, 11), none, none, some (.istore_n 3, 1, 0, 0, 0, 0), some (.iconst 0, 1, 0, 0, 0, 0), some (.istore 4, 2, 0, 0, 0, 0), none, some (.iload 4, 2, 0, 0, 0, 0), none, some (.bipush 9, 2, 0, 0, 0, 0), none, some (.if_icmp .ge 29, 3, 0, 0, 0, 0), none, none, some (.iload_n 3, 1, 0, 0, 0, 0), some (.iload 4, 2, 0, 0, 0, 0), none, some (.ishr, 1, 0, 0, 0, 0), some (.iconst 1, 1, 0, 0, 0, 0), some (.iand, 1, 0, 0, 0, 0), some (.ifCond .eq 14, 3, 0, 0, 0, 0), none, none, some (.aload_n 0, 1, 0, 0, 0, 0), some (.bipush 9, 2, 0, 0, 0, 0), none, some (.iload_n 2, 1, 0, 0, 0, 0), some (.imul, 1, 0, 0, 0, 0), some (.iload 4, 2, 0, 0, 0, 0), none, some (.iadd, 1, 0, 0, 0, 0), some (.invokevirtual 39, 3, 1, 1, 0, 2), none, none, some (.iinc 4 1, 3, 0, 0, 0, 0), none, none, some (.goto (-30), 3, 0, 0, 0, 0), none, none, some (.iinc 2 1, 3, 0, 0, 0, 0), none, none, some (.goto (-59), 3, 0, 0, 0, 0), none, none, some (.return_, 1, 0, 0, 0, 0)]
def e_X0_undo : List (Option EN) := [some (.aload_n 0, 1, 0, 0, 0, 0), some (.getfield 25, 3, 0, 4, 0, 1), none, none, some (.iconst 1, 1, 0, 0, 0, 0), some (.isub, 1, 0, 0, 0, 0), some (.istore_n 2, 1, 0, 0, 0, 0), some (.iload_n 2, 1, 0, 0, 0, 0), some (.iload_n 1, 1, 0, 0, 0, 0), some (.if_icmp .lt 28, 3, 0, 0, 0, 0), none, none, some (.iload_n 2, 1, 0, 0, 0, 0), some (.ifCond .lt 24, 3, 0, 0, 0, 0), none, none, some (.aload_n 0, 1, 0, 0, 0, 0), some (.aload_n 0, 1, 0, 0, 0, 0), some (.getfield 18, 3, 0, 3, 6, 3), none, none, some (.iload_n 2, 1, 0, 0, 0, 0), some (.iaload, 1, 0, 0, 0, 0), some (.invokevirtual 39, 3, 1, 1, 0, 2), none, none, some (.aload_n 0, 1, 0, 0, 0, 0), some (.iload_n 2, 1, 0, 0, 0, 0), some (.putfield 25, 3, 0, 4, 0, 1), none, none, some (.iinc 2 (-1), 3, 0, 0, 0, 0), none, none, some (.goto (-27), 3, 0, 0, 0, 0), none, none, some (.return_, 1, 0, 0, 0, 0)]
def e_X1_addHeads : List (Option EN) := [some (.iconst 0, 1, 0, 0, 0, 0), some (.istore_n 2, 1, 0, 0, 0, 0), some (.iload_n 2, 1, 0, 0, 0, 0), some (.aload_n 0, 1, 0, 0, 0, 0), some (.getfield 64, 3, 1, 5, 0, 12), none, none, some (.if_icmp .ge 59, 3, 0, 0, 0, 0), none, none, some (.aload_n 0, 1, 0, 0, 0, 0), some (.getfield 18, 3, 1, 4, 6, 13), none, none, some (.iload_n 2, 1, 0, 0, 0, 0), some (.iaload, 1, 0, 0, 0, 0), some (.istore_n 3, 1, 0, 0, 0, 0), some (.aload_n 0, 1, 0, 0, 0, 0), some (.getfield 24, 3, 1, 7, 6, 14), none, none, some (.iload_n 3, 1, 0, 0, 0, 0), some (.iaload, 1, 0, 0, 0, 0), some (.aload_n 0, 1, 0, 0, 0, 0), some (.getfield 94, 3, 1, 14, 0, 15), none, none, some (.if_icmp .eq 33, 3, 0, 0, 0, 0), none, none, some (.aload_n 0, 1, 0, 0, 0, 0), some (.getfield 24, 3, 1, 7, 6, 14), none, none, some (.iload_n 3, 1, 0, 0, 0, 0), some (.aload_n 0, 1, 0, 0, 0, 0), some (.getfield 94, 3, 1, 14, 0, 15), none, none, some (.iastore, 1, 0, 0, 0, 0), some (.aload_n 0, 1, 0, 0, 0, 0), some (.getfield 30, 3, 1, 9, 6, 16), none, none, some (.iload_n 3, 1, 0, 0, 0, 0), some (.iload_n 1, 1, 0, 0, 0, 0), some (.iastore, 1, 0, 0, 0, 0), some (.aload_n 0, 1, 0, 0, 0, 0), some (.iload_n 3, 1, 0, 0, 0, 0), some (.aload_n 0, 1, 0, 0, 0, 0), some (.getfield 36, 3, 1, 11, 6, 17), none, none, some (.iload_n 1, 1, 0, 0, 0, 0), some (.iaload, 1, 0, 0, 0, 0), some (.iconst 1, 1, 0, 0, 0, 0), some (.iadd, 1, 0, 0, 0, 0), some (.invokevirtual 100, 3, 10, 2, 0, 18), none, none, some (.iinc 2 1, 3, 0, 0, 0, 0), none, none, some (.goto (-61), 3, 0, 0, 0, 0), none, none, some (.return_, 1, 0, 0, 0, 0)]
def e_X1_addStrong : List (Option EN) := [some (.iconst 4, 1, 0, 0, 0, 0), some (.iload_n 1, 1, 0, 0, 0, 0), some (.imul, 1, 0, 0, 0, 0), some (.istore_n 3, 1, 0, 0, 0, 0), some (.aload_n 0, 1, 0, 0, 0, 0), some (.getfield 15, 3, 1, 3, 6, 19), none, none, some (.iload_n 1, 1, 0, 0, 0, 0), some (.iaload, 1, 0, 0, 0, 0), some (.istore 4, 2, 0, 0, 0, 0), none, some (.iconst 0, 1, 0, 0, 0, 0), some (.istore 5, 2, 0, 0, 0, 0), none, some (.iload 5, 2, 0, 0, 0, 0), none, some (.iload 4, 2, 0, 0, 0, 0), none, some (.if_icmp .ge 23, 3, 0, 0, 0, 0), none, none, some (.aload_n 0, 1, 0, 0, 0, 0), some (.getfield 11, 3, 1, 2, 6, 20), none, none, some (.iload_n 3, 1, 0, 0, 0, 0), some (.iload 5, 2, 0, 0, 0, 0), none, some (.iadd, 1, 0, 0, 0, 0), some (.iaload, 1, 0, 0, 0, 0), some (.iload_n 2, 1, 0, 0, 0, 0), some (.if_icmp .ne 4, 3, 0, 0, 0, 0), none, none, some (.return_, 1, 0, 0, 0, 0), some (.iinc 5 1, 3, 0, 0, 0, 0), none, none, some (.goto (-24), 3, 0, 0, 0, 0), none, none, some (.iload 4, 2, 0, 0, 0, 0), none, some (.iconst 4, 1, 0, 0, 0, 0), some (.if_icmp .lt 4, 3, 0, 0, 0, 0), none, none, some (.return_, 1, 0, 0, 0, 0), some (.iload 4, 2, 0, 0, 0, 0), none, some (.istore 5, 2, 0, 0, 0, 0), none, some (.iload 5, 2, 0, 0, 0, 0), none, some (.ifCond .le 44, 3, 0, 0, 0, 0), none, none, some (.aload_n 0, 1, 0, 0, 0, 0), some (.getfield 11, 3, 1, 2, 6, 20), none, none, some (.iload_n 3, 1, 0, 0, 0, 0), some (.iload 5, 2, 0, 0, 0, 0), none, some (.iadd, 1, 0, 0, 0, 0), some (.iconst 1, 1, 0, 0, 0, 0), some (.isub, 1, 0, 0, 0, 0), some (.iaload, 1, 0, 0, 0, 0), some (.iload_n 2, 1, 0, 0, 0, 0), some (.if_icmp .le 29, 3, 0, 0, 0, 0), none, none, some (.aload_n 0, 1, 0, 0, 0, 0), some (.getfield 11, 3, 1, 2, 6, 20), none, none, some (.iload_n 3, 1, 0, 0, 0, 0), some (.iload 5, 2, 0, 0, 0, 0), none, some (.iadd, 1, 0, 0, 0, 0), some (.aload_n 0, 1, 0, 0, 0, 0), some (.getfield 11, 3, 1, 2, 6, 20), none, none, some (.iload_n 3, 1, 0, 0, 0, 0), some (.iload 5, 2, 0, 0, 0, 0), none, some (.iadd, 1, 0, 0, 0, 0), some (.iconst 1, 1, 0, 0, 0, 0), some (.isub, 1, 0, 0, 0, 0), some (.iaload, 1, 0, 0, 0, 0), some (.iastore, 1, 0, 0, 0, 0), some (.iinc 5 (-1), 3, 0, 0, 0, 0), none, none, some (.goto (-43), 3, 0, 0, 0, 0), none, none, some (.aload_n 0, 1, 0, 0, 0, 0), some (.getfield 11, 3, 1, 2, 6, 20), none, none, some (.iload_n 3, 1, 0, 0, 0, 0), some (.iload 5, 2, 0, 0, 0, 0), none, some (.iadd, 1, 0, 0, 0, 0), some (.iload_n 2, 1, 0, 0, 0, 0), some (.iastore, 1, 0, 0, 0, 0), some (.aload_n 0, 1, 0, 0, 0, 0), some (.getfield 15, 3, 1, 3, 6, 19), none, none, some (.iload_n 1, 1, 0, 0, 0, 0), some (.iload 4, 2, 0, 0, 0, 0), none, some (.iconst 1, 1, 0, 0, 0, 0), some (.iadd, 1, 0, 0, 0, 0), some (.iastore, 1, 0, 0, 0, 0), some (.return_, 1, 0, 0, 0, 0)]
def e_X1_addStrongPair : List (Option EN) := [some (.aload_n 0, 1, 0, 0, 0, 0), some (.iload_n 1, 1, 0, 0, 0, 0), some (.iload_n 2, 1, 0, 0, 0, 0), some (.invokevirtual 145, 3, 8, 2, 0, 21), none, none, some (.aload_n 0, 1, 0, 0, 0, 0), some (.iload_n 2, 1, 0, 0, 0, 0), some (.iload_n 1, 1, 0, 0, 0, 0), some (.invokevirtual 145, 3, 8, 2, 0, 21), none, none, some (.return_, 1, 0, 0, 0, 0)]
def e_X1_addTails : List (Option EN) := [some (.iconst 0, 1, 0, 0, 0, 0), some (.istore_n 3, 1, 0, 0, 0, 0), some (.iload_n 3, 1, 0, 0, 0, 0), some (.aload_n 0, 1, 0, 0, 0, 0), some (.getfield 15, 3, 1, 3, 6, 19), none, none, some (.iload_n 1, 1, 0, 0, 0, 0), some (.iaload, 1, 0, 0, 0, 0), some (.if_icmp .ge 93, 3, 0, 0, 0, 0), none, none, some (.aload_n 0, 1, 0, 0, 0, 0), some (.getfield 11, 3, 1, 2, 6, 20), none, none, some (.iconst 4, 1, 0, 0, 0, 0), some (.iload_n 1, 1, 0, 0, 0, 0), some (.imul, 1, 0, 0, 0, 0), some (.iload_n 3, 1, 0, 0, 0, 0), some (.iadd, 1, 0, 0, 0, 0), some (.iaload, 1, 0, 0, 0, 0), some (.istore 4, 2, 0, 0, 0, 0), none, some (.aload_n 0, 1, 0, 0, 0, 0), some (.getfield 27, 3, 1, 8, 6, 22), none, none, some (.iload 4, 2, 0, 0, 0, 0), none, some (.iaload, 1, 0, 0, 0, 0), some (.aload_n 0, 1, 0, 0, 0, 0), some (.getfield 94, 3, 1, 14, 0, 15), none, none, some (.if_icmp .eq 61, 3, 0, 0, 0, 0), none, none, some (.aload_n 0, 1, 0, 0, 0, 0), some (.getfield 97, 3, 1, 13, 0, 23), none, none, some (.sipush 729, 3, 0, 0, 0, 0), none, none, some (.if_icmp .ge 51, 3, 0, 0, 0, 0), none, none, some (.aload_n 0, 1, 0, 0, 0, 0), some (.getfield 27, 3, 1, 8, 6, 22), none, none, some (.iload 4, 2, 0, 0, 0, 0), none, some (.aload_n 0, 1, 0, 0, 0, 0), some (.getfield 94, 3, 1, 14, 0, 15), none, none, some (.iastore, 1, 0, 0, 0, 0), some (.aload_n 0, 1, 0, 0, 0, 0), some (.getfield 33, 3, 1, 10, 6, 24), none, none, some (.iload 4, 2, 0, 0, 0, 0), none, some (.iload_n 1, 1, 0, 0, 0, 0), some (.iastore, 1, 0, 0, 0, 0), some (.aload_n 0, 1, 0, 0, 0, 0), some (.getfield 36, 3, 1, 11, 6, 17), none, none, some (.iload 4, 2, 0, 0, 0, 0), none, some (.iload_n 2, 1, 0, 0, 0, 0), some (.iastore, 1, 0, 0, 0, 0), some (.aload_n 0, 1, 0, 0, 0, 0), some (.getfield 39, 3, 1, 12, 6, 25), none, none, some (.aload_n 0, 1, 0, 0, 0, 0), some (.getfield 97, 3, 1, 13, 0, 23), none, none, some (.iload 4, 2, 0, 0, 0, 0), none, some (.iastore, 1, 0, 0, 0, 0), some (.aload_n 0, 1, 0, 0, 0, 0), some (.dup, 1, 0, 0, 0, 0), some (.getfield 97, 3, 1, 13, 0, 23), none, none, some (.iconst 1, 1, 0, 0, 0, 0), some (.iadd, 1, 0, 0, 0, 0), some (.putfield 97, 3, 1, 13, 0, 23), none, none, some (.iinc 3 1, 3, 0, 0, 0, 0), none, none, some (.goto (-97), 3, 0, 0, 0, 0), none, none, some (.return_, 1, 0, 0, 0, 0)]
def e_X1_areStrong : List (Option EN) := [some (.aload_n 0, 1, 0, 0, 0, 0), some (.aload_n 1, 1, 0, 0, 0, 0), some (.iload_n 2, 1, 0, 0, 0, 0), some (.iload_n 3, 1, 0, 0, 0, 0), some (.invokevirtual 57, 3, 12, 3, 0, 26), none, none, some (.ifCond .ne 5, 3, 0, 0, 0, 0), none, none, some (.iconst 0, 1, 0, 0, 0, 0), some (.ireturn, 1, 0, 0, 0, 0), some (.iload_n 2, 1, 0, 0, 0, 0), some (.bipush 9, 2, 0, 0, 0, 0), none, some (.idiv, 1, 0, 0, 0, 0), some (.istore 4, 2, 0, 0, 0, 0), none, some (.iload_n 3, 1, 0, 0, 0, 0), some (.bipush 9, 2, 0, 0, 0, 0), none, some (.idiv, 1, 0, 0, 0, 0), some (.istore 5, 2, 0, 0, 0, 0), none, some (.iload 4, 2, 0, 0, 0, 0), none, some (.iload 5, 2, 0, 0, 0, 0), none, some (.if_icmp .ne 23, 3, 0, 0, 0, 0), none, none, some (.aload_n 1, 1, 0, 0, 0, 0), some (.getfield 116, 3, 0, 1, 6, 27), none, none, some (.iload 4, 2, 0, 0, 0, 0), none, some (.iaload, 1, 0, 0, 0, 0), some (.invokestatic 127, 3, 146, 1, 0, 28), none, none, some (.iconst 2, 1, 0, 0, 0, 0), some (.if_icmp .ne 7, 3, 0, 0, 0, 0), none, none, some (.iconst 1, 1, 0, 0, 0, 0), some (.goto 4, 3, 0, 0, 0, 0), none, none, some (.iconst 0, 1, 0, 0, 0, 0), some (.ireturn, 1, 0, 0, 0, 0), some (.iconst 0, 1, 0, 0, 0, 0), some (.istore 6, 2, 0, 0, 0, 0), none, some (.iload 6, 2, 0, 0, 0, 0), none, some (.iconst 3, 1, 0, 0, 0, 0), some (.if_icmp .ge 82, 3, 0, 0, 0, 0), none, none, some (.aload_n 0, 1, 0, 0, 0, 0), some (.getfield 45, 3, 1, 0, 6, 29), none, none, some (.getfield 156, 3, 4, 1, 6, 30), none, none, some (.iconst 3, 1, 0, 0, 0, 0), some (.iload 4, 2, 0, 0, 0, 0), none, some (.imul, 1, 0, 0, 0, 0), some (.iload 6, 2, 0, 0, 0, 0), none, some (.iadd, 1, 0, 0, 0, 0), some (.iaload, 1, 0, 0, 0, 0), some (.istore 7, 2, 0, 0, 0, 0), none, some (.iload 7, 2, 0, 0, 0, 0), none, some (.aload_n 0, 1, 0, 0, 0, 0), some (.getfield 45, 3, 1, 0, 6, 29), none, none, some (.getfield 156, 3, 4, 1, 6, 30), none, none, some (.iconst 3, 1, 0, 0, 0, 0), some (.iload 5, 2, 0, 0, 0, 0), none, some (.imul, 1, 0, 0, 0, 0), some (.iload 6, 2, 0, 0, 0, 0), none, some (.iadd, 1, 0, 0, 0, 0), some (.iaload, 1, 0, 0, 0, 0), some (.if_icmp .ne 7, 3, 0, 0, 0, 0), none, none, some (.iconst 1, 1, 0, 0, 0, 0), some (.goto 4, 3, 0, 0, 0, 0), none, none, some (.iconst 0, 1, 0, 0, 0, 0), some (.istore 8, 2, 0, 0, 0, 0), none, some (.iload 8, 2, 0, 0, 0, 0), none, some (.ifCond .eq 27, 3, 0, 0, 0, 0), none, none, some (.aload_n 1, 1, 0, 0, 0, 0), some (.getfield 139, 3, 0, 2, 6, 31), none, none, some (.bipush 9, 2, 0, 0, 0, 0), none, some (.iload 7, 2, 0, 0, 0, 0), none, some (.imul, 1, 0, 0, 0, 0), some (.iload_n 2, 1, 0, 0, 0, 0), some (.bipush 9, 2, 0, 0, 0, 0), none, some (.irem, 1, 0, 0, 0, 0), some (.iadd, 1, 0, 0, 0, 0), some (.iaload, 1, 0, 0, 0, 0), some (.invokestatic 127, 3, 146, 1, 0, 28), none, none, some (.iconst 2, 1, 0, 0, 0, 0), some (.if_icmp .ne 5, 3, 0, 0, 0, 0), none, none, some (.iconst 1, 1, 0, 0, 0, 0), some (.ireturn, 1, 0, 0, 0, 0), some (.iinc 6 1, 3, 0, 0, 0, 0), none, none, some (.goto (-82), 3, 0, 0, 0, 0), none, none, some (.iconst 0, 1, 0, 0, 0, 0), some (.ireturn, 1, 0, 0, 0, 0)]
def e_X1_areWeak : List (Option EN) := [some (.iload_n 2, 1, 0, 0, 0, 0), some (.iload_n 3, 1, 0, 0, 0, 0), some (.if_icmp .eq 19, 3, 0, 0, 0, 0), none, none, some (.aload_n 1, 1, 0, 0, 0, 0), some (.iload_n 2, 1, 0, 0, 0, 0), some (.invokevirtual 148, 3, 2, 1, 0, 32), none, none, some (.ifCond .eq 11, 3, 0, 0, 0, 0), none, none, some (.aload_n 1, 1, 0, 0, 0, 0), some (.iload_n 3, 1, 0, 0, 0, 0), some (.invokevirtual 148, 3, 2, 1, 0, 32), none, none, some (.ifCond .ne 5, 3, 0, 0, 0, 0), none, none, some (.iconst 0, 1, 0, 0, 0, 0), some (.ireturn, 1, 0, 0, 0, 0), some (.iload_n 2, 1, 0, 0, 0, 0), some (.bipush 9, 2, 0, 0, 0, 0), none, some (.idiv, 1, 0, 0, 0, 0), some (.iload_n 3, 1, 0, 0, 0, 0), some (.bipush 9, 2, 0, 0, 0, 0), none, some (.idiv, 1, 0, 0, 0, 0), some (.if_icmp .eq 32, 3, 0, 0, 0, 0), none, none, some (.iload_n 2, 1, 0, 0, 0, 0), some (.bipush 9, 2, 0, 0, 0, 0), none, some (.irem, 1, 0, 0, 0, 0), some (.iload_n 3, 1, 0, 0, 0, 0), some (.bipush 9, 2, 0, 0, 0, 0), none, some (.irem, 1, 0, 0, 0, 0), some (.if_icmp .ne 25, 3, 0, 0, 0, 0), none, none, some (.aload_n 0, 1, 0, 0, 0, 0), some (.getfield 45, 3, 1, 0, 6, 29), none, none, some (.iload_n 2, 1, 0, 0, 0, 0), some (.bipush 9, 2, 0, 0, 0, 0), none, some (.idiv, 1, 0, 0, 0, 0), some (.iload_n 3, 1, 0, 0, 0, 0), some (.bipush 9, 2, 0, 0, 0, 0), none, some (.idiv, 1, 0, 0, 0, 0), some (.invokevirtual 152, 3, 37, 2, 0, 33), none, none, some (.ifCond .eq 7, 3, 0, 0, 0, 0), none, none, some (.iconst 1, 1, 0, 0, 0, 0), some (.goto 4, 3, 0, 0, 0, 0), none, none, some (.iconst 0, 1, 0, 0, 0, 0), some (.ireturn, 1, 0, 0, 0, 0)]
def e_X1_init : List (Option EN) := [some (.aload_n 0, 1, 0, 0, 0, 0), some (.invokespecial 3, 3, 9999, 0, 0, 34), none, none, some (.aload_n 0, 1, 0, 0, 0, 0), some (.sipush 2916, 3, 0, 0, 0, 0), none, none, some (.newarray .int, 2, 0, 0, 0, 0), none, some (.putfield 11, 3, 1, 2, 6, 20), none, none, some (.aload_n 0, 1, 0, 0, 0, 0), some (.sipush 729, 3, 0, 0, 0, 0), none, none, some (.newarray .int, 2, 0, 0, 0, 0), none, some (.putfield 15, 3, 1, 3, 6, 19), none, none, some (.aload_n 0, 1, 0, 0, 0, 0), some (.bipush 28, 2, 0, 0, 0, 0), none, some (.newarray .int, 2, 0, 0, 0, 0), none, some (.putfield 18, 3, 1, 4, 6, 13), none, none, some (.aload_n 0, 1, 0, 0, 0, 0), some (.sipush 729, 3, 0, 0, 0, 0), none, none, some (.newarray .int, 2, 0, 0, 0, 0), none, some (.putfield 21, 3, 1, 6, 6, 35), none, none, some (.aload_n 0, 1, 0, 0, 0, 0), some (.sipush 729, 3, 0, 0, 0, 0), none, none, some (.newarray .int, 2, 0, 0, 0, 0), none, some (.putfield 24, 3, 1, 7, 6, 14), none, none, some (.aload_n 0, 1, 0, 0, 0, 0), some (.sipush 729, 3, 0, 0, 0, 0), none, none, some (.newarray .int, 2, 0, 0, 0, 0), none, some (.putfield 27, 3, 1, 8, 6, 22), none, none, some (.aload_n 0, 1, 0, 0, 0, 0), some (.sipush 729, 3, 0, 0, 0, 0), none, none, some (.newarray .int, 2, 0, 0, 0, 0), none, some (.putfield 30, 3, 1, 9, 6, 16), none, none, some (.aload_n 0, 1, 0, 0, 0, 0), some (.sipush 729, 3, 0, 0, 0, 0), none, none, some (.newarray .int, 2, 0, 0, 0, 0), none, some (.putfield 33, 3, 1, 10, 6, 24), none, none, some (.aload_n 0, 1, 0, 0, 0, 0), some (.sipush 729, 3, 0, 0, 0, 0), none, none, some (.newarray .int, 2, 0, 0, 0, 0), none, some (.putfield 36, 3, 1, 11, 6, 17), none, none, some (.aload_n 0, 1, 0, 0, 0, 0), some (.sipush 729, 3, 0, 0, 0, 0), none, none, some (.newarray .int, 2, 0, 0, 0, 0), none, some (.putfield 39, 3, 1, 12, 6, 25), none, none, some (.aload_n 0, 1, 0, 0, 0, 0), some (.bipush 24, 2, 0, 0, 0, 0), none, some (.newarray .int, 2, 0, 0, 0, 0), none, some (.putfield 42, 3, 1, 15, 6, 36), none, none, some (.aload_n 0, 1, 0, 0, 0, 0), some (.aload_n 1, 1, 0, 0, 0, 0), some (.putfield 45, 3, 1, 0, 6, 29), none, none, some (.aload_n 0, 1, 0, 0, 0, 0), some (.aload_n 2, 1, 0, 0, 0, 0), some (.putfield 49, 3, 1, 1, 6, 37), none, none, some (.return_, 1, 0, 0, 0, 0)]
def e_X1_listAllStrong : List (Option EN) := [some (.aload_n 0, 1, 0, 0, 0, 0), some (.getfield 15, 3, 1, 3, 6, 19), none, none, some (.iconst 0, 1, 0, 0, 0, 0), some (.invokestatic 121, 3, 147, 2, 0, 38), none, none, some (.iconst 0, 1, 0, 0, 0, 0), some (.istore_n 2, 1, 0, 0, 0, 0), some (.iload_n 2, 1, 0, 0, 0, 0), some (.bipush 81, 2, 0, 0, 0, 0), none, some (.if_icmp .ge 56, 3, 0, 0, 0, 0), none, none, some (.aload_n 1, 1, 0, 0, 0, 0), some (.getfield 116, 3, 0, 1, 6, 27), none, none, some (.iload_n 2, 1, 0, 0, 0, 0), some (.iaload, 1, 0, 0, 0, 0), some (.istore_n 3, 1, 0, 0, 0, 0), some (.iload_n 3, 1, 0, 0, 0, 0), some (.invokestatic 127, 3, 146, 1, 0, 28), none, none, some (.iconst 2, 1, 0, 0, 0, 0), some (.if_icmp .ne 35, 3, 0, 0, 0, 0), none, none, some (.iload_n 3, 1, 0, 0, 0, 0), some (.iload_n 3, 1, 0, 0, 0, 0), some (.ineg, 1, 0, 0, 0, 0), some (.iand, 1, 0, 0, 0, 0), some (.istore 4, 2, 0, 0, 0, 0), none, some (.aload_n 0, 1, 0, 0, 0, 0), some (.bipush 9, 2, 0, 0, 0, 0), none, some (.iload_n 2, 1, 0, 0, 0, 0), some (.imul, 1, 0, 0, 0, 0), some (.iload 4, 2, 0, 0, 0, 0), none, some (.invokestatic 133, 3, 78, 1, 1, 39), none, none, some (.iadd, 1, 0, 0, 0, 0), some (.bipush 9, 2, 0, 0, 0, 0), none, some (.iload_n 2, 1, 0, 0, 0, 0), some (.imul, 1, 0, 0, 0, 0), some (.iload_n 3, 1, 0, 0, 0, 0), some (.iload 4, 2, 0, 0, 0, 0), none, some (.ixor, 1, 0, 0, 0, 0), some (.invokestatic 133, 3, 78, 1, 1, 39), none, none, some (.iadd, 1, 0, 0, 0, 0), some (.invokevirtual 136, 3, 9, 2, 0, 40), none, none, some (.iinc 2 1, 3, 0, 0, 0, 0), none, none, some (.goto (-56), 3, 0, 0, 0, 0), none, none, some (.iconst 0, 1, 0, 0, 0, 0), some (.istore_n 2, 1, 0, 0, 0, 0), some (.iload_n 2, 1, 0, 0, 0, 0), some (.bipush 27, 2, 0, 0, 0, 0), none, some (.if_icmp .ge 114, 3, 0, 0, 0, 0), none, none, some (.iconst 0, 1, 0, 0, 0, 0), some (.istore_n 3, 1, 0, 0, 0, 0), some (.iload_n 3, 1, 0, 0, 0, 0), some (.bipush 9, 2, 0, 0, 0, 0), none, some (.if_icmp .ge 100, 3, 0, 0, 0, 0), none, none, some (.aload_n 1, 1, 0, 0, 0, 0), some (.getfield 139, 3, 0, 2, 6, 31), none, none, some (.bipush 9, 2, 0, 0, 0, 0), none, some (.iload_n 2, 1, 0, 0, 0, 0), some (.imul, 1, 0, 0, 0, 0), some (.iload_n 3, 1, 0, 0, 0, 0), some (.iadd, 1, 0, 0, 0, 0), some (.iaload, 1, 0, 0, 0, 0), some (.istore 4, 2, 0, 0, 0, 0), none, some (.iload 4, 2, 0, 0, 0, 0), none, some (.invokestatic 127, 3, 146, 1, 0, 28), none, none, some (.iconst 2, 1, 0, 0, 0, 0), some (.if_icmp .ne 72, 3, 0, 0, 0, 0), none, none, some (.iload 4, 2, 0, 0, 0, 0), none, some (.iload 4, 2, 0, 0, 0, 0), none, some (.ineg, 1, 0, 0, 0, 0), some (.iand, 1, 0, 0, 0, 0), some (.istore 5, 2, 0, 0, 0, 0), none, some (.aload_n 0, 1, 0, 0, 0, 0), some (.getfield 45, 3, 1, 0, 6, 29), none, none, some (.getfield 142, 3, 4, 0, 6, 41), none, none, some (.bipush 9, 2, 0, 0, 0, 0), none, some (.iload_n 2, 1, 0, 0, 0, 0), some (.imul, 1, 0, 0, 0, 0), some (.iload 5, 2, 0, 0, 0, 0), none, some (.invokestatic 133, 3, 78, 1, 1, 39), none, none, some (.iadd, 1, 0, 0, 0, 0), some (.iaload, 1, 0, 0, 0, 0), some (.istore 6, 2, 0, 0, 0, 0), none, some (.aload_n 0, 1, 0, 0, 0, 0), some (.getfield 45, 3, 1, 0, 6, 29), none, none, some (.getfield 142, 3, 4, 0, 6, 41), none, none, some (.bipush 9, 2, 0, 0, 0, 0), none, some (.iload_n 2, 1, 0, 0, 0, 0), some (.imul, 1, 0, 0, 0, 0), some (.iload 4, 2, 0, 0, 0, 0), none, some (.iload 5, 2, 0, 0, 0, 0), none, some (.ixor, 1, 0, 0, 0, 0), some (.invokestatic 133, 3, 78, 1, 1, 39), none, none, some (.iadd, 1, 0, 0, 0, 0), some (.iaload, 1, 0, 0, 0, 0), some (.istore 7, 2, 0, 0, 0, 0), none, some (.aload_n 0, 1, 0, 0, 0, 0), some (.bipush 9, 2, 0, 0, 0, 0), none, some (.iload 6, 2, 0, 0, 0, 0), none, some (.imul, 1, 0, 0, 0, 0), some (.iload_n 3, 1, 0, 0, 0, 0), some (.iadd, 1, 0, 0, 0, 0), some (.bipush 9, 2, 0, 0, 0, 0), none, some (.iload 7, 2, 0, 0, 0, 0), none, some (.imul, 1, 0, 0, 0, 0), some (.iload_n 3, 1, 0, 0, 0, 0), some (.iadd, 1, 0, 0, 0, 0), some (.invokevirtual 136, 3, 9, 2, 0, 40), none, none, some (.iinc 3 1, 3, 0, 0, 0, 0), none, none, some (.goto (-100), 3, 0, 0, 0, 0), none, none, some (.iinc 2 1, 3, 0, 0, 0, 0), none, none, some (.goto (-114), 3, 0, 0, 0, 0), none, none, some (.return_, 1, 0, 0, 0, 0)]
def e_X1_listWeak : List (Option EN) := [some (.iload_n 2, 1, 0, 0, 0, 0), some (.bipush 9, 2, 0, 0, 0, 0), none, some (.idiv, 1, 0, 0, 0, 0), some (.istore_n 3, 1, 0, 0, 0, 0), some (.iload_n 2, 1, 0, 0, 0, 0), some (.bipush 9, 2, 0, 0, 0, 0), none, some (.irem, 1, 0, 0, 0, 0), some (.istore 4, 2, 0, 0, 0, 0), none, some (.aload_n 0, 1, 0, 0, 0, 0), some (.iconst 0, 1, 0, 0, 0, 0), some (.putfield 64, 3, 1, 5, 0, 12), none, none, some (.iconst 0, 1, 0, 0, 0, 0), some (.istore 5, 2, 0, 0, 0, 0), none, some (.iload 5, 2, 0, 0, 0, 0), none, some (.bipush 21, 2, 0, 0, 0, 0), none, some (.if_icmp .ge 132, 3, 0, 0, 0, 0), none, none, some (.aload_n 0, 1, 0, 0, 0, 0), some (.getfield 45, 3, 1, 0, 6, 29), none, none, some (.getfield 113, 3, 4, 3, 6, 42), none, none, some (.bipush 21, 2, 0, 0, 0, 0), none, some (.iload_n 3, 1, 0, 0, 0, 0), some (.imul, 1, 0, 0, 0, 0), some (.iload 5, 2, 0, 0, 0, 0), none, some (.iadd, 1, 0, 0, 0, 0), some (.iaload, 1, 0, 0, 0, 0), some (.istore 6, 2, 0, 0, 0, 0), none, some (.iload 6, 2, 0, 0, 0, 0), none, some (.iload_n 3, 1, 0, 0, 0, 0), some (.if_icmp .ne 19, 3, 0, 0, 0, 0), none, none, some (.aload_n 1, 1, 0, 0, 0, 0), some (.getfield 116, 3, 0, 1, 6, 27), none, none, some (.iload_n 3, 1, 0, 0, 0, 0), some (.iaload, 1, 0, 0, 0, 0), some (.iconst 1, 1, 0, 0, 0, 0), some (.iload 4, 2, 0, 0, 0, 0), none, some (.ishl, 1, 0, 0, 0, 0), some (.iconst (-1), 1, 0, 0, 0, 0), some (.ixor, 1, 0, 0, 0, 0), some (.iand, 1, 0, 0, 0, 0), some (.goto 15, 3, 0, 0, 0, 0), none, none, some (.aload_n 1, 1, 0, 0, 0, 0), some (.getfield 116, 3, 0, 1, 6, 27), none, none, some (.iload 6, 2, 0, 0, 0, 0), none, some (.iaload, 1, 0, 0, 0, 0), some (.iconst 1, 1, 0, 0, 0, 0), some (.iload 4, 2, 0, 0, 0, 0), none, some (.ishl, 1, 0, 0, 0, 0), some (.iand, 1, 0, 0, 0, 0), some (.istore 7, 2, 0, 0, 0, 0), none, some (.iconst 0, 1, 0, 0, 0, 0), some (.istore 8, 2, 0, 0, 0, 0), none, some (.iload 8, 2, 0, 0, 0, 0), none, some (.bipush 9, 2, 0, 0, 0, 0), none, some (.if_icmp .ge 63, 3, 0, 0, 0, 0), none, none, some (.iload 7, 2, 0, 0, 0, 0), none, some (.iload 8, 2, 0, 0, 0, 0), none, some (.ishr, 1, 0, 0, 0, 0), some (.ifCond .eq 55, 3, 0, 0, 0, 0), none, none, some (.iload 7, 2, 0, 0, 0, 0), none, some (.iload 8, 2, 0, 0, 0, 0), none, some (.ishr, 1, 0, 0, 0, 0), some (.iconst 1, 1, 0, 0, 0, 0), some (.iand, 1, 0, 0, 0, 0), some (.ifCond .eq 39, 3, 0, 0, 0, 0), none, none, some (.aload_n 0, 1, 0, 0, 0, 0), some (.getfield 64, 3, 1, 5, 0, 12), none, none, some (.bipush 28, 2, 0, 0, 0, 0), none, some (.if_icmp .ge 30, 3, 0, 0, 0, 0), none, none, some (.aload_n 0, 1, 0, 0, 0, 0), some (.getfield 18, 3, 1, 4, 6, 13), none, none, some (.aload_n 0, 1, 0, 0, 0, 0), some (.getfield 64, 3, 1, 5, 0, 12), none, none, some (.bipush 9, 2, 0, 0, 0, 0), none, some (.iload 6, 2, 0, 0, 0, 0), none, some (.imul, 1, 0, 0, 0, 0), some (.iload 8, 2, 0, 0, 0, 0), none, some (.iadd, 1, 0, 0, 0, 0), some (.iastore, 1, 0, 0, 0, 0), some (.aload_n 0, 1, 0, 0, 0, 0), some (.dup, 1, 0, 0, 0, 0), some (.getfield 64, 3, 1, 5, 0, 12), none, none, some (.iconst 1, 1, 0, 0, 0, 0), some (.iadd, 1, 0, 0, 0, 0), some (.putfield 64, 3, 1, 5, 0, 12), none, none, some (.iinc 8 1, 3, 0, 0, 0, 0), none, none, some (.goto (-64), 3, 0, 0, 0, 0), none, none, some (.iinc 5 1, 3, 0, 0, 0, 0), none, none, some (.goto (-133), 3, 0, 0, 0, 0), none, none, some (.return_, 1, 0, 0, 0, 0)]
def e_X1_mark : List (Option EN) := [some (.iload 4, 2, 0, 0, 0, 0), none, some (.iconst 2, 1, 0, 0, 0, 0), some (.if_icmp .lt 30, 3, 0, 0, 0, 0), none, none, some (.iload 4, 2, 0, 0, 0, 0), none, some (.bipush 24, 2, 0, 0, 0, 0), none, some (.if_icmp .gt 23, 3, 0, 0, 0, 0), none, none, some (.iload 4, 2, 0, 0, 0, 0), none, some (.iconst 2, 1, 0, 0, 0, 0), some (.irem, 1, 0, 0, 0, 0), some (.ifCond .ne 16, 3, 0, 0, 0, 0), none, none, some (.iload_n 3, 1, 0, 0, 0, 0), some (.ifCond .lt 12, 3, 0, 0, 0, 0), none, none, some (.iload_n 3, 1, 0, 0, 0, 0), some (.aload_n 2, 1, 0, 0, 0, 0), some (.arraylength, 1, 0, 0, 0, 0), some (.iload 4, 2, 0, 0, 0, 0), none, some (.isub, 1, 0, 0, 0, 0), some (.if_icmp .le 5, 3, 0, 0, 0, 0), none, none, some (.iconst 0, 1, 0, 0, 0, 0), some (.ireturn, 1, 0, 0, 0, 0), some (.iconst 0, 1, 0, 0, 0, 0), some (.istore 5, 2, 0, 0, 0, 0), none, some (.iload 5, 2, 0, 0, 0, 0), none, some (.iconst 1, 1, 0, 0, 0, 0), some (.iadd, 1, 0, 0, 0, 0), some (.iload 4, 2, 0, 0, 0, 0), none, some (.if_icmp .ge 63, 3, 0, 0, 0, 0), none, none, some (.aload_n 2, 1, 0, 0, 0, 0), some (.iload_n 3, 1, 0, 0, 0, 0), some (.iload 5, 2, 0, 0, 0, 0), none, some (.iadd, 1, 0, 0, 0, 0), some (.iaload, 1, 0, 0, 0, 0), some (.istore 6, 2, 0, 0, 0, 0), none, some (.aload_n 2, 1, 0, 0, 0, 0), some (.iload_n 3, 1, 0, 0, 0, 0), some (.iload 5, 2, 0, 0, 0, 0), none, some (.iadd, 1, 0, 0, 0, 0), some (.iconst 1, 1, 0, 0, 0, 0), some (.iadd, 1, 0, 0, 0, 0), some (.iaload, 1, 0, 0, 0, 0), some (.istore 7, 2, 0, 0, 0, 0), none, some (.iload 5, 2, 0, 0, 0, 0), none, some (.iconst 2, 1, 0, 0, 0, 0), some (.irem, 1, 0, 0, 0, 0), some (.ifCond .ne 18, 3, 0, 0, 0, 0), none, none, some (.aload_n 0, 1, 0, 0, 0, 0), some (.aload_n 1, 1, 0, 0, 0, 0), some (.iload 6, 2, 0, 0, 0, 0), none, some (.iload 7, 2, 0, 0, 0, 0), none, some (.invokevirtual 53, 3, 11, 3, 0, 43), none, none, some (.ifCond .eq 18, 3, 0, 0, 0, 0), none, none, some (.goto 17, 3, 0, 0, 0, 0), none, none, some (.aload_n 0, 1, 0, 0, 0, 0), some (.aload_n 1, 1, 0, 0, 0, 0), some (.iload 6, 2, 0, 0, 0, 0), none, some (.iload 7, 2, 0, 0, 0, 0), none, some (.invokevirtual 57, 3, 12, 3, 0, 26), none, none, some (.ifCond .ne 5, 3, 0, 0, 0, 0), none, none, some (.iconst 0, 1, 0, 0, 0, 0), some (.ireturn, 1, 0, 0, 0, 0), some (.iinc 5 1, 3, 0, 0, 0, 0), none, none, some (.goto (-66), 3, 0, 0, 0, 0), none, none, some (.aload_n 2, 1, 0, 0, 0, 0), some (.iload_n 3, 1, 0, 0, 0, 0), some (.iload 4, 2, 0, 0, 0, 0), none, some (.iadd, 1, 0, 0, 0, 0), some (.iconst 1, 1, 0, 0, 0, 0), some (.isub, 1, 0, 0, 0, 0), some (.iaload, 1, 0, 0, 0, 0), some (.istore 5, 2, 0, 0, 0, 0), none, some (.aload_n 0, 1, 0, 0, 0, 0), some (.aload_n 1, 1, 0, 0, 0, 0), some (.aload_n 2, 1, 0, 0, 0, 0), some (.iload_n 3, 1, 0, 0, 0, 0), some (.iaload, 1, 0, 0, 0, 0), some (.invokevirtual 60, 3, 15, 2, 0, 44), none, none, some (.iconst 0, 1, 0, 0, 0, 0), some (.istore 6, 2, 0, 0, 0, 0), none, some (.iload 6, 2, 0, 0, 0, 0), none, some (.aload_n 0, 1, 0, 0, 0, 0), some (.getfield 64, 3, 1, 5, 0, 12), none, none, some (.if_icmp .ge 56, 3, 0, 0, 0, 0), none, none, some (.aload_n 0, 1, 0, 0, 0, 0), some (.aload_n 1, 1, 0, 0, 0, 0), some (.aload_n 0, 1, 0, 0, 0, 0), some (.getfield 18, 3, 1, 4, 6, 13), none, none, some (.iload 6, 2, 0, 0, 0, 0), none, some (.iaload, 1, 0, 0, 0, 0), some (.iload 5, 2, 0, 0, 0, 0), none, some (.invokevirtual 57, 3, 12, 3, 0, 26), none, none, some (.ifCond .eq 33, 3, 0, 0, 0, 0), none, none, some (.aload_n 0, 1, 0, 0, 0, 0), some (.getfield 49, 3, 1, 1, 6, 37), none, none, some (.aload_n 1, 1, 0, 0, 0, 0), some (.aload_n 0, 1, 0, 0, 0, 0), some (.getfield 18, 3, 1, 4, 6, 13), none, none, some (.iload 6, 2, 0, 0, 0, 0), none, some (.iaload, 1, 0, 0, 0, 0), some (.bipush 9, 2, 0, 0, 0, 0), none, some (.idiv, 1, 0, 0, 0, 0), some (.iconst 1, 1, 0, 0, 0, 0), some (.aload_n 0, 1, 0, 0, 0, 0), some (.getfield 18, 3, 1, 4, 6, 13), none, none, some (.iload 6, 2, 0, 0, 0, 0), none, some (.iaload, 1, 0, 0, 0, 0), some (.bipush 9, 2, 0, 0, 0, 0), none, some (.irem, 1, 0, 0, 0, 0), some (.ishl, 1, 0, 0, 0, 0), some (.invokevirtual 68, 3, 21, 3, 0, 45), none, none, some (.iinc 6 1, 3, 0, 0, 0, 0), none, none, some (.goto (-59), 3, 0, 0, 0, 0), none, none, some (.aload_n 0, 1, 0, 0, 0, 0), some (.getfield 49, 3, 1, 1, 6, 37), none, none, some (.getfield 74, 3, 2, 2, 0, 46), none, none, some (.ireturn, 1, 0, 0, 0, 0)]
def e_X1_markFirst : List (Option EN) := [some (.aload_n 0, 1, 0, 0, 0, 0), some (.aload_n 1, 1, 0, 0, 0, 0), some (.invokevirtual 77, 3, 14, 1, 0, 47), none, none, some (.bipush 13, 2, 0, 0, 0, 0), none, some (.istore_n 2, 1, 0, 0, 0, 0), some (.iconst 0, 1, 0, 0, 0, 0), some (.istore_n 3, 1, 0, 0, 0, 0), some (.iload_n 3, 1, 0, 0, 0, 0), some (.sipush 729, 3, 0, 0, 0, 0), none, none, some (.if_icmp .ge 54, 3, 0, 0, 0, 0), none, none, some (.iload_n 2, 1, 0, 0, 0, 0), some (.iconst 1, 1, 0, 0, 0, 0), some (.if_icmp .le 49, 3, 0, 0, 0, 0), none, none, some (.aload_n 0, 1, 0, 0, 0, 0), some (.getfield 15, 3, 1, 3, 6, 19), none, none, some (.iload_n 3, 1, 0, 0, 0, 0), some (.iaload, 1, 0, 0, 0, 0), some (.ifCond .le 34, 3, 0, 0, 0, 0), none, none, some (.aload_n 0, 1, 0, 0, 0, 0), some (.aload_n 1, 1, 0, 0, 0, 0), some (.iload_n 3, 1, 0, 0, 0, 0), some (.iload_n 2, 1, 0, 0, 0, 0), some (.iconst 1, 1, 0, 0, 0, 0), some (.isub, 1, 0, 0, 0, 0), some (.invokevirtual 81, 3, 19, 3, 0, 48), none, none, some (.istore 4, 2, 0, 0, 0, 0), none, some (.iload 4, 2, 0, 0, 0, 0), none, some (.iconst (-1), 1, 0, 0, 0, 0), some (.if_icmp .eq 17, 3, 0, 0, 0, 0), none, none, some (.aload_n 0, 1, 0, 0, 0, 0), some (.getfield 36, 3, 1, 11, 6, 17), none, none, some (.iload 4, 2, 0, 0, 0, 0), none, some (.iaload, 1, 0, 0, 0, 0), some (.istore_n 2, 1, 0, 0, 0, 0), some (.aload_n 0, 1, 0, 0, 0, 0), some (.iload 4, 2, 0, 0, 0, 0), none, some (.invokevirtual 85, 3, 20, 1, 0, 49), none, none, some (.iinc 3 1, 3, 0, 0, 0, 0), none, none, some (.goto (-55), 3, 0, 0, 0, 0), none, none, some (.iload_n 2, 1, 0, 0, 0, 0), some (.bipush 12, 2, 0, 0, 0, 0), none, some (.if_icmp .le 7, 3, 0, 0, 0, 0), none, none, some (.iconst 0, 1, 0, 0, 0, 0), some (.goto 17, 3, 0, 0, 0, 0), none, none, some (.aload_n 0, 1, 0, 0, 0, 0), some (.aload_n 1, 1, 0, 0, 0, 0), some (.aload_n 0, 1, 0, 0, 0, 0), some (.getfield 42, 3, 1, 15, 6, 36), none, none, some (.iconst 0, 1, 0, 0, 0, 0), some (.aload_n 0, 1, 0, 0, 0, 0), some (.getfield 89, 3, 1, 16, 0, 50), none, none, some (.invokevirtual 90, 3, 16, 4, 0, 51), none, none, some (.ireturn, 1, 0, 0, 0, 0)]
def e_X1_meetsFirst : List (Option EN) := [some (.iconst 0, 1, 0, 0, 0, 0), some (.istore_n 1, 1, 0, 0, 0, 0), some (.iload_n 1, 1, 0, 0, 0, 0), some (.aload_n 0, 1, 0, 0, 0, 0), some (.getfield 64, 3, 1, 5, 0, 12), none, none, some (.if_icmp .ge 29, 3, 0, 0, 0, 0), none, none, some (.aload_n 0, 1, 0, 0, 0, 0), some (.getfield 21, 3, 1, 6, 6, 35), none, none, some (.aload_n 0, 1, 0, 0, 0, 0), some (.getfield 18, 3, 1, 4, 6, 13), none, none, some (.iload_n 1, 1, 0, 0, 0, 0), some (.iaload, 1, 0, 0, 0, 0), some (.iaload, 1, 0, 0, 0, 0), some (.aload_n 0, 1, 0, 0, 0, 0), some (.getfield 94, 3, 1, 14, 0, 15), none, none, some (.if_icmp .ne 5, 3, 0, 0, 0, 0), none, none, some (.iconst 1, 1, 0, 0, 0, 0), some (.ireturn, 1, 0, 0, 0, 0), some (.iinc 1 1, 3, 0, 0, 0, 0), none, none, some (.goto (-31), 3, 0, 0, 0, 0), none, none, some (.iconst 0, 1, 0, 0, 0, 0), some (.ireturn, 1, 0, 0, 0, 0)]
def e_X1_reach : List (Option EN) := [some (.aload_n 0, 1, 0, 0, 0, 0), some (.dup, 1, 0, 0, 0, 0), some (.getfield 94, 3, 1, 14, 0, 15), none, none, some (.iconst 1, 1, 0, 0, 0, 0), some (.iadd, 1, 0, 0, 0, 0), some (.putfield 94, 3, 1, 14, 0, 15), none, none, some (.aload_n 0, 1, 0, 0, 0, 0), some (.aload_n 1, 1, 0, 0, 0, 0), some (.iload_n 2, 1, 0, 0, 0, 0), some (.invokevirtual 60, 3, 15, 2, 0, 44), none, none, some (.iconst 0, 1, 0, 0, 0, 0), some (.istore 4, 2, 0, 0, 0, 0), none, some (.iload 4, 2, 0, 0, 0, 0), none, some (.aload_n 0, 1, 0, 0, 0, 0), some (.getfield 64, 3, 1, 5, 0, 12), none, none, some (.if_icmp .ge 25, 3, 0, 0, 0, 0), none, none, some (.aload_n 0, 1, 0, 0, 0, 0), some (.getfield 21, 3, 1, 6, 6, 35), none, none, some (.aload_n 0, 1, 0, 0, 0, 0), some (.getfield 18, 3, 1, 4, 6, 13), none, none, some (.iload 4, 2, 0, 0, 0, 0), none, some (.iaload, 1, 0, 0, 0, 0), some (.aload_n 0, 1, 0, 0, 0, 0), some (.getfield 94, 3, 1, 14, 0, 15), none, none, some (.iastore, 1, 0, 0, 0, 0), some (.iinc 4 1, 3, 0, 0, 0, 0), none, none, some (.goto (-28), 3, 0, 0, 0, 0), none, none, some (.aload_n 0, 1, 0, 0, 0, 0), some (.iconst 0, 1, 0, 0, 0, 0), some (.putfield 97, 3, 1, 13, 0, 23), none, none, some (.aload_n 0, 1, 0, 0, 0, 0), some (.getfield 24, 3, 1, 7, 6, 14), none, none, some (.iload_n 2, 1, 0, 0, 0, 0), some (.aload_n 0, 1, 0, 0, 0, 0), some (.getfield 94, 3, 1, 14, 0, 15), none, none, some (.iastore, 1, 0, 0, 0, 0), some (.aload_n 0, 1, 0, 0, 0, 0), some (.iload_n 2, 1, 0, 0, 0, 0), some (.iconst 1, 1, 0, 0, 0, 0), some (.invokevirtual 100, 3, 10, 2, 0, 18), none, none, some (.iconst 0, 1, 0, 0, 0, 0), some (.istore 4, 2, 0, 0, 0, 0), none, some (.iload 4, 2, 0, 0, 0, 0), none, some (.aload_n 0, 1, 0, 0, 0, 0), some (.getfield 97, 3, 1, 13, 0, 23), none, none, some (.if_icmp .ge 60, 3, 0, 0, 0, 0), none, none, some (.iload 4, 2, 0, 0, 0, 0), none, some (.sipush 729, 3, 0, 0, 0, 0), none, none, some (.if_icmp .ge 52, 3, 0, 0, 0, 0), none, none, some (.aload_n 0, 1, 0, 0, 0, 0), some (.getfield 39, 3, 1, 12, 6, 25), none, none, some (.iload 4, 2, 0, 0, 0, 0), none, some (.iaload, 1, 0, 0, 0, 0), some (.istore 5, 2, 0, 0, 0, 0), none, some (.aload_n 0, 1, 0, 0, 0, 0), some (.aload_n 1, 1, 0, 0, 0, 0), some (.iload 5, 2, 0, 0, 0, 0), none, some (.invokevirtual 60, 3, 15, 2, 0, 44), none, none, some (.aload_n 0, 1, 0, 0, 0, 0), some (.invokevirtual 104, 3, 18, 0, 0, 52), none, none, some (.ifCond .eq 6, 3, 0, 0, 0, 0), none, none, some (.iload 5, 2, 0, 0, 0, 0), none, some (.ireturn, 1, 0, 0, 0, 0), some (.aload_n 0, 1, 0, 0, 0, 0), some (.getfield 36, 3, 1, 11, 6, 17), none, none, some (.iload 5, 2, 0, 0, 0, 0), none, some (.iaload, 1, 0, 0, 0, 0), some (.iload_n 3, 1, 0, 0, 0, 0), some (.if_icmp .ge 9, 3, 0, 0, 0, 0), none, none, some (.aload_n 0, 1, 0, 0, 0, 0), some (.iload 5, 2, 0, 0, 0, 0), none, some (.invokevirtual 108, 3, 7, 1, 0, 53), none, none, some (.iinc 4 1, 3, 0, 0, 0, 0), none, none, some (.goto (-63), 3, 0, 0, 0, 0), none, none, some (.iconst (-1), 1, 0, 0, 0, 0), some (.ireturn, 1, 0, 0, 0, 0)]
def e_X1_writeChain : List (Option EN) := [some (.iload_n 1, 1, 0, 0, 0, 0), some (.istore_n 2, 1, 0, 0, 0, 0), some (.aload_n 0, 1, 0, 0, 0, 0), some (.iconst 2, 1, 0, 0, 0, 0), some (.aload_n 0, 1, 0, 0, 0, 0), some (.getfield 36, 3, 1, 11, 6, 17), none, none, some (.iload_n 1, 1, 0, 0, 0, 0), some (.iaload, 1, 0, 0, 0, 0), some (.imul, 1, 0, 0, 0, 0), some (.putfield 89, 3, 1, 16, 0, 50), none, none, some (.aload_n 0, 1, 0, 0, 0, 0), some (.getfield 89, 3, 1, 16, 0, 50), none, none, some (.iconst 2, 1, 0, 0, 0, 0), some (.isub, 1, 0, 0, 0, 0), some (.istore_n 3, 1, 0, 0, 0, 0), some (.iload_n 3, 1, 0, 0, 0, 0), some (.ifCond .lt 50, 3, 0, 0, 0, 0), none, none, some (.iload_n 3, 1, 0, 0, 0, 0), some (.iconst 1, 1, 0, 0, 0, 0), some (.iadd, 1, 0, 0, 0, 0), some (.bipush 24, 2, 0, 0, 0, 0), none, some (.if_icmp .ge 42, 3, 0, 0, 0, 0), none, none, some (.aload_n 0, 1, 0, 0, 0, 0), some (.getfield 42, 3, 1, 15, 6, 36), none, none, some (.iload_n 3, 1, 0, 0, 0, 0), some (.iconst 1, 1, 0, 0, 0, 0), some (.iadd, 1, 0, 0, 0, 0), some (.iload_n 2, 1, 0, 0, 0, 0), some (.iastore, 1, 0, 0, 0, 0), some (.aload_n 0, 1, 0, 0, 0, 0), some (.getfield 42, 3, 1, 15, 6, 36), none, none, some (.iload_n 3, 1, 0, 0, 0, 0), some (.aload_n 0, 1, 0, 0, 0, 0), some (.getfield 33, 3, 1, 10, 6, 24), none, none, some (.iload_n 2, 1, 0, 0, 0, 0), some (.iaload, 1, 0, 0, 0, 0), some (.iastore, 1, 0, 0, 0, 0), some (.aload_n 0, 1, 0, 0, 0, 0), some (.getfield 30, 3, 1, 9, 6, 16), none, none, some (.aload_n 0, 1, 0, 0, 0, 0), some (.getfield 42, 3, 1, 15, 6, 36), none, none, some (.iload_n 3, 1, 0, 0, 0, 0), some (.iaload, 1, 0, 0, 0, 0), some (.iaload, 1, 0, 0, 0, 0), some (.istore_n 2, 1, 0, 0, 0, 0), some (.iinc 3 (-2), 3, 0, 0, 0, 0), none, none, some (.goto (-48), 3, 0, 0, 0, 0), none, none, some (.return_, 1, 0, 0, 0, 0)]
def e_X2_add : List (Option EN) := [some (.aload_n 1, 1, 0, 0, 0, 0), some (.getfield 19, 3, 0, 1, 6, 54), none, none, some (.iload_n 2, 1, 0, 0, 0, 0), some (.iaload, 1, 0, 0, 0, 0), some (.iload_n 3, 1, 0, 0, 0, 0), some (.iand, 1, 0, 0, 0, 0), some (.aload_n 0, 1, 0, 0, 0, 0), some (.getfield 9, 3, 2, 1, 6, 55), none, none, some (.iload_n 2, 1, 0, 0, 0, 0), some (.iaload, 1, 0, 0, 0, 0), some (.iconst (-1), 1, 0, 0, 0, 0), some (.ixor, 1, 0, 0, 0, 0), some (.iand, 1, 0, 0, 0, 0), some (.istore 4, 2, 0, 0, 0, 0), none, some (.aload_n 0, 1, 0, 0, 0, 0), some (.getfield 9, 3, 2, 1, 6, 55), none, none, some (.iload_n 2, 1, 0, 0, 0, 0), some (.dup2, 1, 0, 0, 0, 0), some (.iaload, 1, 0, 0, 0, 0), some (.iload 4, 2, 0, 0, 0, 0), none, some (.ior, 1, 0, 0, 0, 0), some (.iastore, 1, 0, 0, 0, 0), some (.aload_n 0, 1, 0, 0, 0, 0), some (.dup, 1, 0, 0, 0, 0), some (.getfield 24, 3, 2, 2, 0, 56), none, none, some (.iload 4, 2, 0, 0, 0, 0), none, some (.invokestatic 28, 3, 146, 1, 0, 57), none, none, some (.iadd, 1, 0, 0, 0, 0), some (.putfield 24, 3, 2, 2, 0, 56), none, none, some (.return_, 1, 0, 0, 0, 0)]
def e_X2_addPlaces : List (Option EN) := [some (.iload 4, 2, 0, 0, 0, 0), none, some (.aload_n 1, 1, 0, 0, 0, 0), some (.getfield 34, 3, 0, 2, 6, 58), none, none, some (.bipush 9, 2, 0, 0, 0, 0), none, some (.iload_n 2, 1, 0, 0, 0, 0), some (.imul, 1, 0, 0, 0, 0), some (.iload_n 3, 1, 0, 0, 0, 0), some (.iadd, 1, 0, 0, 0, 0), some (.iaload, 1, 0, 0, 0, 0), some (.iand, 1, 0, 0, 0, 0), some (.istore 5, 2, 0, 0, 0, 0), none, some (.iconst 0, 1, 0, 0, 0, 0), some (.istore 6, 2, 0, 0, 0, 0), none, some (.iload 6, 2, 0, 0, 0, 0), none, some (.bipush 9, 2, 0, 0, 0, 0), none, some (.if_icmp .ge 81, 3, 0, 0, 0, 0), none, none, some (.iload 5, 2, 0, 0, 0, 0), none, some (.iload 6, 2, 0, 0, 0, 0), none, some (.ishr, 1, 0, 0, 0, 0), some (.ifCond .eq 73, 3, 0, 0, 0, 0), none, none, some (.aload_n 0, 1, 0, 0, 0, 0), some (.getfield 15, 3, 2, 0, 6, 59), none, none, some (.getfield 37, 3, 4, 0, 6, 60), none, none, some (.bipush 9, 2, 0, 0, 0, 0), none, some (.iload_n 2, 1, 0, 0, 0, 0), some (.imul, 1, 0, 0, 0, 0), some (.iload 6, 2, 0, 0, 0, 0), none, some (.iadd, 1, 0, 0, 0, 0), some (.iaload, 1, 0, 0, 0, 0), some (.istore 7, 2, 0, 0, 0, 0), none, some (.iload 5, 2, 0, 0, 0, 0), none, some (.iload 6, 2, 0, 0, 0, 0), none, some (.ishr, 1, 0, 0, 0, 0), some (.iconst 1, 1, 0, 0, 0, 0), some (.iand, 1, 0, 0, 0, 0), some (.ifCond .eq 40, 3, 0, 0, 0, 0), none, none, some (.aload_n 0, 1, 0, 0, 0, 0), some (.getfield 9, 3, 2, 1, 6, 55), none, none, some (.iload 7, 2, 0, 0, 0, 0), none, some (.iaload, 1, 0, 0, 0, 0), some (.iload_n 3, 1, 0, 0, 0, 0), some (.ishr, 1, 0, 0, 0, 0), some (.iconst 1, 1, 0, 0, 0, 0), some (.iand, 1, 0, 0, 0, 0), some (.ifCond .ne 26, 3, 0, 0, 0, 0), none, none, some (.aload_n 0, 1, 0, 0, 0, 0), some (.getfield 9, 3, 2, 1, 6, 55), none, none, some (.iload 7, 2, 0, 0, 0, 0), none, some (.dup2, 1, 0, 0, 0, 0), some (.iaload, 1, 0, 0, 0, 0), some (.iconst 1, 1, 0, 0, 0, 0), some (.iload_n 3, 1, 0, 0, 0, 0), some (.ishl, 1, 0, 0, 0, 0), some (.ior, 1, 0, 0, 0, 0), some (.iastore, 1, 0, 0, 0, 0), some (.aload_n 0, 1, 0, 0, 0, 0), some (.dup, 1, 0, 0, 0, 0), some (.getfield 24, 3, 2, 2, 0, 56), none, none, some (.iconst 1, 1, 0, 0, 0, 0), some (.iadd, 1, 0, 0, 0, 0), some (.putfield 24, 3, 2, 2, 0, 56), none, none, some (.iinc 6 1, 3, 0, 0, 0, 0), none, none, some (.goto (-82), 3, 0, 0, 0, 0), none, none, some (.return_, 1, 0, 0, 0, 0)]
def e_X2_init : List (Option EN) := [some (.aload_n 0, 1, 0, 0, 0, 0), some (.invokespecial 3, 3, 9999, 0, 0, 61), none, none, some (.aload_n 0, 1, 0, 0, 0, 0), some (.bipush 81, 2, 0, 0, 0, 0), none, some (.newarray .int, 2, 0, 0, 0, 0), none, some (.putfield 9, 3, 2, 1, 6, 55), none, none, some (.aload_n 0, 1, 0, 0, 0, 0), some (.aload_n 1, 1, 0, 0, 0, 0), some (.putfield 15, 3, 2, 0, 6, 59), none, none, some (.return_, 1, 0, 0, 0, 0)]
def e_X2_leave : List (Option EN) := [some (.iconst 0, 1, 0, 0, 0, 0), some (.istore_n 2, 1, 0, 0, 0, 0), some (.iload_n 2, 1, 0, 0, 0, 0), some (.bipush 81, 2, 0, 0, 0, 0), none, some (.if_icmp .ge 66, 3, 0, 0, 0, 0), none, none, some (.aload_n 0, 1, 0, 0, 0, 0), some (.getfield 9, 3, 2, 1, 6, 55), none, none, some (.iload_n 2, 1, 0, 0, 0, 0), some (.iaload, 1, 0, 0, 0, 0), some (.istore_n 3, 1, 0, 0, 0, 0), some (.iconst 0, 1, 0, 0, 0, 0), some (.istore 4, 2, 0, 0, 0, 0), none, some (.iload 4, 2, 0, 0, 0, 0), none, some (.bipush 9, 2, 0, 0, 0, 0), none, some (.if_icmp .ge 36, 3, 0, 0, 0, 0), none, none, some (.iload_n 3, 1, 0, 0, 0, 0), some (.iload 4, 2, 0, 0, 0, 0), none, some (.ishr, 1, 0, 0, 0, 0), some (.ifCond .eq 29, 3, 0, 0, 0, 0), none, none, some (.iload_n 3, 1, 0, 0, 0, 0), some (.iload 4, 2, 0, 0, 0, 0), none, some (.ishr, 1, 0, 0, 0, 0), some (.iconst 1, 1, 0, 0, 0, 0), some (.iand, 1, 0, 0, 0, 0), some (.ifCond .eq 14, 3, 0, 0, 0, 0), none, none, some (.aload_n 1, 1, 0, 0, 0, 0), some (.bipush 9, 2, 0, 0, 0, 0), none, some (.iload_n 2, 1, 0, 0, 0, 0), some (.imul, 1, 0, 0, 0, 0), some (.iload 4, 2, 0, 0, 0, 0), none, some (.iadd, 1, 0, 0, 0, 0), some (.invokevirtual 42, 3, 0, 1, 0, 62), none, none, some (.iinc 4 1, 3, 0, 0, 0, 0), none, none, some (.goto (-37), 3, 0, 0, 0, 0), none, none, some (.aload_n 0, 1, 0, 0, 0, 0), some (.getfield 9, 3, 2, 1, 6, 55), none, none, some (.iload_n 2, 1, 0, 0, 0, 0), some (.iconst 0, 1, 0, 0, 0, 0), some (.iastore, 1, 0, 0, 0, 0), some (.iinc 2 1, 3, 0, 0, 0, 0), none, none, some (.goto (-66), 3, 0, 0, 0, 0), none, none, some (.aload_n 0, 1, 0, 0, 0, 0), some (.iconst 0, 1, 0, 0, 0, 0), some (.putfield 24, 3, 2, 2, 0, 56), none, none, some (.return_, 1, 0, 0, 0, 0)]
def e_X3_init : List (Option EN) := [some (.aload_n 0, 1, 0, 0, 0, 0), some (.invokespecial 3, 3, 9999, 0, 0, 63), none, none, some (.aload_n 0, 1, 0, 0, 0, 0), some (.aload_n 1, 1, 0, 0, 0, 0), some (.putfield 9, 3, 3, 0, 6, 64), none, none, some (.aload_n 0, 1, 0, 0, 0, 0), some (.aload_n 2, 1, 0, 0, 0, 0), some (.putfield 15, 3, 3, 1, 6, 65), none, none, some (.aload_n 0, 1, 0, 0, 0, 0), some (.new 19, 3, 6, 3, 0, 66), none, none, some (.dup, 1, 0, 0, 0, 0), some (.aload_n 1, 1, 0, 0, 0, 0), some (.aload_n 2, 1, 0, 0, 0, 0), some (.invokespecial 21, 3, 54, 2, 0, 67), none, none, some (.putfield 24, 3, 3, 2, 6, 68), none, none, some (.return_, 1, 0, 0, 0, 0)]
def e_X3_mark : List (Option EN) := [some (.iload_n 2, 1, 0, 0, 0, 0), some (.iconst 3, 1, 0, 0, 0, 0), some (.if_icmp .le 16, 3, 0, 0, 0, 0), none, none, some (.aload_n 0, 1, 0, 0, 0, 0), some (.getfield 24, 3, 3, 2, 6, 68), none, none, some (.aload_n 1, 1, 0, 0, 0, 0), some (.iload_n 2, 1, 0, 0, 0, 0), some (.iload_n 3, 1, 0, 0, 0, 0), some (.iload 4, 2, 0, 0, 0, 0), none, some (.invokevirtual 47, 3, 56, 4, 0, 69), none, none, some (.ireturn, 1, 0, 0, 0, 0), some (.iload_n 3, 1, 0, 0, 0, 0), some (.ifCond .lt 16, 3, 0, 0, 0, 0), none, none, some (.iload 4, 2, 0, 0, 0, 0), none, some (.iconst 1, 1, 0, 0, 0, 0), some (.if_icmp .lt 10, 3, 0, 0, 0, 0), none, none, some (.iload 4, 2, 0, 0, 0, 0), none, some (.bipush 9, 2, 0, 0, 0, 0), none, some (.if_icmp .le 5, 3, 0, 0, 0, 0), none, none, some (.iconst 0, 1, 0, 0, 0, 0), some (.ireturn, 1, 0, 0, 0, 0), some (.iload_n 2, 1, 0, 0, 0, 0), some (.ifCond .ne 22, 3, 0, 0, 0, 0), none, none, some (.iload_n 3, 1, 0, 0, 0, 0), some (.bipush 81, 2, 0, 0, 0, 0), none, some (.if_icmp .ge 16, 3, 0, 0, 0, 0), none, none, some (.aload_n 0, 1, 0, 0, 0, 0), some (.aload_n 1, 1, 0, 0, 0, 0), some (.iload_n 3, 1, 0, 0, 0, 0), some (.iload 4, 2, 0, 0, 0, 0), none, some (.iconst 1, 1, 0, 0, 0, 0), some (.isub, 1, 0, 0, 0, 0), some (.invokevirtual 48, 3, 33, 3, 0, 70), none, none, some (.goto 78, 3, 0, 0, 0, 0), none, none, some (.iload_n 2, 1, 0, 0, 0, 0), some (.iconst 1, 1, 0, 0, 0, 0), some (.if_icmp .ne 22, 3, 0, 0, 0, 0), none, none, some (.iload_n 3, 1, 0, 0, 0, 0), some (.bipush 27, 2, 0, 0, 0, 0), none, some (.if_icmp .ge 16, 3, 0, 0, 0, 0), none, none, some (.aload_n 0, 1, 0, 0, 0, 0), some (.aload_n 1, 1, 0, 0, 0, 0), some (.iload_n 3, 1, 0, 0, 0, 0), some (.iload 4, 2, 0, 0, 0, 0), none, some (.iconst 1, 1, 0, 0, 0, 0), some (.isub, 1, 0, 0, 0, 0), some (.invokevirtual 52, 3, 31, 3, 0, 71), none, none, some (.goto 54, 3, 0, 0, 0, 0), none, none, some (.iload_n 2, 1, 0, 0, 0, 0), some (.iconst 2, 1, 0, 0, 0, 0), some (.if_icmp .ne 28, 3, 0, 0, 0, 0), none, none, some (.iload_n 3, 1, 0, 0, 0, 0), some (.bipush 18, 2, 0, 0, 0, 0), none, some (.if_icmp .lt 22, 3, 0, 0, 0, 0), none, none, some (.iload_n 3, 1, 0, 0, 0, 0), some (.bipush 27, 2, 0, 0, 0, 0), none, some (.if_icmp .ge 16, 3, 0, 0, 0, 0), none, none, some (.aload_n 0, 1, 0, 0, 0, 0), some (.aload_n 1, 1, 0, 0, 0, 0), some (.iload_n 3, 1, 0, 0, 0, 0), some (.iload 4, 2, 0, 0, 0, 0), none, some (.iconst 1, 1, 0, 0, 0, 0), some (.isub, 1, 0, 0, 0, 0), some (.invokevirtual 55, 3, 32, 3, 0, 72), none, none, some (.goto 24, 3, 0, 0, 0, 0), none, none, some (.iload_n 2, 1, 0, 0, 0, 0), some (.iconst 3, 1, 0, 0, 0, 0), some (.if_icmp .ne 19, 3, 0, 0, 0, 0), none, none, some (.iload_n 3, 1, 0, 0, 0, 0), some (.bipush 18, 2, 0, 0, 0, 0), none, some (.if_icmp .ge 13, 3, 0, 0, 0, 0), none, none, some (.aload_n 0, 1, 0, 0, 0, 0), some (.aload_n 1, 1, 0, 0, 0, 0), some (.iload_n 3, 1, 0, 0, 0, 0), some (.iload 4, 2, 0, 0, 0, 0), none, some (.iconst 1, 1, 0, 0, 0, 0), some (.isub, 1, 0, 0, 0, 0), some (.invokevirtual 58, 3, 28, 3, 0, 73), none, none, some (.aload_n 0, 1, 0, 0, 0, 0), some (.getfield 15, 3, 3, 1, 6, 65), none, none, some (.getfield 61, 3, 2, 2, 0, 74), none, none, some (.ireturn, 1, 0, 0, 0, 0)]
def e_X3_markClaimed : List (Option EN) := [some (.iload_n 2, 1, 0, 0, 0, 0), some (.bipush 9, 2, 0, 0, 0, 0), none, some (.if_icmp .ge 40, 3, 0, 0, 0, 0), none, none, some (.bipush 18, 2, 0, 0, 0, 0), none, some (.iconst 3, 1, 0, 0, 0, 0), some (.iload_n 2, 1, 0, 0, 0, 0), some (.iconst 3, 1, 0, 0, 0, 0), some (.idiv, 1, 0, 0, 0, 0), some (.imul, 1, 0, 0, 0, 0), some (.iadd, 1, 0, 0, 0, 0), some (.iload_n 3, 1, 0, 0, 0, 0), some (.iadd, 1, 0, 0, 0, 0), some (.istore 5, 2, 0, 0, 0, 0), none, some (.aload_n 0, 1, 0, 0, 0, 0), some (.getfield 15, 3, 3, 1, 6, 65), none, none, some (.aload_n 1, 1, 0, 0, 0, 0), some (.iload 5, 2, 0, 0, 0, 0), none, some (.iload 4, 2, 0, 0, 0, 0), none, some (.bipush 7, 2, 0, 0, 0, 0), none, some (.iconst 3, 1, 0, 0, 0, 0), some (.iload_n 2, 1, 0, 0, 0, 0), some (.iconst 3, 1, 0, 0, 0, 0), some (.irem, 1, 0, 0, 0, 0), some (.imul, 1, 0, 0, 0, 0), some (.ishl, 1, 0, 0, 0, 0), some (.iconst (-1), 1, 0, 0, 0, 0), some (.ixor, 1, 0, 0, 0, 0), some (.invokevirtual 80, 3, 22, 4, 0, 75), none, none, some (.goto 43, 3, 0, 0, 0, 0), none, none, some (.iload_n 2, 1, 0, 0, 0, 0), some (.bipush 9, 2, 0, 0, 0, 0), none, some (.isub, 1, 0, 0, 0, 0), some (.istore 5, 2, 0, 0, 0, 0), none, some (.bipush 18, 2, 0, 0, 0, 0), none, some (.iconst 3, 1, 0, 0, 0, 0), some (.iload_n 3, 1, 0, 0, 0, 0), some (.imul, 1, 0, 0, 0, 0), some (.iadd, 1, 0, 0, 0, 0), some (.iload 5, 2, 0, 0, 0, 0), none, some (.iconst 3, 1, 0, 0, 0, 0), some (.idiv, 1, 0, 0, 0, 0), some (.iadd, 1, 0, 0, 0, 0), some (.istore 6, 2, 0, 0, 0, 0), none, some (.aload_n 0, 1, 0, 0, 0, 0), some (.getfield 15, 3, 3, 1, 6, 65), none, none, some (.aload_n 1, 1, 0, 0, 0, 0), some (.iload 6, 2, 0, 0, 0, 0), none, some (.iload 4, 2, 0, 0, 0, 0), none, some (.bipush 73, 2, 0, 0, 0, 0), none, some (.iload 5, 2, 0, 0, 0, 0), none, some (.iconst 3, 1, 0, 0, 0, 0), some (.irem, 1, 0, 0, 0, 0), some (.ishl, 1, 0, 0, 0, 0), some (.iconst (-1), 1, 0, 0, 0, 0), some (.ixor, 1, 0, 0, 0, 0), some (.invokevirtual 80, 3, 22, 4, 0, 75), none, none, some (.return_, 1, 0, 0, 0, 0)]
def e_X3_markClaiming : List (Option EN) := [some (.aload_n 1, 1, 0, 0, 0, 0), some (.getfield 84, 3, 0, 2, 6, 76), none, none, some (.bipush 9, 2, 0, 0, 0, 0), none, some (.iload_n 2, 1, 0, 0, 0, 0), some (.imul, 1, 0, 0, 0, 0), some (.iload_n 3, 1, 0, 0, 0, 0), some (.iadd, 1, 0, 0, 0, 0), some (.iaload, 1, 0, 0, 0, 0), some (.istore 4, 2, 0, 0, 0, 0), none, some (.iload 4, 2, 0, 0, 0, 0), none, some (.ifCond .ne 4, 3, 0, 0, 0, 0), none, none, some (.return_, 1, 0, 0, 0, 0), some (.iconst 0, 1, 0, 0, 0, 0), some (.istore 5, 2, 0, 0, 0, 0), none, some (.iload 5, 2, 0, 0, 0, 0), none, some (.iconst 3, 1, 0, 0, 0, 0), some (.if_icmp .ge 34, 3, 0, 0, 0, 0), none, none, some (.iload 4, 2, 0, 0, 0, 0), none, some (.bipush 7, 2, 0, 0, 0, 0), none, some (.iconst 3, 1, 0, 0, 0, 0), some (.iload 5, 2, 0, 0, 0, 0), none, some (.imul, 1, 0, 0, 0, 0), some (.ishl, 1, 0, 0, 0, 0), some (.iconst (-1), 1, 0, 0, 0, 0), some (.ixor, 1, 0, 0, 0, 0), some (.iand, 1, 0, 0, 0, 0), some (.ifCond .ne 13, 3, 0, 0, 0, 0), none, none, some (.aload_n 0, 1, 0, 0, 0, 0), some (.aload_n 1, 1, 0, 0, 0, 0), some (.iload_n 2, 1, 0, 0, 0, 0), some (.iload 5, 2, 0, 0, 0, 0), none, some (.iload_n 3, 1, 0, 0, 0, 0), some (.invokevirtual 101, 3, 27, 4, 0, 77), none, none, some (.return_, 1, 0, 0, 0, 0), some (.iinc 5 1, 3, 0, 0, 0, 0), none, none, some (.goto (-34), 3, 0, 0, 0, 0), none, none, some (.return_, 1, 0, 0, 0, 0)]
def e_X3_markFirst : List (Option EN) := [some (.iload_n 2, 1, 0, 0, 0, 0), some (.iconst 3, 1, 0, 0, 0, 0), some (.if_icmp .le 10, 3, 0, 0, 0, 0), none, none, some (.aload_n 0, 1, 0, 0, 0, 0), some (.aload_n 1, 1, 0, 0, 0, 0), some (.iload_n 2, 1, 0, 0, 0, 0), some (.invokevirtual 28, 3, 30, 2, 0, 78), none, none, some (.ireturn, 1, 0, 0, 0, 0), some (.iload_n 2, 1, 0, 0, 0, 0), some (.ifCond .ne 8, 3, 0, 0, 0, 0), none, none, some (.bipush 81, 2, 0, 0, 0, 0), none, some (.goto 5, 3, 0, 0, 0, 0), none, none, some (.bipush 27, 2, 0, 0, 0, 0), none, some (.istore_n 3, 1, 0, 0, 0, 0), some (.iconst 0, 1, 0, 0, 0, 0), some (.istore 4, 2, 0, 0, 0, 0), none, some (.iload 4, 2, 0, 0, 0, 0), none, some (.iload_n 3, 1, 0, 0, 0, 0), some (.if_icmp .ge 57, 3, 0, 0, 0, 0), none, none, some (.iconst 1, 1, 0, 0, 0, 0), some (.istore 5, 2, 0, 0, 0, 0), none, some (.iload 5, 2, 0, 0, 0, 0), none, some (.bipush 9, 2, 0, 0, 0, 0), none, some (.if_icmp .gt 41, 3, 0, 0, 0, 0), none, none, some (.aload_n 0, 1, 0, 0, 0, 0), some (.aload_n 1, 1, 0, 0, 0, 0), some (.iload_n 2, 1, 0, 0, 0, 0), some (.iload 4, 2, 0, 0, 0, 0), none, some (.iload 5, 2, 0, 0, 0, 0), none, some (.invokevirtual 32, 3, 26, 4, 0, 79), none, none, some (.istore 6, 2, 0, 0, 0, 0), none, some (.iload 6, 2, 0, 0, 0, 0), none, some (.ifCond .le 18, 3, 0, 0, 0, 0), none, none, some (.aload_n 0, 1, 0, 0, 0, 0), some (.iload 4, 2, 0, 0, 0, 0), none, some (.putfield 36, 3, 3, 3, 0, 80), none, none, some (.aload_n 0, 1, 0, 0, 0, 0), some (.iload 5, 2, 0, 0, 0, 0), none, some (.putfield 40, 3, 3, 4, 0, 81), none, none, some (.iload 6, 2, 0, 0, 0, 0), none, some (.ireturn, 1, 0, 0, 0, 0), some (.iinc 5 1, 3, 0, 0, 0, 0), none, none, some (.goto (-42), 3, 0, 0, 0, 0), none, none, some (.iinc 4 1, 3, 0, 0, 0, 0), none, none, some (.goto (-57), 3, 0, 0, 0, 0), none, none, some (.iconst 0, 1, 0, 0, 0, 0), some (.ireturn, 1, 0, 0, 0, 0)]
def e_X3_markFirstSubset : List (Option EN) := [some (.iconst 0, 1, 0, 0, 0, 0), some (.istore_n 3, 1, 0, 0, 0, 0), some (.iload_n 3, 1, 0, 0, 0, 0), some (.bipush 27, 2, 0, 0, 0, 0), none, some (.if_icmp .ge 50, 3, 0, 0, 0, 0), none, none, some (.aload_n 0, 1, 0, 0, 0, 0), some (.getfield 24, 3, 3, 2, 6, 68), none, none, some (.aload_n 1, 1, 0, 0, 0, 0), some (.iload_n 2, 1, 0, 0, 0, 0), some (.iload_n 3, 1, 0, 0, 0, 0), some (.invokevirtual 43, 3, 52, 3, 0, 82), none, none, some (.istore 4, 2, 0, 0, 0, 0), none, some (.iload 4, 2, 0, 0, 0, 0), none, some (.ifCond .eq 27, 3, 0, 0, 0, 0), none, none, some (.aload_n 0, 1, 0, 0, 0, 0), some (.iload_n 3, 1, 0, 0, 0, 0), some (.putfield 36, 3, 3, 3, 0, 80), none, none, some (.aload_n 0, 1, 0, 0, 0, 0), some (.iload 4, 2, 0, 0, 0, 0), none, some (.putfield 40, 3, 3, 4, 0, 81), none, none, some (.aload_n 0, 1, 0, 0, 0, 0), some (.getfield 24, 3, 3, 2, 6, 68), none, none, some (.aload_n 1, 1, 0, 0, 0, 0), some (.iload_n 2, 1, 0, 0, 0, 0), some (.iload_n 3, 1, 0, 0, 0, 0), some (.iload 4, 2, 0, 0, 0, 0), none, some (.invokevirtual 47, 3, 56, 4, 0, 69), none, none, some (.ireturn, 1, 0, 0, 0, 0), some (.iinc 3 1, 3, 0, 0, 0, 0), none, none, some (.goto (-50), 3, 0, 0, 0, 0), none, none, some (.iconst 0, 1, 0, 0, 0, 0), some (.ireturn, 1, 0, 0, 0, 0)]
def e_X3_markHidden : List (Option EN) := [some (.aload_n 1, 1, 0, 0, 0, 0), some (.getfield 84, 3, 0, 2, 6, 76), none, none, some (.bipush 9, 2, 0, 0, 0, 0), none, some (.iload_n 2, 1, 0, 0, 0, 0), some (.imul, 1, 0, 0, 0, 0), some (.iload_n 3, 1, 0, 0, 0, 0), some (.iadd, 1, 0, 0, 0, 0), some (.iaload, 1, 0, 0, 0, 0), some (.istore 4, 2, 0, 0, 0, 0), none, some (.iload 4, 2, 0, 0, 0, 0), none, some (.invokestatic 87, 3, 75, 1, 1, 83), none, none, some (.ifCond .eq 38, 3, 0, 0, 0, 0), none, none, some (.aload_n 0, 1, 0, 0, 0, 0), some (.getfield 15, 3, 3, 1, 6, 65), none, none, some (.aload_n 1, 1, 0, 0, 0, 0), some (.aload_n 0, 1, 0, 0, 0, 0), some (.getfield 9, 3, 3, 0, 6, 64), none, none, some (.getfield 91, 3, 4, 0, 6, 84), none, none, some (.bipush 9, 2, 0, 0, 0, 0), none, some (.iload_n 2, 1, 0, 0, 0, 0), some (.imul, 1, 0, 0, 0, 0), some (.iload 4, 2, 0, 0, 0, 0), none, some (.invokestatic 94, 3, 78, 1, 1, 85), none, none, some (.iadd, 1, 0, 0, 0, 0), some (.iaload, 1, 0, 0, 0, 0), some (.sipush 511, 3, 0, 0, 0, 0), none, none, some (.iconst 1, 1, 0, 0, 0, 0), some (.iload_n 3, 1, 0, 0, 0, 0), some (.ishl, 1, 0, 0, 0, 0), some (.iconst (-1), 1, 0, 0, 0, 0), some (.ixor, 1, 0, 0, 0, 0), some (.iand, 1, 0, 0, 0, 0), some (.invokevirtual 98, 3, 21, 3, 0, 86), none, none, some (.return_, 1, 0, 0, 0, 0)]
def e_X3_markPointing : List (Option EN) := [some (.aload_n 1, 1, 0, 0, 0, 0), some (.getfield 84, 3, 0, 2, 6, 76), none, none, some (.bipush 9, 2, 0, 0, 0, 0), none, some (.iload_n 2, 1, 0, 0, 0, 0), some (.imul, 1, 0, 0, 0, 0), some (.iload_n 3, 1, 0, 0, 0, 0), some (.iadd, 1, 0, 0, 0, 0), some (.iaload, 1, 0, 0, 0, 0), some (.istore 4, 2, 0, 0, 0, 0), none, some (.iload 4, 2, 0, 0, 0, 0), none, some (.ifCond .ne 4, 3, 0, 0, 0, 0), none, none, some (.return_, 1, 0, 0, 0, 0), some (.iload_n 2, 1, 0, 0, 0, 0), some (.bipush 18, 2, 0, 0, 0, 0), none, some (.isub, 1, 0, 0, 0, 0), some (.iconst 3, 1, 0, 0, 0, 0), some (.idiv, 1, 0, 0, 0, 0), some (.istore 5, 2, 0, 0, 0, 0), none, some (.iload_n 2, 1, 0, 0, 0, 0), some (.bipush 18, 2, 0, 0, 0, 0), none, some (.isub, 1, 0, 0, 0, 0), some (.iconst 3, 1, 0, 0, 0, 0), some (.irem, 1, 0, 0, 0, 0), some (.istore 6, 2, 0, 0, 0, 0), none, some (.iconst 0, 1, 0, 0, 0, 0), some (.istore 7, 2, 0, 0, 0, 0), none, some (.iload 7, 2, 0, 0, 0, 0), none, some (.iconst 3, 1, 0, 0, 0, 0), some (.if_icmp .ge 50, 3, 0, 0, 0, 0), none, none, some (.iload 4, 2, 0, 0, 0, 0), none, some (.bipush 7, 2, 0, 0, 0, 0), none, some (.iconst 3, 1, 0, 0, 0, 0), some (.iload 7, 2, 0, 0, 0, 0), none, some (.imul, 1, 0, 0, 0, 0), some (.ishl, 1, 0, 0, 0, 0), some (.iconst (-1), 1, 0, 0, 0, 0), some (.ixor, 1, 0, 0, 0, 0), some (.iand, 1, 0, 0, 0, 0), some (.ifCond .ne 29, 3, 0, 0, 0, 0), none, none, some (.aload_n 0, 1, 0, 0, 0, 0), some (.getfield 15, 3, 3, 1, 6, 65), none, none, some (.aload_n 1, 1, 0, 0, 0, 0), some (.iconst 3, 1, 0, 0, 0, 0), some (.iload 5, 2, 0, 0, 0, 0), none, some (.imul, 1, 0, 0, 0, 0), some (.iload 7, 2, 0, 0, 0, 0), none, some (.iadd, 1, 0, 0, 0, 0), some (.iload_n 3, 1, 0, 0, 0, 0), some (.bipush 7, 2, 0, 0, 0, 0), none, some (.iconst 3, 1, 0, 0, 0, 0), some (.iload 6, 2, 0, 0, 0, 0), none, some (.imul, 1, 0, 0, 0, 0), some (.ishl, 1, 0, 0, 0, 0), some (.iconst (-1), 1, 0, 0, 0, 0), some (.ixor, 1, 0, 0, 0, 0), some (.invokevirtual 80, 3, 22, 4, 0, 75), none, none, some (.return_, 1, 0, 0, 0, 0), some (.iinc 7 1, 3, 0, 0, 0, 0), none, none, some (.goto (-50), 3, 0, 0, 0, 0), none, none, some (.iconst 0, 1, 0, 0, 0, 0), some (.istore 7, 2, 0, 0, 0, 0), none, some (.iload 7, 2, 0, 0, 0, 0), none, some (.iconst 3, 1, 0, 0, 0, 0), some (.if_icmp .ge 51, 3, 0, 0, 0, 0), none, none, some (.iload 4, 2, 0, 0, 0, 0), none, some (.bipush 73, 2, 0, 0, 0, 0), none, some (.iload 7, 2, 0, 0, 0, 0), none, some (.ishl, 1, 0, 0, 0, 0), some (.iconst (-1), 1, 0, 0, 0, 0), some (.ixor, 1, 0, 0, 0, 0), some (.iand, 1, 0, 0, 0, 0), some (.ifCond .ne 32, 3, 0, 0, 0, 0), none, none, some (.aload_n 0, 1, 0, 0, 0, 0), some (.getfield 15, 3, 3, 1, 6, 65), none, none, some (.aload_n 1, 1, 0, 0, 0, 0), some (.bipush 9, 2, 0, 0, 0, 0), none, some (.iconst 3, 1, 0, 0, 0, 0), some (.iload 6, 2, 0, 0, 0, 0), none, some (.imul, 1, 0, 0, 0, 0), some (.iadd, 1, 0, 0, 0, 0), some (.iload 7, 2, 0, 0, 0, 0), none, some (.iadd, 1, 0, 0, 0, 0), some (.iload_n 3, 1, 0, 0, 0, 0), some (.bipush 7, 2, 0, 0, 0, 0), none, some (.iconst 3, 1, 0, 0, 0, 0), some (.iload 5, 2, 0, 0, 0, 0), none, some (.imul, 1, 0, 0, 0, 0), some (.ishl, 1, 0, 0, 0, 0), some (.iconst (-1), 1, 0, 0, 0, 0), some (.ixor, 1, 0, 0, 0, 0), some (.invokevirtual 80, 3, 22, 4, 0, 75), none, none, some (.return_, 1, 0, 0, 0, 0), some (.iinc 7 1, 3, 0, 0, 0, 0), none, none, some (.goto (-51), 3, 0, 0, 0, 0), none, none, some (.return_, 1, 0, 0, 0, 0)]
def e_X3_markSingle : List (Option EN) := [some (.aload_n 1, 1, 0, 0, 0, 0), some (.getfield 66, 3, 0, 1, 6, 87), none, none, some (.iload_n 2, 1, 0, 0, 0, 0), some (.iaload, 1, 0, 0, 0, 0), some (.iconst 1, 1, 0, 0, 0, 0), some (.iload_n 3, 1, 0, 0, 0, 0), some (.ishl, 1, 0, 0, 0, 0), some (.if_icmp .eq 4, 3, 0, 0, 0, 0), none, none, some (.return_, 1, 0, 0, 0, 0), some (.iconst 0, 1, 0, 0, 0, 0), some (.istore 4, 2, 0, 0, 0, 0), none, some (.iload 4, 2, 0, 0, 0, 0), none, some (.iconst 3, 1, 0, 0, 0, 0), some (.if_icmp .ge 58, 3, 0, 0, 0, 0), none, none, some (.aload_n 0, 1, 0, 0, 0, 0), some (.getfield 9, 3, 3, 0, 6, 64), none, none, some (.getfield 72, 3, 4, 1, 6, 88), none, none, some (.iconst 3, 1, 0, 0, 0, 0), some (.iload_n 2, 1, 0, 0, 0, 0), some (.imul, 1, 0, 0, 0, 0), some (.iload 4, 2, 0, 0, 0, 0), none, some (.iadd, 1, 0, 0, 0, 0), some (.iaload, 1, 0, 0, 0, 0), some (.istore 5, 2, 0, 0, 0, 0), none, some (.iconst 1, 1, 0, 0, 0, 0), some (.aload_n 0, 1, 0, 0, 0, 0), some (.getfield 9, 3, 3, 0, 6, 64), none, none, some (.getfield 77, 3, 4, 2, 6, 89), none, none, some (.iconst 3, 1, 0, 0, 0, 0), some (.iload_n 2, 1, 0, 0, 0, 0), some (.imul, 1, 0, 0, 0, 0), some (.iload 4, 2, 0, 0, 0, 0), none, some (.iadd, 1, 0, 0, 0, 0), some (.iaload, 1, 0, 0, 0, 0), some (.ishl, 1, 0, 0, 0, 0), some (.istore 6, 2, 0, 0, 0, 0), none, some (.aload_n 0, 1, 0, 0, 0, 0), some (.getfield 15, 3, 3, 1, 6, 65), none, none, some (.aload_n 1, 1, 0, 0, 0, 0), some (.iload 5, 2, 0, 0, 0, 0), none, some (.iload_n 3, 1, 0, 0, 0, 0), some (.iload 6, 2, 0, 0, 0, 0), none, some (.iconst (-1), 1, 0, 0, 0, 0), some (.ixor, 1, 0, 0, 0, 0), some (.invokevirtual 80, 3, 22, 4, 0, 75), none, none, some (.iinc 4 1, 3, 0, 0, 0, 0), none, none, some (.goto (-58), 3, 0, 0, 0, 0), none, none, some (.return_, 1, 0, 0, 0, 0)]
def e_X4_enter : List (Option EN) := [some (.aload_n 0, 1, 0, 0, 0, 0), some (.getfield 9, 3, 4, 0, 6, 90), none, none, some (.bipush 9, 2, 0, 0, 0, 0), none, some (.iload_n 3, 1, 0, 0, 0, 0), some (.imul, 1, 0, 0, 0, 0), some (.iload 4, 2, 0, 0, 0, 0), none, some (.iadd, 1, 0, 0, 0, 0), some (.iload_n 1, 1, 0, 0, 0, 0), some (.iastore, 1, 0, 0, 0, 0), some (.aload_n 0, 1, 0, 0, 0, 0), some (.getfield 15, 3, 4, 1, 6, 91), none, none, some (.iconst 3, 1, 0, 0, 0, 0), some (.iload_n 1, 1, 0, 0, 0, 0), some (.imul, 1, 0, 0, 0, 0), some (.iload_n 2, 1, 0, 0, 0, 0), some (.iadd, 1, 0, 0, 0, 0), some (.iload_n 3, 1, 0, 0, 0, 0), some (.iastore, 1, 0, 0, 0, 0), some (.aload_n 0, 1, 0, 0, 0, 0), some (.getfield 18, 3, 4, 2, 6, 92), none, none, some (.iconst 3, 1, 0, 0, 0, 0), some (.iload_n 1, 1, 0, 0, 0, 0), some (.imul, 1, 0, 0, 0, 0), some (.iload_n 2, 1, 0, 0, 0, 0), some (.iadd, 1, 0, 0, 0, 0), some (.iload 4, 2, 0, 0, 0, 0), none, some (.iastore, 1, 0, 0, 0, 0), some (.return_, 1, 0, 0, 0, 0)]
def e_X4_init : List (Option EN) := [some (.aload_n 0, 1, 0, 0, 0, 0), some (.invokespecial 3, 3, 9999, 0, 0, 93), none, none, some (.aload_n 0, 1, 0, 0, 0, 0), some (.sipush 243, 3, 0, 0, 0, 0), none, none, some (.newarray .int, 2, 0, 0, 0, 0), none, some (.putfield 9, 3, 4, 0, 6, 90), none, none, some (.aload_n 0, 1, 0, 0, 0, 0), some (.sipush 243, 3, 0, 0, 0, 0), none, none, some (.newarray .int, 2, 0, 0, 0, 0), none, some (.putfield 15, 3, 4, 1, 6, 91), none, none, some (.aload_n 0, 1, 0, 0, 0, 0), some (.sipush 243, 3, 0, 0, 0, 0), none, none, some (.newarray .int, 2, 0, 0, 0, 0), none, some (.putfield 18, 3, 4, 2, 6, 92), none, none, some (.aload_n 0, 1, 0, 0, 0, 0), some (.sipush 1701, 3, 0, 0, 0, 0), none, none, some (.newarray .int, 2, 0, 0, 0, 0), none, some (.putfield 21, 3, 4, 3, 6, 94), none, none, some (.iconst 0, 1, 0, 0, 0, 0), some (.istore_n 1, 1, 0, 0, 0, 0), some (.iload_n 1, 1, 0, 0, 0, 0), some (.bipush 81, 2, 0, 0, 0, 0), none, some (.if_icmp .ge 65, 3, 0, 0, 0, 0), none, none, some (.iload_n 1, 1, 0, 0, 0, 0), some (.bipush 9, 2, 0, 0, 0, 0), none, some (.idiv, 1, 0, 0, 0, 0), some (.istore_n 2, 1, 0, 0, 0, 0), some (.iload_n 1, 1, 0, 0, 0, 0), some (.bipush 9, 2, 0, 0, 0, 0), none, some (.irem, 1, 0, 0, 0, 0), some (.istore_n 3, 1, 0, 0, 0, 0), some (.aload_n 0, 1, 0, 0, 0, 0), some (.iload_n 1, 1, 0, 0, 0, 0), some (.iconst 0, 1, 0, 0, 0, 0), some (.iload_n 2, 1, 0, 0, 0, 0), some (.iload_n 3, 1, 0, 0, 0, 0), some (.invokevirtual 24, 3, 34, 4, 0, 95), none, none, some (.aload_n 0, 1, 0, 0, 0, 0), some (.iload_n 1, 1, 0, 0, 0, 0), some (.iconst 1, 1, 0, 0, 0, 0), some (.bipush 9, 2, 0, 0, 0, 0), none, some (.iload_n 3, 1, 0, 0, 0, 0), some (.iadd, 1, 0, 0, 0, 0), some (.iload_n 2, 1, 0, 0, 0, 0), some (.invokevirtual 24, 3, 34, 4, 0, 95), none, none, some (.aload_n 0, 1, 0, 0, 0, 0), some (.iload_n 1, 1, 0, 0, 0, 0), some (.iconst 2, 1, 0, 0, 0, 0), some (.bipush 18, 2, 0, 0, 0, 0), none, some (.iconst 3, 1, 0, 0, 0, 0), some (.iload_n 2, 1, 0, 0, 0, 0), some (.iconst 3, 1, 0, 0, 0, 0), some (.idiv, 1, 0, 0, 0, 0), some (.imul, 1, 0, 0, 0, 0), some (.iadd, 1, 0, 0, 0, 0), some (.iload_n 3, 1, 0, 0, 0, 0), some (.iconst 3, 1, 0, 0, 0, 0), some (.idiv, 1, 0, 0, 0, 0), some (.iadd, 1, 0, 0, 0, 0), some (.iconst 3, 1, 0, 0, 0, 0), some (.iload_n 2, 1, 0, 0, 0, 0), some (.iconst 3, 1, 0, 0, 0, 0), some (.irem, 1, 0, 0, 0, 0), some (.imul, 1, 0, 0, 0, 0), some (.iload_n 3, 1, 0, 0, 0, 0), some (.iconst 3, 1, 0, 0, 0, 0), some (.irem, 1, 0, 0, 0, 0), some (.iadd, 1, 0, 0, 0, 0), some (.invokevirtual 24, 3, 34, 4, 0, 95), none, none, some (.iinc 1 1, 3, 0, 0, 0, 0), none, none, some (.goto (-65), 3, 0, 0, 0, 0), none, none, some (.iconst 0, 1, 0, 0, 0, 0), some (.istore_n 1, 1, 0, 0, 0, 0), some (.iload_n 1, 1, 0, 0, 0, 0), some (.bipush 81, 2, 0, 0, 0, 0), none, some (.if_icmp .ge 14, 3, 0, 0, 0, 0), none, none, some (.aload_n 0, 1, 0, 0, 0, 0), some (.iload_n 1, 1, 0, 0, 0, 0), some (.invokevirtual 28, 3, 36, 1, 0, 96), none, none, some (.iinc 1 1, 3, 0, 0, 0, 0), none, none, some (.goto (-14), 3, 0, 0, 0, 0), none, none, some (.return_, 1, 0, 0, 0, 0)]
def e_X4_listNear : List (Option EN) := [some (.iconst 0, 1, 0, 0, 0, 0), some (.istore_n 2, 1, 0, 0, 0, 0), some (.iconst 0, 1, 0, 0, 0, 0), some (.istore_n 3, 1, 0, 0, 0, 0), some (.iload_n 3, 1, 0, 0, 0, 0), some (.bipush 81, 2, 0, 0, 0, 0), none, some (.if_icmp .ge 39, 3, 0, 0, 0, 0), none, none, some (.iload_n 2, 1, 0, 0, 0, 0), some (.bipush 21, 2, 0, 0, 0, 0), none, some (.if_icmp .ge 33, 3, 0, 0, 0, 0), none, none, some (.aload_n 0, 1, 0, 0, 0, 0), some (.iload_n 1, 1, 0, 0, 0, 0), some (.iload_n 3, 1, 0, 0, 0, 0), some (.invokevirtual 32, 3, 37, 2, 0, 97), none, none, some (.ifCond .eq 18, 3, 0, 0, 0, 0), none, none, some (.aload_n 0, 1, 0, 0, 0, 0), some (.getfield 21, 3, 4, 3, 6, 94), none, none, some (.bipush 21, 2, 0, 0, 0, 0), none, some (.iload_n 1, 1, 0, 0, 0, 0), some (.imul, 1, 0, 0, 0, 0), some (.iload_n 2, 1, 0, 0, 0, 0), some (.iadd, 1, 0, 0, 0, 0), some (.iload_n 3, 1, 0, 0, 0, 0), some (.iastore, 1, 0, 0, 0, 0), some (.iinc 2 1, 3, 0, 0, 0, 0), none, none, some (.iinc 3 1, 3, 0, 0, 0, 0), none, none, some (.goto (-39), 3, 0, 0, 0, 0), none, none, some (.return_, 1, 0, 0, 0, 0)]
def e_X4_shareHouse : List (Option EN) := [some (.aload_n 0, 1, 0, 0, 0, 0), some (.getfield 15, 3, 4, 1, 6, 91), none, none, some (.iconst 3, 1, 0, 0, 0, 0), some (.iload_n 1, 1, 0, 0, 0, 0), some (.imul, 1, 0, 0, 0, 0), some (.iaload, 1, 0, 0, 0, 0), some (.aload_n 0, 1, 0, 0, 0, 0), some (.getfield 15, 3, 4, 1, 6, 91), none, none, some (.iconst 3, 1, 0, 0, 0, 0), some (.iload_n 2, 1, 0, 0, 0, 0), some (.imul, 1, 0, 0, 0, 0), some (.iaload, 1, 0, 0, 0, 0), some (.if_icmp .eq 49, 3, 0, 0, 0, 0), none, none, some (.aload_n 0, 1, 0, 0, 0, 0), some (.getfield 15, 3, 4, 1, 6, 91), none, none, some (.iconst 3, 1, 0, 0, 0, 0), some (.iload_n 1, 1, 0, 0, 0, 0), some (.imul, 1, 0, 0, 0, 0), some (.iconst 1, 1, 0, 0, 0, 0), some (.iadd, 1, 0, 0, 0, 0), some (.iaload, 1, 0, 0, 0, 0), some (.aload_n 0, 1, 0, 0, 0, 0), some (.getfield 15, 3, 4, 1, 6, 91), none, none, some (.iconst 3, 1, 0, 0, 0, 0), some (.iload_n 2, 1, 0, 0, 0, 0), some (.imul, 1, 0, 0, 0, 0), some (.iconst 1, 1, 0, 0, 0, 0), some (.iadd, 1, 0, 0, 0, 0), some (.iaload, 1, 0, 0, 0, 0), some (.if_icmp .eq 26, 3, 0, 0, 0, 0), none, none, some (.aload_n 0, 1, 0, 0, 0, 0), some (.getfield 15, 3, 4, 1, 6, 91), none, none, some (.iconst 3, 1, 0, 0, 0, 0), some (.iload_n 1, 1, 0, 0, 0, 0), some (.imul, 1, 0, 0, 0, 0), some (.iconst 2, 1, 0, 0, 0, 0), some (.iadd, 1, 0, 0, 0, 0), some (.iaload, 1, 0, 0, 0, 0), some (.aload_n 0, 1, 0, 0, 0, 0), some (.getfield 15, 3, 4, 1, 6, 91), none, none, some (.iconst 3, 1, 0, 0, 0, 0), some (.iload_n 2, 1, 0, 0, 0, 0), some (.imul, 1, 0, 0, 0, 0), some (.iconst 2, 1, 0, 0, 0, 0), some (.iadd, 1, 0, 0, 0, 0), some (.iaload, 1, 0, 0, 0, 0), some (.if_icmp .ne 7, 3, 0, 0, 0, 0), none, none, some (.iconst 1, 1, 0, 0, 0, 0), some (.goto 4, 3, 0, 0, 0, 0), none, none, some (.iconst 0, 1, 0, 0, 0, 0), some (.ireturn, 1, 0, 0, 0, 0)]
def e_X5_begin : List (Option EN) := [some (.aload_n 0, 1, 0, 0, 0, 0), some (.getfield 40, 3, 5, 9, 1, 98), none, none, some (.ifCond .eq 4, 3, 0, 0, 0, 0), none, none, some (.return_, 1, 0, 0, 0, 0), some (.aload_n 0, 1, 0, 0, 0, 0), some (.iconst 1, 1, 0, 0, 0, 0), some (.putfield 40, 3, 5, 9, 1, 98), none, none, some (.aload_n 0, 1, 0, 0, 0, 0), some (.getfield 36, 3, 5, 1, 6, 99), none, none, some (.aload_n 1, 1, 0, 0, 0, 0), some (.invokevirtual 57, 3, 5, 1, 0, 100), none, none, some (.aload_n 0, 1, 0, 0, 0, 0), some (.iconst 0, 1, 0, 0, 0, 0), some (.putfield 61, 3, 5, 4, 1, 101), none, none, some (.aload_n 0, 1, 0, 0, 0, 0), some (.iconst 0, 1, 0, 0, 0, 0), some (.putfield 64, 3, 5, 3, 0, 102), none, none, some (.iconst 0, 1, 0, 0, 0, 0), some (.istore_n 2, 1, 0, 0, 0, 0), some (.iload_n 2, 1, 0, 0, 0, 0), some (.bipush 81, 2, 0, 0, 0, 0), none, some (.if_icmp .ge 23, 3, 0, 0, 0, 0), none, none, some (.aload_n 0, 1, 0, 0, 0, 0), some (.aload_n 0, 1, 0, 0, 0, 0), some (.getfield 36, 3, 5, 1, 6, 99), none, none, some (.getfield 67, 3, 0, 1, 6, 103), none, none, some (.iload_n 2, 1, 0, 0, 0, 0), some (.iaload, 1, 0, 0, 0, 0), some (.iload_n 2, 1, 0, 0, 0, 0), some (.invokevirtual 70, 3, 47, 2, 0, 104), none, none, some (.iinc 2 1, 3, 0, 0, 0, 0), none, none, some (.goto (-23), 3, 0, 0, 0, 0), none, none, some (.iconst 0, 1, 0, 0, 0, 0), some (.istore_n 2, 1, 0, 0, 0, 0), some (.iload_n 2, 1, 0, 0, 0, 0), some (.sipush 243, 3, 0, 0, 0, 0), none, none, some (.if_icmp .ge 26, 3, 0, 0, 0, 0), none, none, some (.aload_n 0, 1, 0, 0, 0, 0), some (.aload_n 0, 1, 0, 0, 0, 0), some (.getfield 36, 3, 5, 1, 6, 99), none, none, some (.getfield 74, 3, 0, 2, 6, 105), none, none, some (.iload_n 2, 1, 0, 0, 0, 0), some (.iaload, 1, 0, 0, 0, 0), some (.bipush 81, 2, 0, 0, 0, 0), none, some (.iload_n 2, 1, 0, 0, 0, 0), some (.iadd, 1, 0, 0, 0, 0), some (.invokevirtual 70, 3, 47, 2, 0, 104), none, none, some (.iinc 2 1, 3, 0, 0, 0, 0), none, none, some (.goto (-27), 3, 0, 0, 0, 0), none, none, some (.aload_n 0, 1, 0, 0, 0, 0), some (.invokevirtual 77, 3, 39, 0, 0, 106), none, none, some (.aload_n 0, 1, 0, 0, 0, 0), some (.invokevirtual 80, 3, 49, 0, 0, 107), none, none, some (.return_, 1, 0, 0, 0, 0)]
def e_X5_close : List (Option EN) := [some (.iconst 0, 1, 0, 0, 0, 0), some (.istore_n 1, 1, 0, 0, 0, 0), some (.iload_n 1, 1, 0, 0, 0, 0), some (.aload_n 0, 1, 0, 0, 0, 0), some (.getfield 64, 3, 5, 3, 0, 102), none, none, some (.if_icmp .ge 60, 3, 0, 0, 0, 0), none, none, some (.iload_n 1, 1, 0, 0, 0, 0), some (.sipush 324, 3, 0, 0, 0, 0), none, none, some (.if_icmp .ge 53, 3, 0, 0, 0, 0), none, none, some (.aload_n 0, 1, 0, 0, 0, 0), some (.getfield 61, 3, 5, 4, 1, 101), none, none, some (.ifCond .ne 46, 3, 0, 0, 0, 0), none, none, some (.aload_n 0, 1, 0, 0, 0, 0), some (.getfield 11, 3, 5, 2, 6, 108), none, none, some (.iload_n 1, 1, 0, 0, 0, 0), some (.iaload, 1, 0, 0, 0, 0), some (.bipush 81, 2, 0, 0, 0, 0), none, some (.if_icmp .ge 16, 3, 0, 0, 0, 0), none, none, some (.aload_n 0, 1, 0, 0, 0, 0), some (.aload_n 0, 1, 0, 0, 0, 0), some (.getfield 11, 3, 5, 2, 6, 108), none, none, some (.iload_n 1, 1, 0, 0, 0, 0), some (.iaload, 1, 0, 0, 0, 0), some (.invokevirtual 90, 3, 40, 1, 0, 109), none, none, some (.goto 16, 3, 0, 0, 0, 0), none, none, some (.aload_n 0, 1, 0, 0, 0, 0), some (.aload_n 0, 1, 0, 0, 0, 0), some (.getfield 11, 3, 5, 2, 6, 108), none, none, some (.iload_n 1, 1, 0, 0, 0, 0), some (.iaload, 1, 0, 0, 0, 0), some (.bipush 81, 2, 0, 0, 0, 0), none, some (.isub, 1, 0, 0, 0, 0), some (.invokevirtual 93, 3, 41, 1, 0, 110), none, none, some (.iinc 1 1, 3, 0, 0, 0, 0), none, none, some (.goto (-62), 3, 0, 0, 0, 0), none, none, some (.return_, 1, 0, 0, 0, 0)]
def e_X5_closeCell : List (Option EN) := [some (.aload_n 0, 1, 0, 0, 0, 0), some (.getfield 36, 3, 5, 1, 6, 99), none, none, some (.getfield 67, 3, 0, 1, 6, 103), none, none, some (.iload_n 1, 1, 0, 0, 0, 0), some (.iaload, 1, 0, 0, 0, 0), some (.istore_n 2, 1, 0, 0, 0, 0), some (.iload_n 2, 1, 0, 0, 0, 0), some (.invokestatic 96, 3, 75, 1, 1, 111), none, none, some (.ifCond .ne 4, 3, 0, 0, 0, 0), none, none, some (.return_, 1, 0, 0, 0, 0), some (.iload_n 2, 1, 0, 0, 0, 0), some (.invokestatic 100, 3, 78, 1, 1, 112), none, none, some (.istore_n 3, 1, 0, 0, 0, 0), some (.iconst 0, 1, 0, 0, 0, 0), some (.istore 4, 2, 0, 0, 0, 0), none, some (.iload 4, 2, 0, 0, 0, 0), none, some (.bipush 21, 2, 0, 0, 0, 0), none, some (.if_icmp .ge 61, 3, 0, 0, 0, 0), none, none, some (.aload_n 0, 1, 0, 0, 0, 0), some (.getfield 61, 3, 5, 4, 1, 101), none, none, some (.ifCond .ne 54, 3, 0, 0, 0, 0), none, none, some (.aload_n 0, 1, 0, 0, 0, 0), some (.getfield 27, 3, 5, 0, 6, 113), none, none, some (.getfield 106, 3, 4, 3, 6, 114), none, none, some (.bipush 21, 2, 0, 0, 0, 0), none, some (.iload_n 1, 1, 0, 0, 0, 0), some (.imul, 1, 0, 0, 0, 0), some (.iload 4, 2, 0, 0, 0, 0), none, some (.iadd, 1, 0, 0, 0, 0), some (.iaload, 1, 0, 0, 0, 0), some (.istore 5, 2, 0, 0, 0, 0), none, some (.iload 5, 2, 0, 0, 0, 0), none, some (.iload_n 1, 1, 0, 0, 0, 0), some (.if_icmp .eq 25, 3, 0, 0, 0, 0), none, none, some (.aload_n 0, 1, 0, 0, 0, 0), some (.getfield 36, 3, 5, 1, 6, 99), none, none, some (.getfield 67, 3, 0, 1, 6, 103), none, none, some (.iload 5, 2, 0, 0, 0, 0), none, some (.iaload, 1, 0, 0, 0, 0), some (.iload_n 2, 1, 0, 0, 0, 0), some (.iand, 1, 0, 0, 0, 0), some (.ifCond .eq 10, 3, 0, 0, 0, 0), none, none, some (.aload_n 0, 1, 0, 0, 0, 0), some (.iload 5, 2, 0, 0, 0, 0), none, some (.iload_n 3, 1, 0, 0, 0, 0), some (.invokevirtual 109, 3, 48, 2, 0, 115), none, none, some (.iinc 4 1, 3, 0, 0, 0, 0), none, none, some (.goto (-62), 3, 0, 0, 0, 0), none, none, some (.return_, 1, 0, 0, 0, 0)]
def e_X5_closePlace : List (Option EN) := [some (.aload_n 0, 1, 0, 0, 0, 0), some (.getfield 36, 3, 5, 1, 6, 99), none, none, some (.getfield 74, 3, 0, 2, 6, 105), none, none, some (.iload_n 1, 1, 0, 0, 0, 0), some (.iaload, 1, 0, 0, 0, 0), some (.istore_n 2, 1, 0, 0, 0, 0), some (.iload_n 2, 1, 0, 0, 0, 0), some (.invokestatic 96, 3, 75, 1, 1, 111), none, none, some (.ifCond .eq 35, 3, 0, 0, 0, 0), none, none, some (.iload_n 1, 1, 0, 0, 0, 0), some (.bipush 9, 2, 0, 0, 0, 0), none, some (.idiv, 1, 0, 0, 0, 0), some (.istore_n 3, 1, 0, 0, 0, 0), some (.aload_n 0, 1, 0, 0, 0, 0), some (.aload_n 0, 1, 0, 0, 0, 0), some (.getfield 27, 3, 5, 0, 6, 113), none, none, some (.getfield 112, 3, 4, 0, 6, 116), none, none, some (.bipush 9, 2, 0, 0, 0, 0), none, some (.iload_n 3, 1, 0, 0, 0, 0), some (.imul, 1, 0, 0, 0, 0), some (.iload_n 2, 1, 0, 0, 0, 0), some (.invokestatic 100, 3, 78, 1, 1, 112), none, none, some (.iadd, 1, 0, 0, 0, 0), some (.iaload, 1, 0, 0, 0, 0), some (.iconst 1, 1, 0, 0, 0, 0), some (.iload_n 1, 1, 0, 0, 0, 0), some (.bipush 9, 2, 0, 0, 0, 0), none, some (.irem, 1, 0, 0, 0, 0), some (.ishl, 1, 0, 0, 0, 0), some (.invokevirtual 87, 3, 45, 2, 0, 117), none, none, some (.return_, 1, 0, 0, 0, 0)]
def e_X5_fewest : List (Option EN) := [some (.iconst (-1), 1, 0, 0, 0, 0), some (.istore_n 1, 1, 0, 0, 0, 0), some (.bipush 10, 2, 0, 0, 0, 0), none, some (.istore_n 2, 1, 0, 0, 0, 0), some (.iconst 0, 1, 0, 0, 0, 0), some (.istore_n 3, 1, 0, 0, 0, 0), some (.iload_n 3, 1, 0, 0, 0, 0), some (.bipush 81, 2, 0, 0, 0, 0), none, some (.if_icmp .ge 40, 3, 0, 0, 0, 0), none, none, some (.aload_n 0, 1, 0, 0, 0, 0), some (.getfield 36, 3, 5, 1, 6, 99), none, none, some (.getfield 67, 3, 0, 1, 6, 103), none, none, some (.iload_n 3, 1, 0, 0, 0, 0), some (.iaload, 1, 0, 0, 0, 0), some (.invokestatic 131, 3, 146, 1, 0, 118), none, none, some (.istore 4, 2, 0, 0, 0, 0), none, some (.iload 4, 2, 0, 0, 0, 0), none, some (.iconst 1, 1, 0, 0, 0, 0), some (.if_icmp .le 14, 3, 0, 0, 0, 0), none, none, some (.iload 4, 2, 0, 0, 0, 0), none, some (.iload_n 2, 1, 0, 0, 0, 0), some (.if_icmp .ge 8, 3, 0, 0, 0, 0), none, none, some (.iload 4, 2, 0, 0, 0, 0), none, some (.istore_n 2, 1, 0, 0, 0, 0), some (.iload_n 3, 1, 0, 0, 0, 0), some (.istore_n 1, 1, 0, 0, 0, 0), some (.iinc 3 1, 3, 0, 0, 0, 0), none, none, some (.goto (-40), 3, 0, 0, 0, 0), none, none, some (.iload_n 1, 1, 0, 0, 0, 0), some (.ireturn, 1, 0, 0, 0, 0)]
def e_X5_forget : List (Option EN) := [some (.aload_n 0, 1, 0, 0, 0, 0), some (.iconst 0, 1, 0, 0, 0, 0), some (.putfield 40, 3, 5, 9, 1, 98), none, none, some (.aload_n 0, 1, 0, 0, 0, 0), some (.iconst 0, 1, 0, 0, 0, 0), some (.putfield 44, 3, 5, 10, 1, 119), none, none, some (.aload_n 0, 1, 0, 0, 0, 0), some (.iconst 0, 1, 0, 0, 0, 0), some (.putfield 47, 3, 5, 11, 0, 120), none, none, some (.aload_n 0, 1, 0, 0, 0, 0), some (.iconst 0, 1, 0, 0, 0, 0), some (.putfield 51, 3, 5, 12, 0, 121), none, none, some (.aload_n 0, 1, 0, 0, 0, 0), some (.iconst 0, 1, 0, 0, 0, 0), some (.putfield 54, 3, 5, 8, 0, 122), none, none, some (.return_, 1, 0, 0, 0, 0)]
def e_X5_init : List (Option EN) := [some (.aload_n 0, 1, 0, 0, 0, 0), some (.invokespecial 3, 3, 9999, 0, 0, 123), none, none, some (.aload_n 0, 1, 0, 0, 0, 0), some (.sipush 324, 3, 0, 0, 0, 0), none, none, some (.newarray .int, 2, 0, 0, 0, 0), none, some (.putfield 11, 3, 5, 2, 6, 108), none, none, some (.aload_n 0, 1, 0, 0, 0, 0), some (.bipush 81, 2, 0, 0, 0, 0), none, some (.newarray .int, 2, 0, 0, 0, 0), none, some (.putfield 15, 3, 5, 5, 6, 124), none, none, some (.aload_n 0, 1, 0, 0, 0, 0), some (.bipush 81, 2, 0, 0, 0, 0), none, some (.newarray .int, 2, 0, 0, 0, 0), none, some (.putfield 18, 3, 5, 6, 6, 125), none, none, some (.aload_n 0, 1, 0, 0, 0, 0), some (.bipush 81, 2, 0, 0, 0, 0), none, some (.newarray .int, 2, 0, 0, 0, 0), none, some (.putfield 21, 3, 5, 7, 6, 126), none, none, some (.aload_n 0, 1, 0, 0, 0, 0), some (.sipush 162, 3, 0, 0, 0, 0), none, none, some (.newarray .int, 2, 0, 0, 0, 0), none, some (.putfield 24, 3, 5, 13, 6, 127), none, none, some (.aload_n 0, 1, 0, 0, 0, 0), some (.aload_n 1, 1, 0, 0, 0, 0), some (.putfield 27, 3, 5, 0, 6, 113), none, none, some (.aload_n 0, 1, 0, 0, 0, 0), some (.new 31, 3, 0, 5, 0, 128), none, none, some (.dup, 1, 0, 0, 0, 0), some (.aload_n 1, 1, 0, 0, 0, 0), some (.invokespecial 33, 3, 3, 1, 0, 129), none, none, some (.putfield 36, 3, 5, 1, 6, 99), none, none, some (.return_, 1, 0, 0, 0, 0)]
def e_X5_keepAlone : List (Option EN) := [some (.iconst 0, 1, 0, 0, 0, 0), some (.istore_n 3, 1, 0, 0, 0, 0), some (.iload_n 3, 1, 0, 0, 0, 0), some (.bipush 9, 2, 0, 0, 0, 0), none, some (.if_icmp .ge 42, 3, 0, 0, 0, 0), none, none, some (.aload_n 0, 1, 0, 0, 0, 0), some (.getfield 61, 3, 5, 4, 1, 101), none, none, some (.ifCond .ne 35, 3, 0, 0, 0, 0), none, none, some (.aload_n 0, 1, 0, 0, 0, 0), some (.getfield 36, 3, 5, 1, 6, 99), none, none, some (.getfield 67, 3, 0, 1, 6, 103), none, none, some (.iload_n 1, 1, 0, 0, 0, 0), some (.iaload, 1, 0, 0, 0, 0), some (.iload_n 2, 1, 0, 0, 0, 0), some (.iconst (-1), 1, 0, 0, 0, 0), some (.ixor, 1, 0, 0, 0, 0), some (.iand, 1, 0, 0, 0, 0), some (.iconst 1, 1, 0, 0, 0, 0), some (.iload_n 3, 1, 0, 0, 0, 0), some (.ishl, 1, 0, 0, 0, 0), some (.iand, 1, 0, 0, 0, 0), some (.ifCond .eq 9, 3, 0, 0, 0, 0), none, none, some (.aload_n 0, 1, 0, 0, 0, 0), some (.iload_n 1, 1, 0, 0, 0, 0), some (.iload_n 3, 1, 0, 0, 0, 0), some (.invokevirtual 109, 3, 48, 2, 0, 115), none, none, some (.iinc 3 1, 3, 0, 0, 0, 0), none, none, some (.goto (-42), 3, 0, 0, 0, 0), none, none, some (.return_, 1, 0, 0, 0, 0)]
def e_X5_keepAnswer : List (Option EN) := [some (.aload_n 0, 1, 0, 0, 0, 0), some (.getfield 51, 3, 5, 12, 0, 121), none, none, some (.iconst 2, 1, 0, 0, 0, 0), some (.if_icmp .lt 4, 3, 0, 0, 0, 0), none, none, some (.return_, 1, 0, 0, 0, 0), some (.iconst 0, 1, 0, 0, 0, 0), some (.istore_n 1, 1, 0, 0, 0, 0), some (.iload_n 1, 1, 0, 0, 0, 0), some (.bipush 81, 2, 0, 0, 0, 0), none, some (.if_icmp .ge 37, 3, 0, 0, 0, 0), none, none, some (.aload_n 0, 1, 0, 0, 0, 0), some (.getfield 24, 3, 5, 13, 6, 127), none, none, some (.bipush 81, 2, 0, 0, 0, 0), none, some (.aload_n 0, 1, 0, 0, 0, 0), some (.getfield 51, 3, 5, 12, 0, 121), none, none, some (.imul, 1, 0, 0, 0, 0), some (.iload_n 1, 1, 0, 0, 0, 0), some (.iadd, 1, 0, 0, 0, 0), some (.aload_n 0, 1, 0, 0, 0, 0), some (.getfield 36, 3, 5, 1, 6, 99), none, none, some (.getfield 67, 3, 0, 1, 6, 103), none, none, some (.iload_n 1, 1, 0, 0, 0, 0), some (.iaload, 1, 0, 0, 0, 0), some (.invokestatic 100, 3, 78, 1, 1, 112), none, none, some (.iconst 1, 1, 0, 0, 0, 0), some (.iadd, 1, 0, 0, 0, 0), some (.iastore, 1, 0, 0, 0, 0), some (.iinc 1 1, 3, 0, 0, 0, 0), none, none, some (.goto (-37), 3, 0, 0, 0, 0), none, none, some (.aload_n 0, 1, 0, 0, 0, 0), some (.dup, 1, 0, 0, 0, 0), some (.getfield 51, 3, 5, 12, 0, 121), none, none, some (.iconst 1, 1, 0, 0, 0, 0), some (.iadd, 1, 0, 0, 0, 0), some (.putfield 51, 3, 5, 12, 0, 121), none, none, some (.return_, 1, 0, 0, 0, 0)]
def e_X5_noteCount : List (Option EN) := [some (.iload_n 1, 1, 0, 0, 0, 0), some (.ifCond .ne 11, 3, 0, 0, 0, 0), none, none, some (.aload_n 0, 1, 0, 0, 0, 0), some (.iconst 1, 1, 0, 0, 0, 0), some (.putfield 61, 3, 5, 4, 1, 101), none, none, some (.goto 40, 3, 0, 0, 0, 0), none, none, some (.iload_n 1, 1, 0, 0, 0, 0), some (.invokestatic 96, 3, 75, 1, 1, 111), none, none, some (.ifCond .eq 33, 3, 0, 0, 0, 0), none, none, some (.aload_n 0, 1, 0, 0, 0, 0), some (.getfield 64, 3, 5, 3, 0, 102), none, none, some (.sipush 324, 3, 0, 0, 0, 0), none, none, some (.if_icmp .ge 23, 3, 0, 0, 0, 0), none, none, some (.aload_n 0, 1, 0, 0, 0, 0), some (.getfield 11, 3, 5, 2, 6, 108), none, none, some (.aload_n 0, 1, 0, 0, 0, 0), some (.getfield 64, 3, 5, 3, 0, 102), none, none, some (.iload_n 2, 1, 0, 0, 0, 0), some (.iastore, 1, 0, 0, 0, 0), some (.aload_n 0, 1, 0, 0, 0, 0), some (.dup, 1, 0, 0, 0, 0), some (.getfield 64, 3, 5, 3, 0, 102), none, none, some (.iconst 1, 1, 0, 0, 0, 0), some (.iadd, 1, 0, 0, 0, 0), some (.putfield 64, 3, 5, 3, 0, 102), none, none, some (.return_, 1, 0, 0, 0, 0)]
def e_X5_remove : List (Option EN) := [some (.aload_n 0, 1, 0, 0, 0, 0), some (.getfield 36, 3, 5, 1, 6, 99), none, none, some (.bipush 9, 2, 0, 0, 0, 0), none, some (.iload_n 1, 1, 0, 0, 0, 0), some (.imul, 1, 0, 0, 0, 0), some (.iload_n 2, 1, 0, 0, 0, 0), some (.iadd, 1, 0, 0, 0, 0), some (.invokevirtual 115, 3, 0, 1, 0, 130), none, none, some (.aload_n 0, 1, 0, 0, 0, 0), some (.aload_n 0, 1, 0, 0, 0, 0), some (.getfield 36, 3, 5, 1, 6, 99), none, none, some (.getfield 67, 3, 0, 1, 6, 103), none, none, some (.iload_n 1, 1, 0, 0, 0, 0), some (.iaload, 1, 0, 0, 0, 0), some (.iload_n 1, 1, 0, 0, 0, 0), some (.invokevirtual 70, 3, 47, 2, 0, 104), none, none, some (.iconst 0, 1, 0, 0, 0, 0), some (.istore_n 3, 1, 0, 0, 0, 0), some (.iload_n 3, 1, 0, 0, 0, 0), some (.iconst 3, 1, 0, 0, 0, 0), some (.if_icmp .ge 48, 3, 0, 0, 0, 0), none, none, some (.bipush 9, 2, 0, 0, 0, 0), none, some (.aload_n 0, 1, 0, 0, 0, 0), some (.getfield 27, 3, 5, 0, 6, 113), none, none, some (.getfield 118, 3, 4, 1, 6, 131), none, none, some (.iconst 3, 1, 0, 0, 0, 0), some (.iload_n 1, 1, 0, 0, 0, 0), some (.imul, 1, 0, 0, 0, 0), some (.iload_n 3, 1, 0, 0, 0, 0), some (.iadd, 1, 0, 0, 0, 0), some (.iaload, 1, 0, 0, 0, 0), some (.imul, 1, 0, 0, 0, 0), some (.iload_n 2, 1, 0, 0, 0, 0), some (.iadd, 1, 0, 0, 0, 0), some (.istore 4, 2, 0, 0, 0, 0), none, some (.aload_n 0, 1, 0, 0, 0, 0), some (.aload_n 0, 1, 0, 0, 0, 0), some (.getfield 36, 3, 5, 1, 6, 99), none, none, some (.getfield 74, 3, 0, 2, 6, 105), none, none, some (.iload 4, 2, 0, 0, 0, 0), none, some (.iaload, 1, 0, 0, 0, 0), some (.bipush 81, 2, 0, 0, 0, 0), none, some (.iload 4, 2, 0, 0, 0, 0), none, some (.iadd, 1, 0, 0, 0, 0), some (.invokevirtual 70, 3, 47, 2, 0, 104), none, none, some (.iinc 3 1, 3, 0, 0, 0, 0), none, none, some (.goto (-47), 3, 0, 0, 0, 0), none, none, some (.return_, 1, 0, 0, 0, 0)]
def e_X5_settle : List (Option EN) := [some (.aload_n 0, 1, 0, 0, 0, 0), some (.getfield 61, 3, 5, 4, 1, 101), none, none, some (.ifCond .ne 83, 3, 0, 0, 0, 0), none, none, some (.aload_n 0, 1, 0, 0, 0, 0), some (.invokevirtual 121, 3, 42, 0, 0, 132), none, none, some (.istore_n 1, 1, 0, 0, 0, 0), some (.iload_n 1, 1, 0, 0, 0, 0), some (.iconst (-1), 1, 0, 0, 0, 0), some (.if_icmp .ne 10, 3, 0, 0, 0, 0), none, none, some (.aload_n 0, 1, 0, 0, 0, 0), some (.invokevirtual 125, 3, 46, 0, 0, 133), none, none, some (.goto 66, 3, 0, 0, 0, 0), none, none, some (.aload_n 0, 1, 0, 0, 0, 0), some (.getfield 54, 3, 5, 8, 0, 122), none, none, some (.bipush 81, 2, 0, 0, 0, 0), none, some (.if_icmp .ge 57, 3, 0, 0, 0, 0), none, none, some (.aload_n 0, 1, 0, 0, 0, 0), some (.getfield 15, 3, 5, 5, 6, 124), none, none, some (.aload_n 0, 1, 0, 0, 0, 0), some (.getfield 54, 3, 5, 8, 0, 122), none, none, some (.iload_n 1, 1, 0, 0, 0, 0), some (.iastore, 1, 0, 0, 0, 0), some (.aload_n 0, 1, 0, 0, 0, 0), some (.getfield 18, 3, 5, 6, 6, 125), none, none, some (.aload_n 0, 1, 0, 0, 0, 0), some (.getfield 54, 3, 5, 8, 0, 122), none, none, some (.aload_n 0, 1, 0, 0, 0, 0), some (.getfield 36, 3, 5, 1, 6, 99), none, none, some (.getfield 67, 3, 0, 1, 6, 103), none, none, some (.iload_n 1, 1, 0, 0, 0, 0), some (.iaload, 1, 0, 0, 0, 0), some (.iastore, 1, 0, 0, 0, 0), some (.aload_n 0, 1, 0, 0, 0, 0), some (.getfield 21, 3, 5, 7, 6, 126), none, none, some (.aload_n 0, 1, 0, 0, 0, 0), some (.getfield 54, 3, 5, 8, 0, 122), none, none, some (.aload_n 0, 1, 0, 0, 0, 0), some (.getfield 36, 3, 5, 1, 6, 99), none, none, some (.getfield 128, 3, 0, 4, 0, 134), none, none, some (.iastore, 1, 0, 0, 0, 0), some (.aload_n 0, 1, 0, 0, 0, 0), some (.dup, 1, 0, 0, 0, 0), some (.getfield 54, 3, 5, 8, 0, 122), none, none, some (.iconst 1, 1, 0, 0, 0, 0), some (.iadd, 1, 0, 0, 0, 0), some (.putfield 54, 3, 5, 8, 0, 122), none, none, some (.aload_n 0, 1, 0, 0, 0, 0), some (.getfield 54, 3, 5, 8, 0, 122), none, none, some (.iconst 1, 1, 0, 0, 0, 0), some (.isub, 1, 0, 0, 0, 0), some (.istore_n 1, 1, 0, 0, 0, 0), some (.iload_n 1, 1, 0, 0, 0, 0), some (.ifCond .lt 23, 3, 0, 0, 0, 0), none, none, some (.aload_n 0, 1, 0, 0, 0, 0), some (.getfield 18, 3, 5, 6, 6, 125), none, none, some (.iload_n 1, 1, 0, 0, 0, 0), some (.iaload, 1, 0, 0, 0, 0), some (.ifCond .ne 14, 3, 0, 0, 0, 0), none, none, some (.aload_n 0, 1, 0, 0, 0, 0), some (.iload_n 1, 1, 0, 0, 0, 0), some (.putfield 54, 3, 5, 8, 0, 122), none, none, some (.iinc 1 (-1), 3, 0, 0, 0, 0), none, none, some (.goto (-21), 3, 0, 0, 0, 0), none, none, some (.aload_n 0, 1, 0, 0, 0, 0), some (.aload_n 0, 1, 0, 0, 0, 0), some (.getfield 54, 3, 5, 8, 0, 122), none, none, some (.ifCond .eq 11, 3, 0, 0, 0, 0), none, none, some (.aload_n 0, 1, 0, 0, 0, 0), some (.getfield 51, 3, 5, 12, 0, 121), none, none, some (.iconst 2, 1, 0, 0, 0, 0), some (.if_icmp .lt 7, 3, 0, 0, 0, 0), none, none, some (.iconst 1, 1, 0, 0, 0, 0), some (.goto 4, 3, 0, 0, 0, 0), none, none, some (.iconst 0, 1, 0, 0, 0, 0), some (.putfield 44, 3, 5, 10, 1, 119), none, none, some (.return_, 1, 0, 0, 0, 0)]
def e_X5_tryNext : List (Option EN) := [some (.aload_n 0, 1, 0, 0, 0, 0), some (.getfield 44, 3, 5, 10, 1, 119), none, none, some (.ifCond .ne 11, 3, 0, 0, 0, 0), none, none, some (.aload_n 0, 1, 0, 0, 0, 0), some (.getfield 54, 3, 5, 8, 0, 122), none, none, some (.iconst 1, 1, 0, 0, 0, 0), some (.if_icmp .ge 4, 3, 0, 0, 0, 0), none, none, some (.return_, 1, 0, 0, 0, 0), some (.aload_n 0, 1, 0, 0, 0, 0), some (.getfield 54, 3, 5, 8, 0, 122), none, none, some (.iconst 1, 1, 0, 0, 0, 0), some (.isub, 1, 0, 0, 0, 0), some (.istore_n 1, 1, 0, 0, 0, 0), some (.aload_n 0, 1, 0, 0, 0, 0), some (.getfield 36, 3, 5, 1, 6, 99), none, none, some (.aload_n 0, 1, 0, 0, 0, 0), some (.getfield 21, 3, 5, 7, 6, 126), none, none, some (.iload_n 1, 1, 0, 0, 0, 0), some (.iaload, 1, 0, 0, 0, 0), some (.invokevirtual 83, 3, 6, 1, 0, 135), none, none, some (.aload_n 0, 1, 0, 0, 0, 0), some (.getfield 18, 3, 5, 6, 6, 125), none, none, some (.iload_n 1, 1, 0, 0, 0, 0), some (.iaload, 1, 0, 0, 0, 0), some (.aload_n 0, 1, 0, 0, 0, 0), some (.getfield 18, 3, 5, 6, 6, 125), none, none, some (.iload_n 1, 1, 0, 0, 0, 0), some (.iaload, 1, 0, 0, 0, 0), some (.ineg, 1, 0, 0, 0, 0), some (.iand, 1, 0, 0, 0, 0), some (.istore_n 2, 1, 0, 0, 0, 0), some (.aload_n 0, 1, 0, 0, 0, 0), some (.getfield 18, 3, 5, 6, 6, 125), none, none, some (.iload_n 1, 1, 0, 0, 0, 0), some (.dup2, 1, 0, 0, 0, 0), some (.iaload, 1, 0, 0, 0, 0), some (.iload_n 2, 1, 0, 0, 0, 0), some (.ixor, 1, 0, 0, 0, 0), some (.iastore, 1, 0, 0, 0, 0), some (.aload_n 0, 1, 0, 0, 0, 0), some (.dup, 1, 0, 0, 0, 0), some (.getfield 47, 3, 5, 11, 0, 120), none, none, some (.iconst 1, 1, 0, 0, 0, 0), some (.iadd, 1, 0, 0, 0, 0), some (.putfield 47, 3, 5, 11, 0, 120), none, none, some (.aload_n 0, 1, 0, 0, 0, 0), some (.iconst 0, 1, 0, 0, 0, 0), some (.putfield 61, 3, 5, 4, 1, 101), none, none, some (.aload_n 0, 1, 0, 0, 0, 0), some (.iconst 0, 1, 0, 0, 0, 0), some (.putfield 64, 3, 5, 3, 0, 102), none, none, some (.aload_n 0, 1, 0, 0, 0, 0), some (.aload_n 0, 1, 0, 0, 0, 0), some (.getfield 15, 3, 5, 5, 6, 124), none, none, some (.iload_n 1, 1, 0, 0, 0, 0), some (.iaload, 1, 0, 0, 0, 0), some (.iload_n 2, 1, 0, 0, 0, 0), some (.invokevirtual 87, 3, 45, 2, 0, 117), none, none, some (.aload_n 0, 1, 0, 0, 0, 0), some (.invokevirtual 77, 3, 39, 0, 0, 106), none, none, some (.aload_n 0, 1, 0, 0, 0, 0), some (.invokevirtual 80, 3, 49, 0, 0, 107), none, none, some (.return_, 1, 0, 0, 0, 0)]
def e_X6_baseLine : List (Option EN) := [some (.iload_n 0, 1, 0, 0, 0, 0), some (.bipush 16, 2, 0, 0, 0, 0), none, some (.if_icmp .ge 7, 3, 0, 0, 0, 0), none, none, some (.iload_n 1, 1, 0, 0, 0, 0), some (.goto 7, 3, 0, 0, 0, 0), none, none, some (.bipush 9, 2, 0, 0, 0, 0), none, some (.iload_n 1, 1, 0, 0, 0, 0), some (.iadd, 1, 0, 0, 0, 0), some (.ireturn, 1, 0, 0, 0, 0)]
def e_X6_first : List (Option EN) := [some (.aload_n 0, 1, 0, 0, 0, 0), some (.aload_n 1, 1, 0, 0, 0, 0), some (.iload_n 2, 1, 0, 0, 0, 0), some (.iload_n 3, 1, 0, 0, 0, 0), some (.invokevirtual 23, 3, 55, 3, 0, 136), none, none, some (.ifCond .ne 5, 3, 0, 0, 0, 0), none, none, some (.iconst 0, 1, 0, 0, 0, 0), some (.ireturn, 1, 0, 0, 0, 0), some (.aload_n 0, 1, 0, 0, 0, 0), some (.getstatic 27, 3, 2, 0, 0, 137), none, none, some (.iload_n 2, 1, 0, 0, 0, 0), some (.iaload, 1, 0, 0, 0, 0), some (.getstatic 27, 3, 2, 0, 0, 137), none, none, some (.iload_n 2, 1, 0, 0, 0, 0), some (.iaload, 1, 0, 0, 0, 0), some (.iconst 0, 1, 0, 0, 0, 0), some (.iconst 0, 1, 0, 0, 0, 0), some (.iconst 0, 1, 0, 0, 0, 0), some (.invokevirtual 30, 3, 58, 5, 0, 138), none, none, some (.ireturn, 1, 0, 0, 0, 0)]
def e_X6_fishDigit : List (Option EN) := [some (.iload_n 0, 1, 0, 0, 0, 0), some (.bipush 16, 2, 0, 0, 0, 0), none, some (.if_icmp .ge 7, 3, 0, 0, 0, 0), none, none, some (.iload_n 0, 1, 0, 0, 0, 0), some (.goto 7, 3, 0, 0, 0, 0), none, none, some (.iload_n 0, 1, 0, 0, 0, 0), some (.bipush 16, 2, 0, 0, 0, 0), none, some (.isub, 1, 0, 0, 0, 0), some (.iconst 1, 1, 0, 0, 0, 0), some (.isub, 1, 0, 0, 0, 0), some (.ireturn, 1, 0, 0, 0, 0)]
def e_X6_init : List (Option EN) := [some (.aload_n 0, 1, 0, 0, 0, 0), some (.invokespecial 3, 3, 9999, 0, 0, 139), none, none, some (.aload_n 0, 1, 0, 0, 0, 0), some (.bipush 9, 2, 0, 0, 0, 0), none, some (.newarray .int, 2, 0, 0, 0, 0), none, some (.putfield 9, 3, 6, 2, 6, 140), none, none, some (.aload_n 0, 1, 0, 0, 0, 0), some (.aload_n 1, 1, 0, 0, 0, 0), some (.putfield 15, 3, 6, 0, 6, 141), none, none, some (.aload_n 0, 1, 0, 0, 0, 0), some (.aload_n 2, 1, 0, 0, 0, 0), some (.putfield 19, 3, 6, 1, 6, 142), none, none, some (.return_, 1, 0, 0, 0, 0)]
def e_X6_load : List (Option EN) := [some (.iload_n 2, 1, 0, 0, 0, 0), some (.iconst 4, 1, 0, 0, 0, 0), some (.if_icmp .lt 19, 3, 0, 0, 0, 0), none, none, some (.iload_n 2, 1, 0, 0, 0, 0), some (.bipush 13, 2, 0, 0, 0, 0), none, some (.if_icmp .ge 13, 3, 0, 0, 0, 0), none, none, some (.iload_n 3, 1, 0, 0, 0, 0), some (.ifCond .lt 9, 3, 0, 0, 0, 0), none, none, some (.iload_n 3, 1, 0, 0, 0, 0), some (.bipush 27, 2, 0, 0, 0, 0), none, some (.if_icmp .lt 5, 3, 0, 0, 0, 0), none, none, some (.iconst 0, 1, 0, 0, 0, 0), some (.ireturn, 1, 0, 0, 0, 0), some (.getstatic 40, 3, 1, 0, 0, 143), none, none, some (.iload_n 2, 1, 0, 0, 0, 0), some (.iaload, 1, 0, 0, 0, 0), some (.istore 4, 2, 0, 0, 0, 0), none, some (.iload 4, 2, 0, 0, 0, 0), none, some (.iconst 3, 1, 0, 0, 0, 0), some (.if_icmp .ne 21, 3, 0, 0, 0, 0), none, none, some (.iload_n 3, 1, 0, 0, 0, 0), some (.invokestatic 70, 3, 53, 1, 0, 144), none, none, some (.ifCond .lt 12, 3, 0, 0, 0, 0), none, none, some (.iload_n 3, 1, 0, 0, 0, 0), some (.invokestatic 70, 3, 53, 1, 0, 144), none, none, some (.bipush 8, 2, 0, 0, 0, 0), none, some (.if_icmp .le 5, 3, 0, 0, 0, 0), none, none, some (.iconst 0, 1, 0, 0, 0, 0), some (.ireturn, 1, 0, 0, 0, 0), some (.iconst 0, 1, 0, 0, 0, 0), some (.istore 5, 2, 0, 0, 0, 0), none, some (.iload 5, 2, 0, 0, 0, 0), none, some (.bipush 9, 2, 0, 0, 0, 0), none, some (.if_icmp .ge 99, 3, 0, 0, 0, 0), none, none, some (.iload 4, 2, 0, 0, 0, 0), none, some (.iconst 1, 1, 0, 0, 0, 0), some (.if_icmp .ne 33, 3, 0, 0, 0, 0), none, none, some (.aload_n 0, 1, 0, 0, 0, 0), some (.getfield 9, 3, 6, 2, 6, 140), none, none, some (.iload 5, 2, 0, 0, 0, 0), none, some (.aload_n 1, 1, 0, 0, 0, 0), some (.getfield 73, 3, 0, 1, 6, 145), none, none, some (.aload_n 0, 1, 0, 0, 0, 0), some (.getfield 15, 3, 6, 0, 6, 141), none, none, some (.getfield 53, 3, 4, 0, 6, 146), none, none, some (.bipush 9, 2, 0, 0, 0, 0), none, some (.iload_n 3, 1, 0, 0, 0, 0), some (.imul, 1, 0, 0, 0, 0), some (.iload 5, 2, 0, 0, 0, 0), none, some (.iadd, 1, 0, 0, 0, 0), some (.iaload, 1, 0, 0, 0, 0), some (.iaload, 1, 0, 0, 0, 0), some (.iastore, 1, 0, 0, 0, 0), some (.goto 57, 3, 0, 0, 0, 0), none, none, some (.iload 4, 2, 0, 0, 0, 0), none, some (.iconst 2, 1, 0, 0, 0, 0), some (.if_icmp .ne 25, 3, 0, 0, 0, 0), none, none, some (.aload_n 0, 1, 0, 0, 0, 0), some (.getfield 9, 3, 6, 2, 6, 140), none, none, some (.iload 5, 2, 0, 0, 0, 0), none, some (.aload_n 1, 1, 0, 0, 0, 0), some (.getfield 78, 3, 0, 2, 6, 147), none, none, some (.bipush 9, 2, 0, 0, 0, 0), none, some (.iload_n 3, 1, 0, 0, 0, 0), some (.imul, 1, 0, 0, 0, 0), some (.iload 5, 2, 0, 0, 0, 0), none, some (.iadd, 1, 0, 0, 0, 0), some (.iaload, 1, 0, 0, 0, 0), some (.iastore, 1, 0, 0, 0, 0), some (.goto 29, 3, 0, 0, 0, 0), none, none, some (.aload_n 0, 1, 0, 0, 0, 0), some (.getfield 9, 3, 6, 2, 6, 140), none, none, some (.iload 5, 2, 0, 0, 0, 0), none, some (.aload_n 1, 1, 0, 0, 0, 0), some (.getfield 78, 3, 0, 2, 6, 147), none, none, some (.bipush 9, 2, 0, 0, 0, 0), none, some (.iload_n 3, 1, 0, 0, 0, 0), some (.iload 5, 2, 0, 0, 0, 0), none, some (.invokestatic 66, 3, 51, 2, 0, 148), none, none, some (.imul, 1, 0, 0, 0, 0), some (.iload_n 3, 1, 0, 0, 0, 0), some (.invokestatic 70, 3, 53, 1, 0, 144), none, none, some (.iadd, 1, 0, 0, 0, 0), some (.iaload, 1, 0, 0, 0, 0), some (.iastore, 1, 0, 0, 0, 0), some (.iinc 5 1, 3, 0, 0, 0, 0), none, none, some (.goto (-100), 3, 0, 0, 0, 0), none, none, some (.iconst 1, 1, 0, 0, 0, 0), some (.ireturn, 1, 0, 0, 0, 0)]
def e_X6_mark : List (Option EN) := [some (.iload 4, 2, 0, 0, 0, 0), none, some (.ifCond .lt 34, 3, 0, 0, 0, 0), none, none, some (.iload 4, 2, 0, 0, 0, 0), none, some (.sipush 511, 3, 0, 0, 0, 0), none, none, some (.if_icmp .gt 26, 3, 0, 0, 0, 0), none, none, some (.aload_n 0, 1, 0, 0, 0, 0), some (.aload_n 1, 1, 0, 0, 0, 0), some (.iload_n 2, 1, 0, 0, 0, 0), some (.iload_n 3, 1, 0, 0, 0, 0), some (.invokevirtual 23, 3, 55, 3, 0, 136), none, none, some (.ifCond .eq 16, 3, 0, 0, 0, 0), none, none, some (.iload 4, 2, 0, 0, 0, 0), none, some (.invokestatic 34, 3, 146, 1, 0, 149), none, none, some (.getstatic 27, 3, 2, 0, 0, 137), none, none, some (.iload_n 2, 1, 0, 0, 0, 0), some (.iaload, 1, 0, 0, 0, 0), some (.if_icmp .eq 5, 3, 0, 0, 0, 0), none, none, some (.iconst 0, 1, 0, 0, 0, 0), some (.ireturn, 1, 0, 0, 0, 0), some (.iconst 0, 1, 0, 0, 0, 0), some (.istore 5, 2, 0, 0, 0, 0), none, some (.iconst 0, 1, 0, 0, 0, 0), some (.istore 6, 2, 0, 0, 0, 0), none, some (.iload 6, 2, 0, 0, 0, 0), none, some (.bipush 9, 2, 0, 0, 0, 0), none, some (.if_icmp .ge 31, 3, 0, 0, 0, 0), none, none, some (.iload 4, 2, 0, 0, 0, 0), none, some (.iload 6, 2, 0, 0, 0, 0), none, some (.ishr, 1, 0, 0, 0, 0), some (.iconst 1, 1, 0, 0, 0, 0), some (.iand, 1, 0, 0, 0, 0), some (.ifCond .eq 15, 3, 0, 0, 0, 0), none, none, some (.iload 5, 2, 0, 0, 0, 0), none, some (.aload_n 0, 1, 0, 0, 0, 0), some (.getfield 9, 3, 6, 2, 6, 140), none, none, some (.iload 6, 2, 0, 0, 0, 0), none, some (.iaload, 1, 0, 0, 0, 0), some (.ior, 1, 0, 0, 0, 0), some (.istore 5, 2, 0, 0, 0, 0), none, some (.iinc 6 1, 3, 0, 0, 0, 0), none, none, some (.goto (-32), 3, 0, 0, 0, 0), none, none, some (.iload 5, 2, 0, 0, 0, 0), none, some (.invokestatic 34, 3, 146, 1, 0, 149), none, none, some (.getstatic 27, 3, 2, 0, 0, 137), none, none, some (.iload_n 2, 1, 0, 0, 0, 0), some (.iaload, 1, 0, 0, 0, 0), some (.if_icmp .eq 5, 3, 0, 0, 0, 0), none, none, some (.iconst 0, 1, 0, 0, 0, 0), some (.ireturn, 1, 0, 0, 0, 0), some (.iconst 0, 1, 0, 0, 0, 0), some (.istore 6, 2, 0, 0, 0, 0), none, some (.iload 6, 2, 0, 0, 0, 0), none, some (.bipush 9, 2, 0, 0, 0, 0), none, some (.if_icmp .ge 42, 3, 0, 0, 0, 0), none, none, some (.iload 4, 2, 0, 0, 0, 0), none, some (.iload 6, 2, 0, 0, 0, 0), none, some (.ishr, 1, 0, 0, 0, 0), some (.iconst 1, 1, 0, 0, 0, 0), some (.iand, 1, 0, 0, 0, 0), some (.ifCond .ne 26, 3, 0, 0, 0, 0), none, none, some (.aload_n 0, 1, 0, 0, 0, 0), some (.aload_n 1, 1, 0, 0, 0, 0), some (.getstatic 40, 3, 1, 0, 0, 143), none, none, some (.iload_n 2, 1, 0, 0, 0, 0), some (.iaload, 1, 0, 0, 0, 0), some (.iload_n 3, 1, 0, 0, 0, 0), some (.iload 6, 2, 0, 0, 0, 0), none, some (.aload_n 0, 1, 0, 0, 0, 0), some (.getfield 9, 3, 6, 2, 6, 140), none, none, some (.iload 6, 2, 0, 0, 0, 0), none, some (.iaload, 1, 0, 0, 0, 0), some (.iload 5, 2, 0, 0, 0, 0), none, some (.iand, 1, 0, 0, 0, 0), some (.invokevirtual 43, 3, 57, 5, 0, 150), none, none, some (.iinc 6 1, 3, 0, 0, 0, 0), none, none, some (.goto (-43), 3, 0, 0, 0, 0), none, none, some (.aload_n 0, 1, 0, 0, 0, 0), some (.getfield 19, 3, 6, 1, 6, 142), none, none, some (.getfield 47, 3, 2, 2, 0, 151), none, none, some (.ireturn, 1, 0, 0, 0, 0)]
def e_X6_markFrom : List (Option EN) := [some (.iload_n 2, 1, 0, 0, 0, 0), some (.iconst 1, 1, 0, 0, 0, 0), some (.if_icmp .ne 31, 3, 0, 0, 0, 0), none, none, some (.aload_n 0, 1, 0, 0, 0, 0), some (.getfield 19, 3, 6, 1, 6, 142), none, none, some (.aload_n 1, 1, 0, 0, 0, 0), some (.aload_n 0, 1, 0, 0, 0, 0), some (.getfield 15, 3, 6, 0, 6, 141), none, none, some (.getfield 53, 3, 4, 0, 6, 146), none, none, some (.bipush 9, 2, 0, 0, 0, 0), none, some (.iload_n 3, 1, 0, 0, 0, 0), some (.imul, 1, 0, 0, 0, 0), some (.iload 4, 2, 0, 0, 0, 0), none, some (.iadd, 1, 0, 0, 0, 0), some (.iaload, 1, 0, 0, 0, 0), some (.iload 5, 2, 0, 0, 0, 0), none, some (.invokevirtual 58, 3, 21, 3, 0, 152), none, none, some (.goto 44, 3, 0, 0, 0, 0), none, none, some (.iload_n 2, 1, 0, 0, 0, 0), some (.iconst 2, 1, 0, 0, 0, 0), some (.if_icmp .ne 19, 3, 0, 0, 0, 0), none, none, some (.aload_n 0, 1, 0, 0, 0, 0), some (.getfield 19, 3, 6, 1, 6, 142), none, none, some (.aload_n 1, 1, 0, 0, 0, 0), some (.iload_n 3, 1, 0, 0, 0, 0), some (.iload 4, 2, 0, 0, 0, 0), none, some (.iload 5, 2, 0, 0, 0, 0), none, some (.invokevirtual 62, 3, 22, 4, 0, 153), none, none, some (.goto 23, 3, 0, 0, 0, 0), none, none, some (.aload_n 0, 1, 0, 0, 0, 0), some (.getfield 19, 3, 6, 1, 6, 142), none, none, some (.aload_n 1, 1, 0, 0, 0, 0), some (.iload_n 3, 1, 0, 0, 0, 0), some (.iload 4, 2, 0, 0, 0, 0), none, some (.invokestatic 66, 3, 51, 2, 0, 148), none, none, some (.iload_n 3, 1, 0, 0, 0, 0), some (.invokestatic 70, 3, 53, 1, 0, 144), none, none, some (.iload 5, 2, 0, 0, 0, 0), none, some (.invokevirtual 62, 3, 22, 4, 0, 153), none, none, some (.return_, 1, 0, 0, 0, 0)]
def e_X6_pick : List (Option EN) := [some (.iload_n 2, 1, 0, 0, 0, 0), some (.ifCond .gt 30, 3, 0, 0, 0, 0), none, none, some (.iload 5, 2, 0, 0, 0, 0), none, some (.invokestatic 34, 3, 146, 1, 0, 149), none, none, some (.iload_n 1, 1, 0, 0, 0, 0), some (.if_icmp .ne 19, 3, 0, 0, 0, 0), none, none, some (.aload_n 0, 1, 0, 0, 0, 0), some (.iload 4, 2, 0, 0, 0, 0), none, some (.iload 5, 2, 0, 0, 0, 0), none, some (.invokevirtual 81, 3, 59, 2, 0, 154), none, none, some (.ifCond .eq 8, 3, 0, 0, 0, 0), none, none, some (.iload 4, 2, 0, 0, 0, 0), none, some (.goto 4, 3, 0, 0, 0, 0), none, none, some (.iconst 0, 1, 0, 0, 0, 0), some (.ireturn, 1, 0, 0, 0, 0), some (.iload_n 3, 1, 0, 0, 0, 0), some (.istore 6, 2, 0, 0, 0, 0), none, some (.iload 6, 2, 0, 0, 0, 0), none, some (.bipush 9, 2, 0, 0, 0, 0), none, some (.iload_n 2, 1, 0, 0, 0, 0), some (.isub, 1, 0, 0, 0, 0), some (.if_icmp .gt 61, 3, 0, 0, 0, 0), none, none, some (.iload 5, 2, 0, 0, 0, 0), none, some (.aload_n 0, 1, 0, 0, 0, 0), some (.getfield 9, 3, 6, 2, 6, 140), none, none, some (.iload 6, 2, 0, 0, 0, 0), none, some (.iaload, 1, 0, 0, 0, 0), some (.ior, 1, 0, 0, 0, 0), some (.istore 7, 2, 0, 0, 0, 0), none, some (.iload 7, 2, 0, 0, 0, 0), none, some (.invokestatic 34, 3, 146, 1, 0, 149), none, none, some (.iload_n 1, 1, 0, 0, 0, 0), some (.if_icmp .gt 34, 3, 0, 0, 0, 0), none, none, some (.aload_n 0, 1, 0, 0, 0, 0), some (.iload_n 1, 1, 0, 0, 0, 0), some (.iload_n 2, 1, 0, 0, 0, 0), some (.iconst 1, 1, 0, 0, 0, 0), some (.isub, 1, 0, 0, 0, 0), some (.iload 6, 2, 0, 0, 0, 0), none, some (.iconst 1, 1, 0, 0, 0, 0), some (.iadd, 1, 0, 0, 0, 0), some (.iload 4, 2, 0, 0, 0, 0), none, some (.iconst 1, 1, 0, 0, 0, 0), some (.iload 6, 2, 0, 0, 0, 0), none, some (.ishl, 1, 0, 0, 0, 0), some (.ior, 1, 0, 0, 0, 0), some (.iload 7, 2, 0, 0, 0, 0), none, some (.invokevirtual 30, 3, 58, 5, 0, 138), none, none, some (.istore 8, 2, 0, 0, 0, 0), none, some (.iload 8, 2, 0, 0, 0, 0), none, some (.ifCond .eq 6, 3, 0, 0, 0, 0), none, none, some (.iload 8, 2, 0, 0, 0, 0), none, some (.ireturn, 1, 0, 0, 0, 0), some (.iinc 6 1, 3, 0, 0, 0, 0), none, none, some (.goto (-64), 3, 0, 0, 0, 0), none, none, some (.iconst 0, 1, 0, 0, 0, 0), some (.ireturn, 1, 0, 0, 0, 0)]
def e_X6_touchesOthers : List (Option EN) := [some (.iconst 0, 1, 0, 0, 0, 0), some (.istore_n 3, 1, 0, 0, 0, 0), some (.iload_n 3, 1, 0, 0, 0, 0), some (.bipush 9, 2, 0, 0, 0, 0), none, some (.if_icmp .ge 30, 3, 0, 0, 0, 0), none, none, some (.iload_n 1, 1, 0, 0, 0, 0), some (.iload_n 3, 1, 0, 0, 0, 0), some (.ishr, 1, 0, 0, 0, 0), some (.iconst 1, 1, 0, 0, 0, 0), some (.iand, 1, 0, 0, 0, 0), some (.ifCond .ne 16, 3, 0, 0, 0, 0), none, none, some (.aload_n 0, 1, 0, 0, 0, 0), some (.getfield 9, 3, 6, 2, 6, 140), none, none, some (.iload_n 3, 1, 0, 0, 0, 0), some (.iaload, 1, 0, 0, 0, 0), some (.iload_n 2, 1, 0, 0, 0, 0), some (.iand, 1, 0, 0, 0, 0), some (.ifCond .eq 5, 3, 0, 0, 0, 0), none, none, some (.iconst 1, 1, 0, 0, 0, 0), some (.ireturn, 1, 0, 0, 0, 0), some (.iinc 3 1, 3, 0, 0, 0, 0), none, none, some (.goto (-30), 3, 0, 0, 0, 0), none, none, some (.iconst 0, 1, 0, 0, 0, 0), some (.ireturn, 1, 0, 0, 0, 0)]
def e_X7_forget : List (Option EN) := [some (.aload_n 0, 1, 0, 0, 0, 0), some (.iconst 0, 1, 0, 0, 0, 0), some (.putfield 36, 3, 7, 9, 0, 155), none, none, some (.aload_n 0, 1, 0, 0, 0, 0), some (.iconst 0, 1, 0, 0, 0, 0), some (.putfield 40, 3, 7, 10, 0, 156), none, none, some (.aload_n 0, 1, 0, 0, 0, 0), some (.iconst (-1), 1, 0, 0, 0, 0), some (.putfield 43, 3, 7, 11, 0, 157), none, none, some (.aload_n 0, 1, 0, 0, 0, 0), some (.iconst 0, 1, 0, 0, 0, 0), some (.putfield 46, 3, 7, 8, 0, 158), none, none, some (.return_, 1, 0, 0, 0, 0)]
def e_X7_has : List (Option EN) := [some (.iload_n 1, 1, 0, 0, 0, 0), some (.ifCond .lt 15, 3, 0, 0, 0, 0), none, none, some (.iload_n 1, 1, 0, 0, 0, 0), some (.aload_n 0, 1, 0, 0, 0, 0), some (.getfield 36, 3, 7, 9, 0, 155), none, none, some (.if_icmp .ge 7, 3, 0, 0, 0, 0), none, none, some (.iconst 1, 1, 0, 0, 0, 0), some (.goto 4, 3, 0, 0, 0, 0), none, none, some (.iconst 0, 1, 0, 0, 0, 0), some (.ireturn, 1, 0, 0, 0, 0)]
def e_X7_init : List (Option EN) := [some (.aload_n 0, 1, 0, 0, 0, 0), some (.invokespecial 3, 3, 9999, 0, 0, 159), none, none, some (.aload_n 0, 1, 0, 0, 0, 0), some (.sipush 729, 3, 0, 0, 0, 0), none, none, some (.newarray .int, 2, 0, 0, 0, 0), none, some (.putfield 9, 3, 7, 0, 6, 160), none, none, some (.aload_n 0, 1, 0, 0, 0, 0), some (.sipush 729, 3, 0, 0, 0, 0), none, none, some (.newarray .int, 2, 0, 0, 0, 0), none, some (.putfield 15, 3, 7, 1, 6, 161), none, none, some (.aload_n 0, 1, 0, 0, 0, 0), some (.sipush 729, 3, 0, 0, 0, 0), none, none, some (.newarray .int, 2, 0, 0, 0, 0), none, some (.putfield 18, 3, 7, 2, 6, 162), none, none, some (.aload_n 0, 1, 0, 0, 0, 0), some (.sipush 729, 3, 0, 0, 0, 0), none, none, some (.newarray .int, 2, 0, 0, 0, 0), none, some (.putfield 21, 3, 7, 3, 6, 163), none, none, some (.aload_n 0, 1, 0, 0, 0, 0), some (.sipush 729, 3, 0, 0, 0, 0), none, none, some (.newarray .int, 2, 0, 0, 0, 0), none, some (.putfield 24, 3, 7, 4, 6, 164), none, none, some (.aload_n 0, 1, 0, 0, 0, 0), some (.sipush 729, 3, 0, 0, 0, 0), none, none, some (.newarray .int, 2, 0, 0, 0, 0), none, some (.putfield 27, 3, 7, 5, 6, 165), none, none, some (.aload_n 0, 1, 0, 0, 0, 0), some (.sipush 729, 3, 0, 0, 0, 0), none, none, some (.newarray .int, 2, 0, 0, 0, 0), none, some (.putfield 30, 3, 7, 6, 6, 166), none, none, some (.aload_n 0, 1, 0, 0, 0, 0), some (.sipush 17496, 3, 0, 0, 0, 0), none, none, some (.newarray .int, 2, 0, 0, 0, 0), none, some (.putfield 33, 3, 7, 7, 6, 167), none, none, some (.return_, 1, 0, 0, 0, 0)]
def e_X7_linkAt : List (Option EN) := [some (.iload_n 1, 1, 0, 0, 0, 0), some (.ifCond .lt 20, 3, 0, 0, 0, 0), none, none, some (.iload_n 1, 1, 0, 0, 0, 0), some (.aload_n 0, 1, 0, 0, 0, 0), some (.getfield 46, 3, 7, 8, 0, 158), none, none, some (.if_icmp .ge 12, 3, 0, 0, 0, 0), none, none, some (.aload_n 0, 1, 0, 0, 0, 0), some (.getfield 33, 3, 7, 7, 6, 167), none, none, some (.iload_n 1, 1, 0, 0, 0, 0), some (.iaload, 1, 0, 0, 0, 0), some (.goto 4, 3, 0, 0, 0, 0), none, none, some (.iconst (-1), 1, 0, 0, 0, 0), some (.ireturn, 1, 0, 0, 0, 0)]
def e_X7_write : List (Option EN) := [some (.aload_n 0, 1, 0, 0, 0, 0), some (.getfield 36, 3, 7, 9, 0, 155), none, none, some (.sipush 729, 3, 0, 0, 0, 0), none, none, some (.if_icmp .ge 13, 3, 0, 0, 0, 0), none, none, some (.iload_n 1, 1, 0, 0, 0, 0), some (.ifCond .lt 9, 3, 0, 0, 0, 0), none, none, some (.iload_n 1, 1, 0, 0, 0, 0), some (.bipush 13, 2, 0, 0, 0, 0), none, some (.if_icmp .le 4, 3, 0, 0, 0, 0), none, none, some (.return_, 1, 0, 0, 0, 0), some (.aload_n 0, 1, 0, 0, 0, 0), some (.getfield 9, 3, 7, 0, 6, 160), none, none, some (.aload_n 0, 1, 0, 0, 0, 0), some (.getfield 36, 3, 7, 9, 0, 155), none, none, some (.iload_n 1, 1, 0, 0, 0, 0), some (.iastore, 1, 0, 0, 0, 0), some (.aload_n 0, 1, 0, 0, 0, 0), some (.getfield 15, 3, 7, 1, 6, 161), none, none, some (.aload_n 0, 1, 0, 0, 0, 0), some (.getfield 36, 3, 7, 9, 0, 155), none, none, some (.iload_n 2, 1, 0, 0, 0, 0), some (.iastore, 1, 0, 0, 0, 0), some (.aload_n 0, 1, 0, 0, 0, 0), some (.getfield 18, 3, 7, 2, 6, 162), none, none, some (.aload_n 0, 1, 0, 0, 0, 0), some (.getfield 36, 3, 7, 9, 0, 155), none, none, some (.iload_n 3, 1, 0, 0, 0, 0), some (.iastore, 1, 0, 0, 0, 0), some (.aload_n 0, 1, 0, 0, 0, 0), some (.getfield 21, 3, 7, 3, 6, 163), none, none, some (.aload_n 0, 1, 0, 0, 0, 0), some (.getfield 36, 3, 7, 9, 0, 155), none, none, some (.iload 4, 2, 0, 0, 0, 0), none, some (.iastore, 1, 0, 0, 0, 0), some (.aload_n 0, 1, 0, 0, 0, 0), some (.getfield 24, 3, 7, 4, 6, 164), none, none, some (.aload_n 0, 1, 0, 0, 0, 0), some (.getfield 36, 3, 7, 9, 0, 155), none, none, some (.iload 5, 2, 0, 0, 0, 0), none, some (.iastore, 1, 0, 0, 0, 0), some (.aload_n 0, 1, 0, 0, 0, 0), some (.getfield 27, 3, 7, 5, 6, 165), none, none, some (.aload_n 0, 1, 0, 0, 0, 0), some (.getfield 36, 3, 7, 9, 0, 155), none, none, some (.aload_n 0, 1, 0, 0, 0, 0), some (.getfield 46, 3, 7, 8, 0, 158), none, none, some (.iastore, 1, 0, 0, 0, 0), some (.aload_n 0, 1, 0, 0, 0, 0), some (.getfield 30, 3, 7, 6, 6, 166), none, none, some (.aload_n 0, 1, 0, 0, 0, 0), some (.getfield 36, 3, 7, 9, 0, 155), none, none, some (.iconst 0, 1, 0, 0, 0, 0), some (.iastore, 1, 0, 0, 0, 0), some (.aload_n 0, 1, 0, 0, 0, 0), some (.dup, 1, 0, 0, 0, 0), some (.getfield 36, 3, 7, 9, 0, 155), none, none, some (.iconst 1, 1, 0, 0, 0, 0), some (.iadd, 1, 0, 0, 0, 0), some (.putfield 36, 3, 7, 9, 0, 155), none, none, some (.aload_n 0, 1, 0, 0, 0, 0), some (.dup, 1, 0, 0, 0, 0), some (.getfield 40, 3, 7, 10, 0, 156), none, none, some (.getstatic 49, 3, 3, 0, 0, 168), none, none, some (.iload_n 1, 1, 0, 0, 0, 0), some (.iaload, 1, 0, 0, 0, 0), some (.iadd, 1, 0, 0, 0, 0), some (.putfield 40, 3, 7, 10, 0, 156), none, none, some (.aload_n 0, 1, 0, 0, 0, 0), some (.aload_n 0, 1, 0, 0, 0, 0), some (.getfield 43, 3, 7, 11, 0, 157), none, none, some (.iload_n 1, 1, 0, 0, 0, 0), some (.invokestatic 52, 3, 9998, 0, 0, 169), none, none, some (.putfield 43, 3, 7, 11, 0, 157), none, none, some (.return_, 1, 0, 0, 0, 0)]
def e_X7_writeLinks : List (Option EN) := [some (.aload_n 0, 1, 0, 0, 0, 0), some (.getfield 36, 3, 7, 9, 0, 155), none, none, some (.iconst 1, 1, 0, 0, 0, 0), some (.if_icmp .lt 23, 3, 0, 0, 0, 0), none, none, some (.iload_n 2, 1, 0, 0, 0, 0), some (.aload_n 1, 1, 0, 0, 0, 0), some (.arraylength, 1, 0, 0, 0, 0), some (.if_icmp .gt 17, 3, 0, 0, 0, 0), none, none, some (.iload_n 2, 1, 0, 0, 0, 0), some (.aload_n 0, 1, 0, 0, 0, 0), some (.getfield 33, 3, 7, 7, 6, 167), none, none, some (.arraylength, 1, 0, 0, 0, 0), some (.aload_n 0, 1, 0, 0, 0, 0), some (.getfield 46, 3, 7, 8, 0, 158), none, none, some (.isub, 1, 0, 0, 0, 0), some (.if_icmp .le 4, 3, 0, 0, 0, 0), none, none, some (.return_, 1, 0, 0, 0, 0), some (.iconst 0, 1, 0, 0, 0, 0), some (.istore_n 3, 1, 0, 0, 0, 0), some (.iload_n 3, 1, 0, 0, 0, 0), some (.iload_n 2, 1, 0, 0, 0, 0), some (.if_icmp .ge 23, 3, 0, 0, 0, 0), none, none, some (.aload_n 0, 1, 0, 0, 0, 0), some (.getfield 33, 3, 7, 7, 6, 167), none, none, some (.aload_n 0, 1, 0, 0, 0, 0), some (.getfield 46, 3, 7, 8, 0, 158), none, none, some (.iload_n 3, 1, 0, 0, 0, 0), some (.iadd, 1, 0, 0, 0, 0), some (.aload_n 1, 1, 0, 0, 0, 0), some (.iload_n 3, 1, 0, 0, 0, 0), some (.iaload, 1, 0, 0, 0, 0), some (.iastore, 1, 0, 0, 0, 0), some (.iinc 3 1, 3, 0, 0, 0, 0), none, none, some (.goto (-22), 3, 0, 0, 0, 0), none, none, some (.aload_n 0, 1, 0, 0, 0, 0), some (.getfield 30, 3, 7, 6, 6, 166), none, none, some (.aload_n 0, 1, 0, 0, 0, 0), some (.getfield 36, 3, 7, 9, 0, 155), none, none, some (.iconst 1, 1, 0, 0, 0, 0), some (.isub, 1, 0, 0, 0, 0), some (.iload_n 2, 1, 0, 0, 0, 0), some (.iastore, 1, 0, 0, 0, 0), some (.aload_n 0, 1, 0, 0, 0, 0), some (.dup, 1, 0, 0, 0, 0), some (.getfield 46, 3, 7, 8, 0, 158), none, none, some (.iload_n 2, 1, 0, 0, 0, 0), some (.iadd, 1, 0, 0, 0, 0), some (.putfield 46, 3, 7, 8, 0, 158), none, none, some (.return_, 1, 0, 0, 0, 0)]
def e_X8_atFirst : List (Option EN) := [some (.iload_n 0, 1, 0, 0, 0, 0), some (.iconst 1, 1, 0, 0, 0, 0), some (.if_icmp .lt 17, 3, 0, 0, 0, 0), none, none, some (.iload_n 0, 1, 0, 0, 0, 0), some (.bipush 9, 2, 0, 0, 0, 0), none, some (.if_icmp .gt 11, 3, 0, 0, 0, 0), none, none, some (.iconst 1, 1, 0, 0, 0, 0), some (.iload_n 0, 1, 0, 0, 0, 0), some (.iconst 1, 1, 0, 0, 0, 0), some (.isub, 1, 0, 0, 0, 0), some (.ishl, 1, 0, 0, 0, 0), some (.goto 6, 3, 0, 0, 0, 0), none, none, some (.sipush 511, 3, 0, 0, 0, 0), none, none, some (.ireturn, 1, 0, 0, 0, 0)]
def e_X8_candidates : List (Option EN) := [some (.iload_n 1, 1, 0, 0, 0, 0), some (.invokestatic 71, 3, 74, 1, 0, 170), none, none, some (.ifCond .ne 5, 3, 0, 0, 0, 0), none, none, some (.iconst (-1), 1, 0, 0, 0, 0), some (.ireturn, 1, 0, 0, 0, 0), some (.iload_n 2, 1, 0, 0, 0, 0), some (.tableswitch 56 0 2 #[26, 36, 46], 26, 0, 0, 0, 0), none, none, none, none, none, none, none, none, none, none, none, none, none, none, none, none, none, none, none, none, none, none, none, none, none, some (.aload_n 0, 1, 0, 0, 0, 0), some (.getfield 21, 3, 8, 1, 6, 171), none, none, some (.getfield 84, 3, 0, 1, 6, 172), none, none, some (.iload_n 1, 1, 0, 0, 0, 0), some (.iaload, 1, 0, 0, 0, 0), some (.ireturn, 1, 0, 0, 0, 0), some (.aload_n 0, 1, 0, 0, 0, 0), some (.getfield 25, 3, 8, 2, 6, 173), none, none, some (.getfield 84, 3, 0, 1, 6, 172), none, none, some (.iload_n 1, 1, 0, 0, 0, 0), some (.iaload, 1, 0, 0, 0, 0), some (.ireturn, 1, 0, 0, 0, 0), some (.aload_n 0, 1, 0, 0, 0, 0), some (.getfield 12, 3, 8, 0, 6, 174), none, none, some (.iload_n 1, 1, 0, 0, 0, 0), some (.iaload, 1, 0, 0, 0, 0), some (.invokestatic 87, 3, 66, 1, 0, 175), none, none, some (.ireturn, 1, 0, 0, 0, 0), some (.iconst (-1), 1, 0, 0, 0, 0), some (.ireturn, 1, 0, 0, 0, 0)]
def e_X8_claim : List (Option EN) := [some (.iload_n 1, 1, 0, 0, 0, 0), some (.bipush 13, 2, 0, 0, 0, 0), none, some (.if_icmp .eq 22, 3, 0, 0, 0, 0), none, none, some (.aload_n 0, 1, 0, 0, 0, 0), some (.aload_n 0, 1, 0, 0, 0, 0), some (.getfield 40, 3, 8, 4, 6, 176), none, none, some (.aload_n 0, 1, 0, 0, 0, 0), some (.getfield 25, 3, 8, 2, 6, 173), none, none, some (.iload_n 1, 1, 0, 0, 0, 0), some (.iload_n 2, 1, 0, 0, 0, 0), some (.iload_n 3, 1, 0, 0, 0, 0), some (.invokevirtual 137, 3, 26, 4, 0, 177), none, none, some (.invokevirtual 141, 3, 87, 1, 0, 178), none, none, some (.ireturn, 1, 0, 0, 0, 0), some (.aload_n 0, 1, 0, 0, 0, 0), some (.aload_n 0, 1, 0, 0, 0, 0), some (.getfield 47, 3, 8, 5, 6, 179), none, none, some (.aload_n 0, 1, 0, 0, 0, 0), some (.getfield 25, 3, 8, 2, 6, 173), none, none, some (.aload_n 0, 1, 0, 0, 0, 0), some (.getfield 65, 3, 8, 8, 6, 180), none, none, some (.iconst 0, 1, 0, 0, 0, 0), some (.aload_n 0, 1, 0, 0, 0, 0), some (.getfield 134, 3, 8, 9, 0, 181), none, none, some (.invokevirtual 144, 3, 16, 4, 0, 182), none, none, some (.invokevirtual 141, 3, 87, 1, 0, 178), none, none, some (.istore 4, 2, 0, 0, 0, 0), none, some (.aload_n 0, 1, 0, 0, 0, 0), some (.iconst 0, 1, 0, 0, 0, 0), some (.putfield 134, 3, 8, 9, 0, 181), none, none, some (.iload 4, 2, 0, 0, 0, 0), none, some (.ireturn, 1, 0, 0, 0, 0)]
def e_X8_claimWritten : List (Option EN) := [some (.aload_n 0, 1, 0, 0, 0, 0), some (.getfield 54, 3, 8, 6, 6, 183), none, none, some (.getfield 107, 3, 7, 0, 6, 184), none, none, some (.iload_n 1, 1, 0, 0, 0, 0), some (.iaload, 1, 0, 0, 0, 0), some (.bipush 13, 2, 0, 0, 0, 0), none, some (.if_icmp .ne 44, 3, 0, 0, 0, 0), none, none, some (.aload_n 0, 1, 0, 0, 0, 0), some (.aload_n 0, 1, 0, 0, 0, 0), some (.getfield 47, 3, 8, 5, 6, 179), none, none, some (.aload_n 0, 1, 0, 0, 0, 0), some (.getfield 25, 3, 8, 2, 6, 173), none, none, some (.aload_n 0, 1, 0, 0, 0, 0), some (.getfield 54, 3, 8, 6, 6, 183), none, none, some (.getfield 207, 3, 7, 7, 6, 185), none, none, some (.aload_n 0, 1, 0, 0, 0, 0), some (.getfield 54, 3, 8, 6, 6, 183), none, none, some (.getfield 128, 3, 7, 5, 6, 186), none, none, some (.iload_n 1, 1, 0, 0, 0, 0), some (.iaload, 1, 0, 0, 0, 0), some (.aload_n 0, 1, 0, 0, 0, 0), some (.getfield 54, 3, 8, 6, 6, 183), none, none, some (.getfield 119, 3, 7, 6, 6, 187), none, none, some (.iload_n 1, 1, 0, 0, 0, 0), some (.iaload, 1, 0, 0, 0, 0), some (.invokevirtual 144, 3, 16, 4, 0, 182), none, none, some (.invokevirtual 141, 3, 87, 1, 0, 178), none, none, some (.ireturn, 1, 0, 0, 0, 0), some (.aload_n 0, 1, 0, 0, 0, 0), some (.aload_n 0, 1, 0, 0, 0, 0), some (.getfield 40, 3, 8, 4, 6, 176), none, none, some (.aload_n 0, 1, 0, 0, 0, 0), some (.getfield 25, 3, 8, 2, 6, 173), none, none, some (.aload_n 0, 1, 0, 0, 0, 0), some (.getfield 54, 3, 8, 6, 6, 183), none, none, some (.getfield 107, 3, 7, 0, 6, 184), none, none, some (.iload_n 1, 1, 0, 0, 0, 0), some (.iaload, 1, 0, 0, 0, 0), some (.aload_n 0, 1, 0, 0, 0, 0), some (.getfield 54, 3, 8, 6, 6, 183), none, none, some (.getfield 110, 3, 7, 1, 6, 188), none, none, some (.iload_n 1, 1, 0, 0, 0, 0), some (.iaload, 1, 0, 0, 0, 0), some (.aload_n 0, 1, 0, 0, 0, 0), some (.getfield 54, 3, 8, 6, 6, 183), none, none, some (.getfield 113, 3, 7, 2, 6, 189), none, none, some (.iload_n 1, 1, 0, 0, 0, 0), some (.iaload, 1, 0, 0, 0, 0), some (.invokevirtual 137, 3, 26, 4, 0, 177), none, none, some (.invokevirtual 141, 3, 87, 1, 0, 178), none, none, some (.ireturn, 1, 0, 0, 0, 0)]
def e_X8_give : List (Option EN) := [some (.iload_n 1, 1, 0, 0, 0, 0), some (.invokestatic 71, 3, 74, 1, 0, 170), none, none, some (.ifCond .eq 13, 3, 0, 0, 0, 0), none, none, some (.iload_n 2, 1, 0, 0, 0, 0), some (.ifCond .lt 9, 3, 0, 0, 0, 0), none, none, some (.iload_n 2, 1, 0, 0, 0, 0), some (.bipush 9, 2, 0, 0, 0, 0), none, some (.if_icmp .le 5, 3, 0, 0, 0, 0), none, none, some (.iconst 0, 1, 0, 0, 0, 0), some (.ireturn, 1, 0, 0, 0, 0), some (.aload_n 0, 1, 0, 0, 0, 0), some (.getfield 12, 3, 8, 0, 6, 174), none, none, some (.iload_n 1, 1, 0, 0, 0, 0), some (.iload_n 2, 1, 0, 0, 0, 0), some (.iastore, 1, 0, 0, 0, 0), some (.aload_n 0, 1, 0, 0, 0, 0), some (.invokevirtual 68, 3, 84, 0, 0, 190), none, none, some (.iconst 1, 1, 0, 0, 0, 0), some (.ireturn, 1, 0, 0, 0, 0)]
def e_X8_gone : List (Option EN) := [some (.aload_n 0, 1, 0, 0, 0, 0), some (.getfield 54, 3, 8, 6, 6, 183), none, none, some (.iload_n 1, 1, 0, 0, 0, 0), some (.invokevirtual 104, 3, 61, 1, 0, 191), none, none, some (.ifCond .eq 20, 3, 0, 0, 0, 0), none, none, some (.iload_n 2, 1, 0, 0, 0, 0), some (.ifCond .lt 16, 3, 0, 0, 0, 0), none, none, some (.iload_n 2, 1, 0, 0, 0, 0), some (.aload_n 0, 1, 0, 0, 0, 0), some (.getfield 54, 3, 8, 6, 6, 183), none, none, some (.getfield 116, 3, 7, 4, 6, 192), none, none, some (.iload_n 1, 1, 0, 0, 0, 0), some (.iaload, 1, 0, 0, 0, 0), some (.if_icmp .lt 5, 3, 0, 0, 0, 0), none, none, some (.iconst (-1), 1, 0, 0, 0, 0), some (.ireturn, 1, 0, 0, 0, 0), some (.aload_n 0, 1, 0, 0, 0, 0), some (.getfield 21, 3, 8, 1, 6, 171), none, none, some (.aload_n 0, 1, 0, 0, 0, 0), some (.getfield 54, 3, 8, 6, 6, 183), none, none, some (.getfield 122, 3, 7, 3, 6, 193), none, none, some (.iload_n 1, 1, 0, 0, 0, 0), some (.iaload, 1, 0, 0, 0, 0), some (.iload_n 2, 1, 0, 0, 0, 0), some (.iadd, 1, 0, 0, 0, 0), some (.invokevirtual 125, 3, 4, 1, 0, 194), none, none, some (.ireturn, 1, 0, 0, 0, 0)]
def e_X8_grade : List (Option EN) := [some (.iload_n 1, 1, 0, 0, 0, 0), some (.ifCond .lt 9, 3, 0, 0, 0, 0), none, none, some (.iload_n 1, 1, 0, 0, 0, 0), some (.bipush 30, 2, 0, 0, 0, 0), none, some (.if_icmp .le 5, 3, 0, 0, 0, 0), none, none, some (.iconst (-1), 1, 0, 0, 0, 0), some (.ireturn, 1, 0, 0, 0, 0), some (.iconst 0, 1, 0, 0, 0, 0), some (.istore_n 2, 1, 0, 0, 0, 0), some (.iconst 0, 1, 0, 0, 0, 0), some (.istore_n 3, 1, 0, 0, 0, 0), some (.iload_n 3, 1, 0, 0, 0, 0), some (.iload_n 1, 1, 0, 0, 0, 0), some (.if_icmp .ge 34, 3, 0, 0, 0, 0), none, none, some (.aload_n 0, 1, 0, 0, 0, 0), some (.getfield 76, 3, 8, 10, 1, 195), none, none, some (.ifCond .ne 27, 3, 0, 0, 0, 0), none, none, some (.aload_n 0, 1, 0, 0, 0, 0), some (.invokevirtual 80, 3, 86, 0, 0, 196), none, none, some (.ifCond .eq 9, 3, 0, 0, 0, 0), none, none, some (.iinc 2 1, 3, 0, 0, 0, 0), none, none, some (.goto 8, 3, 0, 0, 0, 0), none, none, some (.aload_n 0, 1, 0, 0, 0, 0), some (.iconst 1, 1, 0, 0, 0, 0), some (.putfield 76, 3, 8, 10, 1, 195), none, none, some (.iinc 3 1, 3, 0, 0, 0, 0), none, none, some (.goto (-33), 3, 0, 0, 0, 0), none, none, some (.iload_n 2, 1, 0, 0, 0, 0), some (.ireturn, 1, 0, 0, 0, 0)]
def e_X8_init : List (Option EN) := [some (.aload_n 0, 1, 0, 0, 0, 0), some (.invokespecial 1, 3, 9999, 0, 0, 197), none, none, some (.new 7, 3, 4, 4, 0, 198), none, none, some (.dup, 1, 0, 0, 0, 0), some (.invokespecial 9, 3, 35, 0, 0, 199), none, none, some (.astore_n 1, 1, 0, 0, 0, 0), some (.aload_n 0, 1, 0, 0, 0, 0), some (.bipush 81, 2, 0, 0, 0, 0), none, some (.newarray .int, 2, 0, 0, 0, 0), none, some (.putfield 12, 3, 8, 0, 6, 174), none, none, some (.aload_n 0, 1, 0, 0, 0, 0), some (.new 16, 3, 0, 5, 0, 200), none, none, some (.dup, 1, 0, 0, 0, 0), some (.aload_n 1, 1, 0, 0, 0, 0), some (.invokespecial 18, 3, 3, 1, 0, 201), none, none, some (.putfield 21, 3, 8, 1, 6, 171), none, none, some (.aload_n 0, 1, 0, 0, 0, 0), some (.new 16, 3, 0, 5, 0, 200), none, none, some (.dup, 1, 0, 0, 0, 0), some (.aload_n 1, 1, 0, 0, 0, 0), some (.invokespecial 18, 3, 3, 1, 0, 201), none, none, some (.putfield 25, 3, 8, 2, 6, 173), none, none, some (.aload_n 0, 1, 0, 0, 0, 0), some (.new 28, 3, 2, 3, 0, 202), none, none, some (.dup, 1, 0, 0, 0, 0), some (.aload_n 1, 1, 0, 0, 0, 0), some (.invokespecial 30, 3, 23, 1, 0, 203), none, none, some (.putfield 31, 3, 8, 3, 6, 204), none, none, some (.aload_n 0, 1, 0, 0, 0, 0), some (.new 35, 3, 3, 5, 0, 205), none, none, some (.dup, 1, 0, 0, 0, 0), some (.aload_n 1, 1, 0, 0, 0, 0), some (.aload_n 0, 1, 0, 0, 0, 0), some (.getfield 31, 3, 8, 3, 6, 204), none, none, some (.invokespecial 37, 3, 25, 2, 0, 206), none, none, some (.putfield 40, 3, 8, 4, 6, 176), none, none, some (.aload_n 0, 1, 0, 0, 0, 0), some (.new 44, 3, 1, 17, 0, 207), none, none, some (.dup, 1, 0, 0, 0, 0), some (.aload_n 1, 1, 0, 0, 0, 0), some (.aload_n 0, 1, 0, 0, 0, 0), some (.getfield 31, 3, 8, 3, 6, 204), none, none, some (.invokespecial 46, 3, 13, 2, 0, 208), none, none, some (.putfield 47, 3, 8, 5, 6, 179), none, none, some (.aload_n 0, 1, 0, 0, 0, 0), some (.new 51, 3, 7, 12, 0, 209), none, none, some (.dup, 1, 0, 0, 0, 0), some (.invokespecial 53, 3, 62, 0, 1, 210), none, none, some (.putfield 54, 3, 8, 6, 6, 183), none, none, some (.aload_n 0, 1, 0, 0, 0, 0), some (.new 58, 3, 5, 14, 0, 211), none, none, some (.dup, 1, 0, 0, 0, 0), some (.aload_n 1, 1, 0, 0, 0, 0), some (.invokespecial 60, 3, 44, 1, 0, 212), none, none, some (.putfield 61, 3, 8, 7, 6, 213), none, none, some (.aload_n 0, 1, 0, 0, 0, 0), some (.bipush 24, 2, 0, 0, 0, 0), none, some (.newarray .int, 2, 0, 0, 0, 0), none, some (.putfield 65, 3, 8, 8, 6, 180), none, none, some (.aload_n 0, 1, 0, 0, 0, 0), some (.invokevirtual 68, 3, 84, 0, 0, 190), none, none, some (.return_, 1, 0, 0, 0, 0)]
def e_X8_isCell : List (Option EN) := [some (.iload_n 0, 1, 0, 0, 0, 0), some (.ifCond .lt 13, 3, 0, 0, 0, 0), none, none, some (.iload_n 0, 1, 0, 0, 0, 0), some (.bipush 81, 2, 0, 0, 0, 0), none, some (.if_icmp .ge 7, 3, 0, 0, 0, 0), none, none, some (.iconst 1, 1, 0, 0, 0, 0), some (.goto 4, 3, 0, 0, 0, 0), none, none, some (.iconst 0, 1, 0, 0, 0, 0), some (.ireturn, 1, 0, 0, 0, 0)]
def e_X8_isOneBit : List (Option EN) := [some (.iload_n 0, 1, 0, 0, 0, 0), some (.ifCond .eq 15, 3, 0, 0, 0, 0), none, none, some (.iload_n 0, 1, 0, 0, 0, 0), some (.iload_n 0, 1, 0, 0, 0, 0), some (.iconst 1, 1, 0, 0, 0, 0), some (.isub, 1, 0, 0, 0, 0), some (.iand, 1, 0, 0, 0, 0), some (.ifCond .ne 7, 3, 0, 0, 0, 0), none, none, some (.iconst 1, 1, 0, 0, 0, 0), some (.goto 4, 3, 0, 0, 0, 0), none, none, some (.iconst 0, 1, 0, 0, 0, 0), some (.ireturn, 1, 0, 0, 0, 0)]
def e_X8_link : List (Option EN) := [some (.aload_n 0, 1, 0, 0, 0, 0), some (.getfield 54, 3, 8, 6, 6, 183), none, none, some (.iload_n 1, 1, 0, 0, 0, 0), some (.invokevirtual 104, 3, 61, 1, 0, 191), none, none, some (.ifCond .eq 20, 3, 0, 0, 0, 0), none, none, some (.iload_n 2, 1, 0, 0, 0, 0), some (.ifCond .lt 16, 3, 0, 0, 0, 0), none, none, some (.iload_n 2, 1, 0, 0, 0, 0), some (.aload_n 0, 1, 0, 0, 0, 0), some (.getfield 54, 3, 8, 6, 6, 183), none, none, some (.getfield 119, 3, 7, 6, 6, 187), none, none, some (.iload_n 1, 1, 0, 0, 0, 0), some (.iaload, 1, 0, 0, 0, 0), some (.if_icmp .lt 5, 3, 0, 0, 0, 0), none, none, some (.iconst (-1), 1, 0, 0, 0, 0), some (.ireturn, 1, 0, 0, 0, 0), some (.aload_n 0, 1, 0, 0, 0, 0), some (.getfield 54, 3, 8, 6, 6, 183), none, none, some (.aload_n 0, 1, 0, 0, 0, 0), some (.getfield 54, 3, 8, 6, 6, 183), none, none, some (.getfield 128, 3, 7, 5, 6, 186), none, none, some (.iload_n 1, 1, 0, 0, 0, 0), some (.iaload, 1, 0, 0, 0, 0), some (.iload_n 2, 1, 0, 0, 0, 0), some (.iadd, 1, 0, 0, 0, 0), some (.invokevirtual 131, 3, 63, 1, 0, 214), none, none, some (.ireturn, 1, 0, 0, 0, 0)]
def e_X8_node : List (Option EN) := [some (.iload_n 1, 1, 0, 0, 0, 0), some (.ifCond .lt 19, 3, 0, 0, 0, 0), none, none, some (.iload_n 1, 1, 0, 0, 0, 0), some (.sipush 729, 3, 0, 0, 0, 0), none, none, some (.if_icmp .ge 12, 3, 0, 0, 0, 0), none, none, some (.aload_n 0, 1, 0, 0, 0, 0), some (.getfield 134, 3, 8, 9, 0, 181), none, none, some (.bipush 24, 2, 0, 0, 0, 0), none, some (.if_icmp .lt 5, 3, 0, 0, 0, 0), none, none, some (.iconst (-1), 1, 0, 0, 0, 0), some (.ireturn, 1, 0, 0, 0, 0), some (.aload_n 0, 1, 0, 0, 0, 0), some (.getfield 65, 3, 8, 8, 6, 180), none, none, some (.aload_n 0, 1, 0, 0, 0, 0), some (.getfield 134, 3, 8, 9, 0, 181), none, none, some (.iload_n 1, 1, 0, 0, 0, 0), some (.iastore, 1, 0, 0, 0, 0), some (.aload_n 0, 1, 0, 0, 0, 0), some (.dup, 1, 0, 0, 0, 0), some (.getfield 134, 3, 8, 9, 0, 181), none, none, some (.iconst 1, 1, 0, 0, 0, 0), some (.iadd, 1, 0, 0, 0, 0), some (.putfield 134, 3, 8, 9, 0, 181), none, none, some (.aload_n 0, 1, 0, 0, 0, 0), some (.getfield 134, 3, 8, 9, 0, 181), none, none, some (.ireturn, 1, 0, 0, 0, 0)]
def e_X8_placeOf : List (Option EN) := [some (.iload_n 0, 1, 0, 0, 0, 0), some (.iconst 1, 1, 0, 0, 0, 0), some (.isub, 1, 0, 0, 0, 0), some (.invokestatic 210, 3, 146, 1, 0, 215), none, none, some (.ireturn, 1, 0, 0, 0, 0)]
def e_X8_replay : List (Option EN) := [some (.iload_n 1, 1, 0, 0, 0, 0), some (.ifCond .lt 14, 3, 0, 0, 0, 0), none, none, some (.iload_n 1, 1, 0, 0, 0, 0), some (.aload_n 0, 1, 0, 0, 0, 0), some (.getfield 54, 3, 8, 6, 6, 183), none, none, some (.getfield 91, 3, 7, 9, 0, 216), none, none, some (.if_icmp .le 5, 3, 0, 0, 0, 0), none, none, some (.iconst (-1), 1, 0, 0, 0, 0), some (.ireturn, 1, 0, 0, 0, 0), some (.aload_n 0, 1, 0, 0, 0, 0), some (.iconst 0, 1, 0, 0, 0, 0), some (.putfield 134, 3, 8, 9, 0, 181), none, none, some (.iconst 0, 1, 0, 0, 0, 0), some (.istore_n 2, 1, 0, 0, 0, 0), some (.iload_n 1, 1, 0, 0, 0, 0), some (.istore_n 3, 1, 0, 0, 0, 0), some (.iload_n 3, 1, 0, 0, 0, 0), some (.aload_n 0, 1, 0, 0, 0, 0), some (.getfield 54, 3, 8, 6, 6, 183), none, none, some (.getfield 91, 3, 7, 9, 0, 216), none, none, some (.if_icmp .ge 24, 3, 0, 0, 0, 0), none, none, some (.aload_n 0, 1, 0, 0, 0, 0), some (.iload_n 3, 1, 0, 0, 0, 0), some (.invokevirtual 147, 3, 69, 1, 0, 217), none, none, some (.iconst (-1), 1, 0, 0, 0, 0), some (.if_icmp .ne 6, 3, 0, 0, 0, 0), none, none, some (.goto 12, 3, 0, 0, 0, 0), none, none, some (.iinc 2 1, 3, 0, 0, 0, 0), none, none, some (.iinc 3 1, 3, 0, 0, 0, 0), none, none, some (.goto (-29), 3, 0, 0, 0, 0), none, none, some (.iload_n 2, 1, 0, 0, 0, 0), some (.ireturn, 1, 0, 0, 0, 0)]
def e_X8_row : List (Option EN) := [some (.iload_n 1, 1, 0, 0, 0, 0), some (.ifCond .lt 19, 3, 0, 0, 0, 0), none, none, some (.iload_n 1, 1, 0, 0, 0, 0), some (.bipush 8, 2, 0, 0, 0, 0), none, some (.if_icmp .gt 13, 3, 0, 0, 0, 0), none, none, some (.iload_n 2, 1, 0, 0, 0, 0), some (.ifCond .lt 9, 3, 0, 0, 0, 0), none, none, some (.iload_n 2, 1, 0, 0, 0, 0), some (.ldc 75, 2, 999999999, 0, 0, 218), none, some (.if_icmp .le 5, 3, 0, 0, 0, 0), none, none, some (.iconst 0, 1, 0, 0, 0, 0), some (.ireturn, 1, 0, 0, 0, 0), some (.iload_n 2, 1, 0, 0, 0, 0), some (.istore_n 3, 1, 0, 0, 0, 0), some (.bipush 8, 2, 0, 0, 0, 0), none, some (.istore 4, 2, 0, 0, 0, 0), none, some (.iload 4, 2, 0, 0, 0, 0), none, some (.ifCond .lt 30, 3, 0, 0, 0, 0), none, none, some (.aload_n 0, 1, 0, 0, 0, 0), some (.getfield 12, 3, 8, 0, 6, 174), none, none, some (.bipush 9, 2, 0, 0, 0, 0), none, some (.iload_n 1, 1, 0, 0, 0, 0), some (.imul, 1, 0, 0, 0, 0), some (.iload 4, 2, 0, 0, 0, 0), none, some (.iadd, 1, 0, 0, 0, 0), some (.iload_n 3, 1, 0, 0, 0, 0), some (.bipush 10, 2, 0, 0, 0, 0), none, some (.irem, 1, 0, 0, 0, 0), some (.iastore, 1, 0, 0, 0, 0), some (.iload_n 3, 1, 0, 0, 0, 0), some (.bipush 10, 2, 0, 0, 0, 0), none, some (.idiv, 1, 0, 0, 0, 0), some (.istore_n 3, 1, 0, 0, 0, 0), some (.iinc 4 (-1), 3, 0, 0, 0, 0), none, none, some (.goto (-29), 3, 0, 0, 0, 0), none, none, some (.aload_n 0, 1, 0, 0, 0, 0), some (.invokevirtual 68, 3, 84, 0, 0, 190), none, none, some (.iconst 1, 1, 0, 0, 0, 0), some (.ireturn, 1, 0, 0, 0, 0)]
def e_X8_search : List (Option EN) := [some (.iload_n 1, 1, 0, 0, 0, 0), some (.ifCond .lt 10, 3, 0, 0, 0, 0), none, none, some (.iload_n 1, 1, 0, 0, 0, 0), some (.sipush 300, 3, 0, 0, 0, 0), none, none, some (.if_icmp .le 5, 3, 0, 0, 0, 0), none, none, some (.iconst (-1), 1, 0, 0, 0, 0), some (.ireturn, 1, 0, 0, 0, 0), some (.aload_n 0, 1, 0, 0, 0, 0), some (.getfield 61, 3, 8, 7, 6, 213), none, none, some (.aload_n 0, 1, 0, 0, 0, 0), some (.getfield 12, 3, 8, 0, 6, 174), none, none, some (.invokevirtual 150, 3, 38, 1, 0, 219), none, none, some (.iconst 0, 1, 0, 0, 0, 0), some (.istore_n 2, 1, 0, 0, 0, 0), some (.iload_n 2, 1, 0, 0, 0, 0), some (.iload_n 1, 1, 0, 0, 0, 0), some (.if_icmp .ge 26, 3, 0, 0, 0, 0), none, none, some (.aload_n 0, 1, 0, 0, 0, 0), some (.getfield 61, 3, 8, 7, 6, 213), none, none, some (.getfield 154, 3, 5, 10, 1, 220), none, none, some (.ifCond .ne 16, 3, 0, 0, 0, 0), none, none, some (.aload_n 0, 1, 0, 0, 0, 0), some (.getfield 61, 3, 8, 7, 6, 213), none, none, some (.invokevirtual 157, 3, 50, 0, 0, 221), none, none, some (.iinc 2 1, 3, 0, 0, 0, 0), none, none, some (.goto (-25), 3, 0, 0, 0, 0), none, none, some (.aload_n 0, 1, 0, 0, 0, 0), some (.getfield 61, 3, 8, 7, 6, 213), none, none, some (.getfield 160, 3, 5, 12, 0, 222), none, none, some (.ireturn, 1, 0, 0, 0, 0)]
def e_X8_searched : List (Option EN) := [some (.iload_n 1, 1, 0, 0, 0, 0), some (.tableswitch 80 0 2 #[27, 43, 51], 27, 0, 0, 0, 0), none, none, none, none, none, none, none, none, none, none, none, none, none, none, none, none, none, none, none, none, none, none, none, none, none, none, some (.aload_n 0, 1, 0, 0, 0, 0), some (.getfield 61, 3, 8, 7, 6, 213), none, none, some (.getfield 154, 3, 5, 10, 1, 220), none, none, some (.ifCond .eq 7, 3, 0, 0, 0, 0), none, none, some (.iconst 1, 1, 0, 0, 0, 0), some (.goto 4, 3, 0, 0, 0, 0), none, none, some (.iconst 0, 1, 0, 0, 0, 0), some (.ireturn, 1, 0, 0, 0, 0), some (.aload_n 0, 1, 0, 0, 0, 0), some (.getfield 61, 3, 8, 7, 6, 213), none, none, some (.getfield 163, 3, 5, 11, 0, 223), none, none, some (.ireturn, 1, 0, 0, 0, 0), some (.aload_n 0, 1, 0, 0, 0, 0), some (.getfield 61, 3, 8, 7, 6, 213), none, none, some (.getfield 154, 3, 5, 10, 1, 220), none, none, some (.ifCond .ne 5, 3, 0, 0, 0, 0), none, none, some (.iconst (-1), 1, 0, 0, 0, 0), some (.ireturn, 1, 0, 0, 0, 0), some (.aload_n 0, 1, 0, 0, 0, 0), some (.getfield 61, 3, 8, 7, 6, 213), none, none, some (.getfield 160, 3, 5, 12, 0, 222), none, none, some (.iconst 1, 1, 0, 0, 0, 0), some (.if_icmp .ne 7, 3, 0, 0, 0, 0), none, none, some (.iconst 1, 1, 0, 0, 0, 0), some (.goto 4, 3, 0, 0, 0, 0), none, none, some (.iconst 0, 1, 0, 0, 0, 0), some (.ireturn, 1, 0, 0, 0, 0), some (.iconst (-1), 1, 0, 0, 0, 0), some (.ireturn, 1, 0, 0, 0, 0)]
def e_X8_solution : List (Option EN) := [some (.iload_n 1, 1, 0, 0, 0, 0), some (.ifCond .lt 26, 3, 0, 0, 0, 0), none, none, some (.iload_n 1, 1, 0, 0, 0, 0), some (.aload_n 0, 1, 0, 0, 0, 0), some (.getfield 61, 3, 8, 7, 6, 213), none, none, some (.getfield 160, 3, 5, 12, 0, 222), none, none, some (.if_icmp .ge 15, 3, 0, 0, 0, 0), none, none, some (.iload_n 1, 1, 0, 0, 0, 0), some (.iconst 2, 1, 0, 0, 0, 0), some (.if_icmp .ge 10, 3, 0, 0, 0, 0), none, none, some (.iload_n 2, 1, 0, 0, 0, 0), some (.invokestatic 71, 3, 74, 1, 0, 170), none, none, some (.ifCond .ne 5, 3, 0, 0, 0, 0), none, none, some (.iconst (-1), 1, 0, 0, 0, 0), some (.ireturn, 1, 0, 0, 0, 0), some (.aload_n 0, 1, 0, 0, 0, 0), some (.getfield 61, 3, 8, 7, 6, 213), none, none, some (.getfield 166, 3, 5, 13, 6, 224), none, none, some (.bipush 81, 2, 0, 0, 0, 0), none, some (.iload_n 1, 1, 0, 0, 0, 0), some (.imul, 1, 0, 0, 0, 0), some (.iload_n 2, 1, 0, 0, 0, 0), some (.iadd, 1, 0, 0, 0, 0), some (.iaload, 1, 0, 0, 0, 0), some (.ireturn, 1, 0, 0, 0, 0)]
def e_X8_startAnew : List (Option EN) := [some (.aload_n 0, 1, 0, 0, 0, 0), some (.getfield 21, 3, 8, 1, 6, 171), none, none, some (.aload_n 0, 1, 0, 0, 0, 0), some (.getfield 12, 3, 8, 0, 6, 174), none, none, some (.invokevirtual 169, 3, 5, 1, 0, 225), none, none, some (.aload_n 0, 1, 0, 0, 0, 0), some (.getfield 25, 3, 8, 2, 6, 173), none, none, some (.aload_n 0, 1, 0, 0, 0, 0), some (.getfield 12, 3, 8, 0, 6, 174), none, none, some (.invokevirtual 169, 3, 5, 1, 0, 225), none, none, some (.aload_n 0, 1, 0, 0, 0, 0), some (.getfield 54, 3, 8, 6, 6, 183), none, none, some (.invokevirtual 172, 3, 60, 0, 0, 226), none, none, some (.aload_n 0, 1, 0, 0, 0, 0), some (.getfield 61, 3, 8, 7, 6, 213), none, none, some (.invokevirtual 175, 3, 43, 0, 0, 227), none, none, some (.aload_n 0, 1, 0, 0, 0, 0), some (.iconst 0, 1, 0, 0, 0, 0), some (.putfield 134, 3, 8, 9, 0, 181), none, none, some (.aload_n 0, 1, 0, 0, 0, 0), some (.iconst 0, 1, 0, 0, 0, 0), some (.putfield 76, 3, 8, 10, 1, 195), none, none, some (.return_, 1, 0, 0, 0, 0)]
def e_X8_step : List (Option EN) := [some (.aload_n 0, 1, 0, 0, 0, 0), some (.getfield 54, 3, 8, 6, 6, 183), none, none, some (.iload_n 1, 1, 0, 0, 0, 0), some (.invokevirtual 104, 3, 61, 1, 0, 191), none, none, some (.ifCond .ne 5, 3, 0, 0, 0, 0), none, none, some (.iconst (-1), 1, 0, 0, 0, 0), some (.ireturn, 1, 0, 0, 0, 0), some (.iload_n 2, 1, 0, 0, 0, 0), some (.tableswitch 84 0 4 #[34, 44, 54, 64, 74], 34, 0, 0, 0, 0), none, none, none, none, none, none, none, none, none, none, none, none, none, none, none, none, none, none, none, none, none, none, none, none, none, none, none, none, none, none, none, none, none, some (.aload_n 0, 1, 0, 0, 0, 0), some (.getfield 54, 3, 8, 6, 6, 183), none, none, some (.getfield 107, 3, 7, 0, 6, 184), none, none, some (.iload_n 1, 1, 0, 0, 0, 0), some (.iaload, 1, 0, 0, 0, 0), some (.ireturn, 1, 0, 0, 0, 0), some (.aload_n 0, 1, 0, 0, 0, 0), some (.getfield 54, 3, 8, 6, 6, 183), none, none, some (.getfield 110, 3, 7, 1, 6, 188), none, none, some (.iload_n 1, 1, 0, 0, 0, 0), some (.iaload, 1, 0, 0, 0, 0), some (.ireturn, 1, 0, 0, 0, 0), some (.aload_n 0, 1, 0, 0, 0, 0), some (.getfield 54, 3, 8, 6, 6, 183), none, none, some (.getfield 113, 3, 7, 2, 6, 189), none, none, some (.iload_n 1, 1, 0, 0, 0, 0), some (.iaload, 1, 0, 0, 0, 0), some (.ireturn, 1, 0, 0, 0, 0), some (.aload_n 0, 1, 0, 0, 0, 0), some (.getfield 54, 3, 8, 6, 6, 183), none, none, some (.getfield 116, 3, 7, 4, 6, 192), none, none, some (.iload_n 1, 1, 0, 0, 0, 0), some (.iaload, 1, 0, 0, 0, 0), some (.ireturn, 1, 0, 0, 0, 0), some (.aload_n 0, 1, 0, 0, 0, 0), some (.getfield 54, 3, 8, 6, 6, 183), none, none, some (.getfield 119, 3, 7, 6, 6, 187), none, none, some (.iload_n 1, 1, 0, 0, 0, 0), some (.iaload, 1, 0, 0, 0, 0), some (.ireturn, 1, 0, 0, 0, 0), some (.iconst (-1), 1, 0, 0, 0, 0), some (.ireturn, 1, 0, 0, 0, 0)]
def e_X8_takeFirstStep : List (Option EN) := [some (.iconst 0, 1, 0, 0, 0, 0), some (.istore_n 1, 1, 0, 0, 0, 0), some (.iload_n 1, 1, 0, 0, 0, 0), some (.bipush 13, 2, 0, 0, 0, 0), none, some (.if_icmp .ge 69, 3, 0, 0, 0, 0), none, none, some (.aload_n 0, 1, 0, 0, 0, 0), some (.getfield 40, 3, 8, 4, 6, 176), none, none, some (.aload_n 0, 1, 0, 0, 0, 0), some (.getfield 21, 3, 8, 1, 6, 171), none, none, some (.iload_n 1, 1, 0, 0, 0, 0), some (.invokevirtual 176, 3, 29, 2, 0, 228), none, none, some (.istore_n 2, 1, 0, 0, 0, 0), some (.iload_n 2, 1, 0, 0, 0, 0), some (.ifCond .le 46, 3, 0, 0, 0, 0), none, none, some (.aload_n 0, 1, 0, 0, 0, 0), some (.getfield 54, 3, 8, 6, 6, 183), none, none, some (.iload_n 1, 1, 0, 0, 0, 0), some (.aload_n 0, 1, 0, 0, 0, 0), some (.getfield 40, 3, 8, 4, 6, 176), none, none, some (.getfield 180, 3, 3, 3, 0, 229), none, none, some (.aload_n 0, 1, 0, 0, 0, 0), some (.getfield 40, 3, 8, 4, 6, 176), none, none, some (.getfield 183, 3, 3, 4, 0, 230), none, none, some (.aload_n 0, 1, 0, 0, 0, 0), some (.getfield 21, 3, 8, 1, 6, 171), none, none, some (.getfield 101, 3, 0, 4, 0, 231), none, none, some (.iload_n 2, 1, 0, 0, 0, 0), some (.invokevirtual 186, 3, 64, 5, 0, 232), none, none, some (.aload_n 0, 1, 0, 0, 0, 0), some (.getfield 31, 3, 8, 3, 6, 204), none, none, some (.aload_n 0, 1, 0, 0, 0, 0), some (.getfield 21, 3, 8, 1, 6, 171), none, none, some (.invokevirtual 190, 3, 24, 1, 0, 233), none, none, some (.iconst 1, 1, 0, 0, 0, 0), some (.ireturn, 1, 0, 0, 0, 0), some (.iinc 1 1, 3, 0, 0, 0, 0), none, none, some (.goto (-69), 3, 0, 0, 0, 0), none, none, some (.aload_n 0, 1, 0, 0, 0, 0), some (.getfield 47, 3, 8, 5, 6, 179), none, none, some (.aload_n 0, 1, 0, 0, 0, 0), some (.getfield 21, 3, 8, 1, 6, 171), none, none, some (.invokevirtual 194, 3, 17, 1, 0, 234), none, none, some (.istore_n 1, 1, 0, 0, 0, 0), some (.iload_n 1, 1, 0, 0, 0, 0), some (.ifCond .gt 5, 3, 0, 0, 0, 0), none, none, some (.iconst 0, 1, 0, 0, 0, 0), some (.ireturn, 1, 0, 0, 0, 0), some (.aload_n 0, 1, 0, 0, 0, 0), some (.getfield 54, 3, 8, 6, 6, 183), none, none, some (.bipush 13, 2, 0, 0, 0, 0), none, some (.aload_n 0, 1, 0, 0, 0, 0), some (.getfield 47, 3, 8, 5, 6, 179), none, none, some (.getfield 197, 3, 1, 16, 0, 235), none, none, some (.iconst 2, 1, 0, 0, 0, 0), some (.idiv, 1, 0, 0, 0, 0), some (.aload_n 0, 1, 0, 0, 0, 0), some (.getfield 47, 3, 8, 5, 6, 179), none, none, some (.getfield 200, 3, 1, 15, 6, 236), none, none, some (.iconst 0, 1, 0, 0, 0, 0), some (.iaload, 1, 0, 0, 0, 0), some (.aload_n 0, 1, 0, 0, 0, 0), some (.getfield 21, 3, 8, 1, 6, 171), none, none, some (.getfield 101, 3, 0, 4, 0, 231), none, none, some (.iload_n 1, 1, 0, 0, 0, 0), some (.invokevirtual 186, 3, 64, 5, 0, 232), none, none, some (.aload_n 0, 1, 0, 0, 0, 0), some (.getfield 54, 3, 8, 6, 6, 183), none, none, some (.aload_n 0, 1, 0, 0, 0, 0), some (.getfield 47, 3, 8, 5, 6, 179), none, none, some (.getfield 200, 3, 1, 15, 6, 236), none, none, some (.aload_n 0, 1, 0, 0, 0, 0), some (.getfield 47, 3, 8, 5, 6, 179), none, none, some (.getfield 197, 3, 1, 16, 0, 235), none, none, some (.invokevirtual 203, 3, 65, 2, 0, 237), none, none, some (.aload_n 0, 1, 0, 0, 0, 0), some (.getfield 31, 3, 8, 3, 6, 204), none, none, some (.aload_n 0, 1, 0, 0, 0, 0), some (.getfield 21, 3, 8, 1, 6, 171), none, none, some (.invokevirtual 190, 3, 24, 1, 0, 233), none, none, some (.iconst 1, 1, 0, 0, 0, 0), some (.ireturn, 1, 0, 0, 0, 0)]
def e_X8_takenAway : List (Option EN) := [some (.iload_n 1, 1, 0, 0, 0, 0), some (.ifCond .gt 5, 3, 0, 0, 0, 0), none, none, some (.iconst (-1), 1, 0, 0, 0, 0), some (.ireturn, 1, 0, 0, 0, 0), some (.aload_n 0, 1, 0, 0, 0, 0), some (.getfield 31, 3, 8, 3, 6, 204), none, none, some (.aload_n 0, 1, 0, 0, 0, 0), some (.getfield 25, 3, 8, 2, 6, 173), none, none, some (.invokevirtual 190, 3, 24, 1, 0, 233), none, none, some (.iload_n 1, 1, 0, 0, 0, 0), some (.ireturn, 1, 0, 0, 0, 0)]
def e_X8_told : List (Option EN) := [some (.iload_n 1, 1, 0, 0, 0, 0), some (.tableswitch 80 0 4 #[35, 43, 51, 59, 67], 35, 0, 0, 0, 0), none, none, none, none, none, none, none, none, none, none, none, none, none, none, none, none, none, none, none, none, none, none, none, none, none, none, none, none, none, none, none, none, none, none, some (.aload_n 0, 1, 0, 0, 0, 0), some (.getfield 54, 3, 8, 6, 6, 183), none, none, some (.getfield 91, 3, 7, 9, 0, 216), none, none, some (.ireturn, 1, 0, 0, 0, 0), some (.aload_n 0, 1, 0, 0, 0, 0), some (.getfield 54, 3, 8, 6, 6, 183), none, none, some (.getfield 95, 3, 7, 10, 0, 238), none, none, some (.ireturn, 1, 0, 0, 0, 0), some (.aload_n 0, 1, 0, 0, 0, 0), some (.getfield 54, 3, 8, 6, 6, 183), none, none, some (.getfield 98, 3, 7, 11, 0, 239), none, none, some (.ireturn, 1, 0, 0, 0, 0), some (.aload_n 0, 1, 0, 0, 0, 0), some (.getfield 21, 3, 8, 1, 6, 171), none, none, some (.getfield 101, 3, 0, 4, 0, 231), none, none, some (.ireturn, 1, 0, 0, 0, 0), some (.aload_n 0, 1, 0, 0, 0, 0), some (.getfield 76, 3, 8, 10, 1, 195), none, none, some (.ifCond .eq 7, 3, 0, 0, 0, 0), none, none, some (.iconst 1, 1, 0, 0, 0, 0), some (.goto 4, 3, 0, 0, 0, 0), none, none, some (.iconst 0, 1, 0, 0, 0, 0), some (.ireturn, 1, 0, 0, 0, 0), some (.iconst (-1), 1, 0, 0, 0, 0), some (.ireturn, 1, 0, 0, 0, 0)]
def e_X9_add : List (Option EN) := [some (.aload_n 0, 1, 0, 0, 0, 0), some (.iload_n 1, 1, 0, 0, 0, 0), some (.iload_n 2, 1, 0, 0, 0, 0), some (.bipush 64, 2, 0, 0, 0, 0), none, some (.idiv, 1, 0, 0, 0, 0), some (.iadd, 1, 0, 0, 0, 0), some (.dup2, 1, 0, 0, 0, 0), some (.laload, 1, 0, 0, 0, 0), some (.lconst 1, 1, 0, 0, 0, 0), some (.iload_n 2, 1, 0, 0, 0, 0), some (.bipush 64, 2, 0, 0, 0, 0), none, some (.irem, 1, 0, 0, 0, 0), some (.lshl, 1, 0, 0, 0, 0), some (.lor, 1, 0, 0, 0, 0), some (.lastore, 1, 0, 0, 0, 0), some (.return_, 1, 0, 0, 0, 0)]
def e_X9_arePeers : List (Option EN) := [some (.iload_n 0, 1, 0, 0, 0, 0), some (.iload_n 1, 1, 0, 0, 0, 0), some (.if_icmp .eq 46, 3, 0, 0, 0, 0), none, none, some (.iload_n 0, 1, 0, 0, 0, 0), some (.iconst 0, 1, 0, 0, 0, 0), some (.invokestatic 95, 3, 113, 2, 0, 240), none, none, some (.iload_n 1, 1, 0, 0, 0, 0), some (.iconst 0, 1, 0, 0, 0, 0), some (.invokestatic 95, 3, 113, 2, 0, 240), none, none, some (.if_icmp .eq 29, 3, 0, 0, 0, 0), none, none, some (.iload_n 0, 1, 0, 0, 0, 0), some (.iconst 1, 1, 0, 0, 0, 0), some (.invokestatic 95, 3, 113, 2, 0, 240), none, none, some (.iload_n 1, 1, 0, 0, 0, 0), some (.iconst 1, 1, 0, 0, 0, 0), some (.invokestatic 95, 3, 113, 2, 0, 240), none, none, some (.if_icmp .eq 16, 3, 0, 0, 0, 0), none, none, some (.iload_n 0, 1, 0, 0, 0, 0), some (.iconst 2, 1, 0, 0, 0, 0), some (.invokestatic 95, 3, 113, 2, 0, 240), none, none, some (.iload_n 1, 1, 0, 0, 0, 0), some (.iconst 2, 1, 0, 0, 0, 0), some (.invokestatic 95, 3, 113, 2, 0, 240), none, none, some (.if_icmp .ne 7, 3, 0, 0, 0, 0), none, none, some (.iconst 1, 1, 0, 0, 0, 0), some (.goto 4, 3, 0, 0, 0, 0), none, none, some (.iconst 0, 1, 0, 0, 0, 0), some (.ireturn, 1, 0, 0, 0, 0)]
def e_X9_begin : List (Option EN) := [some (.iconst 0, 1, 0, 0, 0, 0), some (.istore_n 1, 1, 0, 0, 0, 0), some (.iload_n 1, 1, 0, 0, 0, 0), some (.bipush 81, 2, 0, 0, 0, 0), none, some (.if_icmp .ge 64, 3, 0, 0, 0, 0), none, none, some (.aload_n 0, 1, 0, 0, 0, 0), some (.getfield 13, 3, 9, 1, 6, 241), none, none, some (.iload_n 1, 1, 0, 0, 0, 0), some (.aload_n 0, 1, 0, 0, 0, 0), some (.getfield 7, 3, 9, 0, 6, 242), none, none, some (.iload_n 1, 1, 0, 0, 0, 0), some (.iaload, 1, 0, 0, 0, 0), some (.ifCond .ne 9, 3, 0, 0, 0, 0), none, none, some (.sipush 511, 3, 0, 0, 0, 0), none, none, some (.goto 13, 3, 0, 0, 0, 0), none, none, some (.iconst 1, 1, 0, 0, 0, 0), some (.aload_n 0, 1, 0, 0, 0, 0), some (.getfield 7, 3, 9, 0, 6, 242), none, none, some (.iload_n 1, 1, 0, 0, 0, 0), some (.iaload, 1, 0, 0, 0, 0), some (.iconst 1, 1, 0, 0, 0, 0), some (.isub, 1, 0, 0, 0, 0), some (.ishl, 1, 0, 0, 0, 0), some (.iastore, 1, 0, 0, 0, 0), some (.aload_n 0, 1, 0, 0, 0, 0), some (.getfield 16, 3, 9, 2, 6, 243), none, none, some (.iload_n 1, 1, 0, 0, 0, 0), some (.aload_n 0, 1, 0, 0, 0, 0), some (.getfield 13, 3, 9, 1, 6, 241), none, none, some (.iload_n 1, 1, 0, 0, 0, 0), some (.iaload, 1, 0, 0, 0, 0), some (.iastore, 1, 0, 0, 0, 0), some (.aload_n 0, 1, 0, 0, 0, 0), some (.getfield 19, 3, 9, 3, 6, 244), none, none, some (.iload_n 1, 1, 0, 0, 0, 0), some (.aload_n 0, 1, 0, 0, 0, 0), some (.getfield 13, 3, 9, 1, 6, 241), none, none, some (.iload_n 1, 1, 0, 0, 0, 0), some (.iaload, 1, 0, 0, 0, 0), some (.iastore, 1, 0, 0, 0, 0), some (.iinc 1 1, 3, 0, 0, 0, 0), none, none, some (.goto (-64), 3, 0, 0, 0, 0), none, none, some (.aload_n 0, 1, 0, 0, 0, 0), some (.iconst 0, 1, 0, 0, 0, 0), some (.putfield 99, 3, 9, 22, 0, 245), none, none, some (.aload_n 0, 1, 0, 0, 0, 0), some (.iconst 0, 1, 0, 0, 0, 0), some (.putfield 103, 3, 9, 23, 0, 246), none, none, some (.aload_n 0, 1, 0, 0, 0, 0), some (.iconst 0, 1, 0, 0, 0, 0), some (.putfield 106, 3, 9, 24, 0, 247), none, none, some (.aload_n 0, 1, 0, 0, 0, 0), some (.iconst (-1), 1, 0, 0, 0, 0), some (.putfield 109, 3, 9, 25, 0, 248), none, none, some (.aload_n 0, 1, 0, 0, 0, 0), some (.iconst 0, 1, 0, 0, 0, 0), some (.putfield 112, 3, 9, 26, 1, 249), none, none, some (.aload_n 0, 1, 0, 0, 0, 0), some (.iconst 0, 1, 0, 0, 0, 0), some (.putfield 116, 3, 9, 31, 0, 250), none, none, some (.aload_n 0, 1, 0, 0, 0, 0), some (.iconst 0, 1, 0, 0, 0, 0), some (.putfield 119, 3, 9, 37, 0, 251), none, none, some (.aload_n 0, 1, 0, 0, 0, 0), some (.iconst 0, 1, 0, 0, 0, 0), some (.putfield 122, 3, 9, 38, 0, 252), none, none, some (.aload_n 0, 1, 0, 0, 0, 0), some (.iconst 0, 1, 0, 0, 0, 0), some (.putfield 125, 3, 9, 40, 1, 253), none, none, some (.aload_n 0, 1, 0, 0, 0, 0), some (.iconst 0, 1, 0, 0, 0, 0), some (.putfield 128, 3, 9, 41, 1, 254), none, none, some (.aload_n 0, 1, 0, 0, 0, 0), some (.iconst 0, 1, 0, 0, 0, 0), some (.putfield 131, 3, 9, 39, 0, 255), none, none, some (.return_, 1, 0, 0, 0, 0)]
def e_X9_bits : List (Option EN) := [some (.iconst 0, 1, 0, 0, 0, 0), some (.istore_n 1, 1, 0, 0, 0, 0), some (.iload_n 0, 1, 0, 0, 0, 0), some (.istore_n 2, 1, 0, 0, 0, 0), some (.iload_n 2, 1, 0, 0, 0, 0), some (.ifCond .eq 15, 3, 0, 0, 0, 0), none, none, some (.iinc 1 1, 3, 0, 0, 0, 0), none, none, some (.iload_n 2, 1, 0, 0, 0, 0), some (.iload_n 2, 1, 0, 0, 0, 0), some (.iconst 1, 1, 0, 0, 0, 0), some (.isub, 1, 0, 0, 0, 0), some (.iand, 1, 0, 0, 0, 0), some (.istore_n 2, 1, 0, 0, 0, 0), some (.goto (-13), 3, 0, 0, 0, 0), none, none, some (.iload_n 1, 1, 0, 0, 0, 0), some (.ireturn, 1, 0, 0, 0, 0)]
def e_X9_byRow : List (Option EN) := [some (.aload_n 0, 1, 0, 0, 0, 0), some (.invokevirtual 143, 3, 99, 0, 0, 256), none, none, some (.iload 4, 2, 0, 0, 0, 0), none, some (.iconst 2, 1, 0, 0, 0, 0), some (.if_icmp .lt 11, 3, 0, 0, 0, 0), none, none, some (.iload 4, 2, 0, 0, 0, 0), none, some (.iconst 2, 1, 0, 0, 0, 0), some (.irem, 1, 0, 0, 0, 0), some (.iconst 1, 1, 0, 0, 0, 0), some (.if_icmp .ne 5, 3, 0, 0, 0, 0), none, none, some (.iconst 0, 1, 0, 0, 0, 0), some (.ireturn, 1, 0, 0, 0, 0), some (.iconst 1, 1, 0, 0, 0, 0), some (.istore 5, 2, 0, 0, 0, 0), none, some (.iload 5, 2, 0, 0, 0, 0), none, some (.iload 4, 2, 0, 0, 0, 0), none, some (.if_icmp .ge 62, 3, 0, 0, 0, 0), none, none, some (.aload_n 2, 1, 0, 0, 0, 0), some (.iload_n 3, 1, 0, 0, 0, 0), some (.iload 5, 2, 0, 0, 0, 0), none, some (.iadd, 1, 0, 0, 0, 0), some (.iconst 1, 1, 0, 0, 0, 0), some (.isub, 1, 0, 0, 0, 0), some (.iaload, 1, 0, 0, 0, 0), some (.istore 6, 2, 0, 0, 0, 0), none, some (.aload_n 2, 1, 0, 0, 0, 0), some (.iload_n 3, 1, 0, 0, 0, 0), some (.iload 5, 2, 0, 0, 0, 0), none, some (.iadd, 1, 0, 0, 0, 0), some (.iaload, 1, 0, 0, 0, 0), some (.istore 7, 2, 0, 0, 0, 0), none, some (.iload 5, 2, 0, 0, 0, 0), none, some (.iconst 2, 1, 0, 0, 0, 0), some (.irem, 1, 0, 0, 0, 0), some (.iconst 1, 1, 0, 0, 0, 0), some (.if_icmp .ne 17, 3, 0, 0, 0, 0), none, none, some (.aload_n 1, 1, 0, 0, 0, 0), some (.iload 6, 2, 0, 0, 0, 0), none, some (.iload 7, 2, 0, 0, 0, 0), none, some (.invokestatic 207, 3, 120, 3, 0, 257), none, none, some (.ifCond .ne 19, 3, 0, 0, 0, 0), none, none, some (.goto 14, 3, 0, 0, 0, 0), none, none, some (.aload_n 1, 1, 0, 0, 0, 0), some (.iload 6, 2, 0, 0, 0, 0), none, some (.iload 7, 2, 0, 0, 0, 0), none, some (.invokestatic 193, 3, 122, 3, 0, 258), none, none, some (.ifCond .ne 5, 3, 0, 0, 0, 0), none, none, some (.iconst 0, 1, 0, 0, 0, 0), some (.ireturn, 1, 0, 0, 0, 0), some (.iinc 5 1, 3, 0, 0, 0, 0), none, none, some (.goto (-63), 3, 0, 0, 0, 0), none, none, some (.iconst 0, 1, 0, 0, 0, 0), some (.istore 5, 2, 0, 0, 0, 0), none, some (.iload 5, 2, 0, 0, 0, 0), none, some (.sipush 729, 3, 0, 0, 0, 0), none, none, some (.if_icmp .ge 58, 3, 0, 0, 0, 0), none, none, some (.aload_n 1, 1, 0, 0, 0, 0), some (.iload 5, 2, 0, 0, 0, 0), none, some (.aload_n 2, 1, 0, 0, 0, 0), some (.iload_n 3, 1, 0, 0, 0, 0), some (.iaload, 1, 0, 0, 0, 0), some (.invokestatic 193, 3, 122, 3, 0, 258), none, none, some (.ifCond .eq 40, 3, 0, 0, 0, 0), none, none, some (.aload_n 1, 1, 0, 0, 0, 0), some (.iload 5, 2, 0, 0, 0, 0), none, some (.aload_n 2, 1, 0, 0, 0, 0), some (.iload_n 3, 1, 0, 0, 0, 0), some (.iload 4, 2, 0, 0, 0, 0), none, some (.iadd, 1, 0, 0, 0, 0), some (.iconst 1, 1, 0, 0, 0, 0), some (.isub, 1, 0, 0, 0, 0), some (.iaload, 1, 0, 0, 0, 0), some (.invokestatic 193, 3, 122, 3, 0, 258), none, none, some (.ifCond .eq 23, 3, 0, 0, 0, 0), none, none, some (.aload_n 0, 1, 0, 0, 0, 0), some (.getfield 22, 3, 9, 4, 6, 259), none, none, some (.iload 5, 2, 0, 0, 0, 0), none, some (.bipush 9, 2, 0, 0, 0, 0), none, some (.idiv, 1, 0, 0, 0, 0), some (.dup2, 1, 0, 0, 0, 0), some (.iaload, 1, 0, 0, 0, 0), some (.iconst 1, 1, 0, 0, 0, 0), some (.iload 5, 2, 0, 0, 0, 0), none, some (.bipush 9, 2, 0, 0, 0, 0), none, some (.irem, 1, 0, 0, 0, 0), some (.ishl, 1, 0, 0, 0, 0), some (.ior, 1, 0, 0, 0, 0), some (.iastore, 1, 0, 0, 0, 0), some (.iinc 5 1, 3, 0, 0, 0, 0), none, none, some (.goto (-60), 3, 0, 0, 0, 0), none, none, some (.aload_n 0, 1, 0, 0, 0, 0), some (.aload_n 1, 1, 0, 0, 0, 0), some (.invokevirtual 172, 3, 143, 1, 0, 260), none, none, some (.ireturn, 1, 0, 0, 0, 0)]
def e_X9_candidates : List (Option EN) := [some (.iload_n 1, 1, 0, 0, 0, 0), some (.iconst 0, 1, 0, 0, 0, 0), some (.bipush 80, 2, 0, 0, 0, 0), none, some (.invokestatic 134, 3, 115, 3, 0, 261), none, none, some (.ifCond .eq 12, 3, 0, 0, 0, 0), none, none, some (.iload_n 2, 1, 0, 0, 0, 0), some (.iconst 0, 1, 0, 0, 0, 0), some (.iconst 2, 1, 0, 0, 0, 0), some (.invokestatic 134, 3, 115, 3, 0, 261), none, none, some (.ifCond .ne 7, 3, 0, 0, 0, 0), none, none, some (.iconst (-1), 1, 0, 0, 0, 0), some (.goto 36, 3, 0, 0, 0, 0), none, none, some (.iload_n 2, 1, 0, 0, 0, 0), some (.ifCond .ne 12, 3, 0, 0, 0, 0), none, none, some (.aload_n 0, 1, 0, 0, 0, 0), some (.getfield 16, 3, 9, 2, 6, 243), none, none, some (.iload_n 1, 1, 0, 0, 0, 0), some (.iaload, 1, 0, 0, 0, 0), some (.goto 23, 3, 0, 0, 0, 0), none, none, some (.iload_n 2, 1, 0, 0, 0, 0), some (.iconst 1, 1, 0, 0, 0, 0), some (.if_icmp .ne 12, 3, 0, 0, 0, 0), none, none, some (.aload_n 0, 1, 0, 0, 0, 0), some (.getfield 19, 3, 9, 3, 6, 244), none, none, some (.iload_n 1, 1, 0, 0, 0, 0), some (.iaload, 1, 0, 0, 0, 0), some (.goto 9, 3, 0, 0, 0, 0), none, none, some (.aload_n 0, 1, 0, 0, 0, 0), some (.getfield 13, 3, 9, 1, 6, 241), none, none, some (.iload_n 1, 1, 0, 0, 0, 0), some (.iaload, 1, 0, 0, 0, 0), some (.ireturn, 1, 0, 0, 0, 0)]
def e_X9_cellOf : List (Option EN) := [some (.iload_n 0, 1, 0, 0, 0, 0), some (.bipush 9, 2, 0, 0, 0, 0), none, some (.if_icmp .ge 10, 3, 0, 0, 0, 0), none, none, some (.bipush 9, 2, 0, 0, 0, 0), none, some (.iload_n 0, 1, 0, 0, 0, 0), some (.imul, 1, 0, 0, 0, 0), some (.iload_n 1, 1, 0, 0, 0, 0), some (.iadd, 1, 0, 0, 0, 0), some (.ireturn, 1, 0, 0, 0, 0), some (.iload_n 0, 1, 0, 0, 0, 0), some (.bipush 18, 2, 0, 0, 0, 0), none, some (.if_icmp .ge 13, 3, 0, 0, 0, 0), none, none, some (.bipush 9, 2, 0, 0, 0, 0), none, some (.iload_n 1, 1, 0, 0, 0, 0), some (.imul, 1, 0, 0, 0, 0), some (.iload_n 0, 1, 0, 0, 0, 0), some (.iadd, 1, 0, 0, 0, 0), some (.bipush 9, 2, 0, 0, 0, 0), none, some (.isub, 1, 0, 0, 0, 0), some (.ireturn, 1, 0, 0, 0, 0), some (.iload_n 0, 1, 0, 0, 0, 0), some (.bipush 18, 2, 0, 0, 0, 0), none, some (.isub, 1, 0, 0, 0, 0), some (.istore_n 2, 1, 0, 0, 0, 0), some (.bipush 9, 2, 0, 0, 0, 0), none, some (.iconst 3, 1, 0, 0, 0, 0), some (.iload_n 2, 1, 0, 0, 0, 0), some (.iconst 3, 1, 0, 0, 0, 0), some (.idiv, 1, 0, 0, 0, 0), some (.imul, 1, 0, 0, 0, 0), some (.iload_n 1, 1, 0, 0, 0, 0), some (.iconst 3, 1, 0, 0, 0, 0), some (.idiv, 1, 0, 0, 0, 0), some (.iadd, 1, 0, 0, 0, 0), some (.imul, 1, 0, 0, 0, 0), some (.iconst 3, 1, 0, 0, 0, 0), some (.iload_n 2, 1, 0, 0, 0, 0), some (.iconst 3, 1, 0, 0, 0, 0), some (.irem, 1, 0, 0, 0, 0), some (.imul, 1, 0, 0, 0, 0), some (.iadd, 1, 0, 0, 0, 0), some (.iload_n 1, 1, 0, 0, 0, 0), some (.iconst 3, 1, 0, 0, 0, 0), some (.irem, 1, 0, 0, 0, 0), some (.iadd, 1, 0, 0, 0, 0), some (.ireturn, 1, 0, 0, 0, 0)]
def e_X9_chain : List (Option EN) := [some (.aload_n 0, 1, 0, 0, 0, 0), some (.aload_n 1, 1, 0, 0, 0, 0), some (.invokevirtual 214, 3, 126, 1, 0, 262), none, none, some (.iconst 0, 1, 0, 0, 0, 0), some (.istore_n 2, 1, 0, 0, 0, 0), some (.iload_n 2, 1, 0, 0, 0, 0), some (.aload_n 0, 1, 0, 0, 0, 0), some (.getfield 196, 3, 9, 8, 0, 263), none, none, some (.if_icmp .ge 98, 3, 0, 0, 0, 0), none, none, some (.bipush 12, 2, 0, 0, 0, 0), none, some (.aload_n 0, 1, 0, 0, 0, 0), some (.getfield 32, 3, 9, 7, 6, 264), none, none, some (.iload_n 2, 1, 0, 0, 0, 0), some (.iaload, 1, 0, 0, 0, 0), some (.imul, 1, 0, 0, 0, 0), some (.istore_n 3, 1, 0, 0, 0, 0), some (.iconst 0, 1, 0, 0, 0, 0), some (.istore 4, 2, 0, 0, 0, 0), none, some (.iload 4, 2, 0, 0, 0, 0), none, some (.bipush 12, 2, 0, 0, 0, 0), none, some (.if_icmp .ge 19, 3, 0, 0, 0, 0), none, none, some (.aload_n 0, 1, 0, 0, 0, 0), some (.getfield 35, 3, 9, 9, 6, 265), none, none, some (.iload_n 3, 1, 0, 0, 0, 0), some (.iload 4, 2, 0, 0, 0, 0), none, some (.iadd, 1, 0, 0, 0, 0), some (.lconst 0, 1, 0, 0, 0, 0), some (.lastore, 1, 0, 0, 0, 0), some (.iinc 4 1, 3, 0, 0, 0, 0), none, none, some (.goto (-20), 3, 0, 0, 0, 0), none, none, some (.iconst 0, 1, 0, 0, 0, 0), some (.istore 4, 2, 0, 0, 0, 0), none, some (.iload 4, 2, 0, 0, 0, 0), none, some (.aload_n 0, 1, 0, 0, 0, 0), some (.getfield 196, 3, 9, 8, 0, 263), none, none, some (.if_icmp .ge 44, 3, 0, 0, 0, 0), none, none, some (.aload_n 0, 1, 0, 0, 0, 0), some (.aload_n 0, 1, 0, 0, 0, 0), some (.getfield 32, 3, 9, 7, 6, 264), none, none, some (.iload_n 2, 1, 0, 0, 0, 0), some (.iaload, 1, 0, 0, 0, 0), some (.aload_n 0, 1, 0, 0, 0, 0), some (.getfield 32, 3, 9, 7, 6, 264), none, none, some (.iload 4, 2, 0, 0, 0, 0), none, some (.iaload, 1, 0, 0, 0, 0), some (.invokevirtual 217, 3, 107, 2, 0, 266), none, none, some (.ifCond .eq 18, 3, 0, 0, 0, 0), none, none, some (.aload_n 0, 1, 0, 0, 0, 0), some (.getfield 35, 3, 9, 9, 6, 265), none, none, some (.iload_n 3, 1, 0, 0, 0, 0), some (.aload_n 0, 1, 0, 0, 0, 0), some (.getfield 32, 3, 9, 7, 6, 264), none, none, some (.iload 4, 2, 0, 0, 0, 0), none, some (.iaload, 1, 0, 0, 0, 0), some (.invokestatic 203, 3, 89, 3, 0, 267), none, none, some (.iinc 4 1, 3, 0, 0, 0, 0), none, none, some (.goto (-47), 3, 0, 0, 0, 0), none, none, some (.iinc 2 1, 3, 0, 0, 0, 0), none, none, some (.goto (-100), 3, 0, 0, 0, 0), none, none, some (.iconst 1, 1, 0, 0, 0, 0), some (.istore_n 2, 1, 0, 0, 0, 0), some (.iload_n 2, 1, 0, 0, 0, 0), some (.bipush 12, 2, 0, 0, 0, 0), none, some (.if_icmp .gt 141, 3, 0, 0, 0, 0), none, none, some (.iconst (-1), 1, 0, 0, 0, 0), some (.istore_n 3, 1, 0, 0, 0, 0), some (.iconst 0, 1, 0, 0, 0, 0), some (.istore 4, 2, 0, 0, 0, 0), none, some (.iload 4, 2, 0, 0, 0, 0), none, some (.aload_n 0, 1, 0, 0, 0, 0), some (.getfield 196, 3, 9, 8, 0, 263), none, none, some (.if_icmp .ge 109, 3, 0, 0, 0, 0), none, none, some (.bipush 12, 2, 0, 0, 0, 0), none, some (.aload_n 0, 1, 0, 0, 0, 0), some (.getfield 32, 3, 9, 7, 6, 264), none, none, some (.iload 4, 2, 0, 0, 0, 0), none, some (.iaload, 1, 0, 0, 0, 0), some (.imul, 1, 0, 0, 0, 0), some (.istore 5, 2, 0, 0, 0, 0), none, some (.iload_n 2, 1, 0, 0, 0, 0), some (.iconst 1, 1, 0, 0, 0, 0), some (.if_icmp .le 23, 3, 0, 0, 0, 0), none, none, some (.aload_n 0, 1, 0, 0, 0, 0), some (.aload_n 0, 1, 0, 0, 0, 0), some (.getfield 38, 3, 9, 10, 6, 268), none, none, some (.iload 5, 2, 0, 0, 0, 0), none, some (.aload_n 0, 1, 0, 0, 0, 0), some (.getfield 25, 3, 9, 5, 6, 269), none, none, some (.aload_n 0, 1, 0, 0, 0, 0), some (.getfield 38, 3, 9, 10, 6, 268), none, none, some (.iload 5, 2, 0, 0, 0, 0), none, some (.invokevirtual 220, 3, 114, 5, 0, 270), none, none, some (.aload_n 0, 1, 0, 0, 0, 0), some (.iload_n 2, 1, 0, 0, 0, 0), some (.iconst 1, 1, 0, 0, 0, 0), some (.if_icmp .le 10, 3, 0, 0, 0, 0), none, none, some (.aload_n 0, 1, 0, 0, 0, 0), some (.getfield 38, 3, 9, 10, 6, 268), none, none, some (.goto 7, 3, 0, 0, 0, 0), none, none, some (.aload_n 0, 1, 0, 0, 0, 0), some (.getfield 35, 3, 9, 9, 6, 265), none, none, some (.iload 5, 2, 0, 0, 0, 0), none, some (.aload_n 0, 1, 0, 0, 0, 0), some (.getfield 29, 3, 9, 6, 6, 271), none, none, some (.aload_n 0, 1, 0, 0, 0, 0), some (.getfield 38, 3, 9, 10, 6, 268), none, none, some (.iload 5, 2, 0, 0, 0, 0), none, some (.invokevirtual 220, 3, 114, 5, 0, 270), none, none, some (.iload_n 3, 1, 0, 0, 0, 0), some (.ifCond .ge 30, 3, 0, 0, 0, 0), none, none, some (.aload_n 0, 1, 0, 0, 0, 0), some (.getfield 38, 3, 9, 10, 6, 268), none, none, some (.iload 5, 2, 0, 0, 0, 0), none, some (.aload_n 0, 1, 0, 0, 0, 0), some (.getfield 32, 3, 9, 7, 6, 264), none, none, some (.iload 4, 2, 0, 0, 0, 0), none, some (.iaload, 1, 0, 0, 0, 0), some (.invokestatic 210, 3, 110, 3, 0, 272), none, none, some (.ifCond .eq 11, 3, 0, 0, 0, 0), none, none, some (.aload_n 0, 1, 0, 0, 0, 0), some (.getfield 32, 3, 9, 7, 6, 264), none, none, some (.iload 4, 2, 0, 0, 0, 0), none, some (.iaload, 1, 0, 0, 0, 0), some (.istore_n 3, 1, 0, 0, 0, 0), some (.iinc 4 1, 3, 0, 0, 0, 0), none, none, some (.goto (-112), 3, 0, 0, 0, 0), none, none, some (.iload_n 3, 1, 0, 0, 0, 0), some (.ifCond .lt 11, 3, 0, 0, 0, 0), none, none, some (.aload_n 0, 1, 0, 0, 0, 0), some (.iload_n 2, 1, 0, 0, 0, 0), some (.iload_n 3, 1, 0, 0, 0, 0), some (.invokevirtual 224, 3, 134, 2, 0, 273), none, none, some (.iload_n 2, 1, 0, 0, 0, 0), some (.ireturn, 1, 0, 0, 0, 0), some (.iinc 2 1, 3, 0, 0, 0, 0), none, none, some (.goto (-141), 3, 0, 0, 0, 0), none, none, some (.iconst 0, 1, 0, 0, 0, 0), some (.ireturn, 1, 0, 0, 0, 0)]
def e_X9_claim : List (Option EN) := [some (.iload_n 1, 1, 0, 0, 0, 0), some (.bipush 13, 2, 0, 0, 0, 0), none, some (.if_icmp .ne 30, 3, 0, 0, 0, 0), none, none, some (.aload_n 0, 1, 0, 0, 0, 0), some (.aload_n 0, 1, 0, 0, 0, 0), some (.getfield 19, 3, 9, 3, 6, 244), none, none, some (.aload_n 0, 1, 0, 0, 0, 0), some (.getfield 74, 3, 9, 30, 6, 274), none, none, some (.iconst 0, 1, 0, 0, 0, 0), some (.aload_n 0, 1, 0, 0, 0, 0), some (.getfield 116, 3, 9, 31, 0, 250), none, none, some (.invokevirtual 256, 3, 93, 4, 0, 275), none, none, some (.istore 4, 2, 0, 0, 0, 0), none, some (.aload_n 0, 1, 0, 0, 0, 0), some (.iconst 0, 1, 0, 0, 0, 0), some (.putfield 116, 3, 9, 31, 0, 250), none, none, some (.goto 16, 3, 0, 0, 0, 0), none, none, some (.aload_n 0, 1, 0, 0, 0, 0), some (.aload_n 0, 1, 0, 0, 0, 0), some (.getfield 19, 3, 9, 3, 6, 244), none, none, some (.iload_n 1, 1, 0, 0, 0, 0), some (.iload_n 2, 1, 0, 0, 0, 0), some (.iload_n 3, 1, 0, 0, 0, 0), some (.invokevirtual 234, 3, 117, 4, 0, 276), none, none, some (.istore 4, 2, 0, 0, 0, 0), none, some (.iload 4, 2, 0, 0, 0, 0), none, some (.ifCond .ne 5, 3, 0, 0, 0, 0), none, none, some (.iconst (-1), 1, 0, 0, 0, 0), some (.ireturn, 1, 0, 0, 0, 0), some (.aload_n 0, 1, 0, 0, 0, 0), some (.aload_n 0, 1, 0, 0, 0, 0), some (.getfield 19, 3, 9, 3, 6, 244), none, none, some (.invokevirtual 260, 3, 106, 1, 0, 277), none, none, some (.iload 4, 2, 0, 0, 0, 0), none, some (.ireturn, 1, 0, 0, 0, 0)]
def e_X9_claiming : List (Option EN) := [some (.iload_n 2, 1, 0, 0, 0, 0), some (.iconst 0, 1, 0, 0, 0, 0), some (.bipush 17, 2, 0, 0, 0, 0), none, some (.invokestatic 134, 3, 115, 3, 0, 261), none, none, some (.ifCond .eq 13, 3, 0, 0, 0, 0), none, none, some (.iload_n 3, 1, 0, 0, 0, 0), some (.iconst 1, 1, 0, 0, 0, 0), some (.bipush 9, 2, 0, 0, 0, 0), none, some (.invokestatic 134, 3, 115, 3, 0, 261), none, none, some (.ifCond .ne 5, 3, 0, 0, 0, 0), none, none, some (.iconst 0, 1, 0, 0, 0, 0), some (.ireturn, 1, 0, 0, 0, 0), some (.aload_n 1, 1, 0, 0, 0, 0), some (.iload_n 2, 1, 0, 0, 0, 0), some (.iload_n 3, 1, 0, 0, 0, 0), some (.invokestatic 182, 3, 130, 3, 0, 278), none, none, some (.istore 4, 2, 0, 0, 0, 0), none, some (.iconst (-1), 1, 0, 0, 0, 0), some (.istore 5, 2, 0, 0, 0, 0), none, some (.iconst 0, 1, 0, 0, 0, 0), some (.istore 6, 2, 0, 0, 0, 0), none, some (.iload 6, 2, 0, 0, 0, 0), none, some (.iconst 3, 1, 0, 0, 0, 0), some (.if_icmp .ge 33, 3, 0, 0, 0, 0), none, none, some (.iload 4, 2, 0, 0, 0, 0), none, some (.ifCond .eq 22, 3, 0, 0, 0, 0), none, none, some (.iload 4, 2, 0, 0, 0, 0), none, some (.bipush 7, 2, 0, 0, 0, 0), none, some (.iconst 3, 1, 0, 0, 0, 0), some (.iload 6, 2, 0, 0, 0, 0), none, some (.imul, 1, 0, 0, 0, 0), some (.ishl, 1, 0, 0, 0, 0), some (.iconst (-1), 1, 0, 0, 0, 0), some (.ixor, 1, 0, 0, 0, 0), some (.iand, 1, 0, 0, 0, 0), some (.ifCond .ne 7, 3, 0, 0, 0, 0), none, none, some (.iload 6, 2, 0, 0, 0, 0), none, some (.istore 5, 2, 0, 0, 0, 0), none, some (.iinc 6 1, 3, 0, 0, 0, 0), none, none, some (.goto (-33), 3, 0, 0, 0, 0), none, none, some (.iload 5, 2, 0, 0, 0, 0), none, some (.ifCond .ge 5, 3, 0, 0, 0, 0), none, none, some (.iconst 0, 1, 0, 0, 0, 0), some (.ireturn, 1, 0, 0, 0, 0), some (.iload_n 2, 1, 0, 0, 0, 0), some (.iconst 3, 1, 0, 0, 0, 0), some (.iload 5, 2, 0, 0, 0, 0), none, some (.imul, 1, 0, 0, 0, 0), some (.invokestatic 179, 3, 95, 2, 0, 279), none, none, some (.iconst 2, 1, 0, 0, 0, 0), some (.invokestatic 95, 3, 113, 2, 0, 240), none, none, some (.istore 6, 2, 0, 0, 0, 0), none, some (.iconst 0, 1, 0, 0, 0, 0), some (.istore 7, 2, 0, 0, 0, 0), none, some (.iload 7, 2, 0, 0, 0, 0), none, some (.bipush 9, 2, 0, 0, 0, 0), none, some (.if_icmp .ge 40, 3, 0, 0, 0, 0), none, none, some (.iload 6, 2, 0, 0, 0, 0), none, some (.iload 7, 2, 0, 0, 0, 0), none, some (.invokestatic 179, 3, 95, 2, 0, 279), none, none, some (.iload_n 2, 1, 0, 0, 0, 0), some (.invokestatic 186, 3, 119, 2, 0, 280), none, none, some (.ifCond .ne 20, 3, 0, 0, 0, 0), none, none, some (.aload_n 0, 1, 0, 0, 0, 0), some (.getfield 22, 3, 9, 4, 6, 259), none, none, some (.iload 6, 2, 0, 0, 0, 0), none, some (.iload 7, 2, 0, 0, 0, 0), none, some (.invokestatic 179, 3, 95, 2, 0, 279), none, none, some (.iconst 1, 1, 0, 0, 0, 0), some (.iload_n 3, 1, 0, 0, 0, 0), some (.iconst 1, 1, 0, 0, 0, 0), some (.isub, 1, 0, 0, 0, 0), some (.ishl, 1, 0, 0, 0, 0), some (.iastore, 1, 0, 0, 0, 0), some (.iinc 7 1, 3, 0, 0, 0, 0), none, none, some (.goto (-41), 3, 0, 0, 0, 0), none, none, some (.iconst 1, 1, 0, 0, 0, 0), some (.ireturn, 1, 0, 0, 0, 0)]
def e_X9_clear : List (Option EN) := [some (.iconst 0, 1, 0, 0, 0, 0), some (.istore_n 1, 1, 0, 0, 0, 0), some (.iload_n 1, 1, 0, 0, 0, 0), some (.bipush 81, 2, 0, 0, 0, 0), none, some (.if_icmp .ge 16, 3, 0, 0, 0, 0), none, none, some (.aload_n 0, 1, 0, 0, 0, 0), some (.getfield 22, 3, 9, 4, 6, 259), none, none, some (.iload_n 1, 1, 0, 0, 0, 0), some (.iconst 0, 1, 0, 0, 0, 0), some (.iastore, 1, 0, 0, 0, 0), some (.iinc 1 1, 3, 0, 0, 0, 0), none, none, some (.goto (-16), 3, 0, 0, 0, 0), none, none, some (.return_, 1, 0, 0, 0, 0)]
def e_X9_closes : List (Option EN) := [some (.iconst 1, 1, 0, 0, 0, 0), some (.istore_n 1, 1, 0, 0, 0, 0), some (.iload_n 1, 1, 0, 0, 0, 0), some (.ifCond .eq 118, 3, 0, 0, 0, 0), none, none, some (.iconst 0, 1, 0, 0, 0, 0), some (.istore_n 1, 1, 0, 0, 0, 0), some (.iconst 0, 1, 0, 0, 0, 0), some (.istore_n 2, 1, 0, 0, 0, 0), some (.iload_n 2, 1, 0, 0, 0, 0), some (.bipush 81, 2, 0, 0, 0, 0), none, some (.if_icmp .ge 50, 3, 0, 0, 0, 0), none, none, some (.iconst 1, 1, 0, 0, 0, 0), some (.istore_n 3, 1, 0, 0, 0, 0), some (.iload_n 3, 1, 0, 0, 0, 0), some (.bipush 9, 2, 0, 0, 0, 0), none, some (.if_icmp .gt 36, 3, 0, 0, 0, 0), none, none, some (.aload_n 0, 1, 0, 0, 0, 0), some (.aload_n 0, 1, 0, 0, 0, 0), some (.getfield 86, 3, 9, 35, 6, 281), none, none, some (.iconst 0, 1, 0, 0, 0, 0), some (.iload_n 2, 1, 0, 0, 0, 0), some (.iload_n 3, 1, 0, 0, 0, 0), some (.invokevirtual 234, 3, 117, 4, 0, 276), none, none, some (.ifCond .ne 6, 3, 0, 0, 0, 0), none, none, some (.goto 13, 3, 0, 0, 0, 0), none, none, some (.aload_n 0, 1, 0, 0, 0, 0), some (.aload_n 0, 1, 0, 0, 0, 0), some (.getfield 86, 3, 9, 35, 6, 281), none, none, some (.invokevirtual 260, 3, 106, 1, 0, 277), none, none, some (.iconst 1, 1, 0, 0, 0, 0), some (.istore_n 1, 1, 0, 0, 0, 0), some (.iinc 3 1, 3, 0, 0, 0, 0), none, none, some (.goto (-36), 3, 0, 0, 0, 0), none, none, some (.iinc 2 1, 3, 0, 0, 0, 0), none, none, some (.goto (-50), 3, 0, 0, 0, 0), none, none, some (.iconst 0, 1, 0, 0, 0, 0), some (.istore_n 2, 1, 0, 0, 0, 0), some (.iload_n 2, 1, 0, 0, 0, 0), some (.bipush 27, 2, 0, 0, 0, 0), none, some (.if_icmp .ge 50, 3, 0, 0, 0, 0), none, none, some (.iconst 1, 1, 0, 0, 0, 0), some (.istore_n 3, 1, 0, 0, 0, 0), some (.iload_n 3, 1, 0, 0, 0, 0), some (.bipush 9, 2, 0, 0, 0, 0), none, some (.if_icmp .gt 36, 3, 0, 0, 0, 0), none, none, some (.aload_n 0, 1, 0, 0, 0, 0), some (.aload_n 0, 1, 0, 0, 0, 0), some (.getfield 86, 3, 9, 35, 6, 281), none, none, some (.iconst 1, 1, 0, 0, 0, 0), some (.iload_n 2, 1, 0, 0, 0, 0), some (.iload_n 3, 1, 0, 0, 0, 0), some (.invokevirtual 234, 3, 117, 4, 0, 276), none, none, some (.ifCond .ne 6, 3, 0, 0, 0, 0), none, none, some (.goto 13, 3, 0, 0, 0, 0), none, none, some (.aload_n 0, 1, 0, 0, 0, 0), some (.aload_n 0, 1, 0, 0, 0, 0), some (.getfield 86, 3, 9, 35, 6, 281), none, none, some (.invokevirtual 260, 3, 106, 1, 0, 277), none, none, some (.iconst 1, 1, 0, 0, 0, 0), some (.istore_n 1, 1, 0, 0, 0, 0), some (.iinc 3 1, 3, 0, 0, 0, 0), none, none, some (.goto (-36), 3, 0, 0, 0, 0), none, none, some (.iinc 2 1, 3, 0, 0, 0, 0), none, none, some (.goto (-50), 3, 0, 0, 0, 0), none, none, some (.goto (-116), 3, 0, 0, 0, 0), none, none, some (.return_, 1, 0, 0, 0, 0)]
def e_X9_findsOne : List (Option EN) := [some (.iload_n 2, 1, 0, 0, 0, 0), some (.iconst 2, 1, 0, 0, 0, 0), some (.if_icmp .ne 8, 3, 0, 0, 0, 0), none, none, some (.bipush 18, 2, 0, 0, 0, 0), none, some (.goto 4, 3, 0, 0, 0, 0), none, none, some (.iconst 0, 1, 0, 0, 0, 0), some (.istore_n 3, 1, 0, 0, 0, 0), some (.iload_n 2, 1, 0, 0, 0, 0), some (.ifCond .ne 8, 3, 0, 0, 0, 0), none, none, some (.bipush 80, 2, 0, 0, 0, 0), none, some (.goto 15, 3, 0, 0, 0, 0), none, none, some (.iload_n 2, 1, 0, 0, 0, 0), some (.iconst 3, 1, 0, 0, 0, 0), some (.if_icmp .ne 8, 3, 0, 0, 0, 0), none, none, some (.bipush 17, 2, 0, 0, 0, 0), none, some (.goto 5, 3, 0, 0, 0, 0), none, none, some (.bipush 26, 2, 0, 0, 0, 0), none, some (.istore 4, 2, 0, 0, 0, 0), none, some (.iload_n 3, 1, 0, 0, 0, 0), some (.istore 5, 2, 0, 0, 0, 0), none, some (.iload 5, 2, 0, 0, 0, 0), none, some (.iload 4, 2, 0, 0, 0, 0), none, some (.if_icmp .gt 40, 3, 0, 0, 0, 0), none, none, some (.iconst 1, 1, 0, 0, 0, 0), some (.istore 6, 2, 0, 0, 0, 0), none, some (.iload 6, 2, 0, 0, 0, 0), none, some (.bipush 9, 2, 0, 0, 0, 0), none, some (.if_icmp .gt 24, 3, 0, 0, 0, 0), none, none, some (.aload_n 0, 1, 0, 0, 0, 0), some (.aload_n 1, 1, 0, 0, 0, 0), some (.iload_n 2, 1, 0, 0, 0, 0), some (.iload 5, 2, 0, 0, 0, 0), none, some (.iload 6, 2, 0, 0, 0, 0), none, some (.invokevirtual 241, 3, 104, 4, 0, 282), none, none, some (.ifCond .eq 5, 3, 0, 0, 0, 0), none, none, some (.iconst 1, 1, 0, 0, 0, 0), some (.ireturn, 1, 0, 0, 0, 0), some (.iinc 6 1, 3, 0, 0, 0, 0), none, none, some (.goto (-25), 3, 0, 0, 0, 0), none, none, some (.iinc 5 1, 3, 0, 0, 0, 0), none, none, some (.goto (-41), 3, 0, 0, 0, 0), none, none, some (.iconst 0, 1, 0, 0, 0, 0), some (.ireturn, 1, 0, 0, 0, 0)]
def e_X9_findsSome : List (Option EN) := [some (.iload_n 2, 1, 0, 0, 0, 0), some (.invokestatic 159, 3, 138, 1, 0, 283), none, none, some (.istore_n 3, 1, 0, 0, 0, 0), some (.iload_n 2, 1, 0, 0, 0, 0), some (.bipush 8, 2, 0, 0, 0, 0), none, some (.if_icmp .eq 9, 3, 0, 0, 0, 0), none, none, some (.iload_n 2, 1, 0, 0, 0, 0), some (.bipush 11, 2, 0, 0, 0, 0), none, some (.if_icmp .lt 7, 3, 0, 0, 0, 0), none, none, some (.iconst 1, 1, 0, 0, 0, 0), some (.goto 4, 3, 0, 0, 0, 0), none, none, some (.iconst 0, 1, 0, 0, 0, 0), some (.istore 4, 2, 0, 0, 0, 0), none, some (.iload 4, 2, 0, 0, 0, 0), none, some (.ifCond .eq 7, 3, 0, 0, 0, 0), none, none, some (.iconst 1, 1, 0, 0, 0, 0), some (.goto 4, 3, 0, 0, 0, 0), none, none, some (.iconst 0, 1, 0, 0, 0, 0), some (.istore 5, 2, 0, 0, 0, 0), none, some (.iload 5, 2, 0, 0, 0, 0), none, some (.iload 4, 2, 0, 0, 0, 0), none, some (.ifCond .eq 8, 3, 0, 0, 0, 0), none, none, some (.bipush 25, 2, 0, 0, 0, 0), none, some (.goto 5, 3, 0, 0, 0, 0), none, none, some (.bipush 26, 2, 0, 0, 0, 0), none, some (.if_icmp .gt 183, 3, 0, 0, 0, 0), none, none, some (.iload 4, 2, 0, 0, 0, 0), none, some (.ifCond .eq 18, 3, 0, 0, 0, 0), none, none, some (.iload 5, 2, 0, 0, 0, 0), none, some (.bipush 10, 2, 0, 0, 0, 0), none, some (.bipush 16, 2, 0, 0, 0, 0), none, some (.invokestatic 134, 3, 115, 3, 0, 261), none, none, some (.ifCond .eq 6, 3, 0, 0, 0, 0), none, none, some (.goto 157, 3, 0, 0, 0, 0), none, none, some (.iconst 0, 1, 0, 0, 0, 0), some (.istore 6, 2, 0, 0, 0, 0), none, some (.iload 6, 2, 0, 0, 0, 0), none, some (.bipush 9, 2, 0, 0, 0, 0), none, some (.if_icmp .ge 147, 3, 0, 0, 0, 0), none, none, some (.iload 6, 2, 0, 0, 0, 0), none, some (.iconst 1, 1, 0, 0, 0, 0), some (.iadd, 1, 0, 0, 0, 0), some (.istore 7, 2, 0, 0, 0, 0), none, some (.iload 7, 2, 0, 0, 0, 0), none, some (.bipush 9, 2, 0, 0, 0, 0), none, some (.if_icmp .ge 128, 3, 0, 0, 0, 0), none, none, some (.iconst 1, 1, 0, 0, 0, 0), some (.iload 6, 2, 0, 0, 0, 0), none, some (.ishl, 1, 0, 0, 0, 0), some (.iconst 1, 1, 0, 0, 0, 0), some (.iload 7, 2, 0, 0, 0, 0), none, some (.ishl, 1, 0, 0, 0, 0), some (.ior, 1, 0, 0, 0, 0), some (.istore 8, 2, 0, 0, 0, 0), none, some (.iload_n 3, 1, 0, 0, 0, 0), some (.iconst 2, 1, 0, 0, 0, 0), some (.if_icmp .ne 18, 3, 0, 0, 0, 0), none, none, some (.aload_n 0, 1, 0, 0, 0, 0), some (.aload_n 1, 1, 0, 0, 0, 0), some (.iload_n 2, 1, 0, 0, 0, 0), some (.iload 5, 2, 0, 0, 0, 0), none, some (.iload 8, 2, 0, 0, 0, 0), none, some (.invokevirtual 241, 3, 104, 4, 0, 282), none, none, some (.ifCond .eq 93, 3, 0, 0, 0, 0), none, none, some (.iconst 1, 1, 0, 0, 0, 0), some (.ireturn, 1, 0, 0, 0, 0), some (.iload 7, 2, 0, 0, 0, 0), none, some (.iconst 1, 1, 0, 0, 0, 0), some (.iadd, 1, 0, 0, 0, 0), some (.istore 9, 2, 0, 0, 0, 0), none, some (.iload 9, 2, 0, 0, 0, 0), none, some (.bipush 9, 2, 0, 0, 0, 0), none, some (.if_icmp .ge 78, 3, 0, 0, 0, 0), none, none, some (.iload_n 3, 1, 0, 0, 0, 0), some (.iconst 3, 1, 0, 0, 0, 0), some (.if_icmp .ne 23, 3, 0, 0, 0, 0), none, none, some (.aload_n 0, 1, 0, 0, 0, 0), some (.aload_n 1, 1, 0, 0, 0, 0), some (.iload_n 2, 1, 0, 0, 0, 0), some (.iload 5, 2, 0, 0, 0, 0), none, some (.iload 8, 2, 0, 0, 0, 0), none, some (.iconst 1, 1, 0, 0, 0, 0), some (.iload 9, 2, 0, 0, 0, 0), none, some (.ishl, 1, 0, 0, 0, 0), some (.ior, 1, 0, 0, 0, 0), some (.invokevirtual 241, 3, 104, 4, 0, 282), none, none, some (.ifCond .eq 49, 3, 0, 0, 0, 0), none, none, some (.iconst 1, 1, 0, 0, 0, 0), some (.ireturn, 1, 0, 0, 0, 0), some (.iload 9, 2, 0, 0, 0, 0), none, some (.iconst 1, 1, 0, 0, 0, 0), some (.iadd, 1, 0, 0, 0, 0), some (.istore 10, 2, 0, 0, 0, 0), none, some (.iload 10, 2, 0, 0, 0, 0), none, some (.bipush 9, 2, 0, 0, 0, 0), none, some (.if_icmp .ge 34, 3, 0, 0, 0, 0), none, none, some (.aload_n 0, 1, 0, 0, 0, 0), some (.aload_n 1, 1, 0, 0, 0, 0), some (.iload_n 2, 1, 0, 0, 0, 0), some (.iload 5, 2, 0, 0, 0, 0), none, some (.iload 8, 2, 0, 0, 0, 0), none, some (.iconst 1, 1, 0, 0, 0, 0), some (.iload 9, 2, 0, 0, 0, 0), none, some (.ishl, 1, 0, 0, 0, 0), some (.ior, 1, 0, 0, 0, 0), some (.iconst 1, 1, 0, 0, 0, 0), some (.iload 10, 2, 0, 0, 0, 0), none, some (.ishl, 1, 0, 0, 0, 0), some (.ior, 1, 0, 0, 0, 0), some (.invokevirtual 241, 3, 104, 4, 0, 282), none, none, some (.ifCond .eq 5, 3, 0, 0, 0, 0), none, none, some (.iconst 1, 1, 0, 0, 0, 0), some (.ireturn, 1, 0, 0, 0, 0), some (.iinc 10 1, 3, 0, 0, 0, 0), none, none, some (.goto (-35), 3, 0, 0, 0, 0), none, none, some (.iinc 9 1, 3, 0, 0, 0, 0), none, none, some (.goto (-79), 3, 0, 0, 0, 0), none, none, some (.iinc 7 1, 3, 0, 0, 0, 0), none, none, some (.goto (-129), 3, 0, 0, 0, 0), none, none, some (.iinc 6 1, 3, 0, 0, 0, 0), none, none, some (.goto (-148), 3, 0, 0, 0, 0), none, none, some (.iinc 5 1, 3, 0, 0, 0, 0), none, none, some (.goto (-194), 3, 0, 0, 0, 0), none, none, some (.iconst 0, 1, 0, 0, 0, 0), some (.ireturn, 1, 0, 0, 0, 0)]
def e_X9_fish : List (Option EN) := [some (.iload_n 2, 1, 0, 0, 0, 0), some (.bipush 16, 2, 0, 0, 0, 0), none, some (.if_icmp .le 7, 3, 0, 0, 0, 0), none, none, some (.iconst 1, 1, 0, 0, 0, 0), some (.goto 4, 3, 0, 0, 0, 0), none, none, some (.iconst 0, 1, 0, 0, 0, 0), some (.istore 5, 2, 0, 0, 0, 0), none, some (.iload 5, 2, 0, 0, 0, 0), none, some (.ifCond .eq 10, 3, 0, 0, 0, 0), none, none, some (.iload_n 2, 1, 0, 0, 0, 0), some (.bipush 16, 2, 0, 0, 0, 0), none, some (.isub, 1, 0, 0, 0, 0), some (.goto 4, 3, 0, 0, 0, 0), none, none, some (.iload_n 2, 1, 0, 0, 0, 0), some (.istore 6, 2, 0, 0, 0, 0), none, some (.iload 6, 2, 0, 0, 0, 0), none, some (.iconst 1, 1, 0, 0, 0, 0), some (.bipush 9, 2, 0, 0, 0, 0), none, some (.invokestatic 134, 3, 115, 3, 0, 261), none, none, some (.ifCond .eq 23, 3, 0, 0, 0, 0), none, none, some (.iload_n 3, 1, 0, 0, 0, 0), some (.iconst 0, 1, 0, 0, 0, 0), some (.sipush 511, 3, 0, 0, 0, 0), none, none, some (.invokestatic 134, 3, 115, 3, 0, 261), none, none, some (.ifCond .eq 12, 3, 0, 0, 0, 0), none, none, some (.iload_n 3, 1, 0, 0, 0, 0), some (.invokestatic 139, 3, 92, 1, 0, 284), none, none, some (.iload 4, 2, 0, 0, 0, 0), none, some (.if_icmp .eq 5, 3, 0, 0, 0, 0), none, none, some (.iconst 0, 1, 0, 0, 0, 0), some (.ireturn, 1, 0, 0, 0, 0), some (.iconst 0, 1, 0, 0, 0, 0), some (.istore 7, 2, 0, 0, 0, 0), none, some (.iconst 0, 1, 0, 0, 0, 0), some (.istore 8, 2, 0, 0, 0, 0), none, some (.iload 8, 2, 0, 0, 0, 0), none, some (.bipush 9, 2, 0, 0, 0, 0), none, some (.if_icmp .ge 45, 3, 0, 0, 0, 0), none, none, some (.iload_n 3, 1, 0, 0, 0, 0), some (.iload 8, 2, 0, 0, 0, 0), none, some (.ishr, 1, 0, 0, 0, 0), some (.iconst 1, 1, 0, 0, 0, 0), some (.iand, 1, 0, 0, 0, 0), some (.iconst 1, 1, 0, 0, 0, 0), some (.if_icmp .ne 29, 3, 0, 0, 0, 0), none, none, some (.iload 7, 2, 0, 0, 0, 0), none, some (.aload_n 1, 1, 0, 0, 0, 0), some (.iload 5, 2, 0, 0, 0, 0), none, some (.ifCond .eq 11, 3, 0, 0, 0, 0), none, none, some (.bipush 9, 2, 0, 0, 0, 0), none, some (.iload 8, 2, 0, 0, 0, 0), none, some (.iadd, 1, 0, 0, 0, 0), some (.goto 5, 3, 0, 0, 0, 0), none, none, some (.iload 8, 2, 0, 0, 0, 0), none, some (.iload 6, 2, 0, 0, 0, 0), none, some (.invokestatic 182, 3, 130, 3, 0, 278), none, none, some (.ior, 1, 0, 0, 0, 0), some (.istore 7, 2, 0, 0, 0, 0), none, some (.iinc 8 1, 3, 0, 0, 0, 0), none, none, some (.goto (-46), 3, 0, 0, 0, 0), none, none, some (.iload 7, 2, 0, 0, 0, 0), none, some (.invokestatic 139, 3, 92, 1, 0, 284), none, none, some (.iload 4, 2, 0, 0, 0, 0), none, some (.if_icmp .eq 5, 3, 0, 0, 0, 0), none, none, some (.iconst 0, 1, 0, 0, 0, 0), some (.ireturn, 1, 0, 0, 0, 0), some (.iconst 0, 1, 0, 0, 0, 0), some (.istore 8, 2, 0, 0, 0, 0), none, some (.iload 8, 2, 0, 0, 0, 0), none, some (.bipush 9, 2, 0, 0, 0, 0), none, some (.if_icmp .ge 76, 3, 0, 0, 0, 0), none, none, some (.iconst 0, 1, 0, 0, 0, 0), some (.istore 9, 2, 0, 0, 0, 0), none, some (.iload 9, 2, 0, 0, 0, 0), none, some (.bipush 9, 2, 0, 0, 0, 0), none, some (.if_icmp .ge 60, 3, 0, 0, 0, 0), none, none, some (.iload_n 3, 1, 0, 0, 0, 0), some (.iload 8, 2, 0, 0, 0, 0), none, some (.ishr, 1, 0, 0, 0, 0), some (.iconst 1, 1, 0, 0, 0, 0), some (.iand, 1, 0, 0, 0, 0), some (.ifCond .ne 45, 3, 0, 0, 0, 0), none, none, some (.iload 7, 2, 0, 0, 0, 0), none, some (.iload 9, 2, 0, 0, 0, 0), none, some (.ishr, 1, 0, 0, 0, 0), some (.iconst 1, 1, 0, 0, 0, 0), some (.iand, 1, 0, 0, 0, 0), some (.iconst 1, 1, 0, 0, 0, 0), some (.if_icmp .ne 34, 3, 0, 0, 0, 0), none, none, some (.aload_n 0, 1, 0, 0, 0, 0), some (.getfield 22, 3, 9, 4, 6, 259), none, none, some (.iload 5, 2, 0, 0, 0, 0), none, some (.ifCond .eq 11, 3, 0, 0, 0, 0), none, none, some (.bipush 9, 2, 0, 0, 0, 0), none, some (.iload 8, 2, 0, 0, 0, 0), none, some (.iadd, 1, 0, 0, 0, 0), some (.goto 5, 3, 0, 0, 0, 0), none, none, some (.iload 8, 2, 0, 0, 0, 0), none, some (.iload 9, 2, 0, 0, 0, 0), none, some (.invokestatic 179, 3, 95, 2, 0, 279), none, none, some (.iconst 1, 1, 0, 0, 0, 0), some (.iload 6, 2, 0, 0, 0, 0), none, some (.iconst 1, 1, 0, 0, 0, 0), some (.isub, 1, 0, 0, 0, 0), some (.ishl, 1, 0, 0, 0, 0), some (.iastore, 1, 0, 0, 0, 0), some (.iinc 9 1, 3, 0, 0, 0, 0), none, none, some (.goto (-61), 3, 0, 0, 0, 0), none, none, some (.iinc 8 1, 3, 0, 0, 0, 0), none, none, some (.goto (-77), 3, 0, 0, 0, 0), none, none, some (.iconst 1, 1, 0, 0, 0, 0), some (.ireturn, 1, 0, 0, 0, 0)]
def e_X9_found : List (Option EN) := [some (.aload_n 0, 1, 0, 0, 0, 0), some (.iload_n 3, 1, 0, 0, 0, 0), some (.putfield 228, 3, 9, 27, 0, 285), none, none, some (.aload_n 0, 1, 0, 0, 0, 0), some (.iload 4, 2, 0, 0, 0, 0), none, some (.putfield 231, 3, 9, 28, 0, 286), none, none, some (.aload_n 0, 1, 0, 0, 0, 0), some (.aload_n 0, 1, 0, 0, 0, 0), some (.aload_n 1, 1, 0, 0, 0, 0), some (.iload_n 2, 1, 0, 0, 0, 0), some (.iload_n 3, 1, 0, 0, 0, 0), some (.iload 4, 2, 0, 0, 0, 0), none, some (.invokevirtual 234, 3, 117, 4, 0, 276), none, none, some (.putfield 238, 3, 9, 29, 0, 287), none, none, some (.aload_n 0, 1, 0, 0, 0, 0), some (.getfield 238, 3, 9, 29, 0, 287), none, none, some (.ifCond .le 7, 3, 0, 0, 0, 0), none, none, some (.iconst 1, 1, 0, 0, 0, 0), some (.goto 4, 3, 0, 0, 0, 0), none, none, some (.iconst 0, 1, 0, 0, 0, 0), some (.ireturn, 1, 0, 0, 0, 0)]
def e_X9_give : List (Option EN) := [some (.iload_n 1, 1, 0, 0, 0, 0), some (.iconst 0, 1, 0, 0, 0, 0), some (.bipush 80, 2, 0, 0, 0, 0), none, some (.invokestatic 134, 3, 115, 3, 0, 261), none, none, some (.ifCond .eq 13, 3, 0, 0, 0, 0), none, none, some (.iload_n 2, 1, 0, 0, 0, 0), some (.iconst 0, 1, 0, 0, 0, 0), some (.bipush 9, 2, 0, 0, 0, 0), none, some (.invokestatic 134, 3, 115, 3, 0, 261), none, none, some (.ifCond .ne 5, 3, 0, 0, 0, 0), none, none, some (.iconst 0, 1, 0, 0, 0, 0), some (.ireturn, 1, 0, 0, 0, 0), some (.aload_n 0, 1, 0, 0, 0, 0), some (.getfield 7, 3, 9, 0, 6, 242), none, none, some (.iload_n 1, 1, 0, 0, 0, 0), some (.iload_n 2, 1, 0, 0, 0, 0), some (.iastore, 1, 0, 0, 0, 0), some (.aload_n 0, 1, 0, 0, 0, 0), some (.invokevirtual 92, 3, 91, 0, 0, 288), none, none, some (.iconst 1, 1, 0, 0, 0, 0), some (.ireturn, 1, 0, 0, 0, 0)]
def e_X9_goes : List (Option EN) := [some (.iconst 0, 1, 0, 0, 0, 0), some (.istore_n 2, 1, 0, 0, 0, 0), some (.iload_n 2, 1, 0, 0, 0, 0), some (.bipush 81, 2, 0, 0, 0, 0), none, some (.if_icmp .ge 23, 3, 0, 0, 0, 0), none, none, some (.aload_n 1, 1, 0, 0, 0, 0), some (.iload_n 2, 1, 0, 0, 0, 0), some (.dup2, 1, 0, 0, 0, 0), some (.iaload, 1, 0, 0, 0, 0), some (.aload_n 0, 1, 0, 0, 0, 0), some (.getfield 22, 3, 9, 4, 6, 259), none, none, some (.iload_n 2, 1, 0, 0, 0, 0), some (.iaload, 1, 0, 0, 0, 0), some (.iconst (-1), 1, 0, 0, 0, 0), some (.ixor, 1, 0, 0, 0, 0), some (.iand, 1, 0, 0, 0, 0), some (.iastore, 1, 0, 0, 0, 0), some (.iinc 2 1, 3, 0, 0, 0, 0), none, none, some (.goto (-23), 3, 0, 0, 0, 0), none, none, some (.return_, 1, 0, 0, 0, 0)]
def e_X9_goesBy : List (Option EN) := [some (.iconst 0, 1, 0, 0, 0, 0), some (.istore_n 3, 1, 0, 0, 0, 0), some (.iconst 0, 1, 0, 0, 0, 0), some (.istore 4, 2, 0, 0, 0, 0), none, some (.iload 4, 2, 0, 0, 0, 0), none, some (.bipush 12, 2, 0, 0, 0, 0), none, some (.if_icmp .ge 49, 3, 0, 0, 0, 0), none, none, some (.iload_n 3, 1, 0, 0, 0, 0), some (.ifCond .ne 45, 3, 0, 0, 0, 0), none, none, some (.aload_n 0, 1, 0, 0, 0, 0), some (.getfield 25, 3, 9, 5, 6, 269), none, none, some (.bipush 12, 2, 0, 0, 0, 0), none, some (.iload_n 1, 1, 0, 0, 0, 0), some (.imul, 1, 0, 0, 0, 0), some (.iload 4, 2, 0, 0, 0, 0), none, some (.iadd, 1, 0, 0, 0, 0), some (.laload, 1, 0, 0, 0, 0), some (.aload_n 0, 1, 0, 0, 0, 0), some (.getfield 25, 3, 9, 5, 6, 269), none, none, some (.bipush 12, 2, 0, 0, 0, 0), none, some (.iload_n 2, 1, 0, 0, 0, 0), some (.imul, 1, 0, 0, 0, 0), some (.iload 4, 2, 0, 0, 0, 0), none, some (.iadd, 1, 0, 0, 0, 0), some (.laload, 1, 0, 0, 0, 0), some (.land, 1, 0, 0, 0, 0), some (.lconst 0, 1, 0, 0, 0, 0), some (.lcmp, 1, 0, 0, 0, 0), some (.ifCond .eq 7, 3, 0, 0, 0, 0), none, none, some (.iconst 1, 1, 0, 0, 0, 0), some (.goto 4, 3, 0, 0, 0, 0), none, none, some (.iconst 0, 1, 0, 0, 0, 0), some (.istore_n 3, 1, 0, 0, 0, 0), some (.iinc 4 1, 3, 0, 0, 0, 0), none, none, some (.goto (-50), 3, 0, 0, 0, 0), none, none, some (.iload_n 3, 1, 0, 0, 0, 0), some (.ireturn, 1, 0, 0, 0, 0)]
def e_X9_gone : List (Option EN) := [some (.iload_n 1, 1, 0, 0, 0, 0), some (.iconst 0, 1, 0, 0, 0, 0), some (.aload_n 0, 1, 0, 0, 0, 0), some (.getfield 99, 3, 9, 22, 0, 245), none, none, some (.iconst 1, 1, 0, 0, 0, 0), some (.isub, 1, 0, 0, 0, 0), some (.invokestatic 134, 3, 115, 3, 0, 261), none, none, some (.ifCond .eq 35, 3, 0, 0, 0, 0), none, none, some (.iload_n 2, 1, 0, 0, 0, 0), some (.iconst 0, 1, 0, 0, 0, 0), some (.aload_n 0, 1, 0, 0, 0, 0), some (.getfield 59, 3, 9, 17, 6, 289), none, none, some (.iload_n 1, 1, 0, 0, 0, 0), some (.iaload, 1, 0, 0, 0, 0), some (.iconst 1, 1, 0, 0, 0, 0), some (.isub, 1, 0, 0, 0, 0), some (.invokestatic 134, 3, 115, 3, 0, 261), none, none, some (.ifCond .eq 19, 3, 0, 0, 0, 0), none, none, some (.aload_n 0, 1, 0, 0, 0, 0), some (.getfield 68, 3, 9, 20, 6, 290), none, none, some (.aload_n 0, 1, 0, 0, 0, 0), some (.getfield 62, 3, 9, 18, 6, 291), none, none, some (.iload_n 1, 1, 0, 0, 0, 0), some (.iaload, 1, 0, 0, 0, 0), some (.iload_n 2, 1, 0, 0, 0, 0), some (.iadd, 1, 0, 0, 0, 0), some (.iaload, 1, 0, 0, 0, 0), some (.goto 4, 3, 0, 0, 0, 0), none, none, some (.iconst (-1), 1, 0, 0, 0, 0), some (.ireturn, 1, 0, 0, 0, 0)]
def e_X9_grade : List (Option EN) := [some (.iload_n 1, 1, 0, 0, 0, 0), some (.iconst 0, 1, 0, 0, 0, 0), some (.bipush 30, 2, 0, 0, 0, 0), none, some (.invokestatic 134, 3, 115, 3, 0, 261), none, none, some (.ifCond .ne 5, 3, 0, 0, 0, 0), none, none, some (.iconst (-1), 1, 0, 0, 0, 0), some (.ireturn, 1, 0, 0, 0, 0), some (.iconst 0, 1, 0, 0, 0, 0), some (.istore_n 2, 1, 0, 0, 0, 0), some (.iload_n 2, 1, 0, 0, 0, 0), some (.iload_n 1, 1, 0, 0, 0, 0), some (.if_icmp .ge 23, 3, 0, 0, 0, 0), none, none, some (.aload_n 0, 1, 0, 0, 0, 0), some (.invokevirtual 266, 3, 141, 0, 0, 292), none, none, some (.ifCond .ne 10, 3, 0, 0, 0, 0), none, none, some (.aload_n 0, 1, 0, 0, 0, 0), some (.iconst 1, 1, 0, 0, 0, 0), some (.putfield 112, 3, 9, 26, 1, 249), none, none, some (.iload_n 2, 1, 0, 0, 0, 0), some (.ireturn, 1, 0, 0, 0, 0), some (.iinc 2 1, 3, 0, 0, 0, 0), none, none, some (.goto (-22), 3, 0, 0, 0, 0), none, none, some (.iload_n 2, 1, 0, 0, 0, 0), some (.ireturn, 1, 0, 0, 0, 0)]
def e_X9_has : List (Option EN) := [some (.aload_n 0, 1, 0, 0, 0, 0), some (.iload_n 1, 1, 0, 0, 0, 0), some (.iload_n 2, 1, 0, 0, 0, 0), some (.bipush 64, 2, 0, 0, 0, 0), none, some (.idiv, 1, 0, 0, 0, 0), some (.iadd, 1, 0, 0, 0, 0), some (.laload, 1, 0, 0, 0, 0), some (.iload_n 2, 1, 0, 0, 0, 0), some (.bipush 64, 2, 0, 0, 0, 0), none, some (.irem, 1, 0, 0, 0, 0), some (.lshr, 1, 0, 0, 0, 0), some (.lconst 1, 1, 0, 0, 0, 0), some (.land, 1, 0, 0, 0, 0), some (.lconst 1, 1, 0, 0, 0, 0), some (.lcmp, 1, 0, 0, 0, 0), some (.ifCond .ne 7, 3, 0, 0, 0, 0), none, none, some (.iconst 1, 1, 0, 0, 0, 0), some (.goto 4, 3, 0, 0, 0, 0), none, none, some (.iconst 0, 1, 0, 0, 0, 0), some (.ireturn, 1, 0, 0, 0, 0)]
def e_X9_hidden : List (Option EN) := [some (.iload_n 2, 1, 0, 0, 0, 0), some (.iconst 0, 1, 0, 0, 0, 0), some (.bipush 26, 2, 0, 0, 0, 0), none, some (.invokestatic 134, 3, 115, 3, 0, 261), none, none, some (.ifCond .eq 23, 3, 0, 0, 0, 0), none, none, some (.iload_n 3, 1, 0, 0, 0, 0), some (.iconst 0, 1, 0, 0, 0, 0), some (.sipush 511, 3, 0, 0, 0, 0), none, none, some (.invokestatic 134, 3, 115, 3, 0, 261), none, none, some (.ifCond .eq 12, 3, 0, 0, 0, 0), none, none, some (.iload_n 3, 1, 0, 0, 0, 0), some (.invokestatic 139, 3, 92, 1, 0, 284), none, none, some (.iload 4, 2, 0, 0, 0, 0), none, some (.if_icmp .eq 5, 3, 0, 0, 0, 0), none, none, some (.iconst 0, 1, 0, 0, 0, 0), some (.ireturn, 1, 0, 0, 0, 0), some (.iconst 0, 1, 0, 0, 0, 0), some (.istore 5, 2, 0, 0, 0, 0), none, some (.iconst 0, 1, 0, 0, 0, 0), some (.istore 6, 2, 0, 0, 0, 0), none, some (.iload 6, 2, 0, 0, 0, 0), none, some (.bipush 9, 2, 0, 0, 0, 0), none, some (.if_icmp .ge 32, 3, 0, 0, 0, 0), none, none, some (.iload 5, 2, 0, 0, 0, 0), none, some (.aload_n 1, 1, 0, 0, 0, 0), some (.iload_n 2, 1, 0, 0, 0, 0), some (.iload 6, 2, 0, 0, 0, 0), none, some (.invokestatic 179, 3, 95, 2, 0, 279), none, none, some (.iaload, 1, 0, 0, 0, 0), some (.iload_n 3, 1, 0, 0, 0, 0), some (.iand, 1, 0, 0, 0, 0), some (.ifCond .eq 7, 3, 0, 0, 0, 0), none, none, some (.iconst 1, 1, 0, 0, 0, 0), some (.goto 4, 3, 0, 0, 0, 0), none, none, some (.iconst 0, 1, 0, 0, 0, 0), some (.iadd, 1, 0, 0, 0, 0), some (.istore 5, 2, 0, 0, 0, 0), none, some (.iinc 6 1, 3, 0, 0, 0, 0), none, none, some (.goto (-33), 3, 0, 0, 0, 0), none, none, some (.iload 5, 2, 0, 0, 0, 0), none, some (.iload 4, 2, 0, 0, 0, 0), none, some (.if_icmp .eq 5, 3, 0, 0, 0, 0), none, none, some (.iconst 0, 1, 0, 0, 0, 0), some (.ireturn, 1, 0, 0, 0, 0), some (.iconst 0, 1, 0, 0, 0, 0), some (.istore 6, 2, 0, 0, 0, 0), none, some (.iload 6, 2, 0, 0, 0, 0), none, some (.bipush 9, 2, 0, 0, 0, 0), none, some (.if_icmp .ge 40, 3, 0, 0, 0, 0), none, none, some (.aload_n 1, 1, 0, 0, 0, 0), some (.iload_n 2, 1, 0, 0, 0, 0), some (.iload 6, 2, 0, 0, 0, 0), none, some (.invokestatic 179, 3, 95, 2, 0, 279), none, none, some (.iaload, 1, 0, 0, 0, 0), some (.iload_n 3, 1, 0, 0, 0, 0), some (.iand, 1, 0, 0, 0, 0), some (.ifCond .eq 21, 3, 0, 0, 0, 0), none, none, some (.aload_n 0, 1, 0, 0, 0, 0), some (.getfield 22, 3, 9, 4, 6, 259), none, none, some (.iload_n 2, 1, 0, 0, 0, 0), some (.iload 6, 2, 0, 0, 0, 0), none, some (.invokestatic 179, 3, 95, 2, 0, 279), none, none, some (.sipush 511, 3, 0, 0, 0, 0), none, none, some (.iload_n 3, 1, 0, 0, 0, 0), some (.iconst (-1), 1, 0, 0, 0, 0), some (.ixor, 1, 0, 0, 0, 0), some (.iand, 1, 0, 0, 0, 0), some (.iastore, 1, 0, 0, 0, 0), some (.iinc 6 1, 3, 0, 0, 0, 0), none, none, some (.goto (-41), 3, 0, 0, 0, 0), none, none, some (.iconst 1, 1, 0, 0, 0, 0), some (.ireturn, 1, 0, 0, 0, 0)]
def e_X9_hiddenOne : List (Option EN) := [some (.iload_n 2, 1, 0, 0, 0, 0), some (.iconst 0, 1, 0, 0, 0, 0), some (.bipush 26, 2, 0, 0, 0, 0), none, some (.invokestatic 134, 3, 115, 3, 0, 261), none, none, some (.ifCond .eq 13, 3, 0, 0, 0, 0), none, none, some (.iload_n 3, 1, 0, 0, 0, 0), some (.iconst 1, 1, 0, 0, 0, 0), some (.bipush 9, 2, 0, 0, 0, 0), none, some (.invokestatic 134, 3, 115, 3, 0, 261), none, none, some (.ifCond .ne 5, 3, 0, 0, 0, 0), none, none, some (.iconst 0, 1, 0, 0, 0, 0), some (.ireturn, 1, 0, 0, 0, 0), some (.aload_n 1, 1, 0, 0, 0, 0), some (.iload_n 2, 1, 0, 0, 0, 0), some (.iload_n 3, 1, 0, 0, 0, 0), some (.invokestatic 182, 3, 130, 3, 0, 278), none, none, some (.istore 4, 2, 0, 0, 0, 0), none, some (.iload 4, 2, 0, 0, 0, 0), none, some (.invokestatic 139, 3, 92, 1, 0, 284), none, none, some (.iconst 1, 1, 0, 0, 0, 0), some (.if_icmp .eq 5, 3, 0, 0, 0, 0), none, none, some (.iconst 0, 1, 0, 0, 0, 0), some (.ireturn, 1, 0, 0, 0, 0), some (.iconst 0, 1, 0, 0, 0, 0), some (.istore 5, 2, 0, 0, 0, 0), none, some (.iload 5, 2, 0, 0, 0, 0), none, some (.bipush 9, 2, 0, 0, 0, 0), none, some (.if_icmp .ge 42, 3, 0, 0, 0, 0), none, none, some (.iload 4, 2, 0, 0, 0, 0), none, some (.iload 5, 2, 0, 0, 0, 0), none, some (.ishr, 1, 0, 0, 0, 0), some (.iconst 1, 1, 0, 0, 0, 0), some (.iand, 1, 0, 0, 0, 0), some (.iconst 1, 1, 0, 0, 0, 0), some (.if_icmp .ne 25, 3, 0, 0, 0, 0), none, none, some (.aload_n 0, 1, 0, 0, 0, 0), some (.getfield 22, 3, 9, 4, 6, 259), none, none, some (.iload_n 2, 1, 0, 0, 0, 0), some (.iload 5, 2, 0, 0, 0, 0), none, some (.invokestatic 179, 3, 95, 2, 0, 279), none, none, some (.sipush 511, 3, 0, 0, 0, 0), none, none, some (.iconst 1, 1, 0, 0, 0, 0), some (.iload_n 3, 1, 0, 0, 0, 0), some (.iconst 1, 1, 0, 0, 0, 0), some (.isub, 1, 0, 0, 0, 0), some (.ishl, 1, 0, 0, 0, 0), some (.iconst (-1), 1, 0, 0, 0, 0), some (.ixor, 1, 0, 0, 0, 0), some (.iand, 1, 0, 0, 0, 0), some (.iastore, 1, 0, 0, 0, 0), some (.iinc 5 1, 3, 0, 0, 0, 0), none, none, some (.goto (-43), 3, 0, 0, 0, 0), none, none, some (.iconst 1, 1, 0, 0, 0, 0), some (.ireturn, 1, 0, 0, 0, 0)]
def e_X9_houseOf : List (Option EN) := [some (.iload_n 0, 1, 0, 0, 0, 0), some (.bipush 9, 2, 0, 0, 0, 0), none, some (.idiv, 1, 0, 0, 0, 0), some (.istore_n 2, 1, 0, 0, 0, 0), some (.iload_n 0, 1, 0, 0, 0, 0), some (.bipush 9, 2, 0, 0, 0, 0), none, some (.irem, 1, 0, 0, 0, 0), some (.istore_n 3, 1, 0, 0, 0, 0), some (.iload_n 1, 1, 0, 0, 0, 0), some (.ifCond .ne 7, 3, 0, 0, 0, 0), none, none, some (.iload_n 2, 1, 0, 0, 0, 0), some (.goto 27, 3, 0, 0, 0, 0), none, none, some (.iload_n 1, 1, 0, 0, 0, 0), some (.iconst 1, 1, 0, 0, 0, 0), some (.if_icmp .ne 10, 3, 0, 0, 0, 0), none, none, some (.bipush 9, 2, 0, 0, 0, 0), none, some (.iload_n 3, 1, 0, 0, 0, 0), some (.iadd, 1, 0, 0, 0, 0), some (.goto 15, 3, 0, 0, 0, 0), none, none, some (.bipush 18, 2, 0, 0, 0, 0), none, some (.iconst 3, 1, 0, 0, 0, 0), some (.iload_n 2, 1, 0, 0, 0, 0), some (.iconst 3, 1, 0, 0, 0, 0), some (.idiv, 1, 0, 0, 0, 0), some (.imul, 1, 0, 0, 0, 0), some (.iadd, 1, 0, 0, 0, 0), some (.iload_n 3, 1, 0, 0, 0, 0), some (.iconst 3, 1, 0, 0, 0, 0), some (.idiv, 1, 0, 0, 0, 0), some (.iadd, 1, 0, 0, 0, 0), some (.ireturn, 1, 0, 0, 0, 0)]
def e_X9_image : List (Option EN) := [some (.iconst 0, 1, 0, 0, 0, 0), some (.istore 6, 2, 0, 0, 0, 0), none, some (.iload 6, 2, 0, 0, 0, 0), none, some (.bipush 12, 2, 0, 0, 0, 0), none, some (.if_icmp .ge 17, 3, 0, 0, 0, 0), none, none, some (.aload_n 0, 1, 0, 0, 0, 0), some (.getfield 41, 3, 9, 11, 6, 293), none, none, some (.iload 6, 2, 0, 0, 0, 0), none, some (.lconst 0, 1, 0, 0, 0, 0), some (.lastore, 1, 0, 0, 0, 0), some (.iinc 6 1, 3, 0, 0, 0, 0), none, none, some (.goto (-18), 3, 0, 0, 0, 0), none, none, some (.iconst 0, 1, 0, 0, 0, 0), some (.istore 6, 2, 0, 0, 0, 0), none, some (.iload 6, 2, 0, 0, 0, 0), none, some (.aload_n 0, 1, 0, 0, 0, 0), some (.getfield 196, 3, 9, 8, 0, 263), none, none, some (.if_icmp .ge 67, 3, 0, 0, 0, 0), none, none, some (.aload_n 0, 1, 0, 0, 0, 0), some (.getfield 32, 3, 9, 7, 6, 264), none, none, some (.iload 6, 2, 0, 0, 0, 0), none, some (.iaload, 1, 0, 0, 0, 0), some (.istore 7, 2, 0, 0, 0, 0), none, some (.aload_n 1, 1, 0, 0, 0, 0), some (.iload_n 2, 1, 0, 0, 0, 0), some (.iload 7, 2, 0, 0, 0, 0), none, some (.invokestatic 210, 3, 110, 3, 0, 272), none, none, some (.ifCond .ne 6, 3, 0, 0, 0, 0), none, none, some (.goto 39, 3, 0, 0, 0, 0), none, none, some (.iconst 0, 1, 0, 0, 0, 0), some (.istore 8, 2, 0, 0, 0, 0), none, some (.iload 8, 2, 0, 0, 0, 0), none, some (.bipush 12, 2, 0, 0, 0, 0), none, some (.if_icmp .ge 29, 3, 0, 0, 0, 0), none, none, some (.aload_n 0, 1, 0, 0, 0, 0), some (.getfield 41, 3, 9, 11, 6, 293), none, none, some (.iload 8, 2, 0, 0, 0, 0), none, some (.dup2, 1, 0, 0, 0, 0), some (.laload, 1, 0, 0, 0, 0), some (.aload_n 3, 1, 0, 0, 0, 0), some (.bipush 12, 2, 0, 0, 0, 0), none, some (.iload 7, 2, 0, 0, 0, 0), none, some (.imul, 1, 0, 0, 0, 0), some (.iload 8, 2, 0, 0, 0, 0), none, some (.iadd, 1, 0, 0, 0, 0), some (.laload, 1, 0, 0, 0, 0), some (.lor, 1, 0, 0, 0, 0), some (.lastore, 1, 0, 0, 0, 0), some (.iinc 8 1, 3, 0, 0, 0, 0), none, none, some (.goto (-30), 3, 0, 0, 0, 0), none, none, some (.iinc 6 1, 3, 0, 0, 0, 0), none, none, some (.goto (-70), 3, 0, 0, 0, 0), none, none, some (.iconst 0, 1, 0, 0, 0, 0), some (.istore 6, 2, 0, 0, 0, 0), none, some (.iload 6, 2, 0, 0, 0, 0), none, some (.bipush 12, 2, 0, 0, 0, 0), none, some (.if_icmp .ge 24, 3, 0, 0, 0, 0), none, none, some (.aload 4, 2, 0, 0, 0, 0), none, some (.iload 5, 2, 0, 0, 0, 0), none, some (.iload 6, 2, 0, 0, 0, 0), none, some (.iadd, 1, 0, 0, 0, 0), some (.aload_n 0, 1, 0, 0, 0, 0), some (.getfield 41, 3, 9, 11, 6, 293), none, none, some (.iload 6, 2, 0, 0, 0, 0), none, some (.laload, 1, 0, 0, 0, 0), some (.lastore, 1, 0, 0, 0, 0), some (.iinc 6 1, 3, 0, 0, 0, 0), none, none, some (.goto (-25), 3, 0, 0, 0, 0), none, none, some (.return_, 1, 0, 0, 0, 0)]
def e_X9_in : List (Option EN) := [some (.iload_n 0, 1, 0, 0, 0, 0), some (.iload_n 1, 1, 0, 0, 0, 0), some (.if_icmp .lt 12, 3, 0, 0, 0, 0), none, none, some (.iload_n 0, 1, 0, 0, 0, 0), some (.iload_n 2, 1, 0, 0, 0, 0), some (.if_icmp .gt 7, 3, 0, 0, 0, 0), none, none, some (.iconst 1, 1, 0, 0, 0, 0), some (.goto 4, 3, 0, 0, 0, 0), none, none, some (.iconst 0, 1, 0, 0, 0, 0), some (.ireturn, 1, 0, 0, 0, 0)]
def e_X9_init : List (Option EN) := [some (.aload_n 0, 1, 0, 0, 0, 0), some (.invokespecial 1, 3, 9999, 0, 0, 294), none, none, some (.aload_n 0, 1, 0, 0, 0, 0), some (.bipush 81, 2, 0, 0, 0, 0), none, some (.newarray .int, 2, 0, 0, 0, 0), none, some (.putfield 7, 3, 9, 0, 6, 242), none, none, some (.aload_n 0, 1, 0, 0, 0, 0), some (.bipush 81, 2, 0, 0, 0, 0), none, some (.newarray .int, 2, 0, 0, 0, 0), none, some (.putfield 13, 3, 9, 1, 6, 241), none, none, some (.aload_n 0, 1, 0, 0, 0, 0), some (.bipush 81, 2, 0, 0, 0, 0), none, some (.newarray .int, 2, 0, 0, 0, 0), none, some (.putfield 16, 3, 9, 2, 6, 243), none, none, some (.aload_n 0, 1, 0, 0, 0, 0), some (.bipush 81, 2, 0, 0, 0, 0), none, some (.newarray .int, 2, 0, 0, 0, 0), none, some (.putfield 19, 3, 9, 3, 6, 244), none, none, some (.aload_n 0, 1, 0, 0, 0, 0), some (.bipush 81, 2, 0, 0, 0, 0), none, some (.newarray .int, 2, 0, 0, 0, 0), none, some (.putfield 22, 3, 9, 4, 6, 259), none, none, some (.aload_n 0, 1, 0, 0, 0, 0), some (.sipush 8748, 3, 0, 0, 0, 0), none, none, some (.newarray .long, 2, 0, 0, 0, 0), none, some (.putfield 25, 3, 9, 5, 6, 269), none, none, some (.aload_n 0, 1, 0, 0, 0, 0), some (.sipush 8748, 3, 0, 0, 0, 0), none, none, some (.newarray .long, 2, 0, 0, 0, 0), none, some (.putfield 29, 3, 9, 6, 6, 271), none, none, some (.aload_n 0, 1, 0, 0, 0, 0), some (.sipush 729, 3, 0, 0, 0, 0), none, none, some (.newarray .int, 2, 0, 0, 0, 0), none, some (.putfield 32, 3, 9, 7, 6, 264), none, none, some (.aload_n 0, 1, 0, 0, 0, 0), some (.sipush 8748, 3, 0, 0, 0, 0), none, none, some (.newarray .long, 2, 0, 0, 0, 0), none, some (.putfield 35, 3, 9, 9, 6, 265), none, none, some (.aload_n 0, 1, 0, 0, 0, 0), some (.sipush 8748, 3, 0, 0, 0, 0), none, none, some (.newarray .long, 2, 0, 0, 0, 0), none, some (.putfield 38, 3, 9, 10, 6, 268), none, none, some (.aload_n 0, 1, 0, 0, 0, 0), some (.bipush 12, 2, 0, 0, 0, 0), none, some (.newarray .long, 2, 0, 0, 0, 0), none, some (.putfield 41, 3, 9, 11, 6, 293), none, none, some (.aload_n 0, 1, 0, 0, 0, 0), some (.sipush 288, 3, 0, 0, 0, 0), none, none, some (.newarray .long, 2, 0, 0, 0, 0), none, some (.putfield 44, 3, 9, 12, 6, 295), none, none, some (.aload_n 0, 1, 0, 0, 0, 0), some (.bipush 24, 2, 0, 0, 0, 0), none, some (.newarray .int, 2, 0, 0, 0, 0), none, some (.putfield 47, 3, 9, 13, 6, 296), none, none, some (.aload_n 0, 1, 0, 0, 0, 0), some (.sipush 730, 3, 0, 0, 0, 0), none, none, some (.newarray .int, 2, 0, 0, 0, 0), none, some (.putfield 50, 3, 9, 14, 6, 297), none, none, some (.aload_n 0, 1, 0, 0, 0, 0), some (.sipush 730, 3, 0, 0, 0, 0), none, none, some (.newarray .int, 2, 0, 0, 0, 0), none, some (.putfield 53, 3, 9, 15, 6, 298), none, none, some (.aload_n 0, 1, 0, 0, 0, 0), some (.sipush 730, 3, 0, 0, 0, 0), none, none, some (.newarray .int, 2, 0, 0, 0, 0), none, some (.putfield 56, 3, 9, 16, 6, 299), none, none, some (.aload_n 0, 1, 0, 0, 0, 0), some (.sipush 730, 3, 0, 0, 0, 0), none, none, some (.newarray .int, 2, 0, 0, 0, 0), none, some (.putfield 59, 3, 9, 17, 6, 289), none, none, some (.aload_n 0, 1, 0, 0, 0, 0), some (.sipush 730, 3, 0, 0, 0, 0), none, none, some (.newarray .int, 2, 0, 0, 0, 0), none, some (.putfield 62, 3, 9, 18, 6, 291), none, none, some (.aload_n 0, 1, 0, 0, 0, 0), some (.sipush 730, 3, 0, 0, 0, 0), none, none, some (.newarray .int, 2, 0, 0, 0, 0), none, some (.putfield 65, 3, 9, 19, 6, 300), none, none, some (.aload_n 0, 1, 0, 0, 0, 0), some (.sipush 730, 3, 0, 0, 0, 0), none, none, some (.newarray .int, 2, 0, 0, 0, 0), none, some (.putfield 68, 3, 9, 20, 6, 290), none, none, some (.aload_n 0, 1, 0, 0, 0, 0), some (.sipush 17520, 3, 0, 0, 0, 0), none, none, some (.newarray .int, 2, 0, 0, 0, 0), none, some (.putfield 71, 3, 9, 21, 6, 301), none, none, some (.aload_n 0, 1, 0, 0, 0, 0), some (.bipush 24, 2, 0, 0, 0, 0), none, some (.newarray .int, 2, 0, 0, 0, 0), none, some (.putfield 74, 3, 9, 30, 6, 274), none, none, some (.aload_n 0, 1, 0, 0, 0, 0), some (.sipush 6642, 3, 0, 0, 0, 0), none, none, some (.newarray .int, 2, 0, 0, 0, 0), none, some (.putfield 77, 3, 9, 32, 6, 302), none, none, some (.aload_n 0, 1, 0, 0, 0, 0), some (.bipush 82, 2, 0, 0, 0, 0), none, some (.newarray .int, 2, 0, 0, 0, 0), none, some (.putfield 80, 3, 9, 33, 6, 303), none, none, some (.aload_n 0, 1, 0, 0, 0, 0), some (.bipush 82, 2, 0, 0, 0, 0), none, some (.newarray .int, 2, 0, 0, 0, 0), none, some (.putfield 83, 3, 9, 34, 6, 304), none, none, some (.aload_n 0, 1, 0, 0, 0, 0), some (.bipush 81, 2, 0, 0, 0, 0), none, some (.newarray .int, 2, 0, 0, 0, 0), none, some (.putfield 86, 3, 9, 35, 6, 281), none, none, some (.aload_n 0, 1, 0, 0, 0, 0), some (.sipush 162, 3, 0, 0, 0, 0), none, none, some (.newarray .int, 2, 0, 0, 0, 0), none, some (.putfield 89, 3, 9, 36, 6, 305), none, none, some (.aload_n 0, 1, 0, 0, 0, 0), some (.invokevirtual 92, 3, 91, 0, 0, 288), none, none, some (.return_, 1, 0, 0, 0, 0)]
def e_X9_instance : List (Option EN) := [some (.aload_n 0, 1, 0, 0, 0, 0), some (.invokevirtual 143, 3, 99, 0, 0, 256), none, none, some (.iload_n 2, 1, 0, 0, 0, 0), some (.tableswitch 170 0 12 #[67, 80, 93, 106, 119, 136, 119, 136, 153, 119, 136, 153, 153], 67, 0, 0, 0, 0), none, none, none, none, none, none, none, none, none, none, none, none, none, none, none, none, none, none, none, none, none, none, none, none, none, none, none, none, none, none, none, none, none, none, none, none, none, none, none, none, none, none, none, none, none, none, none, none, none, none, none, none, none, none, none, none, none, none, none, none, none, none, none, none, none, none, some (.aload_n 0, 1, 0, 0, 0, 0), some (.aload_n 1, 1, 0, 0, 0, 0), some (.iload_n 3, 1, 0, 0, 0, 0), some (.iload 4, 2, 0, 0, 0, 0), none, some (.invokevirtual 146, 3, 137, 3, 0, 306), none, none, some (.istore 5, 2, 0, 0, 0, 0), none, some (.goto 95, 3, 0, 0, 0, 0), none, none, some (.aload_n 0, 1, 0, 0, 0, 0), some (.aload_n 1, 1, 0, 0, 0, 0), some (.iload_n 3, 1, 0, 0, 0, 0), some (.iload 4, 2, 0, 0, 0, 0), none, some (.invokevirtual 150, 3, 112, 3, 0, 307), none, none, some (.istore 5, 2, 0, 0, 0, 0), none, some (.goto 82, 3, 0, 0, 0, 0), none, none, some (.aload_n 0, 1, 0, 0, 0, 0), some (.aload_n 1, 1, 0, 0, 0, 0), some (.iload_n 3, 1, 0, 0, 0, 0), some (.iload 4, 2, 0, 0, 0, 0), none, some (.invokevirtual 153, 3, 131, 3, 0, 308), none, none, some (.istore 5, 2, 0, 0, 0, 0), none, some (.goto 69, 3, 0, 0, 0, 0), none, none, some (.aload_n 0, 1, 0, 0, 0, 0), some (.aload_n 1, 1, 0, 0, 0, 0), some (.iload_n 3, 1, 0, 0, 0, 0), some (.iload 4, 2, 0, 0, 0, 0), none, some (.invokevirtual 156, 3, 98, 3, 0, 309), none, none, some (.istore 5, 2, 0, 0, 0, 0), none, some (.goto 56, 3, 0, 0, 0, 0), none, none, some (.aload_n 0, 1, 0, 0, 0, 0), some (.aload_n 1, 1, 0, 0, 0, 0), some (.iload_n 3, 1, 0, 0, 0, 0), some (.iload 4, 2, 0, 0, 0, 0), none, some (.iload_n 2, 1, 0, 0, 0, 0), some (.invokestatic 159, 3, 138, 1, 0, 283), none, none, some (.invokevirtual 162, 3, 128, 4, 0, 310), none, none, some (.istore 5, 2, 0, 0, 0, 0), none, some (.goto 39, 3, 0, 0, 0, 0), none, none, some (.aload_n 0, 1, 0, 0, 0, 0), some (.aload_n 1, 1, 0, 0, 0, 0), some (.iload_n 3, 1, 0, 0, 0, 0), some (.iload 4, 2, 0, 0, 0, 0), none, some (.iload_n 2, 1, 0, 0, 0, 0), some (.invokestatic 159, 3, 138, 1, 0, 283), none, none, some (.invokevirtual 166, 3, 111, 4, 0, 311), none, none, some (.istore 5, 2, 0, 0, 0, 0), none, some (.goto 22, 3, 0, 0, 0, 0), none, none, some (.aload_n 0, 1, 0, 0, 0, 0), some (.aload_n 1, 1, 0, 0, 0, 0), some (.iload_n 3, 1, 0, 0, 0, 0), some (.iload 4, 2, 0, 0, 0, 0), none, some (.iload_n 2, 1, 0, 0, 0, 0), some (.invokestatic 159, 3, 138, 1, 0, 283), none, none, some (.invokevirtual 169, 3, 103, 4, 0, 312), none, none, some (.istore 5, 2, 0, 0, 0, 0), none, some (.goto 5, 3, 0, 0, 0, 0), none, none, some (.iconst 0, 1, 0, 0, 0, 0), some (.ireturn, 1, 0, 0, 0, 0), some (.iload 5, 2, 0, 0, 0, 0), none, some (.ifCond .eq 11, 3, 0, 0, 0, 0), none, none, some (.aload_n 0, 1, 0, 0, 0, 0), some (.aload_n 1, 1, 0, 0, 0, 0), some (.invokevirtual 172, 3, 143, 1, 0, 260), none, none, some (.goto 4, 3, 0, 0, 0, 0), none, none, some (.iconst 0, 1, 0, 0, 0, 0), some (.ireturn, 1, 0, 0, 0, 0)]
def e_X9_isDead : List (Option EN) := [some (.iconst 0, 1, 0, 0, 0, 0), some (.istore_n 1, 1, 0, 0, 0, 0), some (.iload_n 1, 1, 0, 0, 0, 0), some (.bipush 81, 2, 0, 0, 0, 0), none, some (.if_icmp .ge 20, 3, 0, 0, 0, 0), none, none, some (.aload_n 0, 1, 0, 0, 0, 0), some (.getfield 86, 3, 9, 35, 6, 281), none, none, some (.iload_n 1, 1, 0, 0, 0, 0), some (.iaload, 1, 0, 0, 0, 0), some (.ifCond .ne 5, 3, 0, 0, 0, 0), none, none, some (.iconst 1, 1, 0, 0, 0, 0), some (.ireturn, 1, 0, 0, 0, 0), some (.iinc 1 1, 3, 0, 0, 0, 0), none, none, some (.goto (-20), 3, 0, 0, 0, 0), none, none, some (.iconst 0, 1, 0, 0, 0, 0), some (.istore_n 1, 1, 0, 0, 0, 0), some (.iload_n 1, 1, 0, 0, 0, 0), some (.bipush 27, 2, 0, 0, 0, 0), none, some (.if_icmp .ge 47, 3, 0, 0, 0, 0), none, none, some (.iconst 0, 1, 0, 0, 0, 0), some (.istore_n 2, 1, 0, 0, 0, 0), some (.iconst 0, 1, 0, 0, 0, 0), some (.istore_n 3, 1, 0, 0, 0, 0), some (.iload_n 3, 1, 0, 0, 0, 0), some (.bipush 9, 2, 0, 0, 0, 0), none, some (.if_icmp .ge 22, 3, 0, 0, 0, 0), none, none, some (.iload_n 2, 1, 0, 0, 0, 0), some (.aload_n 0, 1, 0, 0, 0, 0), some (.getfield 86, 3, 9, 35, 6, 281), none, none, some (.iload_n 1, 1, 0, 0, 0, 0), some (.iload_n 3, 1, 0, 0, 0, 0), some (.invokestatic 179, 3, 95, 2, 0, 279), none, none, some (.iaload, 1, 0, 0, 0, 0), some (.ior, 1, 0, 0, 0, 0), some (.istore_n 2, 1, 0, 0, 0, 0), some (.iinc 3 1, 3, 0, 0, 0, 0), none, none, some (.goto (-22), 3, 0, 0, 0, 0), none, none, some (.iload_n 2, 1, 0, 0, 0, 0), some (.sipush 511, 3, 0, 0, 0, 0), none, none, some (.if_icmp .eq 5, 3, 0, 0, 0, 0), none, none, some (.iconst 1, 1, 0, 0, 0, 0), some (.ireturn, 1, 0, 0, 0, 0), some (.iinc 1 1, 3, 0, 0, 0, 0), none, none, some (.goto (-47), 3, 0, 0, 0, 0), none, none, some (.iconst 0, 1, 0, 0, 0, 0), some (.ireturn, 1, 0, 0, 0, 0)]
def e_X9_isIn : List (Option EN) := [some (.iload_n 0, 1, 0, 0, 0, 0), some (.iload_n 1, 1, 0, 0, 0, 0), some (.bipush 9, 2, 0, 0, 0, 0), none, some (.if_icmp .ge 7, 3, 0, 0, 0, 0), none, none, some (.iconst 0, 1, 0, 0, 0, 0), some (.goto 14, 3, 0, 0, 0, 0), none, none, some (.iload_n 1, 1, 0, 0, 0, 0), some (.bipush 18, 2, 0, 0, 0, 0), none, some (.if_icmp .ge 7, 3, 0, 0, 0, 0), none, none, some (.iconst 1, 1, 0, 0, 0, 0), some (.goto 4, 3, 0, 0, 0, 0), none, none, some (.iconst 2, 1, 0, 0, 0, 0), some (.invokestatic 95, 3, 113, 2, 0, 240), none, none, some (.iload_n 1, 1, 0, 0, 0, 0), some (.if_icmp .ne 7, 3, 0, 0, 0, 0), none, none, some (.iconst 1, 1, 0, 0, 0, 0), some (.goto 4, 3, 0, 0, 0, 0), none, none, some (.iconst 0, 1, 0, 0, 0, 0), some (.ireturn, 1, 0, 0, 0, 0)]
def e_X9_isStrong : List (Option EN) := [some (.aload_n 0, 1, 0, 0, 0, 0), some (.iload_n 1, 1, 0, 0, 0, 0), some (.iload_n 2, 1, 0, 0, 0, 0), some (.invokestatic 193, 3, 122, 3, 0, 258), none, none, some (.ifCond .ne 5, 3, 0, 0, 0, 0), none, none, some (.iconst 0, 1, 0, 0, 0, 0), some (.ireturn, 1, 0, 0, 0, 0), some (.iload_n 1, 1, 0, 0, 0, 0), some (.bipush 9, 2, 0, 0, 0, 0), none, some (.idiv, 1, 0, 0, 0, 0), some (.iload_n 2, 1, 0, 0, 0, 0), some (.bipush 9, 2, 0, 0, 0, 0), none, some (.idiv, 1, 0, 0, 0, 0), some (.if_icmp .ne 22, 3, 0, 0, 0, 0), none, none, some (.aload_n 0, 1, 0, 0, 0, 0), some (.iload_n 1, 1, 0, 0, 0, 0), some (.bipush 9, 2, 0, 0, 0, 0), none, some (.idiv, 1, 0, 0, 0, 0), some (.iaload, 1, 0, 0, 0, 0), some (.invokestatic 139, 3, 92, 1, 0, 284), none, none, some (.iconst 2, 1, 0, 0, 0, 0), some (.if_icmp .ne 7, 3, 0, 0, 0, 0), none, none, some (.iconst 1, 1, 0, 0, 0, 0), some (.goto 4, 3, 0, 0, 0, 0), none, none, some (.iconst 0, 1, 0, 0, 0, 0), some (.ireturn, 1, 0, 0, 0, 0), some (.iconst 0, 1, 0, 0, 0, 0), some (.istore_n 3, 1, 0, 0, 0, 0), some (.iload_n 3, 1, 0, 0, 0, 0), some (.iconst 3, 1, 0, 0, 0, 0), some (.if_icmp .ge 53, 3, 0, 0, 0, 0), none, none, some (.iload_n 1, 1, 0, 0, 0, 0), some (.bipush 9, 2, 0, 0, 0, 0), none, some (.idiv, 1, 0, 0, 0, 0), some (.iload_n 3, 1, 0, 0, 0, 0), some (.invokestatic 95, 3, 113, 2, 0, 240), none, none, some (.istore 4, 2, 0, 0, 0, 0), none, some (.iload 4, 2, 0, 0, 0, 0), none, some (.iload_n 2, 1, 0, 0, 0, 0), some (.bipush 9, 2, 0, 0, 0, 0), none, some (.idiv, 1, 0, 0, 0, 0), some (.iload_n 3, 1, 0, 0, 0, 0), some (.invokestatic 95, 3, 113, 2, 0, 240), none, none, some (.if_icmp .ne 24, 3, 0, 0, 0, 0), none, none, some (.aload_n 0, 1, 0, 0, 0, 0), some (.iload 4, 2, 0, 0, 0, 0), none, some (.iload_n 1, 1, 0, 0, 0, 0), some (.bipush 9, 2, 0, 0, 0, 0), none, some (.irem, 1, 0, 0, 0, 0), some (.iconst 1, 1, 0, 0, 0, 0), some (.iadd, 1, 0, 0, 0, 0), some (.invokestatic 182, 3, 130, 3, 0, 278), none, none, some (.invokestatic 139, 3, 92, 1, 0, 284), none, none, some (.iconst 2, 1, 0, 0, 0, 0), some (.if_icmp .ne 5, 3, 0, 0, 0, 0), none, none, some (.iconst 1, 1, 0, 0, 0, 0), some (.ireturn, 1, 0, 0, 0, 0), some (.iinc 3 1, 3, 0, 0, 0, 0), none, none, some (.goto (-52), 3, 0, 0, 0, 0), none, none, some (.iconst 0, 1, 0, 0, 0, 0), some (.ireturn, 1, 0, 0, 0, 0)]
def e_X9_isThere : List (Option EN) := [some (.aload_n 0, 1, 0, 0, 0, 0), some (.iload_n 1, 1, 0, 0, 0, 0), some (.bipush 9, 2, 0, 0, 0, 0), none, some (.idiv, 1, 0, 0, 0, 0), some (.iaload, 1, 0, 0, 0, 0), some (.iload_n 1, 1, 0, 0, 0, 0), some (.bipush 9, 2, 0, 0, 0, 0), none, some (.irem, 1, 0, 0, 0, 0), some (.ishr, 1, 0, 0, 0, 0), some (.iconst 1, 1, 0, 0, 0, 0), some (.iand, 1, 0, 0, 0, 0), some (.iconst 1, 1, 0, 0, 0, 0), some (.if_icmp .ne 7, 3, 0, 0, 0, 0), none, none, some (.iconst 1, 1, 0, 0, 0, 0), some (.goto 4, 3, 0, 0, 0, 0), none, none, some (.iconst 0, 1, 0, 0, 0, 0), some (.ireturn, 1, 0, 0, 0, 0)]
def e_X9_isWeak : List (Option EN) := [some (.iload_n 1, 1, 0, 0, 0, 0), some (.iload_n 2, 1, 0, 0, 0, 0), some (.if_icmp .eq 19, 3, 0, 0, 0, 0), none, none, some (.aload_n 0, 1, 0, 0, 0, 0), some (.iload_n 1, 1, 0, 0, 0, 0), some (.invokestatic 189, 3, 121, 2, 0, 313), none, none, some (.ifCond .eq 11, 3, 0, 0, 0, 0), none, none, some (.aload_n 0, 1, 0, 0, 0, 0), some (.iload_n 2, 1, 0, 0, 0, 0), some (.invokestatic 189, 3, 121, 2, 0, 313), none, none, some (.ifCond .ne 5, 3, 0, 0, 0, 0), none, none, some (.iconst 0, 1, 0, 0, 0, 0), some (.ireturn, 1, 0, 0, 0, 0), some (.iload_n 1, 1, 0, 0, 0, 0), some (.bipush 9, 2, 0, 0, 0, 0), none, some (.idiv, 1, 0, 0, 0, 0), some (.iload_n 2, 1, 0, 0, 0, 0), some (.bipush 9, 2, 0, 0, 0, 0), none, some (.idiv, 1, 0, 0, 0, 0), some (.if_icmp .eq 28, 3, 0, 0, 0, 0), none, none, some (.iload_n 1, 1, 0, 0, 0, 0), some (.bipush 9, 2, 0, 0, 0, 0), none, some (.irem, 1, 0, 0, 0, 0), some (.iload_n 2, 1, 0, 0, 0, 0), some (.bipush 9, 2, 0, 0, 0, 0), none, some (.irem, 1, 0, 0, 0, 0), some (.if_icmp .ne 21, 3, 0, 0, 0, 0), none, none, some (.iload_n 1, 1, 0, 0, 0, 0), some (.bipush 9, 2, 0, 0, 0, 0), none, some (.idiv, 1, 0, 0, 0, 0), some (.iload_n 2, 1, 0, 0, 0, 0), some (.bipush 9, 2, 0, 0, 0, 0), none, some (.idiv, 1, 0, 0, 0, 0), some (.invokestatic 175, 3, 90, 2, 0, 314), none, none, some (.ifCond .eq 7, 3, 0, 0, 0, 0), none, none, some (.iconst 1, 1, 0, 0, 0, 0), some (.goto 4, 3, 0, 0, 0, 0), none, none, some (.iconst 0, 1, 0, 0, 0, 0), some (.ireturn, 1, 0, 0, 0, 0)]
def e_X9_leaves : List (Option EN) := [some (.aload_n 0, 1, 0, 0, 0, 0), some (.getfield 131, 3, 9, 39, 0, 255), none, none, some (.ifCond .le 57, 3, 0, 0, 0, 0), none, none, some (.aload_n 0, 1, 0, 0, 0, 0), some (.getfield 77, 3, 9, 32, 6, 302), none, none, some (.bipush 81, 2, 0, 0, 0, 0), none, some (.aload_n 0, 1, 0, 0, 0, 0), some (.getfield 131, 3, 9, 39, 0, 255), none, none, some (.iconst 1, 1, 0, 0, 0, 0), some (.isub, 1, 0, 0, 0, 0), some (.imul, 1, 0, 0, 0, 0), some (.aload_n 0, 1, 0, 0, 0, 0), some (.getfield 80, 3, 9, 33, 6, 303), none, none, some (.aload_n 0, 1, 0, 0, 0, 0), some (.getfield 131, 3, 9, 39, 0, 255), none, none, some (.iconst 1, 1, 0, 0, 0, 0), some (.isub, 1, 0, 0, 0, 0), some (.iaload, 1, 0, 0, 0, 0), some (.iadd, 1, 0, 0, 0, 0), some (.iaload, 1, 0, 0, 0, 0), some (.aload_n 0, 1, 0, 0, 0, 0), some (.getfield 83, 3, 9, 34, 6, 304), none, none, some (.aload_n 0, 1, 0, 0, 0, 0), some (.getfield 131, 3, 9, 39, 0, 255), none, none, some (.iconst 1, 1, 0, 0, 0, 0), some (.isub, 1, 0, 0, 0, 0), some (.iaload, 1, 0, 0, 0, 0), some (.ishr, 1, 0, 0, 0, 0), some (.ifCond .ne 16, 3, 0, 0, 0, 0), none, none, some (.aload_n 0, 1, 0, 0, 0, 0), some (.dup, 1, 0, 0, 0, 0), some (.getfield 131, 3, 9, 39, 0, 255), none, none, some (.iconst 1, 1, 0, 0, 0, 0), some (.isub, 1, 0, 0, 0, 0), some (.putfield 131, 3, 9, 39, 0, 255), none, none, some (.goto (-58), 3, 0, 0, 0, 0), none, none, some (.aload_n 0, 1, 0, 0, 0, 0), some (.aload_n 0, 1, 0, 0, 0, 0), some (.getfield 131, 3, 9, 39, 0, 255), none, none, some (.ifCond .eq 11, 3, 0, 0, 0, 0), none, none, some (.aload_n 0, 1, 0, 0, 0, 0), some (.getfield 119, 3, 9, 37, 0, 251), none, none, some (.iconst 2, 1, 0, 0, 0, 0), some (.if_icmp .ne 7, 3, 0, 0, 0, 0), none, none, some (.iconst 1, 1, 0, 0, 0, 0), some (.goto 4, 3, 0, 0, 0, 0), none, none, some (.iconst 0, 1, 0, 0, 0, 0), some (.putfield 128, 3, 9, 41, 1, 254), none, none, some (.return_, 1, 0, 0, 0, 0)]
def e_X9_link : List (Option EN) := [some (.aload_n 1, 1, 0, 0, 0, 0), some (.iload_n 2, 1, 0, 0, 0, 0), some (.iload_n 3, 1, 0, 0, 0, 0), some (.invokestatic 193, 3, 122, 3, 0, 258), none, none, some (.ifCond .ne 4, 3, 0, 0, 0, 0), none, none, some (.return_, 1, 0, 0, 0, 0), some (.aload_n 0, 1, 0, 0, 0, 0), some (.getfield 25, 3, 9, 5, 6, 269), none, none, some (.bipush 12, 2, 0, 0, 0, 0), none, some (.iload_n 2, 1, 0, 0, 0, 0), some (.imul, 1, 0, 0, 0, 0), some (.iload_n 3, 1, 0, 0, 0, 0), some (.invokestatic 203, 3, 89, 3, 0, 267), none, none, some (.aload_n 0, 1, 0, 0, 0, 0), some (.getfield 25, 3, 9, 5, 6, 269), none, none, some (.bipush 12, 2, 0, 0, 0, 0), none, some (.iload_n 3, 1, 0, 0, 0, 0), some (.imul, 1, 0, 0, 0, 0), some (.iload_n 2, 1, 0, 0, 0, 0), some (.invokestatic 203, 3, 89, 3, 0, 267), none, none, some (.aload_n 1, 1, 0, 0, 0, 0), some (.iload_n 2, 1, 0, 0, 0, 0), some (.iload_n 3, 1, 0, 0, 0, 0), some (.invokestatic 207, 3, 120, 3, 0, 257), none, none, some (.ifCond .ne 4, 3, 0, 0, 0, 0), none, none, some (.return_, 1, 0, 0, 0, 0), some (.aload_n 0, 1, 0, 0, 0, 0), some (.getfield 29, 3, 9, 6, 6, 271), none, none, some (.bipush 12, 2, 0, 0, 0, 0), none, some (.iload_n 2, 1, 0, 0, 0, 0), some (.imul, 1, 0, 0, 0, 0), some (.iload_n 3, 1, 0, 0, 0, 0), some (.invokestatic 203, 3, 89, 3, 0, 267), none, none, some (.aload_n 0, 1, 0, 0, 0, 0), some (.getfield 29, 3, 9, 6, 6, 271), none, none, some (.bipush 12, 2, 0, 0, 0, 0), none, some (.iload_n 3, 1, 0, 0, 0, 0), some (.imul, 1, 0, 0, 0, 0), some (.iload_n 2, 1, 0, 0, 0, 0), some (.invokestatic 203, 3, 89, 3, 0, 267), none, none, some (.return_, 1, 0, 0, 0, 0)]
def e_X9_link_ : List (Option EN) := [some (.iload_n 1, 1, 0, 0, 0, 0), some (.iconst 0, 1, 0, 0, 0, 0), some (.aload_n 0, 1, 0, 0, 0, 0), some (.getfield 99, 3, 9, 22, 0, 245), none, none, some (.iconst 1, 1, 0, 0, 0, 0), some (.isub, 1, 0, 0, 0, 0), some (.invokestatic 134, 3, 115, 3, 0, 261), none, none, some (.ifCond .eq 33, 3, 0, 0, 0, 0), none, none, some (.iload_n 2, 1, 0, 0, 0, 0), some (.iconst 0, 1, 0, 0, 0, 0), some (.aload_n 0, 1, 0, 0, 0, 0), some (.getfield 65, 3, 9, 19, 6, 300), none, none, some (.iload_n 1, 1, 0, 0, 0, 0), some (.iaload, 1, 0, 0, 0, 0), some (.iconst 1, 1, 0, 0, 0, 0), some (.isub, 1, 0, 0, 0, 0), some (.invokestatic 134, 3, 115, 3, 0, 261), none, none, some (.ifCond .eq 17, 3, 0, 0, 0, 0), none, none, some (.aload_n 0, 1, 0, 0, 0, 0), some (.getfield 71, 3, 9, 21, 6, 301), none, none, some (.bipush 24, 2, 0, 0, 0, 0), none, some (.iload_n 1, 1, 0, 0, 0, 0), some (.imul, 1, 0, 0, 0, 0), some (.iload_n 2, 1, 0, 0, 0, 0), some (.iadd, 1, 0, 0, 0, 0), some (.iaload, 1, 0, 0, 0, 0), some (.goto 4, 3, 0, 0, 0, 0), none, none, some (.iconst (-1), 1, 0, 0, 0, 0), some (.ireturn, 1, 0, 0, 0, 0)]
def e_X9_links : List (Option EN) := [some (.iconst 0, 1, 0, 0, 0, 0), some (.istore_n 2, 1, 0, 0, 0, 0), some (.iload_n 2, 1, 0, 0, 0, 0), some (.sipush 8748, 3, 0, 0, 0, 0), none, none, some (.if_icmp .ge 23, 3, 0, 0, 0, 0), none, none, some (.aload_n 0, 1, 0, 0, 0, 0), some (.getfield 25, 3, 9, 5, 6, 269), none, none, some (.iload_n 2, 1, 0, 0, 0, 0), some (.lconst 0, 1, 0, 0, 0, 0), some (.lastore, 1, 0, 0, 0, 0), some (.aload_n 0, 1, 0, 0, 0, 0), some (.getfield 29, 3, 9, 6, 6, 271), none, none, some (.iload_n 2, 1, 0, 0, 0, 0), some (.lconst 0, 1, 0, 0, 0, 0), some (.lastore, 1, 0, 0, 0, 0), some (.iinc 2 1, 3, 0, 0, 0, 0), none, none, some (.goto (-24), 3, 0, 0, 0, 0), none, none, some (.aload_n 0, 1, 0, 0, 0, 0), some (.iconst 0, 1, 0, 0, 0, 0), some (.putfield 196, 3, 9, 8, 0, 263), none, none, some (.iconst 0, 1, 0, 0, 0, 0), some (.istore_n 2, 1, 0, 0, 0, 0), some (.iload_n 2, 1, 0, 0, 0, 0), some (.sipush 729, 3, 0, 0, 0, 0), none, none, some (.if_icmp .ge 40, 3, 0, 0, 0, 0), none, none, some (.aload_n 1, 1, 0, 0, 0, 0), some (.iload_n 2, 1, 0, 0, 0, 0), some (.invokestatic 189, 3, 121, 2, 0, 313), none, none, some (.ifCond .ne 6, 3, 0, 0, 0, 0), none, none, some (.goto 23, 3, 0, 0, 0, 0), none, none, some (.aload_n 0, 1, 0, 0, 0, 0), some (.getfield 32, 3, 9, 7, 6, 264), none, none, some (.aload_n 0, 1, 0, 0, 0, 0), some (.getfield 196, 3, 9, 8, 0, 263), none, none, some (.iload_n 2, 1, 0, 0, 0, 0), some (.iastore, 1, 0, 0, 0, 0), some (.aload_n 0, 1, 0, 0, 0, 0), some (.dup, 1, 0, 0, 0, 0), some (.getfield 196, 3, 9, 8, 0, 263), none, none, some (.iconst 1, 1, 0, 0, 0, 0), some (.iadd, 1, 0, 0, 0, 0), some (.putfield 196, 3, 9, 8, 0, 263), none, none, some (.iinc 2 1, 3, 0, 0, 0, 0), none, none, some (.goto (-41), 3, 0, 0, 0, 0), none, none, some (.iconst 0, 1, 0, 0, 0, 0), some (.istore_n 2, 1, 0, 0, 0, 0), some (.iload_n 2, 1, 0, 0, 0, 0), some (.aload_n 0, 1, 0, 0, 0, 0), some (.getfield 196, 3, 9, 8, 0, 263), none, none, some (.if_icmp .ge 39, 3, 0, 0, 0, 0), none, none, some (.iconst 0, 1, 0, 0, 0, 0), some (.istore_n 3, 1, 0, 0, 0, 0), some (.iload_n 3, 1, 0, 0, 0, 0), some (.iload_n 2, 1, 0, 0, 0, 0), some (.if_icmp .ge 26, 3, 0, 0, 0, 0), none, none, some (.aload_n 0, 1, 0, 0, 0, 0), some (.aload_n 1, 1, 0, 0, 0, 0), some (.aload_n 0, 1, 0, 0, 0, 0), some (.getfield 32, 3, 9, 7, 6, 264), none, none, some (.iload_n 2, 1, 0, 0, 0, 0), some (.iaload, 1, 0, 0, 0, 0), some (.aload_n 0, 1, 0, 0, 0, 0), some (.getfield 32, 3, 9, 7, 6, 264), none, none, some (.iload_n 3, 1, 0, 0, 0, 0), some (.iaload, 1, 0, 0, 0, 0), some (.invokevirtual 199, 3, 124, 3, 0, 315), none, none, some (.iinc 3 1, 3, 0, 0, 0, 0), none, none, some (.goto (-25), 3, 0, 0, 0, 0), none, none, some (.iinc 2 1, 3, 0, 0, 0, 0), none, none, some (.goto (-41), 3, 0, 0, 0, 0), none, none, some (.return_, 1, 0, 0, 0, 0)]
def e_X9_meets : List (Option EN) := [some (.aload_n 0, 1, 0, 0, 0, 0), some (.invokevirtual 270, 3, 100, 0, 0, 316), none, none, some (.aload_n 0, 1, 0, 0, 0, 0), some (.invokevirtual 273, 3, 118, 0, 0, 317), none, none, some (.ifCond .eq 4, 3, 0, 0, 0, 0), none, none, some (.return_, 1, 0, 0, 0, 0), some (.iconst (-1), 1, 0, 0, 0, 0), some (.istore_n 1, 1, 0, 0, 0, 0), some (.iconst 0, 1, 0, 0, 0, 0), some (.istore_n 2, 1, 0, 0, 0, 0), some (.iload_n 2, 1, 0, 0, 0, 0), some (.bipush 81, 2, 0, 0, 0, 0), none, some (.if_icmp .ge 49, 3, 0, 0, 0, 0), none, none, some (.aload_n 0, 1, 0, 0, 0, 0), some (.getfield 86, 3, 9, 35, 6, 281), none, none, some (.iload_n 2, 1, 0, 0, 0, 0), some (.iaload, 1, 0, 0, 0, 0), some (.invokestatic 139, 3, 92, 1, 0, 284), none, none, some (.iconst 1, 1, 0, 0, 0, 0), some (.if_icmp .le 30, 3, 0, 0, 0, 0), none, none, some (.iload_n 1, 1, 0, 0, 0, 0), some (.ifCond .lt 24, 3, 0, 0, 0, 0), none, none, some (.aload_n 0, 1, 0, 0, 0, 0), some (.getfield 86, 3, 9, 35, 6, 281), none, none, some (.iload_n 2, 1, 0, 0, 0, 0), some (.iaload, 1, 0, 0, 0, 0), some (.invokestatic 139, 3, 92, 1, 0, 284), none, none, some (.aload_n 0, 1, 0, 0, 0, 0), some (.getfield 86, 3, 9, 35, 6, 281), none, none, some (.iload_n 1, 1, 0, 0, 0, 0), some (.iaload, 1, 0, 0, 0, 0), some (.invokestatic 139, 3, 92, 1, 0, 284), none, none, some (.if_icmp .ge 5, 3, 0, 0, 0, 0), none, none, some (.iload_n 2, 1, 0, 0, 0, 0), some (.istore_n 1, 1, 0, 0, 0, 0), some (.iinc 2 1, 3, 0, 0, 0, 0), none, none, some (.goto (-49), 3, 0, 0, 0, 0), none, none, some (.iload_n 1, 1, 0, 0, 0, 0), some (.ifCond .ge 62, 3, 0, 0, 0, 0), none, none, some (.iconst 0, 1, 0, 0, 0, 0), some (.istore_n 2, 1, 0, 0, 0, 0), some (.iload_n 2, 1, 0, 0, 0, 0), some (.bipush 81, 2, 0, 0, 0, 0), none, some (.if_icmp .ge 43, 3, 0, 0, 0, 0), none, none, some (.iconst 1, 1, 0, 0, 0, 0), some (.istore_n 3, 1, 0, 0, 0, 0), some (.aload_n 0, 1, 0, 0, 0, 0), some (.getfield 86, 3, 9, 35, 6, 281), none, none, some (.iload_n 2, 1, 0, 0, 0, 0), some (.iaload, 1, 0, 0, 0, 0), some (.iload_n 3, 1, 0, 0, 0, 0), some (.ishr, 1, 0, 0, 0, 0), some (.ifCond .eq 9, 3, 0, 0, 0, 0), none, none, some (.iinc 3 1, 3, 0, 0, 0, 0), none, none, some (.goto (-14), 3, 0, 0, 0, 0), none, none, some (.aload_n 0, 1, 0, 0, 0, 0), some (.getfield 89, 3, 9, 36, 6, 305), none, none, some (.bipush 81, 2, 0, 0, 0, 0), none, some (.aload_n 0, 1, 0, 0, 0, 0), some (.getfield 119, 3, 9, 37, 0, 251), none, none, some (.imul, 1, 0, 0, 0, 0), some (.iload_n 2, 1, 0, 0, 0, 0), some (.iadd, 1, 0, 0, 0, 0), some (.iload_n 3, 1, 0, 0, 0, 0), some (.iastore, 1, 0, 0, 0, 0), some (.iinc 2 1, 3, 0, 0, 0, 0), none, none, some (.goto (-43), 3, 0, 0, 0, 0), none, none, some (.aload_n 0, 1, 0, 0, 0, 0), some (.dup, 1, 0, 0, 0, 0), some (.getfield 119, 3, 9, 37, 0, 251), none, none, some (.iconst 1, 1, 0, 0, 0, 0), some (.iadd, 1, 0, 0, 0, 0), some (.putfield 119, 3, 9, 37, 0, 251), none, none, some (.return_, 1, 0, 0, 0, 0), some (.iconst 0, 1, 0, 0, 0, 0), some (.istore_n 2, 1, 0, 0, 0, 0), some (.iload_n 2, 1, 0, 0, 0, 0), some (.bipush 81, 2, 0, 0, 0, 0), none, some (.if_icmp .ge 29, 3, 0, 0, 0, 0), none, none, some (.aload_n 0, 1, 0, 0, 0, 0), some (.getfield 77, 3, 9, 32, 6, 302), none, none, some (.bipush 81, 2, 0, 0, 0, 0), none, some (.aload_n 0, 1, 0, 0, 0, 0), some (.getfield 131, 3, 9, 39, 0, 255), none, none, some (.imul, 1, 0, 0, 0, 0), some (.iload_n 2, 1, 0, 0, 0, 0), some (.iadd, 1, 0, 0, 0, 0), some (.aload_n 0, 1, 0, 0, 0, 0), some (.getfield 86, 3, 9, 35, 6, 281), none, none, some (.iload_n 2, 1, 0, 0, 0, 0), some (.iaload, 1, 0, 0, 0, 0), some (.iastore, 1, 0, 0, 0, 0), some (.iinc 2 1, 3, 0, 0, 0, 0), none, none, some (.goto (-29), 3, 0, 0, 0, 0), none, none, some (.aload_n 0, 1, 0, 0, 0, 0), some (.getfield 80, 3, 9, 33, 6, 303), none, none, some (.aload_n 0, 1, 0, 0, 0, 0), some (.getfield 131, 3, 9, 39, 0, 255), none, none, some (.iload_n 1, 1, 0, 0, 0, 0), some (.iastore, 1, 0, 0, 0, 0), some (.aload_n 0, 1, 0, 0, 0, 0), some (.getfield 83, 3, 9, 34, 6, 304), none, none, some (.aload_n 0, 1, 0, 0, 0, 0), some (.getfield 131, 3, 9, 39, 0, 255), none, none, some (.iconst 0, 1, 0, 0, 0, 0), some (.iastore, 1, 0, 0, 0, 0), some (.aload_n 0, 1, 0, 0, 0, 0), some (.dup, 1, 0, 0, 0, 0), some (.getfield 131, 3, 9, 39, 0, 255), none, none, some (.iconst 1, 1, 0, 0, 0, 0), some (.iadd, 1, 0, 0, 0, 0), some (.putfield 131, 3, 9, 39, 0, 255), none, none, some (.return_, 1, 0, 0, 0, 0)]
def e_X9_naked : List (Option EN) := [some (.iload_n 2, 1, 0, 0, 0, 0), some (.iconst 0, 1, 0, 0, 0, 0), some (.bipush 26, 2, 0, 0, 0, 0), none, some (.invokestatic 134, 3, 115, 3, 0, 261), none, none, some (.ifCond .eq 23, 3, 0, 0, 0, 0), none, none, some (.iload_n 3, 1, 0, 0, 0, 0), some (.iconst 0, 1, 0, 0, 0, 0), some (.sipush 511, 3, 0, 0, 0, 0), none, none, some (.invokestatic 134, 3, 115, 3, 0, 261), none, none, some (.ifCond .eq 12, 3, 0, 0, 0, 0), none, none, some (.iload_n 3, 1, 0, 0, 0, 0), some (.invokestatic 139, 3, 92, 1, 0, 284), none, none, some (.iload 4, 2, 0, 0, 0, 0), none, some (.if_icmp .eq 5, 3, 0, 0, 0, 0), none, none, some (.iconst 0, 1, 0, 0, 0, 0), some (.ireturn, 1, 0, 0, 0, 0), some (.iconst 0, 1, 0, 0, 0, 0), some (.istore 5, 2, 0, 0, 0, 0), none, some (.iconst 0, 1, 0, 0, 0, 0), some (.istore 6, 2, 0, 0, 0, 0), none, some (.iload 6, 2, 0, 0, 0, 0), none, some (.bipush 9, 2, 0, 0, 0, 0), none, some (.if_icmp .ge 32, 3, 0, 0, 0, 0), none, none, some (.iload_n 3, 1, 0, 0, 0, 0), some (.iload 6, 2, 0, 0, 0, 0), none, some (.ishr, 1, 0, 0, 0, 0), some (.iconst 1, 1, 0, 0, 0, 0), some (.iand, 1, 0, 0, 0, 0), some (.iconst 1, 1, 0, 0, 0, 0), some (.if_icmp .ne 16, 3, 0, 0, 0, 0), none, none, some (.iload 5, 2, 0, 0, 0, 0), none, some (.aload_n 1, 1, 0, 0, 0, 0), some (.iload_n 2, 1, 0, 0, 0, 0), some (.iload 6, 2, 0, 0, 0, 0), none, some (.invokestatic 179, 3, 95, 2, 0, 279), none, none, some (.iaload, 1, 0, 0, 0, 0), some (.ior, 1, 0, 0, 0, 0), some (.istore 5, 2, 0, 0, 0, 0), none, some (.iinc 6 1, 3, 0, 0, 0, 0), none, none, some (.goto (-33), 3, 0, 0, 0, 0), none, none, some (.iload 5, 2, 0, 0, 0, 0), none, some (.invokestatic 139, 3, 92, 1, 0, 284), none, none, some (.iload 4, 2, 0, 0, 0, 0), none, some (.if_icmp .eq 5, 3, 0, 0, 0, 0), none, none, some (.iconst 0, 1, 0, 0, 0, 0), some (.ireturn, 1, 0, 0, 0, 0), some (.iconst 0, 1, 0, 0, 0, 0), some (.istore 6, 2, 0, 0, 0, 0), none, some (.iload 6, 2, 0, 0, 0, 0), none, some (.bipush 9, 2, 0, 0, 0, 0), none, some (.if_icmp .ge 31, 3, 0, 0, 0, 0), none, none, some (.iload_n 3, 1, 0, 0, 0, 0), some (.iload 6, 2, 0, 0, 0, 0), none, some (.ishr, 1, 0, 0, 0, 0), some (.iconst 1, 1, 0, 0, 0, 0), some (.iand, 1, 0, 0, 0, 0), some (.ifCond .ne 16, 3, 0, 0, 0, 0), none, none, some (.aload_n 0, 1, 0, 0, 0, 0), some (.getfield 22, 3, 9, 4, 6, 259), none, none, some (.iload_n 2, 1, 0, 0, 0, 0), some (.iload 6, 2, 0, 0, 0, 0), none, some (.invokestatic 179, 3, 95, 2, 0, 279), none, none, some (.iload 5, 2, 0, 0, 0, 0), none, some (.iastore, 1, 0, 0, 0, 0), some (.iinc 6 1, 3, 0, 0, 0, 0), none, none, some (.goto (-32), 3, 0, 0, 0, 0), none, none, some (.iconst 1, 1, 0, 0, 0, 0), some (.ireturn, 1, 0, 0, 0, 0)]
def e_X9_node : List (Option EN) := [some (.iload_n 1, 1, 0, 0, 0, 0), some (.iconst 0, 1, 0, 0, 0, 0), some (.sipush 728, 3, 0, 0, 0, 0), none, none, some (.invokestatic 134, 3, 115, 3, 0, 261), none, none, some (.ifCond .eq 12, 3, 0, 0, 0, 0), none, none, some (.aload_n 0, 1, 0, 0, 0, 0), some (.getfield 116, 3, 9, 31, 0, 250), none, none, some (.bipush 24, 2, 0, 0, 0, 0), none, some (.if_icmp .ne 5, 3, 0, 0, 0, 0), none, none, some (.iconst (-1), 1, 0, 0, 0, 0), some (.ireturn, 1, 0, 0, 0, 0), some (.aload_n 0, 1, 0, 0, 0, 0), some (.getfield 74, 3, 9, 30, 6, 274), none, none, some (.aload_n 0, 1, 0, 0, 0, 0), some (.getfield 116, 3, 9, 31, 0, 250), none, none, some (.iload_n 1, 1, 0, 0, 0, 0), some (.iastore, 1, 0, 0, 0, 0), some (.aload_n 0, 1, 0, 0, 0, 0), some (.dup, 1, 0, 0, 0, 0), some (.getfield 116, 3, 9, 31, 0, 250), none, none, some (.iconst 1, 1, 0, 0, 0, 0), some (.iadd, 1, 0, 0, 0, 0), some (.putfield 116, 3, 9, 31, 0, 250), none, none, some (.aload_n 0, 1, 0, 0, 0, 0), some (.getfield 116, 3, 9, 31, 0, 250), none, none, some (.ireturn, 1, 0, 0, 0, 0)]
def e_X9_placesOf : List (Option EN) := [some (.iconst 0, 1, 0, 0, 0, 0), some (.istore_n 3, 1, 0, 0, 0, 0), some (.iconst 0, 1, 0, 0, 0, 0), some (.istore 4, 2, 0, 0, 0, 0), none, some (.iload 4, 2, 0, 0, 0, 0), none, some (.bipush 9, 2, 0, 0, 0, 0), none, some (.if_icmp .ge 29, 3, 0, 0, 0, 0), none, none, some (.iload_n 3, 1, 0, 0, 0, 0), some (.aload_n 0, 1, 0, 0, 0, 0), some (.iload_n 1, 1, 0, 0, 0, 0), some (.iload 4, 2, 0, 0, 0, 0), none, some (.invokestatic 179, 3, 95, 2, 0, 279), none, none, some (.iaload, 1, 0, 0, 0, 0), some (.iload_n 2, 1, 0, 0, 0, 0), some (.iconst 1, 1, 0, 0, 0, 0), some (.isub, 1, 0, 0, 0, 0), some (.ishr, 1, 0, 0, 0, 0), some (.iconst 1, 1, 0, 0, 0, 0), some (.iand, 1, 0, 0, 0, 0), some (.iload 4, 2, 0, 0, 0, 0), none, some (.ishl, 1, 0, 0, 0, 0), some (.ior, 1, 0, 0, 0, 0), some (.istore_n 3, 1, 0, 0, 0, 0), some (.iinc 4 1, 3, 0, 0, 0, 0), none, none, some (.goto (-30), 3, 0, 0, 0, 0), none, none, some (.iload_n 3, 1, 0, 0, 0, 0), some (.ireturn, 1, 0, 0, 0, 0)]
def e_X9_pointing : List (Option EN) := [some (.iload_n 2, 1, 0, 0, 0, 0), some (.bipush 18, 2, 0, 0, 0, 0), none, some (.bipush 26, 2, 0, 0, 0, 0), none, some (.invokestatic 134, 3, 115, 3, 0, 261), none, none, some (.ifCond .eq 13, 3, 0, 0, 0, 0), none, none, some (.iload_n 3, 1, 0, 0, 0, 0), some (.iconst 1, 1, 0, 0, 0, 0), some (.bipush 9, 2, 0, 0, 0, 0), none, some (.invokestatic 134, 3, 115, 3, 0, 261), none, none, some (.ifCond .ne 5, 3, 0, 0, 0, 0), none, none, some (.iconst 0, 1, 0, 0, 0, 0), some (.ireturn, 1, 0, 0, 0, 0), some (.aload_n 1, 1, 0, 0, 0, 0), some (.iload_n 2, 1, 0, 0, 0, 0), some (.iload_n 3, 1, 0, 0, 0, 0), some (.invokestatic 182, 3, 130, 3, 0, 278), none, none, some (.istore 4, 2, 0, 0, 0, 0), none, some (.iload 4, 2, 0, 0, 0, 0), none, some (.ifCond .ne 5, 3, 0, 0, 0, 0), none, none, some (.iconst 0, 1, 0, 0, 0, 0), some (.ireturn, 1, 0, 0, 0, 0), some (.iconst (-1), 1, 0, 0, 0, 0), some (.istore 5, 2, 0, 0, 0, 0), none, some (.iconst 2, 1, 0, 0, 0, 0), some (.istore 6, 2, 0, 0, 0, 0), none, some (.iload 6, 2, 0, 0, 0, 0), none, some (.ifCond .lt 34, 3, 0, 0, 0, 0), none, none, some (.iload 4, 2, 0, 0, 0, 0), none, some (.bipush 73, 2, 0, 0, 0, 0), none, some (.iload 6, 2, 0, 0, 0, 0), none, some (.ishl, 1, 0, 0, 0, 0), some (.iconst (-1), 1, 0, 0, 0, 0), some (.ixor, 1, 0, 0, 0, 0), some (.iand, 1, 0, 0, 0, 0), some (.ifCond .ne 15, 3, 0, 0, 0, 0), none, none, some (.iload_n 2, 1, 0, 0, 0, 0), some (.iload 6, 2, 0, 0, 0, 0), none, some (.invokestatic 179, 3, 95, 2, 0, 279), none, none, some (.iconst 1, 1, 0, 0, 0, 0), some (.invokestatic 95, 3, 113, 2, 0, 240), none, none, some (.istore 5, 2, 0, 0, 0, 0), none, some (.iinc 6 (-1), 3, 0, 0, 0, 0), none, none, some (.goto (-33), 3, 0, 0, 0, 0), none, none, some (.iconst 2, 1, 0, 0, 0, 0), some (.istore 6, 2, 0, 0, 0, 0), none, some (.iload 6, 2, 0, 0, 0, 0), none, some (.ifCond .lt 38, 3, 0, 0, 0, 0), none, none, some (.iload 4, 2, 0, 0, 0, 0), none, some (.bipush 7, 2, 0, 0, 0, 0), none, some (.iconst 3, 1, 0, 0, 0, 0), some (.iload 6, 2, 0, 0, 0, 0), none, some (.imul, 1, 0, 0, 0, 0), some (.ishl, 1, 0, 0, 0, 0), some (.iconst (-1), 1, 0, 0, 0, 0), some (.ixor, 1, 0, 0, 0, 0), some (.iand, 1, 0, 0, 0, 0), some (.ifCond .ne 17, 3, 0, 0, 0, 0), none, none, some (.iload_n 2, 1, 0, 0, 0, 0), some (.iconst 3, 1, 0, 0, 0, 0), some (.iload 6, 2, 0, 0, 0, 0), none, some (.imul, 1, 0, 0, 0, 0), some (.invokestatic 179, 3, 95, 2, 0, 279), none, none, some (.iconst 0, 1, 0, 0, 0, 0), some (.invokestatic 95, 3, 113, 2, 0, 240), none, none, some (.istore 5, 2, 0, 0, 0, 0), none, some (.iinc 6 (-1), 3, 0, 0, 0, 0), none, none, some (.goto (-37), 3, 0, 0, 0, 0), none, none, some (.iload 5, 2, 0, 0, 0, 0), none, some (.ifCond .ge 5, 3, 0, 0, 0, 0), none, none, some (.iconst 0, 1, 0, 0, 0, 0), some (.ireturn, 1, 0, 0, 0, 0), some (.iconst 0, 1, 0, 0, 0, 0), some (.istore 6, 2, 0, 0, 0, 0), none, some (.iload 6, 2, 0, 0, 0, 0), none, some (.bipush 9, 2, 0, 0, 0, 0), none, some (.if_icmp .ge 40, 3, 0, 0, 0, 0), none, none, some (.iload 5, 2, 0, 0, 0, 0), none, some (.iload 6, 2, 0, 0, 0, 0), none, some (.invokestatic 179, 3, 95, 2, 0, 279), none, none, some (.iload_n 2, 1, 0, 0, 0, 0), some (.invokestatic 186, 3, 119, 2, 0, 280), none, none, some (.ifCond .ne 20, 3, 0, 0, 0, 0), none, none, some (.aload_n 0, 1, 0, 0, 0, 0), some (.getfield 22, 3, 9, 4, 6, 259), none, none, some (.iload 5, 2, 0, 0, 0, 0), none, some (.iload 6, 2, 0, 0, 0, 0), none, some (.invokestatic 179, 3, 95, 2, 0, 279), none, none, some (.iconst 1, 1, 0, 0, 0, 0), some (.iload_n 3, 1, 0, 0, 0, 0), some (.iconst 1, 1, 0, 0, 0, 0), some (.isub, 1, 0, 0, 0, 0), some (.ishl, 1, 0, 0, 0, 0), some (.iastore, 1, 0, 0, 0, 0), some (.iinc 6 1, 3, 0, 0, 0, 0), none, none, some (.goto (-41), 3, 0, 0, 0, 0), none, none, some (.iconst 1, 1, 0, 0, 0, 0), some (.ireturn, 1, 0, 0, 0, 0)]
def e_X9_replay : List (Option EN) := [some (.iload_n 1, 1, 0, 0, 0, 0), some (.iconst 0, 1, 0, 0, 0, 0), some (.aload_n 0, 1, 0, 0, 0, 0), some (.getfield 99, 3, 9, 22, 0, 245), none, none, some (.invokestatic 134, 3, 115, 3, 0, 261), none, none, some (.ifCond .ne 5, 3, 0, 0, 0, 0), none, none, some (.iconst (-1), 1, 0, 0, 0, 0), some (.ireturn, 1, 0, 0, 0, 0), some (.aload_n 0, 1, 0, 0, 0, 0), some (.iconst 0, 1, 0, 0, 0, 0), some (.putfield 116, 3, 9, 31, 0, 250), none, none, some (.iconst 0, 1, 0, 0, 0, 0), some (.istore_n 2, 1, 0, 0, 0, 0), some (.iload_n 1, 1, 0, 0, 0, 0), some (.istore_n 3, 1, 0, 0, 0, 0), some (.iload_n 3, 1, 0, 0, 0, 0), some (.aload_n 0, 1, 0, 0, 0, 0), some (.getfield 99, 3, 9, 22, 0, 245), none, none, some (.if_icmp .ge 91, 3, 0, 0, 0, 0), none, none, some (.aload_n 0, 1, 0, 0, 0, 0), some (.getfield 50, 3, 9, 14, 6, 297), none, none, some (.iload_n 3, 1, 0, 0, 0, 0), some (.iaload, 1, 0, 0, 0, 0), some (.bipush 13, 2, 0, 0, 0, 0), none, some (.if_icmp .ne 28, 3, 0, 0, 0, 0), none, none, some (.aload_n 0, 1, 0, 0, 0, 0), some (.aload_n 0, 1, 0, 0, 0, 0), some (.getfield 19, 3, 9, 3, 6, 244), none, none, some (.aload_n 0, 1, 0, 0, 0, 0), some (.getfield 71, 3, 9, 21, 6, 301), none, none, some (.bipush 24, 2, 0, 0, 0, 0), none, some (.iload_n 3, 1, 0, 0, 0, 0), some (.imul, 1, 0, 0, 0, 0), some (.aload_n 0, 1, 0, 0, 0, 0), some (.getfield 65, 3, 9, 19, 6, 300), none, none, some (.iload_n 3, 1, 0, 0, 0, 0), some (.iaload, 1, 0, 0, 0, 0), some (.invokevirtual 256, 3, 93, 4, 0, 275), none, none, some (.goto 29, 3, 0, 0, 0, 0), none, none, some (.aload_n 0, 1, 0, 0, 0, 0), some (.aload_n 0, 1, 0, 0, 0, 0), some (.getfield 19, 3, 9, 3, 6, 244), none, none, some (.aload_n 0, 1, 0, 0, 0, 0), some (.getfield 50, 3, 9, 14, 6, 297), none, none, some (.iload_n 3, 1, 0, 0, 0, 0), some (.iaload, 1, 0, 0, 0, 0), some (.aload_n 0, 1, 0, 0, 0, 0), some (.getfield 53, 3, 9, 15, 6, 298), none, none, some (.iload_n 3, 1, 0, 0, 0, 0), some (.iaload, 1, 0, 0, 0, 0), some (.aload_n 0, 1, 0, 0, 0, 0), some (.getfield 56, 3, 9, 16, 6, 299), none, none, some (.iload_n 3, 1, 0, 0, 0, 0), some (.iaload, 1, 0, 0, 0, 0), some (.invokevirtual 234, 3, 117, 4, 0, 276), none, none, some (.istore 4, 2, 0, 0, 0, 0), none, some (.iload 4, 2, 0, 0, 0, 0), none, some (.ifCond .ne 5, 3, 0, 0, 0, 0), none, none, some (.iload_n 2, 1, 0, 0, 0, 0), some (.ireturn, 1, 0, 0, 0, 0), some (.aload_n 0, 1, 0, 0, 0, 0), some (.aload_n 0, 1, 0, 0, 0, 0), some (.getfield 19, 3, 9, 3, 6, 244), none, none, some (.invokevirtual 260, 3, 106, 1, 0, 277), none, none, some (.iinc 2 1, 3, 0, 0, 0, 0), none, none, some (.iinc 3 1, 3, 0, 0, 0, 0), none, none, some (.goto (-93), 3, 0, 0, 0, 0), none, none, some (.iload_n 2, 1, 0, 0, 0, 0), some (.ireturn, 1, 0, 0, 0, 0)]
def e_X9_row : List (Option EN) := [some (.iload_n 1, 1, 0, 0, 0, 0), some (.iconst 0, 1, 0, 0, 0, 0), some (.bipush 8, 2, 0, 0, 0, 0), none, some (.invokestatic 134, 3, 115, 3, 0, 261), none, none, some (.ifCond .eq 13, 3, 0, 0, 0, 0), none, none, some (.iload_n 2, 1, 0, 0, 0, 0), some (.iconst 0, 1, 0, 0, 0, 0), some (.ldc 138, 2, 999999999, 0, 0, 318), none, some (.invokestatic 134, 3, 115, 3, 0, 261), none, none, some (.ifCond .ne 5, 3, 0, 0, 0, 0), none, none, some (.iconst 0, 1, 0, 0, 0, 0), some (.ireturn, 1, 0, 0, 0, 0), some (.iload_n 2, 1, 0, 0, 0, 0), some (.istore_n 3, 1, 0, 0, 0, 0), some (.bipush 8, 2, 0, 0, 0, 0), none, some (.istore 4, 2, 0, 0, 0, 0), none, some (.iload 4, 2, 0, 0, 0, 0), none, some (.ifCond .lt 30, 3, 0, 0, 0, 0), none, none, some (.aload_n 0, 1, 0, 0, 0, 0), some (.getfield 7, 3, 9, 0, 6, 242), none, none, some (.bipush 9, 2, 0, 0, 0, 0), none, some (.iload_n 1, 1, 0, 0, 0, 0), some (.imul, 1, 0, 0, 0, 0), some (.iload 4, 2, 0, 0, 0, 0), none, some (.iadd, 1, 0, 0, 0, 0), some (.iload_n 3, 1, 0, 0, 0, 0), some (.bipush 10, 2, 0, 0, 0, 0), none, some (.irem, 1, 0, 0, 0, 0), some (.iastore, 1, 0, 0, 0, 0), some (.iload_n 3, 1, 0, 0, 0, 0), some (.bipush 10, 2, 0, 0, 0, 0), none, some (.idiv, 1, 0, 0, 0, 0), some (.istore_n 3, 1, 0, 0, 0, 0), some (.iinc 4 (-1), 3, 0, 0, 0, 0), none, none, some (.goto (-29), 3, 0, 0, 0, 0), none, none, some (.aload_n 0, 1, 0, 0, 0, 0), some (.invokevirtual 92, 3, 91, 0, 0, 288), none, none, some (.iconst 1, 1, 0, 0, 0, 0), some (.ireturn, 1, 0, 0, 0, 0)]
def e_X9_rowOf : List (Option EN) := [some (.iconst 2, 1, 0, 0, 0, 0), some (.iload_n 1, 1, 0, 0, 0, 0), some (.imul, 1, 0, 0, 0, 0), some (.iconst 1, 1, 0, 0, 0, 0), some (.isub, 1, 0, 0, 0, 0), some (.istore_n 3, 1, 0, 0, 0, 0), some (.iconst 0, 1, 0, 0, 0, 0), some (.istore 4, 2, 0, 0, 0, 0), none, some (.iload 4, 2, 0, 0, 0, 0), none, some (.bipush 12, 2, 0, 0, 0, 0), none, some (.if_icmp .ge 33, 3, 0, 0, 0, 0), none, none, some (.aload_n 0, 1, 0, 0, 0, 0), some (.getfield 44, 3, 9, 12, 6, 295), none, none, some (.bipush 12, 2, 0, 0, 0, 0), none, some (.iload_n 3, 1, 0, 0, 0, 0), some (.imul, 1, 0, 0, 0, 0), some (.iload 4, 2, 0, 0, 0, 0), none, some (.iadd, 1, 0, 0, 0, 0), some (.aload_n 0, 1, 0, 0, 0, 0), some (.getfield 35, 3, 9, 9, 6, 265), none, none, some (.bipush 12, 2, 0, 0, 0, 0), none, some (.iload_n 2, 1, 0, 0, 0, 0), some (.imul, 1, 0, 0, 0, 0), some (.iload 4, 2, 0, 0, 0, 0), none, some (.iadd, 1, 0, 0, 0, 0), some (.laload, 1, 0, 0, 0, 0), some (.lastore, 1, 0, 0, 0, 0), some (.iinc 4 1, 3, 0, 0, 0, 0), none, none, some (.goto (-34), 3, 0, 0, 0, 0), none, none, some (.iload_n 3, 1, 0, 0, 0, 0), some (.iconst 1, 1, 0, 0, 0, 0), some (.isub, 1, 0, 0, 0, 0), some (.istore 4, 2, 0, 0, 0, 0), none, some (.iload 4, 2, 0, 0, 0, 0), none, some (.ifCond .lt 51, 3, 0, 0, 0, 0), none, none, some (.aload_n 0, 1, 0, 0, 0, 0), some (.aload_n 0, 1, 0, 0, 0, 0), some (.getfield 44, 3, 9, 12, 6, 295), none, none, some (.bipush 12, 2, 0, 0, 0, 0), none, some (.iload 4, 2, 0, 0, 0, 0), none, some (.iconst 1, 1, 0, 0, 0, 0), some (.iadd, 1, 0, 0, 0, 0), some (.imul, 1, 0, 0, 0, 0), some (.iload 4, 2, 0, 0, 0, 0), none, some (.iconst 2, 1, 0, 0, 0, 0), some (.irem, 1, 0, 0, 0, 0), some (.ifCond .ne 10, 3, 0, 0, 0, 0), none, none, some (.aload_n 0, 1, 0, 0, 0, 0), some (.getfield 29, 3, 9, 6, 6, 271), none, none, some (.goto 7, 3, 0, 0, 0, 0), none, none, some (.aload_n 0, 1, 0, 0, 0, 0), some (.getfield 25, 3, 9, 5, 6, 269), none, none, some (.aload_n 0, 1, 0, 0, 0, 0), some (.getfield 44, 3, 9, 12, 6, 295), none, none, some (.bipush 12, 2, 0, 0, 0, 0), none, some (.iload 4, 2, 0, 0, 0, 0), none, some (.imul, 1, 0, 0, 0, 0), some (.invokevirtual 220, 3, 114, 5, 0, 270), none, none, some (.iinc 4 (-1), 3, 0, 0, 0, 0), none, none, some (.goto (-50), 3, 0, 0, 0, 0), none, none, some (.aload_n 0, 1, 0, 0, 0, 0), some (.getfield 47, 3, 9, 13, 6, 296), none, none, some (.iconst 0, 1, 0, 0, 0, 0), some (.iload_n 2, 1, 0, 0, 0, 0), some (.iastore, 1, 0, 0, 0, 0), some (.iconst 1, 1, 0, 0, 0, 0), some (.istore 4, 2, 0, 0, 0, 0), none, some (.iload 4, 2, 0, 0, 0, 0), none, some (.iload_n 3, 1, 0, 0, 0, 0), some (.if_icmp .gt 87, 3, 0, 0, 0, 0), none, none, some (.iload 4, 2, 0, 0, 0, 0), none, some (.iconst 2, 1, 0, 0, 0, 0), some (.irem, 1, 0, 0, 0, 0), some (.iconst 1, 1, 0, 0, 0, 0), some (.if_icmp .ne 10, 3, 0, 0, 0, 0), none, none, some (.aload_n 0, 1, 0, 0, 0, 0), some (.getfield 29, 3, 9, 6, 6, 271), none, none, some (.goto 7, 3, 0, 0, 0, 0), none, none, some (.aload_n 0, 1, 0, 0, 0, 0), some (.getfield 25, 3, 9, 5, 6, 269), none, none, some (.astore 5, 2, 0, 0, 0, 0), none, some (.iconst 0, 1, 0, 0, 0, 0), some (.istore 6, 2, 0, 0, 0, 0), none, some (.aload 5, 2, 0, 0, 0, 0), none, some (.bipush 12, 2, 0, 0, 0, 0), none, some (.aload_n 0, 1, 0, 0, 0, 0), some (.getfield 47, 3, 9, 13, 6, 296), none, none, some (.iload 4, 2, 0, 0, 0, 0), none, some (.iconst 1, 1, 0, 0, 0, 0), some (.isub, 1, 0, 0, 0, 0), some (.iaload, 1, 0, 0, 0, 0), some (.imul, 1, 0, 0, 0, 0), some (.iload 6, 2, 0, 0, 0, 0), none, some (.invokestatic 210, 3, 110, 3, 0, 272), none, none, some (.ifCond .eq 20, 3, 0, 0, 0, 0), none, none, some (.aload_n 0, 1, 0, 0, 0, 0), some (.getfield 44, 3, 9, 12, 6, 295), none, none, some (.bipush 12, 2, 0, 0, 0, 0), none, some (.iload 4, 2, 0, 0, 0, 0), none, some (.imul, 1, 0, 0, 0, 0), some (.iload 6, 2, 0, 0, 0, 0), none, some (.invokestatic 210, 3, 110, 3, 0, 272), none, none, some (.ifCond .ne 9, 3, 0, 0, 0, 0), none, none, some (.iinc 6 1, 3, 0, 0, 0, 0), none, none, some (.goto (-42), 3, 0, 0, 0, 0), none, none, some (.aload_n 0, 1, 0, 0, 0, 0), some (.getfield 47, 3, 9, 13, 6, 296), none, none, some (.iload 4, 2, 0, 0, 0, 0), none, some (.iload 6, 2, 0, 0, 0, 0), none, some (.iastore, 1, 0, 0, 0, 0), some (.iinc 4 1, 3, 0, 0, 0, 0), none, none, some (.goto (-87), 3, 0, 0, 0, 0), none, none, some (.return_, 1, 0, 0, 0, 0)]
def e_X9_search : List (Option EN) := [some (.iload_n 1, 1, 0, 0, 0, 0), some (.iconst 0, 1, 0, 0, 0, 0), some (.sipush 300, 3, 0, 0, 0, 0), none, none, some (.invokestatic 134, 3, 115, 3, 0, 261), none, none, some (.ifCond .ne 5, 3, 0, 0, 0, 0), none, none, some (.iconst (-1), 1, 0, 0, 0, 0), some (.ireturn, 1, 0, 0, 0, 0), some (.aload_n 0, 1, 0, 0, 0, 0), some (.getfield 125, 3, 9, 40, 1, 253), none, none, some (.ifCond .ne 42, 3, 0, 0, 0, 0), none, none, some (.aload_n 0, 1, 0, 0, 0, 0), some (.iconst 1, 1, 0, 0, 0, 0), some (.putfield 125, 3, 9, 40, 1, 253), none, none, some (.iconst 0, 1, 0, 0, 0, 0), some (.istore_n 2, 1, 0, 0, 0, 0), some (.iload_n 2, 1, 0, 0, 0, 0), some (.bipush 81, 2, 0, 0, 0, 0), none, some (.if_icmp .ge 21, 3, 0, 0, 0, 0), none, none, some (.aload_n 0, 1, 0, 0, 0, 0), some (.getfield 86, 3, 9, 35, 6, 281), none, none, some (.iload_n 2, 1, 0, 0, 0, 0), some (.aload_n 0, 1, 0, 0, 0, 0), some (.getfield 13, 3, 9, 1, 6, 241), none, none, some (.iload_n 2, 1, 0, 0, 0, 0), some (.iaload, 1, 0, 0, 0, 0), some (.iastore, 1, 0, 0, 0, 0), some (.iinc 2 1, 3, 0, 0, 0, 0), none, none, some (.goto (-21), 3, 0, 0, 0, 0), none, none, some (.aload_n 0, 1, 0, 0, 0, 0), some (.invokevirtual 276, 3, 127, 0, 0, 319), none, none, some (.aload_n 0, 1, 0, 0, 0, 0), some (.invokevirtual 279, 3, 123, 0, 0, 320), none, none, some (.iconst 0, 1, 0, 0, 0, 0), some (.istore_n 2, 1, 0, 0, 0, 0), some (.iload_n 2, 1, 0, 0, 0, 0), some (.iload_n 1, 1, 0, 0, 0, 0), some (.if_icmp .ge 151, 3, 0, 0, 0, 0), none, none, some (.aload_n 0, 1, 0, 0, 0, 0), some (.getfield 128, 3, 9, 41, 1, 254), none, none, some (.ifCond .ne 144, 3, 0, 0, 0, 0), none, none, some (.bipush 81, 2, 0, 0, 0, 0), none, some (.aload_n 0, 1, 0, 0, 0, 0), some (.getfield 131, 3, 9, 39, 0, 255), none, none, some (.iconst 1, 1, 0, 0, 0, 0), some (.isub, 1, 0, 0, 0, 0), some (.imul, 1, 0, 0, 0, 0), some (.istore_n 3, 1, 0, 0, 0, 0), some (.aload_n 0, 1, 0, 0, 0, 0), some (.getfield 80, 3, 9, 33, 6, 303), none, none, some (.aload_n 0, 1, 0, 0, 0, 0), some (.getfield 131, 3, 9, 39, 0, 255), none, none, some (.iconst 1, 1, 0, 0, 0, 0), some (.isub, 1, 0, 0, 0, 0), some (.iaload, 1, 0, 0, 0, 0), some (.istore 4, 2, 0, 0, 0, 0), none, some (.aload_n 0, 1, 0, 0, 0, 0), some (.getfield 83, 3, 9, 34, 6, 304), none, none, some (.aload_n 0, 1, 0, 0, 0, 0), some (.getfield 131, 3, 9, 39, 0, 255), none, none, some (.iconst 1, 1, 0, 0, 0, 0), some (.isub, 1, 0, 0, 0, 0), some (.iaload, 1, 0, 0, 0, 0), some (.istore 5, 2, 0, 0, 0, 0), none, some (.aload_n 0, 1, 0, 0, 0, 0), some (.getfield 77, 3, 9, 32, 6, 302), none, none, some (.iload_n 3, 1, 0, 0, 0, 0), some (.iload 4, 2, 0, 0, 0, 0), none, some (.iadd, 1, 0, 0, 0, 0), some (.iaload, 1, 0, 0, 0, 0), some (.iload 5, 2, 0, 0, 0, 0), none, some (.ishr, 1, 0, 0, 0, 0), some (.iconst 1, 1, 0, 0, 0, 0), some (.iand, 1, 0, 0, 0, 0), some (.ifCond .ne 9, 3, 0, 0, 0, 0), none, none, some (.iinc 5 1, 3, 0, 0, 0, 0), none, none, some (.goto (-20), 3, 0, 0, 0, 0), none, none, some (.aload_n 0, 1, 0, 0, 0, 0), some (.getfield 83, 3, 9, 34, 6, 304), none, none, some (.aload_n 0, 1, 0, 0, 0, 0), some (.getfield 131, 3, 9, 39, 0, 255), none, none, some (.iconst 1, 1, 0, 0, 0, 0), some (.isub, 1, 0, 0, 0, 0), some (.iload 5, 2, 0, 0, 0, 0), none, some (.iconst 1, 1, 0, 0, 0, 0), some (.iadd, 1, 0, 0, 0, 0), some (.iastore, 1, 0, 0, 0, 0), some (.iconst 0, 1, 0, 0, 0, 0), some (.istore 6, 2, 0, 0, 0, 0), none, some (.iload 6, 2, 0, 0, 0, 0), none, some (.bipush 81, 2, 0, 0, 0, 0), none, some (.if_icmp .ge 25, 3, 0, 0, 0, 0), none, none, some (.aload_n 0, 1, 0, 0, 0, 0), some (.getfield 86, 3, 9, 35, 6, 281), none, none, some (.iload 6, 2, 0, 0, 0, 0), none, some (.aload_n 0, 1, 0, 0, 0, 0), some (.getfield 77, 3, 9, 32, 6, 302), none, none, some (.iload_n 3, 1, 0, 0, 0, 0), some (.iload 6, 2, 0, 0, 0, 0), none, some (.iadd, 1, 0, 0, 0, 0), some (.iaload, 1, 0, 0, 0, 0), some (.iastore, 1, 0, 0, 0, 0), some (.iinc 6 1, 3, 0, 0, 0, 0), none, none, some (.goto (-26), 3, 0, 0, 0, 0), none, none, some (.aload_n 0, 1, 0, 0, 0, 0), some (.getfield 86, 3, 9, 35, 6, 281), none, none, some (.iload 4, 2, 0, 0, 0, 0), none, some (.iconst 1, 1, 0, 0, 0, 0), some (.iload 5, 2, 0, 0, 0, 0), none, some (.ishl, 1, 0, 0, 0, 0), some (.iastore, 1, 0, 0, 0, 0), some (.aload_n 0, 1, 0, 0, 0, 0), some (.dup, 1, 0, 0, 0, 0), some (.getfield 122, 3, 9, 38, 0, 252), none, none, some (.iconst 1, 1, 0, 0, 0, 0), some (.iadd, 1, 0, 0, 0, 0), some (.putfield 122, 3, 9, 38, 0, 252), none, none, some (.aload_n 0, 1, 0, 0, 0, 0), some (.invokevirtual 276, 3, 127, 0, 0, 319), none, none, some (.aload_n 0, 1, 0, 0, 0, 0), some (.invokevirtual 279, 3, 123, 0, 0, 320), none, none, some (.iinc 2 1, 3, 0, 0, 0, 0), none, none, some (.goto (-150), 3, 0, 0, 0, 0), none, none, some (.aload_n 0, 1, 0, 0, 0, 0), some (.getfield 119, 3, 9, 37, 0, 251), none, none, some (.ireturn, 1, 0, 0, 0, 0)]
def e_X9_searched : List (Option EN) := [some (.iload_n 1, 1, 0, 0, 0, 0), some (.tableswitch 70 0 2 #[27, 40, 45], 27, 0, 0, 0, 0), none, none, none, none, none, none, none, none, none, none, none, none, none, none, none, none, none, none, none, none, none, none, none, none, none, none, some (.aload_n 0, 1, 0, 0, 0, 0), some (.getfield 128, 3, 9, 41, 1, 254), none, none, some (.ifCond .eq 7, 3, 0, 0, 0, 0), none, none, some (.iconst 1, 1, 0, 0, 0, 0), some (.goto 4, 3, 0, 0, 0, 0), none, none, some (.iconst 0, 1, 0, 0, 0, 0), some (.ireturn, 1, 0, 0, 0, 0), some (.aload_n 0, 1, 0, 0, 0, 0), some (.getfield 122, 3, 9, 38, 0, 252), none, none, some (.ireturn, 1, 0, 0, 0, 0), some (.aload_n 0, 1, 0, 0, 0, 0), some (.getfield 128, 3, 9, 41, 1, 254), none, none, some (.ifCond .ne 7, 3, 0, 0, 0, 0), none, none, some (.iconst (-1), 1, 0, 0, 0, 0), some (.goto 16, 3, 0, 0, 0, 0), none, none, some (.aload_n 0, 1, 0, 0, 0, 0), some (.getfield 119, 3, 9, 37, 0, 251), none, none, some (.iconst 1, 1, 0, 0, 0, 0), some (.if_icmp .ne 7, 3, 0, 0, 0, 0), none, none, some (.iconst 1, 1, 0, 0, 0, 0), some (.goto 4, 3, 0, 0, 0, 0), none, none, some (.iconst 0, 1, 0, 0, 0, 0), some (.ireturn, 1, 0, 0, 0, 0), some (.iconst (-1), 1, 0, 0, 0, 0), some (.ireturn, 1, 0, 0, 0, 0)]
def e_X9_single : List (Option EN) := [some (.iload_n 2, 1, 0, 0, 0, 0), some (.iconst 0, 1, 0, 0, 0, 0), some (.bipush 80, 2, 0, 0, 0, 0), none, some (.invokestatic 134, 3, 115, 3, 0, 261), none, none, some (.ifCond .eq 24, 3, 0, 0, 0, 0), none, none, some (.iload_n 3, 1, 0, 0, 0, 0), some (.iconst 1, 1, 0, 0, 0, 0), some (.bipush 9, 2, 0, 0, 0, 0), none, some (.invokestatic 134, 3, 115, 3, 0, 261), none, none, some (.ifCond .eq 14, 3, 0, 0, 0, 0), none, none, some (.aload_n 1, 1, 0, 0, 0, 0), some (.iload_n 2, 1, 0, 0, 0, 0), some (.iaload, 1, 0, 0, 0, 0), some (.iconst 1, 1, 0, 0, 0, 0), some (.iload_n 3, 1, 0, 0, 0, 0), some (.iconst 1, 1, 0, 0, 0, 0), some (.isub, 1, 0, 0, 0, 0), some (.ishl, 1, 0, 0, 0, 0), some (.if_icmp .eq 5, 3, 0, 0, 0, 0), none, none, some (.iconst 0, 1, 0, 0, 0, 0), some (.ireturn, 1, 0, 0, 0, 0), some (.iconst 0, 1, 0, 0, 0, 0), some (.istore 4, 2, 0, 0, 0, 0), none, some (.iload 4, 2, 0, 0, 0, 0), none, some (.bipush 81, 2, 0, 0, 0, 0), none, some (.if_icmp .ge 28, 3, 0, 0, 0, 0), none, none, some (.iload_n 2, 1, 0, 0, 0, 0), some (.iload 4, 2, 0, 0, 0, 0), none, some (.invokestatic 175, 3, 90, 2, 0, 314), none, none, some (.ifCond .eq 13, 3, 0, 0, 0, 0), none, none, some (.aload_n 0, 1, 0, 0, 0, 0), some (.getfield 22, 3, 9, 4, 6, 259), none, none, some (.iload 4, 2, 0, 0, 0, 0), none, some (.aload_n 1, 1, 0, 0, 0, 0), some (.iload_n 2, 1, 0, 0, 0, 0), some (.iaload, 1, 0, 0, 0, 0), some (.iastore, 1, 0, 0, 0, 0), some (.iinc 4 1, 3, 0, 0, 0, 0), none, none, some (.goto (-29), 3, 0, 0, 0, 0), none, none, some (.iconst 1, 1, 0, 0, 0, 0), some (.ireturn, 1, 0, 0, 0, 0)]
def e_X9_sizeOf : List (Option EN) := [some (.iload_n 0, 1, 0, 0, 0, 0), some (.tableswitch 51 4 11 #[47, 47, 49, 49, 47, 51, 51, 49], 47, 0, 0, 0, 0), none, none, none, none, none, none, none, none, none, none, none, none, none, none, none, none, none, none, none, none, none, none, none, none, none, none, none, none, none, none, none, none, none, none, none, none, none, none, none, none, none, none, none, none, none, none, some (.iconst 2, 1, 0, 0, 0, 0), some (.ireturn, 1, 0, 0, 0, 0), some (.iconst 3, 1, 0, 0, 0, 0), some (.ireturn, 1, 0, 0, 0, 0), some (.iconst 4, 1, 0, 0, 0, 0), some (.ireturn, 1, 0, 0, 0, 0)]
def e_X9_solution : List (Option EN) := [some (.iload_n 1, 1, 0, 0, 0, 0), some (.iconst 0, 1, 0, 0, 0, 0), some (.aload_n 0, 1, 0, 0, 0, 0), some (.getfield 119, 3, 9, 37, 0, 251), none, none, some (.iconst 1, 1, 0, 0, 0, 0), some (.isub, 1, 0, 0, 0, 0), some (.invokestatic 134, 3, 115, 3, 0, 261), none, none, some (.ifCond .eq 27, 3, 0, 0, 0, 0), none, none, some (.iload_n 2, 1, 0, 0, 0, 0), some (.iconst 0, 1, 0, 0, 0, 0), some (.bipush 80, 2, 0, 0, 0, 0), none, some (.invokestatic 134, 3, 115, 3, 0, 261), none, none, some (.ifCond .eq 17, 3, 0, 0, 0, 0), none, none, some (.aload_n 0, 1, 0, 0, 0, 0), some (.getfield 89, 3, 9, 36, 6, 305), none, none, some (.bipush 81, 2, 0, 0, 0, 0), none, some (.iload_n 1, 1, 0, 0, 0, 0), some (.imul, 1, 0, 0, 0, 0), some (.iload_n 2, 1, 0, 0, 0, 0), some (.iadd, 1, 0, 0, 0, 0), some (.iaload, 1, 0, 0, 0, 0), some (.goto 4, 3, 0, 0, 0, 0), none, none, some (.iconst (-1), 1, 0, 0, 0, 0), some (.ireturn, 1, 0, 0, 0, 0)]
def e_X9_step : List (Option EN) := [some (.iload_n 1, 1, 0, 0, 0, 0), some (.iconst 0, 1, 0, 0, 0, 0), some (.aload_n 0, 1, 0, 0, 0, 0), some (.getfield 99, 3, 9, 22, 0, 245), none, none, some (.iconst 1, 1, 0, 0, 0, 0), some (.isub, 1, 0, 0, 0, 0), some (.invokestatic 134, 3, 115, 3, 0, 261), none, none, some (.ifCond .ne 5, 3, 0, 0, 0, 0), none, none, some (.iconst (-1), 1, 0, 0, 0, 0), some (.ireturn, 1, 0, 0, 0, 0), some (.iload_n 2, 1, 0, 0, 0, 0), some (.tableswitch 70 0 4 #[35, 42, 49, 56, 63], 35, 0, 0, 0, 0), none, none, none, none, none, none, none, none, none, none, none, none, none, none, none, none, none, none, none, none, none, none, none, none, none, none, none, none, none, none, none, none, none, none, some (.aload_n 0, 1, 0, 0, 0, 0), some (.getfield 50, 3, 9, 14, 6, 297), none, none, some (.iload_n 1, 1, 0, 0, 0, 0), some (.iaload, 1, 0, 0, 0, 0), some (.ireturn, 1, 0, 0, 0, 0), some (.aload_n 0, 1, 0, 0, 0, 0), some (.getfield 53, 3, 9, 15, 6, 298), none, none, some (.iload_n 1, 1, 0, 0, 0, 0), some (.iaload, 1, 0, 0, 0, 0), some (.ireturn, 1, 0, 0, 0, 0), some (.aload_n 0, 1, 0, 0, 0, 0), some (.getfield 56, 3, 9, 16, 6, 299), none, none, some (.iload_n 1, 1, 0, 0, 0, 0), some (.iaload, 1, 0, 0, 0, 0), some (.ireturn, 1, 0, 0, 0, 0), some (.aload_n 0, 1, 0, 0, 0, 0), some (.getfield 59, 3, 9, 17, 6, 289), none, none, some (.iload_n 1, 1, 0, 0, 0, 0), some (.iaload, 1, 0, 0, 0, 0), some (.ireturn, 1, 0, 0, 0, 0), some (.aload_n 0, 1, 0, 0, 0, 0), some (.getfield 65, 3, 9, 19, 6, 300), none, none, some (.iload_n 1, 1, 0, 0, 0, 0), some (.iaload, 1, 0, 0, 0, 0), some (.ireturn, 1, 0, 0, 0, 0), some (.iconst (-1), 1, 0, 0, 0, 0), some (.ireturn, 1, 0, 0, 0, 0)]
def e_X9_stepped : List (Option EN) := [some (.iconst 0, 1, 0, 0, 0, 0), some (.istore_n 1, 1, 0, 0, 0, 0), some (.iload_n 1, 1, 0, 0, 0, 0), some (.bipush 12, 2, 0, 0, 0, 0), none, some (.if_icmp .gt 51, 3, 0, 0, 0, 0), none, none, some (.iload_n 1, 1, 0, 0, 0, 0), some (.iconst 4, 1, 0, 0, 0, 0), some (.if_icmp .ge 15, 3, 0, 0, 0, 0), none, none, some (.aload_n 0, 1, 0, 0, 0, 0), some (.aload_n 0, 1, 0, 0, 0, 0), some (.getfield 16, 3, 9, 2, 6, 243), none, none, some (.iload_n 1, 1, 0, 0, 0, 0), some (.invokevirtual 244, 3, 101, 2, 0, 321), none, none, some (.goto 12, 3, 0, 0, 0, 0), none, none, some (.aload_n 0, 1, 0, 0, 0, 0), some (.aload_n 0, 1, 0, 0, 0, 0), some (.getfield 16, 3, 9, 2, 6, 243), none, none, some (.iload_n 1, 1, 0, 0, 0, 0), some (.invokevirtual 247, 3, 102, 2, 0, 322), none, none, some (.istore_n 2, 1, 0, 0, 0, 0), some (.iload_n 2, 1, 0, 0, 0, 0), some (.ifCond .ne 6, 3, 0, 0, 0, 0), none, none, some (.goto 11, 3, 0, 0, 0, 0), none, none, some (.aload_n 0, 1, 0, 0, 0, 0), some (.iload_n 1, 1, 0, 0, 0, 0), some (.iconst 0, 1, 0, 0, 0, 0), some (.invokevirtual 250, 3, 142, 2, 0, 323), none, none, some (.iconst 1, 1, 0, 0, 0, 0), some (.ireturn, 1, 0, 0, 0, 0), some (.iinc 1 1, 3, 0, 0, 0, 0), none, none, some (.goto (-51), 3, 0, 0, 0, 0), none, none, some (.aload_n 0, 1, 0, 0, 0, 0), some (.aload_n 0, 1, 0, 0, 0, 0), some (.getfield 16, 3, 9, 2, 6, 243), none, none, some (.invokevirtual 253, 3, 96, 1, 0, 324), none, none, some (.istore_n 1, 1, 0, 0, 0, 0), some (.iload_n 1, 1, 0, 0, 0, 0), some (.ifCond .ne 5, 3, 0, 0, 0, 0), none, none, some (.iconst 0, 1, 0, 0, 0, 0), some (.ireturn, 1, 0, 0, 0, 0), some (.aload_n 0, 1, 0, 0, 0, 0), some (.iload_n 1, 1, 0, 0, 0, 0), some (.putfield 228, 3, 9, 27, 0, 285), none, none, some (.aload_n 0, 1, 0, 0, 0, 0), some (.aload_n 0, 1, 0, 0, 0, 0), some (.getfield 47, 3, 9, 13, 6, 296), none, none, some (.iconst 0, 1, 0, 0, 0, 0), some (.iaload, 1, 0, 0, 0, 0), some (.putfield 231, 3, 9, 28, 0, 286), none, none, some (.aload_n 0, 1, 0, 0, 0, 0), some (.aload_n 0, 1, 0, 0, 0, 0), some (.aload_n 0, 1, 0, 0, 0, 0), some (.getfield 16, 3, 9, 2, 6, 243), none, none, some (.aload_n 0, 1, 0, 0, 0, 0), some (.getfield 47, 3, 9, 13, 6, 296), none, none, some (.iconst 0, 1, 0, 0, 0, 0), some (.iconst 2, 1, 0, 0, 0, 0), some (.iload_n 1, 1, 0, 0, 0, 0), some (.imul, 1, 0, 0, 0, 0), some (.invokevirtual 256, 3, 93, 4, 0, 275), none, none, some (.putfield 238, 3, 9, 29, 0, 287), none, none, some (.aload_n 0, 1, 0, 0, 0, 0), some (.bipush 13, 2, 0, 0, 0, 0), none, some (.iconst 2, 1, 0, 0, 0, 0), some (.iload_n 1, 1, 0, 0, 0, 0), some (.imul, 1, 0, 0, 0, 0), some (.invokevirtual 250, 3, 142, 2, 0, 323), none, none, some (.iconst 1, 1, 0, 0, 0, 0), some (.ireturn, 1, 0, 0, 0, 0)]
def e_X9_takes : List (Option EN) := [some (.aload_n 0, 1, 0, 0, 0, 0), some (.getfield 50, 3, 9, 14, 6, 297), none, none, some (.aload_n 0, 1, 0, 0, 0, 0), some (.getfield 99, 3, 9, 22, 0, 245), none, none, some (.iload_n 1, 1, 0, 0, 0, 0), some (.iastore, 1, 0, 0, 0, 0), some (.aload_n 0, 1, 0, 0, 0, 0), some (.getfield 53, 3, 9, 15, 6, 298), none, none, some (.aload_n 0, 1, 0, 0, 0, 0), some (.getfield 99, 3, 9, 22, 0, 245), none, none, some (.aload_n 0, 1, 0, 0, 0, 0), some (.getfield 228, 3, 9, 27, 0, 285), none, none, some (.iastore, 1, 0, 0, 0, 0), some (.aload_n 0, 1, 0, 0, 0, 0), some (.getfield 56, 3, 9, 16, 6, 299), none, none, some (.aload_n 0, 1, 0, 0, 0, 0), some (.getfield 99, 3, 9, 22, 0, 245), none, none, some (.aload_n 0, 1, 0, 0, 0, 0), some (.getfield 231, 3, 9, 28, 0, 286), none, none, some (.iastore, 1, 0, 0, 0, 0), some (.aload_n 0, 1, 0, 0, 0, 0), some (.getfield 59, 3, 9, 17, 6, 289), none, none, some (.aload_n 0, 1, 0, 0, 0, 0), some (.getfield 99, 3, 9, 22, 0, 245), none, none, some (.aload_n 0, 1, 0, 0, 0, 0), some (.getfield 238, 3, 9, 29, 0, 287), none, none, some (.iastore, 1, 0, 0, 0, 0), some (.aload_n 0, 1, 0, 0, 0, 0), some (.getfield 62, 3, 9, 18, 6, 291), none, none, some (.aload_n 0, 1, 0, 0, 0, 0), some (.getfield 99, 3, 9, 22, 0, 245), none, none, some (.aload_n 0, 1, 0, 0, 0, 0), some (.getfield 103, 3, 9, 23, 0, 246), none, none, some (.iastore, 1, 0, 0, 0, 0), some (.aload_n 0, 1, 0, 0, 0, 0), some (.getfield 65, 3, 9, 19, 6, 300), none, none, some (.aload_n 0, 1, 0, 0, 0, 0), some (.getfield 99, 3, 9, 22, 0, 245), none, none, some (.iload_n 2, 1, 0, 0, 0, 0), some (.iastore, 1, 0, 0, 0, 0), some (.iconst 0, 1, 0, 0, 0, 0), some (.istore_n 3, 1, 0, 0, 0, 0), some (.iload_n 3, 1, 0, 0, 0, 0), some (.iload_n 2, 1, 0, 0, 0, 0), some (.if_icmp .ge 29, 3, 0, 0, 0, 0), none, none, some (.aload_n 0, 1, 0, 0, 0, 0), some (.getfield 71, 3, 9, 21, 6, 301), none, none, some (.bipush 24, 2, 0, 0, 0, 0), none, some (.aload_n 0, 1, 0, 0, 0, 0), some (.getfield 99, 3, 9, 22, 0, 245), none, none, some (.imul, 1, 0, 0, 0, 0), some (.iload_n 3, 1, 0, 0, 0, 0), some (.iadd, 1, 0, 0, 0, 0), some (.aload_n 0, 1, 0, 0, 0, 0), some (.getfield 47, 3, 9, 13, 6, 296), none, none, some (.iload_n 3, 1, 0, 0, 0, 0), some (.iaload, 1, 0, 0, 0, 0), some (.iastore, 1, 0, 0, 0, 0), some (.iinc 3 1, 3, 0, 0, 0, 0), none, none, some (.goto (-28), 3, 0, 0, 0, 0), none, none, some (.iconst 0, 1, 0, 0, 0, 0), some (.istore_n 3, 1, 0, 0, 0, 0), some (.iload_n 3, 1, 0, 0, 0, 0), some (.sipush 729, 3, 0, 0, 0, 0), none, none, some (.if_icmp .ge 51, 3, 0, 0, 0, 0), none, none, some (.aload_n 0, 1, 0, 0, 0, 0), some (.getfield 22, 3, 9, 4, 6, 259), none, none, some (.iload_n 3, 1, 0, 0, 0, 0), some (.bipush 9, 2, 0, 0, 0, 0), none, some (.idiv, 1, 0, 0, 0, 0), some (.iaload, 1, 0, 0, 0, 0), some (.iload_n 3, 1, 0, 0, 0, 0), some (.bipush 9, 2, 0, 0, 0, 0), none, some (.irem, 1, 0, 0, 0, 0), some (.ishr, 1, 0, 0, 0, 0), some (.iconst 1, 1, 0, 0, 0, 0), some (.iand, 1, 0, 0, 0, 0), some (.ifCond .ne 6, 3, 0, 0, 0, 0), none, none, some (.goto 23, 3, 0, 0, 0, 0), none, none, some (.aload_n 0, 1, 0, 0, 0, 0), some (.getfield 68, 3, 9, 20, 6, 290), none, none, some (.aload_n 0, 1, 0, 0, 0, 0), some (.getfield 103, 3, 9, 23, 0, 246), none, none, some (.iload_n 3, 1, 0, 0, 0, 0), some (.iastore, 1, 0, 0, 0, 0), some (.aload_n 0, 1, 0, 0, 0, 0), some (.dup, 1, 0, 0, 0, 0), some (.getfield 103, 3, 9, 23, 0, 246), none, none, some (.iconst 1, 1, 0, 0, 0, 0), some (.iadd, 1, 0, 0, 0, 0), some (.putfield 103, 3, 9, 23, 0, 246), none, none, some (.iinc 3 1, 3, 0, 0, 0, 0), none, none, some (.goto (-52), 3, 0, 0, 0, 0), none, none, some (.aload_n 0, 1, 0, 0, 0, 0), some (.aload_n 0, 1, 0, 0, 0, 0), some (.getfield 16, 3, 9, 2, 6, 243), none, none, some (.invokevirtual 260, 3, 106, 1, 0, 277), none, none, some (.aload_n 0, 1, 0, 0, 0, 0), some (.dup, 1, 0, 0, 0, 0), some (.getfield 99, 3, 9, 22, 0, 245), none, none, some (.iconst 1, 1, 0, 0, 0, 0), some (.iadd, 1, 0, 0, 0, 0), some (.putfield 99, 3, 9, 22, 0, 245), none, none, some (.aload_n 0, 1, 0, 0, 0, 0), some (.dup, 1, 0, 0, 0, 0), some (.getfield 106, 3, 9, 24, 0, 247), none, none, some (.iload_n 1, 1, 0, 0, 0, 0), some (.invokestatic 263, 3, 145, 1, 0, 325), none, none, some (.iadd, 1, 0, 0, 0, 0), some (.putfield 106, 3, 9, 24, 0, 247), none, none, some (.aload_n 0, 1, 0, 0, 0, 0), some (.iload_n 1, 1, 0, 0, 0, 0), some (.aload_n 0, 1, 0, 0, 0, 0), some (.getfield 109, 3, 9, 25, 0, 248), none, none, some (.if_icmp .le 7, 3, 0, 0, 0, 0), none, none, some (.iload_n 1, 1, 0, 0, 0, 0), some (.goto 7, 3, 0, 0, 0, 0), none, none, some (.aload_n 0, 1, 0, 0, 0, 0), some (.getfield 109, 3, 9, 25, 0, 248), none, none, some (.putfield 109, 3, 9, 25, 0, 248), none, none, some (.return_, 1, 0, 0, 0, 0)]
def e_X9_there : List (Option EN) := [some (.iconst 0, 1, 0, 0, 0, 0), some (.istore_n 2, 1, 0, 0, 0, 0), some (.iconst 0, 1, 0, 0, 0, 0), some (.istore_n 3, 1, 0, 0, 0, 0), some (.iload_n 3, 1, 0, 0, 0, 0), some (.bipush 81, 2, 0, 0, 0, 0), none, some (.if_icmp .ge 33, 3, 0, 0, 0, 0), none, none, some (.aload_n 0, 1, 0, 0, 0, 0), some (.getfield 22, 3, 9, 4, 6, 259), none, none, some (.iload_n 3, 1, 0, 0, 0, 0), some (.dup2, 1, 0, 0, 0, 0), some (.iaload, 1, 0, 0, 0, 0), some (.aload_n 1, 1, 0, 0, 0, 0), some (.iload_n 3, 1, 0, 0, 0, 0), some (.iaload, 1, 0, 0, 0, 0), some (.iand, 1, 0, 0, 0, 0), some (.iastore, 1, 0, 0, 0, 0), some (.iload_n 2, 1, 0, 0, 0, 0), some (.aload_n 0, 1, 0, 0, 0, 0), some (.getfield 22, 3, 9, 4, 6, 259), none, none, some (.iload_n 3, 1, 0, 0, 0, 0), some (.iaload, 1, 0, 0, 0, 0), some (.invokestatic 139, 3, 92, 1, 0, 284), none, none, some (.iadd, 1, 0, 0, 0, 0), some (.istore_n 2, 1, 0, 0, 0, 0), some (.iinc 3 1, 3, 0, 0, 0, 0), none, none, some (.goto (-33), 3, 0, 0, 0, 0), none, none, some (.iload_n 2, 1, 0, 0, 0, 0), some (.ireturn, 1, 0, 0, 0, 0)]
def e_X9_told : List (Option EN) := [some (.iload_n 1, 1, 0, 0, 0, 0), some (.tableswitch 68 0 4 #[35, 40, 45, 50, 55], 35, 0, 0, 0, 0), none, none, none, none, none, none, none, none, none, none, none, none, none, none, none, none, none, none, none, none, none, none, none, none, none, none, none, none, none, none, none, none, none, none, some (.aload_n 0, 1, 0, 0, 0, 0), some (.getfield 99, 3, 9, 22, 0, 245), none, none, some (.ireturn, 1, 0, 0, 0, 0), some (.aload_n 0, 1, 0, 0, 0, 0), some (.getfield 106, 3, 9, 24, 0, 247), none, none, some (.ireturn, 1, 0, 0, 0, 0), some (.aload_n 0, 1, 0, 0, 0, 0), some (.getfield 109, 3, 9, 25, 0, 248), none, none, some (.ireturn, 1, 0, 0, 0, 0), some (.aload_n 0, 1, 0, 0, 0, 0), some (.getfield 103, 3, 9, 23, 0, 246), none, none, some (.ireturn, 1, 0, 0, 0, 0), some (.aload_n 0, 1, 0, 0, 0, 0), some (.getfield 112, 3, 9, 26, 1, 249), none, none, some (.ifCond .eq 7, 3, 0, 0, 0, 0), none, none, some (.iconst 1, 1, 0, 0, 0, 0), some (.goto 4, 3, 0, 0, 0, 0), none, none, some (.iconst 0, 1, 0, 0, 0, 0), some (.ireturn, 1, 0, 0, 0, 0), some (.iconst (-1), 1, 0, 0, 0, 0), some (.ireturn, 1, 0, 0, 0, 0)]
def e_X9_weight : List (Option EN) := [some (.iload_n 0, 1, 0, 0, 0, 0), some (.tableswitch 102 0 12 #[67, 69, 71, 73, 75, 78, 81, 84, 87, 90, 93, 96, 99], 67, 0, 0, 0, 0), none, none, none, none, none, none, none, none, none, none, none, none, none, none, none, none, none, none, none, none, none, none, none, none, none, none, none, none, none, none, none, none, none, none, none, none, none, none, none, none, none, none, none, none, none, none, none, none, none, none, none, none, none, none, none, none, none, none, none, none, none, none, none, none, none, none, some (.iconst 1, 1, 0, 0, 0, 0), some (.ireturn, 1, 0, 0, 0, 0), some (.iconst 2, 1, 0, 0, 0, 0), some (.ireturn, 1, 0, 0, 0, 0), some (.iconst 4, 1, 0, 0, 0, 0), some (.ireturn, 1, 0, 0, 0, 0), some (.iconst 5, 1, 0, 0, 0, 0), some (.ireturn, 1, 0, 0, 0, 0), some (.bipush 6, 2, 0, 0, 0, 0), none, some (.ireturn, 1, 0, 0, 0, 0), some (.bipush 8, 2, 0, 0, 0, 0), none, some (.ireturn, 1, 0, 0, 0, 0), some (.bipush 9, 2, 0, 0, 0, 0), none, some (.ireturn, 1, 0, 0, 0, 0), some (.bipush 12, 2, 0, 0, 0, 0), none, some (.ireturn, 1, 0, 0, 0, 0), some (.bipush 14, 2, 0, 0, 0, 0), none, some (.ireturn, 1, 0, 0, 0, 0), some (.bipush 16, 2, 0, 0, 0, 0), none, some (.ireturn, 1, 0, 0, 0, 0), some (.bipush 20, 2, 0, 0, 0, 0), none, some (.ireturn, 1, 0, 0, 0, 0), some (.bipush 18, 2, 0, 0, 0, 0), none, some (.ireturn, 1, 0, 0, 0, 0), some (.bipush 24, 2, 0, 0, 0, 0), none, some (.ireturn, 1, 0, 0, 0, 0), some (.bipush 30, 2, 0, 0, 0, 0), none, some (.ireturn, 1, 0, 0, 0, 0)]
def e_J6_bitCount_0f7a4 : List (Option EN) := [some (.iload_n 0, 1, 0, 0, 0, 0), some (.iload_n 0, 1, 0, 0, 0, 0), some (.iconst 1, 1, 0, 0, 0, 0), some (.iushr, 1, 0, 0, 0, 0), some (.ldc_w 265, 3, 1431655765, 0, 0, 326), none, none, some (.iand, 1, 0, 0, 0, 0), some (.isub, 1, 0, 0, 0, 0), some (.istore_n 0, 1, 0, 0, 0, 0), some (.iload_n 0, 1, 0, 0, 0, 0), some (.ldc_w 266, 3, 858993459, 0, 0, 327), none, none, some (.iand, 1, 0, 0, 0, 0), some (.iload_n 0, 1, 0, 0, 0, 0), some (.iconst 2, 1, 0, 0, 0, 0), some (.iushr, 1, 0, 0, 0, 0), some (.ldc_w 266, 3, 858993459, 0, 0, 327), none, none, some (.iand, 1, 0, 0, 0, 0), some (.iadd, 1, 0, 0, 0, 0), some (.istore_n 0, 1, 0, 0, 0, 0), some (.iload_n 0, 1, 0, 0, 0, 0), some (.iload_n 0, 1, 0, 0, 0, 0), some (.iconst 4, 1, 0, 0, 0, 0), some (.iushr, 1, 0, 0, 0, 0), some (.iadd, 1, 0, 0, 0, 0), some (.ldc_w 267, 3, 252645135, 0, 0, 328), none, none, some (.iand, 1, 0, 0, 0, 0), some (.istore_n 0, 1, 0, 0, 0, 0), some (.iload_n 0, 1, 0, 0, 0, 0), some (.iload_n 0, 1, 0, 0, 0, 0), some (.bipush 8, 2, 0, 0, 0, 0), none, some (.iushr, 1, 0, 0, 0, 0), some (.iadd, 1, 0, 0, 0, 0), some (.istore_n 0, 1, 0, 0, 0, 0), some (.iload_n 0, 1, 0, 0, 0, 0), some (.iload_n 0, 1, 0, 0, 0, 0), some (.bipush 16, 2, 0, 0, 0, 0), none, some (.iushr, 1, 0, 0, 0, 0), some (.iadd, 1, 0, 0, 0, 0), some (.istore_n 0, 1, 0, 0, 0, 0), some (.iload_n 0, 1, 0, 0, 0, 0), some (.bipush 63, 2, 0, 0, 0, 0), none, some (.iand, 1, 0, 0, 0, 0), some (.ireturn, 1, 0, 0, 0, 0)]
def e_J7_fill_53178 : List (Option EN) := [some (.iconst 0, 1, 0, 0, 0, 0), some (.istore_n 2, 1, 0, 0, 0, 0), some (.aload_n 0, 1, 0, 0, 0, 0), some (.arraylength, 1, 0, 0, 0, 0), some (.istore_n 3, 1, 0, 0, 0, 0), some (.iload_n 2, 1, 0, 0, 0, 0), some (.iload_n 3, 1, 0, 0, 0, 0), some (.if_icmp .ge 13, 3, 0, 0, 0, 0), none, none, some (.aload_n 0, 1, 0, 0, 0, 0), some (.iload_n 2, 1, 0, 0, 0, 0), some (.iload_n 1, 1, 0, 0, 0, 0), some (.iastore, 1, 0, 0, 0, 0), some (.iinc 2 1, 3, 0, 0, 0, 0), none, none, some (.goto (-12), 3, 0, 0, 0, 0), none, none, some (.return_, 1, 0, 0, 0, 0)]
def e_L_law : List (Option EN) := [some (.new 7, 3, 8, 11, 0, 329), none, none, some (.dup, 1, 0, 0, 0, 0), some (.invokespecial 9, 3, 73, 0, 0, 330), none, none, some (.astore_n 1, 1, 0, 0, 0, 0), some (.new 10, 3, 9, 42, 0, 331), none, none, some (.dup, 1, 0, 0, 0, 0), some (.invokespecial 12, 3, 116, 0, 0, 332), none, none, some (.astore_n 2, 1, 0, 0, 0, 0), some (.iconst 0, 1, 0, 0, 0, 0), some (.istore_n 3, 1, 0, 0, 0, 0), some (.iload_n 3, 1, 0, 0, 0, 0), some (.aload_n 0, 1, 0, 0, 0, 0), some (.arraylength, 1, 0, 0, 0, 0), some (.iconst 4, 1, 0, 0, 0, 0), some (.isub, 1, 0, 0, 0, 0), some (.if_icmp .gt 499, 3, 0, 0, 0, 0), none, none, some (.aload_n 0, 1, 0, 0, 0, 0), some (.iload_n 3, 1, 0, 0, 0, 0), some (.iaload, 1, 0, 0, 0, 0), some (.bipush 15, 2, 0, 0, 0, 0), none, some (.iand, 1, 0, 0, 0, 0), some (.tableswitch 484 0 13 #[72, 105, 138, 161, 194, 217, 250, 283, 316, 339, 382, 405, 428, 451], 72, 0, 0, 0, 0), none, none, none, none, none, none, none, none, none, none, none, none, none, none, none, none, none, none, none, none, none, none, none, none, none, none, none, none, none, none, none, none, none, none, none, none, none, none, none, none, none, none, none, none, none, none, none, none, none, none, none, none, none, none, none, none, none, none, none, none, none, none, none, none, none, none, none, none, none, none, none, some (.aload_n 1, 1, 0, 0, 0, 0), some (.aload_n 0, 1, 0, 0, 0, 0), some (.iload_n 3, 1, 0, 0, 0, 0), some (.iconst 1, 1, 0, 0, 0, 0), some (.iadd, 1, 0, 0, 0, 0), some (.iaload, 1, 0, 0, 0, 0), some (.aload_n 0, 1, 0, 0, 0, 0), some (.iload_n 3, 1, 0, 0, 0, 0), some (.iconst 2, 1, 0, 0, 0, 0), some (.iadd, 1, 0, 0, 0, 0), some (.iaload, 1, 0, 0, 0, 0), some (.invokevirtual 13, 3, 70, 2, 0, 333), none, none, some (.aload_n 2, 1, 0, 0, 0, 0), some (.aload_n 0, 1, 0, 0, 0, 0), some (.iload_n 3, 1, 0, 0, 0, 0), some (.iconst 1, 1, 0, 0, 0, 0), some (.iadd, 1, 0, 0, 0, 0), some (.iaload, 1, 0, 0, 0, 0), some (.aload_n 0, 1, 0, 0, 0, 0), some (.iload_n 3, 1, 0, 0, 0, 0), some (.iconst 2, 1, 0, 0, 0, 0), some (.iadd, 1, 0, 0, 0, 0), some (.iaload, 1, 0, 0, 0, 0), some (.invokevirtual 17, 3, 105, 2, 0, 334), none, none, some (.if_icmp .eq 384, 3, 0, 0, 0, 0), none, none, some (.iconst 0, 1, 0, 0, 0, 0), some (.ireturn, 1, 0, 0, 0, 0), some (.aload_n 1, 1, 0, 0, 0, 0), some (.aload_n 0, 1, 0, 0, 0, 0), some (.iload_n 3, 1, 0, 0, 0, 0), some (.iconst 1, 1, 0, 0, 0, 0), some (.iadd, 1, 0, 0, 0, 0), some (.iaload, 1, 0, 0, 0, 0), some (.aload_n 0, 1, 0, 0, 0, 0), some (.iload_n 3, 1, 0, 0, 0, 0), some (.iconst 2, 1, 0, 0, 0, 0), some (.iadd, 1, 0, 0, 0, 0), some (.iaload, 1, 0, 0, 0, 0), some (.invokevirtual 18, 3, 80, 2, 0, 335), none, none, some (.aload_n 2, 1, 0, 0, 0, 0), some (.aload_n 0, 1, 0, 0, 0, 0), some (.iload_n 3, 1, 0, 0, 0, 0), some (.iconst 1, 1, 0, 0, 0, 0), some (.iadd, 1, 0, 0, 0, 0), some (.iaload, 1, 0, 0, 0, 0), some (.aload_n 0, 1, 0, 0, 0, 0), some (.iload_n 3, 1, 0, 0, 0, 0), some (.iconst 2, 1, 0, 0, 0, 0), some (.iadd, 1, 0, 0, 0, 0), some (.iaload, 1, 0, 0, 0, 0), some (.invokevirtual 21, 3, 133, 2, 0, 336), none, none, some (.if_icmp .eq 351, 3, 0, 0, 0, 0), none, none, some (.iconst 0, 1, 0, 0, 0, 0), some (.ireturn, 1, 0, 0, 0, 0), some (.aload_n 1, 1, 0, 0, 0, 0), some (.aload_n 0, 1, 0, 0, 0, 0), some (.iload_n 3, 1, 0, 0, 0, 0), some (.iconst 1, 1, 0, 0, 0, 0), some (.iadd, 1, 0, 0, 0, 0), some (.iaload, 1, 0, 0, 0, 0), some (.invokevirtual 22, 3, 72, 1, 0, 337), none, none, some (.aload_n 2, 1, 0, 0, 0, 0), some (.aload_n 0, 1, 0, 0, 0, 0), some (.iload_n 3, 1, 0, 0, 0, 0), some (.iconst 1, 1, 0, 0, 0, 0), some (.iadd, 1, 0, 0, 0, 0), some (.iaload, 1, 0, 0, 0, 0), some (.invokevirtual 26, 3, 109, 1, 0, 338), none, none, some (.if_icmp .eq 328, 3, 0, 0, 0, 0), none, none, some (.iconst 0, 1, 0, 0, 0, 0), some (.ireturn, 1, 0, 0, 0, 0), some (.aload_n 1, 1, 0, 0, 0, 0), some (.aload_n 0, 1, 0, 0, 0, 0), some (.iload_n 3, 1, 0, 0, 0, 0), some (.iconst 1, 1, 0, 0, 0, 0), some (.iadd, 1, 0, 0, 0, 0), some (.iaload, 1, 0, 0, 0, 0), some (.aload_n 0, 1, 0, 0, 0, 0), some (.iload_n 3, 1, 0, 0, 0, 0), some (.iconst 2, 1, 0, 0, 0, 0), some (.iadd, 1, 0, 0, 0, 0), some (.iaload, 1, 0, 0, 0, 0), some (.invokevirtual 27, 3, 67, 2, 0, 339), none, none, some (.aload_n 2, 1, 0, 0, 0, 0), some (.aload_n 0, 1, 0, 0, 0, 0), some (.iload_n 3, 1, 0, 0, 0, 0), some (.iconst 1, 1, 0, 0, 0, 0), some (.iadd, 1, 0, 0, 0, 0), some (.iaload, 1, 0, 0, 0, 0), some (.aload_n 0, 1, 0, 0, 0, 0), some (.iload_n 3, 1, 0, 0, 0, 0), some (.iconst 2, 1, 0, 0, 0, 0), some (.iadd, 1, 0, 0, 0, 0), some (.iaload, 1, 0, 0, 0, 0), some (.invokevirtual 31, 3, 94, 2, 0, 340), none, none, some (.if_icmp .eq 295, 3, 0, 0, 0, 0), none, none, some (.iconst 0, 1, 0, 0, 0, 0), some (.ireturn, 1, 0, 0, 0, 0), some (.aload_n 1, 1, 0, 0, 0, 0), some (.aload_n 0, 1, 0, 0, 0, 0), some (.iload_n 3, 1, 0, 0, 0, 0), some (.iconst 1, 1, 0, 0, 0, 0), some (.iadd, 1, 0, 0, 0, 0), some (.iaload, 1, 0, 0, 0, 0), some (.invokevirtual 32, 3, 88, 1, 0, 341), none, none, some (.aload_n 2, 1, 0, 0, 0, 0), some (.aload_n 0, 1, 0, 0, 0, 0), some (.iload_n 3, 1, 0, 0, 0, 0), some (.iconst 1, 1, 0, 0, 0, 0), some (.iadd, 1, 0, 0, 0, 0), some (.iaload, 1, 0, 0, 0, 0), some (.invokevirtual 35, 3, 144, 1, 0, 342), none, none, some (.if_icmp .eq 272, 3, 0, 0, 0, 0), none, none, some (.iconst 0, 1, 0, 0, 0, 0), some (.ireturn, 1, 0, 0, 0, 0), some (.aload_n 1, 1, 0, 0, 0, 0), some (.aload_n 0, 1, 0, 0, 0, 0), some (.iload_n 3, 1, 0, 0, 0, 0), some (.iconst 1, 1, 0, 0, 0, 0), some (.iadd, 1, 0, 0, 0, 0), some (.iaload, 1, 0, 0, 0, 0), some (.aload_n 0, 1, 0, 0, 0, 0), some (.iload_n 3, 1, 0, 0, 0, 0), some (.iconst 2, 1, 0, 0, 0, 0), some (.iadd, 1, 0, 0, 0, 0), some (.iaload, 1, 0, 0, 0, 0), some (.invokevirtual 36, 3, 85, 2, 0, 343), none, none, some (.aload_n 2, 1, 0, 0, 0, 0), some (.aload_n 0, 1, 0, 0, 0, 0), some (.iload_n 3, 1, 0, 0, 0, 0), some (.iconst 1, 1, 0, 0, 0, 0), some (.iadd, 1, 0, 0, 0, 0), some (.iaload, 1, 0, 0, 0, 0), some (.aload_n 0, 1, 0, 0, 0, 0), some (.iload_n 3, 1, 0, 0, 0, 0), some (.iconst 2, 1, 0, 0, 0, 0), some (.iadd, 1, 0, 0, 0, 0), some (.iaload, 1, 0, 0, 0, 0), some (.invokevirtual 39, 3, 140, 2, 0, 344), none, none, some (.if_icmp .eq 239, 3, 0, 0, 0, 0), none, none, some (.iconst 0, 1, 0, 0, 0, 0), some (.ireturn, 1, 0, 0, 0, 0), some (.aload_n 1, 1, 0, 0, 0, 0), some (.aload_n 0, 1, 0, 0, 0, 0), some (.iload_n 3, 1, 0, 0, 0, 0), some (.iconst 1, 1, 0, 0, 0, 0), some (.iadd, 1, 0, 0, 0, 0), some (.iaload, 1, 0, 0, 0, 0), some (.aload_n 0, 1, 0, 0, 0, 0), some (.iload_n 3, 1, 0, 0, 0, 0), some (.iconst 2, 1, 0, 0, 0, 0), some (.iadd, 1, 0, 0, 0, 0), some (.iaload, 1, 0, 0, 0, 0), some (.invokevirtual 40, 3, 71, 2, 0, 345), none, none, some (.aload_n 2, 1, 0, 0, 0, 0), some (.aload_n 0, 1, 0, 0, 0, 0), some (.iload_n 3, 1, 0, 0, 0, 0), some (.iconst 1, 1, 0, 0, 0, 0), some (.iadd, 1, 0, 0, 0, 0), some (.iaload, 1, 0, 0, 0, 0), some (.aload_n 0, 1, 0, 0, 0, 0), some (.iload_n 3, 1, 0, 0, 0, 0), some (.iconst 2, 1, 0, 0, 0, 0), some (.iadd, 1, 0, 0, 0, 0), some (.iaload, 1, 0, 0, 0, 0), some (.invokevirtual 43, 3, 108, 2, 0, 346), none, none, some (.if_icmp .eq 206, 3, 0, 0, 0, 0), none, none, some (.iconst 0, 1, 0, 0, 0, 0), some (.ireturn, 1, 0, 0, 0, 0), some (.aload_n 1, 1, 0, 0, 0, 0), some (.aload_n 0, 1, 0, 0, 0, 0), some (.iload_n 3, 1, 0, 0, 0, 0), some (.iconst 1, 1, 0, 0, 0, 0), some (.iadd, 1, 0, 0, 0, 0), some (.iaload, 1, 0, 0, 0, 0), some (.aload_n 0, 1, 0, 0, 0, 0), some (.iload_n 3, 1, 0, 0, 0, 0), some (.iconst 2, 1, 0, 0, 0, 0), some (.iadd, 1, 0, 0, 0, 0), some (.iaload, 1, 0, 0, 0, 0), some (.invokevirtual 44, 3, 76, 2, 0, 347), none, none, some (.aload_n 2, 1, 0, 0, 0, 0), some (.aload_n 0, 1, 0, 0, 0, 0), some (.iload_n 3, 1, 0, 0, 0, 0), some (.iconst 1, 1, 0, 0, 0, 0), some (.iadd, 1, 0, 0, 0, 0), some (.iaload, 1, 0, 0, 0, 0), some (.aload_n 0, 1, 0, 0, 0, 0), some (.iload_n 3, 1, 0, 0, 0, 0), some (.iconst 2, 1, 0, 0, 0, 0), some (.iadd, 1, 0, 0, 0, 0), some (.iaload, 1, 0, 0, 0, 0), some (.invokevirtual 47, 3, 125, 2, 0, 348), none, none, some (.if_icmp .eq 173, 3, 0, 0, 0, 0), none, none, some (.iconst 0, 1, 0, 0, 0, 0), some (.ireturn, 1, 0, 0, 0, 0), some (.aload_n 1, 1, 0, 0, 0, 0), some (.aload_n 0, 1, 0, 0, 0, 0), some (.iload_n 3, 1, 0, 0, 0, 0), some (.iconst 1, 1, 0, 0, 0, 0), some (.iadd, 1, 0, 0, 0, 0), some (.iaload, 1, 0, 0, 0, 0), some (.invokevirtual 48, 3, 77, 1, 0, 349), none, none, some (.aload_n 2, 1, 0, 0, 0, 0), some (.aload_n 0, 1, 0, 0, 0, 0), some (.iload_n 3, 1, 0, 0, 0, 0), some (.iconst 1, 1, 0, 0, 0, 0), some (.iadd, 1, 0, 0, 0, 0), some (.iaload, 1, 0, 0, 0, 0), some (.invokevirtual 51, 3, 129, 1, 0, 350), none, none, some (.if_icmp .eq 150, 3, 0, 0, 0, 0), none, none, some (.iconst 0, 1, 0, 0, 0, 0), some (.ireturn, 1, 0, 0, 0, 0), some (.aload_n 1, 1, 0, 0, 0, 0), some (.aload_n 0, 1, 0, 0, 0, 0), some (.iload_n 3, 1, 0, 0, 0, 0), some (.iconst 1, 1, 0, 0, 0, 0), some (.iadd, 1, 0, 0, 0, 0), some (.iaload, 1, 0, 0, 0, 0), some (.aload_n 0, 1, 0, 0, 0, 0), some (.iload_n 3, 1, 0, 0, 0, 0), some (.iconst 2, 1, 0, 0, 0, 0), some (.iadd, 1, 0, 0, 0, 0), some (.iaload, 1, 0, 0, 0, 0), some (.aload_n 0, 1, 0, 0, 0, 0), some (.iload_n 3, 1, 0, 0, 0, 0), some (.iconst 3, 1, 0, 0, 0, 0), some (.iadd, 1, 0, 0, 0, 0), some (.iaload, 1, 0, 0, 0, 0), some (.invokevirtual 52, 3, 68, 3, 0, 351), none, none, some (.aload_n 2, 1, 0, 0, 0, 0), some (.aload_n 0, 1, 0, 0, 0, 0), some (.iload_n 3, 1, 0, 0, 0, 0), some (.iconst 1, 1, 0, 0, 0, 0), some (.iadd, 1, 0, 0, 0, 0), some (.iaload, 1, 0, 0, 0, 0), some (.aload_n 0, 1, 0, 0, 0, 0), some (.iload_n 3, 1, 0, 0, 0, 0), some (.iconst 2, 1, 0, 0, 0, 0), some (.iadd, 1, 0, 0, 0, 0), some (.iaload, 1, 0, 0, 0, 0), some (.aload_n 0, 1, 0, 0, 0, 0), some (.iload_n 3, 1, 0, 0, 0, 0), some (.iconst 3, 1, 0, 0, 0, 0), some (.iadd, 1, 0, 0, 0, 0), some (.iaload, 1, 0, 0, 0, 0), some (.invokevirtual 56, 3, 97, 3, 0, 352), none, none, some (.if_icmp .eq 107, 3, 0, 0, 0, 0), none, none, some (.iconst 0, 1, 0, 0, 0, 0), some (.ireturn, 1, 0, 0, 0, 0), some (.aload_n 1, 1, 0, 0, 0, 0), some (.aload_n 0, 1, 0, 0, 0, 0), some (.iload_n 3, 1, 0, 0, 0, 0), some (.iconst 1, 1, 0, 0, 0, 0), some (.iadd, 1, 0, 0, 0, 0), some (.iaload, 1, 0, 0, 0, 0), some (.invokevirtual 57, 3, 79, 1, 0, 353), none, none, some (.aload_n 2, 1, 0, 0, 0, 0), some (.aload_n 0, 1, 0, 0, 0, 0), some (.iload_n 3, 1, 0, 0, 0, 0), some (.iconst 1, 1, 0, 0, 0, 0), some (.iadd, 1, 0, 0, 0, 0), some (.iaload, 1, 0, 0, 0, 0), some (.invokevirtual 60, 3, 132, 1, 0, 354), none, none, some (.if_icmp .eq 84, 3, 0, 0, 0, 0), none, none, some (.iconst 0, 1, 0, 0, 0, 0), some (.ireturn, 1, 0, 0, 0, 0), some (.aload_n 1, 1, 0, 0, 0, 0), some (.aload_n 0, 1, 0, 0, 0, 0), some (.iload_n 3, 1, 0, 0, 0, 0), some (.iconst 1, 1, 0, 0, 0, 0), some (.iadd, 1, 0, 0, 0, 0), some (.iaload, 1, 0, 0, 0, 0), some (.invokevirtual 61, 3, 81, 1, 0, 355), none, none, some (.aload_n 2, 1, 0, 0, 0, 0), some (.aload_n 0, 1, 0, 0, 0, 0), some (.iload_n 3, 1, 0, 0, 0, 0), some (.iconst 1, 1, 0, 0, 0, 0), some (.iadd, 1, 0, 0, 0, 0), some (.iaload, 1, 0, 0, 0, 0), some (.invokevirtual 64, 3, 135, 1, 0, 356), none, none, some (.if_icmp .eq 61, 3, 0, 0, 0, 0), none, none, some (.iconst 0, 1, 0, 0, 0, 0), some (.ireturn, 1, 0, 0, 0, 0), some (.aload_n 1, 1, 0, 0, 0, 0), some (.aload_n 0, 1, 0, 0, 0, 0), some (.iload_n 3, 1, 0, 0, 0, 0), some (.iconst 1, 1, 0, 0, 0, 0), some (.iadd, 1, 0, 0, 0, 0), some (.iaload, 1, 0, 0, 0, 0), some (.invokevirtual 65, 3, 82, 1, 0, 357), none, none, some (.aload_n 2, 1, 0, 0, 0, 0), some (.aload_n 0, 1, 0, 0, 0, 0), some (.iload_n 3, 1, 0, 0, 0, 0), some (.iconst 1, 1, 0, 0, 0, 0), some (.iadd, 1, 0, 0, 0, 0), some (.iaload, 1, 0, 0, 0, 0), some (.invokevirtual 68, 3, 136, 1, 0, 358), none, none, some (.if_icmp .eq 38, 3, 0, 0, 0, 0), none, none, some (.iconst 0, 1, 0, 0, 0, 0), some (.ireturn, 1, 0, 0, 0, 0), some (.aload_n 1, 1, 0, 0, 0, 0), some (.aload_n 0, 1, 0, 0, 0, 0), some (.iload_n 3, 1, 0, 0, 0, 0), some (.iconst 1, 1, 0, 0, 0, 0), some (.iadd, 1, 0, 0, 0, 0), some (.iaload, 1, 0, 0, 0, 0), some (.aload_n 0, 1, 0, 0, 0, 0), some (.iload_n 3, 1, 0, 0, 0, 0), some (.iconst 2, 1, 0, 0, 0, 0), some (.iadd, 1, 0, 0, 0, 0), some (.iaload, 1, 0, 0, 0, 0), some (.invokevirtual 69, 3, 83, 2, 0, 359), none, none, some (.aload_n 2, 1, 0, 0, 0, 0), some (.aload_n 0, 1, 0, 0, 0, 0), some (.iload_n 3, 1, 0, 0, 0, 0), some (.iconst 1, 1, 0, 0, 0, 0), some (.iadd, 1, 0, 0, 0, 0), some (.iaload, 1, 0, 0, 0, 0), some (.aload_n 0, 1, 0, 0, 0, 0), some (.iload_n 3, 1, 0, 0, 0, 0), some (.iconst 2, 1, 0, 0, 0, 0), some (.iadd, 1, 0, 0, 0, 0), some (.iaload, 1, 0, 0, 0, 0), some (.invokevirtual 72, 3, 139, 2, 0, 360), none, none, some (.if_icmp .eq 5, 3, 0, 0, 0, 0), none, none, some (.iconst 0, 1, 0, 0, 0, 0), some (.ireturn, 1, 0, 0, 0, 0), some (.iinc 3 4, 3, 0, 0, 0, 0), none, none, some (.goto (-501), 3, 0, 0, 0, 0), none, none, some (.iconst 1, 1, 0, 0, 0, 0), some (.ireturn, 1, 0, 0, 0, 0)]
def edl : List (List (Option EN)) := [e_X0_drop, e_X0_flip, e_X0_has, e_X0_init, e_X0_logAt, e_X0_start, e_X0_undo, e_X1_addHeads, e_X1_addStrong, e_X1_addStrongPair, e_X1_addTails, e_X1_areStrong, e_X1_areWeak, e_X1_init, e_X1_listAllStrong, e_X1_listWeak, e_X1_mark, e_X1_markFirst, e_X1_meetsFirst, e_X1_reach, e_X1_writeChain, e_X2_add, e_X2_addPlaces, e_X2_init, e_X2_leave, e_X3_init, e_X3_mark, e_X3_markClaimed, e_X3_markClaiming, e_X3_markFirst, e_X3_markFirstSubset, e_X3_markHidden, e_X3_markPointing, e_X3_markSingle, e_X4_enter, e_X4_init, e_X4_listNear, e_X4_shareHouse, e_X5_begin, e_X5_close, e_X5_closeCell, e_X5_closePlace, e_X5_fewest, e_X5_forget, e_X5_init, e_X5_keepAlone, e_X5_keepAnswer, e_X5_noteCount, e_X5_remove, e_X5_settle, e_X5_tryNext, e_X6_baseLine, e_X6_first, e_X6_fishDigit, e_X6_init, e_X6_load, e_X6_mark, e_X6_markFrom, e_X6_pick, e_X6_touchesOthers, e_X7_forget, e_X7_has, e_X7_init, e_X7_linkAt, e_X7_write, e_X7_writeLinks, e_X8_atFirst, e_X8_candidates, e_X8_claim, e_X8_claimWritten, e_X8_give, e_X8_gone, e_X8_grade, e_X8_init, e_X8_isCell, e_X8_isOneBit, e_X8_link, e_X8_node, e_X8_placeOf, e_X8_replay, e_X8_row, e_X8_search, e_X8_searched, e_X8_solution, e_X8_startAnew, e_X8_step, e_X8_takeFirstStep, e_X8_takenAway, e_X8_told, e_X9_add, e_X9_arePeers, e_X9_begin, e_X9_bits, e_X9_byRow, e_X9_candidates, e_X9_cellOf, e_X9_chain, e_X9_claim, e_X9_claiming, e_X9_clear, e_X9_closes, e_X9_findsOne, e_X9_findsSome, e_X9_fish, e_X9_found, e_X9_give, e_X9_goes, e_X9_goesBy, e_X9_gone, e_X9_grade, e_X9_has, e_X9_hidden, e_X9_hiddenOne, e_X9_houseOf, e_X9_image, e_X9_in, e_X9_init, e_X9_instance, e_X9_isDead, e_X9_isIn, e_X9_isStrong, e_X9_isThere, e_X9_isWeak, e_X9_leaves, e_X9_link, e_X9_link_, e_X9_links, e_X9_meets, e_X9_naked, e_X9_node, e_X9_placesOf, e_X9_pointing, e_X9_replay, e_X9_row, e_X9_rowOf, e_X9_search, e_X9_searched, e_X9_single, e_X9_sizeOf, e_X9_solution, e_X9_step, e_X9_stepped, e_X9_takes, e_X9_there, e_X9_told, e_X9_weight, e_J6_bitCount_0f7a4, e_J7_fill_53178, e_L_law]
def cd (k pc : Nat) : Option EN := (edl.getD k []).getD pc none
abbrev MI : Type := MethodName × ByteArray × Nat × Option FieldType × Nat × Nat × Nat
def mtl : List MI := [(yX0_drop, cX0_drop, 2, none, 1, 0, 0),
  (yX0_flip, cX0_flip, 6, none, 1, 0, 0),
  (yX0_has, cX0_has, 2, (some .boolean), 1, 0, 0),
  (yX0_init, cX0_init, 2, none, 1, 2, 0),
  (yX0_logAt, cX0_logAt, 2, (some .int), 1, 0, 0),
  (yX0_start, cX0_start, 5, none, 1, 0, 0),
  (yX0_undo, cX0_undo, 3, none, 1, 0, 0),
  (yX1_addHeads, cX1_addHeads, 4, none, 1, 0, 1),
  (yX1_addStrong, cX1_addStrong, 6, none, 2, 0, 1),
  (yX1_addStrongPair, cX1_addStrongPair, 3, none, 2, 0, 1),
  (yX1_addTails, cX1_addTails, 5, none, 2, 0, 1),
  (yX1_areStrong, cX1_areStrong, 9, (some .boolean), 3, 0, 1),
  (yX1_areWeak, cX1_areWeak, 4, (some .boolean), 3, 0, 1),
  (yX1_init, cX1_init, 3, none, 2, 2, 1),
  (yX1_listAllStrong, cX1_listAllStrong, 8, none, 1, 0, 1),
  (yX1_listWeak, cX1_listWeak, 9, none, 2, 0, 1),
  (yX1_mark, cX1_mark, 8, (some .int), 4, 0, 1),
  (yX1_markFirst, cX1_markFirst, 5, (some .int), 1, 0, 1),
  (yX1_meetsFirst, cX1_meetsFirst, 2, (some .boolean), 0, 0, 1),
  (yX1_reach, cX1_reach, 6, (some .int), 3, 0, 1),
  (yX1_writeChain, cX1_writeChain, 4, none, 1, 0, 1),
  (yX2_add, cX2_add, 5, none, 3, 0, 2),
  (yX2_addPlaces, cX2_addPlaces, 8, none, 4, 0, 2),
  (yX2_init, cX2_init, 2, none, 1, 2, 2),
  (yX2_leave, cX2_leave, 5, none, 1, 0, 2),
  (yX3_init, cX3_init, 3, none, 2, 2, 3),
  (yX3_mark, cX3_mark, 5, (some .int), 4, 0, 3),
  (yX3_markClaimed, cX3_markClaimed, 7, none, 4, 0, 3),
  (yX3_markClaiming, cX3_markClaiming, 6, none, 3, 0, 3),
  (yX3_markFirst, cX3_markFirst, 7, (some .int), 2, 0, 3),
  (yX3_markFirstSubset, cX3_markFirstSubset, 5, (some .int), 2, 0, 3),
  (yX3_markHidden, cX3_markHidden, 5, none, 3, 0, 3),
  (yX3_markPointing, cX3_markPointing, 8, none, 3, 0, 3),
  (yX3_markSingle, cX3_markSingle, 7, none, 3, 0, 3),
  (yX4_enter, cX4_enter, 5, none, 4, 0, 4),
  (yX4_init, cX4_init, 4, none, 0, 2, 4),
  (yX4_listNear, cX4_listNear, 4, none, 1, 0, 4),
  (yX4_shareHouse, cX4_shareHouse, 3, (some .boolean), 2, 0, 4),
  (yX5_begin, cX5_begin, 3, none, 1, 0, 5),
  (yX5_close, cX5_close, 2, none, 0, 0, 5),
  (yX5_closeCell, cX5_closeCell, 6, none, 1, 0, 5),
  (yX5_closePlace, cX5_closePlace, 4, none, 1, 0, 5),
  (yX5_fewest, cX5_fewest, 5, (some .int), 0, 0, 5),
  (yX5_forget, cX5_forget, 1, none, 0, 0, 5),
  (yX5_init, cX5_init, 2, none, 1, 2, 5),
  (yX5_keepAlone, cX5_keepAlone, 4, none, 2, 0, 5),
  (yX5_keepAnswer, cX5_keepAnswer, 2, none, 0, 0, 5),
  (yX5_noteCount, cX5_noteCount, 3, none, 2, 0, 5),
  (yX5_remove, cX5_remove, 5, none, 2, 0, 5),
  (yX5_settle, cX5_settle, 2, none, 0, 0, 5),
  (yX5_tryNext, cX5_tryNext, 3, none, 0, 0, 5),
  (yX6_baseLine, cX6_baseLine, 2, (some .int), 2, 1, 6),
  (yX6_first, cX6_first, 4, (some .int), 3, 0, 6),
  (yX6_fishDigit, cX6_fishDigit, 1, (some .int), 1, 1, 6),
  (yX6_init, cX6_init, 3, none, 2, 2, 6),
  (yX6_load, cX6_load, 6, (some .boolean), 3, 0, 6),
  (yX6_mark, cX6_mark, 7, (some .int), 4, 0, 6),
  (yX6_markFrom, cX6_markFrom, 6, none, 5, 0, 6),
  (yX6_pick, cX6_pick, 9, (some .int), 5, 0, 6),
  (yX6_touchesOthers, cX6_touchesOthers, 4, (some .boolean), 2, 0, 6),
  (yX7_forget, cX7_forget, 1, none, 0, 0, 7),
  (yX7_has, cX7_has, 2, (some .boolean), 1, 0, 7),
  (yX7_init, cX7_init, 1, none, 0, 2, 7),
  (yX7_linkAt, cX7_linkAt, 2, (some .int), 1, 0, 7),
  (yX7_write, cX7_write, 6, none, 5, 0, 7),
  (yX7_writeLinks, cX7_writeLinks, 4, none, 2, 0, 7),
  (yX8_atFirst, cX8_atFirst, 1, (some .int), 1, 1, 8),
  (yX8_candidates, cX8_candidates, 3, (some .int), 2, 0, 8),
  (yX8_claim, cX8_claim, 5, (some .int), 3, 0, 8),
  (yX8_claimWritten, cX8_claimWritten, 2, (some .int), 1, 0, 8),
  (yX8_give, cX8_give, 3, (some .boolean), 2, 0, 8),
  (yX8_gone, cX8_gone, 3, (some .int), 2, 0, 8),
  (yX8_grade, cX8_grade, 4, (some .int), 1, 0, 8),
  (yX8_init, cX8_init, 2, none, 0, 2, 8),
  (yX8_isCell, cX8_isCell, 1, (some .boolean), 1, 1, 8),
  (yX8_isOneBit, cX8_isOneBit, 1, (some .boolean), 1, 1, 8),
  (yX8_link, cX8_link, 3, (some .int), 2, 0, 8),
  (yX8_node, cX8_node, 2, (some .int), 1, 0, 8),
  (yX8_placeOf, cX8_placeOf, 1, (some .int), 1, 1, 8),
  (yX8_replay, cX8_replay, 4, (some .int), 1, 0, 8),
  (yX8_row, cX8_row, 5, (some .boolean), 2, 0, 8),
  (yX8_search, cX8_search, 3, (some .int), 1, 0, 8),
  (yX8_searched, cX8_searched, 2, (some .int), 1, 0, 8),
  (yX8_solution, cX8_solution, 3, (some .int), 2, 0, 8),
  (yX8_startAnew, cX8_startAnew, 1, none, 0, 0, 8),
  (yX8_step, cX8_step, 3, (some .int), 2, 0, 8),
  (yX8_takeFirstStep, cX8_takeFirstStep, 3, (some .boolean), 0, 0, 8),
  (yX8_takenAway, cX8_takenAway, 2, (some .int), 1, 0, 8),
  (yX8_told, cX8_told, 2, (some .int), 1, 0, 8),
  (yX9_add, cX9_add, 3, none, 3, 1, 9),
  (yX9_arePeers, cX9_arePeers, 2, (some .boolean), 2, 1, 9),
  (yX9_begin, cX9_begin, 2, none, 0, 0, 9),
  (yX9_bits, cX9_bits, 3, (some .int), 1, 1, 9),
  (yX9_byRow, cX9_byRow, 8, (some .int), 4, 0, 9),
  (yX9_candidates, cX9_candidates, 3, (some .int), 2, 0, 9),
  (yX9_cellOf, cX9_cellOf, 3, (some .int), 2, 1, 9),
  (yX9_chain, cX9_chain, 6, (some .int), 1, 0, 9),
  (yX9_claim, cX9_claim, 5, (some .int), 3, 0, 9),
  (yX9_claiming, cX9_claiming, 8, (some .boolean), 3, 0, 9),
  (yX9_clear, cX9_clear, 2, none, 0, 0, 9),
  (yX9_closes, cX9_closes, 4, none, 0, 0, 9),
  (yX9_findsOne, cX9_findsOne, 7, (some .boolean), 2, 0, 9),
  (yX9_findsSome, cX9_findsSome, 11, (some .boolean), 2, 0, 9),
  (yX9_fish, cX9_fish, 10, (some .boolean), 4, 0, 9),
  (yX9_found, cX9_found, 5, (some .boolean), 4, 0, 9),
  (yX9_give, cX9_give, 3, (some .boolean), 2, 0, 9),
  (yX9_goes, cX9_goes, 3, none, 1, 0, 9),
  (yX9_goesBy, cX9_goesBy, 5, (some .boolean), 2, 0, 9),
  (yX9_gone, cX9_gone, 3, (some .int), 2, 0, 9),
  (yX9_grade, cX9_grade, 3, (some .int), 1, 0, 9),
  (yX9_has, cX9_has, 3, (some .boolean), 3, 1, 9),
  (yX9_hidden, cX9_hidden, 7, (some .boolean), 4, 0, 9),
  (yX9_hiddenOne, cX9_hiddenOne, 6, (some .boolean), 3, 0, 9),
  (yX9_houseOf, cX9_houseOf, 4, (some .int), 2, 1, 9),
  (yX9_image, cX9_image, 9, none, 5, 0, 9),
  (yX9_in, cX9_in, 3, (some .boolean), 3, 1, 9),
  (yX9_init, cX9_init, 1, none, 0, 2, 9),
  (yX9_instance, cX9_instance, 6, (some .int), 4, 0, 9),
  (yX9_isDead, cX9_isDead, 4, (some .boolean), 0, 0, 9),
  (yX9_isIn, cX9_isIn, 2, (some .boolean), 2, 1, 9),
  (yX9_isStrong, cX9_isStrong, 5, (some .boolean), 3, 1, 9),
  (yX9_isThere, cX9_isThere, 2, (some .boolean), 2, 1, 9),
  (yX9_isWeak, cX9_isWeak, 3, (some .boolean), 3, 1, 9),
  (yX9_leaves, cX9_leaves, 1, none, 0, 0, 9),
  (yX9_link, cX9_link, 4, none, 3, 0, 9),
  (yX9_link_, cX9_link_, 3, (some .int), 2, 0, 9),
  (yX9_links, cX9_links, 4, none, 1, 0, 9),
  (yX9_meets, cX9_meets, 4, none, 0, 0, 9),
  (yX9_naked, cX9_naked, 7, (some .boolean), 4, 0, 9),
  (yX9_node, cX9_node, 2, (some .int), 1, 0, 9),
  (yX9_placesOf, cX9_placesOf, 5, (some .int), 3, 1, 9),
  (yX9_pointing, cX9_pointing, 7, (some .boolean), 3, 0, 9),
  (yX9_replay, cX9_replay, 5, (some .int), 1, 0, 9),
  (yX9_row, cX9_row, 5, (some .boolean), 2, 0, 9),
  (yX9_rowOf, cX9_rowOf, 7, none, 2, 0, 9),
  (yX9_search, cX9_search, 7, (some .int), 1, 0, 9),
  (yX9_searched, cX9_searched, 2, (some .int), 1, 0, 9),
  (yX9_single, cX9_single, 5, (some .boolean), 3, 0, 9),
  (yX9_sizeOf, cX9_sizeOf, 1, (some .int), 1, 1, 9),
  (yX9_solution, cX9_solution, 3, (some .int), 2, 0, 9),
  (yX9_step, cX9_step, 3, (some .int), 2, 0, 9),
  (yX9_stepped, cX9_stepped, 3, (some .boolean), 0, 0, 9),
  (yX9_takes, cX9_takes, 4, none, 2, 0, 9),
  (yX9_there, cX9_there, 4, (some .int), 1, 0, 9),
  (yX9_told, cX9_told, 2, (some .int), 1, 0, 9),
  (yX9_weight, cX9_weight, 1, (some .int), 1, 1, 9),
  (yJ6_bitCount_0f7a4, cJ6_bitCount_0f7a4, 1, (some .int), 1, 1, 10),
  (yJ7_fill_53178, cJ7_fill_53178, 4, none, 2, 1, 12),
  (x, code, 4, (some .boolean), 1, 1, 13)]
def mt (k : Nat) : MI := mtl.getD k (⟨"", "", ""⟩, ⟨#[]⟩, 0, none, 0, 3, 99)
abbrev k_X0_drop : Nat := 0
abbrev k_X0_flip : Nat := 1
abbrev k_X0_has : Nat := 2
abbrev k_X0_init : Nat := 3
abbrev k_X0_logAt : Nat := 4
abbrev k_X0_start : Nat := 5
abbrev k_X0_undo : Nat := 6
abbrev k_X1_addHeads : Nat := 7
abbrev k_X1_addStrong : Nat := 8
abbrev k_X1_addStrongPair : Nat := 9
abbrev k_X1_addTails : Nat := 10
abbrev k_X1_areStrong : Nat := 11
abbrev k_X1_areWeak : Nat := 12
abbrev k_X1_init : Nat := 13
abbrev k_X1_listAllStrong : Nat := 14
abbrev k_X1_listWeak : Nat := 15
abbrev k_X1_mark : Nat := 16
abbrev k_X1_markFirst : Nat := 17
abbrev k_X1_meetsFirst : Nat := 18
abbrev k_X1_reach : Nat := 19
abbrev k_X1_writeChain : Nat := 20
abbrev k_X2_add : Nat := 21
abbrev k_X2_addPlaces : Nat := 22
abbrev k_X2_init : Nat := 23
abbrev k_X2_leave : Nat := 24
abbrev k_X3_init : Nat := 25
abbrev k_X3_mark : Nat := 26
abbrev k_X3_markClaimed : Nat := 27
abbrev k_X3_markClaiming : Nat := 28
abbrev k_X3_markFirst : Nat := 29
abbrev k_X3_markFirstSubset : Nat := 30
abbrev k_X3_markHidden : Nat := 31
abbrev k_X3_markPointing : Nat := 32
abbrev k_X3_markSingle : Nat := 33
abbrev k_X4_enter : Nat := 34
abbrev k_X4_init : Nat := 35
abbrev k_X4_listNear : Nat := 36
abbrev k_X4_shareHouse : Nat := 37
abbrev k_X5_begin : Nat := 38
abbrev k_X5_close : Nat := 39
abbrev k_X5_closeCell : Nat := 40
abbrev k_X5_closePlace : Nat := 41
abbrev k_X5_fewest : Nat := 42
abbrev k_X5_forget : Nat := 43
abbrev k_X5_init : Nat := 44
abbrev k_X5_keepAlone : Nat := 45
abbrev k_X5_keepAnswer : Nat := 46
abbrev k_X5_noteCount : Nat := 47
abbrev k_X5_remove : Nat := 48
abbrev k_X5_settle : Nat := 49
abbrev k_X5_tryNext : Nat := 50
abbrev k_X6_baseLine : Nat := 51
abbrev k_X6_first : Nat := 52
abbrev k_X6_fishDigit : Nat := 53
abbrev k_X6_init : Nat := 54
abbrev k_X6_load : Nat := 55
abbrev k_X6_mark : Nat := 56
abbrev k_X6_markFrom : Nat := 57
abbrev k_X6_pick : Nat := 58
abbrev k_X6_touchesOthers : Nat := 59
abbrev k_X7_forget : Nat := 60
abbrev k_X7_has : Nat := 61
abbrev k_X7_init : Nat := 62
abbrev k_X7_linkAt : Nat := 63
abbrev k_X7_write : Nat := 64
abbrev k_X7_writeLinks : Nat := 65
abbrev k_X8_atFirst : Nat := 66
abbrev k_X8_candidates : Nat := 67
abbrev k_X8_claim : Nat := 68
abbrev k_X8_claimWritten : Nat := 69
abbrev k_X8_give : Nat := 70
abbrev k_X8_gone : Nat := 71
abbrev k_X8_grade : Nat := 72
abbrev k_X8_init : Nat := 73
abbrev k_X8_isCell : Nat := 74
abbrev k_X8_isOneBit : Nat := 75
abbrev k_X8_link : Nat := 76
abbrev k_X8_node : Nat := 77
abbrev k_X8_placeOf : Nat := 78
abbrev k_X8_replay : Nat := 79
abbrev k_X8_row : Nat := 80
abbrev k_X8_search : Nat := 81
abbrev k_X8_searched : Nat := 82
abbrev k_X8_solution : Nat := 83
abbrev k_X8_startAnew : Nat := 84
abbrev k_X8_step : Nat := 85
abbrev k_X8_takeFirstStep : Nat := 86
abbrev k_X8_takenAway : Nat := 87
abbrev k_X8_told : Nat := 88
abbrev k_X9_add : Nat := 89
abbrev k_X9_arePeers : Nat := 90
abbrev k_X9_begin : Nat := 91
abbrev k_X9_bits : Nat := 92
abbrev k_X9_byRow : Nat := 93
abbrev k_X9_candidates : Nat := 94
abbrev k_X9_cellOf : Nat := 95
abbrev k_X9_chain : Nat := 96
abbrev k_X9_claim : Nat := 97
abbrev k_X9_claiming : Nat := 98
abbrev k_X9_clear : Nat := 99
abbrev k_X9_closes : Nat := 100
abbrev k_X9_findsOne : Nat := 101
abbrev k_X9_findsSome : Nat := 102
abbrev k_X9_fish : Nat := 103
abbrev k_X9_found : Nat := 104
abbrev k_X9_give : Nat := 105
abbrev k_X9_goes : Nat := 106
abbrev k_X9_goesBy : Nat := 107
abbrev k_X9_gone : Nat := 108
abbrev k_X9_grade : Nat := 109
abbrev k_X9_has : Nat := 110
abbrev k_X9_hidden : Nat := 111
abbrev k_X9_hiddenOne : Nat := 112
abbrev k_X9_houseOf : Nat := 113
abbrev k_X9_image : Nat := 114
abbrev k_X9_in : Nat := 115
abbrev k_X9_init : Nat := 116
abbrev k_X9_instance : Nat := 117
abbrev k_X9_isDead : Nat := 118
abbrev k_X9_isIn : Nat := 119
abbrev k_X9_isStrong : Nat := 120
abbrev k_X9_isThere : Nat := 121
abbrev k_X9_isWeak : Nat := 122
abbrev k_X9_leaves : Nat := 123
abbrev k_X9_link : Nat := 124
abbrev k_X9_link_ : Nat := 125
abbrev k_X9_links : Nat := 126
abbrev k_X9_meets : Nat := 127
abbrev k_X9_naked : Nat := 128
abbrev k_X9_node : Nat := 129
abbrev k_X9_placesOf : Nat := 130
abbrev k_X9_pointing : Nat := 131
abbrev k_X9_replay : Nat := 132
abbrev k_X9_row : Nat := 133
abbrev k_X9_rowOf : Nat := 134
abbrev k_X9_search : Nat := 135
abbrev k_X9_searched : Nat := 136
abbrev k_X9_single : Nat := 137
abbrev k_X9_sizeOf : Nat := 138
abbrev k_X9_solution : Nat := 139
abbrev k_X9_step : Nat := 140
abbrev k_X9_stepped : Nat := 141
abbrev k_X9_takes : Nat := 142
abbrev k_X9_there : Nat := 143
abbrev k_X9_told : Nat := 144
abbrev k_X9_weight : Nat := 145
abbrev k_J6_bitCount_0f7a4 : Nat := 146
abbrev k_J7_fill_53178 : Nat := 147
abbrev k_L_law : Nat := 148
def nm : Nat := 149
def nests : List Cond := [(Jvm.Cond.methodLinkNest "SudokuGrader$Board" (35 : Nat) ({ cls := "SudokuGrader", name := "atFirst", desc := "(I)I" } : Jvm.MethodName) "SudokuGrader"), (Jvm.Cond.methodLinkNest "SudokuGrader$Chains" (133 : Nat) ({ cls := "SudokuGrader", name := "placeOf", desc := "(I)I" } : Jvm.MethodName) "SudokuGrader"), (Jvm.Cond.methodLinkNest "SudokuGrader$Rules" (87 : Nat) ({ cls := "SudokuGrader", name := "isOneBit", desc := "(I)Z" } : Jvm.MethodName) "SudokuGrader"), (Jvm.Cond.methodLinkNest "SudokuGrader$Rules" (94 : Nat) ({ cls := "SudokuGrader", name := "placeOf", desc := "(I)I" } : Jvm.MethodName) "SudokuGrader"), (Jvm.Cond.methodLinkNest "SudokuGrader$Solver" (96 : Nat) ({ cls := "SudokuGrader", name := "isOneBit", desc := "(I)Z" } : Jvm.MethodName) "SudokuGrader"), (Jvm.Cond.methodLinkNest "SudokuGrader$Solver" (100 : Nat) ({ cls := "SudokuGrader", name := "placeOf", desc := "(I)I" } : Jvm.MethodName) "SudokuGrader"), (Jvm.Cond.methodLinkNest "SudokuGrader" (53 : Nat) ({ cls := "SudokuGrader$Trace", name := "<init>", desc := "()V" } : Jvm.MethodName) "SudokuGrader")]
def lkl : List (Nat × Nat × Nat × Nat × Nat × Nat) := [(0, 43, 1, 2, 1, 0), (0, 25, 0, 0, 4, 0), (0, 39, 1, 1, 1, 0), (0, 18, 0, 0, 3, 6), (0, 9, 0, 0, 1, 6), (0, 21, 0, 0, 0, 6), (0, 47, 0, 4, 1, 6), (0, 15, 0, 0, 2, 6), (0, 52, 0, 4, 2, 6), (0, 3, 7, 9999, 0, 0), (0, 29, 2, 147, 2, 0), (0, 35, 2, 66, 1, 1), (1, 64, 0, 1, 5, 0), (1, 18, 0, 1, 4, 6), (1, 24, 0, 1, 7, 6), (1, 94, 0, 1, 14, 0), (1, 30, 0, 1, 9, 6), (1, 36, 0, 1, 11, 6), (1, 100, 1, 10, 2, 0), (1, 15, 0, 1, 3, 6), (1, 11, 0, 1, 2, 6), (1, 145, 1, 8, 2, 0), (1, 27, 0, 1, 8, 6), (1, 97, 0, 1, 13, 0), (1, 33, 0, 1, 10, 6), (1, 39, 0, 1, 12, 6), (1, 57, 1, 12, 3, 0), (1, 116, 0, 0, 1, 6), (1, 127, 2, 146, 1, 0), (1, 45, 0, 1, 0, 6), (1, 156, 0, 4, 1, 6), (1, 139, 0, 0, 2, 6), (1, 148, 1, 2, 1, 0), (1, 152, 1, 37, 2, 0), (1, 3, 7, 9999, 0, 0), (1, 21, 0, 1, 6, 6), (1, 42, 0, 1, 15, 6), (1, 49, 0, 1, 1, 6), (1, 121, 2, 147, 2, 0), (1, 133, 2, 78, 1, 1), (1, 136, 1, 9, 2, 0), (1, 142, 0, 4, 0, 6), (1, 113, 0, 4, 3, 6), (1, 53, 1, 11, 3, 0), (1, 60, 1, 15, 2, 0), (1, 68, 1, 21, 3, 0), (1, 74, 0, 2, 2, 0), (1, 77, 1, 14, 1, 0), (1, 81, 1, 19, 3, 0), (1, 85, 1, 20, 1, 0), (1, 89, 0, 1, 16, 0), (1, 90, 1, 16, 4, 0), (1, 104, 1, 18, 0, 0), (1, 108, 1, 7, 1, 0), (2, 19, 0, 0, 1, 6), (2, 9, 0, 2, 1, 6), (2, 24, 0, 2, 2, 0), (2, 28, 2, 146, 1, 0), (2, 34, 0, 0, 2, 6), (2, 15, 0, 2, 0, 6), (2, 37, 0, 4, 0, 6), (2, 3, 7, 9999, 0, 0), (2, 42, 1, 0, 1, 0), (3, 3, 7, 9999, 0, 0), (3, 9, 0, 3, 0, 6), (3, 15, 0, 3, 1, 6), (3, 19, 4, 6, 3, 0), (3, 21, 3, 54, 2, 0), (3, 24, 0, 3, 2, 6), (3, 47, 1, 56, 4, 0), (3, 48, 1, 33, 3, 0), (3, 52, 1, 31, 3, 0), (3, 55, 1, 32, 3, 0), (3, 58, 1, 28, 3, 0), (3, 61, 0, 2, 2, 0), (3, 80, 1, 22, 4, 0), (3, 84, 0, 0, 2, 6), (3, 101, 1, 27, 4, 0), (3, 28, 1, 30, 2, 0), (3, 32, 1, 26, 4, 0), (3, 36, 0, 3, 3, 0), (3, 40, 0, 3, 4, 0), (3, 43, 1, 52, 3, 0), (3, 87, 2, 75, 1, 1), (3, 91, 0, 4, 0, 6), (3, 94, 2, 78, 1, 1), (3, 98, 1, 21, 3, 0), (3, 66, 0, 0, 1, 6), (3, 72, 0, 4, 1, 6), (3, 77, 0, 4, 2, 6), (4, 9, 0, 4, 0, 6), (4, 15, 0, 4, 1, 6), (4, 18, 0, 4, 2, 6), (4, 3, 7, 9999, 0, 0), (4, 21, 0, 4, 3, 6), (4, 24, 1, 34, 4, 0), (4, 28, 1, 36, 1, 0), (4, 32, 1, 37, 2, 0), (5, 40, 0, 5, 9, 1), (5, 36, 0, 5, 1, 6), (5, 57, 1, 5, 1, 0), (5, 61, 0, 5, 4, 1), (5, 64, 0, 5, 3, 0), (5, 67, 0, 0, 1, 6), (5, 70, 1, 47, 2, 0), (5, 74, 0, 0, 2, 6), (5, 77, 1, 39, 0, 0), (5, 80, 1, 49, 0, 0), (5, 11, 0, 5, 2, 6), (5, 90, 1, 40, 1, 0), (5, 93, 1, 41, 1, 0), (5, 96, 2, 75, 1, 1), (5, 100, 2, 78, 1, 1), (5, 27, 0, 5, 0, 6), (5, 106, 0, 4, 3, 6), (5, 109, 1, 48, 2, 0), (5, 112, 0, 4, 0, 6), (5, 87, 1, 45, 2, 0), (5, 131, 2, 146, 1, 0), (5, 44, 0, 5, 10, 1), (5, 47, 0, 5, 11, 0), (5, 51, 0, 5, 12, 0), (5, 54, 0, 5, 8, 0), (5, 3, 7, 9999, 0, 0), (5, 15, 0, 5, 5, 6), (5, 18, 0, 5, 6, 6), (5, 21, 0, 5, 7, 6), (5, 24, 0, 5, 13, 6), (5, 31, 4, 0, 5, 0), (5, 33, 3, 3, 1, 0), (5, 115, 1, 0, 1, 0), (5, 118, 0, 4, 1, 6), (5, 121, 1, 42, 0, 0), (5, 125, 1, 46, 0, 0), (5, 128, 0, 0, 4, 0), (5, 83, 1, 6, 1, 0), (6, 23, 1, 55, 3, 0), (6, 27, 6, 2, 0, 0), (6, 30, 1, 58, 5, 0), (6, 3, 7, 9999, 0, 0), (6, 9, 0, 6, 2, 6), (6, 15, 0, 6, 0, 6), (6, 19, 0, 6, 1, 6), (6, 40, 6, 1, 0, 0), (6, 70, 2, 53, 1, 0), (6, 73, 0, 0, 1, 6), (6, 53, 0, 4, 0, 6), (6, 78, 0, 0, 2, 6), (6, 66, 2, 51, 2, 0), (6, 34, 2, 146, 1, 0), (6, 43, 1, 57, 5, 0), (6, 47, 0, 2, 2, 0), (6, 58, 1, 21, 3, 0), (6, 62, 1, 22, 4, 0), (6, 81, 1, 59, 2, 0), (7, 36, 0, 7, 9, 0), (7, 40, 0, 7, 10, 0), (7, 43, 0, 7, 11, 0), (7, 46, 0, 7, 8, 0), (7, 3, 7, 9999, 0, 0), (7, 9, 0, 7, 0, 6), (7, 15, 0, 7, 1, 6), (7, 18, 0, 7, 2, 6), (7, 21, 0, 7, 3, 6), (7, 24, 0, 7, 4, 6), (7, 27, 0, 7, 5, 6), (7, 30, 0, 7, 6, 6), (7, 33, 0, 7, 7, 6), (7, 49, 6, 3, 0, 0), (7, 52, 8, 9998, 0, 0), (8, 71, 2, 74, 1, 0), (8, 21, 0, 8, 1, 6), (8, 84, 0, 0, 1, 6), (8, 25, 0, 8, 2, 6), (8, 12, 0, 8, 0, 6), (8, 87, 2, 66, 1, 0), (8, 40, 0, 8, 4, 6), (8, 137, 1, 26, 4, 0), (8, 141, 1, 87, 1, 0), (8, 47, 0, 8, 5, 6), (8, 65, 0, 8, 8, 6), (8, 134, 0, 8, 9, 0), (8, 144, 1, 16, 4, 0), (8, 54, 0, 8, 6, 6), (8, 107, 0, 7, 0, 6), (8, 207, 0, 7, 7, 6), (8, 128, 0, 7, 5, 6), (8, 119, 0, 7, 6, 6), (8, 110, 0, 7, 1, 6), (8, 113, 0, 7, 2, 6), (8, 68, 1, 84, 0, 0), (8, 104, 1, 61, 1, 0), (8, 116, 0, 7, 4, 6), (8, 122, 0, 7, 3, 6), (8, 125, 1, 4, 1, 0), (8, 76, 0, 8, 10, 1), (8, 80, 1, 86, 0, 0), (8, 1, 7, 9999, 0, 0), (8, 7, 4, 4, 4, 0), (8, 9, 3, 35, 0, 0), (8, 16, 4, 0, 5, 0), (8, 18, 3, 3, 1, 0), (8, 28, 4, 2, 3, 0), (8, 30, 3, 23, 1, 0), (8, 31, 0, 8, 3, 6), (8, 35, 4, 3, 5, 0), (8, 37, 3, 25, 2, 0), (8, 44, 4, 1, 17, 0), (8, 46, 3, 13, 2, 0), (8, 51, 4, 7, 12, 0), (8, 53, 3, 62, 0, 1), (8, 58, 4, 5, 14, 0), (8, 60, 3, 44, 1, 0), (8, 61, 0, 8, 7, 6), (8, 131, 1, 63, 1, 0), (8, 210, 2, 146, 1, 0), (8, 91, 0, 7, 9, 0), (8, 147, 1, 69, 1, 0), (8, 75, 5, 999999999, 0, 0), (8, 150, 1, 38, 1, 0), (8, 154, 0, 5, 10, 1), (8, 157, 1, 50, 0, 0), (8, 160, 0, 5, 12, 0), (8, 163, 0, 5, 11, 0), (8, 166, 0, 5, 13, 6), (8, 169, 1, 5, 1, 0), (8, 172, 1, 60, 0, 0), (8, 175, 1, 43, 0, 0), (8, 176, 1, 29, 2, 0), (8, 180, 0, 3, 3, 0), (8, 183, 0, 3, 4, 0), (8, 101, 0, 0, 4, 0), (8, 186, 1, 64, 5, 0), (8, 190, 1, 24, 1, 0), (8, 194, 1, 17, 1, 0), (8, 197, 0, 1, 16, 0), (8, 200, 0, 1, 15, 6), (8, 203, 1, 65, 2, 0), (8, 95, 0, 7, 10, 0), (8, 98, 0, 7, 11, 0), (9, 95, 2, 113, 2, 0), (9, 13, 0, 9, 1, 6), (9, 7, 0, 9, 0, 6), (9, 16, 0, 9, 2, 6), (9, 19, 0, 9, 3, 6), (9, 99, 0, 9, 22, 0), (9, 103, 0, 9, 23, 0), (9, 106, 0, 9, 24, 0), (9, 109, 0, 9, 25, 0), (9, 112, 0, 9, 26, 1), (9, 116, 0, 9, 31, 0), (9, 119, 0, 9, 37, 0), (9, 122, 0, 9, 38, 0), (9, 125, 0, 9, 40, 1), (9, 128, 0, 9, 41, 1), (9, 131, 0, 9, 39, 0), (9, 143, 1, 99, 0, 0), (9, 207, 2, 120, 3, 0), (9, 193, 2, 122, 3, 0), (9, 22, 0, 9, 4, 6), (9, 172, 1, 143, 1, 0), (9, 134, 2, 115, 3, 0), (9, 214, 1, 126, 1, 0), (9, 196, 0, 9, 8, 0), (9, 32, 0, 9, 7, 6), (9, 35, 0, 9, 9, 6), (9, 217, 1, 107, 2, 0), (9, 203, 2, 89, 3, 0), (9, 38, 0, 9, 10, 6), (9, 25, 0, 9, 5, 6), (9, 220, 1, 114, 5, 0), (9, 29, 0, 9, 6, 6), (9, 210, 2, 110, 3, 0), (9, 224, 1, 134, 2, 0), (9, 74, 0, 9, 30, 6), (9, 256, 1, 93, 4, 0), (9, 234, 1, 117, 4, 0), (9, 260, 1, 106, 1, 0), (9, 182, 2, 130, 3, 0), (9, 179, 2, 95, 2, 0), (9, 186, 2, 119, 2, 0), (9, 86, 0, 9, 35, 6), (9, 241, 1, 104, 4, 0), (9, 159, 2, 138, 1, 0), (9, 139, 2, 92, 1, 0), (9, 228, 0, 9, 27, 0), (9, 231, 0, 9, 28, 0), (9, 238, 0, 9, 29, 0), (9, 92, 1, 91, 0, 0), (9, 59, 0, 9, 17, 6), (9, 68, 0, 9, 20, 6), (9, 62, 0, 9, 18, 6), (9, 266, 1, 141, 0, 0), (9, 41, 0, 9, 11, 6), (9, 1, 7, 9999, 0, 0), (9, 44, 0, 9, 12, 6), (9, 47, 0, 9, 13, 6), (9, 50, 0, 9, 14, 6), (9, 53, 0, 9, 15, 6), (9, 56, 0, 9, 16, 6), (9, 65, 0, 9, 19, 6), (9, 71, 0, 9, 21, 6), (9, 77, 0, 9, 32, 6), (9, 80, 0, 9, 33, 6), (9, 83, 0, 9, 34, 6), (9, 89, 0, 9, 36, 6), (9, 146, 1, 137, 3, 0), (9, 150, 1, 112, 3, 0), (9, 153, 1, 131, 3, 0), (9, 156, 1, 98, 3, 0), (9, 162, 1, 128, 4, 0), (9, 166, 1, 111, 4, 0), (9, 169, 1, 103, 4, 0), (9, 189, 2, 121, 2, 0), (9, 175, 2, 90, 2, 0), (9, 199, 1, 124, 3, 0), (9, 270, 1, 100, 0, 0), (9, 273, 1, 118, 0, 0), (9, 138, 5, 999999999, 0, 0), (9, 276, 1, 127, 0, 0), (9, 279, 1, 123, 0, 0), (9, 244, 1, 101, 2, 0), (9, 247, 1, 102, 2, 0), (9, 250, 1, 142, 2, 0), (9, 253, 1, 96, 1, 0), (9, 263, 2, 145, 1, 0), (10, 265, 5, 1431655765, 0, 0), (10, 266, 5, 858993459, 0, 0), (10, 267, 5, 252645135, 0, 0), (13, 7, 4, 8, 11, 0), (13, 9, 3, 73, 0, 0), (13, 10, 4, 9, 42, 0), (13, 12, 3, 116, 0, 0), (13, 13, 1, 70, 2, 0), (13, 17, 1, 105, 2, 0), (13, 18, 1, 80, 2, 0), (13, 21, 1, 133, 2, 0), (13, 22, 1, 72, 1, 0), (13, 26, 1, 109, 1, 0), (13, 27, 1, 67, 2, 0), (13, 31, 1, 94, 2, 0), (13, 32, 1, 88, 1, 0), (13, 35, 1, 144, 1, 0), (13, 36, 1, 85, 2, 0), (13, 39, 1, 140, 2, 0), (13, 40, 1, 71, 2, 0), (13, 43, 1, 108, 2, 0), (13, 44, 1, 76, 2, 0), (13, 47, 1, 125, 2, 0), (13, 48, 1, 77, 1, 0), (13, 51, 1, 129, 1, 0), (13, 52, 1, 68, 3, 0), (13, 56, 1, 97, 3, 0), (13, 57, 1, 79, 1, 0), (13, 60, 1, 132, 1, 0), (13, 61, 1, 81, 1, 0), (13, 64, 1, 135, 1, 0), (13, 65, 1, 82, 1, 0), (13, 68, 1, 136, 1, 0), (13, 69, 1, 83, 2, 0), (13, 72, 1, 139, 2, 0)]
def cnl : List String := ["SudokuGrader$Board", "SudokuGrader$Chains", "SudokuGrader$Going", "SudokuGrader$Rules", "SudokuGrader$Shape", "SudokuGrader$Solver", "SudokuGrader$Subsets", "SudokuGrader$Trace", "SudokuGrader", "SudokuGraderModel", "java/lang/Integer", "java/lang/Math", "java/util/Arrays", "SudokuGraderLaw"]
def EXN : Nat := 4
def cnm (o : Nat) : String := cnl.getD o ""
def nfl : List (List (Option (Option Nat))) := [[some none, some none, some none, some none, none], [some none, some none, some none, some none, some none, none, some none, some none, some none, some none, some none, some none, some none, none, none, some none, none], [some none, some none, none], [some none, some none, some none, none, none], [some none, some none, some none, some none], [some none, some none, some none, none, none, some none, some none, some none, none, none, none, none, none, some none], [some none, some none, some none], [some none, some none, some none, some none, some none, some none, some none, some none, none, none, none, none], [some none, some none, some none, some none, some none, some none, some none, some none, some none, none, none], [some none, some none, some none, some none, some none, some none, some none, some none, none, some none, some none, some none, some none, some none, some none, some none, some none, some none, some none, some none, some none, some none, none, none, none, none, none, none, none, none, some none, none, some none, some none, some none, some none, some none, none, none, none, none, none]]
end
section
/-! WHAT THE TABLES SAY OF THE MACHINE: every entry decodes, every link is a word of the statement's tables. -/
def lw_G : List Cond := lw_tbl.filter goodWord
theorem lw_memG {w : Cond} (i : Nat) (h : lw_tbl[i]? = some w) (hg : goodWord w = true) : w ∈ lw_G := List.mem_filter.mpr ⟨List.mem_of_getElem? h, hg⟩
theorem lw_mT {w : Cond} (h : w ∈ tables_1) (hg : goodWord w = true) : w ∈ lw_G := List.mem_filter.mpr ⟨List.mem_append_right _ h, hg⟩
theorem lw_m1 {w : Cond} (i : Nat) (h : tables_1_1[i]? = some w) (hg : goodWord w = true) : w ∈ lw_G := lw_mT (List.mem_append_left _ (List.mem_of_getElem? h)) hg
theorem lw_m2 {w : Cond} (i : Nat) (h : tables_1_2[i]? = some w) (hg : goodWord w = true) : w ∈ lw_G := lw_mT (List.mem_append_right _ (List.mem_append_left _ (List.mem_of_getElem? h))) hg
theorem lw_m3 {w : Cond} (i : Nat) (h : tables_1_3[i]? = some w) (hg : goodWord w = true) : w ∈ lw_G := lw_mT (List.mem_append_right _ (List.mem_append_right _ (List.mem_append_left _ (List.mem_of_getElem? h)))) hg
theorem lw_m4 {w : Cond} (i : Nat) (h : tables_1_4[i]? = some w) (hg : goodWord w = true) : w ∈ lw_G := lw_mT (List.mem_append_right _ (List.mem_append_right _ (List.mem_append_right _ (List.mem_append_left _ (List.mem_of_getElem? h))))) hg
theorem lw_m5 {w : Cond} (i : Nat) (h : tables_1_5[i]? = some w) (hg : goodWord w = true) : w ∈ lw_G := lw_mT (List.mem_append_right _ (List.mem_append_right _ (List.mem_append_right _ (List.mem_append_right _ (List.mem_of_getElem? h))))) hg
def nmM : Nat := nm - 1
def OkM (k : Nat) : Prop := Cond.code (mt k).1 (mt k).2.1 (mt k).2.2.1 (mt k).2.2.2.1 ∈ lw_G ∧ Cond.initialized (mt k).1.cls ∈ lw_G ∧ (mt k).1.cls = cnm (mt k).2.2.2.2.2.2 ∧ (plainName (mt k).1.cls = true ∧ (mt k).1.cls ≠ "java/lang/invoke/MethodHandle" ∧ (mt k).1.cls ≠ "java/lang/invoke/VarHandle") ∧ (parseMethodDescriptor (mt k).1.desc).map (fun d => d.parameters.length) = some (mt k).2.2.2.2.1 ∧ (mt k).2.2.1 ≤ 40 ∧
  (((mt k).2.2.2.2.2.1 = 0 ∧ Cond.instanceMethod (mt k).1 ∈ lw_G ∧ Cond.selects (mt k).1.cls (mt k).1 (mt k).1 ∈ lw_G) ∨ ((mt k).2.2.2.2.2.1 = 1 ∧ Cond.static (mt k).1 ∈ lw_G) ∨ ((mt k).2.2.2.2.2.1 = 2 ∧ (mt k).1.name = "<init>" ∧ (mt k).2.2.2.1 = none ∧ Cond.instanceMethod (mt k).1 ∈ lw_G))
def stnl : List (String × String) := [("", ""), ("SudokuGrader$Subsets", "KIND"), ("SudokuGrader$Subsets", "SIZE"), ("SudokuGrader$Trace", "WEIGHTS")]
def stn (a : Nat) : String × String := stnl.getD a ("", "")
def kndF (c : Nat) (t : Option FieldType) : Bool := match c % 4, t with
  | 0, some .int => true
  | 1, some .boolean => true
  | 2, some (.object _) => true
  | 2, some (.array _) => true
  | _, _ => false
def OkL (w : Nat) : Prop := match lkl[w]? with
  | none => False
  | some (o, x, kd, a, b, c) => (match kd with
    | 0 => ∃ (C : String) (T : u_T) (N : Nat), vwCl[a]? = some (C, T, N) ∧ b < N ∧ Cond.fieldLink (cnm o) x (T b).1 (T b).2.1 (T b).2.2.1 ∈ lw_G ∧ kndF c (parseFieldDescriptor (T b).2.2.1) = true ∧ (T b).2.2.2 = decide (4 ≤ c) ∧ (T b).1 = C
    | 1 => a < nmM ∧ (mt a).2.2.2.2.1 = b ∧ (mt a).2.2.2.2.2.1 = 0 ∧ Cond.methodLink (cnm o) x (mt a).1 ∈ lw_G ∧ ∃ q, vwCl[(mt a).2.2.2.2.2.2]? = some q ∧ q.1 = (mt a).1.cls
    | 2 => a < nmM ∧ (mt a).2.2.2.2.1 = b ∧ (mt a).2.2.2.2.2.1 = 1 ∧ ((c = 0 ∧ Cond.methodLink (cnm o) x (mt a).1 ∈ lw_G) ∨ (c = 1 ∧ Cond.methodLinkNest (cnm o) x (mt a).1 "SudokuGrader" ∈ nests))
    | 3 => a < nmM ∧ (mt a).2.2.2.2.1 = b ∧ (mt a).2.2.2.2.2.1 = 2 ∧ ((c = 0 ∧ Cond.methodLink (cnm o) x (mt a).1 ∈ lw_G) ∨ (c = 1 ∧ Cond.methodLinkNest (cnm o) x (mt a).1 "SudokuGrader" ∈ nests))
    | 4 => ∃ (C : String) (T : u_T), vwCl[a]? = some (C, T, b) ∧ Cond.classLink (cnm o) x C ∈ lw_G
    | 5 => Cond.constant (cnm o) x (Int32.ofNat a) ∈ lw_G
    | 6 => 1 ≤ a ∧ a < EXN ∧ Cond.fieldLink (cnm o) x (stn a).1 (stn a).2 "[I" ∈ lw_G
    | 7 => Cond.methodLink (cnm o) x objectInit ∈ lw_G
    | 8 => Cond.methodLink (cnm o) x Lib.Math.max.name ∈ lw_G ∧ Cond.static Lib.Math.max.name ∈ lw_G ∧ Cond.initialized "java/lang/Math" ∈ lw_G ∧ Cond.code Lib.Math.max.name Lib.Math.max.code 2 (some .int) ∈ lw_G
    | _ => False)
def lnI (i : Jvm.ClassFile.Instr) : Option Nat := match i with
  | .aload_n _ | .iload_n _ | .istore_n _ | .astore_n _ | .iconst _ | .lconst _ | .iadd | .isub | .imul | .iand | .ior | .ixor | .ishl | .ishr | .iushr | .idiv | .irem | .ineg | .land | .lor | .lshl | .lshr | .lcmp | .dup | .dup2 | .iaload | .laload | .iastore | .lastore | .arraylength | .ireturn | .return_ => some 1
  | .aload _ | .iload _ | .istore _ | .astore _ | .bipush _ | .ldc _ | .newarray _ => some 2
  | .iinc _ _ | .sipush _ | .ldc_w _ | .if_icmp _ _ | .ifCond _ _ | .goto _ | .getfield _ | .putfield _ | .new _ | .getstatic _ | .invokespecial _ | .invokestatic _ | .invokevirtual _ => some 3
  | _ => none
def lkI (i : Jvm.ClassFile.Instr) (a : Nat) : Option (Nat × Nat) := match i with
  | .getfield x => some (x, 0)
  | .putfield x => some (x, 0)
  | .invokevirtual x => some (x, 1)
  | .invokestatic x => some (x, if a = 9998 then 8 else 2)
  | .invokespecial x => some (x, if a = 9999 then 7 else 3)
  | .new x => some (x, 4)
  | .ldc x => some (x, 5)
  | .ldc_w x => some (x, 5)
  | .getstatic x => some (x, 6)
  | _ => none
def chkE (k pc : Nat) (e : EN) : Bool := decide (decode (mt k).2.1 pc = .ok (e.1, e.2.1)) && (match lnI e.1 with
    | some n => decide (e.2.1 = n)
    | none => true) && (match lkI e.1 e.2.2.1 with
    | some (x, kd) => decide (lkl[e.2.2.2.2.2]? = some ((mt k).2.2.2.2.2.2, x, kd, e.2.2.1, e.2.2.2.1, e.2.2.2.2.1))
    | none => true)
def chkK (k : Nat) : Bool := ((edl.getD k []).zipIdx).all (fun q => match q.1 with
  | none => true
  | some e => chkE k q.2 e)
theorem ds_0 : (parseMethodDescriptor "()I").map (fun d => d.parameters.length) = some 0 := by decide +kernel
theorem ds_1 : (parseMethodDescriptor "()V").map (fun d => d.parameters.length) = some 0 := by decide +kernel
theorem ds_2 : (parseMethodDescriptor "()Z").map (fun d => d.parameters.length) = some 0 := by decide +kernel
theorem ds_3 : (parseMethodDescriptor "(I)I").map (fun d => d.parameters.length) = some 1 := by decide +kernel
theorem ds_4 : (parseMethodDescriptor "(I)V").map (fun d => d.parameters.length) = some 1 := by decide +kernel
theorem ds_5 : (parseMethodDescriptor "(I)Z").map (fun d => d.parameters.length) = some 1 := by decide +kernel
theorem ds_6 : (parseMethodDescriptor "(II)I").map (fun d => d.parameters.length) = some 2 := by decide +kernel
theorem ds_7 : (parseMethodDescriptor "(II)V").map (fun d => d.parameters.length) = some 2 := by decide +kernel
theorem ds_8 : (parseMethodDescriptor "(II)Z").map (fun d => d.parameters.length) = some 2 := by decide +kernel
theorem ds_9 : (parseMethodDescriptor "(III)I").map (fun d => d.parameters.length) = some 3 := by decide +kernel
theorem ds_10 : (parseMethodDescriptor "(III)Z").map (fun d => d.parameters.length) = some 3 := by decide +kernel
theorem ds_11 : (parseMethodDescriptor "(IIII)V").map (fun d => d.parameters.length) = some 4 := by decide +kernel
theorem ds_12 : (parseMethodDescriptor "(IIIII)I").map (fun d => d.parameters.length) = some 5 := by decide +kernel
theorem ds_13 : (parseMethodDescriptor "(IIIII)V").map (fun d => d.parameters.length) = some 5 := by decide +kernel
theorem ds_14 : (parseMethodDescriptor "(LSudokuGrader$Board;)I").map (fun d => d.parameters.length) = some 1 := by decide +kernel
theorem ds_15 : (parseMethodDescriptor "(LSudokuGrader$Board;)V").map (fun d => d.parameters.length) = some 1 := by decide +kernel
theorem ds_16 : (parseMethodDescriptor "(LSudokuGrader$Board;I)I").map (fun d => d.parameters.length) = some 2 := by decide +kernel
theorem ds_17 : (parseMethodDescriptor "(LSudokuGrader$Board;I)V").map (fun d => d.parameters.length) = some 2 := by decide +kernel
theorem ds_18 : (parseMethodDescriptor "(LSudokuGrader$Board;II)I").map (fun d => d.parameters.length) = some 3 := by decide +kernel
theorem ds_19 : (parseMethodDescriptor "(LSudokuGrader$Board;II)V").map (fun d => d.parameters.length) = some 3 := by decide +kernel
theorem ds_20 : (parseMethodDescriptor "(LSudokuGrader$Board;II)Z").map (fun d => d.parameters.length) = some 3 := by decide +kernel
theorem ds_21 : (parseMethodDescriptor "(LSudokuGrader$Board;III)I").map (fun d => d.parameters.length) = some 4 := by decide +kernel
theorem ds_22 : (parseMethodDescriptor "(LSudokuGrader$Board;III)V").map (fun d => d.parameters.length) = some 4 := by decide +kernel
theorem ds_23 : (parseMethodDescriptor "(LSudokuGrader$Board;IIII)V").map (fun d => d.parameters.length) = some 5 := by decide +kernel
theorem ds_24 : (parseMethodDescriptor "(LSudokuGrader$Board;[III)I").map (fun d => d.parameters.length) = some 4 := by decide +kernel
theorem ds_25 : (parseMethodDescriptor "(LSudokuGrader$Shape;)V").map (fun d => d.parameters.length) = some 1 := by decide +kernel
theorem ds_26 : (parseMethodDescriptor "(LSudokuGrader$Shape;LSudokuGrader$Going;)V").map (fun d => d.parameters.length) = some 2 := by decide +kernel
theorem ds_27 : (parseMethodDescriptor "([I)I").map (fun d => d.parameters.length) = some 1 := by decide +kernel
theorem ds_28 : (parseMethodDescriptor "([I)V").map (fun d => d.parameters.length) = some 1 := by decide +kernel
theorem ds_29 : (parseMethodDescriptor "([II)V").map (fun d => d.parameters.length) = some 2 := by decide +kernel
theorem ds_30 : (parseMethodDescriptor "([II)Z").map (fun d => d.parameters.length) = some 2 := by decide +kernel
theorem ds_31 : (parseMethodDescriptor "([III)I").map (fun d => d.parameters.length) = some 3 := by decide +kernel
theorem ds_32 : (parseMethodDescriptor "([III)V").map (fun d => d.parameters.length) = some 3 := by decide +kernel
theorem ds_33 : (parseMethodDescriptor "([III)Z").map (fun d => d.parameters.length) = some 3 := by decide +kernel
theorem ds_34 : (parseMethodDescriptor "([IIII)I").map (fun d => d.parameters.length) = some 4 := by decide +kernel
theorem ds_35 : (parseMethodDescriptor "([IIII)Z").map (fun d => d.parameters.length) = some 4 := by decide +kernel
theorem ds_36 : (parseMethodDescriptor "([I[III)I").map (fun d => d.parameters.length) = some 4 := by decide +kernel
theorem ds_37 : (parseMethodDescriptor "([JII)V").map (fun d => d.parameters.length) = some 3 := by decide +kernel
theorem ds_38 : (parseMethodDescriptor "([JII)Z").map (fun d => d.parameters.length) = some 3 := by decide +kernel
theorem ds_39 : (parseMethodDescriptor "([JI[J[JI)V").map (fun d => d.parameters.length) = some 5 := by decide +kernel
theorem pn_8 : plainName "SudokuGrader" = true ∧ "SudokuGrader" ≠ "java/lang/invoke/MethodHandle" ∧ "SudokuGrader" ≠ "java/lang/invoke/VarHandle" := by decide +kernel
theorem pn_0 : plainName "SudokuGrader$Board" = true ∧ "SudokuGrader$Board" ≠ "java/lang/invoke/MethodHandle" ∧ "SudokuGrader$Board" ≠ "java/lang/invoke/VarHandle" := by decide +kernel
theorem pn_1 : plainName "SudokuGrader$Chains" = true ∧ "SudokuGrader$Chains" ≠ "java/lang/invoke/MethodHandle" ∧ "SudokuGrader$Chains" ≠ "java/lang/invoke/VarHandle" := by decide +kernel
theorem pn_2 : plainName "SudokuGrader$Going" = true ∧ "SudokuGrader$Going" ≠ "java/lang/invoke/MethodHandle" ∧ "SudokuGrader$Going" ≠ "java/lang/invoke/VarHandle" := by decide +kernel
theorem pn_3 : plainName "SudokuGrader$Rules" = true ∧ "SudokuGrader$Rules" ≠ "java/lang/invoke/MethodHandle" ∧ "SudokuGrader$Rules" ≠ "java/lang/invoke/VarHandle" := by decide +kernel
theorem pn_4 : plainName "SudokuGrader$Shape" = true ∧ "SudokuGrader$Shape" ≠ "java/lang/invoke/MethodHandle" ∧ "SudokuGrader$Shape" ≠ "java/lang/invoke/VarHandle" := by decide +kernel
theorem pn_5 : plainName "SudokuGrader$Solver" = true ∧ "SudokuGrader$Solver" ≠ "java/lang/invoke/MethodHandle" ∧ "SudokuGrader$Solver" ≠ "java/lang/invoke/VarHandle" := by decide +kernel
theorem pn_6 : plainName "SudokuGrader$Subsets" = true ∧ "SudokuGrader$Subsets" ≠ "java/lang/invoke/MethodHandle" ∧ "SudokuGrader$Subsets" ≠ "java/lang/invoke/VarHandle" := by decide +kernel
theorem pn_7 : plainName "SudokuGrader$Trace" = true ∧ "SudokuGrader$Trace" ≠ "java/lang/invoke/MethodHandle" ∧ "SudokuGrader$Trace" ≠ "java/lang/invoke/VarHandle" := by decide +kernel
theorem pn_9 : plainName "SudokuGraderModel" = true ∧ "SudokuGraderModel" ≠ "java/lang/invoke/MethodHandle" ∧ "SudokuGraderModel" ≠ "java/lang/invoke/VarHandle" := by decide +kernel
theorem pn_10 : plainName "java/lang/Integer" = true ∧ "java/lang/Integer" ≠ "java/lang/invoke/MethodHandle" ∧ "java/lang/Integer" ≠ "java/lang/invoke/VarHandle" := by decide +kernel
theorem pn_12 : plainName "java/util/Arrays" = true ∧ "java/util/Arrays" ≠ "java/lang/invoke/MethodHandle" ∧ "java/util/Arrays" ≠ "java/lang/invoke/VarHandle" := by decide +kernel
set_option maxRecDepth 20000 in
theorem okM_0 : OkM 0 := ⟨lw_m3 36 rfl rfl, lw_m1 3 rfl rfl, rfl, pn_0, ds_4, by decide, Or.inl ⟨rfl, lw_m3 34 rfl rfl, lw_m3 35 rfl rfl⟩⟩
set_option maxRecDepth 20000 in
theorem okM_1 : OkM 1 := ⟨lw_m2 107 rfl rfl, lw_m1 3 rfl rfl, rfl, pn_0, ds_4, by decide, Or.inl ⟨rfl, lw_m2 106 rfl rfl, lw_memG 3 rfl rfl⟩⟩
set_option maxRecDepth 20000 in
theorem okM_2 : OkM 2 := ⟨lw_m3 40 rfl rfl, lw_m1 3 rfl rfl, rfl, pn_0, ds_5, by decide, Or.inl ⟨rfl, lw_m3 38 rfl rfl, lw_m3 39 rfl rfl⟩⟩
set_option maxRecDepth 20000 in
theorem okM_3 : OkM 3 := ⟨lw_m1 71 rfl rfl, lw_m1 3 rfl rfl, rfl, pn_0, ds_25, by decide, Or.inr (Or.inr ⟨rfl, rfl, rfl, lw_m1 70 rfl rfl⟩)⟩
set_option maxRecDepth 20000 in
theorem okM_4 : OkM 4 := ⟨lw_m3 127 rfl rfl, lw_m1 3 rfl rfl, rfl, pn_0, ds_3, by decide, Or.inl ⟨rfl, lw_m3 125 rfl rfl, lw_m3 126 rfl rfl⟩⟩
set_option maxRecDepth 20000 in
theorem okM_5 : OkM 5 := ⟨lw_m2 97 rfl rfl, lw_m1 3 rfl rfl, rfl, pn_0, ds_28, by decide, Or.inl ⟨rfl, lw_m2 95 rfl rfl, lw_m2 96 rfl rfl⟩⟩
set_option maxRecDepth 20000 in
theorem okM_6 : OkM 6 := ⟨lw_m3 214 rfl rfl, lw_m1 3 rfl rfl, rfl, pn_0, ds_4, by decide, Or.inl ⟨rfl, lw_m3 212 rfl rfl, lw_m3 213 rfl rfl⟩⟩
set_option maxRecDepth 20000 in
theorem okM_7 : OkM 7 := ⟨lw_m3 79 rfl rfl, lw_m1 7 rfl rfl, rfl, pn_1, ds_4, by decide, Or.inl ⟨rfl, lw_m3 78 rfl rfl, lw_memG 22 rfl rfl⟩⟩
set_option maxRecDepth 20000 in
theorem okM_8 : OkM 8 := ⟨lw_m3 59 rfl rfl, lw_m1 7 rfl rfl, rfl, pn_1, ds_7, by decide, Or.inl ⟨rfl, lw_m3 58 rfl rfl, lw_memG 17 rfl rfl⟩⟩
set_option maxRecDepth 20000 in
theorem okM_9 : OkM 9 := ⟨lw_m3 55 rfl rfl, lw_m1 7 rfl rfl, rfl, pn_1, ds_7, by decide, Or.inl ⟨rfl, lw_m3 54 rfl rfl, lw_memG 16 rfl rfl⟩⟩
set_option maxRecDepth 20000 in
theorem okM_10 : OkM 10 := ⟨lw_m3 71 rfl rfl, lw_m1 7 rfl rfl, rfl, pn_1, ds_7, by decide, Or.inl ⟨rfl, lw_m3 70 rfl rfl, lw_memG 20 rfl rfl⟩⟩
set_option maxRecDepth 20000 in
theorem okM_11 : OkM 11 := ⟨lw_m3 91 rfl rfl, lw_m1 7 rfl rfl, rfl, pn_1, ds_20, by decide, Or.inl ⟨rfl, lw_m3 90 rfl rfl, lw_memG 24 rfl rfl⟩⟩
set_option maxRecDepth 20000 in
theorem okM_12 : OkM 12 := ⟨lw_m3 95 rfl rfl, lw_m1 7 rfl rfl, rfl, pn_1, ds_20, by decide, Or.inl ⟨rfl, lw_m3 94 rfl rfl, lw_memG 25 rfl rfl⟩⟩
set_option maxRecDepth 20000 in
theorem okM_13 : OkM 13 := ⟨lw_m1 165 rfl rfl, lw_m1 7 rfl rfl, rfl, pn_1, ds_26, by decide, Or.inr (Or.inr ⟨rfl, rfl, rfl, lw_m1 164 rfl rfl⟩)⟩
set_option maxRecDepth 20000 in
theorem okM_14 : OkM 14 := ⟨lw_m3 48 rfl rfl, lw_m1 7 rfl rfl, rfl, pn_1, ds_15, by decide, Or.inl ⟨rfl, lw_m3 47 rfl rfl, lw_memG 15 rfl rfl⟩⟩
set_option maxRecDepth 20000 in
theorem okM_15 : OkM 15 := ⟨lw_m3 67 rfl rfl, lw_m1 7 rfl rfl, rfl, pn_1, ds_17, by decide, Or.inl ⟨rfl, lw_m3 66 rfl rfl, lw_memG 19 rfl rfl⟩⟩
set_option maxRecDepth 20000 in
theorem okM_16 : OkM 16 := ⟨lw_m3 87 rfl rfl, lw_m1 7 rfl rfl, rfl, pn_1, ds_24, by decide, Or.inl ⟨rfl, lw_m3 85 rfl rfl, lw_m3 86 rfl rfl⟩⟩
set_option maxRecDepth 20000 in
theorem okM_17 : OkM 17 := ⟨lw_m3 44 rfl rfl, lw_m1 7 rfl rfl, rfl, pn_1, ds_14, by decide, Or.inl ⟨rfl, lw_m3 42 rfl rfl, lw_m3 43 rfl rfl⟩⟩
set_option maxRecDepth 20000 in
theorem okM_18 : OkM 18 := ⟨lw_m3 75 rfl rfl, lw_m1 7 rfl rfl, rfl, pn_1, ds_2, by decide, Or.inl ⟨rfl, lw_m3 74 rfl rfl, lw_memG 21 rfl rfl⟩⟩
set_option maxRecDepth 20000 in
theorem okM_19 : OkM 19 := ⟨lw_m3 63 rfl rfl, lw_m1 7 rfl rfl, rfl, pn_1, ds_18, by decide, Or.inl ⟨rfl, lw_m3 62 rfl rfl, lw_memG 18 rfl rfl⟩⟩
set_option maxRecDepth 20000 in
theorem okM_20 : OkM 20 := ⟨lw_m3 83 rfl rfl, lw_m1 7 rfl rfl, rfl, pn_1, ds_4, by decide, Or.inl ⟨rfl, lw_m3 82 rfl rfl, lw_memG 23 rfl rfl⟩⟩
set_option maxRecDepth 20000 in
theorem okM_21 : OkM 21 := ⟨lw_m2 221 rfl rfl, lw_m1 4 rfl rfl, rfl, pn_2, ds_19, by decide, Or.inl ⟨rfl, lw_m2 219 rfl rfl, lw_m2 220 rfl rfl⟩⟩
set_option maxRecDepth 20000 in
theorem okM_22 : OkM 22 := ⟨lw_m2 226 rfl rfl, lw_m1 4 rfl rfl, rfl, pn_2, ds_22, by decide, Or.inl ⟨rfl, lw_m2 224 rfl rfl, lw_m2 225 rfl rfl⟩⟩
set_option maxRecDepth 20000 in
theorem okM_23 : OkM 23 := ⟨lw_m1 106 rfl rfl, lw_m1 4 rfl rfl, rfl, pn_2, ds_25, by decide, Or.inr (Or.inr ⟨rfl, rfl, rfl, lw_m1 105 rfl rfl⟩)⟩
set_option maxRecDepth 20000 in
theorem okM_24 : OkM 24 := ⟨lw_m3 32 rfl rfl, lw_m1 4 rfl rfl, rfl, pn_2, ds_15, by decide, Or.inl ⟨rfl, lw_m3 30 rfl rfl, lw_m3 31 rfl rfl⟩⟩
set_option maxRecDepth 20000 in
theorem okM_25 : OkM 25 := ⟨lw_m1 125 rfl rfl, lw_m1 5 rfl rfl, rfl, pn_3, ds_26, by decide, Or.inr (Or.inr ⟨rfl, rfl, rfl, lw_m1 124 rfl rfl⟩)⟩
set_option maxRecDepth 20000 in
theorem okM_26 : OkM 26 := ⟨lw_m2 230 rfl rfl, lw_m1 5 rfl rfl, rfl, pn_3, ds_21, by decide, Or.inl ⟨rfl, lw_m2 228 rfl rfl, lw_m2 229 rfl rfl⟩⟩
set_option maxRecDepth 20000 in
theorem okM_27 : OkM 27 := ⟨lw_m3 19 rfl rfl, lw_m1 5 rfl rfl, rfl, pn_3, ds_22, by decide, Or.inl ⟨rfl, lw_m3 18 rfl rfl, lw_memG 14 rfl rfl⟩⟩
set_option maxRecDepth 20000 in
theorem okM_28 : OkM 28 := ⟨lw_m3 15 rfl rfl, lw_m1 5 rfl rfl, rfl, pn_3, ds_19, by decide, Or.inl ⟨rfl, lw_m3 14 rfl rfl, lw_memG 13 rfl rfl⟩⟩
set_option maxRecDepth 20000 in
theorem okM_29 : OkM 29 := ⟨lw_m2 173 rfl rfl, lw_m1 5 rfl rfl, rfl, pn_3, ds_16, by decide, Or.inl ⟨rfl, lw_m2 171 rfl rfl, lw_m2 172 rfl rfl⟩⟩
set_option maxRecDepth 20000 in
theorem okM_30 : OkM 30 := ⟨lw_m2 177 rfl rfl, lw_m1 5 rfl rfl, rfl, pn_3, ds_16, by decide, Or.inl ⟨rfl, lw_m2 176 rfl rfl, lw_memG 5 rfl rfl⟩⟩
set_option maxRecDepth 20000 in
theorem okM_31 : OkM 31 := ⟨lw_m2 239 rfl rfl, lw_m1 5 rfl rfl, rfl, pn_3, ds_19, by decide, Or.inl ⟨rfl, lw_m2 238 rfl rfl, lw_memG 11 rfl rfl⟩⟩
set_option maxRecDepth 20000 in
theorem okM_32 : OkM 32 := ⟨lw_m3 11 rfl rfl, lw_m1 5 rfl rfl, rfl, pn_3, ds_19, by decide, Or.inl ⟨rfl, lw_m3 10 rfl rfl, lw_memG 12 rfl rfl⟩⟩
set_option maxRecDepth 20000 in
theorem okM_33 : OkM 33 := ⟨lw_m2 234 rfl rfl, lw_m1 5 rfl rfl, rfl, pn_3, ds_19, by decide, Or.inl ⟨rfl, lw_m2 233 rfl rfl, lw_memG 10 rfl rfl⟩⟩
set_option maxRecDepth 20000 in
theorem okM_34 : OkM 34 := ⟨lw_m1 31 rfl rfl, lw_m1 2 rfl rfl, rfl, pn_4, ds_11, by decide, Or.inl ⟨rfl, lw_m1 30 rfl rfl, lw_memG 0 rfl rfl⟩⟩
set_option maxRecDepth 20000 in
theorem okM_35 : OkM 35 := ⟨lw_m1 26 rfl rfl, lw_m1 2 rfl rfl, rfl, pn_4, ds_1, by decide, Or.inr (Or.inr ⟨rfl, rfl, rfl, lw_m1 25 rfl rfl⟩)⟩
set_option maxRecDepth 20000 in
theorem okM_36 : OkM 36 := ⟨lw_m1 35 rfl rfl, lw_m1 2 rfl rfl, rfl, pn_4, ds_4, by decide, Or.inl ⟨rfl, lw_m1 34 rfl rfl, lw_memG 1 rfl rfl⟩⟩
set_option maxRecDepth 20000 in
theorem okM_37 : OkM 37 := ⟨lw_m1 39 rfl rfl, lw_m1 2 rfl rfl, rfl, pn_4, ds_8, by decide, Or.inl ⟨rfl, lw_m1 37 rfl rfl, lw_m1 38 rfl rfl⟩⟩
set_option maxRecDepth 20000 in
theorem okM_38 : OkM 38 := ⟨lw_m3 165 rfl rfl, lw_m1 9 rfl rfl, rfl, pn_5, ds_28, by decide, Or.inl ⟨rfl, lw_m3 163 rfl rfl, lw_m3 164 rfl rfl⟩⟩
set_option maxRecDepth 20000 in
theorem okM_39 : OkM 39 := ⟨lw_m3 175 rfl rfl, lw_m1 9 rfl rfl, rfl, pn_5, ds_1, by decide, Or.inl ⟨rfl, lw_m3 174 rfl rfl, lw_memG 29 rfl rfl⟩⟩
set_option maxRecDepth 20000 in
theorem okM_40 : OkM 40 := ⟨lw_m3 179 rfl rfl, lw_m1 9 rfl rfl, rfl, pn_5, ds_4, by decide, Or.inl ⟨rfl, lw_m3 178 rfl rfl, lw_memG 30 rfl rfl⟩⟩
set_option maxRecDepth 20000 in
theorem okM_41 : OkM 41 := ⟨lw_m3 189 rfl rfl, lw_m1 9 rfl rfl, rfl, pn_5, ds_4, by decide, Or.inl ⟨rfl, lw_m3 188 rfl rfl, lw_memG 32 rfl rfl⟩⟩
set_option maxRecDepth 20000 in
theorem okM_42 : OkM 42 := ⟨lw_m3 201 rfl rfl, lw_m1 9 rfl rfl, rfl, pn_5, ds_0, by decide, Or.inl ⟨rfl, lw_m3 200 rfl rfl, lw_memG 35 rfl rfl⟩⟩
set_option maxRecDepth 20000 in
theorem okM_43 : OkM 43 := ⟨lw_m2 115 rfl rfl, lw_m1 9 rfl rfl, rfl, pn_5, ds_1, by decide, Or.inl ⟨rfl, lw_m2 113 rfl rfl, lw_m2 114 rfl rfl⟩⟩
set_option maxRecDepth 20000 in
theorem okM_44 : OkM 44 := ⟨lw_m2 39 rfl rfl, lw_m1 9 rfl rfl, rfl, pn_5, ds_25, by decide, Or.inr (Or.inr ⟨rfl, rfl, rfl, lw_m2 38 rfl rfl⟩)⟩
set_option maxRecDepth 20000 in
theorem okM_45 : OkM 45 := ⟨lw_m3 193 rfl rfl, lw_m1 9 rfl rfl, rfl, pn_5, ds_7, by decide, Or.inl ⟨rfl, lw_m3 192 rfl rfl, lw_memG 33 rfl rfl⟩⟩
set_option maxRecDepth 20000 in
theorem okM_46 : OkM 46 := ⟨lw_m3 206 rfl rfl, lw_m1 9 rfl rfl, rfl, pn_5, ds_1, by decide, Or.inl ⟨rfl, lw_m3 205 rfl rfl, lw_memG 36 rfl rfl⟩⟩
set_option maxRecDepth 20000 in
theorem okM_47 : OkM 47 := ⟨lw_m3 170 rfl rfl, lw_m1 9 rfl rfl, rfl, pn_5, ds_7, by decide, Or.inl ⟨rfl, lw_m3 169 rfl rfl, lw_memG 28 rfl rfl⟩⟩
set_option maxRecDepth 20000 in
theorem okM_48 : OkM 48 := ⟨lw_m3 184 rfl rfl, lw_m1 9 rfl rfl, rfl, pn_5, ds_7, by decide, Or.inl ⟨rfl, lw_m3 183 rfl rfl, lw_memG 31 rfl rfl⟩⟩
set_option maxRecDepth 20000 in
theorem okM_49 : OkM 49 := ⟨lw_m3 197 rfl rfl, lw_m1 9 rfl rfl, rfl, pn_5, ds_1, by decide, Or.inl ⟨rfl, lw_m3 196 rfl rfl, lw_memG 34 rfl rfl⟩⟩
set_option maxRecDepth 20000 in
theorem okM_50 : OkM 50 := ⟨lw_m3 210 rfl rfl, lw_m1 9 rfl rfl, rfl, pn_5, ds_1, by decide, Or.inl ⟨rfl, lw_m3 208 rfl rfl, lw_m3 209 rfl rfl⟩⟩
set_option maxRecDepth 20000 in
theorem okM_51 : OkM 51 := ⟨lw_m2 193 rfl rfl, lw_m1 6 rfl rfl, rfl, pn_6, ds_6, by decide, Or.inr (Or.inl ⟨rfl, lw_m2 192 rfl rfl⟩)⟩
set_option maxRecDepth 20000 in
theorem okM_52 : OkM 52 := ⟨lw_m2 181 rfl rfl, lw_m1 6 rfl rfl, rfl, pn_6, ds_18, by decide, Or.inl ⟨rfl, lw_m2 179 rfl rfl, lw_m2 180 rfl rfl⟩⟩
set_option maxRecDepth 20000 in
theorem okM_53 : OkM 53 := ⟨lw_m2 190 rfl rfl, lw_m1 6 rfl rfl, rfl, pn_6, ds_3, by decide, Or.inr (Or.inl ⟨rfl, lw_m2 189 rfl rfl⟩)⟩
set_option maxRecDepth 20000 in
theorem okM_54 : OkM 54 := ⟨lw_m1 131 rfl rfl, lw_m1 6 rfl rfl, rfl, pn_6, ds_26, by decide, Or.inr (Or.inr ⟨rfl, rfl, rfl, lw_m1 130 rfl rfl⟩)⟩
set_option maxRecDepth 20000 in
theorem okM_55 : OkM 55 := ⟨lw_m2 185 rfl rfl, lw_m1 6 rfl rfl, rfl, pn_6, ds_20, by decide, Or.inl ⟨rfl, lw_m2 184 rfl rfl, lw_memG 6 rfl rfl⟩⟩
set_option maxRecDepth 20000 in
theorem okM_56 : OkM 56 := ⟨lw_m2 213 rfl rfl, lw_m1 6 rfl rfl, rfl, pn_6, ds_21, by decide, Or.inl ⟨rfl, lw_m2 211 rfl rfl, lw_m2 212 rfl rfl⟩⟩
set_option maxRecDepth 20000 in
theorem okM_57 : OkM 57 := ⟨lw_m2 217 rfl rfl, lw_m1 6 rfl rfl, rfl, pn_6, ds_23, by decide, Or.inl ⟨rfl, lw_m2 216 rfl rfl, lw_memG 9 rfl rfl⟩⟩
set_option maxRecDepth 20000 in
theorem okM_58 : OkM 58 := ⟨lw_m2 199 rfl rfl, lw_m1 6 rfl rfl, rfl, pn_6, ds_12, by decide, Or.inl ⟨rfl, lw_m2 198 rfl rfl, lw_memG 7 rfl rfl⟩⟩
set_option maxRecDepth 20000 in
theorem okM_59 : OkM 59 := ⟨lw_m2 209 rfl rfl, lw_m1 6 rfl rfl, rfl, pn_6, ds_8, by decide, Or.inl ⟨rfl, lw_m2 208 rfl rfl, lw_memG 8 rfl rfl⟩⟩
set_option maxRecDepth 20000 in
theorem okM_60 : OkM 60 := ⟨lw_m2 111 rfl rfl, lw_m1 8 rfl rfl, rfl, pn_7, ds_1, by decide, Or.inl ⟨rfl, lw_m2 109 rfl rfl, lw_m2 110 rfl rfl⟩⟩
set_option maxRecDepth 20000 in
theorem okM_61 : OkM 61 := ⟨lw_m3 119 rfl rfl, lw_m1 8 rfl rfl, rfl, pn_7, ds_5, by decide, Or.inl ⟨rfl, lw_m3 117 rfl rfl, lw_m3 118 rfl rfl⟩⟩
set_option maxRecDepth 20000 in
theorem okM_62 : OkM 62 := ⟨lw_m1 225 rfl rfl, lw_m1 8 rfl rfl, rfl, pn_7, ds_1, by decide, Or.inr (Or.inr ⟨rfl, rfl, rfl, lw_m1 224 rfl rfl⟩)⟩
set_option maxRecDepth 20000 in
theorem okM_63 : OkM 63 := ⟨lw_m3 135 rfl rfl, lw_m1 8 rfl rfl, rfl, pn_7, ds_3, by decide, Or.inl ⟨rfl, lw_m3 133 rfl rfl, lw_m3 134 rfl rfl⟩⟩
set_option maxRecDepth 20000 in
theorem okM_64 : OkM 64 := ⟨lw_m3 23 rfl rfl, lw_m1 8 rfl rfl, rfl, pn_7, ds_13, by decide, Or.inl ⟨rfl, lw_m3 21 rfl rfl, lw_m3 22 rfl rfl⟩⟩
set_option maxRecDepth 20000 in
theorem okM_65 : OkM 65 := ⟨lw_m3 102 rfl rfl, lw_m1 8 rfl rfl, rfl, pn_7, ds_29, by decide, Or.inl ⟨rfl, lw_m3 100 rfl rfl, lw_m3 101 rfl rfl⟩⟩
set_option maxRecDepth 20000 in
theorem okM_66 : OkM 66 := ⟨lw_m2 103 rfl rfl, lw_m1 1 rfl rfl, rfl, pn_8, ds_3, by decide, Or.inr (Or.inl ⟨rfl, lw_m2 102 rfl rfl⟩)⟩
set_option maxRecDepth 20000 in
theorem okM_67 : OkM 67 := ⟨lw_m3 106 rfl rfl, lw_m1 1 rfl rfl, rfl, pn_8, ds_6, by decide, Or.inl ⟨rfl, lw_m3 104 rfl rfl, lw_m3 105 rfl rfl⟩⟩
set_option maxRecDepth 20000 in
theorem okM_68 : OkM 68 := ⟨lw_m3 143 rfl rfl, lw_m1 1 rfl rfl, rfl, pn_8, ds_9, by decide, Or.inl ⟨rfl, lw_m3 141 rfl rfl, lw_m3 142 rfl rfl⟩⟩
set_option maxRecDepth 20000 in
theorem okM_69 : OkM 69 := ⟨lw_m3 157 rfl rfl, lw_m1 1 rfl rfl, rfl, pn_8, ds_3, by decide, Or.inl ⟨rfl, lw_m3 156 rfl rfl, lw_memG 27 rfl rfl⟩⟩
set_option maxRecDepth 20000 in
theorem okM_70 : OkM 70 := ⟨lw_m2 153 rfl rfl, lw_m1 1 rfl rfl, rfl, pn_8, ds_8, by decide, Or.inl ⟨rfl, lw_m2 151 rfl rfl, lw_m2 152 rfl rfl⟩⟩
set_option maxRecDepth 20000 in
theorem okM_71 : OkM 71 := ⟨lw_m3 123 rfl rfl, lw_m1 1 rfl rfl, rfl, pn_8, ds_6, by decide, Or.inl ⟨rfl, lw_m3 121 rfl rfl, lw_m3 122 rfl rfl⟩⟩
set_option maxRecDepth 20000 in
theorem okM_72 : OkM 72 := ⟨lw_m2 165 rfl rfl, lw_m1 1 rfl rfl, rfl, pn_8, ds_3, by decide, Or.inl ⟨rfl, lw_m2 163 rfl rfl, lw_m2 164 rfl rfl⟩⟩
set_option maxRecDepth 20000 in
theorem okM_73 : OkM 73 := ⟨lw_m1 18 rfl rfl, lw_m1 1 rfl rfl, rfl, pn_8, ds_1, by decide, Or.inr (Or.inr ⟨rfl, rfl, rfl, lw_m1 17 rfl rfl⟩)⟩
set_option maxRecDepth 20000 in
theorem okM_74 : OkM 74 := ⟨lw_m2 156 rfl rfl, lw_m1 1 rfl rfl, rfl, pn_8, ds_5, by decide, Or.inr (Or.inl ⟨rfl, lw_m2 155 rfl rfl⟩)⟩
set_option maxRecDepth 20000 in
theorem okM_75 : OkM 75 := ⟨lw_m3 2 rfl rfl, lw_m1 1 rfl rfl, rfl, pn_8, ds_5, by decide, Or.inr (Or.inl ⟨rfl, lw_m3 1 rfl rfl⟩)⟩
set_option maxRecDepth 20000 in
theorem okM_76 : OkM 76 := ⟨lw_m3 131 rfl rfl, lw_m1 1 rfl rfl, rfl, pn_8, ds_6, by decide, Or.inl ⟨rfl, lw_m3 129 rfl rfl, lw_m3 130 rfl rfl⟩⟩
set_option maxRecDepth 20000 in
theorem okM_77 : OkM 77 := ⟨lw_m3 139 rfl rfl, lw_m1 1 rfl rfl, rfl, pn_8, ds_3, by decide, Or.inl ⟨rfl, lw_m3 137 rfl rfl, lw_m3 138 rfl rfl⟩⟩
set_option maxRecDepth 20000 in
theorem okM_78 : OkM 78 := ⟨lw_m3 5 rfl rfl, lw_m1 1 rfl rfl, rfl, pn_8, ds_3, by decide, Or.inr (Or.inl ⟨rfl, lw_m3 4 rfl rfl⟩)⟩
set_option maxRecDepth 20000 in
theorem okM_79 : OkM 79 := ⟨lw_m3 153 rfl rfl, lw_m1 1 rfl rfl, rfl, pn_8, ds_3, by decide, Or.inl ⟨rfl, lw_m3 151 rfl rfl, lw_m3 152 rfl rfl⟩⟩
set_option maxRecDepth 20000 in
theorem okM_80 : OkM 80 := ⟨lw_m2 160 rfl rfl, lw_m1 1 rfl rfl, rfl, pn_8, ds_8, by decide, Or.inl ⟨rfl, lw_m2 158 rfl rfl, lw_m2 159 rfl rfl⟩⟩
set_option maxRecDepth 20000 in
theorem okM_81 : OkM 81 := ⟨lw_m3 161 rfl rfl, lw_m1 1 rfl rfl, rfl, pn_8, ds_3, by decide, Or.inl ⟨rfl, lw_m3 159 rfl rfl, lw_m3 160 rfl rfl⟩⟩
set_option maxRecDepth 20000 in
theorem okM_82 : OkM 82 := ⟨lw_m3 218 rfl rfl, lw_m1 1 rfl rfl, rfl, pn_8, ds_3, by decide, Or.inl ⟨rfl, lw_m3 216 rfl rfl, lw_m3 217 rfl rfl⟩⟩
set_option maxRecDepth 20000 in
theorem okM_83 : OkM 83 := ⟨lw_m3 222 rfl rfl, lw_m1 1 rfl rfl, rfl, pn_8, ds_6, by decide, Or.inl ⟨rfl, lw_m3 220 rfl rfl, lw_m3 221 rfl rfl⟩⟩
set_option maxRecDepth 20000 in
theorem okM_84 : OkM 84 := ⟨lw_m2 93 rfl rfl, lw_m1 1 rfl rfl, rfl, pn_8, ds_1, by decide, Or.inl ⟨rfl, lw_m2 92 rfl rfl, lw_memG 2 rfl rfl⟩⟩
set_option maxRecDepth 20000 in
theorem okM_85 : OkM 85 := ⟨lw_m3 115 rfl rfl, lw_m1 1 rfl rfl, rfl, pn_8, ds_6, by decide, Or.inl ⟨rfl, lw_m3 113 rfl rfl, lw_m3 114 rfl rfl⟩⟩
set_option maxRecDepth 20000 in
theorem okM_86 : OkM 86 := ⟨lw_m2 169 rfl rfl, lw_m1 1 rfl rfl, rfl, pn_8, ds_2, by decide, Or.inl ⟨rfl, lw_m2 168 rfl rfl, lw_memG 4 rfl rfl⟩⟩
set_option maxRecDepth 20000 in
theorem okM_87 : OkM 87 := ⟨lw_m3 148 rfl rfl, lw_m1 1 rfl rfl, rfl, pn_8, ds_3, by decide, Or.inl ⟨rfl, lw_m3 147 rfl rfl, lw_memG 26 rfl rfl⟩⟩
set_option maxRecDepth 20000 in
theorem okM_88 : OkM 88 := ⟨lw_m3 111 rfl rfl, lw_m1 1 rfl rfl, rfl, pn_8, ds_3, by decide, Or.inl ⟨rfl, lw_m3 109 rfl rfl, lw_m3 110 rfl rfl⟩⟩
set_option maxRecDepth 20000 in
theorem okM_89 : OkM 89 := ⟨lw_m5 5 rfl rfl, lw_m1 11 rfl rfl, rfl, pn_9, ds_37, by decide, Or.inr (Or.inl ⟨rfl, lw_m5 4 rfl rfl⟩)⟩
set_option maxRecDepth 20000 in
theorem okM_90 : OkM 90 := ⟨lw_m4 163 rfl rfl, lw_m1 11 rfl rfl, rfl, pn_9, ds_8, by decide, Or.inr (Or.inl ⟨rfl, lw_m4 162 rfl rfl⟩)⟩
set_option maxRecDepth 20000 in
theorem okM_91 : OkM 91 := ⟨lw_m3 232 rfl rfl, lw_m1 11 rfl rfl, rfl, pn_9, ds_1, by decide, Or.inl ⟨rfl, lw_m3 231 rfl rfl, lw_memG 37 rfl rfl⟩⟩
set_option maxRecDepth 20000 in
theorem okM_92 : OkM 92 := ⟨lw_m4 179 rfl rfl, lw_m1 11 rfl rfl, rfl, pn_9, ds_3, by decide, Or.inr (Or.inl ⟨rfl, lw_m4 178 rfl rfl⟩)⟩
set_option maxRecDepth 20000 in
theorem okM_93 : OkM 93 := ⟨lw_m5 27 rfl rfl, lw_m1 11 rfl rfl, rfl, pn_9, ds_36, by decide, Or.inl ⟨rfl, lw_m5 26 rfl rfl, lw_memG 60 rfl rfl⟩⟩
set_option maxRecDepth 20000 in
theorem okM_94 : OkM 94 := ⟨lw_m5 31 rfl rfl, lw_m1 11 rfl rfl, rfl, pn_9, ds_6, by decide, Or.inl ⟨rfl, lw_m5 29 rfl rfl, lw_m5 30 rfl rfl⟩⟩
set_option maxRecDepth 20000 in
theorem okM_95 : OkM 95 := ⟨lw_m4 176 rfl rfl, lw_m1 11 rfl rfl, rfl, pn_9, ds_6, by decide, Or.inr (Or.inl ⟨rfl, lw_m4 175 rfl rfl⟩)⟩
set_option maxRecDepth 20000 in
theorem okM_96 : OkM 96 := ⟨lw_m4 228 rfl rfl, lw_m1 11 rfl rfl, rfl, pn_9, ds_27, by decide, Or.inl ⟨rfl, lw_m4 227 rfl rfl, lw_memG 54 rfl rfl⟩⟩
set_option maxRecDepth 20000 in
theorem okM_97 : OkM 97 := ⟨lw_m5 55 rfl rfl, lw_m1 11 rfl rfl, rfl, pn_9, ds_9, by decide, Or.inl ⟨rfl, lw_m5 53 rfl rfl, lw_m5 54 rfl rfl⟩⟩
set_option maxRecDepth 20000 in
theorem okM_98 : OkM 98 := ⟨lw_m4 190 rfl rfl, lw_m1 11 rfl rfl, rfl, pn_9, ds_33, by decide, Or.inl ⟨rfl, lw_m4 189 rfl rfl, lw_memG 46 rfl rfl⟩⟩
set_option maxRecDepth 20000 in
theorem okM_99 : OkM 99 := ⟨lw_m4 156 rfl rfl, lw_m1 11 rfl rfl, rfl, pn_9, ds_1, by decide, Or.inl ⟨rfl, lw_m4 155 rfl rfl, lw_memG 42 rfl rfl⟩⟩
set_option maxRecDepth 20000 in
theorem okM_100 : OkM 100 := ⟨lw_m5 71 rfl rfl, lw_m1 11 rfl rfl, rfl, pn_9, ds_1, by decide, Or.inl ⟨rfl, lw_m5 70 rfl rfl, lw_memG 62 rfl rfl⟩⟩
set_option maxRecDepth 20000 in
theorem okM_101 : OkM 101 := ⟨lw_m4 144 rfl rfl, lw_m1 11 rfl rfl, rfl, pn_9, ds_30, by decide, Or.inl ⟨rfl, lw_m4 143 rfl rfl, lw_memG 39 rfl rfl⟩⟩
set_option maxRecDepth 20000 in
theorem okM_102 : OkM 102 := ⟨lw_m4 213 rfl rfl, lw_m1 11 rfl rfl, rfl, pn_9, ds_30, by decide, Or.inl ⟨rfl, lw_m4 212 rfl rfl, lw_memG 51 rfl rfl⟩⟩
set_option maxRecDepth 20000 in
theorem okM_103 : OkM 103 := ⟨lw_m4 205 rfl rfl, lw_m1 11 rfl rfl, rfl, pn_9, ds_35, by decide, Or.inl ⟨rfl, lw_m4 204 rfl rfl, lw_memG 49 rfl rfl⟩⟩
set_option maxRecDepth 20000 in
theorem okM_104 : OkM 104 := ⟨lw_m4 148 rfl rfl, lw_m1 11 rfl rfl, rfl, pn_9, ds_35, by decide, Or.inl ⟨rfl, lw_m4 147 rfl rfl, lw_memG 40 rfl rfl⟩⟩
set_option maxRecDepth 20000 in
theorem okM_105 : OkM 105 := ⟨lw_m4 124 rfl rfl, lw_m1 11 rfl rfl, rfl, pn_9, ds_8, by decide, Or.inl ⟨rfl, lw_m4 122 rfl rfl, lw_m4 123 rfl rfl⟩⟩
set_option maxRecDepth 20000 in
theorem okM_106 : OkM 106 := ⟨lw_m4 221 rfl rfl, lw_m1 11 rfl rfl, rfl, pn_9, ds_28, by decide, Or.inl ⟨rfl, lw_m4 220 rfl rfl, lw_memG 53 rfl rfl⟩⟩
set_option maxRecDepth 20000 in
theorem okM_107 : OkM 107 := ⟨lw_m5 12 rfl rfl, lw_m1 11 rfl rfl, rfl, pn_9, ds_8, by decide, Or.inl ⟨rfl, lw_m5 11 rfl rfl, lw_memG 57 rfl rfl⟩⟩
set_option maxRecDepth 20000 in
theorem okM_108 : OkM 108 := ⟨lw_m5 43 rfl rfl, lw_m1 11 rfl rfl, rfl, pn_9, ds_6, by decide, Or.inl ⟨rfl, lw_m5 41 rfl rfl, lw_m5 42 rfl rfl⟩⟩
set_option maxRecDepth 20000 in
theorem okM_109 : OkM 109 := ⟨lw_m4 136 rfl rfl, lw_m1 11 rfl rfl, rfl, pn_9, ds_3, by decide, Or.inl ⟨rfl, lw_m4 134 rfl rfl, lw_m4 135 rfl rfl⟩⟩
set_option maxRecDepth 20000 in
theorem okM_110 : OkM 110 := ⟨lw_m5 19 rfl rfl, lw_m1 11 rfl rfl, rfl, pn_9, ds_38, by decide, Or.inr (Or.inl ⟨rfl, lw_m5 18 rfl rfl⟩)⟩
set_option maxRecDepth 20000 in
theorem okM_111 : OkM 111 := ⟨lw_m4 201 rfl rfl, lw_m1 11 rfl rfl, rfl, pn_9, ds_35, by decide, Or.inl ⟨rfl, lw_m4 200 rfl rfl, lw_memG 48 rfl rfl⟩⟩
set_option maxRecDepth 20000 in
theorem okM_112 : OkM 112 := ⟨lw_m4 170 rfl rfl, lw_m1 11 rfl rfl, rfl, pn_9, ds_33, by decide, Or.inl ⟨rfl, lw_m4 169 rfl rfl, lw_memG 44 rfl rfl⟩⟩
set_option maxRecDepth 20000 in
theorem okM_113 : OkM 113 := ⟨lw_m4 166 rfl rfl, lw_m1 11 rfl rfl, rfl, pn_9, ds_6, by decide, Or.inr (Or.inl ⟨rfl, lw_m4 165 rfl rfl⟩)⟩
set_option maxRecDepth 20000 in
theorem okM_114 : OkM 114 := ⟨lw_m5 16 rfl rfl, lw_m1 11 rfl rfl, rfl, pn_9, ds_39, by decide, Or.inl ⟨rfl, lw_m5 15 rfl rfl, lw_memG 58 rfl rfl⟩⟩
set_option maxRecDepth 20000 in
theorem okM_115 : OkM 115 := ⟨lw_m4 127 rfl rfl, lw_m1 11 rfl rfl, rfl, pn_9, ds_10, by decide, Or.inr (Or.inl ⟨rfl, lw_m4 126 rfl rfl⟩)⟩
set_option maxRecDepth 20000 in
theorem okM_116 : OkM 116 := ⟨lw_m3 227 rfl rfl, lw_m1 11 rfl rfl, rfl, pn_9, ds_1, by decide, Or.inr (Or.inr ⟨rfl, rfl, rfl, lw_m3 226 rfl rfl⟩)⟩
set_option maxRecDepth 20000 in
theorem okM_117 : OkM 117 := ⟨lw_m4 152 rfl rfl, lw_m1 11 rfl rfl, rfl, pn_9, ds_34, by decide, Or.inl ⟨rfl, lw_m4 151 rfl rfl, lw_memG 41 rfl rfl⟩⟩
set_option maxRecDepth 20000 in
theorem okM_118 : OkM 118 := ⟨lw_m5 75 rfl rfl, lw_m1 11 rfl rfl, rfl, pn_9, ds_2, by decide, Or.inl ⟨rfl, lw_m5 74 rfl rfl, lw_memG 63 rfl rfl⟩⟩
set_option maxRecDepth 20000 in
theorem okM_119 : OkM 119 := ⟨lw_m4 186 rfl rfl, lw_m1 11 rfl rfl, rfl, pn_9, ds_8, by decide, Or.inr (Or.inl ⟨rfl, lw_m4 185 rfl rfl⟩)⟩
set_option maxRecDepth 20000 in
theorem okM_120 : OkM 120 := ⟨lw_m5 8 rfl rfl, lw_m1 11 rfl rfl, rfl, pn_9, ds_33, by decide, Or.inr (Or.inl ⟨rfl, lw_m5 7 rfl rfl⟩)⟩
set_option maxRecDepth 20000 in
theorem okM_121 : OkM 121 := ⟨lw_m4 235 rfl rfl, lw_m1 11 rfl rfl, rfl, pn_9, ds_30, by decide, Or.inr (Or.inl ⟨rfl, lw_m4 234 rfl rfl⟩)⟩
set_option maxRecDepth 20000 in
theorem okM_122 : OkM 122 := ⟨lw_m5 2 rfl rfl, lw_m1 11 rfl rfl, rfl, pn_9, ds_33, by decide, Or.inr (Or.inl ⟨rfl, lw_m5 1 rfl rfl⟩)⟩
set_option maxRecDepth 20000 in
theorem okM_123 : OkM 123 := ⟨lw_m5 79 rfl rfl, lw_m1 11 rfl rfl, rfl, pn_9, ds_1, by decide, Or.inl ⟨rfl, lw_m5 78 rfl rfl, lw_memG 64 rfl rfl⟩⟩
set_option maxRecDepth 20000 in
theorem okM_124 : OkM 124 := ⟨lw_m4 239 rfl rfl, lw_m1 11 rfl rfl, rfl, pn_9, ds_32, by decide, Or.inl ⟨rfl, lw_m4 238 rfl rfl, lw_memG 56 rfl rfl⟩⟩
set_option maxRecDepth 20000 in
theorem okM_125 : OkM 125 := ⟨lw_m5 47 rfl rfl, lw_m1 11 rfl rfl, rfl, pn_9, ds_6, by decide, Or.inl ⟨rfl, lw_m5 45 rfl rfl, lw_m5 46 rfl rfl⟩⟩
set_option maxRecDepth 20000 in
theorem okM_126 : OkM 126 := ⟨lw_m4 232 rfl rfl, lw_m1 11 rfl rfl, rfl, pn_9, ds_28, by decide, Or.inl ⟨rfl, lw_m4 231 rfl rfl, lw_memG 55 rfl rfl⟩⟩
set_option maxRecDepth 20000 in
theorem okM_127 : OkM 127 := ⟨lw_m5 67 rfl rfl, lw_m1 11 rfl rfl, rfl, pn_9, ds_1, by decide, Or.inl ⟨rfl, lw_m5 66 rfl rfl, lw_memG 61 rfl rfl⟩⟩
set_option maxRecDepth 20000 in
theorem okM_128 : OkM 128 := ⟨lw_m4 197 rfl rfl, lw_m1 11 rfl rfl, rfl, pn_9, ds_35, by decide, Or.inl ⟨rfl, lw_m4 196 rfl rfl, lw_memG 47 rfl rfl⟩⟩
set_option maxRecDepth 20000 in
theorem okM_129 : OkM 129 := ⟨lw_m5 51 rfl rfl, lw_m1 11 rfl rfl, rfl, pn_9, ds_3, by decide, Or.inl ⟨rfl, lw_m5 49 rfl rfl, lw_m5 50 rfl rfl⟩⟩
set_option maxRecDepth 20000 in
theorem okM_130 : OkM 130 := ⟨lw_m4 173 rfl rfl, lw_m1 11 rfl rfl, rfl, pn_9, ds_31, by decide, Or.inr (Or.inl ⟨rfl, lw_m4 172 rfl rfl⟩)⟩
set_option maxRecDepth 20000 in
theorem okM_131 : OkM 131 := ⟨lw_m4 183 rfl rfl, lw_m1 11 rfl rfl, rfl, pn_9, ds_33, by decide, Or.inl ⟨rfl, lw_m4 182 rfl rfl, lw_memG 45 rfl rfl⟩⟩
set_option maxRecDepth 20000 in
theorem okM_132 : OkM 132 := ⟨lw_m5 59 rfl rfl, lw_m1 11 rfl rfl, rfl, pn_9, ds_3, by decide, Or.inl ⟨rfl, lw_m5 57 rfl rfl, lw_m5 58 rfl rfl⟩⟩
set_option maxRecDepth 20000 in
theorem okM_133 : OkM 133 := ⟨lw_m4 131 rfl rfl, lw_m1 11 rfl rfl, rfl, pn_9, ds_8, by decide, Or.inl ⟨rfl, lw_m4 129 rfl rfl, lw_m4 130 rfl rfl⟩⟩
set_option maxRecDepth 20000 in
theorem okM_134 : OkM 134 := ⟨lw_m5 23 rfl rfl, lw_m1 11 rfl rfl, rfl, pn_9, ds_7, by decide, Or.inl ⟨rfl, lw_m5 22 rfl rfl, lw_memG 59 rfl rfl⟩⟩
set_option maxRecDepth 20000 in
theorem okM_135 : OkM 135 := ⟨lw_m5 63 rfl rfl, lw_m1 11 rfl rfl, rfl, pn_9, ds_3, by decide, Or.inl ⟨rfl, lw_m5 61 rfl rfl, lw_m5 62 rfl rfl⟩⟩
set_option maxRecDepth 20000 in
theorem okM_136 : OkM 136 := ⟨lw_m5 83 rfl rfl, lw_m1 11 rfl rfl, rfl, pn_9, ds_3, by decide, Or.inl ⟨rfl, lw_m5 81 rfl rfl, lw_m5 82 rfl rfl⟩⟩
set_option maxRecDepth 20000 in
theorem okM_137 : OkM 137 := ⟨lw_m4 160 rfl rfl, lw_m1 11 rfl rfl, rfl, pn_9, ds_33, by decide, Or.inl ⟨rfl, lw_m4 159 rfl rfl, lw_memG 43 rfl rfl⟩⟩
set_option maxRecDepth 20000 in
theorem okM_138 : OkM 138 := ⟨lw_m4 193 rfl rfl, lw_m1 11 rfl rfl, rfl, pn_9, ds_3, by decide, Or.inr (Or.inl ⟨rfl, lw_m4 192 rfl rfl⟩)⟩
set_option maxRecDepth 20000 in
theorem okM_139 : OkM 139 := ⟨lw_m5 87 rfl rfl, lw_m1 11 rfl rfl, rfl, pn_9, ds_6, by decide, Or.inl ⟨rfl, lw_m5 85 rfl rfl, lw_m5 86 rfl rfl⟩⟩
set_option maxRecDepth 20000 in
theorem okM_140 : OkM 140 := ⟨lw_m5 39 rfl rfl, lw_m1 11 rfl rfl, rfl, pn_9, ds_6, by decide, Or.inl ⟨rfl, lw_m5 37 rfl rfl, lw_m5 38 rfl rfl⟩⟩
set_option maxRecDepth 20000 in
theorem okM_141 : OkM 141 := ⟨lw_m4 140 rfl rfl, lw_m1 11 rfl rfl, rfl, pn_9, ds_2, by decide, Or.inl ⟨rfl, lw_m4 139 rfl rfl, lw_memG 38 rfl rfl⟩⟩
set_option maxRecDepth 20000 in
theorem okM_142 : OkM 142 := ⟨lw_m4 217 rfl rfl, lw_m1 11 rfl rfl, rfl, pn_9, ds_7, by decide, Or.inl ⟨rfl, lw_m4 216 rfl rfl, lw_memG 52 rfl rfl⟩⟩
set_option maxRecDepth 20000 in
theorem okM_143 : OkM 143 := ⟨lw_m4 209 rfl rfl, lw_m1 11 rfl rfl, rfl, pn_9, ds_27, by decide, Or.inl ⟨rfl, lw_m4 208 rfl rfl, lw_memG 50 rfl rfl⟩⟩
set_option maxRecDepth 20000 in
theorem okM_144 : OkM 144 := ⟨lw_m5 35 rfl rfl, lw_m1 11 rfl rfl, rfl, pn_9, ds_3, by decide, Or.inl ⟨rfl, lw_m5 33 rfl rfl, lw_m5 34 rfl rfl⟩⟩
set_option maxRecDepth 20000 in
theorem okM_145 : OkM 145 := ⟨lw_m4 224 rfl rfl, lw_m1 11 rfl rfl, rfl, pn_9, ds_3, by decide, Or.inr (Or.inl ⟨rfl, lw_m4 223 rfl rfl⟩)⟩
set_option maxRecDepth 20000 in
theorem okM_146 : OkM 146 := ⟨lw_m2 202 rfl rfl, lw_m1 12 rfl rfl, rfl, pn_10, ds_3, by decide, Or.inr (Or.inl ⟨rfl, lw_m2 201 rfl rfl⟩)⟩
set_option maxRecDepth 20000 in
theorem okM_147 : OkM 147 := ⟨lw_m2 100 rfl rfl, lw_m1 10 rfl rfl, rfl, pn_12, ds_29, by decide, Or.inr (Or.inl ⟨rfl, lw_m2 99 rfl rfl⟩)⟩
theorem okM_all : ∀ k, k < nmM → OkM k := by
  intro k hk
  match k, hk with
  | 0, _ => exact okM_0
  | 1, _ => exact okM_1
  | 2, _ => exact okM_2
  | 3, _ => exact okM_3
  | 4, _ => exact okM_4
  | 5, _ => exact okM_5
  | 6, _ => exact okM_6
  | 7, _ => exact okM_7
  | 8, _ => exact okM_8
  | 9, _ => exact okM_9
  | 10, _ => exact okM_10
  | 11, _ => exact okM_11
  | 12, _ => exact okM_12
  | 13, _ => exact okM_13
  | 14, _ => exact okM_14
  | 15, _ => exact okM_15
  | 16, _ => exact okM_16
  | 17, _ => exact okM_17
  | 18, _ => exact okM_18
  | 19, _ => exact okM_19
  | 20, _ => exact okM_20
  | 21, _ => exact okM_21
  | 22, _ => exact okM_22
  | 23, _ => exact okM_23
  | 24, _ => exact okM_24
  | 25, _ => exact okM_25
  | 26, _ => exact okM_26
  | 27, _ => exact okM_27
  | 28, _ => exact okM_28
  | 29, _ => exact okM_29
  | 30, _ => exact okM_30
  | 31, _ => exact okM_31
  | 32, _ => exact okM_32
  | 33, _ => exact okM_33
  | 34, _ => exact okM_34
  | 35, _ => exact okM_35
  | 36, _ => exact okM_36
  | 37, _ => exact okM_37
  | 38, _ => exact okM_38
  | 39, _ => exact okM_39
  | 40, _ => exact okM_40
  | 41, _ => exact okM_41
  | 42, _ => exact okM_42
  | 43, _ => exact okM_43
  | 44, _ => exact okM_44
  | 45, _ => exact okM_45
  | 46, _ => exact okM_46
  | 47, _ => exact okM_47
  | 48, _ => exact okM_48
  | 49, _ => exact okM_49
  | 50, _ => exact okM_50
  | 51, _ => exact okM_51
  | 52, _ => exact okM_52
  | 53, _ => exact okM_53
  | 54, _ => exact okM_54
  | 55, _ => exact okM_55
  | 56, _ => exact okM_56
  | 57, _ => exact okM_57
  | 58, _ => exact okM_58
  | 59, _ => exact okM_59
  | 60, _ => exact okM_60
  | 61, _ => exact okM_61
  | 62, _ => exact okM_62
  | 63, _ => exact okM_63
  | 64, _ => exact okM_64
  | 65, _ => exact okM_65
  | 66, _ => exact okM_66
  | 67, _ => exact okM_67
  | 68, _ => exact okM_68
  | 69, _ => exact okM_69
  | 70, _ => exact okM_70
  | 71, _ => exact okM_71
  | 72, _ => exact okM_72
  | 73, _ => exact okM_73
  | 74, _ => exact okM_74
  | 75, _ => exact okM_75
  | 76, _ => exact okM_76
  | 77, _ => exact okM_77
  | 78, _ => exact okM_78
  | 79, _ => exact okM_79
  | 80, _ => exact okM_80
  | 81, _ => exact okM_81
  | 82, _ => exact okM_82
  | 83, _ => exact okM_83
  | 84, _ => exact okM_84
  | 85, _ => exact okM_85
  | 86, _ => exact okM_86
  | 87, _ => exact okM_87
  | 88, _ => exact okM_88
  | 89, _ => exact okM_89
  | 90, _ => exact okM_90
  | 91, _ => exact okM_91
  | 92, _ => exact okM_92
  | 93, _ => exact okM_93
  | 94, _ => exact okM_94
  | 95, _ => exact okM_95
  | 96, _ => exact okM_96
  | 97, _ => exact okM_97
  | 98, _ => exact okM_98
  | 99, _ => exact okM_99
  | 100, _ => exact okM_100
  | 101, _ => exact okM_101
  | 102, _ => exact okM_102
  | 103, _ => exact okM_103
  | 104, _ => exact okM_104
  | 105, _ => exact okM_105
  | 106, _ => exact okM_106
  | 107, _ => exact okM_107
  | 108, _ => exact okM_108
  | 109, _ => exact okM_109
  | 110, _ => exact okM_110
  | 111, _ => exact okM_111
  | 112, _ => exact okM_112
  | 113, _ => exact okM_113
  | 114, _ => exact okM_114
  | 115, _ => exact okM_115
  | 116, _ => exact okM_116
  | 117, _ => exact okM_117
  | 118, _ => exact okM_118
  | 119, _ => exact okM_119
  | 120, _ => exact okM_120
  | 121, _ => exact okM_121
  | 122, _ => exact okM_122
  | 123, _ => exact okM_123
  | 124, _ => exact okM_124
  | 125, _ => exact okM_125
  | 126, _ => exact okM_126
  | 127, _ => exact okM_127
  | 128, _ => exact okM_128
  | 129, _ => exact okM_129
  | 130, _ => exact okM_130
  | 131, _ => exact okM_131
  | 132, _ => exact okM_132
  | 133, _ => exact okM_133
  | 134, _ => exact okM_134
  | 135, _ => exact okM_135
  | 136, _ => exact okM_136
  | 137, _ => exact okM_137
  | 138, _ => exact okM_138
  | 139, _ => exact okM_139
  | 140, _ => exact okM_140
  | 141, _ => exact okM_141
  | 142, _ => exact okM_142
  | 143, _ => exact okM_143
  | 144, _ => exact okM_144
  | 145, _ => exact okM_145
  | 146, _ => exact okM_146
  | 147, _ => exact okM_147
  | k + 148, hk => exact absurd hk (by simp [nmM, nm])
set_option maxRecDepth 20000 in
theorem okL_0 : OkL 0 := ⟨by decide, rfl, rfl, lw_m3 37 rfl rfl, ⟨_, rfl, rfl⟩⟩
set_option maxRecDepth 20000 in
theorem okL_1 : OkL 1 := ⟨_, _, _, rfl, by decide, lw_m1 88 rfl rfl, rfl, rfl, by decide⟩
set_option maxRecDepth 20000 in
theorem okL_2 : OkL 2 := ⟨by decide, rfl, rfl, lw_m2 104 rfl rfl, ⟨_, rfl, rfl⟩⟩
set_option maxRecDepth 20000 in
theorem okL_3 : OkL 3 := ⟨_, _, _, rfl, by decide, lw_m1 87 rfl rfl, rfl, rfl, by decide⟩
set_option maxRecDepth 20000 in
theorem okL_4 : OkL 4 := ⟨_, _, _, rfl, by decide, lw_m1 74 rfl rfl, rfl, rfl, by decide⟩
set_option maxRecDepth 20000 in
theorem okL_5 : OkL 5 := ⟨_, _, _, rfl, by decide, lw_m1 73 rfl rfl, rfl, rfl, by decide⟩
set_option maxRecDepth 20000 in
theorem okL_6 : OkL 6 := ⟨_, _, _, rfl, by decide, lw_m1 48 rfl rfl, rfl, rfl, by decide⟩
set_option maxRecDepth 20000 in
theorem okL_7 : OkL 7 := ⟨_, _, _, rfl, by decide, lw_m1 81 rfl rfl, rfl, rfl, by decide⟩
set_option maxRecDepth 20000 in
theorem okL_8 : OkL 8 := ⟨_, _, _, rfl, by decide, lw_m1 53 rfl rfl, rfl, rfl, by decide⟩
set_option maxRecDepth 20000 in
theorem okL_9 : OkL 9 := lw_m1 72 rfl rfl
set_option maxRecDepth 20000 in
theorem okL_10 : OkL 10 := ⟨by decide, rfl, rfl, Or.inl ⟨rfl, lw_m2 98 rfl rfl⟩⟩
set_option maxRecDepth 20000 in
theorem okL_11 : OkL 11 := ⟨by decide, rfl, rfl, Or.inr ⟨rfl, List.mem_of_getElem? (i := 0) rfl⟩⟩
set_option maxRecDepth 20000 in
theorem okL_12 : OkL 12 := ⟨_, _, _, rfl, by decide, lw_m1 172 rfl rfl, rfl, rfl, by decide⟩
set_option maxRecDepth 20000 in
theorem okL_13 : OkL 13 := ⟨_, _, _, rfl, by decide, lw_m1 171 rfl rfl, rfl, rfl, by decide⟩
set_option maxRecDepth 20000 in
theorem okL_14 : OkL 14 := ⟨_, _, _, rfl, by decide, lw_m1 174 rfl rfl, rfl, rfl, by decide⟩
set_option maxRecDepth 20000 in
theorem okL_15 : OkL 15 := ⟨_, _, _, rfl, by decide, lw_m1 181 rfl rfl, rfl, rfl, by decide⟩
set_option maxRecDepth 20000 in
theorem okL_16 : OkL 16 := ⟨_, _, _, rfl, by decide, lw_m1 176 rfl rfl, rfl, rfl, by decide⟩
set_option maxRecDepth 20000 in
theorem okL_17 : OkL 17 := ⟨_, _, _, rfl, by decide, lw_m1 178 rfl rfl, rfl, rfl, by decide⟩
set_option maxRecDepth 20000 in
theorem okL_18 : OkL 18 := ⟨by decide, rfl, rfl, lw_m3 68 rfl rfl, ⟨_, rfl, rfl⟩⟩
set_option maxRecDepth 20000 in
theorem okL_19 : OkL 19 := ⟨_, _, _, rfl, by decide, lw_m1 170 rfl rfl, rfl, rfl, by decide⟩
set_option maxRecDepth 20000 in
theorem okL_20 : OkL 20 := ⟨_, _, _, rfl, by decide, lw_m1 169 rfl rfl, rfl, rfl, by decide⟩
set_option maxRecDepth 20000 in
theorem okL_21 : OkL 21 := ⟨by decide, rfl, rfl, lw_m3 56 rfl rfl, ⟨_, rfl, rfl⟩⟩
set_option maxRecDepth 20000 in
theorem okL_22 : OkL 22 := ⟨_, _, _, rfl, by decide, lw_m1 175 rfl rfl, rfl, rfl, by decide⟩
set_option maxRecDepth 20000 in
theorem okL_23 : OkL 23 := ⟨_, _, _, rfl, by decide, lw_m1 180 rfl rfl, rfl, rfl, by decide⟩
set_option maxRecDepth 20000 in
theorem okL_24 : OkL 24 := ⟨_, _, _, rfl, by decide, lw_m1 177 rfl rfl, rfl, rfl, by decide⟩
set_option maxRecDepth 20000 in
theorem okL_25 : OkL 25 := ⟨_, _, _, rfl, by decide, lw_m1 179 rfl rfl, rfl, rfl, by decide⟩
set_option maxRecDepth 20000 in
theorem okL_26 : OkL 26 := ⟨by decide, rfl, rfl, lw_m3 92 rfl rfl, ⟨_, rfl, rfl⟩⟩
set_option maxRecDepth 20000 in
theorem okL_27 : OkL 27 := ⟨_, _, _, rfl, by decide, lw_m1 80 rfl rfl, rfl, rfl, by decide⟩
set_option maxRecDepth 20000 in
theorem okL_28 : OkL 28 := ⟨by decide, rfl, rfl, Or.inl ⟨rfl, lw_m3 50 rfl rfl⟩⟩
set_option maxRecDepth 20000 in
theorem okL_29 : OkL 29 := ⟨_, _, _, rfl, by decide, lw_m1 167 rfl rfl, rfl, rfl, by decide⟩
set_option maxRecDepth 20000 in
theorem okL_30 : OkL 30 := ⟨_, _, _, rfl, by decide, lw_m1 50 rfl rfl, rfl, rfl, by decide⟩
set_option maxRecDepth 20000 in
theorem okL_31 : OkL 31 := ⟨_, _, _, rfl, by decide, lw_m1 86 rfl rfl, rfl, rfl, by decide⟩
set_option maxRecDepth 20000 in
theorem okL_32 : OkL 32 := ⟨by decide, rfl, rfl, lw_m3 96 rfl rfl, ⟨_, rfl, rfl⟩⟩
set_option maxRecDepth 20000 in
theorem okL_33 : OkL 33 := ⟨by decide, rfl, rfl, lw_m3 97 rfl rfl, ⟨_, rfl, rfl⟩⟩
set_option maxRecDepth 20000 in
theorem okL_34 : OkL 34 := lw_m1 166 rfl rfl
set_option maxRecDepth 20000 in
theorem okL_35 : OkL 35 := ⟨_, _, _, rfl, by decide, lw_m1 173 rfl rfl, rfl, rfl, by decide⟩
set_option maxRecDepth 20000 in
theorem okL_36 : OkL 36 := ⟨_, _, _, rfl, by decide, lw_m1 182 rfl rfl, rfl, rfl, by decide⟩
set_option maxRecDepth 20000 in
theorem okL_37 : OkL 37 := ⟨_, _, _, rfl, by decide, lw_m1 168 rfl rfl, rfl, rfl, by decide⟩
set_option maxRecDepth 20000 in
theorem okL_38 : OkL 38 := ⟨by decide, rfl, rfl, Or.inl ⟨rfl, lw_m3 49 rfl rfl⟩⟩
set_option maxRecDepth 20000 in
theorem okL_39 : OkL 39 := ⟨by decide, rfl, rfl, Or.inr ⟨rfl, List.mem_of_getElem? (i := 1) rfl⟩⟩
set_option maxRecDepth 20000 in
theorem okL_40 : OkL 40 := ⟨by decide, rfl, rfl, lw_m3 52 rfl rfl, ⟨_, rfl, rfl⟩⟩
set_option maxRecDepth 20000 in
theorem okL_41 : OkL 41 := ⟨_, _, _, rfl, by decide, lw_m1 45 rfl rfl, rfl, rfl, by decide⟩
set_option maxRecDepth 20000 in
theorem okL_42 : OkL 42 := ⟨_, _, _, rfl, by decide, lw_m1 56 rfl rfl, rfl, rfl, by decide⟩
set_option maxRecDepth 20000 in
theorem okL_43 : OkL 43 := ⟨by decide, rfl, rfl, lw_m3 88 rfl rfl, ⟨_, rfl, rfl⟩⟩
set_option maxRecDepth 20000 in
theorem okL_44 : OkL 44 := ⟨by decide, rfl, rfl, lw_m3 64 rfl rfl, ⟨_, rfl, rfl⟩⟩
set_option maxRecDepth 20000 in
theorem okL_45 : OkL 45 := ⟨by decide, rfl, rfl, lw_m3 98 rfl rfl, ⟨_, rfl, rfl⟩⟩
set_option maxRecDepth 20000 in
theorem okL_46 : OkL 46 := ⟨_, _, _, rfl, by decide, lw_m1 111 rfl rfl, rfl, rfl, by decide⟩
set_option maxRecDepth 20000 in
theorem okL_47 : OkL 47 := ⟨by decide, rfl, rfl, lw_m3 45 rfl rfl, ⟨_, rfl, rfl⟩⟩
set_option maxRecDepth 20000 in
theorem okL_48 : OkL 48 := ⟨by decide, rfl, rfl, lw_m3 60 rfl rfl, ⟨_, rfl, rfl⟩⟩
set_option maxRecDepth 20000 in
theorem okL_49 : OkL 49 := ⟨by decide, rfl, rfl, lw_m3 80 rfl rfl, ⟨_, rfl, rfl⟩⟩
set_option maxRecDepth 20000 in
theorem okL_50 : OkL 50 := ⟨_, _, _, rfl, by decide, lw_m1 184 rfl rfl, rfl, rfl, by decide⟩
set_option maxRecDepth 20000 in
theorem okL_51 : OkL 51 := ⟨by decide, rfl, rfl, lw_m3 84 rfl rfl, ⟨_, rfl, rfl⟩⟩
set_option maxRecDepth 20000 in
theorem okL_52 : OkL 52 := ⟨by decide, rfl, rfl, lw_m3 72 rfl rfl, ⟨_, rfl, rfl⟩⟩
set_option maxRecDepth 20000 in
theorem okL_53 : OkL 53 := ⟨by decide, rfl, rfl, lw_m3 76 rfl rfl, ⟨_, rfl, rfl⟩⟩
set_option maxRecDepth 20000 in
theorem okL_54 : OkL 54 := ⟨_, _, _, rfl, by decide, lw_m1 75 rfl rfl, rfl, rfl, by decide⟩
set_option maxRecDepth 20000 in
theorem okL_55 : OkL 55 := ⟨_, _, _, rfl, by decide, lw_m1 109 rfl rfl, rfl, rfl, by decide⟩
set_option maxRecDepth 20000 in
theorem okL_56 : OkL 56 := ⟨_, _, _, rfl, by decide, lw_m1 110 rfl rfl, rfl, rfl, by decide⟩
set_option maxRecDepth 20000 in
theorem okL_57 : OkL 57 := ⟨by decide, rfl, rfl, Or.inl ⟨rfl, lw_m2 222 rfl rfl⟩⟩
set_option maxRecDepth 20000 in
theorem okL_58 : OkL 58 := ⟨_, _, _, rfl, by decide, lw_m1 82 rfl rfl, rfl, rfl, by decide⟩
set_option maxRecDepth 20000 in
theorem okL_59 : OkL 59 := ⟨_, _, _, rfl, by decide, lw_m1 108 rfl rfl, rfl, rfl, by decide⟩
set_option maxRecDepth 20000 in
theorem okL_60 : OkL 60 := ⟨_, _, _, rfl, by decide, lw_m1 41 rfl rfl, rfl, rfl, by decide⟩
set_option maxRecDepth 20000 in
theorem okL_61 : OkL 61 := lw_m1 107 rfl rfl
set_option maxRecDepth 20000 in
theorem okL_62 : OkL 62 := ⟨by decide, rfl, rfl, lw_m3 33 rfl rfl, ⟨_, rfl, rfl⟩⟩
set_option maxRecDepth 20000 in
theorem okL_63 : OkL 63 := lw_m1 126 rfl rfl
set_option maxRecDepth 20000 in
theorem okL_64 : OkL 64 := ⟨_, _, _, rfl, by decide, lw_m1 143 rfl rfl, rfl, rfl, by decide⟩
set_option maxRecDepth 20000 in
theorem okL_65 : OkL 65 := ⟨_, _, _, rfl, by decide, lw_m1 144 rfl rfl, rfl, rfl, by decide⟩
set_option maxRecDepth 20000 in
theorem okL_66 : OkL 66 := ⟨_, _, rfl, lw_m1 127 rfl rfl⟩
set_option maxRecDepth 20000 in
theorem okL_67 : OkL 67 := ⟨by decide, rfl, rfl, Or.inl ⟨rfl, lw_m1 129 rfl rfl⟩⟩
set_option maxRecDepth 20000 in
theorem okL_68 : OkL 68 := ⟨_, _, _, rfl, by decide, lw_m1 145 rfl rfl, rfl, rfl, by decide⟩
set_option maxRecDepth 20000 in
theorem okL_69 : OkL 69 := ⟨by decide, rfl, rfl, lw_m2 210 rfl rfl, ⟨_, rfl, rfl⟩⟩
set_option maxRecDepth 20000 in
theorem okL_70 : OkL 70 := ⟨by decide, rfl, rfl, lw_m2 231 rfl rfl, ⟨_, rfl, rfl⟩⟩
set_option maxRecDepth 20000 in
theorem okL_71 : OkL 71 := ⟨by decide, rfl, rfl, lw_m2 236 rfl rfl, ⟨_, rfl, rfl⟩⟩
set_option maxRecDepth 20000 in
theorem okL_72 : OkL 72 := ⟨by decide, rfl, rfl, lw_m3 8 rfl rfl, ⟨_, rfl, rfl⟩⟩
set_option maxRecDepth 20000 in
theorem okL_73 : OkL 73 := ⟨by decide, rfl, rfl, lw_m3 12 rfl rfl, ⟨_, rfl, rfl⟩⟩
set_option maxRecDepth 20000 in
theorem okL_74 : OkL 74 := ⟨_, _, _, rfl, by decide, lw_m1 113 rfl rfl, rfl, rfl, by decide⟩
set_option maxRecDepth 20000 in
theorem okL_75 : OkL 75 := ⟨by decide, rfl, rfl, lw_m2 235 rfl rfl, ⟨_, rfl, rfl⟩⟩
set_option maxRecDepth 20000 in
theorem okL_76 : OkL 76 := ⟨_, _, _, rfl, by decide, lw_m1 85 rfl rfl, rfl, rfl, by decide⟩
set_option maxRecDepth 20000 in
theorem okL_77 : OkL 77 := ⟨by decide, rfl, rfl, lw_m3 16 rfl rfl, ⟨_, rfl, rfl⟩⟩
set_option maxRecDepth 20000 in
theorem okL_78 : OkL 78 := ⟨by decide, rfl, rfl, lw_m2 174 rfl rfl, ⟨_, rfl, rfl⟩⟩
set_option maxRecDepth 20000 in
theorem okL_79 : OkL 79 := ⟨by decide, rfl, rfl, lw_m2 227 rfl rfl, ⟨_, rfl, rfl⟩⟩
set_option maxRecDepth 20000 in
theorem okL_80 : OkL 80 := ⟨_, _, _, rfl, by decide, lw_m1 146 rfl rfl, rfl, rfl, by decide⟩
set_option maxRecDepth 20000 in
theorem okL_81 : OkL 81 := ⟨_, _, _, rfl, by decide, lw_m1 148 rfl rfl, rfl, rfl, by decide⟩
set_option maxRecDepth 20000 in
theorem okL_82 : OkL 82 := ⟨by decide, rfl, rfl, lw_m2 178 rfl rfl, ⟨_, rfl, rfl⟩⟩
set_option maxRecDepth 20000 in
theorem okL_83 : OkL 83 := ⟨by decide, rfl, rfl, Or.inr ⟨rfl, List.mem_of_getElem? (i := 2) rfl⟩⟩
set_option maxRecDepth 20000 in
theorem okL_84 : OkL 84 := ⟨_, _, _, rfl, by decide, lw_m1 43 rfl rfl, rfl, rfl, by decide⟩
set_option maxRecDepth 20000 in
theorem okL_85 : OkL 85 := ⟨by decide, rfl, rfl, Or.inr ⟨rfl, List.mem_of_getElem? (i := 3) rfl⟩⟩
set_option maxRecDepth 20000 in
theorem okL_86 : OkL 86 := ⟨by decide, rfl, rfl, lw_m3 7 rfl rfl, ⟨_, rfl, rfl⟩⟩
set_option maxRecDepth 20000 in
theorem okL_87 : OkL 87 := ⟨_, _, _, rfl, by decide, lw_m1 77 rfl rfl, rfl, rfl, by decide⟩
set_option maxRecDepth 20000 in
theorem okL_88 : OkL 88 := ⟨_, _, _, rfl, by decide, lw_m1 47 rfl rfl, rfl, rfl, by decide⟩
set_option maxRecDepth 20000 in
theorem okL_89 : OkL 89 := ⟨_, _, _, rfl, by decide, lw_m1 52 rfl rfl, rfl, rfl, by decide⟩
set_option maxRecDepth 20000 in
theorem okL_90 : OkL 90 := ⟨_, _, _, rfl, by decide, lw_m1 40 rfl rfl, rfl, rfl, by decide⟩
set_option maxRecDepth 20000 in
theorem okL_91 : OkL 91 := ⟨_, _, _, rfl, by decide, lw_m1 46 rfl rfl, rfl, rfl, by decide⟩
set_option maxRecDepth 20000 in
theorem okL_92 : OkL 92 := ⟨_, _, _, rfl, by decide, lw_m1 51 rfl rfl, rfl, rfl, by decide⟩
set_option maxRecDepth 20000 in
theorem okL_93 : OkL 93 := lw_m1 27 rfl rfl
set_option maxRecDepth 20000 in
theorem okL_94 : OkL 94 := ⟨_, _, _, rfl, by decide, lw_m1 54 rfl rfl, rfl, rfl, by decide⟩
set_option maxRecDepth 20000 in
theorem okL_95 : OkL 95 := ⟨by decide, rfl, rfl, lw_m1 28 rfl rfl, ⟨_, rfl, rfl⟩⟩
set_option maxRecDepth 20000 in
theorem okL_96 : OkL 96 := ⟨by decide, rfl, rfl, lw_m1 32 rfl rfl, ⟨_, rfl, rfl⟩⟩
set_option maxRecDepth 20000 in
theorem okL_97 : OkL 97 := ⟨by decide, rfl, rfl, lw_m1 36 rfl rfl, ⟨_, rfl, rfl⟩⟩
set_option maxRecDepth 20000 in
theorem okL_98 : OkL 98 := ⟨_, _, _, rfl, by decide, lw_m2 52 rfl rfl, rfl, rfl, by decide⟩
set_option maxRecDepth 20000 in
theorem okL_99 : OkL 99 := ⟨_, _, _, rfl, by decide, lw_m2 44 rfl rfl, rfl, rfl, by decide⟩
set_option maxRecDepth 20000 in
theorem okL_100 : OkL 100 := ⟨by decide, rfl, rfl, lw_m3 166 rfl rfl, ⟨_, rfl, rfl⟩⟩
set_option maxRecDepth 20000 in
theorem okL_101 : OkL 101 := ⟨_, _, _, rfl, by decide, lw_m2 47 rfl rfl, rfl, rfl, by decide⟩
set_option maxRecDepth 20000 in
theorem okL_102 : OkL 102 := ⟨_, _, _, rfl, by decide, lw_m2 46 rfl rfl, rfl, rfl, by decide⟩
set_option maxRecDepth 20000 in
theorem okL_103 : OkL 103 := ⟨_, _, _, rfl, by decide, lw_m1 76 rfl rfl, rfl, rfl, by decide⟩
set_option maxRecDepth 20000 in
theorem okL_104 : OkL 104 := ⟨by decide, rfl, rfl, lw_m3 167 rfl rfl, ⟨_, rfl, rfl⟩⟩
set_option maxRecDepth 20000 in
theorem okL_105 : OkL 105 := ⟨_, _, _, rfl, by decide, lw_m1 83 rfl rfl, rfl, rfl, by decide⟩
set_option maxRecDepth 20000 in
theorem okL_106 : OkL 106 := ⟨by decide, rfl, rfl, lw_m3 172 rfl rfl, ⟨_, rfl, rfl⟩⟩
set_option maxRecDepth 20000 in
theorem okL_107 : OkL 107 := ⟨by decide, rfl, rfl, lw_m3 194 rfl rfl, ⟨_, rfl, rfl⟩⟩
set_option maxRecDepth 20000 in
theorem okL_108 : OkL 108 := ⟨_, _, _, rfl, by decide, lw_m2 45 rfl rfl, rfl, rfl, by decide⟩
set_option maxRecDepth 20000 in
theorem okL_109 : OkL 109 := ⟨by decide, rfl, rfl, lw_m3 176 rfl rfl, ⟨_, rfl, rfl⟩⟩
set_option maxRecDepth 20000 in
theorem okL_110 : OkL 110 := ⟨by decide, rfl, rfl, lw_m3 186 rfl rfl, ⟨_, rfl, rfl⟩⟩
set_option maxRecDepth 20000 in
theorem okL_111 : OkL 111 := ⟨by decide, rfl, rfl, Or.inr ⟨rfl, List.mem_of_getElem? (i := 4) rfl⟩⟩
set_option maxRecDepth 20000 in
theorem okL_112 : OkL 112 := ⟨by decide, rfl, rfl, Or.inr ⟨rfl, List.mem_of_getElem? (i := 5) rfl⟩⟩
set_option maxRecDepth 20000 in
theorem okL_113 : OkL 113 := ⟨_, _, _, rfl, by decide, lw_m2 43 rfl rfl, rfl, rfl, by decide⟩
set_option maxRecDepth 20000 in
theorem okL_114 : OkL 114 := ⟨_, _, _, rfl, by decide, lw_m1 55 rfl rfl, rfl, rfl, by decide⟩
set_option maxRecDepth 20000 in
theorem okL_115 : OkL 115 := ⟨by decide, rfl, rfl, lw_m3 181 rfl rfl, ⟨_, rfl, rfl⟩⟩
set_option maxRecDepth 20000 in
theorem okL_116 : OkL 116 := ⟨_, _, _, rfl, by decide, lw_m1 44 rfl rfl, rfl, rfl, by decide⟩
set_option maxRecDepth 20000 in
theorem okL_117 : OkL 117 := ⟨by decide, rfl, rfl, lw_m3 190 rfl rfl, ⟨_, rfl, rfl⟩⟩
set_option maxRecDepth 20000 in
theorem okL_118 : OkL 118 := ⟨by decide, rfl, rfl, Or.inl ⟨rfl, lw_m3 202 rfl rfl⟩⟩
set_option maxRecDepth 20000 in
theorem okL_119 : OkL 119 := ⟨_, _, _, rfl, by decide, lw_m2 53 rfl rfl, rfl, rfl, by decide⟩
set_option maxRecDepth 20000 in
theorem okL_120 : OkL 120 := ⟨_, _, _, rfl, by decide, lw_m2 55 rfl rfl, rfl, rfl, by decide⟩
set_option maxRecDepth 20000 in
theorem okL_121 : OkL 121 := ⟨_, _, _, rfl, by decide, lw_m2 57 rfl rfl, rfl, rfl, by decide⟩
set_option maxRecDepth 20000 in
theorem okL_122 : OkL 122 := ⟨_, _, _, rfl, by decide, lw_m2 51 rfl rfl, rfl, rfl, by decide⟩
set_option maxRecDepth 20000 in
theorem okL_123 : OkL 123 := lw_m2 40 rfl rfl
set_option maxRecDepth 20000 in
theorem okL_124 : OkL 124 := ⟨_, _, _, rfl, by decide, lw_m2 48 rfl rfl, rfl, rfl, by decide⟩
set_option maxRecDepth 20000 in
theorem okL_125 : OkL 125 := ⟨_, _, _, rfl, by decide, lw_m2 49 rfl rfl, rfl, rfl, by decide⟩
set_option maxRecDepth 20000 in
theorem okL_126 : OkL 126 := ⟨_, _, _, rfl, by decide, lw_m2 50 rfl rfl, rfl, rfl, by decide⟩
set_option maxRecDepth 20000 in
theorem okL_127 : OkL 127 := ⟨_, _, _, rfl, by decide, lw_m2 59 rfl rfl, rfl, rfl, by decide⟩
set_option maxRecDepth 20000 in
theorem okL_128 : OkL 128 := ⟨_, _, rfl, lw_m2 41 rfl rfl⟩
set_option maxRecDepth 20000 in
theorem okL_129 : OkL 129 := ⟨by decide, rfl, rfl, Or.inl ⟨rfl, lw_m2 42 rfl rfl⟩⟩
set_option maxRecDepth 20000 in
theorem okL_130 : OkL 130 := ⟨by decide, rfl, rfl, lw_m3 185 rfl rfl, ⟨_, rfl, rfl⟩⟩
set_option maxRecDepth 20000 in
theorem okL_131 : OkL 131 := ⟨_, _, _, rfl, by decide, lw_m1 49 rfl rfl, rfl, rfl, by decide⟩
set_option maxRecDepth 20000 in
theorem okL_132 : OkL 132 := ⟨by decide, rfl, rfl, lw_m3 198 rfl rfl, ⟨_, rfl, rfl⟩⟩
set_option maxRecDepth 20000 in
theorem okL_133 : OkL 133 := ⟨by decide, rfl, rfl, lw_m3 203 rfl rfl, ⟨_, rfl, rfl⟩⟩
set_option maxRecDepth 20000 in
theorem okL_134 : OkL 134 := ⟨_, _, _, rfl, by decide, lw_m1 90 rfl rfl, rfl, rfl, by decide⟩
set_option maxRecDepth 20000 in
theorem okL_135 : OkL 135 := ⟨by decide, rfl, rfl, lw_m3 211 rfl rfl, ⟨_, rfl, rfl⟩⟩
set_option maxRecDepth 20000 in
theorem okL_136 : OkL 136 := ⟨by decide, rfl, rfl, lw_m2 182 rfl rfl, ⟨_, rfl, rfl⟩⟩
set_option maxRecDepth 20000 in
theorem okL_137 : OkL 137 := ⟨by decide, by decide, lw_m2 194 rfl rfl⟩
set_option maxRecDepth 20000 in
theorem okL_138 : OkL 138 := ⟨by decide, rfl, rfl, lw_m2 196 rfl rfl, ⟨_, rfl, rfl⟩⟩
set_option maxRecDepth 20000 in
theorem okL_139 : OkL 139 := lw_m1 132 rfl rfl
set_option maxRecDepth 20000 in
theorem okL_140 : OkL 140 := ⟨_, _, _, rfl, by decide, lw_m1 135 rfl rfl, rfl, rfl, by decide⟩
set_option maxRecDepth 20000 in
theorem okL_141 : OkL 141 := ⟨_, _, _, rfl, by decide, lw_m1 133 rfl rfl, rfl, rfl, by decide⟩
set_option maxRecDepth 20000 in
theorem okL_142 : OkL 142 := ⟨_, _, _, rfl, by decide, lw_m1 134 rfl rfl, rfl, rfl, by decide⟩
set_option maxRecDepth 20000 in
theorem okL_143 : OkL 143 := ⟨by decide, by decide, lw_m2 186 rfl rfl⟩
set_option maxRecDepth 20000 in
theorem okL_144 : OkL 144 := ⟨by decide, rfl, rfl, Or.inl ⟨rfl, lw_m2 188 rfl rfl⟩⟩
set_option maxRecDepth 20000 in
theorem okL_145 : OkL 145 := ⟨_, _, _, rfl, by decide, lw_m1 79 rfl rfl, rfl, rfl, by decide⟩
set_option maxRecDepth 20000 in
theorem okL_146 : OkL 146 := ⟨_, _, _, rfl, by decide, lw_m1 42 rfl rfl, rfl, rfl, by decide⟩
set_option maxRecDepth 20000 in
theorem okL_147 : OkL 147 := ⟨_, _, _, rfl, by decide, lw_m1 84 rfl rfl, rfl, rfl, by decide⟩
set_option maxRecDepth 20000 in
theorem okL_148 : OkL 148 := ⟨by decide, rfl, rfl, Or.inl ⟨rfl, lw_m2 191 rfl rfl⟩⟩
set_option maxRecDepth 20000 in
theorem okL_149 : OkL 149 := ⟨by decide, rfl, rfl, Or.inl ⟨rfl, lw_m2 200 rfl rfl⟩⟩
set_option maxRecDepth 20000 in
theorem okL_150 : OkL 150 := ⟨by decide, rfl, rfl, lw_m2 214 rfl rfl, ⟨_, rfl, rfl⟩⟩
set_option maxRecDepth 20000 in
theorem okL_151 : OkL 151 := ⟨_, _, _, rfl, by decide, lw_m1 112 rfl rfl, rfl, rfl, by decide⟩
set_option maxRecDepth 20000 in
theorem okL_152 : OkL 152 := ⟨by decide, rfl, rfl, lw_m2 218 rfl rfl, ⟨_, rfl, rfl⟩⟩
set_option maxRecDepth 20000 in
theorem okL_153 : OkL 153 := ⟨by decide, rfl, rfl, lw_m2 223 rfl rfl, ⟨_, rfl, rfl⟩⟩
set_option maxRecDepth 20000 in
theorem okL_154 : OkL 154 := ⟨by decide, rfl, rfl, lw_m2 206 rfl rfl, ⟨_, rfl, rfl⟩⟩
set_option maxRecDepth 20000 in
theorem okL_155 : OkL 155 := ⟨_, _, _, rfl, by decide, lw_m2 4 rfl rfl, rfl, rfl, by decide⟩
set_option maxRecDepth 20000 in
theorem okL_156 : OkL 156 := ⟨_, _, _, rfl, by decide, lw_m2 6 rfl rfl, rfl, rfl, by decide⟩
set_option maxRecDepth 20000 in
theorem okL_157 : OkL 157 := ⟨_, _, _, rfl, by decide, lw_m2 8 rfl rfl, rfl, rfl, by decide⟩
set_option maxRecDepth 20000 in
theorem okL_158 : OkL 158 := ⟨_, _, _, rfl, by decide, lw_m2 3 rfl rfl, rfl, rfl, by decide⟩
set_option maxRecDepth 20000 in
theorem okL_159 : OkL 159 := lw_m1 226 rfl rfl
set_option maxRecDepth 20000 in
theorem okL_160 : OkL 160 := ⟨_, _, _, rfl, by decide, lw_m1 227 rfl rfl, rfl, rfl, by decide⟩
set_option maxRecDepth 20000 in
theorem okL_161 : OkL 161 := ⟨_, _, _, rfl, by decide, lw_m1 229 rfl rfl, rfl, rfl, by decide⟩
set_option maxRecDepth 20000 in
theorem okL_162 : OkL 162 := ⟨_, _, _, rfl, by decide, lw_m1 231 rfl rfl, rfl, rfl, by decide⟩
set_option maxRecDepth 20000 in
theorem okL_163 : OkL 163 := ⟨_, _, _, rfl, by decide, lw_m1 233 rfl rfl, rfl, rfl, by decide⟩
set_option maxRecDepth 20000 in
theorem okL_164 : OkL 164 := ⟨_, _, _, rfl, by decide, lw_m1 235 rfl rfl, rfl, rfl, by decide⟩
set_option maxRecDepth 20000 in
theorem okL_165 : OkL 165 := ⟨_, _, _, rfl, by decide, lw_m1 237 rfl rfl, rfl, rfl, by decide⟩
set_option maxRecDepth 20000 in
theorem okL_166 : OkL 166 := ⟨_, _, _, rfl, by decide, lw_m1 239 rfl rfl, rfl, rfl, by decide⟩
set_option maxRecDepth 20000 in
theorem okL_167 : OkL 167 := ⟨_, _, _, rfl, by decide, lw_m2 1 rfl rfl, rfl, rfl, by decide⟩
set_option maxRecDepth 20000 in
theorem okL_168 : OkL 168 := ⟨by decide, by decide, lw_m3 24 rfl rfl⟩
set_option maxRecDepth 20000 in
theorem okL_169 : OkL 169 := ⟨lw_m3 26 rfl rfl, lw_m3 27 rfl rfl, lw_m1 13 rfl rfl, lw_m3 28 rfl rfl⟩
set_option maxRecDepth 20000 in
theorem okL_170 : OkL 170 := ⟨by decide, rfl, rfl, Or.inl ⟨rfl, lw_m2 154 rfl rfl⟩⟩
set_option maxRecDepth 20000 in
theorem okL_171 : OkL 171 := ⟨_, _, _, rfl, by decide, lw_m2 117 rfl rfl, rfl, rfl, by decide⟩
set_option maxRecDepth 20000 in
theorem okL_172 : OkL 172 := ⟨_, _, _, rfl, by decide, lw_m1 78 rfl rfl, rfl, rfl, by decide⟩
set_option maxRecDepth 20000 in
theorem okL_173 : OkL 173 := ⟨_, _, _, rfl, by decide, lw_m2 118 rfl rfl, rfl, rfl, by decide⟩
set_option maxRecDepth 20000 in
theorem okL_174 : OkL 174 := ⟨_, _, _, rfl, by decide, lw_m2 116 rfl rfl, rfl, rfl, by decide⟩
set_option maxRecDepth 20000 in
theorem okL_175 : OkL 175 := ⟨by decide, rfl, rfl, Or.inl ⟨rfl, lw_m3 107 rfl rfl⟩⟩
set_option maxRecDepth 20000 in
theorem okL_176 : OkL 176 := ⟨_, _, _, rfl, by decide, lw_m2 120 rfl rfl, rfl, rfl, by decide⟩
set_option maxRecDepth 20000 in
theorem okL_177 : OkL 177 := ⟨by decide, rfl, rfl, lw_m3 144 rfl rfl, ⟨_, rfl, rfl⟩⟩
set_option maxRecDepth 20000 in
theorem okL_178 : OkL 178 := ⟨by decide, rfl, rfl, lw_m3 145 rfl rfl, ⟨_, rfl, rfl⟩⟩
set_option maxRecDepth 20000 in
theorem okL_179 : OkL 179 := ⟨_, _, _, rfl, by decide, lw_m2 121 rfl rfl, rfl, rfl, by decide⟩
set_option maxRecDepth 20000 in
theorem okL_180 : OkL 180 := ⟨_, _, _, rfl, by decide, lw_m2 124 rfl rfl, rfl, rfl, by decide⟩
set_option maxRecDepth 20000 in
theorem okL_181 : OkL 181 := ⟨_, _, _, rfl, by decide, lw_m2 125 rfl rfl, rfl, rfl, by decide⟩
set_option maxRecDepth 20000 in
theorem okL_182 : OkL 182 := ⟨by decide, rfl, rfl, lw_m3 149 rfl rfl, ⟨_, rfl, rfl⟩⟩
set_option maxRecDepth 20000 in
theorem okL_183 : OkL 183 := ⟨_, _, _, rfl, by decide, lw_m2 122 rfl rfl, rfl, rfl, by decide⟩
set_option maxRecDepth 20000 in
theorem okL_184 : OkL 184 := ⟨_, _, _, rfl, by decide, lw_m1 228 rfl rfl, rfl, rfl, by decide⟩
set_option maxRecDepth 20000 in
theorem okL_185 : OkL 185 := ⟨_, _, _, rfl, by decide, lw_m2 2 rfl rfl, rfl, rfl, by decide⟩
set_option maxRecDepth 20000 in
theorem okL_186 : OkL 186 := ⟨_, _, _, rfl, by decide, lw_m1 238 rfl rfl, rfl, rfl, by decide⟩
set_option maxRecDepth 20000 in
theorem okL_187 : OkL 187 := ⟨_, _, _, rfl, by decide, lw_m2 0 rfl rfl, rfl, rfl, by decide⟩
set_option maxRecDepth 20000 in
theorem okL_188 : OkL 188 := ⟨_, _, _, rfl, by decide, lw_m1 230 rfl rfl, rfl, rfl, by decide⟩
set_option maxRecDepth 20000 in
theorem okL_189 : OkL 189 := ⟨_, _, _, rfl, by decide, lw_m1 232 rfl rfl, rfl, rfl, by decide⟩
set_option maxRecDepth 20000 in
theorem okL_190 : OkL 190 := ⟨by decide, rfl, rfl, lw_m2 90 rfl rfl, ⟨_, rfl, rfl⟩⟩
set_option maxRecDepth 20000 in
theorem okL_191 : OkL 191 := ⟨by decide, rfl, rfl, lw_m3 116 rfl rfl, ⟨_, rfl, rfl⟩⟩
set_option maxRecDepth 20000 in
theorem okL_192 : OkL 192 := ⟨_, _, _, rfl, by decide, lw_m1 236 rfl rfl, rfl, rfl, by decide⟩
set_option maxRecDepth 20000 in
theorem okL_193 : OkL 193 := ⟨_, _, _, rfl, by decide, lw_m1 234 rfl rfl, rfl, rfl, by decide⟩
set_option maxRecDepth 20000 in
theorem okL_194 : OkL 194 := ⟨by decide, rfl, rfl, lw_m3 124 rfl rfl, ⟨_, rfl, rfl⟩⟩
set_option maxRecDepth 20000 in
theorem okL_195 : OkL 195 := ⟨_, _, _, rfl, by decide, lw_m2 126 rfl rfl, rfl, rfl, by decide⟩
set_option maxRecDepth 20000 in
theorem okL_196 : OkL 196 := ⟨by decide, rfl, rfl, lw_m2 166 rfl rfl, ⟨_, rfl, rfl⟩⟩
set_option maxRecDepth 20000 in
theorem okL_197 : OkL 197 := lw_m1 19 rfl rfl
set_option maxRecDepth 20000 in
theorem okL_198 : OkL 198 := ⟨_, _, rfl, lw_m1 22 rfl rfl⟩
set_option maxRecDepth 20000 in
theorem okL_199 : OkL 199 := ⟨by decide, rfl, rfl, Or.inl ⟨rfl, lw_m1 24 rfl rfl⟩⟩
set_option maxRecDepth 20000 in
theorem okL_200 : OkL 200 := ⟨_, _, rfl, lw_m1 67 rfl rfl⟩
set_option maxRecDepth 20000 in
theorem okL_201 : OkL 201 := ⟨by decide, rfl, rfl, Or.inl ⟨rfl, lw_m1 69 rfl rfl⟩⟩
set_option maxRecDepth 20000 in
theorem okL_202 : OkL 202 := ⟨_, _, rfl, lw_m1 102 rfl rfl⟩
set_option maxRecDepth 20000 in
theorem okL_203 : OkL 203 := ⟨by decide, rfl, rfl, Or.inl ⟨rfl, lw_m1 104 rfl rfl⟩⟩
set_option maxRecDepth 20000 in
theorem okL_204 : OkL 204 := ⟨_, _, _, rfl, by decide, lw_m2 119 rfl rfl, rfl, rfl, by decide⟩
set_option maxRecDepth 20000 in
theorem okL_205 : OkL 205 := ⟨_, _, rfl, lw_m1 121 rfl rfl⟩
set_option maxRecDepth 20000 in
theorem okL_206 : OkL 206 := ⟨by decide, rfl, rfl, Or.inl ⟨rfl, lw_m1 123 rfl rfl⟩⟩
set_option maxRecDepth 20000 in
theorem okL_207 : OkL 207 := ⟨_, _, rfl, lw_m1 161 rfl rfl⟩
set_option maxRecDepth 20000 in
theorem okL_208 : OkL 208 := ⟨by decide, rfl, rfl, Or.inl ⟨rfl, lw_m1 163 rfl rfl⟩⟩
set_option maxRecDepth 20000 in
theorem okL_209 : OkL 209 := ⟨_, _, rfl, lw_m1 221 rfl rfl⟩
set_option maxRecDepth 20000 in
theorem okL_210 : OkL 210 := ⟨by decide, rfl, rfl, Or.inr ⟨rfl, List.mem_of_getElem? (i := 6) rfl⟩⟩
set_option maxRecDepth 20000 in
theorem okL_211 : OkL 211 := ⟨_, _, rfl, lw_m2 35 rfl rfl⟩
set_option maxRecDepth 20000 in
theorem okL_212 : OkL 212 := ⟨by decide, rfl, rfl, Or.inl ⟨rfl, lw_m2 37 rfl rfl⟩⟩
set_option maxRecDepth 20000 in
theorem okL_213 : OkL 213 := ⟨_, _, _, rfl, by decide, lw_m2 123 rfl rfl, rfl, rfl, by decide⟩
set_option maxRecDepth 20000 in
theorem okL_214 : OkL 214 := ⟨by decide, rfl, rfl, lw_m3 132 rfl rfl, ⟨_, rfl, rfl⟩⟩
set_option maxRecDepth 20000 in
theorem okL_215 : OkL 215 := ⟨by decide, rfl, rfl, Or.inl ⟨rfl, lw_m3 6 rfl rfl⟩⟩
set_option maxRecDepth 20000 in
theorem okL_216 : OkL 216 := ⟨_, _, _, rfl, by decide, lw_m2 5 rfl rfl, rfl, rfl, by decide⟩
set_option maxRecDepth 20000 in
theorem okL_217 : OkL 217 := ⟨by decide, rfl, rfl, lw_m3 154 rfl rfl, ⟨_, rfl, rfl⟩⟩
set_option maxRecDepth 20000 in
theorem okL_218 : OkL 218 := lw_m2 161 rfl rfl
set_option maxRecDepth 20000 in
theorem okL_219 : OkL 219 := ⟨by decide, rfl, rfl, lw_m3 162 rfl rfl, ⟨_, rfl, rfl⟩⟩
set_option maxRecDepth 20000 in
theorem okL_220 : OkL 220 := ⟨_, _, _, rfl, by decide, lw_m2 54 rfl rfl, rfl, rfl, by decide⟩
set_option maxRecDepth 20000 in
theorem okL_221 : OkL 221 := ⟨by decide, rfl, rfl, lw_m3 207 rfl rfl, ⟨_, rfl, rfl⟩⟩
set_option maxRecDepth 20000 in
theorem okL_222 : OkL 222 := ⟨_, _, _, rfl, by decide, lw_m2 58 rfl rfl, rfl, rfl, by decide⟩
set_option maxRecDepth 20000 in
theorem okL_223 : OkL 223 := ⟨_, _, _, rfl, by decide, lw_m2 56 rfl rfl, rfl, rfl, by decide⟩
set_option maxRecDepth 20000 in
theorem okL_224 : OkL 224 := ⟨_, _, _, rfl, by decide, lw_m2 60 rfl rfl, rfl, rfl, by decide⟩
set_option maxRecDepth 20000 in
theorem okL_225 : OkL 225 := ⟨by decide, rfl, rfl, lw_m2 94 rfl rfl, ⟨_, rfl, rfl⟩⟩
set_option maxRecDepth 20000 in
theorem okL_226 : OkL 226 := ⟨by decide, rfl, rfl, lw_m2 108 rfl rfl, ⟨_, rfl, rfl⟩⟩
set_option maxRecDepth 20000 in
theorem okL_227 : OkL 227 := ⟨by decide, rfl, rfl, lw_m2 112 rfl rfl, ⟨_, rfl, rfl⟩⟩
set_option maxRecDepth 20000 in
theorem okL_228 : OkL 228 := ⟨by decide, rfl, rfl, lw_m2 170 rfl rfl, ⟨_, rfl, rfl⟩⟩
set_option maxRecDepth 20000 in
theorem okL_229 : OkL 229 := ⟨_, _, _, rfl, by decide, lw_m1 147 rfl rfl, rfl, rfl, by decide⟩
set_option maxRecDepth 20000 in
theorem okL_230 : OkL 230 := ⟨_, _, _, rfl, by decide, lw_m1 149 rfl rfl, rfl, rfl, by decide⟩
set_option maxRecDepth 20000 in
theorem okL_231 : OkL 231 := ⟨_, _, _, rfl, by decide, lw_m1 89 rfl rfl, rfl, rfl, by decide⟩
set_option maxRecDepth 20000 in
theorem okL_232 : OkL 232 := ⟨by decide, rfl, rfl, lw_m3 20 rfl rfl, ⟨_, rfl, rfl⟩⟩
set_option maxRecDepth 20000 in
theorem okL_233 : OkL 233 := ⟨by decide, rfl, rfl, lw_m3 29 rfl rfl, ⟨_, rfl, rfl⟩⟩
set_option maxRecDepth 20000 in
theorem okL_234 : OkL 234 := ⟨by decide, rfl, rfl, lw_m3 41 rfl rfl, ⟨_, rfl, rfl⟩⟩
set_option maxRecDepth 20000 in
theorem okL_235 : OkL 235 := ⟨_, _, _, rfl, by decide, lw_m1 185 rfl rfl, rfl, rfl, by decide⟩
set_option maxRecDepth 20000 in
theorem okL_236 : OkL 236 := ⟨_, _, _, rfl, by decide, lw_m1 183 rfl rfl, rfl, rfl, by decide⟩
set_option maxRecDepth 20000 in
theorem okL_237 : OkL 237 := ⟨by decide, rfl, rfl, lw_m3 99 rfl rfl, ⟨_, rfl, rfl⟩⟩
set_option maxRecDepth 20000 in
theorem okL_238 : OkL 238 := ⟨_, _, _, rfl, by decide, lw_m2 7 rfl rfl, rfl, rfl, by decide⟩
set_option maxRecDepth 20000 in
theorem okL_239 : OkL 239 := ⟨_, _, _, rfl, by decide, lw_m2 9 rfl rfl, rfl, rfl, by decide⟩
set_option maxRecDepth 20000 in
theorem okL_240 : OkL 240 := ⟨by decide, rfl, rfl, Or.inl ⟨rfl, lw_m4 164 rfl rfl⟩⟩
set_option maxRecDepth 20000 in
theorem okL_241 : OkL 241 := ⟨_, _, _, rfl, by decide, lw_m3 234 rfl rfl, rfl, rfl, by decide⟩
set_option maxRecDepth 20000 in
theorem okL_242 : OkL 242 := ⟨_, _, _, rfl, by decide, lw_m3 233 rfl rfl, rfl, rfl, by decide⟩
set_option maxRecDepth 20000 in
theorem okL_243 : OkL 243 := ⟨_, _, _, rfl, by decide, lw_m3 235 rfl rfl, rfl, rfl, by decide⟩
set_option maxRecDepth 20000 in
theorem okL_244 : OkL 244 := ⟨_, _, _, rfl, by decide, lw_m3 236 rfl rfl, rfl, rfl, by decide⟩
set_option maxRecDepth 20000 in
theorem okL_245 : OkL 245 := ⟨_, _, _, rfl, by decide, lw_m4 15 rfl rfl, rfl, rfl, by decide⟩
set_option maxRecDepth 20000 in
theorem okL_246 : OkL 246 := ⟨_, _, _, rfl, by decide, lw_m4 16 rfl rfl, rfl, rfl, by decide⟩
set_option maxRecDepth 20000 in
theorem okL_247 : OkL 247 := ⟨_, _, _, rfl, by decide, lw_m4 17 rfl rfl, rfl, rfl, by decide⟩
set_option maxRecDepth 20000 in
theorem okL_248 : OkL 248 := ⟨_, _, _, rfl, by decide, lw_m4 18 rfl rfl, rfl, rfl, by decide⟩
set_option maxRecDepth 20000 in
theorem okL_249 : OkL 249 := ⟨_, _, _, rfl, by decide, lw_m4 19 rfl rfl, rfl, rfl, by decide⟩
set_option maxRecDepth 20000 in
theorem okL_250 : OkL 250 := ⟨_, _, _, rfl, by decide, lw_m4 24 rfl rfl, rfl, rfl, by decide⟩
set_option maxRecDepth 20000 in
theorem okL_251 : OkL 251 := ⟨_, _, _, rfl, by decide, lw_m4 30 rfl rfl, rfl, rfl, by decide⟩
set_option maxRecDepth 20000 in
theorem okL_252 : OkL 252 := ⟨_, _, _, rfl, by decide, lw_m4 31 rfl rfl, rfl, rfl, by decide⟩
set_option maxRecDepth 20000 in
theorem okL_253 : OkL 253 := ⟨_, _, _, rfl, by decide, lw_m4 33 rfl rfl, rfl, rfl, by decide⟩
set_option maxRecDepth 20000 in
theorem okL_254 : OkL 254 := ⟨_, _, _, rfl, by decide, lw_m4 34 rfl rfl, rfl, rfl, by decide⟩
set_option maxRecDepth 20000 in
theorem okL_255 : OkL 255 := ⟨_, _, _, rfl, by decide, lw_m4 32 rfl rfl, rfl, rfl, by decide⟩
set_option maxRecDepth 20000 in
theorem okL_256 : OkL 256 := ⟨by decide, rfl, rfl, lw_m4 153 rfl rfl, ⟨_, rfl, rfl⟩⟩
set_option maxRecDepth 20000 in
theorem okL_257 : OkL 257 := ⟨by decide, rfl, rfl, Or.inl ⟨rfl, lw_m5 6 rfl rfl⟩⟩
set_option maxRecDepth 20000 in
theorem okL_258 : OkL 258 := ⟨by decide, rfl, rfl, Or.inl ⟨rfl, lw_m5 0 rfl rfl⟩⟩
set_option maxRecDepth 20000 in
theorem okL_259 : OkL 259 := ⟨_, _, _, rfl, by decide, lw_m3 237 rfl rfl, rfl, rfl, by decide⟩
set_option maxRecDepth 20000 in
theorem okL_260 : OkL 260 := ⟨by decide, rfl, rfl, lw_m4 206 rfl rfl, ⟨_, rfl, rfl⟩⟩
set_option maxRecDepth 20000 in
theorem okL_261 : OkL 261 := ⟨by decide, rfl, rfl, Or.inl ⟨rfl, lw_m4 125 rfl rfl⟩⟩
set_option maxRecDepth 20000 in
theorem okL_262 : OkL 262 := ⟨by decide, rfl, rfl, lw_m4 229 rfl rfl, ⟨_, rfl, rfl⟩⟩
set_option maxRecDepth 20000 in
theorem okL_263 : OkL 263 := ⟨_, _, _, rfl, by decide, lw_m4 1 rfl rfl, rfl, rfl, by decide⟩
set_option maxRecDepth 20000 in
theorem okL_264 : OkL 264 := ⟨_, _, _, rfl, by decide, lw_m4 0 rfl rfl, rfl, rfl, by decide⟩
set_option maxRecDepth 20000 in
theorem okL_265 : OkL 265 := ⟨_, _, _, rfl, by decide, lw_m4 2 rfl rfl, rfl, rfl, by decide⟩
set_option maxRecDepth 20000 in
theorem okL_266 : OkL 266 := ⟨by decide, rfl, rfl, lw_m5 9 rfl rfl, ⟨_, rfl, rfl⟩⟩
set_option maxRecDepth 20000 in
theorem okL_267 : OkL 267 := ⟨by decide, rfl, rfl, Or.inl ⟨rfl, lw_m5 3 rfl rfl⟩⟩
set_option maxRecDepth 20000 in
theorem okL_268 : OkL 268 := ⟨_, _, _, rfl, by decide, lw_m4 3 rfl rfl, rfl, rfl, by decide⟩
set_option maxRecDepth 20000 in
theorem okL_269 : OkL 269 := ⟨_, _, _, rfl, by decide, lw_m3 238 rfl rfl, rfl, rfl, by decide⟩
set_option maxRecDepth 20000 in
theorem okL_270 : OkL 270 := ⟨by decide, rfl, rfl, lw_m5 13 rfl rfl, ⟨_, rfl, rfl⟩⟩
set_option maxRecDepth 20000 in
theorem okL_271 : OkL 271 := ⟨_, _, _, rfl, by decide, lw_m3 239 rfl rfl, rfl, rfl, by decide⟩
set_option maxRecDepth 20000 in
theorem okL_272 : OkL 272 := ⟨by decide, rfl, rfl, Or.inl ⟨rfl, lw_m5 17 rfl rfl⟩⟩
set_option maxRecDepth 20000 in
theorem okL_273 : OkL 273 := ⟨by decide, rfl, rfl, lw_m5 20 rfl rfl, ⟨_, rfl, rfl⟩⟩
set_option maxRecDepth 20000 in
theorem okL_274 : OkL 274 := ⟨_, _, _, rfl, by decide, lw_m4 23 rfl rfl, rfl, rfl, by decide⟩
set_option maxRecDepth 20000 in
theorem okL_275 : OkL 275 := ⟨by decide, rfl, rfl, lw_m5 24 rfl rfl, ⟨_, rfl, rfl⟩⟩
set_option maxRecDepth 20000 in
theorem okL_276 : OkL 276 := ⟨by decide, rfl, rfl, lw_m4 149 rfl rfl, ⟨_, rfl, rfl⟩⟩
set_option maxRecDepth 20000 in
theorem okL_277 : OkL 277 := ⟨by decide, rfl, rfl, lw_m4 218 rfl rfl, ⟨_, rfl, rfl⟩⟩
set_option maxRecDepth 20000 in
theorem okL_278 : OkL 278 := ⟨by decide, rfl, rfl, Or.inl ⟨rfl, lw_m4 171 rfl rfl⟩⟩
set_option maxRecDepth 20000 in
theorem okL_279 : OkL 279 := ⟨by decide, rfl, rfl, Or.inl ⟨rfl, lw_m4 174 rfl rfl⟩⟩
set_option maxRecDepth 20000 in
theorem okL_280 : OkL 280 := ⟨by decide, rfl, rfl, Or.inl ⟨rfl, lw_m4 184 rfl rfl⟩⟩
set_option maxRecDepth 20000 in
theorem okL_281 : OkL 281 := ⟨_, _, _, rfl, by decide, lw_m4 28 rfl rfl, rfl, rfl, by decide⟩
set_option maxRecDepth 20000 in
theorem okL_282 : OkL 282 := ⟨by decide, rfl, rfl, lw_m4 145 rfl rfl, ⟨_, rfl, rfl⟩⟩
set_option maxRecDepth 20000 in
theorem okL_283 : OkL 283 := ⟨by decide, rfl, rfl, Or.inl ⟨rfl, lw_m4 191 rfl rfl⟩⟩
set_option maxRecDepth 20000 in
theorem okL_284 : OkL 284 := ⟨by decide, rfl, rfl, Or.inl ⟨rfl, lw_m4 177 rfl rfl⟩⟩
set_option maxRecDepth 20000 in
theorem okL_285 : OkL 285 := ⟨_, _, _, rfl, by decide, lw_m4 20 rfl rfl, rfl, rfl, by decide⟩
set_option maxRecDepth 20000 in
theorem okL_286 : OkL 286 := ⟨_, _, _, rfl, by decide, lw_m4 21 rfl rfl, rfl, rfl, by decide⟩
set_option maxRecDepth 20000 in
theorem okL_287 : OkL 287 := ⟨_, _, _, rfl, by decide, lw_m4 22 rfl rfl, rfl, rfl, by decide⟩
set_option maxRecDepth 20000 in
theorem okL_288 : OkL 288 := ⟨by decide, rfl, rfl, lw_m3 229 rfl rfl, ⟨_, rfl, rfl⟩⟩
set_option maxRecDepth 20000 in
theorem okL_289 : OkL 289 := ⟨_, _, _, rfl, by decide, lw_m4 10 rfl rfl, rfl, rfl, by decide⟩
set_option maxRecDepth 20000 in
theorem okL_290 : OkL 290 := ⟨_, _, _, rfl, by decide, lw_m4 13 rfl rfl, rfl, rfl, by decide⟩
set_option maxRecDepth 20000 in
theorem okL_291 : OkL 291 := ⟨_, _, _, rfl, by decide, lw_m4 11 rfl rfl, rfl, rfl, by decide⟩
set_option maxRecDepth 20000 in
theorem okL_292 : OkL 292 := ⟨by decide, rfl, rfl, lw_m4 137 rfl rfl, ⟨_, rfl, rfl⟩⟩
set_option maxRecDepth 20000 in
theorem okL_293 : OkL 293 := ⟨_, _, _, rfl, by decide, lw_m4 4 rfl rfl, rfl, rfl, by decide⟩
set_option maxRecDepth 20000 in
theorem okL_294 : OkL 294 := lw_m3 228 rfl rfl
set_option maxRecDepth 20000 in
theorem okL_295 : OkL 295 := ⟨_, _, _, rfl, by decide, lw_m4 5 rfl rfl, rfl, rfl, by decide⟩
set_option maxRecDepth 20000 in
theorem okL_296 : OkL 296 := ⟨_, _, _, rfl, by decide, lw_m4 6 rfl rfl, rfl, rfl, by decide⟩
set_option maxRecDepth 20000 in
theorem okL_297 : OkL 297 := ⟨_, _, _, rfl, by decide, lw_m4 7 rfl rfl, rfl, rfl, by decide⟩
set_option maxRecDepth 20000 in
theorem okL_298 : OkL 298 := ⟨_, _, _, rfl, by decide, lw_m4 8 rfl rfl, rfl, rfl, by decide⟩
set_option maxRecDepth 20000 in
theorem okL_299 : OkL 299 := ⟨_, _, _, rfl, by decide, lw_m4 9 rfl rfl, rfl, rfl, by decide⟩
set_option maxRecDepth 20000 in
theorem okL_300 : OkL 300 := ⟨_, _, _, rfl, by decide, lw_m4 12 rfl rfl, rfl, rfl, by decide⟩
set_option maxRecDepth 20000 in
theorem okL_301 : OkL 301 := ⟨_, _, _, rfl, by decide, lw_m4 14 rfl rfl, rfl, rfl, by decide⟩
set_option maxRecDepth 20000 in
theorem okL_302 : OkL 302 := ⟨_, _, _, rfl, by decide, lw_m4 25 rfl rfl, rfl, rfl, by decide⟩
set_option maxRecDepth 20000 in
theorem okL_303 : OkL 303 := ⟨_, _, _, rfl, by decide, lw_m4 26 rfl rfl, rfl, rfl, by decide⟩
set_option maxRecDepth 20000 in
theorem okL_304 : OkL 304 := ⟨_, _, _, rfl, by decide, lw_m4 27 rfl rfl, rfl, rfl, by decide⟩
set_option maxRecDepth 20000 in
theorem okL_305 : OkL 305 := ⟨_, _, _, rfl, by decide, lw_m4 29 rfl rfl, rfl, rfl, by decide⟩
set_option maxRecDepth 20000 in
theorem okL_306 : OkL 306 := ⟨by decide, rfl, rfl, lw_m4 157 rfl rfl, ⟨_, rfl, rfl⟩⟩
set_option maxRecDepth 20000 in
theorem okL_307 : OkL 307 := ⟨by decide, rfl, rfl, lw_m4 167 rfl rfl, ⟨_, rfl, rfl⟩⟩
set_option maxRecDepth 20000 in
theorem okL_308 : OkL 308 := ⟨by decide, rfl, rfl, lw_m4 180 rfl rfl, ⟨_, rfl, rfl⟩⟩
set_option maxRecDepth 20000 in
theorem okL_309 : OkL 309 := ⟨by decide, rfl, rfl, lw_m4 187 rfl rfl, ⟨_, rfl, rfl⟩⟩
set_option maxRecDepth 20000 in
theorem okL_310 : OkL 310 := ⟨by decide, rfl, rfl, lw_m4 194 rfl rfl, ⟨_, rfl, rfl⟩⟩
set_option maxRecDepth 20000 in
theorem okL_311 : OkL 311 := ⟨by decide, rfl, rfl, lw_m4 198 rfl rfl, ⟨_, rfl, rfl⟩⟩
set_option maxRecDepth 20000 in
theorem okL_312 : OkL 312 := ⟨by decide, rfl, rfl, lw_m4 202 rfl rfl, ⟨_, rfl, rfl⟩⟩
set_option maxRecDepth 20000 in
theorem okL_313 : OkL 313 := ⟨by decide, rfl, rfl, Or.inl ⟨rfl, lw_m4 233 rfl rfl⟩⟩
set_option maxRecDepth 20000 in
theorem okL_314 : OkL 314 := ⟨by decide, rfl, rfl, Or.inl ⟨rfl, lw_m4 161 rfl rfl⟩⟩
set_option maxRecDepth 20000 in
theorem okL_315 : OkL 315 := ⟨by decide, rfl, rfl, lw_m4 236 rfl rfl, ⟨_, rfl, rfl⟩⟩
set_option maxRecDepth 20000 in
theorem okL_316 : OkL 316 := ⟨by decide, rfl, rfl, lw_m5 68 rfl rfl, ⟨_, rfl, rfl⟩⟩
set_option maxRecDepth 20000 in
theorem okL_317 : OkL 317 := ⟨by decide, rfl, rfl, lw_m5 72 rfl rfl, ⟨_, rfl, rfl⟩⟩
set_option maxRecDepth 20000 in
theorem okL_318 : OkL 318 := lw_m4 132 rfl rfl
set_option maxRecDepth 20000 in
theorem okL_319 : OkL 319 := ⟨by decide, rfl, rfl, lw_m5 64 rfl rfl, ⟨_, rfl, rfl⟩⟩
set_option maxRecDepth 20000 in
theorem okL_320 : OkL 320 := ⟨by decide, rfl, rfl, lw_m5 76 rfl rfl, ⟨_, rfl, rfl⟩⟩
set_option maxRecDepth 20000 in
theorem okL_321 : OkL 321 := ⟨by decide, rfl, rfl, lw_m4 141 rfl rfl, ⟨_, rfl, rfl⟩⟩
set_option maxRecDepth 20000 in
theorem okL_322 : OkL 322 := ⟨by decide, rfl, rfl, lw_m4 210 rfl rfl, ⟨_, rfl, rfl⟩⟩
set_option maxRecDepth 20000 in
theorem okL_323 : OkL 323 := ⟨by decide, rfl, rfl, lw_m4 214 rfl rfl, ⟨_, rfl, rfl⟩⟩
set_option maxRecDepth 20000 in
theorem okL_324 : OkL 324 := ⟨by decide, rfl, rfl, lw_m4 225 rfl rfl, ⟨_, rfl, rfl⟩⟩
set_option maxRecDepth 20000 in
theorem okL_325 : OkL 325 := ⟨by decide, rfl, rfl, Or.inl ⟨rfl, lw_m4 222 rfl rfl⟩⟩
set_option maxRecDepth 20000 in
theorem okL_326 : OkL 326 := lw_m2 203 rfl rfl
set_option maxRecDepth 20000 in
theorem okL_327 : OkL 327 := lw_m2 204 rfl rfl
set_option maxRecDepth 20000 in
theorem okL_328 : OkL 328 := lw_m2 205 rfl rfl
set_option maxRecDepth 20000 in
theorem okL_329 : OkL 329 := ⟨_, _, rfl, lw_m1 14 rfl rfl⟩
set_option maxRecDepth 20000 in
theorem okL_330 : OkL 330 := ⟨by decide, rfl, rfl, Or.inl ⟨rfl, lw_m1 16 rfl rfl⟩⟩
set_option maxRecDepth 20000 in
theorem okL_331 : OkL 331 := ⟨_, _, rfl, lw_m3 223 rfl rfl⟩
set_option maxRecDepth 20000 in
theorem okL_332 : OkL 332 := ⟨by decide, rfl, rfl, Or.inl ⟨rfl, lw_m3 225 rfl rfl⟩⟩
set_option maxRecDepth 20000 in
theorem okL_333 : OkL 333 := ⟨by decide, rfl, rfl, lw_m2 150 rfl rfl, ⟨_, rfl, rfl⟩⟩
set_option maxRecDepth 20000 in
theorem okL_334 : OkL 334 := ⟨by decide, rfl, rfl, lw_m4 121 rfl rfl, ⟨_, rfl, rfl⟩⟩
set_option maxRecDepth 20000 in
theorem okL_335 : OkL 335 := ⟨by decide, rfl, rfl, lw_m2 157 rfl rfl, ⟨_, rfl, rfl⟩⟩
set_option maxRecDepth 20000 in
theorem okL_336 : OkL 336 := ⟨by decide, rfl, rfl, lw_m4 128 rfl rfl, ⟨_, rfl, rfl⟩⟩
set_option maxRecDepth 20000 in
theorem okL_337 : OkL 337 := ⟨by decide, rfl, rfl, lw_m2 162 rfl rfl, ⟨_, rfl, rfl⟩⟩
set_option maxRecDepth 20000 in
theorem okL_338 : OkL 338 := ⟨by decide, rfl, rfl, lw_m4 133 rfl rfl, ⟨_, rfl, rfl⟩⟩
set_option maxRecDepth 20000 in
theorem okL_339 : OkL 339 := ⟨by decide, rfl, rfl, lw_m3 103 rfl rfl, ⟨_, rfl, rfl⟩⟩
set_option maxRecDepth 20000 in
theorem okL_340 : OkL 340 := ⟨by decide, rfl, rfl, lw_m5 28 rfl rfl, ⟨_, rfl, rfl⟩⟩
set_option maxRecDepth 20000 in
theorem okL_341 : OkL 341 := ⟨by decide, rfl, rfl, lw_m3 108 rfl rfl, ⟨_, rfl, rfl⟩⟩
set_option maxRecDepth 20000 in
theorem okL_342 : OkL 342 := ⟨by decide, rfl, rfl, lw_m5 32 rfl rfl, ⟨_, rfl, rfl⟩⟩
set_option maxRecDepth 20000 in
theorem okL_343 : OkL 343 := ⟨by decide, rfl, rfl, lw_m3 112 rfl rfl, ⟨_, rfl, rfl⟩⟩
set_option maxRecDepth 20000 in
theorem okL_344 : OkL 344 := ⟨by decide, rfl, rfl, lw_m5 36 rfl rfl, ⟨_, rfl, rfl⟩⟩
set_option maxRecDepth 20000 in
theorem okL_345 : OkL 345 := ⟨by decide, rfl, rfl, lw_m3 120 rfl rfl, ⟨_, rfl, rfl⟩⟩
set_option maxRecDepth 20000 in
theorem okL_346 : OkL 346 := ⟨by decide, rfl, rfl, lw_m5 40 rfl rfl, ⟨_, rfl, rfl⟩⟩
set_option maxRecDepth 20000 in
theorem okL_347 : OkL 347 := ⟨by decide, rfl, rfl, lw_m3 128 rfl rfl, ⟨_, rfl, rfl⟩⟩
set_option maxRecDepth 20000 in
theorem okL_348 : OkL 348 := ⟨by decide, rfl, rfl, lw_m5 44 rfl rfl, ⟨_, rfl, rfl⟩⟩
set_option maxRecDepth 20000 in
theorem okL_349 : OkL 349 := ⟨by decide, rfl, rfl, lw_m3 136 rfl rfl, ⟨_, rfl, rfl⟩⟩
set_option maxRecDepth 20000 in
theorem okL_350 : OkL 350 := ⟨by decide, rfl, rfl, lw_m5 48 rfl rfl, ⟨_, rfl, rfl⟩⟩
set_option maxRecDepth 20000 in
theorem okL_351 : OkL 351 := ⟨by decide, rfl, rfl, lw_m3 140 rfl rfl, ⟨_, rfl, rfl⟩⟩
set_option maxRecDepth 20000 in
theorem okL_352 : OkL 352 := ⟨by decide, rfl, rfl, lw_m5 52 rfl rfl, ⟨_, rfl, rfl⟩⟩
set_option maxRecDepth 20000 in
theorem okL_353 : OkL 353 := ⟨by decide, rfl, rfl, lw_m3 150 rfl rfl, ⟨_, rfl, rfl⟩⟩
set_option maxRecDepth 20000 in
theorem okL_354 : OkL 354 := ⟨by decide, rfl, rfl, lw_m5 56 rfl rfl, ⟨_, rfl, rfl⟩⟩
set_option maxRecDepth 20000 in
theorem okL_355 : OkL 355 := ⟨by decide, rfl, rfl, lw_m3 158 rfl rfl, ⟨_, rfl, rfl⟩⟩
set_option maxRecDepth 20000 in
theorem okL_356 : OkL 356 := ⟨by decide, rfl, rfl, lw_m5 60 rfl rfl, ⟨_, rfl, rfl⟩⟩
set_option maxRecDepth 20000 in
theorem okL_357 : OkL 357 := ⟨by decide, rfl, rfl, lw_m3 215 rfl rfl, ⟨_, rfl, rfl⟩⟩
set_option maxRecDepth 20000 in
theorem okL_358 : OkL 358 := ⟨by decide, rfl, rfl, lw_m5 80 rfl rfl, ⟨_, rfl, rfl⟩⟩
set_option maxRecDepth 20000 in
theorem okL_359 : OkL 359 := ⟨by decide, rfl, rfl, lw_m3 219 rfl rfl, ⟨_, rfl, rfl⟩⟩
set_option maxRecDepth 20000 in
theorem okL_360 : OkL 360 := ⟨by decide, rfl, rfl, lw_m5 84 rfl rfl, ⟨_, rfl, rfl⟩⟩
theorem okL_all : ∀ w, w < 361 → OkL w := by
  intro w hw
  match w, hw with
  | 0, _ => exact okL_0
  | 1, _ => exact okL_1
  | 2, _ => exact okL_2
  | 3, _ => exact okL_3
  | 4, _ => exact okL_4
  | 5, _ => exact okL_5
  | 6, _ => exact okL_6
  | 7, _ => exact okL_7
  | 8, _ => exact okL_8
  | 9, _ => exact okL_9
  | 10, _ => exact okL_10
  | 11, _ => exact okL_11
  | 12, _ => exact okL_12
  | 13, _ => exact okL_13
  | 14, _ => exact okL_14
  | 15, _ => exact okL_15
  | 16, _ => exact okL_16
  | 17, _ => exact okL_17
  | 18, _ => exact okL_18
  | 19, _ => exact okL_19
  | 20, _ => exact okL_20
  | 21, _ => exact okL_21
  | 22, _ => exact okL_22
  | 23, _ => exact okL_23
  | 24, _ => exact okL_24
  | 25, _ => exact okL_25
  | 26, _ => exact okL_26
  | 27, _ => exact okL_27
  | 28, _ => exact okL_28
  | 29, _ => exact okL_29
  | 30, _ => exact okL_30
  | 31, _ => exact okL_31
  | 32, _ => exact okL_32
  | 33, _ => exact okL_33
  | 34, _ => exact okL_34
  | 35, _ => exact okL_35
  | 36, _ => exact okL_36
  | 37, _ => exact okL_37
  | 38, _ => exact okL_38
  | 39, _ => exact okL_39
  | 40, _ => exact okL_40
  | 41, _ => exact okL_41
  | 42, _ => exact okL_42
  | 43, _ => exact okL_43
  | 44, _ => exact okL_44
  | 45, _ => exact okL_45
  | 46, _ => exact okL_46
  | 47, _ => exact okL_47
  | 48, _ => exact okL_48
  | 49, _ => exact okL_49
  | 50, _ => exact okL_50
  | 51, _ => exact okL_51
  | 52, _ => exact okL_52
  | 53, _ => exact okL_53
  | 54, _ => exact okL_54
  | 55, _ => exact okL_55
  | 56, _ => exact okL_56
  | 57, _ => exact okL_57
  | 58, _ => exact okL_58
  | 59, _ => exact okL_59
  | 60, _ => exact okL_60
  | 61, _ => exact okL_61
  | 62, _ => exact okL_62
  | 63, _ => exact okL_63
  | 64, _ => exact okL_64
  | 65, _ => exact okL_65
  | 66, _ => exact okL_66
  | 67, _ => exact okL_67
  | 68, _ => exact okL_68
  | 69, _ => exact okL_69
  | 70, _ => exact okL_70
  | 71, _ => exact okL_71
  | 72, _ => exact okL_72
  | 73, _ => exact okL_73
  | 74, _ => exact okL_74
  | 75, _ => exact okL_75
  | 76, _ => exact okL_76
  | 77, _ => exact okL_77
  | 78, _ => exact okL_78
  | 79, _ => exact okL_79
  | 80, _ => exact okL_80
  | 81, _ => exact okL_81
  | 82, _ => exact okL_82
  | 83, _ => exact okL_83
  | 84, _ => exact okL_84
  | 85, _ => exact okL_85
  | 86, _ => exact okL_86
  | 87, _ => exact okL_87
  | 88, _ => exact okL_88
  | 89, _ => exact okL_89
  | 90, _ => exact okL_90
  | 91, _ => exact okL_91
  | 92, _ => exact okL_92
  | 93, _ => exact okL_93
  | 94, _ => exact okL_94
  | 95, _ => exact okL_95
  | 96, _ => exact okL_96
  | 97, _ => exact okL_97
  | 98, _ => exact okL_98
  | 99, _ => exact okL_99
  | 100, _ => exact okL_100
  | 101, _ => exact okL_101
  | 102, _ => exact okL_102
  | 103, _ => exact okL_103
  | 104, _ => exact okL_104
  | 105, _ => exact okL_105
  | 106, _ => exact okL_106
  | 107, _ => exact okL_107
  | 108, _ => exact okL_108
  | 109, _ => exact okL_109
  | 110, _ => exact okL_110
  | 111, _ => exact okL_111
  | 112, _ => exact okL_112
  | 113, _ => exact okL_113
  | 114, _ => exact okL_114
  | 115, _ => exact okL_115
  | 116, _ => exact okL_116
  | 117, _ => exact okL_117
  | 118, _ => exact okL_118
  | 119, _ => exact okL_119
  | 120, _ => exact okL_120
  | 121, _ => exact okL_121
  | 122, _ => exact okL_122
  | 123, _ => exact okL_123
  | 124, _ => exact okL_124
  | 125, _ => exact okL_125
  | 126, _ => exact okL_126
  | 127, _ => exact okL_127
  | 128, _ => exact okL_128
  | 129, _ => exact okL_129
  | 130, _ => exact okL_130
  | 131, _ => exact okL_131
  | 132, _ => exact okL_132
  | 133, _ => exact okL_133
  | 134, _ => exact okL_134
  | 135, _ => exact okL_135
  | 136, _ => exact okL_136
  | 137, _ => exact okL_137
  | 138, _ => exact okL_138
  | 139, _ => exact okL_139
  | 140, _ => exact okL_140
  | 141, _ => exact okL_141
  | 142, _ => exact okL_142
  | 143, _ => exact okL_143
  | 144, _ => exact okL_144
  | 145, _ => exact okL_145
  | 146, _ => exact okL_146
  | 147, _ => exact okL_147
  | 148, _ => exact okL_148
  | 149, _ => exact okL_149
  | 150, _ => exact okL_150
  | 151, _ => exact okL_151
  | 152, _ => exact okL_152
  | 153, _ => exact okL_153
  | 154, _ => exact okL_154
  | 155, _ => exact okL_155
  | 156, _ => exact okL_156
  | 157, _ => exact okL_157
  | 158, _ => exact okL_158
  | 159, _ => exact okL_159
  | 160, _ => exact okL_160
  | 161, _ => exact okL_161
  | 162, _ => exact okL_162
  | 163, _ => exact okL_163
  | 164, _ => exact okL_164
  | 165, _ => exact okL_165
  | 166, _ => exact okL_166
  | 167, _ => exact okL_167
  | 168, _ => exact okL_168
  | 169, _ => exact okL_169
  | 170, _ => exact okL_170
  | 171, _ => exact okL_171
  | 172, _ => exact okL_172
  | 173, _ => exact okL_173
  | 174, _ => exact okL_174
  | 175, _ => exact okL_175
  | 176, _ => exact okL_176
  | 177, _ => exact okL_177
  | 178, _ => exact okL_178
  | 179, _ => exact okL_179
  | 180, _ => exact okL_180
  | 181, _ => exact okL_181
  | 182, _ => exact okL_182
  | 183, _ => exact okL_183
  | 184, _ => exact okL_184
  | 185, _ => exact okL_185
  | 186, _ => exact okL_186
  | 187, _ => exact okL_187
  | 188, _ => exact okL_188
  | 189, _ => exact okL_189
  | 190, _ => exact okL_190
  | 191, _ => exact okL_191
  | 192, _ => exact okL_192
  | 193, _ => exact okL_193
  | 194, _ => exact okL_194
  | 195, _ => exact okL_195
  | 196, _ => exact okL_196
  | 197, _ => exact okL_197
  | 198, _ => exact okL_198
  | 199, _ => exact okL_199
  | 200, _ => exact okL_200
  | 201, _ => exact okL_201
  | 202, _ => exact okL_202
  | 203, _ => exact okL_203
  | 204, _ => exact okL_204
  | 205, _ => exact okL_205
  | 206, _ => exact okL_206
  | 207, _ => exact okL_207
  | 208, _ => exact okL_208
  | 209, _ => exact okL_209
  | 210, _ => exact okL_210
  | 211, _ => exact okL_211
  | 212, _ => exact okL_212
  | 213, _ => exact okL_213
  | 214, _ => exact okL_214
  | 215, _ => exact okL_215
  | 216, _ => exact okL_216
  | 217, _ => exact okL_217
  | 218, _ => exact okL_218
  | 219, _ => exact okL_219
  | 220, _ => exact okL_220
  | 221, _ => exact okL_221
  | 222, _ => exact okL_222
  | 223, _ => exact okL_223
  | 224, _ => exact okL_224
  | 225, _ => exact okL_225
  | 226, _ => exact okL_226
  | 227, _ => exact okL_227
  | 228, _ => exact okL_228
  | 229, _ => exact okL_229
  | 230, _ => exact okL_230
  | 231, _ => exact okL_231
  | 232, _ => exact okL_232
  | 233, _ => exact okL_233
  | 234, _ => exact okL_234
  | 235, _ => exact okL_235
  | 236, _ => exact okL_236
  | 237, _ => exact okL_237
  | 238, _ => exact okL_238
  | 239, _ => exact okL_239
  | 240, _ => exact okL_240
  | 241, _ => exact okL_241
  | 242, _ => exact okL_242
  | 243, _ => exact okL_243
  | 244, _ => exact okL_244
  | 245, _ => exact okL_245
  | 246, _ => exact okL_246
  | 247, _ => exact okL_247
  | 248, _ => exact okL_248
  | 249, _ => exact okL_249
  | 250, _ => exact okL_250
  | 251, _ => exact okL_251
  | 252, _ => exact okL_252
  | 253, _ => exact okL_253
  | 254, _ => exact okL_254
  | 255, _ => exact okL_255
  | 256, _ => exact okL_256
  | 257, _ => exact okL_257
  | 258, _ => exact okL_258
  | 259, _ => exact okL_259
  | 260, _ => exact okL_260
  | 261, _ => exact okL_261
  | 262, _ => exact okL_262
  | 263, _ => exact okL_263
  | 264, _ => exact okL_264
  | 265, _ => exact okL_265
  | 266, _ => exact okL_266
  | 267, _ => exact okL_267
  | 268, _ => exact okL_268
  | 269, _ => exact okL_269
  | 270, _ => exact okL_270
  | 271, _ => exact okL_271
  | 272, _ => exact okL_272
  | 273, _ => exact okL_273
  | 274, _ => exact okL_274
  | 275, _ => exact okL_275
  | 276, _ => exact okL_276
  | 277, _ => exact okL_277
  | 278, _ => exact okL_278
  | 279, _ => exact okL_279
  | 280, _ => exact okL_280
  | 281, _ => exact okL_281
  | 282, _ => exact okL_282
  | 283, _ => exact okL_283
  | 284, _ => exact okL_284
  | 285, _ => exact okL_285
  | 286, _ => exact okL_286
  | 287, _ => exact okL_287
  | 288, _ => exact okL_288
  | 289, _ => exact okL_289
  | 290, _ => exact okL_290
  | 291, _ => exact okL_291
  | 292, _ => exact okL_292
  | 293, _ => exact okL_293
  | 294, _ => exact okL_294
  | 295, _ => exact okL_295
  | 296, _ => exact okL_296
  | 297, _ => exact okL_297
  | 298, _ => exact okL_298
  | 299, _ => exact okL_299
  | 300, _ => exact okL_300
  | 301, _ => exact okL_301
  | 302, _ => exact okL_302
  | 303, _ => exact okL_303
  | 304, _ => exact okL_304
  | 305, _ => exact okL_305
  | 306, _ => exact okL_306
  | 307, _ => exact okL_307
  | 308, _ => exact okL_308
  | 309, _ => exact okL_309
  | 310, _ => exact okL_310
  | 311, _ => exact okL_311
  | 312, _ => exact okL_312
  | 313, _ => exact okL_313
  | 314, _ => exact okL_314
  | 315, _ => exact okL_315
  | 316, _ => exact okL_316
  | 317, _ => exact okL_317
  | 318, _ => exact okL_318
  | 319, _ => exact okL_319
  | 320, _ => exact okL_320
  | 321, _ => exact okL_321
  | 322, _ => exact okL_322
  | 323, _ => exact okL_323
  | 324, _ => exact okL_324
  | 325, _ => exact okL_325
  | 326, _ => exact okL_326
  | 327, _ => exact okL_327
  | 328, _ => exact okL_328
  | 329, _ => exact okL_329
  | 330, _ => exact okL_330
  | 331, _ => exact okL_331
  | 332, _ => exact okL_332
  | 333, _ => exact okL_333
  | 334, _ => exact okL_334
  | 335, _ => exact okL_335
  | 336, _ => exact okL_336
  | 337, _ => exact okL_337
  | 338, _ => exact okL_338
  | 339, _ => exact okL_339
  | 340, _ => exact okL_340
  | 341, _ => exact okL_341
  | 342, _ => exact okL_342
  | 343, _ => exact okL_343
  | 344, _ => exact okL_344
  | 345, _ => exact okL_345
  | 346, _ => exact okL_346
  | 347, _ => exact okL_347
  | 348, _ => exact okL_348
  | 349, _ => exact okL_349
  | 350, _ => exact okL_350
  | 351, _ => exact okL_351
  | 352, _ => exact okL_352
  | 353, _ => exact okL_353
  | 354, _ => exact okL_354
  | 355, _ => exact okL_355
  | 356, _ => exact okL_356
  | 357, _ => exact okL_357
  | 358, _ => exact okL_358
  | 359, _ => exact okL_359
  | 360, _ => exact okL_360
  | w + 361, hw => exact absurd hw (by omega)
theorem lkl_len : lkl.length = 361 := by decide +kernel
set_option maxRecDepth 100000 in
set_option maxHeartbeats 4000000 in
theorem chkK_0 : (List.range 10).all (fun k => chkK (k + 0)) = true := by decide +kernel
set_option maxRecDepth 100000 in
set_option maxHeartbeats 4000000 in
theorem chkK_1 : (List.range 10).all (fun k => chkK (k + 10)) = true := by decide +kernel
set_option maxRecDepth 100000 in
set_option maxHeartbeats 4000000 in
theorem chkK_2 : (List.range 10).all (fun k => chkK (k + 20)) = true := by decide +kernel
set_option maxRecDepth 100000 in
set_option maxHeartbeats 4000000 in
theorem chkK_3 : (List.range 10).all (fun k => chkK (k + 30)) = true := by decide +kernel
set_option maxRecDepth 100000 in
set_option maxHeartbeats 4000000 in
theorem chkK_4 : (List.range 10).all (fun k => chkK (k + 40)) = true := by decide +kernel
set_option maxRecDepth 100000 in
set_option maxHeartbeats 4000000 in
theorem chkK_5 : (List.range 10).all (fun k => chkK (k + 50)) = true := by decide +kernel
set_option maxRecDepth 100000 in
set_option maxHeartbeats 4000000 in
theorem chkK_6 : (List.range 10).all (fun k => chkK (k + 60)) = true := by decide +kernel
set_option maxRecDepth 100000 in
set_option maxHeartbeats 4000000 in
theorem chkK_7 : (List.range 10).all (fun k => chkK (k + 70)) = true := by decide +kernel
set_option maxRecDepth 100000 in
set_option maxHeartbeats 4000000 in
theorem chkK_8 : (List.range 10).all (fun k => chkK (k + 80)) = true := by decide +kernel
set_option maxRecDepth 100000 in
set_option maxHeartbeats 4000000 in
theorem chkK_9 : (List.range 10).all (fun k => chkK (k + 90)) = true := by decide +kernel
set_option maxRecDepth 100000 in
set_option maxHeartbeats 4000000 in
theorem chkK_10 : (List.range 10).all (fun k => chkK (k + 100)) = true := by decide +kernel
set_option maxRecDepth 100000 in
set_option maxHeartbeats 4000000 in
theorem chkK_11 : (List.range 10).all (fun k => chkK (k + 110)) = true := by decide +kernel
set_option maxRecDepth 100000 in
set_option maxHeartbeats 4000000 in
theorem chkK_12 : (List.range 10).all (fun k => chkK (k + 120)) = true := by decide +kernel
set_option maxRecDepth 100000 in
set_option maxHeartbeats 4000000 in
theorem chkK_13 : (List.range 10).all (fun k => chkK (k + 130)) = true := by decide +kernel
set_option maxRecDepth 100000 in
set_option maxHeartbeats 4000000 in
theorem chkK_14 : (List.range 9).all (fun k => chkK (k + 140)) = true := by decide +kernel
theorem chkK_all {k : Nat} (hk : k < nm) : chkK k = true := by
  have hn : k < 149 := hk
  by_cases h0 : k < 10
  · have := List.all_eq_true.mp chkK_0 (k - 0) (List.mem_range.mpr (by omega))
    rwa [show k - 0 + 0 = k by omega] at this
  by_cases h1 : k < 20
  · have := List.all_eq_true.mp chkK_1 (k - 10) (List.mem_range.mpr (by omega))
    rwa [show k - 10 + 10 = k by omega] at this
  by_cases h2 : k < 30
  · have := List.all_eq_true.mp chkK_2 (k - 20) (List.mem_range.mpr (by omega))
    rwa [show k - 20 + 20 = k by omega] at this
  by_cases h3 : k < 40
  · have := List.all_eq_true.mp chkK_3 (k - 30) (List.mem_range.mpr (by omega))
    rwa [show k - 30 + 30 = k by omega] at this
  by_cases h4 : k < 50
  · have := List.all_eq_true.mp chkK_4 (k - 40) (List.mem_range.mpr (by omega))
    rwa [show k - 40 + 40 = k by omega] at this
  by_cases h5 : k < 60
  · have := List.all_eq_true.mp chkK_5 (k - 50) (List.mem_range.mpr (by omega))
    rwa [show k - 50 + 50 = k by omega] at this
  by_cases h6 : k < 70
  · have := List.all_eq_true.mp chkK_6 (k - 60) (List.mem_range.mpr (by omega))
    rwa [show k - 60 + 60 = k by omega] at this
  by_cases h7 : k < 80
  · have := List.all_eq_true.mp chkK_7 (k - 70) (List.mem_range.mpr (by omega))
    rwa [show k - 70 + 70 = k by omega] at this
  by_cases h8 : k < 90
  · have := List.all_eq_true.mp chkK_8 (k - 80) (List.mem_range.mpr (by omega))
    rwa [show k - 80 + 80 = k by omega] at this
  by_cases h9 : k < 100
  · have := List.all_eq_true.mp chkK_9 (k - 90) (List.mem_range.mpr (by omega))
    rwa [show k - 90 + 90 = k by omega] at this
  by_cases h10 : k < 110
  · have := List.all_eq_true.mp chkK_10 (k - 100) (List.mem_range.mpr (by omega))
    rwa [show k - 100 + 100 = k by omega] at this
  by_cases h11 : k < 120
  · have := List.all_eq_true.mp chkK_11 (k - 110) (List.mem_range.mpr (by omega))
    rwa [show k - 110 + 110 = k by omega] at this
  by_cases h12 : k < 130
  · have := List.all_eq_true.mp chkK_12 (k - 120) (List.mem_range.mpr (by omega))
    rwa [show k - 120 + 120 = k by omega] at this
  by_cases h13 : k < 140
  · have := List.all_eq_true.mp chkK_13 (k - 130) (List.mem_range.mpr (by omega))
    rwa [show k - 130 + 130 = k by omega] at this
  by_cases h14 : k < 149
  · have := List.all_eq_true.mp chkK_14 (k - 140) (List.mem_range.mpr (by omega))
    rwa [show k - 140 + 140 = k by omega] at this
  omega
end
section
/-! THE ABSTRACT MACHINE: ints are Int (read modulo 2^32), a heap is (cells, slots made, what each cell is, what its numbers are); the first EXN cells are arrays that were there before. -/
abbrev AV : Type := (Int ⊕ Int) ⊕ Option Nat
abbrev vI (i : Int) : AV := .inl (.inl i)
abbrev vL (i : Int) : AV := .inl (.inr i)
abbrev vR (k : Nat) : AV := .inr (some k)
def w32 (z : Int) : Int := (Int32.ofInt z).toInt
def w64 (z : Int) : Int := (Int64.ofInt z).toInt
def b32 (f : Int32 → Int32 → Int32) (x y : Int) : Int := (f (Int32.ofInt x) (Int32.ofInt y)).toInt
def b64 (f : Int64 → Int64 → Int64) (x y : Int) : Int := (f (Int64.ofInt x) (Int64.ofInt y)).toInt
def c64 (f : Int64 → Int64 → Int64) (x y : Int) : Int := (f (Int64.ofInt x) ((Int32.ofInt y).toInt64 &&& 63)).toInt
abbrev LK : Type := (Bool × Nat) ⊕ (Nat × List (Option (Option Nat)))
abbrev HP : Type := Nat × Nat × (Nat → LK) × (Nat → Int → Int)
abbrev LoA : Type := List (Option AV)
abbrev SA : Type := Nat × LoA × List AV × HP
def up2 (M : Nat → Int → Int) (k : Nat) (i v : Int) : Nat → Int → Int := fun a j => if a = k ∧ j = i then v else M a j
def upM (M : Nat → Int → Int) (k : Nat) : Nat → Int → Int := fun a j => if a = k then 0 else M a j
def upT (T : Nat → LK) (k : Nat) (c : LK) : Nat → LK := fun a => if a = k then c else T a
def opI2 (st : List AV) (f : Int → Int → Int) : Option (List AV) := match st with
  | .inl (.inl y) :: .inl (.inl x) :: t => some (vI (f x y) :: t)
  | _ => none
def opL2 (st : List AV) (f : Int → Int → Int) : Option (List AV) := match st with
  | .inl (.inr y) :: .inl (.inr x) :: t => some (vL (f x y) :: t)
  | _ => none
def opLI (st : List AV) (f : Int → Int → Int) : Option (List AV) := match st with
  | .inl (.inl y) :: .inl (.inr x) :: t => some (vL (f x y) :: t)
  | _ => none
def goA (pc : Nat) (ls : LoA) (h : HP) (o : Option (List AV)) : Option SA := match o with
  | some st => some (pc, ls, st, h)
  | none => none
def ldI (ls : LoA) (i : Nat) (st : List AV) : Option (List AV) := match ls[i]? with
  | some (some (.inl (.inl x))) => some (vI x :: st)
  | _ => none
def ldR (ls : LoA) (i : Nat) (st : List AV) : Option (List AV) := match ls[i]? with
  | some (some (.inr (some k))) => some (vR k :: st)
  | _ => none
def stI (pc : Nat) (ls : LoA) (i : Nat) (st : List AV) (h : HP) : Option SA := match st with
  | .inl (.inl x) :: t => if i < ls.length then some (pc, ls.set i (some (vI x)), t, h) else none
  | _ => none
def stR (pc : Nat) (ls : LoA) (i : Nat) (st : List AV) (h : HP) : Option SA := match st with
  | .inr (some k) :: t => if i < ls.length then some (pc, ls.set i (some (vR k)), t, h) else none
  | _ => none
def jmpA (pc : Nat) (off : Int) (ls : LoA) (st : List AV) (h : HP) : Option SA := if 0 ≤ (pc : Int) + off then some (((pc : Int) + off).toNat, ls, st, h) else none
def brA (q : Bool) (pc : Nat) (off : Int) (ls : LoA) (st : List AV) (h : HP) : Option SA := if 0 ≤ (pc : Int) + off then (if q = true then some (((pc : Int) + off).toNat, ls, st, h) else some (pc + 3, ls, st, h)) else none
def cmpA (c : Jvm.ClassFile.Cond) (x y : Int) : Bool := match c with
  | .eq => decide (x = y)
  | .ne => decide (x ≠ y)
  | .lt => decide (x < y)
  | .ge => decide (y ≤ x)
  | .gt => decide (y < x)
  | .le => decide (x ≤ y)
def aldA (lg : Bool) (pc : Nat) (ls : LoA) (st : List AV) (h : HP) : Option SA := match st with
  | .inl (.inl i) :: .inr (some k) :: t => if k < h.1 then (match h.2.2.1 k with
    | .inl (l, n) => if l = lg ∧ 0 ≤ i ∧ i < n ∧ n ≤ 2147483647 then some (pc, ls, (if lg then vL (h.2.2.2 k i) else vI (h.2.2.2 k i)) :: t, h) else none
    | _ => none) else none
  | _ => none
def astA (pc : Nat) (ls : LoA) (st : List AV) (h : HP) (lg : Bool) : Option SA := match st with
  | .inl v :: .inl (.inl i) :: .inr (some k) :: t => if EXN ≤ k ∧ k < h.1 then (match h.2.2.1 k, v with
    | .inl (false, n), .inl x => if lg = false ∧ 0 ≤ i ∧ i < n ∧ n ≤ 2147483647 then some (pc, ls, t, (h.1, h.2.1, h.2.2.1, up2 h.2.2.2 k i x)) else none
    | .inl (true, n), .inr x => if lg = true ∧ 0 ≤ i ∧ i < n ∧ n ≤ 2147483647 then some (pc, ls, t, (h.1, h.2.1, h.2.2.1, up2 h.2.2.2 k i x)) else none
    | _, _ => none) else none
  | _ => none
def alenA (pc : Nat) (ls : LoA) (st : List AV) (h : HP) : Option SA := match st with
  | .inr (some k) :: t => if k < h.1 then (match h.2.2.1 k with
    | .inl (_, n) => if n ≤ 2147483647 then some (pc, ls, vI n :: t, h) else none
    | _ => none) else none
  | _ => none
def getA (a b pc : Nat) (ls : LoA) (st : List AV) (h : HP) : Option SA := match st with
  | .inr (some k) :: t => if EXN ≤ k ∧ k < h.1 then (match h.2.2.1 k with
    | .inr (ci, fs) => if ci = a then (match fs[b]? with
      | some none => some (pc, ls, vI (h.2.2.2 k b) :: t, h)
      | some (some r) => some (pc, ls, .inr r :: t, h)
      | none => none) else none
    | _ => none) else none
  | _ => none
def putA (ini : Bool) (a b c pc : Nat) (ls : LoA) (st : List AV) (h : HP) : Option SA := match st with
  | v :: .inr (some k) :: t => if EXN ≤ k ∧ k < h.1 ∧ (4 ≤ c → ini = true) then (match h.2.2.1 k with
    | .inr (ci, fs) => if ci = a then (match fs[b]?, v with
      | some none, .inl (.inl x) => if c % 4 = 0 ∨ (c % 4 = 1 ∧ (x = 0 ∨ x = 1)) then some (pc, ls, t, (h.1, h.2.1, h.2.2.1, up2 h.2.2.2 k b x)) else none
      | some (some _), .inr r => if c % 4 = 2 then some (pc, ls, t, (h.1, h.2.1, upT h.2.2.1 k (.inr (ci, fs.set b (some r))), h.2.2.2)) else none
      | _, _ => none) else none
    | _ => none) else none
  | _ => none
def newA (pc : Nat) (ls : LoA) (st : List AV) (h : HP) (c : LK) (z : Nat) : Option SA :=
  some (pc, ls, vR h.1 :: st, (h.1 + 1, h.2.1 + z, upT h.2.2.1 h.1 c, upM h.2.2.2 h.1))
def simpA (dp ini : Bool) (i : Jvm.ClassFile.Instr) (a b c pc : Nat) (ls : LoA) (st : List AV) (h : HP) : Option SA := match i with
  | .aload_n j => goA (pc + 1) ls h (ldR ls j.val st)
  | .aload j => goA (pc + 2) ls h (ldR ls j st)
  | .iload_n j => goA (pc + 1) ls h (ldI ls j.val st)
  | .iload j => goA (pc + 2) ls h (ldI ls j st)
  | .istore_n j => stI (pc + 1) ls j.val st h
  | .istore j => stI (pc + 2) ls j st h
  | .astore_n j => stR (pc + 1) ls j.val st h
  | .astore j => stR (pc + 2) ls j st h
  | .iinc j d => (match ls[j]? with
    | some (some (.inl (.inl x))) => some (pc + 3, ls.set j (some (vI (w32 (x + d)))), st, h)
    | _ => none)
  | .iconst d => some (pc + 1, ls, vI d :: st, h)
  | .bipush d => if -128 ≤ d ∧ d < 128 then some (pc + 2, ls, vI d :: st, h) else none
  | .sipush d => if -32768 ≤ d ∧ d < 32768 then some (pc + 3, ls, vI d :: st, h) else none
  | .ldc _ => some (pc + 2, ls, vI a :: st, h)
  | .ldc_w _ => some (pc + 3, ls, vI a :: st, h)
  | .lconst j => some (pc + 1, ls, vL j.val :: st, h)
  | .iadd => goA (pc + 1) ls h (opI2 st (fun x y => w32 (x + y)))
  | .isub => goA (pc + 1) ls h (opI2 st (fun x y => w32 (x - y)))
  | .imul => goA (pc + 1) ls h (opI2 st (fun x y => w32 (x * y)))
  | .iand => goA (pc + 1) ls h (opI2 st (b32 (fun x y => x &&& y)))
  | .ior => goA (pc + 1) ls h (opI2 st (b32 (fun x y => x ||| y)))
  | .ixor => goA (pc + 1) ls h (opI2 st (b32 (fun x y => x ^^^ y)))
  | .ishl => goA (pc + 1) ls h (opI2 st (b32 (fun x y => x <<< (y &&& 31))))
  | .ishr => goA (pc + 1) ls h (opI2 st (b32 (fun x y => x >>> (y &&& 31))))
  | .iushr => goA (pc + 1) ls h (opI2 st (b32 (fun x y => (x.toUInt32 >>> (y.toUInt32 &&& Int32.toUInt32 31)).toInt32)))
  | .idiv => (match st with
    | .inl (.inl y) :: .inl (.inl x) :: t => if w32 y = 0 then none else some (pc + 1, ls, vI (b32 (fun x y => x / y) x y) :: t, h)
    | _ => none)
  | .irem => (match st with
    | .inl (.inl y) :: .inl (.inl x) :: t => if w32 y = 0 then none else some (pc + 1, ls, vI (b32 (fun x y => x - x / y * y) x y) :: t, h)
    | _ => none)
  | .ineg => (match st with
    | .inl (.inl x) :: t => some (pc + 1, ls, vI (w32 (-x)) :: t, h)
    | _ => none)
  | .land => goA (pc + 1) ls h (opL2 st (b64 (fun x y => x &&& y)))
  | .lor => goA (pc + 1) ls h (opL2 st (b64 (fun x y => x ||| y)))
  | .lshl => goA (pc + 1) ls h (opLI st (c64 (fun x y => x <<< y)))
  | .lshr => goA (pc + 1) ls h (opLI st (c64 (fun x y => x >>> y)))
  | .lcmp => (match st with
    | .inl (.inr y) :: .inl (.inr x) :: t => some (pc + 1, ls, vI (if w64 x < w64 y then -1 else if w64 x = w64 y then 0 else 1) :: t, h)
    | _ => none)
  | .dup => (match st with
    | .inl (.inl x) :: t => some (pc + 1, ls, vI x :: vI x :: t, h)
    | .inr x :: t => some (pc + 1, ls, .inr x :: .inr x :: t, h)
    | _ => none)
  | .dup2 => (match st with
    | .inl (.inl x) :: .inr y :: t => some (pc + 1, ls, vI x :: .inr y :: vI x :: .inr y :: t, h)
    | _ => none)
  | .if_icmp cc off => (match st with
    | .inl (.inl y) :: .inl (.inl x) :: t => brA (cmpA cc (w32 x) (w32 y)) pc off ls t h
    | _ => none)
  | .ifCond cc off => (match st with
    | .inl (.inl x) :: t => brA (cmpA cc (w32 x) 0) pc off ls t h
    | _ => none)
  | .goto off => jmpA pc off ls st h
  | .tableswitch d lo hi offs => (match st with
    | .inl (.inl x) :: t => if w32 x < lo ∨ hi < w32 x then jmpA pc d ls t h else (match offs[(w32 x - lo).toNat]? with
      | some off => jmpA pc off ls t h
      | none => none)
    | _ => none)
  | .getfield _ => getA a b (pc + 3) ls st h
  | .putfield _ => putA ini a b c (pc + 3) ls st h
  | .iaload => aldA false (pc + 1) ls st h
  | .laload => aldA true (pc + 1) ls st h
  | .iastore => astA (pc + 1) ls st h false
  | .lastore => astA (pc + 1) ls st h true
  | .arraylength => alenA (pc + 1) ls st h
  | .newarray t => (match st with
    | .inl (.inl x) :: r => if 0 ≤ x ∧ x ≤ 67108864 then (match t with
      | .int => newA (pc + 2) ls r h (.inl (false, x.toNat)) x.toNat
      | .long => newA (pc + 2) ls r h (.inl (true, x.toNat)) x.toNat
      | _ => none) else none
    | _ => none)
  | .new _ => newA (pc + 3) ls st h (.inr (a, nfl.getD a [])) b
  | .getstatic _ => some (pc + 3, ls, vR a :: st, h)
  | .invokespecial _ => if a = 9999 ∧ dp = true then (match st with
    | .inr (some _) :: t => if t.length ≤ 4 then some (pc + 3, ls, t, h) else none
    | _ => none) else none
  | .invokestatic _ => if a = 9998 ∧ dp = true then (match st with
    | .inl (.inl y) :: .inl (.inl x) :: t => if t.length ≤ 4 then some (pc + 3, ls, vI (if w32 x < w32 y then y else x) :: t, h) else none
    | _ => none) else none
  | _ => none
def callA (i : Jvm.ClassFile.Instr) (a b : Nat) (st : List AV) (h : HP) : Option (Nat × List AV × List AV) := match i with
  | .invokevirtual _ => (match st.drop b with
    | .inr (some r) :: rest => if (st.take b).length = b ∧ rest.length ≤ 4 ∧ EXN ≤ r ∧ r < h.1 then (match h.2.2.1 r with
      | .inr (ci, _) => if ci = (mt a).2.2.2.2.2.2 then some (a, vR r :: (st.take b).reverse, rest) else none
      | _ => none) else none
    | _ => none)
  | .invokestatic _ => if a = 9998 then none else if (st.take b).length = b ∧ (st.drop b).length ≤ 4 then some (a, (st.take b).reverse, st.drop b) else none
  | .invokespecial _ => if a = 9999 then none else (match st.drop b with
    | .inr (some r) :: rest => if (st.take b).length = b ∧ rest.length ≤ 4 then some (a, vR r :: (st.take b).reverse, rest) else none
    | _ => none)
  | _ => none
def retA (rt : Option FieldType) (i : Jvm.ClassFile.Instr) (st : List AV) : Option (Option AV) := match i, st with
  | .ireturn, [.inl (.inl x)] => (match rt with
    | some .int => some (some (vI x))
    | some .boolean => if x = 0 ∨ x = 1 then some (some (vI x)) else none
    | _ => none)
  | .return_, [] => (match rt with
    | none => some none
    | _ => none)
  | _, _ => none
def stepA (d k pc : Nat) (ls : LoA) (st : List AV) (h : HP) : Option (SA ⊕ ((Nat × List AV × List AV) ⊕ Option AV)) := match cd k pc with
  | none => none
  | some (i, _, a, b, c, _) => (match retA (mt k).2.2.2.1 i st with
    | some r => some (.inr (.inr r))
    | none => (match callA i a b st h with
      | some q => some (.inr (.inl q))
      | none => (match simpA (decide (0 < d)) (decide ((mt k).2.2.2.2.2.1 = 2 ∧ (mt k).2.2.2.2.2.2 = a)) i a b c pc ls st h with
        | some q => some (.inl q)
        | none => none)))
def entA (k : Nat) (as : List AV) : LoA := as.map some ++ List.replicate ((mt k).2.2.1 - as.length) none
def nLg : AV → Bool
  | .inl (.inr _) => false
  | _ => true
def runA : Nat → Nat → Nat → Nat → LoA → List AV → HP → Option (Option AV × HP)
  | 0, _, _, _, _, _, _ => none
  | f + 1, d, k, pc, ls, st, h => (match stepA d k pc ls st h with
    | none => none
    | some (.inl (pc', ls', st', h')) => runA f d k pc' ls' st' h'
    | some (.inr (.inr r)) => some (r, h)
    | some (.inr (.inl (k', as, rest))) => (match d with
      | 0 => none
      | d' + 1 => (match (if as.all nLg = true ∧ as.length ≤ (mt k').2.2.1 then runA f d' k' 0 (entA k' as) [] h else none) with
        | none => none
        | some (r, h') => runA f (d' + 1) k (pc + 3) ls (r.toList ++ rest) h')))
end
section
/-! HOW AN ABSTRACT STATE STANDS FOR A STATE OF THE MACHINE -/
def cv (ad : Nat → Nat) : AV → Value
  | .inl (.inl i) => .int (Int32.ofInt i)
  | .inl (.inr i) => .long (Int64.ofInt i)
  | .inr (some k) => .ref (ad k)
  | .inr none => .null
def fv1 (ad : Nat → Nat) (x : Int) : Option (Option Nat) → Value
  | none => .int (Int32.ofInt x)
  | some r => cv ad (.inr r)
def fvA (ad : Nat → Nat) (M : Int → Int) (fs : List (Option (Option Nat))) : List Value := fs.mapIdx (fun j f => fv1 ad (M (j : Int)) f)
def cellA (ad : Nat → Nat) (cI cJ : ClassId) (T : Nat → LK) (M : Nat → Int → Int) (k : Nat) : va_E := match T k with
  | .inl (false, n) => .inl (cI, n, .inl (fun j => Int32.ofInt (M k (j : Int))))
  | .inl (true, n) => .inl (cJ, n, .inr (.inl (fun j => Int64.ofInt (M k (j : Int)))))
  | .inr (ci, fs) => .inr (ci, fvA ad (M k) fs)
def wsA (ad : Nat → Nat) (cI cJ : ClassId) (h : HP) : va_W := (List.range (h.1 - EXN)).map (fun q => (ad (q + EXN), cellA ad cI cJ h.2.2.1 h.2.2.2 (q + EXN)))
theorem wsA_at {ad : Nat → Nat} {cI cJ : ClassId} {h : HP} {k : Nat} (h1 : EXN ≤ k) (h2 : k < h.1) : (wsA ad cI cJ h)[k - EXN]? = some (ad k, cellA ad cI cJ h.2.2.1 h.2.2.2 k) := by
  unfold wsA
  rw [List.getElem?_map, List.getElem?_range (by omega), Option.map_some, show k - EXN + EXN = k by omega]
theorem cellA_congr {ad : Nat → Nat} {cI cJ : ClassId} {T T' : Nat → LK} {M M' : Nat → Int → Int} {k : Nat} (hT : T' k = T k) (hM : M' k = M k) : cellA ad cI cJ T' M' k = cellA ad cI cJ T M k := by
  unfold cellA
  rw [hT, hM]
theorem wsA_set {ad : Nat → Nat} {cI cJ : ClassId} {h : HP} {k : Nat} {T' : Nat → LK} {M' : Nat → Int → Int} (h1 : EXN ≤ k) (hT : ∀ a, a ≠ k → T' a = h.2.2.1 a) (hM : ∀ a, a ≠ k → M' a = h.2.2.2 a) :
    (wsA ad cI cJ h).set (k - EXN) (ad k, cellA ad cI cJ T' M' k) = wsA ad cI cJ (h.1, h.2.1, T', M') := by
  apply List.ext_getElem?
  intro i
  unfold wsA
  by_cases hi : i < h.1 - EXN
  · rw [List.getElem?_map, List.getElem?_range hi, Option.map_some]
    by_cases he : k - EXN = i
    · subst he
      rw [List.getElem?_set_self (by simpa using hi), show k - EXN + EXN = k by omega]
    · rw [List.getElem?_set_ne he, List.getElem?_map, List.getElem?_range hi, Option.map_some, cellA_congr (hT _ (by omega)) (hM _ (by omega))]
  · rw [List.getElem?_eq_none (by simpa using hi), List.getElem?_eq_none (by simpa using hi)]
theorem wsA_push {ad : Nat → Nat} {cI cJ : ClassId} {h : HP} {z : Nat} {T' : Nat → LK} {M' : Nat → Int → Int} (h1 : EXN ≤ h.1) (hT : ∀ a, a < h.1 → T' a = h.2.2.1 a) (hM : ∀ a, a < h.1 → M' a = h.2.2.2 a) :
    wsA ad cI cJ h ++ [(ad h.1, cellA ad cI cJ T' M' h.1)] = wsA ad cI cJ (h.1 + 1, z, T', M') := by
  unfold wsA
  rw [show h.1 + 1 - EXN = (h.1 - EXN) + 1 by omega, List.range_succ, List.map_append, List.map_cons, List.map_nil, show h.1 - EXN + EXN = h.1 by omega]
  congr 1
  apply List.map_congr_left
  intro q hq
  rw [cellA_congr (hT _ (by have := List.mem_range.mp hq; omega)) (hM _ (by have := List.mem_range.mp hq; omega))]
def ARg (base : Nat) : Nat → Prop := fun q => base ≤ q
theorem wsA_D {base : Nat} {ad : Nat → Nat} {cI cJ : ClassId} {h : HP} (hA : ∀ q, ad (q + EXN) = base + q) : va_D (ARg base) (wsA ad cI cJ h) := by
  have key : ∀ (i : Nat) (x : Nat × va_E), (wsA ad cI cJ h)[i]? = some x → x.1 = base + i := by
    intro i x hx
    unfold wsA at hx
    rw [List.getElem?_map] at hx
    by_cases hi : i < h.1 - EXN
    · rw [List.getElem?_range hi, Option.map_some] at hx
      cases hx
      exact hA i
    · rw [List.getElem?_eq_none (by simpa using hi)] at hx
      cases hx
  refine ⟨fun i j x y hx hy hxy => ?_, fun k x hx => ?_⟩
  · have h1 := key i x hx
    have h2 := key j y hy
    omega
  · show base ≤ x.1
    have h1 := key k x hx
    omega
def EXT (base : Nat) (ad : Nat → Nat) (h : HP) (s : State) : Prop := ∀ k, k < EXN → ∃ n, h.2.2.1 k = .inl (false, n) ∧ va_T .int (ad k) n (fun j => .int (Int32.ofInt (h.2.2.2 k (j : Int)))) (ARg base) s s.heap
def REL (base : Nat) (ad : Nat → Nat) (D : va_G) (cI cJ : ClassId) (s : State) (h : HP) (H : Heap) (locs : List Loc) : Prop := EXN ≤ h.1 ∧ H.size + EXN = base + h.1 ∧ va_P D vwCl (wsA ad cI cJ h) H ∧ va_S (ARg base) s.heap H locs ∧ EXT base ad h s
def LRA (ad : Nat → Nat) (nL : Nat) (ls : LoA) (lc : Array Slot) : Prop := lc.size = nL ∧ ls.length = nL ∧ lv_wf lc ∧ ∀ (i : Nat) (v : AV), ls[i]? = some (some v) → lc[i]? = some (Slot.val (cv ad v)) ∧ (cv ad v).category = 1
def ascA (ad : Nat → Nat) (ls : LoA) : List (Nat × Value) := ls.zipIdx.filterMap (fun q => q.1.map (fun v => (q.2, cv ad v)))
theorem ascA_mem {ad : Nat → Nat} {ls : LoA} {x : Nat × Value} : x ∈ ascA ad ls ↔ ∃ v, ls[x.1]? = some (some v) ∧ x.2 = cv ad v := by
  unfold ascA
  rw [List.mem_filterMap]
  constructor
  · rintro ⟨⟨o, i⟩, h1, h2⟩
    cases o with
    | none => cases h2
    | some v =>
      cases h2
      exact ⟨v, List.mem_zipIdx_iff_getElem?.mp h1, rfl⟩
  · rintro ⟨v, h1, h2⟩
    refine ⟨(some v, x.1), List.mem_zipIdx_iff_getElem?.mpr h1, ?_⟩
    rw [Option.map_some, ← h2]
theorem LRA.has {ad : Nat → Nat} {nL : Nat} {ls : LoA} {lc : Array Slot} (h : LRA ad nL ls lc) : lv_has lc nL (ascA ad ls) := by
  refine ⟨h.1, h.2.2.1, fun q hq => ?_⟩
  obtain ⟨v, h1, h2⟩ := ascA_mem.mp hq
  rw [h2]
  exact (h.2.2.2 _ _ h1).1
theorem LRA.store {ad : Nat → Nat} {nL : Nat} {ls : LoA} {lc lc' : Array Slot} (h : LRA ad nL ls lc) {i : Nat} {v : AV} (hv : (cv ad v).category = 1) (hi : i < nL)
    (hl : lv_has lc' nL ((i, cv ad v) :: (ascA ad ls).filter (fun q => !(q.1 == i) && !(q.1 + 1 == i && q.2.category == 2)))) : LRA ad nL (ls.set i (some v)) lc' := by
  refine ⟨hl.1, by rw [List.length_set]; exact h.2.1, hl.2.1, fun j x hj => ?_⟩
  by_cases he : i = j
  · subst he
    rw [List.getElem?_set_self (by rw [h.2.1]; exact hi)] at hj
    cases hj
    exact ⟨hl.2.2 (i, cv ad v) List.mem_cons_self, hv⟩
  · rw [List.getElem?_set_ne he] at hj
    have hx := h.2.2.2 j x hj
    refine ⟨hl.2.2 (j, cv ad x) (List.mem_cons_of_mem _ (List.mem_filter.mpr ⟨ascA_mem.mpr ⟨x, hj, rfl⟩, ?_⟩)), hx.2⟩
    have e1 : (j == i) = false := by simpa using fun q => he q.symm
    have e2 : ((cv ad x).category == 2) = false := by rw [hx.2]; rfl
    simp [e1, e2]
theorem LRA.at {ad : Nat → Nat} {nL : Nat} {ls : LoA} {lc : Array Slot} (h : LRA ad nL ls lc) {i : Nat} {v : AV} (hi : ls[i]? = some (some v)) : lc[i]? = some (.val (cv ad v)) := (h.2.2.2 i v hi).1
theorem LRA.entry {ad : Nat → Nat} (as : List AV) (n : Nat) (hn : as.length ≤ n) (hc : ∀ v ∈ as, (cv ad v).category = 1) : LRA ad n (as.map some ++ List.replicate (n - as.length) none) ((lg_sl (as.map (cv ad)) ++ List.replicate (n - (lg_sl (as.map (cv ad))).length) Slot.unset).toArray) := by
  have hsl : ∀ l : List AV, (∀ v ∈ l, (cv ad v).category = 1) → lg_sl (l.map (cv ad)) = l.map (fun v => Slot.val (cv ad v)) := by
    intro l
    induction l with
    | nil => intro _; rfl
    | cons v t ih =>
      intro hl
      have h1 := hl v List.mem_cons_self
      have h2 := ih (fun x hx => hl x (List.mem_cons_of_mem _ hx))
      unfold lg_sl at h2 ⊢
      rw [List.map_cons, List.flatMap_cons, h2, List.map_cons, if_neg (by rw [h1]; decide)]
      rfl
  have hlen : (lg_sl (as.map (cv ad))).length ≤ n := by rw [hsl as hc, List.length_map]; exact hn
  have hE := lv_entry (as.map (cv ad)) (n := n) hlen
  refine ⟨hE.1, by rw [List.length_append, List.length_map, List.length_replicate]; omega, hE.2.1, fun i v hi => ?_⟩
  by_cases hl : i < as.length
  · rw [List.getElem?_append_left (by rw [List.length_map]; exact hl), List.getElem?_map] at hi
    cases ha : as[i]? with
    | none => rw [ha] at hi; cases hi
    | some x =>
      rw [ha] at hi
      cases hi
      refine ⟨?_, hc _ (List.mem_of_getElem? ha)⟩
      rw [hsl as hc, List.getElem?_toArray, List.getElem?_append_left (by rw [List.length_map]; exact hl), List.getElem?_map, ha]
      rfl
  · rw [List.getElem?_append_right (by rw [List.length_map]; omega)] at hi
    have := List.mem_replicate.mp (List.mem_of_getElem? hi)
    cases this.2
theorem ent_ok {k pc : Nat} {e : EN} (hk : k < nm) (he : cd k pc = some e) : chkE k pc e = true := by
  have h1 := chkK_all hk
  unfold chkK at h1
  have h2 : (edl.getD k [])[pc]? = some (some e) := by
    unfold cd at he
    rw [List.getD_eq_getElem?_getD] at he
    cases h : (edl.getD k [])[pc]? with
    | none => rw [h] at he; cases he
    | some x => rw [h] at he; cases he; rfl
  exact List.all_eq_true.mp h1 (some e, pc) (List.mem_zipIdx_iff_getElem?.mpr h2)
theorem ent_dec {k pc : Nat} {i : Jvm.ClassFile.Instr} {len a b c w : Nat} (hk : k < nm) (he : cd k pc = some (i, len, a, b, c, w)) : decode (mt k).2.1 pc = .ok (i, len) ∧ (∀ n, lnI i = some n → len = n) ∧ ∀ x kd, lkI i a = some (x, kd) → lkl[w]? = some ((mt k).2.2.2.2.2.2, x, kd, a, b, c) := by
  have h := ent_ok hk he
  unfold chkE at h
  rw [Bool.and_eq_true, Bool.and_eq_true, decide_eq_true_eq] at h
  obtain ⟨⟨h1, h2⟩, h3⟩ := h
  refine ⟨h1, fun n hn => ?_, fun x kd hx => ?_⟩
  · dsimp only at h2
    rw [hn] at h2
    simpa using h2
  · dsimp only at h3
    rw [hx] at h3
    simpa using h3
theorem ent_lnk {k pc : Nat} {i : Jvm.ClassFile.Instr} {len a b c w x kd : Nat} (hk : k < nm) (he : cd k pc = some (i, len, a, b, c, w)) (hx : lkI i a = some (x, kd)) : lkl[w]? = some ((mt k).2.2.2.2.2.2, x, kd, a, b, c) ∧ OkL w := by
  have h := (ent_dec hk he).2.2 x kd hx
  have hw : w < lkl.length := (List.getElem?_eq_some_iff.mp h).1
  rw [lkl_len] at hw
  exact ⟨h, okL_all w hw⟩
theorem ent_1 {k pc : Nat} {i : Jvm.ClassFile.Instr} {len a b c w : Nat} (n : Nat) (hk : k < nm) (he : cd k pc = some (i, len, a, b, c, w)) (hn : lnI i = some n) : decode (mt k).2.1 pc = .ok (i, n) := by
  have h := ent_dec hk he
  rw [← h.2.1 n hn]
  exact h.1
end
section
/-! WHAT THE TABLES SAY OF THE CLASSES -/
def ClsOk (ci : Nat) (C : String) (T : u_T) (N : Nat) : Prop := ∃ ty : Nat → FieldType, (∀ k, k < N → parseFieldDescriptor (T k).2.2.1 = some (ty k)) ∧ (∀ a, a < N → ∀ b, b < N → a ≠ b → (T a).2.1 ≠ (T b).2.1) ∧ (∀ w ∈ u_ws C T N, w ∈ lw_G) ∧ Cond.instantiable C N ∈ lw_G ∧ Cond.initialized C ∈ lw_G ∧ (nfl.getD ci []).length = N ∧ ∀ (ad : Nat → Nat) (j : Nat), j < N → defaultValue (ty j) = vp_V (fvA ad (fun _ => 0) (nfl.getD ci [])) j
theorem dv_of {ad : Nat → Nat} {fs : List (Option (Option Nat))} {j : Nat} {f : Option (Option Nat)} {t : FieldType} (hf : fs[j]? = some f) (hv : defaultValue t = fv1 ad 0 f) : defaultValue t = vp_V (fvA ad (fun _ => 0) fs) j := by
  rw [hv]
  unfold vp_V fvA
  rw [List.getD_eq_getElem?_getD, List.getElem?_mapIdx, hf]
  rfl
set_option maxRecDepth 20000 in
theorem inX0 : ∀ w ∈ u_ws RX0 TX0 5, w ∈ lw_G := by
  intro w hw
  obtain ⟨k, hk, rfl⟩ := List.mem_map.mp hw
  have hk := List.mem_range.mp hk
  match k, hk with
  | 0, _ => exact lw_m1 91 rfl rfl
  | 1, _ => exact lw_m1 93 rfl rfl
  | 2, _ => exact lw_m1 95 rfl rfl
  | 3, _ => exact lw_m1 97 rfl rfl
  | 4, _ => exact lw_m1 99 rfl rfl
  | k + 5, hk => exact absurd hk (by omega)
set_option maxRecDepth 20000 in
theorem clsOk_0 : ClsOk 0 RX0 TX0 5 := by
  refine ⟨tyX0, tyX0_ok, nmX0, inX0, lw_m1 68 rfl rfl, lw_m1 3 rfl rfl, rfl, fun ad j hj => ?_⟩
  match j, hj with
  | 0, _ => exact dv_of (f := some none) rfl rfl
  | 1, _ => exact dv_of (f := some none) rfl rfl
  | 2, _ => exact dv_of (f := some none) rfl rfl
  | 3, _ => exact dv_of (f := some none) rfl rfl
  | 4, _ => exact dv_of (f := none) rfl rfl
  | j + 5, hj => exact absurd hj (by omega)
set_option maxRecDepth 20000 in
theorem inX1 : ∀ w ∈ u_ws RX1 TX1 17, w ∈ lw_G := by
  intro w hw
  obtain ⟨k, hk, rfl⟩ := List.mem_map.mp hw
  have hk := List.mem_range.mp hk
  match k, hk with
  | 0, _ => exact lw_m1 186 rfl rfl
  | 1, _ => exact lw_m1 188 rfl rfl
  | 2, _ => exact lw_m1 190 rfl rfl
  | 3, _ => exact lw_m1 192 rfl rfl
  | 4, _ => exact lw_m1 194 rfl rfl
  | 5, _ => exact lw_m1 196 rfl rfl
  | 6, _ => exact lw_m1 198 rfl rfl
  | 7, _ => exact lw_m1 200 rfl rfl
  | 8, _ => exact lw_m1 202 rfl rfl
  | 9, _ => exact lw_m1 204 rfl rfl
  | 10, _ => exact lw_m1 206 rfl rfl
  | 11, _ => exact lw_m1 208 rfl rfl
  | 12, _ => exact lw_m1 210 rfl rfl
  | 13, _ => exact lw_m1 212 rfl rfl
  | 14, _ => exact lw_m1 214 rfl rfl
  | 15, _ => exact lw_m1 216 rfl rfl
  | 16, _ => exact lw_m1 218 rfl rfl
  | k + 17, hk => exact absurd hk (by omega)
set_option maxRecDepth 20000 in
theorem clsOk_1 : ClsOk 1 RX1 TX1 17 := by
  refine ⟨tyX1, tyX1_ok, nmX1, inX1, lw_m1 162 rfl rfl, lw_m1 7 rfl rfl, rfl, fun ad j hj => ?_⟩
  match j, hj with
  | 0, _ => exact dv_of (f := some none) rfl rfl
  | 1, _ => exact dv_of (f := some none) rfl rfl
  | 2, _ => exact dv_of (f := some none) rfl rfl
  | 3, _ => exact dv_of (f := some none) rfl rfl
  | 4, _ => exact dv_of (f := some none) rfl rfl
  | 5, _ => exact dv_of (f := none) rfl rfl
  | 6, _ => exact dv_of (f := some none) rfl rfl
  | 7, _ => exact dv_of (f := some none) rfl rfl
  | 8, _ => exact dv_of (f := some none) rfl rfl
  | 9, _ => exact dv_of (f := some none) rfl rfl
  | 10, _ => exact dv_of (f := some none) rfl rfl
  | 11, _ => exact dv_of (f := some none) rfl rfl
  | 12, _ => exact dv_of (f := some none) rfl rfl
  | 13, _ => exact dv_of (f := none) rfl rfl
  | 14, _ => exact dv_of (f := none) rfl rfl
  | 15, _ => exact dv_of (f := some none) rfl rfl
  | 16, _ => exact dv_of (f := none) rfl rfl
  | j + 17, hj => exact absurd hj (by omega)
set_option maxRecDepth 20000 in
theorem inX2 : ∀ w ∈ u_ws RX2 TX2 3, w ∈ lw_G := by
  intro w hw
  obtain ⟨k, hk, rfl⟩ := List.mem_map.mp hw
  have hk := List.mem_range.mp hk
  match k, hk with
  | 0, _ => exact lw_m1 114 rfl rfl
  | 1, _ => exact lw_m1 116 rfl rfl
  | 2, _ => exact lw_m1 118 rfl rfl
  | k + 3, hk => exact absurd hk (by omega)
set_option maxRecDepth 20000 in
theorem clsOk_2 : ClsOk 2 RX2 TX2 3 := by
  refine ⟨tyX2, tyX2_ok, nmX2, inX2, lw_m1 103 rfl rfl, lw_m1 4 rfl rfl, rfl, fun ad j hj => ?_⟩
  match j, hj with
  | 0, _ => exact dv_of (f := some none) rfl rfl
  | 1, _ => exact dv_of (f := some none) rfl rfl
  | 2, _ => exact dv_of (f := none) rfl rfl
  | j + 3, hj => exact absurd hj (by omega)
set_option maxRecDepth 20000 in
theorem inX3 : ∀ w ∈ u_ws RX3 TX3 5, w ∈ lw_G := by
  intro w hw
  obtain ⟨k, hk, rfl⟩ := List.mem_map.mp hw
  have hk := List.mem_range.mp hk
  match k, hk with
  | 0, _ => exact lw_m1 150 rfl rfl
  | 1, _ => exact lw_m1 152 rfl rfl
  | 2, _ => exact lw_m1 154 rfl rfl
  | 3, _ => exact lw_m1 156 rfl rfl
  | 4, _ => exact lw_m1 158 rfl rfl
  | k + 5, hk => exact absurd hk (by omega)
set_option maxRecDepth 20000 in
theorem clsOk_3 : ClsOk 3 RX3 TX3 5 := by
  refine ⟨tyX3, tyX3_ok, nmX3, inX3, lw_m1 122 rfl rfl, lw_m1 5 rfl rfl, rfl, fun ad j hj => ?_⟩
  match j, hj with
  | 0, _ => exact dv_of (f := some none) rfl rfl
  | 1, _ => exact dv_of (f := some none) rfl rfl
  | 2, _ => exact dv_of (f := some none) rfl rfl
  | 3, _ => exact dv_of (f := none) rfl rfl
  | 4, _ => exact dv_of (f := none) rfl rfl
  | j + 5, hj => exact absurd hj (by omega)
set_option maxRecDepth 20000 in
theorem inX4 : ∀ w ∈ u_ws RX4 TX4 4, w ∈ lw_G := by
  intro w hw
  obtain ⟨k, hk, rfl⟩ := List.mem_map.mp hw
  have hk := List.mem_range.mp hk
  match k, hk with
  | 0, _ => exact lw_m1 57 rfl rfl
  | 1, _ => exact lw_m1 59 rfl rfl
  | 2, _ => exact lw_m1 61 rfl rfl
  | 3, _ => exact lw_m1 63 rfl rfl
  | k + 4, hk => exact absurd hk (by omega)
set_option maxRecDepth 20000 in
theorem clsOk_4 : ClsOk 4 RX4 TX4 4 := by
  refine ⟨tyX4, tyX4_ok, nmX4, inX4, lw_m1 23 rfl rfl, lw_m1 2 rfl rfl, rfl, fun ad j hj => ?_⟩
  match j, hj with
  | 0, _ => exact dv_of (f := some none) rfl rfl
  | 1, _ => exact dv_of (f := some none) rfl rfl
  | 2, _ => exact dv_of (f := some none) rfl rfl
  | 3, _ => exact dv_of (f := some none) rfl rfl
  | j + 4, hj => exact absurd hj (by omega)
set_option maxRecDepth 20000 in
theorem inX5 : ∀ w ∈ u_ws RX5 TX5 14, w ∈ lw_G := by
  intro w hw
  obtain ⟨k, hk, rfl⟩ := List.mem_map.mp hw
  have hk := List.mem_range.mp hk
  match k, hk with
  | 0, _ => exact lw_m2 61 rfl rfl
  | 1, _ => exact lw_m2 63 rfl rfl
  | 2, _ => exact lw_m2 65 rfl rfl
  | 3, _ => exact lw_m2 67 rfl rfl
  | 4, _ => exact lw_m2 69 rfl rfl
  | 5, _ => exact lw_m2 71 rfl rfl
  | 6, _ => exact lw_m2 73 rfl rfl
  | 7, _ => exact lw_m2 75 rfl rfl
  | 8, _ => exact lw_m2 77 rfl rfl
  | 9, _ => exact lw_m2 79 rfl rfl
  | 10, _ => exact lw_m2 81 rfl rfl
  | 11, _ => exact lw_m2 83 rfl rfl
  | 12, _ => exact lw_m2 85 rfl rfl
  | 13, _ => exact lw_m2 87 rfl rfl
  | k + 14, hk => exact absurd hk (by omega)
set_option maxRecDepth 20000 in
theorem clsOk_5 : ClsOk 5 RX5 TX5 14 := by
  refine ⟨tyX5, tyX5_ok, nmX5, inX5, lw_m2 36 rfl rfl, lw_m1 9 rfl rfl, rfl, fun ad j hj => ?_⟩
  match j, hj with
  | 0, _ => exact dv_of (f := some none) rfl rfl
  | 1, _ => exact dv_of (f := some none) rfl rfl
  | 2, _ => exact dv_of (f := some none) rfl rfl
  | 3, _ => exact dv_of (f := none) rfl rfl
  | 4, _ => exact dv_of (f := none) rfl rfl
  | 5, _ => exact dv_of (f := some none) rfl rfl
  | 6, _ => exact dv_of (f := some none) rfl rfl
  | 7, _ => exact dv_of (f := some none) rfl rfl
  | 8, _ => exact dv_of (f := none) rfl rfl
  | 9, _ => exact dv_of (f := none) rfl rfl
  | 10, _ => exact dv_of (f := none) rfl rfl
  | 11, _ => exact dv_of (f := none) rfl rfl
  | 12, _ => exact dv_of (f := none) rfl rfl
  | 13, _ => exact dv_of (f := some none) rfl rfl
  | j + 14, hj => exact absurd hj (by omega)
set_option maxRecDepth 20000 in
theorem inX6 : ∀ w ∈ u_ws RX6 TX6 3, w ∈ lw_G := by
  intro w hw
  obtain ⟨k, hk, rfl⟩ := List.mem_map.mp hw
  have hk := List.mem_range.mp hk
  match k, hk with
  | 0, _ => exact lw_m1 136 rfl rfl
  | 1, _ => exact lw_m1 138 rfl rfl
  | 2, _ => exact lw_m1 140 rfl rfl
  | k + 3, hk => exact absurd hk (by omega)
set_option maxRecDepth 20000 in
theorem clsOk_6 : ClsOk 6 RX6 TX6 3 := by
  refine ⟨tyX6, tyX6_ok, nmX6, inX6, lw_m1 128 rfl rfl, lw_m1 6 rfl rfl, rfl, fun ad j hj => ?_⟩
  match j, hj with
  | 0, _ => exact dv_of (f := some none) rfl rfl
  | 1, _ => exact dv_of (f := some none) rfl rfl
  | 2, _ => exact dv_of (f := some none) rfl rfl
  | j + 3, hj => exact absurd hj (by omega)
set_option maxRecDepth 20000 in
theorem inX7 : ∀ w ∈ u_ws RX7 TX7 12, w ∈ lw_G := by
  intro w hw
  obtain ⟨k, hk, rfl⟩ := List.mem_map.mp hw
  have hk := List.mem_range.mp hk
  match k, hk with
  | 0, _ => exact lw_m2 10 rfl rfl
  | 1, _ => exact lw_m2 12 rfl rfl
  | 2, _ => exact lw_m2 14 rfl rfl
  | 3, _ => exact lw_m2 16 rfl rfl
  | 4, _ => exact lw_m2 18 rfl rfl
  | 5, _ => exact lw_m2 20 rfl rfl
  | 6, _ => exact lw_m2 22 rfl rfl
  | 7, _ => exact lw_m2 24 rfl rfl
  | 8, _ => exact lw_m2 26 rfl rfl
  | 9, _ => exact lw_m2 28 rfl rfl
  | 10, _ => exact lw_m2 30 rfl rfl
  | 11, _ => exact lw_m2 32 rfl rfl
  | k + 12, hk => exact absurd hk (by omega)
set_option maxRecDepth 20000 in
theorem clsOk_7 : ClsOk 7 RX7 TX7 12 := by
  refine ⟨tyX7, tyX7_ok, nmX7, inX7, lw_m1 222 rfl rfl, lw_m1 8 rfl rfl, rfl, fun ad j hj => ?_⟩
  match j, hj with
  | 0, _ => exact dv_of (f := some none) rfl rfl
  | 1, _ => exact dv_of (f := some none) rfl rfl
  | 2, _ => exact dv_of (f := some none) rfl rfl
  | 3, _ => exact dv_of (f := some none) rfl rfl
  | 4, _ => exact dv_of (f := some none) rfl rfl
  | 5, _ => exact dv_of (f := some none) rfl rfl
  | 6, _ => exact dv_of (f := some none) rfl rfl
  | 7, _ => exact dv_of (f := some none) rfl rfl
  | 8, _ => exact dv_of (f := none) rfl rfl
  | 9, _ => exact dv_of (f := none) rfl rfl
  | 10, _ => exact dv_of (f := none) rfl rfl
  | 11, _ => exact dv_of (f := none) rfl rfl
  | j + 12, hj => exact absurd hj (by omega)
set_option maxRecDepth 20000 in
theorem inX8 : ∀ w ∈ u_ws RX8 TX8 11, w ∈ lw_G := by
  intro w hw
  obtain ⟨k, hk, rfl⟩ := List.mem_map.mp hw
  have hk := List.mem_range.mp hk
  match k, hk with
  | 0, _ => exact lw_m2 127 rfl rfl
  | 1, _ => exact lw_m2 129 rfl rfl
  | 2, _ => exact lw_m2 131 rfl rfl
  | 3, _ => exact lw_m2 133 rfl rfl
  | 4, _ => exact lw_m2 135 rfl rfl
  | 5, _ => exact lw_m2 137 rfl rfl
  | 6, _ => exact lw_m2 139 rfl rfl
  | 7, _ => exact lw_m2 141 rfl rfl
  | 8, _ => exact lw_m2 143 rfl rfl
  | 9, _ => exact lw_m2 145 rfl rfl
  | 10, _ => exact lw_m2 147 rfl rfl
  | k + 11, hk => exact absurd hk (by omega)
set_option maxRecDepth 20000 in
theorem clsOk_8 : ClsOk 8 RX8 TX8 11 := by
  refine ⟨tyX8, tyX8_ok, nmX8, inX8, lw_m1 15 rfl rfl, lw_m1 1 rfl rfl, rfl, fun ad j hj => ?_⟩
  match j, hj with
  | 0, _ => exact dv_of (f := some none) rfl rfl
  | 1, _ => exact dv_of (f := some none) rfl rfl
  | 2, _ => exact dv_of (f := some none) rfl rfl
  | 3, _ => exact dv_of (f := some none) rfl rfl
  | 4, _ => exact dv_of (f := some none) rfl rfl
  | 5, _ => exact dv_of (f := some none) rfl rfl
  | 6, _ => exact dv_of (f := some none) rfl rfl
  | 7, _ => exact dv_of (f := some none) rfl rfl
  | 8, _ => exact dv_of (f := some none) rfl rfl
  | 9, _ => exact dv_of (f := none) rfl rfl
  | 10, _ => exact dv_of (f := none) rfl rfl
  | j + 11, hj => exact absurd hj (by omega)
set_option maxRecDepth 20000 in
theorem inX9 : ∀ w ∈ u_ws RX9 TX9 42, w ∈ lw_G := by
  intro w hw
  obtain ⟨k, hk, rfl⟩ := List.mem_map.mp hw
  have hk := List.mem_range.mp hk
  match k, hk with
  | 0, _ => exact lw_m4 35 rfl rfl
  | 1, _ => exact lw_m4 37 rfl rfl
  | 2, _ => exact lw_m4 39 rfl rfl
  | 3, _ => exact lw_m4 41 rfl rfl
  | 4, _ => exact lw_m4 43 rfl rfl
  | 5, _ => exact lw_m4 45 rfl rfl
  | 6, _ => exact lw_m4 47 rfl rfl
  | 7, _ => exact lw_m4 49 rfl rfl
  | 8, _ => exact lw_m4 51 rfl rfl
  | 9, _ => exact lw_m4 53 rfl rfl
  | 10, _ => exact lw_m4 55 rfl rfl
  | 11, _ => exact lw_m4 57 rfl rfl
  | 12, _ => exact lw_m4 59 rfl rfl
  | 13, _ => exact lw_m4 61 rfl rfl
  | 14, _ => exact lw_m4 63 rfl rfl
  | 15, _ => exact lw_m4 65 rfl rfl
  | 16, _ => exact lw_m4 67 rfl rfl
  | 17, _ => exact lw_m4 69 rfl rfl
  | 18, _ => exact lw_m4 71 rfl rfl
  | 19, _ => exact lw_m4 73 rfl rfl
  | 20, _ => exact lw_m4 75 rfl rfl
  | 21, _ => exact lw_m4 77 rfl rfl
  | 22, _ => exact lw_m4 79 rfl rfl
  | 23, _ => exact lw_m4 81 rfl rfl
  | 24, _ => exact lw_m4 83 rfl rfl
  | 25, _ => exact lw_m4 85 rfl rfl
  | 26, _ => exact lw_m4 87 rfl rfl
  | 27, _ => exact lw_m4 89 rfl rfl
  | 28, _ => exact lw_m4 91 rfl rfl
  | 29, _ => exact lw_m4 93 rfl rfl
  | 30, _ => exact lw_m4 95 rfl rfl
  | 31, _ => exact lw_m4 97 rfl rfl
  | 32, _ => exact lw_m4 99 rfl rfl
  | 33, _ => exact lw_m4 101 rfl rfl
  | 34, _ => exact lw_m4 103 rfl rfl
  | 35, _ => exact lw_m4 105 rfl rfl
  | 36, _ => exact lw_m4 107 rfl rfl
  | 37, _ => exact lw_m4 109 rfl rfl
  | 38, _ => exact lw_m4 111 rfl rfl
  | 39, _ => exact lw_m4 113 rfl rfl
  | 40, _ => exact lw_m4 115 rfl rfl
  | 41, _ => exact lw_m4 117 rfl rfl
  | k + 42, hk => exact absurd hk (by omega)
set_option maxRecDepth 20000 in
theorem clsOk_9 : ClsOk 9 RX9 TX9 42 := by
  refine ⟨tyX9, tyX9_ok, nmX9, inX9, lw_m3 224 rfl rfl, lw_m1 11 rfl rfl, rfl, fun ad j hj => ?_⟩
  match j, hj with
  | 0, _ => exact dv_of (f := some none) rfl rfl
  | 1, _ => exact dv_of (f := some none) rfl rfl
  | 2, _ => exact dv_of (f := some none) rfl rfl
  | 3, _ => exact dv_of (f := some none) rfl rfl
  | 4, _ => exact dv_of (f := some none) rfl rfl
  | 5, _ => exact dv_of (f := some none) rfl rfl
  | 6, _ => exact dv_of (f := some none) rfl rfl
  | 7, _ => exact dv_of (f := some none) rfl rfl
  | 8, _ => exact dv_of (f := none) rfl rfl
  | 9, _ => exact dv_of (f := some none) rfl rfl
  | 10, _ => exact dv_of (f := some none) rfl rfl
  | 11, _ => exact dv_of (f := some none) rfl rfl
  | 12, _ => exact dv_of (f := some none) rfl rfl
  | 13, _ => exact dv_of (f := some none) rfl rfl
  | 14, _ => exact dv_of (f := some none) rfl rfl
  | 15, _ => exact dv_of (f := some none) rfl rfl
  | 16, _ => exact dv_of (f := some none) rfl rfl
  | 17, _ => exact dv_of (f := some none) rfl rfl
  | 18, _ => exact dv_of (f := some none) rfl rfl
  | 19, _ => exact dv_of (f := some none) rfl rfl
  | 20, _ => exact dv_of (f := some none) rfl rfl
  | 21, _ => exact dv_of (f := some none) rfl rfl
  | 22, _ => exact dv_of (f := none) rfl rfl
  | 23, _ => exact dv_of (f := none) rfl rfl
  | 24, _ => exact dv_of (f := none) rfl rfl
  | 25, _ => exact dv_of (f := none) rfl rfl
  | 26, _ => exact dv_of (f := none) rfl rfl
  | 27, _ => exact dv_of (f := none) rfl rfl
  | 28, _ => exact dv_of (f := none) rfl rfl
  | 29, _ => exact dv_of (f := none) rfl rfl
  | 30, _ => exact dv_of (f := some none) rfl rfl
  | 31, _ => exact dv_of (f := none) rfl rfl
  | 32, _ => exact dv_of (f := some none) rfl rfl
  | 33, _ => exact dv_of (f := some none) rfl rfl
  | 34, _ => exact dv_of (f := some none) rfl rfl
  | 35, _ => exact dv_of (f := some none) rfl rfl
  | 36, _ => exact dv_of (f := some none) rfl rfl
  | 37, _ => exact dv_of (f := none) rfl rfl
  | 38, _ => exact dv_of (f := none) rfl rfl
  | 39, _ => exact dv_of (f := none) rfl rfl
  | 40, _ => exact dv_of (f := none) rfl rfl
  | 41, _ => exact dv_of (f := none) rfl rfl
  | j + 42, hj => exact absurd hj (by omega)
theorem clsOk_all {ci : Nat} {C : String} {T : u_T} {N : Nat} (h : vwCl[ci]? = some (C, T, N)) : ClsOk ci C T N := by
  match ci, h with
  | 0, h => cases h; exact clsOk_0
  | 1, h => cases h; exact clsOk_1
  | 2, h => cases h; exact clsOk_2
  | 3, h => cases h; exact clsOk_3
  | 4, h => cases h; exact clsOk_4
  | 5, h => cases h; exact clsOk_5
  | 6, h => cases h; exact clsOk_6
  | 7, h => cases h; exact clsOk_7
  | 8, h => cases h; exact clsOk_8
  | 9, h => cases h; exact clsOk_9
  | n + 10, h => cases h
set_option maxRecDepth 20000 in
theorem ac_int : Cond.arrayClass .int ∈ lw_G := lw_m1 66 rfl rfl
set_option maxRecDepth 20000 in
theorem ac_long : Cond.arrayClass .long ∈ lw_G := lw_m4 120 rfl rfl
set_option maxRecDepth 20000 in
theorem oi_inst : Cond.instanceMethod objectInit ∈ lw_G := lw_m1 20 rfl rfl
set_option maxRecDepth 20000 in
theorem oi_code : Cond.code objectInit ⟨#[0xb1]⟩ 1 none ∈ lw_G := lw_m1 21 rfl rfl
end
section
/-! ONE STEP OF THE ABSTRACT MACHINE IS ONE STEP OF THE MACHINE -/
def CTX (base : Nat) (ad : Nat → Nat) (D : va_G) (cI cJ : ClassId) (p : Program) (R : Room) (s : State) (m : MethodId) (args : Array Value) (meth : Method) (c : Code) (k d mc ms : Nat) : Prop :=
  p.tables.exec = Jvm.exec ∧ c.code = (mt k).2.1 ∧ c.maxLocals = (mt k).2.2.1 ∧ s.vm.findClass (cnm (mt k).2.2.2.2.2.2) = some m.cls ∧ (∀ w ∈ lw_G, w.before args s = true) ∧ ((mt k).2.2.2.2.2.1 = 2 → meth.name = "<init>") ∧ (d ≤ R.frames ∧ 64 * d ≤ R.locals ∧ mc ≤ R.cells ∧ ms ≤ R.slots) ∧ va_K D vwCl [(cI, .int), (cJ, .long)] s ∧ (∀ q, ad (q + EXN) = base + q) ∧ base ≤ s.heap.size ∧ (∀ a, 1 ≤ a → a < EXN → va_Z (stn a).1 (stn a).2 "[I" (.ref (ad a)) (ARg base) s s.heap) ∧ (∀ w ∈ nests, va_Nw w s)
def GA (base : Nat) (ad : Nat → Nat) (D : va_G) (cI cJ : ClassId) (p : Program) (l : Launch) (e : Env) (R : Room) (s : State) (m : MethodId) (args : Array Value) (below : List Frame) (meth : Method) (c : Code) (Q : State → Prop) (nL : Nat) (pc : Nat) (ls : LoA) (st : List AV) (h : HP) (cells slots : Nat) : Prop :=
  ∀ (H : Heap) (locs : List Loc) (lc : Array Slot), REL base ad D cI cJ s h H locs → LRA ad nL ls lc → W p l e R s m args below meth c H locs cells slots Q (F0 m pc lc (st.map (cv ad)))
theorem w32_of (z : Int) : Int32.ofInt (w32 z) = Int32.ofInt z := Int32.ofInt_toInt _
theorem b32_of (f : Int32 → Int32 → Int32) (x y : Int) : Int32.ofInt (b32 f x y) = f (Int32.ofInt x) (Int32.ofInt y) := Int32.ofInt_toInt _
theorem b64_of (f : Int64 → Int64 → Int64) (x y : Int) : Int64.ofInt (b64 f x y) = f (Int64.ofInt x) (Int64.ofInt y) := Int64.ofInt_toInt _
theorem c64_of (f : Int64 → Int64 → Int64) (x y : Int) : Int64.ofInt (c64 f x y) = f (Int64.ofInt x) ((Int32.ofInt y).toInt64 &&& 63) := Int64.ofInt_toInt _
theorem goA_some {pc pc' : Nat} {ls ls' : LoA} {h h' : HP} {o : Option (List AV)} {st' : List AV} (hs : goA pc ls h o = some (pc', ls', st', h')) : o = some st' ∧ pc' = pc ∧ ls' = ls ∧ h' = h := by
  cases o with
  | none => cases hs
  | some t => cases hs; exact ⟨rfl, rfl, rfl, rfl⟩
theorem opI2_some {st st' : List AV} {f : Int → Int → Int} (hs : opI2 st f = some st') : ∃ x y t, st = vI y :: vI x :: t ∧ st' = vI (f x y) :: t := by
  unfold opI2 at hs
  split at hs
  · cases hs; exact ⟨_, _, _, rfl, rfl⟩
  · cases hs
theorem opL2_some {st st' : List AV} {f : Int → Int → Int} (hs : opL2 st f = some st') : ∃ x y t, st = vL y :: vL x :: t ∧ st' = vL (f x y) :: t := by
  unfold opL2 at hs
  split at hs
  · cases hs; exact ⟨_, _, _, rfl, rfl⟩
  · cases hs
theorem opLI_some {st st' : List AV} {f : Int → Int → Int} (hs : opLI st f = some st') : ∃ x y t, st = vI y :: vL x :: t ∧ st' = vL (f x y) :: t := by
  unfold opLI at hs
  split at hs
  · cases hs; exact ⟨_, _, _, rfl, rfl⟩
  · cases hs
theorem ldI_some {ls : LoA} {i : Nat} {st st' : List AV} (hs : ldI ls i st = some st') : ∃ x, ls[i]? = some (some (vI x)) ∧ st' = vI x :: st := by
  unfold ldI at hs
  split at hs
  · rename_i y hy; cases hs; exact ⟨_, hy, rfl⟩
  · cases hs
theorem ldR_some {ls : LoA} {i : Nat} {st st' : List AV} (hs : ldR ls i st = some st') : ∃ x, ls[i]? = some (some (vR x)) ∧ st' = vR x :: st := by
  unfold ldR at hs
  split at hs
  · rename_i y hy; cases hs; exact ⟨_, hy, rfl⟩
  · cases hs
theorem stI_some {pc pc' i : Nat} {ls ls' : LoA} {st st' : List AV} {h h' : HP} (hs : stI pc ls i st h = some (pc', ls', st', h')) : ∃ x, st = vI x :: st' ∧ i < ls.length ∧ pc' = pc ∧ ls' = ls.set i (some (vI x)) ∧ h' = h := by
  unfold stI at hs
  split at hs
  · split at hs
    · cases hs; exact ⟨_, rfl, by assumption, rfl, rfl, rfl⟩
    · cases hs
  · cases hs
theorem stR_some {pc pc' i : Nat} {ls ls' : LoA} {st st' : List AV} {h h' : HP} (hs : stR pc ls i st h = some (pc', ls', st', h')) : ∃ x, st = vR x :: st' ∧ i < ls.length ∧ pc' = pc ∧ ls' = ls.set i (some (vR x)) ∧ h' = h := by
  unfold stR at hs
  split at hs
  · split at hs
    · cases hs; exact ⟨_, rfl, by assumption, rfl, rfl, rfl⟩
    · cases hs
  · cases hs
theorem jmpA_some {pc pc' : Nat} {off : Int} {ls ls' : LoA} {st st' : List AV} {h h' : HP} (hs : jmpA pc off ls st h = some (pc', ls', st', h')) : (pc : Int) + off = (pc' : Int) ∧ ls' = ls ∧ st' = st ∧ h' = h := by
  unfold jmpA at hs
  split at hs
  · cases hs; exact ⟨by omega, rfl, rfl, rfl⟩
  · cases hs
section SIMP
variable {base : Nat} {ad : Nat → Nat} {D : va_G} {cI cJ : ClassId} {p : Program} {l : Launch} {e : Env} {R : Room} {s : State} {m : MethodId} {args : Array Value} {below : List Frame} {meth : Method} {c : Code} {Q : State → Prop} {k d mc ms nL pc pc' len a b cc w cells slots : Nat} {ls ls' : LoA} {st st' : List AV} {h h' : HP}
theorem ga_bin {f : Int32 → Int32 → Int32} {g : Int → Int → Int} (hg : ∀ u v, Int32.ofInt (g u v) = f (Int32.ofInt u) (Int32.ofInt v)) (hrow : ∀ (u v : Int32) (H : Heap) (locs : List Loc) (lc : Array Slot) (rest : List Value), W p l e R s m args below meth c H locs cells slots Q (F0 m (pc + 1) lc (.int (f u v) :: rest)) → W p l e R s m args below meth c H locs cells slots Q (F0 m pc lc (.int v :: .int u :: rest)))
    (hs : goA (pc + 1) ls h (opI2 st g) = some (pc', ls', st', h')) (kk : GA base ad D cI cJ p l e R s m args below meth c Q nL pc' ls' st' h' (cells + (h'.1 - h.1)) (slots + (h'.2.1 - h.2.1))) : GA base ad D cI cJ p l e R s m args below meth c Q nL pc ls st h cells slots := by
  obtain ⟨ho, rfl, rfl, rfl⟩ := goA_some hs
  obtain ⟨u, v, t, rfl, rfl⟩ := opI2_some ho
  intro H locs lc hR hL
  have q := kk H locs lc hR hL
  rw [Nat.sub_self, Nat.sub_self, Nat.add_zero, Nat.add_zero, List.map_cons, show cv ad (vI (g u v)) = .int (f (Int32.ofInt u) (Int32.ofInt v)) from congrArg Value.int (hg u v)] at q
  exact hrow _ _ _ _ _ _ q
theorem ga_binL {f : Int64 → Int64 → Int64} {g : Int → Int → Int} (hg : ∀ u v, Int64.ofInt (g u v) = f (Int64.ofInt u) (Int64.ofInt v)) (hrow : ∀ (u v : Int64) (H : Heap) (locs : List Loc) (lc : Array Slot) (rest : List Value), W p l e R s m args below meth c H locs cells slots Q (F0 m (pc + 1) lc (.long (f u v) :: rest)) → W p l e R s m args below meth c H locs cells slots Q (F0 m pc lc (.long v :: .long u :: rest)))
    (hs : goA (pc + 1) ls h (opL2 st g) = some (pc', ls', st', h')) (kk : GA base ad D cI cJ p l e R s m args below meth c Q nL pc' ls' st' h' (cells + (h'.1 - h.1)) (slots + (h'.2.1 - h.2.1))) : GA base ad D cI cJ p l e R s m args below meth c Q nL pc ls st h cells slots := by
  obtain ⟨ho, rfl, rfl, rfl⟩ := goA_some hs
  obtain ⟨u, v, t, rfl, rfl⟩ := opL2_some ho
  intro H locs lc hR hL
  have q := kk H locs lc hR hL
  rw [Nat.sub_self, Nat.sub_self, Nat.add_zero, Nat.add_zero, List.map_cons, show cv ad (vL (g u v)) = .long (f (Int64.ofInt u) (Int64.ofInt v)) from congrArg Value.long (hg u v)] at q
  exact hrow _ _ _ _ _ _ q
theorem ga_binLI {f : Int64 → Int32 → Int64} {g : Int → Int → Int} (hg : ∀ u v, Int64.ofInt (g u v) = f (Int64.ofInt u) (Int32.ofInt v)) (hrow : ∀ (u : Int64) (v : Int32) (H : Heap) (locs : List Loc) (lc : Array Slot) (rest : List Value), W p l e R s m args below meth c H locs cells slots Q (F0 m (pc + 1) lc (.long (f u v) :: rest)) → W p l e R s m args below meth c H locs cells slots Q (F0 m pc lc (.int v :: .long u :: rest)))
    (hs : goA (pc + 1) ls h (opLI st g) = some (pc', ls', st', h')) (kk : GA base ad D cI cJ p l e R s m args below meth c Q nL pc' ls' st' h' (cells + (h'.1 - h.1)) (slots + (h'.2.1 - h.2.1))) : GA base ad D cI cJ p l e R s m args below meth c Q nL pc ls st h cells slots := by
  obtain ⟨ho, rfl, rfl, rfl⟩ := goA_some hs
  obtain ⟨u, v, t, rfl, rfl⟩ := opLI_some ho
  intro H locs lc hR hL
  have q := kk H locs lc hR hL
  rw [Nat.sub_self, Nat.sub_self, Nat.add_zero, Nat.add_zero, List.map_cons, show cv ad (vL (g u v)) = .long (f (Int64.ofInt u) (Int32.ofInt v)) from congrArg Value.long (hg u v)] at q
  exact hrow _ _ _ _ _ _ q
/-- the heap stays -/
theorem ga_same (hrow : ∀ (H : Heap) (locs : List Loc) (lc : Array Slot), REL base ad D cI cJ s h H locs → LRA ad nL ls lc → (∀ lc', LRA ad nL ls' lc' → W p l e R s m args below meth c H locs cells slots Q (F0 m pc' lc' (st'.map (cv ad)))) → W p l e R s m args below meth c H locs cells slots Q (F0 m pc lc (st.map (cv ad))))
    (kk : GA base ad D cI cJ p l e R s m args below meth c Q nL pc' ls' st' h (cells + (h.1 - h.1)) (slots + (h.2.1 - h.2.1))) : GA base ad D cI cJ p l e R s m args below meth c Q nL pc ls st h cells slots := by
  intro H locs lc hR hL
  refine hrow H locs lc hR hL (fun lc' hL' => ?_)
  have q := kk H locs lc' hR hL'
  rwa [Nat.sub_self, Nat.sub_self, Nat.add_zero, Nat.add_zero] at q
theorem w32_lt {u v : Int} : Int32.ofInt u < Int32.ofInt v ↔ w32 u < w32 v := Int32.lt_iff_toInt_lt
theorem w32_le {u v : Int} : Int32.ofInt u ≤ Int32.ofInt v ↔ w32 u ≤ w32 v := Int32.le_iff_toInt_le
theorem w32_eq {u v : Int} : Int32.ofInt u = Int32.ofInt v ↔ w32 u = w32 v := Int32.toInt_inj.symm
theorem brA_some {q : Bool} {pc pc' : Nat} {off : Int} {ls ls' : LoA} {st st' : List AV} {h h' : HP} (hs : brA q pc off ls st h = some (pc', ls', st', h')) : ∃ tgt : Nat, (pc : Int) + off = (tgt : Int) ∧ (q = true → pc' = tgt) ∧ (q = false → pc' = pc + 3) ∧ ls' = ls ∧ st' = st ∧ h' = h := by
  unfold brA at hs
  split at hs
  · refine ⟨((pc : Int) + off).toNat, by omega, ?_⟩
    cases q
    · rw [if_neg (by decide)] at hs
      cases hs
      exact ⟨(fun z => by cases z), fun _ => rfl, rfl, rfl, rfl⟩
    · rw [if_pos rfl] at hs
      cases hs
      exact ⟨fun _ => rfl, (fun z => by cases z), rfl, rfl, rfl⟩
  · cases hs
theorem w32_eq0 {u : Int} : Int32.ofInt u = 0 ↔ w32 u = 0 := by
  rw [show (0 : Int32) = Int32.ofInt 0 from rfl, w32_eq]
  rfl
theorem w32_lt0 {u : Int} : Int32.ofInt u < 0 ↔ w32 u < 0 := by
  rw [show (0 : Int32) = Int32.ofInt 0 from rfl, w32_lt]
  rfl
theorem w32_gt0 {u : Int} : 0 < Int32.ofInt u ↔ 0 < w32 u := by
  rw [show (0 : Int32) = Int32.ofInt 0 from rfl, w32_lt]
  rfl
theorem w32_ge0 {u : Int} : 0 ≤ Int32.ofInt u ↔ 0 ≤ w32 u := by
  rw [show (0 : Int32) = Int32.ofInt 0 from rfl, w32_le]
  rfl
theorem w32_le0 {u : Int} : Int32.ofInt u ≤ 0 ↔ w32 u ≤ 0 := by
  rw [show (0 : Int32) = Int32.ofInt 0 from rfl, w32_le]
  rfl
theorem ga_icmp {q : Jvm.ClassFile.Cond} {off : Int} (hx : p.tables.exec = Jvm.exec) (hb : c.code = (mt k).2.1) (hdg : decode (mt k).2.1 pc = .ok (.if_icmp q off, 3)) {u v : Int} {t : List AV}
    (hs : brA (cmpA q (w32 u) (w32 v)) pc off ls t h = some (pc', ls', st', h')) (kk : GA base ad D cI cJ p l e R s m args below meth c Q nL pc' ls' st' h' (cells + (h'.1 - h.1)) (slots + (h'.2.1 - h.2.1))) : GA base ad D cI cJ p l e R s m args below meth c Q nL pc ls (vI v :: vI u :: t) h cells slots := by
  obtain ⟨tgt, ht, h1, h2, rfl, rfl, rfl⟩ := brA_some hs
  refine ga_same (fun H locs lc hR hL kk => ?_) kk
  have kk := kk lc hL
  have k1 : cmpA q (w32 u) (w32 v) = true → W p l e R s m args below meth c H locs cells slots Q (F0 m tgt lc (st'.map (cv ad))) := fun z => h1 z ▸ kk
  have k2 : cmpA q (w32 u) (w32 v) = false → W p l e R s m args below meth c H locs cells slots Q (F0 m (pc + 3) lc (st'.map (cv ad))) := fun z => h2 z ▸ kk
  cases q
  · exact lv_icmp_eq hx hb hdg ht (fun z => k1 (decide_eq_true (w32_eq.mp z))) (fun z => k2 (decide_eq_false (fun y => z (w32_eq.mpr y))))
  · exact lv_icmp_ne hx hb hdg ht (fun z => k1 (decide_eq_true (fun y => z (w32_eq.mpr y)))) (fun z => k2 (decide_eq_false (fun y => y (w32_eq.mp z))))
  · exact lv_icmp_lt hx hb hdg ht (fun z => k1 (decide_eq_true (w32_lt.mp z))) (fun z => k2 (decide_eq_false (fun y => z (w32_lt.mpr y))))
  · exact lv_icmp_ge hx hb hdg ht (fun z => k1 (decide_eq_true (w32_le.mp z))) (fun z => k2 (decide_eq_false (fun y => z (w32_le.mpr y))))
  · exact lv_icmp_gt hx hb hdg ht (fun z => k1 (decide_eq_true (w32_lt.mp z))) (fun z => k2 (decide_eq_false (fun y => z (w32_lt.mpr y))))
  · exact lv_icmp_le hx hb hdg ht (fun z => k1 (decide_eq_true (w32_le.mp z))) (fun z => k2 (decide_eq_false (fun y => z (w32_le.mpr y))))
theorem ga_if {q : Jvm.ClassFile.Cond} {off : Int} (hx : p.tables.exec = Jvm.exec) (hb : c.code = (mt k).2.1) (hdg : decode (mt k).2.1 pc = .ok (.ifCond q off, 3)) {u : Int} {t : List AV}
    (hs : brA (cmpA q (w32 u) 0) pc off ls t h = some (pc', ls', st', h')) (kk : GA base ad D cI cJ p l e R s m args below meth c Q nL pc' ls' st' h' (cells + (h'.1 - h.1)) (slots + (h'.2.1 - h.2.1))) : GA base ad D cI cJ p l e R s m args below meth c Q nL pc ls (vI u :: t) h cells slots := by
  obtain ⟨tgt, ht, h1, h2, rfl, rfl, rfl⟩ := brA_some hs
  refine ga_same (fun H locs lc hR hL kk => ?_) kk
  have kk := kk lc hL
  have k1 : cmpA q (w32 u) 0 = true → W p l e R s m args below meth c H locs cells slots Q (F0 m tgt lc (st'.map (cv ad))) := fun z => h1 z ▸ kk
  have k2 : cmpA q (w32 u) 0 = false → W p l e R s m args below meth c H locs cells slots Q (F0 m (pc + 3) lc (st'.map (cv ad))) := fun z => h2 z ▸ kk
  cases q
  · exact lv_if_eq hx hb hdg ht (fun z => k1 (decide_eq_true (w32_eq0.mp z))) (fun z => k2 (decide_eq_false (fun y => z (w32_eq0.mpr y))))
  · exact lv_if_ne hx hb hdg ht (fun z => k1 (decide_eq_true (fun y => z (w32_eq0.mpr y)))) (fun z => k2 (decide_eq_false (fun y => y (w32_eq0.mp z))))
  · exact lv_if_lt hx hb hdg ht (fun z => k1 (decide_eq_true (w32_lt0.mp z))) (fun z => k2 (decide_eq_false (fun y => z (w32_lt0.mpr y))))
  · exact lv_if_ge hx hb hdg ht (fun z => k1 (decide_eq_true (w32_ge0.mp z))) (fun z => k2 (decide_eq_false (fun y => z (w32_ge0.mpr y))))
  · exact lv_if_gt hx hb hdg ht (fun z => k1 (decide_eq_true (w32_gt0.mp z))) (fun z => k2 (decide_eq_false (fun y => z (w32_gt0.mpr y))))
  · exact lv_if_le hx hb hdg ht (fun z => k1 (decide_eq_true (w32_le0.mp z))) (fun z => k2 (decide_eq_false (fun y => z (w32_le0.mpr y))))
theorem vp_in_of_int {i : Int} {n : Nat} (h0 : 0 ≤ i) (h1 : i < n) (h2 : n ≤ 2147483647) : vp_in (Int32.ofInt i) n ∧ (Int32.ofInt i).toNatClampNeg = i.toNat := by
  have e : (Int32.ofInt i).toInt = i := Int32.toInt_ofInt_of_le (by omega) (by omega)
  have e2 : (Int32.ofInt i).toNatClampNeg = i.toNat := by
    show (Int32.ofInt i).toInt.toNat = i.toNat
    rw [e]
  refine ⟨?_, e2⟩
  rw [vp_in_iff, e]
  omega
/-- a row of numbers that was there before, or one of ours: a read -/
theorem ga_iald (C : CTX base ad D cI cJ p R s m args meth c k d mc ms) (hdg : decode (mt k).2.1 pc = .ok (.iaload, 1)) (hs : aldA false (pc + 1) ls st h = some (pc', ls', st', h'))
    (kk : GA base ad D cI cJ p l e R s m args below meth c Q nL pc' ls' st' h' (cells + (h'.1 - h.1)) (slots + (h'.2.1 - h.2.1))) : GA base ad D cI cJ p l e R s m args below meth c Q nL pc ls st h cells slots := by
  obtain ⟨hx, hb, hml, hown, hts, hin, hroom, hK, hA, hbs, hZ, hN⟩ := C
  unfold aldA at hs
  split at hs
  · rename_i i q t
    split at hs
    · rename_i hq
      split at hs
      · rename_i lg n hT
        split at hs
        · rename_i hc
          obtain ⟨rfl, h0, h1, h2⟩ := hc
          cases hs
          refine ga_same (fun H locs lc hR hL kk => ?_) kk
          have kk := kk lc hL
          rw [if_neg (by decide)] at kk
          obtain ⟨hv, hcl⟩ := vp_in_of_int h0 h1 h2
          obtain ⟨hE, hsz, hP, hS, hX⟩ := hR
          have hidx : ((i.toNat : Nat) : Int) = i := by omega
          by_cases hqE : EXN ≤ q
          · have hat : (wsA ad cI cJ h)[q - EXN]? = some (ad q, .inl (cI, n, .inl (fun j => Int32.ofInt (h.2.2.2 q (j : Int))))) := by
              rw [wsA_at hqE hq]
              unfold cellA
              rw [hT]
            refine va_iald hx hb hK hP (q - EXN) 0 hat rfl hv hdg ?_
            rw [hcl, hidx]
            exact kk
          · obtain ⟨n', hn', hTT⟩ := hX q (by omega)
            rw [hT] at hn'
            cases hn'
            have hTT := hTT.kept (H1 := H) (fun z hz1 hz2 => hS.2.1 z hz1 hz2)
            obtain ⟨cell, g1, g2, g3, g4, g5, g6, g7⟩ := hTT
            have g9 := g6 i.toNat (by omega)
            dsimp only at g9
            rw [hidx] at g9
            refine W.iald (v := .int (Int32.ofInt (h.2.2.2 q i))) hx hb g1 g2 g3 (fun z => z.elim (fun z => hv (Or.inl z)) (fun z => hv (Or.inr (Nat.le_trans g4 z)))) (by rw [hcl]; exact g9) rfl rfl hdg ?_
            exact kk
        · cases hs
      · cases hs
    · cases hs
  · cases hs
theorem ga_lald (C : CTX base ad D cI cJ p R s m args meth c k d mc ms) (hdg : decode (mt k).2.1 pc = .ok (.laload, 1)) (hs : aldA true (pc + 1) ls st h = some (pc', ls', st', h'))
    (kk : GA base ad D cI cJ p l e R s m args below meth c Q nL pc' ls' st' h' (cells + (h'.1 - h.1)) (slots + (h'.2.1 - h.2.1))) : GA base ad D cI cJ p l e R s m args below meth c Q nL pc ls st h cells slots := by
  obtain ⟨hx, hb, hml, hown, hts, hin, hroom, hK, hA, hbs, hZ, hN⟩ := C
  unfold aldA at hs
  split at hs
  · rename_i i q t
    split at hs
    · rename_i hq
      split at hs
      · rename_i lg n hT
        split at hs
        · rename_i hc
          obtain ⟨rfl, h0, h1, h2⟩ := hc
          cases hs
          refine ga_same (fun H locs lc hR hL kk => ?_) kk
          have kk := kk lc hL
          rw [if_pos rfl] at kk
          obtain ⟨hv, hcl⟩ := vp_in_of_int h0 h1 h2
          obtain ⟨hE, hsz, hP, hS, hX⟩ := hR
          have hidx : ((i.toNat : Nat) : Int) = i := by omega
          by_cases hqE : EXN ≤ q
          · have hat : (wsA ad cI cJ h)[q - EXN]? = some (ad q, .inl (cJ, n, .inr (.inl (fun j => Int64.ofInt (h.2.2.2 q (j : Int)))))) := by
              rw [wsA_at hqE hq]
              unfold cellA
              rw [hT]
            refine va_lald hx hb hK hP (q - EXN) 1 hat rfl hv hdg ?_
            rw [hcl, hidx]
            exact kk
          · obtain ⟨n', hn', hTT⟩ := hX q (by omega)
            rw [hT] at hn'
            cases hn'
        · cases hs
      · cases hs
    · cases hs
  · cases hs
theorem rel_set {H H1 : Heap} {locs : List Loc} {q j : Nat} {T' : Nat → LK} {M' : Nat → Int → Int} (hA : ∀ q, ad (q + EXN) = base + q) (hbs : base ≤ s.heap.size) (hqE : EXN ≤ q) (hq : q < h.1) (hR : REL base ad D cI cJ s h H locs)
    (hT : ∀ a, a ≠ q → T' a = h.2.2.1 a) (hM : ∀ a, a ≠ q → M' a = h.2.2.2 a) (he : va_at D vwCl (ad q, cellA ad cI cJ T' M' q) H1) (hz : H1.size = H.size) (ho : ∀ x : Nat, x ≠ ad q → H1[x]? = H[x]?) : REL base ad D cI cJ s (h.1, h.2.1, T', M') H1 (locs ++ [⟨ad q, j⟩]) := by
  obtain ⟨hE, hsz, hP, hS, hX⟩ := hR
  have hD := wsA_D (cI := cI) (cJ := cJ) (h := h) hA
  have hat := wsA_at (ad := ad) (cI := cI) (cJ := cJ) hqE hq
  refine ⟨hE, by rw [hz]; exact hsz, ?_, hS.put hz ho (hD.2 _ _ hat), fun a ha => ?_⟩
  · rw [← wsA_set hqE hT hM]
    exact hP.set hD hat he ho
  · have hne : a ≠ q := by omega
    obtain ⟨n, h1, h2⟩ := hX a ha
    refine ⟨n, (hT a hne).trans h1, ?_⟩
    show va_T .int (ad a) n (fun j => .int (Int32.ofInt (M' a (j : Int)))) (ARg base) s s.heap
    rw [hM a hne]
    exact h2
theorem astI_some (hs : astA pc ls st h false = some (pc', ls', st', h')) : ∃ (u i : Int) (q n : Nat), st = vI u :: vI i :: vR q :: st' ∧ EXN ≤ q ∧ q < h.1 ∧ h.2.2.1 q = .inl (false, n) ∧ 0 ≤ i ∧ i < n ∧ n ≤ 2147483647 ∧ pc' = pc ∧ ls' = ls ∧ h' = (h.1, h.2.1, h.2.2.1, up2 h.2.2.2 q i u) := by
  unfold astA at hs
  split at hs
  · split at hs
    · rename_i hq
      split at hs
      · rename_i hT
        split at hs
        · rename_i hc
          cases hs
          exact ⟨_, _, _, _, rfl, hq.1, hq.2, hT, hc.2.1, hc.2.2.1, hc.2.2.2, rfl, rfl, rfl⟩
        · cases hs
      · split at hs
        · rename_i hc
          cases hc.1
        · cases hs
      · cases hs
    · cases hs
  · cases hs
theorem astL_some (hs : astA pc ls st h true = some (pc', ls', st', h')) : ∃ (u i : Int) (q n : Nat), st = vL u :: vI i :: vR q :: st' ∧ EXN ≤ q ∧ q < h.1 ∧ h.2.2.1 q = .inl (true, n) ∧ 0 ≤ i ∧ i < n ∧ n ≤ 2147483647 ∧ pc' = pc ∧ ls' = ls ∧ h' = (h.1, h.2.1, h.2.2.1, up2 h.2.2.2 q i u) := by
  unfold astA at hs
  split at hs
  · split at hs
    · rename_i hq
      split at hs
      · split at hs
        · rename_i hc
          cases hc.1
        · cases hs
      · rename_i hT
        split at hs
        · rename_i hc
          cases hs
          exact ⟨_, _, _, _, rfl, hq.1, hq.2, hT, hc.2.1, hc.2.2.1, hc.2.2.2, rfl, rfl, rfl⟩
        · cases hs
      · cases hs
    · cases hs
  · cases hs
theorem ga_iast (C : CTX base ad D cI cJ p R s m args meth c k d mc ms) (hdg : decode (mt k).2.1 pc = .ok (.iastore, 1)) (hs : astA (pc + 1) ls st h false = some (pc', ls', st', h'))
    (kk : GA base ad D cI cJ p l e R s m args below meth c Q nL pc' ls' st' h' (cells + (h'.1 - h.1)) (slots + (h'.2.1 - h.2.1))) : GA base ad D cI cJ p l e R s m args below meth c Q nL pc ls st h cells slots := by
  obtain ⟨hx, hb, hml, hown, hts, hin, hroom, hK, hA, hbs, hZ, hN⟩ := C
  obtain ⟨u, i, q, n, rfl, hq1, hq2, hT, h0, h1, h2, rfl, rfl, rfl⟩ := astI_some hs
  intro H locs lc hR hL
  obtain ⟨hv, hcl⟩ := vp_in_of_int h0 h1 h2
  have hat : (wsA ad cI cJ h)[q - EXN]? = some (ad q, .inl (cI, n, .inl (fun j => Int32.ofInt (h.2.2.2 q (j : Int))))) := by
    rw [wsA_at hq1 hq2]
    unfold cellA
    rw [hT]
  refine W.iast (x := Int32.ofInt u) (j := Int32.ofInt i) (rest := st'.map (cv ad)) hx hb (hR.2.2.1 (q - EXN) _ hat) ((hK.2 0 _ rfl).1 n (fun j => .int (Int32.ofInt (h.2.2.2 q (j : Int))))) (fun z => by cases z) (by show ¬ (_ ∨ (arrV _ _ _).slots.size ≤ _); rw [arrV_size]; exact hv) rfl rfl hdg fun H1 e1 z oq => ?_
  have kk := kk H1 (locs ++ [⟨ad q, (Int32.ofInt i).toNatClampNeg⟩]) lc (rel_set (T' := h.2.2.1) (M' := up2 h.2.2.2 q i u) hA hbs hq1 hq2 hR (fun _ _ => rfl) (fun a' ha' => funext fun j => if_neg (fun y => ha' y.1)) ?_ z oq) hL
  · rw [Nat.sub_self, Nat.sub_self, Nat.add_zero, Nat.add_zero] at kk
    exact kk
  · unfold cellA
    rw [hT]
    show H1[ad q]? = some (vp_cell _ _)
    rw [e1, vp_cell_i, vp_cell_i, arrV_store]
    congr 2
    funext j
    rw [hcl]
    unfold updV up2
    by_cases hj : j = i.toNat
    · rw [if_pos hj, if_pos ⟨rfl, by omega⟩]
    · rw [if_neg hj, if_neg (fun y => hj (by omega))]
theorem ga_last (C : CTX base ad D cI cJ p R s m args meth c k d mc ms) (hdg : decode (mt k).2.1 pc = .ok (.lastore, 1)) (hs : astA (pc + 1) ls st h true = some (pc', ls', st', h'))
    (kk : GA base ad D cI cJ p l e R s m args below meth c Q nL pc' ls' st' h' (cells + (h'.1 - h.1)) (slots + (h'.2.1 - h.2.1))) : GA base ad D cI cJ p l e R s m args below meth c Q nL pc ls st h cells slots := by
  obtain ⟨hx, hb, hml, hown, hts, hin, hroom, hK, hA, hbs, hZ, hN⟩ := C
  obtain ⟨u, i, q, n, rfl, hq1, hq2, hT, h0, h1, h2, rfl, rfl, rfl⟩ := astL_some hs
  intro H locs lc hR hL
  obtain ⟨hv, hcl⟩ := vp_in_of_int h0 h1 h2
  have hat : (wsA ad cI cJ h)[q - EXN]? = some (ad q, .inl (cJ, n, .inr (.inl (fun j => Int64.ofInt (h.2.2.2 q (j : Int)))))) := by
    rw [wsA_at hq1 hq2]
    unfold cellA
    rw [hT]
  refine W.last (x := Int64.ofInt u) (j := Int32.ofInt i) (rest := st'.map (cv ad)) hx hb (hR.2.2.1 (q - EXN) _ hat) ((hK.2 1 _ rfl).1 n (fun j => .long (Int64.ofInt (h.2.2.2 q (j : Int))))) (fun z => by cases z) (by show ¬ (_ ∨ (arrV _ _ _).slots.size ≤ _); rw [arrV_size]; exact hv) rfl rfl hdg fun H1 e1 z oq => ?_
  have kk := kk H1 (locs ++ [⟨ad q, (Int32.ofInt i).toNatClampNeg⟩]) lc (rel_set (T' := h.2.2.1) (M' := up2 h.2.2.2 q i u) hA hbs hq1 hq2 hR (fun _ _ => rfl) (fun a' ha' => funext fun j => if_neg (fun y => ha' y.1)) ?_ z oq) hL
  · rw [Nat.sub_self, Nat.sub_self, Nat.add_zero, Nat.add_zero] at kk
    exact kk
  · unfold cellA
    rw [hT]
    show H1[ad q]? = some (vp_cell _ _)
    rw [e1, vp_cell_l, vp_cell_l, arrV_store]
    congr 2
    funext j
    rw [hcl]
    unfold updV up2
    by_cases hj : j = i.toNat
    · rw [if_pos hj, if_pos ⟨rfl, by omega⟩]
    · rw [if_neg hj, if_neg (fun y => hj (by omega))]
end SIMP
end
section
section SIMP2
variable {base : Nat} {ad : Nat → Nat} {D : va_G} {cI cJ : ClassId} {p : Program} {l : Launch} {e : Env} {R : Room} {s : State} {m : MethodId} {args : Array Value} {below : List Frame} {meth : Method} {c : Code} {Q : State → Prop} {k d mc ms nL pc pc' len a b cc w cells slots : Nat} {ls ls' : LoA} {st st' : List AV} {h h' : HP}
theorem fvA_at {M : Int → Int} {fs : List (Option (Option Nat))} {j : Nat} {f : Option (Option Nat)} (hf : fs[j]? = some f) : (fvA ad M fs)[j]? = some (fv1 ad (M (j : Int)) f) := by
  unfold fvA
  rw [List.getElem?_mapIdx, hf]
  rfl
theorem fld_lnk {x0 : Nat} (hk : k < nm) {i : Jvm.ClassFile.Instr} (he : cd k pc = some (i, len, a, b, cc, w)) (hx : lkI i a = some (x0, 0)) : ∃ (C : String) (T : u_T) (N : Nat), vwCl[a]? = some (C, T, N) ∧ b < N ∧ Cond.fieldLink (cnm (mt k).2.2.2.2.2.2) x0 (T b).1 (T b).2.1 (T b).2.2.1 ∈ lw_G ∧ kndF cc (parseFieldDescriptor (T b).2.2.1) = true ∧ (T b).2.2.2 = decide (4 ≤ cc) ∧ (T b).1 = C := by
  obtain ⟨h1, h2⟩ := ent_lnk hk he hx
  unfold OkL at h2
  rw [h1] at h2
  exact h2
theorem ga_get {x0 : Nat} (C : CTX base ad D cI cJ p R s m args meth c k d mc ms) (hk : k < nm) (he : cd k pc = some (.getfield x0, len, a, b, cc, w)) (hs : getA a b (pc + 3) ls st h = some (pc', ls', st', h'))
    (kk : GA base ad D cI cJ p l e R s m args below meth c Q nL pc' ls' st' h' (cells + (h'.1 - h.1)) (slots + (h'.2.1 - h.2.1))) : GA base ad D cI cJ p l e R s m args below meth c Q nL pc ls st h cells slots := by
  obtain ⟨hx, hb, hml, hown, hts, hin, hroom, hK, hA, hbs, hZ, hN⟩ := C
  have hdg := ent_1 3 hk he rfl
  obtain ⟨Cn, T, N, hvw, hbN, hl, -, -, -⟩ := fld_lnk hk he rfl
  obtain ⟨ty, hty, hnm, hws, -⟩ := clsOk_all hvw
  unfold getA at hs
  split at hs
  · rename_i q t
    split at hs
    · rename_i hq
      split at hs
      · rename_i ci fs hT
        split at hs
        · rename_i hc
          subst hc
          have hat : (wsA ad cI cJ h)[q - EXN]? = some (ad q, .inr (ci, fvA ad (h.2.2.2 q) fs)) := by
            rw [wsA_at hq.1 hq.2]
            unfold cellA
            rw [hT]
          split at hs
          · rename_i hf
            cases hs
            refine ga_same (fun H locs lc hR hL kk => ?_) kk
            exact va_get (D := D) (ci := ci) (C := Cn) (T := T) (N := N) hx hb hts hws hown hK hR.2.2.1 (q - EXN) hat hvw b hbN (hts _ hl) (fun _ h9 => h9) (fvA_at hf) hdg (kk lc hL)
          · rename_i r hf
            cases hs
            refine ga_same (fun H locs lc hR hL kk => ?_) kk
            exact va_get (D := D) (ci := ci) (C := Cn) (T := T) (N := N) hx hb hts hws hown hK hR.2.2.1 (q - EXN) hat hvw b hbN (hts _ hl) (fun _ h9 => h9) (fvA_at hf) hdg (kk lc hL)
          · cases hs
        · cases hs
      · cases hs
    · cases hs
  · cases hs
/-- a field is written: the new cell, nothing else -/
theorem put_row {x0 q : Nat} {H : Heap} {locs : List Loc} {lc : Array Slot} {fs : List (Option (Option Nat))} {rest : List Value} {v : Value} {Cn : String} {T : u_T} {N : Nat} {ty : FieldType} (C : CTX base ad D cI cJ p R s m args meth c k d mc ms) (hdg : decode (mt k).2.1 pc = .ok (.putfield x0, 3))
    (hvw : vwCl[a]? = some (Cn, T, N)) (hbN : b < N) (hl : Cond.fieldLink (cnm (mt k).2.2.2.2.2.2) x0 (T b).1 (T b).2.1 (T b).2.2.1 ∈ lw_G) (hd : parseFieldDescriptor (T b).2.2.1 = some ty) (hn : narrow ty v = v) (hfit : fits ty v = true) (hfin : (T b).2.2.2 = false ∨ ((T b).2.2.2 = true ∧ meth.name = "<init>" ∧ (T b).1 = cnm (mt k).2.2.2.2.2.2))
    (hq : EXN ≤ q ∧ q < h.1) (hT : h.2.2.1 q = .inr (a, fs)) (hbf : b < fs.length) (hR : REL base ad D cI cJ s h H locs)
    (kk : ∀ (H1 : Heap) (j : Nat), va_at D vwCl (ad q, .inr (a, (fvA ad (h.2.2.2 q) fs).set b v)) H1 → H1.size = H.size → (∀ z : Nat, z ≠ ad q → H1[z]? = H[z]?) → W p l e R s m args below meth c H1 (locs ++ [⟨ad q, j⟩]) cells slots Q (F0 m (pc + 3) lc rest)) :
    W p l e R s m args below meth c H locs cells slots Q (F0 m pc lc (v :: .ref (ad q) :: rest)) := by
  obtain ⟨hx, hb, hml, hown, hts, hin, hroom, hK, hA, hbs, hZ, hN⟩ := C
  obtain ⟨ty0, hty, hnm, hws, -⟩ := clsOk_all hvw
  have hap := va_apart (own := cnm (mt k).2.2.2.2.2.2) hts hws ty0 hty hnm hK hvw
  have hat : (wsA ad cI cJ h)[q - EXN]? = some (ad q, .inr (a, fvA ad (h.2.2.2 q) fs)) := by
    rw [wsA_at hq.1 hq.2]
    unfold cellA
    rw [hT]
  obtain ⟨r, h1, cell, q1, q2, q3, q4⟩ := hR.2.2.1 (q - EXN) _ hat
  have hr : r = (Cn, T, N) := Option.some.inj (h1.symm.trans hvw)
  subst hr
  obtain ⟨hS, hfc, kC, hkC, hkind⟩ := hK.1 a _ hvw
  obtain ⟨cf, kf, fi, f, hi, hsl⟩ := hS b hbN
  have hlay := hts _ (hws _ (u_in_lay hbN))
  have hst := (u_facts hfc hkC (u_lays hts hws hbN) hi).1
  have hlen : b < (fvA ad (h.2.2.2 q) fs).length := by unfold fvA; rw [List.length_mapIdx]; exact hbf
  unfold u_lay at hlay
  rcases hfin with hfin | ⟨hfin, hin2, hdecl⟩
  · rw [if_neg (by rw [hfin]; decide)] at hlay
    have h6 := u_store hfc hkC hkind hlay hi hd hn hfit
    refine W.putK hx hb (f := f) ⟨hown, hts _ hl, ⟨_, _, _, hi⟩, hst⟩ (by rw [q2]; exact h6) q1 q3 (by rw [hsl]; exact k2_hasslot (q4 b hbN)) rfl rfl hdg fun H' e1 e2 e3 => ?_
    rw [hsl] at e1 ⊢
    exact kk H' _ ⟨_, hvw, t_OB.to (V := updV (vp_V (fvA ad (h.2.2.2 q) fs)) b v) ⟨_, e1, q2, q3, t_set q4 hap hbN v⟩ (fun j _ => vp_updV_set hlen v j)⟩ e2 e3
  · rw [if_pos hfin] at hlay
    have hcf : m.cls = cf := by
      obtain ⟨_, _, c', _, _, _, -, -, hf', -, -, -, hown2, -⟩ := Cond.laysFinal_spec hlay
      have e1 : c' = cf := by have := hi.symm.trans hf'; simp at this; exact this.1.symm
      rw [hdecl] at hown2
      rw [← e1]; exact Option.some.inj (hown.symm.trans hown2)
    have h6 := u_fits hfc hkC hkind (Or.inr hlay) hi hd hn hfit
    refine W.putFinK hx hb hown (hts _ hl) hi hst hcf hin2 (by rw [q2]; exact h6) q1 q3 (by rw [hsl]; exact k2_hasslot (q4 b hbN)) rfl rfl hdg fun H' e1 e2 e3 => ?_
    rw [hsl] at e1 ⊢
    exact kk H' _ ⟨_, hvw, t_OB.to (V := updV (vp_V (fvA ad (h.2.2.2 q) fs)) b v) ⟨_, e1, q2, q3, t_set q4 hap hbN v⟩ (fun j _ => vp_updV_set hlen v j)⟩ e2 e3
theorem fvA_setN {M : Int → Int} {fs : List (Option (Option Nat))} {j : Nat} {u : Int} (hf : fs[j]? = some none) : (fvA ad M fs).set j (.int (Int32.ofInt u)) = fvA ad (fun i => if i = (j : Int) then u else M i) fs := by
  apply List.ext_getElem?
  intro i
  have hj : j < fs.length := (List.getElem?_eq_some_iff.mp hf).1
  unfold fvA
  by_cases he : j = i
  · subst he
    rw [List.getElem?_set_self (by rw [List.length_mapIdx]; exact hj), List.getElem?_mapIdx, hf, Option.map_some]
    show some (Value.int (Int32.ofInt u)) = some (fv1 ad (if (j : Int) = (j : Int) then u else M j) none)
    rw [if_pos rfl]
    rfl
  · rw [List.getElem?_set_ne he, List.getElem?_mapIdx, List.getElem?_mapIdx]
    dsimp only
    rw [if_neg (by omega)]
theorem fvA_setR {M : Int → Int} {fs : List (Option (Option Nat))} {j : Nat} {r : Option Nat} (hj : j < fs.length) : (fvA ad M fs).set j (cv ad (.inr r)) = fvA ad M (fs.set j (some r)) := by
  apply List.ext_getElem?
  intro i
  unfold fvA
  by_cases he : j = i
  · subst he
    rw [List.getElem?_set_self (by rw [List.length_mapIdx]; exact hj), List.getElem?_mapIdx, List.getElem?_set_self hj, Option.map_some]
    rfl
  · rw [List.getElem?_set_ne he, List.getElem?_mapIdx, List.getElem?_mapIdx, List.getElem?_set_ne he]
theorem vw_cnm {ci : Nat} {C : String} {T : u_T} {N : Nat} (h : vwCl[ci]? = some (C, T, N)) : C = cnm ci := by
  match ci, h with
  | 0, h => cases h; rfl
  | 1, h => cases h; rfl
  | 2, h => cases h; rfl
  | 3, h => cases h; rfl
  | 4, h => cases h; rfl
  | 5, h => cases h; rfl
  | 6, h => cases h; rfl
  | 7, h => cases h; rfl
  | 8, h => cases h; rfl
  | 9, h => cases h; rfl
  | n + 10, h => cases h
theorem knd_int {cc : Nat} {t : Option FieldType} (h : kndF cc t = true) : (cc % 4 = 0 → t = some .int) ∧ (cc % 4 = 1 → t = some .boolean) ∧ (cc % 4 = 2 → (∃ n, t = some (.object n)) ∨ ∃ y, t = some (.array y)) := by
  unfold kndF at h
  split at h
  · rename_i h0; exact ⟨fun _ => rfl, fun z => by omega, fun z => by omega⟩
  · rename_i h0; exact ⟨fun z => by omega, fun _ => rfl, fun z => by omega⟩
  · rename_i h0; exact ⟨fun z => by omega, fun z => by omega, fun _ => Or.inl ⟨_, rfl⟩⟩
  · rename_i h0; exact ⟨fun z => by omega, fun z => by omega, fun _ => Or.inr ⟨_, rfl⟩⟩
  · cases h
theorem putA_some {ini : Bool} (hs : putA ini a b cc pc ls st h = some (pc', ls', st', h')) : ∃ (q : Nat) (fs : List (Option (Option Nat))), EXN ≤ q ∧ q < h.1 ∧ (4 ≤ cc → ini = true) ∧ h.2.2.1 q = .inr (a, fs) ∧ pc' = pc ∧ ls' = ls ∧
    ((∃ u : Int, st = vI u :: vR q :: st' ∧ fs[b]? = some none ∧ (cc % 4 = 0 ∨ (cc % 4 = 1 ∧ (u = 0 ∨ u = 1))) ∧ h' = (h.1, h.2.1, h.2.2.1, up2 h.2.2.2 q b u)) ∨
     (∃ (r : Option Nat) (r0 : Option Nat), st = .inr r :: vR q :: st' ∧ fs[b]? = some (some r0) ∧ cc % 4 = 2 ∧ h' = (h.1, h.2.1, upT h.2.2.1 q (.inr (a, fs.set b (some r))), h.2.2.2))) := by
  unfold putA at hs
  split at hs
  · split at hs
    · rename_i hq
      split at hs
      · rename_i hT
        split at hs
        · rename_i hc
          subst hc
          split at hs
          · rename_i hf
            split at hs
            · rename_i hkx
              cases hs
              exact ⟨_, _, hq.1, hq.2.1, hq.2.2, hT, rfl, rfl, Or.inl ⟨_, rfl, hf, hkx, rfl⟩⟩
            · cases hs
          · rename_i hf
            split at hs
            · rename_i hkx
              cases hs
              exact ⟨_, _, hq.1, hq.2.1, hq.2.2, hT, rfl, rfl, Or.inr ⟨_, _, rfl, hf, hkx, rfl⟩⟩
            · cases hs
          · cases hs
        · cases hs
      · cases hs
    · cases hs
  · cases hs
theorem ga_put {x0 : Nat} (C : CTX base ad D cI cJ p R s m args meth c k d mc ms) (hk : k < nm) (he : cd k pc = some (.putfield x0, len, a, b, cc, w)) (hs : putA (decide ((mt k).2.2.2.2.2.1 = 2 ∧ (mt k).2.2.2.2.2.2 = a)) a b cc (pc + 3) ls st h = some (pc', ls', st', h'))
    (kk : GA base ad D cI cJ p l e R s m args below meth c Q nL pc' ls' st' h' (cells + (h'.1 - h.1)) (slots + (h'.2.1 - h.2.1))) : GA base ad D cI cJ p l e R s m args below meth c Q nL pc ls st h cells slots := by
  have C0 := C
  obtain ⟨hx, hb, hml, hown, hts, hin, hroom, hK, hA, hbs, hZ, hN⟩ := C0
  have hdg := ent_1 3 hk he rfl
  obtain ⟨Cn, T, N, hvw, hbN, hl, hkd, hfi, hdc⟩ := fld_lnk hk he rfl
  have hkd := knd_int hkd
  have hCn := vw_cnm hvw
  obtain ⟨q, fs, hq1, hq2, hq3, hT, e1, e2, hq9⟩ := putA_some hs
  clear hs
  subst e1
  subst e2
  have hfin : (T b).2.2.2 = false ∨ ((T b).2.2.2 = true ∧ meth.name = "<init>" ∧ (T b).1 = cnm (mt k).2.2.2.2.2.2) := by
    by_cases h4 : 4 ≤ cc
    · have h5 := of_decide_eq_true (hq3 h4)
      exact Or.inr ⟨by rw [hfi]; exact decide_eq_true h4, hin h5.1, by rw [hdc, hCn, h5.2]⟩
    · exact Or.inl (by rw [hfi]; exact decide_eq_false h4)
  rcases hq9 with ⟨u, rfl, hf, hkx, rfl⟩ | ⟨r, r0, rfl, hf, hkx, rfl⟩
  · intro H locs lc hR hL
    have hbf : b < fs.length := (List.getElem?_eq_some_iff.mp hf).1
    have fin : ∀ ty : FieldType, parseFieldDescriptor (T b).2.2.1 = some ty → narrow ty (.int (Int32.ofInt u)) = .int (Int32.ofInt u) → fits ty (.int (Int32.ofInt u)) = true → W p l e R s m args below meth c H locs cells slots Q (F0 m pc lc ((vI u :: vR q :: st' : List AV).map (cv ad))) := by
      intro ty hd hn hfit
      refine put_row (v := .int (Int32.ofInt u)) C hdg hvw hbN hl hd hn hfit hfin ⟨hq1, hq2⟩ hT hbf hR (fun H1 j ha hz ho => ?_)
      have kk := kk H1 (locs ++ [⟨ad q, j⟩]) lc (rel_set (T' := h.2.2.1) (M' := up2 h.2.2.2 q b u) hA hbs hq1 hq2 hR (fun _ _ => rfl) (fun a' ha' => funext fun j => if_neg (fun y => ha' y.1)) ?_ hz ho) hL
      · rw [Nat.sub_self, Nat.sub_self, Nat.add_zero, Nat.add_zero] at kk
        exact kk
      · rw [fvA_setN hf] at ha
        unfold cellA
        rw [hT]
        show va_at D vwCl (ad q, .inr (a, fvA ad (up2 h.2.2.2 q b u q) fs)) H1
        rw [show up2 h.2.2.2 q b u q = (fun i => if i = (b : Int) then u else h.2.2.2 q i) from funext fun i => by unfold up2; by_cases hi : i = (b : Int) <;> simp [hi]]
        exact ha
    rcases hkx with h0 | ⟨h1, hu⟩
    · exact fin .int (hkd.1 h0) rfl rfl
    · refine fin .boolean (hkd.2.1 h1) ?_ ?_
      · rcases hu with rfl | rfl <;> decide
      · rcases hu with rfl | rfl <;> decide
  · intro H locs lc hR hL
    have hbf : b < fs.length := (List.getElem?_eq_some_iff.mp hf).1
    have fin : ∀ ty : FieldType, parseFieldDescriptor (T b).2.2.1 = some ty → narrow ty (cv ad (.inr r)) = cv ad (.inr r) → fits ty (cv ad (.inr r)) = true → W p l e R s m args below meth c H locs cells slots Q (F0 m pc lc ((.inr r :: vR q :: st' : List AV).map (cv ad))) := by
      intro ty hd hn hfit
      refine put_row (v := cv ad (.inr r)) C hdg hvw hbN hl hd hn hfit hfin ⟨hq1, hq2⟩ hT hbf hR (fun H1 j ha hz ho => ?_)
      have kk := kk H1 (locs ++ [⟨ad q, j⟩]) lc (rel_set (T' := upT h.2.2.1 q (.inr (a, fs.set b (some r)))) (M' := h.2.2.2) hA hbs hq1 hq2 hR (fun a' ha' => if_neg ha') (fun _ _ => rfl) ?_ hz ho) hL
      · rw [Nat.sub_self, Nat.sub_self, Nat.add_zero, Nat.add_zero] at kk
        exact kk
      · rw [fvA_setR hbf] at ha
        unfold cellA
        rw [show upT h.2.2.1 q (.inr (a, fs.set b (some r))) q = .inr (a, fs.set b (some r)) from if_pos rfl]
        exact ha
    rcases hkd.2.2 hkx with ⟨n, hn⟩ | ⟨y, hn⟩
    · refine fin _ hn ?_ ?_ <;> cases r <;> rfl
    · refine fin _ hn ?_ ?_ <;> cases r <;> rfl
end SIMP2
end
section
section SIMP3
variable {base : Nat} {ad : Nat → Nat} {D : va_G} {cI cJ : ClassId} {p : Program} {l : Launch} {e : Env} {R : Room} {s : State} {m : MethodId} {args : Array Value} {below : List Frame} {meth : Method} {c : Code} {Q : State → Prop} {k d mc ms nL pc pc' len a b cc w cells slots : Nat} {ls ls' : LoA} {st st' : List AV} {h h' : HP}
theorem ad_top (hA : ∀ q, ad (q + EXN) = base + q) {H : Heap} {locs : List Loc} (hR : REL base ad D cI cJ s h H locs) : ad h.1 = H.size := by
  have h1 := hA (h.1 - EXN)
  have h2 := hR.1
  have h3 := hR.2.1
  rw [show h.1 - EXN + EXN = h.1 by omega] at h1
  omega
theorem rel_push {H H1 : Heap} {locs : List Loc} {cl : LK} {z : Nat} (hR : REL base ad D cI cJ s h H locs) (hz : H1.size = H.size + 1) (ho : ∀ q : Nat, q < H.size → H1[q]? = H[q]?)
    (he : va_at D vwCl (ad h.1, cellA ad cI cJ (upT h.2.2.1 h.1 cl) (upM h.2.2.2 h.1) h.1) H1) : REL base ad D cI cJ s (h.1 + 1, h.2.1 + z, upT h.2.2.1 h.1 cl, upM h.2.2.2 h.1) H1 locs := by
  obtain ⟨hE, hsz, hP, hS, hX⟩ := hR
  have tT : ∀ q, q < h.1 → upT h.2.2.1 h.1 cl q = h.2.2.1 q := fun q hq => if_neg (by omega)
  have tM : ∀ q, q < h.1 → upM h.2.2.2 h.1 q = h.2.2.2 q := fun q hq => funext fun j => if_neg (by omega)
  refine ⟨by show EXN ≤ h.1 + 1; omega, by show H1.size + EXN = base + (h.1 + 1); omega, ?_, ⟨Nat.le_trans hS.1 (by omega), fun q h1 h2 => (ho q (Nat.lt_of_lt_of_le h1 hS.1)).trans (hS.2.1 q h1 h2), hS.2.2⟩, fun q hq => ?_⟩
  · rw [← wsA_push (z := h.2.1 + z) hE tT tM]
    refine (hP.kept (fun q y hy => ho y.1 (hP q y hy).lt)).app (fun q y hy => ?_)
    match q, hy with
    | 0, hy => cases hy; exact he
    | q + 1, hy => cases hy
  · obtain ⟨n, h1, h2⟩ := hX q hq
    refine ⟨n, (tT q (by omega)).trans h1, ?_⟩
    show va_T .int (ad q) n (fun j => .int (Int32.ofInt (upM h.2.2.2 h.1 q (j : Int)))) (ARg base) s s.heap
    rw [tM q (by omega)]
    exact h2
theorem upM_self (M : Nat → Int → Int) (n : Nat) : upM M n n = fun _ => 0 := funext fun _ => if_pos rfl
theorem ga_new {x0 : Nat} (C : CTX base ad D cI cJ p R s m args meth c k d mc ms) (hk : k < nm) (he : cd k pc = some (.new x0, len, a, b, cc, w)) (hs : newA (pc + 3) ls st h (.inr (a, nfl.getD a [])) b = some (pc', ls', st', h')) (hc : cells + (h'.1 - h.1) ≤ mc) (hsl : slots + (h'.2.1 - h.2.1) ≤ ms)
    (kk : GA base ad D cI cJ p l e R s m args below meth c Q nL pc' ls' st' h' (cells + (h'.1 - h.1)) (slots + (h'.2.1 - h.2.1))) : GA base ad D cI cJ p l e R s m args below meth c Q nL pc ls st h cells slots := by
  obtain ⟨hx, hb, hml, hown, hts, hin, hroom, hK, hA, hbs, hZ, hN⟩ := C
  have hdg := ent_1 3 hk he rfl
  obtain ⟨h1, h2⟩ := ent_lnk hk he rfl
  unfold OkL at h2
  rw [h1] at h2
  obtain ⟨Cn, T, hvw, hcl⟩ := h2
  obtain ⟨ty, hty, hnm, hws, hinst, hini, hlen, hdef⟩ := clsOk_all hvw
  have hKn := hK.1 a _ hvw
  unfold newA at hs
  cases hs
  dsimp only at hc hsl kk
  rw [show h.1 + 1 - h.1 = 1 by omega] at hc kk
  rw [show h.2.1 + b - h.2.1 = b by omega] at hsl kk
  intro H locs lc hR hL
  have ht := ad_top hA hR
  refine W.newcK hx hb hown (hts _ hcl) (hts _ hinst) (hts _ hini) rfl hdg (by omega) (by omega) hKn.2.1 rfl fun H1 kC hkC e1 z1 o1 => ?_
  have kk := kk H1 locs lc (rel_push (cl := .inr (a, nfl.getD a [])) (z := b) hR z1 o1 ?_) hL
  · rw [List.map_cons, show cv ad (vR h.1) = .ref H.size from congrArg Value.ref ht] at kk
    exact kk
  · unfold cellA
    rw [show upT h.2.2.1 h.1 (.inr (a, nfl.getD a [])) h.1 = .inr (a, nfl.getD a []) from if_pos rfl, upM_self]
    refine ⟨_, hvw, ?_⟩
    rw [ht]
    exact (u_born ty hts hws hKn hkC e1 hty).to (fun j hj => hdef ad j hj)
theorem clampA_of {z : Int} (h0 : 0 ≤ z) (h1 : z ≤ 67108864) : ¬ Int32.ofInt z < 0 ∧ (Int32.ofInt z).toNatClampNeg = z.toNat := by
  have e1 : (Int32.ofInt z).toInt = z := Int32.toInt_ofInt_of_le (by omega) (by omega)
  refine ⟨fun q => ?_, ?_⟩
  · have q := w32_lt0.mp q
    unfold w32 at q
    omega
  · show (Int32.ofInt z).toInt.toNat = z.toNat
    rw [e1]
theorem newaA_some {t : ArrayType} {dp0 in0 : Bool} (hs : simpA dp0 in0 (.newarray t) a b cc pc ls st h = some (pc', ls', st', h')) : ∃ (z : Int) (r : List AV), st = vI z :: r ∧ 0 ≤ z ∧ z ≤ 67108864 ∧ pc' = pc + 2 ∧ ls' = ls ∧ st' = vR h.1 :: r ∧
    ((t = .int ∧ h' = (h.1 + 1, h.2.1 + z.toNat, upT h.2.2.1 h.1 (.inl (false, z.toNat)), upM h.2.2.2 h.1)) ∨ (t = .long ∧ h' = (h.1 + 1, h.2.1 + z.toNat, upT h.2.2.1 h.1 (.inl (true, z.toNat)), upM h.2.2.2 h.1))) := by
  unfold simpA at hs
  dsimp only at hs
  split at hs
  · split at hs
    · rename_i hz
      split at hs
      · unfold newA at hs
        cases hs
        exact ⟨_, _, rfl, hz.1, hz.2, rfl, rfl, rfl, Or.inl ⟨rfl, rfl⟩⟩
      · unfold newA at hs
        cases hs
        exact ⟨_, _, rfl, hz.1, hz.2, rfl, rfl, rfl, Or.inr ⟨rfl, rfl⟩⟩
      · cases hs
    · cases hs
  · cases hs
theorem ga_newa {t : ArrayType} {dp0 in0 : Bool} (C : CTX base ad D cI cJ p R s m args meth c k d mc ms) (hdg : decode (mt k).2.1 pc = .ok (.newarray t, 2)) (hs : simpA dp0 in0 (.newarray t) a b cc pc ls st h = some (pc', ls', st', h')) (hc : cells + (h'.1 - h.1) ≤ mc) (hsl : slots + (h'.2.1 - h.2.1) ≤ ms)
    (kk : GA base ad D cI cJ p l e R s m args below meth c Q nL pc' ls' st' h' (cells + (h'.1 - h.1)) (slots + (h'.2.1 - h.2.1))) : GA base ad D cI cJ p l e R s m args below meth c Q nL pc ls st h cells slots := by
  obtain ⟨hx, hb, hml, hown, hts, hin, hroom, hK, hA, hbs, hZ, hN⟩ := C
  obtain ⟨z, r, rfl, h0, h1, rfl, rfl, rfl, hq⟩ := newaA_some hs
  obtain ⟨hn0, hn1⟩ := clampA_of h0 h1
  have hb8 : z.toNat * 8 ≤ 536870912 := by omega
  rcases hq with ⟨rfl, rfl⟩ | ⟨rfl, rfl⟩
  · dsimp only at hc hsl kk
    rw [show h.1 + 1 - h.1 = 1 by omega] at hc kk
    rw [show h.2.1 + z.toNat - h.2.1 = z.toNat by omega] at hsl kk
    intro H locs lc hR hL
    have ht := ad_top hA hR
    refine va_newaK (atype := .int) (n := Int32.ofInt z) (rest := r.map (cv ad)) hx hb (hts _ ac_int) rfl hdg rfl hn0 hn1 (by show z.toNat * 4 ≤ _; omega) (by omega) (by omega) rfl fun H1 cA e1 z1 o1 hAr hNm => ?_
    have hcA : cI = cA := Option.some.inj ((hK.2 0 _ rfl).2.symm.trans hNm)
    subst hcA
    have kk := kk H1 locs lc (rel_push (cl := .inl (false, z.toNat)) (z := z.toNat) hR z1 o1 ?_) hL
    · rw [List.map_cons, show cv ad (vR h.1) = .ref H.size from congrArg Value.ref ht] at kk
      exact kk
    · unfold cellA
      rw [show upT h.2.2.1 h.1 (.inl (false, z.toNat)) h.1 = .inl (false, z.toNat) from if_pos rfl, upM_self]
      show H1[ad h.1]? = some _
      rw [ht]
      exact e1
  · dsimp only at hc hsl kk
    rw [show h.1 + 1 - h.1 = 1 by omega] at hc kk
    rw [show h.2.1 + z.toNat - h.2.1 = z.toNat by omega] at hsl kk
    intro H locs lc hR hL
    have ht := ad_top hA hR
    refine va_newaK (atype := .long) (n := Int32.ofInt z) (rest := r.map (cv ad)) hx hb (hts _ ac_long) rfl hdg rfl hn0 hn1 (by show z.toNat * 8 ≤ _; omega) (by omega) (by omega) rfl fun H1 cA e1 z1 o1 hAr hNm => ?_
    have hcA : cJ = cA := Option.some.inj ((hK.2 1 _ rfl).2.symm.trans hNm)
    subst hcA
    have kk := kk H1 locs lc (rel_push (cl := .inl (true, z.toNat)) (z := z.toNat) hR z1 o1 ?_) hL
    · rw [List.map_cons, show cv ad (vR h.1) = .ref H.size from congrArg Value.ref ht] at kk
      exact kk
    · unfold cellA
      rw [show upT h.2.2.1 h.1 (.inl (true, z.toNat)) h.1 = .inl (true, z.toNat) from if_pos rfl, upM_self]
      show H1[ad h.1]? = some _
      rw [ht]
      exact e1
theorem cat_sum (r : List AV) : ((r.map (cv ad)).map fun v => v.category).sum ≤ 2 * r.length := by
  induction r with
  | nil => exact Nat.le_refl _
  | cons v t ih =>
    rw [List.map_cons, List.map_cons, List.sum_cons, List.length_cons]
    have h1 : (cv ad v).category ≤ 2 := by rcases lv_cat (cv ad v) with q | q <;> omega
    omega
end SIMP3
end
section
section SIMP4
variable {base : Nat} {ad : Nat → Nat} {D : va_G} {cI cJ : ClassId} {p : Program} {l : Launch} {e : Env} {R : Room} {s : State} {m : MethodId} {args : Array Value} {below : List Frame} {meth : Method} {c : Code} {Q : State → Prop} {k d mc ms nL pc pc' len a b cc w cells slots : Nat} {ls ls' : LoA} {st st' : List AV} {h h' : HP}
theorem of_nat32 (n : Nat) : Int32.ofInt (n : Int) = Int32.ofNat n := rfl
theorem of_nat64 (n : Nat) : Int64.ofInt (n : Int) = Int64.ofNat n := rfl
theorem of_8 {z : Int} (h0 : -128 ≤ z) (h1 : z < 128) : (Int8.ofInt z).toInt32 = Int32.ofInt z := by
  apply Int32.toInt_inj.mp
  rw [Int8.toInt_toInt32, Int8.toInt_ofInt_of_le (by omega) (by omega), Int32.toInt_ofInt_of_le (by omega) (by omega)]
theorem of_16 {z : Int} (h0 : -32768 ≤ z) (h1 : z < 32768) : (Int16.ofInt z).toInt32 = Int32.ofInt z := by
  apply Int32.toInt_inj.mp
  rw [Int16.toInt_toInt32, Int16.toInt_ofInt_of_le (by omega) (by omega), Int32.toInt_ofInt_of_le (by omega) (by omega)]
theorem ga_alen (C : CTX base ad D cI cJ p R s m args meth c k d mc ms) (hdg : decode (mt k).2.1 pc = .ok (.arraylength, 1)) (hs : alenA (pc + 1) ls st h = some (pc', ls', st', h'))
    (kk : GA base ad D cI cJ p l e R s m args below meth c Q nL pc' ls' st' h' (cells + (h'.1 - h.1)) (slots + (h'.2.1 - h.2.1))) : GA base ad D cI cJ p l e R s m args below meth c Q nL pc ls st h cells slots := by
  obtain ⟨hx, hb, hml, hown, hts, hin, hroom, hK, hA, hbs, hZ, hN⟩ := C
  have inv : ∃ (q : Nat) (t : List AV) (lg : Bool) (n : Nat), st = vR q :: t ∧ q < h.1 ∧ h.2.2.1 q = .inl (lg, n) ∧ n ≤ 2147483647 ∧ pc' = pc + 1 ∧ ls' = ls ∧ st' = vI n :: t ∧ h' = h := by
    unfold alenA at hs
    split at hs
    · split at hs
      · rename_i hq
        split at hs
        · rename_i hT
          split at hs
          · rename_i hn
            cases hs
            exact ⟨_, _, _, _, rfl, hq, hT, hn, rfl, rfl, rfl, rfl⟩
          · cases hs
        · cases hs
      · cases hs
    · cases hs
  obtain ⟨q, t, lg, n, rfl, hq, hT, hn, rfl, rfl, rfl, rfl⟩ := inv
  refine ga_same (fun H locs lc hR hL kk => ?_) kk
  have kk := kk lc hL
  obtain ⟨hE, hsz, hP, hS, hX⟩ := hR
  by_cases hqE : EXN ≤ q
  · cases lg
    · have hat : (wsA ad cI cJ h')[q - EXN]? = some (ad q, .inl (cI, n, .inl (fun j => Int32.ofInt (h'.2.2.2 q (j : Int))))) := by
        rw [wsA_at hqE hq]
        unfold cellA
        rw [hT]
      exact va_alen hx hb hK hP (q - EXN) 0 hat rfl (of_nat32 n).symm hdg kk
    · have hat : (wsA ad cI cJ h')[q - EXN]? = some (ad q, .inl (cJ, n, .inr (.inl (fun j => Int64.ofInt (h'.2.2.2 q (j : Int)))))) := by
        rw [wsA_at hqE hq]
        unfold cellA
        rw [hT]
      exact va_alen hx hb hK hP (q - EXN) 1 hat rfl (of_nat32 n).symm hdg kk
  · obtain ⟨n', hn', hTT⟩ := hX q (by omega)
    rw [hT] at hn'
    cases hn'
    have hTT := hTT.kept (H1 := H) (fun z hz1 hz2 => hS.2.1 z hz1 hz2)
    obtain ⟨cell, g1, g2, g3, g4, g5, g6, g7⟩ := hTT
    exact W.alen hx hb g1 g2 (g5.trans (of_nat32 n).symm) rfl rfl hdg kk
theorem ga_stat {x0 : Nat} (C : CTX base ad D cI cJ p R s m args meth c k d mc ms) (hk : k < nm) (he : cd k pc = some (.getstatic x0, len, a, b, cc, w))
    (kk : GA base ad D cI cJ p l e R s m args below meth c Q nL (pc + 3) ls (vR a :: st) h (cells + (h.1 - h.1)) (slots + (h.2.1 - h.2.1))) : GA base ad D cI cJ p l e R s m args below meth c Q nL pc ls st h cells slots := by
  obtain ⟨hx, hb, hml, hown, hts, hin, hroom, hK, hA, hbs, hZ, hN⟩ := C
  have hdg := ent_1 3 hk he rfl
  obtain ⟨h1, h2⟩ := ent_lnk hk he rfl
  unfold OkL at h2
  rw [h1] at h2
  obtain ⟨a1, a2, hl⟩ := h2
  refine ga_same (fun H locs lc hR hL kk => ?_) kk
  exact va_gets hx hb (hZ a a1 a2) hR.2.2.2.1 hown (hts _ hl) (fun _ h9 => h9) hdg (kk lc hL)
theorem ga_obj {x0 : Nat} {q : Nat} {t : List AV} (C : CTX base ad D cI cJ p R s m args meth c k d mc ms) (hnL : nL = (mt k).2.2.1) (hk : k < nm) (he : cd k pc = some (.invokespecial x0, len, 9999, b, cc, w)) (hd : 0 < d) (ht : t.length ≤ 4)
    (kk : GA base ad D cI cJ p l e R s m args below meth c Q nL (pc + 3) ls t h (cells + (h.1 - h.1)) (slots + (h.2.1 - h.2.1))) : GA base ad D cI cJ p l e R s m args below meth c Q nL pc ls (vR q :: t) h cells slots := by
  obtain ⟨hx, hb, hml, hown, hts, hin, hroom, hK, hA, hbs, hZ, hN⟩ := C
  have hdg := ent_1 3 hk he rfl
  obtain ⟨h1, h2⟩ := ent_lnk hk he rfl
  unfold OkL at h2
  rw [h1] at h2
  refine ga_same (fun H locs lc hR hL kk => ?_) kk
  have hcs := cat_sum (ad := ad) t
  exact W.objInit hx hb hown (hts _ h2) (hts _ oi_inst) (hts _ oi_code) rfl (by rw [hml, ← hnL]; exact hL.1) rfl hdg (by omega) (by show 2 * 0 + _ + 12 ≤ _; omega) (kk lc hL)
theorem ga_max {x0 : Nat} {u v : Int} {t : List AV} (C : CTX base ad D cI cJ p R s m args meth c k d mc ms) (hnL : nL = (mt k).2.2.1) (hk : k < nm) (he : cd k pc = some (.invokestatic x0, len, 9998, b, cc, w)) (hd : 0 < d) (ht : t.length ≤ 4) (hc : cells ≤ mc) (hsl : slots ≤ ms)
    (kk : GA base ad D cI cJ p l e R s m args below meth c Q nL (pc + 3) ls (vI (if w32 u < w32 v then v else u) :: t) h (cells + (h.1 - h.1)) (slots + (h.2.1 - h.2.1))) : GA base ad D cI cJ p l e R s m args below meth c Q nL pc ls (vI v :: vI u :: t) h cells slots := by
  obtain ⟨hx, hb, hml, hown, hts, hin, hroom, hK, hA, hbs, hZ, hN⟩ := C
  have hdg := ent_1 3 hk he rfl
  obtain ⟨h1, h2⟩ := ent_lnk hk he rfl
  unfold OkL at h2
  rw [h1] at h2
  obtain ⟨a1, a2, a3, a4⟩ := h2
  refine ga_same (fun H locs lc hR hL kk => ?_) kk
  have hcs := cat_sum (ad := ad) t
  have kk := kk lc hL
  rw [List.map_cons, show cv ad (vI (if w32 u < w32 v then v else u)) = .int (if Int32.ofInt u < Int32.ofInt v then Int32.ofInt v else Int32.ofInt u) from by
    by_cases hq : w32 u < w32 v
    · rw [if_pos hq, if_pos (w32_lt.mpr hq)]; rfl
    · rw [if_neg hq, if_neg (fun z => hq (w32_lt.mp z))]; rfl] at kk
  exact va_mmax hx hb (by rw [hml, ← hnL]; exact hL.1.symm) hown (hts _ a1) (hts _ a2) (hts _ a3) (hts _ a4) (by omega) (by omega) (by omega) (by omega) hdg kk
end SIMP4
end
section
section STEP
variable {base : Nat} {ad : Nat → Nat} {D : va_G} {cI cJ : ClassId} {p : Program} {l : Launch} {e : Env} {R : Room} {s : State} {m : MethodId} {args : Array Value} {below : List Frame} {meth : Method} {c : Code} {Q : State → Prop} {k d mc ms nL pc pc' len a b cc w cells slots : Nat} {ls ls' : LoA} {st st' : List AV} {h h' : HP}
theorem tsw_some {dp0 in0 : Bool} {i0 lo hi : Int} {offs : Array Int} (hs : simpA dp0 in0 (.tableswitch i0 lo hi offs) a b cc pc ls st h = some (pc', ls', st', h')) : ∃ u : Int, st = vI u :: st' ∧ ls' = ls ∧ h' = h ∧ (((w32 u < lo ∨ hi < w32 u) ∧ (pc : Int) + i0 = (pc' : Int)) ∨ (¬ (w32 u < lo ∨ hi < w32 u) ∧ ∃ off, offs[(w32 u - lo).toNat]? = some off ∧ (pc : Int) + off = (pc' : Int))) := by
  unfold simpA at hs
  dsimp only at hs
  split at hs
  · split at hs
    · rename_i hq
      obtain ⟨h1, rfl, rfl, rfl⟩ := jmpA_some hs
      exact ⟨_, rfl, rfl, rfl, Or.inl ⟨hq, h1⟩⟩
    · rename_i hq
      split at hs
      · rename_i ho
        obtain ⟨h1, rfl, rfl, rfl⟩ := jmpA_some hs
        exact ⟨_, rfl, rfl, rfl, Or.inr ⟨hq, _, ho, h1⟩⟩
      · cases hs
  · cases hs
set_option maxHeartbeats 4000000 in
theorem simp_sound {i : Jvm.ClassFile.Instr} (C : CTX base ad D cI cJ p R s m args meth c k d mc ms) (hnL : nL = (mt k).2.2.1) (hk : k < nm) (he : cd k pc = some (i, len, a, b, cc, w)) (hs : simpA (decide (0 < d)) (decide ((mt k).2.2.2.2.2.1 = 2 ∧ (mt k).2.2.2.2.2.2 = a)) i a b cc pc ls st h = some (pc', ls', st', h')) (hc : cells + (h'.1 - h.1) ≤ mc) (hsl : slots + (h'.2.1 - h.2.1) ≤ ms)
    (kk : GA base ad D cI cJ p l e R s m args below meth c Q nL pc' ls' st' h' (cells + (h'.1 - h.1)) (slots + (h'.2.1 - h.2.1))) : GA base ad D cI cJ p l e R s m args below meth c Q nL pc ls st h cells slots := by
  have C0 := C
  obtain ⟨hx, hb, hml, hown, hts, hin, hroom, hK, hA, hbs, hZ, hN⟩ := C0
  cases i with
  | aload_n j =>
    have hdg := ent_1 1 hk he rfl
    obtain ⟨ho, rfl, rfl, rfl⟩ := goA_some hs
    obtain ⟨q, hq, rfl⟩ := ldR_some ho
    exact ga_same (fun H locs lc hR hL kk => lv_aload_n hx hb hdg rfl (hL.at hq) (kk lc hL)) kk
  | aload j =>
    have hdg := ent_1 2 hk he rfl
    obtain ⟨ho, rfl, rfl, rfl⟩ := goA_some hs
    obtain ⟨q, hq, rfl⟩ := ldR_some ho
    exact ga_same (fun H locs lc hR hL kk => lv_aload hx hb hdg (hL.at hq) (kk lc hL)) kk
  | iload_n j =>
    have hdg := ent_1 1 hk he rfl
    obtain ⟨ho, rfl, rfl, rfl⟩ := goA_some hs
    obtain ⟨q, hq, rfl⟩ := ldI_some ho
    exact ga_same (fun H locs lc hR hL kk => lv_iload_n hx hb hdg rfl (hL.at hq) (kk lc hL)) kk
  | iload j =>
    have hdg := ent_1 2 hk he rfl
    obtain ⟨ho, rfl, rfl, rfl⟩ := goA_some hs
    obtain ⟨q, hq, rfl⟩ := ldI_some ho
    exact ga_same (fun H locs lc hR hL kk => lv_iload hx hb hdg (hL.at hq) (kk lc hL)) kk
  | istore_n j =>
    have hdg := ent_1 1 hk he rfl
    obtain ⟨q, rfl, hj, rfl, rfl, rfl⟩ := stI_some hs
    exact ga_same (fun H locs lc hR hL kk => lv_istore_n hx hb hdg rfl hL.has (by rw [← hL.2.1]; exact hj) rfl (fun lc' hl => kk lc' (hL.store rfl (by rw [← hL.2.1]; exact hj) hl))) kk
  | istore j =>
    have hdg := ent_1 2 hk he rfl
    obtain ⟨q, rfl, hj, rfl, rfl, rfl⟩ := stI_some hs
    exact ga_same (fun H locs lc hR hL kk => lv_istore hx hb hdg hL.has (by rw [← hL.2.1]; exact hj) rfl (fun lc' hl => kk lc' (hL.store rfl (by rw [← hL.2.1]; exact hj) hl))) kk
  | astore_n j =>
    have hdg := ent_1 1 hk he rfl
    obtain ⟨q, rfl, hj, rfl, rfl, rfl⟩ := stR_some hs
    exact ga_same (fun H locs lc hR hL kk => lv_astore_n hx hb hdg rfl hL.has (by rw [← hL.2.1]; exact hj) rfl (fun lc' hl => kk lc' (hL.store rfl (by rw [← hL.2.1]; exact hj) hl))) kk
  | astore j =>
    have hdg := ent_1 2 hk he rfl
    obtain ⟨q, rfl, hj, rfl, rfl, rfl⟩ := stR_some hs
    exact ga_same (fun H locs lc hR hL kk => lv_astore hx hb hdg hL.has (by rw [← hL.2.1]; exact hj) rfl (fun lc' hl => kk lc' (hL.store rfl (by rw [← hL.2.1]; exact hj) hl))) kk
  | iinc j n =>
    have hdg := ent_1 3 hk he rfl
    have inv : ∃ u : Int, ls[j]? = some (some (vI u)) ∧ pc' = pc + 3 ∧ ls' = ls.set j (some (vI (w32 (u + n)))) ∧ st' = st ∧ h' = h := by
      unfold simpA at hs
      dsimp only at hs
      split at hs
      · rename_i hq
        cases hs
        exact ⟨_, hq, rfl, rfl, rfl, rfl⟩
      · cases hs
    obtain ⟨u, hu, rfl, rfl, rfl, rfl⟩ := inv
    refine ga_same (fun H locs lc hR hL kk => ?_) kk
    have hj : j < nL := by rw [← hL.2.1]; exact (List.getElem?_eq_some_iff.mp hu).1
    obtain ⟨kx, hkx⟩ := List.getElem?_of_mem (ascA_mem (ad := ad) (x := (j, cv ad (vI u))).mpr ⟨_, hu, rfl⟩)
    exact lv_iinc (v := Int32.ofInt (w32 (u + n))) hx hb hdg hL.has hkx (by rw [w32_of, Int32.ofInt_add]) hj rfl (fun lc' hl => kk lc' (hL.store rfl hj hl))
  | iconst n =>
    have hdg := ent_1 1 hk he rfl
    cases hs
    exact ga_same (fun H locs lc hR hL kk => lv_iconst hx hb hdg rfl (kk lc hL)) kk
  | bipush n =>
    have hdg := ent_1 2 hk he rfl
    unfold simpA at hs
    dsimp only at hs
    split at hs
    · rename_i hq
      cases hs
      exact ga_same (fun H locs lc hR hL kk => lv_bipush hx hb hdg (of_8 hq.1 hq.2) (kk lc hL)) kk
    · cases hs
  | sipush n =>
    have hdg := ent_1 3 hk he rfl
    unfold simpA at hs
    dsimp only at hs
    split at hs
    · rename_i hq
      cases hs
      exact ga_same (fun H locs lc hR hL kk => lv_sipush hx hb hdg (of_16 hq.1 hq.2) (kk lc hL)) kk
    · cases hs
  | ldc x0 =>
    have hdg := ent_1 2 hk he rfl
    obtain ⟨h1, h2⟩ := ent_lnk hk he rfl
    unfold OkL at h2
    rw [h1] at h2
    cases hs
    exact ga_same (fun H locs lc hR hL kk => lv_ldc hx hb hown (hts _ h2) hdg (kk lc hL)) kk
  | ldc_w x0 =>
    have hdg := ent_1 3 hk he rfl
    obtain ⟨h1, h2⟩ := ent_lnk hk he rfl
    unfold OkL at h2
    rw [h1] at h2
    cases hs
    exact ga_same (fun H locs lc hR hL kk => lv_ldcw hx hb hown (hts _ h2) hdg (kk lc hL)) kk
  | lconst j =>
    have hdg := ent_1 1 hk he rfl
    cases hs
    exact ga_same (fun H locs lc hR hL kk => lv_lconst hx hb hdg rfl (kk lc hL)) kk
  | iadd => exact ga_bin (fun u v => by rw [w32_of, Int32.ofInt_add]) (fun _ _ _ _ _ _ => lv_iadd hx hb (ent_1 1 hk he rfl)) hs kk
  | isub => exact ga_bin (fun u v => by rw [w32_of, Int32.ofInt_sub]) (fun _ _ _ _ _ _ => lv_isub hx hb (ent_1 1 hk he rfl)) hs kk
  | imul => exact ga_bin (fun u v => by rw [w32_of, Int32.ofInt_mul]) (fun _ _ _ _ _ _ => lv_imul hx hb (ent_1 1 hk he rfl)) hs kk
  | iand => exact ga_bin (fun u v => b32_of _ u v) (fun _ _ _ _ _ _ => lv_iand hx hb (ent_1 1 hk he rfl)) hs kk
  | ior => exact ga_bin (fun u v => b32_of _ u v) (fun _ _ _ _ _ _ => lv_ior hx hb (ent_1 1 hk he rfl)) hs kk
  | ixor => exact ga_bin (fun u v => b32_of _ u v) (fun _ _ _ _ _ _ => lv_ixor hx hb (ent_1 1 hk he rfl)) hs kk
  | ishl => exact ga_bin (fun u v => b32_of _ u v) (fun _ _ _ _ _ _ => lv_ishl hx hb (ent_1 1 hk he rfl)) hs kk
  | ishr => exact ga_bin (fun u v => b32_of _ u v) (fun _ _ _ _ _ _ => lv_ishr hx hb (ent_1 1 hk he rfl)) hs kk
  | iushr => exact ga_bin (fun u v => b32_of _ u v) (fun _ _ _ _ _ _ => lv_iushr hx hb (ent_1 1 hk he rfl) rfl) hs kk
  | idiv =>
    have hdg := ent_1 1 hk he rfl
    have inv : ∃ (u v : Int) (t : List AV), st = vI v :: vI u :: t ∧ ¬ w32 v = 0 ∧ pc' = pc + 1 ∧ ls' = ls ∧ st' = vI (b32 (fun x y => x / y) u v) :: t ∧ h' = h := by
      unfold simpA at hs
      dsimp only at hs
      split at hs
      · split at hs
        · cases hs
        · rename_i hq
          cases hs
          exact ⟨_, _, _, rfl, hq, rfl, rfl, rfl, rfl⟩
      · cases hs
    obtain ⟨u, v, t, rfl, hv, rfl, rfl, rfl, rfl⟩ := inv
    refine ga_same (fun H locs lc hR hL kk => lv_idiv hx hb hdg (fun z => hv (w32_eq0.mp z)) ?_) kk
    have kk := kk lc hL
    rw [List.map_cons, show cv ad (vI (b32 (fun x y => x / y) u v)) = .int (Int32.ofInt u / Int32.ofInt v) from congrArg Value.int (b32_of _ u v)] at kk
    exact kk
  | irem =>
    have hdg := ent_1 1 hk he rfl
    have inv : ∃ (u v : Int) (t : List AV), st = vI v :: vI u :: t ∧ ¬ w32 v = 0 ∧ pc' = pc + 1 ∧ ls' = ls ∧ st' = vI (b32 (fun x y => x - x / y * y) u v) :: t ∧ h' = h := by
      unfold simpA at hs
      dsimp only at hs
      split at hs
      · split at hs
        · cases hs
        · rename_i hq
          cases hs
          exact ⟨_, _, _, rfl, hq, rfl, rfl, rfl, rfl⟩
      · cases hs
    obtain ⟨u, v, t, rfl, hv, rfl, rfl, rfl, rfl⟩ := inv
    refine ga_same (fun H locs lc hR hL kk => lv_irem hx hb hdg (fun z => hv (w32_eq0.mp z)) ?_) kk
    have kk := kk lc hL
    rw [List.map_cons, show cv ad (vI (b32 (fun x y => x - x / y * y) u v)) = .int (Int32.ofInt u - Int32.ofInt u / Int32.ofInt v * Int32.ofInt v) from congrArg Value.int (b32_of _ u v)] at kk
    exact kk
  | ineg =>
    have hdg := ent_1 1 hk he rfl
    have inv : ∃ (u : Int) (t : List AV), st = vI u :: t ∧ pc' = pc + 1 ∧ ls' = ls ∧ st' = vI (w32 (-u)) :: t ∧ h' = h := by
      unfold simpA at hs
      dsimp only at hs
      split at hs
      · cases hs
        exact ⟨_, _, rfl, rfl, rfl, rfl, rfl⟩
      · cases hs
    obtain ⟨u, t, rfl, rfl, rfl, rfl, rfl⟩ := inv
    refine ga_same (fun H locs lc hR hL kk => lv_ineg hx hb hdg ?_) kk
    have kk := kk lc hL
    rw [List.map_cons, show cv ad (vI (w32 (-u))) = .int (-Int32.ofInt u) from congrArg Value.int (by rw [w32_of, Int32.ofInt_neg])] at kk
    exact kk
  | land => exact ga_binL (fun u v => b64_of _ u v) (fun _ _ _ _ _ _ => lv_land hx hb (ent_1 1 hk he rfl)) hs kk
  | lor => exact ga_binL (fun u v => b64_of _ u v) (fun _ _ _ _ _ _ => lv_lor hx hb (ent_1 1 hk he rfl)) hs kk
  | lshl => exact ga_binLI (f := fun x y => x <<< (y.toInt64 &&& 63)) (fun u v => c64_of _ u v) (fun _ _ _ _ _ _ => lv_lshl hx hb (ent_1 1 hk he rfl) rfl) hs kk
  | lshr => exact ga_binLI (f := fun x y => x >>> (y.toInt64 &&& 63)) (fun u v => c64_of _ u v) (fun _ _ _ _ _ _ => lv_lshr hx hb (ent_1 1 hk he rfl) rfl) hs kk
  | lcmp =>
    have hdg := ent_1 1 hk he rfl
    have inv : ∃ (u v : Int) (t : List AV), st = vL v :: vL u :: t ∧ pc' = pc + 1 ∧ ls' = ls ∧ st' = vI (if w64 u < w64 v then -1 else if w64 u = w64 v then 0 else 1) :: t ∧ h' = h := by
      unfold simpA at hs
      dsimp only at hs
      split at hs
      · cases hs
        exact ⟨_, _, _, rfl, rfl, rfl, rfl, rfl⟩
      · cases hs
    obtain ⟨u, v, t, rfl, rfl, rfl, rfl, rfl⟩ := inv
    refine ga_same (fun H locs lc hR hL kk => W.lcmp hx hb hdg ?_) kk
    have kk := kk lc hL
    rw [List.map_cons, show cv ad (vI (if w64 u < w64 v then -1 else if w64 u = w64 v then 0 else 1)) = .int (lg_cmp (Int64.ofInt u) (Int64.ofInt v)) from congrArg Value.int (by
      unfold lg_cmp
      simp only [gt_iff_lt, Int64.lt_iff_toInt_lt, ← Int64.toInt_inj]
      show _ = (if w64 v < w64 u then (1 : Int32) else if w64 u = w64 v then 0 else -1)
      rcases Int.lt_trichotomy (w64 u) (w64 v) with q | q | q
      · rw [if_pos q, if_neg (by omega), if_neg (by omega)]; rfl
      · rw [if_neg (by omega), if_pos q, if_neg (by omega), if_pos q]; rfl
      · rw [if_neg (by omega), if_neg (by omega), if_pos q]; rfl)] at kk
    exact kk
  | dup =>
    have hdg := ent_1 1 hk he rfl
    have inv : ∃ (v : AV) (t : List AV), st = v :: t ∧ (cv ad v).category = 1 ∧ pc' = pc + 1 ∧ ls' = ls ∧ st' = v :: v :: t ∧ h' = h := by
      unfold simpA at hs
      dsimp only at hs
      split at hs
      · cases hs
        exact ⟨_, _, rfl, rfl, rfl, rfl, rfl, rfl⟩
      · rename_i r t
        cases hs
        exact ⟨_, _, rfl, by cases r <;> rfl, rfl, rfl, rfl, rfl⟩
      · cases hs
    obtain ⟨v, t, rfl, hv, rfl, rfl, rfl, rfl⟩ := inv
    exact ga_same (fun H locs lc hR hL kk => lv_dup hx hb hdg hv (kk lc hL)) kk
  | dup2 =>
    have hdg := ent_1 1 hk he rfl
    have inv : ∃ (u : Int) (r : Option Nat) (t : List AV), st = vI u :: .inr r :: t ∧ pc' = pc + 1 ∧ ls' = ls ∧ st' = vI u :: .inr r :: vI u :: .inr r :: t ∧ h' = h := by
      unfold simpA at hs
      dsimp only at hs
      split at hs
      · cases hs
        exact ⟨_, _, _, rfl, rfl, rfl, rfl, rfl⟩
      · cases hs
    obtain ⟨u, r, t, rfl, rfl, rfl, rfl, rfl⟩ := inv
    exact ga_same (fun H locs lc hR hL kk => lv_dup2_11 hx hb hdg rfl (by cases r <;> rfl) (kk lc hL)) kk
  | if_icmp q off =>
    have hdg := ent_1 3 hk he rfl
    unfold simpA at hs
    dsimp only at hs
    split at hs
    · exact ga_icmp hx hb hdg hs kk
    · cases hs
  | ifCond q off =>
    have hdg := ent_1 3 hk he rfl
    unfold simpA at hs
    dsimp only at hs
    split at hs
    · exact ga_if hx hb hdg hs kk
    · cases hs
  | goto off =>
    have hdg := ent_1 3 hk he rfl
    obtain ⟨ht, rfl, rfl, rfl⟩ := jmpA_some hs
    exact ga_same (fun H locs lc hR hL kk => lv_goto hx hb hdg ht (kk lc hL)) kk
  | tableswitch i0 lo hi offs =>
    have hdg := (ent_dec hk he).1
    obtain ⟨u, rfl, rfl, rfl, hq⟩ := tsw_some hs
    rcases hq with ⟨hq, ht⟩ | ⟨hq, off, ho, ht⟩
    · exact ga_same (fun H locs lc hR hL kk => lv_tableOut hx hb hdg hq ht (kk lc hL)) kk
    · exact ga_same (fun H locs lc hR hL kk => lv_tableIn hx hb hdg (fun z => hq (Or.inl z)) (fun z => hq (Or.inr z)) ho ht (kk lc hL)) kk
  | getfield x0 => exact ga_get C hk he hs kk
  | putfield x0 => exact ga_put C hk he hs kk
  | iaload => exact ga_iald C (ent_1 1 hk he rfl) hs kk
  | laload => exact ga_lald C (ent_1 1 hk he rfl) hs kk
  | iastore => exact ga_iast C (ent_1 1 hk he rfl) hs kk
  | lastore => exact ga_last C (ent_1 1 hk he rfl) hs kk
  | arraylength => exact ga_alen C (ent_1 1 hk he rfl) hs kk
  | newarray t => exact ga_newa C (ent_1 2 hk he rfl) hs hc hsl kk
  | new x0 => exact ga_new C hk he hs hc hsl kk
  | getstatic x0 =>
    cases hs
    exact ga_stat C hk he kk
  | invokespecial x0 =>
    unfold simpA at hs
    dsimp only at hs
    split at hs
    · rename_i hq
      obtain ⟨rfl, hd⟩ := hq
      split at hs
      · split at hs
        · rename_i ht
          cases hs
          exact ga_obj C hnL hk he (of_decide_eq_true hd) ht kk
        · cases hs
      · cases hs
    · cases hs
  | invokestatic x0 =>
    unfold simpA at hs
    dsimp only at hs
    split at hs
    · rename_i hq
      obtain ⟨rfl, hd⟩ := hq
      split at hs
      · split at hs
        · rename_i ht
          cases hs
          exact ga_max C hnL hk he (of_decide_eq_true hd) ht (by omega) (by omega) kk
        · cases hs
      · cases hs
    · cases hs
  | _ => cases hs
end STEP
end
section
/-! the heap only grows, and what was there before us stays -/
def MON (h h' : HP) : Prop := h.1 ≤ h'.1 ∧ h.2.1 ≤ h'.2.1 ∧ ∀ q, q < EXN → h'.2.2.1 q = h.2.2.1 q ∧ h'.2.2.2 q = h.2.2.2 q
theorem MON.rf (h : HP) : MON h h := ⟨Nat.le_refl _, Nat.le_refl _, fun _ _ => ⟨rfl, rfl⟩⟩
theorem MON.tr {h1 h2 h3 : HP} (a : MON h1 h2) (b : MON h2 h3) : MON h1 h3 := ⟨Nat.le_trans a.1 b.1, Nat.le_trans a.2.1 b.2.1, fun q hq => ⟨(b.2.2 q hq).1.trans (a.2.2 q hq).1, (b.2.2 q hq).2.trans (a.2.2 q hq).2⟩⟩
theorem mon_up2 {h : HP} {q : Nat} {i v : Int} (hq : EXN ≤ q) : MON h (h.1, h.2.1, h.2.2.1, up2 h.2.2.2 q i v) := ⟨Nat.le_refl _, Nat.le_refl _, fun y hy => ⟨rfl, funext fun j => if_neg (fun z => by have := z.1; omega)⟩⟩
theorem mon_upT {h : HP} {q : Nat} {cl : LK} (hq : EXN ≤ q) : MON h (h.1, h.2.1, upT h.2.2.1 q cl, h.2.2.2) := ⟨Nat.le_refl _, Nat.le_refl _, fun y hy => ⟨if_neg (by omega), rfl⟩⟩
theorem mon_new {h : HP} {cl : LK} {z : Nat} (hE : EXN ≤ h.1) : MON h (h.1 + 1, h.2.1 + z, upT h.2.2.1 h.1 cl, upM h.2.2.2 h.1) := ⟨Nat.le_succ _, Nat.le_add_right _ _, fun y hy => ⟨if_neg (by omega), funext fun j => if_neg (by omega)⟩⟩
section MONO
variable {dp in0 : Bool} {pc pc' a b cc : Nat} {ls ls' : LoA} {st st' : List AV} {h h' : HP}
theorem mon_go {o : Option (List AV)} {n : Nat} (hs : goA n ls h o = some (pc', ls', st', h')) : MON h h' := by
  obtain ⟨-, -, -, rfl⟩ := goA_some hs
  exact MON.rf _
theorem mon_stI {i n : Nat} (hs : stI n ls i st h = some (pc', ls', st', h')) : MON h h' := by
  obtain ⟨_, -, -, -, -, rfl⟩ := stI_some hs
  exact MON.rf _
theorem mon_stR {i n : Nat} (hs : stR n ls i st h = some (pc', ls', st', h')) : MON h h' := by
  obtain ⟨_, -, -, -, -, rfl⟩ := stR_some hs
  exact MON.rf _
theorem mon_jmp {off : Int} {t : List AV} (hs : jmpA pc off ls t h = some (pc', ls', st', h')) : MON h h' := by
  obtain ⟨-, -, -, rfl⟩ := jmpA_some hs
  exact MON.rf _
theorem mon_br {off : Int} {q : Bool} {t : List AV} (hs : brA q pc off ls t h = some (pc', ls', st', h')) : MON h h' := by
  obtain ⟨_, -, -, -, -, -, rfl⟩ := brA_some hs
  exact MON.rf _
theorem mon_get {n : Nat} (hs : getA a b n ls st h = some (pc', ls', st', h')) : MON h h' := by
  unfold getA at hs
  split at hs
  · split at hs
    · split at hs
      · split at hs
        · split at hs
          · cases hs; exact MON.rf _
          · cases hs; exact MON.rf _
          · cases hs
        · cases hs
      · cases hs
    · cases hs
  · cases hs
theorem mon_put {n : Nat} (hs : putA in0 a b cc n ls st h = some (pc', ls', st', h')) : MON h h' := by
  obtain ⟨q, fs, hq, -, -, -, -, -, h9⟩ := putA_some hs
  rcases h9 with ⟨u, -, -, -, rfl⟩ | ⟨r, r0, -, -, -, rfl⟩
  · exact mon_up2 hq
  · exact mon_upT hq
theorem mon_ald {n : Nat} {lg : Bool} (hs : aldA lg n ls st h = some (pc', ls', st', h')) : MON h h' := by
  unfold aldA at hs
  split at hs
  · split at hs
    · split at hs
      · split at hs
        · cases hs; exact MON.rf _
        · cases hs
      · cases hs
    · cases hs
  · cases hs
theorem mon_alen {n : Nat} (hs : alenA n ls st h = some (pc', ls', st', h')) : MON h h' := by
  unfold alenA at hs
  split at hs
  · split at hs
    · split at hs
      · split at hs
        · cases hs; exact MON.rf _
        · cases hs
      · cases hs
    · cases hs
  · cases hs
theorem mon_iast {n : Nat} (hs : astA n ls st h false = some (pc', ls', st', h')) : MON h h' := by
  obtain ⟨u, i, q, _, -, hq, -, -, -, -, -, -, -, rfl⟩ := astI_some hs
  exact mon_up2 hq
theorem mon_last {n : Nat} (hs : astA n ls st h true = some (pc', ls', st', h')) : MON h h' := by
  obtain ⟨u, i, q, _, -, hq, -, -, -, -, -, -, -, rfl⟩ := astL_some hs
  exact mon_up2 hq
set_option maxHeartbeats 4000000 in
theorem simp_mon {i : Jvm.ClassFile.Instr} (hE : EXN ≤ h.1) (hs : simpA dp in0 i a b cc pc ls st h = some (pc', ls', st', h')) : MON h h' := by
  cases i with
  | aload_n j => exact mon_go hs
  | aload j => exact mon_go hs
  | iload_n j => exact mon_go hs
  | iload j => exact mon_go hs
  | istore_n j => exact mon_stI hs
  | istore j => exact mon_stI hs
  | astore_n j => exact mon_stR hs
  | astore j => exact mon_stR hs
  | iinc j n =>
    unfold simpA at hs
    dsimp only at hs
    split at hs
    · cases hs; exact MON.rf _
    · cases hs
  | iconst n => cases hs; exact MON.rf _
  | bipush n =>
    unfold simpA at hs
    dsimp only at hs
    split at hs
    · cases hs; exact MON.rf _
    · cases hs
  | sipush n =>
    unfold simpA at hs
    dsimp only at hs
    split at hs
    · cases hs; exact MON.rf _
    · cases hs
  | ldc j => cases hs; exact MON.rf _
  | ldc_w j => cases hs; exact MON.rf _
  | lconst j => cases hs; exact MON.rf _
  | iadd => exact mon_go hs
  | isub => exact mon_go hs
  | imul => exact mon_go hs
  | iand => exact mon_go hs
  | ior => exact mon_go hs
  | ixor => exact mon_go hs
  | ishl => exact mon_go hs
  | ishr => exact mon_go hs
  | iushr => exact mon_go hs
  | idiv =>
    unfold simpA at hs
    dsimp only at hs
    split at hs
    · split at hs
      · cases hs
      · cases hs; exact MON.rf _
    · cases hs
  | irem =>
    unfold simpA at hs
    dsimp only at hs
    split at hs
    · split at hs
      · cases hs
      · cases hs; exact MON.rf _
    · cases hs
  | ineg =>
    unfold simpA at hs
    dsimp only at hs
    split at hs
    · cases hs; exact MON.rf _
    · cases hs
  | land => exact mon_go hs
  | lor => exact mon_go hs
  | lshl => exact mon_go hs
  | lshr => exact mon_go hs
  | lcmp =>
    unfold simpA at hs
    dsimp only at hs
    split at hs
    · cases hs; exact MON.rf _
    · cases hs
  | dup =>
    unfold simpA at hs
    dsimp only at hs
    split at hs
    · cases hs; exact MON.rf _
    · cases hs; exact MON.rf _
    · cases hs
  | dup2 =>
    unfold simpA at hs
    dsimp only at hs
    split at hs
    · cases hs; exact MON.rf _
    · cases hs
  | if_icmp q off =>
    unfold simpA at hs
    dsimp only at hs
    split at hs
    · exact mon_br hs
    · cases hs
  | ifCond q off =>
    unfold simpA at hs
    dsimp only at hs
    split at hs
    · exact mon_br hs
    · cases hs
  | goto off => exact mon_jmp hs
  | tableswitch i0 lo hi offs =>
    obtain ⟨_, -, -, rfl, -⟩ := tsw_some hs
    exact MON.rf _
  | getfield j => exact mon_get hs
  | putfield j => exact mon_put hs
  | iaload => exact mon_ald hs
  | laload => exact mon_ald hs
  | iastore => exact mon_iast hs
  | lastore => exact mon_last hs
  | arraylength => exact mon_alen hs
  | newarray t =>
    obtain ⟨z, r, -, -, -, -, -, -, hq⟩ := newaA_some hs
    rcases hq with ⟨-, rfl⟩ | ⟨-, rfl⟩
    · exact mon_new hE
    · exact mon_new hE
  | new j =>
    unfold simpA newA at hs
    cases hs
    exact mon_new hE
  | getstatic j => cases hs; exact MON.rf _
  | invokespecial j =>
    unfold simpA at hs
    dsimp only at hs
    split at hs
    · split at hs
      · split at hs
        · cases hs; exact MON.rf _
        · cases hs
      · cases hs
    · cases hs
  | invokestatic j =>
    unfold simpA at hs
    dsimp only at hs
    split at hs
    · split at hs
      · split at hs
        · cases hs; exact MON.rf _
        · cases hs
      · cases hs
    · cases hs
  | _ => cases hs
/-- what a step of the machine's own kind is -/
theorem stepA_inl {d k : Nat} (hs : stepA d k pc ls st h = some (.inl (pc', ls', st', h'))) : ∃ (i : Jvm.ClassFile.Instr) (len a b cc w : Nat), cd k pc = some (i, len, a, b, cc, w) ∧ simpA (decide (0 < d)) (decide ((mt k).2.2.2.2.2.1 = 2 ∧ (mt k).2.2.2.2.2.2 = a)) i a b cc pc ls st h = some (pc', ls', st', h') := by
  unfold stepA at hs
  split at hs
  · cases hs
  · rename_i hc
    split at hs
    · cases hs
    · split at hs
      · cases hs
      · split at hs
        · rename_i hq
          cases hs
          exact ⟨_, _, _, _, _, _, hc, hq⟩
        · cases hs
theorem stepA_ret {d k : Nat} {r : Option AV} (hs : stepA d k pc ls st h = some (.inr (.inr r))) : ∃ (i : Jvm.ClassFile.Instr) (len a b cc w : Nat), cd k pc = some (i, len, a, b, cc, w) ∧ retA (mt k).2.2.2.1 i st = some r := by
  unfold stepA at hs
  split at hs
  · cases hs
  · rename_i hc
    split at hs
    · rename_i hq
      cases hs
      exact ⟨_, _, _, _, _, _, hc, hq⟩
    · split at hs
      · cases hs
      · split at hs
        · cases hs
        · cases hs
theorem stepA_call {d k k' : Nat} {as rest : List AV} (hs : stepA d k pc ls st h = some (.inr (.inl (k', as, rest)))) : ∃ (i : Jvm.ClassFile.Instr) (len a b cc w : Nat), cd k pc = some (i, len, a, b, cc, w) ∧ callA i a b st h = some (k', as, rest) := by
  unfold stepA at hs
  split at hs
  · cases hs
  · rename_i hc
    split at hs
    · cases hs
    · split at hs
      · rename_i hq
        cases hs
        exact ⟨_, _, _, _, _, _, hc, hq⟩
      · split at hs
        · cases hs
        · cases hs
theorem run_mon : ∀ (f d k pc : Nat) (ls : LoA) (st : List AV) (h : HP) (r : Option AV) (h' : HP), EXN ≤ h.1 → runA f d k pc ls st h = some (r, h') → MON h h' := by
  intro f
  induction f with
  | zero => intro d k pc ls st h r h' _ hr; cases hr
  | succ f ih =>
    intro d k pc ls st h r h' hE hr
    unfold runA at hr
    split at hr
    · cases hr
    · rename_i hs
      obtain ⟨i, len, a, b, cc, w, -, h2⟩ := stepA_inl hs
      have m1 := simp_mon hE h2
      exact m1.tr (ih _ _ _ _ _ _ _ _ (Nat.le_trans hE m1.1) hr)
    · cases hr
      exact MON.rf _
    · split at hr
      · cases hr
      · split at hr
        · cases hr
        · rename_i hq
          split at hq
          · have m1 := ih _ _ _ _ _ _ _ _ hE hq
            exact m1.tr (ih _ _ _ _ _ _ _ _ (Nat.le_trans hE m1.1) hr)
          · cases hq
end MONO
end
section
/-! A CALL of the abstract machine is a call of the machine -/
def wsK (k : Nat) : List Cond := Cond.code (mt k).1 (mt k).2.1 (mt k).2.2.1 (mt k).2.2.2.1 :: lw_G
def rmA (d mc ms : Nat) : Room := { frames := d, cells := mc, slots := ms, locals := 64 * d }
def PcA (base : Nat) (ad : Nat → Nat) (D : va_G) (cI cJ : ClassId) (as : List AV) (h : HP) : Array Value → State → Prop := fun v U => v = (as.map (cv ad)).toArray ∧ EXN ≤ h.1 ∧ U.heap.size + EXN = base + h.1 ∧ va_P D vwCl (wsA ad cI cJ h) U.heap ∧ va_K D vwCl [(cI, .int), (cJ, .long)] U ∧ EXT base ad h U ∧ (∀ a, 1 ≤ a → a < EXN → va_Z (stn a).1 (stn a).2 "[I" (.ref (ad a)) (ARg base) U U.heap) ∧ ∀ w ∈ nests, va_Nw w U
def QcA (base : Nat) (ad : Nat → Nat) (D : va_G) (cI cJ : ClassId) (r : Option AV) (h' : HP) : Array Value → State → Outcome → State → Prop := fun _ st o t => o = .returned (r.map (cv ad)) ∧ t.heap.size + EXN = base + h'.1 ∧ va_P D vwCl (wsA ad cI cJ h') t.heap ∧ ∀ q, q < base → t.heap[q]? = st.heap[q]?
theorem good_G {w : Cond} (h : w ∈ lw_G) : (w.onTables && w.keeps) = true ∨ ∃ ty, w = .arrayClass ty := good_of_word (List.mem_filter.mp h).2
theorem goodK {k : Nat} (hk : k < nmM) : GoodIn lw_G (wsK k) := by
  intro w hw
  rcases List.mem_cons.mp hw with rfl | hw
  · exact ⟨(okM_all k hk).1, good_G (okM_all k hk).1⟩
  · exact ⟨hw, good_G hw⟩
theorem nests_warm {s U : State} (hW : s.WarmedH U.vm) (hN : ∀ w ∈ nests, va_Nw w s) : ∀ w ∈ nests, va_Nw w U := by
  intro w hw
  have h1 := hN w hw
  have h2 : ∃ (a : String) (i : Nat) (y : MethodName) (b : String), w = .methodLinkNest a i y b := by
    revert w
    simp only [nests, List.forall_mem_cons]
    refine ⟨fun _ => ⟨_, _, _, _, rfl⟩, fun _ => ⟨_, _, _, _, rfl⟩, fun _ => ⟨_, _, _, _, rfl⟩, fun _ => ⟨_, _, _, _, rfl⟩, fun _ => ⟨_, _, _, _, rfl⟩, fun _ => ⟨_, _, _, _, rfl⟩, fun _ => ⟨_, _, _, _, rfl⟩, fun w hw => by cases hw⟩
  obtain ⟨a, i, y, b, rfl⟩ := h2
  exact va_Nw.warmM hW h1
section CALL
variable {base : Nat} {ad : Nat → Nat} {D : va_G} {cI cJ : ClassId} {p : Program} {l : Launch} {e : Env} {R : Room} {s : State} {m : MethodId} {args : Array Value} {below : List Frame} {meth : Method} {c : Code} {Q : State → Prop} {k k' d mc ms nL pc len a b cc w cells slots : Nat} {ls : LoA} {st as rest : List AV} {h h1 : HP} {r1 : Option AV}
theorem pc_blind : FrameBlind (PcA base ad D cI cJ as h) := by
  intro v U g mk hp
  obtain ⟨q1, q2, q3, q4, q5, q6, q7, q8⟩ := hp
  refine ⟨q1, q2, q3, q4, va_K.moved (u := U) (U := U.calling g mk v) (Vm.Alike.refl U.vm) q5, fun y hy => ?_, fun y y1 y2 => ?_, fun w hw => ?_⟩
  · obtain ⟨n, z1, z2⟩ := q6 y hy
    exact ⟨n, z1, va_T.moved (u := U) (U := U.calling g mk v) (Vm.Alike.refl U.vm) z2⟩
  · exact va_Z.moved (u := U) (U := U.calling g mk v) (Vm.Alike.refl U.vm) (q7 y y1 y2)
  · have h2 : ∃ (a : String) (i : Nat) (y : MethodName) (b : String), w = .methodLinkNest a i y b := by
      revert w
      simp only [nests, List.forall_mem_cons]
      refine ⟨⟨_, _, _, _, rfl⟩, ⟨_, _, _, _, rfl⟩, ⟨_, _, _, _, rfl⟩, ⟨_, _, _, _, rfl⟩, ⟨_, _, _, _, rfl⟩, ⟨_, _, _, _, rfl⟩, ⟨_, _, _, _, rfl⟩, fun w hw => by cases hw⟩
    obtain ⟨a, i, y, b, rfl⟩ := h2
    exact va_Nw.same rfl rfl (q8 _ hw)
theorem pc_at {H : Heap} {locs : List Loc} (C : CTX base ad D cI cJ p R s m args meth c k d mc ms) (hR : REL base ad D cI cJ s h H locs) : ∀ U : State, U.heap = H → s.WarmedH U.vm → PcA base ad D cI cJ as h (as.map (cv ad)).toArray U := by
  obtain ⟨hx, hb, hml, hown, hts, hin, hroom, hK, hA, hbs, hZ, hN⟩ := C
  obtain ⟨hE, hsz, hP, hS, hX⟩ := hR
  intro U hU hW
  refine ⟨rfl, hE, by rw [hU]; exact hsz, by rw [hU]; exact hP, va_K.moved hW.alike hK, fun y hy => ?_, fun y y1 y2 => ?_, nests_warm hW hN⟩
  · obtain ⟨n, z1, z2⟩ := hX y hy
    refine ⟨n, z1, ?_⟩
    rw [hU]
    exact va_T.moved hW.alike (z2.kept (fun q hq1 hq2 => hS.2.1 q hq1 hq2))
  · rw [hU]
    exact va_Z.moved hW.alike ((hZ y y1 y2).kept (fun q hq1 hq2 => hS.2.1 q hq1 hq2))
/-- behind a call -/
theorem ga_back {mc' ms' : Nat} {H : Heap} {locs : List Loc} {lc : Array Slot} {st0 : List Value} {av : Array Value} (hbs : base ≤ s.heap.size) (hR : REL base ad D cI cJ s h H locs) (hL : LRA ad nL ls lc) (hm : MON h h1)
    (hr : va_Run p l e R s m args below meth c H locs cells slots mc' ms' (F0 m pc lc st0) (rest.map (cv ad)) (QcA base ad D cI cJ r1 h1 av) (ARg base))
    (kk : GA base ad D cI cJ p l e R s m args below meth c Q nL (pc + 3) ls (r1.toList ++ rest) h1 (cells + mc') (slots + ms')) : W p l e R s m args below meth c H locs cells slots Q (F0 m pc lc st0) := by
  obtain ⟨hE, hsz, hP, hS, hX⟩ := hR
  intro T hT X
  obtain ⟨v, st₀, t, T', L, h0, X', hLf, e1, e2, ⟨hv, hz, hP1, hfr⟩, sg⟩ := hr T hT X
  cases hv
  have hk := hm.1
  have hrel : REL base ad D cI cJ s h1 T'.heap (locs ++ L) := by
    refine ⟨Nat.le_trans hE hk, by rw [e1]; exact hz, by rw [e1]; exact hP1, ⟨?_, fun q q1 q2 => ?_, fun q hq => ?_⟩, fun y hy => ?_⟩
    · have := hS.1
      rw [e1]
      omega
    · have q3 : q < base := Nat.lt_of_not_le q2
      rw [e1, hfr q q3, h0]
      exact hS.2.1 q q1 q2
    · rcases List.mem_append.mp hq with z | z
      · exact hS.2.2 q z
      · exact hLf q z
    · obtain ⟨n, z1, z2⟩ := hX y hy
      have z3 := hm.2.2 y hy
      refine ⟨n, z3.1.trans z1, ?_⟩
      rw [z3.2]
      exact z2
  obtain ⟨t2, a1, b1⟩ := kk T'.heap (locs ++ L) lc hrel hL T' rfl X'
  refine ⟨t2, sg t2 ?_, b1⟩
  have e9 : (r1.map (cv ad)).toList ++ rest.map (cv ad) = (r1.toList ++ rest).map (cv ad) := by
    rw [List.map_append]
    cases r1 <;> rfl
  rw [e9]
  exact a1
theorem split_st (hn : (st.take b).length = b) {y : List AV} (hd : st.drop b = y) : st.map (cv ad) = ((st.take b).reverse.map (cv ad)).reverse ++ y.map (cv ad) ∧ ((st.take b).reverse.map (cv ad)).length = b := by
  refine ⟨?_, by rw [List.length_map, List.length_reverse]; exact hn⟩
  rw [← List.map_reverse, List.reverse_reverse, ← hd, ← List.map_append, List.take_append_drop]
theorem ga_call {i : Jvm.ClassFile.Instr} (C : CTX base ad D cI cJ p R s m args meth c k (d + 1) mc ms) (hnL : nL = (mt k).2.2.1) (hk : k < nm) (he : cd k pc = some (i, len, a, b, cc, w)) (hcall : callA i a b st h = some (k', as, rest)) (hm : MON h h1) (hc : cells + (h1.1 - h.1) ≤ mc) (hsl : slots + (h1.2.1 - h.2.1) ≤ ms)
    (hM : k' < nmM → Met l (mt k').1 (wsK k') (rmA d (h1.1 - h.1) (h1.2.1 - h.2.1)) (PcA base ad D cI cJ as h) (QcA base ad D cI cJ r1 h1) (h1.1 - h.1) (h1.2.1 - h.2.1) (ARg base))
    (kk : GA base ad D cI cJ p l e R s m args below meth c Q nL (pc + 3) ls (r1.toList ++ rest) h1 (cells + (h1.1 - h.1)) (slots + (h1.2.1 - h.2.1))) : GA base ad D cI cJ p l e R s m args below meth c Q nL pc ls st h cells slots := by
  have C0 := C
  obtain ⟨hx, hb, hml, hown, hts, hin, hroom, hK, hA, hbs, hZ, hN⟩ := C0
  have hcs := cat_sum (ad := ad) rest
  cases i with
  | invokevirtual x0 =>
    have hdg := ent_1 3 hk he rfl
    obtain ⟨g1, g2⟩ := ent_lnk hk he rfl
    unfold OkL at g2
    rw [g1] at g2
    obtain ⟨ha, hna, hkd, hlk, q0, hq0, hq1⟩ := g2
    have inv : ∃ (r : Nat) (fs : List (Option (Option Nat))), k' = a ∧ as = vR r :: (st.take b).reverse ∧ st.drop b = vR r :: rest ∧ (st.take b).length = b ∧ rest.length ≤ 4 ∧ EXN ≤ r ∧ r < h.1 ∧ h.2.2.1 r = .inr ((mt a).2.2.2.2.2.2, fs) := by
      unfold callA at hcall
      dsimp only at hcall
      split at hcall
      · rename_i hdr
        split at hcall
        · rename_i hq
          split at hcall
          · rename_i hT
            split at hcall
            · rename_i hci
              cases hcall
              exact ⟨_, _, rfl, rfl, hdr, hq.1, hq.2.1, hq.2.2.1, hq.2.2.2, by rw [hT, hci]⟩
            · cases hcall
          · cases hcall
        · cases hcall
      · cases hcall
    obtain ⟨r, fs, rfl, rfl, hdr, hn, hr4, hr1, hr2, hT⟩ := inv
    have hM := hM ha
    obtain ⟨o1, o2, o3, o4, o5, o6, o7⟩ := okM_all k' ha
    have o7 : Cond.instanceMethod (mt k').1 ∈ lw_G ∧ Cond.selects (mt k').1.cls (mt k').1 (mt k').1 ∈ lw_G := by
      rcases o7 with z | z | z
      · exact z.2
      · have := z.1; omega
      · have := z.1; omega
    intro H locs lc hR hL
    obtain ⟨e1, e2⟩ := split_st (ad := ad) hn hdr
    rw [e1]
    have hat : (wsA ad cI cJ h)[r - EXN]? = some (ad r, .inr ((mt k').2.2.2.2.2.2, fvA ad (h.2.2.2 r) fs)) := by
      rw [wsA_at hr1 hr2]
      unfold cellA
      rw [hT]
    refine ga_back hbs hR hL hm (va_runV (C := (mt k').1.cls) (b := ad r) (As := (st.take b).reverse.map (cv ad)) (rest := rest.map (cv ad)) (n := b) ⟨hx, hb, hml, hown, hts⟩ hM (cwV b hts ?_ rfl rfl rfl ⟨rfl, o4.2.1, o4.2.2, by rw [o5, hna]⟩ ⟨by show d + 1 ≤ _; omega, by show 8 + ((mt k').2.2.1 + 11) + 64 * d ≤ _; omega⟩) ⟨pc_blind, ?_, ?_⟩ rfl e2 (hL.1.trans hnL) rfl (by show 2 * 0 + _ ≤ 8; omega) hdg ⟨by omega, by omega⟩) kk
    · intro w hw
      have hw2 : w ∈ lw_G := by
        unfold wsV at hw
        rcases List.mem_append.mp hw with z | z
        · simp only [List.mem_cons, List.not_mem_nil, or_false] at z
          rcases z with rfl | rfl | rfl | rfl
          · exact hlk
          · exact o7.1
          · exact o7.2
          · exact o2
        · exact (goodK ha w z).1
      exact ⟨hw2, good_G hw2⟩
    · rw [← hq1]
      exact va_recv hK hR.2.2.1 hq0 hat
    · exact pc_at (as := vR r :: (st.take b).reverse) C hR
  | invokestatic x0 =>
    have hdg := ent_1 3 hk he rfl
    have inv : a ≠ 9998 ∧ k' = a ∧ as = (st.take b).reverse ∧ rest = st.drop b ∧ (st.take b).length = b ∧ (st.drop b).length ≤ 4 := by
      unfold callA at hcall
      dsimp only at hcall
      split at hcall
      · cases hcall
      · rename_i h9
        split at hcall
        · rename_i hq
          cases hcall
          exact ⟨h9, rfl, rfl, rfl, hq.1, hq.2⟩
        · cases hcall
    obtain ⟨h9, rfl, rfl, rfl, hn, hr4⟩ := inv
    obtain ⟨g1, g2⟩ := ent_lnk hk he (show lkI (.invokestatic x0) k' = some (x0, 2) by unfold lkI; rw [if_neg h9])
    unfold OkL at g2
    rw [g1] at g2
    obtain ⟨ha, hna, hkd, hlk⟩ := g2
    have hM := hM ha
    obtain ⟨o1, o2, o3, o4, o5, o6, o7⟩ := okM_all k' ha
    have o7 : Cond.static (mt k').1 ∈ lw_G := by
      rcases o7 with z | z | z
      · have := z.1; omega
      · exact z.2
      · have := z.1; omega
    intro H locs lc hR hL
    obtain ⟨e1, e2⟩ := split_st (ad := ad) hn rfl
    rw [e1]
    rcases hlk with ⟨-, hlk⟩ | ⟨-, hlk⟩
    · exact ga_back hbs hR hL hm (va_runS (As := (st.take b).reverse.map (cv ad)) (rest := (st.drop b).map (cv ad)) (n := b) ⟨hx, hb, hml, hown, hts⟩ hM ⟨callB_of b hts (goodK ha) rfl rfl rfl (hts _ o2) (hts _ hlk) ⟨o4.2.1, o4.2.2, by rw [o5, hna]⟩ ⟨by show d + 1 ≤ _; omega, by show 8 + ((mt k').2.2.1 + 11) + 64 * d ≤ _; omega⟩, hts _ o7⟩ ⟨pc_blind, pc_at C hR⟩ rfl e2 (hL.1.trans hnL) rfl (by show 2 * 0 + _ ≤ 8; omega) hdg ⟨by omega, by omega⟩) kk
    · exact ga_back hbs hR hL hm (va_runSN (As := (st.take b).reverse.map (cv ad)) (rest := (st.drop b).map (cv ad)) (n := b) ⟨hx, hb, hml, hown, hts⟩ hM ⟨va_cnB b hts (goodK ha) rfl rfl rfl (hN _ hlk) (hts _ o2) ⟨o4.2.1, o4.2.2, by rw [o5, hna]⟩ ⟨by show d + 1 ≤ _; omega, by show 8 + ((mt k').2.2.1 + 11) + 64 * d ≤ _; omega⟩, hts _ o7, trivial⟩ ⟨pc_blind, pc_at C hR⟩ rfl e2 (hL.1.trans hnL) rfl (by show 2 * 0 + _ ≤ 8; omega) hdg ⟨by omega, by omega⟩) kk
  | invokespecial x0 =>
    have hdg := ent_1 3 hk he rfl
    have inv : ∃ r : Nat, a ≠ 9999 ∧ k' = a ∧ as = vR r :: (st.take b).reverse ∧ st.drop b = vR r :: rest ∧ (st.take b).length = b ∧ rest.length ≤ 4 := by
      unfold callA at hcall
      dsimp only at hcall
      split at hcall
      · cases hcall
      · rename_i h9
        split at hcall
        · rename_i hdr
          split at hcall
          · rename_i hq
            cases hcall
            exact ⟨_, h9, rfl, rfl, hdr, hq.1, hq.2⟩
          · cases hcall
        · cases hcall
    obtain ⟨r, h9, rfl, rfl, hdr, hn, hr4⟩ := inv
    obtain ⟨g1, g2⟩ := ent_lnk hk he (show lkI (.invokespecial x0) k' = some (x0, 3) by unfold lkI; rw [if_neg h9])
    unfold OkL at g2
    rw [g1] at g2
    obtain ⟨ha, hna, hkd, hlk⟩ := g2
    have hM := hM ha
    obtain ⟨o1, o2, o3, o4, o5, o6, o7⟩ := okM_all k' ha
    have o7 : (mt k').1.name = "<init>" ∧ (mt k').2.2.2.1 = none ∧ Cond.instanceMethod (mt k').1 ∈ lw_G := by
      rcases o7 with z | z | z
      · have := z.1; omega
      · have := z.1; omega
      · exact z.2
    have hw0 : wsK k' = Cond.code (mt k').1 (mt k').2.1 (mt k').2.2.1 none :: lw_G := by unfold wsK; rw [o7.2.1]
    intro H locs lc hR hL
    obtain ⟨e1, e2⟩ := split_st (ad := ad) hn hdr
    rw [e1]
    rcases hlk with ⟨-, hlk⟩ | ⟨-, hlk⟩
    · exact ga_back hbs hR hL hm (va_runI (b := ad r) (As := (st.take b).reverse.map (cv ad)) (rest := rest.map (cv ad)) (n := b) ⟨hx, hb, hml, hown, hts⟩ hM ⟨callB_of b hts (goodK ha) hw0 rfl rfl (hts _ o2) (hts _ hlk) ⟨o4.2.1, o4.2.2, by rw [o5, hna]⟩ ⟨by show d + 1 ≤ _; omega, by show 8 + ((mt k').2.2.1 + 11) + 64 * d ≤ _; omega⟩, o7.1, hts _ o7.2.2⟩ ⟨pc_blind, pc_at (as := vR r :: (st.take b).reverse) C hR⟩ rfl e2 (hL.1.trans hnL) rfl (by show 2 * 0 + _ ≤ 8; omega) hdg ⟨by omega, by omega⟩) kk
    · exact ga_back hbs hR hL hm (va_runIN (b := ad r) (As := (st.take b).reverse.map (cv ad)) (rest := rest.map (cv ad)) (n := b) ⟨hx, hb, hml, hown, hts⟩ hM ⟨va_cnB b hts (goodK ha) hw0 rfl rfl (hN _ hlk) (hts _ o2) ⟨o4.2.1, o4.2.2, by rw [o5, hna]⟩ ⟨by show d + 1 ≤ _; omega, by show 8 + ((mt k').2.2.1 + 11) + 64 * d ≤ _; omega⟩, o7.1, hts _ o7.2.2⟩ ⟨pc_blind, pc_at (as := vR r :: (st.take b).reverse) C hR⟩ rfl e2 (hL.1.trans hnL) rfl (by show 2 * 0 + _ ≤ 8; omega) hdg ⟨by omega, by omega⟩) kk
  | _ => cases hcall
end CALL
end
section
/-! A RUN of the abstract machine is a run of the machine -/
theorem cat_of {ad : Nat → Nat} {as : List AV} (h : as.all nLg = true) : ∀ v ∈ as, (cv ad v).category = 1 := by
  intro v hv
  have h1 := List.all_eq_true.mp h v hv
  match v, h1 with
  | .inl (.inl _), _ => rfl
  | .inr (some _), _ => rfl
  | .inr none, _ => rfl
theorem retA_some {rt : Option FieldType} {i : Jvm.ClassFile.Instr} {st : List AV} {r : Option AV} (h : retA rt i st = some r) : (i = .ireturn ∧ ∃ u : Int, st = [vI u] ∧ r = some (vI u) ∧ (rt = some .int ∨ (rt = some .boolean ∧ (u = 0 ∨ u = 1)))) ∨ (i = .return_ ∧ st = [] ∧ r = none ∧ rt = none) := by
  unfold retA at h
  split at h
  · split at h
    · cases h
      exact Or.inl ⟨rfl, _, rfl, rfl, Or.inl rfl⟩
    · split at h
      · rename_i hu
        cases h
        exact Or.inl ⟨rfl, _, rfl, rfl, Or.inr ⟨rfl, hu⟩⟩
      · cases h
    · cases h
  · split at h
    · cases h
      exact Or.inr ⟨rfl, rfl, rfl, rfl⟩
    · cases h
  · cases h
section RUN
variable {base : Nat} {ad : Nat → Nat} {D : va_G} {cI cJ : ClassId} {l : Launch}
/-- what a run of the fuel f says of the machine -/
def SND (base : Nat) (ad : Nat → Nat) (D : va_G) (cI cJ : ClassId) (l : Launch) (f : Nat) : Prop := ∀ (d k pc : Nat) (ls : LoA) (st : List AV) (h : HP) (r : Option AV) (h' : HP), k < nm → EXN ≤ h.1 → runA f d k pc ls st h = some (r, h') → ∀ (p : Program) (e : Env) (R : Room) (s : State) (m : MethodId) (args : Array Value) (below : List Frame) (meth : Method) (c : Code) (Q : State → Prop) (nL mc ms cells slots tc ts : Nat),
  CTX base ad D cI cJ p R s m args meth c k d mc ms → nL = (mt k).2.2.1 → cells + (h'.1 - h.1) = tc → slots + (h'.2.1 - h.2.1) = ts → tc ≤ mc → ts ≤ ms →
  (∀ (pc : Nat) (i : Jvm.ClassFile.Instr) (len a b cc w : Nat) (st : List AV) (H : Heap) (locs : List Loc) (lc : Array Slot), cd k pc = some (i, len, a, b, cc, w) → retA (mt k).2.2.2.1 i st = some r → REL base ad D cI cJ s h' H locs → W p l e R s m args below meth c H locs tc ts Q (F0 m pc lc (st.map (cv ad)))) →
  GA base ad D cI cJ p l e R s m args below meth c Q nL pc ls st h cells slots
set_option maxHeartbeats 4000000 in
theorem met_of {f d k : Nat} {as : List AV} {h h' : HP} {r : Option AV} (hA : ∀ q, ad (q + EXN) = base + q) (ih : SND base ad D cI cJ l f) (hk : k < nmM) (hE : EXN ≤ h.1) (hl : as.all nLg = true ∧ as.length ≤ (mt k).2.2.1) (hr : runA f d k 0 (entA k as) [] h = some (r, h')) :
    Met l (mt k).1 (wsK k) (rmA d (h'.1 - h.1) (h'.2.1 - h.2.1)) (PcA base ad D cI cJ as h) (QcA base ad D cI cJ r h') (h'.1 - h.1) (h'.2.1 - h.2.1) (ARg base) := by
  obtain ⟨o1, o2, o3, o4, o5, o6, o7⟩ := okM_all k hk
  have hkn : k < nm := Nat.lt_of_lt_of_le hk (Nat.sub_le _ _)
  refine Met.ofW (cc := (mt k).2.1) (maxL := (mt k).2.2.1) (ret := (mt k).2.2.2.1) o4.1 rfl ?_
  intro p e s m args below meth c s₁ B hml hv
  obtain ⟨rfl, -, hsz, hP, hK, hX, hZ, hN⟩ := hv
  have hx := B.exec
  have hb := B.bytes
  have hrt := B.returns
  have hts0 := atoms_spec (ws := wsK k) B.pre
  have hts : ∀ w ∈ lw_G, w.before (as.map (cv ad)).toArray s = true := fun w hw => hts0 w (List.mem_cons_of_mem _ hw)
  have hown : s.vm.findClass (cnm (mt k).2.2.2.2.2.2) = some m.cls := by rw [← o3]; exact findClass_of_methodNamed B.named
  have hlocks := B.notSynchronized
  have hbs : base ≤ s.heap.size := by omega
  have hin : (mt k).2.2.2.2.2.1 = 2 → meth.name = "<init>" := by
    intro h2
    rw [(name_of_methodNamed B.named B.method).1]
    rcases o7 with z | z | z
    · have := z.1; omega
    · have := z.1; omega
    · exact z.2.1
  have hg := ih d k 0 (entA k as) [] h r h' hkn hE hr p e (rmA d (h'.1 - h.1) (h'.2.1 - h.2.1)) s m (as.map (cv ad)).toArray below meth c (MQ below (QcA base ad D cI cJ r h') (as.map (cv ad)).toArray s (h'.1 - h.1) (h'.2.1 - h.2.1) (ARg base)) (mt k).2.2.1 (h'.1 - h.1) (h'.2.1 - h.2.1) 0 0 (h'.1 - h.1) (h'.2.1 - h.2.1)
    ⟨hx, hb, hml, hown, hts, hin, ⟨Nat.le_refl _, Nat.le_refl _, Nat.le_refl _, Nat.le_refl _⟩, hK, hA, hbs, hZ, hN⟩ rfl (Nat.zero_add _) (Nat.zero_add _) (Nat.le_refl _) (Nat.le_refl _) ?_
  · rw [lg_entry_eq]
    exact hg s.heap [] _ ⟨hE, hsz, hP, va_S.rf, hX⟩ (LRA.entry as _ hl.2 (cat_of hl.1))
  · intro pc i len a b cc w st H locs lc hc hra hR
    have fin : ∀ (v : Option Value), v = r.map (cv ad) → ∀ t : State, t.heap = H → s.WarmedH t.vm → QcA base ad D cI cJ r h' (as.map (cv ad)).toArray s (.returned v) t := by
      intro v hv t ht _
      refine ⟨by rw [hv], by rw [ht]; exact hR.2.1, by rw [ht]; exact hR.2.2.1, fun q hq => ?_⟩
      rw [ht]
      exact hR.2.2.2.1.2.1 q (by omega) (Nat.not_le.mpr hq)
    rcases retA_some hra with ⟨rfl, u, rfl, rfl, hq⟩ | ⟨rfl, rfl, rfl, hq⟩
    · have hdg := ent_1 1 hkn hc rfl
      rcases hq with hq | ⟨hq, hu⟩
      · exact W.iret (v := Int32.ofInt u) hx hb (hrt.trans hq) (fin _ rfl) hR.2.2.2.1.2.2 hdg hlocks
      · refine W.zret (v := Int32.ofInt u) (ty := .boolean) hx hb (hrt.trans hq) ?_ (fin _ rfl) hR.2.2.2.1.2.2 hdg hlocks
        rcases hu with rfl | rfl <;> decide
    · have hdg := ent_1 1 hkn hc rfl
      exact W.vret hx hb (hrt.trans hq) (fin _ rfl) hR.2.2.2.1.2.2 hdg hlocks
set_option maxHeartbeats 4000000 in
theorem run_sound (hA : ∀ q, ad (q + EXN) = base + q) : ∀ f : Nat, SND base ad D cI cJ l f := by
  intro f
  induction f with
  | zero => intro d k pc ls st h r h' _ _ hr; cases hr
  | succ f ih =>
    intro d k pc ls st h r h' hk hE hr p e R s m args below meth c Q nL mc ms cells slots tc ts C hnL htc hts hmc hms hret
    have hmon := run_mon _ _ _ _ _ _ _ _ _ hE hr
    unfold runA at hr
    split at hr
    · cases hr
    · rename_i pc1 ls1 st1 h1 hs
      obtain ⟨i, len, a, b, cc, w, hc, h2⟩ := stepA_inl hs
      have m1 := simp_mon hE h2
      have m2 := run_mon _ _ _ _ _ _ _ _ _ (Nat.le_trans hE m1.1) hr
      have q1 := m1.1
      have q2 := m1.2.1
      have q3 := m2.1
      have q4 := m2.2.1
      exact simp_sound C hnL hk hc h2 (by omega) (by omega) (ih d k pc1 ls1 st1 h1 r h' hk (Nat.le_trans hE m1.1) hr p e R s m args below meth c Q nL mc ms _ _ tc ts C hnL (by omega) (by omega) hmc hms hret)
    · rename_i r1 hs
      cases hr
      obtain ⟨i, len, a, b, cc, w, hc, h2⟩ := stepA_ret hs
      intro H locs lc hR hL
      have e1 : cells = tc := by omega
      have e2 : slots = ts := by omega
      rw [e1, e2]
      exact hret pc i len a b cc w st H locs lc hc h2 hR
    · rename_i k' as rest hs
      split at hr
      · cases hr
      · rename_i d'
        split at hr
        · cases hr
        · rename_i r1 h1 hq
          split at hq
          · rename_i hl
            obtain ⟨i, len, a, b, cc, w, hc, h2⟩ := stepA_call hs
            have m1 := run_mon _ _ _ _ _ _ _ _ _ hE hq
            have m2 := run_mon _ _ _ _ _ _ _ _ _ (Nat.le_trans hE m1.1) hr
            have q1 := m1.1
            have q2 := m1.2.1
            have q3 := m2.1
            have q4 := m2.2.1
            exact ga_call C hnL hk hc h2 m1 (by omega) (by omega) (fun hk' => met_of hA ih hk' hE hl hq) (ih (d' + 1) k (pc + 3) ls (r1.toList ++ rest) h1 r h' hk (Nat.le_trans hE m1.1) hr p e R s m args below meth c Q nL mc ms _ _ tc ts C hnL (by omega) (by omega) hmc hms hret)
          · cases hq
end RUN
end
section
/-! THE CLAIM OUT OF ONE WALK OF THE LAW'S BODY. Your part is whole_start (and what it stands on); all else here is the same for every law, but numbers. -/
def R_law : String := "SudokuGraderLaw"
def lw_P (b : Addr) (xs : List Int32) (args : Array Value) (s : State) : Prop := args = #[.ref b] ∧ s.IntsAt b xs ∧ xs.length ≤ 2048 ∧ (Jvm.Cond.and given_1 narrow_1).before args s = true
def lw_Q (_ : Array Value) (s : State) (o : Outcome) (t : State) : Prop := o = .returned (some (.int 1)) ∧ Framed s o t [] 600000 7302250
def lw_Z (below : List Frame) (a : Array Value) (s : State) : State → Prop := fun t => ∃ o, t.status = .running ∧ Ended t below o ∧ lw_Q a s o t
/-- the law's own end, with 1 on the stack, nothing written that was there before, its room as the claim has it -/
theorem lw_ret {p : Program} {l : Launch} {e : Env} {s : State} {m : MethodId} {below : List Frame} {meth : Method} {c : Code} {b : Nat} (hx : p.tables.exec = Jvm.exec) (hb : c.code = code) (hr : meth.sig.returnType = ret) (hlocks : meth.locks = false) {pc : Nat} {H : Heap} {ls : Array Slot} (hdg : decode code pc = .ok (.ireturn, 1)) : W p l e room_1 s m #[Value.ref b] below meth c H [] 600000 7302250 (lw_Z below #[Value.ref b] s) (F0 m pc ls [.int 1]) := by
  intro T hT X
  obtain ⟨fs, hret, hrun, hended, hW, hframe⟩ := X.leave (v := some (.int 1)) (hlocks := hlocks) (fun h => by rw [hr] at h; cases h)
  have hmeth' : T.vm.method? m = some meth := X.method'
  refine ⟨T.setFrames fs, ?_, .returned (some (.int 1)), hrun, hended, rfl, ⟨_, rfl⟩, hW, hframe⟩
  jvm_step X.here [X.here.top, hx, hb, hdg, hmeth', hr, ret, narrow_b1]
  (try refine ⟨rfl, ?_⟩); (try refine ⟨rfl, ?_⟩)
  first | (intro acts; rw [hret _ acts rfl rfl rfl]) | rw [hret _ _ rfl rfl rfl]
  exact Steps.refl _
/-- what holds at the law's entry: the machine, the code, the tables' words (any of lw_tbl by 'hts w (by decide +kernel)'), the script of L ints xs at the cell b, what the Statement gives of the start (any of its parts by flat_of_before) -/
def lw_At (p : Program) (s : State) (m : MethodId) (meth : Method) (c : Code) (b L : Nat) (xs : Nat → Int32) : Prop :=
  p.tables.exec = Jvm.exec ∧ c.code = code ∧ meth.sig.returnType = ret ∧ c.maxLocals = 4 ∧ s.vm.findClass R_law = some m.cls ∧ (∀ w ∈ lw_tbl, w.before #[Value.ref b] s = true) ∧ va_X b L xs s s.heap ∧ b < s.heap.size ∧ meth.locks = false ∧ (Jvm.Cond.and given_1 narrow_1).before #[Value.ref b] s = true
def tb_K : List Int := [0, 0, 0, 0, 1, 2, 1, 2, 3, 1, 2, 3, 3]
def tb_Z : List Int := [0, 0, 0, 0, 2, 2, 3, 3, 2, 4, 4, 3, 4]
def tb_W : List Int := [1, 2, 4, 5, 6, 8, 9, 12, 14, 16, 20, 18, 24, 30]
set_option maxHeartbeats 4000000 in
theorem st_K {args : Array Value} {s : State} (hs : ∀ c ∈ flatC (Jvm.Cond.and given_1 narrow_1), c.before args s = true) : ∃ t : Nat, (Term.static "SudokuGrader$Subsets" "KIND" "[I").eval args s none [] s = some (.ref t) ∧ va_T .int t 13 (fun j => .int (Int32.ofInt (tb_K.getD (j : Int).toNat 0))) (ARg s.heap.size) s s.heap := by
  refine va_Tof (by decide) (hs _ (List.mem_of_getElem? (i := 5) rfl)) (va_eqt (hs _ (List.mem_of_getElem? (i := 6) rfl))) (fun j hj => ?_) (fun q hq => Nat.not_le.mpr hq)
  match j, hj with
  | 0, _ => exact va_eqt (hs _ (List.mem_of_getElem? (i := 7) rfl))
  | 1, _ => exact va_eqt (hs _ (List.mem_of_getElem? (i := 8) rfl))
  | 2, _ => exact va_eqt (hs _ (List.mem_of_getElem? (i := 9) rfl))
  | 3, _ => exact va_eqt (hs _ (List.mem_of_getElem? (i := 10) rfl))
  | 4, _ => exact va_eqt (hs _ (List.mem_of_getElem? (i := 11) rfl))
  | 5, _ => exact va_eqt (hs _ (List.mem_of_getElem? (i := 12) rfl))
  | 6, _ => exact va_eqt (hs _ (List.mem_of_getElem? (i := 13) rfl))
  | 7, _ => exact va_eqt (hs _ (List.mem_of_getElem? (i := 14) rfl))
  | 8, _ => exact va_eqt (hs _ (List.mem_of_getElem? (i := 15) rfl))
  | 9, _ => exact va_eqt (hs _ (List.mem_of_getElem? (i := 16) rfl))
  | 10, _ => exact va_eqt (hs _ (List.mem_of_getElem? (i := 17) rfl))
  | 11, _ => exact va_eqt (hs _ (List.mem_of_getElem? (i := 18) rfl))
  | 12, _ => exact va_eqt (hs _ (List.mem_of_getElem? (i := 19) rfl))
  | j + 13, hj => exact absurd hj (by omega)
set_option maxHeartbeats 4000000 in
theorem st_Z {args : Array Value} {s : State} (hs : ∀ c ∈ flatC (Jvm.Cond.and given_1 narrow_1), c.before args s = true) : ∃ t : Nat, (Term.static "SudokuGrader$Subsets" "SIZE" "[I").eval args s none [] s = some (.ref t) ∧ va_T .int t 13 (fun j => .int (Int32.ofInt (tb_Z.getD (j : Int).toNat 0))) (ARg s.heap.size) s s.heap := by
  refine va_Tof (by decide) (hs _ (List.mem_of_getElem? (i := 21) rfl)) (va_eqt (hs _ (List.mem_of_getElem? (i := 22) rfl))) (fun j hj => ?_) (fun q hq => Nat.not_le.mpr hq)
  match j, hj with
  | 0, _ => exact va_eqt (hs _ (List.mem_of_getElem? (i := 23) rfl))
  | 1, _ => exact va_eqt (hs _ (List.mem_of_getElem? (i := 24) rfl))
  | 2, _ => exact va_eqt (hs _ (List.mem_of_getElem? (i := 25) rfl))
  | 3, _ => exact va_eqt (hs _ (List.mem_of_getElem? (i := 26) rfl))
  | 4, _ => exact va_eqt (hs _ (List.mem_of_getElem? (i := 27) rfl))
  | 5, _ => exact va_eqt (hs _ (List.mem_of_getElem? (i := 28) rfl))
  | 6, _ => exact va_eqt (hs _ (List.mem_of_getElem? (i := 29) rfl))
  | 7, _ => exact va_eqt (hs _ (List.mem_of_getElem? (i := 30) rfl))
  | 8, _ => exact va_eqt (hs _ (List.mem_of_getElem? (i := 31) rfl))
  | 9, _ => exact va_eqt (hs _ (List.mem_of_getElem? (i := 32) rfl))
  | 10, _ => exact va_eqt (hs _ (List.mem_of_getElem? (i := 33) rfl))
  | 11, _ => exact va_eqt (hs _ (List.mem_of_getElem? (i := 34) rfl))
  | 12, _ => exact va_eqt (hs _ (List.mem_of_getElem? (i := 35) rfl))
  | j + 13, hj => exact absurd hj (by omega)
set_option maxHeartbeats 4000000 in
theorem st_W {args : Array Value} {s : State} (hs : ∀ c ∈ flatC (Jvm.Cond.and given_1 narrow_1), c.before args s = true) : ∃ t : Nat, (Term.static "SudokuGrader$Trace" "WEIGHTS" "[I").eval args s none [] s = some (.ref t) ∧ va_T .int t 14 (fun j => .int (Int32.ofInt (tb_W.getD (j : Int).toNat 0))) (ARg s.heap.size) s s.heap := by
  refine va_Tof (by decide) (hs _ (List.mem_of_getElem? (i := 37) rfl)) (va_eqt (hs _ (List.mem_of_getElem? (i := 38) rfl))) (fun j hj => ?_) (fun q hq => Nat.not_le.mpr hq)
  match j, hj with
  | 0, _ => exact va_eqt (hs _ (List.mem_of_getElem? (i := 39) rfl))
  | 1, _ => exact va_eqt (hs _ (List.mem_of_getElem? (i := 40) rfl))
  | 2, _ => exact va_eqt (hs _ (List.mem_of_getElem? (i := 41) rfl))
  | 3, _ => exact va_eqt (hs _ (List.mem_of_getElem? (i := 42) rfl))
  | 4, _ => exact va_eqt (hs _ (List.mem_of_getElem? (i := 43) rfl))
  | 5, _ => exact va_eqt (hs _ (List.mem_of_getElem? (i := 44) rfl))
  | 6, _ => exact va_eqt (hs _ (List.mem_of_getElem? (i := 45) rfl))
  | 7, _ => exact va_eqt (hs _ (List.mem_of_getElem? (i := 46) rfl))
  | 8, _ => exact va_eqt (hs _ (List.mem_of_getElem? (i := 47) rfl))
  | 9, _ => exact va_eqt (hs _ (List.mem_of_getElem? (i := 48) rfl))
  | 10, _ => exact va_eqt (hs _ (List.mem_of_getElem? (i := 49) rfl))
  | 11, _ => exact va_eqt (hs _ (List.mem_of_getElem? (i := 50) rfl))
  | 12, _ => exact va_eqt (hs _ (List.mem_of_getElem? (i := 51) rfl))
  | 13, _ => exact va_eqt (hs _ (List.mem_of_getElem? (i := 52) rfl))
  | j + 14, hj => exact absurd hj (by omega)
/-- the heap at the law's entry: the script and three constant rows -/
def T0 (L : Nat) : Nat → LK := fun k => if k = 0 then .inl (false, L) else if k = 3 then .inl (false, 14) else .inl (false, 13)
def M0 (xs : Nat → Int32) : Nat → Int → Int := fun k j => if k = 0 then (xs j.toNat).toInt else if k = 1 then tb_K.getD j.toNat 0 else if k = 2 then tb_Z.getD j.toNat 0 else if k = 3 then tb_W.getD j.toNat 0 else 0
def H0A (L : Nat) (xs : Nat → Int32) : HP := (4, 0, T0 L, M0 xs)
def DPL : Nat := 40
/-- WHAT IS LEFT: of the abstract machine alone -/
def PURE : Prop := ∀ (L : Nat) (xs : Nat → Int32), L ≤ 2048 → ∃ (f : Nat) (h' : HP), runA f DPL k_L_law 0 (entA k_L_law [vR 0]) [] (H0A L xs) = some (some (vI 1), h') ∧ h'.1 ≤ 600000 ∧ h'.2.1 ≤ 7302250
theorem kn_all {args : Array Value} {s : State} (hts : ∀ w ∈ lw_G, w.before args s = true) : ∃ (dC : Nat → ClassId) (dI : Nat → Nat → Nat), ∀ (k : Nat) (q : vw_C), vwCl[k]? = some q → u_Kn s q.1 q.2.1 q.2.2 (dC k) (dI k) := by
  have h : ∀ k : Nat, ∃ (z : ClassId × (Nat → Nat)), ∀ q : vw_C, vwCl[k]? = some q → u_Kn s q.1 q.2.1 q.2.2 z.1 z.2 := by
    intro k
    cases hk : vwCl[k]? with
    | none => exact ⟨(0, fun _ => 0), fun q hq => by cases hq⟩
    | some q =>
      obtain ⟨C, T, N⟩ := q
      obtain ⟨ty, hty, hnm, hws, hinst, -⟩ := clsOk_all hk
      obtain ⟨cC, iS, hKn⟩ := u_known hts hws (hts _ hinst)
      exact ⟨(cC, iS), fun q hq => by cases hq; exact hKn⟩
  exact ⟨fun k => (Classical.choose (h k)).1, fun k => (Classical.choose (h k)).2, fun k q hq => Classical.choose_spec (h k) q hq⟩
theorem ar_of {args : Array Value} {s : State} {ty : FieldType} (h : (Cond.arrayClass ty).before args s = true) : ∃ cA : ClassId, ArrOfT s cA ty ∧ s.vm.findClass ("[" ++ ty.toString) = some cA := by
  obtain ⟨cA, kA, comp, h1, h2, h3⟩ := Cond.arrayClass_spec h
  exact ⟨cA, fun n z => ⟨fun k h => (by cases h), kA, h2, comp, h3⟩, h1⟩
def adL (b t1 t2 t3 z : Nat) : Nat → Nat := fun k => if k = 0 then b else if k = 1 then t1 else if k = 2 then t2 else if k = 3 then t3 else z + (k - 4)
set_option maxHeartbeats 4000000 in
set_option maxRecDepth 20000 in
theorem law_of_pure (hp : PURE) {p : Program} {e : Env} {s : State} {m : MethodId} {below : List Frame} {meth : Method} {c : Code} (l : Launch) {b L : Nat} {xs : Nat → Int32} (hL : L ≤ 2048) (C0 : lw_At p s m meth c b L xs) : W p l e room_1 s m #[Value.ref b] below meth c s.heap [] 0 0 (lw_Z below #[Value.ref b] s) (entryFrame m ([Value.ref b] : List Value).toArray 4) := by
  obtain ⟨hx, hb, hr, hml, hown, htb, hX, hbl, hlocks, hgv⟩ := id C0
  have hs := flat_of_before _ hgv
  have hts : ∀ w ∈ lw_G, w.before #[Value.ref b] s = true := fun w hw => htb w (List.mem_filter.mp hw).1
  obtain ⟨t1, ht1, hT1⟩ := st_K hs
  obtain ⟨t2, ht2, hT2⟩ := st_Z hs
  obtain ⟨t3, ht3, hT3⟩ := st_W hs
  obtain ⟨dC, dI, hKc⟩ := kn_all hts
  obtain ⟨cI, hcI, hfI⟩ := ar_of (hts _ ac_int)
  obtain ⟨cJ, hcJ, hfJ⟩ := ar_of (hts _ ac_long)
  obtain ⟨f, h', hrun, hn, hsl⟩ := hp L xs hL
  have hA : ∀ q, adL b t1 t2 t3 s.heap.size (q + EXN) = s.heap.size + q := by
    intro q
    unfold adL EXN
    rw [if_neg (by omega), if_neg (by omega), if_neg (by omega), if_neg (by omega), Nat.add_sub_cancel]
  have hlow : ∀ q : Nat, q < s.heap.size → ¬ ARg s.heap.size q := fun q hq => Nat.not_le.mpr hq
  have hK : va_K (dC, dI) vwCl [(cI, .int), (cJ, .long)] s := by
    refine ⟨hKc, fun k q hq => ?_⟩
    match k, hq with
    | 0, hq => cases hq; exact ⟨hcI, hfI⟩
    | 1, hq => cases hq; exact ⟨hcJ, hfJ⟩
    | k + 2, hq => cases hq
  have hZ : ∀ a, 1 ≤ a → a < EXN → va_Z (stn a).1 (stn a).2 "[I" (.ref (adL b t1 t2 t3 s.heap.size a)) (ARg s.heap.size) s s.heap := by
    intro a h1 h2
    have h2 : a < 4 := h2
    match a, h1, h2 with
    | 1, _, _ => exact va_Zref (htb _ (List.mem_append_right _ (List.mem_append_right _ (List.mem_append_left _ (List.mem_of_getElem? (i := 187) rfl))))) (hts _ (lw_m1 6 rfl rfl)) ht1 hlow
    | 2, _, _ => exact va_Zref (htb _ (List.mem_append_right _ (List.mem_append_right _ (List.mem_append_left _ (List.mem_of_getElem? (i := 195) rfl))))) (hts _ (lw_m1 6 rfl rfl)) ht2 hlow
    | 3, _, _ => exact va_Zref (htb _ (List.mem_append_right _ (List.mem_append_right _ (List.mem_append_right _ (List.mem_append_left _ (List.mem_of_getElem? (i := 25) rfl)))))) (hts _ (lw_m1 8 rfl rfl)) ht3 hlow
  have hNe : ∀ w ∈ nests, va_Nw w s := by
    simp only [nests, List.forall_mem_cons]
    refine ⟨va_Nw.of rfl (htb _ (List.mem_append_right _ (List.mem_append_right _ (List.mem_append_left _ (List.mem_of_getElem? (i := 101) rfl))))), va_Nw.of rfl (htb _ (List.mem_append_right _ (List.mem_append_right _ (List.mem_append_right _ (List.mem_append_left _ (List.mem_of_getElem? (i := 51) rfl)))))), va_Nw.of rfl (htb _ (List.mem_append_right _ (List.mem_append_right _ (List.mem_append_right _ (List.mem_append_left _ (List.mem_of_getElem? (i := 0) rfl)))))), va_Nw.of rfl (htb _ (List.mem_append_right _ (List.mem_append_right _ (List.mem_append_right _ (List.mem_append_left _ (List.mem_of_getElem? (i := 3) rfl)))))), va_Nw.of rfl (htb _ (List.mem_append_right _ (List.mem_append_right _ (List.mem_append_right _ (List.mem_append_left _ (List.mem_of_getElem? (i := 171) rfl)))))), va_Nw.of rfl (htb _ (List.mem_append_right _ (List.mem_append_right _ (List.mem_append_right _ (List.mem_append_left _ (List.mem_of_getElem? (i := 180) rfl)))))), va_Nw.of rfl (htb _ (List.mem_append_right _ (List.mem_append_left _ (List.mem_of_getElem? (i := 223) rfl)))), fun w hw => by cases hw⟩
  have hEX : EXT s.heap.size (adL b t1 t2 t3 s.heap.size) (H0A L xs) s := by
    intro k hk
    have hk : k < 4 := hk
    match k, hk with
    | 0, _ =>
      refine ⟨L, rfl, ?_⟩
      obtain ⟨scr, g1, g2, g3, g4, g5⟩ := hX
      refine ⟨scr, g1, g2, g3, Nat.le_of_eq g4.symm, by rw [g4], fun j hj => ?_, hlow b hbl⟩
      rw [g5 j hj]
      show some (Value.int (xs j)) = some (Value.int (Int32.ofInt ((xs ((j : Int).toNat)).toInt)))
      rw [Int32.ofInt_toInt, Int.toNat_natCast]
    | 1, _ => exact ⟨13, rfl, hT1⟩
    | 2, _ => exact ⟨13, rfl, hT2⟩
    | 3, _ => exact ⟨14, rfl, hT3⟩
  have hg := run_sound (D := (dC, dI)) (cI := cI) (cJ := cJ) (l := l) hA f DPL k_L_law 0 (entA k_L_law [vR 0]) [] (H0A L xs) (some (vI 1)) h' (by decide) (Nat.le_refl _) hrun p e room_1 s m #[Value.ref b] below meth c (lw_Z below #[Value.ref b] s) 4 600000 7302250 0 0 (0 + (h'.1 - 4)) (0 + (h'.2.1 - 0))
    ⟨hx, hb, hml, hown, hts, (fun h2 => absurd h2 (by decide)), ⟨by decide, by decide, Nat.le_refl _, Nat.le_refl _⟩, hK, hA, Nat.le_refl _, hZ, hNe⟩ rfl rfl rfl (by omega) (by omega) ?_
  · rw [lg_entry_eq]
    refine hg s.heap [] _ ⟨Nat.le_refl _, rfl, fun k q hq => ?_, va_S.rf, hEX⟩ (LRA.entry [vR 0] 4 (by decide) (fun v hv => ?_))
    · rw [show wsA (adL b t1 t2 t3 s.heap.size) cI cJ (H0A L xs) = [] from rfl] at hq
      cases hq
    · rw [List.mem_singleton.mp hv]
      rfl
  · intro pc i len a b' cc w st H locs lc hc hra hR
    rcases retA_some hra with ⟨rfl, u, rfl, hu, -⟩ | ⟨-, -, hu, -⟩
    · cases hu
      have hdg := ent_1 1 (by decide) hc rfl
      refine va_forget (fun q hq => hR.2.2.2.1.2.2 q hq) ?_
      refine W.widen (k := 600000) (n := 7302250) (by omega) (by omega) ?_
      exact lw_ret hx hb hr hlocks hdg
    · cases hu
end
section
/-! ROWS OVER THE ABSTRACT MACHINE: a run whose cells stay what they are; only numbers change -/
abbrev GT : Type := Nat × Nat × (Nat → LK)
abbrev MT : Type := Nat → Int → Int
theorem run_fuel : ∀ (f d k pc : Nat) (ls : LoA) (st : List AV) (h : HP) (q : Option AV × HP), runA f d k pc ls st h = some q → runA (f + 1) d k pc ls st h = some q := by
  intro f
  induction f with
  | zero => intro d k pc ls st h q hr; cases hr
  | succ f ih =>
    intro d k pc ls st h q hr
    unfold runA at hr ⊢
    split at hr
    · cases hr
    · exact ih _ _ _ _ _ _ _ hr
    · exact hr
    · cases d with
      | zero => cases hr
      | succ d' =>
        dsimp only at hr ⊢
        split at hr
        · cases hr
        · rename_i r1 h1 hq
          split at hq
          · rename_i hl
            rw [if_pos hl, ih _ _ _ _ _ _ _ hq]
            exact ih _ _ _ _ _ _ _ hr
          · cases hq
theorem run_le {f g d k pc : Nat} {ls : LoA} {st : List AV} {h : HP} {q : Option AV × HP} (hfg : f ≤ g) (hr : runA f d k pc ls st h = some q) : runA g d k pc ls st h = some q := by
  induction hfg with
  | refl => exact hr
  | step _ ih => exact run_fuel _ _ _ _ _ _ _ _ ih
def Wq (d k pc : Nat) (ls : LoA) (st : List AV) (G : GT) (M : MT) (Q : Option AV → MT → Prop) : Prop := ∃ (f : Nat) (r : Option AV) (M' : MT), runA f d k pc ls st (G.1, G.2.1, G.2.2, M) = some (r, (G.1, G.2.1, G.2.2, M')) ∧ Q r M'
/-- a method's contract -/
def Mq (d k : Nat) (as : List AV) (G : GT) (M : MT) (Q : Option AV → MT → Prop) : Prop := Wq d k 0 (entA k as) [] G M Q
abbrev R32 (z : Int) : Prop := -2147483648 ≤ z ∧ z < 2147483648
theorem w32_id {z : Int} (h : R32 z) : w32 z = z := Int32.toInt_ofInt_of_le h.1 (by have := h.2; omega)
section WQ
variable {d k pc pc' a b c w : Nat} {ls ls' : LoA} {st st' : List AV} {G : GT} {M M' : MT} {Q Q' : Option AV → MT → Prop}
theorem Wq.mono (h : Wq d k pc ls st G M Q) (hq : ∀ r M', Q r M' → Q' r M') : Wq d k pc ls st G M Q' := by
  obtain ⟨f, r, M', h1, h2⟩ := h
  exact ⟨f, r, M', h1, hq r M' h2⟩
theorem wq_s (pc' : Nat) (hs : stepA d k pc ls st (G.1, G.2.1, G.2.2, M) = some (.inl (pc', ls', st', (G.1, G.2.1, G.2.2, M')))) (h : Wq d k pc' ls' st' G M' Q) : Wq d k pc ls st G M Q := by
  obtain ⟨f, r, M2, h1, h2⟩ := h
  refine ⟨f + 1, r, M2, ?_, h2⟩
  unfold runA
  rw [hs]
  exact h1
theorem wq_ret {r : Option AV} (hs : stepA d k pc ls st (G.1, G.2.1, G.2.2, M) = some (.inr (.inr r))) (h : Q r M) : Wq d k pc ls st G M Q := by
  refine ⟨1, r, M, ?_, h⟩
  unfold runA
  rw [hs]
theorem wq_call {k' : Nat} {as rest : List AV} {Q1 : Option AV → MT → Prop} (pc' : Nat) (hp : pc + 3 = pc') (hs : stepA (d + 1) k pc ls st (G.1, G.2.1, G.2.2, M) = some (.inr (.inl (k', as, rest)))) (hl : as.all nLg = true ∧ as.length ≤ (mt k').2.2.1) (hm : Mq d k' as G M Q1)
    (h : ∀ r M1, Q1 r M1 → Wq (d + 1) k pc' ls (r.toList ++ rest) G M1 Q) : Wq (d + 1) k pc ls st G M Q := by
  subst hp
  obtain ⟨f1, r1, M1, e1, q1⟩ := hm
  obtain ⟨f2, r2, M2, e2, q2⟩ := h r1 M1 q1
  refine ⟨f1 + f2 + 1, r2, M2, ?_, q2⟩
  unfold runA
  rw [hs]
  dsimp only
  rw [if_pos hl, run_le (Nat.le_add_right f1 f2) e1]
  exact run_le (Nat.le_add_left f2 f1) e2
theorem stp_of {i : Jvm.ClassFile.Instr} {len : Nat} {h : HP} {q : SA} (hc : cd k pc = some (i, len, a, b, c, w)) (hr : retA (mt k).2.2.2.1 i st = none) (hl : callA i a b st h = none) (hs : simpA (decide (0 < d)) (decide ((mt k).2.2.2.2.2.1 = 2 ∧ (mt k).2.2.2.2.2.2 = a)) i a b c pc ls st h = some q) : stepA d k pc ls st h = some (.inl q) := by
  unfold stepA
  rw [hc]
  dsimp only
  rw [hr]
  dsimp only
  rw [hl]
  dsimp only
  rw [hs]
theorem wq_iald {q n : Nat} {i v : Int} (pc' : Nat) (hp : pc + 1 = pc') (hc : cd k pc = some (.iaload, 1, a, b, c, w)) (hq : q < G.1) (hT : G.2.2 q = .inl (false, n)) (h0 : 0 ≤ i) (h1 : i < n) (h2 : n ≤ 2147483647) (hv : M q i = v) (h : Wq d k pc' ls (vI v :: st) G M Q) : Wq d k pc ls (vI i :: vR q :: st) G M Q := by
  subst hp
  subst hv
  refine wq_s _ (stp_of hc rfl rfl ?_) h
  show aldA false (pc + 1) ls (vI i :: vR q :: st) (G.1, G.2.1, G.2.2, M) = _
  unfold aldA
  dsimp only
  rw [if_pos hq, hT]
  dsimp only
  rw [if_pos ⟨rfl, h0, h1, h2⟩, if_neg (by decide)]
theorem wq_iast {q n : Nat} {i v : Int} (pc' : Nat) (hp : pc + 1 = pc') (hc : cd k pc = some (.iastore, 1, a, b, c, w)) (hq : EXN ≤ q ∧ q < G.1) (hT : G.2.2 q = .inl (false, n)) (h0 : 0 ≤ i) (h1 : i < n) (h2 : n ≤ 2147483647) (h : Wq d k pc' ls st G (up2 M q i v) Q) : Wq d k pc ls (vI v :: vI i :: vR q :: st) G M Q := by
  subst hp
  refine wq_s _ (stp_of hc rfl rfl ?_) h
  show astA (pc + 1) ls (vI v :: vI i :: vR q :: st) (G.1, G.2.1, G.2.2, M) false = _
  unfold astA
  dsimp only
  rw [if_pos hq, hT]
  dsimp only
  rw [if_pos ⟨rfl, h0, h1, h2⟩]
theorem wq_br {q : Bool} {off : Int} {i : Jvm.ClassFile.Instr} {len tgt : Nat} (hs : simpA (decide (0 < d)) (decide ((mt k).2.2.2.2.2.1 = 2 ∧ (mt k).2.2.2.2.2.2 = a)) i a b c pc ls st (G.1, G.2.1, G.2.2, M) = brA q pc off ls st' (G.1, G.2.1, G.2.2, M)) (hc : cd k pc = some (i, len, a, b, c, w)) (hr : retA (mt k).2.2.2.1 i st = none) (hl : callA i a b st (G.1, G.2.1, G.2.2, M) = none) (ht : (pc : Int) + off = (tgt : Int))
    (kt : q = true → Wq d k tgt ls st' G M Q) (kf : q = false → Wq d k (pc + 3) ls st' G M Q) : Wq d k pc ls st G M Q := by
  have e1 : brA q pc off ls st' (G.1, G.2.1, G.2.2, M) = some (if q = true then tgt else pc + 3, ls, st', (G.1, G.2.1, G.2.2, M)) := by
    unfold brA
    rw [if_pos (by omega)]
    cases q
    · rfl
    · rw [if_pos rfl, if_pos rfl, show ((pc : Int) + off).toNat = tgt by omega]
  refine wq_s _ (stp_of hc hr hl (hs.trans e1)) ?_
  cases q
  · exact kf rfl
  · exact kt rfl
theorem wq_icmp {q : Jvm.ClassFile.Cond} {off u v : Int} (tgt : Nat) (hc : cd k pc = some (.if_icmp q off, 3, a, b, c, w)) (ht : (pc : Int) + off = (tgt : Int)) (hu : R32 u) (hv : R32 v) (kt : cmpA q u v = true → Wq d k tgt ls st G M Q) (kf : cmpA q u v = false → Wq d k (pc + 3) ls st G M Q) : Wq d k pc ls (vI v :: vI u :: st) G M Q := by
  refine wq_br (q := cmpA q u v) ?_ hc rfl rfl ht kt kf
  show brA (cmpA q (w32 u) (w32 v)) pc off ls st _ = _
  rw [w32_id hu, w32_id hv]
theorem wq_if {q : Jvm.ClassFile.Cond} {off u : Int} (tgt : Nat) (hc : cd k pc = some (.ifCond q off, 3, a, b, c, w)) (ht : (pc : Int) + off = (tgt : Int)) (hu : R32 u) (kt : cmpA q u 0 = true → Wq d k tgt ls st G M Q) (kf : cmpA q u 0 = false → Wq d k (pc + 3) ls st G M Q) : Wq d k pc ls (vI u :: st) G M Q := by
  refine wq_br (q := cmpA q u 0) ?_ hc rfl rfl ht kt kf
  show brA (cmpA q (w32 u) 0) pc off ls st _ = _
  rw [w32_id hu]
theorem wq_add {u v : Int} (pc' : Nat) (hp : pc + 1 = pc') (hc : cd k pc = some (.iadd, 1, a, b, c, w)) (hz : R32 (u + v)) (h : Wq d k pc' ls (vI (u + v) :: st) G M Q) : Wq d k pc ls (vI v :: vI u :: st) G M Q := by
  subst hp
  refine wq_s _ (stp_of hc rfl rfl ?_) h
  show some (pc + 1, ls, vI (w32 (u + v)) :: st, _) = _
  rw [w32_id hz]
theorem wq_sub {u v : Int} (pc' : Nat) (hp : pc + 1 = pc') (hc : cd k pc = some (.isub, 1, a, b, c, w)) (hz : R32 (u - v)) (h : Wq d k pc' ls (vI (u - v) :: st) G M Q) : Wq d k pc ls (vI v :: vI u :: st) G M Q := by
  subst hp
  refine wq_s _ (stp_of hc rfl rfl ?_) h
  show some (pc + 1, ls, vI (w32 (u - v)) :: st, _) = _
  rw [w32_id hz]
theorem wq_mul {u v : Int} (pc' : Nat) (hp : pc + 1 = pc') (hc : cd k pc = some (.imul, 1, a, b, c, w)) (hz : R32 (u * v)) (h : Wq d k pc' ls (vI (u * v) :: st) G M Q) : Wq d k pc ls (vI v :: vI u :: st) G M Q := by
  subst hp
  refine wq_s _ (stp_of hc rfl rfl ?_) h
  show some (pc + 1, ls, vI (w32 (u * v)) :: st, _) = _
  rw [w32_id hz]
theorem wq_inc {j : Nat} {n u : Int} (pc' : Nat) (ls' : LoA) (hp : pc + 3 = pc') (hc : cd k pc = some (.iinc j n, 3, a, b, c, w)) (hl : ls[j]? = some (some (vI u))) (hz : R32 (u + n)) (hs : ls.set j (some (vI (u + n))) = ls') (h : Wq d k pc' ls' st G M Q) : Wq d k pc ls st G M Q := by
  subst hp
  subst hs
  refine wq_s _ (stp_of hc rfl rfl ?_) h
  unfold simpA
  dsimp only
  rw [hl]
  dsimp only
  rw [w32_id hz]
theorem div_of {u v : Int} (hu : 0 ≤ u) (hu2 : u < 2147483648) (hv : 0 < v) (hv2 : v < 2147483648) : b32 (fun x y => x / y) u v = u / v ∧ b32 (fun x y => x - x / y * y) u v = u % v := by
  obtain ⟨m, rfl⟩ := Int.eq_ofNat_of_zero_le hu
  obtain ⟨n, rfl⟩ := Int.eq_ofNat_of_zero_le (Int.le_of_lt hv)
  have e1 : Int32.ofInt (m : Int) = nI m := rfl
  have e2 : Int32.ofInt (n : Int) = nI n := rfl
  have hm : m < 2 ^ 31 := by omega
  have hn : n < 2 ^ 31 := by omega
  have h0 : 0 < n := by omega
  have d1 : m / n < 2 ^ 31 := Nat.lt_of_le_of_lt (Nat.div_le_self m n) hm
  have d2 : m % n < 2 ^ 31 := Nat.lt_of_le_of_lt (Nat.mod_le m n) hm
  refine ⟨?_, ?_⟩
  · unfold b32
    dsimp only
    rw [e1, e2, pk_div hm h0 hn, nI_toInt d1]
    rfl
  · unfold b32
    dsimp only
    rw [e1, e2, pk_rem hm h0 hn, nI_toInt d2]
    rfl
theorem wq_div {u v : Int} (pc' : Nat) (hp : pc + 1 = pc') (hc : cd k pc = some (.idiv, 1, a, b, c, w)) (hu : 0 ≤ u) (hu2 : u < 2147483648) (hv : 0 < v) (hv2 : v < 2147483648) (h : Wq d k pc' ls (vI (u / v) :: st) G M Q) : Wq d k pc ls (vI v :: vI u :: st) G M Q := by
  subst hp
  refine wq_s _ (stp_of hc rfl rfl ?_) h
  unfold simpA
  dsimp only
  rw [if_neg (by rw [w32_id ⟨by omega, by omega⟩]; omega), (div_of hu hu2 hv hv2).1]
theorem wq_rem {u v : Int} (pc' : Nat) (hp : pc + 1 = pc') (hc : cd k pc = some (.irem, 1, a, b, c, w)) (hu : 0 ≤ u) (hu2 : u < 2147483648) (hv : 0 < v) (hv2 : v < 2147483648) (h : Wq d k pc' ls (vI (u % v) :: st) G M Q) : Wq d k pc ls (vI v :: vI u :: st) G M Q := by
  subst hp
  refine wq_s _ (stp_of hc rfl rfl ?_) h
  unfold simpA
  dsimp only
  rw [if_neg (by rw [w32_id ⟨by omega, by omega⟩]; omega), (div_of hu hu2 hv hv2).2]
end WQ
end
section
/-! the reference: small functions of numbers -/
theorem c_X9_in {d : Nat} {G : GT} {M : MT} {v x y : Int} (hv : R32 v) (hx : R32 x) (hy : R32 y) : Mq d k_X9_in [vI v, vI x, vI y] G M (fun r M' => r = some (vI (if x ≤ v ∧ v ≤ y then 1 else 0)) ∧ M' = M) := by
  refine wq_s 1 rfl ?_
  refine wq_s 2 rfl ?_
  refine wq_icmp 14 rfl rfl (by omega) (by omega) (fun c_2 => ?_) (fun c_2 => ?_)
  · have c_2 := of_decide_eq_true c_2
    refine wq_s 15 rfl ?_
    exact wq_ret rfl ⟨congrArg (fun z => some (vI z)) (by (repeat' split) <;> omega), rfl⟩
  · have c_2 := of_decide_eq_false c_2
    refine wq_s 6 rfl ?_
    refine wq_s 7 rfl ?_
    refine wq_icmp 14 rfl rfl (by omega) (by omega) (fun c_7 => ?_) (fun c_7 => ?_)
    · have c_7 := of_decide_eq_true c_7
      refine wq_s 15 rfl ?_
      exact wq_ret rfl ⟨congrArg (fun z => some (vI z)) (by (repeat' split) <;> omega), rfl⟩
    · have c_7 := of_decide_eq_false c_7
      refine wq_s 11 rfl ?_
      refine wq_s 15 rfl ?_
      exact wq_ret rfl ⟨congrArg (fun z => some (vI z)) (by (repeat' split) <;> omega), rfl⟩
def cellF (h k : Int) : Int := if h < 9 then 9 * h + k else if h < 18 then 9 * k + h - 9 else 9 * (3 * ((h - 18) / 3) + k / 3) + 3 * ((h - 18) % 3) + k % 3
theorem c_X9_cellOf {d : Nat} {G : GT} {M : MT} {h k : Int} (h0 : 0 ≤ h) (h1 : h < 27) (k0 : 0 ≤ k) (k1 : k < 9) : Mq d k_X9_cellOf [vI h, vI k] G M (fun r M' => r = some (vI (cellF h k)) ∧ M' = M) := by
  refine wq_s 1 rfl ?_
  refine wq_s 3 rfl ?_
  refine wq_icmp 13 rfl rfl (by omega) (by omega) (fun c_3 => ?_) (fun c_3 => ?_)
  · have c_3 := of_decide_eq_true c_3
    refine wq_s 14 rfl ?_
    refine wq_s 16 rfl ?_
    refine wq_icmp 29 rfl rfl (by omega) (by omega) (fun c_16 => ?_) (fun c_16 => ?_)
    · have c_16 := of_decide_eq_true c_16
      refine wq_s 30 rfl ?_
      refine wq_s 32 rfl ?_
      refine wq_sub 33 rfl rfl (by omega) ?_
      refine wq_s 34 rfl ?_
      refine wq_s 36 rfl ?_
      refine wq_s 37 rfl ?_
      refine wq_s 38 rfl ?_
      refine wq_s 39 rfl ?_
      refine wq_div 40 rfl rfl (by omega) (by omega) (by omega) (by omega) ?_
      refine wq_mul 41 rfl rfl (by omega) ?_
      refine wq_s 42 rfl ?_
      refine wq_s 43 rfl ?_
      refine wq_div 44 rfl rfl (by omega) (by omega) (by omega) (by omega) ?_
      refine wq_add 45 rfl rfl (by omega) ?_
      refine wq_mul 46 rfl rfl (by omega) ?_
      refine wq_s 47 rfl ?_
      refine wq_s 48 rfl ?_
      refine wq_s 49 rfl ?_
      refine wq_rem 50 rfl rfl (by omega) (by omega) (by omega) (by omega) ?_
      refine wq_mul 51 rfl rfl (by omega) ?_
      refine wq_add 52 rfl rfl (by omega) ?_
      refine wq_s 53 rfl ?_
      refine wq_s 54 rfl ?_
      refine wq_rem 55 rfl rfl (by omega) (by omega) (by omega) (by omega) ?_
      refine wq_add 56 rfl rfl (by omega) ?_
      exact wq_ret rfl ⟨congrArg (fun z => some (vI z)) (by unfold cellF; (repeat' split) <;> omega), rfl⟩
    · have c_16 := of_decide_eq_false c_16
      refine wq_s 21 rfl ?_
      refine wq_s 22 rfl ?_
      refine wq_mul 23 rfl rfl (by omega) ?_
      refine wq_s 24 rfl ?_
      refine wq_add 25 rfl rfl (by omega) ?_
      refine wq_s 27 rfl ?_
      refine wq_sub 28 rfl rfl (by omega) ?_
      exact wq_ret rfl ⟨congrArg (fun z => some (vI z)) (by unfold cellF; (repeat' split) <;> omega), rfl⟩
  · have c_3 := of_decide_eq_false c_3
    refine wq_s 8 rfl ?_
    refine wq_s 9 rfl ?_
    refine wq_mul 10 rfl rfl (by omega) ?_
    refine wq_s 11 rfl ?_
    refine wq_add 12 rfl rfl (by omega) ?_
    exact wq_ret rfl ⟨congrArg (fun z => some (vI z)) (by unfold cellF; (repeat' split) <;> omega), rfl⟩
def houseF (c s : Int) : Int := if s = 0 then c / 9 else if s = 1 then 9 + c % 9 else 18 + 3 * (c / 9 / 3) + c % 9 / 3
theorem c_X9_houseOf {d : Nat} {G : GT} {M : MT} {c s : Int} (h0 : 0 ≤ c) (h1 : c < 81) (k0 : R32 s) : Mq d k_X9_houseOf [vI c, vI s] G M (fun r M' => r = some (vI (houseF c s)) ∧ M' = M) := by
  refine wq_s 1 rfl ?_
  refine wq_s 3 rfl ?_
  refine wq_div 4 rfl rfl (by omega) (by omega) (by omega) (by omega) ?_
  refine wq_s 5 rfl ?_
  refine wq_s 6 rfl ?_
  refine wq_s 8 rfl ?_
  refine wq_rem 9 rfl rfl (by omega) (by omega) (by omega) (by omega) ?_
  refine wq_s 10 rfl ?_
  refine wq_s 11 rfl ?_
  refine wq_if 18 rfl rfl (by omega) (fun c_11 => ?_) (fun c_11 => ?_)
  · have c_11 := of_decide_eq_true c_11
    refine wq_s 19 rfl ?_
    refine wq_s 20 rfl ?_
    refine wq_icmp 30 rfl rfl (by omega) (by omega) (fun c_20 => ?_) (fun c_20 => ?_)
    · have c_20 := of_decide_eq_true c_20
      refine wq_s 32 rfl ?_
      refine wq_s 33 rfl ?_
      refine wq_s 34 rfl ?_
      refine wq_s 35 rfl ?_
      refine wq_div 36 rfl rfl (by omega) (by omega) (by omega) (by omega) ?_
      refine wq_mul 37 rfl rfl (by omega) ?_
      refine wq_add 38 rfl rfl (by omega) ?_
      refine wq_s 39 rfl ?_
      refine wq_s 40 rfl ?_
      refine wq_div 41 rfl rfl (by omega) (by omega) (by omega) (by omega) ?_
      refine wq_add 42 rfl rfl (by omega) ?_
      exact wq_ret rfl ⟨congrArg (fun z => some (vI z)) (by unfold houseF; (repeat' split) <;> omega), rfl⟩
    · have c_20 := of_decide_eq_false c_20
      refine wq_s 25 rfl ?_
      refine wq_s 26 rfl ?_
      refine wq_add 27 rfl rfl (by omega) ?_
      refine wq_s 42 rfl ?_
      exact wq_ret rfl ⟨congrArg (fun z => some (vI z)) (by unfold houseF; (repeat' split) <;> omega), rfl⟩
  · have c_11 := of_decide_eq_false c_11
    refine wq_s 15 rfl ?_
    refine wq_s 42 rfl ?_
    exact wq_ret rfl ⟨congrArg (fun z => some (vI z)) (by unfold houseF; (repeat' split) <;> omega), rfl⟩
end
section
/-! bits of natural numbers, as the machine has them -/
theorem bn_and (a b : Nat) : nI a &&& nI b = nI (a &&& b) := by
  apply Int32.toBitVec_inj.1
  show BitVec.ofNat 32 a &&& BitVec.ofNat 32 b = BitVec.ofNat 32 (a &&& b)
  apply BitVec.eq_of_getLsbD_eq
  intro i hi
  simp [hi, Nat.testBit_and]
theorem bn_or (a b : Nat) : nI a ||| nI b = nI (a ||| b) := by
  apply Int32.toBitVec_inj.1
  show BitVec.ofNat 32 a ||| BitVec.ofNat 32 b = BitVec.ofNat 32 (a ||| b)
  apply BitVec.eq_of_getLsbD_eq
  intro i hi
  simp [hi, Nat.testBit_or]
theorem bn_xor (a b : Nat) : nI a ^^^ nI b = nI (a ^^^ b) := by
  apply Int32.toBitVec_inj.1
  show BitVec.ofNat 32 a ^^^ BitVec.ofNat 32 b = BitVec.ofNat 32 (a ^^^ b)
  apply BitVec.eq_of_getLsbD_eq
  intro i hi
  simp [hi, Nat.testBit_xor]
/-- the bits of m that n doesn't have -/
def andN (m n : Nat) : Nat := m ^^^ (m &&& n)
theorem andN_bit (m n i : Nat) : (andN m n).testBit i = (m.testBit i && !n.testBit i) := by
  unfold andN
  rw [Nat.testBit_xor, Nat.testBit_and]
  cases m.testBit i <;> cases n.testBit i <;> rfl
theorem lt_of_bits {a n : Nat} (h : ∀ i, n ≤ i → a.testBit i = false) : a < 2 ^ n := Nat.lt_pow_two_of_testBit a (fun i hi => h i hi)
theorem bit_out {a n i : Nat} (h : a < 2 ^ n) (hi : n ≤ i) : a.testBit i = false := Nat.testBit_lt_two_pow (Nat.lt_of_lt_of_le h (Nat.pow_le_pow_right (by decide) hi))
theorem andN_lt {m n k : Nat} (h : m < 2 ^ k) : andN m n < 2 ^ k := lt_of_bits (fun i hi => by rw [andN_bit, bit_out h hi]; rfl)
theorem and_lt2 {m n k : Nat} (h : m < 2 ^ k) : m &&& n < 2 ^ k := lt_of_bits (fun i hi => by rw [Nat.testBit_and, bit_out h hi]; rfl)
theorem or_lt2 {m n k : Nat} (h : m < 2 ^ k) (h2 : n < 2 ^ k) : m ||| n < 2 ^ k := lt_of_bits (fun i hi => by rw [Nat.testBit_or, bit_out h hi, bit_out h2 hi]; rfl)
theorem xor_lt2 {m n k : Nat} (h : m < 2 ^ k) (h2 : n < 2 ^ k) : m ^^^ n < 2 ^ k := lt_of_bits (fun i hi => by rw [Nat.testBit_xor, bit_out h hi, bit_out h2 hi]; rfl)
theorem bn_not (n : Nat) : Int32.ofInt (-1 - (n : Int)) = nI n ^^^ (-1) := by
  have e : Int32.ofInt (-1 - (n : Int)) = -1 - nI n := by rw [Int32.ofInt_sub]; rfl
  rw [e]
  apply Int32.toBitVec_inj.1
  show BitVec.ofInt 32 (-1) - BitVec.ofNat 32 n = BitVec.ofNat 32 n ^^^ BitVec.ofInt 32 (-1)
  have h1 : BitVec.ofInt 32 (-1) = BitVec.allOnes 32 := by decide
  rw [h1, BitVec.xor_allOnes, BitVec.allOnes_sub_eq_not]
theorem bn_andN (m n : Nat) : nI m &&& (nI n ^^^ (-1)) = nI (andN m n) := by
  rw [show nI (andN m n) = nI m ^^^ (nI m &&& nI n) from by rw [bn_and, bn_xor]; rfl]
  generalize nI m = u
  generalize nI n = v
  apply Int32.toBitVec_inj.1
  show u.toBitVec &&& (v.toBitVec ^^^ BitVec.ofInt 32 (-1)) = u.toBitVec ^^^ (u.toBitVec &&& v.toBitVec)
  have h1 : BitVec.ofInt 32 (-1) = BitVec.allOnes 32 := by decide
  rw [h1, BitVec.xor_allOnes]
  generalize u.toBitVec = p
  generalize v.toBitVec = q
  apply BitVec.eq_of_getLsbD_eq
  intro i hi
  simp [hi]
  cases p[i] <;> cases q[i] <;> rfl
theorem shl_c : ∀ n, n < 32 → ((nI n &&& 31).toBitVec.smod 32).toNat = n := by decide +kernel
section WB
variable {d k pc pc' a b c w : Nat} {ls ls' : LoA} {st st' : List AV} {G : GT} {M M' : MT} {Q Q' : Option AV → MT → Prop}
theorem wq_and {m n : Nat} (pc' : Nat) (hp : pc + 1 = pc') (hc : cd k pc = some (.iand, 1, a, b, c, w)) (hm : m < 2147483648) (h : Wq d k pc' ls (vI ((m &&& n : Nat) : Int) :: st) G M Q) : Wq d k pc ls (vI (n : Int) :: vI (m : Int) :: st) G M Q := by
  subst hp
  refine wq_s _ (stp_of hc rfl rfl ?_) h
  show some (pc + 1, ls, vI (b32 (fun x y => x &&& y) m n) :: st, _) = _
  rw [show b32 (fun x y => x &&& y) (m : Int) (n : Int) = ((m &&& n : Nat) : Int) from by
    show (nI m &&& nI n).toInt = _
    rw [bn_and, nI_toInt (and_lt2 (k := 31) hm)]]
theorem wq_or {m n : Nat} (pc' : Nat) (hp : pc + 1 = pc') (hc : cd k pc = some (.ior, 1, a, b, c, w)) (hm : m < 2147483648) (hn : n < 2147483648) (h : Wq d k pc' ls (vI ((m ||| n : Nat) : Int) :: st) G M Q) : Wq d k pc ls (vI (n : Int) :: vI (m : Int) :: st) G M Q := by
  subst hp
  refine wq_s _ (stp_of hc rfl rfl ?_) h
  show some (pc + 1, ls, vI (b32 (fun x y => x ||| y) m n) :: st, _) = _
  rw [show b32 (fun x y => x ||| y) (m : Int) (n : Int) = ((m ||| n : Nat) : Int) from by
    show (nI m ||| nI n).toInt = _
    rw [bn_or, nI_toInt (or_lt2 (k := 31) hm hn)]]
theorem wq_xor {m n : Nat} (pc' : Nat) (hp : pc + 1 = pc') (hc : cd k pc = some (.ixor, 1, a, b, c, w)) (hm : m < 2147483648) (hn : n < 2147483648) (h : Wq d k pc' ls (vI ((m ^^^ n : Nat) : Int) :: st) G M Q) : Wq d k pc ls (vI (n : Int) :: vI (m : Int) :: st) G M Q := by
  subst hp
  refine wq_s _ (stp_of hc rfl rfl ?_) h
  show some (pc + 1, ls, vI (b32 (fun x y => x ^^^ y) m n) :: st, _) = _
  rw [show b32 (fun x y => x ^^^ y) (m : Int) (n : Int) = ((m ^^^ n : Nat) : Int) from by
    show (nI m ^^^ nI n).toInt = _
    rw [bn_xor, nI_toInt (xor_lt2 (k := 31) hm hn)]]
theorem wq_not {n : Nat} (pc' : Nat) (hp : pc + 1 = pc') (hc : cd k pc = some (.ixor, 1, a, b, c, w)) (hn : n < 2147483648) (h : Wq d k pc' ls (vI (-1 - (n : Int)) :: st) G M Q) : Wq d k pc ls (vI (-1) :: vI (n : Int) :: st) G M Q := by
  subst hp
  refine wq_s _ (stp_of hc rfl rfl ?_) h
  show some (pc + 1, ls, vI (b32 (fun x y => x ^^^ y) n (-1)) :: st, _) = _
  rw [show b32 (fun x y => x ^^^ y) (n : Int) (-1) = -1 - (n : Int) from by
    show (nI n ^^^ (-1)).toInt = _
    rw [← bn_not]
    exact w32_id ⟨by omega, by omega⟩]
theorem wq_andn {m n : Nat} (pc' : Nat) (hp : pc + 1 = pc') (hc : cd k pc = some (.iand, 1, a, b, c, w)) (hm : m < 2147483648) (h : Wq d k pc' ls (vI ((andN m n : Nat) : Int) :: st) G M Q) : Wq d k pc ls (vI (-1 - (n : Int)) :: vI (m : Int) :: st) G M Q := by
  subst hp
  refine wq_s _ (stp_of hc rfl rfl ?_) h
  show some (pc + 1, ls, vI (b32 (fun x y => x &&& y) m (-1 - (n : Int))) :: st, _) = _
  rw [show b32 (fun x y => x &&& y) (m : Int) (-1 - (n : Int)) = ((andN m n : Nat) : Int) from by
    unfold b32
    dsimp only
    rw [bn_not]
    show (nI m &&& (nI n ^^^ (-1))).toInt = _
    rw [bn_andN, nI_toInt (andN_lt (k := 31) hm)]]
theorem wq_shl {m n : Nat} (pc' : Nat) (hp : pc + 1 = pc') (hc : cd k pc = some (.ishl, 1, a, b, c, w)) (hn : n < 32) (hm : m * 2 ^ n < 2147483648) (h : Wq d k pc' ls (vI ((m * 2 ^ n : Nat) : Int) :: st) G M Q) : Wq d k pc ls (vI (n : Int) :: vI (m : Int) :: st) G M Q := by
  subst hp
  refine wq_s _ (stp_of hc rfl rfl ?_) h
  show some (pc + 1, ls, vI (b32 (fun x y => x <<< (y &&& 31)) m n) :: st, _) = _
  rw [show b32 (fun x y => x <<< (y &&& 31)) (m : Int) (n : Int) = ((m * 2 ^ n : Nat) : Int) from by
    show (nI m <<< (nI n &&& 31)).toInt = _
    rw [pk_shlN _ n (shl_c n hn) (by omega), nI_toInt hm]]
theorem wq_shr {m n : Nat} (pc' : Nat) (hp : pc + 1 = pc') (hc : cd k pc = some (.ishr, 1, a, b, c, w)) (hn : n < 32) (hm : m < 2147483648) (h : Wq d k pc' ls (vI ((m / 2 ^ n : Nat) : Int) :: st) G M Q) : Wq d k pc ls (vI (n : Int) :: vI (m : Int) :: st) G M Q := by
  subst hp
  refine wq_s _ (stp_of hc rfl rfl ?_) h
  show some (pc + 1, ls, vI (b32 (fun x y => x >>> (y &&& 31)) m n) :: st, _) = _
  rw [show b32 (fun x y => x >>> (y &&& 31)) (m : Int) (n : Int) = ((m / 2 ^ n : Nat) : Int) from by
    show (nI m >>> (nI n &&& 31)).toInt = _
    rw [pk_shrN hm _ n (shl_c n hn), nI_toInt (Nat.lt_of_le_of_lt (Nat.div_le_self _ _) hm)]]
end WB
end
section
/-! rows for fields; the reference's functions of one row of masks -/
section WF
variable {d k pc pc' a b c w : Nat} {ls ls' : LoA} {st st' : List AV} {G : GT} {M M' : MT} {Q Q' : Option AV → MT → Prop}
theorem wq_getR {q x0 : Nat} {fs : List (Option (Option Nat))} {r : Option Nat} (pc' : Nat) (hp : pc + 3 = pc') (hc : cd k pc = some (.getfield x0, 3, a, b, c, w)) (hq : EXN ≤ q ∧ q < G.1) (hT : G.2.2 q = .inr (a, fs)) (hf : fs[b]? = some (some r)) (h : Wq d k pc' ls (.inr r :: st) G M Q) : Wq d k pc ls (vR q :: st) G M Q := by
  subst hp
  refine wq_s _ (stp_of hc rfl rfl ?_) h
  show getA a b (pc + 3) ls (vR q :: st) (G.1, G.2.1, G.2.2, M) = _
  unfold getA
  dsimp only
  rw [if_pos hq, hT]
  dsimp only
  rw [if_pos rfl, hf]
theorem wq_getN {q x0 : Nat} {fs : List (Option (Option Nat))} {v : Int} (pc' : Nat) (hp : pc + 3 = pc') (hc : cd k pc = some (.getfield x0, 3, a, b, c, w)) (hq : EXN ≤ q ∧ q < G.1) (hT : G.2.2 q = .inr (a, fs)) (hf : fs[b]? = some none) (hv : M q b = v) (h : Wq d k pc' ls (vI v :: st) G M Q) : Wq d k pc ls (vR q :: st) G M Q := by
  subst hp
  subst hv
  refine wq_s _ (stp_of hc rfl rfl ?_) h
  show getA a b (pc + 3) ls (vR q :: st) (G.1, G.2.1, G.2.2, M) = _
  unfold getA
  dsimp only
  rw [if_pos hq, hT]
  dsimp only
  rw [if_pos rfl, hf]
theorem wq_putN {q x0 : Nat} {fs : List (Option (Option Nat))} {v : Int} (pc' : Nat) (hp : pc + 3 = pc') (hc : cd k pc = some (.putfield x0, 3, a, b, c, w)) (hq : EXN ≤ q ∧ q < G.1) (hT : G.2.2 q = .inr (a, fs)) (hf : fs[b]? = some none) (h4 : c < 4) (hk : c % 4 = 0 ∨ (c % 4 = 1 ∧ (v = 0 ∨ v = 1))) (h : Wq d k pc' ls st G (up2 M q b v) Q) : Wq d k pc ls (vI v :: vR q :: st) G M Q := by
  subst hp
  refine wq_s _ (stp_of hc rfl rfl ?_) h
  show putA _ a b c (pc + 3) ls (vI v :: vR q :: st) (G.1, G.2.1, G.2.2, M) = _
  unfold putA
  dsimp only
  rw [if_pos ⟨hq.1, hq.2, fun z => absurd z (by omega)⟩, hT]
  dsimp only
  rw [if_pos rfl, hf]
  dsimp only
  rw [if_pos hk]
end WF
section WCL
variable {d k k' pc pc' c w : Nat} {ls : LoA} {rest : List AV} {G : GT} {M : MT} {Q Q1 : Option AV → MT → Prop} {x0 : Nat}
theorem wq_vt0 {q : Nat} {fs : List (Option (Option Nat))} (pc' : Nat) (hp : pc + 3 = pc') (hc : cd k pc = some (.invokevirtual x0, 3, k', 0, c, w)) (hr : rest.length ≤ 4) (hq : EXN ≤ q ∧ q < G.1) (hT : G.2.2 q = .inr ((mt k').2.2.2.2.2.2, fs)) (hl : ([vR q] : List AV).all nLg = true) (hx : 1 ≤ (mt k').2.2.1) (hm : Mq d k' [vR q] G M Q1)
    (h : ∀ r M1, Q1 r M1 → Wq (d + 1) k pc' ls (r.toList ++ rest) G M1 Q) : Wq (d + 1) k pc ls (vR q :: rest) G M Q := by
  refine wq_call pc' hp ?_ ⟨hl, hx⟩ hm h
  unfold stepA
  rw [hc]
  dsimp only
  rw [show retA (mt k).2.2.2.1 (.invokevirtual x0) (vR q :: rest) = none from rfl]
  dsimp only
  rw [show callA (.invokevirtual x0) k' 0 (vR q :: rest) (G.1, G.2.1, G.2.2, M) = some (k', [vR q], rest) from by
    unfold callA
    dsimp only [List.drop]
    rw [if_pos ⟨rfl, hr, hq.1, hq.2⟩, hT]
    dsimp only
    rw [if_pos rfl]
    rfl]
theorem wq_st1 {v1 : AV} (pc' : Nat) (hp : pc + 3 = pc') (hc : cd k pc = some (.invokestatic x0, 3, k', 1, c, w)) (h98 : k' ≠ 9998) (hr : rest.length ≤ 4) (hl : ([v1] : List AV).all nLg = true) (hx : 1 ≤ (mt k').2.2.1) (hm : Mq d k' [v1] G M Q1)
    (h : ∀ r M1, Q1 r M1 → Wq (d + 1) k pc' ls (r.toList ++ rest) G M1 Q) : Wq (d + 1) k pc ls (v1 :: rest) G M Q := by
  refine wq_call pc' hp ?_ ⟨hl, hx⟩ hm h
  unfold stepA
  rw [hc]
  dsimp only
  rw [show retA (mt k).2.2.2.1 (.invokestatic x0) (v1 :: rest) = none from rfl]
  dsimp only
  rw [show callA (.invokestatic x0) k' 1 (v1 :: rest) (G.1, G.2.1, G.2.2, M) = some (k', [v1], rest) from by
    unfold callA
    dsimp only
    rw [if_neg h98, if_pos ⟨rfl, hr⟩]
    rfl]
theorem wq_vt1 {q : Nat} {fs : List (Option (Option Nat))} {v1 : AV} (pc' : Nat) (hp : pc + 3 = pc') (hc : cd k pc = some (.invokevirtual x0, 3, k', 1, c, w)) (hr : rest.length ≤ 4) (hq : EXN ≤ q ∧ q < G.1) (hT : G.2.2 q = .inr ((mt k').2.2.2.2.2.2, fs)) (hl : ([vR q, v1] : List AV).all nLg = true) (hx : 2 ≤ (mt k').2.2.1) (hm : Mq d k' [vR q, v1] G M Q1)
    (h : ∀ r M1, Q1 r M1 → Wq (d + 1) k pc' ls (r.toList ++ rest) G M1 Q) : Wq (d + 1) k pc ls (v1 :: vR q :: rest) G M Q := by
  refine wq_call pc' hp ?_ ⟨hl, hx⟩ hm h
  unfold stepA
  rw [hc]
  dsimp only
  rw [show retA (mt k).2.2.2.1 (.invokevirtual x0) (v1 :: vR q :: rest) = none from rfl]
  dsimp only
  rw [show callA (.invokevirtual x0) k' 1 (v1 :: vR q :: rest) (G.1, G.2.1, G.2.2, M) = some (k', [vR q, v1], rest) from by
    unfold callA
    dsimp only [List.drop]
    rw [if_pos ⟨rfl, hr, hq.1, hq.2⟩, hT]
    dsimp only
    rw [if_pos rfl]
    rfl]
theorem wq_st2 {v1 v2 : AV} (pc' : Nat) (hp : pc + 3 = pc') (hc : cd k pc = some (.invokestatic x0, 3, k', 2, c, w)) (h98 : k' ≠ 9998) (hr : rest.length ≤ 4) (hl : ([v1, v2] : List AV).all nLg = true) (hx : 2 ≤ (mt k').2.2.1) (hm : Mq d k' [v1, v2] G M Q1)
    (h : ∀ r M1, Q1 r M1 → Wq (d + 1) k pc' ls (r.toList ++ rest) G M1 Q) : Wq (d + 1) k pc ls (v2 :: v1 :: rest) G M Q := by
  refine wq_call pc' hp ?_ ⟨hl, hx⟩ hm h
  unfold stepA
  rw [hc]
  dsimp only
  rw [show retA (mt k).2.2.2.1 (.invokestatic x0) (v2 :: v1 :: rest) = none from rfl]
  dsimp only
  rw [show callA (.invokestatic x0) k' 2 (v2 :: v1 :: rest) (G.1, G.2.1, G.2.2, M) = some (k', [v1, v2], rest) from by
    unfold callA
    dsimp only
    rw [if_neg h98, if_pos ⟨rfl, hr⟩]
    rfl]
theorem wq_vt2 {q : Nat} {fs : List (Option (Option Nat))} {v1 v2 : AV} (pc' : Nat) (hp : pc + 3 = pc') (hc : cd k pc = some (.invokevirtual x0, 3, k', 2, c, w)) (hr : rest.length ≤ 4) (hq : EXN ≤ q ∧ q < G.1) (hT : G.2.2 q = .inr ((mt k').2.2.2.2.2.2, fs)) (hl : ([vR q, v1, v2] : List AV).all nLg = true) (hx : 3 ≤ (mt k').2.2.1) (hm : Mq d k' [vR q, v1, v2] G M Q1)
    (h : ∀ r M1, Q1 r M1 → Wq (d + 1) k pc' ls (r.toList ++ rest) G M1 Q) : Wq (d + 1) k pc ls (v2 :: v1 :: vR q :: rest) G M Q := by
  refine wq_call pc' hp ?_ ⟨hl, hx⟩ hm h
  unfold stepA
  rw [hc]
  dsimp only
  rw [show retA (mt k).2.2.2.1 (.invokevirtual x0) (v2 :: v1 :: vR q :: rest) = none from rfl]
  dsimp only
  rw [show callA (.invokevirtual x0) k' 2 (v2 :: v1 :: vR q :: rest) (G.1, G.2.1, G.2.2, M) = some (k', [vR q, v1, v2], rest) from by
    unfold callA
    dsimp only [List.drop]
    rw [if_pos ⟨rfl, hr, hq.1, hq.2⟩, hT]
    dsimp only
    rw [if_pos rfl]
    rfl]
theorem wq_st3 {v1 v2 v3 : AV} (pc' : Nat) (hp : pc + 3 = pc') (hc : cd k pc = some (.invokestatic x0, 3, k', 3, c, w)) (h98 : k' ≠ 9998) (hr : rest.length ≤ 4) (hl : ([v1, v2, v3] : List AV).all nLg = true) (hx : 3 ≤ (mt k').2.2.1) (hm : Mq d k' [v1, v2, v3] G M Q1)
    (h : ∀ r M1, Q1 r M1 → Wq (d + 1) k pc' ls (r.toList ++ rest) G M1 Q) : Wq (d + 1) k pc ls (v3 :: v2 :: v1 :: rest) G M Q := by
  refine wq_call pc' hp ?_ ⟨hl, hx⟩ hm h
  unfold stepA
  rw [hc]
  dsimp only
  rw [show retA (mt k).2.2.2.1 (.invokestatic x0) (v3 :: v2 :: v1 :: rest) = none from rfl]
  dsimp only
  rw [show callA (.invokestatic x0) k' 3 (v3 :: v2 :: v1 :: rest) (G.1, G.2.1, G.2.2, M) = some (k', [v1, v2, v3], rest) from by
    unfold callA
    dsimp only
    rw [if_neg h98, if_pos ⟨rfl, hr⟩]
    rfl]
theorem wq_vt3 {q : Nat} {fs : List (Option (Option Nat))} {v1 v2 v3 : AV} (pc' : Nat) (hp : pc + 3 = pc') (hc : cd k pc = some (.invokevirtual x0, 3, k', 3, c, w)) (hr : rest.length ≤ 4) (hq : EXN ≤ q ∧ q < G.1) (hT : G.2.2 q = .inr ((mt k').2.2.2.2.2.2, fs)) (hl : ([vR q, v1, v2, v3] : List AV).all nLg = true) (hx : 4 ≤ (mt k').2.2.1) (hm : Mq d k' [vR q, v1, v2, v3] G M Q1)
    (h : ∀ r M1, Q1 r M1 → Wq (d + 1) k pc' ls (r.toList ++ rest) G M1 Q) : Wq (d + 1) k pc ls (v3 :: v2 :: v1 :: vR q :: rest) G M Q := by
  refine wq_call pc' hp ?_ ⟨hl, hx⟩ hm h
  unfold stepA
  rw [hc]
  dsimp only
  rw [show retA (mt k).2.2.2.1 (.invokevirtual x0) (v3 :: v2 :: v1 :: vR q :: rest) = none from rfl]
  dsimp only
  rw [show callA (.invokevirtual x0) k' 3 (v3 :: v2 :: v1 :: vR q :: rest) (G.1, G.2.1, G.2.2, M) = some (k', [vR q, v1, v2, v3], rest) from by
    unfold callA
    dsimp only [List.drop]
    rw [if_pos ⟨rfl, hr, hq.1, hq.2⟩, hT]
    dsimp only
    rw [if_pos rfl]
    rfl]
theorem wq_st4 {v1 v2 v3 v4 : AV} (pc' : Nat) (hp : pc + 3 = pc') (hc : cd k pc = some (.invokestatic x0, 3, k', 4, c, w)) (h98 : k' ≠ 9998) (hr : rest.length ≤ 4) (hl : ([v1, v2, v3, v4] : List AV).all nLg = true) (hx : 4 ≤ (mt k').2.2.1) (hm : Mq d k' [v1, v2, v3, v4] G M Q1)
    (h : ∀ r M1, Q1 r M1 → Wq (d + 1) k pc' ls (r.toList ++ rest) G M1 Q) : Wq (d + 1) k pc ls (v4 :: v3 :: v2 :: v1 :: rest) G M Q := by
  refine wq_call pc' hp ?_ ⟨hl, hx⟩ hm h
  unfold stepA
  rw [hc]
  dsimp only
  rw [show retA (mt k).2.2.2.1 (.invokestatic x0) (v4 :: v3 :: v2 :: v1 :: rest) = none from rfl]
  dsimp only
  rw [show callA (.invokestatic x0) k' 4 (v4 :: v3 :: v2 :: v1 :: rest) (G.1, G.2.1, G.2.2, M) = some (k', [v1, v2, v3, v4], rest) from by
    unfold callA
    dsimp only
    rw [if_neg h98, if_pos ⟨rfl, hr⟩]
    rfl]
theorem wq_vt4 {q : Nat} {fs : List (Option (Option Nat))} {v1 v2 v3 v4 : AV} (pc' : Nat) (hp : pc + 3 = pc') (hc : cd k pc = some (.invokevirtual x0, 3, k', 4, c, w)) (hr : rest.length ≤ 4) (hq : EXN ≤ q ∧ q < G.1) (hT : G.2.2 q = .inr ((mt k').2.2.2.2.2.2, fs)) (hl : ([vR q, v1, v2, v3, v4] : List AV).all nLg = true) (hx : 5 ≤ (mt k').2.2.1) (hm : Mq d k' [vR q, v1, v2, v3, v4] G M Q1)
    (h : ∀ r M1, Q1 r M1 → Wq (d + 1) k pc' ls (r.toList ++ rest) G M1 Q) : Wq (d + 1) k pc ls (v4 :: v3 :: v2 :: v1 :: vR q :: rest) G M Q := by
  refine wq_call pc' hp ?_ ⟨hl, hx⟩ hm h
  unfold stepA
  rw [hc]
  dsimp only
  rw [show retA (mt k).2.2.2.1 (.invokevirtual x0) (v4 :: v3 :: v2 :: v1 :: vR q :: rest) = none from rfl]
  dsimp only
  rw [show callA (.invokevirtual x0) k' 4 (v4 :: v3 :: v2 :: v1 :: vR q :: rest) (G.1, G.2.1, G.2.2, M) = some (k', [vR q, v1, v2, v3, v4], rest) from by
    unfold callA
    dsimp only [List.drop]
    rw [if_pos ⟨rfl, hr, hq.1, hq.2⟩, hT]
    dsimp only
    rw [if_pos rfl]
    rfl]
theorem wq_st5 {v1 v2 v3 v4 v5 : AV} (pc' : Nat) (hp : pc + 3 = pc') (hc : cd k pc = some (.invokestatic x0, 3, k', 5, c, w)) (h98 : k' ≠ 9998) (hr : rest.length ≤ 4) (hl : ([v1, v2, v3, v4, v5] : List AV).all nLg = true) (hx : 5 ≤ (mt k').2.2.1) (hm : Mq d k' [v1, v2, v3, v4, v5] G M Q1)
    (h : ∀ r M1, Q1 r M1 → Wq (d + 1) k pc' ls (r.toList ++ rest) G M1 Q) : Wq (d + 1) k pc ls (v5 :: v4 :: v3 :: v2 :: v1 :: rest) G M Q := by
  refine wq_call pc' hp ?_ ⟨hl, hx⟩ hm h
  unfold stepA
  rw [hc]
  dsimp only
  rw [show retA (mt k).2.2.2.1 (.invokestatic x0) (v5 :: v4 :: v3 :: v2 :: v1 :: rest) = none from rfl]
  dsimp only
  rw [show callA (.invokestatic x0) k' 5 (v5 :: v4 :: v3 :: v2 :: v1 :: rest) (G.1, G.2.1, G.2.2, M) = some (k', [v1, v2, v3, v4, v5], rest) from by
    unfold callA
    dsimp only
    rw [if_neg h98, if_pos ⟨rfl, hr⟩]
    rfl]
theorem wq_vt5 {q : Nat} {fs : List (Option (Option Nat))} {v1 v2 v3 v4 v5 : AV} (pc' : Nat) (hp : pc + 3 = pc') (hc : cd k pc = some (.invokevirtual x0, 3, k', 5, c, w)) (hr : rest.length ≤ 4) (hq : EXN ≤ q ∧ q < G.1) (hT : G.2.2 q = .inr ((mt k').2.2.2.2.2.2, fs)) (hl : ([vR q, v1, v2, v3, v4, v5] : List AV).all nLg = true) (hx : 6 ≤ (mt k').2.2.1) (hm : Mq d k' [vR q, v1, v2, v3, v4, v5] G M Q1)
    (h : ∀ r M1, Q1 r M1 → Wq (d + 1) k pc' ls (r.toList ++ rest) G M1 Q) : Wq (d + 1) k pc ls (v5 :: v4 :: v3 :: v2 :: v1 :: vR q :: rest) G M Q := by
  refine wq_call pc' hp ?_ ⟨hl, hx⟩ hm h
  unfold stepA
  rw [hc]
  dsimp only
  rw [show retA (mt k).2.2.2.1 (.invokevirtual x0) (v5 :: v4 :: v3 :: v2 :: v1 :: vR q :: rest) = none from rfl]
  dsimp only
  rw [show callA (.invokevirtual x0) k' 5 (v5 :: v4 :: v3 :: v2 :: v1 :: vR q :: rest) (G.1, G.2.1, G.2.2, M) = some (k', [vR q, v1, v2, v3, v4, v5], rest) from by
    unfold callA
    dsimp only [List.drop]
    rw [if_pos ⟨rfl, hr, hq.1, hq.2⟩, hT]
    dsimp only
    rw [if_pos rfl]
    rfl]
end WCL
theorem cellF_rng {h k : Int} (h0 : 0 ≤ h) (h1 : h < 27) (k0 : 0 ≤ k) (k1 : k < 9) : 0 ≤ cellF h k ∧ cellF h k < 81 := by
  unfold cellF
  (repeat' split) <;> omega
theorem houseF_rng {c s : Int} (h0 : 0 ≤ c) (h1 : c < 81) : 0 ≤ houseF c s ∧ houseF c s < 27 := by
  unfold houseF
  (repeat' split) <;> omega
def sortF (h : Int) : Int := if h < 9 then 0 else if h < 18 then 1 else 2
def isInF (c h : Int) : Int := if houseF c (sortF h) = h then 1 else 0
def peersF (c e : Int) : Int := if c ≠ e ∧ (houseF c 0 = houseF e 0 ∨ houseF c 1 = houseF e 1 ∨ houseF c 2 = houseF e 2) then 1 else 0
/-- a row of 81 masks -/
def AtB (M : MT) (q : Nat) (X : Nat → Nat) : Prop := ∀ c : Nat, c < 81 → M q (c : Int) = (X c : Int) ∧ X c < 512
theorem AtB.at {M : MT} {q : Nat} {X : Nat → Nat} (h : AtB M q X) {i : Int} (h0 : 0 ≤ i) (h1 : i < 81) : M q i = ((X i.toNat : Nat) : Int) ∧ X i.toNat < 512 := by
  have h2 := h i.toNat (by omega)
  rw [show ((i.toNat : Nat) : Int) = i by omega] at h2
  exact h2
def popc : Nat → Nat → Nat
  | 0, _ => 0
  | k + 1, n => n % 2 + popc k (n / 2)
def pop9 (n : Nat) : Nat := popc 9 n
theorem pop_low : ∀ n : Fin 512, n.val ≠ 0 → pop9 (n.val &&& (n.val - 1)) + 1 = pop9 n.val ∧ (n.val &&& (n.val - 1)) < n.val := by decide +kernel
def plN (X : Nat → Nat) (h : Int) (e : Nat) : Nat → Nat
  | 0 => 0
  | k + 1 => plN X h e k ||| (X (cellF h k).toNat / 2 ^ e % 2) * 2 ^ k
end
section
theorem c_X9_isIn {d : Nat} {G : GT} {M : MT} {c h : Int} (h0 : 0 ≤ c) (h1 : c < 81) (k0 : 0 ≤ h) (k1 : h < 27) : Mq (d + 1) k_X9_isIn [vI c, vI h] G M (fun r M' => r = some (vI (isInF c h)) ∧ M' = M) := by
  refine wq_s 1 rfl ?_
  refine wq_s 2 rfl ?_
  refine wq_s 4 rfl ?_
  refine wq_icmp 11 rfl rfl (by omega) (by omega) (fun c_4 => ?_) (fun c_4 => ?_)
  · have c_4 := of_decide_eq_true c_4
    refine wq_s 12 rfl ?_
    refine wq_s 14 rfl ?_
    refine wq_icmp 21 rfl rfl (by omega) (by omega) (fun c_14 => ?_) (fun c_14 => ?_)
    · have c_14 := of_decide_eq_true c_14
      refine wq_s 22 rfl ?_
      refine wq_st2 25 rfl rfl (by decide) (Nat.le_of_ble_eq_true rfl) rfl (Nat.le_of_ble_eq_true rfl) (c_X9_houseOf h0 h1 (by decide)) (fun r M1 hr => ?_)
      obtain ⟨rfl, rfl⟩ := hr
      dsimp only [Option.toList, List.cons_append, List.nil_append]
      have hh := houseF_rng (c := c) (s := 0) h0 h1
      have hh1 := houseF_rng (c := c) (s := 1) h0 h1
      have hh2 := houseF_rng (c := c) (s := 2) h0 h1
      refine wq_s 26 rfl ?_
      refine wq_icmp 33 rfl rfl (by omega) (by omega) (fun c_26 => ?_) (fun c_26 => ?_)
      · have c_26 := of_decide_eq_true c_26
        refine wq_s 34 rfl ?_
        exact wq_ret rfl ⟨congrArg (fun z => some (vI z)) (by unfold isInF sortF; (repeat' split) <;> first | omega | rfl), rfl⟩
      · have c_26 := of_decide_eq_false c_26
        refine wq_s 30 rfl ?_
        refine wq_s 34 rfl ?_
        exact wq_ret rfl ⟨congrArg (fun z => some (vI z)) (by unfold isInF sortF; (repeat' split) <;> first | omega | rfl), rfl⟩
    · have c_14 := of_decide_eq_false c_14
      refine wq_s 18 rfl ?_
      refine wq_s 22 rfl ?_
      refine wq_st2 25 rfl rfl (by decide) (Nat.le_of_ble_eq_true rfl) rfl (Nat.le_of_ble_eq_true rfl) (c_X9_houseOf h0 h1 (by decide)) (fun r M1 hr => ?_)
      obtain ⟨rfl, rfl⟩ := hr
      dsimp only [Option.toList, List.cons_append, List.nil_append]
      have hh := houseF_rng (c := c) (s := 0) h0 h1
      have hh1 := houseF_rng (c := c) (s := 1) h0 h1
      have hh2 := houseF_rng (c := c) (s := 2) h0 h1
      refine wq_s 26 rfl ?_
      refine wq_icmp 33 rfl rfl (by omega) (by omega) (fun c_26 => ?_) (fun c_26 => ?_)
      · have c_26 := of_decide_eq_true c_26
        refine wq_s 34 rfl ?_
        exact wq_ret rfl ⟨congrArg (fun z => some (vI z)) (by unfold isInF sortF; (repeat' split) <;> first | omega | rfl), rfl⟩
      · have c_26 := of_decide_eq_false c_26
        refine wq_s 30 rfl ?_
        refine wq_s 34 rfl ?_
        exact wq_ret rfl ⟨congrArg (fun z => some (vI z)) (by unfold isInF sortF; (repeat' split) <;> first | omega | rfl), rfl⟩
  · have c_4 := of_decide_eq_false c_4
    refine wq_s 8 rfl ?_
    refine wq_s 22 rfl ?_
    refine wq_st2 25 rfl rfl (by decide) (Nat.le_of_ble_eq_true rfl) rfl (Nat.le_of_ble_eq_true rfl) (c_X9_houseOf h0 h1 (by decide)) (fun r M1 hr => ?_)
    obtain ⟨rfl, rfl⟩ := hr
    dsimp only [Option.toList, List.cons_append, List.nil_append]
    have hh := houseF_rng (c := c) (s := 0) h0 h1
    have hh1 := houseF_rng (c := c) (s := 1) h0 h1
    have hh2 := houseF_rng (c := c) (s := 2) h0 h1
    refine wq_s 26 rfl ?_
    refine wq_icmp 33 rfl rfl (by omega) (by omega) (fun c_26 => ?_) (fun c_26 => ?_)
    · have c_26 := of_decide_eq_true c_26
      refine wq_s 34 rfl ?_
      exact wq_ret rfl ⟨congrArg (fun z => some (vI z)) (by unfold isInF sortF; (repeat' split) <;> first | omega | rfl), rfl⟩
    · have c_26 := of_decide_eq_false c_26
      refine wq_s 30 rfl ?_
      refine wq_s 34 rfl ?_
      exact wq_ret rfl ⟨congrArg (fun z => some (vI z)) (by unfold isInF sortF; (repeat' split) <;> first | omega | rfl), rfl⟩
theorem c_X9_arePeers {d : Nat} {G : GT} {M : MT} {c e : Int} (h0 : 0 ≤ c) (h1 : c < 81) (k0 : 0 ≤ e) (k1 : e < 81) : Mq (d + 1) k_X9_arePeers [vI c, vI e] G M (fun r M' => r = some (vI (peersF c e)) ∧ M' = M) := by
  have a0 := houseF_rng (c := c) (s := 0) h0 h1
  have b0 := houseF_rng (c := e) (s := 0) k0 k1
  have a1 := houseF_rng (c := c) (s := 1) h0 h1
  have b1 := houseF_rng (c := e) (s := 1) k0 k1
  have a2 := houseF_rng (c := c) (s := 2) h0 h1
  have b2 := houseF_rng (c := e) (s := 2) k0 k1
  refine wq_s 1 rfl ?_
  refine wq_s 2 rfl ?_
  refine wq_icmp 48 rfl rfl (by omega) (by omega) (fun c_2 => ?_) (fun c_2 => ?_)
  · have c_2 := of_decide_eq_true c_2
    refine wq_s 49 rfl ?_
    exact wq_ret rfl ⟨congrArg (fun z => some (vI z)) (by unfold peersF; (repeat' split) <;> omega), rfl⟩
  · have c_2 := of_decide_eq_false c_2
    refine wq_s 6 rfl ?_
    refine wq_s 7 rfl ?_
    refine wq_st2 10 rfl rfl (by decide) (Nat.le_of_ble_eq_true rfl) rfl (Nat.le_of_ble_eq_true rfl) (c_X9_houseOf (by omega) (by omega) (by decide)) (fun r M1 hr => ?_)
    obtain ⟨rfl, rfl⟩ := hr
    dsimp only [Option.toList, List.cons_append, List.nil_append]
    refine wq_s 11 rfl ?_
    refine wq_s 12 rfl ?_
    refine wq_st2 15 rfl rfl (by decide) (Nat.le_of_ble_eq_true rfl) rfl (Nat.le_of_ble_eq_true rfl) (c_X9_houseOf (by omega) (by omega) (by decide)) (fun r M1 hr => ?_)
    obtain ⟨rfl, rfl⟩ := hr
    dsimp only [Option.toList, List.cons_append, List.nil_append]
    refine wq_icmp 44 rfl rfl (by omega) (by omega) (fun c_15 => ?_) (fun c_15 => ?_)
    · have c_15 := of_decide_eq_true c_15
      refine wq_s 45 rfl ?_
      refine wq_s 49 rfl ?_
      exact wq_ret rfl ⟨congrArg (fun z => some (vI z)) (by unfold peersF; (repeat' split) <;> omega), rfl⟩
    · have c_15 := of_decide_eq_false c_15
      refine wq_s 19 rfl ?_
      refine wq_s 20 rfl ?_
      refine wq_st2 23 rfl rfl (by decide) (Nat.le_of_ble_eq_true rfl) rfl (Nat.le_of_ble_eq_true rfl) (c_X9_houseOf (by omega) (by omega) (by decide)) (fun r M1 hr => ?_)
      obtain ⟨rfl, rfl⟩ := hr
      dsimp only [Option.toList, List.cons_append, List.nil_append]
      refine wq_s 24 rfl ?_
      refine wq_s 25 rfl ?_
      refine wq_st2 28 rfl rfl (by decide) (Nat.le_of_ble_eq_true rfl) rfl (Nat.le_of_ble_eq_true rfl) (c_X9_houseOf (by omega) (by omega) (by decide)) (fun r M1 hr => ?_)
      obtain ⟨rfl, rfl⟩ := hr
      dsimp only [Option.toList, List.cons_append, List.nil_append]
      refine wq_icmp 44 rfl rfl (by omega) (by omega) (fun c_28 => ?_) (fun c_28 => ?_)
      · have c_28 := of_decide_eq_true c_28
        refine wq_s 45 rfl ?_
        refine wq_s 49 rfl ?_
        exact wq_ret rfl ⟨congrArg (fun z => some (vI z)) (by unfold peersF; (repeat' split) <;> omega), rfl⟩
      · have c_28 := of_decide_eq_false c_28
        refine wq_s 32 rfl ?_
        refine wq_s 33 rfl ?_
        refine wq_st2 36 rfl rfl (by decide) (Nat.le_of_ble_eq_true rfl) rfl (Nat.le_of_ble_eq_true rfl) (c_X9_houseOf (by omega) (by omega) (by decide)) (fun r M1 hr => ?_)
        obtain ⟨rfl, rfl⟩ := hr
        dsimp only [Option.toList, List.cons_append, List.nil_append]
        refine wq_s 37 rfl ?_
        refine wq_s 38 rfl ?_
        refine wq_st2 41 rfl rfl (by decide) (Nat.le_of_ble_eq_true rfl) rfl (Nat.le_of_ble_eq_true rfl) (c_X9_houseOf (by omega) (by omega) (by decide)) (fun r M1 hr => ?_)
        obtain ⟨rfl, rfl⟩ := hr
        dsimp only [Option.toList, List.cons_append, List.nil_append]
        refine wq_icmp 48 rfl rfl (by omega) (by omega) (fun c_41 => ?_) (fun c_41 => ?_)
        · have c_41 := of_decide_eq_true c_41
          refine wq_s 49 rfl ?_
          exact wq_ret rfl ⟨congrArg (fun z => some (vI z)) (by unfold peersF; (repeat' split) <;> omega), rfl⟩
        · have c_41 := of_decide_eq_false c_41
          refine wq_s 45 rfl ?_
          refine wq_s 49 rfl ?_
          exact wq_ret rfl ⟨congrArg (fun z => some (vI z)) (by unfold peersF; (repeat' split) <;> omega), rfl⟩
end
section
theorem c_X9_bits {d : Nat} {G : GT} {M : MT} {n : Nat} (hn : n < 512) : Mq d k_X9_bits [vI (n : Int)] G M (fun r M' => r = some (vI (pop9 n : Nat)) ∧ M' = M) := by
  have L_4 : ∀ (f a c : Nat), a < f → a < 512 → c + pop9 a = pop9 n → c + a < 1024 → Wq d k_X9_bits 4 [some (vI (n : Int)), some (vI (c : Int)), some (vI (a : Int))] [] G M (fun r M' => r = some (vI (pop9 n : Nat)) ∧ M' = M) := by
    intro f
    induction f with
    | zero => intro a c h; exact absurd h (by omega)
    | succ f ih =>
      intro a c hf ha hc hc2
      refine wq_s 5 rfl ?_
      refine wq_if 20 rfl rfl (by omega) (fun c_5 => ?_) (fun c_5 => ?_)
      · have c_5 := of_decide_eq_true c_5
        have e0 : a = 0 := by omega
        subst e0
        refine wq_s 21 rfl ?_
        have e : pop9 0 = 0 := rfl
        exact wq_ret rfl ⟨congrArg (fun z => some (vI z)) (by omega), rfl⟩
      · have c_5 := of_decide_eq_false c_5
        have hp := pop_low ⟨a, ha⟩ (by dsimp only; omega)
        dsimp only at hp
        refine wq_inc 11 _ rfl rfl rfl (by omega) rfl ?_
        refine wq_s 12 rfl ?_
        refine wq_s 13 rfl ?_
        refine wq_s 14 rfl ?_
        refine wq_sub 15 rfl rfl (by omega) ?_
        rw [show ((a : Int) - 1) = ((a - 1 : Nat) : Int) by omega]
        refine wq_and 16 rfl rfl (by omega) ?_
        refine wq_s 17 rfl ?_
        refine wq_s 4 rfl ?_
        exact ih (a &&& (a - 1)) (c + 1) (by omega) (by omega) (by omega) (by omega)
  refine wq_s 1 rfl ?_
  refine wq_s 2 rfl ?_
  refine wq_s 3 rfl ?_
  refine wq_s 4 rfl ?_
  exact L_4 512 n 0 (by omega) hn (by omega) (by omega)
theorem and_1 (m : Nat) : m &&& 1 = m % 2 := Nat.and_one_is_mod m
def hasN (X : Nat → Nat) (n : Nat) : Nat := X (n / 9) / 2 ^ (n % 9) % 2
theorem c_X9_isThere {d : Nat} {G : GT} {M : MT} {q : Nat} {X : Nat → Nat} {n : Nat} (hn : n < 729) (hq : q < G.1) (hT : G.2.2 q = .inl (false, 81)) (hX : AtB M q X) : Mq d k_X9_isThere [vR q, vI (n : Int)] G M (fun r M' => r = some (vI (hasN X n : Nat)) ∧ M' = M) := by
  have hv := hX (n / 9) (by omega)
  have h9 : 2 ^ (n % 9) > 0 := Nat.two_pow_pos _
  refine wq_s 1 rfl ?_
  refine wq_s 2 rfl ?_
  refine wq_s 4 rfl ?_
  refine wq_div 5 rfl rfl (by omega) (by omega) (by omega) (by omega) ?_
  refine wq_iald (v := ((X (n / 9) : Nat) : Int)) 6 rfl rfl hq hT (by omega) (by omega) (by omega) hv.1 ?_
  refine wq_s 7 rfl ?_
  refine wq_s 9 rfl ?_
  refine wq_rem 10 rfl rfl (by omega) (by omega) (by omega) (by omega) ?_
  refine wq_shr (n := n % 9) 11 rfl rfl (by omega) (by omega) ?_
  refine wq_s 12 rfl ?_
  refine wq_and (n := 1) 13 rfl rfl (Nat.lt_of_le_of_lt (Nat.div_le_self _ _) (by omega)) ?_
  rw [and_1]
  refine wq_s 14 rfl ?_
  refine wq_icmp 21 rfl rfl (by omega) (by omega) (fun c_14 => ?_) (fun c_14 => ?_)
  · have c_14 := of_decide_eq_true c_14
    refine wq_s 22 rfl ?_
    exact wq_ret rfl ⟨congrArg (fun z => some (vI z)) (by unfold hasN; omega), rfl⟩
  · have c_14 := of_decide_eq_false c_14
    refine wq_s 18 rfl ?_
    refine wq_s 22 rfl ?_
    exact wq_ret rfl ⟨congrArg (fun z => some (vI z)) (by unfold hasN; omega), rfl⟩
theorem plN_lt (X : Nat → Nat) (h : Int) (e : Nat) : ∀ k, plN X h e k < 2 ^ k := by
  intro k
  induction k with
  | zero => exact Nat.zero_lt_one
  | succ k ih =>
    unfold plN
    have h1 : X (cellF h k).toNat / 2 ^ e % 2 < 2 := Nat.mod_lt _ (by decide)
    have h2 : (X (cellF h k).toNat / 2 ^ e % 2) * 2 ^ k < 2 ^ (k + 1) := by
      rw [Nat.pow_succ, Nat.mul_comm (2 ^ k) 2]
      exact Nat.mul_lt_mul_of_pos_right h1 (Nat.two_pow_pos k)
    exact or_lt2 (Nat.lt_of_lt_of_le ih (Nat.pow_le_pow_right (by decide) (Nat.le_succ k))) h2
theorem c_X9_placesOf {d : Nat} {G : GT} {M : MT} {q : Nat} {X : Nat → Nat} {h : Int} {e : Nat} (h0 : 0 ≤ h) (h1 : h < 27) (he : e < 9) (hq : q < G.1) (hT : G.2.2 q = .inl (false, 81)) (hX : AtB M q X) : Mq (d + 1) k_X9_placesOf [vR q, vI h, vI ((e : Int) + 1)] G M (fun r M' => r = some (vI (plN X h e 9 : Nat)) ∧ M' = M) := by
  have L_5 : ∀ (f k : Nat), 9 - k < f → k ≤ 9 → Wq (d + 1) k_X9_placesOf 5 [some (vR q), some (vI h), some (vI ((e : Int) + 1)), some (vI (plN X h e k : Nat)), some (vI (k : Int))] [] G M (fun r M' => r = some (vI (plN X h e 9 : Nat)) ∧ M' = M) := by
    intro f
    induction f with
    | zero => intro k h; exact absurd h (by omega)
    | succ f ih =>
      intro k hf hk
      refine wq_s 7 rfl ?_
      refine wq_s 9 rfl ?_
      refine wq_icmp 38 rfl rfl (by omega) (by omega) (fun c_9 => ?_) (fun c_9 => ?_)
      · have c_9 := of_decide_eq_true c_9
        have e9 : k = 9 := by omega
        subst e9
        refine wq_s 39 rfl ?_
        exact wq_ret rfl ⟨rfl, rfl⟩
      · have c_9 := of_decide_eq_false c_9
        have hr := cellF_rng (h := h) (k := (k : Int)) h0 h1 (by omega) (by omega)
        have hv := hX.at hr.1 hr.2
        have hpl := plN_lt X h e k
        have h29 : 2 ^ k ≤ 2 ^ 8 := Nat.pow_le_pow_right (by decide) (by omega)
        have hb : X (cellF h k).toNat / 2 ^ e % 2 < 2 := Nat.mod_lt _ (by decide)
        have hbk : (X (cellF h k).toNat / 2 ^ e % 2) * 2 ^ k ≤ 1 * 2 ^ 8 := Nat.mul_le_mul (by omega) h29
        refine wq_s 13 rfl ?_
        refine wq_s 14 rfl ?_
        refine wq_s 15 rfl ?_
        refine wq_s 17 rfl ?_
        refine wq_st2 20 rfl rfl (by decide) (Nat.le_of_ble_eq_true rfl) rfl (Nat.le_of_ble_eq_true rfl) (c_X9_cellOf h0 h1 (by omega) (by omega)) (fun r M1 hr => ?_)
        obtain ⟨rfl, rfl⟩ := hr
        dsimp only [Option.toList, List.cons_append, List.nil_append]
        refine wq_iald 21 rfl rfl hq hT hr.1 (by omega) (by omega) hv.1 ?_
        refine wq_s 22 rfl ?_
        refine wq_s 23 rfl ?_
        refine wq_sub 24 rfl rfl (by omega) ?_
        rw [show ((e : Int) + 1 - 1) = (e : Int) by omega]
        refine wq_shr 25 rfl rfl (by omega) (by omega) ?_
        refine wq_s 26 rfl ?_
        refine wq_and (n := 1) 27 rfl rfl (Nat.lt_of_le_of_lt (Nat.div_le_self _ _) (by omega)) ?_
        rw [and_1]
        refine wq_s 29 rfl ?_
        refine wq_shl 30 rfl rfl (by omega) (by omega) ?_
        refine wq_or 31 rfl rfl (by omega) (by omega) ?_
        refine wq_s 32 rfl ?_
        refine wq_inc 35 _ rfl rfl rfl (by omega) rfl ?_
        refine wq_s 5 rfl ?_
        exact ih (k + 1) (by omega) (by omega)
  refine wq_s 1 rfl ?_
  refine wq_s 2 rfl ?_
  refine wq_s 3 rfl ?_
  refine wq_s 5 rfl ?_
  exact L_5 10 0 (by omega) (by omega)
end
section
/-! where the reference keeps what it has: an object at o, its rows behind it -/
def rfs (o : Nat) : List (Option (Option Nat)) := [some (some (o + 1)), some (some (o + 2)), some (some (o + 3)), some (some (o + 4)), some (some (o + 5)), some (some (o + 6)), some (some (o + 7)), some (some (o + 8)), none, some (some (o + 9)), some (some (o + 10)), some (some (o + 11)), some (some (o + 12)), some (some (o + 13)), some (some (o + 14)), some (some (o + 15)), some (some (o + 16)), some (some (o + 17)), some (some (o + 18)), some (some (o + 19)), some (some (o + 20)), some (some (o + 21)), none, none, none, none, none, none, none, none, some (some (o + 22)), none, some (some (o + 23)), some (some (o + 24)), some (some (o + 25)), some (some (o + 26)), some (some (o + 27)), none, none, none, none, none]
def rarr : List (Bool × Nat) := [(false, 81), (false, 81), (false, 81), (false, 81), (false, 81), (true, 8748), (true, 8748), (false, 729), (true, 8748), (true, 8748), (true, 12), (true, 288), (false, 24), (false, 730), (false, 730), (false, 730), (false, 730), (false, 730), (false, 730), (false, 730), (false, 17520), (false, 24), (false, 6642), (false, 82), (false, 82), (false, 81), (false, 162)]
def RefG (G : GT) (o : Nat) : Prop := EXN ≤ o ∧ o + 28 ≤ G.1 ∧ G.2.2 o = .inr (9, rfs o) ∧ ∀ (i : Nat) (y : Bool × Nat), rarr[i]? = some y → G.2.2 (o + 1 + i) = .inl y
theorem RefG.ob {G : GT} {o : Nat} (h : RefG G o) : EXN ≤ o ∧ o < G.1 := ⟨h.1, by have := h.2.1; omega⟩
theorem RefG.a_given {G : GT} {o : Nat} (h : RefG G o) : (EXN ≤ o + 1 ∧ o + 1 < G.1) ∧ G.2.2 (o + 1) = .inl (false, 81) := ⟨⟨by have := h.1; omega, by have := h.2.1; omega⟩, h.2.2.2 0 _ rfl⟩
theorem RefG.a_first {G : GT} {o : Nat} (h : RefG G o) : (EXN ≤ o + 2 ∧ o + 2 < G.1) ∧ G.2.2 (o + 2) = .inl (false, 81) := ⟨⟨by have := h.1; omega, by have := h.2.1; omega⟩, h.2.2.2 1 _ rfl⟩
theorem RefG.a_now {G : GT} {o : Nat} (h : RefG G o) : (EXN ≤ o + 3 ∧ o + 3 < G.1) ∧ G.2.2 (o + 3) = .inl (false, 81) := ⟨⟨by have := h.1; omega, by have := h.2.1; omega⟩, h.2.2.2 2 _ rfl⟩
theorem RefG.a_checker {G : GT} {o : Nat} (h : RefG G o) : (EXN ≤ o + 4 ∧ o + 4 < G.1) ∧ G.2.2 (o + 4) = .inl (false, 81) := ⟨⟨by have := h.1; omega, by have := h.2.1; omega⟩, h.2.2.2 3 _ rfl⟩
theorem RefG.a_gone {G : GT} {o : Nat} (h : RefG G o) : (EXN ≤ o + 5 ∧ o + 5 < G.1) ∧ G.2.2 (o + 5) = .inl (false, 81) := ⟨⟨by have := h.1; omega, by have := h.2.1; omega⟩, h.2.2.2 4 _ rfl⟩
theorem RefG.a_weak {G : GT} {o : Nat} (h : RefG G o) : (EXN ≤ o + 6 ∧ o + 6 < G.1) ∧ G.2.2 (o + 6) = .inl (true, 8748) := ⟨⟨by have := h.1; omega, by have := h.2.1; omega⟩, h.2.2.2 5 _ rfl⟩
theorem RefG.a_strong {G : GT} {o : Nat} (h : RefG G o) : (EXN ≤ o + 7 ∧ o + 7 < G.1) ∧ G.2.2 (o + 7) = .inl (true, 8748) := ⟨⟨by have := h.1; omega, by have := h.2.1; omega⟩, h.2.2.2 6 _ rfl⟩
theorem RefG.a_there {G : GT} {o : Nat} (h : RefG G o) : (EXN ≤ o + 8 ∧ o + 8 < G.1) ∧ G.2.2 (o + 8) = .inl (false, 729) := ⟨⟨by have := h.1; omega, by have := h.2.1; omega⟩, h.2.2.2 7 _ rfl⟩
theorem RefG.a_good {G : GT} {o : Nat} (h : RefG G o) : (EXN ≤ o + 9 ∧ o + 9 < G.1) ∧ G.2.2 (o + 9) = .inl (true, 8748) := ⟨⟨by have := h.1; omega, by have := h.2.1; omega⟩, h.2.2.2 8 _ rfl⟩
theorem RefG.a_begins {G : GT} {o : Nat} (h : RefG G o) : (EXN ≤ o + 10 ∧ o + 10 < G.1) ∧ G.2.2 (o + 10) = .inl (true, 8748) := ⟨⟨by have := h.1; omega, by have := h.2.1; omega⟩, h.2.2.2 9 _ rfl⟩
theorem RefG.a_some {G : GT} {o : Nat} (h : RefG G o) : (EXN ≤ o + 11 ∧ o + 11 < G.1) ∧ G.2.2 (o + 11) = .inl (true, 12) := ⟨⟨by have := h.1; omega, by have := h.2.1; omega⟩, h.2.2.2 10 _ rfl⟩
theorem RefG.a_layer {G : GT} {o : Nat} (h : RefG G o) : (EXN ≤ o + 12 ∧ o + 12 < G.1) ∧ G.2.2 (o + 12) = .inl (true, 288) := ⟨⟨by have := h.1; omega, by have := h.2.1; omega⟩, h.2.2.2 11 _ rfl⟩
theorem RefG.a_row {G : GT} {o : Nat} (h : RefG G o) : (EXN ≤ o + 13 ∧ o + 13 < G.1) ∧ G.2.2 (o + 13) = .inl (false, 24) := ⟨⟨by have := h.1; omega, by have := h.2.1; omega⟩, h.2.2.2 12 _ rfl⟩
theorem RefG.a_sRule {G : GT} {o : Nat} (h : RefG G o) : (EXN ≤ o + 14 ∧ o + 14 < G.1) ∧ G.2.2 (o + 14) = .inl (false, 730) := ⟨⟨by have := h.1; omega, by have := h.2.1; omega⟩, h.2.2.2 13 _ rfl⟩
theorem RefG.a_sP {G : GT} {o : Nat} (h : RefG G o) : (EXN ≤ o + 15 ∧ o + 15 < G.1) ∧ G.2.2 (o + 15) = .inl (false, 730) := ⟨⟨by have := h.1; omega, by have := h.2.1; omega⟩, h.2.2.2 14 _ rfl⟩
theorem RefG.a_sQ {G : GT} {o : Nat} (h : RefG G o) : (EXN ≤ o + 16 ∧ o + 16 < G.1) ∧ G.2.2 (o + 16) = .inl (false, 730) := ⟨⟨by have := h.1; omega, by have := h.2.1; omega⟩, h.2.2.2 15 _ rfl⟩
theorem RefG.a_sGone {G : GT} {o : Nat} (h : RefG G o) : (EXN ≤ o + 17 ∧ o + 17 < G.1) ∧ G.2.2 (o + 17) = .inl (false, 730) := ⟨⟨by have := h.1; omega, by have := h.2.1; omega⟩, h.2.2.2 16 _ rfl⟩
theorem RefG.a_sFrom {G : GT} {o : Nat} (h : RefG G o) : (EXN ≤ o + 18 ∧ o + 18 < G.1) ∧ G.2.2 (o + 18) = .inl (false, 730) := ⟨⟨by have := h.1; omega, by have := h.2.1; omega⟩, h.2.2.2 17 _ rfl⟩
theorem RefG.a_sLinks {G : GT} {o : Nat} (h : RefG G o) : (EXN ≤ o + 19 ∧ o + 19 < G.1) ∧ G.2.2 (o + 19) = .inl (false, 730) := ⟨⟨by have := h.1; omega, by have := h.2.1; omega⟩, h.2.2.2 18 _ rfl⟩
theorem RefG.a_went {G : GT} {o : Nat} (h : RefG G o) : (EXN ≤ o + 20 ∧ o + 20 < G.1) ∧ G.2.2 (o + 20) = .inl (false, 730) := ⟨⟨by have := h.1; omega, by have := h.2.1; omega⟩, h.2.2.2 19 _ rfl⟩
theorem RefG.a_links {G : GT} {o : Nat} (h : RefG G o) : (EXN ≤ o + 21 ∧ o + 21 < G.1) ∧ G.2.2 (o + 21) = .inl (false, 17520) := ⟨⟨by have := h.1; omega, by have := h.2.1; omega⟩, h.2.2.2 20 _ rfl⟩
theorem RefG.a_nodes {G : GT} {o : Nat} (h : RefG G o) : (EXN ≤ o + 22 ∧ o + 22 < G.1) ∧ G.2.2 (o + 22) = .inl (false, 24) := ⟨⟨by have := h.1; omega, by have := h.2.1; omega⟩, h.2.2.2 21 _ rfl⟩
theorem RefG.a_level1 {G : GT} {o : Nat} (h : RefG G o) : (EXN ≤ o + 23 ∧ o + 23 < G.1) ∧ G.2.2 (o + 23) = .inl (false, 6642) := ⟨⟨by have := h.1; omega, by have := h.2.1; omega⟩, h.2.2.2 22 _ rfl⟩
theorem RefG.a_cellAt {G : GT} {o : Nat} (h : RefG G o) : (EXN ≤ o + 24 ∧ o + 24 < G.1) ∧ G.2.2 (o + 24) = .inl (false, 82) := ⟨⟨by have := h.1; omega, by have := h.2.1; omega⟩, h.2.2.2 23 _ rfl⟩
theorem RefG.a_triedAt {G : GT} {o : Nat} (h : RefG G o) : (EXN ≤ o + 25 ∧ o + 25 < G.1) ∧ G.2.2 (o + 25) = .inl (false, 82) := ⟨⟨by have := h.1; omega, by have := h.2.1; omega⟩, h.2.2.2 24 _ rfl⟩
theorem RefG.a_work {G : GT} {o : Nat} (h : RefG G o) : (EXN ≤ o + 26 ∧ o + 26 < G.1) ∧ G.2.2 (o + 26) = .inl (false, 81) := ⟨⟨by have := h.1; omega, by have := h.2.1; omega⟩, h.2.2.2 25 _ rfl⟩
theorem RefG.a_solved {G : GT} {o : Nat} (h : RefG G o) : (EXN ≤ o + 27 ∧ o + 27 < G.1) ∧ G.2.2 (o + 27) = .inl (false, 162) := ⟨⟨by have := h.1; omega, by have := h.2.1; omega⟩, h.2.2.2 26 _ rfl⟩
/-- a row's first N places are f's -/
def setA (M : MT) (q : Nat) (N : Int) (f : Int → Int) : MT := fun a i => if a = q ∧ 0 ≤ i ∧ i < N then f i else M a i
theorem setA_0 (M : MT) (q : Nat) (f : Int → Int) : setA M q 0 f = M := by
  funext a i
  exact if_neg (fun h => by omega)
theorem setA_up {M : MT} {q : Nat} {k : Int} {f : Int → Int} {v : Int} (hk : 0 ≤ k) (hv : v = f k) : up2 (setA M q k f) q k v = setA M q (k + 1) f := by
  funext a i
  unfold up2 setA
  by_cases h : a = q ∧ i = k
  · rw [if_pos h, if_pos ⟨h.1, by omega, by omega⟩, hv, h.2]
  · rw [if_neg h]
    by_cases h2 : a = q ∧ 0 ≤ i ∧ i < k
    · rw [if_pos h2, if_pos ⟨h2.1, h2.2.1, by omega⟩]
    · rw [if_neg h2, if_neg (fun z => h ⟨z.1, by have := z.2; by_cases hi : i < k; exact absurd ⟨z.1, z.2.1, hi⟩ h2; omega⟩)]
theorem setA_hi {M : MT} {q : Nat} {N : Int} {f : Int → Int} {i : Int} (h : N ≤ i) : setA M q N f q i = M q i := if_neg (fun z => by omega)
theorem setA_lo {M : MT} {q : Nat} {N : Int} {f : Int → Int} {i : Int} (h0 : 0 ≤ i) (h : i < N) : setA M q N f q i = f i := if_pos ⟨rfl, h0, h⟩
theorem setA_ne {M : MT} {q a : Nat} {N : Int} {f : Int → Int} (h : a ≠ q) : setA M q N f a = M a := funext fun i => if_neg (fun z => h z.1)
def sumN (f : Nat → Nat) : Nat → Nat
  | 0 => 0
  | k + 1 => sumN f k + f k
theorem sumN_le {f : Nat → Nat} {B : Nat} (h : ∀ k, f k ≤ B) : ∀ n, sumN f n ≤ n * B := by
  intro n
  induction n with
  | zero => exact Nat.zero_le _
  | succ n ih =>
    unfold sumN
    have := h n
    rw [Nat.succ_mul]
    omega
theorem pop9_le (n : Nat) : pop9 n ≤ 9 := by
  unfold pop9
  have h : ∀ k n, popc k n ≤ k := by
    intro k
    induction k with
    | zero => intro n; exact Nat.le_refl _
    | succ k ih =>
      intro n
      unfold popc
      have h1 := ih (n / 2)
      have h2 : n % 2 < 2 := Nat.mod_lt _ (by decide)
      omega
  exact h 9 n
theorem c_X9_clear {d : Nat} {G : GT} {M : MT} {o : Nat} (hG : RefG G o) : Mq d k_X9_clear [vR o] G M (fun r M' => r = none ∧ M' = setA M (o + 5) 81 (fun _ => 0)) := by
  have L_2 : ∀ (f k : Nat), 81 - k < f → k ≤ 81 → Wq d k_X9_clear 2 [some (vR o), some (vI (k : Int))] [] G (setA M (o + 5) k (fun _ => 0)) (fun r M' => r = none ∧ M' = setA M (o + 5) 81 (fun _ => 0)) := by
    intro f
    induction f with
    | zero => intro k h; exact absurd h (by omega)
    | succ f ih =>
      intro k hf hk
      refine wq_s 3 rfl ?_
      refine wq_s 5 rfl ?_
      refine wq_icmp 21 rfl rfl (by omega) (by omega) (fun c_5 => ?_) (fun c_5 => ?_)
      · have c_5 := of_decide_eq_true c_5
        have e9 : k = 81 := by omega
        subst e9
        exact wq_ret rfl ⟨rfl, rfl⟩
      · have c_5 := of_decide_eq_false c_5
        refine wq_s 9 rfl ?_
        refine wq_getR 12 rfl rfl hG.ob hG.2.2.1 rfl ?_
        refine wq_s 13 rfl ?_
        refine wq_s 14 rfl ?_
        refine wq_iast 15 rfl rfl hG.a_gone.1 hG.a_gone.2 (by omega) (by omega) (by omega) ?_
        rw [setA_up (by omega) rfl]
        refine wq_inc 18 _ rfl rfl rfl (by omega) rfl ?_
        refine wq_s 2 rfl ?_
        exact ih (k + 1) (by omega) (by omega)
  refine wq_s 1 rfl ?_
  refine wq_s 2 rfl ?_
  have h := L_2 82 0 (by omega) (by omega)
  rw [show ((0 : Nat) : Int) = 0 from rfl, setA_0] at h
  exact h
theorem c_X9_there {d : Nat} {G : GT} {M : MT} {o q : Nat} {X Y : Nat → Nat} (hG : RefG G o) (hq : q < G.1) (hT : G.2.2 q = .inl (false, 81)) (hne : q ≠ o + 5) (hX : AtB M q X) (hY : AtB M (o + 5) Y) : Mq (d + 1) k_X9_there [vR o, vR q] G M (fun r M' => r = some (vI (sumN (fun c => pop9 (Y c &&& X c)) 81 : Nat)) ∧ M' = setA M (o + 5) 81 (fun c => ((Y c.toNat &&& X c.toNat : Nat) : Int))) := by
  have L_4 : ∀ (f k : Nat), 81 - k < f → k ≤ 81 → Wq (d + 1) k_X9_there 4 [some (vR o), some (vR q), some (vI (sumN (fun c => pop9 (Y c &&& X c)) k : Nat)), some (vI (k : Int))] [] G (setA M (o + 5) k (fun c => ((Y c.toNat &&& X c.toNat : Nat) : Int))) (fun r M' => r = some (vI (sumN (fun c => pop9 (Y c &&& X c)) 81 : Nat)) ∧ M' = setA M (o + 5) 81 (fun c => ((Y c.toNat &&& X c.toNat : Nat) : Int))) := by
    intro f
    induction f with
    | zero => intro k h; exact absurd h (by omega)
    | succ f ih =>
      intro k hf hk
      have hs := sumN_le (f := fun c => pop9 (Y c &&& X c)) (B := 9) (fun c => pop9_le _) k
      refine wq_s 5 rfl ?_
      refine wq_s 7 rfl ?_
      refine wq_icmp 40 rfl rfl (by omega) (by omega) (fun c_7 => ?_) (fun c_7 => ?_)
      · have c_7 := of_decide_eq_true c_7
        have e9 : k = 81 := by omega
        subst e9
        refine wq_s 41 rfl ?_
        exact wq_ret rfl ⟨rfl, rfl⟩
      · have c_7 := of_decide_eq_false c_7
        have hx := hX k (by omega)
        have hy := hY k (by omega)
        have hp := pop9_le (Y k &&& X k)
        refine wq_s 11 rfl ?_
        refine wq_getR 14 rfl rfl hG.ob hG.2.2.1 rfl ?_
        refine wq_s 15 rfl ?_
        refine wq_s 16 rfl ?_
        refine wq_iald 17 rfl rfl hG.a_gone.1.2 hG.a_gone.2 (by omega) (by omega) (by omega) ((setA_hi (Int.le_refl _)).trans hy.1) ?_
        refine wq_s 18 rfl ?_
        refine wq_s 19 rfl ?_
        refine wq_iald 20 rfl rfl hq hT (by omega) (by omega) (by omega) ((congrFun (setA_ne hne) _).trans hx.1) ?_
        refine wq_and 21 rfl rfl (by omega) ?_
        refine wq_iast 22 rfl rfl hG.a_gone.1 hG.a_gone.2 (by omega) (by omega) (by omega) ?_
        rw [setA_up (by omega) (by rw [Int.toNat_natCast])]
        refine wq_s 23 rfl ?_
        refine wq_s 24 rfl ?_
        refine wq_getR 27 rfl rfl hG.ob hG.2.2.1 rfl ?_
        refine wq_s 28 rfl ?_
        refine wq_iald (v := ((Y k &&& X k : Nat) : Int)) 29 rfl rfl hG.a_gone.1.2 hG.a_gone.2 (by omega) (by omega) (by omega) ((setA_lo (by omega) (by omega)).trans (by rw [Int.toNat_natCast])) ?_
        refine wq_st1 32 rfl rfl (by decide) (Nat.le_of_ble_eq_true rfl) rfl (Nat.le_of_ble_eq_true rfl) (c_X9_bits (and_lt2 (k := 9) hy.2)) (fun r M1 hr => ?_)
        obtain ⟨rfl, rfl⟩ := hr
        dsimp only [Option.toList, List.cons_append, List.nil_append]
        refine wq_add 33 rfl rfl (by omega) ?_
        refine wq_s 34 rfl ?_
        refine wq_inc 37 _ rfl rfl rfl (by omega) rfl ?_
        refine wq_s 4 rfl ?_
        exact ih (k + 1) (by omega) (by omega)
  refine wq_s 1 rfl ?_
  refine wq_s 2 rfl ?_
  refine wq_s 3 rfl ?_
  refine wq_s 4 rfl ?_
  have h := L_4 82 0 (by omega) (by omega)
  rw [show ((0 : Nat) : Int) = 0 from rfl, setA_0] at h
  exact h
theorem c_X9_goes {d : Nat} {G : GT} {M : MT} {o q : Nat} {X Y : Nat → Nat} (hG : RefG G o) (hq : EXN ≤ q ∧ q < G.1) (hT : G.2.2 q = .inl (false, 81)) (hne : q ≠ o + 5) (hX : AtB M q X) (hY : AtB M (o + 5) Y) : Mq d k_X9_goes [vR o, vR q] G M (fun r M' => r = none ∧ M' = setA M q 81 (fun c => ((andN (X c.toNat) (Y c.toNat) : Nat) : Int))) := by
  have L_2 : ∀ (f k : Nat), 81 - k < f → k ≤ 81 → Wq d k_X9_goes 2 [some (vR o), some (vR q), some (vI (k : Int))] [] G (setA M q k (fun c => ((andN (X c.toNat) (Y c.toNat) : Nat) : Int))) (fun r M' => r = none ∧ M' = setA M q 81 (fun c => ((andN (X c.toNat) (Y c.toNat) : Nat) : Int))) := by
    intro f
    induction f with
    | zero => intro k h; exact absurd h (by omega)
    | succ f ih =>
      intro k hf hk
      refine wq_s 3 rfl ?_
      refine wq_s 5 rfl ?_
      refine wq_icmp 28 rfl rfl (by omega) (by omega) (fun c_5 => ?_) (fun c_5 => ?_)
      · have c_5 := of_decide_eq_true c_5
        have e9 : k = 81 := by omega
        subst e9
        exact wq_ret rfl ⟨rfl, rfl⟩
      · have c_5 := of_decide_eq_false c_5
        have hx := hX k (by omega)
        have hy := hY k (by omega)
        refine wq_s 9 rfl ?_
        refine wq_s 10 rfl ?_
        refine wq_s 11 rfl ?_
        refine wq_iald 12 rfl rfl hq.2 hT (by omega) (by omega) (by omega) ((setA_hi (Int.le_refl _)).trans hx.1) ?_
        refine wq_s 13 rfl ?_
        refine wq_getR 16 rfl rfl hG.ob hG.2.2.1 rfl ?_
        refine wq_s 17 rfl ?_
        refine wq_iald 18 rfl rfl hG.a_gone.1.2 hG.a_gone.2 (by omega) (by omega) (by omega) ((congrFun (setA_ne (Ne.symm hne)) _).trans hy.1) ?_
        refine wq_s 19 rfl ?_
        refine wq_not 20 rfl rfl (by omega) ?_
        refine wq_andn 21 rfl rfl (by omega) ?_
        refine wq_iast 22 rfl rfl hq hT (by omega) (by omega) (by omega) ?_
        rw [setA_up (by omega) (by rw [Int.toNat_natCast])]
        refine wq_inc 25 _ rfl rfl rfl (by omega) rfl ?_
        refine wq_s 2 rfl ?_
        exact ih (k + 1) (by omega) (by omega)
  refine wq_s 1 rfl ?_
  refine wq_s 2 rfl ?_
  have h := L_2 82 0 (by omega) (by omega)
  rw [show ((0 : Nat) : Int) = 0 from rfl, setA_0] at h
  exact h
end
section
/-! the reference: the rules, one by one -/
theorem ite0 {p : Prop} [Decidable p] : (if p then (1 : Int) else 0) = 0 ↔ ¬ p := by
  by_cases h : p
  · rw [if_pos h]; exact ⟨fun z => absurd z (by decide), fun z => absurd h z⟩
  · rw [if_neg h]; exact ⟨fun _ => h, fun _ => rfl⟩
theorem ite1 {p : Prop} [Decidable p] : ¬ (if p then (1 : Int) else 0) = 0 ↔ p := by
  by_cases h : p
  · rw [if_pos h]; exact ⟨fun _ => h, fun _ => by decide⟩
  · rw [if_neg h]; exact ⟨fun z => absurd rfl z, fun z => absurd z h⟩
theorem iteN {p : Prop} [Decidable p] : ¬ ¬ (if p then (1 : Int) else 0) = 0 ↔ ¬ p := by
  rw [ite1]
theorem iteR {p : Prop} [Decidable p] : R32 (if p then (1 : Int) else 0) := by
  by_cases h : p
  · rw [if_pos h]; decide
  · rw [if_neg h]; decide
theorem setA_skip {M : MT} {q : Nat} {k : Int} {f : Int → Int} (hv : M q k = f k) : setA M q k f = setA M q (k + 1) f := by
  funext a i
  unfold setA
  by_cases h : a = q ∧ 0 ≤ i ∧ i < k
  · rw [if_pos h, if_pos ⟨h.1, h.2.1, by omega⟩]
  · rw [if_neg h]
    by_cases h2 : a = q ∧ 0 ≤ i ∧ i < k + 1
    · have e : i = k := by
        have := h2.2
        by_cases hi : i < k
        · exact absurd ⟨h2.1, h2.2.1, hi⟩ h
        · omega
      rw [if_pos h2, h2.1, e, hv]
    · rw [if_neg h2]
def singleC (X : Nat → Nat) (p v : Int) : Prop := (0 ≤ p ∧ p ≤ 80) ∧ (1 ≤ v ∧ v ≤ 9) ∧ X p.toNat = 2 ^ (v - 1).toNat
def singleG (X Y : Nat → Nat) (p : Int) : Int → Int := fun c => if peersF p c = 1 then (X p.toNat : Int) else (Y c.toNat : Int)
theorem peersF_01 (c e : Int) : peersF c e = 0 ∨ peersF c e = 1 := by
  unfold peersF
  split
  · exact Or.inr rfl
  · exact Or.inl rfl
theorem c_X9_single {d : Nat} {G : GT} {M : MT} {o q : Nat} {X Y : Nat → Nat} {p v : Int} (hG : RefG G o) (hq : q < G.1) (hT : G.2.2 q = .inl (false, 81)) (hne : q ≠ o + 5) (hX : AtB M q X) (hY : AtB M (o + 5) Y) (hp : R32 p) (hv : R32 v) : Mq (d + 2) k_X9_single [vR o, vR q, vI p, vI v] G M (fun r M' => (r = some (vI 1) ∧ singleC X p v ∧ M' = setA M (o + 5) 81 (singleG X Y p)) ∨ (r = some (vI 0) ∧ ¬ singleC X p v ∧ M' = M)) := by
  have L_36 : ∀ (f k : Nat), singleC X p v → 81 - k < f → k ≤ 81 → Wq (d + 2) k_X9_single 36 [some (vR o), some (vR q), some (vI p), some (vI v), some (vI (k : Int))] [] G (setA M (o + 5) k (singleG X Y p)) (fun r M' => (r = some (vI 1) ∧ singleC X p v ∧ M' = setA M (o + 5) 81 (singleG X Y p)) ∨ (r = some (vI 0) ∧ ¬ singleC X p v ∧ M' = M)) := by
    intro f
    induction f with
    | zero => intro k _ h; exact absurd h (by omega)
    | succ f ih =>
      intro k hs hf hk
      have hs1 := hs.1
      refine wq_s 38 rfl ?_
      refine wq_s 40 rfl ?_
      refine wq_icmp 68 rfl rfl (by omega) (by omega) (fun c_40 => ?_) (fun c_40 => ?_)
      · have c_40 := of_decide_eq_true c_40
        have e9 : k = 81 := by omega
        subst e9
        refine wq_s 69 rfl ?_
        exact wq_ret rfl (Or.inl ⟨rfl, hs, rfl⟩)
      · have c_40 := of_decide_eq_false c_40
        refine wq_s 44 rfl ?_
        refine wq_s 46 rfl ?_
        refine wq_st2 49 rfl rfl (by decide) (Nat.le_of_ble_eq_true rfl) rfl (Nat.le_of_ble_eq_true rfl) (c_X9_arePeers (by omega) (by omega) (by omega) (by omega)) (fun r M1 hr => ?_)
        obtain ⟨rfl, rfl⟩ := hr
        dsimp only [Option.toList, List.cons_append, List.nil_append]
        have hpr := peersF_01 p k
        have hy := hY k (by omega)
        have hx := hX.at (i := p) hs.1.1 (by have := hs.1.2; omega)
        refine wq_if 62 rfl rfl (by omega) (fun c_49 => ?_) (fun c_49 => ?_)
        · have c_49 := of_decide_eq_true c_49
          rw [setA_skip (k := (k : Int)) (by unfold singleG; rw [if_neg (by omega), Int.toNat_natCast]; exact hy.1)]
          refine wq_inc 65 _ rfl rfl rfl (by omega) rfl ?_
          refine wq_s 36 rfl ?_
          exact ih (k + 1) hs (by omega) (by omega)
        · have c_49 := of_decide_eq_false c_49
          refine wq_s 53 rfl ?_
          refine wq_getR 56 rfl rfl hG.ob hG.2.2.1 rfl ?_
          refine wq_s 58 rfl ?_
          refine wq_s 59 rfl ?_
          refine wq_s 60 rfl ?_
          refine wq_iald 61 rfl rfl hq hT hs.1.1 (by have := hs.1.2; omega) (by omega) ((congrFun (setA_ne hne) _).trans hx.1) ?_
          refine wq_iast 62 rfl rfl hG.a_gone.1 hG.a_gone.2 (by omega) (by omega) (by omega) ?_
          rw [setA_up (by omega) (by unfold singleG; rw [if_pos (by omega)])]
          refine wq_inc 65 _ rfl rfl rfl (by omega) rfl ?_
          refine wq_s 36 rfl ?_
          exact ih (k + 1) hs (by omega) (by omega)
  refine wq_s 1 rfl ?_
  refine wq_s 2 rfl ?_
  refine wq_s 4 rfl ?_
  refine wq_st3 7 rfl rfl (by decide) (Nat.le_of_ble_eq_true rfl) rfl (Nat.le_of_ble_eq_true rfl) (c_X9_in (by omega) (by omega) (by omega)) (fun r M1 hr => ?_)
  obtain ⟨rfl, rfl⟩ := hr
  dsimp only [Option.toList, List.cons_append, List.nil_append]
  refine wq_if 31 rfl rfl iteR (fun c_7 => ?_) (fun c_7 => ?_)
  · have c_7 := of_decide_eq_true c_7
    have c_7 := ite0.mp c_7
    refine wq_s 32 rfl ?_
    exact wq_ret rfl (Or.inr ⟨rfl, fun z => c_7 z.1, rfl⟩)
  · have c_7 := of_decide_eq_false c_7
    have c_7 := ite1.mp c_7
    refine wq_s 11 rfl ?_
    refine wq_s 12 rfl ?_
    refine wq_s 14 rfl ?_
    refine wq_st3 17 rfl rfl (by decide) (Nat.le_of_ble_eq_true rfl) rfl (Nat.le_of_ble_eq_true rfl) (c_X9_in (by omega) (by omega) (by omega)) (fun r M1 hr => ?_)
    obtain ⟨rfl, rfl⟩ := hr
    dsimp only [Option.toList, List.cons_append, List.nil_append]
    refine wq_if 31 rfl rfl iteR (fun c_17 => ?_) (fun c_17 => ?_)
    · have c_17 := of_decide_eq_true c_17
      have c_17 := ite0.mp c_17
      refine wq_s 32 rfl ?_
      exact wq_ret rfl (Or.inr ⟨rfl, fun z => c_17 z.2.1, rfl⟩)
    · have c_17 := of_decide_eq_false c_17
      have c_17 := ite1.mp c_17
      refine wq_s 21 rfl ?_
      refine wq_s 22 rfl ?_
      have hx := hX.at (i := p) c_7.1 (by omega)
      have hpw : 2 ^ (v - 1).toNat ≤ 2 ^ 8 := Nat.pow_le_pow_right (by decide) (by omega)
      refine wq_iald 23 rfl rfl hq hT (by omega) (by omega) (by omega) hx.1 ?_
      refine wq_s 24 rfl ?_
      refine wq_s 25 rfl ?_
      refine wq_s 26 rfl ?_
      refine wq_sub 27 rfl rfl (by omega) ?_
      rw [show v - 1 = (((v - 1).toNat : Nat) : Int) by omega]
      refine wq_shl (m := 1) 28 rfl rfl (by omega) (by omega) ?_
      refine wq_icmp 33 rfl rfl (by omega) (by omega) (fun c_28 => ?_) (fun c_28 => ?_)
      · have c_28 := of_decide_eq_true c_28
        refine wq_s 34 rfl ?_
        refine wq_s 36 rfl ?_
        have hs : singleC X p v := ⟨c_7, c_17, by omega⟩
        have h := L_36 82 0 hs (by omega) (by omega)
        rw [show ((0 : Nat) : Int) = 0 from rfl, setA_0] at h
        exact h
      · have c_28 := of_decide_eq_false c_28
        refine wq_s 32 rfl ?_
        exact wq_ret rfl (Or.inr ⟨rfl, fun z => c_28 (by rw [z.2.2, Nat.one_mul]), rfl⟩)
end
section
/-- one row is f, all else as it was -/
def rowA (M : MT) (q : Nat) (f : Int → Int) : MT := fun a i => if a = q then f i else M a i
def upI (f : Int → Int) (k v : Int) : Int → Int := fun i => if i = k then v else f i
theorem rowA_0 (M : MT) (q : Nat) : rowA M q (M q) = M := by
  funext a i
  unfold rowA
  by_cases h : a = q
  · rw [if_pos h, h]
  · rw [if_neg h]
theorem rowA_up {M : MT} {q : Nat} {f : Int → Int} {k v : Int} : up2 (rowA M q f) q k v = rowA M q (upI f k v) := by
  funext a i
  unfold up2 rowA upI
  by_cases h : a = q
  · by_cases h2 : i = k
    · rw [if_pos ⟨h, h2⟩, if_pos h, if_pos h2]
    · rw [if_neg (fun z => h2 z.2), if_pos h, if_pos h, if_neg h2]
  · rw [if_neg (fun z => h z.1), if_neg h, if_neg h]
theorem rowA_ne {M : MT} {q a : Nat} {f : Int → Int} (h : a ≠ q) : rowA M q f a = M a := funext fun i => if_neg h
theorem rowA_at {M : MT} {q : Nat} {f : Int → Int} : rowA M q f q = f := funext fun i => if_pos rfl
/-- a house's cells are written, those of which c holds -/
def gsF (h : Int) (c : Nat → Bool) (v : Int) (Y : Int → Int) : Nat → (Int → Int)
  | 0 => Y
  | k + 1 => if c k = true then upI (gsF h c v Y k) (cellF h k) v else gsF h c v Y k
theorem gsF_t {h : Int} {c : Nat → Bool} {v : Int} {Y : Int → Int} {k : Nat} (hc : c k = true) : gsF h c v Y (k + 1) = upI (gsF h c v Y k) (cellF h k) v := if_pos hc
theorem gsF_f {h : Int} {c : Nat → Bool} {v : Int} {Y : Int → Int} {k : Nat} (hc : c k = false) : gsF h c v Y (k + 1) = gsF h c v Y k := if_neg (by rw [hc]; decide)
def bitB (m k : Nat) : Bool := decide (m / 2 ^ k % 2 = 1)
def hid1C (X : Nat → Nat) (p v : Int) : Prop := (0 ≤ p ∧ p ≤ 26) ∧ (1 ≤ v ∧ v ≤ 9) ∧ pop9 (plN X p (v - 1).toNat 9) = 1
def hid1G (X : Nat → Nat) (p v : Int) (Y : Int → Int) : Int → Int := gsF p (bitB (plN X p (v - 1).toNat 9)) ((andN 511 (2 ^ (v - 1).toNat) : Nat) : Int) Y 9
theorem c_X9_hiddenOne {d : Nat} {G : GT} {M : MT} {o q : Nat} {X : Nat → Nat} {p v : Int} (hG : RefG G o) (hq : q < G.1) (hT : G.2.2 q = .inl (false, 81)) (hX : AtB M q X) (hp : R32 p) (hv : R32 v) : Mq (d + 2) k_X9_hiddenOne [vR o, vR q, vI p, vI v] G M (fun r M' => (r = some (vI 1) ∧ hid1C X p v ∧ M' = rowA M (o + 5) (hid1G X p v (M (o + 5)))) ∨ (r = some (vI 0) ∧ ¬ hid1C X p v ∧ M' = M)) := by
  have L_44 : ∀ (f k : Nat), hid1C X p v → 9 - k < f → k ≤ 9 → Wq (d + 2) k_X9_hiddenOne 44 [some (vR o), some (vR q), some (vI p), some (vI v), some (vI (plN X p (v - 1).toNat 9 : Nat)), some (vI (k : Int))] [] G (rowA M (o + 5) (gsF p (bitB (plN X p (v - 1).toNat 9)) ((andN 511 (2 ^ (v - 1).toNat) : Nat) : Int) (M (o + 5)) k)) (fun r M' => (r = some (vI 1) ∧ hid1C X p v ∧ M' = rowA M (o + 5) (hid1G X p v (M (o + 5)))) ∨ (r = some (vI 0) ∧ ¬ hid1C X p v ∧ M' = M)) := by
    intro f
    induction f with
    | zero => intro k _ h; exact absurd h (by omega)
    | succ f ih =>
      intro k hs hf hk
      obtain ⟨⟨s1, s2⟩, ⟨s3, s4⟩, s5⟩ := id hs
      have hpl := plN_lt X p (v - 1).toNat 9
      refine wq_s 46 rfl ?_
      refine wq_s 48 rfl ?_
      refine wq_icmp 90 rfl rfl (by omega) (by omega) (fun c_48 => ?_) (fun c_48 => ?_)
      · have c_48 := of_decide_eq_true c_48
        have e9 : k = 9 := by omega
        subst e9
        refine wq_s 91 rfl ?_
        exact wq_ret rfl (Or.inl ⟨rfl, hs, rfl⟩)
      · have c_48 := of_decide_eq_false c_48
        have hcr := cellF_rng (h := p) (k := (k : Int)) (by omega) (by omega) (by omega) (by omega)
        have hpw : 2 ^ (v - 1).toNat ≤ 2 ^ 8 := Nat.pow_le_pow_right (by decide) (by omega)
        refine wq_s 53 rfl ?_
        refine wq_s 55 rfl ?_
        refine wq_shr 56 rfl rfl (by omega) (by omega) ?_
        refine wq_s 57 rfl ?_
        refine wq_and (n := 1) 58 rfl rfl (Nat.lt_of_le_of_lt (Nat.div_le_self _ _) (by omega)) ?_
        rw [and_1]
        refine wq_s 59 rfl ?_
        refine wq_icmp 84 rfl rfl (by omega) (by omega) (fun c_59 => ?_) (fun c_59 => ?_)
        · have c_59 := of_decide_eq_true c_59
          rw [← gsF_f (k := k) (show bitB (plN X p (v - 1).toNat 9) k = false from decide_eq_false (by omega))]
          refine wq_inc 87 _ rfl rfl rfl (by omega) rfl ?_
          refine wq_s 44 rfl ?_
          exact ih (k + 1) hs (by omega) (by omega)
        · have c_59 := of_decide_eq_false c_59
          refine wq_s 63 rfl ?_
          refine wq_getR 66 rfl rfl hG.ob hG.2.2.1 rfl ?_
          refine wq_s 67 rfl ?_
          refine wq_s 69 rfl ?_
          refine wq_st2 72 rfl rfl (by decide) (Nat.le_of_ble_eq_true rfl) rfl (Nat.le_of_ble_eq_true rfl) (c_X9_cellOf (by omega) (by omega) (by omega) (by omega)) (fun r M1 hr => ?_)
          obtain ⟨rfl, hM1⟩ := hr
          subst M1
          dsimp only [Option.toList, List.cons_append, List.nil_append]
          refine wq_s 75 rfl ?_
          refine wq_s 76 rfl ?_
          refine wq_s 77 rfl ?_
          refine wq_s 78 rfl ?_
          refine wq_sub 79 rfl rfl (by omega) ?_
          rw [show v - 1 = (((v - 1).toNat : Nat) : Int) by omega]
          refine wq_shl (m := 1) 80 rfl rfl (by omega) (by omega) ?_
          refine wq_s 81 rfl ?_
          refine wq_not 82 rfl rfl (by omega) ?_
          refine wq_andn (m := 511) 83 rfl rfl (by omega) ?_
          refine wq_iast 84 rfl rfl hG.a_gone.1 hG.a_gone.2 (by omega) (by omega) (by omega) ?_
          rw [rowA_up, Nat.one_mul, Int.toNat_natCast, ← gsF_t (k := k) (show bitB (plN X p (v - 1).toNat 9) k = true from decide_eq_true (by omega))]
          refine wq_inc 87 _ rfl rfl rfl (by omega) rfl ?_
          refine wq_s 44 rfl ?_
          exact ih (k + 1) hs (by omega) (by omega)
  refine wq_s 1 rfl ?_
  refine wq_s 2 rfl ?_
  refine wq_s 4 rfl ?_
  refine wq_st3 7 rfl rfl (by decide) (Nat.le_of_ble_eq_true rfl) rfl (Nat.le_of_ble_eq_true rfl) (c_X9_in (by omega) (by omega) (by omega)) (fun r M1 hr => ?_)
  obtain ⟨rfl, hM1⟩ := hr
  subst M1
  dsimp only [Option.toList, List.cons_append, List.nil_append]
  refine wq_if 20 rfl rfl iteR (fun c_7 => ?_) (fun c_7 => ?_)
  · have c_7 := of_decide_eq_true c_7
    have c_7 := ite0.mp c_7
    refine wq_s 21 rfl ?_
    exact wq_ret rfl (Or.inr ⟨rfl, fun z => c_7 z.1, rfl⟩)
  · have c_7 := of_decide_eq_false c_7
    have c_7 := ite1.mp c_7
    refine wq_s 11 rfl ?_
    refine wq_s 12 rfl ?_
    refine wq_s 14 rfl ?_
    refine wq_st3 17 rfl rfl (by decide) (Nat.le_of_ble_eq_true rfl) rfl (Nat.le_of_ble_eq_true rfl) (c_X9_in (by omega) (by omega) (by omega)) (fun r M1 hr => ?_)
    obtain ⟨rfl, hM1⟩ := hr
    subst M1
    dsimp only [Option.toList, List.cons_append, List.nil_append]
    refine wq_if 22 rfl rfl iteR (fun c_17 => ?_) (fun c_17 => ?_)
    · have c_17 := of_decide_eq_true c_17
      have c_17 := ite1.mp c_17
      have hpl := plN_lt X p (v - 1).toNat 9
      refine wq_s 23 rfl ?_
      refine wq_s 24 rfl ?_
      refine wq_s 25 rfl ?_
      have hcp := c_X9_placesOf (d := d) (M := M) (h := p) (e := (v - 1).toNat) (by omega) (by omega) (by omega) hq hT hX
      rw [show (((v - 1).toNat : Nat) : Int) + 1 = v by omega] at hcp
      refine wq_st3 28 rfl rfl (by decide) (Nat.le_of_ble_eq_true rfl) rfl (Nat.le_of_ble_eq_true rfl) hcp (fun r M1 hr => ?_)
      obtain ⟨rfl, hM1⟩ := hr
      subst M1
      dsimp only [Option.toList, List.cons_append, List.nil_append]
      refine wq_s 30 rfl ?_
      refine wq_s 32 rfl ?_
      refine wq_st1 35 rfl rfl (by decide) (Nat.le_of_ble_eq_true rfl) rfl (Nat.le_of_ble_eq_true rfl) (c_X9_bits hpl) (fun r M1 hr => ?_)
      obtain ⟨rfl, hM1⟩ := hr
      subst M1
      dsimp only [Option.toList, List.cons_append, List.nil_append]
      have hpp := pop9_le (plN X p (v - 1).toNat 9)
      refine wq_s 36 rfl ?_
      refine wq_icmp 41 rfl rfl (by omega) (by omega) (fun c_36 => ?_) (fun c_36 => ?_)
      · have c_36 := of_decide_eq_true c_36
        refine wq_s 42 rfl ?_
        refine wq_s 44 rfl ?_
        have hs : hid1C X p v := ⟨c_7, c_17, by omega⟩
        have h := L_44 10 0 hs (by omega) (by omega)
        rw [show gsF p (bitB (plN X p (v - 1).toNat 9)) ((andN 511 (2 ^ (v - 1).toNat) : Nat) : Int) (M (o + 5)) 0 = M (o + 5) from rfl, rowA_0] at h
        exact h
      · have c_36 := of_decide_eq_false c_36
        refine wq_s 40 rfl ?_
        exact wq_ret rfl (Or.inr ⟨rfl, fun z => c_36 (by rw [z.2.2]; rfl), rfl⟩)
    · have c_17 := of_decide_eq_false c_17
      have c_17 := iteN.mp c_17
      refine wq_s 21 rfl ?_
      exact wq_ret rfl (Or.inr ⟨rfl, fun z => c_17 z.2.1, rfl⟩)
end
section
def unN (X : Nat → Nat) (p : Int) (q : Nat) : Nat → Nat
  | 0 => 0
  | k + 1 => if bitB q k = true then unN X p q k ||| X (cellF p k).toNat else unN X p q k
theorem unN_lt {X : Nat → Nat} {p : Int} {q : Nat} (hX : ∀ c, c < 81 → X c < 512) (h0 : 0 ≤ p) (h1 : p < 27) : ∀ k, k ≤ 9 → unN X p q k < 512 := by
  intro k
  induction k with
  | zero => intro _; exact Nat.zero_lt_succ _
  | succ k ih =>
    intro hk
    have hr := cellF_rng (h := p) (k := (k : Int)) h0 h1 (by omega) (by omega)
    unfold unN
    split
    · exact or_lt2 (k := 9) (ih (by omega)) (hX _ (by omega))
    · exact ih (by omega)
def nakC (X : Nat → Nat) (p v m : Int) : Prop := (0 ≤ p ∧ p ≤ 26) ∧ (0 ≤ v ∧ v ≤ 511) ∧ (pop9 v.toNat : Int) = m ∧ (pop9 (unN X p v.toNat 9) : Int) = m
def nakG (X : Nat → Nat) (p v : Int) (Y : Int → Int) : Int → Int := gsF p (fun k => !bitB v.toNat k) ((unN X p v.toNat 9 : Nat) : Int) Y 9
theorem c_X9_nakedN {d : Nat} {G : GT} {M : MT} {o q n : Nat} {X : Nat → Nat} {p m : Int} (hG : RefG G o) (hq : q < G.1) (hT : G.2.2 q = .inl (false, 81)) (hX : AtB M q X) (hp : R32 p) (hn : n < 512) (hm0 : R32 m) : Mq (d + 2) k_X9_naked [vR o, vR q, vI p, vI (n : Int), vI m] G M (fun r M' => (r = some (vI 1) ∧ nakC X p (n : Int) m ∧ M' = rowA M (o + 5) (nakG X p (n : Int) (M (o + 5)))) ∨ (r = some (vI 0) ∧ ¬ nakC X p (n : Int) m ∧ M' = M)) := by
  have L_89 : ∀ (f k : Nat), nakC X p (n : Int) m → 9 - k < f → k ≤ 9 → Wq (d + 2) k_X9_naked 89 [some (vR o), some (vR q), some (vI p), some (vI (n : Int)), some (vI m), some (vI (unN X p n 9 : Nat)), some (vI (k : Int))] [] G (rowA M (o + 5) (gsF p (fun k => !bitB n k) ((unN X p n 9 : Nat) : Int) (M (o + 5)) k)) (fun r M' => (r = some (vI 1) ∧ nakC X p (n : Int) m ∧ M' = rowA M (o + 5) (nakG X p (n : Int) (M (o + 5)))) ∨ (r = some (vI 0) ∧ ¬ nakC X p (n : Int) m ∧ M' = M)) := by
    intro f
    induction f with
    | zero => intro k _ h; exact absurd h (by omega)
    | succ f ih =>
      intro k hs hf hk
      obtain ⟨⟨s1, s2⟩, -, -, -⟩ := id hs
      refine wq_s 91 rfl ?_
      refine wq_s 93 rfl ?_
      refine wq_icmp 124 rfl rfl (by omega) (by omega) (fun c_93 => ?_) (fun c_93 => ?_)
      · have c_93 := of_decide_eq_true c_93
        have e9 : k = 9 := by omega
        subst e9
        refine wq_s 125 rfl ?_
        exact wq_ret rfl (Or.inl ⟨rfl, hs, rfl⟩)
      · have c_93 := of_decide_eq_false c_93
        have hcr := cellF_rng (h := p) (k := (k : Int)) (by omega) (by omega) (by omega) (by omega)
        refine wq_s 97 rfl ?_
        refine wq_s 99 rfl ?_
        refine wq_shr 100 rfl rfl (by omega) (by omega) ?_
        refine wq_s 101 rfl ?_
        refine wq_and (n := 1) 102 rfl rfl (Nat.lt_of_le_of_lt (Nat.div_le_self _ _) (by omega)) ?_
        rw [and_1]
        refine wq_if 118 rfl rfl (by omega) (fun c_102 => ?_) (fun c_102 => ?_)
        · have c_102 := of_decide_eq_true c_102
          rw [← gsF_f (c := fun k => !bitB n k) (k := k) (show (!bitB n k) = false from by rw [show bitB n k = true from decide_eq_true (by omega)]; rfl)]
          refine wq_inc 121 _ rfl rfl rfl (by omega) rfl ?_
          refine wq_s 89 rfl ?_
          exact ih (k + 1) hs (by omega) (by omega)
        · have c_102 := of_decide_eq_false c_102
          refine wq_s 106 rfl ?_
          refine wq_getR 109 rfl rfl hG.ob hG.2.2.1 rfl ?_
          refine wq_s 110 rfl ?_
          refine wq_s 112 rfl ?_
          refine wq_st2 115 rfl rfl (by decide) (Nat.le_of_ble_eq_true rfl) rfl (Nat.le_of_ble_eq_true rfl) (c_X9_cellOf (by omega) (by omega) (by omega) (by omega)) (fun r M1 hr => ?_)
          obtain ⟨rfl, hM1⟩ := hr
          subst M1
          dsimp only [Option.toList, List.cons_append, List.nil_append]
          refine wq_s 117 rfl ?_
          refine wq_iast 118 rfl rfl hG.a_gone.1 hG.a_gone.2 (by omega) (by omega) (by omega) ?_
          rw [rowA_up, ← gsF_t (c := fun k => !bitB n k) (k := k) (show (!bitB n k) = true from by rw [show bitB n k = false from decide_eq_false (by omega)]; rfl)]
          refine wq_inc 121 _ rfl rfl rfl (by omega) rfl ?_
          refine wq_s 89 rfl ?_
          exact ih (k + 1) hs (by omega) (by omega)
  have L_38 : (0 ≤ p ∧ p ≤ 26) → (pop9 n : Int) = m → ∀ (f k : Nat), 9 - k < f → k ≤ 9 → Wq (d + 2) k_X9_naked 38 [some (vR o), some (vR q), some (vI p), some (vI (n : Int)), some (vI m), some (vI (unN X p n k : Nat)), some (vI (k : Int))] [] G M (fun r M' => (r = some (vI 1) ∧ nakC X p (n : Int) m ∧ M' = rowA M (o + 5) (nakG X p (n : Int) (M (o + 5)))) ∨ (r = some (vI 0) ∧ ¬ nakC X p (n : Int) m ∧ M' = M)) := by
    intro hp0 hm f
    induction f with
    | zero => intro k h; exact absurd h (by omega)
    | succ f ih =>
      intro k hf hk
      refine wq_s 40 rfl ?_
      refine wq_s 42 rfl ?_
      refine wq_icmp 74 rfl rfl (by omega) (by omega) (fun c_42 => ?_) (fun c_42 => ?_)
      · have c_42 := of_decide_eq_true c_42
        have e9 : k = 9 := by omega
        subst e9
        have hun := unN_lt (q := n) (fun c hc => (hX c hc).2) hp0.1 (by omega) 9 (by omega)
        have hpp := pop9_le (unN X p n 9)
        refine wq_s 76 rfl ?_
        refine wq_st1 79 rfl rfl (by decide) (Nat.le_of_ble_eq_true rfl) rfl (Nat.le_of_ble_eq_true rfl) (c_X9_bits hun) (fun r M1 hr => ?_)
        obtain ⟨rfl, hM1⟩ := hr
        subst M1
        dsimp only [Option.toList, List.cons_append, List.nil_append]
        refine wq_s 81 rfl ?_
        refine wq_icmp 86 rfl rfl (by omega) (by omega) (fun c_81 => ?_) (fun c_81 => ?_)
        · have c_81 := of_decide_eq_true c_81
          refine wq_s 87 rfl ?_
          refine wq_s 89 rfl ?_
          have hs : nakC X p (n : Int) m := ⟨hp0, ⟨by omega, by omega⟩, hm, c_81⟩
          have h := L_89 10 0 hs (by omega) (by omega)
          rw [show gsF p (fun k => !bitB n k) ((unN X p n 9 : Nat) : Int) (M (o + 5)) 0 = M (o + 5) from rfl, rowA_0] at h
          exact h
        · have c_81 := of_decide_eq_false c_81
          refine wq_s 85 rfl ?_
          exact wq_ret rfl (Or.inr ⟨rfl, fun z => c_81 z.2.2.2, rfl⟩)
      · have c_42 := of_decide_eq_false c_42
        have hcr := cellF_rng (h := p) (k := (k : Int)) (by omega) (by omega) (by omega) (by omega)
        have hx := hX.at hcr.1 hcr.2
        have hun := unN_lt (q := n) (fun c hc => (hX c hc).2) hp0.1 (by omega) k (by omega)
        refine wq_s 46 rfl ?_
        refine wq_s 48 rfl ?_
        refine wq_shr 49 rfl rfl (by omega) (by omega) ?_
        refine wq_s 50 rfl ?_
        refine wq_and (n := 1) 51 rfl rfl (Nat.lt_of_le_of_lt (Nat.div_le_self _ _) (by omega)) ?_
        rw [and_1]
        refine wq_s 52 rfl ?_
        refine wq_icmp 68 rfl rfl (by omega) (by omega) (fun c_52 => ?_) (fun c_52 => ?_)
        · have c_52 := of_decide_eq_true c_52
          rw [← show unN X p n (k + 1) = unN X p n k from if_neg (by rw [show bitB n k = false from decide_eq_false (by omega)]; decide)]
          refine wq_inc 71 _ rfl rfl rfl (by omega) rfl ?_
          refine wq_s 38 rfl ?_
          exact ih (k + 1) (by omega) (by omega)
        · have c_52 := of_decide_eq_false c_52
          refine wq_s 57 rfl ?_
          refine wq_s 58 rfl ?_
          refine wq_s 59 rfl ?_
          refine wq_s 61 rfl ?_
          refine wq_st2 64 rfl rfl (by decide) (Nat.le_of_ble_eq_true rfl) rfl (Nat.le_of_ble_eq_true rfl) (c_X9_cellOf (by omega) (by omega) (by omega) (by omega)) (fun r M1 hr => ?_)
          obtain ⟨rfl, hM1⟩ := hr
          subst M1
          dsimp only [Option.toList, List.cons_append, List.nil_append]
          refine wq_iald 65 rfl rfl hq hT hcr.1 (by omega) (by omega) hx.1 ?_
          refine wq_or 66 rfl rfl (by omega) (by omega) ?_
          rw [← show unN X p n (k + 1) = unN X p n k ||| X (cellF p k).toNat from if_pos (show bitB n k = true from decide_eq_true (by omega))]
          refine wq_s 68 rfl ?_
          refine wq_inc 71 _ rfl rfl rfl (by omega) rfl ?_
          refine wq_s 38 rfl ?_
          exact ih (k + 1) (by omega) (by omega)
  refine wq_s 1 rfl ?_
  refine wq_s 2 rfl ?_
  refine wq_s 4 rfl ?_
  refine wq_st3 7 rfl rfl (by decide) (Nat.le_of_ble_eq_true rfl) rfl (Nat.le_of_ble_eq_true rfl) (c_X9_in (by omega) (by omega) (by omega)) (fun r M1 hr => ?_)
  obtain ⟨rfl, hM1⟩ := hr
  subst M1
  dsimp only [Option.toList, List.cons_append, List.nil_append]
  refine wq_if 30 rfl rfl iteR (fun c_7 => ?_) (fun c_7 => ?_)
  · have c_7 := of_decide_eq_true c_7
    have c_7 := ite0.mp c_7
    refine wq_s 31 rfl ?_
    exact wq_ret rfl (Or.inr ⟨rfl, fun z => c_7 z.1, rfl⟩)
  · have c_7 := of_decide_eq_false c_7
    have c_7 := ite1.mp c_7
    refine wq_s 11 rfl ?_
    refine wq_s 12 rfl ?_
    refine wq_s 15 rfl ?_
    refine wq_st3 18 rfl rfl (by decide) (Nat.le_of_ble_eq_true rfl) rfl (Nat.le_of_ble_eq_true rfl) (c_X9_in (by omega) (by omega) (by omega)) (fun r M1 hr => ?_)
    obtain ⟨rfl, hM1⟩ := hr
    subst M1
    dsimp only [Option.toList, List.cons_append, List.nil_append]
    refine wq_if 30 rfl rfl iteR (fun c_18 => ?_) (fun c_18 => ?_)
    · have c_18 := of_decide_eq_true c_18
      have c_18 := ite0.mp c_18
      refine wq_s 31 rfl ?_
      exact wq_ret rfl (Or.inr ⟨rfl, fun z => c_18 z.2.1, rfl⟩)
    · have c_18 := of_decide_eq_false c_18
      have c_18 := ite1.mp c_18
      refine wq_s 22 rfl ?_
      refine wq_st1 25 rfl rfl (by decide) (Nat.le_of_ble_eq_true rfl) rfl (Nat.le_of_ble_eq_true rfl) (c_X9_bits (by omega)) (fun r M1 hr => ?_)
      obtain ⟨rfl, hM1⟩ := hr
      subst M1
      dsimp only [Option.toList, List.cons_append, List.nil_append]
      have hpp := pop9_le n
      refine wq_s 27 rfl ?_
      refine wq_icmp 32 rfl rfl (by omega) (by omega) (fun c_27 => ?_) (fun c_27 => ?_)
      · have c_27 := of_decide_eq_true c_27
        refine wq_s 33 rfl ?_
        refine wq_s 35 rfl ?_
        refine wq_s 36 rfl ?_
        refine wq_s 38 rfl ?_
        exact L_38 c_7 c_27 10 0 (by omega) (by omega)
      · have c_27 := of_decide_eq_false c_27
        refine wq_s 31 rfl ?_
        exact wq_ret rfl (Or.inr ⟨rfl, fun z => c_27 z.2.2.1, rfl⟩)
end
section
/-- two nodes are weak -/
def weakC (X : Nat → Nat) (u v : Nat) : Prop := u ≠ v ∧ hasN X u = 1 ∧ hasN X v = 1 ∧ (u / 9 = v / 9 ∨ (u % 9 = v % 9 ∧ peersF ((u : Int) / 9) ((v : Int) / 9) = 1))
theorem hasN_01 (X : Nat → Nat) (n : Nat) : hasN X n < 2 := Nat.mod_lt _ (by decide)
theorem c_X9_isWeak {d : Nat} {G : GT} {M : MT} {q u v : Nat} {X : Nat → Nat} (hu : u < 729) (hv : v < 729) (hq : q < G.1) (hT : G.2.2 q = .inl (false, 81)) (hX : AtB M q X) : Mq (d + 2) k_X9_isWeak [vR q, vI (u : Int), vI (v : Int)] G M (fun r M' => (r = some (vI 1) ∧ weakC X u v ∧ M' = M) ∨ (r = some (vI 0) ∧ ¬ weakC X u v ∧ M' = M)) := by
  have h1 := hasN_01 X u
  have h2 := hasN_01 X v
  refine wq_s 1 rfl ?_
  refine wq_s 2 rfl ?_
  refine wq_icmp 21 rfl rfl (by omega) (by omega) (fun c_2 => ?_) (fun c_2 => ?_)
  · have c_2 := of_decide_eq_true c_2
    refine wq_s 22 rfl ?_
    exact wq_ret rfl (Or.inr ⟨rfl, fun z => z.1 (by omega), rfl⟩)
  · have c_2 := of_decide_eq_false c_2
    refine wq_s 6 rfl ?_
    refine wq_s 7 rfl ?_
    refine wq_st2 10 rfl rfl (by decide) (Nat.le_of_ble_eq_true rfl) rfl (Nat.le_of_ble_eq_true rfl) (c_X9_isThere hu hq hT hX) (fun r M1 hr => ?_)
    obtain ⟨rfl, hM1⟩ := hr
    subst M1
    dsimp only [Option.toList, List.cons_append, List.nil_append]
    refine wq_if 21 rfl rfl (by omega) (fun c_10 => ?_) (fun c_10 => ?_)
    · have c_10 := of_decide_eq_true c_10
      refine wq_s 22 rfl ?_
      exact wq_ret rfl (Or.inr ⟨rfl, fun z => (by have := z.2.1; omega), rfl⟩)
    · have c_10 := of_decide_eq_false c_10
      refine wq_s 14 rfl ?_
      refine wq_s 15 rfl ?_
      refine wq_st2 18 rfl rfl (by decide) (Nat.le_of_ble_eq_true rfl) rfl (Nat.le_of_ble_eq_true rfl) (c_X9_isThere hv hq hT hX) (fun r M1 hr => ?_)
      obtain ⟨rfl, hM1⟩ := hr
      subst M1
      dsimp only [Option.toList, List.cons_append, List.nil_append]
      refine wq_if 23 rfl rfl (by omega) (fun c_18 => ?_) (fun c_18 => ?_)
      · have c_18 := of_decide_eq_true c_18
        refine wq_s 24 rfl ?_
        refine wq_s 26 rfl ?_
        refine wq_div 27 rfl rfl (by omega) (by omega) (by omega) (by omega) ?_
        refine wq_s 28 rfl ?_
        refine wq_s 30 rfl ?_
        refine wq_div 31 rfl rfl (by omega) (by omega) (by omega) (by omega) ?_
        refine wq_icmp 59 rfl rfl (by omega) (by omega) (fun c_31 => ?_) (fun c_31 => ?_)
        · have c_31 := of_decide_eq_true c_31
          refine wq_s 60 rfl ?_
          refine wq_s 64 rfl ?_
          exact wq_ret rfl (Or.inl ⟨rfl, ⟨by omega, by omega, by omega, Or.inl (by omega)⟩, rfl⟩)
        · have c_31 := of_decide_eq_false c_31
          refine wq_s 35 rfl ?_
          refine wq_s 37 rfl ?_
          refine wq_rem 38 rfl rfl (by omega) (by omega) (by omega) (by omega) ?_
          refine wq_s 39 rfl ?_
          refine wq_s 41 rfl ?_
          refine wq_rem 42 rfl rfl (by omega) (by omega) (by omega) (by omega) ?_
          refine wq_icmp 63 rfl rfl (by omega) (by omega) (fun c_42 => ?_) (fun c_42 => ?_)
          · have c_42 := of_decide_eq_true c_42
            refine wq_s 64 rfl ?_
            exact wq_ret rfl (Or.inr ⟨rfl, fun z => (by rcases z.2.2.2 with y | y; omega; have := y.1; omega), rfl⟩)
          · have c_42 := of_decide_eq_false c_42
            refine wq_s 46 rfl ?_
            refine wq_s 48 rfl ?_
            refine wq_div 49 rfl rfl (by omega) (by omega) (by omega) (by omega) ?_
            refine wq_s 50 rfl ?_
            refine wq_s 52 rfl ?_
            refine wq_div 53 rfl rfl (by omega) (by omega) (by omega) (by omega) ?_
            refine wq_st2 56 rfl rfl (by decide) (Nat.le_of_ble_eq_true rfl) rfl (Nat.le_of_ble_eq_true rfl) (c_X9_arePeers (by omega) (by omega) (by omega) (by omega)) (fun r M1 hr => ?_)
            obtain ⟨rfl, hM1⟩ := hr
            subst M1
            dsimp only [Option.toList, List.cons_append, List.nil_append]
            have hpr := peersF_01 ((u : Int) / 9) ((v : Int) / 9)
            refine wq_if 63 rfl rfl (by omega) (fun c_56 => ?_) (fun c_56 => ?_)
            · have c_56 := of_decide_eq_true c_56
              refine wq_s 64 rfl ?_
              exact wq_ret rfl (Or.inr ⟨rfl, fun z => (by rcases z.2.2.2 with y | y; omega; have := y.2; omega), rfl⟩)
            · have c_56 := of_decide_eq_false c_56
              refine wq_s 60 rfl ?_
              refine wq_s 64 rfl ?_
              exact wq_ret rfl (Or.inl ⟨rfl, ⟨by omega, by omega, by omega, Or.inr ⟨by omega, by omega⟩⟩, rfl⟩)
      · have c_18 := of_decide_eq_false c_18
        refine wq_s 22 rfl ?_
        exact wq_ret rfl (Or.inr ⟨rfl, fun z => (by have := z.2.2.1; omega), rfl⟩)
end
section
/-- a house that both have tells it -/
def strH (X : Nat → Nat) (u v : Nat) (s : Nat) : Prop := houseF ((u : Int) / 9) s = houseF ((v : Int) / 9) s ∧ pop9 (plN X (houseF ((u : Int) / 9) s) (u % 9) 9) = 2
def strongC (X : Nat → Nat) (u v : Nat) : Prop := weakC X u v ∧ ((u / 9 = v / 9 ∧ pop9 (X (u / 9)) = 2) ∨ (u / 9 ≠ v / 9 ∧ ∃ s, s < 3 ∧ strH X u v s))
theorem c_X9_isStrong {d : Nat} {G : GT} {M : MT} {q u v : Nat} {X : Nat → Nat} (hu : u < 729) (hv : v < 729) (hq : q < G.1) (hT : G.2.2 q = .inl (false, 81)) (hX : AtB M q X) : Mq (d + 3) k_X9_isStrong [vR q, vI (u : Int), vI (v : Int)] G M (fun r M' => (r = some (vI 1) ∧ strongC X u v ∧ M' = M) ∨ (r = some (vI 0) ∧ ¬ strongC X u v ∧ M' = M)) := by
  have L_43 : weakC X u v → ¬ u / 9 = v / 9 → ∀ (f k : Nat) (l4 : Option AV), 3 - k < f → k ≤ 3 → (∀ s, s < k → ¬ strH X u v s) → Wq (d + 3) k_X9_isStrong 43 [some (vR q), some (vI (u : Int)), some (vI (v : Int)), some (vI (k : Int)), l4] [] G M (fun r M' => (r = some (vI 1) ∧ strongC X u v ∧ M' = M) ∨ (r = some (vI 0) ∧ ¬ strongC X u v ∧ M' = M)) := by
    intro hw hd9 f
    induction f with
    | zero => intro k _ h; exact absurd h (by omega)
    | succ f ih =>
      intro k l4 hf hk hno
      refine wq_s 44 rfl ?_
      refine wq_s 45 rfl ?_
      refine wq_icmp 98 rfl rfl (by omega) (by omega) (fun c_45 => ?_) (fun c_45 => ?_)
      · have c_45 := of_decide_eq_true c_45
        refine wq_s 99 rfl ?_
        exact wq_ret rfl (Or.inr ⟨rfl, fun z => (by rcases z.2 with y | y; exact hd9 y.1; obtain ⟨s, y1, y2⟩ := y.2; exact hno s (by omega) y2), rfl⟩)
      · have c_45 := of_decide_eq_false c_45
        have a1 := houseF_rng (c := (u : Int) / 9) (s := (k : Int)) (by omega) (by omega)
        have a2 := houseF_rng (c := (v : Int) / 9) (s := (k : Int)) (by omega) (by omega)
        have hpl := plN_lt X (houseF ((u : Int) / 9) k) (u % 9) 9
        have hpp := pop9_le (plN X (houseF ((u : Int) / 9) k) (u % 9) 9)
        refine wq_s 49 rfl ?_
        refine wq_s 51 rfl ?_
        refine wq_div 52 rfl rfl (by omega) (by omega) (by omega) (by omega) ?_
        refine wq_s 53 rfl ?_
        refine wq_st2 56 rfl rfl (by decide) (Nat.le_of_ble_eq_true rfl) rfl (Nat.le_of_ble_eq_true rfl) (c_X9_houseOf (by omega) (by omega) (by omega)) (fun r M1 hr => ?_)
        obtain ⟨rfl, hM1⟩ := hr
        subst M1
        dsimp only [Option.toList, List.cons_append, List.nil_append]
        refine wq_s 58 rfl ?_
        refine wq_s 60 rfl ?_
        refine wq_s 61 rfl ?_
        refine wq_s 63 rfl ?_
        refine wq_div 64 rfl rfl (by omega) (by omega) (by omega) (by omega) ?_
        refine wq_s 65 rfl ?_
        refine wq_st2 68 rfl rfl (by decide) (Nat.le_of_ble_eq_true rfl) rfl (Nat.le_of_ble_eq_true rfl) (c_X9_houseOf (by omega) (by omega) (by omega)) (fun r M1 hr => ?_)
        obtain ⟨rfl, hM1⟩ := hr
        subst M1
        dsimp only [Option.toList, List.cons_append, List.nil_append]
        refine wq_icmp 92 rfl rfl (by omega) (by omega) (fun c_68 => ?_) (fun c_68 => ?_)
        · have c_68 := of_decide_eq_true c_68
          refine wq_inc 95 _ rfl rfl rfl (by omega) rfl ?_
          refine wq_s 43 rfl ?_
          exact ih (k + 1) _ (by omega) (by omega) (fun s hs => by rcases Nat.lt_or_eq_of_le (Nat.le_of_lt_succ hs) with z | z; exact hno s z; rw [z]; exact fun y => c_68 y.1)
        · have c_68 := of_decide_eq_false c_68
          refine wq_s 72 rfl ?_
          refine wq_s 74 rfl ?_
          refine wq_s 75 rfl ?_
          refine wq_s 77 rfl ?_
          refine wq_rem 78 rfl rfl (by omega) (by omega) (by omega) (by omega) ?_
          refine wq_s 79 rfl ?_
          refine wq_add 80 rfl rfl (by omega) ?_
          refine wq_st3 83 rfl rfl (by decide) (Nat.le_of_ble_eq_true rfl) rfl (Nat.le_of_ble_eq_true rfl) (c_X9_placesOf (e := u % 9) a1.1 a1.2 (by omega) hq hT hX) (fun r M1 hr => ?_)
          obtain ⟨rfl, hM1⟩ := hr
          subst M1
          dsimp only [Option.toList, List.cons_append, List.nil_append]
          refine wq_st1 86 rfl rfl (by decide) (Nat.le_of_ble_eq_true rfl) rfl (Nat.le_of_ble_eq_true rfl) (c_X9_bits hpl) (fun r M1 hr => ?_)
          obtain ⟨rfl, hM1⟩ := hr
          subst M1
          dsimp only [Option.toList, List.cons_append, List.nil_append]
          refine wq_s 87 rfl ?_
          refine wq_icmp 92 rfl rfl (by omega) (by omega) (fun c_87 => ?_) (fun c_87 => ?_)
          · have c_87 := of_decide_eq_true c_87
            refine wq_inc 95 _ rfl rfl rfl (by omega) rfl ?_
            refine wq_s 43 rfl ?_
            exact ih (k + 1) _ (by omega) (by omega) (fun s hs => by rcases Nat.lt_or_eq_of_le (Nat.le_of_lt_succ hs) with z | z; exact hno s z; rw [z]; exact fun y => c_87 (by have := y.2; omega))
          · have c_87 := of_decide_eq_false c_87
            refine wq_s 91 rfl ?_
            exact wq_ret rfl (Or.inl ⟨rfl, ⟨hw, Or.inr ⟨hd9, k, by omega, ⟨by omega, by omega⟩⟩⟩, rfl⟩)
  refine wq_s 1 rfl ?_
  refine wq_s 2 rfl ?_
  refine wq_s 3 rfl ?_
  refine wq_st3 6 rfl rfl (by decide) (Nat.le_of_ble_eq_true rfl) rfl (Nat.le_of_ble_eq_true rfl) (c_X9_isWeak hu hv hq hT hX) (fun r M1 hr => ?_)
  rcases hr with ⟨rfl, hw, hM1⟩ | ⟨rfl, hw, hM1⟩
  · subst M1
    dsimp only [Option.toList, List.cons_append, List.nil_append]
    refine wq_if 11 rfl rfl (by decide) (fun c_6 => ?_) (fun c_6 => absurd c_6 (by decide))
    · clear c_6
      refine wq_s 12 rfl ?_
      refine wq_s 14 rfl ?_
      refine wq_div 15 rfl rfl (by omega) (by omega) (by omega) (by omega) ?_
      refine wq_s 16 rfl ?_
      refine wq_s 18 rfl ?_
      refine wq_div 19 rfl rfl (by omega) (by omega) (by omega) (by omega) ?_
      refine wq_icmp 41 rfl rfl (by omega) (by omega) (fun c_19 => ?_) (fun c_19 => ?_)
      · have c_19 := of_decide_eq_true c_19
        refine wq_s 42 rfl ?_
        refine wq_s 43 rfl ?_
        exact L_43 hw (by omega) 4 0 _ (by omega) (by omega) (fun s hs => absurd hs (Nat.not_lt_zero s))
      · have c_19 := of_decide_eq_false c_19
        refine wq_s 23 rfl ?_
        refine wq_s 24 rfl ?_
        refine wq_s 26 rfl ?_
        refine wq_div 27 rfl rfl (by omega) (by omega) (by omega) (by omega) ?_
        have hx := hX (u / 9) (by omega)
        have hpp := pop9_le (X (u / 9))
        refine wq_iald (v := ((X (u / 9) : Nat) : Int)) 28 rfl rfl hq hT (by omega) (by omega) (by omega) hx.1 ?_
        refine wq_st1 31 rfl rfl (by decide) (Nat.le_of_ble_eq_true rfl) rfl (Nat.le_of_ble_eq_true rfl) (c_X9_bits hx.2) (fun r M1 hr => ?_)
        obtain ⟨rfl, hM1⟩ := hr
        subst M1
        dsimp only [Option.toList, List.cons_append, List.nil_append]
        refine wq_s 32 rfl ?_
        refine wq_icmp 39 rfl rfl (by omega) (by omega) (fun c_32 => ?_) (fun c_32 => ?_)
        · have c_32 := of_decide_eq_true c_32
          refine wq_s 40 rfl ?_
          exact wq_ret rfl (Or.inr ⟨rfl, fun z => (by rcases z.2 with y | y; have := y.2; omega; exact y.1 (by omega)), rfl⟩)
        · have c_32 := of_decide_eq_false c_32
          refine wq_s 36 rfl ?_
          refine wq_s 40 rfl ?_
          exact wq_ret rfl (Or.inl ⟨rfl, ⟨hw, Or.inl ⟨by omega, by omega⟩⟩, rfl⟩)
  · subst M1
    dsimp only [Option.toList, List.cons_append, List.nil_append]
    refine wq_if 11 rfl rfl (by decide) (fun c_6 => absurd c_6 (by decide)) (fun c_6 => ?_)
    · clear c_6
      refine wq_s 10 rfl ?_
      exact wq_ret rfl (Or.inr ⟨rfl, fun z => hw z.1, rfl⟩)
end
section
def hitB (X : Nat → Nat) (p : Int) (n : Nat) (k : Nat) : Bool := decide (X (cellF p k).toNat &&& n ≠ 0)
def cnN (X : Nat → Nat) (p : Int) (n : Nat) : Nat → Nat
  | 0 => 0
  | k + 1 => if hitB X p n k = true then cnN X p n k + 1 else cnN X p n k
theorem cnN_le {X : Nat → Nat} {p : Int} {n : Nat} : ∀ k, cnN X p n k ≤ k := by
  intro k
  induction k with
  | zero => exact Nat.le_refl _
  | succ k ih =>
    unfold cnN
    split <;> omega
def hidC (X : Nat → Nat) (p v m : Int) : Prop := (0 ≤ p ∧ p ≤ 26) ∧ (0 ≤ v ∧ v ≤ 511) ∧ (pop9 v.toNat : Int) = m ∧ (cnN X p v.toNat 9 : Int) = m
def hidG (X : Nat → Nat) (p v : Int) (Y : Int → Int) : Int → Int := gsF p (hitB X p v.toNat) ((andN 511 v.toNat : Nat) : Int) Y 9
theorem c_X9_hiddenN {d : Nat} {G : GT} {M : MT} {o q n : Nat} {X : Nat → Nat} {p m : Int} (hG : RefG G o) (hq : q < G.1) (hT : G.2.2 q = .inl (false, 81)) (hne : q ≠ o + 5) (hX : AtB M q X) (hp : R32 p) (hn : n < 512) (hm0 : R32 m) : Mq (d + 2) k_X9_hidden [vR o, vR q, vI p, vI (n : Int), vI m] G M (fun r M' => (r = some (vI 1) ∧ hidC X p (n : Int) m ∧ M' = rowA M (o + 5) (hidG X p (n : Int) (M (o + 5)))) ∨ (r = some (vI 0) ∧ ¬ hidC X p (n : Int) m ∧ M' = M)) := by
  have L_86 : ∀ (f k : Nat), hidC X p (n : Int) m → 9 - k < f → k ≤ 9 → Wq (d + 2) k_X9_hidden 86 [some (vR o), some (vR q), some (vI p), some (vI (n : Int)), some (vI m), some (vI (cnN X p n 9 : Nat)), some (vI (k : Int))] [] G (rowA M (o + 5) (gsF p (hitB X p n) ((andN 511 n : Nat) : Int) (M (o + 5)) k)) (fun r M' => (r = some (vI 1) ∧ hidC X p (n : Int) m ∧ M' = rowA M (o + 5) (hidG X p (n : Int) (M (o + 5)))) ∨ (r = some (vI 0) ∧ ¬ hidC X p (n : Int) m ∧ M' = M)) := by
    intro f
    induction f with
    | zero => intro k _ h; exact absurd h (by omega)
    | succ f ih =>
      intro k hs hf hk
      obtain ⟨⟨s1, s2⟩, -, -, -⟩ := id hs
      refine wq_s 88 rfl ?_
      refine wq_s 90 rfl ?_
      refine wq_icmp 130 rfl rfl (by omega) (by omega) (fun c_90 => ?_) (fun c_90 => ?_)
      · have c_90 := of_decide_eq_true c_90
        have e9 : k = 9 := by omega
        subst e9
        refine wq_s 131 rfl ?_
        exact wq_ret rfl (Or.inl ⟨rfl, hs, rfl⟩)
      · have c_90 := of_decide_eq_false c_90
        have hcr := cellF_rng (h := p) (k := (k : Int)) (by omega) (by omega) (by omega) (by omega)
        have hx := hX.at hcr.1 hcr.2
        have hxa := and_lt2 (k := 9) (n := n) hx.2
        refine wq_s 94 rfl ?_
        refine wq_s 95 rfl ?_
        refine wq_s 97 rfl ?_
        refine wq_st2 100 rfl rfl (by decide) (Nat.le_of_ble_eq_true rfl) rfl (Nat.le_of_ble_eq_true rfl) (c_X9_cellOf (by omega) (by omega) (by omega) (by omega)) (fun r M1 hr => ?_)
        obtain ⟨rfl, hM1⟩ := hr
        subst M1
        dsimp only [Option.toList, List.cons_append, List.nil_append]
        refine wq_iald 101 rfl rfl hq hT hcr.1 (by omega) (by omega) ((congrFun (rowA_ne hne) _).trans hx.1) ?_
        refine wq_s 102 rfl ?_
        refine wq_and 103 rfl rfl (by omega) ?_
        refine wq_if 124 rfl rfl (by omega) (fun c_103 => ?_) (fun c_103 => ?_)
        · have c_103 := of_decide_eq_true c_103
          rw [← gsF_f (c := hitB X p n) (k := k) (decide_eq_false (by omega))]
          refine wq_inc 127 _ rfl rfl rfl (by omega) rfl ?_
          refine wq_s 86 rfl ?_
          exact ih (k + 1) hs (by omega) (by omega)
        · have c_103 := of_decide_eq_false c_103
          refine wq_s 107 rfl ?_
          refine wq_getR 110 rfl rfl hG.ob hG.2.2.1 rfl ?_
          refine wq_s 111 rfl ?_
          refine wq_s 113 rfl ?_
          refine wq_st2 116 rfl rfl (by decide) (Nat.le_of_ble_eq_true rfl) rfl (Nat.le_of_ble_eq_true rfl) (c_X9_cellOf (by omega) (by omega) (by omega) (by omega)) (fun r M1 hr => ?_)
          obtain ⟨rfl, hM1⟩ := hr
          subst M1
          dsimp only [Option.toList, List.cons_append, List.nil_append]
          refine wq_s 119 rfl ?_
          refine wq_s 120 rfl ?_
          refine wq_s 121 rfl ?_
          refine wq_not 122 rfl rfl (by omega) ?_
          refine wq_andn (m := 511) 123 rfl rfl (by omega) ?_
          refine wq_iast 124 rfl rfl hG.a_gone.1 hG.a_gone.2 (by omega) (by omega) (by omega) ?_
          rw [rowA_up, ← gsF_t (c := hitB X p n) (k := k) (decide_eq_true (by omega))]
          refine wq_inc 127 _ rfl rfl rfl (by omega) rfl ?_
          refine wq_s 86 rfl ?_
          exact ih (k + 1) hs (by omega) (by omega)
  have L_38 : (0 ≤ p ∧ p ≤ 26) → (pop9 n : Int) = m → ∀ (f k : Nat), 9 - k < f → k ≤ 9 → Wq (d + 2) k_X9_hidden 38 [some (vR o), some (vR q), some (vI p), some (vI (n : Int)), some (vI m), some (vI (cnN X p n k : Nat)), some (vI (k : Int))] [] G M (fun r M' => (r = some (vI 1) ∧ hidC X p (n : Int) m ∧ M' = rowA M (o + 5) (hidG X p (n : Int) (M (o + 5)))) ∨ (r = some (vI 0) ∧ ¬ hidC X p (n : Int) m ∧ M' = M)) := by
    intro hp0 hm f
    induction f with
    | zero => intro k h; exact absurd h (by omega)
    | succ f ih =>
      intro k hf hk
      refine wq_s 40 rfl ?_
      refine wq_s 42 rfl ?_
      refine wq_icmp 74 rfl rfl (by omega) (by omega) (fun c_42 => ?_) (fun c_42 => ?_)
      · have c_42 := of_decide_eq_true c_42
        have e9 : k = 9 := by omega
        subst e9
        have hcn := cnN_le (X := X) (p := p) (n := n) 9
        refine wq_s 76 rfl ?_
        refine wq_s 78 rfl ?_
        refine wq_icmp 83 rfl rfl (by omega) (by omega) (fun c_78 => ?_) (fun c_78 => ?_)
        · have c_78 := of_decide_eq_true c_78
          refine wq_s 84 rfl ?_
          refine wq_s 86 rfl ?_
          have hs : hidC X p (n : Int) m := ⟨hp0, ⟨by omega, by omega⟩, hm, c_78⟩
          have h := L_86 10 0 hs (by omega) (by omega)
          rw [show gsF p (hitB X p n) ((andN 511 n : Nat) : Int) (M (o + 5)) 0 = M (o + 5) from rfl, rowA_0] at h
          exact h
        · have c_78 := of_decide_eq_false c_78
          refine wq_s 82 rfl ?_
          exact wq_ret rfl (Or.inr ⟨rfl, fun z => c_78 z.2.2.2, rfl⟩)
      · have c_42 := of_decide_eq_false c_42
        have hcr := cellF_rng (h := p) (k := (k : Int)) (by omega) (by omega) (by omega) (by omega)
        have hx := hX.at hcr.1 hcr.2
        have hxa := and_lt2 (k := 9) (n := n) hx.2
        have hcn := cnN_le (X := X) (p := p) (n := n) k
        refine wq_s 47 rfl ?_
        refine wq_s 48 rfl ?_
        refine wq_s 49 rfl ?_
        refine wq_s 51 rfl ?_
        refine wq_st2 54 rfl rfl (by decide) (Nat.le_of_ble_eq_true rfl) rfl (Nat.le_of_ble_eq_true rfl) (c_X9_cellOf (by omega) (by omega) (by omega) (by omega)) (fun r M1 hr => ?_)
        obtain ⟨rfl, hM1⟩ := hr
        subst M1
        dsimp only [Option.toList, List.cons_append, List.nil_append]
        refine wq_iald 55 rfl rfl hq hT hcr.1 (by omega) (by omega) hx.1 ?_
        refine wq_s 56 rfl ?_
        refine wq_and 57 rfl rfl (by omega) ?_
        refine wq_if 64 rfl rfl (by omega) (fun c_57 => ?_) (fun c_57 => ?_)
        · have c_57 := of_decide_eq_true c_57
          refine wq_s 65 rfl ?_
          refine wq_add 66 rfl rfl (by omega) ?_
          rw [show ((cnN X p n k : Nat) : Int) + 0 = ((cnN X p n (k + 1) : Nat) : Int) from by rw [show cnN X p n (k + 1) = cnN X p n k from if_neg (by rw [show hitB X p n k = false from decide_eq_false (by omega)]; decide)]; omega]
          refine wq_s 68 rfl ?_
          refine wq_inc 71 _ rfl rfl rfl (by omega) rfl ?_
          refine wq_s 38 rfl ?_
          exact ih (k + 1) (by omega) (by omega)
        · have c_57 := of_decide_eq_false c_57
          refine wq_s 61 rfl ?_
          refine wq_s 65 rfl ?_
          refine wq_add 66 rfl rfl (by omega) ?_
          rw [show ((cnN X p n k : Nat) : Int) + 1 = ((cnN X p n (k + 1) : Nat) : Int) from by rw [show cnN X p n (k + 1) = cnN X p n k + 1 from if_pos (show hitB X p n k = true from decide_eq_true (by omega))]; omega]
          refine wq_s 68 rfl ?_
          refine wq_inc 71 _ rfl rfl rfl (by omega) rfl ?_
          refine wq_s 38 rfl ?_
          exact ih (k + 1) (by omega) (by omega)
  refine wq_s 1 rfl ?_
  refine wq_s 2 rfl ?_
  refine wq_s 4 rfl ?_
  refine wq_st3 7 rfl rfl (by decide) (Nat.le_of_ble_eq_true rfl) rfl (Nat.le_of_ble_eq_true rfl) (c_X9_in (by omega) (by omega) (by omega)) (fun r M1 hr => ?_)
  obtain ⟨rfl, hM1⟩ := hr
  subst M1
  dsimp only [Option.toList, List.cons_append, List.nil_append]
  refine wq_if 30 rfl rfl iteR (fun c_7 => ?_) (fun c_7 => ?_)
  · have c_7 := of_decide_eq_true c_7
    have c_7 := ite0.mp c_7
    refine wq_s 31 rfl ?_
    exact wq_ret rfl (Or.inr ⟨rfl, fun z => c_7 z.1, rfl⟩)
  · have c_7 := of_decide_eq_false c_7
    have c_7 := ite1.mp c_7
    refine wq_s 11 rfl ?_
    refine wq_s 12 rfl ?_
    refine wq_s 15 rfl ?_
    refine wq_st3 18 rfl rfl (by decide) (Nat.le_of_ble_eq_true rfl) rfl (Nat.le_of_ble_eq_true rfl) (c_X9_in (by omega) (by omega) (by omega)) (fun r M1 hr => ?_)
    obtain ⟨rfl, hM1⟩ := hr
    subst M1
    dsimp only [Option.toList, List.cons_append, List.nil_append]
    refine wq_if 30 rfl rfl iteR (fun c_18 => ?_) (fun c_18 => ?_)
    · have c_18 := of_decide_eq_true c_18
      have c_18 := ite0.mp c_18
      refine wq_s 31 rfl ?_
      exact wq_ret rfl (Or.inr ⟨rfl, fun z => c_18 z.2.1, rfl⟩)
    · have c_18 := of_decide_eq_false c_18
      have c_18 := ite1.mp c_18
      refine wq_s 22 rfl ?_
      refine wq_st1 25 rfl rfl (by decide) (Nat.le_of_ble_eq_true rfl) rfl (Nat.le_of_ble_eq_true rfl) (c_X9_bits (by omega)) (fun r M1 hr => ?_)
      obtain ⟨rfl, hM1⟩ := hr
      subst M1
      dsimp only [Option.toList, List.cons_append, List.nil_append]
      have hpp := pop9_le n
      refine wq_s 27 rfl ?_
      refine wq_icmp 32 rfl rfl (by omega) (by omega) (fun c_27 => ?_) (fun c_27 => ?_)
      · have c_27 := of_decide_eq_true c_27
        refine wq_s 33 rfl ?_
        refine wq_s 35 rfl ?_
        refine wq_s 36 rfl ?_
        refine wq_s 38 rfl ?_
        exact L_38 c_7 c_27 10 0 (by omega) (by omega)
      · have c_27 := of_decide_eq_false c_27
        refine wq_s 31 rfl ?_
        exact wq_ret rfl (Or.inr ⟨rfl, fun z => c_27 z.2.2.1, rfl⟩)
end
section
theorem wq_tsw {d k pc a b c w len : Nat} {ls : LoA} {st : List AV} {G : GT} {M : MT} {Q : Option AV → MT → Prop} {dflt lo hi u : Int} {offs : Array Int} (tgt : Nat) (off : Int) (hc : cd k pc = some (.tableswitch dflt lo hi offs, len, a, b, c, w)) (hu : R32 u) (ho : (if u < lo ∨ hi < u then some dflt else offs[(u - lo).toNat]?) = some off) (hp : (pc : Int) + off = (tgt : Int)) (h : Wq d k tgt ls st G M Q) : Wq d k pc ls (vI u :: st) G M Q := by
  have hj : jmpA pc off ls st (G.1, G.2.1, G.2.2, M) = some (tgt, ls, st, (G.1, G.2.1, G.2.2, M)) := by
    unfold jmpA
    rw [if_pos (by omega), show ((pc : Int) + off).toNat = tgt by omega]
  refine wq_s tgt (stp_of hc rfl rfl ?_) h
  unfold simpA
  dsimp only
  rw [w32_id hu]
  by_cases hq : u < lo ∨ hi < u
  · rw [if_pos hq] at ho
    cases ho
    rw [if_pos hq]
    exact hj
  · rw [if_neg hq] at ho
    rw [if_neg hq, ho]
    exact hj
def sizeF (r : Int) : Int := if r = 4 ∨ r = 5 ∨ r = 8 then 2 else if r = 6 ∨ r = 7 ∨ r = 11 then 3 else 4
def weightF (r : Int) : Int := tb_W.getD r.toNat 0
theorem c_X9_sizeOf {d : Nat} {G : GT} {M : MT} {r : Int} (h : 4 ≤ r ∧ r ≤ 12) : Mq d k_X9_sizeOf [vI r] G M (fun z M' => z = some (vI (sizeF r)) ∧ M' = M) := by
  rcases (show r = 4 ∨ r = 5 ∨ r = 6 ∨ r = 7 ∨ r = 8 ∨ r = 9 ∨ r = 10 ∨ r = 11 ∨ r = 12 by omega) with rfl | rfl | rfl | rfl | rfl | rfl | rfl | rfl | rfl
  · refine wq_s 1 rfl ?_
    refine wq_tsw 48 47 rfl (by decide) rfl rfl ?_
    refine wq_s 49 rfl ?_
    exact wq_ret rfl ⟨rfl, rfl⟩
  · refine wq_s 1 rfl ?_
    refine wq_tsw 48 47 rfl (by decide) rfl rfl ?_
    refine wq_s 49 rfl ?_
    exact wq_ret rfl ⟨rfl, rfl⟩
  · refine wq_s 1 rfl ?_
    refine wq_tsw 50 49 rfl (by decide) rfl rfl ?_
    refine wq_s 51 rfl ?_
    exact wq_ret rfl ⟨rfl, rfl⟩
  · refine wq_s 1 rfl ?_
    refine wq_tsw 50 49 rfl (by decide) rfl rfl ?_
    refine wq_s 51 rfl ?_
    exact wq_ret rfl ⟨rfl, rfl⟩
  · refine wq_s 1 rfl ?_
    refine wq_tsw 48 47 rfl (by decide) rfl rfl ?_
    refine wq_s 49 rfl ?_
    exact wq_ret rfl ⟨rfl, rfl⟩
  · refine wq_s 1 rfl ?_
    refine wq_tsw 52 51 rfl (by decide) rfl rfl ?_
    refine wq_s 53 rfl ?_
    exact wq_ret rfl ⟨rfl, rfl⟩
  · refine wq_s 1 rfl ?_
    refine wq_tsw 52 51 rfl (by decide) rfl rfl ?_
    refine wq_s 53 rfl ?_
    exact wq_ret rfl ⟨rfl, rfl⟩
  · refine wq_s 1 rfl ?_
    refine wq_tsw 50 49 rfl (by decide) rfl rfl ?_
    refine wq_s 51 rfl ?_
    exact wq_ret rfl ⟨rfl, rfl⟩
  · refine wq_s 1 rfl ?_
    refine wq_tsw 52 51 rfl (by decide) rfl rfl ?_
    refine wq_s 53 rfl ?_
    exact wq_ret rfl ⟨rfl, rfl⟩
theorem c_X9_weight {d : Nat} {G : GT} {M : MT} {r : Int} (h : 0 ≤ r ∧ r ≤ 13) : Mq d k_X9_weight [vI r] G M (fun z M' => z = some (vI (weightF r)) ∧ M' = M) := by
  rcases (show r = 0 ∨ r = 1 ∨ r = 2 ∨ r = 3 ∨ r = 4 ∨ r = 5 ∨ r = 6 ∨ r = 7 ∨ r = 8 ∨ r = 9 ∨ r = 10 ∨ r = 11 ∨ r = 12 ∨ r = 13 by omega) with rfl | rfl | rfl | rfl | rfl | rfl | rfl | rfl | rfl | rfl | rfl | rfl | rfl | rfl
  · refine wq_s 1 rfl ?_
    refine wq_tsw 68 67 rfl (by decide) rfl rfl ?_
    refine wq_s 69 rfl ?_
    exact wq_ret rfl ⟨rfl, rfl⟩
  · refine wq_s 1 rfl ?_
    refine wq_tsw 70 69 rfl (by decide) rfl rfl ?_
    refine wq_s 71 rfl ?_
    exact wq_ret rfl ⟨rfl, rfl⟩
  · refine wq_s 1 rfl ?_
    refine wq_tsw 72 71 rfl (by decide) rfl rfl ?_
    refine wq_s 73 rfl ?_
    exact wq_ret rfl ⟨rfl, rfl⟩
  · refine wq_s 1 rfl ?_
    refine wq_tsw 74 73 rfl (by decide) rfl rfl ?_
    refine wq_s 75 rfl ?_
    exact wq_ret rfl ⟨rfl, rfl⟩
  · refine wq_s 1 rfl ?_
    refine wq_tsw 76 75 rfl (by decide) rfl rfl ?_
    refine wq_s 78 rfl ?_
    exact wq_ret rfl ⟨rfl, rfl⟩
  · refine wq_s 1 rfl ?_
    refine wq_tsw 79 78 rfl (by decide) rfl rfl ?_
    refine wq_s 81 rfl ?_
    exact wq_ret rfl ⟨rfl, rfl⟩
  · refine wq_s 1 rfl ?_
    refine wq_tsw 82 81 rfl (by decide) rfl rfl ?_
    refine wq_s 84 rfl ?_
    exact wq_ret rfl ⟨rfl, rfl⟩
  · refine wq_s 1 rfl ?_
    refine wq_tsw 85 84 rfl (by decide) rfl rfl ?_
    refine wq_s 87 rfl ?_
    exact wq_ret rfl ⟨rfl, rfl⟩
  · refine wq_s 1 rfl ?_
    refine wq_tsw 88 87 rfl (by decide) rfl rfl ?_
    refine wq_s 90 rfl ?_
    exact wq_ret rfl ⟨rfl, rfl⟩
  · refine wq_s 1 rfl ?_
    refine wq_tsw 91 90 rfl (by decide) rfl rfl ?_
    refine wq_s 93 rfl ?_
    exact wq_ret rfl ⟨rfl, rfl⟩
  · refine wq_s 1 rfl ?_
    refine wq_tsw 94 93 rfl (by decide) rfl rfl ?_
    refine wq_s 96 rfl ?_
    exact wq_ret rfl ⟨rfl, rfl⟩
  · refine wq_s 1 rfl ?_
    refine wq_tsw 97 96 rfl (by decide) rfl rfl ?_
    refine wq_s 99 rfl ?_
    exact wq_ret rfl ⟨rfl, rfl⟩
  · refine wq_s 1 rfl ?_
    refine wq_tsw 100 99 rfl (by decide) rfl rfl ?_
    refine wq_s 102 rfl ?_
    exact wq_ret rfl ⟨rfl, rfl⟩
  · refine wq_s 1 rfl ?_
    refine wq_tsw 103 102 rfl (by decide) rfl rfl ?_
    refine wq_s 105 rfl ?_
    exact wq_ret rfl ⟨rfl, rfl⟩
end
section
def thN (pl : Nat) : Nat → Int
  | 0 => -1
  | k + 1 => if pl ≠ 0 ∧ andN pl (7 * 2 ^ (3 * k)) = 0 then (k : Int) else thN pl k
theorem thN_rng (pl : Nat) : ∀ k, -1 ≤ thN pl k ∧ thN pl k < k ∨ (k = 0 ∧ thN pl k = -1) := by
  intro k
  induction k with
  | zero => exact Or.inr ⟨rfl, rfl⟩
  | succ k ih =>
    refine Or.inl ?_
    unfold thN
    split
    · omega
    · omega
def outB (b p : Int) (k : Nat) : Bool := decide (isInF (cellF b k) p = 0)
theorem isInF_01 (c h : Int) : isInF c h = 0 ∨ isInF c h = 1 := by
  unfold isInF
  split
  · exact Or.inr rfl
  · exact Or.inl rfl
def clmT (X : Nat → Nat) (p v : Int) : Int := thN (plN X p (v - 1).toNat 9) 3
def clmB (X : Nat → Nat) (p v : Int) : Int := houseF (cellF p (3 * clmT X p v)) 2
def clmC (X : Nat → Nat) (p v : Int) : Prop := (0 ≤ p ∧ p ≤ 17) ∧ (1 ≤ v ∧ v ≤ 9) ∧ 0 ≤ clmT X p v
def clmG (X : Nat → Nat) (p v : Int) (Y : Int → Int) : Int → Int := gsF (clmB X p v) (outB (clmB X p v) p) ((2 ^ (v - 1).toNat : Nat) : Int) Y 9
theorem c_X9_claiming {d : Nat} {G : GT} {M : MT} {o q : Nat} {X : Nat → Nat} {p v : Int} (hG : RefG G o) (hq : q < G.1) (hT : G.2.2 q = .inl (false, 81)) (hX : AtB M q X) (hp : R32 p) (hv : R32 v) : Mq (d + 2) k_X9_claiming [vR o, vR q, vI p, vI v] G M (fun r M' => (r = some (vI 1) ∧ clmC X p v ∧ M' = rowA M (o + 5) (clmG X p v (M (o + 5)))) ∨ (r = some (vI 0) ∧ ¬ clmC X p v ∧ M' = M)) := by
  have hpl := plN_lt X p (v - 1).toNat 9
  have L_96 : ∀ (f k : Nat), clmC X p v → 9 - k < f → k ≤ 9 → Wq (d + 2) k_X9_claiming 96 [some (vR o), some (vR q), some (vI p), some (vI v), some (vI (plN X p (v - 1).toNat 9 : Nat)), some (vI (clmT X p v)), some (vI (clmB X p v)), some (vI (k : Int))] [] G (rowA M (o + 5) (gsF (clmB X p v) (outB (clmB X p v) p) ((2 ^ (v - 1).toNat : Nat) : Int) (M (o + 5)) k)) (fun r M' => (r = some (vI 1) ∧ clmC X p v ∧ M' = rowA M (o + 5) (clmG X p v (M (o + 5)))) ∨ (r = some (vI 0) ∧ ¬ clmC X p v ∧ M' = M)) := by
    intro f
    induction f with
    | zero => intro k _ h; exact absurd h (by omega)
    | succ f ih =>
      intro k hs hf hk
      obtain ⟨⟨s1, s2⟩, ⟨s3, s4⟩, s5⟩ := id hs
      have htr : clmT X p v < 3 := by
        have h9 := thN_rng (plN X p (v - 1).toNat 9) 3
        unfold clmT
        omega
      have hcc := cellF_rng (h := p) (k := 3 * clmT X p v) (by omega) (by omega) (by omega) (by omega)
      have hB : 0 ≤ clmB X p v ∧ clmB X p v < 27 := houseF_rng (c := cellF p (3 * clmT X p v)) (s := 2) hcc.1 hcc.2
      have hpw : 2 ^ (v - 1).toNat ≤ 2 ^ 8 := Nat.pow_le_pow_right (by decide) (by omega)
      refine wq_s 98 rfl ?_
      refine wq_s 100 rfl ?_
      refine wq_icmp 140 rfl rfl (by omega) (by omega) (fun c_100 => ?_) (fun c_100 => ?_)
      · have c_100 := of_decide_eq_true c_100
        have e9 : k = 9 := by omega
        subst e9
        refine wq_s 141 rfl ?_
        exact wq_ret rfl (Or.inl ⟨rfl, hs, rfl⟩)
      · have c_100 := of_decide_eq_false c_100
        have hcr := cellF_rng (h := clmB X p v) (k := (k : Int)) hB.1 hB.2 (by omega) (by omega)
        have hin := isInF_01 (cellF (clmB X p v) k) p
        refine wq_s 105 rfl ?_
        refine wq_s 107 rfl ?_
        refine wq_st2 110 rfl rfl (by decide) (Nat.le_of_ble_eq_true rfl) rfl (Nat.le_of_ble_eq_true rfl) (c_X9_cellOf hB.1 hB.2 (by omega) (by omega)) (fun r M1 hr => ?_)
        obtain ⟨rfl, hM1⟩ := hr
        subst M1
        dsimp only [Option.toList, List.cons_append, List.nil_append]
        refine wq_s 111 rfl ?_
        refine wq_st2 114 rfl rfl (by decide) (Nat.le_of_ble_eq_true rfl) rfl (Nat.le_of_ble_eq_true rfl) (c_X9_isIn hcr.1 hcr.2 (by omega) (by omega)) (fun r M1 hr => ?_)
        obtain ⟨rfl, hM1⟩ := hr
        subst M1
        dsimp only [Option.toList, List.cons_append, List.nil_append]
        refine wq_if 134 rfl rfl (by omega) (fun c_114 => ?_) (fun c_114 => ?_)
        · have c_114 := of_decide_eq_true c_114
          rw [← gsF_f (c := outB (clmB X p v) p) (k := k) (decide_eq_false c_114)]
          refine wq_inc 137 _ rfl rfl rfl (by omega) rfl ?_
          refine wq_s 96 rfl ?_
          exact ih (k + 1) hs (by omega) (by omega)
        · have c_114 := of_decide_eq_false c_114
          refine wq_s 118 rfl ?_
          refine wq_getR 121 rfl rfl hG.ob hG.2.2.1 rfl ?_
          refine wq_s 123 rfl ?_
          refine wq_s 125 rfl ?_
          refine wq_st2 128 rfl rfl (by decide) (Nat.le_of_ble_eq_true rfl) rfl (Nat.le_of_ble_eq_true rfl) (c_X9_cellOf hB.1 hB.2 (by omega) (by omega)) (fun r M1 hr => ?_)
          obtain ⟨rfl, hM1⟩ := hr
          subst M1
          dsimp only [Option.toList, List.cons_append, List.nil_append]
          refine wq_s 129 rfl ?_
          refine wq_s 130 rfl ?_
          refine wq_s 131 rfl ?_
          refine wq_sub 132 rfl rfl (by omega) ?_
          rw [show v - 1 = (((v - 1).toNat : Nat) : Int) by omega]
          refine wq_shl (m := 1) 133 rfl rfl (by omega) (by omega) ?_
          refine wq_iast 134 rfl rfl hG.a_gone.1 hG.a_gone.2 hcr.1 (by omega) (by omega) ?_
          rw [rowA_up, Nat.one_mul, Int.toNat_natCast, ← gsF_t (c := outB (clmB X p v) p) (k := k) (decide_eq_true (by omega))]
          refine wq_inc 137 _ rfl rfl rfl (by omega) rfl ?_
          refine wq_s 96 rfl ?_
          exact ih (k + 1) hs (by omega) (by omega)
  have L_36 : (0 ≤ p ∧ p ≤ 17) → (1 ≤ v ∧ v ≤ 9) → ∀ (f k : Nat), 3 - k < f → k ≤ 3 → Wq (d + 2) k_X9_claiming 36 [some (vR o), some (vR q), some (vI p), some (vI v), some (vI (plN X p (v - 1).toNat 9 : Nat)), some (vI (thN (plN X p (v - 1).toNat 9) k)), some (vI (k : Int)), none] [] G M (fun r M' => (r = some (vI 1) ∧ clmC X p v ∧ M' = rowA M (o + 5) (clmG X p v (M (o + 5)))) ∨ (r = some (vI 0) ∧ ¬ clmC X p v ∧ M' = M)) := by
    intro hp0 hv0 f
    induction f with
    | zero => intro k h; exact absurd h (by omega)
    | succ f ih =>
      intro k hf hk
      refine wq_s 38 rfl ?_
      refine wq_s 39 rfl ?_
      refine wq_icmp 72 rfl rfl (by omega) (by omega) (fun c_39 => ?_) (fun c_39 => ?_)
      · have c_39 := of_decide_eq_true c_39
        have e9 : k = 3 := by omega
        subst e9
        have htr := thN_rng (plN X p (v - 1).toNat 9) 3
        refine wq_s 74 rfl ?_
        refine wq_if 79 rfl rfl (by omega) (fun c_74 => ?_) (fun c_74 => ?_)
        · have c_74 := of_decide_eq_true c_74
          refine wq_s 80 rfl ?_
          refine wq_s 81 rfl ?_
          refine wq_s 83 rfl ?_
          refine wq_mul 84 rfl rfl (by omega) ?_
          have hcc := cellF_rng (h := p) (k := 3 * thN (plN X p (v - 1).toNat 9) 3) hp0.1 (by omega) (by omega) (by omega)
          refine wq_st2 87 rfl rfl (by decide) (Nat.le_of_ble_eq_true rfl) rfl (Nat.le_of_ble_eq_true rfl) (c_X9_cellOf hp0.1 (by omega) (by omega) (by omega)) (fun r M1 hr => ?_)
          obtain ⟨rfl, hM1⟩ := hr
          subst M1
          dsimp only [Option.toList, List.cons_append, List.nil_append]
          refine wq_s 88 rfl ?_
          refine wq_st2 91 rfl rfl (by decide) (Nat.le_of_ble_eq_true rfl) rfl (Nat.le_of_ble_eq_true rfl) (c_X9_houseOf hcc.1 hcc.2 (by decide)) (fun r M1 hr => ?_)
          obtain ⟨rfl, hM1⟩ := hr
          subst M1
          dsimp only [Option.toList, List.cons_append, List.nil_append]
          refine wq_s 93 rfl ?_
          refine wq_s 94 rfl ?_
          refine wq_s 96 rfl ?_
          have hs : clmC X p v := ⟨hp0, hv0, c_74⟩
          have h := L_96 10 0 hs (by omega) (by omega)
          rw [show gsF (clmB X p v) (outB (clmB X p v) p) ((2 ^ (v - 1).toNat : Nat) : Int) (M (o + 5)) 0 = M (o + 5) from rfl, rowA_0] at h
          exact h
        · have c_74 := of_decide_eq_false c_74
          refine wq_s 78 rfl ?_
          exact wq_ret rfl (Or.inr ⟨rfl, fun z => (by have := z.2.2; unfold clmT at this; omega), rfl⟩)
      · have c_39 := of_decide_eq_false c_39
        have hpw : 2 ^ (3 * k) ≤ 2 ^ 6 := Nat.pow_le_pow_right (by decide) (by omega)
        have hal := andN_lt (n := 7 * 2 ^ (3 * k)) hpl
        refine wq_s 44 rfl ?_
        refine wq_if 66 rfl rfl (by omega) (fun c_44 => ?_) (fun c_44 => ?_)
        · have c_44 := of_decide_eq_true c_44
          rw [← show thN (plN X p (v - 1).toNat 9) (k + 1) = thN (plN X p (v - 1).toNat 9) k from if_neg (fun z => z.1 (by omega))]
          refine wq_inc 69 _ rfl rfl rfl (by omega) rfl ?_
          refine wq_s 36 rfl ?_
          exact ih (k + 1) (by omega) (by omega)
        · have c_44 := of_decide_eq_false c_44
          refine wq_s 49 rfl ?_
          refine wq_s 51 rfl ?_
          refine wq_s 52 rfl ?_
          refine wq_s 54 rfl ?_
          refine wq_mul 55 rfl rfl (by omega) ?_
          rw [show (3 : Int) * (k : Int) = ((3 * k : Nat) : Int) by omega]
          refine wq_shl (m := 7) 56 rfl rfl (by omega) (by omega) ?_
          refine wq_s 57 rfl ?_
          refine wq_not 58 rfl rfl (by omega) ?_
          refine wq_andn 59 rfl rfl (by omega) ?_
          refine wq_if 66 rfl rfl (by omega) (fun c_59 => ?_) (fun c_59 => ?_)
          · have c_59 := of_decide_eq_true c_59
            rw [← show thN (plN X p (v - 1).toNat 9) (k + 1) = thN (plN X p (v - 1).toNat 9) k from if_neg (fun z => c_59 (by rw [z.2]; rfl))]
            refine wq_inc 69 _ rfl rfl rfl (by omega) rfl ?_
            refine wq_s 36 rfl ?_
            exact ih (k + 1) (by omega) (by omega)
          · have c_59 := of_decide_eq_false c_59
            have e59 : thN (plN X p (v - 1).toNat 9) (k + 1) = (k : Int) := if_pos ⟨by omega, by omega⟩
            refine wq_s 64 rfl ?_
            refine wq_s 66 rfl ?_
            refine wq_inc 69 _ rfl rfl rfl (by omega) rfl ?_
            refine wq_s 36 rfl ?_
            have h9 := ih (k + 1) (by omega) (by omega)
            rw [e59] at h9
            exact h9
  refine wq_s 1 rfl ?_
  refine wq_s 2 rfl ?_
  refine wq_s 4 rfl ?_
  refine wq_st3 7 rfl rfl (by decide) (Nat.le_of_ble_eq_true rfl) rfl (Nat.le_of_ble_eq_true rfl) (c_X9_in (by omega) (by omega) (by omega)) (fun r M1 hr => ?_)
  obtain ⟨rfl, hM1⟩ := hr
  subst M1
  dsimp only [Option.toList, List.cons_append, List.nil_append]
  refine wq_if 20 rfl rfl iteR (fun c_7 => ?_) (fun c_7 => ?_)
  · have c_7 := of_decide_eq_true c_7
    have c_7 := ite0.mp c_7
    refine wq_s 21 rfl ?_
    exact wq_ret rfl (Or.inr ⟨rfl, fun z => c_7 z.1, rfl⟩)
  · have c_7 := of_decide_eq_false c_7
    have c_7 := ite1.mp c_7
    refine wq_s 11 rfl ?_
    refine wq_s 12 rfl ?_
    refine wq_s 14 rfl ?_
    refine wq_st3 17 rfl rfl (by decide) (Nat.le_of_ble_eq_true rfl) rfl (Nat.le_of_ble_eq_true rfl) (c_X9_in (by omega) (by omega) (by omega)) (fun r M1 hr => ?_)
    obtain ⟨rfl, hM1⟩ := hr
    subst M1
    dsimp only [Option.toList, List.cons_append, List.nil_append]
    refine wq_if 22 rfl rfl iteR (fun c_17 => ?_) (fun c_17 => ?_)
    · have c_17 := of_decide_eq_true c_17
      have c_17 := ite1.mp c_17
      refine wq_s 23 rfl ?_
      refine wq_s 24 rfl ?_
      refine wq_s 25 rfl ?_
      have hcp := c_X9_placesOf (d := d) (M := M) (h := p) (e := (v - 1).toNat) (by omega) (by omega) (by omega) hq hT hX
      rw [show (((v - 1).toNat : Nat) : Int) + 1 = v by omega] at hcp
      refine wq_st3 28 rfl rfl (by decide) (Nat.le_of_ble_eq_true rfl) rfl (Nat.le_of_ble_eq_true rfl) hcp (fun r M1 hr => ?_)
      obtain ⟨rfl, hM1⟩ := hr
      subst M1
      dsimp only [Option.toList, List.cons_append, List.nil_append]
      refine wq_s 30 rfl ?_
      refine wq_s 31 rfl ?_
      refine wq_s 33 rfl ?_
      refine wq_s 34 rfl ?_
      refine wq_s 36 rfl ?_
      exact L_36 c_7 c_17 4 0 (by omega) (by omega)
    · have c_17 := of_decide_eq_false c_17
      have c_17 := iteN.mp c_17
      refine wq_s 21 rfl ?_
      exact wq_ret rfl (Or.inr ⟨rfl, fun z => c_17 z.2.1, rfl⟩)
end
section
def lnC (pl : Nat) (p : Int) : Nat → Int
  | 0 => -1
  | j + 1 => if andN pl (73 * 2 ^ (2 - j)) = 0 then houseF (cellF p (2 - (j : Int))) 1 else lnC pl p j
def lnR (pl : Nat) (p : Int) : Nat → Int
  | 0 => lnC pl p 3
  | j + 1 => if andN pl (7 * 2 ^ (3 * (2 - j))) = 0 then houseF (cellF p (3 * (2 - (j : Int)))) 0 else lnR pl p j
theorem lnC_rng {pl : Nat} {p : Int} (h0 : 0 ≤ p) (h1 : p < 27) : ∀ j, j ≤ 3 → -1 ≤ lnC pl p j ∧ lnC pl p j < 27 := by
  intro j
  induction j with
  | zero => intro _; exact ⟨Int.le_refl _, show (-1 : Int) < 27 by decide⟩
  | succ j ih =>
    intro hj
    have h2 := cellF_rng (h := p) (k := 2 - (j : Int)) h0 h1 (by omega) (by omega)
    have h3 := houseF_rng (c := cellF p (2 - (j : Int))) (s := 1) h2.1 h2.2
    have h4 := ih (by omega)
    unfold lnC
    split
    · omega
    · exact h4
theorem lnR_rng {pl : Nat} {p : Int} (h0 : 0 ≤ p) (h1 : p < 27) : ∀ j, j ≤ 3 → -1 ≤ lnR pl p j ∧ lnR pl p j < 27 := by
  intro j
  induction j with
  | zero => intro _; exact lnC_rng h0 h1 3 (Nat.le_refl _)
  | succ j ih =>
    intro hj
    have h2 := cellF_rng (h := p) (k := 3 * (2 - (j : Int))) h0 h1 (by omega) (by omega)
    have h3 := houseF_rng (c := cellF p (3 * (2 - (j : Int)))) (s := 0) h2.1 h2.2
    have h4 := ih (by omega)
    unfold lnR
    split
    · omega
    · exact h4
def ptL (X : Nat → Nat) (p v : Int) : Int := lnR (plN X p (v - 1).toNat 9) p 3
def ptC (X : Nat → Nat) (p v : Int) : Prop := (18 ≤ p ∧ p ≤ 26) ∧ (1 ≤ v ∧ v ≤ 9) ∧ plN X p (v - 1).toNat 9 ≠ 0 ∧ 0 ≤ ptL X p v
def ptG (X : Nat → Nat) (p v : Int) (Y : Int → Int) : Int → Int := gsF (ptL X p v) (outB (ptL X p v) p) ((2 ^ (v - 1).toNat : Nat) : Int) Y 9
theorem c_X9_pointing {d : Nat} {G : GT} {M : MT} {o q : Nat} {X : Nat → Nat} {p v : Int} (hG : RefG G o) (hq : q < G.1) (hT : G.2.2 q = .inl (false, 81)) (hX : AtB M q X) (hp : R32 p) (hv : R32 v) : Mq (d + 2) k_X9_pointing [vR o, vR q, vI p, vI v] G M (fun r M' => (r = some (vI 1) ∧ ptC X p v ∧ M' = rowA M (o + 5) (ptG X p v (M (o + 5)))) ∨ (r = some (vI 0) ∧ ¬ ptC X p v ∧ M' = M)) := by
  have hpl := plN_lt X p (v - 1).toNat 9
  have L_133 : ∀ (f k : Nat), ptC X p v → 9 - k < f → k ≤ 9 → Wq (d + 2) k_X9_pointing 133 [some (vR o), some (vR q), some (vI p), some (vI v), some (vI (plN X p (v - 1).toNat 9 : Nat)), some (vI (ptL X p v)), some (vI (k : Int))] [] G (rowA M (o + 5) (gsF (ptL X p v) (outB (ptL X p v) p) ((2 ^ (v - 1).toNat : Nat) : Int) (M (o + 5)) k)) (fun r M' => (r = some (vI 1) ∧ ptC X p v ∧ M' = rowA M (o + 5) (ptG X p v (M (o + 5)))) ∨ (r = some (vI 0) ∧ ¬ ptC X p v ∧ M' = M)) := by
    intro f
    induction f with
    | zero => intro k _ h; exact absurd h (by omega)
    | succ f ih =>
      intro k hs hf hk
      obtain ⟨⟨s1, s2⟩, ⟨s3, s4⟩, s5, s6⟩ := id hs
      have hB : -1 ≤ ptL X p v ∧ ptL X p v < 27 := lnR_rng (by omega) (by omega) 3 (Nat.le_refl _)
      have hpw : 2 ^ (v - 1).toNat ≤ 2 ^ 8 := Nat.pow_le_pow_right (by decide) (by omega)
      refine wq_s 135 rfl ?_
      refine wq_s 137 rfl ?_
      refine wq_icmp 177 rfl rfl (by omega) (by omega) (fun c_137 => ?_) (fun c_137 => ?_)
      · have c_137 := of_decide_eq_true c_137
        have e9 : k = 9 := by omega
        subst e9
        refine wq_s 178 rfl ?_
        exact wq_ret rfl (Or.inl ⟨rfl, hs, rfl⟩)
      · have c_137 := of_decide_eq_false c_137
        have hcr := cellF_rng (h := ptL X p v) (k := (k : Int)) s6 hB.2 (by omega) (by omega)
        have hin := isInF_01 (cellF (ptL X p v) k) p
        refine wq_s 142 rfl ?_
        refine wq_s 144 rfl ?_
        refine wq_st2 147 rfl rfl (by decide) (Nat.le_of_ble_eq_true rfl) rfl (Nat.le_of_ble_eq_true rfl) (c_X9_cellOf s6 hB.2 (by omega) (by omega)) (fun r M1 hr => ?_)
        obtain ⟨rfl, hM1⟩ := hr
        subst M1
        dsimp only [Option.toList, List.cons_append, List.nil_append]
        refine wq_s 148 rfl ?_
        refine wq_st2 151 rfl rfl (by decide) (Nat.le_of_ble_eq_true rfl) rfl (Nat.le_of_ble_eq_true rfl) (c_X9_isIn hcr.1 hcr.2 (by omega) (by omega)) (fun r M1 hr => ?_)
        obtain ⟨rfl, hM1⟩ := hr
        subst M1
        dsimp only [Option.toList, List.cons_append, List.nil_append]
        refine wq_if 171 rfl rfl (by omega) (fun c_151 => ?_) (fun c_151 => ?_)
        · have c_151 := of_decide_eq_true c_151
          rw [← gsF_f (c := outB (ptL X p v) p) (k := k) (decide_eq_false c_151)]
          refine wq_inc 174 _ rfl rfl rfl (by omega) rfl ?_
          refine wq_s 133 rfl ?_
          exact ih (k + 1) hs (by omega) (by omega)
        · have c_151 := of_decide_eq_false c_151
          refine wq_s 155 rfl ?_
          refine wq_getR 158 rfl rfl hG.ob hG.2.2.1 rfl ?_
          refine wq_s 160 rfl ?_
          refine wq_s 162 rfl ?_
          refine wq_st2 165 rfl rfl (by decide) (Nat.le_of_ble_eq_true rfl) rfl (Nat.le_of_ble_eq_true rfl) (c_X9_cellOf s6 hB.2 (by omega) (by omega)) (fun r M1 hr => ?_)
          obtain ⟨rfl, hM1⟩ := hr
          subst M1
          dsimp only [Option.toList, List.cons_append, List.nil_append]
          refine wq_s 166 rfl ?_
          refine wq_s 167 rfl ?_
          refine wq_s 168 rfl ?_
          refine wq_sub 169 rfl rfl (by omega) ?_
          rw [show v - 1 = (((v - 1).toNat : Nat) : Int) by omega]
          refine wq_shl (m := 1) 170 rfl rfl (by omega) (by omega) ?_
          refine wq_iast 171 rfl rfl hG.a_gone.1 hG.a_gone.2 hcr.1 (by omega) (by omega) ?_
          rw [rowA_up, Nat.one_mul, Int.toNat_natCast, ← gsF_t (c := outB (ptL X p v) p) (k := k) (decide_eq_true (by omega))]
          refine wq_inc 174 _ rfl rfl rfl (by omega) rfl ?_
          refine wq_s 133 rfl ?_
          exact ih (k + 1) hs (by omega) (by omega)
  have L_83 : (18 ≤ p ∧ p ≤ 26) → (1 ≤ v ∧ v ≤ 9) → plN X p (v - 1).toNat 9 ≠ 0 → ∀ (f j : Nat), 3 - j < f → j ≤ 3 → Wq (d + 2) k_X9_pointing 83 [some (vR o), some (vR q), some (vI p), some (vI v), some (vI (plN X p (v - 1).toNat 9 : Nat)), some (vI (lnR (plN X p (v - 1).toNat 9) p j)), some (vI (2 - (j : Int)))] [] G M (fun r M' => (r = some (vI 1) ∧ ptC X p v ∧ M' = rowA M (o + 5) (ptG X p v (M (o + 5)))) ∨ (r = some (vI 0) ∧ ¬ ptC X p v ∧ M' = M)) := by
    intro hp0 hv0 hpn f
    induction f with
    | zero => intro j h; exact absurd h (by omega)
    | succ f ih =>
      intro j hf hj
      refine wq_s 85 rfl ?_
      refine wq_if 123 rfl rfl (by omega) (fun c_85 => ?_) (fun c_85 => ?_)
      · have c_85 := of_decide_eq_true c_85
        have e9 : j = 3 := by omega
        subst e9
        have hB := lnR_rng (pl := (plN X p (v - 1).toNat 9)) (p := p) (by omega) (by omega) 3 (Nat.le_refl _)
        refine wq_s 125 rfl ?_
        refine wq_if 130 rfl rfl (by omega) (fun c_125 => ?_) (fun c_125 => ?_)
        · have c_125 := of_decide_eq_true c_125
          refine wq_s 131 rfl ?_
          refine wq_s 133 rfl ?_
          have hs : ptC X p v := ⟨hp0, hv0, hpn, c_125⟩
          have h := L_133 10 0 hs (by omega) (by omega)
          rw [show gsF (ptL X p v) (outB (ptL X p v) p) ((2 ^ (v - 1).toNat : Nat) : Int) (M (o + 5)) 0 = M (o + 5) from rfl, rowA_0] at h
          exact h
        · have c_125 := of_decide_eq_false c_125
          refine wq_s 129 rfl ?_
          exact wq_ret rfl (Or.inr ⟨rfl, fun z => (by have := z.2.2.2; unfold ptL at this; omega), rfl⟩)
      · have c_85 := of_decide_eq_false c_85
        have hcc := cellF_rng (h := p) (k := 3 * (2 - (j : Int))) (by omega) (by omega) (by omega) (by omega)
        have hpw : 2 ^ (3 * (2 - j)) ≤ 2 ^ 6 := Nat.pow_le_pow_right (by decide) (by omega)
        have hal := andN_lt (n := 7 * 2 ^ (3 * (2 - j))) hpl
        refine wq_s 90 rfl ?_
        refine wq_s 92 rfl ?_
        refine wq_s 93 rfl ?_
        refine wq_s 95 rfl ?_
        refine wq_mul 96 rfl rfl (by omega) ?_
        rw [show 3 * (2 - (j : Int)) = (((3 * (2 - j)) : Nat) : Int) by omega]
        refine wq_shl (m := 7) 97 rfl rfl (by omega) (by omega) ?_
        refine wq_s 98 rfl ?_
        refine wq_not 99 rfl rfl (by omega) ?_
        refine wq_andn 100 rfl rfl (by omega) ?_
        refine wq_if 117 rfl rfl (by omega) (fun c_100 => ?_) (fun c_100 => ?_)
        · have c_100 := of_decide_eq_true c_100
          rw [← show lnR (plN X p (v - 1).toNat 9) p (j + 1) = lnR (plN X p (v - 1).toNat 9) p j from if_neg (fun z => c_100 (by rw [z]; rfl))]
          refine wq_inc 120 _ rfl rfl rfl (by omega) rfl ?_
          refine wq_s 83 rfl ?_
          have h9 := ih (j + 1) (by omega) (by omega)
          rw [show (2 : Int) - ((j + 1 : Nat) : Int) = 2 - (j : Int) + -1 by omega] at h9
          exact h9
        · have c_100 := of_decide_eq_false c_100
          have e59 : lnR (plN X p (v - 1).toNat 9) p (j + 1) = houseF (cellF p (3 * (2 - (j : Int)))) 0 := if_pos (by omega)
          refine wq_s 104 rfl ?_
          refine wq_s 105 rfl ?_
          refine wq_s 107 rfl ?_
          refine wq_mul 108 rfl rfl (by omega) ?_
          refine wq_st2 111 rfl rfl (by decide) (Nat.le_of_ble_eq_true rfl) rfl (Nat.le_of_ble_eq_true rfl) (c_X9_cellOf (by omega) (by omega) (by omega) (by omega)) (fun r M1 hr => ?_)
          obtain ⟨rfl, hM1⟩ := hr
          subst M1
          dsimp only [Option.toList, List.cons_append, List.nil_append]
          refine wq_s 112 rfl ?_
          refine wq_st2 115 rfl rfl (by decide) (Nat.le_of_ble_eq_true rfl) rfl (Nat.le_of_ble_eq_true rfl) (c_X9_houseOf hcc.1 hcc.2 (by decide)) (fun r M1 hr => ?_)
          obtain ⟨rfl, hM1⟩ := hr
          subst M1
          dsimp only [Option.toList, List.cons_append, List.nil_append]
          refine wq_s 117 rfl ?_
          refine wq_inc 120 _ rfl rfl rfl (by omega) rfl ?_
          refine wq_s 83 rfl ?_
          have h9 := ih (j + 1) (by omega) (by omega)
          rw [show (2 : Int) - ((j + 1 : Nat) : Int) = 2 - (j : Int) + -1 by omega, e59] at h9
          exact h9
  have L_44 : (18 ≤ p ∧ p ≤ 26) → (1 ≤ v ∧ v ≤ 9) → plN X p (v - 1).toNat 9 ≠ 0 → ∀ (f j : Nat), 3 - j < f → j ≤ 3 → Wq (d + 2) k_X9_pointing 44 [some (vR o), some (vR q), some (vI p), some (vI v), some (vI (plN X p (v - 1).toNat 9 : Nat)), some (vI (lnC (plN X p (v - 1).toNat 9) p j)), some (vI (2 - (j : Int)))] [] G M (fun r M' => (r = some (vI 1) ∧ ptC X p v ∧ M' = rowA M (o + 5) (ptG X p v (M (o + 5)))) ∨ (r = some (vI 0) ∧ ¬ ptC X p v ∧ M' = M)) := by
    intro hp0 hv0 hpn f
    induction f with
    | zero => intro j h; exact absurd h (by omega)
    | succ f ih =>
      intro j hf hj
      refine wq_s 46 rfl ?_
      refine wq_if 80 rfl rfl (by omega) (fun c_46 => ?_) (fun c_46 => ?_)
      · have c_46 := of_decide_eq_true c_46
        have e9 : j = 3 := by omega
        subst e9
        refine wq_s 81 rfl ?_
        refine wq_s 83 rfl ?_
        exact L_83 hp0 hv0 hpn 4 0 (by omega) (by omega)
      · have c_46 := of_decide_eq_false c_46
        have hcc := cellF_rng (h := p) (k := 2 - (j : Int)) (by omega) (by omega) (by omega) (by omega)
        have hpw : 2 ^ (2 - j) ≤ 2 ^ 6 := Nat.pow_le_pow_right (by decide) (by omega)
        have hal := andN_lt (n := 73 * 2 ^ (2 - j)) hpl
        refine wq_s 51 rfl ?_
        refine wq_s 53 rfl ?_
        refine wq_s 55 rfl ?_
        rw [show 2 - (j : Int) = (((2 - j) : Nat) : Int) by omega]
        refine wq_shl (m := 73) 56 rfl rfl (by omega) (by omega) ?_
        rw [← show 2 - (j : Int) = (((2 - j) : Nat) : Int) by omega]
        refine wq_s 57 rfl ?_
        refine wq_not 58 rfl rfl (by omega) ?_
        refine wq_andn 59 rfl rfl (by omega) ?_
        refine wq_if 74 rfl rfl (by omega) (fun c_59 => ?_) (fun c_59 => ?_)
        · have c_59 := of_decide_eq_true c_59
          rw [← show lnC (plN X p (v - 1).toNat 9) p (j + 1) = lnC (plN X p (v - 1).toNat 9) p j from if_neg (fun z => c_59 (by rw [z]; rfl))]
          refine wq_inc 77 _ rfl rfl rfl (by omega) rfl ?_
          refine wq_s 44 rfl ?_
          have h9 := ih (j + 1) (by omega) (by omega)
          rw [show (2 : Int) - ((j + 1 : Nat) : Int) = 2 - (j : Int) + -1 by omega] at h9
          exact h9
        · have c_59 := of_decide_eq_false c_59
          have e59 : lnC (plN X p (v - 1).toNat 9) p (j + 1) = houseF (cellF p (2 - (j : Int))) 1 := if_pos (by omega)
          refine wq_s 63 rfl ?_
          refine wq_s 65 rfl ?_
          refine wq_st2 68 rfl rfl (by decide) (Nat.le_of_ble_eq_true rfl) rfl (Nat.le_of_ble_eq_true rfl) (c_X9_cellOf (by omega) (by omega) (by omega) (by omega)) (fun r M1 hr => ?_)
          obtain ⟨rfl, hM1⟩ := hr
          subst M1
          dsimp only [Option.toList, List.cons_append, List.nil_append]
          refine wq_s 69 rfl ?_
          refine wq_st2 72 rfl rfl (by decide) (Nat.le_of_ble_eq_true rfl) rfl (Nat.le_of_ble_eq_true rfl) (c_X9_houseOf hcc.1 hcc.2 (by decide)) (fun r M1 hr => ?_)
          obtain ⟨rfl, hM1⟩ := hr
          subst M1
          dsimp only [Option.toList, List.cons_append, List.nil_append]
          refine wq_s 74 rfl ?_
          refine wq_inc 77 _ rfl rfl rfl (by omega) rfl ?_
          refine wq_s 44 rfl ?_
          have h9 := ih (j + 1) (by omega) (by omega)
          rw [show (2 : Int) - ((j + 1 : Nat) : Int) = 2 - (j : Int) + -1 by omega, e59] at h9
          exact h9
  refine wq_s 1 rfl ?_
  refine wq_s 3 rfl ?_
  refine wq_s 5 rfl ?_
  refine wq_st3 8 rfl rfl (by decide) (Nat.le_of_ble_eq_true rfl) rfl (Nat.le_of_ble_eq_true rfl) (c_X9_in (by omega) (by omega) (by omega)) (fun r M1 hr => ?_)
  obtain ⟨rfl, hM1⟩ := hr
  subst M1
  dsimp only [Option.toList, List.cons_append, List.nil_append]
  refine wq_if 21 rfl rfl iteR (fun c_8 => ?_) (fun c_8 => ?_)
  · have c_8 := of_decide_eq_true c_8
    have c_8 := ite0.mp c_8
    refine wq_s 22 rfl ?_
    exact wq_ret rfl (Or.inr ⟨rfl, fun z => c_8 z.1, rfl⟩)
  · have c_8 := of_decide_eq_false c_8
    have c_8 := ite1.mp c_8
    refine wq_s 12 rfl ?_
    refine wq_s 13 rfl ?_
    refine wq_s 15 rfl ?_
    refine wq_st3 18 rfl rfl (by decide) (Nat.le_of_ble_eq_true rfl) rfl (Nat.le_of_ble_eq_true rfl) (c_X9_in (by omega) (by omega) (by omega)) (fun r M1 hr => ?_)
    obtain ⟨rfl, hM1⟩ := hr
    subst M1
    dsimp only [Option.toList, List.cons_append, List.nil_append]
    refine wq_if 23 rfl rfl iteR (fun c_18 => ?_) (fun c_18 => ?_)
    · have c_18 := of_decide_eq_true c_18
      have c_18 := ite1.mp c_18
      refine wq_s 24 rfl ?_
      refine wq_s 25 rfl ?_
      refine wq_s 26 rfl ?_
      have hcp := c_X9_placesOf (d := d) (M := M) (h := p) (e := (v - 1).toNat) (by omega) (by omega) (by omega) hq hT hX
      rw [show (((v - 1).toNat : Nat) : Int) + 1 = v by omega] at hcp
      refine wq_st3 29 rfl rfl (by decide) (Nat.le_of_ble_eq_true rfl) rfl (Nat.le_of_ble_eq_true rfl) hcp (fun r M1 hr => ?_)
      obtain ⟨rfl, hM1⟩ := hr
      subst M1
      dsimp only [Option.toList, List.cons_append, List.nil_append]
      refine wq_s 31 rfl ?_
      refine wq_s 33 rfl ?_
      refine wq_if 38 rfl rfl (by omega) (fun c_33 => ?_) (fun c_33 => ?_)
      · have c_33 := of_decide_eq_true c_33
        refine wq_s 39 rfl ?_
        refine wq_s 41 rfl ?_
        refine wq_s 42 rfl ?_
        refine wq_s 44 rfl ?_
        exact L_44 c_8 c_18 (by omega) 4 0 (by omega) (by omega)
      · have c_33 := of_decide_eq_false c_33
        refine wq_s 37 rfl ?_
        exact wq_ret rfl (Or.inr ⟨rfl, fun z => z.2.2.1 (by omega), rfl⟩)
    · have c_18 := of_decide_eq_false c_18
      have c_18 := iteN.mp c_18
      refine wq_s 22 rfl ?_
      exact wq_ret rfl (Or.inr ⟨rfl, fun z => c_18 z.2.1, rfl⟩)
end
section
theorem c_X9_naked {d : Nat} {G : GT} {M : MT} {o q : Nat} {X : Nat → Nat} {p v m : Int} (hG : RefG G o) (hq : q < G.1) (hT : G.2.2 q = .inl (false, 81)) (hX : AtB M q X) (hp : R32 p) (hv : R32 v) (hm0 : R32 m) : Mq (d + 2) k_X9_naked [vR o, vR q, vI p, vI v, vI m] G M (fun r M' => (r = some (vI 1) ∧ nakC X p v m ∧ M' = rowA M (o + 5) (nakG X p v (M (o + 5)))) ∨ (r = some (vI 0) ∧ ¬ nakC X p v m ∧ M' = M)) := by
  by_cases hb : 0 ≤ v ∧ v ≤ 511
  · obtain ⟨n, rfl⟩ := Int.eq_ofNat_of_zero_le hb.1
    exact c_X9_nakedN hG hq hT hX hp (by omega) hm0
  · skip
    refine wq_s 1 rfl ?_
    refine wq_s 2 rfl ?_
    refine wq_s 4 rfl ?_
    refine wq_st3 7 rfl rfl (by decide) (Nat.le_of_ble_eq_true rfl) rfl (Nat.le_of_ble_eq_true rfl) (c_X9_in (by omega) (by omega) (by omega)) (fun r M1 hr => ?_)
    obtain ⟨rfl, hM1⟩ := hr
    subst M1
    dsimp only [Option.toList, List.cons_append, List.nil_append]
    refine wq_if 30 rfl rfl iteR (fun c_7 => ?_) (fun c_7 => ?_)
    · have c_7 := of_decide_eq_true c_7
      have c_7 := ite0.mp c_7
      refine wq_s 31 rfl ?_
      exact wq_ret rfl (Or.inr ⟨rfl, fun z => c_7 z.1, rfl⟩)
    · have c_7 := of_decide_eq_false c_7
      have c_7 := ite1.mp c_7
      refine wq_s 11 rfl ?_
      refine wq_s 12 rfl ?_
      refine wq_s 15 rfl ?_
      refine wq_st3 18 rfl rfl (by decide) (Nat.le_of_ble_eq_true rfl) rfl (Nat.le_of_ble_eq_true rfl) (c_X9_in (by omega) (by omega) (by omega)) (fun r M1 hr => ?_)
      obtain ⟨rfl, hM1⟩ := hr
      subst M1
      dsimp only [Option.toList, List.cons_append, List.nil_append]
      refine wq_if 30 rfl rfl iteR (fun c_18 => ?_) (fun c_18 => ?_)
      · have c_18 := of_decide_eq_true c_18
        have c_18 := ite0.mp c_18
        refine wq_s 31 rfl ?_
        exact wq_ret rfl (Or.inr ⟨rfl, fun z => c_18 z.2.1, rfl⟩)
      · have c_18 := of_decide_eq_false c_18
        have c_18 := ite1.mp c_18
        exact absurd c_18 hb
theorem c_X9_hidden {d : Nat} {G : GT} {M : MT} {o q : Nat} {X : Nat → Nat} {p v m : Int} (hG : RefG G o) (hq : q < G.1) (hT : G.2.2 q = .inl (false, 81)) (hne : q ≠ o + 5) (hX : AtB M q X) (hp : R32 p) (hv : R32 v) (hm0 : R32 m) : Mq (d + 2) k_X9_hidden [vR o, vR q, vI p, vI v, vI m] G M (fun r M' => (r = some (vI 1) ∧ hidC X p v m ∧ M' = rowA M (o + 5) (hidG X p v (M (o + 5)))) ∨ (r = some (vI 0) ∧ ¬ hidC X p v m ∧ M' = M)) := by
  by_cases hb : 0 ≤ v ∧ v ≤ 511
  · obtain ⟨n, rfl⟩ := Int.eq_ofNat_of_zero_le hb.1
    exact c_X9_hiddenN hG hq hT hne hX hp (by omega) hm0
  · skip
    refine wq_s 1 rfl ?_
    refine wq_s 2 rfl ?_
    refine wq_s 4 rfl ?_
    refine wq_st3 7 rfl rfl (by decide) (Nat.le_of_ble_eq_true rfl) rfl (Nat.le_of_ble_eq_true rfl) (c_X9_in (by omega) (by omega) (by omega)) (fun r M1 hr => ?_)
    obtain ⟨rfl, hM1⟩ := hr
    subst M1
    dsimp only [Option.toList, List.cons_append, List.nil_append]
    refine wq_if 30 rfl rfl iteR (fun c_7 => ?_) (fun c_7 => ?_)
    · have c_7 := of_decide_eq_true c_7
      have c_7 := ite0.mp c_7
      refine wq_s 31 rfl ?_
      exact wq_ret rfl (Or.inr ⟨rfl, fun z => c_7 z.1, rfl⟩)
    · have c_7 := of_decide_eq_false c_7
      have c_7 := ite1.mp c_7
      refine wq_s 11 rfl ?_
      refine wq_s 12 rfl ?_
      refine wq_s 15 rfl ?_
      refine wq_st3 18 rfl rfl (by decide) (Nat.le_of_ble_eq_true rfl) rfl (Nat.le_of_ble_eq_true rfl) (c_X9_in (by omega) (by omega) (by omega)) (fun r M1 hr => ?_)
      obtain ⟨rfl, hM1⟩ := hr
      subst M1
      dsimp only [Option.toList, List.cons_append, List.nil_append]
      refine wq_if 30 rfl rfl iteR (fun c_18 => ?_) (fun c_18 => ?_)
      · have c_18 := of_decide_eq_true c_18
        have c_18 := ite0.mp c_18
        refine wq_s 31 rfl ?_
        exact wq_ret rfl (Or.inr ⟨rfl, fun z => c_18 z.2.1, rfl⟩)
      · have c_18 := of_decide_eq_false c_18
        have c_18 := ite1.mp c_18
        exact absurd c_18 hb
end
