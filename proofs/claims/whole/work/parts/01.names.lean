-- ===== PART A: goes FIRST, ahead of the names: the tables' words, and 'selects' of the private methods out of them =====
/-- a private method of a class that the tables say can be made, by its rows of tables_1 -/
def lw_okq (q : MethodName × Nat) : Prop := (q.1.cls ≠ "java/lang/invoke/MethodHandle" ∧ q.1.cls ≠ "java/lang/invoke/VarHandle") ∧ Cond.instantiable q.1.cls q.2 ∈ tables_1 ∧ Cond.privateMethod q.1 ∈ tables_1 ∧ Cond.instanceMethod q.1 ∈ tables_1
theorem lw_p0 : lw_okq (⟨"SudokuGrader$Shape", "enter", "(IIII)V"⟩, 4) := ⟨⟨by decide +kernel, by decide +kernel⟩, List.mem_of_getElem? (i := 23) (by decide +kernel), List.mem_of_getElem? (i := 29) (by decide +kernel), List.mem_of_getElem? (i := 30) (by decide +kernel)⟩
theorem lw_p1 : lw_okq (⟨"SudokuGrader$Shape", "listNear", "(I)V"⟩, 4) := ⟨⟨by decide +kernel, by decide +kernel⟩, List.mem_of_getElem? (i := 23) (by decide +kernel), List.mem_of_getElem? (i := 33) (by decide +kernel), List.mem_of_getElem? (i := 34) (by decide +kernel)⟩
theorem lw_p2 : lw_okq (⟨"SudokuGrader", "startAnew", "()V"⟩, 11) := ⟨⟨by decide +kernel, by decide +kernel⟩, List.mem_of_getElem? (i := 15) (by decide +kernel), List.mem_of_getElem? (i := 331) (by decide +kernel), List.mem_of_getElem? (i := 332) (by decide +kernel)⟩
theorem lw_p3 : lw_okq (⟨"SudokuGrader$Board", "flip", "(I)V"⟩, 5) := ⟨⟨by decide +kernel, by decide +kernel⟩, List.mem_of_getElem? (i := 68) (by decide +kernel), List.mem_of_getElem? (i := 345) (by decide +kernel), List.mem_of_getElem? (i := 346) (by decide +kernel)⟩
theorem lw_p4 : lw_okq (⟨"SudokuGrader", "takeFirstStep", "()Z"⟩, 11) := ⟨⟨by decide +kernel, by decide +kernel⟩, List.mem_of_getElem? (i := 15) (by decide +kernel), List.mem_of_getElem? (i := 407) (by decide +kernel), List.mem_of_getElem? (i := 408) (by decide +kernel)⟩
theorem lw_p5 : lw_okq (⟨"SudokuGrader$Rules", "markFirstSubset", "(LSudokuGrader$Board;I)I"⟩, 5) := ⟨⟨by decide +kernel, by decide +kernel⟩, List.mem_of_getElem? (i := 122) (by decide +kernel), List.mem_of_getElem? (i := 415) (by decide +kernel), List.mem_of_getElem? (i := 416) (by decide +kernel)⟩
theorem lw_p6 : lw_okq (⟨"SudokuGrader$Subsets", "load", "(LSudokuGrader$Board;II)Z"⟩, 3) := ⟨⟨by decide +kernel, by decide +kernel⟩, List.mem_of_getElem? (i := 128) (by decide +kernel), List.mem_of_getElem? (i := 423) (by decide +kernel), List.mem_of_getElem? (i := 424) (by decide +kernel)⟩
theorem lw_p7 : lw_okq (⟨"SudokuGrader$Subsets", "markFrom", "(LSudokuGrader$Board;IIII)V"⟩, 3) := ⟨⟨by decide +kernel, by decide +kernel⟩, List.mem_of_getElem? (i := 128) (by decide +kernel), List.mem_of_getElem? (i := 453) (by decide +kernel), List.mem_of_getElem? (i := 454) (by decide +kernel)⟩
theorem lw_p8 : lw_okq (⟨"SudokuGrader$Rules", "markSingle", "(LSudokuGrader$Board;II)V"⟩, 5) := ⟨⟨by decide +kernel, by decide +kernel⟩, List.mem_of_getElem? (i := 122) (by decide +kernel), List.mem_of_getElem? (i := 470) (by decide +kernel), List.mem_of_getElem? (i := 471) (by decide +kernel)⟩
theorem lw_p9 : lw_okq (⟨"SudokuGrader$Rules", "markHidden", "(LSudokuGrader$Board;II)V"⟩, 5) := ⟨⟨by decide +kernel, by decide +kernel⟩, List.mem_of_getElem? (i := 122) (by decide +kernel), List.mem_of_getElem? (i := 475) (by decide +kernel), List.mem_of_getElem? (i := 476) (by decide +kernel)⟩
theorem lw_p10 : lw_okq (⟨"SudokuGrader$Rules", "markPointing", "(LSudokuGrader$Board;II)V"⟩, 5) := ⟨⟨by decide +kernel, by decide +kernel⟩, List.mem_of_getElem? (i := 122) (by decide +kernel), List.mem_of_getElem? (i := 487) (by decide +kernel), List.mem_of_getElem? (i := 488) (by decide +kernel)⟩
theorem lw_p11 : lw_okq (⟨"SudokuGrader$Rules", "markClaiming", "(LSudokuGrader$Board;II)V"⟩, 5) := ⟨⟨by decide +kernel, by decide +kernel⟩, List.mem_of_getElem? (i := 122) (by decide +kernel), List.mem_of_getElem? (i := 491) (by decide +kernel), List.mem_of_getElem? (i := 492) (by decide +kernel)⟩
theorem lw_p12 : lw_okq (⟨"SudokuGrader$Rules", "markClaimed", "(LSudokuGrader$Board;III)V"⟩, 5) := ⟨⟨by decide +kernel, by decide +kernel⟩, List.mem_of_getElem? (i := 122) (by decide +kernel), List.mem_of_getElem? (i := 495) (by decide +kernel), List.mem_of_getElem? (i := 496) (by decide +kernel)⟩
theorem lw_p13 : lw_okq (⟨"SudokuGrader$Chains", "listAllStrong", "(LSudokuGrader$Board;)V"⟩, 17) := ⟨⟨by decide +kernel, by decide +kernel⟩, List.mem_of_getElem? (i := 162) (by decide +kernel), List.mem_of_getElem? (i := 524) (by decide +kernel), List.mem_of_getElem? (i := 525) (by decide +kernel)⟩
theorem lw_p14 : lw_okq (⟨"SudokuGrader$Chains", "addStrongPair", "(II)V"⟩, 17) := ⟨⟨by decide +kernel, by decide +kernel⟩, List.mem_of_getElem? (i := 162) (by decide +kernel), List.mem_of_getElem? (i := 531) (by decide +kernel), List.mem_of_getElem? (i := 532) (by decide +kernel)⟩
theorem lw_p15 : lw_okq (⟨"SudokuGrader$Chains", "addStrong", "(II)V"⟩, 17) := ⟨⟨by decide +kernel, by decide +kernel⟩, List.mem_of_getElem? (i := 162) (by decide +kernel), List.mem_of_getElem? (i := 535) (by decide +kernel), List.mem_of_getElem? (i := 536) (by decide +kernel)⟩
def lw_privs_1 : List (MethodName × Nat) := [(⟨"SudokuGrader$Shape", "enter", "(IIII)V"⟩, 4), (⟨"SudokuGrader$Shape", "listNear", "(I)V"⟩, 4), (⟨"SudokuGrader", "startAnew", "()V"⟩, 11), (⟨"SudokuGrader$Board", "flip", "(I)V"⟩, 5), (⟨"SudokuGrader", "takeFirstStep", "()Z"⟩, 11), (⟨"SudokuGrader$Rules", "markFirstSubset", "(LSudokuGrader$Board;I)I"⟩, 5), (⟨"SudokuGrader$Subsets", "load", "(LSudokuGrader$Board;II)Z"⟩, 3), (⟨"SudokuGrader$Subsets", "markFrom", "(LSudokuGrader$Board;IIII)V"⟩, 3), (⟨"SudokuGrader$Rules", "markSingle", "(LSudokuGrader$Board;II)V"⟩, 5), (⟨"SudokuGrader$Rules", "markHidden", "(LSudokuGrader$Board;II)V"⟩, 5), (⟨"SudokuGrader$Rules", "markPointing", "(LSudokuGrader$Board;II)V"⟩, 5), (⟨"SudokuGrader$Rules", "markClaiming", "(LSudokuGrader$Board;II)V"⟩, 5), (⟨"SudokuGrader$Rules", "markClaimed", "(LSudokuGrader$Board;III)V"⟩, 5), (⟨"SudokuGrader$Chains", "listAllStrong", "(LSudokuGrader$Board;)V"⟩, 17), (⟨"SudokuGrader$Chains", "addStrongPair", "(II)V"⟩, 17), (⟨"SudokuGrader$Chains", "addStrong", "(II)V"⟩, 17)]
theorem lw_r1 : ∀ q ∈ lw_privs_1, lw_okq q := List.forall_mem_cons.mpr ⟨lw_p0, List.forall_mem_cons.mpr ⟨lw_p1, List.forall_mem_cons.mpr ⟨lw_p2, List.forall_mem_cons.mpr ⟨lw_p3, List.forall_mem_cons.mpr ⟨lw_p4, List.forall_mem_cons.mpr ⟨lw_p5, List.forall_mem_cons.mpr ⟨lw_p6, List.forall_mem_cons.mpr ⟨lw_p7, List.forall_mem_cons.mpr ⟨lw_p8, List.forall_mem_cons.mpr ⟨lw_p9, List.forall_mem_cons.mpr ⟨lw_p10, List.forall_mem_cons.mpr ⟨lw_p11, List.forall_mem_cons.mpr ⟨lw_p12, List.forall_mem_cons.mpr ⟨lw_p13, List.forall_mem_cons.mpr ⟨lw_p14, List.forall_mem_cons.mpr ⟨lw_p15, fun _ h => absurd h List.not_mem_nil⟩⟩⟩⟩⟩⟩⟩⟩⟩⟩⟩⟩⟩⟩⟩⟩
theorem lw_p16 : lw_okq (⟨"SudokuGrader$Chains", "reach", "(LSudokuGrader$Board;II)I"⟩, 17) := ⟨⟨by decide +kernel, by decide +kernel⟩, List.mem_of_getElem? (i := 162) (by decide +kernel), List.mem_of_getElem? (i := 539) (by decide +kernel), List.mem_of_getElem? (i := 540) (by decide +kernel)⟩
theorem lw_p17 : lw_okq (⟨"SudokuGrader$Chains", "listWeak", "(LSudokuGrader$Board;I)V"⟩, 17) := ⟨⟨by decide +kernel, by decide +kernel⟩, List.mem_of_getElem? (i := 162) (by decide +kernel), List.mem_of_getElem? (i := 543) (by decide +kernel), List.mem_of_getElem? (i := 544) (by decide +kernel)⟩
theorem lw_p18 : lw_okq (⟨"SudokuGrader$Chains", "addTails", "(II)V"⟩, 17) := ⟨⟨by decide +kernel, by decide +kernel⟩, List.mem_of_getElem? (i := 162) (by decide +kernel), List.mem_of_getElem? (i := 547) (by decide +kernel), List.mem_of_getElem? (i := 548) (by decide +kernel)⟩
theorem lw_p19 : lw_okq (⟨"SudokuGrader$Chains", "meetsFirst", "()Z"⟩, 17) := ⟨⟨by decide +kernel, by decide +kernel⟩, List.mem_of_getElem? (i := 162) (by decide +kernel), List.mem_of_getElem? (i := 551) (by decide +kernel), List.mem_of_getElem? (i := 552) (by decide +kernel)⟩
theorem lw_p20 : lw_okq (⟨"SudokuGrader$Chains", "addHeads", "(I)V"⟩, 17) := ⟨⟨by decide +kernel, by decide +kernel⟩, List.mem_of_getElem? (i := 162) (by decide +kernel), List.mem_of_getElem? (i := 555) (by decide +kernel), List.mem_of_getElem? (i := 556) (by decide +kernel)⟩
theorem lw_p21 : lw_okq (⟨"SudokuGrader$Chains", "writeChain", "(I)V"⟩, 17) := ⟨⟨by decide +kernel, by decide +kernel⟩, List.mem_of_getElem? (i := 162) (by decide +kernel), List.mem_of_getElem? (i := 559) (by decide +kernel), List.mem_of_getElem? (i := 560) (by decide +kernel)⟩
theorem lw_p22 : lw_okq (⟨"SudokuGrader$Chains", "areStrong", "(LSudokuGrader$Board;II)Z"⟩, 17) := ⟨⟨by decide +kernel, by decide +kernel⟩, List.mem_of_getElem? (i := 162) (by decide +kernel), List.mem_of_getElem? (i := 567) (by decide +kernel), List.mem_of_getElem? (i := 568) (by decide +kernel)⟩
theorem lw_p23 : lw_okq (⟨"SudokuGrader$Chains", "areWeak", "(LSudokuGrader$Board;II)Z"⟩, 17) := ⟨⟨by decide +kernel, by decide +kernel⟩, List.mem_of_getElem? (i := 162) (by decide +kernel), List.mem_of_getElem? (i := 571) (by decide +kernel), List.mem_of_getElem? (i := 572) (by decide +kernel)⟩
theorem lw_p24 : lw_okq (⟨"SudokuGrader", "takenAway", "(I)I"⟩, 11) := ⟨⟨by decide +kernel, by decide +kernel⟩, List.mem_of_getElem? (i := 15) (by decide +kernel), List.mem_of_getElem? (i := 624) (by decide +kernel), List.mem_of_getElem? (i := 625) (by decide +kernel)⟩
theorem lw_p25 : lw_okq (⟨"SudokuGrader", "claimWritten", "(I)I"⟩, 11) := ⟨⟨by decide +kernel, by decide +kernel⟩, List.mem_of_getElem? (i := 15) (by decide +kernel), List.mem_of_getElem? (i := 633) (by decide +kernel), List.mem_of_getElem? (i := 634) (by decide +kernel)⟩
theorem lw_p26 : lw_okq (⟨"SudokuGrader$Solver", "noteCount", "(II)V"⟩, 14) := ⟨⟨by decide +kernel, by decide +kernel⟩, List.mem_of_getElem? (i := 276) (by decide +kernel), List.mem_of_getElem? (i := 646) (by decide +kernel), List.mem_of_getElem? (i := 647) (by decide +kernel)⟩
theorem lw_p27 : lw_okq (⟨"SudokuGrader$Solver", "close", "()V"⟩, 14) := ⟨⟨by decide +kernel, by decide +kernel⟩, List.mem_of_getElem? (i := 276) (by decide +kernel), List.mem_of_getElem? (i := 651) (by decide +kernel), List.mem_of_getElem? (i := 652) (by decide +kernel)⟩
theorem lw_p28 : lw_okq (⟨"SudokuGrader$Solver", "closeCell", "(I)V"⟩, 14) := ⟨⟨by decide +kernel, by decide +kernel⟩, List.mem_of_getElem? (i := 276) (by decide +kernel), List.mem_of_getElem? (i := 655) (by decide +kernel), List.mem_of_getElem? (i := 656) (by decide +kernel)⟩
theorem lw_p29 : lw_okq (⟨"SudokuGrader$Solver", "remove", "(II)V"⟩, 14) := ⟨⟨by decide +kernel, by decide +kernel⟩, List.mem_of_getElem? (i := 276) (by decide +kernel), List.mem_of_getElem? (i := 660) (by decide +kernel), List.mem_of_getElem? (i := 661) (by decide +kernel)⟩
theorem lw_p30 : lw_okq (⟨"SudokuGrader$Solver", "closePlace", "(I)V"⟩, 14) := ⟨⟨by decide +kernel, by decide +kernel⟩, List.mem_of_getElem? (i := 276) (by decide +kernel), List.mem_of_getElem? (i := 665) (by decide +kernel), List.mem_of_getElem? (i := 666) (by decide +kernel)⟩
theorem lw_p31 : lw_okq (⟨"SudokuGrader$Solver", "keepAlone", "(II)V"⟩, 14) := ⟨⟨by decide +kernel, by decide +kernel⟩, List.mem_of_getElem? (i := 276) (by decide +kernel), List.mem_of_getElem? (i := 669) (by decide +kernel), List.mem_of_getElem? (i := 670) (by decide +kernel)⟩
def lw_privs_2 : List (MethodName × Nat) := [(⟨"SudokuGrader$Chains", "reach", "(LSudokuGrader$Board;II)I"⟩, 17), (⟨"SudokuGrader$Chains", "listWeak", "(LSudokuGrader$Board;I)V"⟩, 17), (⟨"SudokuGrader$Chains", "addTails", "(II)V"⟩, 17), (⟨"SudokuGrader$Chains", "meetsFirst", "()Z"⟩, 17), (⟨"SudokuGrader$Chains", "addHeads", "(I)V"⟩, 17), (⟨"SudokuGrader$Chains", "writeChain", "(I)V"⟩, 17), (⟨"SudokuGrader$Chains", "areStrong", "(LSudokuGrader$Board;II)Z"⟩, 17), (⟨"SudokuGrader$Chains", "areWeak", "(LSudokuGrader$Board;II)Z"⟩, 17), (⟨"SudokuGrader", "takenAway", "(I)I"⟩, 11), (⟨"SudokuGrader", "claimWritten", "(I)I"⟩, 11), (⟨"SudokuGrader$Solver", "noteCount", "(II)V"⟩, 14), (⟨"SudokuGrader$Solver", "close", "()V"⟩, 14), (⟨"SudokuGrader$Solver", "closeCell", "(I)V"⟩, 14), (⟨"SudokuGrader$Solver", "remove", "(II)V"⟩, 14), (⟨"SudokuGrader$Solver", "closePlace", "(I)V"⟩, 14), (⟨"SudokuGrader$Solver", "keepAlone", "(II)V"⟩, 14)]
theorem lw_r2 : ∀ q ∈ lw_privs_2, lw_okq q := List.forall_mem_cons.mpr ⟨lw_p16, List.forall_mem_cons.mpr ⟨lw_p17, List.forall_mem_cons.mpr ⟨lw_p18, List.forall_mem_cons.mpr ⟨lw_p19, List.forall_mem_cons.mpr ⟨lw_p20, List.forall_mem_cons.mpr ⟨lw_p21, List.forall_mem_cons.mpr ⟨lw_p22, List.forall_mem_cons.mpr ⟨lw_p23, List.forall_mem_cons.mpr ⟨lw_p24, List.forall_mem_cons.mpr ⟨lw_p25, List.forall_mem_cons.mpr ⟨lw_p26, List.forall_mem_cons.mpr ⟨lw_p27, List.forall_mem_cons.mpr ⟨lw_p28, List.forall_mem_cons.mpr ⟨lw_p29, List.forall_mem_cons.mpr ⟨lw_p30, List.forall_mem_cons.mpr ⟨lw_p31, fun _ h => absurd h List.not_mem_nil⟩⟩⟩⟩⟩⟩⟩⟩⟩⟩⟩⟩⟩⟩⟩⟩
theorem lw_p32 : lw_okq (⟨"SudokuGrader$Solver", "settle", "()V"⟩, 14) := ⟨⟨by decide +kernel, by decide +kernel⟩, List.mem_of_getElem? (i := 276) (by decide +kernel), List.mem_of_getElem? (i := 673) (by decide +kernel), List.mem_of_getElem? (i := 674) (by decide +kernel)⟩
theorem lw_p33 : lw_okq (⟨"SudokuGrader$Solver", "fewest", "()I"⟩, 14) := ⟨⟨by decide +kernel, by decide +kernel⟩, List.mem_of_getElem? (i := 276) (by decide +kernel), List.mem_of_getElem? (i := 677) (by decide +kernel), List.mem_of_getElem? (i := 678) (by decide +kernel)⟩
theorem lw_p34 : lw_okq (⟨"SudokuGrader$Solver", "keepAnswer", "()V"⟩, 14) := ⟨⟨by decide +kernel, by decide +kernel⟩, List.mem_of_getElem? (i := 276) (by decide +kernel), List.mem_of_getElem? (i := 682) (by decide +kernel), List.mem_of_getElem? (i := 683) (by decide +kernel)⟩
theorem lw_p35 : lw_okq (⟨"SudokuGraderModel", "begin", "()V"⟩, 42) := ⟨⟨by decide +kernel, by decide +kernel⟩, List.mem_of_getElem? (i := 702) (by decide +kernel), List.mem_of_getElem? (i := 708) (by decide +kernel), List.mem_of_getElem? (i := 709) (by decide +kernel)⟩
theorem lw_p36 : lw_okq (⟨"SudokuGraderModel", "stepped", "()Z"⟩, 42) := ⟨⟨by decide +kernel, by decide +kernel⟩, List.mem_of_getElem? (i := 702) (by decide +kernel), List.mem_of_getElem? (i := 856) (by decide +kernel), List.mem_of_getElem? (i := 857) (by decide +kernel)⟩
theorem lw_p37 : lw_okq (⟨"SudokuGraderModel", "findsOne", "([II)Z"⟩, 42) := ⟨⟨by decide +kernel, by decide +kernel⟩, List.mem_of_getElem? (i := 702) (by decide +kernel), List.mem_of_getElem? (i := 860) (by decide +kernel), List.mem_of_getElem? (i := 861) (by decide +kernel)⟩
theorem lw_p38 : lw_okq (⟨"SudokuGraderModel", "found", "([IIII)Z"⟩, 42) := ⟨⟨by decide +kernel, by decide +kernel⟩, List.mem_of_getElem? (i := 702) (by decide +kernel), List.mem_of_getElem? (i := 864) (by decide +kernel), List.mem_of_getElem? (i := 865) (by decide +kernel)⟩
theorem lw_p39 : lw_okq (⟨"SudokuGraderModel", "instance", "([IIII)I"⟩, 42) := ⟨⟨by decide +kernel, by decide +kernel⟩, List.mem_of_getElem? (i := 702) (by decide +kernel), List.mem_of_getElem? (i := 868) (by decide +kernel), List.mem_of_getElem? (i := 869) (by decide +kernel)⟩
theorem lw_p40 : lw_okq (⟨"SudokuGraderModel", "clear", "()V"⟩, 42) := ⟨⟨by decide +kernel, by decide +kernel⟩, List.mem_of_getElem? (i := 702) (by decide +kernel), List.mem_of_getElem? (i := 872) (by decide +kernel), List.mem_of_getElem? (i := 873) (by decide +kernel)⟩
theorem lw_p41 : lw_okq (⟨"SudokuGraderModel", "single", "([III)Z"⟩, 42) := ⟨⟨by decide +kernel, by decide +kernel⟩, List.mem_of_getElem? (i := 702) (by decide +kernel), List.mem_of_getElem? (i := 876) (by decide +kernel), List.mem_of_getElem? (i := 877) (by decide +kernel)⟩
theorem lw_p42 : lw_okq (⟨"SudokuGraderModel", "hiddenOne", "([III)Z"⟩, 42) := ⟨⟨by decide +kernel, by decide +kernel⟩, List.mem_of_getElem? (i := 702) (by decide +kernel), List.mem_of_getElem? (i := 886) (by decide +kernel), List.mem_of_getElem? (i := 887) (by decide +kernel)⟩
theorem lw_p43 : lw_okq (⟨"SudokuGraderModel", "pointing", "([III)Z"⟩, 42) := ⟨⟨by decide +kernel, by decide +kernel⟩, List.mem_of_getElem? (i := 702) (by decide +kernel), List.mem_of_getElem? (i := 899) (by decide +kernel), List.mem_of_getElem? (i := 900) (by decide +kernel)⟩
theorem lw_p44 : lw_okq (⟨"SudokuGraderModel", "claiming", "([III)Z"⟩, 42) := ⟨⟨by decide +kernel, by decide +kernel⟩, List.mem_of_getElem? (i := 702) (by decide +kernel), List.mem_of_getElem? (i := 906) (by decide +kernel), List.mem_of_getElem? (i := 907) (by decide +kernel)⟩
theorem lw_p45 : lw_okq (⟨"SudokuGraderModel", "naked", "([IIII)Z"⟩, 42) := ⟨⟨by decide +kernel, by decide +kernel⟩, List.mem_of_getElem? (i := 702) (by decide +kernel), List.mem_of_getElem? (i := 913) (by decide +kernel), List.mem_of_getElem? (i := 914) (by decide +kernel)⟩
theorem lw_p46 : lw_okq (⟨"SudokuGraderModel", "hidden", "([IIII)Z"⟩, 42) := ⟨⟨by decide +kernel, by decide +kernel⟩, List.mem_of_getElem? (i := 702) (by decide +kernel), List.mem_of_getElem? (i := 917) (by decide +kernel), List.mem_of_getElem? (i := 918) (by decide +kernel)⟩
theorem lw_p47 : lw_okq (⟨"SudokuGraderModel", "fish", "([IIII)Z"⟩, 42) := ⟨⟨by decide +kernel, by decide +kernel⟩, List.mem_of_getElem? (i := 702) (by decide +kernel), List.mem_of_getElem? (i := 921) (by decide +kernel), List.mem_of_getElem? (i := 922) (by decide +kernel)⟩
def lw_privs_3 : List (MethodName × Nat) := [(⟨"SudokuGrader$Solver", "settle", "()V"⟩, 14), (⟨"SudokuGrader$Solver", "fewest", "()I"⟩, 14), (⟨"SudokuGrader$Solver", "keepAnswer", "()V"⟩, 14), (⟨"SudokuGraderModel", "begin", "()V"⟩, 42), (⟨"SudokuGraderModel", "stepped", "()Z"⟩, 42), (⟨"SudokuGraderModel", "findsOne", "([II)Z"⟩, 42), (⟨"SudokuGraderModel", "found", "([IIII)Z"⟩, 42), (⟨"SudokuGraderModel", "instance", "([IIII)I"⟩, 42), (⟨"SudokuGraderModel", "clear", "()V"⟩, 42), (⟨"SudokuGraderModel", "single", "([III)Z"⟩, 42), (⟨"SudokuGraderModel", "hiddenOne", "([III)Z"⟩, 42), (⟨"SudokuGraderModel", "pointing", "([III)Z"⟩, 42), (⟨"SudokuGraderModel", "claiming", "([III)Z"⟩, 42), (⟨"SudokuGraderModel", "naked", "([IIII)Z"⟩, 42), (⟨"SudokuGraderModel", "hidden", "([IIII)Z"⟩, 42), (⟨"SudokuGraderModel", "fish", "([IIII)Z"⟩, 42)]
theorem lw_r3 : ∀ q ∈ lw_privs_3, lw_okq q := List.forall_mem_cons.mpr ⟨lw_p32, List.forall_mem_cons.mpr ⟨lw_p33, List.forall_mem_cons.mpr ⟨lw_p34, List.forall_mem_cons.mpr ⟨lw_p35, List.forall_mem_cons.mpr ⟨lw_p36, List.forall_mem_cons.mpr ⟨lw_p37, List.forall_mem_cons.mpr ⟨lw_p38, List.forall_mem_cons.mpr ⟨lw_p39, List.forall_mem_cons.mpr ⟨lw_p40, List.forall_mem_cons.mpr ⟨lw_p41, List.forall_mem_cons.mpr ⟨lw_p42, List.forall_mem_cons.mpr ⟨lw_p43, List.forall_mem_cons.mpr ⟨lw_p44, List.forall_mem_cons.mpr ⟨lw_p45, List.forall_mem_cons.mpr ⟨lw_p46, List.forall_mem_cons.mpr ⟨lw_p47, fun _ h => absurd h List.not_mem_nil⟩⟩⟩⟩⟩⟩⟩⟩⟩⟩⟩⟩⟩⟩⟩⟩
theorem lw_p48 : lw_okq (⟨"SudokuGraderModel", "there", "([I)I"⟩, 42) := ⟨⟨by decide +kernel, by decide +kernel⟩, List.mem_of_getElem? (i := 702) (by decide +kernel), List.mem_of_getElem? (i := 925) (by decide +kernel), List.mem_of_getElem? (i := 926) (by decide +kernel)⟩
theorem lw_p49 : lw_okq (⟨"SudokuGraderModel", "findsSome", "([II)Z"⟩, 42) := ⟨⟨by decide +kernel, by decide +kernel⟩, List.mem_of_getElem? (i := 702) (by decide +kernel), List.mem_of_getElem? (i := 929) (by decide +kernel), List.mem_of_getElem? (i := 930) (by decide +kernel)⟩
theorem lw_p50 : lw_okq (⟨"SudokuGraderModel", "takes", "(II)V"⟩, 42) := ⟨⟨by decide +kernel, by decide +kernel⟩, List.mem_of_getElem? (i := 702) (by decide +kernel), List.mem_of_getElem? (i := 933) (by decide +kernel), List.mem_of_getElem? (i := 934) (by decide +kernel)⟩
theorem lw_p51 : lw_okq (⟨"SudokuGraderModel", "goes", "([I)V"⟩, 42) := ⟨⟨by decide +kernel, by decide +kernel⟩, List.mem_of_getElem? (i := 702) (by decide +kernel), List.mem_of_getElem? (i := 937) (by decide +kernel), List.mem_of_getElem? (i := 938) (by decide +kernel)⟩
theorem lw_p52 : lw_okq (⟨"SudokuGraderModel", "chain", "([I)I"⟩, 42) := ⟨⟨by decide +kernel, by decide +kernel⟩, List.mem_of_getElem? (i := 702) (by decide +kernel), List.mem_of_getElem? (i := 944) (by decide +kernel), List.mem_of_getElem? (i := 945) (by decide +kernel)⟩
theorem lw_p53 : lw_okq (⟨"SudokuGraderModel", "links", "([I)V"⟩, 42) := ⟨⟨by decide +kernel, by decide +kernel⟩, List.mem_of_getElem? (i := 702) (by decide +kernel), List.mem_of_getElem? (i := 948) (by decide +kernel), List.mem_of_getElem? (i := 949) (by decide +kernel)⟩
theorem lw_p54 : lw_okq (⟨"SudokuGraderModel", "link", "([III)V"⟩, 42) := ⟨⟨by decide +kernel, by decide +kernel⟩, List.mem_of_getElem? (i := 702) (by decide +kernel), List.mem_of_getElem? (i := 955) (by decide +kernel), List.mem_of_getElem? (i := 956) (by decide +kernel)⟩
theorem lw_p55 : lw_okq (⟨"SudokuGraderModel", "goesBy", "(II)Z"⟩, 42) := ⟨⟨by decide +kernel, by decide +kernel⟩, List.mem_of_getElem? (i := 702) (by decide +kernel), List.mem_of_getElem? (i := 968) (by decide +kernel), List.mem_of_getElem? (i := 969) (by decide +kernel)⟩
theorem lw_p56 : lw_okq (⟨"SudokuGraderModel", "image", "([JI[J[JI)V"⟩, 42) := ⟨⟨by decide +kernel, by decide +kernel⟩, List.mem_of_getElem? (i := 702) (by decide +kernel), List.mem_of_getElem? (i := 972) (by decide +kernel), List.mem_of_getElem? (i := 973) (by decide +kernel)⟩
theorem lw_p57 : lw_okq (⟨"SudokuGraderModel", "rowOf", "(II)V"⟩, 42) := ⟨⟨by decide +kernel, by decide +kernel⟩, List.mem_of_getElem? (i := 702) (by decide +kernel), List.mem_of_getElem? (i := 979) (by decide +kernel), List.mem_of_getElem? (i := 980) (by decide +kernel)⟩
theorem lw_p58 : lw_okq (⟨"SudokuGraderModel", "byRow", "([I[III)I"⟩, 42) := ⟨⟨by decide +kernel, by decide +kernel⟩, List.mem_of_getElem? (i := 702) (by decide +kernel), List.mem_of_getElem? (i := 983) (by decide +kernel), List.mem_of_getElem? (i := 984) (by decide +kernel)⟩
theorem lw_p59 : lw_okq (⟨"SudokuGraderModel", "meets", "()V"⟩, 42) := ⟨⟨by decide +kernel, by decide +kernel⟩, List.mem_of_getElem? (i := 702) (by decide +kernel), List.mem_of_getElem? (i := 1023) (by decide +kernel), List.mem_of_getElem? (i := 1024) (by decide +kernel)⟩
theorem lw_p60 : lw_okq (⟨"SudokuGraderModel", "closes", "()V"⟩, 42) := ⟨⟨by decide +kernel, by decide +kernel⟩, List.mem_of_getElem? (i := 702) (by decide +kernel), List.mem_of_getElem? (i := 1027) (by decide +kernel), List.mem_of_getElem? (i := 1028) (by decide +kernel)⟩
theorem lw_p61 : lw_okq (⟨"SudokuGraderModel", "isDead", "()Z"⟩, 42) := ⟨⟨by decide +kernel, by decide +kernel⟩, List.mem_of_getElem? (i := 702) (by decide +kernel), List.mem_of_getElem? (i := 1031) (by decide +kernel), List.mem_of_getElem? (i := 1032) (by decide +kernel)⟩
theorem lw_p62 : lw_okq (⟨"SudokuGraderModel", "leaves", "()V"⟩, 42) := ⟨⟨by decide +kernel, by decide +kernel⟩, List.mem_of_getElem? (i := 702) (by decide +kernel), List.mem_of_getElem? (i := 1035) (by decide +kernel), List.mem_of_getElem? (i := 1036) (by decide +kernel)⟩
def lw_privs_4 : List (MethodName × Nat) := [(⟨"SudokuGraderModel", "there", "([I)I"⟩, 42), (⟨"SudokuGraderModel", "findsSome", "([II)Z"⟩, 42), (⟨"SudokuGraderModel", "takes", "(II)V"⟩, 42), (⟨"SudokuGraderModel", "goes", "([I)V"⟩, 42), (⟨"SudokuGraderModel", "chain", "([I)I"⟩, 42), (⟨"SudokuGraderModel", "links", "([I)V"⟩, 42), (⟨"SudokuGraderModel", "link", "([III)V"⟩, 42), (⟨"SudokuGraderModel", "goesBy", "(II)Z"⟩, 42), (⟨"SudokuGraderModel", "image", "([JI[J[JI)V"⟩, 42), (⟨"SudokuGraderModel", "rowOf", "(II)V"⟩, 42), (⟨"SudokuGraderModel", "byRow", "([I[III)I"⟩, 42), (⟨"SudokuGraderModel", "meets", "()V"⟩, 42), (⟨"SudokuGraderModel", "closes", "()V"⟩, 42), (⟨"SudokuGraderModel", "isDead", "()Z"⟩, 42), (⟨"SudokuGraderModel", "leaves", "()V"⟩, 42)]
theorem lw_r4 : ∀ q ∈ lw_privs_4, lw_okq q := List.forall_mem_cons.mpr ⟨lw_p48, List.forall_mem_cons.mpr ⟨lw_p49, List.forall_mem_cons.mpr ⟨lw_p50, List.forall_mem_cons.mpr ⟨lw_p51, List.forall_mem_cons.mpr ⟨lw_p52, List.forall_mem_cons.mpr ⟨lw_p53, List.forall_mem_cons.mpr ⟨lw_p54, List.forall_mem_cons.mpr ⟨lw_p55, List.forall_mem_cons.mpr ⟨lw_p56, List.forall_mem_cons.mpr ⟨lw_p57, List.forall_mem_cons.mpr ⟨lw_p58, List.forall_mem_cons.mpr ⟨lw_p59, List.forall_mem_cons.mpr ⟨lw_p60, List.forall_mem_cons.mpr ⟨lw_p61, List.forall_mem_cons.mpr ⟨lw_p62, fun _ h => absurd h List.not_mem_nil⟩⟩⟩⟩⟩⟩⟩⟩⟩⟩⟩⟩⟩⟩⟩
def lw_privs : List (MethodName × Nat) := lw_privs_1 ++ (lw_privs_2 ++ (lw_privs_3 ++ (lw_privs_4)))
def lw_tbl : List Cond := k2_sels lw_privs ++ tables_1
theorem lw_privs_ok : ∀ q ∈ lw_privs, lw_okq q := by
  show ∀ q ∈ lw_privs_1 ++ (lw_privs_2 ++ (lw_privs_3 ++ (lw_privs_4))), lw_okq q
  exact List.forall_mem_append.mpr ⟨lw_r1, List.forall_mem_append.mpr ⟨lw_r2, List.forall_mem_append.mpr ⟨lw_r3, lw_r4⟩⟩⟩
def RX0 : String := "SudokuGrader$Board"
def TX0 : u_T := fun k => match k with
  | 0 => ("SudokuGrader$Board", "shape", "LSudokuGrader$Shape;", true)
  | 1 => ("SudokuGrader$Board", "cells", "[I", true)
  | 2 => ("SudokuGrader$Board", "places", "[I", true)
  | 3 => ("SudokuGrader$Board", "log", "[I", true)
  | _ => ("SudokuGrader$Board", "logged", "I", false)
def tyX0 : Nat → FieldType := fun k => match k with
  | 0 => .object "SudokuGrader$Shape"
  | 1 => .array .int
  | 2 => .array .int
  | 3 => .array .int
  | _ => .int
abbrev wsX00 : List Cond := u_ws RX0 TX0 5
theorem nmX0 : ∀ a, a < 5 → ∀ b, b < 5 → a ≠ b → (TX0 a).2.1 ≠ (TX0 b).2.1 := by decide +kernel
theorem tyX0_ok : ∀ k, k < 5 → parseFieldDescriptor (TX0 k).2.2.1 = some (tyX0 k) := by decide +kernel
abbrev cX0_init : ByteArray := prog_2_method_1_code
def yX0_init : MethodName := ⟨RX0, "<init>", "(LSudokuGrader$Shape;)V"⟩
abbrev cX0_start : ByteArray := prog_2_method_2_code
def yX0_start : MethodName := ⟨RX0, "start", "([I)V"⟩
abbrev cX0_has : ByteArray := prog_2_method_3_code
def yX0_has : MethodName := ⟨RX0, "has", "(I)Z"⟩
abbrev cX0_logAt : ByteArray := prog_2_method_4_code
def yX0_logAt : MethodName := ⟨RX0, "logAt", "(I)I"⟩
abbrev cX0_drop : ByteArray := prog_2_method_5_code
def yX0_drop : MethodName := ⟨RX0, "drop", "(I)V"⟩
abbrev cX0_undo : ByteArray := prog_2_method_6_code
def yX0_undo : MethodName := ⟨RX0, "undo", "(I)V"⟩
abbrev cX0_flip : ByteArray := prog_2_method_7_code
def yX0_flip : MethodName := ⟨RX0, "flip", "(I)V"⟩
def RX1 : String := "SudokuGrader$Chains"
def TX1 : u_T := fun k => match k with
  | 0 => ("SudokuGrader$Chains", "shape", "LSudokuGrader$Shape;", true)
  | 1 => ("SudokuGrader$Chains", "going", "LSudokuGrader$Going;", true)
  | 2 => ("SudokuGrader$Chains", "strong", "[I", true)
  | 3 => ("SudokuGrader$Chains", "strongCount", "[I", true)
  | 4 => ("SudokuGrader$Chains", "weak", "[I", true)
  | 5 => ("SudokuGrader$Chains", "weakCount", "I", false)
  | 6 => ("SudokuGrader$Chains", "weakToFirst", "[I", true)
  | 7 => ("SudokuGrader$Chains", "headSeen", "[I", true)
  | 8 => ("SudokuGrader$Chains", "tailSeen", "[I", true)
  | 9 => ("SudokuGrader$Chains", "tailBefore", "[I", true)
  | 10 => ("SudokuGrader$Chains", "headBefore", "[I", true)
  | 11 => ("SudokuGrader$Chains", "pairs", "[I", true)
  | 12 => ("SudokuGrader$Chains", "queue", "[I", true)
  | 13 => ("SudokuGrader$Chains", "queued", "I", false)
  | 14 => ("SudokuGrader$Chains", "stamp", "I", false)
  | 15 => ("SudokuGrader$Chains", "chain", "[I", true)
  | _ => ("SudokuGrader$Chains", "count", "I", false)
def tyX1 : Nat → FieldType := fun k => match k with
  | 0 => .object "SudokuGrader$Shape"
  | 1 => .object "SudokuGrader$Going"
  | 2 => .array .int
  | 3 => .array .int
  | 4 => .array .int
  | 5 => .int
  | 6 => .array .int
  | 7 => .array .int
  | 8 => .array .int
  | 9 => .array .int
  | 10 => .array .int
  | 11 => .array .int
  | 12 => .array .int
  | 13 => .int
  | 14 => .int
  | 15 => .array .int
  | _ => .int
abbrev wsX10 : List Cond := u_ws RX1 TX1 17
theorem nmX1 : ∀ a, a < 17 → ∀ b, b < 17 → a ≠ b → (TX1 a).2.1 ≠ (TX1 b).2.1 := by decide +kernel
theorem tyX1_ok : ∀ k, k < 17 → parseFieldDescriptor (TX1 k).2.2.1 = some (tyX1 k) := by decide +kernel
abbrev cX1_init : ByteArray := prog_3_method_1_code
def yX1_init : MethodName := ⟨RX1, "<init>", "(LSudokuGrader$Shape;LSudokuGrader$Going;)V"⟩
abbrev cX1_mark : ByteArray := prog_3_method_2_code
def yX1_mark : MethodName := ⟨RX1, "mark", "(LSudokuGrader$Board;[III)I"⟩
abbrev cX1_markFirst : ByteArray := prog_3_method_3_code
def yX1_markFirst : MethodName := ⟨RX1, "markFirst", "(LSudokuGrader$Board;)I"⟩
abbrev cX1_reach : ByteArray := prog_3_method_4_code
def yX1_reach : MethodName := ⟨RX1, "reach", "(LSudokuGrader$Board;II)I"⟩
abbrev cX1_meetsFirst : ByteArray := prog_3_method_5_code
def yX1_meetsFirst : MethodName := ⟨RX1, "meetsFirst", "()Z"⟩
abbrev cX1_addHeads : ByteArray := prog_3_method_6_code
def yX1_addHeads : MethodName := ⟨RX1, "addHeads", "(I)V"⟩
abbrev cX1_addTails : ByteArray := prog_3_method_7_code
def yX1_addTails : MethodName := ⟨RX1, "addTails", "(II)V"⟩
abbrev cX1_writeChain : ByteArray := prog_3_method_8_code
def yX1_writeChain : MethodName := ⟨RX1, "writeChain", "(I)V"⟩
abbrev cX1_listWeak : ByteArray := prog_3_method_9_code
def yX1_listWeak : MethodName := ⟨RX1, "listWeak", "(LSudokuGrader$Board;I)V"⟩
abbrev cX1_listAllStrong : ByteArray := prog_3_method_10_code
def yX1_listAllStrong : MethodName := ⟨RX1, "listAllStrong", "(LSudokuGrader$Board;)V"⟩
abbrev cX1_addStrongPair : ByteArray := prog_3_method_11_code
def yX1_addStrongPair : MethodName := ⟨RX1, "addStrongPair", "(II)V"⟩
abbrev cX1_addStrong : ByteArray := prog_3_method_12_code
def yX1_addStrong : MethodName := ⟨RX1, "addStrong", "(II)V"⟩
abbrev cX1_areWeak : ByteArray := prog_3_method_13_code
def yX1_areWeak : MethodName := ⟨RX1, "areWeak", "(LSudokuGrader$Board;II)Z"⟩
abbrev cX1_areStrong : ByteArray := prog_3_method_14_code
def yX1_areStrong : MethodName := ⟨RX1, "areStrong", "(LSudokuGrader$Board;II)Z"⟩
def RX2 : String := "SudokuGrader$Going"
def TX2 : u_T := fun k => match k with
  | 0 => ("SudokuGrader$Going", "shape", "LSudokuGrader$Shape;", true)
  | 1 => ("SudokuGrader$Going", "held", "[I", true)
  | _ => ("SudokuGrader$Going", "count", "I", false)
def tyX2 : Nat → FieldType := fun k => match k with
  | 0 => .object "SudokuGrader$Shape"
  | 1 => .array .int
  | _ => .int
abbrev wsX20 : List Cond := u_ws RX2 TX2 3
theorem nmX2 : ∀ a, a < 3 → ∀ b, b < 3 → a ≠ b → (TX2 a).2.1 ≠ (TX2 b).2.1 := by decide +kernel
theorem tyX2_ok : ∀ k, k < 3 → parseFieldDescriptor (TX2 k).2.2.1 = some (tyX2 k) := by decide +kernel
abbrev cX2_init : ByteArray := prog_4_method_1_code
def yX2_init : MethodName := ⟨RX2, "<init>", "(LSudokuGrader$Shape;)V"⟩
abbrev cX2_add : ByteArray := prog_4_method_2_code
def yX2_add : MethodName := ⟨RX2, "add", "(LSudokuGrader$Board;II)V"⟩
abbrev cX2_addPlaces : ByteArray := prog_4_method_3_code
def yX2_addPlaces : MethodName := ⟨RX2, "addPlaces", "(LSudokuGrader$Board;III)V"⟩
abbrev cX2_leave : ByteArray := prog_4_method_4_code
def yX2_leave : MethodName := ⟨RX2, "leave", "(LSudokuGrader$Board;)V"⟩
def RX3 : String := "SudokuGrader$Rules"
def TX3 : u_T := fun k => match k with
  | 0 => ("SudokuGrader$Rules", "shape", "LSudokuGrader$Shape;", true)
  | 1 => ("SudokuGrader$Rules", "going", "LSudokuGrader$Going;", true)
  | 2 => ("SudokuGrader$Rules", "subsets", "LSudokuGrader$Subsets;", true)
  | 3 => ("SudokuGrader$Rules", "foundP", "I", false)
  | _ => ("SudokuGrader$Rules", "foundQ", "I", false)
def tyX3 : Nat → FieldType := fun k => match k with
  | 0 => .object "SudokuGrader$Shape"
  | 1 => .object "SudokuGrader$Going"
  | 2 => .object "SudokuGrader$Subsets"
  | 3 => .int
  | _ => .int
abbrev wsX30 : List Cond := u_ws RX3 TX3 5
theorem nmX3 : ∀ a, a < 5 → ∀ b, b < 5 → a ≠ b → (TX3 a).2.1 ≠ (TX3 b).2.1 := by decide +kernel
theorem tyX3_ok : ∀ k, k < 5 → parseFieldDescriptor (TX3 k).2.2.1 = some (tyX3 k) := by decide +kernel
abbrev cX3_init : ByteArray := prog_5_method_1_code
def yX3_init : MethodName := ⟨RX3, "<init>", "(LSudokuGrader$Shape;LSudokuGrader$Going;)V"⟩
abbrev cX3_markFirst : ByteArray := prog_5_method_2_code
def yX3_markFirst : MethodName := ⟨RX3, "markFirst", "(LSudokuGrader$Board;I)I"⟩
abbrev cX3_markFirstSubset : ByteArray := prog_5_method_3_code
def yX3_markFirstSubset : MethodName := ⟨RX3, "markFirstSubset", "(LSudokuGrader$Board;I)I"⟩
abbrev cX3_mark : ByteArray := prog_5_method_4_code
def yX3_mark : MethodName := ⟨RX3, "mark", "(LSudokuGrader$Board;III)I"⟩
abbrev cX3_markSingle : ByteArray := prog_5_method_5_code
def yX3_markSingle : MethodName := ⟨RX3, "markSingle", "(LSudokuGrader$Board;II)V"⟩
abbrev cX3_markHidden : ByteArray := prog_5_method_6_code
def yX3_markHidden : MethodName := ⟨RX3, "markHidden", "(LSudokuGrader$Board;II)V"⟩
abbrev cX3_markPointing : ByteArray := prog_5_method_7_code
def yX3_markPointing : MethodName := ⟨RX3, "markPointing", "(LSudokuGrader$Board;II)V"⟩
abbrev cX3_markClaiming : ByteArray := prog_5_method_8_code
def yX3_markClaiming : MethodName := ⟨RX3, "markClaiming", "(LSudokuGrader$Board;II)V"⟩
abbrev cX3_markClaimed : ByteArray := prog_5_method_9_code
def yX3_markClaimed : MethodName := ⟨RX3, "markClaimed", "(LSudokuGrader$Board;III)V"⟩
def RX4 : String := "SudokuGrader$Shape"
def TX4 : u_T := fun k => match k with
  | 0 => ("SudokuGrader$Shape", "member", "[I", true)
  | 1 => ("SudokuGrader$Shape", "houseOf", "[I", true)
  | 2 => ("SudokuGrader$Shape", "positionOf", "[I", true)
  | _ => ("SudokuGrader$Shape", "near", "[I", true)
def tyX4 : Nat → FieldType := fun k => match k with
  | 0 => .array .int
  | 1 => .array .int
  | 2 => .array .int
  | _ => .array .int
abbrev wsX40 : List Cond := u_ws RX4 TX4 4
theorem nmX4 : ∀ a, a < 4 → ∀ b, b < 4 → a ≠ b → (TX4 a).2.1 ≠ (TX4 b).2.1 := by decide +kernel
theorem tyX4_ok : ∀ k, k < 4 → parseFieldDescriptor (TX4 k).2.2.1 = some (tyX4 k) := by decide +kernel
abbrev cX4_init : ByteArray := prog_6_method_1_code
def yX4_init : MethodName := ⟨RX4, "<init>", "()V"⟩
abbrev cX4_enter : ByteArray := prog_6_method_2_code
def yX4_enter : MethodName := ⟨RX4, "enter", "(IIII)V"⟩
abbrev cX4_listNear : ByteArray := prog_6_method_3_code
def yX4_listNear : MethodName := ⟨RX4, "listNear", "(I)V"⟩
abbrev cX4_shareHouse : ByteArray := prog_6_method_4_code
def yX4_shareHouse : MethodName := ⟨RX4, "shareHouse", "(II)Z"⟩
def RX5 : String := "SudokuGrader$Solver"
def TX5 : u_T := fun k => match k with
  | 0 => ("SudokuGrader$Solver", "shape", "LSudokuGrader$Shape;", true)
  | 1 => ("SudokuGrader$Solver", "board", "LSudokuGrader$Board;", true)
  | 2 => ("SudokuGrader$Solver", "events", "[I", true)
  | 3 => ("SudokuGrader$Solver", "eventCount", "I", false)
  | 4 => ("SudokuGrader$Solver", "dead", "Z", false)
  | 5 => ("SudokuGrader$Solver", "tryCell", "[I", true)
  | 6 => ("SudokuGrader$Solver", "tryLeft", "[I", true)
  | 7 => ("SudokuGrader$Solver", "tryMark", "[I", true)
  | 8 => ("SudokuGrader$Solver", "depth", "I", false)
  | 9 => ("SudokuGrader$Solver", "begun", "Z", false)
  | 10 => ("SudokuGrader$Solver", "ended", "Z", false)
  | 11 => ("SudokuGrader$Solver", "tries", "I", false)
  | 12 => ("SudokuGrader$Solver", "found", "I", false)
  | _ => ("SudokuGrader$Solver", "answers", "[I", true)
def tyX5 : Nat → FieldType := fun k => match k with
  | 0 => .object "SudokuGrader$Shape"
  | 1 => .object "SudokuGrader$Board"
  | 2 => .array .int
  | 3 => .int
  | 4 => .boolean
  | 5 => .array .int
  | 6 => .array .int
  | 7 => .array .int
  | 8 => .int
  | 9 => .boolean
  | 10 => .boolean
  | 11 => .int
  | 12 => .int
  | _ => .array .int
abbrev wsX50 : List Cond := u_ws RX5 TX5 14
theorem nmX5 : ∀ a, a < 14 → ∀ b, b < 14 → a ≠ b → (TX5 a).2.1 ≠ (TX5 b).2.1 := by decide +kernel
theorem tyX5_ok : ∀ k, k < 14 → parseFieldDescriptor (TX5 k).2.2.1 = some (tyX5 k) := by decide +kernel
abbrev cX5_init : ByteArray := prog_7_method_1_code
def yX5_init : MethodName := ⟨RX5, "<init>", "(LSudokuGrader$Shape;)V"⟩
abbrev cX5_forget : ByteArray := prog_7_method_2_code
def yX5_forget : MethodName := ⟨RX5, "forget", "()V"⟩
abbrev cX5_begin : ByteArray := prog_7_method_3_code
def yX5_begin : MethodName := ⟨RX5, "begin", "([I)V"⟩
abbrev cX5_tryNext : ByteArray := prog_7_method_4_code
def yX5_tryNext : MethodName := ⟨RX5, "tryNext", "()V"⟩
abbrev cX5_close : ByteArray := prog_7_method_5_code
def yX5_close : MethodName := ⟨RX5, "close", "()V"⟩
abbrev cX5_closeCell : ByteArray := prog_7_method_6_code
def yX5_closeCell : MethodName := ⟨RX5, "closeCell", "(I)V"⟩
abbrev cX5_closePlace : ByteArray := prog_7_method_7_code
def yX5_closePlace : MethodName := ⟨RX5, "closePlace", "(I)V"⟩
abbrev cX5_keepAlone : ByteArray := prog_7_method_8_code
def yX5_keepAlone : MethodName := ⟨RX5, "keepAlone", "(II)V"⟩
abbrev cX5_remove : ByteArray := prog_7_method_9_code
def yX5_remove : MethodName := ⟨RX5, "remove", "(II)V"⟩
abbrev cX5_noteCount : ByteArray := prog_7_method_10_code
def yX5_noteCount : MethodName := ⟨RX5, "noteCount", "(II)V"⟩
abbrev cX5_settle : ByteArray := prog_7_method_11_code
def yX5_settle : MethodName := ⟨RX5, "settle", "()V"⟩
abbrev cX5_fewest : ByteArray := prog_7_method_12_code
def yX5_fewest : MethodName := ⟨RX5, "fewest", "()I"⟩
abbrev cX5_keepAnswer : ByteArray := prog_7_method_13_code
def yX5_keepAnswer : MethodName := ⟨RX5, "keepAnswer", "()V"⟩
def RX6 : String := "SudokuGrader$Subsets"
def TX6 : u_T := fun k => match k with
  | 0 => ("SudokuGrader$Subsets", "shape", "LSudokuGrader$Shape;", true)
  | 1 => ("SudokuGrader$Subsets", "going", "LSudokuGrader$Going;", true)
  | _ => ("SudokuGrader$Subsets", "masks", "[I", true)
def tyX6 : Nat → FieldType := fun k => match k with
  | 0 => .object "SudokuGrader$Shape"
  | 1 => .object "SudokuGrader$Going"
  | _ => .array .int
abbrev wsX60 : List Cond := u_ws RX6 TX6 3
theorem nmX6 : ∀ a, a < 3 → ∀ b, b < 3 → a ≠ b → (TX6 a).2.1 ≠ (TX6 b).2.1 := by decide +kernel
theorem tyX6_ok : ∀ k, k < 3 → parseFieldDescriptor (TX6 k).2.2.1 = some (tyX6 k) := by decide +kernel
abbrev cX6_init : ByteArray := prog_8_method_1_code
def yX6_init : MethodName := ⟨RX6, "<init>", "(LSudokuGrader$Shape;LSudokuGrader$Going;)V"⟩
abbrev cX6_first : ByteArray := prog_8_method_2_code
def yX6_first : MethodName := ⟨RX6, "first", "(LSudokuGrader$Board;II)I"⟩
abbrev cX6_mark : ByteArray := prog_8_method_3_code
def yX6_mark : MethodName := ⟨RX6, "mark", "(LSudokuGrader$Board;III)I"⟩
abbrev cX6_markFrom : ByteArray := prog_8_method_4_code
def yX6_markFrom : MethodName := ⟨RX6, "markFrom", "(LSudokuGrader$Board;IIII)V"⟩
abbrev cX6_load : ByteArray := prog_8_method_5_code
def yX6_load : MethodName := ⟨RX6, "load", "(LSudokuGrader$Board;II)Z"⟩
abbrev cX6_fishDigit : ByteArray := prog_8_method_6_code
def yX6_fishDigit : MethodName := ⟨RX6, "fishDigit", "(I)I"⟩
abbrev cX6_baseLine : ByteArray := prog_8_method_7_code
def yX6_baseLine : MethodName := ⟨RX6, "baseLine", "(II)I"⟩
abbrev cX6_pick : ByteArray := prog_8_method_8_code
def yX6_pick : MethodName := ⟨RX6, "pick", "([IIIIII)I"⟩
abbrev cX6_touchesOthers : ByteArray := prog_8_method_9_code
def yX6_touchesOthers : MethodName := ⟨RX6, "touchesOthers", "([III)Z"⟩
def RX7 : String := "SudokuGrader$Trace"
def TX7 : u_T := fun k => match k with
  | 0 => ("SudokuGrader$Trace", "rule", "[I", true)
  | 1 => ("SudokuGrader$Trace", "p", "[I", true)
  | 2 => ("SudokuGrader$Trace", "q", "[I", true)
  | 3 => ("SudokuGrader$Trace", "goneFrom", "[I", true)
  | 4 => ("SudokuGrader$Trace", "went", "[I", true)
  | 5 => ("SudokuGrader$Trace", "linkFrom", "[I", true)
  | 6 => ("SudokuGrader$Trace", "linkCount", "[I", true)
  | 7 => ("SudokuGrader$Trace", "links", "[I", true)
  | 8 => ("SudokuGrader$Trace", "linked", "I", false)
  | 9 => ("SudokuGrader$Trace", "size", "I", false)
  | 10 => ("SudokuGrader$Trace", "score", "I", false)
  | _ => ("SudokuGrader$Trace", "level", "I", false)
def tyX7 : Nat → FieldType := fun k => match k with
  | 0 => .array .int
  | 1 => .array .int
  | 2 => .array .int
  | 3 => .array .int
  | 4 => .array .int
  | 5 => .array .int
  | 6 => .array .int
  | 7 => .array .int
  | 8 => .int
  | 9 => .int
  | 10 => .int
  | _ => .int
abbrev wsX70 : List Cond := u_ws RX7 TX7 12
theorem nmX7 : ∀ a, a < 12 → ∀ b, b < 12 → a ≠ b → (TX7 a).2.1 ≠ (TX7 b).2.1 := by decide +kernel
theorem tyX7_ok : ∀ k, k < 12 → parseFieldDescriptor (TX7 k).2.2.1 = some (tyX7 k) := by decide +kernel
abbrev cX7_init : ByteArray := prog_9_method_1_code
def yX7_init : MethodName := ⟨RX7, "<init>", "()V"⟩
abbrev cX7_forget : ByteArray := prog_9_method_2_code
def yX7_forget : MethodName := ⟨RX7, "forget", "()V"⟩
abbrev cX7_has : ByteArray := prog_9_method_3_code
def yX7_has : MethodName := ⟨RX7, "has", "(I)Z"⟩
abbrev cX7_linkAt : ByteArray := prog_9_method_4_code
def yX7_linkAt : MethodName := ⟨RX7, "linkAt", "(I)I"⟩
abbrev cX7_write : ByteArray := prog_9_method_5_code
def yX7_write : MethodName := ⟨RX7, "write", "(IIIII)V"⟩
abbrev cX7_writeLinks : ByteArray := prog_9_method_6_code
def yX7_writeLinks : MethodName := ⟨RX7, "writeLinks", "([II)V"⟩
def RX8 : String := "SudokuGrader"
def TX8 : u_T := fun k => match k with
  | 0 => ("SudokuGrader", "given", "[I", true)
  | 1 => ("SudokuGrader", "now", "LSudokuGrader$Board;", true)
  | 2 => ("SudokuGrader", "checked", "LSudokuGrader$Board;", true)
  | 3 => ("SudokuGrader", "going", "LSudokuGrader$Going;", true)
  | 4 => ("SudokuGrader", "rules", "LSudokuGrader$Rules;", true)
  | 5 => ("SudokuGrader", "chains", "LSudokuGrader$Chains;", true)
  | 6 => ("SudokuGrader", "trace", "LSudokuGrader$Trace;", true)
  | 7 => ("SudokuGrader", "solver", "LSudokuGrader$Solver;", true)
  | 8 => ("SudokuGrader", "putNodes", "[I", true)
  | 9 => ("SudokuGrader", "putCount", "I", false)
  | _ => ("SudokuGrader", "gradingEnded", "Z", false)
def tyX8 : Nat → FieldType := fun k => match k with
  | 0 => .array .int
  | 1 => .object "SudokuGrader$Board"
  | 2 => .object "SudokuGrader$Board"
  | 3 => .object "SudokuGrader$Going"
  | 4 => .object "SudokuGrader$Rules"
  | 5 => .object "SudokuGrader$Chains"
  | 6 => .object "SudokuGrader$Trace"
  | 7 => .object "SudokuGrader$Solver"
  | 8 => .array .int
  | 9 => .int
  | _ => .boolean
abbrev wsX80 : List Cond := u_ws RX8 TX8 11
theorem nmX8 : ∀ a, a < 11 → ∀ b, b < 11 → a ≠ b → (TX8 a).2.1 ≠ (TX8 b).2.1 := by decide +kernel
theorem tyX8_ok : ∀ k, k < 11 → parseFieldDescriptor (TX8 k).2.2.1 = some (tyX8 k) := by decide +kernel
abbrev cX8_init : ByteArray := prog_1_method_1_code
def yX8_init : MethodName := ⟨RX8, "<init>", "()V"⟩
abbrev cX8_give : ByteArray := prog_1_method_2_code
def yX8_give : MethodName := ⟨RX8, "give", "(II)Z"⟩
abbrev cX8_row : ByteArray := prog_1_method_3_code
def yX8_row : MethodName := ⟨RX8, "row", "(II)Z"⟩
abbrev cX8_grade : ByteArray := prog_1_method_4_code
def yX8_grade : MethodName := ⟨RX8, "grade", "(I)I"⟩
abbrev cX8_candidates : ByteArray := prog_1_method_5_code
def yX8_candidates : MethodName := ⟨RX8, "candidates", "(II)I"⟩
abbrev cX8_told : ByteArray := prog_1_method_6_code
def yX8_told : MethodName := ⟨RX8, "told", "(I)I"⟩
abbrev cX8_step : ByteArray := prog_1_method_7_code
def yX8_step : MethodName := ⟨RX8, "step", "(II)I"⟩
abbrev cX8_gone : ByteArray := prog_1_method_8_code
def yX8_gone : MethodName := ⟨RX8, "gone", "(II)I"⟩
abbrev cX8_link : ByteArray := prog_1_method_9_code
def yX8_link : MethodName := ⟨RX8, "link", "(II)I"⟩
abbrev cX8_node : ByteArray := prog_1_method_10_code
def yX8_node : MethodName := ⟨RX8, "node", "(I)I"⟩
abbrev cX8_claim : ByteArray := prog_1_method_11_code
def yX8_claim : MethodName := ⟨RX8, "claim", "(III)I"⟩
abbrev cX8_replay : ByteArray := prog_1_method_12_code
def yX8_replay : MethodName := ⟨RX8, "replay", "(I)I"⟩
abbrev cX8_search : ByteArray := prog_1_method_13_code
def yX8_search : MethodName := ⟨RX8, "search", "(I)I"⟩
abbrev cX8_searched : ByteArray := prog_1_method_14_code
def yX8_searched : MethodName := ⟨RX8, "searched", "(I)I"⟩
abbrev cX8_solution : ByteArray := prog_1_method_15_code
def yX8_solution : MethodName := ⟨RX8, "solution", "(II)I"⟩
abbrev cX8_startAnew : ByteArray := prog_1_method_16_code
def yX8_startAnew : MethodName := ⟨RX8, "startAnew", "()V"⟩
abbrev cX8_takeFirstStep : ByteArray := prog_1_method_17_code
def yX8_takeFirstStep : MethodName := ⟨RX8, "takeFirstStep", "()Z"⟩
abbrev cX8_claimWritten : ByteArray := prog_1_method_18_code
def yX8_claimWritten : MethodName := ⟨RX8, "claimWritten", "(I)I"⟩
abbrev cX8_takenAway : ByteArray := prog_1_method_19_code
def yX8_takenAway : MethodName := ⟨RX8, "takenAway", "(I)I"⟩
abbrev cX8_isCell : ByteArray := prog_1_method_20_code
def yX8_isCell : MethodName := ⟨RX8, "isCell", "(I)Z"⟩
abbrev cX8_atFirst : ByteArray := prog_1_method_21_code
def yX8_atFirst : MethodName := ⟨RX8, "atFirst", "(I)I"⟩
abbrev cX8_isOneBit : ByteArray := prog_1_method_22_code
def yX8_isOneBit : MethodName := ⟨RX8, "isOneBit", "(I)Z"⟩
abbrev cX8_placeOf : ByteArray := prog_1_method_23_code
def yX8_placeOf : MethodName := ⟨RX8, "placeOf", "(I)I"⟩
def RX9 : String := "SudokuGraderModel"
def TX9 : u_T := fun k => match k with
  | 0 => ("SudokuGraderModel", "given", "[I", true)
  | 1 => ("SudokuGraderModel", "first", "[I", true)
  | 2 => ("SudokuGraderModel", "now", "[I", true)
  | 3 => ("SudokuGraderModel", "checker", "[I", true)
  | 4 => ("SudokuGraderModel", "gone", "[I", true)
  | 5 => ("SudokuGraderModel", "weak", "[J", true)
  | 6 => ("SudokuGraderModel", "strong", "[J", true)
  | 7 => ("SudokuGraderModel", "there", "[I", true)
  | 8 => ("SudokuGraderModel", "thereMany", "I", false)
  | 9 => ("SudokuGraderModel", "good", "[J", true)
  | 10 => ("SudokuGraderModel", "begins", "[J", true)
  | 11 => ("SudokuGraderModel", "some", "[J", true)
  | 12 => ("SudokuGraderModel", "layer", "[J", true)
  | 13 => ("SudokuGraderModel", "row", "[I", true)
  | 14 => ("SudokuGraderModel", "sRule", "[I", true)
  | 15 => ("SudokuGraderModel", "sP", "[I", true)
  | 16 => ("SudokuGraderModel", "sQ", "[I", true)
  | 17 => ("SudokuGraderModel", "sGone", "[I", true)
  | 18 => ("SudokuGraderModel", "sFrom", "[I", true)
  | 19 => ("SudokuGraderModel", "sLinks", "[I", true)
  | 20 => ("SudokuGraderModel", "went", "[I", true)
  | 21 => ("SudokuGraderModel", "links", "[I", true)
  | 22 => ("SudokuGraderModel", "steps", "I", false)
  | 23 => ("SudokuGraderModel", "wentAll", "I", false)
  | 24 => ("SudokuGraderModel", "score", "I", false)
  | 25 => ("SudokuGraderModel", "level", "I", false)
  | 26 => ("SudokuGraderModel", "isEnded", "Z", false)
  | 27 => ("SudokuGraderModel", "fP", "I", false)
  | 28 => ("SudokuGraderModel", "fQ", "I", false)
  | 29 => ("SudokuGraderModel", "fMany", "I", false)
  | 30 => ("SudokuGraderModel", "nodes", "[I", true)
  | 31 => ("SudokuGraderModel", "put", "I", false)
  | 32 => ("SudokuGraderModel", "level1", "[I", true)
  | 33 => ("SudokuGraderModel", "cellAt", "[I", true)
  | 34 => ("SudokuGraderModel", "triedAt", "[I", true)
  | 35 => ("SudokuGraderModel", "work", "[I", true)
  | 36 => ("SudokuGraderModel", "solved", "[I", true)
  | 37 => ("SudokuGraderModel", "solutions", "I", false)
  | 38 => ("SudokuGraderModel", "tries", "I", false)
  | 39 => ("SudokuGraderModel", "depth", "I", false)
  | 40 => ("SudokuGraderModel", "isBegun", "Z", false)
  | _ => ("SudokuGraderModel", "isOver", "Z", false)
def tyX9 : Nat → FieldType := fun k => match k with
  | 0 => .array .int
  | 1 => .array .int
  | 2 => .array .int
  | 3 => .array .int
  | 4 => .array .int
  | 5 => .array .long
  | 6 => .array .long
  | 7 => .array .int
  | 8 => .int
  | 9 => .array .long
  | 10 => .array .long
  | 11 => .array .long
  | 12 => .array .long
  | 13 => .array .int
  | 14 => .array .int
  | 15 => .array .int
  | 16 => .array .int
  | 17 => .array .int
  | 18 => .array .int
  | 19 => .array .int
  | 20 => .array .int
  | 21 => .array .int
  | 22 => .int
  | 23 => .int
  | 24 => .int
  | 25 => .int
  | 26 => .boolean
  | 27 => .int
  | 28 => .int
  | 29 => .int
  | 30 => .array .int
  | 31 => .int
  | 32 => .array .int
  | 33 => .array .int
  | 34 => .array .int
  | 35 => .array .int
  | 36 => .array .int
  | 37 => .int
  | 38 => .int
  | 39 => .int
  | 40 => .boolean
  | _ => .boolean
abbrev wsX90 : List Cond := u_ws RX9 TX9 42
theorem nmX9 : ∀ a, a < 42 → ∀ b, b < 42 → a ≠ b → (TX9 a).2.1 ≠ (TX9 b).2.1 := by decide +kernel
theorem tyX9_ok : ∀ k, k < 42 → parseFieldDescriptor (TX9 k).2.2.1 = some (tyX9 k) := by decide +kernel
abbrev cX9_init : ByteArray := prog_11_method_1_code
def yX9_init : MethodName := ⟨RX9, "<init>", "()V"⟩
abbrev cX9_in : ByteArray := prog_11_method_2_code
def yX9_in : MethodName := ⟨RX9, "in", "(III)Z"⟩
abbrev cX9_cellOf : ByteArray := prog_11_method_3_code
def yX9_cellOf : MethodName := ⟨RX9, "cellOf", "(II)I"⟩
abbrev cX9_houseOf : ByteArray := prog_11_method_4_code
def yX9_houseOf : MethodName := ⟨RX9, "houseOf", "(II)I"⟩
abbrev cX9_isIn : ByteArray := prog_11_method_5_code
def yX9_isIn : MethodName := ⟨RX9, "isIn", "(II)Z"⟩
abbrev cX9_arePeers : ByteArray := prog_11_method_6_code
def yX9_arePeers : MethodName := ⟨RX9, "arePeers", "(II)Z"⟩
abbrev cX9_bits : ByteArray := prog_11_method_7_code
def yX9_bits : MethodName := ⟨RX9, "bits", "(I)I"⟩
abbrev cX9_begin : ByteArray := prog_11_method_8_code
def yX9_begin : MethodName := ⟨RX9, "begin", "()V"⟩
abbrev cX9_give : ByteArray := prog_11_method_9_code
def yX9_give : MethodName := ⟨RX9, "give", "(II)Z"⟩
abbrev cX9_row : ByteArray := prog_11_method_10_code
def yX9_row : MethodName := ⟨RX9, "row", "(II)Z"⟩
abbrev cX9_clear : ByteArray := prog_11_method_11_code
def yX9_clear : MethodName := ⟨RX9, "clear", "()V"⟩
abbrev cX9_there : ByteArray := prog_11_method_12_code
def yX9_there : MethodName := ⟨RX9, "there", "([I)I"⟩
abbrev cX9_sizeOf : ByteArray := prog_11_method_13_code
def yX9_sizeOf : MethodName := ⟨RX9, "sizeOf", "(I)I"⟩
abbrev cX9_instance : ByteArray := prog_11_method_14_code
def yX9_instance : MethodName := ⟨RX9, "instance", "([IIII)I"⟩
abbrev cX9_single : ByteArray := prog_11_method_15_code
def yX9_single : MethodName := ⟨RX9, "single", "([III)Z"⟩
abbrev cX9_placesOf : ByteArray := prog_11_method_16_code
def yX9_placesOf : MethodName := ⟨RX9, "placesOf", "([III)I"⟩
abbrev cX9_hiddenOne : ByteArray := prog_11_method_17_code
def yX9_hiddenOne : MethodName := ⟨RX9, "hiddenOne", "([III)Z"⟩
abbrev cX9_pointing : ByteArray := prog_11_method_18_code
def yX9_pointing : MethodName := ⟨RX9, "pointing", "([III)Z"⟩
abbrev cX9_claiming : ByteArray := prog_11_method_19_code
def yX9_claiming : MethodName := ⟨RX9, "claiming", "([III)Z"⟩
abbrev cX9_naked : ByteArray := prog_11_method_20_code
def yX9_naked : MethodName := ⟨RX9, "naked", "([IIII)Z"⟩
abbrev cX9_hidden : ByteArray := prog_11_method_21_code
def yX9_hidden : MethodName := ⟨RX9, "hidden", "([IIII)Z"⟩
abbrev cX9_fish : ByteArray := prog_11_method_22_code
def yX9_fish : MethodName := ⟨RX9, "fish", "([IIII)Z"⟩
abbrev cX9_has : ByteArray := prog_11_method_23_code
def yX9_has : MethodName := ⟨RX9, "has", "([JII)Z"⟩
abbrev cX9_add : ByteArray := prog_11_method_24_code
def yX9_add : MethodName := ⟨RX9, "add", "([JII)V"⟩
abbrev cX9_isWeak : ByteArray := prog_11_method_25_code
def yX9_isWeak : MethodName := ⟨RX9, "isWeak", "([III)Z"⟩
abbrev cX9_isThere : ByteArray := prog_11_method_26_code
def yX9_isThere : MethodName := ⟨RX9, "isThere", "([II)Z"⟩
abbrev cX9_isStrong : ByteArray := prog_11_method_27_code
def yX9_isStrong : MethodName := ⟨RX9, "isStrong", "([III)Z"⟩
abbrev cX9_links : ByteArray := prog_11_method_28_code
def yX9_links : MethodName := ⟨RX9, "links", "([I)V"⟩
abbrev cX9_link : ByteArray := prog_11_method_29_code
def yX9_link : MethodName := ⟨RX9, "link", "([III)V"⟩
abbrev cX9_goesBy : ByteArray := prog_11_method_30_code
def yX9_goesBy : MethodName := ⟨RX9, "goesBy", "(II)Z"⟩
abbrev cX9_image : ByteArray := prog_11_method_31_code
def yX9_image : MethodName := ⟨RX9, "image", "([JI[J[JI)V"⟩
abbrev cX9_chain : ByteArray := prog_11_method_32_code
def yX9_chain : MethodName := ⟨RX9, "chain", "([I)I"⟩
abbrev cX9_rowOf : ByteArray := prog_11_method_33_code
def yX9_rowOf : MethodName := ⟨RX9, "rowOf", "(II)V"⟩
abbrev cX9_byRow : ByteArray := prog_11_method_34_code
def yX9_byRow : MethodName := ⟨RX9, "byRow", "([I[III)I"⟩
abbrev cX9_weight : ByteArray := prog_11_method_35_code
def yX9_weight : MethodName := ⟨RX9, "weight", "(I)I"⟩
abbrev cX9_found : ByteArray := prog_11_method_36_code
def yX9_found : MethodName := ⟨RX9, "found", "([IIII)Z"⟩
abbrev cX9_findsOne : ByteArray := prog_11_method_37_code
def yX9_findsOne : MethodName := ⟨RX9, "findsOne", "([II)Z"⟩
abbrev cX9_findsSome : ByteArray := prog_11_method_38_code
def yX9_findsSome : MethodName := ⟨RX9, "findsSome", "([II)Z"⟩
abbrev cX9_stepped : ByteArray := prog_11_method_39_code
def yX9_stepped : MethodName := ⟨RX9, "stepped", "()Z"⟩
abbrev cX9_takes : ByteArray := prog_11_method_40_code
def yX9_takes : MethodName := ⟨RX9, "takes", "(II)V"⟩
abbrev cX9_goes : ByteArray := prog_11_method_41_code
def yX9_goes : MethodName := ⟨RX9, "goes", "([I)V"⟩
abbrev cX9_grade : ByteArray := prog_11_method_42_code
def yX9_grade : MethodName := ⟨RX9, "grade", "(I)I"⟩
abbrev cX9_candidates : ByteArray := prog_11_method_43_code
def yX9_candidates : MethodName := ⟨RX9, "candidates", "(II)I"⟩
abbrev cX9_told : ByteArray := prog_11_method_44_code
def yX9_told : MethodName := ⟨RX9, "told", "(I)I"⟩
abbrev cX9_step : ByteArray := prog_11_method_45_code
def yX9_step : MethodName := ⟨RX9, "step", "(II)I"⟩
abbrev cX9_gone : ByteArray := prog_11_method_46_code
def yX9_gone : MethodName := ⟨RX9, "gone", "(II)I"⟩
abbrev cX9_link_ : ByteArray := prog_11_method_47_code
def yX9_link_ : MethodName := ⟨RX9, "link", "(II)I"⟩
abbrev cX9_node : ByteArray := prog_11_method_48_code
def yX9_node : MethodName := ⟨RX9, "node", "(I)I"⟩
abbrev cX9_claim : ByteArray := prog_11_method_49_code
def yX9_claim : MethodName := ⟨RX9, "claim", "(III)I"⟩
abbrev cX9_replay : ByteArray := prog_11_method_50_code
def yX9_replay : MethodName := ⟨RX9, "replay", "(I)I"⟩
abbrev cX9_closes : ByteArray := prog_11_method_51_code
def yX9_closes : MethodName := ⟨RX9, "closes", "()V"⟩
abbrev cX9_isDead : ByteArray := prog_11_method_52_code
def yX9_isDead : MethodName := ⟨RX9, "isDead", "()Z"⟩
abbrev cX9_meets : ByteArray := prog_11_method_53_code
def yX9_meets : MethodName := ⟨RX9, "meets", "()V"⟩
abbrev cX9_leaves : ByteArray := prog_11_method_54_code
def yX9_leaves : MethodName := ⟨RX9, "leaves", "()V"⟩
abbrev cX9_search : ByteArray := prog_11_method_55_code
def yX9_search : MethodName := ⟨RX9, "search", "(I)I"⟩
abbrev cX9_searched : ByteArray := prog_11_method_56_code
def yX9_searched : MethodName := ⟨RX9, "searched", "(I)I"⟩
abbrev cX9_solution : ByteArray := prog_11_method_57_code
def yX9_solution : MethodName := ⟨RX9, "solution", "(II)I"⟩
def RJ6 : String := "java/lang/Integer"
def TJ6 : u_T := fun k => match k with
  | _ => ("", "", "", false)
def tyJ6 : Nat → FieldType := fun k => match k with
  | _ => .int
abbrev wsJ60 : List Cond := u_ws RJ6 TJ6 0
theorem nmJ6 : ∀ a, a < 0 → ∀ b, b < 0 → a ≠ b → (TJ6 a).2.1 ≠ (TJ6 b).2.1 := by decide +kernel
theorem tyJ6_ok : ∀ k, k < 0 → parseFieldDescriptor (TJ6 k).2.2.1 = some (tyJ6 k) := by decide +kernel
abbrev cJ6_bitCount_0f7a4 : ByteArray := prog_12_method_49_code
def yJ6_bitCount_0f7a4 : MethodName := ⟨RJ6, "bitCount", "(I)I"⟩
def RJ9 : String := "java/lang/Math"
def TJ9 : u_T := fun k => match k with
  | _ => ("", "", "", false)
def tyJ9 : Nat → FieldType := fun k => match k with
  | _ => .int
abbrev wsJ90 : List Cond := u_ws RJ9 TJ9 0
theorem nmJ9 : ∀ a, a < 0 → ∀ b, b < 0 → a ≠ b → (TJ9 a).2.1 ≠ (TJ9 b).2.1 := by decide +kernel
theorem tyJ9_ok : ∀ k, k < 0 → parseFieldDescriptor (TJ9 k).2.2.1 = some (tyJ9 k) := by decide +kernel
abbrev cJ9_max_7cf53 : ByteArray := prog_13_method_65_code
def yJ9_max_7cf53 : MethodName := ⟨RJ9, "max", "(II)I"⟩
def RJ7 : String := "java/util/Arrays"
def TJ7 : u_T := fun k => match k with
  | _ => ("", "", "", false)
def tyJ7 : Nat → FieldType := fun k => match k with
  | _ => .int
abbrev wsJ70 : List Cond := u_ws RJ7 TJ7 0
theorem nmJ7 : ∀ a, a < 0 → ∀ b, b < 0 → a ≠ b → (TJ7 a).2.1 ≠ (TJ7 b).2.1 := by decide +kernel
theorem tyJ7_ok : ∀ k, k < 0 → parseFieldDescriptor (TJ7 k).2.2.1 = some (tyJ7 k) := by decide +kernel
abbrev cJ7_fill_53178 : ByteArray := prog_14_method_103_code
def yJ7_fill_53178 : MethodName := ⟨RJ7, "fill", "([II)V"⟩
def RL : String := "SudokuGraderLaw"
abbrev cL_law : ByteArray := code
def yL_law : MethodName := ⟨RL, "law", "([I)Z"⟩
abbrev vwCl : List vw_C := [(RX0, TX0, 5), (RX1, TX1, 17), (RX2, TX2, 3), (RX3, TX3, 5), (RX4, TX4, 4), (RX5, TX5, 14), (RX6, TX6, 3), (RX7, TX7, 12), (RX8, TX8, 11), (RX9, TX9, 42)]
