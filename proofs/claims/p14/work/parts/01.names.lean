-- ===== PART A: goes FIRST, ahead of the names: the tables' words, and 'selects' of the private methods out of them =====
/-- a private method of a class that the tables say can be made, by its rows of tables_1 -/
def lw_okq (q : MethodName × Nat) : Prop := (q.1.cls ≠ "java/lang/invoke/MethodHandle" ∧ q.1.cls ≠ "java/lang/invoke/VarHandle") ∧ Cond.instantiable q.1.cls q.2 ∈ tables_1 ∧ Cond.privateMethod q.1 ∈ tables_1 ∧ Cond.instanceMethod q.1 ∈ tables_1
theorem lw_p0 : lw_okq (⟨"ProofFine$Tape", "passRun", "(II)Z"⟩, 4) := ⟨⟨by decide +kernel, by decide +kernel⟩, List.mem_of_getElem? (i := 137) (by decide +kernel), List.mem_of_getElem? (i := 284) (by decide +kernel), List.mem_of_getElem? (i := 285) (by decide +kernel)⟩
theorem lw_p1 : lw_okq (⟨"ProofFine$Teller", "checkPlaces", "(LProofFine$World;)V"⟩, 5) := ⟨⟨by decide +kernel, by decide +kernel⟩, List.mem_of_getElem? (i := 131) (by decide +kernel), List.mem_of_getElem? (i := 288) (by decide +kernel), List.mem_of_getElem? (i := 289) (by decide +kernel)⟩
theorem lw_p2 : lw_okq (⟨"ProofFine$Teller", "refuse", "(II)V"⟩, 5) := ⟨⟨by decide +kernel, by decide +kernel⟩, List.mem_of_getElem? (i := 131) (by decide +kernel), List.mem_of_getElem? (i := 296) (by decide +kernel), List.mem_of_getElem? (i := 297) (by decide +kernel)⟩
theorem lw_p3 : lw_okq (⟨"ProofFine$Teller", "takeLine", "(ILProofFine$World;)V"⟩, 5) := ⟨⟨by decide +kernel, by decide +kernel⟩, List.mem_of_getElem? (i := 131) (by decide +kernel), List.mem_of_getElem? (i := 300) (by decide +kernel), List.mem_of_getElem? (i := 301) (by decide +kernel)⟩
theorem lw_p4 : lw_okq (⟨"ProofFine$Teller", "expect", "(II)Z"⟩, 5) := ⟨⟨by decide +kernel, by decide +kernel⟩, List.mem_of_getElem? (i := 131) (by decide +kernel), List.mem_of_getElem? (i := 304) (by decide +kernel), List.mem_of_getElem? (i := 305) (by decide +kernel)⟩
theorem lw_p5 : lw_okq (⟨"ProofFine$Teller", "lineOf", "()I"⟩, 5) := ⟨⟨by decide +kernel, by decide +kernel⟩, List.mem_of_getElem? (i := 131) (by decide +kernel), List.mem_of_getElem? (i := 308) (by decide +kernel), List.mem_of_getElem? (i := 309) (by decide +kernel)⟩
theorem lw_p6 : lw_okq (⟨"ProofFine$Teller", "hasNoRoom", "(ILProofFine$World;)Z"⟩, 5) := ⟨⟨by decide +kernel, by decide +kernel⟩, List.mem_of_getElem? (i := 131) (by decide +kernel), List.mem_of_getElem? (i := 375) (by decide +kernel), List.mem_of_getElem? (i := 376) (by decide +kernel)⟩
theorem lw_p7 : lw_okq (⟨"ProofFine$Teller", "takeNumbers", "(I)Z"⟩, 5) := ⟨⟨by decide +kernel, by decide +kernel⟩, List.mem_of_getElem? (i := 131) (by decide +kernel), List.mem_of_getElem? (i := 379) (by decide +kernel), List.mem_of_getElem? (i := 380) (by decide +kernel)⟩
theorem lw_p8 : lw_okq (⟨"ProofFine$Teller", "enter", "(ILProofFine$World;)V"⟩, 5) := ⟨⟨by decide +kernel, by decide +kernel⟩, List.mem_of_getElem? (i := 131) (by decide +kernel), List.mem_of_getElem? (i := 390) (by decide +kernel), List.mem_of_getElem? (i := 391) (by decide +kernel)⟩
theorem lw_p9 : lw_okq (⟨"ProofFine", "mayBecome", "(II)Z"⟩, 10) := ⟨⟨by decide +kernel, by decide +kernel⟩, List.mem_of_getElem? (i := 16) (by decide +kernel), List.mem_of_getElem? (i := 455) (by decide +kernel), List.mem_of_getElem? (i := 456) (by decide +kernel)⟩
theorem lw_p10 : lw_okq (⟨"ProofFine", "addFound", "(IIII)I"⟩, 10) := ⟨⟨by decide +kernel, by decide +kernel⟩, List.mem_of_getElem? (i := 16) (by decide +kernel), List.mem_of_getElem? (i := 471) (by decide +kernel), List.mem_of_getElem? (i := 472) (by decide +kernel)⟩
theorem lw_p11 : lw_okq (⟨"ProofFine$World", "takeTurn", "(I)V"⟩, 16) := ⟨⟨by decide +kernel, by decide +kernel⟩, List.mem_of_getElem? (i := 24) (by decide +kernel), List.mem_of_getElem? (i := 500) (by decide +kernel), List.mem_of_getElem? (i := 501) (by decide +kernel)⟩
theorem lw_p12 : lw_okq (⟨"ProofFine$World", "firstLyingAt", "(I)I"⟩, 16) := ⟨⟨by decide +kernel, by decide +kernel⟩, List.mem_of_getElem? (i := 24) (by decide +kernel), List.mem_of_getElem? (i := 504) (by decide +kernel), List.mem_of_getElem? (i := 505) (by decide +kernel)⟩
theorem lw_p13 : lw_okq (⟨"ProofFine$World", "handOn", "(II)V"⟩, 16) := ⟨⟨by decide +kernel, by decide +kernel⟩, List.mem_of_getElem? (i := 24) (by decide +kernel), List.mem_of_getElem? (i := 509) (by decide +kernel), List.mem_of_getElem? (i := 510) (by decide +kernel)⟩
theorem lw_p14 : lw_okq (⟨"ProofFine$World", "fineAll", "()V"⟩, 16) := ⟨⟨by decide +kernel, by decide +kernel⟩, List.mem_of_getElem? (i := 24) (by decide +kernel), List.mem_of_getElem? (i := 513) (by decide +kernel), List.mem_of_getElem? (i := 514) (by decide +kernel)⟩
theorem lw_p15 : lw_okq (⟨"ProofFine", "fromNow", "()LProofFine$World;"⟩, 10) := ⟨⟨by decide +kernel, by decide +kernel⟩, List.mem_of_getElem? (i := 16) (by decide +kernel), List.mem_of_getElem? (i := 521) (by decide +kernel), List.mem_of_getElem? (i := 522) (by decide +kernel)⟩
def lw_privs_1 : List (MethodName × Nat) := [(⟨"ProofFine$Tape", "passRun", "(II)Z"⟩, 4), (⟨"ProofFine$Teller", "checkPlaces", "(LProofFine$World;)V"⟩, 5), (⟨"ProofFine$Teller", "refuse", "(II)V"⟩, 5), (⟨"ProofFine$Teller", "takeLine", "(ILProofFine$World;)V"⟩, 5), (⟨"ProofFine$Teller", "expect", "(II)Z"⟩, 5), (⟨"ProofFine$Teller", "lineOf", "()I"⟩, 5), (⟨"ProofFine$Teller", "hasNoRoom", "(ILProofFine$World;)Z"⟩, 5), (⟨"ProofFine$Teller", "takeNumbers", "(I)Z"⟩, 5), (⟨"ProofFine$Teller", "enter", "(ILProofFine$World;)V"⟩, 5), (⟨"ProofFine", "mayBecome", "(II)Z"⟩, 10), (⟨"ProofFine", "addFound", "(IIII)I"⟩, 10), (⟨"ProofFine$World", "takeTurn", "(I)V"⟩, 16), (⟨"ProofFine$World", "firstLyingAt", "(I)I"⟩, 16), (⟨"ProofFine$World", "handOn", "(II)V"⟩, 16), (⟨"ProofFine$World", "fineAll", "()V"⟩, 16), (⟨"ProofFine", "fromNow", "()LProofFine$World;"⟩, 10)]
theorem lw_r1 : ∀ q ∈ lw_privs_1, lw_okq q := List.forall_mem_cons.mpr ⟨lw_p0, List.forall_mem_cons.mpr ⟨lw_p1, List.forall_mem_cons.mpr ⟨lw_p2, List.forall_mem_cons.mpr ⟨lw_p3, List.forall_mem_cons.mpr ⟨lw_p4, List.forall_mem_cons.mpr ⟨lw_p5, List.forall_mem_cons.mpr ⟨lw_p6, List.forall_mem_cons.mpr ⟨lw_p7, List.forall_mem_cons.mpr ⟨lw_p8, List.forall_mem_cons.mpr ⟨lw_p9, List.forall_mem_cons.mpr ⟨lw_p10, List.forall_mem_cons.mpr ⟨lw_p11, List.forall_mem_cons.mpr ⟨lw_p12, List.forall_mem_cons.mpr ⟨lw_p13, List.forall_mem_cons.mpr ⟨lw_p14, List.forall_mem_cons.mpr ⟨lw_p15, fun _ h => absurd h List.not_mem_nil⟩⟩⟩⟩⟩⟩⟩⟩⟩⟩⟩⟩⟩⟩⟩⟩
theorem lw_p16 : lw_okq (⟨"ProofFine", "provedByPrice", "(II)I"⟩, 10) := ⟨⟨by decide +kernel, by decide +kernel⟩, List.mem_of_getElem? (i := 16) (by decide +kernel), List.mem_of_getElem? (i := 538) (by decide +kernel), List.mem_of_getElem? (i := 539) (by decide +kernel)⟩
theorem lw_p17 : lw_okq (⟨"ProofFine", "meansBehind", "(III)I"⟩, 10) := ⟨⟨by decide +kernel, by decide +kernel⟩, List.mem_of_getElem? (i := 16) (by decide +kernel), List.mem_of_getElem? (i := 556) (by decide +kernel), List.mem_of_getElem? (i := 557) (by decide +kernel)⟩
theorem lw_p18 : lw_okq (⟨"ProofFine", "findBestTurns", "(I)I"⟩, 10) := ⟨⟨by decide +kernel, by decide +kernel⟩, List.mem_of_getElem? (i := 16) (by decide +kernel), List.mem_of_getElem? (i := 576) (by decide +kernel), List.mem_of_getElem? (i := 577) (by decide +kernel)⟩
theorem lw_p19 : lw_okq (⟨"ProofFine", "paidByTurns", "(I)I"⟩, 10) := ⟨⟨by decide +kernel, by decide +kernel⟩, List.mem_of_getElem? (i := 16) (by decide +kernel), List.mem_of_getElem? (i := 581) (by decide +kernel), List.mem_of_getElem? (i := 582) (by decide +kernel)⟩
theorem lw_p20 : lw_okq (⟨"ProofFine", "weighAll", "(III)J"⟩, 10) := ⟨⟨by decide +kernel, by decide +kernel⟩, List.mem_of_getElem? (i := 16) (by decide +kernel), List.mem_of_getElem? (i := 596) (by decide +kernel), List.mem_of_getElem? (i := 597) (by decide +kernel)⟩
theorem lw_p21 : lw_okq (⟨"ProofFine", "outcome", "(III)I"⟩, 10) := ⟨⟨by decide +kernel, by decide +kernel⟩, List.mem_of_getElem? (i := 16) (by decide +kernel), List.mem_of_getElem? (i := 603) (by decide +kernel), List.mem_of_getElem? (i := 604) (by decide +kernel)⟩
theorem lw_p22 : lw_okq (⟨"ProofFine", "weightOfAll", "()J"⟩, 10) := ⟨⟨by decide +kernel, by decide +kernel⟩, List.mem_of_getElem? (i := 16) (by decide +kernel), List.mem_of_getElem? (i := 607) (by decide +kernel), List.mem_of_getElem? (i := 608) (by decide +kernel)⟩
theorem lw_p23 : lw_okq (⟨"ProofFine", "asSeenBy", "(III)I"⟩, 10) := ⟨⟨by decide +kernel, by decide +kernel⟩, List.mem_of_getElem? (i := 16) (by decide +kernel), List.mem_of_getElem? (i := 638) (by decide +kernel), List.mem_of_getElem? (i := 639) (by decide +kernel)⟩
theorem lw_p24 : lw_okq (⟨"ProofFine", "isAsSeen", "(LProofFine$World;)Z"⟩, 10) := ⟨⟨by decide +kernel, by decide +kernel⟩, List.mem_of_getElem? (i := 16) (by decide +kernel), List.mem_of_getElem? (i := 642) (by decide +kernel), List.mem_of_getElem? (i := 643) (by decide +kernel)⟩
theorem lw_p25 : lw_okq (⟨"ProofFine", "noteSpots", "(I)V"⟩, 10) := ⟨⟨by decide +kernel, by decide +kernel⟩, List.mem_of_getElem? (i := 16) (by decide +kernel), List.mem_of_getElem? (i := 658) (by decide +kernel), List.mem_of_getElem? (i := 659) (by decide +kernel)⟩
theorem lw_p26 : lw_okq (⟨"ProofFine", "leftAtWorst", "(II)I"⟩, 10) := ⟨⟨by decide +kernel, by decide +kernel⟩, List.mem_of_getElem? (i := 16) (by decide +kernel), List.mem_of_getElem? (i := 662) (by decide +kernel), List.mem_of_getElem? (i := 663) (by decide +kernel)⟩
theorem lw_p27 : lw_okq (⟨"ProofFineModel", "firstDraft", "()V"⟩, 29) := ⟨⟨by decide +kernel, by decide +kernel⟩, List.mem_of_getElem? (i := 726) (by decide +kernel), List.mem_of_getElem? (i := 732) (by decide +kernel), List.mem_of_getElem? (i := 733) (by decide +kernel)⟩
theorem lw_p28 : lw_okq (⟨"ProofFineModel", "keepDraft", "()V"⟩, 29) := ⟨⟨by decide +kernel, by decide +kernel⟩, List.mem_of_getElem? (i := 726) (by decide +kernel), List.mem_of_getElem? (i := 736) (by decide +kernel), List.mem_of_getElem? (i := 737) (by decide +kernel)⟩
theorem lw_p29 : lw_okq (⟨"ProofFineModel", "takes", "()V"⟩, 29) := ⟨⟨by decide +kernel, by decide +kernel⟩, List.mem_of_getElem? (i := 726) (by decide +kernel), List.mem_of_getElem? (i := 845) (by decide +kernel), List.mem_of_getElem? (i := 846) (by decide +kernel)⟩
theorem lw_p30 : lw_okq (⟨"ProofFineModel", "byteAt", "(I)I"⟩, 29) := ⟨⟨by decide +kernel, by decide +kernel⟩, List.mem_of_getElem? (i := 726) (by decide +kernel), List.mem_of_getElem? (i := 849) (by decide +kernel), List.mem_of_getElem? (i := 850) (by decide +kernel)⟩
theorem lw_p31 : lw_okq (⟨"ProofFineModel", "needs", "(ZI)V"⟩, 29) := ⟨⟨by decide +kernel, by decide +kernel⟩, List.mem_of_getElem? (i := 726) (by decide +kernel), List.mem_of_getElem? (i := 857) (by decide +kernel), List.mem_of_getElem? (i := 858) (by decide +kernel)⟩
def lw_privs_2 : List (MethodName × Nat) := [(⟨"ProofFine", "provedByPrice", "(II)I"⟩, 10), (⟨"ProofFine", "meansBehind", "(III)I"⟩, 10), (⟨"ProofFine", "findBestTurns", "(I)I"⟩, 10), (⟨"ProofFine", "paidByTurns", "(I)I"⟩, 10), (⟨"ProofFine", "weighAll", "(III)J"⟩, 10), (⟨"ProofFine", "outcome", "(III)I"⟩, 10), (⟨"ProofFine", "weightOfAll", "()J"⟩, 10), (⟨"ProofFine", "asSeenBy", "(III)I"⟩, 10), (⟨"ProofFine", "isAsSeen", "(LProofFine$World;)Z"⟩, 10), (⟨"ProofFine", "noteSpots", "(I)V"⟩, 10), (⟨"ProofFine", "leftAtWorst", "(II)I"⟩, 10), (⟨"ProofFineModel", "firstDraft", "()V"⟩, 29), (⟨"ProofFineModel", "keepDraft", "()V"⟩, 29), (⟨"ProofFineModel", "takes", "()V"⟩, 29), (⟨"ProofFineModel", "byteAt", "(I)I"⟩, 29), (⟨"ProofFineModel", "needs", "(ZI)V"⟩, 29)]
theorem lw_r2 : ∀ q ∈ lw_privs_2, lw_okq q := List.forall_mem_cons.mpr ⟨lw_p16, List.forall_mem_cons.mpr ⟨lw_p17, List.forall_mem_cons.mpr ⟨lw_p18, List.forall_mem_cons.mpr ⟨lw_p19, List.forall_mem_cons.mpr ⟨lw_p20, List.forall_mem_cons.mpr ⟨lw_p21, List.forall_mem_cons.mpr ⟨lw_p22, List.forall_mem_cons.mpr ⟨lw_p23, List.forall_mem_cons.mpr ⟨lw_p24, List.forall_mem_cons.mpr ⟨lw_p25, List.forall_mem_cons.mpr ⟨lw_p26, List.forall_mem_cons.mpr ⟨lw_p27, List.forall_mem_cons.mpr ⟨lw_p28, List.forall_mem_cons.mpr ⟨lw_p29, List.forall_mem_cons.mpr ⟨lw_p30, List.forall_mem_cons.mpr ⟨lw_p31, fun _ h => absurd h List.not_mem_nil⟩⟩⟩⟩⟩⟩⟩⟩⟩⟩⟩⟩⟩⟩⟩⟩
theorem lw_p32 : lw_okq (⟨"ProofFineModel", "readLine", "()V"⟩, 29) := ⟨⟨by decide +kernel, by decide +kernel⟩, List.mem_of_getElem? (i := 726) (by decide +kernel), List.mem_of_getElem? (i := 861) (by decide +kernel), List.mem_of_getElem? (i := 862) (by decide +kernel)⟩
theorem lw_p33 : lw_okq (⟨"ProofFineModel", "lineNow", "()I"⟩, 29) := ⟨⟨by decide +kernel, by decide +kernel⟩, List.mem_of_getElem? (i := 726) (by decide +kernel), List.mem_of_getElem? (i := 865) (by decide +kernel), List.mem_of_getElem? (i := 866) (by decide +kernel)⟩
theorem lw_p34 : lw_okq (⟨"ProofFineModel", "is", "(IIII)Z"⟩, 29) := ⟨⟨by decide +kernel, by decide +kernel⟩, List.mem_of_getElem? (i := 726) (by decide +kernel), List.mem_of_getElem? (i := 869) (by decide +kernel), List.mem_of_getElem? (i := 870) (by decide +kernel)⟩
theorem lw_p35 : lw_okq (⟨"ProofFineModel", "ends", "(IIII)Z"⟩, 29) := ⟨⟨by decide +kernel, by decide +kernel⟩, List.mem_of_getElem? (i := 726) (by decide +kernel), List.mem_of_getElem? (i := 873) (by decide +kernel), List.mem_of_getElem? (i := 874) (by decide +kernel)⟩
theorem lw_p36 : lw_okq (⟨"ProofFineModel", "kindNow", "()I"⟩, 29) := ⟨⟨by decide +kernel, by decide +kernel⟩, List.mem_of_getElem? (i := 726) (by decide +kernel), List.mem_of_getElem? (i := 877) (by decide +kernel), List.mem_of_getElem? (i := 878) (by decide +kernel)⟩
theorem lw_p37 : lw_okq (⟨"ProofFineModel", "readLineOf", "(I)V"⟩, 29) := ⟨⟨by decide +kernel, by decide +kernel⟩, List.mem_of_getElem? (i := 726) (by decide +kernel), List.mem_of_getElem? (i := 881) (by decide +kernel), List.mem_of_getElem? (i := 882) (by decide +kernel)⟩
theorem lw_p38 : lw_okq (⟨"ProofFineModel", "readNumber", "(II)I"⟩, 29) := ⟨⟨by decide +kernel, by decide +kernel⟩, List.mem_of_getElem? (i := 726) (by decide +kernel), List.mem_of_getElem? (i := 885) (by decide +kernel), List.mem_of_getElem? (i := 886) (by decide +kernel)⟩
theorem lw_p39 : lw_okq (⟨"ProofFineModel", "readBody", "(I)V"⟩, 29) := ⟨⟨by decide +kernel, by decide +kernel⟩, List.mem_of_getElem? (i := 726) (by decide +kernel), List.mem_of_getElem? (i := 889) (by decide +kernel), List.mem_of_getElem? (i := 890) (by decide +kernel)⟩
theorem lw_p40 : lw_okq (⟨"ProofFineModel", "starts", "()V"⟩, 29) := ⟨⟨by decide +kernel, by decide +kernel⟩, List.mem_of_getElem? (i := 726) (by decide +kernel), List.mem_of_getElem? (i := 901) (by decide +kernel), List.mem_of_getElem? (i := 902) (by decide +kernel)⟩
theorem lw_p41 : lw_okq (⟨"ProofFineModel", "inWay", "(I)I"⟩, 29) := ⟨⟨by decide +kernel, by decide +kernel⟩, List.mem_of_getElem? (i := 726) (by decide +kernel), List.mem_of_getElem? (i := 905) (by decide +kernel), List.mem_of_getElem? (i := 906) (by decide +kernel)⟩
theorem lw_p42 : lw_okq (⟨"ProofFineModel", "of", "(II)I"⟩, 29) := ⟨⟨by decide +kernel, by decide +kernel⟩, List.mem_of_getElem? (i := 726) (by decide +kernel), List.mem_of_getElem? (i := 909) (by decide +kernel), List.mem_of_getElem? (i := 910) (by decide +kernel)⟩
theorem lw_p43 : lw_okq (⟨"ProofFineModel", "isVillage", "(I)Z"⟩, 29) := ⟨⟨by decide +kernel, by decide +kernel⟩, List.mem_of_getElem? (i := 726) (by decide +kernel), List.mem_of_getElem? (i := 920) (by decide +kernel), List.mem_of_getElem? (i := 921) (by decide +kernel)⟩
theorem lw_p44 : lw_okq (⟨"ProofFineModel", "isBody", "(I)Z"⟩, 29) := ⟨⟨by decide +kernel, by decide +kernel⟩, List.mem_of_getElem? (i := 726) (by decide +kernel), List.mem_of_getElem? (i := 929) (by decide +kernel), List.mem_of_getElem? (i := 930) (by decide +kernel)⟩
theorem lw_p45 : lw_okq (⟨"ProofFineModel", "lacks", "(I)I"⟩, 29) := ⟨⟨by decide +kernel, by decide +kernel⟩, List.mem_of_getElem? (i := 726) (by decide +kernel), List.mem_of_getElem? (i := 934) (by decide +kernel), List.mem_of_getElem? (i := 935) (by decide +kernel)⟩
theorem lw_p46 : lw_okq (⟨"ProofFineModel", "lacksOf", "(IZ)I"⟩, 29) := ⟨⟨by decide +kernel, by decide +kernel⟩, List.mem_of_getElem? (i := 726) (by decide +kernel), List.mem_of_getElem? (i := 938) (by decide +kernel), List.mem_of_getElem? (i := 939) (by decide +kernel)⟩
theorem lw_p47 : lw_okq (⟨"ProofFineModel", "becomes", "(II)I"⟩, 29) := ⟨⟨by decide +kernel, by decide +kernel⟩, List.mem_of_getElem? (i := 726) (by decide +kernel), List.mem_of_getElem? (i := 954) (by decide +kernel), List.mem_of_getElem? (i := 955) (by decide +kernel)⟩
def lw_privs_3 : List (MethodName × Nat) := [(⟨"ProofFineModel", "readLine", "()V"⟩, 29), (⟨"ProofFineModel", "lineNow", "()I"⟩, 29), (⟨"ProofFineModel", "is", "(IIII)Z"⟩, 29), (⟨"ProofFineModel", "ends", "(IIII)Z"⟩, 29), (⟨"ProofFineModel", "kindNow", "()I"⟩, 29), (⟨"ProofFineModel", "readLineOf", "(I)V"⟩, 29), (⟨"ProofFineModel", "readNumber", "(II)I"⟩, 29), (⟨"ProofFineModel", "readBody", "(I)V"⟩, 29), (⟨"ProofFineModel", "starts", "()V"⟩, 29), (⟨"ProofFineModel", "inWay", "(I)I"⟩, 29), (⟨"ProofFineModel", "of", "(II)I"⟩, 29), (⟨"ProofFineModel", "isVillage", "(I)Z"⟩, 29), (⟨"ProofFineModel", "isBody", "(I)Z"⟩, 29), (⟨"ProofFineModel", "lacks", "(I)I"⟩, 29), (⟨"ProofFineModel", "lacksOf", "(IZ)I"⟩, 29), (⟨"ProofFineModel", "becomes", "(II)I"⟩, 29)]
theorem lw_r3 : ∀ q ∈ lw_privs_3, lw_okq q := List.forall_mem_cons.mpr ⟨lw_p32, List.forall_mem_cons.mpr ⟨lw_p33, List.forall_mem_cons.mpr ⟨lw_p34, List.forall_mem_cons.mpr ⟨lw_p35, List.forall_mem_cons.mpr ⟨lw_p36, List.forall_mem_cons.mpr ⟨lw_p37, List.forall_mem_cons.mpr ⟨lw_p38, List.forall_mem_cons.mpr ⟨lw_p39, List.forall_mem_cons.mpr ⟨lw_p40, List.forall_mem_cons.mpr ⟨lw_p41, List.forall_mem_cons.mpr ⟨lw_p42, List.forall_mem_cons.mpr ⟨lw_p43, List.forall_mem_cons.mpr ⟨lw_p44, List.forall_mem_cons.mpr ⟨lw_p45, List.forall_mem_cons.mpr ⟨lw_p46, List.forall_mem_cons.mpr ⟨lw_p47, fun _ h => absurd h List.not_mem_nil⟩⟩⟩⟩⟩⟩⟩⟩⟩⟩⟩⟩⟩⟩⟩⟩
theorem lw_p48 : lw_okq (⟨"ProofFineModel", "liesStill", "(I)Z"⟩, 29) := ⟨⟨by decide +kernel, by decide +kernel⟩, List.mem_of_getElem? (i := 726) (by decide +kernel), List.mem_of_getElem? (i := 963) (by decide +kernel), List.mem_of_getElem? (i := 964) (by decide +kernel)⟩
theorem lw_p49 : lw_okq (⟨"ProofFineModel", "becomesOf", "(III)V"⟩, 29) := ⟨⟨by decide +kernel, by decide +kernel⟩, List.mem_of_getElem? (i := 726) (by decide +kernel), List.mem_of_getElem? (i := 981) (by decide +kernel), List.mem_of_getElem? (i := 982) (by decide +kernel)⟩
theorem lw_p50 : lw_okq (⟨"ProofFineModel", "settles", "()V"⟩, 29) := ⟨⟨by decide +kernel, by decide +kernel⟩, List.mem_of_getElem? (i := 726) (by decide +kernel), List.mem_of_getElem? (i := 985) (by decide +kernel), List.mem_of_getElem? (i := 986) (by decide +kernel)⟩
theorem lw_p51 : lw_okq (⟨"ProofFineModel", "paidIn", "(I)I"⟩, 29) := ⟨⟨by decide +kernel, by decide +kernel⟩, List.mem_of_getElem? (i := 726) (by decide +kernel), List.mem_of_getElem? (i := 994) (by decide +kernel), List.mem_of_getElem? (i := 995) (by decide +kernel)⟩
theorem lw_p52 : lw_okq (⟨"ProofFineModel", "allMeans", "()I"⟩, 29) := ⟨⟨by decide +kernel, by decide +kernel⟩, List.mem_of_getElem? (i := 726) (by decide +kernel), List.mem_of_getElem? (i := 998) (by decide +kernel), List.mem_of_getElem? (i := 999) (by decide +kernel)⟩
theorem lw_p53 : lw_okq (⟨"ProofFineModel", "nightGoes", "()V"⟩, 29) := ⟨⟨by decide +kernel, by decide +kernel⟩, List.mem_of_getElem? (i := 726) (by decide +kernel), List.mem_of_getElem? (i := 1002) (by decide +kernel), List.mem_of_getElem? (i := 1003) (by decide +kernel)⟩
theorem lw_p54 : lw_okq (⟨"ProofFineModel", "villageGoes", "(I)V"⟩, 29) := ⟨⟨by decide +kernel, by decide +kernel⟩, List.mem_of_getElem? (i := 726) (by decide +kernel), List.mem_of_getElem? (i := 1006) (by decide +kernel), List.mem_of_getElem? (i := 1007) (by decide +kernel)⟩
theorem lw_p55 : lw_okq (⟨"ProofFineModel", "firstAt", "(I)I"⟩, 29) := ⟨⟨by decide +kernel, by decide +kernel⟩, List.mem_of_getElem? (i := 726) (by decide +kernel), List.mem_of_getElem? (i := 1010) (by decide +kernel), List.mem_of_getElem? (i := 1011) (by decide +kernel)⟩
theorem lw_p56 : lw_okq (⟨"ProofFineModel", "crownerComes", "()V"⟩, 29) := ⟨⟨by decide +kernel, by decide +kernel⟩, List.mem_of_getElem? (i := 726) (by decide +kernel), List.mem_of_getElem? (i := 1014) (by decide +kernel), List.mem_of_getElem? (i := 1015) (by decide +kernel)⟩
theorem lw_p57 : lw_okq (⟨"ProofFineModel", "paidWith", "(III)I"⟩, 29) := ⟨⟨by decide +kernel, by decide +kernel⟩, List.mem_of_getElem? (i := 726) (by decide +kernel), List.mem_of_getElem? (i := 1038) (by decide +kernel), List.mem_of_getElem? (i := 1039) (by decide +kernel)⟩
theorem lw_p58 : lw_okq (⟨"ProofFineModel", "isOrder", "(I)Z"⟩, 29) := ⟨⟨by decide +kernel, by decide +kernel⟩, List.mem_of_getElem? (i := 726) (by decide +kernel), List.mem_of_getElem? (i := 1073) (by decide +kernel), List.mem_of_getElem? (i := 1074) (by decide +kernel)⟩
theorem lw_p59 : lw_okq (⟨"ProofFineModel", "findOdds", "(III)V"⟩, 29) := ⟨⟨by decide +kernel, by decide +kernel⟩, List.mem_of_getElem? (i := 726) (by decide +kernel), List.mem_of_getElem? (i := 1083) (by decide +kernel), List.mem_of_getElem? (i := 1084) (by decide +kernel)⟩
theorem lw_p60 : lw_okq (⟨"ProofFineModel", "kindsOf", "(I)I"⟩, 29) := ⟨⟨by decide +kernel, by decide +kernel⟩, List.mem_of_getElem? (i := 726) (by decide +kernel), List.mem_of_getElem? (i := 1109) (by decide +kernel), List.mem_of_getElem? (i := 1110) (by decide +kernel)⟩
theorem lw_p61 : lw_okq (⟨"ProofFineModel", "isSoWith", "(II)Z"⟩, 29) := ⟨⟨by decide +kernel, by decide +kernel⟩, List.mem_of_getElem? (i := 726) (by decide +kernel), List.mem_of_getElem? (i := 1113) (by decide +kernel), List.mem_of_getElem? (i := 1114) (by decide +kernel)⟩
theorem lw_p62 : lw_okq (⟨"ProofFineModel", "copies", "(II)V"⟩, 29) := ⟨⟨by decide +kernel, by decide +kernel⟩, List.mem_of_getElem? (i := 726) (by decide +kernel), List.mem_of_getElem? (i := 1134) (by decide +kernel), List.mem_of_getElem? (i := 1135) (by decide +kernel)⟩
def lw_privs_4 : List (MethodName × Nat) := [(⟨"ProofFineModel", "liesStill", "(I)Z"⟩, 29), (⟨"ProofFineModel", "becomesOf", "(III)V"⟩, 29), (⟨"ProofFineModel", "settles", "()V"⟩, 29), (⟨"ProofFineModel", "paidIn", "(I)I"⟩, 29), (⟨"ProofFineModel", "allMeans", "()I"⟩, 29), (⟨"ProofFineModel", "nightGoes", "()V"⟩, 29), (⟨"ProofFineModel", "villageGoes", "(I)V"⟩, 29), (⟨"ProofFineModel", "firstAt", "(I)I"⟩, 29), (⟨"ProofFineModel", "crownerComes", "()V"⟩, 29), (⟨"ProofFineModel", "paidWith", "(III)I"⟩, 29), (⟨"ProofFineModel", "isOrder", "(I)Z"⟩, 29), (⟨"ProofFineModel", "findOdds", "(III)V"⟩, 29), (⟨"ProofFineModel", "kindsOf", "(I)I"⟩, 29), (⟨"ProofFineModel", "isSoWith", "(II)Z"⟩, 29), (⟨"ProofFineModel", "copies", "(II)V"⟩, 29)]
theorem lw_r4 : ∀ q ∈ lw_privs_4, lw_okq q := List.forall_mem_cons.mpr ⟨lw_p48, List.forall_mem_cons.mpr ⟨lw_p49, List.forall_mem_cons.mpr ⟨lw_p50, List.forall_mem_cons.mpr ⟨lw_p51, List.forall_mem_cons.mpr ⟨lw_p52, List.forall_mem_cons.mpr ⟨lw_p53, List.forall_mem_cons.mpr ⟨lw_p54, List.forall_mem_cons.mpr ⟨lw_p55, List.forall_mem_cons.mpr ⟨lw_p56, List.forall_mem_cons.mpr ⟨lw_p57, List.forall_mem_cons.mpr ⟨lw_p58, List.forall_mem_cons.mpr ⟨lw_p59, List.forall_mem_cons.mpr ⟨lw_p60, List.forall_mem_cons.mpr ⟨lw_p61, List.forall_mem_cons.mpr ⟨lw_p62, fun _ h => absurd h List.not_mem_nil⟩⟩⟩⟩⟩⟩⟩⟩⟩⟩⟩⟩⟩⟩⟩
def lw_privs : List (MethodName × Nat) := lw_privs_1 ++ (lw_privs_2 ++ (lw_privs_3 ++ (lw_privs_4)))
def lw_tbl : List Cond := k2_sels lw_privs ++ tables_1
theorem lw_privs_ok : ∀ q ∈ lw_privs, lw_okq q := by
  show ∀ q ∈ lw_privs_1 ++ (lw_privs_2 ++ (lw_privs_3 ++ (lw_privs_4))), lw_okq q
  exact List.forall_mem_append.mpr ⟨lw_r1, List.forall_mem_append.mpr ⟨lw_r2, List.forall_mem_append.mpr ⟨lw_r3, lw_r4⟩⟩⟩
def RX0 : String := "ProofFine$Image"
def TX0 : u_T := fun k => match k with
  | 0 => ("ProofFine$Image", "kept", "Z", false)
  | 1 => ("ProofFine$Image", "world", "LProofFine$World;", true)
  | _ => ("ProofFine$Image", "seen", "LProofFine$Sightings;", true)
def tyX0 : Nat → FieldType := fun k => match k with
  | 0 => .boolean
  | 1 => .object "ProofFine$World"
  | _ => .object "ProofFine$Sightings"
abbrev wsX00 : List Cond := u_ws RX0 TX0 3
theorem nmX0 : ∀ a, a < 3 → ∀ b, b < 3 → a ≠ b → (TX0 a).2.1 ≠ (TX0 b).2.1 := by decide +kernel
theorem tyX0_ok : ∀ k, k < 3 → parseFieldDescriptor (TX0 k).2.2.1 = some (tyX0 k) := by decide +kernel
abbrev cX0_init : ByteArray := prog_2_method_1_code
def yX0_init : MethodName := ⟨RX0, "<init>", "()V"⟩
def RX1 : String := "ProofFine$Sheet"
def TX1 : u_T := fun k => match k with
  | 0 => ("ProofFine$Sheet", "there", "Z", false)
  | 1 => ("ProofFine$Sheet", "size", "I", false)
  | 2 => ("ProofFine$Sheet", "cells", "[I", true)
  | _ => ("ProofFine$Sheet", "lane", "I", false)
def tyX1 : Nat → FieldType := fun k => match k with
  | 0 => .boolean
  | 1 => .int
  | 2 => .array .int
  | _ => .int
abbrev wsX10 : List Cond := u_ws RX1 TX1 4
theorem nmX1 : ∀ a, a < 4 → ∀ b, b < 4 → a ≠ b → (TX1 a).2.1 ≠ (TX1 b).2.1 := by decide +kernel
theorem tyX1_ok : ∀ k, k < 4 → parseFieldDescriptor (TX1 k).2.2.1 = some (tyX1 k) := by decide +kernel
abbrev cX1_init : ByteArray := prog_3_method_1_code
def yX1_init : MethodName := ⟨RX1, "<init>", "()V"⟩
abbrev cX1_renew : ByteArray := prog_3_method_2_code
def yX1_renew : MethodName := ⟨RX1, "renew", "(II)V"⟩
abbrev cX1_faultAt : ByteArray := prog_3_method_3_code
def yX1_faultAt : MethodName := ⟨RX1, "faultAt", "(J)I"⟩
abbrev cX1_faultOfPair : ByteArray := prog_3_method_4_code
def yX1_faultOfPair : MethodName := ⟨RX1, "faultOfPair", "(IJ)I"⟩
abbrev cX1_put : ByteArray := prog_3_method_5_code
def yX1_put : MethodName := ⟨RX1, "put", "(II)V"⟩
def RX2 : String := "ProofFine$Sightings"
def TX2 : u_T := fun k => match k with
  | 0 => ("ProofFine$Sightings", "many", "I", false)
  | 1 => ("ProofFine$Sightings", "who", "[I", true)
  | 2 => ("ProofFine$Sightings", "when", "[I", true)
  | _ => ("ProofFine$Sightings", "where", "[I", true)
def tyX2 : Nat → FieldType := fun k => match k with
  | 0 => .int
  | 1 => .array .int
  | 2 => .array .int
  | _ => .array .int
abbrev wsX20 : List Cond := u_ws RX2 TX2 4
theorem nmX2 : ∀ a, a < 4 → ∀ b, b < 4 → a ≠ b → (TX2 a).2.1 ≠ (TX2 b).2.1 := by decide +kernel
theorem tyX2_ok : ∀ k, k < 4 → parseFieldDescriptor (TX2 k).2.2.1 = some (tyX2 k) := by decide +kernel
abbrev cX2_init : ByteArray := prog_4_method_1_code
def yX2_init : MethodName := ⟨RX2, "<init>", "()V"⟩
abbrev cX2_add : ByteArray := prog_4_method_2_code
def yX2_add : MethodName := ⟨RX2, "add", "(III)Z"⟩
abbrev cX2_fit : ByteArray := prog_4_method_3_code
def yX2_fit : MethodName := ⟨RX2, "fit", "(LProofFine$World;I)Z"⟩
abbrev cX2_become : ByteArray := prog_4_method_4_code
def yX2_become : MethodName := ⟨RX2, "become", "(LProofFine$Sightings;)V"⟩
def RX3 : String := "ProofFine$Tape"
def TX3 : u_T := fun k => match k with
  | 0 => ("ProofFine$Tape", "length", "I", false)
  | 1 => ("ProofFine$Tape", "start", "I", false)
  | 2 => ("ProofFine$Tape", "next", "I", false)
  | _ => ("ProofFine$Tape", "bytes", "[I", true)
def tyX3 : Nat → FieldType := fun k => match k with
  | 0 => .int
  | 1 => .int
  | 2 => .int
  | _ => .array .int
abbrev wsX30 : List Cond := u_ws RX3 TX3 4
theorem nmX3 : ∀ a, a < 4 → ∀ b, b < 4 → a ≠ b → (TX3 a).2.1 ≠ (TX3 b).2.1 := by decide +kernel
theorem tyX3_ok : ∀ k, k < 4 → parseFieldDescriptor (TX3 k).2.2.1 = some (tyX3 k) := by decide +kernel
abbrev cX3_init : ByteArray := prog_5_method_1_code
def yX3_init : MethodName := ⟨RX3, "<init>", "()V"⟩
abbrev cX3_append : ByteArray := prog_5_method_2_code
def yX3_append : MethodName := ⟨RX3, "append", "(I)Z"⟩
abbrev cX3_take : ByteArray := prog_5_method_3_code
def yX3_take : MethodName := ⟨RX3, "take", "()I"⟩
abbrev cX3_passRun : ByteArray := prog_5_method_4_code
def yX3_passRun : MethodName := ⟨RX3, "passRun", "(II)Z"⟩
abbrev cX3_number : ByteArray := prog_5_method_5_code
def yX3_number : MethodName := ⟨RX3, "number", "()I"⟩
abbrev cX3_isWord : ByteArray := prog_5_method_6_code
def yX3_isWord : MethodName := ⟨RX3, "isWord", "(Ljava/lang/String;)Z"⟩
def RX4 : String := "ProofFine$Teller"
def TX4 : u_T := fun k => match k with
  | 0 => ("ProofFine$Teller", "tape", "LProofFine$Tape;", true)
  | 1 => ("ProofFine$Teller", "fault", "I", false)
  | 2 => ("ProofFine$Teller", "faultPlace", "I", false)
  | 3 => ("ProofFine$Teller", "numbers", "[I", true)
  | _ => ("ProofFine$Teller", "told", "I", false)
def tyX4 : Nat → FieldType := fun k => match k with
  | 0 => .object "ProofFine$Tape"
  | 1 => .int
  | 2 => .int
  | 3 => .array .int
  | _ => .int
abbrev wsX40 : List Cond := u_ws RX4 TX4 5
theorem nmX4 : ∀ a, a < 5 → ∀ b, b < 5 → a ≠ b → (TX4 a).2.1 ≠ (TX4 b).2.1 := by decide +kernel
theorem tyX4_ok : ∀ k, k < 5 → parseFieldDescriptor (TX4 k).2.2.1 = some (tyX4 k) := by decide +kernel
abbrev cX4_init : ByteArray := prog_6_method_1_code
def yX4_init : MethodName := ⟨RX4, "<init>", "()V"⟩
abbrev cX4_tell : ByteArray := prog_6_method_2_code
def yX4_tell : MethodName := ⟨RX4, "tell", "(LProofFine$World;)I"⟩
abbrev cX4_takeLine : ByteArray := prog_6_method_3_code
def yX4_takeLine : MethodName := ⟨RX4, "takeLine", "(ILProofFine$World;)V"⟩
abbrev cX4_hasNoRoom : ByteArray := prog_6_method_4_code
def yX4_hasNoRoom : MethodName := ⟨RX4, "hasNoRoom", "(ILProofFine$World;)Z"⟩
abbrev cX4_takeNumbers : ByteArray := prog_6_method_5_code
def yX4_takeNumbers : MethodName := ⟨RX4, "takeNumbers", "(I)Z"⟩
abbrev cX4_most : ByteArray := prog_6_method_6_code
def yX4_most : MethodName := ⟨RX4, "most", "(II)I"⟩
abbrev cX4_enter : ByteArray := prog_6_method_7_code
def yX4_enter : MethodName := ⟨RX4, "enter", "(ILProofFine$World;)V"⟩
abbrev cX4_checkPlaces : ByteArray := prog_6_method_8_code
def yX4_checkPlaces : MethodName := ⟨RX4, "checkPlaces", "(LProofFine$World;)V"⟩
abbrev cX4_expect : ByteArray := prog_6_method_9_code
def yX4_expect : MethodName := ⟨RX4, "expect", "(II)Z"⟩
abbrev cX4_refuse : ByteArray := prog_6_method_10_code
def yX4_refuse : MethodName := ⟨RX4, "refuse", "(II)V"⟩
abbrev cX4_lineOf : ByteArray := prog_6_method_11_code
def yX4_lineOf : MethodName := ⟨RX4, "lineOf", "()I"⟩
abbrev cX4_word : ByteArray := prog_6_method_12_code
def yX4_word : MethodName := ⟨RX4, "word", "(I)Ljava/lang/String;"⟩
def RX5 : String := "ProofFine$World"
def TX5 : u_T := fun k => match k with
  | 0 => ("ProofFine$World", "villages", "I", false)
  | 1 => ("ProofFine$World", "bodies", "I", false)
  | 2 => ("ProofFine$World", "price", "I", false)
  | 3 => ("ProofFine$World", "fine", "I", false)
  | 4 => ("ProofFine$World", "round", "I", false)
  | 5 => ("ProofFine$World", "day", "I", false)
  | 6 => ("ProofFine$World", "ruined", "I", false)
  | 7 => ("ProofFine$World", "carried", "I", false)
  | 8 => ("ProofFine$World", "means", "[I", true)
  | 9 => ("ProofFine$World", "guards", "[I", true)
  | 10 => ("ProofFine$World", "turns", "[I", true)
  | 11 => ("ProofFine$World", "kindOf", "[I", true)
  | 12 => ("ProofFine$World", "at", "[I", true)
  | 13 => ("ProofFine$World", "fatherKin", "[I", true)
  | 14 => ("ProofFine$World", "motherKin", "[I", true)
  | _ => ("ProofFine$World", "way", "[I", true)
def tyX5 : Nat → FieldType := fun k => match k with
  | 0 => .int
  | 1 => .int
  | 2 => .int
  | 3 => .int
  | 4 => .int
  | 5 => .int
  | 6 => .int
  | 7 => .int
  | 8 => .array .int
  | 9 => .array .int
  | 10 => .array .int
  | 11 => .array .int
  | 12 => .array .int
  | 13 => .array .int
  | 14 => .array .int
  | _ => .array .int
abbrev wsX50 : List Cond := u_ws RX5 TX5 16
theorem nmX5 : ∀ a, a < 16 → ∀ b, b < 16 → a ≠ b → (TX5 a).2.1 ≠ (TX5 b).2.1 := by decide +kernel
theorem tyX5_ok : ∀ k, k < 16 → parseFieldDescriptor (TX5 k).2.2.1 = some (tyX5 k) := by decide +kernel
abbrev cX5_init : ByteArray := prog_7_method_1_code
def yX5_init : MethodName := ⟨RX5, "<init>", "()V"⟩
abbrev cX5_clear : ByteArray := prog_7_method_2_code
def yX5_clear : MethodName := ⟨RX5, "clear", "()V"⟩
abbrev cX5_takeTurnsByNumber : ByteArray := prog_7_method_3_code
def yX5_takeTurnsByNumber : MethodName := ⟨RX5, "takeTurnsByNumber", "()V"⟩
abbrev cX5_become : ByteArray := prog_7_method_4_code
def yX5_become : MethodName := ⟨RX5, "become", "(LProofFine$World;)V"⟩
abbrev cX5_hasVillage : ByteArray := prog_7_method_5_code
def yX5_hasVillage : MethodName := ⟨RX5, "hasVillage", "(I)Z"⟩
abbrev cX5_hasBody : ByteArray := prog_7_method_6_code
def yX5_hasBody : MethodName := ⟨RX5, "hasBody", "(I)Z"⟩
abbrev cX5_addVillage : ByteArray := prog_7_method_7_code
def yX5_addVillage : MethodName := ⟨RX5, "addVillage", "(II)Z"⟩
abbrev cX5_addBody : ByteArray := prog_7_method_8_code
def yX5_addBody : MethodName := ⟨RX5, "addBody", "(IIII)Z"⟩
abbrev cX5_bodyRow : ByteArray := prog_7_method_9_code
def yX5_bodyRow : MethodName := ⟨RX5, "bodyRow", "(I)[I"⟩
abbrev cX5_lacksOfFather : ByteArray := prog_7_method_10_code
def yX5_lacksOfFather : MethodName := ⟨RX5, "lacksOfFather", "(I)Z"⟩
abbrev cX5_lacks : ByteArray := prog_7_method_11_code
def yX5_lacks : MethodName := ⟨RX5, "lacks", "(I)I"⟩
abbrev cX5_lacksOfLying : ByteArray := prog_7_method_12_code
def yX5_lacksOfLying : MethodName := ⟨RX5, "lacksOfLying", "()I"⟩
abbrev cX5_inWay : ByteArray := prog_7_method_13_code
def yX5_inWay : MethodName := ⟨RX5, "inWay", "(I)I"⟩
abbrev cX5_lyingAt : ByteArray := prog_7_method_14_code
def yX5_lyingAt : MethodName := ⟨RX5, "lyingAt", "(I)I"⟩
abbrev cX5_allMeans : ByteArray := prog_7_method_15_code
def yX5_allMeans : MethodName := ⟨RX5, "allMeans", "()I"⟩
abbrev cX5_pass : ByteArray := prog_7_method_16_code
def yX5_pass : MethodName := ⟨RX5, "pass", "(I)I"⟩
abbrev cX5_passOne : ByteArray := prog_7_method_17_code
def yX5_passOne : MethodName := ⟨RX5, "passOne", "()V"⟩
abbrev cX5_takeTurn : ByteArray := prog_7_method_18_code
def yX5_takeTurn : MethodName := ⟨RX5, "takeTurn", "(I)V"⟩
abbrev cX5_firstLyingAt : ByteArray := prog_7_method_19_code
def yX5_firstLyingAt : MethodName := ⟨RX5, "firstLyingAt", "(I)I"⟩
abbrev cX5_handOn : ByteArray := prog_7_method_20_code
def yX5_handOn : MethodName := ⟨RX5, "handOn", "(II)V"⟩
abbrev cX5_fineAll : ByteArray := prog_7_method_21_code
def yX5_fineAll : MethodName := ⟨RX5, "fineAll", "()V"⟩
def RX6 : String := "ProofFine"
def TX6 : u_T := fun k => match k with
  | 0 => ("ProofFine", "now", "LProofFine$World;", true)
  | 1 => ("ProofFine", "spare", "LProofFine$World;", true)
  | 2 => ("ProofFine", "seen", "LProofFine$Sightings;", true)
  | 3 => ("ProofFine", "teller", "LProofFine$Teller;", true)
  | 4 => ("ProofFine", "images", "[LProofFine$Image;", true)
  | 5 => ("ProofFine", "sheets", "[LProofFine$Sheet;", true)
  | 6 => ("ProofFine", "turns", "[I", true)
  | 7 => ("ProofFine", "bestTurns", "[I", true)
  | 8 => ("ProofFine", "spots", "[I", true)
  | _ => ("ProofFine", "tornFault", "I", false)
def tyX6 : Nat → FieldType := fun k => match k with
  | 0 => .object "ProofFine$World"
  | 1 => .object "ProofFine$World"
  | 2 => .object "ProofFine$Sightings"
  | 3 => .object "ProofFine$Teller"
  | 4 => .array (.object "ProofFine$Image")
  | 5 => .array (.object "ProofFine$Sheet")
  | 6 => .array .int
  | 7 => .array .int
  | 8 => .array .int
  | _ => .int
abbrev wsX60 : List Cond := u_ws RX6 TX6 10
theorem nmX6 : ∀ a, a < 10 → ∀ b, b < 10 → a ≠ b → (TX6 a).2.1 ≠ (TX6 b).2.1 := by decide +kernel
theorem tyX6_ok : ∀ k, k < 10 → parseFieldDescriptor (TX6 k).2.2.1 = some (tyX6 k) := by decide +kernel
abbrev cX6_init : ByteArray := prog_1_method_1_code
def yX6_init : MethodName := ⟨RX6, "<init>", "()V"⟩
abbrev cX6_feed : ByteArray := prog_1_method_2_code
def yX6_feed : MethodName := ⟨RX6, "feed", "(I)I"⟩
abbrev cX6_end : ByteArray := prog_1_method_3_code
def yX6_end : MethodName := ⟨RX6, "end", "(I)I"⟩
abbrev cX6_text : ByteArray := prog_1_method_4_code
def yX6_text : MethodName := ⟨RX6, "text", "()I"⟩
abbrev cX6_fault : ByteArray := prog_1_method_5_code
def yX6_fault : MethodName := ⟨RX6, "fault", "()I"⟩
abbrev cX6_rule : ByteArray := prog_1_method_6_code
def yX6_rule : MethodName := ⟨RX6, "rule", "(I)I"⟩
abbrev cX6_village : ByteArray := prog_1_method_7_code
def yX6_village : MethodName := ⟨RX6, "village", "(II)I"⟩
abbrev cX6_body : ByteArray := prog_1_method_8_code
def yX6_body : MethodName := ⟨RX6, "body", "(II)I"⟩
abbrev cX6_grant : ByteArray := prog_1_method_9_code
def yX6_grant : MethodName := ⟨RX6, "grant", "(III)I"⟩
abbrev cX6_alter : ByteArray := prog_1_method_10_code
def yX6_alter : MethodName := ⟨RX6, "alter", "(III)I"⟩
abbrev cX6_mayBecome : ByteArray := prog_1_method_11_code
def yX6_mayBecome : MethodName := ⟨RX6, "mayBecome", "(II)Z"⟩
abbrev cX6_set : ByteArray := prog_1_method_12_code
def yX6_set : MethodName := ⟨RX6, "set", "(II)I"⟩
abbrev cX6_find : ByteArray := prog_1_method_13_code
def yX6_find : MethodName := ⟨RX6, "find", "(IIII)I"⟩
abbrev cX6_addFound : ByteArray := prog_1_method_14_code
def yX6_addFound : MethodName := ⟨RX6, "addFound", "(IIII)I"⟩
abbrev cX6_hire : ByteArray := prog_1_method_15_code
def yX6_hire : MethodName := ⟨RX6, "hire", "(I)I"⟩
abbrev cX6_nights : ByteArray := prog_1_method_16_code
def yX6_nights : MethodName := ⟨RX6, "nights", "(I)I"⟩
abbrev cX6_runs : ByteArray := prog_1_method_17_code
def yX6_runs : MethodName := ⟨RX6, "runs", "(II)I"⟩
abbrev cX6_ahead : ByteArray := prog_1_method_18_code
def yX6_ahead : MethodName := ⟨RX6, "ahead", "(III)I"⟩
abbrev cX6_settled : ByteArray := prog_1_method_19_code
def yX6_settled : MethodName := ⟨RX6, "settled", "(I)I"⟩
abbrev cX6_dear : ByteArray := prog_1_method_20_code
def yX6_dear : MethodName := ⟨RX6, "dear", "(I)I"⟩
abbrev cX6_provedByPrice : ByteArray := prog_1_method_21_code
def yX6_provedByPrice : MethodName := ⟨RX6, "provedByPrice", "(II)I"⟩
abbrev cX6_mild : ByteArray := prog_1_method_22_code
def yX6_mild : MethodName := ⟨RX6, "mild", "(I)I"⟩
abbrev cX6_watch : ByteArray := prog_1_method_23_code
def yX6_watch : MethodName := ⟨RX6, "watch", "(II)I"⟩
abbrev cX6_meansBehind : ByteArray := prog_1_method_24_code
def yX6_meansBehind : MethodName := ⟨RX6, "meansBehind", "(III)I"⟩
abbrev cX6_place : ByteArray := prog_1_method_25_code
def yX6_place : MethodName := ⟨RX6, "place", "(III)I"⟩
abbrev cX6_kin : ByteArray := prog_1_method_26_code
def yX6_kin : MethodName := ⟨RX6, "kin", "(II)I"⟩
abbrev cX6_late : ByteArray := prog_1_method_27_code
def yX6_late : MethodName := ⟨RX6, "late", "(I)I"⟩
abbrev cX6_order : ByteArray := prog_1_method_28_code
def yX6_order : MethodName := ⟨RX6, "order", "(II)I"⟩
abbrev cX6_findBestTurns : ByteArray := prog_1_method_29_code
def yX6_findBestTurns : MethodName := ⟨RX6, "findBestTurns", "(I)I"⟩
abbrev cX6_paidByTurns : ByteArray := prog_1_method_30_code
def yX6_paidByTurns : MethodName := ⟨RX6, "paidByTurns", "(I)I"⟩
abbrev cX6_arrangeNext : ByteArray := prog_1_method_31_code
def yX6_arrangeNext : MethodName := ⟨RX6, "arrangeNext", "([II)Z"⟩
abbrev cX6_swap : ByteArray := prog_1_method_32_code
def yX6_swap : MethodName := ⟨RX6, "swap", "([III)V"⟩
abbrev cX6_mean : ByteArray := prog_1_method_33_code
def yX6_mean : MethodName := ⟨RX6, "mean", "(III)J"⟩
abbrev cX6_luck : ByteArray := prog_1_method_34_code
def yX6_luck : MethodName := ⟨RX6, "luck", "(IIII)J"⟩
abbrev cX6_weighAll : ByteArray := prog_1_method_35_code
def yX6_weighAll : MethodName := ⟨RX6, "weighAll", "(III)J"⟩
abbrev cX6_weightOf : ByteArray := prog_1_method_36_code
def yX6_weightOf : MethodName := ⟨RX6, "weightOf", "(III)J"⟩
abbrev cX6_weightOfAll : ByteArray := prog_1_method_37_code
def yX6_weightOfAll : MethodName := ⟨RX6, "weightOfAll", "()J"⟩
abbrev cX6_outcome : ByteArray := prog_1_method_38_code
def yX6_outcome : MethodName := ⟨RX6, "outcome", "(III)I"⟩
abbrev cX6_partOfFraction : ByteArray := prog_1_method_39_code
def yX6_partOfFraction : MethodName := ⟨RX6, "partOfFraction", "(JJI)J"⟩
abbrev cX6_greatestDivisor : ByteArray := prog_1_method_40_code
def yX6_greatestDivisor : MethodName := ⟨RX6, "greatestDivisor", "(JJ)J"⟩
abbrev cX6_see : ByteArray := prog_1_method_41_code
def yX6_see : MethodName := ⟨RX6, "see", "(III)I"⟩
abbrev cX6_forget : ByteArray := prog_1_method_42_code
def yX6_forget : MethodName := ⟨RX6, "forget", "(I)I"⟩
abbrev cX6_kinds : ByteArray := prog_1_method_43_code
def yX6_kinds : MethodName := ⟨RX6, "kinds", "(I)I"⟩
abbrev cX6_fathers : ByteArray := prog_1_method_44_code
def yX6_fathers : MethodName := ⟨RX6, "fathers", "(I)I"⟩
abbrev cX6_asSeenBy : ByteArray := prog_1_method_45_code
def yX6_asSeenBy : MethodName := ⟨RX6, "asSeenBy", "(III)I"⟩
abbrev cX6_isAsSeen : ByteArray := prog_1_method_46_code
def yX6_isAsSeen : MethodName := ⟨RX6, "isAsSeen", "(LProofFine$World;)Z"⟩
abbrev cX6_look : ByteArray := prog_1_method_47_code
def yX6_look : MethodName := ⟨RX6, "look", "(II)I"⟩
abbrev cX6_noteSpots : ByteArray := prog_1_method_48_code
def yX6_noteSpots : MethodName := ⟨RX6, "noteSpots", "(I)V"⟩
abbrev cX6_leftAtWorst : ByteArray := prog_1_method_49_code
def yX6_leftAtWorst : MethodName := ⟨RX6, "leftAtWorst", "(II)I"⟩
abbrev cX6_drift : ByteArray := prog_1_method_50_code
def yX6_drift : MethodName := ⟨RX6, "drift", "(III)I"⟩
abbrev cX6_keep : ByteArray := prog_1_method_51_code
def yX6_keep : MethodName := ⟨RX6, "keep", "(I)I"⟩
abbrev cX6_back : ByteArray := prog_1_method_52_code
def yX6_back : MethodName := ⟨RX6, "back", "(I)I"⟩
abbrev cX6_sheet : ByteArray := prog_1_method_53_code
def yX6_sheet : MethodName := ⟨RX6, "sheet", "(III)I"⟩
abbrev cX6_lay : ByteArray := prog_1_method_54_code
def yX6_lay : MethodName := ⟨RX6, "lay", "(III)I"⟩
abbrev cX6_read : ByteArray := prog_1_method_55_code
def yX6_read : MethodName := ⟨RX6, "read", "(IIII)I"⟩
abbrev cX6_torn : ByteArray := prog_1_method_56_code
def yX6_torn : MethodName := ⟨RX6, "torn", "()I"⟩
abbrev cX6_count : ByteArray := prog_1_method_57_code
def yX6_count : MethodName := ⟨RX6, "count", "(I)I"⟩
abbrev cX6_within : ByteArray := prog_1_method_58_code
def yX6_within : MethodName := ⟨RX6, "within", "(III)Z"⟩
abbrev cX6_fromNow : ByteArray := prog_1_method_59_code
def yX6_fromNow : MethodName := ⟨RX6, "fromNow", "()LProofFine$World;"⟩
def RX7 : String := "ProofFineModel"
def TX7 : u_T := fun k => match k with
  | 0 => ("ProofFineModel", "st", "[I", true)
  | 1 => ("ProofFineModel", "now", "[I", true)
  | 2 => ("ProofFineModel", "isKept", "[Z", true)
  | 3 => ("ProofFineModel", "villages", "I", false)
  | 4 => ("ProofFineModel", "draft", "[I", true)
  | 5 => ("ProofFineModel", "dVillages", "I", false)
  | 6 => ("ProofFineModel", "toldLines", "I", false)
  | 7 => ("ProofFineModel", "highest", "I", false)
  | 8 => ("ProofFineModel", "tape", "[I", true)
  | 9 => ("ProofFineModel", "taped", "I", false)
  | 10 => ("ProofFineModel", "pos", "I", false)
  | 11 => ("ProofFineModel", "from", "I", false)
  | 12 => ("ProofFineModel", "sort", "I", false)
  | 13 => ("ProofFineModel", "value", "I", false)
  | 14 => ("ProofFineModel", "fault", "I", false)
  | 15 => ("ProofFineModel", "wrongAt", "I", false)
  | 16 => ("ProofFineModel", "turns", "[I", true)
  | 17 => ("ProofFineModel", "carried", "I", false)
  | 18 => ("ProofFineModel", "ruins", "I", false)
  | 19 => ("ProofFineModel", "paidSum", "J", false)
  | 20 => ("ProofFineModel", "finedSum", "J", false)
  | 21 => ("ProofFineModel", "allWays", "J", false)
  | 22 => ("ProofFineModel", "lay9", "[I", true)
  | 23 => ("ProofFineModel", "ways", "[I", true)
  | 24 => ("ProofFineModel", "lanes", "[I", true)
  | 25 => ("ProofFineModel", "sizes", "[I", true)
  | 26 => ("ProofFineModel", "cells", "[I", true)
  | 27 => ("ProofFineModel", "torn", "I", false)
  | _ => ("ProofFineModel", "before", "[I", true)
def tyX7 : Nat → FieldType := fun k => match k with
  | 0 => .array .int
  | 1 => .array .int
  | 2 => .array .boolean
  | 3 => .int
  | 4 => .array .int
  | 5 => .int
  | 6 => .int
  | 7 => .int
  | 8 => .array .int
  | 9 => .int
  | 10 => .int
  | 11 => .int
  | 12 => .int
  | 13 => .int
  | 14 => .int
  | 15 => .int
  | 16 => .array .int
  | 17 => .int
  | 18 => .int
  | 19 => .long
  | 20 => .long
  | 21 => .long
  | 22 => .array .int
  | 23 => .array .int
  | 24 => .array .int
  | 25 => .array .int
  | 26 => .array .int
  | 27 => .int
  | _ => .array .int
abbrev wsX70 : List Cond := u_ws RX7 TX7 29
theorem nmX7 : ∀ a, a < 29 → ∀ b, b < 29 → a ≠ b → (TX7 a).2.1 ≠ (TX7 b).2.1 := by decide +kernel
theorem tyX7_ok : ∀ k, k < 29 → parseFieldDescriptor (TX7 k).2.2.1 = some (tyX7 k) := by decide +kernel
abbrev cX7_init : ByteArray := prog_9_method_1_code
def yX7_init : MethodName := ⟨RX7, "<init>", "()V"⟩
abbrev cX7_in : ByteArray := prog_9_method_3_code
def yX7_in : MethodName := ⟨RX7, "in", "(JJJ)Z"⟩
abbrev cX7_flag : ByteArray := prog_9_method_4_code
def yX7_flag : MethodName := ⟨RX7, "flag", "(Z)I"⟩
abbrev cX7_firstDraft : ByteArray := prog_9_method_5_code
def yX7_firstDraft : MethodName := ⟨RX7, "firstDraft", "()V"⟩
abbrev cX7_keepDraft : ByteArray := prog_9_method_6_code
def yX7_keepDraft : MethodName := ⟨RX7, "keepDraft", "()V"⟩
abbrev cX7_feed : ByteArray := prog_9_method_7_code
def yX7_feed : MethodName := ⟨RX7, "feed", "(I)I"⟩
abbrev cX7_end : ByteArray := prog_9_method_8_code
def yX7_end : MethodName := ⟨RX7, "end", "(I)I"⟩
abbrev cX7_needs : ByteArray := prog_9_method_9_code
def yX7_needs : MethodName := ⟨RX7, "needs", "(ZI)V"⟩
abbrev cX7_byteAt : ByteArray := prog_9_method_10_code
def yX7_byteAt : MethodName := ⟨RX7, "byteAt", "(I)I"⟩
abbrev cX7_is : ByteArray := prog_9_method_11_code
def yX7_is : MethodName := ⟨RX7, "is", "(IIII)Z"⟩
abbrev cX7_ends : ByteArray := prog_9_method_12_code
def yX7_ends : MethodName := ⟨RX7, "ends", "(IIII)Z"⟩
abbrev cX7_kindNow : ByteArray := prog_9_method_13_code
def yX7_kindNow : MethodName := ⟨RX7, "kindNow", "()I"⟩
abbrev cX7_lineNow : ByteArray := prog_9_method_14_code
def yX7_lineNow : MethodName := ⟨RX7, "lineNow", "()I"⟩
abbrev cX7_takes : ByteArray := prog_9_method_15_code
def yX7_takes : MethodName := ⟨RX7, "takes", "()V"⟩
abbrev cX7_readNumber : ByteArray := prog_9_method_16_code
def yX7_readNumber : MethodName := ⟨RX7, "readNumber", "(II)I"⟩
abbrev cX7_readBody : ByteArray := prog_9_method_17_code
def yX7_readBody : MethodName := ⟨RX7, "readBody", "(I)V"⟩
abbrev cX7_readLineOf : ByteArray := prog_9_method_18_code
def yX7_readLineOf : MethodName := ⟨RX7, "readLineOf", "(I)V"⟩
abbrev cX7_readLine : ByteArray := prog_9_method_19_code
def yX7_readLine : MethodName := ⟨RX7, "readLine", "()V"⟩
abbrev cX7_text : ByteArray := prog_9_method_20_code
def yX7_text : MethodName := ⟨RX7, "text", "()I"⟩
abbrev cX7_fault : ByteArray := prog_9_method_21_code
def yX7_fault : MethodName := ⟨RX7, "fault", "()I"⟩
abbrev cX7_isVillage : ByteArray := prog_9_method_22_code
def yX7_isVillage : MethodName := ⟨RX7, "isVillage", "(I)Z"⟩
abbrev cX7_isBody : ByteArray := prog_9_method_23_code
def yX7_isBody : MethodName := ⟨RX7, "isBody", "(I)Z"⟩
abbrev cX7_isPart : ByteArray := prog_9_method_24_code
def yX7_isPart : MethodName := ⟨RX7, "isPart", "(I)Z"⟩
abbrev cX7_starts : ByteArray := prog_9_method_25_code
def yX7_starts : MethodName := ⟨RX7, "starts", "()V"⟩
abbrev cX7_settles : ByteArray := prog_9_method_26_code
def yX7_settles : MethodName := ⟨RX7, "settles", "()V"⟩
abbrev cX7_of : ByteArray := prog_9_method_27_code
def yX7_of : MethodName := ⟨RX7, "of", "(II)I"⟩
abbrev cX7_becomesOf : ByteArray := prog_9_method_28_code
def yX7_becomesOf : MethodName := ⟨RX7, "becomesOf", "(III)V"⟩
abbrev cX7_needOf : ByteArray := prog_9_method_29_code
def yX7_needOf : MethodName := ⟨RX7, "needOf", "(IZ)I"⟩
abbrev cX7_lacksOf : ByteArray := prog_9_method_30_code
def yX7_lacksOf : MethodName := ⟨RX7, "lacksOf", "(IZ)I"⟩
abbrev cX7_lacks : ByteArray := prog_9_method_31_code
def yX7_lacks : MethodName := ⟨RX7, "lacks", "(I)I"⟩
abbrev cX7_firstAt : ByteArray := prog_9_method_32_code
def yX7_firstAt : MethodName := ⟨RX7, "firstAt", "(I)I"⟩
abbrev cX7_villageGoes : ByteArray := prog_9_method_33_code
def yX7_villageGoes : MethodName := ⟨RX7, "villageGoes", "(I)V"⟩
abbrev cX7_crownerComes : ByteArray := prog_9_method_34_code
def yX7_crownerComes : MethodName := ⟨RX7, "crownerComes", "()V"⟩
abbrev cX7_nightGoes : ByteArray := prog_9_method_35_code
def yX7_nightGoes : MethodName := ⟨RX7, "nightGoes", "()V"⟩
abbrev cX7_allMeans : ByteArray := prog_9_method_36_code
def yX7_allMeans : MethodName := ⟨RX7, "allMeans", "()I"⟩
abbrev cX7_paidIn : ByteArray := prog_9_method_37_code
def yX7_paidIn : MethodName := ⟨RX7, "paidIn", "(I)I"⟩
abbrev cX7_inWay : ByteArray := prog_9_method_38_code
def yX7_inWay : MethodName := ⟨RX7, "inWay", "(I)I"⟩
abbrev cX7_bitsOf : ByteArray := prog_9_method_39_code
def yX7_bitsOf : MethodName := ⟨RX7, "bitsOf", "(I)I"⟩
abbrev cX7_lesser : ByteArray := prog_9_method_40_code
def yX7_lesser : MethodName := ⟨RX7, "lesser", "(II)I"⟩
abbrev cX7_rule : ByteArray := prog_9_method_41_code
def yX7_rule : MethodName := ⟨RX7, "rule", "(I)I"⟩
abbrev cX7_village : ByteArray := prog_9_method_42_code
def yX7_village : MethodName := ⟨RX7, "village", "(II)I"⟩
abbrev cX7_body : ByteArray := prog_9_method_43_code
def yX7_body : MethodName := ⟨RX7, "body", "(II)I"⟩
abbrev cX7_becomes : ByteArray := prog_9_method_44_code
def yX7_becomes : MethodName := ⟨RX7, "becomes", "(II)I"⟩
abbrev cX7_grant : ByteArray := prog_9_method_45_code
def yX7_grant : MethodName := ⟨RX7, "grant", "(III)I"⟩
abbrev cX7_liesStill : ByteArray := prog_9_method_46_code
def yX7_liesStill : MethodName := ⟨RX7, "liesStill", "(I)Z"⟩
abbrev cX7_alter : ByteArray := prog_9_method_47_code
def yX7_alter : MethodName := ⟨RX7, "alter", "(III)I"⟩
abbrev cX7_set : ByteArray := prog_9_method_48_code
def yX7_set : MethodName := ⟨RX7, "set", "(II)I"⟩
abbrev cX7_find : ByteArray := prog_9_method_49_code
def yX7_find : MethodName := ⟨RX7, "find", "(IIII)I"⟩
abbrev cX7_hire : ByteArray := prog_9_method_50_code
def yX7_hire : MethodName := ⟨RX7, "hire", "(I)I"⟩
abbrev cX7_nights : ByteArray := prog_9_method_51_code
def yX7_nights : MethodName := ⟨RX7, "nights", "(I)I"⟩
abbrev cX7_runs : ByteArray := prog_9_method_52_code
def yX7_runs : MethodName := ⟨RX7, "runs", "(II)I"⟩
abbrev cX7_ahead : ByteArray := prog_9_method_53_code
def yX7_ahead : MethodName := ⟨RX7, "ahead", "(III)I"⟩
abbrev cX7_settled : ByteArray := prog_9_method_54_code
def yX7_settled : MethodName := ⟨RX7, "settled", "(I)I"⟩
abbrev cX7_isJudged : ByteArray := prog_9_method_55_code
def yX7_isJudged : MethodName := ⟨RX7, "isJudged", "(I)Z"⟩
abbrev cX7_paidWith : ByteArray := prog_9_method_56_code
def yX7_paidWith : MethodName := ⟨RX7, "paidWith", "(III)I"⟩
abbrev cX7_dear : ByteArray := prog_9_method_57_code
def yX7_dear : MethodName := ⟨RX7, "dear", "(I)I"⟩
abbrev cX7_mild : ByteArray := prog_9_method_58_code
def yX7_mild : MethodName := ⟨RX7, "mild", "(I)I"⟩
abbrev cX7_watch : ByteArray := prog_9_method_59_code
def yX7_watch : MethodName := ⟨RX7, "watch", "(II)I"⟩
abbrev cX7_place : ByteArray := prog_9_method_60_code
def yX7_place : MethodName := ⟨RX7, "place", "(III)I"⟩
abbrev cX7_kin : ByteArray := prog_9_method_61_code
def yX7_kin : MethodName := ⟨RX7, "kin", "(II)I"⟩
abbrev cX7_late : ByteArray := prog_9_method_62_code
def yX7_late : MethodName := ⟨RX7, "late", "(I)I"⟩
abbrev cX7_isOrder : ByteArray := prog_9_method_63_code
def yX7_isOrder : MethodName := ⟨RX7, "isOrder", "(I)Z"⟩
abbrev cX7_order : ByteArray := prog_9_method_64_code
def yX7_order : MethodName := ⟨RX7, "order", "(II)I"⟩
abbrev cX7_common : ByteArray := prog_9_method_65_code
def yX7_common : MethodName := ⟨RX7, "common", "(JJ)J"⟩
abbrev cX7_told : ByteArray := prog_9_method_66_code
def yX7_told : MethodName := ⟨RX7, "told", "(JJI)J"⟩
abbrev cX7_findOdds : ByteArray := prog_9_method_67_code
def yX7_findOdds : MethodName := ⟨RX7, "findOdds", "(III)V"⟩
abbrev cX7_mean : ByteArray := prog_9_method_68_code
def yX7_mean : MethodName := ⟨RX7, "mean", "(III)J"⟩
abbrev cX7_luck : ByteArray := prog_9_method_69_code
def yX7_luck : MethodName := ⟨RX7, "luck", "(IIII)J"⟩
abbrev cX7_see : ByteArray := prog_9_method_70_code
def yX7_see : MethodName := ⟨RX7, "see", "(III)I"⟩
abbrev cX7_forget : ByteArray := prog_9_method_71_code
def yX7_forget : MethodName := ⟨RX7, "forget", "(I)I"⟩
abbrev cX7_isSoWith : ByteArray := prog_9_method_72_code
def yX7_isSoWith : MethodName := ⟨RX7, "isSoWith", "(II)Z"⟩
abbrev cX7_kindsOf : ByteArray := prog_9_method_73_code
def yX7_kindsOf : MethodName := ⟨RX7, "kindsOf", "(I)I"⟩
abbrev cX7_kinds : ByteArray := prog_9_method_74_code
def yX7_kinds : MethodName := ⟨RX7, "kinds", "(I)I"⟩
abbrev cX7_fathers : ByteArray := prog_9_method_75_code
def yX7_fathers : MethodName := ⟨RX7, "fathers", "(I)I"⟩
abbrev cX7_look : ByteArray := prog_9_method_76_code
def yX7_look : MethodName := ⟨RX7, "look", "(II)I"⟩
abbrev cX7_drift : ByteArray := prog_9_method_77_code
def yX7_drift : MethodName := ⟨RX7, "drift", "(III)I"⟩
abbrev cX7_copies : ByteArray := prog_9_method_78_code
def yX7_copies : MethodName := ⟨RX7, "copies", "(II)V"⟩
abbrev cX7_keep : ByteArray := prog_9_method_79_code
def yX7_keep : MethodName := ⟨RX7, "keep", "(I)I"⟩
abbrev cX7_back : ByteArray := prog_9_method_80_code
def yX7_back : MethodName := ⟨RX7, "back", "(I)I"⟩
abbrev cX7_isSheet : ByteArray := prog_9_method_81_code
def yX7_isSheet : MethodName := ⟨RX7, "isSheet", "(II)Z"⟩
abbrev cX7_sheet : ByteArray := prog_9_method_82_code
def yX7_sheet : MethodName := ⟨RX7, "sheet", "(III)I"⟩
abbrev cX7_lay : ByteArray := prog_9_method_83_code
def yX7_lay : MethodName := ⟨RX7, "lay", "(III)I"⟩
abbrev cX7_read : ByteArray := prog_9_method_84_code
def yX7_read : MethodName := ⟨RX7, "read", "(IIII)I"⟩
abbrev cX7_torn : ByteArray := prog_9_method_85_code
def yX7_torn : MethodName := ⟨RX7, "torn", "()I"⟩
abbrev cX7_count : ByteArray := prog_9_method_86_code
def yX7_count : MethodName := ⟨RX7, "count", "(I)I"⟩
def RJ6 : String := "java/lang/Integer"
def TJ6 : u_T := fun k => match k with
  | _ => ("", "", "", false)
def tyJ6 : Nat → FieldType := fun k => match k with
  | _ => .int
abbrev cJ6_bitCount_0f7a4 : ByteArray := prog_10_method_49_code
def yJ6_bitCount_0f7a4 : MethodName := ⟨RJ6, "bitCount", "(I)I"⟩
def RJ0 : String := "java/lang/String"
def TJ0 : u_T := fun k => match k with
  | _ => ("", "", "", false)
def tyJ0 : Nat → FieldType := fun k => match k with
  | _ => .int
abbrev cJ0_length_8abf5 : ByteArray := prog_11_method_54_code
def yJ0_length_8abf5 : MethodName := ⟨RJ0, "length", "()I"⟩
abbrev cJ0_charAt_5068e : ByteArray := prog_11_method_56_code
def yJ0_charAt_5068e : MethodName := ⟨RJ0, "charAt", "(I)C"⟩
abbrev cJ0_coder_7d493 : ByteArray := prog_11_method_152_code
def yJ0_coder_7d493 : MethodName := ⟨RJ0, "coder", "()B"⟩
abbrev cJ0_isLatin1_aae02 : ByteArray := prog_11_method_154_code
def yJ0_isLatin1_aae02 : MethodName := ⟨RJ0, "isLatin1", "()Z"⟩
abbrev cJ0_checkIndex_df160 : ByteArray := prog_11_method_155_code
def yJ0_checkIndex_df160 : MethodName := ⟨RJ0, "checkIndex", "(II)V"⟩
def RJ1 : String := "java/lang/StringLatin1"
def TJ1 : u_T := fun k => match k with
  | _ => ("", "", "", false)
def tyJ1 : Nat → FieldType := fun k => match k with
  | _ => .int
abbrev cJ1_charAt_3b067 : ByteArray := prog_12_method_2_code
def yJ1_charAt_3b067 : MethodName := ⟨RJ1, "charAt", "([BI)C"⟩
def RJ2 : String := "java/lang/StringUTF16"
def TJ2 : u_T := fun k => match k with
  | _ => ("", "", "", false)
def tyJ2 : Nat → FieldType := fun k => match k with
  | _ => .int
abbrev cJ2_getChar_3b067 : ByteArray := prog_13_method_5_code
def yJ2_getChar_3b067 : MethodName := ⟨RJ2, "getChar", "([BI)C"⟩
abbrev cJ2_length_9d52b : ByteArray := prog_13_method_6_code
def yJ2_length_9d52b : MethodName := ⟨RJ2, "length", "([B)I"⟩
abbrev cJ2_charAt_3b067 : ByteArray := prog_13_method_83_code
def yJ2_charAt_3b067 : MethodName := ⟨RJ2, "charAt", "([BI)C"⟩
abbrev cJ2_checkIndex_2214a : ByteArray := prog_13_method_91_code
def yJ2_checkIndex_2214a : MethodName := ⟨RJ2, "checkIndex", "(I[B)V"⟩
def RJ10 : String := "java/lang/System"
def TJ10 : u_T := fun k => match k with
  | _ => ("", "", "", false)
def tyJ10 : Nat → FieldType := fun k => match k with
  | _ => .int
def RJ3 : String := "jdk/internal/util/Preconditions"
def TJ3 : u_T := fun k => match k with
  | _ => ("", "", "", false)
def tyJ3 : Nat → FieldType := fun k => match k with
  | _ => .int
abbrev cJ3_checkIndex_8e157 : ByteArray := prog_15_method_11_code
def yJ3_checkIndex_8e157 : MethodName := ⟨RJ3, "checkIndex", "(IILjava/util/function/BiFunction;)I"⟩
def RL : String := "ProofFineLaw"
abbrev cL_law : ByteArray := code
def yL_law : MethodName := ⟨RL, "law", "([I)Z"⟩
