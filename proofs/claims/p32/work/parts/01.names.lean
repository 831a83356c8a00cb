section
-- ===== PART A: goes FIRST, ahead of the names: the tables' words, and 'selects' of the private methods out of them =====
/-- a private method of a class that the tables say can be made, by its rows of tables_1 -/
def lw_okq (q : MethodName × Nat) : Prop := (q.1.cls ≠ "java/lang/invoke/MethodHandle" ∧ q.1.cls ≠ "java/lang/invoke/VarHandle") ∧ Cond.instantiable q.1.cls q.2 ∈ tables_1 ∧ Cond.privateMethod q.1 ∈ tables_1 ∧ Cond.instanceMethod q.1 ∈ tables_1
theorem lw_p0 : lw_okq (⟨"ProofFine$Tape", "passRun", "(II)Z"⟩, 4) := ⟨⟨by decide +kernel, by decide +kernel⟩, List.mem_of_getElem? (i := 137) (by decide +kernel), List.mem_of_getElem? (i := 284) (by decide +kernel), List.mem_of_getElem? (i := 285) (by decide +kernel)⟩
theorem lw_p1 : lw_okq (⟨"ProofFine$Teller", "checkPlaces", "(LProofFine$World;)V"⟩, 5) := ⟨⟨by decide +kernel, by decide +kernel⟩, List.mem_of_getElem? (i := 131) (by decide +kernel), List.mem_of_getElem? (i := 288) (by decide +kernel), List.mem_of_getElem? (i := 289) (by decide +kernel)⟩
theorem lw_p2 : lw_okq (⟨"ProofFine$Teller", "refuse", "(II)V"⟩, 5) := ⟨⟨by decide +kernel, by decide +kernel⟩, List.mem_of_getElem? (i := 131) (by decide +kernel), List.mem_of_getElem? (i := 296) (by decide +kernel), List.mem_of_getElem? (i := 297) (by decide +kernel)⟩
theorem lw_p3 : lw_okq (⟨"ProofFine$Teller", "takeLine", "(ILProofFine$World;)V"⟩, 5) := ⟨⟨by decide +kernel, by decide +kernel⟩, List.mem_of_getElem? (i := 131) (by decide +kernel), List.mem_of_getElem? (i := 300) (by decide +kernel), List.mem_of_getElem? (i := 301) (by decide +kernel)⟩
theorem lw_p4 : lw_okq (⟨"ProofFine$Teller", "expect", "(II)Z"⟩, 5) := ⟨⟨by decide +kernel, by decide +kernel⟩, List.mem_of_getElem? (i := 131) (by decide +kernel), List.mem_of_getElem? (i := 304) (by decide +kernel), List.mem_of_getElem? (i := 305) (by decide +kernel)⟩
theorem lw_p5 : lw_okq (⟨"ProofFine$Teller", "lineOf", "()I"⟩, 5) := ⟨⟨by decide +kernel, by decide +kernel⟩, List.mem_of_getElem? (i := 131) (by decide +kernel), List.mem_of_getElem? (i := 308) (by decide +kernel), List.mem_of_getElem? (i := 309) (by decide +kernel)⟩
theorem lw_p6 : lw_okq (⟨"ProofFine$Teller", "hasNoRoom", "(ILProofFine$World;)Z"⟩, 5) := ⟨⟨by decide +kernel, by decide +kernel⟩, List.mem_of_getElem? (i := 131) (by decide +kernel), List.mem_of_getElem? (i := 375) (by decide +kernel), List.mem_of_getElem? (i := 376) (by decide +kernel)⟩
theorem lw_p7 : lw_okq (⟨"ProofFine$Teller", "takeNumbers", "(I)Z"⟩, 5) := ⟨⟨by decide +kernel, by decide +kernel⟩, List.mem_of_getElem? (i := 131) (by decide +kernel), List.mem_of_getElem? (i := 379) (by decide +kernel), List.mem_of_getElem? (i := 380) (by decide +kernel)⟩
theorem lw_p8 : lw_okq (⟨"ProofFine$Teller", "enter", "(ILProofFine$World;)V"⟩, 5) := ⟨⟨by decide +kernel, by decide +kernel⟩, List.mem_of_getElem? (i := 131) (by decide +kernel), List.mem_of_getElem? (i := 390) (by decide +kernel), List.mem_of_getElem? (i := 391) (by decide +kernel)⟩
theorem lw_p9 : lw_okq (⟨"ProofFine", "mayBecome", "(II)Z"⟩, 10) := ⟨⟨by decide +kernel, by decide +kernel⟩, List.mem_of_getElem? (i := 16) (by decide +kernel), List.mem_of_getElem? (i := 455) (by decide +kernel), List.mem_of_getElem? (i := 456) (by decide +kernel)⟩
theorem lw_p10 : lw_okq (⟨"ProofFine", "addFound", "(IIII)I"⟩, 10) := ⟨⟨by decide +kernel, by decide +kernel⟩, List.mem_of_getElem? (i := 16) (by decide +kernel), List.mem_of_getElem? (i := 471) (by decide +kernel), List.mem_of_getElem? (i := 472) (by decide +kernel)⟩
theorem lw_p11 : lw_okq (⟨"ProofFine$World", "takeTurn", "(I)V"⟩, 16) := ⟨⟨by decide +kernel, by decide +kernel⟩, List.mem_of_getElem? (i := 24) (by decide +kernel), List.mem_of_getElem? (i := 500) (by decide +kernel), List.mem_of_getElem? (i := 501) (by decide +kernel)⟩
theorem lw_p12 : lw_okq (⟨"ProofFine$World", "firstLyingAt", "(I)I"⟩, 16) := ⟨⟨by decide +kernel, by decide +kernel⟩, List.mem_of_getElem? (i := 24) (by decide +kernel), List.mem_of_getElem? (i := 504) (by decide +kernel), List.mem_of_getElem? (i := 505) (by decide +kernel)⟩
theorem lw_p13 : lw_okq (⟨"ProofFine$World", "handOn", "(II)V"⟩, 16) := ⟨⟨by decide +kernel, by decide +kernel⟩, List.mem_of_getElem? (i := 24) (by decide +kernel), List.mem_of_getElem? (i := 509) (by decide +kernel), List.mem_of_getElem? (i := 510) (by decide +kernel)⟩
theorem lw_p14 : lw_okq (⟨"ProofFine$World", "fineAll", "()V"⟩, 16) := ⟨⟨by decide +kernel, by decide +kernel⟩, List.mem_of_getElem? (i := 24) (by decide +kernel), List.mem_of_getElem? (i := 513) (by decide +kernel), List.mem_of_getElem? (i := 514) (by decide +kernel)⟩
theorem lw_p15 : lw_okq (⟨"ProofFine", "fromNow", "()LProofFine$World;"⟩, 10) := ⟨⟨by decide +kernel, by decide +kernel⟩, List.mem_of_getElem? (i := 16) (by decide +kernel), List.mem_of_getElem? (i := 521) (by decide +kernel), List.mem_of_getElem? (i := 522) (by decide +kernel)⟩
def lw_privs_1 : List (MethodName × Nat) := [(⟨"ProofFine$Tape", "passRun", "(II)Z"⟩, 4), (⟨"ProofFine$Teller", "checkPlaces", "(LProofFine$World;)V"⟩, 5), (⟨"ProofFine$Teller", "refuse", "(II)V"⟩, 5), (⟨"ProofFine$Teller", "takeLine", "(ILProofFine$World;)V"⟩, 5), (⟨"ProofFine$Teller", "expect", "(II)Z"⟩, 5), (⟨"ProofFine$Teller", "lineOf", "()I"⟩, 5), (⟨"ProofFine$Teller", "hasNoRoom", "(ILProofFine$World;)Z"⟩, 5), (⟨"ProofFine$Teller", "takeNumbers", "(I)Z"⟩, 5), (⟨"ProofFine$Teller", "enter", "(ILProofFine$World;)V"⟩, 5), (⟨"ProofFine", "mayBecome", "(II)Z"⟩, 10), (⟨"ProofFine", "addFound", "(IIII)I"⟩, 10), (⟨"ProofFine$World", "takeTurn", "(I)V"⟩, 16), (⟨"ProofFine$World", "firstLyingAt", "(I)I"⟩, 16), (⟨"ProofFine$World", "handOn", "(II)V"⟩, 16), (⟨"ProofFine$World", "fineAll", "()V"⟩, 16), (⟨"ProofFine", "fromNow", "()LProofFine$World;"⟩, 10)]
theorem lw_r1 : ∀ q ∈ lw_privs_1, lw_okq q := List.forall_mem_cons.mpr ⟨lw_p0, List.forall_mem_cons.mpr ⟨lw_p1, List.forall_mem_cons.mpr ⟨lw_p2, List.forall_mem_cons.mpr ⟨lw_p3, List.forall_mem_cons.mpr ⟨lw_p4, List.forall_mem_cons.mpr ⟨lw_p5, List.forall_mem_cons.mpr ⟨lw_p6, List.forall_mem_cons.mpr ⟨lw_p7, List.forall_mem_cons.mpr ⟨lw_p8, List.forall_mem_cons.mpr ⟨lw_p9, List.forall_mem_cons.mpr ⟨lw_p10, List.forall_mem_cons.mpr ⟨lw_p11, List.forall_mem_cons.mpr ⟨lw_p12, List.forall_mem_cons.mpr ⟨lw_p13, List.forall_mem_cons.mpr ⟨lw_p14, List.forall_mem_cons.mpr ⟨lw_p15, fun _ h => absurd h List.not_mem_nil⟩⟩⟩⟩⟩⟩⟩⟩⟩⟩⟩⟩⟩⟩⟩⟩
theorem lw_p16 : lw_okq (⟨"ProofFine", "provedByPrice", "(II)I"⟩, 10) := ⟨⟨by decide +kernel, by decide +kernel⟩, List.mem_of_getElem? (i := 16) (by decide +kernel), List.mem_of_getElem? (i := 538) (by decide +kernel), List.mem_of_getElem? (i := 539) (by decide +kernel)⟩
theorem lw_p17 : lw_okq (⟨"ProofFine", "meansBehind", "(III)I"⟩, 10) := ⟨⟨by decide +kernel, by decide +kernel⟩, List.mem_of_getElem? (i := 16) (by decide +kernel), List.mem_of_getElem? (i := 556) (by decide +kernel), List.mem_of_getElem? (i := 557) (by decide +kernel)⟩
theorem lw_p18 : lw_okq (⟨"ProofFine", "findBestTurns", "(I)I"⟩, 10) := ⟨⟨by decide +kernel, by decide +kernel⟩, List.mem_of_getElem? (i := 16) (by decide +kernel), List.mem_of_getElem? (i := 576) (by decide +kernel), List.mem_of_getElem? (i := 577) (by decide +kernel)⟩
theorem lw_p19 : lw_okq (⟨"ProofFine", "paidByTurns", "(I)I"⟩, 10) := ⟨⟨by decide +kernel, by decide +kernel⟩, List.mem_of_getElem? (i := 16) (by decide +kernel), List.mem_of_getElem? (i := 581) (by decide +kernel), List.mem_of_getElem? (i := 582) (by decide +kernel)⟩
theorem lw_p20 : lw_okq (⟨"ProofFine", "weighAll", "(III)J"⟩, 10) := ⟨⟨by decide +kernel, by decide +kernel⟩, List.mem_of_getElem? (i := 16) (by decide +kernel), List.mem_of_getElem? (i := 596) (by decide +kernel), List.mem_of_getElem? (i := 597) (by decide +kernel)⟩
theorem lw_p21 : lw_okq (⟨"ProofFine", "outcome", "(III)I"⟩, 10) := ⟨⟨by decide +kernel, by decide +kernel⟩, List.mem_of_getElem? (i := 16) (by decide +kernel), List.mem_of_getElem? (i := 603) (by decide +kernel), List.mem_of_getElem? (i := 604) (by decide +kernel)⟩
theorem lw_p22 : lw_okq (⟨"ProofFine", "weightOfAll", "()J"⟩, 10) := ⟨⟨by decide +kernel, by decide +kernel⟩, List.mem_of_getElem? (i := 16) (by decide +kernel), List.mem_of_getElem? (i := 607) (by decide +kernel), List.mem_of_getElem? (i := 608) (by decide +kernel)⟩
theorem lw_p23 : lw_okq (⟨"ProofFine", "asSeenBy", "(III)I"⟩, 10) := ⟨⟨by decide +kernel, by decide +kernel⟩, List.mem_of_getElem? (i := 16) (by decide +kernel), List.mem_of_getElem? (i := 638) (by decide +kernel), List.mem_of_getElem? (i := 639) (by decide +kernel)⟩
theorem lw_p24 : lw_okq (⟨"ProofFine", "isAsSeen", "(LProofFine$World;)Z"⟩, 10) := ⟨⟨by decide +kernel, by decide +kernel⟩, List.mem_of_getElem? (i := 16) (by decide +kernel), List.mem_of_getElem? (i := 642) (by decide +kernel), List.mem_of_getElem? (i := 643) (by decide +kernel)⟩
theorem lw_p25 : lw_okq (⟨"ProofFine", "noteSpots", "(I)V"⟩, 10) := ⟨⟨by decide +kernel, by decide +kernel⟩, List.mem_of_getElem? (i := 16) (by decide +kernel), List.mem_of_getElem? (i := 658) (by decide +kernel), List.mem_of_getElem? (i := 659) (by decide +kernel)⟩
theorem lw_p26 : lw_okq (⟨"ProofFine", "leftAtWorst", "(II)I"⟩, 10) := ⟨⟨by decide +kernel, by decide +kernel⟩, List.mem_of_getElem? (i := 16) (by decide +kernel), List.mem_of_getElem? (i := 662) (by decide +kernel), List.mem_of_getElem? (i := 663) (by decide +kernel)⟩
theorem lw_p27 : lw_okq (⟨"ProofFineModel", "firstDraft", "()V"⟩, 29) := ⟨⟨by decide +kernel, by decide +kernel⟩, List.mem_of_getElem? (i := 726) (by decide +kernel), List.mem_of_getElem? (i := 732) (by decide +kernel), List.mem_of_getElem? (i := 733) (by decide +kernel)⟩
theorem lw_p28 : lw_okq (⟨"ProofFineModel", "keepDraft", "()V"⟩, 29) := ⟨⟨by decide +kernel, by decide +kernel⟩, List.mem_of_getElem? (i := 726) (by decide +kernel), List.mem_of_getElem? (i := 736) (by decide +kernel), List.mem_of_getElem? (i := 737) (by decide +kernel)⟩
theorem lw_p29 : lw_okq (⟨"ProofFineModel", "takes", "()V"⟩, 29) := ⟨⟨by decide +kernel, by decide +kernel⟩, List.mem_of_getElem? (i := 726) (by decide +kernel), List.mem_of_getElem? (i := 845) (by decide +kernel), List.mem_of_getElem? (i := 846) (by decide +kernel)⟩
theorem lw_p30 : lw_okq (⟨"ProofFineModel", "byteAt", "(I)I"⟩, 29) := ⟨⟨by decide +kernel, by decide +kernel⟩, List.mem_of_getElem? (i := 726) (by decide +kernel), List.mem_of_getElem? (i := 849) (by decide +kernel), List.mem_of_getElem? (i := 850) (by decide +kernel)⟩
theorem lw_p31 : lw_okq (⟨"ProofFineModel", "needs", "(ZI)V"⟩, 29) := ⟨⟨by decide +kernel, by decide +kernel⟩, List.mem_of_getElem? (i := 726) (by decide +kernel), List.mem_of_getElem? (i := 857) (by decide +kernel), List.mem_of_getElem? (i := 858) (by decide +kernel)⟩
def lw_privs_2 : List (MethodName × Nat) := [(⟨"ProofFine", "provedByPrice", "(II)I"⟩, 10), (⟨"ProofFine", "meansBehind", "(III)I"⟩, 10), (⟨"ProofFine", "findBestTurns", "(I)I"⟩, 10), (⟨"ProofFine", "paidByTurns", "(I)I"⟩, 10), (⟨"ProofFine", "weighAll", "(III)J"⟩, 10), (⟨"ProofFine", "outcome", "(III)I"⟩, 10), (⟨"ProofFine", "weightOfAll", "()J"⟩, 10), (⟨"ProofFine", "asSeenBy", "(III)I"⟩, 10), (⟨"ProofFine", "isAsSeen", "(LProofFine$World;)Z"⟩, 10), (⟨"ProofFine", "noteSpots", "(I)V"⟩, 10), (⟨"ProofFine", "leftAtWorst", "(II)I"⟩, 10), (⟨"ProofFineModel", "firstDraft", "()V"⟩, 29), (⟨"ProofFineModel", "keepDraft", "()V"⟩, 29), (⟨"ProofFineModel", "takes", "()V"⟩, 29), (⟨"ProofFineModel", "byteAt", "(I)I"⟩, 29), (⟨"ProofFineModel", "needs", "(ZI)V"⟩, 29)]
theorem lw_r2 : ∀ q ∈ lw_privs_2, lw_okq q := List.forall_mem_cons.mpr ⟨lw_p16, List.forall_mem_cons.mpr ⟨lw_p17, List.forall_mem_cons.mpr ⟨lw_p18, List.forall_mem_cons.mpr ⟨lw_p19, List.forall_mem_cons.mpr ⟨lw_p20, List.forall_mem_cons.mpr ⟨lw_p21, List.forall_mem_cons.mpr ⟨lw_p22, List.forall_mem_cons.mpr ⟨lw_p23, List.forall_mem_cons.mpr ⟨lw_p24, List.forall_mem_cons.mpr ⟨lw_p25, List.forall_mem_cons.mpr ⟨lw_p26, List.forall_mem_cons.mpr ⟨lw_p27, List.forall_mem_cons.mpr ⟨lw_p28, List.forall_mem_cons.mpr ⟨lw_p29, List.forall_mem_cons.mpr ⟨lw_p30, List.forall_mem_cons.mpr ⟨lw_p31, fun _ h => absurd h List.not_mem_nil⟩⟩⟩⟩⟩⟩⟩⟩⟩⟩⟩⟩⟩⟩⟩⟩
theorem lw_p32 : lw_okq (⟨"ProofFineModel", "readLine", "()V"⟩, 29) := ⟨⟨by decide +kernel, by decide +kernel⟩, List.mem_of_getElem? (i := 726) (by decide +kernel), List.mem_of_getElem? (i := 861) (by decide +kernel), List.mem_of_getElem? (i := 862) (by decide +kernel)⟩
theorem lw_p33 : lw_okq (⟨"ProofFineModel", "lineNow", "()I"⟩, 29) := ⟨⟨by decide +kernel, by decide +kernel⟩, List.mem_of_getElem? (i := 726) (by decide +kernel), List.mem_of_getElem? (i := 865) (by decide +kernel), List.mem_of_getElem? (i := 866) (by decide +kernel)⟩
theorem lw_p34 : lw_okq (⟨"ProofFineModel", "is", "(IIII)Z"⟩, 29) := ⟨⟨by decide +kernel, by decide +kernel⟩, List.mem_of_getElem? (i := 726) (by decide +kernel), List.mem_of_getElem? (i := 869) (by decide +kernel), List.mem_of_getElem? (i := 870) (by decide +kernel)⟩
theorem lw_p35 : lw_okq (⟨"ProofFineModel", "ends", "(IIII)Z"⟩, 29) := ⟨⟨by decide +kernel, by decide +kernel⟩, List.mem_of_getElem? (i := 726) (by decide +kernel), List.mem_of_getElem? (i := 873) (by decide +kernel), List.mem_of_getElem? (i := 874) (by decide +kernel)⟩
theorem lw_p36 : lw_okq (⟨"ProofFineModel", "kindNow", "()I"⟩, 29) := ⟨⟨by decide +kernel, by decide +kernel⟩, List.mem_of_getElem? (i := 726) (by decide +kernel), List.mem_of_getElem? (i := 877) (by decide +kernel), List.mem_of_getElem? (i := 878) (by decide +kernel)⟩
theorem lw_p37 : lw_okq (⟨"ProofFineModel", "readLineOf", "(I)V"⟩, 29) := ⟨⟨by decide +kernel, by decide +kernel⟩, List.mem_of_getElem? (i := 726) (by decide +kernel), List.mem_of_getElem? (i := 881) (by decide +kernel), List.mem_of_getElem? (i := 882) (by decide +kernel)⟩
theorem lw_p38 : lw_okq (⟨"ProofFineModel", "readNumber", "(II)I"⟩, 29) := ⟨⟨by decide +kernel, by decide +kernel⟩, List.mem_of_getElem? (i := 726) (by decide +kernel), List.mem_of_getElem? (i := 885) (by decide +kernel), List.mem_of_getElem? (i := 886) (by decide +kernel)⟩
theorem lw_p39 : lw_okq (⟨"ProofFineModel", "readBody", "(I)V"⟩, 29) := ⟨⟨by decide +kernel, by decide +kernel⟩, List.mem_of_getElem? (i := 726) (by decide +kernel), List.mem_of_getElem? (i := 889) (by decide +kernel), List.mem_of_getElem? (i := 890) (by decide +kernel)⟩
theorem lw_p40 : lw_okq (⟨"ProofFineModel", "starts", "()V"⟩, 29) := ⟨⟨by decide +kernel, by decide +kernel⟩, List.mem_of_getElem? (i := 726) (by decide +kernel), List.mem_of_getElem? (i := 901) (by decide +kernel), List.mem_of_getElem? (i := 902) (by decide +kernel)⟩
theorem lw_p41 : lw_okq (⟨"ProofFineModel", "inWay", "(I)I"⟩, 29) := ⟨⟨by decide +kernel, by decide +kernel⟩, List.mem_of_getElem? (i := 726) (by decide +kernel), List.mem_of_getElem? (i := 905) (by decide +kernel), List.mem_of_getElem? (i := 906) (by decide +kernel)⟩
theorem lw_p42 : lw_okq (⟨"ProofFineModel", "of", "(II)I"⟩, 29) := ⟨⟨by decide +kernel, by decide +kernel⟩, List.mem_of_getElem? (i := 726) (by decide +kernel), List.mem_of_getElem? (i := 909) (by decide +kernel), List.mem_of_getElem? (i := 910) (by decide +kernel)⟩
theorem lw_p43 : lw_okq (⟨"ProofFineModel", "isVillage", "(I)Z"⟩, 29) := ⟨⟨by decide +kernel, by decide +kernel⟩, List.mem_of_getElem? (i := 726) (by decide +kernel), List.mem_of_getElem? (i := 920) (by decide +kernel), List.mem_of_getElem? (i := 921) (by decide +kernel)⟩
theorem lw_p44 : lw_okq (⟨"ProofFineModel", "isBody", "(I)Z"⟩, 29) := ⟨⟨by decide +kernel, by decide +kernel⟩, List.mem_of_getElem? (i := 726) (by decide +kernel), List.mem_of_getElem? (i := 929) (by decide +kernel), List.mem_of_getElem? (i := 930) (by decide +kernel)⟩
theorem lw_p45 : lw_okq (⟨"ProofFineModel", "lacks", "(I)I"⟩, 29) := ⟨⟨by decide +kernel, by decide +kernel⟩, List.mem_of_getElem? (i := 726) (by decide +kernel), List.mem_of_getElem? (i := 934) (by decide +kernel), List.mem_of_getElem? (i := 935) (by decide +kernel)⟩
theorem lw_p46 : lw_okq (⟨"ProofFineModel", "lacksOf", "(IZ)I"⟩, 29) := ⟨⟨by decide +kernel, by decide +kernel⟩, List.mem_of_getElem? (i := 726) (by decide +kernel), List.mem_of_getElem? (i := 938) (by decide +kernel), List.mem_of_getElem? (i := 939) (by decide +kernel)⟩
theorem lw_p47 : lw_okq (⟨"ProofFineModel", "becomes", "(II)I"⟩, 29) := ⟨⟨by decide +kernel, by decide +kernel⟩, List.mem_of_getElem? (i := 726) (by decide +kernel), List.mem_of_getElem? (i := 954) (by decide +kernel), List.mem_of_getElem? (i := 955) (by decide +kernel)⟩
def lw_privs_3 : List (MethodName × Nat) := [(⟨"ProofFineModel", "readLine", "()V"⟩, 29), (⟨"ProofFineModel", "lineNow", "()I"⟩, 29), (⟨"ProofFineModel", "is", "(IIII)Z"⟩, 29), (⟨"ProofFineModel", "ends", "(IIII)Z"⟩, 29), (⟨"ProofFineModel", "kindNow", "()I"⟩, 29), (⟨"ProofFineModel", "readLineOf", "(I)V"⟩, 29), (⟨"ProofFineModel", "readNumber", "(II)I"⟩, 29), (⟨"ProofFineModel", "readBody", "(I)V"⟩, 29), (⟨"ProofFineModel", "starts", "()V"⟩, 29), (⟨"ProofFineModel", "inWay", "(I)I"⟩, 29), (⟨"ProofFineModel", "of", "(II)I"⟩, 29), (⟨"ProofFineModel", "isVillage", "(I)Z"⟩, 29), (⟨"ProofFineModel", "isBody", "(I)Z"⟩, 29), (⟨"ProofFineModel", "lacks", "(I)I"⟩, 29), (⟨"ProofFineModel", "lacksOf", "(IZ)I"⟩, 29), (⟨"ProofFineModel", "becomes", "(II)I"⟩, 29)]
theorem lw_r3 : ∀ q ∈ lw_privs_3, lw_okq q := List.forall_mem_cons.mpr ⟨lw_p32, List.forall_mem_cons.mpr ⟨lw_p33, List.forall_mem_cons.mpr ⟨lw_p34, List.forall_mem_cons.mpr ⟨lw_p35, List.forall_mem_cons.mpr ⟨lw_p36, List.forall_mem_cons.mpr ⟨lw_p37, List.forall_mem_cons.mpr ⟨lw_p38, List.forall_mem_cons.mpr ⟨lw_p39, List.forall_mem_cons.mpr ⟨lw_p40, List.forall_mem_cons.mpr ⟨lw_p41, List.forall_mem_cons.mpr ⟨lw_p42, List.forall_mem_cons.mpr ⟨lw_p43, List.forall_mem_cons.mpr ⟨lw_p44, List.forall_mem_cons.mpr ⟨lw_p45, List.forall_mem_cons.mpr ⟨lw_p46, List.forall_mem_cons.mpr ⟨lw_p47, fun _ h => absurd h List.not_mem_nil⟩⟩⟩⟩⟩⟩⟩⟩⟩⟩⟩⟩⟩⟩⟩⟩
theorem lw_p48 : lw_okq (⟨"ProofFineModel", "liesStill", "(I)Z"⟩, 29) := ⟨⟨by decide +kernel, by decide +kernel⟩, List.mem_of_getElem? (i := 726) (by decide +kernel), List.mem_of_getElem? (i := 963) (by decide +kernel), List.mem_of_getElem? (i := 964) (by decide +kernel)⟩
theorem lw_p49 : lw_okq (⟨"ProofFineModel", "becomesOf", "(III)V"⟩, 29) := ⟨⟨by decide +kernel, by decide +kernel⟩, List.mem_of_getElem? (i := 726) (by decide +kernel), List.mem_of_getElem? (i := 981) (by decide +kernel), List.mem_of_getElem? (i := 982) (by decide +kernel)⟩
theorem lw_p50 : lw_okq (⟨"ProofFineModel", "settles", "()V"⟩, 29) := ⟨⟨by decide +kernel, by decide +kernel⟩, List.mem_of_getElem? (i := 726) (by decide +kernel), List.mem_of_getElem? (i := 985) (by decide +kernel), List.mem_of_getElem? (i := 986) (by decide +kernel)⟩
theorem lw_p51 : lw_okq (⟨"ProofFineModel", "paidIn", "(I)I"⟩, 29) := ⟨⟨by decide +kernel, by decide +kernel⟩, List.mem_of_getElem? (i := 726) (by decide +kernel), List.mem_of_getElem? (i := 994) (by decide +kernel), List.mem_of_getElem? (i := 995) (by decide +kernel)⟩
theorem lw_p52 : lw_okq (⟨"ProofFineModel", "allMeans", "()I"⟩, 29) := ⟨⟨by decide +kernel, by decide +kernel⟩, List.mem_of_getElem? (i := 726) (by decide +kernel), List.mem_of_getElem? (i := 998) (by decide +kernel), List.mem_of_getElem? (i := 999) (by decide +kernel)⟩
theorem lw_p53 : lw_okq (⟨"ProofFineModel", "nightGoes", "()V"⟩, 29) := ⟨⟨by decide +kernel, by decide +kernel⟩, List.mem_of_getElem? (i := 726) (by decide +kernel), List.mem_of_getElem? (i := 1002) (by decide +kernel), List.mem_of_getElem? (i := 1003) (by decide +kernel)⟩
theorem lw_p54 : lw_okq (⟨"ProofFineModel", "villageGoes", "(I)V"⟩, 29) := ⟨⟨by decide +kernel, by decide +kernel⟩, List.mem_of_getElem? (i := 726) (by decide +kernel), List.mem_of_getElem? (i := 1006) (by decide +kernel), List.mem_of_getElem? (i := 1007) (by decide +kernel)⟩
theorem lw_p55 : lw_okq (⟨"ProofFineModel", "firstAt", "(I)I"⟩, 29) := ⟨⟨by decide +kernel, by decide +kernel⟩, List.mem_of_getElem? (i := 726) (by decide +kernel), List.mem_of_getElem? (i := 1010) (by decide +kernel), List.mem_of_getElem? (i := 1011) (by decide +kernel)⟩
theorem lw_p56 : lw_okq (⟨"ProofFineModel", "crownerComes", "()V"⟩, 29) := ⟨⟨by decide +kernel, by decide +kernel⟩, List.mem_of_getElem? (i := 726) (by decide +kernel), List.mem_of_getElem? (i := 1014) (by decide +kernel), List.mem_of_getElem? (i := 1015) (by decide +kernel)⟩
theorem lw_p57 : lw_okq (⟨"ProofFineModel", "paidWith", "(III)I"⟩, 29) := ⟨⟨by decide +kernel, by decide +kernel⟩, List.mem_of_getElem? (i := 726) (by decide +kernel), List.mem_of_getElem? (i := 1038) (by decide +kernel), List.mem_of_getElem? (i := 1039) (by decide +kernel)⟩
theorem lw_p58 : lw_okq (⟨"ProofFineModel", "isOrder", "(I)Z"⟩, 29) := ⟨⟨by decide +kernel, by decide +kernel⟩, List.mem_of_getElem? (i := 726) (by decide +kernel), List.mem_of_getElem? (i := 1073) (by decide +kernel), List.mem_of_getElem? (i := 1074) (by decide +kernel)⟩
theorem lw_p59 : lw_okq (⟨"ProofFineModel", "findOdds", "(III)V"⟩, 29) := ⟨⟨by decide +kernel, by decide +kernel⟩, List.mem_of_getElem? (i := 726) (by decide +kernel), List.mem_of_getElem? (i := 1083) (by decide +kernel), List.mem_of_getElem? (i := 1084) (by decide +kernel)⟩
theorem lw_p60 : lw_okq (⟨"ProofFineModel", "kindsOf", "(I)I"⟩, 29) := ⟨⟨by decide +kernel, by decide +kernel⟩, List.mem_of_getElem? (i := 726) (by decide +kernel), List.mem_of_getElem? (i := 1109) (by decide +kernel), List.mem_of_getElem? (i := 1110) (by decide +kernel)⟩
theorem lw_p61 : lw_okq (⟨"ProofFineModel", "isSoWith", "(II)Z"⟩, 29) := ⟨⟨by decide +kernel, by decide +kernel⟩, List.mem_of_getElem? (i := 726) (by decide +kernel), List.mem_of_getElem? (i := 1113) (by decide +kernel), List.mem_of_getElem? (i := 1114) (by decide +kernel)⟩
theorem lw_p62 : lw_okq (⟨"ProofFineModel", "copies", "(II)V"⟩, 29) := ⟨⟨by decide +kernel, by decide +kernel⟩, List.mem_of_getElem? (i := 726) (by decide +kernel), List.mem_of_getElem? (i := 1134) (by decide +kernel), List.mem_of_getElem? (i := 1135) (by decide +kernel)⟩
def lw_privs_4 : List (MethodName × Nat) := [(⟨"ProofFineModel", "liesStill", "(I)Z"⟩, 29), (⟨"ProofFineModel", "becomesOf", "(III)V"⟩, 29), (⟨"ProofFineModel", "settles", "()V"⟩, 29), (⟨"ProofFineModel", "paidIn", "(I)I"⟩, 29), (⟨"ProofFineModel", "allMeans", "()I"⟩, 29), (⟨"ProofFineModel", "nightGoes", "()V"⟩, 29), (⟨"ProofFineModel", "villageGoes", "(I)V"⟩, 29), (⟨"ProofFineModel", "firstAt", "(I)I"⟩, 29), (⟨"ProofFineModel", "crownerComes", "()V"⟩, 29), (⟨"ProofFineModel", "paidWith", "(III)I"⟩, 29), (⟨"ProofFineModel", "isOrder", "(I)Z"⟩, 29), (⟨"ProofFineModel", "findOdds", "(III)V"⟩, 29), (⟨"ProofFineModel", "kindsOf", "(I)I"⟩, 29), (⟨"ProofFineModel", "isSoWith", "(II)Z"⟩, 29), (⟨"ProofFineModel", "copies", "(II)V"⟩, 29)]
theorem lw_r4 : ∀ q ∈ lw_privs_4, lw_okq q := List.forall_mem_cons.mpr ⟨lw_p48, List.forall_mem_cons.mpr ⟨lw_p49, List.forall_mem_cons.mpr ⟨lw_p50, List.forall_mem_cons.mpr ⟨lw_p51, List.forall_mem_cons.mpr ⟨lw_p52, List.forall_mem_cons.mpr ⟨lw_p53, List.forall_mem_cons.mpr ⟨lw_p54, List.forall_mem_cons.mpr ⟨lw_p55, List.forall_mem_cons.mpr ⟨lw_p56, List.forall_mem_cons.mpr ⟨lw_p57, List.forall_mem_cons.mpr ⟨lw_p58, List.forall_mem_cons.mpr ⟨lw_p59, List.forall_mem_cons.mpr ⟨lw_p60, List.forall_mem_cons.mpr ⟨lw_p61, List.forall_mem_cons.mpr ⟨lw_p62, fun _ h => absurd h List.not_mem_nil⟩⟩⟩⟩⟩⟩⟩⟩⟩⟩⟩⟩⟩⟩⟩
def lw_privs : List (MethodName × Nat) := lw_privs_1 ++ (lw_privs_2 ++ (lw_privs_3 ++ (lw_privs_4)))
def lw_tbl : List Cond := k2_sels lw_privs ++ tables_1
theorem lw_privs_ok : ∀ q ∈ lw_privs, lw_okq q := by
  show ∀ q ∈ lw_privs_1 ++ (lw_privs_2 ++ (lw_privs_3 ++ (lw_privs_4))), lw_okq q
  exact List.forall_mem_append.mpr ⟨lw_r1, List.forall_mem_append.mpr ⟨lw_r2, List.forall_mem_append.mpr ⟨lw_r3, lw_r4⟩⟩⟩
def RX0 : String := "ProofFine$Image"
def TX0 : u_T := fun k => match k with
  | 0 => ("ProofFine$Image", "kept", "Z", false)
  | 1 => ("ProofFine$Image", "world", "LProofFine$World;", true)
  | _ => ("ProofFine$Image", "seen", "LProofFine$Sightings;", true)
def tyX0 : Nat → FieldType := fun k => match k with
  | 0 => .boolean
  | 1 => .object "ProofFine$World"
  | _ => .object "ProofFine$Sightings"
abbrev wsX00 : List Cond := u_ws RX0 TX0 3
theorem nmX0 : ∀ a, a < 3 → ∀ b, b < 3 → a ≠ b → (TX0 a).2.1 ≠ (TX0 b).2.1 := by decide +kernel
theorem tyX0_ok : ∀ k, k < 3 → parseFieldDescriptor (TX0 k).2.2.1 = some (tyX0 k) := by decide +kernel
abbrev cX0_init : ByteArray := prog_2_method_1_code
def yX0_init : MethodName := ⟨RX0, "<init>", "()V"⟩
def RX1 : String := "ProofFine$Sheet"
def TX1 : u_T := fun k => match k with
  | 0 => ("ProofFine$Sheet", "there", "Z", false)
  | 1 => ("ProofFine$Sheet", "size", "I", false)
  | 2 => ("ProofFine$Sheet", "cells", "[I", true)
  | _ => ("ProofFine$Sheet", "lane", "I", false)
def tyX1 : Nat → FieldType := fun k => match k with
  | 0 => .boolean
  | 1 => .int
  | 2 => .array .int
  | _ => .int
abbrev wsX10 : List Cond := u_ws RX1 TX1 4
theorem nmX1 : ∀ a, a < 4 → ∀ b, b < 4 → a ≠ b → (TX1 a).2.1 ≠ (TX1 b).2.1 := by decide +kernel
theorem tyX1_ok : ∀ k, k < 4 → parseFieldDescriptor (TX1 k).2.2.1 = some (tyX1 k) := by decide +kernel
abbrev cX1_init : ByteArray := prog_3_method_1_code
def yX1_init : MethodName := ⟨RX1, "<init>", "()V"⟩
abbrev cX1_renew : ByteArray := prog_3_method_2_code
def yX1_renew : MethodName := ⟨RX1, "renew", "(II)V"⟩
abbrev cX1_faultAt : ByteArray := prog_3_method_3_code
def yX1_faultAt : MethodName := ⟨RX1, "faultAt", "(J)I"⟩
abbrev cX1_faultOfPair : ByteArray := prog_3_method_4_code
def yX1_faultOfPair : MethodName := ⟨RX1, "faultOfPair", "(IJ)I"⟩
abbrev cX1_put : ByteArray := prog_3_method_5_code
def yX1_put : MethodName := ⟨RX1, "put", "(II)V"⟩
def RX2 : String := "ProofFine$Sightings"
def TX2 : u_T := fun k => match k with
  | 0 => ("ProofFine$Sightings", "many", "I", false)
  | 1 => ("ProofFine$Sightings", "who", "[I", true)
  | 2 => ("ProofFine$Sightings", "when", "[I", true)
  | _ => ("ProofFine$Sightings", "where", "[I", true)
def tyX2 : Nat → FieldType := fun k => match k with
  | 0 => .int
  | 1 => .array .int
  | 2 => .array .int
  | _ => .array .int
abbrev wsX20 : List Cond := u_ws RX2 TX2 4
theorem nmX2 : ∀ a, a < 4 → ∀ b, b < 4 → a ≠ b → (TX2 a).2.1 ≠ (TX2 b).2.1 := by decide +kernel
theorem tyX2_ok : ∀ k, k < 4 → parseFieldDescriptor (TX2 k).2.2.1 = some (tyX2 k) := by decide +kernel
abbrev cX2_init : ByteArray := prog_4_method_1_code
def yX2_init : MethodName := ⟨RX2, "<init>", "()V"⟩
abbrev cX2_add : ByteArray := prog_4_method_2_code
def yX2_add : MethodName := ⟨RX2, "add", "(III)Z"⟩
abbrev cX2_fit : ByteArray := prog_4_method_3_code
def yX2_fit : MethodName := ⟨RX2, "fit", "(LProofFine$World;I)Z"⟩
abbrev cX2_become : ByteArray := prog_4_method_4_code
def yX2_become : MethodName := ⟨RX2, "become", "(LProofFine$Sightings;)V"⟩
def RX3 : String := "ProofFine$Tape"
def TX3 : u_T := fun k => match k with
  | 0 => ("ProofFine$Tape", "length", "I", false)
  | 1 => ("ProofFine$Tape", "start", "I", false)
  | 2 => ("ProofFine$Tape", "next", "I", false)
  | _ => ("ProofFine$Tape", "bytes", "[I", true)
def tyX3 : Nat → FieldType := fun k => match k with
  | 0 => .int
  | 1 => .int
  | 2 => .int
  | _ => .array .int
abbrev wsX30 : List Cond := u_ws RX3 TX3 4
theorem nmX3 : ∀ a, a < 4 → ∀ b, b < 4 → a ≠ b → (TX3 a).2.1 ≠ (TX3 b).2.1 := by decide +kernel
theorem tyX3_ok : ∀ k, k < 4 → parseFieldDescriptor (TX3 k).2.2.1 = some (tyX3 k) := by decide +kernel
abbrev cX3_init : ByteArray := prog_5_method_1_code
def yX3_init : MethodName := ⟨RX3, "<init>", "()V"⟩
abbrev cX3_append : ByteArray := prog_5_method_2_code
def yX3_append : MethodName := ⟨RX3, "append", "(I)Z"⟩
abbrev cX3_take : ByteArray := prog_5_method_3_code
def yX3_take : MethodName := ⟨RX3, "take", "()I"⟩
abbrev cX3_passRun : ByteArray := prog_5_method_4_code
def yX3_passRun : MethodName := ⟨RX3, "passRun", "(II)Z"⟩
abbrev cX3_number : ByteArray := prog_5_method_5_code
def yX3_number : MethodName := ⟨RX3, "number", "()I"⟩
abbrev cX3_isWord : ByteArray := prog_5_method_6_code
def yX3_isWord : MethodName := ⟨RX3, "isWord", "(Ljava/lang/String;)Z"⟩
def RX4 : String := "ProofFine$Teller"
def TX4 : u_T := fun k => match k with
  | 0 => ("ProofFine$Teller", "tape", "LProofFine$Tape;", true)
  | 1 => ("ProofFine$Teller", "fault", "I", false)
  | 2 => ("ProofFine$Teller", "faultPlace", "I", false)
  | 3 => ("ProofFine$Teller", "numbers", "[I", true)
  | _ => ("ProofFine$Teller", "told", "I", false)
def tyX4 : Nat → FieldType := fun k => match k with
  | 0 => .object "ProofFine$Tape"
  | 1 => .int
  | 2 => .int
  | 3 => .array .int
  | _ => .int
abbrev wsX40 : List Cond := u_ws RX4 TX4 5
theorem nmX4 : ∀ a, a < 5 → ∀ b, b < 5 → a ≠ b → (TX4 a).2.1 ≠ (TX4 b).2.1 := by decide +kernel
theorem tyX4_ok : ∀ k, k < 5 → parseFieldDescriptor (TX4 k).2.2.1 = some (tyX4 k) := by decide +kernel
abbrev cX4_init : ByteArray := prog_6_method_1_code
def yX4_init : MethodName := ⟨RX4, "<init>", "()V"⟩
abbrev cX4_tell : ByteArray := prog_6_method_2_code
def yX4_tell : MethodName := ⟨RX4, "tell", "(LProofFine$World;)I"⟩
abbrev cX4_takeLine : ByteArray := prog_6_method_3_code
def yX4_takeLine : MethodName := ⟨RX4, "takeLine", "(ILProofFine$World;)V"⟩
abbrev cX4_hasNoRoom : ByteArray := prog_6_method_4_code
def yX4_hasNoRoom : MethodName := ⟨RX4, "hasNoRoom", "(ILProofFine$World;)Z"⟩
abbrev cX4_takeNumbers : ByteArray := prog_6_method_5_code
def yX4_takeNumbers : MethodName := ⟨RX4, "takeNumbers", "(I)Z"⟩
abbrev cX4_most : ByteArray := prog_6_method_6_code
def yX4_most : MethodName := ⟨RX4, "most", "(II)I"⟩
abbrev cX4_enter : ByteArray := prog_6_method_7_code
def yX4_enter : MethodName := ⟨RX4, "enter", "(ILProofFine$World;)V"⟩
abbrev cX4_checkPlaces : ByteArray := prog_6_method_8_code
def yX4_checkPlaces : MethodName := ⟨RX4, "checkPlaces", "(LProofFine$World;)V"⟩
abbrev cX4_expect : ByteArray := prog_6_method_9_code
def yX4_expect : MethodName := ⟨RX4, "expect", "(II)Z"⟩
abbrev cX4_refuse : ByteArray := prog_6_method_10_code
def yX4_refuse : MethodName := ⟨RX4, "refuse", "(II)V"⟩
abbrev cX4_lineOf : ByteArray := prog_6_method_11_code
def yX4_lineOf : MethodName := ⟨RX4, "lineOf", "()I"⟩
abbrev cX4_word : ByteArray := prog_6_method_12_code
def yX4_word : MethodName := ⟨RX4, "word", "(I)Ljava/lang/String;"⟩
def RX5 : String := "ProofFine$World"
def TX5 : u_T := fun k => match k with
  | 0 => ("ProofFine$World", "villages", "I", false)
  | 1 => ("ProofFine$World", "bodies", "I", false)
  | 2 => ("ProofFine$World", "price", "I", false)
  | 3 => ("ProofFine$World", "fine", "I", false)
  | 4 => ("ProofFine$World", "round", "I", false)
  | 5 => ("ProofFine$World", "day", "I", false)
  | 6 => ("ProofFine$World", "ruined", "I", false)
  | 7 => ("ProofFine$World", "carried", "I", false)
  | 8 => ("ProofFine$World", "means", "[I", true)
  | 9 => ("ProofFine$World", "guards", "[I", true)
  | 10 => ("ProofFine$World", "turns", "[I", true)
  | 11 => ("ProofFine$World", "kindOf", "[I", true)
  | 12 => ("ProofFine$World", "at", "[I", true)
  | 13 => ("ProofFine$World", "fatherKin", "[I", true)
  | 14 => ("ProofFine$World", "motherKin", "[I", true)
  | _ => ("ProofFine$World", "way", "[I", true)
def tyX5 : Nat → FieldType := fun k => match k with
  | 0 => .int
  | 1 => .int
  | 2 => .int
  | 3 => .int
  | 4 => .int
  | 5 => .int
  | 6 => .int
  | 7 => .int
  | 8 => .array .int
  | 9 => .array .int
  | 10 => .array .int
  | 11 => .array .int
  | 12 => .array .int
  | 13 => .array .int
  | 14 => .array .int
  | _ => .array .int
abbrev wsX50 : List Cond := u_ws RX5 TX5 16
theorem nmX5 : ∀ a, a < 16 → ∀ b, b < 16 → a ≠ b → (TX5 a).2.1 ≠ (TX5 b).2.1 := by decide +kernel
theorem tyX5_ok : ∀ k, k < 16 → parseFieldDescriptor (TX5 k).2.2.1 = some (tyX5 k) := by decide +kernel
abbrev cX5_init : ByteArray := prog_7_method_1_code
def yX5_init : MethodName := ⟨RX5, "<init>", "()V"⟩
abbrev cX5_clear : ByteArray := prog_7_method_2_code
def yX5_clear : MethodName := ⟨RX5, "clear", "()V"⟩
abbrev cX5_takeTurnsByNumber : ByteArray := prog_7_method_3_code
def yX5_takeTurnsByNumber : MethodName := ⟨RX5, "takeTurnsByNumber", "()V"⟩
abbrev cX5_become : ByteArray := prog_7_method_4_code
def yX5_become : MethodName := ⟨RX5, "become", "(LProofFine$World;)V"⟩
abbrev cX5_hasVillage : ByteArray := prog_7_method_5_code
def yX5_hasVillage : MethodName := ⟨RX5, "hasVillage", "(I)Z"⟩
abbrev cX5_hasBody : ByteArray := prog_7_method_6_code
def yX5_hasBody : MethodName := ⟨RX5, "hasBody", "(I)Z"⟩
abbrev cX5_addVillage : ByteArray := prog_7_method_7_code
def yX5_addVillage : MethodName := ⟨RX5, "addVillage", "(II)Z"⟩
abbrev cX5_addBody : ByteArray := prog_7_method_8_code
def yX5_addBody : MethodName := ⟨RX5, "addBody", "(IIII)Z"⟩
abbrev cX5_bodyRow : ByteArray := prog_7_method_9_code
def yX5_bodyRow : MethodName := ⟨RX5, "bodyRow", "(I)[I"⟩
abbrev cX5_lacksOfFather : ByteArray := prog_7_method_10_code
def yX5_lacksOfFather : MethodName := ⟨RX5, "lacksOfFather", "(I)Z"⟩
abbrev cX5_lacks : ByteArray := prog_7_method_11_code
def yX5_lacks : MethodName := ⟨RX5, "lacks", "(I)I"⟩
abbrev cX5_lacksOfLying : ByteArray := prog_7_method_12_code
def yX5_lacksOfLying : MethodName := ⟨RX5, "lacksOfLying", "()I"⟩
abbrev cX5_inWay : ByteArray := prog_7_method_13_code
def yX5_inWay : MethodName := ⟨RX5, "inWay", "(I)I"⟩
abbrev cX5_lyingAt : ByteArray := prog_7_method_14_code
def yX5_lyingAt : MethodName := ⟨RX5, "lyingAt", "(I)I"⟩
abbrev cX5_allMeans : ByteArray := prog_7_method_15_code
def yX5_allMeans : MethodName := ⟨RX5, "allMeans", "()I"⟩
abbrev cX5_pass : ByteArray := prog_7_method_16_code
def yX5_pass : MethodName := ⟨RX5, "pass", "(I)I"⟩
abbrev cX5_passOne : ByteArray := prog_7_method_17_code
def yX5_passOne : MethodName := ⟨RX5, "passOne", "()V"⟩
abbrev cX5_takeTurn : ByteArray := prog_7_method_18_code
def yX5_takeTurn : MethodName := ⟨RX5, "takeTurn", "(I)V"⟩
abbrev cX5_firstLyingAt : ByteArray := prog_7_method_19_code
def yX5_firstLyingAt : MethodName := ⟨RX5, "firstLyingAt", "(I)I"⟩
abbrev cX5_handOn : ByteArray := prog_7_method_20_code
def yX5_handOn : MethodName := ⟨RX5, "handOn", "(II)V"⟩
abbrev cX5_fineAll : ByteArray := prog_7_method_21_code
def yX5_fineAll : MethodName := ⟨RX5, "fineAll", "()V"⟩
def RX6 : String := "ProofFine"
def TX6 : u_T := fun k => match k with
  | 0 => ("ProofFine", "now", "LProofFine$World;", true)
  | 1 => ("ProofFine", "spare", "LProofFine$World;", true)
  | 2 => ("ProofFine", "seen", "LProofFine$Sightings;", true)
  | 3 => ("ProofFine", "teller", "LProofFine$Teller;", true)
  | 4 => ("ProofFine", "images", "[LProofFine$Image;", true)
  | 5 => ("ProofFine", "sheets", "[LProofFine$Sheet;", true)
  | 6 => ("ProofFine", "turns", "[I", true)
  | 7 => ("ProofFine", "bestTurns", "[I", true)
  | 8 => ("ProofFine", "spots", "[I", true)
  | _ => ("ProofFine", "tornFault", "I", false)
def tyX6 : Nat → FieldType := fun k => match k with
  | 0 => .object "ProofFine$World"
  | 1 => .object "ProofFine$World"
  | 2 => .object "ProofFine$Sightings"
  | 3 => .object "ProofFine$Teller"
  | 4 => .array (.object "ProofFine$Image")
  | 5 => .array (.object "ProofFine$Sheet")
  | 6 => .array .int
  | 7 => .array .int
  | 8 => .array .int
  | _ => .int
abbrev wsX60 : List Cond := u_ws RX6 TX6 10
theorem nmX6 : ∀ a, a < 10 → ∀ b, b < 10 → a ≠ b → (TX6 a).2.1 ≠ (TX6 b).2.1 := by decide +kernel
theorem tyX6_ok : ∀ k, k < 10 → parseFieldDescriptor (TX6 k).2.2.1 = some (tyX6 k) := by decide +kernel
abbrev cX6_init : ByteArray := prog_1_method_1_code
def yX6_init : MethodName := ⟨RX6, "<init>", "()V"⟩
abbrev cX6_feed : ByteArray := prog_1_method_2_code
def yX6_feed : MethodName := ⟨RX6, "feed", "(I)I"⟩
abbrev cX6_end : ByteArray := prog_1_method_3_code
def yX6_end : MethodName := ⟨RX6, "end", "(I)I"⟩
abbrev cX6_text : ByteArray := prog_1_method_4_code
def yX6_text : MethodName := ⟨RX6, "text", "()I"⟩
abbrev cX6_fault : ByteArray := prog_1_method_5_code
def yX6_fault : MethodName := ⟨RX6, "fault", "()I"⟩
abbrev cX6_rule : ByteArray := prog_1_method_6_code
def yX6_rule : MethodName := ⟨RX6, "rule", "(I)I"⟩
abbrev cX6_village : ByteArray := prog_1_method_7_code
def yX6_village : MethodName := ⟨RX6, "village", "(II)I"⟩
abbrev cX6_body : ByteArray := prog_1_method_8_code
def yX6_body : MethodName := ⟨RX6, "body", "(II)I"⟩
abbrev cX6_grant : ByteArray := prog_1_method_9_code
def yX6_grant : MethodName := ⟨RX6, "grant", "(III)I"⟩
abbrev cX6_alter : ByteArray := prog_1_method_10_code
def yX6_alter : MethodName := ⟨RX6, "alter", "(III)I"⟩
abbrev cX6_mayBecome : ByteArray := prog_1_method_11_code
def yX6_mayBecome : MethodName := ⟨RX6, "mayBecome", "(II)Z"⟩
abbrev cX6_set : ByteArray := prog_1_method_12_code
def yX6_set : MethodName := ⟨RX6, "set", "(II)I"⟩
abbrev cX6_find : ByteArray := prog_1_method_13_code
def yX6_find : MethodName := ⟨RX6, "find", "(IIII)I"⟩
abbrev cX6_addFound : ByteArray := prog_1_method_14_code
def yX6_addFound : MethodName := ⟨RX6, "addFound", "(IIII)I"⟩
abbrev cX6_hire : ByteArray := prog_1_method_15_code
def yX6_hire : MethodName := ⟨RX6, "hire", "(I)I"⟩
abbrev cX6_nights : ByteArray := prog_1_method_16_code
def yX6_nights : MethodName := ⟨RX6, "nights", "(I)I"⟩
abbrev cX6_runs : ByteArray := prog_1_method_17_code
def yX6_runs : MethodName := ⟨RX6, "runs", "(II)I"⟩
abbrev cX6_ahead : ByteArray := prog_1_method_18_code
def yX6_ahead : MethodName := ⟨RX6, "ahead", "(III)I"⟩
abbrev cX6_settled : ByteArray := prog_1_method_19_code
def yX6_settled : MethodName := ⟨RX6, "settled", "(I)I"⟩
abbrev cX6_dear : ByteArray := prog_1_method_20_code
def yX6_dear : MethodName := ⟨RX6, "dear", "(I)I"⟩
abbrev cX6_provedByPrice : ByteArray := prog_1_method_21_code
def yX6_provedByPrice : MethodName := ⟨RX6, "provedByPrice", "(II)I"⟩
abbrev cX6_mild : ByteArray := prog_1_method_22_code
def yX6_mild : MethodName := ⟨RX6, "mild", "(I)I"⟩
abbrev cX6_watch : ByteArray := prog_1_method_23_code
def yX6_watch : MethodName := ⟨RX6, "watch", "(II)I"⟩
abbrev cX6_meansBehind : ByteArray := prog_1_method_24_code
def yX6_meansBehind : MethodName := ⟨RX6, "meansBehind", "(III)I"⟩
abbrev cX6_place : ByteArray := prog_1_method_25_code
def yX6_place : MethodName := ⟨RX6, "place", "(III)I"⟩
abbrev cX6_kin : ByteArray := prog_1_method_26_code
def yX6_kin : MethodName := ⟨RX6, "kin", "(II)I"⟩
abbrev cX6_late : ByteArray := prog_1_method_27_code
def yX6_late : MethodName := ⟨RX6, "late", "(I)I"⟩
abbrev cX6_order : ByteArray := prog_1_method_28_code
def yX6_order : MethodName := ⟨RX6, "order", "(II)I"⟩
abbrev cX6_findBestTurns : ByteArray := prog_1_method_29_code
def yX6_findBestTurns : MethodName := ⟨RX6, "findBestTurns", "(I)I"⟩
abbrev cX6_paidByTurns : ByteArray := prog_1_method_30_code
def yX6_paidByTurns : MethodName := ⟨RX6, "paidByTurns", "(I)I"⟩
abbrev cX6_arrangeNext : ByteArray := prog_1_method_31_code
def yX6_arrangeNext : MethodName := ⟨RX6, "arrangeNext", "([II)Z"⟩
abbrev cX6_swap : ByteArray := prog_1_method_32_code
def yX6_swap : MethodName := ⟨RX6, "swap", "([III)V"⟩
abbrev cX6_mean : ByteArray := prog_1_method_33_code
def yX6_mean : MethodName := ⟨RX6, "mean", "(III)J"⟩
abbrev cX6_luck : ByteArray := prog_1_method_34_code
def yX6_luck : MethodName := ⟨RX6, "luck", "(IIII)J"⟩
abbrev cX6_weighAll : ByteArray := prog_1_method_35_code
def yX6_weighAll : MethodName := ⟨RX6, "weighAll", "(III)J"⟩
abbrev cX6_weightOf : ByteArray := prog_1_method_36_code
def yX6_weightOf : MethodName := ⟨RX6, "weightOf", "(III)J"⟩
abbrev cX6_weightOfAll : ByteArray := prog_1_method_37_code
def yX6_weightOfAll : MethodName := ⟨RX6, "weightOfAll", "()J"⟩
abbrev cX6_outcome : ByteArray := prog_1_method_38_code
def yX6_outcome : MethodName := ⟨RX6, "outcome", "(III)I"⟩
abbrev cX6_partOfFraction : ByteArray := prog_1_method_39_code
def yX6_partOfFraction : MethodName := ⟨RX6, "partOfFraction", "(JJI)J"⟩
abbrev cX6_greatestDivisor : ByteArray := prog_1_method_40_code
def yX6_greatestDivisor : MethodName := ⟨RX6, "greatestDivisor", "(JJ)J"⟩
abbrev cX6_see : ByteArray := prog_1_method_41_code
def yX6_see : MethodName := ⟨RX6, "see", "(III)I"⟩
abbrev cX6_forget : ByteArray := prog_1_method_42_code
def yX6_forget : MethodName := ⟨RX6, "forget", "(I)I"⟩
abbrev cX6_kinds : ByteArray := prog_1_method_43_code
def yX6_kinds : MethodName := ⟨RX6, "kinds", "(I)I"⟩
abbrev cX6_fathers : ByteArray := prog_1_method_44_code
def yX6_fathers : MethodName := ⟨RX6, "fathers", "(I)I"⟩
abbrev cX6_asSeenBy : ByteArray := prog_1_method_45_code
def yX6_asSeenBy : MethodName := ⟨RX6, "asSeenBy", "(III)I"⟩
abbrev cX6_isAsSeen : ByteArray := prog_1_method_46_code
def yX6_isAsSeen : MethodName := ⟨RX6, "isAsSeen", "(LProofFine$World;)Z"⟩
abbrev cX6_look : ByteArray := prog_1_method_47_code
def yX6_look : MethodName := ⟨RX6, "look", "(II)I"⟩
abbrev cX6_noteSpots : ByteArray := prog_1_method_48_code
def yX6_noteSpots : MethodName := ⟨RX6, "noteSpots", "(I)V"⟩
abbrev cX6_leftAtWorst : ByteArray := prog_1_method_49_code
def yX6_leftAtWorst : MethodName := ⟨RX6, "leftAtWorst", "(II)I"⟩
abbrev cX6_drift : ByteArray := prog_1_method_50_code
def yX6_drift : MethodName := ⟨RX6, "drift", "(III)I"⟩
abbrev cX6_keep : ByteArray := prog_1_method_51_code
def yX6_keep : MethodName := ⟨RX6, "keep", "(I)I"⟩
abbrev cX6_back : ByteArray := prog_1_method_52_code
def yX6_back : MethodName := ⟨RX6, "back", "(I)I"⟩
abbrev cX6_sheet : ByteArray := prog_1_method_53_code
def yX6_sheet : MethodName := ⟨RX6, "sheet", "(III)I"⟩
abbrev cX6_lay : ByteArray := prog_1_method_54_code
def yX6_lay : MethodName := ⟨RX6, "lay", "(III)I"⟩
abbrev cX6_read : ByteArray := prog_1_method_55_code
def yX6_read : MethodName := ⟨RX6, "read", "(IIII)I"⟩
abbrev cX6_torn : ByteArray := prog_1_method_56_code
def yX6_torn : MethodName := ⟨RX6, "torn", "()I"⟩
abbrev cX6_count : ByteArray := prog_1_method_57_code
def yX6_count : MethodName := ⟨RX6, "count", "(I)I"⟩
abbrev cX6_within : ByteArray := prog_1_method_58_code
def yX6_within : MethodName := ⟨RX6, "within", "(III)Z"⟩
abbrev cX6_fromNow : ByteArray := prog_1_method_59_code
def yX6_fromNow : MethodName := ⟨RX6, "fromNow", "()LProofFine$World;"⟩
def RX7 : String := "ProofFineModel"
def TX7 : u_T := fun k => match k with
  | 0 => ("ProofFineModel", "st", "[I", true)
  | 1 => ("ProofFineModel", "now", "[I", true)
  | 2 => ("ProofFineModel", "isKept", "[Z", true)
  | 3 => ("ProofFineModel", "villages", "I", false)
  | 4 => ("ProofFineModel", "draft", "[I", true)
  | 5 => ("ProofFineModel", "dVillages", "I", false)
  | 6 => ("ProofFineModel", "toldLines", "I", false)
  | 7 => ("ProofFineModel", "highest", "I", false)
  | 8 => ("ProofFineModel", "tape", "[I", true)
  | 9 => ("ProofFineModel", "taped", "I", false)
  | 10 => ("ProofFineModel", "pos", "I", false)
  | 11 => ("ProofFineModel", "from", "I", false)
  | 12 => ("ProofFineModel", "sort", "I", false)
  | 13 => ("ProofFineModel", "value", "I", false)
  | 14 => ("ProofFineModel", "fault", "I", false)
  | 15 => ("ProofFineModel", "wrongAt", "I", false)
  | 16 => ("ProofFineModel", "turns", "[I", true)
  | 17 => ("ProofFineModel", "carried", "I", false)
  | 18 => ("ProofFineModel", "ruins", "I", false)
  | 19 => ("ProofFineModel", "paidSum", "J", false)
  | 20 => ("ProofFineModel", "finedSum", "J", false)
  | 21 => ("ProofFineModel", "allWays", "J", false)
  | 22 => ("ProofFineModel", "lay9", "[I", true)
  | 23 => ("ProofFineModel", "ways", "[I", true)
  | 24 => ("ProofFineModel", "lanes", "[I", true)
  | 25 => ("ProofFineModel", "sizes", "[I", true)
  | 26 => ("ProofFineModel", "cells", "[I", true)
  | 27 => ("ProofFineModel", "torn", "I", false)
  | _ => ("ProofFineModel", "before", "[I", true)
def tyX7 : Nat → FieldType := fun k => match k with
  | 0 => .array .int
  | 1 => .array .int
  | 2 => .array .boolean
  | 3 => .int
  | 4 => .array .int
  | 5 => .int
  | 6 => .int
  | 7 => .int
  | 8 => .array .int
  | 9 => .int
  | 10 => .int
  | 11 => .int
  | 12 => .int
  | 13 => .int
  | 14 => .int
  | 15 => .int
  | 16 => .array .int
  | 17 => .int
  | 18 => .int
  | 19 => .long
  | 20 => .long
  | 21 => .long
  | 22 => .array .int
  | 23 => .array .int
  | 24 => .array .int
  | 25 => .array .int
  | 26 => .array .int
  | 27 => .int
  | _ => .array .int
abbrev wsX70 : List Cond := u_ws RX7 TX7 29
theorem nmX7 : ∀ a, a < 29 → ∀ b, b < 29 → a ≠ b → (TX7 a).2.1 ≠ (TX7 b).2.1 := by decide +kernel
theorem tyX7_ok : ∀ k, k < 29 → parseFieldDescriptor (TX7 k).2.2.1 = some (tyX7 k) := by decide +kernel
abbrev cX7_init : ByteArray := prog_9_method_1_code
def yX7_init : MethodName := ⟨RX7, "<init>", "()V"⟩
abbrev cX7_in : ByteArray := prog_9_method_3_code
def yX7_in : MethodName := ⟨RX7, "in", "(JJJ)Z"⟩
abbrev cX7_flag : ByteArray := prog_9_method_4_code
def yX7_flag : MethodName := ⟨RX7, "flag", "(Z)I"⟩
abbrev cX7_firstDraft : ByteArray := prog_9_method_5_code
def yX7_firstDraft : MethodName := ⟨RX7, "firstDraft", "()V"⟩
abbrev cX7_keepDraft : ByteArray := prog_9_method_6_code
def yX7_keepDraft : MethodName := ⟨RX7, "keepDraft", "()V"⟩
abbrev cX7_feed : ByteArray := prog_9_method_7_code
def yX7_feed : MethodName := ⟨RX7, "feed", "(I)I"⟩
abbrev cX7_end : ByteArray := prog_9_method_8_code
def yX7_end : MethodName := ⟨RX7, "end", "(I)I"⟩
abbrev cX7_needs : ByteArray := prog_9_method_9_code
def yX7_needs : MethodName := ⟨RX7, "needs", "(ZI)V"⟩
abbrev cX7_byteAt : ByteArray := prog_9_method_10_code
def yX7_byteAt : MethodName := ⟨RX7, "byteAt", "(I)I"⟩
abbrev cX7_is : ByteArray := prog_9_method_11_code
def yX7_is : MethodName := ⟨RX7, "is", "(IIII)Z"⟩
abbrev cX7_ends : ByteArray := prog_9_method_12_code
def yX7_ends : MethodName := ⟨RX7, "ends", "(IIII)Z"⟩
abbrev cX7_kindNow : ByteArray := prog_9_method_13_code
def yX7_kindNow : MethodName := ⟨RX7, "kindNow", "()I"⟩
abbrev cX7_lineNow : ByteArray := prog_9_method_14_code
def yX7_lineNow : MethodName := ⟨RX7, "lineNow", "()I"⟩
abbrev cX7_takes : ByteArray := prog_9_method_15_code
def yX7_takes : MethodName := ⟨RX7, "takes", "()V"⟩
abbrev cX7_readNumber : ByteArray := prog_9_method_16_code
def yX7_readNumber : MethodName := ⟨RX7, "readNumber", "(II)I"⟩
abbrev cX7_readBody : ByteArray := prog_9_method_17_code
def yX7_readBody : MethodName := ⟨RX7, "readBody", "(I)V"⟩
abbrev cX7_readLineOf : ByteArray := prog_9_method_18_code
def yX7_readLineOf : MethodName := ⟨RX7, "readLineOf", "(I)V"⟩
abbrev cX7_readLine : ByteArray := prog_9_method_19_code
def yX7_readLine : MethodName := ⟨RX7, "readLine", "()V"⟩
abbrev cX7_text : ByteArray := prog_9_method_20_code
def yX7_text : MethodName := ⟨RX7, "text", "()I"⟩
abbrev cX7_fault : ByteArray := prog_9_method_21_code
def yX7_fault : MethodName := ⟨RX7, "fault", "()I"⟩
abbrev cX7_isVillage : ByteArray := prog_9_method_22_code
def yX7_isVillage : MethodName := ⟨RX7, "isVillage", "(I)Z"⟩
abbrev cX7_isBody : ByteArray := prog_9_method_23_code
def yX7_isBody : MethodName := ⟨RX7, "isBody", "(I)Z"⟩
abbrev cX7_isPart : ByteArray := prog_9_method_24_code
def yX7_isPart : MethodName := ⟨RX7, "isPart", "(I)Z"⟩
abbrev cX7_starts : ByteArray := prog_9_method_25_code
def yX7_starts : MethodName := ⟨RX7, "starts", "()V"⟩
abbrev cX7_settles : ByteArray := prog_9_method_26_code
def yX7_settles : MethodName := ⟨RX7, "settles", "()V"⟩
abbrev cX7_of : ByteArray := prog_9_method_27_code
def yX7_of : MethodName := ⟨RX7, "of", "(II)I"⟩
abbrev cX7_becomesOf : ByteArray := prog_9_method_28_code
def yX7_becomesOf : MethodName := ⟨RX7, "becomesOf", "(III)V"⟩
abbrev cX7_needOf : ByteArray := prog_9_method_29_code
def yX7_needOf : MethodName := ⟨RX7, "needOf", "(IZ)I"⟩
abbrev cX7_lacksOf : ByteArray := prog_9_method_30_code
def yX7_lacksOf : MethodName := ⟨RX7, "lacksOf", "(IZ)I"⟩
abbrev cX7_lacks : ByteArray := prog_9_method_31_code
def yX7_lacks : MethodName := ⟨RX7, "lacks", "(I)I"⟩
abbrev cX7_firstAt : ByteArray := prog_9_method_32_code
def yX7_firstAt : MethodName := ⟨RX7, "firstAt", "(I)I"⟩
abbrev cX7_villageGoes : ByteArray := prog_9_method_33_code
def yX7_villageGoes : MethodName := ⟨RX7, "villageGoes", "(I)V"⟩
abbrev cX7_crownerComes : ByteArray := prog_9_method_34_code
def yX7_crownerComes : MethodName := ⟨RX7, "crownerComes", "()V"⟩
abbrev cX7_nightGoes : ByteArray := prog_9_method_35_code
def yX7_nightGoes : MethodName := ⟨RX7, "nightGoes", "()V"⟩
abbrev cX7_allMeans : ByteArray := prog_9_method_36_code
def yX7_allMeans : MethodName := ⟨RX7, "allMeans", "()I"⟩
abbrev cX7_paidIn : ByteArray := prog_9_method_37_code
def yX7_paidIn : MethodName := ⟨RX7, "paidIn", "(I)I"⟩
abbrev cX7_inWay : ByteArray := prog_9_method_38_code
def yX7_inWay : MethodName := ⟨RX7, "inWay", "(I)I"⟩
abbrev cX7_bitsOf : ByteArray := prog_9_method_39_code
def yX7_bitsOf : MethodName := ⟨RX7, "bitsOf", "(I)I"⟩
abbrev cX7_lesser : ByteArray := prog_9_method_40_code
def yX7_lesser : MethodName := ⟨RX7, "lesser", "(II)I"⟩
abbrev cX7_rule : ByteArray := prog_9_method_41_code
def yX7_rule : MethodName := ⟨RX7, "rule", "(I)I"⟩
abbrev cX7_village : ByteArray := prog_9_method_42_code
def yX7_village : MethodName := ⟨RX7, "village", "(II)I"⟩
abbrev cX7_body : ByteArray := prog_9_method_43_code
def yX7_body : MethodName := ⟨RX7, "body", "(II)I"⟩
abbrev cX7_becomes : ByteArray := prog_9_method_44_code
def yX7_becomes : MethodName := ⟨RX7, "becomes", "(II)I"⟩
abbrev cX7_grant : ByteArray := prog_9_method_45_code
def yX7_grant : MethodName := ⟨RX7, "grant", "(III)I"⟩
abbrev cX7_liesStill : ByteArray := prog_9_method_46_code
def yX7_liesStill : MethodName := ⟨RX7, "liesStill", "(I)Z"⟩
abbrev cX7_alter : ByteArray := prog_9_method_47_code
def yX7_alter : MethodName := ⟨RX7, "alter", "(III)I"⟩
abbrev cX7_set : ByteArray := prog_9_method_48_code
def yX7_set : MethodName := ⟨RX7, "set", "(II)I"⟩
abbrev cX7_find : ByteArray := prog_9_method_49_code
def yX7_find : MethodName := ⟨RX7, "find", "(IIII)I"⟩
abbrev cX7_hire : ByteArray := prog_9_method_50_code
def yX7_hire : MethodName := ⟨RX7, "hire", "(I)I"⟩
abbrev cX7_nights : ByteArray := prog_9_method_51_code
def yX7_nights : MethodName := ⟨RX7, "nights", "(I)I"⟩
abbrev cX7_runs : ByteArray := prog_9_method_52_code
def yX7_runs : MethodName := ⟨RX7, "runs", "(II)I"⟩
abbrev cX7_ahead : ByteArray := prog_9_method_53_code
def yX7_ahead : MethodName := ⟨RX7, "ahead", "(III)I"⟩
abbrev cX7_settled : ByteArray := prog_9_method_54_code
def yX7_settled : MethodName := ⟨RX7, "settled", "(I)I"⟩
abbrev cX7_isJudged : ByteArray := prog_9_method_55_code
def yX7_isJudged : MethodName := ⟨RX7, "isJudged", "(I)Z"⟩
abbrev cX7_paidWith : ByteArray := prog_9_method_56_code
def yX7_paidWith : MethodName := ⟨RX7, "paidWith", "(III)I"⟩
abbrev cX7_dear : ByteArray := prog_9_method_57_code
def yX7_dear : MethodName := ⟨RX7, "dear", "(I)I"⟩
abbrev cX7_mild : ByteArray := prog_9_method_58_code
def yX7_mild : MethodName := ⟨RX7, "mild", "(I)I"⟩
abbrev cX7_watch : ByteArray := prog_9_method_59_code
def yX7_watch : MethodName := ⟨RX7, "watch", "(II)I"⟩
abbrev cX7_place : ByteArray := prog_9_method_60_code
def yX7_place : MethodName := ⟨RX7, "place", "(III)I"⟩
abbrev cX7_kin : ByteArray := prog_9_method_61_code
def yX7_kin : MethodName := ⟨RX7, "kin", "(II)I"⟩
abbrev cX7_late : ByteArray := prog_9_method_62_code
def yX7_late : MethodName := ⟨RX7, "late", "(I)I"⟩
abbrev cX7_isOrder : ByteArray := prog_9_method_63_code
def yX7_isOrder : MethodName := ⟨RX7, "isOrder", "(I)Z"⟩
abbrev cX7_order : ByteArray := prog_9_method_64_code
def yX7_order : MethodName := ⟨RX7, "order", "(II)I"⟩
abbrev cX7_common : ByteArray := prog_9_method_65_code
def yX7_common : MethodName := ⟨RX7, "common", "(JJ)J"⟩
abbrev cX7_told : ByteArray := prog_9_method_66_code
def yX7_told : MethodName := ⟨RX7, "told", "(JJI)J"⟩
abbrev cX7_findOdds : ByteArray := prog_9_method_67_code
def yX7_findOdds : MethodName := ⟨RX7, "findOdds", "(III)V"⟩
abbrev cX7_mean : ByteArray := prog_9_method_68_code
def yX7_mean : MethodName := ⟨RX7, "mean", "(III)J"⟩
abbrev cX7_luck : ByteArray := prog_9_method_69_code
def yX7_luck : MethodName := ⟨RX7, "luck", "(IIII)J"⟩
abbrev cX7_see : ByteArray := prog_9_method_70_code
def yX7_see : MethodName := ⟨RX7, "see", "(III)I"⟩
abbrev cX7_forget : ByteArray := prog_9_method_71_code
def yX7_forget : MethodName := ⟨RX7, "forget", "(I)I"⟩
abbrev cX7_isSoWith : ByteArray := prog_9_method_72_code
def yX7_isSoWith : MethodName := ⟨RX7, "isSoWith", "(II)Z"⟩
abbrev cX7_kindsOf : ByteArray := prog_9_method_73_code
def yX7_kindsOf : MethodName := ⟨RX7, "kindsOf", "(I)I"⟩
abbrev cX7_kinds : ByteArray := prog_9_method_74_code
def yX7_kinds : MethodName := ⟨RX7, "kinds", "(I)I"⟩
abbrev cX7_fathers : ByteArray := prog_9_method_75_code
def yX7_fathers : MethodName := ⟨RX7, "fathers", "(I)I"⟩
abbrev cX7_look : ByteArray := prog_9_method_76_code
def yX7_look : MethodName := ⟨RX7, "look", "(II)I"⟩
abbrev cX7_drift : ByteArray := prog_9_method_77_code
def yX7_drift : MethodName := ⟨RX7, "drift", "(III)I"⟩
abbrev cX7_copies : ByteArray := prog_9_method_78_code
def yX7_copies : MethodName := ⟨RX7, "copies", "(II)V"⟩
abbrev cX7_keep : ByteArray := prog_9_method_79_code
def yX7_keep : MethodName := ⟨RX7, "keep", "(I)I"⟩
abbrev cX7_back : ByteArray := prog_9_method_80_code
def yX7_back : MethodName := ⟨RX7, "back", "(I)I"⟩
abbrev cX7_isSheet : ByteArray := prog_9_method_81_code
def yX7_isSheet : MethodName := ⟨RX7, "isSheet", "(II)Z"⟩
abbrev cX7_sheet : ByteArray := prog_9_method_82_code
def yX7_sheet : MethodName := ⟨RX7, "sheet", "(III)I"⟩
abbrev cX7_lay : ByteArray := prog_9_method_83_code
def yX7_lay : MethodName := ⟨RX7, "lay", "(III)I"⟩
abbrev cX7_read : ByteArray := prog_9_method_84_code
def yX7_read : MethodName := ⟨RX7, "read", "(IIII)I"⟩
abbrev cX7_torn : ByteArray := prog_9_method_85_code
def yX7_torn : MethodName := ⟨RX7, "torn", "()I"⟩
abbrev cX7_count : ByteArray := prog_9_method_86_code
def yX7_count : MethodName := ⟨RX7, "count", "(I)I"⟩
def RJ6 : String := "java/lang/Integer"
def TJ6 : u_T := fun k => match k with
  | _ => ("", "", "", false)
def tyJ6 : Nat → FieldType := fun k => match k with
  | _ => .int
abbrev cJ6_bitCount_0f7a4 : ByteArray := prog_10_method_49_code
def yJ6_bitCount_0f7a4 : MethodName := ⟨RJ6, "bitCount", "(I)I"⟩
def RJ0 : String := "java/lang/String"
def TJ0 : u_T := fun k => match k with
  | _ => ("", "", "", false)
def tyJ0 : Nat → FieldType := fun k => match k with
  | _ => .int
abbrev cJ0_length_8abf5 : ByteArray := prog_11_method_54_code
def yJ0_length_8abf5 : MethodName := ⟨RJ0, "length", "()I"⟩
abbrev cJ0_charAt_5068e : ByteArray := prog_11_method_56_code
def yJ0_charAt_5068e : MethodName := ⟨RJ0, "charAt", "(I)C"⟩
abbrev cJ0_coder_7d493 : ByteArray := prog_11_method_152_code
def yJ0_coder_7d493 : MethodName := ⟨RJ0, "coder", "()B"⟩
abbrev cJ0_isLatin1_aae02 : ByteArray := prog_11_method_154_code
def yJ0_isLatin1_aae02 : MethodName := ⟨RJ0, "isLatin1", "()Z"⟩
abbrev cJ0_checkIndex_df160 : ByteArray := prog_11_method_155_code
def yJ0_checkIndex_df160 : MethodName := ⟨RJ0, "checkIndex", "(II)V"⟩
def RJ1 : String := "java/lang/StringLatin1"
def TJ1 : u_T := fun k => match k with
  | _ => ("", "", "", false)
def tyJ1 : Nat → FieldType := fun k => match k with
  | _ => .int
abbrev cJ1_charAt_3b067 : ByteArray := prog_12_method_2_code
def yJ1_charAt_3b067 : MethodName := ⟨RJ1, "charAt", "([BI)C"⟩
def RJ2 : String := "java/lang/StringUTF16"
def TJ2 : u_T := fun k => match k with
  | _ => ("", "", "", false)
def tyJ2 : Nat → FieldType := fun k => match k with
  | _ => .int
abbrev cJ2_getChar_3b067 : ByteArray := prog_13_method_5_code
def yJ2_getChar_3b067 : MethodName := ⟨RJ2, "getChar", "([BI)C"⟩
abbrev cJ2_length_9d52b : ByteArray := prog_13_method_6_code
def yJ2_length_9d52b : MethodName := ⟨RJ2, "length", "([B)I"⟩
abbrev cJ2_charAt_3b067 : ByteArray := prog_13_method_83_code
def yJ2_charAt_3b067 : MethodName := ⟨RJ2, "charAt", "([BI)C"⟩
abbrev cJ2_checkIndex_2214a : ByteArray := prog_13_method_91_code
def yJ2_checkIndex_2214a : MethodName := ⟨RJ2, "checkIndex", "(I[B)V"⟩
def RJ10 : String := "java/lang/System"
def TJ10 : u_T := fun k => match k with
  | _ => ("", "", "", false)
def tyJ10 : Nat → FieldType := fun k => match k with
  | _ => .int
def RJ3 : String := "jdk/internal/util/Preconditions"
def TJ3 : u_T := fun k => match k with
  | _ => ("", "", "", false)
def tyJ3 : Nat → FieldType := fun k => match k with
  | _ => .int
abbrev cJ3_checkIndex_8e157 : ByteArray := prog_15_method_11_code
def yJ3_checkIndex_8e157 : MethodName := ⟨RJ3, "checkIndex", "(IILjava/util/function/BiFunction;)I"⟩
def RL : String := "ProofFineLaw"
abbrev cL_law : ByteArray := code
def yL_law : MethodName := ⟨RL, "law", "([I)Z"⟩
end
section
/-! THE SMALL MACHINE: locals and stack are lists of values, a reference is the NUMBER of an object; the memory holds the whole numbers (and longs) of numbered objects; 'Sh' says what each object is. -/
/-- whole numbers and longs by object and place -/
abbrev Mm : Type := (Nat → Nat → Int32) × (Nat → Nat → Int64)
/-- an object: its class's number and its fields' kinds (0 int, 1 long, 2 boolean, r + 3 a reference to object r); or an array: its kind (0 int, 1 boolean, 2, 3 references), its length, what it refers to -/
abbrev ShE : Type := (Nat × List Nat) ⊕ (Nat × Nat × List Nat)
abbrev Rs : Type := Option Value × Mm
abbrev CallS : Type := Nat → List Value → Mm → Option Rs
def wI (m : Mm) (o j : Nat) (x : Int32) : Mm := (va_up m.1 o (upd (m.1 o) j x), m.2)
def wL (m : Mm) (o j : Nat) (x : Int64) : Mm := (m.1, va_up m.2 o (vp_updL (m.2 o) j x))
def noV : Value := .retAddr 0
def ldL (L : List Value) (i : Nat) : Value := L.getD i noV
def preL (L : List Value) (i : Nat) : List Value := match i with
  | 0 => L
  | k + 1 => if (L.getD k noV).category = 2 then L.set k noV else L
def stL (L : List Value) (i : Nat) (v : Value) : List Value := (preL L i).set i v
def st2 (L : List Value) (i : Nat) (v : Value) : List Value := ((preL L i).set i v).set (i + 1) noV
def fval (m : Mm) (o j t : Nat) : Value := match t with
  | 0 => .int (m.1 o j)
  | 1 => .long (m.2 o j)
  | 2 => .int (m.1 o j)
  | r + 3 => .ref r
def inR (i : Int32) (n : Nat) : Bool := decide (0 ≤ i) && decide (i.toNatClampNeg < n)
def cmpB (c : ClassFile.Cond) (x y : Int32) : Bool := match c with
  | .eq => decide (x = y)
  | .ne => decide (¬ x = y)
  | .lt => decide (x < y)
  | .ge => decide (y ≤ x)
  | .gt => decide (y < x)
  | .le => decide (x ≤ y)
def popN : Nat → List Value → List Value → Option (List Value × List Value)
  | 0, st, acc => some (acc, st)
  | _ + 1, [], _ => none
  | n + 1, v :: st, acc => popN n st (v :: acc)
/-- tables that nobody writes: the static arrays 1000, 1001 -/
def tb0 (o : Nat) : Option (List Int32) := if o = 1000 then some [2, 3, 3, 4] else if o = 1001 then some [1, 1, 0, 2] else none
def okZ (rt : Option FieldType) (x : Int32) : Bool := match rt with
  | some .int => true
  | some .boolean => decide (x = 0) || decide (x = 1)
  | _ => false
def isRefT (rt : Option FieldType) : Bool := match rt with
  | some (.object _) => true
  | some (.array _) => true
  | _ => false
section Mach
variable (sh : List ShE) (tb : Nat → Option (List Int32)) (np cz : Nat → Nat) (C : CallS)
/-- an object's class -/
def clO (o : Nat) : Option Nat := match sh[o]? with
  | some (.inl (ci, _)) => some ci
  | _ => none
/-- getfield of a resolved field k = class * 100 + place -/
def gfI (k o : Nat) (m : Mm) : Option Value := match sh[o]? with
  | some (.inl (ci, fs)) => if ci = k / 100 then (match fs[k % 100]? with
    | some t => some (fval m o (k % 100) t)
    | none => none) else none
  | _ => none
def pfI (k o : Nat) (v : Value) (m : Mm) : Option Mm := match sh[o]? with
  | some (.inl (ci, fs)) => if ci = k / 100 then (match fs[k % 100]?, v with
    | some 0, .int x => some (wI m o (k % 100) x)
    | some 1, .long x => some (wL m o (k % 100) x)
    | some 2, .int x => if x = 0 ∨ x = 1 then some (wI m o (k % 100) x) else none
    | _, _ => none) else none
  | _ => none
/-- what an int array holds at i -/
def alI (kd o : Nat) (i : Int32) (m : Mm) : Option Int32 := match sh[o]? with
  | some (.inr (k, n, _)) => if k = kd ∧ inR i n = true then some (m.1 o i.toNatClampNeg) else none
  | some (.inl _) => none
  | none => (match tb o with
    | some T => if kd = 0 ∧ inR i T.length = true then some (T.getD i.toNatClampNeg 0) else none
    | none => none)
def asI (kd o : Nat) (i x : Int32) (m : Mm) : Option Mm := match sh[o]? with
  | some (.inr (k, n, _)) => if k = kd ∧ inR i n = true ∧ (kd = 0 ∨ x = 0 ∨ x = 1) then some (wI m o i.toNatClampNeg x) else none
  | _ => none
def arI (o : Nat) (i : Int32) : Option Nat := match sh[o]? with
  | some (.inr (k, n, rs)) => if (k = 2 ∨ k = 3) ∧ inR i n = true then rs[i.toNatClampNeg]? else none
  | _ => none
def cpI (o0 o1 : Nat) (sp dp n : Int32) (m : Mm) : Option Mm := match sh[o0]?, sh[o1]? with
  | some (.inr (0, n0, _)), some (.inr (0, n1, _)) => if 0 ≤ sp ∧ 0 ≤ dp ∧ 0 ≤ n ∧ sp.toNatClampNeg + n.toNatClampNeg ≤ n0 ∧ dp.toNatClampNeg + n.toNatClampNeg ≤ n1 ∧ o0 ≠ o1 then some (va_up m.1 o1 (va_cpy (m.1 o0) (m.1 o1) sp.toNatClampNeg dp.toNatClampNeg n.toNatClampNeg), m.2) else none
  | _, _ => none
abbrev Stt3 : Type := List Value × List Value × Mm
/-- one plain instruction -/
def sI (i : ClassFile.Instr) (L st : List Value) (m : Mm) : Option Stt3 := match i with
  | .sipush n => some (L, .int (Int32.ofInt n) :: st, m)
  | .jsr n => some (L, .long (Int64.ofInt n) :: st, m)
  | .getstatic k => some (L, .ref k :: st, m)
  | .iload i => (match ldL L i with
    | .int x => some (L, .int x :: st, m)
    | _ => none)
  | .lload i => (match ldL L i with
    | .long x => some (L, .long x :: st, m)
    | _ => none)
  | .aload i => (match ldL L i with
    | .ref x => some (L, .ref x :: st, m)
    | _ => none)
  | .istore i => (match st with
    | .int x :: st => if i < L.length then some (stL L i (.int x), st, m) else none
    | _ => none)
  | .lstore i => (match st with
    | .long x :: st => if i + 1 < L.length then some (st2 L i (.long x), st, m) else none
    | _ => none)
  | .astore i => (match st with
    | .ref x :: st => if i < L.length then some (stL L i (.ref x), st, m) else none
    | _ => none)
  | .iinc i n => (match ldL L i with
    | .int x => if i < L.length then some (stL L i (.int (x + Int32.ofInt n)), st, m) else none
    | _ => none)
  | .iadd => (match st with
    | .int y :: .int x :: st => some (L, .int (x + y) :: st, m)
    | _ => none)
  | .isub => (match st with
    | .int y :: .int x :: st => some (L, .int (x - y) :: st, m)
    | _ => none)
  | .imul => (match st with
    | .int y :: .int x :: st => some (L, .int (x * y) :: st, m)
    | _ => none)
  | .idiv => (match st with
    | .int y :: .int x :: st => if y = 0 then none else some (L, .int (x / y) :: st, m)
    | _ => none)
  | .irem => (match st with
    | .int y :: .int x :: st => if y = 0 then none else some (L, .int (x - x / y * y) :: st, m)
    | _ => none)
  | .iand => (match st with
    | .int y :: .int x :: st => some (L, .int (x &&& y) :: st, m)
    | _ => none)
  | .ior => (match st with
    | .int y :: .int x :: st => some (L, .int (x ||| y) :: st, m)
    | _ => none)
  | .ixor => (match st with
    | .int y :: .int x :: st => some (L, .int (x ^^^ y) :: st, m)
    | _ => none)
  | .ishl => (match st with
    | .int y :: .int x :: st => some (L, .int (x <<< (y &&& 31)) :: st, m)
    | _ => none)
  | .ishr => (match st with
    | .int y :: .int x :: st => some (L, .int (x >>> (y &&& 31)) :: st, m)
    | _ => none)
  | .iushr => (match st with
    | .int y :: .int x :: st => some (L, .int (x.toUInt32 >>> (y.toUInt32 &&& Int32.toUInt32 31)).toInt32 :: st, m)
    | _ => none)
  | .ladd => (match st with
    | .long y :: .long x :: st => some (L, .long (x + y) :: st, m)
    | _ => none)
  | .lsub => (match st with
    | .long y :: .long x :: st => some (L, .long (x - y) :: st, m)
    | _ => none)
  | .lmul => (match st with
    | .long y :: .long x :: st => some (L, .long (x * y) :: st, m)
    | _ => none)
  | .ldiv => (match st with
    | .long y :: .long x :: st => if y = 0 then none else some (L, .long (x / y) :: st, m)
    | _ => none)
  | .lrem => (match st with
    | .long y :: .long x :: st => if y = 0 then none else some (L, .long (x - x / y * y) :: st, m)
    | _ => none)
  | .lcmp => (match st with
    | .long y :: .long x :: st => some (L, .int (lg_cmp x y) :: st, m)
    | _ => none)
  | .i2l => (match st with
    | .int x :: st => some (L, .long x.toInt64 :: st, m)
    | _ => none)
  | .l2i => (match st with
    | .long x :: st => some (L, .int x.toInt32 :: st, m)
    | _ => none)
  | .i2b => (match st with
    | .int x :: st => some (L, .int x.toInt8.toInt32 :: st, m)
    | _ => none)
  | .i2s => (match st with
    | .int x :: st => some (L, .int x.toInt16.toInt32 :: st, m)
    | _ => none)
  | .dup => (match st with
    | v :: st => if v.category = 1 then some (L, v :: v :: st, m) else none
    | _ => none)
  | .dup2 => (match st with
    | v :: w :: st => if v.category = 1 ∧ w.category = 1 then some (L, v :: w :: v :: w :: st, m) else none
    | _ => none)
  | .pop => (match st with
    | v :: st => if v.category = 1 then some (L, st, m) else none
    | _ => none)
  | .pop2 => (match st with
    | v :: st => if v.category = 2 then some (L, st, m) else none
    | _ => none)
  | .getfield k => (match st with
    | .ref o :: st => (match gfI sh k o m with
      | some v => some (L, v :: st, m)
      | none => none)
    | _ => none)
  | .putfield k => (match st with
    | v :: .ref o :: st => (match pfI sh k o v m with
      | some m' => some (L, st, m')
      | none => none)
    | _ => none)
  | .iaload => (match st with
    | .int i :: .ref o :: st => (match alI sh tb 0 o i m with
      | some x => some (L, .int x :: st, m)
      | none => none)
    | _ => none)
  | .baload => (match st with
    | .int i :: .ref o :: st => (match alI sh tb 1 o i m with
      | some x => some (L, .int x :: st, m)
      | none => none)
    | _ => none)
  | .iastore => (match st with
    | .int x :: .int i :: .ref o :: st => (match asI sh 0 o i x m with
      | some m' => some (L, st, m')
      | none => none)
    | _ => none)
  | .bastore => (match st with
    | .int x :: .int i :: .ref o :: st => (match asI sh 1 o i x m with
      | some m' => some (L, st, m')
      | none => none)
    | _ => none)
  | .aaload => (match st with
    | .int i :: .ref o :: st => (match arI sh o i with
      | some x => some (L, .ref x :: st, m)
      | none => none)
    | _ => none)
  | .arraylength => (match st with
    | .ref o :: st => (match sh[o]?, tb o with
      | none, some T => some (L, .int (Int32.ofNat T.length) :: st, m)
      | _, _ => none)
    | _ => none)
  | .monitorenter => (match st with
    | .int n :: .int dp :: .ref o1 :: .int sp :: .ref o0 :: st => if (st.map fun v => v.category).sum ≤ 8 then (match cpI sh o0 o1 sp dp n m with
      | some m' => some (L, st, m')
      | none => none) else none
    | _ => none)
  | .invokestatic z => (match popN (np z) st [] with
    | some (As, st) => if (st.map fun v => v.category).sum ≤ 8 then (match C z As m with
      | some (v, m') => some (L, v.toList ++ st, m')
      | none => none) else none
    | none => none)
  | .invokevirtual z => (match popN (np z) st [] with
    | some (As, .ref o :: st) => if (st.map fun v => v.category).sum ≤ 8 ∧ clO sh o = some (cz z) then (match C z (.ref o :: As) m with
      | some (v, m') => some (L, v.toList ++ st, m')
      | none => none) else none
    | _ => none)
  | _ => none
def swT (d lo hi : Int) (offs : Array Int) (x : Int32) : Nat := if x.toInt < lo ∨ hi < x.toInt then d.toNat else (offs.getD (x.toInt - lo).toNat d).toNat
def swL (d : Int) (ps : List (Int × Int)) (x : Int32) : Nat := (Op.lookupswitch.offset ps d x.toInt).toNat
variable (rt : Option FieldType)
abbrev KS : Type := Nat → List Value → List Value → Mm → Option Rs
/-- a run of instructions; a jump goes on by K -/
def exI (K : KS) : List ClassFile.Instr → List Value → List Value → Mm → Option Rs
  | [], _, _, _ => none
  | i :: is, L, st, m => match i with
    | .goto t => K t.toNat L st m
    | .ifCond c t => (match st with
      | .int x :: st => if cmpB c x 0 = true then K t.toNat L st m else exI K is L st m
      | _ => none)
    | .if_icmp c t => (match st with
      | .int y :: .int x :: st => if cmpB c x y = true then K t.toNat L st m else exI K is L st m
      | _ => none)
    | .tableswitch d lo hi offs => (match st with
      | .int x :: st => K (swT d lo hi offs x) L st m
      | _ => none)
    | .lookupswitch d ps => (match st with
      | .int x :: st => K (swL d ps.toList x) L st m
      | _ => none)
    | .ireturn => (match st with
      | [.int x] => if okZ rt x = true then some (some (.int x), m) else none
      | _ => none)
    | .lreturn => (match st with
      | [.long x] => if rt = some .long then some (some (.long x), m) else none
      | _ => none)
    | .areturn => (match st with
      | [.ref x] => if isRefT rt = true then some (some (.ref x), m) else none
      | _ => none)
    | .return_ => (match st with
      | [] => if rt = none then some (none, m) else none
      | _ => none)
    | .goto_w t => K t.toNat L st m
    | i => (match sI sh tb np cz C i L st m with
      | some (L', st', m') => exI K is L' st' m'
      | none => none)
theorem exI_cases (K : KS) : ∀ (is : List ClassFile.Instr) (L st : List Value) (m : Mm) (r : Rs), exI sh tb np cz C rt K is L st m = some r → (∀ K' : KS, exI sh tb np cz C rt K' is L st m = some r) ∨ ∃ pc L' st' m', K pc L' st' m' = some r ∧ ∀ K' : KS, exI sh tb np cz C rt K' is L st m = K' pc L' st' m' := by
  intro is
  induction is with
  | nil => intro L st m r h; simp [exI] at h
  | cons i is ih =>
    intro L st m r h
    cases i
    case goto t => exact Or.inr ⟨_, _, _, _, h, fun K' => rfl⟩
    case goto_w t => exact Or.inr ⟨_, _, _, _, h, fun K' => rfl⟩
    case ifCond c t =>
      simp only [exI] at h ⊢
      split at h
      · rename_i x st
        by_cases hc : cmpB c x 0 = true
        · simp only [if_pos hc] at h ⊢
          exact Or.inr ⟨_, _, _, _, h, fun K' => rfl⟩
        · simp only [if_neg hc] at h ⊢
          exact ih _ _ _ _ h
      · cases h
    case if_icmp c t =>
      simp only [exI] at h ⊢
      split at h
      · rename_i y x st
        by_cases hc : cmpB c x y = true
        · simp only [if_pos hc] at h ⊢
          exact Or.inr ⟨_, _, _, _, h, fun K' => rfl⟩
        · simp only [if_neg hc] at h ⊢
          exact ih _ _ _ _ h
      · cases h
    case tableswitch d lo hi offs =>
      simp only [exI] at h ⊢
      split at h
      · exact Or.inr ⟨_, _, _, _, h, fun K' => rfl⟩
      · cases h
    case lookupswitch d ps =>
      simp only [exI] at h ⊢
      split at h
      · exact Or.inr ⟨_, _, _, _, h, fun K' => rfl⟩
      · cases h
    case ireturn => exact Or.inl fun K' => h
    case lreturn => exact Or.inl fun K' => h
    case areturn => exact Or.inl fun K' => h
    case return_ => exact Or.inl fun K' => h
    all_goals
      simp only [exI] at h ⊢
      split at h
      · exact ih _ _ _ _ h
      · cases h
variable (code : Nat → List ClassFile.Instr)
def rnN : Nat → KS
  | 0, _, _, _, _ => none
  | n + 1, pc, L, st, m => exI sh tb np cz C rt (rnN n) (code pc) L st m
/-- it comes to an end with r -/
def Rn (pc : Nat) (L st : List Value) (m : Mm) (r : Rs) : Prop := ∃ n, rnN sh tb np cz C rt code n pc L st m = some r
theorem rnN_mono : ∀ (n : Nat) (pc : Nat) (L st : List Value) (m : Mm) (r : Rs), rnN sh tb np cz C rt code n pc L st m = some r → rnN sh tb np cz C rt code (n + 1) pc L st m = some r := by
  intro n
  induction n with
  | zero => intro pc L st m r h; cases h
  | succ n ih =>
    intro pc L st m r h
    rcases exI_cases sh tb np cz C rt _ _ _ _ _ _ h with h1 | ⟨pc', L', st', m', h1, h2⟩
    · exact h1 _
    · have := h2 (rnN sh tb np cz C rt code (n + 1))
      show exI sh tb np cz C rt (rnN sh tb np cz C rt code (n + 1)) (code pc) L st m = some r
      rw [this]
      exact ih _ _ _ _ _ h1
theorem rnN_le {n k pc : Nat} {L st : List Value} {m : Mm} {r : Rs} (h : rnN sh tb np cz C rt code n pc L st m = some r) : rnN sh tb np cz C rt code (n + k) pc L st m = some r := by
  induction k with
  | zero => exact h
  | succ k ih => exact rnN_mono sh tb np cz C rt code (n + k) pc L st m r ih
theorem Rn_fun {pc : Nat} {L st : List Value} {m : Mm} {r r' : Rs} (h : Rn sh tb np cz C rt code pc L st m r) (h' : Rn sh tb np cz C rt code pc L st m r') : r = r' := by
  obtain ⟨n, h⟩ := h
  obtain ⟨n', h'⟩ := h'
  have h1 := rnN_le sh tb np cz C rt code (k := n') h
  have h2 := rnN_le sh tb np cz C rt code (k := n) h'
  rw [Nat.add_comm] at h2
  rw [h1] at h2
  exact Option.some.inj h2
/-- the limit -/
noncomputable def rn (pc : Nat) (L st : List Value) (m : Mm) : Option Rs := @dite _ (∃ r, Rn sh tb np cz C rt code pc L st m r) (Classical.propDecidable _) (fun h => some (Classical.choose h)) (fun _ => none)
theorem rn_iff {pc : Nat} {L st : List Value} {m : Mm} {r : Rs} : rn sh tb np cz C rt code pc L st m = some r ↔ Rn sh tb np cz C rt code pc L st m r := by
  unfold rn
  by_cases h : ∃ r, Rn sh tb np cz C rt code pc L st m r
  · rw [dif_pos h]
    constructor
    · intro e
      have := Classical.choose_spec h
      rw [Option.some.inj e] at this
      exact this
    · intro e
      rw [Rn_fun sh tb np cz C rt code (Classical.choose_spec h) e]
  · rw [dif_neg h]
    constructor
    · intro e; cases e
    · intro e; exact absurd ⟨r, e⟩ h
/-- the equation by which runs are reckoned -/
theorem rn_eq (pc : Nat) (L st : List Value) (m : Mm) : rn sh tb np cz C rt code pc L st m = exI sh tb np cz C rt (rn sh tb np cz C rt code) (code pc) L st m := by
  apply Option.ext
  intro r
  rw [rn_iff]
  constructor
  · rintro ⟨n, h⟩
    cases n with
    | zero => cases h
    | succ n =>
      rcases exI_cases sh tb np cz C rt _ _ _ _ _ _ h with h1 | ⟨pc', L', st', m', h1, h2⟩
      · exact h1 _
      · rw [h2]
        exact (rn_iff sh tb np cz C rt code).mpr ⟨n, h1⟩
  · intro h
    rcases exI_cases sh tb np cz C rt _ _ _ _ _ _ h with h1 | ⟨pc', L', st', m', h1, h2⟩
    · exact ⟨1, h1 _⟩
    · obtain ⟨n, h3⟩ := (rn_iff sh tb np cz C rt code).mp h1
      refine ⟨n + 1, ?_⟩
      show exI sh tb np cz C rt (rnN sh tb np cz C rt code n) (code pc) L st m = some r
      rw [h2]
      exact h3
end Mach
end
section
/-! THE PROGRAMS AS DATA: written by wip/gen/prog.py out of the printed names. A method is its number z; a field is class * 100 + place; 1000, 1001 the static arrays, 2000 on the String constants. -/
abbrev clsT : List vw_C := [(RX0, TX0, 3), (RX1, TX1, 4), (RX2, TX2, 4), (RX3, TX3, 4), (RX4, TX4, 5), (RX5, TX5, 16), (RX6, TX6, 10), (RX7, TX7, 29)]
def tyT (c : Nat) : Nat → FieldType := match c with
  | 0 => tyX0
  | 1 => tyX1
  | 2 => tyX2
  | 3 => tyX3
  | 4 => tyX4
  | 5 => tyX5
  | 6 => tyX6
  | _ => tyX7
def clsN (c : Nat) : String := match c with
  | 0 => RX0
  | 1 => RX1
  | 2 => RX2
  | 3 => RX3
  | 4 => RX4
  | 5 => RX5
  | 6 => RX6
  | 7 => RX7
  | 8 => RJ6
  | _ => RL
def fieldTab : List (Nat × Nat × Nat × Nat) := [(1, 9, 102, 275), (1, 15, 100, 271), (1, 19, 103, 277), (1, 23, 101, 273), (2, 9, 201, 181), (2, 15, 202, 182), (2, 18, 203, 183), (2, 21, 200, 179), (2, 25, 512, 130), (3, 9, 303, 212), (3, 13, 300, 205), (3, 17, 302, 211), (3, 20, 301, 209), (4, 12, 400, 222), (4, 18, 403, 228), (4, 22, 302, 210), (4, 26, 401, 224), (4, 29, 404, 229), (4, 56, 301, 208), (4, 74, 500, 101), (4, 77, 501, 104), (4, 90, 502, 108), (4, 93, 503, 111), (4, 96, 504, 114), (4, 103, 512, 131), (4, 109, 300, 207), (4, 112, 402, 227), (5, 9, 508, 121), (5, 15, 509, 123), (5, 18, 510, 125), (5, 21, 511, 127), (5, 24, 512, 129), (5, 27, 513, 133), (5, 30, 514, 135), (5, 33, 515, 137), (5, 39, 500, 100), (5, 43, 501, 103), (5, 46, 502, 106), (5, 49, 503, 109), (5, 52, 504, 112), (5, 55, 505, 115), (5, 58, 506, 117), (5, 61, 507, 119), (6, 10, 600, 287), (6, 16, 601, 288), (6, 22, 602, 289), (6, 29, 603, 290), (6, 35, 604, 291), (6, 41, 605, 292), (6, 45, 606, 293), (6, 49, 607, 294), (6, 52, 608, 295), (6, 61, 400, 223), (6, 71, 300, 206), (6, 79, 401, 225), (6, 82, 402, 226), (6, 89, 200, 180), (6, 92, 0, 254), (6, 96, 500, 102), (6, 99, 501, 105), (6, 102, 502, 107), (6, 105, 503, 110), (6, 108, 504, 113), (6, 111, 505, 116), (6, 118, 506, 118), (6, 124, 508, 122), (6, 127, 509, 124), (6, 136, 511, 128), (6, 139, 512, 132), (6, 142, 513, 134), (6, 145, 514, 136), (6, 148, 515, 138), (6, 180, 507, 120), (6, 202, 510, 126), (6, 268, 1, 256), (6, 271, 2, 258), (6, 290, 102, 276), (6, 293, 609, 296), (6, 300, 100, 272), (6, 303, 101, 274), (7, 7, 700, 802), (7, 13, 701, 803), (7, 16, 702, 804), (7, 20, 704, 806), (7, 23, 708, 810), (7, 26, 716, 818), (7, 29, 722, 824), (7, 32, 723, 825), (7, 35, 724, 826), (7, 38, 725, 827), (7, 41, 726, 828), (7, 44, 728, 830), (7, 53, 705, 807), (7, 57, 706, 808), (7, 60, 707, 809), (7, 63, 703, 805), (7, 72, 709, 811), (7, 75, 714, 816), (7, 78, 711, 813), (7, 81, 715, 817), (7, 84, 710, 812), (7, 102, 712, 814), (7, 113, 713, 815), (7, 160, 717, 819), (7, 163, 718, 820), (7, 249, 719, 821), (7, 253, 720, 822), (7, 256, 721, 823), (7, 289, 727, 829)]
def statTab : List (Nat × Nat × Nat × String × Nat) := [(5, 73, 1000, "FATHER_NEEDS", 505), (5, 76, 1001, "MOTHER_NEEDS", 507)]
def intTab : List (Nat × Nat × Int × Nat) := [(6, 267, 1103515245, 732), (7, 238, 1000000, 1119), (7, 277, 1103515245, 1191), (8, 265, 1431655765, 607), (8, 266, 858993459, 608), (8, 267, 252645135, 609)]
def longTab : List (Nat × Nat × Int × Nat) := [(6, 220, -1, 657), (6, 240, 10, 673), (7, 66, 127, 895), (7, 105, 97, 915), (7, 107, 122, 916), (7, 109, 48, 917), (7, 111, 57, 918), (7, 192, 2, 986), (7, 197, 5, 995), (7, 202, 99, 1014), (7, 204, 9, 1015), (7, 209, 3, 1024), (7, 214, 20, 1033), (7, 216, 60, 1034), (7, 221, 30, 1055), (7, 226, 4, 1084), (7, 259, 10, 1143), (7, 261, -1, 1144)]
def strTab : List (Nat × Nat × Nat) := [(4, 123, 2000), (4, 125, 2001), (4, 127, 2002), (4, 129, 2003), (4, 131, 2004), (4, 133, 2005), (4, 134, 2006), (4, 135, 2007)]
def methTab : List (Nat × Nat × Nat × Bool × Nat) := [(1, 26, 1, false, 774), (3, 23, 9, false, 346), (4, 32, 23, false, 341), (4, 37, 8, false, 342), (4, 41, 18, false, 350), (4, 45, 13, false, 362), (4, 49, 19, false, 366), (4, 53, 21, false, 370), (4, 59, 20, false, 358), (4, 63, 14, false, 437), (4, 67, 15, false, 441), (4, 71, 17, false, 452), (4, 80, 10, false, 445), (4, 83, 16, true, 449), (4, 87, 28, false, 456), (4, 99, 29, false, 460), (4, 106, 26, false, 354), (4, 115, 22, true, 374), (4, 119, 11, false, 385), (5, 64, 24, false, 96), (5, 79, 32, false, 570), (5, 83, 36, false, 554), (5, 87, 38, false, 558), (5, 90, 39, false, 562), (5, 94, 42, false, 575), (5, 97, 40, false, 566), (5, 100, 41, false, 571), (6, 57, 99, true, 322), (6, 65, 7, false, 325), (6, 75, 12, false, 337), (6, 85, 25, false, 464), (6, 114, 34, false, 480), (6, 121, 26, false, 488), (6, 130, 35, false, 489), (6, 133, 27, false, 497), (6, 151, 32, false, 501), (6, 154, 52, false, 517), (6, 158, 30, false, 521), (6, 162, 55, false, 533), (6, 166, 29, false, 537), (6, 170, 31, false, 542), (6, 173, 37, false, 550), (6, 176, 100, false, 583), (6, 183, 38, false, 595), (6, 186, 62, false, 600), (6, 190, 185, true, 604), (6, 195, 65, false, 618), (6, 199, 70, false, 638), (6, 209, 71, false, 643), (6, 212, 72, true, 647), (6, 216, 73, true, 650), (6, 222, 76, false, 658), (6, 226, 78, false, 669), (6, 230, 80, true, 674), (6, 234, 77, true, 662), (6, 237, 79, false, 665), (6, 242, 81, true, 677), (6, 246, 4, false, 688), (6, 249, 86, false, 700), (6, 252, 87, false, 704), (6, 256, 5, false, 708), (6, 260, 89, false, 720), (6, 264, 90, false, 724), (6, 272, 6, false, 737), (6, 275, 0, false, 750), (6, 279, 1, false, 758), (6, 283, 3, false, 762), (6, 286, 2, false, 770), (6, 296, 36, false, 783), (6, 306, 33, false, 784), (7, 47, 103, false, 794), (7, 50, 104, false, 798), (7, 68, 101, true, 896), (7, 87, 108, false, 911), (7, 91, 109, false, 931), (7, 95, 110, false, 935), (7, 98, 111, false, 939), (7, 116, 107, false, 919), (7, 120, 113, false, 907), (7, 123, 114, false, 947), (7, 127, 115, false, 951), (7, 131, 112, false, 927), (7, 134, 116, false, 943), (7, 137, 117, false, 923), (7, 140, 125, false, 971), (7, 143, 127, true, 1004), (7, 147, 128, false, 1000), (7, 150, 130, false, 1072), (7, 153, 129, false, 996), (7, 156, 126, false, 1043), (7, 166, 102, true, 975), (7, 170, 131, false, 1068), (7, 173, 132, false, 1076), (7, 176, 134, false, 1060), (7, 179, 133, false, 1064), (7, 182, 123, false, 963), (7, 185, 136, false, 967), (7, 188, 120, false, 982), (7, 194, 121, false, 991), (7, 199, 122, true, 1011), (7, 206, 142, false, 1016), (7, 211, 144, false, 1025), (7, 218, 124, false, 1047), (7, 223, 135, false, 1056), (7, 228, 153, true, 1097), (7, 231, 154, false, 1100), (7, 235, 137, true, 1104), (7, 239, 138, true, 1120), (7, 242, 161, false, 1135), (7, 245, 163, true, 1152), (7, 263, 165, false, 1145), (7, 266, 164, true, 1149), (7, 270, 170, false, 1175), (7, 274, 171, false, 1171), (7, 278, 176, false, 1196), (7, 282, 179, true, 1208), (7, 285, 147, false, 1219), (9, 13, 43, false, 318), (9, 17, 105, false, 891), (9, 18, 44, false, 329), (9, 21, 106, false, 899), (9, 22, 45, false, 333), (9, 26, 118, false, 903), (9, 27, 46, false, 472), (9, 30, 119, false, 955), (9, 31, 47, false, 476), (9, 34, 139, false, 959), (9, 35, 48, false, 484), (9, 39, 140, false, 978), (9, 40, 49, false, 493), (9, 43, 141, false, 987), (9, 44, 50, false, 509), (9, 48, 143, false, 1007), (9, 49, 51, false, 513), (9, 52, 145, false, 1020), (9, 53, 53, false, 525), (9, 56, 146, false, 1029), (9, 57, 54, false, 529), (9, 61, 147, false, 1035), (9, 62, 56, false, 538), (9, 65, 148, false, 1039), (9, 66, 57, false, 546), (9, 69, 149, false, 1051), (9, 70, 58, false, 579), (9, 73, 150, false, 1080), (9, 74, 59, false, 587), (9, 77, 151, false, 1085), (9, 78, 60, false, 591), (9, 81, 152, false, 1089), (9, 82, 61, false, 596), (9, 85, 155, false, 1093), (9, 86, 63, false, 610), (9, 89, 156, false, 1107), (9, 90, 64, false, 614), (9, 93, 157, false, 1111), (9, 94, 66, false, 622), (9, 97, 158, false, 1115), (9, 98, 67, false, 626), (9, 101, 159, false, 1123), (9, 102, 68, false, 630), (9, 105, 160, false, 1127), (9, 106, 69, false, 634), (9, 109, 162, false, 1131), (9, 110, 74, false, 653), (9, 114, 166, false, 1139), (9, 115, 75, false, 680), (9, 119, 167, false, 1155), (9, 120, 82, false, 684), (9, 123, 168, false, 1159), (9, 124, 83, false, 692), (9, 127, 169, false, 1163), (9, 128, 84, false, 696), (9, 131, 172, false, 1167), (9, 132, 85, false, 712), (9, 135, 173, false, 1179), (9, 136, 88, false, 716), (9, 139, 174, false, 1183), (9, 140, 91, false, 728), (9, 143, 175, false, 1187), (9, 144, 92, false, 733), (9, 147, 177, false, 1192), (9, 148, 93, false, 742), (9, 151, 178, false, 1200), (9, 152, 94, false, 746), (9, 155, 180, false, 1204), (9, 156, 95, false, 754), (9, 159, 181, false, 1211), (9, 160, 96, false, 766), (9, 163, 182, false, 1215), (9, 164, 97, false, 775), (9, 167, 183, false, 1220), (9, 168, 98, false, 779), (9, 171, 184, false, 1224)]
def copyTab : List (Nat × Nat × Nat) := [(2, 30, 741), (5, 67, 468), (6, 203, 642)]
/-- own class, parameters, frames and locals of its room, is it static; places of the words code, instanceMethod or static, selects, initialized -/
abbrev mthE : Type := Nat × Nat × Nat × Nat × Bool × Nat × Nat × Nat × Nat
def mthL : List mthE := [
  (1, 2, 0, 0, false, 753, 751, 752, 70), -- 0 X1_renew
  (1, 1, 0, 0, false, 761, 759, 760, 70), -- 1 X1_faultAt
  (1, 2, 1, 22, false, 773, 771, 772, 70), -- 2 X1_faultOfPair
  (1, 2, 0, 0, false, 765, 763, 764, 70), -- 3 X1_put
  (2, 3, 0, 0, false, 691, 689, 690, 66), -- 4 X2_add
  (2, 2, 0, 0, false, 711, 709, 710, 66), -- 5 X2_fit
  (2, 1, 1, 60, false, 740, 738, 739, 66), -- 6 X2_become
  (3, 1, 0, 0, false, 328, 326, 327, 68), -- 7 X3_append
  (3, 0, 1, 22, false, 345, 343, 344, 68), -- 8 X3_take
  (3, 2, 0, 0, false, 349, 348, 0, 68), -- 9 X3_passRun
  (3, 0, 0, 0, false, 448, 446, 447, 68), -- 10 X3_number
  (3, 1, 4, 160, false, 388, 386, 387, 68), -- 11 X3_isWord
  (4, 1, 7, 226, false, 340, 338, 339, 67), -- 12 X4_tell
  (4, 2, 6, 203, false, 365, 364, 3, 67), -- 13 X4_takeLine
  (4, 2, 0, 0, false, 440, 439, 6, 67), -- 14 X4_hasNoRoom
  (4, 1, 2, 44, false, 444, 443, 7, 67), -- 15 X4_takeNumbers
  (4, 2, 0, 0, true, 451, 450, 0, 67), -- 16 X4_most
  (4, 2, 1, 24, false, 455, 454, 8, 67), -- 17 X4_enter
  (4, 1, 1, 22, false, 353, 352, 1, 67), -- 18 X4_checkPlaces
  (4, 2, 1, 22, false, 369, 368, 4, 67), -- 19 X4_expect
  (4, 2, 0, 0, false, 361, 360, 2, 67), -- 20 X4_refuse
  (4, 0, 5, 182, false, 373, 372, 5, 67), -- 21 X4_lineOf
  (4, 1, 0, 0, true, 376, 375, 0, 67), -- 22 X4_word
  (5, 0, 1, 21, false, 95, 93, 94, 65), -- 23 X5_clear
  (5, 0, 0, 0, false, 99, 97, 98, 65), -- 24 X5_takeTurnsByNumber
  (5, 1, 1, 60, false, 467, 465, 466, 65), -- 25 X5_become
  (5, 1, 0, 0, false, 357, 355, 356, 65), -- 26 X5_hasVillage
  (5, 1, 0, 0, false, 500, 498, 499, 65), -- 27 X5_hasBody
  (5, 2, 0, 0, false, 459, 457, 458, 65), -- 28 X5_addVillage
  (5, 4, 0, 0, false, 463, 461, 462, 65), -- 29 X5_addBody
  (5, 1, 0, 0, false, 524, 522, 523, 65), -- 30 X5_bodyRow
  (5, 1, 0, 0, false, 545, 543, 544, 65), -- 31 X5_lacksOfFather
  (5, 1, 0, 0, false, 504, 502, 503, 65), -- 32 X5_lacks
  (5, 0, 1, 23, false, 787, 785, 786, 65), -- 33 X5_lacksOfLying
  (5, 1, 0, 0, false, 483, 481, 482, 65), -- 34 X5_inWay
  (5, 1, 0, 0, false, 492, 490, 491, 65), -- 35 X5_lyingAt
  (5, 0, 0, 0, false, 557, 555, 556, 65), -- 36 X5_allMeans
  (5, 1, 3, 68, false, 553, 551, 552, 65), -- 37 X5_pass
  (5, 0, 2, 47, false, 561, 559, 560, 65), -- 38 X5_passOne
  (5, 1, 1, 23, false, 565, 564, 11, 65), -- 39 X5_takeTurn
  (5, 1, 0, 0, false, 569, 568, 12, 65), -- 40 X5_firstLyingAt
  (5, 2, 0, 0, false, 574, 573, 13, 65), -- 41 X5_handOn
  (5, 0, 0, 0, false, 578, 577, 14, 65), -- 42 X5_fineAll
  (6, 1, 1, 22, false, 321, 319, 320, 64), -- 43 X6_feed
  (6, 1, 1, 22, false, 332, 330, 331, 64), -- 44 X6_end
  (6, 0, 8, 249, false, 336, 334, 335, 64), -- 45 X6_text
  (6, 0, 0, 0, false, 475, 473, 474, 64), -- 46 X6_fault
  (6, 1, 1, 23, false, 479, 477, 478, 64), -- 47 X6_rule
  (6, 2, 1, 23, false, 487, 485, 486, 64), -- 48 X6_village
  (6, 2, 1, 23, false, 496, 494, 495, 64), -- 49 X6_body
  (6, 3, 1, 22, false, 512, 510, 511, 64), -- 50 X6_grant
  (6, 3, 2, 44, false, 516, 514, 515, 64), -- 51 X6_alter
  (6, 2, 1, 22, false, 520, 519, 9, 64), -- 52 X6_mayBecome
  (6, 2, 1, 22, false, 528, 526, 527, 64), -- 53 X6_set
  (6, 4, 2, 48, false, 532, 530, 531, 64), -- 54 X6_find
  (6, 4, 1, 24, false, 536, 535, 10, 64), -- 55 X6_addFound
  (6, 1, 1, 23, false, 541, 539, 540, 64), -- 56 X6_hire
  (6, 1, 4, 91, false, 549, 547, 548, 64), -- 57 X6_nights
  (6, 2, 4, 101, false, 582, 580, 581, 64), -- 58 X6_runs
  (6, 3, 4, 101, false, 590, 588, 589, 64), -- 59 X6_ahead
  (6, 1, 3, 101, false, 594, 592, 593, 64), -- 60 X6_settled
  (6, 1, 5, 124, false, 599, 597, 598, 64), -- 61 X6_dear
  (6, 2, 4, 101, false, 603, 602, 16, 64), -- 62 X6_provedByPrice
  (6, 1, 4, 101, false, 613, 611, 612, 64), -- 63 X6_mild
  (6, 2, 5, 125, false, 617, 615, 616, 64), -- 64 X6_watch
  (6, 3, 4, 101, false, 621, 620, 17, 64), -- 65 X6_meansBehind
  (6, 3, 4, 101, false, 625, 623, 624, 64), -- 66 X6_place
  (6, 2, 4, 101, false, 629, 627, 628, 64), -- 67 X6_kin
  (6, 1, 4, 101, false, 633, 631, 632, 64), -- 68 X6_late
  (6, 2, 6, 147, false, 637, 635, 636, 64), -- 69 X6_order
  (6, 1, 5, 123, false, 641, 640, 18, 64), -- 70 X6_findBestTurns
  (6, 1, 4, 101, false, 646, 645, 19, 64), -- 71 X6_paidByTurns
  (6, 2, 1, 23, true, 649, 648, 0, 64), -- 72 X6_arrangeNext
  (6, 3, 0, 0, true, 652, 651, 0, 64), -- 73 X6_swap
  (6, 3, 6, 155, false, 656, 654, 655, 64), -- 74 X6_mean
  (6, 4, 6, 155, false, 683, 681, 682, 64), -- 75 X6_luck
  (6, 3, 5, 126, false, 661, 660, 20, 64), -- 76 X6_weighAll
  (6, 3, 0, 0, true, 664, 663, 0, 64), -- 77 X6_weightOf
  (6, 0, 1, 23, false, 672, 671, 22, 64), -- 78 X6_weightOfAll
  (6, 3, 4, 101, false, 668, 667, 21, 64), -- 79 X6_outcome
  (6, 3, 1, 26, true, 676, 675, 0, 64), -- 80 X6_partOfFraction
  (6, 2, 0, 0, true, 679, 678, 0, 64), -- 81 X6_greatestDivisor
  (6, 3, 1, 23, false, 687, 685, 686, 64), -- 82 X6_see
  (6, 1, 1, 22, false, 695, 693, 694, 64), -- 83 X6_forget
  (6, 1, 5, 127, false, 699, 697, 698, 64), -- 84 X6_kinds
  (6, 1, 5, 127, false, 715, 713, 714, 64), -- 85 X6_fathers
  (6, 3, 4, 101, false, 703, 702, 23, 64), -- 86 X6_asSeenBy
  (6, 1, 3, 68, false, 707, 706, 24, 64), -- 87 X6_isAsSeen
  (6, 2, 5, 127, false, 719, 717, 718, 64), -- 88 X6_look
  (6, 1, 3, 101, false, 723, 722, 25, 64), -- 89 X6_noteSpots
  (6, 2, 0, 0, false, 727, 726, 26, 64), -- 90 X6_leftAtWorst
  (6, 3, 4, 101, false, 731, 729, 730, 64), -- 91 X6_drift
  (6, 1, 2, 81, false, 736, 734, 735, 64), -- 92 X6_keep
  (6, 1, 2, 81, false, 745, 743, 744, 64), -- 93 X6_back
  (6, 3, 1, 23, false, 749, 747, 748, 64), -- 94 X6_sheet
  (6, 3, 1, 22, false, 757, 755, 756, 64), -- 95 X6_lay
  (6, 4, 2, 48, false, 769, 767, 768, 64), -- 96 X6_read
  (6, 0, 0, 0, false, 778, 776, 777, 64), -- 97 X6_torn
  (6, 1, 2, 45, false, 782, 780, 781, 64), -- 98 X6_count
  (6, 3, 0, 0, true, 324, 323, 0, 64), -- 99 X6_within
  (6, 0, 2, 81, false, 586, 585, 15, 64), -- 100 X6_fromNow
  (7, 3, 0, 0, true, 898, 897, 0, 71), -- 101 X7_in
  (7, 1, 0, 0, true, 977, 976, 0, 71), -- 102 X7_flag
  (7, 0, 0, 0, false, 797, 796, 27, 71), -- 103 X7_firstDraft
  (7, 0, 0, 0, false, 801, 800, 28, 71), -- 104 X7_keepDraft
  (7, 1, 1, 25, false, 894, 892, 893, 71), -- 105 X7_feed
  (7, 1, 1, 25, false, 902, 900, 901, 71), -- 106 X7_end
  (7, 2, 0, 0, false, 922, 921, 31, 71), -- 107 X7_needs
  (7, 1, 0, 0, false, 914, 913, 30, 71), -- 108 X7_byteAt
  (7, 4, 1, 21, false, 934, 933, 34, 71), -- 109 X7_is
  (7, 4, 1, 21, false, 938, 937, 35, 71), -- 110 X7_ends
  (7, 0, 2, 45, false, 942, 941, 36, 71), -- 111 X7_kindNow
  (7, 0, 3, 65, false, 930, 929, 33, 71), -- 112 X7_lineNow
  (7, 0, 1, 25, false, 910, 909, 29, 71), -- 113 X7_takes
  (7, 2, 2, 46, false, 950, 949, 38, 71), -- 114 X7_readNumber
  (7, 1, 3, 69, false, 954, 953, 39, 71), -- 115 X7_readBody
  (7, 1, 4, 91, false, 946, 945, 37, 71), -- 116 X7_readLineOf
  (7, 0, 5, 112, false, 926, 925, 32, 71), -- 117 X7_readLine
  (7, 0, 6, 133, false, 906, 904, 905, 71), -- 118 X7_text
  (7, 0, 0, 0, false, 958, 956, 957, 71), -- 119 X7_fault
  (7, 1, 1, 25, false, 985, 984, 43, 71), -- 120 X7_isVillage
  (7, 1, 1, 25, false, 994, 993, 44, 71), -- 121 X7_isBody
  (7, 1, 1, 25, true, 1013, 1012, 0, 71), -- 122 X7_isPart
  (7, 0, 0, 0, false, 966, 965, 40, 71), -- 123 X7_starts
  (7, 0, 0, 0, false, 1050, 1049, 50, 71), -- 124 X7_settles
  (7, 2, 0, 0, false, 974, 973, 42, 71), -- 125 X7_of
  (7, 3, 0, 0, false, 1046, 1045, 49, 71), -- 126 X7_becomesOf
  (7, 2, 0, 0, true, 1006, 1005, 0, 71), -- 127 X7_needOf
  (7, 2, 1, 22, false, 1003, 1002, 46, 71), -- 128 X7_lacksOf
  (7, 1, 2, 45, false, 999, 998, 45, 71), -- 129 X7_lacks
  (7, 1, 1, 22, false, 1075, 1074, 55, 71), -- 130 X7_firstAt
  (7, 1, 3, 66, false, 1071, 1070, 54, 71), -- 131 X7_villageGoes
  (7, 0, 1, 23, false, 1079, 1078, 56, 71), -- 132 X7_crownerComes
  (7, 0, 4, 90, false, 1067, 1066, 53, 71), -- 133 X7_nightGoes
  (7, 0, 0, 0, false, 1063, 1062, 52, 71), -- 134 X7_allMeans
  (7, 1, 5, 111, false, 1059, 1058, 51, 71), -- 135 X7_paidIn
  (7, 1, 1, 22, false, 970, 969, 41, 71), -- 136 X7_inWay
  (7, 1, 0, 0, true, 1106, 1105, 0, 71), -- 137 X7_bitsOf
  (7, 2, 0, 0, true, 1122, 1121, 0, 71), -- 138 X7_lesser
  (7, 1, 2, 45, false, 962, 960, 961, 71), -- 139 X7_rule
  (7, 2, 2, 46, false, 981, 979, 980, 71), -- 140 X7_village
  (7, 2, 3, 66, false, 990, 988, 989, 71), -- 141 X7_body
  (7, 2, 0, 0, false, 1019, 1018, 47, 71), -- 142 X7_becomes
  (7, 3, 2, 46, false, 1010, 1008, 1009, 71), -- 143 X7_grant
  (7, 1, 0, 0, false, 1028, 1027, 48, 71), -- 144 X7_liesStill
  (7, 3, 2, 46, false, 1023, 1021, 1022, 71), -- 145 X7_alter
  (7, 2, 1, 25, false, 1032, 1030, 1031, 71), -- 146 X7_set
  (7, 4, 2, 46, false, 1038, 1036, 1037, 71), -- 147 X7_find
  (7, 1, 3, 66, false, 1042, 1040, 1041, 71), -- 148 X7_hire
  (7, 1, 6, 134, false, 1054, 1052, 1053, 71), -- 149 X7_nights
  (7, 2, 6, 134, false, 1083, 1081, 1082, 71), -- 150 X7_runs
  (7, 3, 6, 134, false, 1088, 1086, 1087, 71), -- 151 X7_ahead
  (7, 1, 5, 111, false, 1092, 1090, 1091, 71), -- 152 X7_settled
  (7, 1, 1, 25, true, 1099, 1098, 0, 71), -- 153 X7_isJudged
  (7, 3, 6, 134, false, 1103, 1102, 57, 71), -- 154 X7_paidWith
  (7, 1, 7, 157, false, 1096, 1094, 1095, 71), -- 155 X7_dear
  (7, 1, 7, 157, false, 1110, 1108, 1109, 71), -- 156 X7_mild
  (7, 2, 7, 157, false, 1114, 1112, 1113, 71), -- 157 X7_watch
  (7, 3, 7, 157, false, 1118, 1116, 1117, 71), -- 158 X7_place
  (7, 2, 7, 157, false, 1126, 1124, 1125, 71), -- 159 X7_kin
  (7, 1, 7, 157, false, 1130, 1128, 1129, 71), -- 160 X7_late
  (7, 1, 0, 0, false, 1138, 1137, 58, 71), -- 161 X7_isOrder
  (7, 2, 6, 134, false, 1134, 1132, 1133, 71), -- 162 X7_order
  (7, 2, 0, 0, true, 1154, 1153, 0, 71), -- 163 X7_common
  (7, 3, 1, 29, true, 1151, 1150, 0, 71), -- 164 X7_told
  (7, 3, 6, 134, false, 1148, 1147, 59, 71), -- 165 X7_findOdds
  (7, 3, 7, 163, false, 1142, 1140, 1141, 71), -- 166 X7_mean
  (7, 4, 7, 163, false, 1158, 1156, 1157, 71), -- 167 X7_luck
  (7, 3, 2, 46, false, 1162, 1160, 1161, 71), -- 168 X7_see
  (7, 1, 1, 25, false, 1166, 1164, 1165, 71), -- 169 X7_forget
  (7, 2, 5, 111, false, 1178, 1177, 61, 71), -- 170 X7_isSoWith
  (7, 1, 6, 136, false, 1174, 1173, 60, 71), -- 171 X7_kindsOf
  (7, 1, 7, 159, false, 1170, 1168, 1169, 71), -- 172 X7_kinds
  (7, 1, 6, 136, false, 1182, 1180, 1181, 71), -- 173 X7_fathers
  (7, 2, 6, 136, false, 1186, 1184, 1185, 71), -- 174 X7_look
  (7, 3, 5, 111, false, 1190, 1188, 1189, 71), -- 175 X7_drift
  (7, 2, 0, 0, false, 1199, 1198, 62, 71), -- 176 X7_copies
  (7, 1, 1, 25, false, 1195, 1193, 1194, 71), -- 177 X7_keep
  (7, 1, 1, 25, false, 1203, 1201, 1202, 71), -- 178 X7_back
  (7, 2, 1, 25, true, 1210, 1209, 0, 71), -- 179 X7_isSheet
  (7, 3, 2, 46, false, 1207, 1205, 1206, 71), -- 180 X7_sheet
  (7, 3, 2, 46, false, 1214, 1212, 1213, 71), -- 181 X7_lay
  (7, 4, 3, 71, false, 1218, 1216, 1217, 71), -- 182 X7_read
  (7, 0, 0, 0, false, 1223, 1221, 1222, 71), -- 183 X7_torn
  (7, 1, 3, 66, false, 1227, 1225, 1226, 71), -- 184 X7_count
  (8, 1, 0, 0, true, 606, 605, 0, 77), -- 185 J6_bitCount_0f7a4
  (9, 1, 9, 271, true, 0, 0, 0, 0)] -- 186 L_law
abbrev plNat : Nat := 470
abbrev plSta : Nat := 469
abbrev plSys : Nat := 76
def layP0 : List Nat := [259, 261, 263]
def layP1 : List Nat := [278, 280, 282, 284]
def layP2 : List Nat := [184, 186, 188, 190]
def layP3 : List Nat := [213, 215, 217, 219]
def layP4 : List Nat := [230, 232, 234, 236, 238]
def layP5 : List Nat := [139, 141, 143, 145, 147, 149, 151, 153, 155, 157, 159, 161, 163, 165, 167, 169]
def layP6 : List Nat := [297, 299, 301, 303, 305, 307, 309, 311, 313, 315]
def layP7 : List Nat := [831, 833, 835, 837, 839, 841, 843, 845, 847, 849, 851, 853, 855, 857, 859, 861, 863, 865, 867, 869, 871, 873, 875, 877, 879, 881, 883, 885, 887]
abbrev nZ : Nat := 187
abbrev zX1_renew : Nat := 0
abbrev zX1_faultAt : Nat := 1
abbrev zX1_faultOfPair : Nat := 2
abbrev zX1_put : Nat := 3
abbrev zX2_add : Nat := 4
abbrev zX2_fit : Nat := 5
abbrev zX2_become : Nat := 6
abbrev zX3_append : Nat := 7
abbrev zX3_take : Nat := 8
abbrev zX3_passRun : Nat := 9
abbrev zX3_number : Nat := 10
abbrev zX3_isWord : Nat := 11
abbrev zX4_tell : Nat := 12
abbrev zX4_takeLine : Nat := 13
abbrev zX4_hasNoRoom : Nat := 14
abbrev zX4_takeNumbers : Nat := 15
abbrev zX4_most : Nat := 16
abbrev zX4_enter : Nat := 17
abbrev zX4_checkPlaces : Nat := 18
abbrev zX4_expect : Nat := 19
abbrev zX4_refuse : Nat := 20
abbrev zX4_lineOf : Nat := 21
abbrev zX4_word : Nat := 22
abbrev zX5_clear : Nat := 23
abbrev zX5_takeTurnsByNumber : Nat := 24
abbrev zX5_become : Nat := 25
abbrev zX5_hasVillage : Nat := 26
abbrev zX5_hasBody : Nat := 27
abbrev zX5_addVillage : Nat := 28
abbrev zX5_addBody : Nat := 29
abbrev zX5_bodyRow : Nat := 30
abbrev zX5_lacksOfFather : Nat := 31
abbrev zX5_lacks : Nat := 32
abbrev zX5_lacksOfLying : Nat := 33
abbrev zX5_inWay : Nat := 34
abbrev zX5_lyingAt : Nat := 35
abbrev zX5_allMeans : Nat := 36
abbrev zX5_pass : Nat := 37
abbrev zX5_passOne : Nat := 38
abbrev zX5_takeTurn : Nat := 39
abbrev zX5_firstLyingAt : Nat := 40
abbrev zX5_handOn : Nat := 41
abbrev zX5_fineAll : Nat := 42
abbrev zX6_feed : Nat := 43
abbrev zX6_end : Nat := 44
abbrev zX6_text : Nat := 45
abbrev zX6_fault : Nat := 46
abbrev zX6_rule : Nat := 47
abbrev zX6_village : Nat := 48
abbrev zX6_body : Nat := 49
abbrev zX6_grant : Nat := 50
abbrev zX6_alter : Nat := 51
abbrev zX6_mayBecome : Nat := 52
abbrev zX6_set : Nat := 53
abbrev zX6_find : Nat := 54
abbrev zX6_addFound : Nat := 55
abbrev zX6_hire : Nat := 56
abbrev zX6_nights : Nat := 57
abbrev zX6_runs : Nat := 58
abbrev zX6_ahead : Nat := 59
abbrev zX6_settled : Nat := 60
abbrev zX6_dear : Nat := 61
abbrev zX6_provedByPrice : Nat := 62
abbrev zX6_mild : Nat := 63
abbrev zX6_watch : Nat := 64
abbrev zX6_meansBehind : Nat := 65
abbrev zX6_place : Nat := 66
abbrev zX6_kin : Nat := 67
abbrev zX6_late : Nat := 68
abbrev zX6_order : Nat := 69
abbrev zX6_findBestTurns : Nat := 70
abbrev zX6_paidByTurns : Nat := 71
abbrev zX6_arrangeNext : Nat := 72
abbrev zX6_swap : Nat := 73
abbrev zX6_mean : Nat := 74
abbrev zX6_luck : Nat := 75
abbrev zX6_weighAll : Nat := 76
abbrev zX6_weightOf : Nat := 77
abbrev zX6_weightOfAll : Nat := 78
abbrev zX6_outcome : Nat := 79
abbrev zX6_partOfFraction : Nat := 80
abbrev zX6_greatestDivisor : Nat := 81
abbrev zX6_see : Nat := 82
abbrev zX6_forget : Nat := 83
abbrev zX6_kinds : Nat := 84
abbrev zX6_fathers : Nat := 85
abbrev zX6_asSeenBy : Nat := 86
abbrev zX6_isAsSeen : Nat := 87
abbrev zX6_look : Nat := 88
abbrev zX6_noteSpots : Nat := 89
abbrev zX6_leftAtWorst : Nat := 90
abbrev zX6_drift : Nat := 91
abbrev zX6_keep : Nat := 92
abbrev zX6_back : Nat := 93
abbrev zX6_sheet : Nat := 94
abbrev zX6_lay : Nat := 95
abbrev zX6_read : Nat := 96
abbrev zX6_torn : Nat := 97
abbrev zX6_count : Nat := 98
abbrev zX6_within : Nat := 99
abbrev zX6_fromNow : Nat := 100
abbrev zX7_in : Nat := 101
abbrev zX7_flag : Nat := 102
abbrev zX7_firstDraft : Nat := 103
abbrev zX7_keepDraft : Nat := 104
abbrev zX7_feed : Nat := 105
abbrev zX7_end : Nat := 106
abbrev zX7_needs : Nat := 107
abbrev zX7_byteAt : Nat := 108
abbrev zX7_is : Nat := 109
abbrev zX7_ends : Nat := 110
abbrev zX7_kindNow : Nat := 111
abbrev zX7_lineNow : Nat := 112
abbrev zX7_takes : Nat := 113
abbrev zX7_readNumber : Nat := 114
abbrev zX7_readBody : Nat := 115
abbrev zX7_readLineOf : Nat := 116
abbrev zX7_readLine : Nat := 117
abbrev zX7_text : Nat := 118
abbrev zX7_fault : Nat := 119
abbrev zX7_isVillage : Nat := 120
abbrev zX7_isBody : Nat := 121
abbrev zX7_isPart : Nat := 122
abbrev zX7_starts : Nat := 123
abbrev zX7_settles : Nat := 124
abbrev zX7_of : Nat := 125
abbrev zX7_becomesOf : Nat := 126
abbrev zX7_needOf : Nat := 127
abbrev zX7_lacksOf : Nat := 128
abbrev zX7_lacks : Nat := 129
abbrev zX7_firstAt : Nat := 130
abbrev zX7_villageGoes : Nat := 131
abbrev zX7_crownerComes : Nat := 132
abbrev zX7_nightGoes : Nat := 133
abbrev zX7_allMeans : Nat := 134
abbrev zX7_paidIn : Nat := 135
abbrev zX7_inWay : Nat := 136
abbrev zX7_bitsOf : Nat := 137
abbrev zX7_lesser : Nat := 138
abbrev zX7_rule : Nat := 139
abbrev zX7_village : Nat := 140
abbrev zX7_body : Nat := 141
abbrev zX7_becomes : Nat := 142
abbrev zX7_grant : Nat := 143
abbrev zX7_liesStill : Nat := 144
abbrev zX7_alter : Nat := 145
abbrev zX7_set : Nat := 146
abbrev zX7_find : Nat := 147
abbrev zX7_hire : Nat := 148
abbrev zX7_nights : Nat := 149
abbrev zX7_runs : Nat := 150
abbrev zX7_ahead : Nat := 151
abbrev zX7_settled : Nat := 152
abbrev zX7_isJudged : Nat := 153
abbrev zX7_paidWith : Nat := 154
abbrev zX7_dear : Nat := 155
abbrev zX7_mild : Nat := 156
abbrev zX7_watch : Nat := 157
abbrev zX7_place : Nat := 158
abbrev zX7_kin : Nat := 159
abbrev zX7_late : Nat := 160
abbrev zX7_isOrder : Nat := 161
abbrev zX7_order : Nat := 162
abbrev zX7_common : Nat := 163
abbrev zX7_told : Nat := 164
abbrev zX7_findOdds : Nat := 165
abbrev zX7_mean : Nat := 166
abbrev zX7_luck : Nat := 167
abbrev zX7_see : Nat := 168
abbrev zX7_forget : Nat := 169
abbrev zX7_isSoWith : Nat := 170
abbrev zX7_kindsOf : Nat := 171
abbrev zX7_kinds : Nat := 172
abbrev zX7_fathers : Nat := 173
abbrev zX7_look : Nat := 174
abbrev zX7_drift : Nat := 175
abbrev zX7_copies : Nat := 176
abbrev zX7_keep : Nat := 177
abbrev zX7_back : Nat := 178
abbrev zX7_isSheet : Nat := 179
abbrev zX7_sheet : Nat := 180
abbrev zX7_lay : Nat := 181
abbrev zX7_read : Nat := 182
abbrev zX7_torn : Nat := 183
abbrev zX7_count : Nat := 184
abbrev zJ6_bitCount_0f7a4 : Nat := 185
abbrev zL_law : Nat := 186
end
section
def cdX1_renew : List (Nat × List ClassFile.Instr) := [(0, [.aload 0, .sipush (1), .putfield 100, .aload 0, .iload 1, .putfield 103, .aload 0, .iload 2, .putfield 101, .sipush (0), .istore 3, .goto_w 17]),
  (17, [.iload 3, .sipush (40), .if_icmp .ge 36, .aload 0, .getfield 102, .iload 3, .sipush (0), .iastore, .iinc 3 (1), .goto 17]),
  (36, [.return_])]
def cdX1_faultAt : List (Nat × List ClassFile.Instr) := [(0, [.aload 0, .getfield 100, .ifCond .ne 9, .sipush (1), .ireturn]),
  (9, [.lload 1, .jsr (0), .lcmp, .ifCond .lt 25, .lload 1, .aload 0, .getfield 101, .i2l, .lcmp, .ifCond .lt 29, .sipush (2), .goto 30]),
  (25, [.sipush (2), .goto 30]),
  (29, [.sipush (0), .ireturn]),
  (30, [.ireturn])]
def cdX1_faultOfPair : List (Nat × List ClassFile.Instr) := [(0, [.aload 0, .getfield 100, .ifCond .eq 17, .aload 0, .getfield 103, .iload 1, .if_icmp .eq 17, .sipush (3), .ireturn]),
  (17, [.aload 0, .lload 2, .invokevirtual 1, .istore 4, .iload 4, .ifCond .eq 34, .iload 4, .goto 41]),
  (34, [.aload 0, .lload 2, .jsr (1), .ladd, .invokevirtual 1, .ireturn]),
  (41, [.ireturn])]
def cdX1_put : List (Nat × List ClassFile.Instr) := [(0, [.aload 0, .getfield 103, .ifCond .ne 18, .aload 0, .getfield 102, .iload 1, .iload 2, .i2b, .iastore, .goto 44]),
  (18, [.aload 0, .getfield 103, .sipush (1), .if_icmp .ne 37, .aload 0, .getfield 102, .iload 1, .iload 2, .i2s, .iastore, .goto 44]),
  (37, [.aload 0, .getfield 102, .iload 1, .iload 2, .iastore, .return_]),
  (44, [.return_])]
def cdX2_add : List (Nat × List ClassFile.Instr) := [(0, [.aload 0, .getfield 200, .sipush (6), .if_icmp .lt 11, .sipush (0), .ireturn]),
  (11, [.aload 0, .getfield 201, .aload 0, .getfield 200, .iload 1, .iastore, .aload 0, .getfield 202, .aload 0, .getfield 200, .iload 2, .iastore, .aload 0, .getfield 203, .aload 0, .getfield 200, .iload 3, .iastore, .aload 0, .dup, .getfield 200, .sipush (1), .iadd, .putfield 200, .sipush (1), .ireturn])]
def cdX2_fit : List (Nat × List ClassFile.Instr) := [(0, [.sipush (0), .istore 3, .goto_w 2]),
  (2, [.iload 3, .aload 0, .getfield 200, .if_icmp .ge 48, .aload 0, .getfield 202, .iload 3, .iaload, .iload 2, .if_icmp .ne 42, .aload 1, .getfield 512, .aload 0, .getfield 201, .iload 3, .iaload, .iaload, .aload 0, .getfield 203, .iload 3, .iaload, .if_icmp .eq 42, .sipush (0), .ireturn]),
  (42, [.iinc 3 (1), .goto 2]),
  (48, [.sipush (1), .ireturn])]
def cdX2_become : List (Nat × List ClassFile.Instr) := [(0, [.aload 0, .aload 1, .getfield 200, .putfield 200, .aload 1, .getfield 201, .sipush (0), .aload 0, .getfield 201, .sipush (0), .sipush (6), .monitorenter, .aload 1, .getfield 202, .sipush (0), .aload 0, .getfield 202, .sipush (0), .sipush (6), .monitorenter, .aload 1, .getfield 203, .sipush (0), .aload 0, .getfield 203, .sipush (0), .sipush (6), .monitorenter, .return_])]
def cdX3_append : List (Nat × List ClassFile.Instr) := [(0, [.aload 0, .getfield 300, .sipush (160), .if_icmp .lt 12, .sipush (0), .ireturn]),
  (12, [.aload 0, .getfield 303, .aload 0, .getfield 300, .iload 1, .iastore, .aload 0, .dup, .getfield 300, .sipush (1), .iadd, .putfield 300, .sipush (1), .ireturn])]
def cdX3_take : List (Nat × List ClassFile.Instr) := [(0, [.aload 0, .getfield 302, .aload 0, .getfield 300, .if_icmp .ge 38, .aload 0, .getfield 303, .aload 0, .getfield 302, .iaload, .sipush (32), .if_icmp .ne 38, .aload 0, .dup, .getfield 302, .sipush (1), .iadd, .putfield 302, .goto 0]),
  (38, [.aload 0, .aload 0, .getfield 302, .putfield 301, .aload 0, .getfield 301, .aload 0, .getfield 300, .if_icmp .lt 59, .sipush (0), .ireturn]),
  (59, [.aload 0, .sipush (97), .sipush (122), .invokevirtual 9, .ifCond .eq 72, .sipush (1), .ireturn]),
  (72, [.aload 0, .sipush (48), .sipush (57), .invokevirtual 9, .ifCond .eq 102, .aload 0, .getfield 302, .aload 0, .getfield 301, .isub, .sipush (2), .if_icmp .le 100, .sipush (4), .goto 101]),
  (100, [.sipush (2), .ireturn]),
  (101, [.ireturn]),
  (102, [.aload 0, .dup, .getfield 302, .sipush (1), .iadd, .putfield 302, .aload 0, .getfield 303, .aload 0, .getfield 301, .iaload, .sipush (59), .if_icmp .ne 130, .sipush (3), .goto 131]),
  (130, [.sipush (4), .ireturn]),
  (131, [.ireturn])]
def cdX3_passRun : List (Nat × List ClassFile.Instr) := [(0, [.aload 0, .getfield 302, .aload 0, .getfield 300, .if_icmp .ge 50, .aload 0, .getfield 303, .aload 0, .getfield 302, .iaload, .iload 1, .if_icmp .lt 50, .aload 0, .getfield 303, .aload 0, .getfield 302, .iaload, .iload 2, .if_icmp .gt 50, .aload 0, .dup, .getfield 302, .sipush (1), .iadd, .putfield 302, .goto 0]),
  (50, [.aload 0, .getfield 302, .aload 0, .getfield 301, .if_icmp .le 65, .sipush (1), .goto 66]),
  (65, [.sipush (0), .ireturn]),
  (66, [.ireturn])]
def cdX3_number : List (Nat × List ClassFile.Instr) := [(0, [.sipush (0), .istore 1, .aload 0, .getfield 301, .istore 2, .goto_w 7]),
  (7, [.iload 2, .aload 0, .getfield 302, .if_icmp .ge 36, .iload 1, .sipush (10), .imul, .aload 0, .getfield 303, .iload 2, .iaload, .iadd, .sipush (48), .isub, .istore 1, .iinc 2 (1), .goto 7]),
  (36, [.iload 1, .ireturn])]
def cdX3_isWord : List (Nat × List ClassFile.Instr) := []
def cdX4_tell : List (Nat × List ClassFile.Instr) := [(0, [.aload 0, .getfield 400, .sipush (0), .putfield 302, .aload 0, .sipush (0), .putfield 401, .aload 0, .sipush (0), .putfield 404, .aload 1, .invokevirtual 23, .sipush (0), .istore 2, .goto_w 24]),
  (24, [.iload 2, .sipush (160), .if_icmp .ge 71, .aload 0, .getfield 400, .invokevirtual 8, .istore 3, .iload 3, .ifCond .ne 50, .aload 0, .aload 1, .invokevirtual 18, .iload 2, .ireturn]),
  (50, [.aload 0, .iload 3, .aload 1, .invokevirtual 13, .aload 0, .getfield 401, .ifCond .eq 65, .sipush (0), .ireturn]),
  (65, [.iinc 2 (1), .goto 24]),
  (71, [.sipush (0), .ireturn])]
def cdX4_takeLine : List (Nat × List ClassFile.Instr) := [(0, [.aload 0, .iload 1, .sipush (1), .invokevirtual 19, .ifCond .ne 10, .return_]),
  (10, [.aload 0, .invokevirtual 21, .istore 3, .iload 3, .sipush (-4), .if_icmp .ne 36, .aload 0, .sipush (2), .aload 0, .getfield 400, .getfield 301, .invokevirtual 20, .goto 116]),
  (36, [.aload 0, .getfield 404, .iload 3, .ishr, .sipush (1), .iand, .sipush (1), .if_icmp .ne 63, .aload 0, .sipush (4), .aload 0, .getfield 400, .getfield 301, .invokevirtual 20, .goto 116]),
  (63, [.aload 0, .iload 3, .aload 2, .invokevirtual 14, .ifCond .eq 87, .aload 0, .sipush (5), .aload 0, .getfield 400, .getfield 301, .invokevirtual 20, .goto 116]),
  (87, [.aload 0, .iload 3, .invokevirtual 15, .ifCond .eq 116, .aload 0, .aload 0, .getfield 400, .invokevirtual 8, .sipush (3), .invokevirtual 19, .ifCond .eq 116, .aload 0, .iload 3, .aload 2, .invokevirtual 17, .return_]),
  (116, [.return_])]
def cdX4_hasNoRoom : List (Nat × List ClassFile.Instr) := [(0, [.iload 1, .ifCond .ne 18, .aload 2, .getfield 500, .sipush (4), .if_icmp .lt 16, .sipush (1), .goto 17]),
  (16, [.sipush (0), .ireturn]),
  (17, [.ireturn]),
  (18, [.iload 1, .sipush (4), .if_icmp .gt 36, .aload 2, .getfield 501, .sipush (6), .if_icmp .lt 36, .sipush (1), .goto 37]),
  (36, [.sipush (0), .ireturn]),
  (37, [.ireturn])]
def cdX4_takeNumbers : List (Nat × List ClassFile.Instr) := [(0, [.iload 1, .ifCond .ne 8, .sipush (2), .goto 18]),
  (8, [.iload 1, .sipush (4), .if_icmp .gt 17, .sipush (3), .goto 18]),
  (17, [.sipush (1), .istore 2, .sipush (0), .istore 3, .goto_w 21]),
  (18, [.istore 2, .sipush (0), .istore 3, .goto_w 21]),
  (21, [.iload 3, .iload 2, .if_icmp .ge 101, .aload 0, .aload 0, .getfield 400, .invokevirtual 8, .sipush (2), .invokevirtual 19, .ifCond .ne 43, .sipush (0), .ireturn]),
  (43, [.aload 0, .getfield 400, .invokevirtual 10, .istore 4, .iload 4, .iload 1, .iload 3, .invokestatic 16, .if_icmp .gt 73, .iload 1, .sipush (7), .if_icmp .ne 87, .iload 4, .ifCond .ne 87, .aload 0, .sipush (3), .aload 0, .getfield 400, .getfield 301, .invokevirtual 20, .sipush (0), .ireturn]),
  (73, [.aload 0, .sipush (3), .aload 0, .getfield 400, .getfield 301, .invokevirtual 20, .sipush (0), .ireturn]),
  (87, [.aload 0, .getfield 403, .iload 3, .iload 4, .iastore, .iinc 3 (1), .goto 21]),
  (101, [.sipush (1), .ireturn])]
def cdX4_most : List (Nat × List ClassFile.Instr) := [(0, [.iload 0, .tableswitch 69 (0) (7) #[48, 69, 69, 69, 69, 60, 63, 66]]),
  (48, [.iload 1, .ifCond .ne 57, .sipush (99), .goto 59]),
  (57, [.sipush (9), .ireturn]),
  (59, [.ireturn]),
  (60, [.sipush (20), .ireturn]),
  (63, [.sipush (60), .ireturn]),
  (66, [.sipush (9), .ireturn]),
  (69, [.iload 1, .ifCond .ne 77, .sipush (3), .goto 79]),
  (77, [.sipush (9), .ireturn]),
  (79, [.ireturn])]
def cdX4_enter : List (Nat × List ClassFile.Instr) := [(0, [.iload 1, .tableswitch 143 (0) (7) #[48, 143, 143, 143, 143, 68, 93, 118]]),
  (48, [.aload 2, .aload 0, .getfield 403, .sipush (0), .iaload, .aload 0, .getfield 403, .sipush (1), .iaload, .invokevirtual 28, .pop, .goto 169]),
  (68, [.aload 2, .aload 0, .getfield 403, .sipush (0), .iaload, .putfield 502, .aload 0, .dup, .getfield 404, .sipush (1), .iload 1, .ishl, .ior, .putfield 404, .goto 169]),
  (93, [.aload 2, .aload 0, .getfield 403, .sipush (0), .iaload, .putfield 503, .aload 0, .dup, .getfield 404, .sipush (1), .iload 1, .ishl, .ior, .putfield 404, .goto 169]),
  (118, [.aload 2, .aload 0, .getfield 403, .sipush (0), .iaload, .putfield 504, .aload 0, .dup, .getfield 404, .sipush (1), .iload 1, .ishl, .ior, .putfield 404, .goto 169]),
  (143, [.aload 2, .iload 1, .sipush (1), .isub, .aload 0, .getfield 403, .sipush (0), .iaload, .aload 0, .getfield 403, .sipush (1), .iaload, .aload 0, .getfield 403, .sipush (2), .iaload, .invokevirtual 29, .pop, .return_]),
  (169, [.return_])]
def cdX4_checkPlaces : List (Nat × List ClassFile.Instr) := [(0, [.sipush (0), .istore 2, .goto_w 2]),
  (2, [.iload 2, .aload 1, .getfield 501, .if_icmp .ge 42, .aload 1, .aload 1, .getfield 512, .iload 2, .iaload, .invokevirtual 26, .ifCond .ne 36, .aload 0, .sipush (6), .aload 0, .getfield 400, .getfield 300, .invokevirtual 20, .iinc 2 (1), .goto 2]),
  (36, [.iinc 2 (1), .goto 2]),
  (42, [.return_])]
def cdX4_expect : List (Nat × List ClassFile.Instr) := [(0, [.iload 1, .iload 2, .if_icmp .ne 7, .sipush (1), .ireturn]),
  (7, [.aload 0, .iload 1, .sipush (4), .if_icmp .ne 17, .sipush (1), .goto 18]),
  (17, [.sipush (2), .aload 0, .getfield 400, .getfield 301, .invokevirtual 20, .sipush (0), .ireturn]),
  (18, [.aload 0, .getfield 400, .getfield 301, .invokevirtual 20, .sipush (0), .ireturn])]
def cdX4_refuse : List (Nat × List ClassFile.Instr) := [(0, [.aload 0, .iload 1, .putfield 401, .aload 0, .iload 2, .putfield 402, .return_])]
def cdX4_lineOf : List (Nat × List ClassFile.Instr) := [(0, [.sipush (0), .istore 1, .goto_w 2]),
  (2, [.iload 1, .sipush (8), .if_icmp .ge 30, .aload 0, .getfield 400, .iload 1, .invokestatic 22, .invokevirtual 11, .ifCond .eq 24, .iload 1, .ireturn]),
  (24, [.iinc 1 (1), .goto 2]),
  (30, [.sipush (-4), .ireturn])]
def cdX4_word : List (Nat × List ClassFile.Instr) := [(0, [.iload 0, .tableswitch 65 (0) (6) #[44, 47, 50, 53, 56, 59, 62]]),
  (44, [.getstatic 2000, .areturn]),
  (47, [.getstatic 2001, .areturn]),
  (50, [.getstatic 2002, .areturn]),
  (53, [.getstatic 2003, .areturn]),
  (56, [.getstatic 2004, .areturn]),
  (59, [.getstatic 2005, .areturn]),
  (62, [.getstatic 2006, .areturn]),
  (65, [.getstatic 2007, .areturn])]
def cdX5_clear : List (Nat × List ClassFile.Instr) := [(0, [.aload 0, .sipush (0), .putfield 500, .aload 0, .sipush (0), .putfield 501, .aload 0, .sipush (5), .putfield 502, .aload 0, .sipush (46), .putfield 503, .aload 0, .sipush (5), .putfield 504, .aload 0, .sipush (0), .putfield 505, .aload 0, .sipush (0), .putfield 506, .aload 0, .sipush (0), .putfield 507, .aload 0, .invokevirtual 24, .return_])]
def cdX5_takeTurnsByNumber : List (Nat × List ClassFile.Instr) := [(0, [.sipush (0), .istore 1, .goto_w 2]),
  (2, [.iload 1, .sipush (4), .if_icmp .ge 20, .aload 0, .getfield 510, .iload 1, .iload 1, .iastore, .iinc 1 (1), .goto 2]),
  (20, [.return_])]
def cdX5_become : List (Nat × List ClassFile.Instr) := [(0, [.aload 0, .aload 1, .getfield 500, .putfield 500, .aload 0, .aload 1, .getfield 501, .putfield 501, .aload 0, .aload 1, .getfield 502, .putfield 502, .aload 0, .aload 1, .getfield 503, .putfield 503, .aload 0, .aload 1, .getfield 504, .putfield 504, .aload 0, .aload 1, .getfield 505, .putfield 505, .aload 0, .aload 1, .getfield 506, .putfield 506, .aload 0, .aload 1, .getfield 507, .putfield 507, .aload 1, .getfield 508, .sipush (0), .aload 0, .getfield 508, .sipush (0), .sipush (4), .monitorenter, .aload 1, .getfield 509, .sipush (0), .aload 0, .getfield 509, .sipush (0), .sipush (4), .monitorenter, .aload 1, .getfield 510, .sipush (0), .aload 0, .getfield 510, .sipush (0), .sipush (4), .monitorenter, .aload 1, .getfield 511, .sipush (0), .aload 0, .getfield 511, .sipush (0), .sipush (6), .monitorenter, .aload 1, .getfield 512, .sipush (0), .aload 0, .getfield 512, .sipush (0), .sipush (6), .monitorenter, .aload 1, .getfield 513, .sipush (0), .aload 0, .getfield 513, .sipush (0), .sipush (6), .monitorenter, .aload 1, .getfield 514, .sipush (0), .aload 0, .getfield 514, .sipush (0), .sipush (6), .monitorenter, .aload 1, .getfield 515, .sipush (0), .aload 0, .getfield 515, .sipush (0), .sipush (6), .monitorenter, .return_])]
def cdX5_hasVillage : List (Nat × List ClassFile.Instr) := [(0, [.iload 1, .ifCond .lt 16, .iload 1, .aload 0, .getfield 500, .if_icmp .ge 16, .sipush (1), .goto 17]),
  (16, [.sipush (0), .ireturn]),
  (17, [.ireturn])]
def cdX5_hasBody : List (Nat × List ClassFile.Instr) := [(0, [.iload 1, .ifCond .lt 16, .iload 1, .aload 0, .getfield 501, .if_icmp .ge 16, .sipush (1), .goto 17]),
  (16, [.sipush (0), .ireturn]),
  (17, [.ireturn])]
def cdX5_addVillage : List (Nat × List ClassFile.Instr) := [(0, [.aload 0, .getfield 500, .sipush (4), .if_icmp .lt 10, .sipush (0), .ireturn]),
  (10, [.aload 0, .getfield 508, .aload 0, .getfield 500, .iload 1, .iastore, .aload 0, .getfield 509, .aload 0, .getfield 500, .iload 2, .iastore, .aload 0, .dup, .getfield 500, .sipush (1), .iadd, .putfield 500, .sipush (1), .ireturn])]
def cdX5_addBody : List (Nat × List ClassFile.Instr) := [(0, [.aload 0, .getfield 501, .sipush (6), .if_icmp .lt 11, .sipush (0), .ireturn]),
  (11, [.aload 0, .getfield 511, .aload 0, .getfield 501, .iload 1, .iastore, .aload 0, .getfield 512, .aload 0, .getfield 501, .iload 2, .iastore, .aload 0, .getfield 513, .aload 0, .getfield 501, .iload 3, .iastore, .aload 0, .getfield 514, .aload 0, .getfield 501, .iload 4, .iastore, .aload 0, .getfield 515, .aload 0, .getfield 501, .sipush (0), .iastore, .aload 0, .dup, .getfield 501, .sipush (1), .iadd, .putfield 501, .sipush (1), .ireturn])]
def cdX5_bodyRow : List (Nat × List ClassFile.Instr) := [(0, [.iload 1, .tableswitch 43 (0) (2) #[28, 33, 38]]),
  (28, [.aload 0, .getfield 511, .areturn]),
  (33, [.aload 0, .getfield 512, .areturn]),
  (38, [.aload 0, .getfield 513, .areturn]),
  (43, [.aload 0, .getfield 514, .areturn])]
def cdX5_lacksOfFather : List (Nat × List ClassFile.Instr) := [(0, [.getstatic 1000, .aload 0, .getfield 511, .iload 1, .iaload, .iaload, .aload 0, .getfield 513, .iload 1, .iaload, .if_icmp .le 23, .sipush (1), .goto 24]),
  (23, [.sipush (0), .ireturn]),
  (24, [.ireturn])]
def cdX5_lacks : List (Nat × List ClassFile.Instr) := [(0, [.getstatic 1000, .aload 0, .getfield 511, .iload 1, .iaload, .iaload, .aload 0, .getfield 513, .iload 1, .iaload, .isub, .istore 2, .getstatic 1001, .aload 0, .getfield 511, .iload 1, .iaload, .iaload, .aload 0, .getfield 514, .iload 1, .iaload, .isub, .istore 3, .iload 2, .ifCond .le 44, .iload 2, .goto 45]),
  (44, [.sipush (0), .iload 3, .ifCond .le 53, .iload 3, .goto 54]),
  (45, [.iload 3, .ifCond .le 53, .iload 3, .goto 54]),
  (53, [.sipush (0), .iadd, .ireturn]),
  (54, [.iadd, .ireturn])]
def cdX5_lacksOfLying : List (Nat × List ClassFile.Instr) := [(0, [.sipush (0), .istore 1, .sipush (0), .istore 2, .goto_w 4]),
  (4, [.iload 2, .aload 0, .getfield 501, .if_icmp .ge 35, .aload 0, .getfield 515, .iload 2, .iaload, .ifCond .ne 29, .iload 1, .aload 0, .iload 2, .invokevirtual 32, .iadd, .istore 1, .iinc 2 (1), .goto 4]),
  (29, [.iinc 2 (1), .goto 4]),
  (35, [.iload 1, .ireturn])]
def cdX5_inWay : List (Nat × List ClassFile.Instr) := [(0, [.sipush (0), .istore 2, .sipush (0), .istore 3, .goto_w 4]),
  (4, [.iload 3, .aload 0, .getfield 501, .if_icmp .ge 34, .aload 0, .getfield 515, .iload 3, .iaload, .iload 1, .if_icmp .ne 28, .iload 2, .sipush (1), .iload 3, .ishl, .ior, .istore 2, .iinc 3 (1), .goto 4]),
  (28, [.iinc 3 (1), .goto 4]),
  (34, [.iload 2, .ireturn])]
def cdX5_lyingAt : List (Nat × List ClassFile.Instr) := [(0, [.sipush (0), .istore 2, .sipush (0), .istore 3, .goto_w 4]),
  (4, [.iload 3, .aload 0, .getfield 501, .if_icmp .ge 43, .aload 0, .getfield 512, .iload 3, .iaload, .iload 1, .if_icmp .ne 37, .aload 0, .getfield 515, .iload 3, .iaload, .ifCond .ne 37, .iload 2, .sipush (1), .iload 3, .ishl, .ior, .istore 2, .iinc 3 (1), .goto 4]),
  (37, [.iinc 3 (1), .goto 4]),
  (43, [.iload 2, .ireturn])]
def cdX5_allMeans : List (Nat × List ClassFile.Instr) := [(0, [.sipush (0), .istore 1, .sipush (0), .istore 2, .goto_w 4]),
  (4, [.iload 2, .aload 0, .getfield 500, .if_icmp .ge 27, .iload 1, .aload 0, .getfield 508, .iload 2, .iaload, .iadd, .istore 1, .iinc 2 (1), .goto 4]),
  (27, [.iload 1, .ireturn])]
def cdX5_pass : List (Nat × List ClassFile.Instr) := [(0, [.aload 0, .invokevirtual 36, .istore 2, .sipush (0), .istore 3, .goto_w 7]),
  (7, [.iload 3, .iload 1, .if_icmp .ge 22, .aload 0, .invokevirtual 38, .iinc 3 (1), .goto 7]),
  (22, [.iload 2, .aload 0, .invokevirtual 36, .isub, .ireturn])]
def cdX5_passOne : List (Nat × List ClassFile.Instr) := [(0, [.sipush (0), .istore 1, .goto_w 2]),
  (2, [.iload 1, .aload 0, .getfield 500, .if_icmp .ge 26, .aload 0, .aload 0, .getfield 510, .iload 1, .iaload, .invokevirtual 39, .iinc 1 (1), .goto 2]),
  (26, [.aload 0, .dup, .getfield 505, .sipush (1), .iadd, .putfield 505, .aload 0, .getfield 504, .ifCond .le 59, .aload 0, .getfield 505, .aload 0, .getfield 504, .irem, .ifCond .ne 59, .aload 0, .invokevirtual 42, .return_]),
  (59, [.return_])]
def cdX5_takeTurn : List (Nat × List ClassFile.Instr) := [(0, [.aload 0, .iload 1, .invokevirtual 40, .istore 2, .iload 2, .sipush (-4), .if_icmp .ne 13, .return_]),
  (13, [.aload 0, .iload 2, .invokevirtual 32, .istore 3, .aload 0, .getfield 502, .iload 3, .imul, .istore 4, .iload 3, .ifCond .ne 41, .aload 0, .getfield 515, .iload 2, .sipush (1), .iastore, .goto 88]),
  (41, [.iload 4, .aload 0, .getfield 503, .if_icmp .ge 82, .iload 4, .aload 0, .getfield 508, .iload 1, .iaload, .if_icmp .gt 82, .aload 0, .getfield 508, .iload 1, .dup2, .iaload, .iload 4, .isub, .iastore, .aload 0, .getfield 515, .iload 2, .sipush (1), .iastore, .goto 88]),
  (82, [.aload 0, .iload 2, .iload 1, .invokevirtual 41, .return_]),
  (88, [.return_])]
def cdX5_firstLyingAt : List (Nat × List ClassFile.Instr) := [(0, [.sipush (0), .istore 2, .goto_w 2]),
  (2, [.iload 2, .aload 0, .getfield 501, .if_icmp .ge 37, .aload 0, .getfield 512, .iload 2, .iaload, .iload 1, .if_icmp .ne 31, .aload 0, .getfield 515, .iload 2, .iaload, .ifCond .ne 31, .iload 2, .ireturn]),
  (31, [.iinc 2 (1), .goto 2]),
  (37, [.sipush (-4), .ireturn])]
def cdX5_handOn : List (Nat × List ClassFile.Instr) := [(0, [.iload 2, .sipush (1), .iadd, .aload 0, .getfield 500, .if_icmp .ge 16, .iload 2, .sipush (1), .iadd, .goto 17]),
  (16, [.sipush (0), .istore 3, .iload 3, .iload 2, .if_icmp .ne 24, .return_]),
  (17, [.istore 3, .iload 3, .iload 2, .if_icmp .ne 24, .return_]),
  (24, [.aload 0, .getfield 509, .iload 3, .iaload, .ifCond .ne 53, .aload 0, .getfield 512, .iload 1, .iload 3, .iastore, .aload 0, .dup, .getfield 507, .sipush (1), .iadd, .putfield 507, .goto 63]),
  (53, [.aload 0, .getfield 509, .iload 3, .dup2, .iaload, .sipush (1), .isub, .iastore, .return_]),
  (63, [.return_])]
def cdX5_fineAll : List (Nat × List ClassFile.Instr) := [(0, [.sipush (0), .istore 1, .goto_w 2]),
  (2, [.iload 1, .aload 0, .getfield 501, .if_icmp .ge 87, .aload 0, .getfield 515, .iload 1, .iaload, .ifCond .ne 81, .aload 0, .getfield 512, .iload 1, .iaload, .istore 2, .aload 0, .getfield 508, .iload 2, .iaload, .aload 0, .getfield 503, .if_icmp .ge 61, .aload 0, .dup, .getfield 506, .sipush (1), .iload 2, .ishl, .ior, .putfield 506, .aload 0, .getfield 508, .iload 2, .sipush (0), .iastore, .goto 74]),
  (61, [.aload 0, .getfield 508, .iload 2, .dup2, .iaload, .aload 0, .getfield 503, .isub, .iastore, .aload 0, .getfield 515, .iload 1, .sipush (2), .iastore, .iinc 1 (1), .goto 2]),
  (74, [.aload 0, .getfield 515, .iload 1, .sipush (2), .iastore, .iinc 1 (1), .goto 2]),
  (81, [.iinc 1 (1), .goto 2]),
  (87, [.return_])]
def cdX6_feed : List (Nat × List ClassFile.Instr) := [(0, [.iload 1, .sipush (0), .sipush (127), .invokestatic 99, .ifCond .ne 12, .sipush (-1), .ireturn]),
  (12, [.aload 0, .getfield 603, .getfield 400, .iload 1, .invokevirtual 7, .ifCond .eq 39, .aload 0, .getfield 603, .getfield 400, .getfield 300, .goto 41]),
  (39, [.sipush (-3), .ireturn]),
  (41, [.ireturn])]
def cdX6_end : List (Nat × List ClassFile.Instr) := [(0, [.aload 0, .getfield 603, .getfield 400, .getfield 300, .istore 2, .iload 1, .sipush (0), .iload 2, .invokestatic 99, .ifCond .ne 22, .sipush (-1), .ireturn]),
  (22, [.aload 0, .getfield 603, .getfield 400, .iload 1, .putfield 300, .iload 2, .ireturn])]
def cdX6_text : List (Nat × List ClassFile.Instr) := [(0, [.aload 0, .getfield 603, .aload 0, .getfield 601, .invokevirtual 12, .istore 1, .aload 0, .getfield 603, .getfield 400, .sipush (0), .putfield 300, .aload 0, .getfield 603, .getfield 401, .ifCond .eq 44, .sipush (-10), .aload 0, .getfield 603, .getfield 402, .isub, .ireturn]),
  (44, [.aload 0, .getfield 600, .aload 0, .getfield 601, .invokevirtual 25, .aload 0, .getfield 602, .sipush (0), .putfield 200, .sipush (0), .istore 2, .goto_w 65]),
  (65, [.iload 2, .sipush (2), .if_icmp .ge 86, .aload 0, .getfield 604, .iload 2, .aaload, .sipush (0), .putfield 0, .iinc 2 (1), .goto 65]),
  (86, [.iload 1, .ireturn])]
def cdX6_fault : List (Nat × List ClassFile.Instr) := [(0, [.aload 0, .getfield 603, .getfield 401, .ireturn])]
def cdX6_rule : List (Nat × List ClassFile.Instr) := [(0, [.iload 1, .tableswitch 139 (0) (9) #[56, 64, 72, 80, 88, 96, 104, 113, 122, 131]]),
  (56, [.aload 0, .getfield 600, .getfield 500, .ireturn]),
  (64, [.aload 0, .getfield 600, .getfield 501, .ireturn]),
  (72, [.aload 0, .getfield 600, .getfield 502, .ireturn]),
  (80, [.aload 0, .getfield 600, .getfield 503, .ireturn]),
  (88, [.aload 0, .getfield 600, .getfield 504, .ireturn]),
  (96, [.aload 0, .getfield 600, .getfield 505, .ireturn]),
  (104, [.aload 0, .getfield 600, .sipush (0), .invokevirtual 34, .ireturn]),
  (113, [.aload 0, .getfield 600, .sipush (1), .invokevirtual 34, .ireturn]),
  (122, [.aload 0, .getfield 600, .sipush (2), .invokevirtual 34, .ireturn]),
  (131, [.aload 0, .getfield 600, .getfield 506, .ireturn]),
  (139, [.sipush (-1), .ireturn])]
def cdX6_village : List (Nat × List ClassFile.Instr) := [(0, [.aload 0, .getfield 600, .iload 1, .invokevirtual 26, .ifCond .ne 13, .sipush (-1), .ireturn]),
  (13, [.iload 2, .tableswitch 69 (0) (2) #[40, 50, 60]]),
  (40, [.aload 0, .getfield 600, .getfield 508, .iload 1, .iaload, .ireturn]),
  (50, [.aload 0, .getfield 600, .getfield 509, .iload 1, .iaload, .ireturn]),
  (60, [.aload 0, .getfield 600, .iload 1, .invokevirtual 35, .ireturn]),
  (69, [.sipush (-1), .ireturn])]
def cdX6_body : List (Nat × List ClassFile.Instr) := [(0, [.aload 0, .getfield 600, .iload 1, .invokevirtual 27, .ifCond .ne 13, .sipush (-1), .ireturn]),
  (13, [.iload 2, .tableswitch 111 (0) (5) #[52, 62, 72, 82, 92, 102]]),
  (52, [.aload 0, .getfield 600, .getfield 511, .iload 1, .iaload, .ireturn]),
  (62, [.aload 0, .getfield 600, .getfield 512, .iload 1, .iaload, .ireturn]),
  (72, [.aload 0, .getfield 600, .getfield 513, .iload 1, .iaload, .ireturn]),
  (82, [.aload 0, .getfield 600, .getfield 514, .iload 1, .iaload, .ireturn]),
  (92, [.aload 0, .getfield 600, .getfield 515, .iload 1, .iaload, .ireturn]),
  (102, [.aload 0, .getfield 600, .iload 1, .invokevirtual 32, .ireturn]),
  (111, [.sipush (-1), .ireturn])]
def cdX6_grant : List (Nat × List ClassFile.Instr) := [(0, [.aload 0, .getfield 600, .iload 1, .invokevirtual 26, .ifCond .eq 20, .iload 2, .sipush (0), .sipush (1), .invokestatic 99, .ifCond .ne 22, .sipush (-1), .ireturn]),
  (20, [.sipush (-1), .ireturn]),
  (22, [.iload 3, .sipush (0), .iload 2, .ifCond .ne 33, .sipush (99), .goto 35]),
  (33, [.sipush (9), .invokestatic 99, .ifCond .ne 43, .sipush (-1), .ireturn]),
  (35, [.invokestatic 99, .ifCond .ne 43, .sipush (-1), .ireturn]),
  (43, [.iload 2, .ifCond .ne 57, .aload 0, .getfield 600, .getfield 508, .goto 64]),
  (57, [.aload 0, .getfield 600, .getfield 509, .astore 4, .aload 4, .iload 1, .iaload, .istore 5, .aload 4, .iload 1, .iload 3, .iastore, .iload 5, .ireturn]),
  (64, [.astore 4, .aload 4, .iload 1, .iaload, .istore 5, .aload 4, .iload 1, .iload 3, .iastore, .iload 5, .ireturn])]
def cdX6_alter : List (Nat × List ClassFile.Instr) := [(0, [.aload 0, .getfield 600, .iload 1, .invokevirtual 27, .ifCond .eq 29, .iload 2, .sipush (0), .sipush (3), .invokestatic 99, .ifCond .eq 29, .aload 0, .iload 2, .iload 3, .invokevirtual 52, .ifCond .ne 31, .sipush (-1), .ireturn]),
  (29, [.sipush (-1), .ireturn]),
  (31, [.aload 0, .getfield 600, .getfield 515, .iload 1, .iaload, .ifCond .eq 46, .sipush (-2), .ireturn]),
  (46, [.aload 0, .getfield 600, .iload 2, .invokevirtual 30, .astore 4, .aload 4, .iload 1, .iaload, .istore 5, .aload 4, .iload 1, .iload 3, .iastore, .iload 5, .ireturn])]
def cdX6_mayBecome : List (Nat × List ClassFile.Instr) := [(0, [.iload 1, .lookupswitch 44 #[(0, 28), (1, 35)]]),
  (28, [.iload 2, .sipush (0), .sipush (3), .invokestatic 99, .ireturn]),
  (35, [.aload 0, .getfield 600, .iload 2, .invokevirtual 26, .ireturn]),
  (44, [.iload 2, .sipush (0), .sipush (9), .invokestatic 99, .ireturn])]
def cdX6_set : List (Nat × List ClassFile.Instr) := [(0, [.iload 1, .sipush (2), .if_icmp .ne 34, .iload 2, .sipush (0), .sipush (20), .invokestatic 99, .ifCond .eq 34, .aload 0, .getfield 600, .getfield 502, .istore 3, .aload 0, .getfield 600, .iload 2, .putfield 502, .goto 104]),
  (34, [.iload 1, .sipush (3), .if_icmp .ne 68, .iload 2, .sipush (0), .sipush (60), .invokestatic 99, .ifCond .eq 68, .aload 0, .getfield 600, .getfield 503, .istore 3, .aload 0, .getfield 600, .iload 2, .putfield 503, .goto 104]),
  (68, [.iload 1, .sipush (4), .if_icmp .ne 102, .iload 2, .sipush (1), .sipush (9), .invokestatic 99, .ifCond .eq 102, .aload 0, .getfield 600, .getfield 504, .istore 3, .aload 0, .getfield 600, .iload 2, .putfield 504, .goto 104]),
  (102, [.sipush (-1), .istore 3, .iload 3, .ireturn]),
  (104, [.iload 3, .ireturn])]
def cdX6_find : List (Nat × List ClassFile.Instr) := [(0, [.aload 0, .iload 1, .iload 2, .iload 3, .iload 4, .invokevirtual 55, .ireturn])]
def cdX6_addFound : List (Nat × List ClassFile.Instr) := [(0, [.iload 1, .sipush (0), .sipush (3), .invokestatic 99, .ifCond .eq 20, .aload 0, .getfield 600, .iload 2, .invokevirtual 26, .ifCond .ne 22, .sipush (-1), .ireturn]),
  (20, [.sipush (-1), .ireturn]),
  (22, [.iload 3, .sipush (0), .sipush (9), .invokestatic 99, .ifCond .eq 43, .iload 4, .sipush (0), .sipush (9), .invokestatic 99, .ifCond .ne 45, .sipush (-1), .ireturn]),
  (43, [.sipush (-1), .ireturn]),
  (45, [.aload 0, .getfield 600, .iload 1, .iload 2, .iload 3, .iload 4, .invokevirtual 29, .ifCond .eq 72, .aload 0, .getfield 600, .getfield 501, .sipush (1), .isub, .goto 74]),
  (72, [.sipush (-3), .ireturn]),
  (74, [.ireturn])]
def cdX6_hire : List (Nat × List ClassFile.Instr) := [(0, [.aload 0, .getfield 600, .iload 1, .invokevirtual 27, .ifCond .ne 13, .sipush (-1), .ireturn]),
  (13, [.aload 0, .getfield 600, .getfield 515, .iload 1, .iaload, .ifCond .ne 63, .aload 0, .getfield 600, .iload 1, .invokevirtual 32, .ifCond .eq 63, .aload 0, .getfield 600, .getfield 508, .aload 0, .getfield 600, .getfield 512, .iload 1, .iaload, .iaload, .aload 0, .getfield 600, .getfield 502, .if_icmp .ge 66, .sipush (-2), .ireturn]),
  (63, [.sipush (-2), .ireturn]),
  (66, [.aload 0, .getfield 600, .getfield 508, .aload 0, .getfield 600, .getfield 512, .iload 1, .iaload, .dup2, .iaload, .aload 0, .getfield 600, .getfield 502, .isub, .iastore, .aload 0, .getfield 600, .iload 1, .invokevirtual 31, .ifCond .eq 120, .aload 0, .getfield 600, .getfield 513, .iload 1, .dup2, .iaload, .sipush (1), .iadd, .iastore, .goto 133]),
  (120, [.aload 0, .getfield 600, .getfield 514, .iload 1, .dup2, .iaload, .sipush (1), .iadd, .iastore, .aload 0, .getfield 600, .iload 1, .invokevirtual 32, .ireturn]),
  (133, [.aload 0, .getfield 600, .iload 1, .invokevirtual 32, .ireturn])]
def cdX6_nights : List (Nat × List ClassFile.Instr) := [(0, [.iload 1, .sipush (0), .sipush (30), .invokestatic 99, .ifCond .ne 12, .sipush (-1), .ireturn]),
  (12, [.aload 0, .getfield 600, .getfield 505, .iload 1, .iadd, .sipush (1000), .if_icmp .lt 32, .sipush (-3), .goto 40]),
  (32, [.aload 0, .getfield 600, .iload 1, .invokevirtual 37, .ireturn]),
  (40, [.ireturn])]
def cdX6_runs : List (Nat × List ClassFile.Instr) := [(0, [.iload 1, .sipush (0), .sipush (30), .invokestatic 99, .ifCond .eq 19, .iload 2, .sipush (0), .sipush (4), .invokestatic 99, .ifCond .ne 21, .sipush (-1), .ireturn]),
  (19, [.sipush (-1), .ireturn]),
  (21, [.aload 0, .invokevirtual 100, .astore 3, .aload 3, .iload 1, .invokevirtual 37, .istore 4, .iload 2, .tableswitch 84 (0) (3) #[64, 67, 73, 79]]),
  (64, [.iload 4, .ireturn]),
  (67, [.aload 3, .sipush (1), .invokevirtual 34, .ireturn]),
  (73, [.aload 3, .sipush (2), .invokevirtual 34, .ireturn]),
  (79, [.aload 3, .getfield 507, .ireturn]),
  (84, [.aload 3, .getfield 506, .ireturn])]
def cdX6_ahead : List (Nat × List ClassFile.Instr) := [(0, [.aload 0, .getfield 600, .iload 1, .invokevirtual 27, .ifCond .eq 30, .iload 2, .sipush (0), .sipush (30), .invokestatic 99, .ifCond .eq 30, .iload 3, .sipush (0), .sipush (1), .invokestatic 99, .ifCond .ne 32, .sipush (-1), .ireturn]),
  (30, [.sipush (-1), .ireturn]),
  (32, [.aload 0, .invokevirtual 100, .astore 4, .aload 4, .iload 2, .invokevirtual 37, .pop, .iload 3, .ifCond .ne 59, .aload 4, .getfield 512, .iload 1, .iaload, .goto 66]),
  (59, [.aload 4, .getfield 515, .iload 1, .iaload, .ireturn]),
  (66, [.ireturn])]
def cdX6_settled : List (Nat × List ClassFile.Instr) := [(0, [.aload 0, .getfield 600, .iload 1, .invokevirtual 27, .ifCond .ne 13, .sipush (-1), .ireturn]),
  (13, [.aload 0, .invokevirtual 100, .astore 2, .sipush (0), .istore 3, .goto_w 20]),
  (20, [.iload 3, .sipush (30), .if_icmp .gt 47, .aload 2, .getfield 515, .iload 1, .iaload, .ifCond .eq 37, .iload 3, .ireturn]),
  (37, [.aload 2, .invokevirtual 38, .iinc 3 (1), .goto 20]),
  (47, [.sipush (-4), .ireturn])]
def cdX6_dear : List (Nat × List ClassFile.Instr) := [(0, [.iload 1, .sipush (0), .sipush (20), .invokestatic 99, .ifCond .ne 12, .sipush (-1), .ireturn]),
  (12, [.aload 0, .sipush (0), .iload 1, .invokevirtual 62, .istore 2, .sipush (20), .istore 3, .goto_w 22]),
  (22, [.iload 3, .ifCond .le 44, .aload 0, .iload 3, .iload 1, .invokevirtual 62, .iload 2, .if_icmp .ne 38, .iload 3, .ireturn]),
  (38, [.iinc 3 (-1), .goto 22]),
  (44, [.sipush (0), .ireturn])]
def cdX6_provedByPrice : List (Nat × List ClassFile.Instr) := [(0, [.aload 0, .invokevirtual 100, .astore 3, .aload 3, .iload 1, .putfield 502, .aload 3, .iload 2, .invokevirtual 37, .pop, .aload 3, .sipush (1), .invokevirtual 34, .invokestatic 185, .ireturn])]
def cdX6_mild : List (Nat × List ClassFile.Instr) := [(0, [.iload 1, .sipush (0), .sipush (20), .invokestatic 99, .ifCond .ne 12, .sipush (-1), .ireturn]),
  (12, [.sipush (60), .istore 2, .goto_w 15]),
  (15, [.iload 2, .ifCond .lt 50, .aload 0, .invokevirtual 100, .astore 3, .aload 3, .iload 2, .putfield 503, .aload 3, .iload 1, .invokevirtual 37, .pop, .aload 3, .getfield 506, .ifCond .ne 44, .iload 2, .ireturn]),
  (44, [.iinc 2 (-1), .goto 15]),
  (50, [.sipush (-4), .ireturn])]
def cdX6_watch : List (Nat × List ClassFile.Instr) := [(0, [.iload 1, .sipush (0), .sipush (20), .invokestatic 99, .ifCond .eq 19, .iload 2, .sipush (0), .sipush (1), .invokestatic 99, .ifCond .ne 21, .sipush (-1), .ireturn]),
  (19, [.sipush (-1), .ireturn]),
  (21, [.sipush (-4), .istore 3, .sipush (0), .istore 4, .sipush (0), .istore 5, .goto_w 30]),
  (30, [.iload 5, .aload 0, .getfield 600, .getfield 500, .if_icmp .ge 91, .aload 0, .iload 5, .iload 1, .sipush (9), .invokevirtual 65, .aload 0, .iload 5, .iload 1, .aload 0, .getfield 600, .getfield 509, .iload 5, .iaload, .invokevirtual 65, .isub, .istore 6, .iload 6, .iload 4, .if_icmp .le 85, .iload 5, .istore 3, .iload 6, .istore 4, .iinc 5 (1), .goto 30]),
  (85, [.iinc 5 (1), .goto 30]),
  (91, [.iload 2, .ifCond .eq 101, .iload 3, .sipush (-4), .if_icmp .ne 105, .iload 3, .goto 107]),
  (101, [.iload 3, .goto 107]),
  (105, [.iload 4, .ireturn]),
  (107, [.ireturn])]
def cdX6_meansBehind : List (Nat × List ClassFile.Instr) := [(0, [.aload 0, .invokevirtual 100, .astore 4, .aload 4, .getfield 509, .iload 1, .iload 3, .iastore, .aload 4, .iload 2, .invokevirtual 37, .pop, .aload 4, .getfield 508, .iload 1, .iaload, .ireturn])]
def cdX6_place : List (Nat × List ClassFile.Instr) := [(0, [.aload 0, .getfield 600, .iload 1, .invokevirtual 27, .ifCond .eq 30, .iload 2, .sipush (0), .sipush (20), .invokestatic 99, .ifCond .eq 30, .iload 3, .sipush (0), .sipush (1), .invokestatic 99, .ifCond .ne 32, .sipush (-1), .ireturn]),
  (30, [.sipush (-1), .ireturn]),
  (32, [.aload 0, .getfield 600, .getfield 515, .iload 1, .iaload, .ifCond .eq 47, .sipush (-2), .ireturn]),
  (47, [.sipush (-4), .istore 4, .sipush (0), .istore 5, .sipush (0), .istore 6, .goto_w 57]),
  (57, [.iload 6, .aload 0, .getfield 600, .getfield 500, .if_icmp .ge 120, .aload 0, .invokevirtual 100, .astore 7, .aload 7, .getfield 512, .iload 1, .iload 6, .iastore, .aload 7, .iload 2, .invokevirtual 37, .istore 8, .iload 4, .sipush (-4), .if_icmp .eq 106, .iload 8, .iload 5, .if_icmp .ge 114, .iload 6, .istore 4, .iload 8, .istore 5, .iinc 6 (1), .goto 57]),
  (106, [.iload 6, .istore 4, .iload 8, .istore 5, .iinc 6 (1), .goto 57]),
  (114, [.iinc 6 (1), .goto 57]),
  (120, [.iload 3, .ifCond .ne 129, .iload 4, .goto 131]),
  (129, [.iload 5, .ireturn]),
  (131, [.ireturn])]
def cdX6_kin : List (Nat × List ClassFile.Instr) := [(0, [.iload 1, .sipush (0), .sipush (20), .invokestatic 99, .ifCond .eq 19, .iload 2, .sipush (0), .sipush (1), .invokestatic 99, .ifCond .ne 21, .sipush (-1), .ireturn]),
  (19, [.sipush (-1), .ireturn]),
  (21, [.sipush (-4), .istore 3, .aload 0, .invokevirtual 100, .iload 1, .invokevirtual 37, .istore 4, .sipush (0), .istore 5, .goto_w 37]),
  (37, [.iload 5, .aload 0, .getfield 600, .getfield 501, .if_icmp .ge 108, .aload 0, .getfield 600, .getfield 515, .iload 5, .iaload, .ifCond .ne 102, .aload 0, .invokevirtual 100, .astore 6, .aload 6, .getfield 513, .iload 5, .dup2, .iaload, .sipush (1), .iadd, .iastore, .aload 6, .iload 1, .invokevirtual 37, .istore 7, .iload 7, .iload 4, .if_icmp .ge 102, .iload 5, .istore 3, .iload 7, .istore 4, .iinc 5 (1), .goto 37]),
  (102, [.iinc 5 (1), .goto 37]),
  (108, [.iload 2, .ifCond .eq 118, .iload 3, .sipush (-4), .if_icmp .ne 122, .iload 3, .goto 124]),
  (118, [.iload 3, .goto 124]),
  (122, [.iload 4, .ireturn]),
  (124, [.ireturn])]
def cdX6_late : List (Nat × List ClassFile.Instr) := [(0, [.iload 1, .sipush (0), .sipush (20), .invokestatic 99, .ifCond .ne 12, .sipush (-1), .ireturn]),
  (12, [.sipush (0), .istore 2, .sipush (0), .istore 3, .sipush (1), .istore 4, .goto_w 19]),
  (19, [.iload 4, .sipush (9), .if_icmp .gt 69, .aload 0, .invokevirtual 100, .astore 5, .aload 5, .iload 4, .putfield 504, .aload 5, .iload 1, .invokevirtual 37, .istore 6, .iload 2, .ifCond .eq 57, .iload 6, .iload 3, .if_icmp .ge 63, .iload 4, .istore 2, .iload 6, .istore 3, .iinc 4 (1), .goto 19]),
  (57, [.iload 4, .istore 2, .iload 6, .istore 3, .iinc 4 (1), .goto 19]),
  (63, [.iinc 4 (1), .goto 19]),
  (69, [.iload 2, .ireturn])]
def cdX6_order : List (Nat × List ClassFile.Instr) := [(0, [.iload 1, .sipush (0), .sipush (20), .invokestatic 99, .ifCond .eq 20, .iload 2, .ifCond .eq 22, .iload 2, .sipush (10), .if_icmp .ge 22, .sipush (-1), .ireturn]),
  (20, [.sipush (-1), .ireturn]),
  (22, [.iload 2, .ifCond .eq 43, .iload 2, .sipush (10), .isub, .aload 0, .getfield 600, .getfield 500, .if_icmp .lt 43, .sipush (-4), .ireturn]),
  (43, [.aload 0, .iload 1, .invokevirtual 70, .istore 3, .iload 2, .ifCond .ne 57, .iload 3, .goto 66]),
  (57, [.aload 0, .getfield 607, .iload 2, .sipush (10), .isub, .iaload, .ireturn]),
  (66, [.ireturn])]
def cdX6_findBestTurns : List (Nat × List ClassFile.Instr) := [(0, [.aload 0, .getfield 600, .getfield 510, .sipush (0), .aload 0, .getfield 606, .sipush (0), .sipush (4), .monitorenter, .aload 0, .getfield 600, .getfield 510, .sipush (0), .aload 0, .getfield 607, .sipush (0), .sipush (4), .monitorenter, .aload 0, .iload 1, .invokevirtual 71, .istore 2, .sipush (1), .istore 3, .goto_w 42]),
  (42, [.iload 3, .sipush (24), .if_icmp .ge 101, .aload 0, .getfield 606, .aload 0, .getfield 600, .getfield 500, .invokestatic 72, .ifCond .eq 101, .aload 0, .iload 1, .invokevirtual 71, .istore 4, .iload 4, .iload 2, .if_icmp .ge 95, .iload 4, .istore 2, .aload 0, .getfield 606, .sipush (0), .aload 0, .getfield 607, .sipush (0), .sipush (4), .monitorenter, .iinc 3 (1), .goto 42]),
  (95, [.iinc 3 (1), .goto 42]),
  (101, [.iload 2, .ireturn])]
def cdX6_paidByTurns : List (Nat × List ClassFile.Instr) := [(0, [.aload 0, .invokevirtual 100, .astore 2, .aload 0, .getfield 606, .sipush (0), .aload 2, .getfield 510, .sipush (0), .sipush (4), .monitorenter, .aload 2, .iload 1, .invokevirtual 37, .ireturn])]
def cdX6_arrangeNext : List (Nat × List ClassFile.Instr) := [(0, [.iload 1, .sipush (2), .isub, .istore 2, .goto_w 4]),
  (4, [.iload 2, .ifCond .lt 25, .aload 0, .iload 2, .iaload, .aload 0, .iload 2, .sipush (1), .iadd, .iaload, .if_icmp .le 25, .iinc 2 (-1), .goto 4]),
  (25, [.iload 2, .ifCond .ge 31, .sipush (0), .ireturn]),
  (31, [.iload 1, .sipush (1), .isub, .istore 3, .goto_w 35]),
  (35, [.iload 3, .iload 2, .if_icmp .le 55, .aload 0, .iload 3, .iaload, .aload 0, .iload 2, .iaload, .if_icmp .ge 55, .iinc 3 (-1), .goto 35]),
  (55, [.aload 0, .iload 2, .iload 3, .invokestatic 73, .iload 2, .sipush (1), .iadd, .istore 4, .iload 1, .sipush (1), .isub, .istore 5, .goto_w 71]),
  (71, [.iload 4, .iload 5, .if_icmp .ge 95, .aload 0, .iload 4, .iload 5, .invokestatic 73, .iinc 4 (1), .iinc 5 (-1), .goto 71]),
  (95, [.sipush (1), .ireturn])]
def cdX6_swap : List (Nat × List ClassFile.Instr) := [(0, [.aload 0, .iload 1, .iaload, .istore 3, .aload 0, .iload 1, .aload 0, .iload 2, .iaload, .iastore, .aload 0, .iload 2, .iload 3, .iastore, .return_])]
def cdX6_mean : List (Nat × List ClassFile.Instr) := [(0, [.iload 1, .sipush (0), .sipush (10), .invokestatic 99, .ifCond .eq 29, .iload 2, .sipush (0), .sipush (20), .invokestatic 99, .ifCond .eq 29, .iload 3, .sipush (0), .sipush (1), .invokestatic 99, .ifCond .ne 33, .jsr (-1), .lreturn]),
  (29, [.jsr (-1), .lreturn]),
  (33, [.aload 0, .iload 1, .sipush (-4), .iload 2, .invokevirtual 76, .aload 0, .invokevirtual 78, .iload 3, .invokestatic 80, .lreturn])]
def cdX6_luck : List (Nat × List ClassFile.Instr) := [(0, [.iload 1, .sipush (0), .sipush (10), .invokestatic 99, .ifCond .eq 21, .aload 0, .getfield 600, .iload 2, .invokevirtual 27, .ifCond .ne 25, .jsr (-1), .lreturn]),
  (21, [.jsr (-1), .lreturn]),
  (25, [.iload 3, .sipush (0), .sipush (20), .invokestatic 99, .ifCond .eq 45, .iload 4, .sipush (0), .sipush (1), .invokestatic 99, .ifCond .ne 49, .jsr (-1), .lreturn]),
  (45, [.jsr (-1), .lreturn]),
  (49, [.aload 0, .iload 1, .iload 2, .iload 3, .invokevirtual 76, .aload 0, .invokevirtual 78, .iload 4, .invokestatic 80, .lreturn])]
def cdX6_weighAll : List (Nat × List ClassFile.Instr) := [(0, [.aload 0, .getfield 600, .sipush (0), .invokevirtual 34, .istore 4, .jsr (0), .lstore 5, .sipush (0), .istore 7, .goto_w 16]),
  (16, [.iload 7, .sipush (1), .aload 0, .getfield 600, .getfield 501, .ishl, .if_icmp .ge 80, .iload 7, .iload 4, .sipush (-1), .ixor, .iand, .ifCond .ne 74, .iload 7, .iload 4, .iload 1, .invokestatic 77, .lstore 8, .lload 8, .jsr (0), .lcmp, .ifCond .eq 74, .lload 5, .lload 8, .aload 0, .iload 7, .iload 2, .iload 3, .invokevirtual 79, .i2l, .lmul, .ladd, .lstore 5, .iinc 7 (1), .goto 16]),
  (74, [.iinc 7 (1), .goto 16]),
  (80, [.lload 5, .lreturn])]
def cdX6_weightOf : List (Nat × List ClassFile.Instr) := [(0, [.jsr (1), .lstore 3, .sipush (0), .istore 5, .goto_w 5]),
  (5, [.iload 5, .sipush (6), .if_icmp .ge 51, .iload 1, .iload 5, .ishr, .sipush (1), .iand, .sipush (1), .if_icmp .ne 45, .lload 3, .iload 0, .iload 5, .ishr, .sipush (1), .iand, .sipush (1), .if_icmp .ne 38, .iload 2, .i2l, .goto 43]),
  (38, [.sipush (10), .iload 2, .isub, .i2l, .lmul, .lstore 3, .iinc 5 (1), .goto 5]),
  (43, [.lmul, .lstore 3, .iinc 5 (1), .goto 5]),
  (45, [.iinc 5 (1), .goto 5]),
  (51, [.lload 3, .lreturn])]
def cdX6_weightOfAll : List (Nat × List ClassFile.Instr) := [(0, [.jsr (1), .lstore 1, .aload 0, .getfield 600, .sipush (0), .invokevirtual 34, .invokestatic 185, .istore 3, .goto_w 14]),
  (14, [.iload 3, .ifCond .le 30, .lload 1, .jsr (10), .lmul, .lstore 1, .iinc 3 (-1), .goto 14]),
  (30, [.lload 1, .lreturn])]
def cdX6_outcome : List (Nat × List ClassFile.Instr) := [(0, [.aload 0, .invokevirtual 100, .astore 4, .sipush (0), .istore 5, .goto_w 9]),
  (9, [.iload 5, .aload 4, .getfield 501, .if_icmp .ge 44, .iload 1, .iload 5, .ishr, .sipush (1), .iand, .sipush (1), .if_icmp .ne 38, .aload 4, .getfield 511, .iload 5, .sipush (3), .iastore, .iinc 5 (1), .goto 9]),
  (38, [.iinc 5 (1), .goto 9]),
  (44, [.aload 4, .iload 3, .invokevirtual 37, .istore 5, .iload 2, .sipush (-4), .if_icmp .ne 61, .iload 5, .ireturn]),
  (61, [.aload 4, .getfield 515, .iload 2, .iaload, .sipush (2), .if_icmp .ne 76, .sipush (1), .goto 77]),
  (76, [.sipush (0), .ireturn]),
  (77, [.ireturn])]
def cdX6_partOfFraction : List (Nat × List ClassFile.Instr) := [(0, [.lload 0, .lload 2, .invokestatic 81, .lstore 5, .lload 5, .jsr (0), .lcmp, .ifCond .ne 16, .jsr (0), .lreturn]),
  (16, [.iload 4, .ifCond .ne 28, .lload 0, .lload 5, .ldiv, .goto 32]),
  (28, [.lload 2, .lload 5, .ldiv, .lreturn]),
  (32, [.lreturn])]
def cdX6_greatestDivisor : List (Nat × List ClassFile.Instr) := [(0, [.sipush (0), .istore 4, .goto_w 3]),
  (3, [.iload 4, .sipush (1000), .if_icmp .ge 33, .lload 2, .jsr (0), .lcmp, .ifCond .eq 33, .lload 0, .lload 2, .lrem, .lstore 5, .lload 2, .lstore 0, .lload 5, .lstore 2, .iinc 4 (1), .goto 3]),
  (33, [.lload 0, .lreturn])]
def cdX6_see : List (Nat × List ClassFile.Instr) := [(0, [.aload 0, .getfield 600, .iload 1, .invokevirtual 27, .ifCond .eq 32, .iload 2, .sipush (0), .sipush (9), .invokestatic 99, .ifCond .eq 32, .aload 0, .getfield 600, .iload 3, .invokevirtual 26, .ifCond .ne 34, .sipush (-1), .ireturn]),
  (32, [.sipush (-1), .ireturn]),
  (34, [.aload 0, .getfield 602, .iload 1, .iload 2, .iload 3, .invokevirtual 4, .ifCond .eq 57, .aload 0, .getfield 602, .getfield 200, .goto 59]),
  (57, [.sipush (-3), .ireturn]),
  (59, [.ireturn])]
def cdX6_forget : List (Nat × List ClassFile.Instr) := [(0, [.aload 0, .getfield 602, .getfield 200, .istore 2, .iload 1, .sipush (0), .iload 2, .invokestatic 99, .ifCond .ne 19, .sipush (-1), .ireturn]),
  (19, [.aload 0, .getfield 602, .iload 1, .putfield 200, .iload 2, .ireturn])]
def cdX6_kinds : List (Nat × List ClassFile.Instr) := [(0, [.aload 0, .getfield 600, .iload 1, .invokevirtual 27, .ifCond .eq 21, .aload 0, .iload 1, .sipush (0), .sipush (3), .invokevirtual 86, .goto 22]),
  (21, [.sipush (-1), .ireturn]),
  (22, [.ireturn])]
def cdX6_fathers : List (Nat × List ClassFile.Instr) := [(0, [.aload 0, .getfield 600, .iload 1, .invokevirtual 27, .ifCond .eq 22, .aload 0, .iload 1, .sipush (2), .sipush (9), .invokevirtual 86, .goto 23]),
  (22, [.sipush (-1), .ireturn]),
  (23, [.ireturn])]
def cdX6_asSeenBy : List (Nat × List ClassFile.Instr) := [(0, [.sipush (0), .istore 4, .sipush (0), .istore 5, .goto_w 6]),
  (6, [.iload 5, .iload 3, .if_icmp .gt 52, .aload 0, .invokevirtual 100, .astore 6, .aload 6, .iload 2, .invokevirtual 30, .iload 1, .iload 5, .iastore, .aload 0, .aload 6, .invokevirtual 87, .ifCond .eq 46, .iload 4, .sipush (1), .iload 5, .ishl, .ior, .istore 4, .iinc 5 (1), .goto 6]),
  (46, [.iinc 5 (1), .goto 6]),
  (52, [.iload 4, .ireturn])]
def cdX6_isAsSeen : List (Nat × List ClassFile.Instr) := [(0, [.sipush (0), .istore 2, .goto_w 2]),
  (2, [.iload 2, .sipush (9), .if_icmp .gt 32, .aload 0, .getfield 602, .aload 1, .iload 2, .invokevirtual 5, .ifCond .ne 22, .sipush (0), .ireturn]),
  (22, [.aload 1, .invokevirtual 38, .iinc 2 (1), .goto 2]),
  (32, [.sipush (1), .ireturn])]
def cdX6_look : List (Nat × List ClassFile.Instr) := [(0, [.aload 0, .getfield 600, .iload 1, .invokevirtual 27, .ifCond .eq 20, .iload 2, .sipush (0), .sipush (1), .invokestatic 99, .ifCond .ne 22, .sipush (-1), .ireturn]),
  (20, [.sipush (-1), .ireturn]),
  (22, [.aload 0, .iload 1, .sipush (0), .sipush (3), .invokevirtual 86, .istore 3, .aload 0, .iload 1, .invokevirtual 89, .sipush (-4), .istore 4, .iload 3, .invokestatic 185, .istore 5, .sipush (0), .istore 6, .goto_w 48]),
  (48, [.iload 6, .sipush (9), .if_icmp .gt 85, .aload 0, .iload 3, .iload 6, .invokevirtual 90, .istore 7, .iload 7, .iload 5, .if_icmp .ge 79, .iload 6, .istore 4, .iload 7, .istore 5, .iinc 6 (1), .goto 48]),
  (79, [.iinc 6 (1), .goto 48]),
  (85, [.iload 2, .ifCond .eq 96, .iload 4, .sipush (-4), .if_icmp .ne 101, .iload 4, .goto 103]),
  (96, [.iload 4, .goto 103]),
  (101, [.iload 5, .ireturn]),
  (103, [.ireturn])]
def cdX6_noteSpots : List (Nat × List ClassFile.Instr) := [(0, [.sipush (0), .istore 2, .goto_w 2]),
  (2, [.iload 2, .sipush (4), .if_icmp .ge 63, .aload 0, .invokevirtual 100, .astore 3, .aload 3, .getfield 511, .iload 1, .iload 2, .iastore, .sipush (0), .istore 4, .goto_w 22]),
  (22, [.iload 4, .sipush (9), .if_icmp .gt 57, .aload 0, .getfield 608, .iload 2, .sipush (10), .imul, .iload 4, .iadd, .aload 3, .getfield 512, .iload 1, .iaload, .iastore, .aload 3, .invokevirtual 38, .iinc 4 (1), .goto 22]),
  (57, [.iinc 2 (1), .goto 2]),
  (63, [.return_])]
def cdX6_leftAtWorst : List (Nat × List ClassFile.Instr) := [(0, [.sipush (0), .istore 3, .sipush (0), .istore 4, .goto_w 5]),
  (5, [.iload 4, .aload 0, .getfield 600, .getfield 500, .if_icmp .ge 84, .sipush (0), .istore 5, .sipush (0), .istore 6, .goto_w 23]),
  (23, [.iload 6, .sipush (4), .if_icmp .ge 65, .iload 1, .iload 6, .ishr, .sipush (1), .iand, .sipush (1), .if_icmp .ne 59, .aload 0, .getfield 608, .iload 6, .sipush (10), .imul, .iload 2, .iadd, .iaload, .iload 4, .if_icmp .ne 59, .iinc 5 (1), .iinc 6 (1), .goto 23]),
  (59, [.iinc 6 (1), .goto 23]),
  (65, [.iload 5, .iload 3, .if_icmp .le 76, .iload 5, .goto 77]),
  (76, [.iload 3, .istore 3, .iinc 4 (1), .goto 5]),
  (77, [.istore 3, .iinc 4 (1), .goto 5]),
  (84, [.iload 3, .ireturn])]
def cdX6_drift : List (Nat × List ClassFile.Instr) := [(0, [.iload 2, .sipush (1), .sipush (60), .invokestatic 99, .ifCond .eq 19, .iload 3, .sipush (0), .sipush (1), .invokestatic 99, .ifCond .ne 21, .sipush (-1), .ireturn]),
  (19, [.sipush (-1), .ireturn]),
  (21, [.aload 0, .getfield 600, .getfield 500, .ifCond .ne 34, .sipush (-2), .ireturn]),
  (34, [.aload 0, .invokevirtual 100, .astore 4, .sipush (0), .istore 5, .iload 1, .istore 6, .sipush (0), .istore 7, .goto_w 49]),
  (49, [.iload 7, .iload 2, .if_icmp .ge 117, .iload 6, .sipush (1103515245), .imul, .sipush (12345), .iadd, .istore 6, .iload 6, .sipush (16), .ishr, .sipush (32767), .iand, .istore 8, .aload 4, .getfield 509, .iload 8, .aload 4, .getfield 500, .irem, .iload 8, .sipush (8), .idiv, .sipush (10), .irem, .iastore, .iload 5, .aload 4, .sipush (1), .invokevirtual 37, .iadd, .istore 5, .iinc 7 (1), .goto 49]),
  (117, [.iload 3, .ifCond .ne 126, .iload 5, .goto 132]),
  (126, [.aload 4, .sipush (2), .invokevirtual 34, .ireturn]),
  (132, [.ireturn])]
def cdX6_keep : List (Nat × List ClassFile.Instr) := [(0, [.iload 1, .sipush (0), .sipush (1), .invokestatic 99, .ifCond .ne 11, .sipush (-1), .ireturn]),
  (11, [.aload 0, .getfield 604, .iload 1, .aaload, .astore 2, .aload 2, .getfield 0, .ifCond .eq 29, .sipush (1), .goto 30]),
  (29, [.sipush (0), .istore 3, .aload 2, .sipush (1), .putfield 0, .aload 2, .getfield 1, .aload 0, .getfield 600, .invokevirtual 25, .aload 2, .getfield 2, .aload 0, .getfield 602, .invokevirtual 6, .iload 3, .ireturn]),
  (30, [.istore 3, .aload 2, .sipush (1), .putfield 0, .aload 2, .getfield 1, .aload 0, .getfield 600, .invokevirtual 25, .aload 2, .getfield 2, .aload 0, .getfield 602, .invokevirtual 6, .iload 3, .ireturn])]
def cdX6_back : List (Nat × List ClassFile.Instr) := [(0, [.iload 1, .sipush (0), .sipush (1), .invokestatic 99, .ifCond .ne 11, .sipush (-1), .ireturn]),
  (11, [.aload 0, .getfield 604, .iload 1, .aaload, .astore 2, .aload 2, .getfield 0, .ifCond .ne 28, .sipush (-2), .ireturn]),
  (28, [.aload 0, .getfield 600, .aload 2, .getfield 1, .invokevirtual 25, .aload 0, .getfield 602, .aload 2, .getfield 2, .invokevirtual 6, .aload 0, .getfield 600, .getfield 505, .ireturn])]
def cdX6_sheet : List (Nat × List ClassFile.Instr) := [(0, [.iload 1, .sipush (0), .sipush (3), .invokestatic 99, .ifCond .eq 24, .iload 2, .sipush (0), .sipush (2), .invokestatic 99, .ifCond .eq 24, .iload 3, .sipush (40), .if_icmp .le 26, .sipush (-1), .ireturn]),
  (24, [.sipush (-1), .ireturn]),
  (26, [.iload 3, .ifCond .ge 33, .sipush (-14), .ireturn]),
  (33, [.aload 0, .getfield 605, .iload 1, .aaload, .iload 2, .iload 3, .invokevirtual 0, .sipush (1), .ireturn])]
def cdX6_lay : List (Nat × List ClassFile.Instr) := [(0, [.iload 1, .sipush (0), .sipush (3), .invokestatic 99, .ifCond .ne 11, .sipush (-1), .ireturn]),
  (11, [.aload 0, .getfield 605, .iload 1, .aaload, .iload 2, .i2l, .invokevirtual 1, .istore 4, .iload 4, .ifCond .eq 35, .sipush (-10), .iload 4, .isub, .ireturn]),
  (35, [.aload 0, .getfield 605, .iload 1, .aaload, .iload 2, .iload 3, .invokevirtual 3, .sipush (1), .ireturn])]
def cdX6_read : List (Nat × List ClassFile.Instr) := [(0, [.iload 1, .sipush (0), .sipush (3), .invokestatic 99, .ifCond .eq 29, .iload 2, .sipush (0), .sipush (2), .invokestatic 99, .ifCond .eq 29, .iload 4, .sipush (0), .sipush (20), .invokestatic 99, .ifCond .ne 31, .sipush (-1), .ireturn]),
  (29, [.sipush (-1), .ireturn]),
  (31, [.aload 0, .getfield 605, .iload 1, .aaload, .astore 5, .aload 0, .getfield 600, .getfield 501, .istore 6, .sipush (0), .istore 7, .sipush (0), .istore 8, .sipush (0), .istore 9, .goto_w 57]),
  (57, [.iload 9, .iload 4, .if_icmp .ge 150, .iload 7, .ifCond .ne 150, .iload 3, .i2l, .sipush (2), .iload 9, .imul, .i2l, .ladd, .lstore 10, .aload 5, .iload 2, .lload 10, .invokevirtual 2, .istore 7, .iload 7, .ifCond .ne 144, .lload 10, .l2i, .istore 12, .aload 0, .aload 5, .getfield 102, .iload 12, .iaload, .aload 5, .getfield 102, .iload 12, .sipush (1), .iadd, .iaload, .sipush (0), .sipush (0), .invokevirtual 55, .ifCond .ge 141, .aload 0, .getfield 600, .iload 6, .putfield 501, .sipush (-20), .iload 9, .isub, .ireturn]),
  (141, [.iinc 8 (1), .iinc 9 (1), .goto 57]),
  (144, [.iinc 9 (1), .goto 57]),
  (150, [.aload 0, .iload 7, .putfield 609, .iload 8, .ireturn])]
def cdX6_torn : List (Nat × List ClassFile.Instr) := [(0, [.aload 0, .getfield 609, .ireturn])]
def cdX6_count : List (Nat × List ClassFile.Instr) := [(0, [.iload 1, .tableswitch 138 (0) (5) #[40, 48, 56, 92, 103, 130]]),
  (40, [.aload 0, .getfield 600, .invokevirtual 36, .ireturn]),
  (48, [.aload 0, .getfield 602, .getfield 200, .ireturn]),
  (56, [.aload 0, .getfield 604, .sipush (0), .aaload, .getfield 0, .ifCond .eq 72, .sipush (1), .goto 73]),
  (72, [.sipush (0), .aload 0, .getfield 604, .sipush (1), .aaload, .getfield 0, .ifCond .eq 89, .sipush (1), .goto 90]),
  (73, [.aload 0, .getfield 604, .sipush (1), .aaload, .getfield 0, .ifCond .eq 89, .sipush (1), .goto 90]),
  (89, [.sipush (0), .iadd, .ireturn]),
  (90, [.iadd, .ireturn]),
  (92, [.aload 0, .getfield 603, .getfield 400, .getfield 300, .ireturn]),
  (103, [.aload 0, .getfield 605, .sipush (0), .aaload, .getfield 100, .ifCond .eq 127, .aload 0, .getfield 605, .sipush (0), .aaload, .getfield 101, .goto 129]),
  (127, [.sipush (-4), .ireturn]),
  (129, [.ireturn]),
  (130, [.aload 0, .getfield 600, .invokevirtual 33, .ireturn]),
  (138, [.sipush (-1), .ireturn])]
def cdX6_within : List (Nat × List ClassFile.Instr) := [(0, [.iload 0, .iload 1, .if_icmp .lt 14, .iload 0, .iload 2, .if_icmp .gt 14, .sipush (1), .goto 15]),
  (14, [.sipush (0), .ireturn]),
  (15, [.ireturn])]
def cdX6_fromNow : List (Nat × List ClassFile.Instr) := [(0, [.aload 0, .getfield 601, .aload 0, .getfield 600, .invokevirtual 25, .aload 0, .getfield 601, .sipush (0), .putfield 506, .aload 0, .getfield 601, .sipush (0), .putfield 507, .aload 0, .getfield 601, .areturn])]
def cdX7_in : List (Nat × List ClassFile.Instr) := [(0, [.lload 0, .lload 2, .lcmp, .ifCond .lt 17, .lload 0, .lload 4, .lcmp, .ifCond .gt 17, .sipush (1), .goto 18]),
  (17, [.sipush (0), .ireturn]),
  (18, [.ireturn])]
def cdX7_flag : List (Nat × List ClassFile.Instr) := [(0, [.iload 0, .ifCond .eq 8, .sipush (1), .goto 9]),
  (8, [.sipush (0), .ireturn]),
  (9, [.ireturn])]
def cdX7_firstDraft : List (Nat × List ClassFile.Instr) := [(0, [.sipush (0), .istore 1, .goto_w 2]),
  (2, [.iload 1, .sipush (63), .if_icmp .ge 21, .aload 0, .getfield 704, .iload 1, .sipush (0), .iastore, .iinc 1 (1), .goto 2]),
  (21, [.aload 0, .getfield 704, .sipush (39), .sipush (5), .iastore, .aload 0, .getfield 704, .sipush (40), .sipush (46), .iastore, .aload 0, .getfield 704, .sipush (41), .sipush (5), .iastore, .aload 0, .sipush (0), .putfield 705, .aload 0, .sipush (0), .putfield 706, .aload 0, .sipush (-4), .putfield 707, .return_])]
def cdX7_keepDraft : List (Nat × List ClassFile.Instr) := [(0, [.sipush (0), .istore 1, .goto_w 2]),
  (2, [.iload 1, .sipush (63), .if_icmp .ge 26, .aload 0, .getfield 700, .iload 1, .aload 0, .getfield 704, .iload 1, .iaload, .iastore, .iinc 1 (1), .goto 2]),
  (26, [.aload 0, .aload 0, .getfield 705, .putfield 703, .aload 0, .getfield 702, .sipush (0), .sipush (0), .bastore, .aload 0, .getfield 702, .sipush (1), .sipush (0), .bastore, .return_])]
def cdX7_feed : List (Nat × List ClassFile.Instr) := [(0, [.iload 1, .i2l, .jsr (0), .jsr (127), .invokestatic 101, .ifCond .ne 14, .sipush (-1), .ireturn]),
  (14, [.aload 0, .getfield 709, .sipush (160), .if_icmp .ne 27, .sipush (-3), .ireturn]),
  (27, [.aload 0, .getfield 708, .aload 0, .getfield 709, .iload 1, .iastore, .aload 0, .dup, .getfield 709, .sipush (1), .iadd, .putfield 709, .aload 0, .getfield 709, .ireturn])]
def cdX7_end : List (Nat × List ClassFile.Instr) := [(0, [.iload 1, .i2l, .jsr (0), .aload 0, .getfield 709, .i2l, .invokestatic 101, .ifCond .ne 16, .sipush (-1), .ireturn]),
  (16, [.aload 0, .getfield 709, .istore 2, .aload 0, .iload 1, .putfield 709, .iload 2, .ireturn])]
def cdX7_needs : List (Nat × List ClassFile.Instr) := [(0, [.iload 1, .ifCond .ne 24, .aload 0, .getfield 714, .ifCond .ne 24, .aload 0, .iload 2, .putfield 714, .aload 0, .aload 0, .getfield 711, .putfield 715, .return_]),
  (24, [.return_])]
def cdX7_byteAt : List (Nat × List ClassFile.Instr) := [(0, [.iload 1, .aload 0, .getfield 709, .if_icmp .ge 17, .aload 0, .getfield 708, .iload 1, .iaload, .goto 18]),
  (17, [.sipush (-1), .ireturn]),
  (18, [.ireturn])]
def cdX7_is : List (Nat × List ClassFile.Instr) := [(0, [.aload 0, .getfield 710, .aload 0, .getfield 711, .isub, .iload 1, .if_icmp .ne 58, .aload 0, .aload 0, .getfield 711, .invokevirtual 108, .iload 2, .if_icmp .ne 58, .aload 0, .aload 0, .getfield 711, .sipush (1), .iadd, .invokevirtual 108, .iload 3, .if_icmp .ne 58, .aload 0, .aload 0, .getfield 711, .sipush (2), .iadd, .invokevirtual 108, .iload 4, .if_icmp .ne 58, .sipush (1), .goto 59]),
  (58, [.sipush (0), .ireturn]),
  (59, [.ireturn])]
def cdX7_ends : List (Nat × List ClassFile.Instr) := [(0, [.aload 0, .aload 0, .getfield 711, .sipush (3), .iadd, .invokevirtual 108, .iload 1, .if_icmp .ne 75, .iload 2, .ifCond .eq 32, .aload 0, .aload 0, .getfield 711, .sipush (4), .iadd, .invokevirtual 108, .iload 2, .if_icmp .ne 75, .iload 3, .ifCond .eq 50, .aload 0, .aload 0, .getfield 711, .sipush (5), .iadd, .invokevirtual 108, .iload 3, .if_icmp .ne 75, .iload 4, .ifCond .eq 71, .aload 0, .aload 0, .getfield 711, .sipush (6), .iadd, .invokevirtual 108, .iload 4, .if_icmp .ne 75, .sipush (1), .goto 76]),
  (32, [.iload 3, .ifCond .eq 50, .aload 0, .aload 0, .getfield 711, .sipush (5), .iadd, .invokevirtual 108, .iload 3, .if_icmp .ne 75, .iload 4, .ifCond .eq 71, .aload 0, .aload 0, .getfield 711, .sipush (6), .iadd, .invokevirtual 108, .iload 4, .if_icmp .ne 75, .sipush (1), .goto 76]),
  (50, [.iload 4, .ifCond .eq 71, .aload 0, .aload 0, .getfield 711, .sipush (6), .iadd, .invokevirtual 108, .iload 4, .if_icmp .ne 75, .sipush (1), .goto 76]),
  (71, [.sipush (1), .goto 76]),
  (75, [.sipush (0), .ireturn]),
  (76, [.ireturn])]
def cdX7_kindNow : List (Nat × List ClassFile.Instr) := [(0, [.aload 0, .sipush (5), .sipush (112), .sipush (108), .sipush (97), .invokevirtual 109, .ifCond .eq 29, .aload 0, .sipush (105), .sipush (110), .sipush (0), .sipush (0), .invokevirtual 110, .ifCond .eq 29, .sipush (0), .ireturn]),
  (29, [.aload 0, .sipush (5), .sipush (114), .sipush (105), .sipush (118), .invokevirtual 109, .ifCond .eq 58, .aload 0, .sipush (101), .sipush (114), .sipush (0), .sipush (0), .invokevirtual 110, .ifCond .eq 58, .sipush (1), .ireturn]),
  (58, [.aload 0, .sipush (7), .sipush (97), .sipush (100), .sipush (111), .invokevirtual 109, .ifCond .eq 92, .aload 0, .sipush (112), .sipush (116), .sipush (101), .sipush (100), .invokevirtual 110, .ifCond .eq 92, .sipush (2), .goto 125]),
  (92, [.aload 0, .sipush (5), .sipush (109), .sipush (105), .sipush (120), .invokevirtual 109, .ifCond .eq 123, .aload 0, .sipush (101), .sipush (100), .sipush (0), .sipush (0), .invokevirtual 110, .ifCond .eq 123, .sipush (3), .goto 125]),
  (123, [.sipush (-4), .ireturn]),
  (125, [.ireturn])]
def cdX7_lineNow : List (Nat × List ClassFile.Instr) := [(0, [.aload 0, .sipush (7), .sipush (118), .sipush (105), .sipush (108), .invokevirtual 109, .ifCond .eq 32, .aload 0, .sipush (108), .sipush (97), .sipush (103), .sipush (101), .invokevirtual 110, .ifCond .eq 32, .sipush (4), .ireturn]),
  (32, [.aload 0, .sipush (5), .sipush (112), .sipush (114), .sipush (105), .invokevirtual 109, .ifCond .eq 61, .aload 0, .sipush (99), .sipush (101), .sipush (0), .sipush (0), .invokevirtual 110, .ifCond .eq 61, .sipush (5), .ireturn]),
  (61, [.aload 0, .sipush (4), .sipush (102), .sipush (105), .sipush (110), .invokevirtual 109, .ifCond .eq 92, .aload 0, .sipush (101), .sipush (0), .sipush (0), .sipush (0), .invokevirtual 110, .ifCond .eq 92, .sipush (6), .goto 128]),
  (92, [.aload 0, .sipush (5), .sipush (114), .sipush (111), .sipush (117), .invokevirtual 109, .ifCond .eq 124, .aload 0, .sipush (110), .sipush (100), .sipush (0), .sipush (0), .invokevirtual 110, .ifCond .eq 124, .sipush (7), .goto 128]),
  (124, [.aload 0, .invokevirtual 111, .ireturn]),
  (128, [.ireturn])]
def cdX7_takes : List (Nat × List ClassFile.Instr) := [(0, [.aload 0, .getfield 714, .ifCond .le 8, .return_]),
  (8, [.aload 0, .aload 0, .getfield 710, .invokevirtual 108, .sipush (32), .if_icmp .ne 34, .aload 0, .dup, .getfield 710, .sipush (1), .iadd, .putfield 710, .goto 8]),
  (34, [.aload 0, .aload 0, .getfield 710, .putfield 711, .aload 0, .aload 0, .getfield 710, .invokevirtual 108, .istore 1, .iload 1, .ifCond .ge 63, .aload 0, .sipush (0), .putfield 712, .goto 274]),
  (63, [.iload 1, .i2l, .jsr (97), .jsr (122), .invokestatic 101, .ifCond .eq 116, .aload 0, .sipush (1), .putfield 712, .goto_w 82]),
  (82, [.aload 0, .aload 0, .getfield 710, .invokevirtual 108, .i2l, .jsr (97), .jsr (122), .invokestatic 101, .ifCond .eq 274, .aload 0, .dup, .getfield 710, .sipush (1), .iadd, .putfield 710, .goto 82]),
  (116, [.iload 1, .i2l, .jsr (48), .jsr (57), .invokestatic 101, .ifCond .eq 243, .aload 0, .sipush (2), .putfield 712, .aload 0, .sipush (0), .putfield 713, .goto_w 140]),
  (140, [.aload 0, .aload 0, .getfield 710, .invokevirtual 108, .i2l, .jsr (48), .jsr (57), .invokestatic 101, .ifCond .eq 217, .aload 0, .aload 0, .getfield 710, .aload 0, .getfield 711, .isub, .sipush (2), .if_icmp .ge 197, .sipush (10), .aload 0, .getfield 713, .imul, .aload 0, .aload 0, .getfield 710, .invokevirtual 108, .iadd, .sipush (48), .isub, .goto 201]),
  (197, [.aload 0, .getfield 713, .putfield 713, .aload 0, .dup, .getfield 710, .sipush (1), .iadd, .putfield 710, .goto 140]),
  (201, [.putfield 713, .aload 0, .dup, .getfield 710, .sipush (1), .iadd, .putfield 710, .goto 140]),
  (217, [.aload 0, .aload 0, .getfield 710, .aload 0, .getfield 711, .isub, .sipush (2), .if_icmp .gt 235, .sipush (1), .goto 236]),
  (235, [.sipush (0), .sipush (1), .invokevirtual 107, .goto 274]),
  (236, [.sipush (1), .invokevirtual 107, .goto 274]),
  (243, [.aload 0, .sipush (3), .putfield 712, .aload 0, .iload 1, .sipush (59), .if_icmp .ne 259, .sipush (1), .goto 260]),
  (259, [.sipush (0), .sipush (1), .invokevirtual 107, .aload 0, .dup, .getfield 710, .sipush (1), .iadd, .putfield 710, .return_]),
  (260, [.sipush (1), .invokevirtual 107, .aload 0, .dup, .getfield 710, .sipush (1), .iadd, .putfield 710, .return_]),
  (274, [.return_])]
def cdX7_readNumber : List (Nat × List ClassFile.Instr) := [(0, [.aload 0, .getfield 714, .ifCond .ne 25, .aload 0, .aload 0, .getfield 712, .sipush (2), .if_icmp .ne 20, .sipush (1), .goto 21]),
  (20, [.sipush (0), .sipush (2), .invokevirtual 107, .aload 0, .getfield 714, .ifCond .ne 49, .aload 0, .aload 0, .getfield 713, .i2l, .iload 1, .i2l, .iload 2, .i2l, .invokestatic 101, .sipush (3), .invokevirtual 107, .aload 0, .getfield 714, .ifCond .ne 63, .aload 0, .getfield 713, .goto 64]),
  (21, [.sipush (2), .invokevirtual 107, .aload 0, .getfield 714, .ifCond .ne 49, .aload 0, .aload 0, .getfield 713, .i2l, .iload 1, .i2l, .iload 2, .i2l, .invokestatic 101, .sipush (3), .invokevirtual 107, .aload 0, .getfield 714, .ifCond .ne 63, .aload 0, .getfield 713, .goto 64]),
  (25, [.aload 0, .getfield 714, .ifCond .ne 49, .aload 0, .aload 0, .getfield 713, .i2l, .iload 1, .i2l, .iload 2, .i2l, .invokestatic 101, .sipush (3), .invokevirtual 107, .aload 0, .getfield 714, .ifCond .ne 63, .aload 0, .getfield 713, .goto 64]),
  (49, [.aload 0, .getfield 714, .ifCond .ne 63, .aload 0, .getfield 713, .goto 64]),
  (63, [.sipush (0), .istore 3, .aload 0, .invokevirtual 113, .iload 3, .ireturn]),
  (64, [.istore 3, .aload 0, .invokevirtual 113, .iload 3, .ireturn])]
def cdX7_readBody : List (Nat × List ClassFile.Instr) := [(0, [.sipush (8), .sipush (5), .aload 0, .getfield 704, .sipush (38), .iaload, .imul, .iadd, .istore 2, .aload 0, .getfield 704, .iload 2, .sipush (0), .iadd, .iload 1, .iastore, .aload 0, .getfield 704, .iload 2, .sipush (1), .iadd, .aload 0, .sipush (0), .sipush (3), .invokevirtual 114, .iastore, .aload 0, .aload 0, .getfield 704, .iload 2, .sipush (1), .iadd, .iaload, .aload 0, .getfield 707, .if_icmp .le 63, .aload 0, .getfield 704, .iload 2, .sipush (1), .iadd, .iaload, .goto 67]),
  (63, [.aload 0, .getfield 707, .putfield 707, .aload 0, .getfield 704, .iload 2, .sipush (2), .iadd, .aload 0, .sipush (0), .sipush (9), .invokevirtual 114, .iastore, .aload 0, .getfield 704, .iload 2, .sipush (3), .iadd, .aload 0, .sipush (0), .sipush (9), .invokevirtual 114, .iastore, .aload 0, .getfield 704, .sipush (38), .dup2, .iaload, .sipush (1), .iadd, .iastore, .return_]),
  (67, [.putfield 707, .aload 0, .getfield 704, .iload 2, .sipush (2), .iadd, .aload 0, .sipush (0), .sipush (9), .invokevirtual 114, .iastore, .aload 0, .getfield 704, .iload 2, .sipush (3), .iadd, .aload 0, .sipush (0), .sipush (9), .invokevirtual 114, .iastore, .aload 0, .getfield 704, .sipush (38), .dup2, .iaload, .sipush (1), .iadd, .iastore, .return_])]
def cdX7_readLineOf : List (Nat × List ClassFile.Instr) := [(0, [.iload 1, .tableswitch 136 (4) (7) #[32, 85, 102, 119]]),
  (32, [.aload 0, .getfield 704, .sipush (2), .aload 0, .getfield 705, .imul, .sipush (0), .iadd, .aload 0, .sipush (0), .sipush (99), .invokevirtual 114, .iastore, .aload 0, .getfield 704, .sipush (2), .aload 0, .getfield 705, .imul, .sipush (1), .iadd, .aload 0, .sipush (0), .sipush (9), .invokevirtual 114, .iastore, .aload 0, .dup, .getfield 705, .sipush (1), .iadd, .putfield 705, .goto 141]),
  (85, [.aload 0, .getfield 704, .sipush (39), .aload 0, .sipush (0), .sipush (20), .invokevirtual 114, .iastore, .goto 141]),
  (102, [.aload 0, .getfield 704, .sipush (40), .aload 0, .sipush (0), .sipush (60), .invokevirtual 114, .iastore, .goto 141]),
  (119, [.aload 0, .getfield 704, .sipush (41), .aload 0, .sipush (1), .sipush (9), .invokevirtual 114, .iastore, .goto 141]),
  (136, [.aload 0, .iload 1, .invokevirtual 115, .return_]),
  (141, [.return_])]
def cdX7_readLine : List (Nat × List ClassFile.Instr) := [(0, [.aload 0, .getfield 712, .sipush (1), .if_icmp .ne 15, .aload 0, .invokevirtual 112, .goto 17]),
  (15, [.sipush (-4), .istore 1, .aload 0, .iload 1, .sipush (-4), .if_icmp .eq 29, .sipush (1), .goto 30]),
  (17, [.istore 1, .aload 0, .iload 1, .sipush (-4), .if_icmp .eq 29, .sipush (1), .goto 30]),
  (29, [.sipush (0), .sipush (2), .invokevirtual 107, .aload 0, .iload 1, .sipush (4), .if_icmp .ne 56, .aload 0, .getfield 705, .sipush (4), .if_icmp .ge 52, .sipush (1), .goto 78]),
  (30, [.sipush (2), .invokevirtual 107, .aload 0, .iload 1, .sipush (4), .if_icmp .ne 56, .aload 0, .getfield 705, .sipush (4), .if_icmp .ge 52, .sipush (1), .goto 78]),
  (52, [.sipush (0), .goto 78]),
  (56, [.iload 1, .sipush (4), .if_icmp .gt 73, .aload 0, .getfield 704, .sipush (38), .iaload, .sipush (6), .if_icmp .ge 77, .sipush (1), .goto 78]),
  (73, [.sipush (1), .goto 78]),
  (77, [.sipush (0), .sipush (5), .invokevirtual 107, .aload 0, .getfield 714, .ifCond .ne 127, .iload 1, .sipush (4), .if_icmp .le 127, .aload 0, .aload 0, .getfield 706, .iload 1, .ishr, .sipush (1), .iand, .ifCond .ne 110, .sipush (1), .goto 111]),
  (78, [.sipush (5), .invokevirtual 107, .aload 0, .getfield 714, .ifCond .ne 127, .iload 1, .sipush (4), .if_icmp .le 127, .aload 0, .aload 0, .getfield 706, .iload 1, .ishr, .sipush (1), .iand, .ifCond .ne 110, .sipush (1), .goto 111]),
  (110, [.sipush (0), .sipush (4), .invokevirtual 107, .aload 0, .dup, .getfield 706, .sipush (1), .iload 1, .ishl, .ior, .putfield 706, .aload 0, .invokevirtual 113, .aload 0, .getfield 714, .ifCond .le 139, .return_]),
  (111, [.sipush (4), .invokevirtual 107, .aload 0, .dup, .getfield 706, .sipush (1), .iload 1, .ishl, .ior, .putfield 706, .aload 0, .invokevirtual 113, .aload 0, .getfield 714, .ifCond .le 139, .return_]),
  (127, [.aload 0, .invokevirtual 113, .aload 0, .getfield 714, .ifCond .le 139, .return_]),
  (139, [.aload 0, .iload 1, .invokevirtual 116, .aload 0, .getfield 714, .ifCond .ne 169, .aload 0, .aload 0, .getfield 712, .sipush (3), .if_icmp .ne 164, .sipush (1), .goto 165]),
  (164, [.sipush (0), .sipush (2), .invokevirtual 107, .aload 0, .invokevirtual 113, .return_]),
  (165, [.sipush (2), .invokevirtual 107, .aload 0, .invokevirtual 113, .return_]),
  (169, [.aload 0, .invokevirtual 113, .return_])]
def cdX7_text : List (Nat × List ClassFile.Instr) := [(0, [.sipush (0), .istore 1, .aload 0, .sipush (0), .putfield 714, .aload 0, .sipush (0), .putfield 710, .aload 0, .invokevirtual 103, .aload 0, .invokevirtual 113, .goto_w 20]),
  (20, [.aload 0, .getfield 714, .ifCond .ne 44, .aload 0, .getfield 712, .ifCond .eq 44, .aload 0, .invokevirtual 117, .iinc 1 (1), .goto 20]),
  (44, [.aload 0, .getfield 714, .ifCond .ne 73, .aload 0, .aload 0, .getfield 707, .aload 0, .getfield 705, .if_icmp .ge 67, .sipush (1), .goto 68]),
  (67, [.sipush (0), .sipush (6), .invokevirtual 107, .aload 0, .sipush (0), .putfield 709, .aload 0, .getfield 714, .ifCond .le 93, .sipush (-10), .aload 0, .getfield 715, .isub, .ireturn]),
  (68, [.sipush (6), .invokevirtual 107, .aload 0, .sipush (0), .putfield 709, .aload 0, .getfield 714, .ifCond .le 93, .sipush (-10), .aload 0, .getfield 715, .isub, .ireturn]),
  (73, [.aload 0, .sipush (0), .putfield 709, .aload 0, .getfield 714, .ifCond .le 93, .sipush (-10), .aload 0, .getfield 715, .isub, .ireturn]),
  (93, [.aload 0, .invokevirtual 104, .iload 1, .ireturn])]
def cdX7_fault : List (Nat × List ClassFile.Instr) := [(0, [.aload 0, .getfield 714, .ireturn])]
def cdX7_isVillage : List (Nat × List ClassFile.Instr) := [(0, [.iload 1, .i2l, .jsr (0), .aload 0, .getfield 703, .sipush (1), .isub, .i2l, .invokestatic 101, .ireturn])]
def cdX7_isBody : List (Nat × List ClassFile.Instr) := [(0, [.iload 1, .i2l, .jsr (0), .aload 0, .getfield 700, .sipush (38), .iaload, .sipush (1), .isub, .i2l, .invokestatic 101, .ireturn])]
def cdX7_isPart : List (Nat × List ClassFile.Instr) := [(0, [.iload 0, .i2l, .jsr (0), .jsr (1), .invokestatic 101, .ireturn])]
def cdX7_starts : List (Nat × List ClassFile.Instr) := [(0, [.sipush (0), .istore 1, .goto_w 2]),
  (2, [.iload 1, .sipush (63), .if_icmp .ge 26, .aload 0, .getfield 701, .iload 1, .aload 0, .getfield 700, .iload 1, .iaload, .iastore, .iinc 1 (1), .goto 2]),
  (26, [.sipush (0), .istore 1, .goto_w 28]),
  (28, [.iload 1, .sipush (4), .if_icmp .ge 46, .aload 0, .getfield 716, .iload 1, .iload 1, .iastore, .iinc 1 (1), .goto 28]),
  (46, [.return_])]
def cdX7_settles : List (Nat × List ClassFile.Instr) := [(0, [.sipush (0), .istore 1, .goto_w 2]),
  (2, [.iload 1, .sipush (63), .if_icmp .ge 26, .aload 0, .getfield 700, .iload 1, .aload 0, .getfield 701, .iload 1, .iaload, .iastore, .iinc 1 (1), .goto 2]),
  (26, [.return_])]
def cdX7_of : List (Nat × List ClassFile.Instr) := [(0, [.aload 0, .getfield 701, .sipush (8), .sipush (5), .iload 1, .imul, .iadd, .iload 2, .iadd, .iaload, .ireturn])]
def cdX7_becomesOf : List (Nat × List ClassFile.Instr) := [(0, [.aload 0, .getfield 701, .sipush (8), .sipush (5), .iload 1, .imul, .iadd, .iload 2, .iadd, .iload 3, .iastore, .return_])]
def cdX7_needOf : List (Nat × List ClassFile.Instr) := [(0, [.iload 1, .ifCond .eq 23, .iload 0, .ifCond .ne 12, .sipush (2), .goto 22]),
  (12, [.iload 0, .sipush (3), .if_icmp .ne 21, .sipush (4), .goto 22]),
  (21, [.sipush (3), .ireturn]),
  (22, [.ireturn]),
  (23, [.iload 0, .sipush (2), .if_icmp .ne 32, .sipush (0), .goto 42]),
  (32, [.iload 0, .sipush (3), .if_icmp .ne 41, .sipush (2), .goto 42]),
  (41, [.sipush (1), .ireturn]),
  (42, [.ireturn])]
def cdX7_lacksOf : List (Nat × List ClassFile.Instr) := [(0, [.aload 0, .iload 1, .sipush (0), .invokevirtual 125, .iload 2, .invokestatic 127, .aload 0, .iload 1, .iload 2, .ifCond .eq 20, .sipush (2), .goto 21]),
  (20, [.sipush (3), .invokevirtual 125, .isub, .istore 3, .iload 3, .ifCond .le 34, .iload 3, .goto 35]),
  (21, [.invokevirtual 125, .isub, .istore 3, .iload 3, .ifCond .le 34, .iload 3, .goto 35]),
  (34, [.sipush (0), .ireturn]),
  (35, [.ireturn])]
def cdX7_lacks : List (Nat × List ClassFile.Instr) := [(0, [.aload 0, .iload 1, .sipush (1), .invokevirtual 128, .aload 0, .iload 1, .sipush (0), .invokevirtual 128, .iadd, .ireturn])]
def cdX7_firstAt : List (Nat × List ClassFile.Instr) := [(0, [.sipush (0), .istore 2, .goto_w 2]),
  (2, [.iload 2, .aload 0, .getfield 701, .sipush (38), .iaload, .if_icmp .ge 40, .aload 0, .iload 2, .sipush (4), .invokevirtual 125, .ifCond .ne 34, .aload 0, .iload 2, .sipush (1), .invokevirtual 125, .iload 1, .if_icmp .ne 34, .iload 2, .ireturn]),
  (34, [.iinc 2 (1), .goto 2]),
  (40, [.sipush (-4), .ireturn])]
def cdX7_villageGoes : List (Nat × List ClassFile.Instr) := [(0, [.aload 0, .iload 1, .invokevirtual 130, .istore 2, .iload 2, .sipush (-4), .if_icmp .ne 13, .return_]),
  (13, [.aload 0, .getfield 701, .sipush (39), .iaload, .aload 0, .iload 2, .invokevirtual 129, .imul, .istore 3, .iload 1, .sipush (1), .iadd, .aload 0, .getfield 703, .irem, .istore 4, .aload 0, .iload 2, .invokevirtual 129, .ifCond .ne 55, .aload 0, .iload 2, .sipush (4), .sipush (1), .invokevirtual 126, .goto 170]),
  (55, [.iload 3, .aload 0, .getfield 701, .sipush (40), .iaload, .if_icmp .ge 104, .iload 3, .aload 0, .getfield 701, .sipush (2), .iload 1, .imul, .sipush (0), .iadd, .iaload, .if_icmp .gt 104, .aload 0, .getfield 701, .sipush (2), .iload 1, .imul, .sipush (0), .iadd, .dup2, .iaload, .iload 3, .isub, .iastore, .aload 0, .iload 2, .sipush (4), .sipush (1), .invokevirtual 126, .goto 170]),
  (104, [.aload 0, .getfield 703, .sipush (1), .if_icmp .le 147, .aload 0, .getfield 701, .sipush (2), .iload 4, .imul, .sipush (1), .iadd, .iaload, .ifCond .ne 147, .aload 0, .iload 2, .sipush (1), .iload 4, .invokevirtual 126, .aload 0, .dup, .getfield 717, .sipush (1), .iadd, .putfield 717, .goto 170]),
  (147, [.aload 0, .getfield 703, .sipush (1), .if_icmp .le 170, .aload 0, .getfield 701, .sipush (2), .iload 4, .imul, .sipush (1), .iadd, .dup2, .iaload, .sipush (1), .isub, .iastore, .return_]),
  (170, [.return_])]
def cdX7_crownerComes : List (Nat × List ClassFile.Instr) := [(0, [.sipush (0), .istore 1, .goto_w 2]),
  (2, [.iload 1, .aload 0, .getfield 701, .sipush (38), .iaload, .if_icmp .ge 119, .aload 0, .iload 1, .sipush (4), .invokevirtual 125, .ifCond .ne 113, .aload 0, .iload 1, .sipush (1), .invokevirtual 125, .istore 2, .aload 0, .getfield 701, .sipush (2), .iload 2, .imul, .sipush (0), .iadd, .iaload, .aload 0, .getfield 701, .sipush (40), .iaload, .if_icmp .ge 53, .sipush (1), .goto 54]),
  (53, [.sipush (0), .istore 3, .aload 0, .dup, .getfield 718, .iload 3, .invokestatic 102, .iload 2, .ishl, .ior, .putfield 718, .aload 0, .getfield 701, .sipush (2), .iload 2, .imul, .sipush (0), .iadd, .iload 3, .ifCond .eq 87, .sipush (0), .goto 105]),
  (54, [.istore 3, .aload 0, .dup, .getfield 718, .iload 3, .invokestatic 102, .iload 2, .ishl, .ior, .putfield 718, .aload 0, .getfield 701, .sipush (2), .iload 2, .imul, .sipush (0), .iadd, .iload 3, .ifCond .eq 87, .sipush (0), .goto 105]),
  (87, [.aload 0, .getfield 701, .sipush (2), .iload 2, .imul, .sipush (0), .iadd, .iaload, .aload 0, .getfield 701, .sipush (40), .iaload, .isub, .iastore, .aload 0, .iload 1, .sipush (4), .sipush (2), .invokevirtual 126, .iinc 1 (1), .goto 2]),
  (105, [.iastore, .aload 0, .iload 1, .sipush (4), .sipush (2), .invokevirtual 126, .iinc 1 (1), .goto 2]),
  (113, [.iinc 1 (1), .goto 2]),
  (119, [.return_])]
def cdX7_nightGoes : List (Nat × List ClassFile.Instr) := [(0, [.sipush (0), .istore 1, .goto_w 2]),
  (2, [.iload 1, .aload 0, .getfield 703, .if_icmp .ge 26, .aload 0, .aload 0, .getfield 716, .iload 1, .iaload, .invokevirtual 131, .iinc 1 (1), .goto 2]),
  (26, [.aload 0, .getfield 701, .sipush (42), .iaload, .sipush (1), .iadd, .aload 0, .getfield 701, .sipush (41), .iaload, .irem, .ifCond .ne 64, .aload 0, .invokevirtual 132, .aload 0, .getfield 701, .sipush (43), .dup2, .iaload, .aload 0, .getfield 718, .ior, .iastore, .aload 0, .getfield 701, .sipush (42), .dup2, .iaload, .sipush (1), .iadd, .iastore, .return_]),
  (64, [.aload 0, .getfield 701, .sipush (42), .dup2, .iaload, .sipush (1), .iadd, .iastore, .return_])]
def cdX7_allMeans : List (Nat × List ClassFile.Instr) := [(0, [.sipush (0), .istore 1, .sipush (0), .istore 2, .goto_w 4]),
  (4, [.iload 2, .aload 0, .getfield 703, .if_icmp .ge 31, .iload 1, .aload 0, .getfield 701, .sipush (2), .iload 2, .imul, .sipush (0), .iadd, .iaload, .iadd, .istore 1, .iinc 2 (1), .goto 4]),
  (31, [.iload 1, .ireturn])]
def cdX7_paidIn : List (Nat × List ClassFile.Instr) := [(0, [.aload 0, .invokevirtual 134, .istore 2, .aload 0, .sipush (0), .putfield 717, .aload 0, .sipush (0), .putfield 718, .sipush (0), .istore 3, .goto_w 17]),
  (17, [.iload 3, .iload 1, .if_icmp .ge 32, .aload 0, .invokevirtual 133, .iinc 3 (1), .goto 17]),
  (32, [.iload 2, .aload 0, .invokevirtual 134, .isub, .ireturn])]
def cdX7_inWay : List (Nat × List ClassFile.Instr) := [(0, [.sipush (0), .istore 2, .sipush (0), .istore 3, .goto_w 4]),
  (4, [.iload 3, .aload 0, .getfield 701, .sipush (38), .iaload, .if_icmp .ge 44, .iload 2, .aload 0, .iload 3, .sipush (4), .invokevirtual 125, .iload 1, .if_icmp .ne 30, .sipush (1), .goto 31]),
  (30, [.sipush (0), .invokestatic 102, .iload 3, .ishl, .ior, .istore 2, .iinc 3 (1), .goto 4]),
  (31, [.invokestatic 102, .iload 3, .ishl, .ior, .istore 2, .iinc 3 (1), .goto 4]),
  (44, [.iload 2, .ireturn])]
def cdX7_bitsOf : List (Nat × List ClassFile.Instr) := [(0, [.sipush (0), .istore 1, .sipush (0), .istore 2, .goto_w 4]),
  (4, [.iload 2, .sipush (6), .if_icmp .ge 24, .iload 1, .iload 0, .iload 2, .ishr, .sipush (1), .iand, .iadd, .istore 1, .iinc 2 (1), .goto 4]),
  (24, [.iload 1, .ireturn])]
def cdX7_lesser : List (Nat × List ClassFile.Instr) := [(0, [.iload 0, .iload 1, .if_icmp .ge 9, .iload 0, .goto 10]),
  (9, [.iload 1, .ireturn]),
  (10, [.ireturn])]
def cdX7_rule : List (Nat × List ClassFile.Instr) := [(0, [.aload 0, .invokevirtual 123, .iload 1, .tableswitch 94 (0) (9) #[60, 65, 65, 65, 65, 65, 77, 77, 77, 86]]),
  (60, [.aload 0, .getfield 703, .ireturn]),
  (65, [.aload 0, .getfield 700, .sipush (38), .iload 1, .iadd, .sipush (1), .isub, .iaload, .ireturn]),
  (77, [.aload 0, .iload 1, .sipush (6), .isub, .invokevirtual 136, .ireturn]),
  (86, [.aload 0, .getfield 700, .sipush (43), .iaload, .ireturn]),
  (94, [.sipush (-1), .ireturn])]
def cdX7_village : List (Nat × List ClassFile.Instr) := [(0, [.aload 0, .iload 1, .invokevirtual 120, .ifCond .eq 20, .iload 2, .i2l, .jsr (0), .jsr (2), .invokestatic 101, .ifCond .ne 22, .sipush (-1), .ireturn]),
  (20, [.sipush (-1), .ireturn]),
  (22, [.aload 0, .invokevirtual 123, .sipush (0), .istore 3, .sipush (0), .istore 4, .goto_w 31]),
  (31, [.iload 4, .aload 0, .getfield 701, .sipush (38), .iaload, .if_icmp .ge 84, .iload 3, .aload 0, .iload 4, .sipush (4), .invokevirtual 125, .ifCond .ne 69, .aload 0, .iload 4, .sipush (1), .invokevirtual 125, .iload 1, .if_icmp .ne 69, .sipush (1), .goto 70]),
  (69, [.sipush (0), .invokestatic 102, .iload 4, .ishl, .ior, .istore 3, .iinc 4 (1), .goto 31]),
  (70, [.invokestatic 102, .iload 4, .ishl, .ior, .istore 3, .iinc 4 (1), .goto 31]),
  (84, [.iload 2, .sipush (2), .if_icmp .ge 102, .aload 0, .getfield 700, .sipush (2), .iload 1, .imul, .iload 2, .iadd, .iaload, .goto 103]),
  (102, [.iload 3, .ireturn]),
  (103, [.ireturn])]
def cdX7_body : List (Nat × List ClassFile.Instr) := [(0, [.aload 0, .iload 1, .invokevirtual 121, .ifCond .eq 20, .iload 2, .i2l, .jsr (0), .jsr (5), .invokestatic 101, .ifCond .ne 22, .sipush (-1), .ireturn]),
  (20, [.sipush (-1), .ireturn]),
  (22, [.aload 0, .invokevirtual 123, .iload 2, .sipush (5), .if_icmp .ge 40, .aload 0, .iload 1, .iload 2, .invokevirtual 125, .goto 45]),
  (40, [.aload 0, .iload 1, .invokevirtual 129, .ireturn]),
  (45, [.ireturn])]
def cdX7_becomes : List (Nat × List ClassFile.Instr) := [(0, [.aload 0, .getfield 700, .iload 1, .iaload, .istore 3, .aload 0, .getfield 700, .iload 1, .iload 2, .iastore, .iload 3, .ireturn])]
def cdX7_grant : List (Nat × List ClassFile.Instr) := [(0, [.aload 0, .iload 1, .invokevirtual 120, .ifCond .eq 50, .iload 2, .invokestatic 122, .ifCond .eq 50, .iload 3, .i2l, .jsr (0), .iload 2, .ifCond .ne 28, .jsr (99), .goto 31]),
  (28, [.jsr (9), .invokestatic 101, .ifCond .eq 50, .aload 0, .sipush (2), .iload 1, .imul, .iload 2, .iadd, .iload 3, .invokevirtual 142, .goto 51]),
  (31, [.invokestatic 101, .ifCond .eq 50, .aload 0, .sipush (2), .iload 1, .imul, .iload 2, .iadd, .iload 3, .invokevirtual 142, .goto 51]),
  (50, [.sipush (-1), .ireturn]),
  (51, [.ireturn])]
def cdX7_liesStill : List (Nat × List ClassFile.Instr) := [(0, [.aload 0, .getfield 700, .sipush (8), .sipush (5), .iload 1, .imul, .iadd, .sipush (4), .iadd, .iaload, .ifCond .ne 20, .sipush (1), .goto 21]),
  (20, [.sipush (0), .ireturn]),
  (21, [.ireturn])]
def cdX7_alter : List (Nat × List ClassFile.Instr) := [(0, [.iload 2, .ifCond .ne 16, .iload 3, .i2l, .jsr (0), .jsr (3), .invokestatic 101, .goto 60]),
  (16, [.iload 2, .sipush (1), .if_icmp .ne 29, .aload 0, .iload 3, .invokevirtual 120, .goto 60]),
  (29, [.iload 2, .i2l, .jsr (2), .jsr (3), .invokestatic 101, .ifCond .eq 59, .iload 3, .i2l, .jsr (0), .jsr (9), .invokestatic 101, .ifCond .eq 59, .sipush (1), .goto 60]),
  (59, [.sipush (0), .istore 4, .aload 0, .iload 1, .invokevirtual 121, .ifCond .eq 75, .iload 4, .ifCond .ne 77, .sipush (-1), .ireturn]),
  (60, [.istore 4, .aload 0, .iload 1, .invokevirtual 121, .ifCond .eq 75, .iload 4, .ifCond .ne 77, .sipush (-1), .ireturn]),
  (75, [.sipush (-1), .ireturn]),
  (77, [.aload 0, .iload 1, .invokevirtual 144, .ifCond .eq 101, .aload 0, .sipush (8), .sipush (5), .iload 1, .imul, .iadd, .iload 2, .iadd, .iload 3, .invokevirtual 142, .goto 103]),
  (101, [.sipush (-2), .ireturn]),
  (103, [.ireturn])]
def cdX7_set : List (Nat × List ClassFile.Instr) := [(0, [.iload 1, .sipush (2), .if_icmp .ne 17, .iload 2, .i2l, .jsr (0), .jsr (20), .invokestatic 101, .goto 56]),
  (17, [.iload 1, .sipush (3), .if_icmp .ne 34, .iload 2, .i2l, .jsr (0), .jsr (60), .invokestatic 101, .goto 56]),
  (34, [.iload 1, .sipush (4), .if_icmp .ne 55, .iload 2, .i2l, .jsr (1), .jsr (9), .invokestatic 101, .ifCond .eq 55, .sipush (1), .goto 56]),
  (55, [.sipush (0), .istore 3, .iload 3, .ifCond .eq 75, .aload 0, .sipush (39), .iload 1, .iadd, .sipush (2), .isub, .iload 2, .invokevirtual 142, .goto 76]),
  (56, [.istore 3, .iload 3, .ifCond .eq 75, .aload 0, .sipush (39), .iload 1, .iadd, .sipush (2), .isub, .iload 2, .invokevirtual 142, .goto 76]),
  (75, [.sipush (-1), .ireturn]),
  (76, [.ireturn])]
def cdX7_find : List (Nat × List ClassFile.Instr) := [(0, [.iload 1, .i2l, .jsr (0), .jsr (3), .invokestatic 101, .ifCond .eq 45, .aload 0, .iload 2, .invokevirtual 120, .ifCond .eq 45, .iload 3, .i2l, .jsr (0), .jsr (9), .invokestatic 101, .ifCond .eq 45, .iload 4, .i2l, .jsr (0), .jsr (9), .invokestatic 101, .ifCond .ne 47, .sipush (-1), .ireturn]),
  (45, [.sipush (-1), .ireturn]),
  (47, [.aload 0, .getfield 700, .sipush (38), .iaload, .sipush (6), .if_icmp .ne 62, .sipush (-3), .ireturn]),
  (62, [.sipush (8), .sipush (5), .aload 0, .getfield 700, .sipush (38), .iaload, .imul, .iadd, .istore 5, .aload 0, .getfield 700, .iload 5, .sipush (0), .iadd, .iload 1, .iastore, .aload 0, .getfield 700, .iload 5, .sipush (1), .iadd, .iload 2, .iastore, .aload 0, .getfield 700, .iload 5, .sipush (2), .iadd, .iload 3, .iastore, .aload 0, .getfield 700, .iload 5, .sipush (3), .iadd, .iload 4, .iastore, .aload 0, .getfield 700, .iload 5, .sipush (4), .iadd, .sipush (0), .iastore, .aload 0, .getfield 700, .sipush (38), .dup2, .iaload, .sipush (1), .iadd, .iastore, .aload 0, .getfield 700, .sipush (38), .iaload, .sipush (1), .isub, .ireturn])]
def cdX7_hire : List (Nat × List ClassFile.Instr) := [(0, [.aload 0, .iload 1, .invokevirtual 121, .ifCond .ne 10, .sipush (-1), .ireturn]),
  (10, [.aload 0, .invokevirtual 123, .aload 0, .iload 1, .sipush (1), .invokevirtual 125, .istore 2, .aload 0, .iload 1, .invokevirtual 144, .ifCond .eq 57, .aload 0, .iload 1, .invokevirtual 129, .ifCond .eq 57, .aload 0, .getfield 701, .sipush (2), .iload 2, .imul, .sipush (0), .iadd, .iaload, .aload 0, .getfield 701, .sipush (39), .iaload, .if_icmp .ge 60, .sipush (-2), .ireturn]),
  (57, [.sipush (-2), .ireturn]),
  (60, [.aload 0, .iload 1, .sipush (1), .invokevirtual 128, .ifCond .le 73, .sipush (2), .goto 74]),
  (73, [.sipush (3), .istore 3, .aload 0, .getfield 701, .sipush (2), .iload 2, .imul, .sipush (0), .iadd, .dup2, .iaload, .aload 0, .getfield 701, .sipush (39), .iaload, .isub, .iastore, .aload 0, .iload 1, .iload 3, .aload 0, .iload 1, .iload 3, .invokevirtual 125, .sipush (1), .iadd, .invokevirtual 126, .aload 0, .invokevirtual 124, .aload 0, .iload 1, .invokevirtual 129, .ireturn]),
  (74, [.istore 3, .aload 0, .getfield 701, .sipush (2), .iload 2, .imul, .sipush (0), .iadd, .dup2, .iaload, .aload 0, .getfield 701, .sipush (39), .iaload, .isub, .iastore, .aload 0, .iload 1, .iload 3, .aload 0, .iload 1, .iload 3, .invokevirtual 125, .sipush (1), .iadd, .invokevirtual 126, .aload 0, .invokevirtual 124, .aload 0, .iload 1, .invokevirtual 129, .ireturn])]
def cdX7_nights : List (Nat × List ClassFile.Instr) := [(0, [.iload 1, .i2l, .jsr (0), .jsr (30), .invokestatic 101, .ifCond .ne 14, .sipush (-1), .ireturn]),
  (14, [.aload 0, .getfield 700, .sipush (42), .iaload, .iload 1, .iadd, .sipush (999), .if_icmp .le 32, .sipush (-3), .ireturn]),
  (32, [.aload 0, .invokevirtual 123, .aload 0, .iload 1, .invokevirtual 135, .istore 2, .aload 0, .invokevirtual 124, .iload 2, .ireturn])]
def cdX7_runs : List (Nat × List ClassFile.Instr) := [(0, [.iload 1, .i2l, .jsr (0), .jsr (30), .invokestatic 101, .ifCond .eq 24, .iload 2, .i2l, .jsr (0), .jsr (4), .invokestatic 101, .ifCond .ne 26, .sipush (-1), .ireturn]),
  (24, [.sipush (-1), .ireturn]),
  (26, [.aload 0, .invokevirtual 123, .aload 0, .iload 1, .invokevirtual 135, .istore 3, .iload 2, .tableswitch 81 (0) (3) #[68, 70, 70, 76]]),
  (68, [.iload 3, .ireturn]),
  (70, [.aload 0, .iload 2, .invokevirtual 136, .ireturn]),
  (76, [.aload 0, .getfield 717, .ireturn]),
  (81, [.aload 0, .getfield 718, .ireturn])]
def cdX7_ahead : List (Nat × List ClassFile.Instr) := [(0, [.aload 0, .iload 1, .invokevirtual 121, .ifCond .eq 27, .iload 2, .i2l, .jsr (0), .jsr (30), .invokestatic 101, .ifCond .eq 27, .iload 3, .invokestatic 122, .ifCond .ne 29, .sipush (-1), .ireturn]),
  (27, [.sipush (-1), .ireturn]),
  (29, [.aload 0, .invokevirtual 123, .aload 0, .iload 2, .invokevirtual 135, .pop, .aload 0, .iload 1, .iload 3, .ifCond .ne 49, .sipush (1), .goto 50]),
  (49, [.sipush (4), .invokevirtual 125, .ireturn]),
  (50, [.invokevirtual 125, .ireturn])]
def cdX7_settled : List (Nat × List ClassFile.Instr) := [(0, [.aload 0, .iload 1, .invokevirtual 121, .ifCond .ne 10, .sipush (-1), .ireturn]),
  (10, [.aload 0, .invokevirtual 123, .sipush (0), .istore 2, .goto_w 16]),
  (16, [.iload 2, .sipush (30), .if_icmp .gt 43, .aload 0, .iload 1, .sipush (4), .invokevirtual 125, .ifCond .eq 33, .iload 2, .ireturn]),
  (33, [.aload 0, .invokevirtual 133, .iinc 2 (1), .goto 16]),
  (43, [.sipush (-4), .ireturn])]
def cdX7_isJudged : List (Nat × List ClassFile.Instr) := [(0, [.iload 0, .i2l, .jsr (0), .jsr (20), .invokestatic 101, .ireturn])]
def cdX7_paidWith : List (Nat × List ClassFile.Instr) := [(0, [.aload 0, .invokevirtual 123, .aload 0, .getfield 701, .iload 1, .iload 2, .iastore, .aload 0, .iload 3, .invokevirtual 135, .ireturn])]
def cdX7_dear : List (Nat × List ClassFile.Instr) := [(0, [.iload 1, .invokestatic 153, .ifCond .ne 9, .sipush (-1), .ireturn]),
  (9, [.aload 0, .sipush (39), .sipush (0), .iload 1, .invokevirtual 154, .pop, .aload 0, .sipush (1), .invokevirtual 136, .invokestatic 137, .istore 2, .sipush (0), .istore 3, .sipush (1), .istore 4, .goto_w 32]),
  (32, [.iload 4, .sipush (20), .if_icmp .gt 74, .aload 0, .sipush (39), .iload 4, .iload 1, .invokevirtual 154, .pop, .aload 0, .sipush (1), .invokevirtual 136, .invokestatic 137, .iload 2, .if_icmp .ne 66, .iload 4, .goto 67]),
  (66, [.iload 3, .istore 3, .iinc 4 (1), .goto 32]),
  (67, [.istore 3, .iinc 4 (1), .goto 32]),
  (74, [.iload 3, .ireturn])]
def cdX7_mild : List (Nat × List ClassFile.Instr) := [(0, [.iload 1, .invokestatic 153, .ifCond .ne 9, .sipush (-1), .ireturn]),
  (9, [.sipush (-4), .istore 2, .sipush (0), .istore 3, .goto_w 14]),
  (14, [.iload 3, .sipush (60), .if_icmp .gt 48, .aload 0, .sipush (40), .iload 3, .iload 1, .invokevirtual 154, .pop, .aload 0, .getfield 718, .ifCond .ne 40, .iload 3, .goto 41]),
  (40, [.iload 2, .istore 2, .iinc 3 (1), .goto 14]),
  (41, [.istore 2, .iinc 3 (1), .goto 14]),
  (48, [.iload 2, .ireturn])]
def cdX7_watch : List (Nat × List ClassFile.Instr) := [(0, [.iload 1, .invokestatic 153, .ifCond .eq 14, .iload 2, .invokestatic 122, .ifCond .ne 16, .sipush (-1), .ireturn]),
  (14, [.sipush (-1), .ireturn]),
  (16, [.sipush (0), .istore 3, .sipush (-4), .istore 4, .sipush (0), .istore 5, .goto_w 25]),
  (25, [.iload 5, .aload 0, .getfield 703, .if_icmp .ge 121, .aload 0, .invokevirtual 123, .aload 0, .iload 1, .invokevirtual 135, .pop, .aload 0, .getfield 701, .sipush (2), .iload 5, .imul, .sipush (0), .iadd, .iaload, .istore 6, .aload 0, .sipush (2), .iload 5, .imul, .sipush (1), .iadd, .sipush (9), .iload 1, .invokevirtual 154, .pop, .aload 0, .getfield 701, .sipush (2), .iload 5, .imul, .sipush (0), .iadd, .iaload, .iload 6, .isub, .istore 7, .iload 7, .iload 3, .if_icmp .le 98, .iload 5, .goto 100]),
  (98, [.iload 4, .istore 4, .iload 7, .iload 3, .if_icmp .le 113, .iload 7, .goto 114]),
  (100, [.istore 4, .iload 7, .iload 3, .if_icmp .le 113, .iload 7, .goto 114]),
  (113, [.iload 3, .istore 3, .iinc 5 (1), .goto 25]),
  (114, [.istore 3, .iinc 5 (1), .goto 25]),
  (121, [.iload 4, .sipush (-4), .if_icmp .ne 133, .sipush (-4), .goto 143]),
  (133, [.iload 2, .ifCond .ne 142, .iload 4, .goto 143]),
  (142, [.iload 3, .ireturn]),
  (143, [.ireturn])]
def cdX7_place : List (Nat × List ClassFile.Instr) := [(0, [.aload 0, .iload 1, .invokevirtual 121, .ifCond .eq 22, .iload 2, .invokestatic 153, .ifCond .eq 22, .iload 3, .invokestatic 122, .ifCond .ne 24, .sipush (-1), .ireturn]),
  (22, [.sipush (-1), .ireturn]),
  (24, [.aload 0, .iload 1, .invokevirtual 144, .ifCond .ne 35, .sipush (-2), .ireturn]),
  (35, [.sipush (1000000), .istore 4, .sipush (0), .istore 5, .sipush (0), .istore 6, .goto_w 45]),
  (45, [.iload 6, .aload 0, .getfield 703, .if_icmp .ge 102, .aload 0, .sipush (8), .sipush (5), .iload 1, .imul, .iadd, .sipush (1), .iadd, .iload 6, .iload 2, .invokevirtual 154, .istore 7, .iload 7, .iload 4, .if_icmp .ge 83, .iload 6, .goto 85]),
  (83, [.iload 5, .istore 5, .iload 7, .iload 4, .invokestatic 138, .istore 4, .iinc 6 (1), .goto 45]),
  (85, [.istore 5, .iload 7, .iload 4, .invokestatic 138, .istore 4, .iinc 6 (1), .goto 45]),
  (102, [.iload 3, .ifCond .ne 111, .iload 5, .goto 113]),
  (111, [.iload 4, .ireturn]),
  (113, [.ireturn])]
def cdX7_kin : List (Nat × List ClassFile.Instr) := [(0, [.iload 1, .invokestatic 153, .ifCond .eq 14, .iload 2, .invokestatic 122, .ifCond .ne 16, .sipush (-1), .ireturn]),
  (14, [.sipush (-1), .ireturn]),
  (16, [.aload 0, .invokevirtual 123, .aload 0, .iload 1, .invokevirtual 135, .istore 3, .sipush (-4), .istore 4, .sipush (0), .istore 5, .goto_w 33]),
  (33, [.iload 5, .aload 0, .getfield 700, .sipush (38), .iaload, .if_icmp .ge 111, .aload 0, .iload 5, .invokevirtual 144, .ifCond .eq 105, .sipush (8), .sipush (5), .iload 5, .imul, .iadd, .sipush (2), .iadd, .istore 6, .aload 0, .iload 6, .aload 0, .getfield 700, .iload 6, .iaload, .sipush (1), .iadd, .iload 1, .invokevirtual 154, .istore 7, .iload 7, .iload 3, .if_icmp .ge 94, .iload 5, .goto 96]),
  (94, [.iload 4, .istore 4, .iload 7, .iload 3, .invokestatic 138, .istore 3, .iinc 5 (1), .goto 33]),
  (96, [.istore 4, .iload 7, .iload 3, .invokestatic 138, .istore 3, .iinc 5 (1), .goto 33]),
  (105, [.iinc 5 (1), .goto 33]),
  (111, [.iload 4, .sipush (-4), .if_icmp .ne 123, .sipush (-4), .goto 133]),
  (123, [.iload 2, .ifCond .ne 132, .iload 4, .goto 133]),
  (132, [.iload 3, .ireturn]),
  (133, [.ireturn])]
def cdX7_late : List (Nat × List ClassFile.Instr) := [(0, [.iload 1, .invokestatic 153, .ifCond .ne 9, .sipush (-1), .ireturn]),
  (9, [.sipush (1000000), .istore 2, .sipush (1), .istore 3, .sipush (1), .istore 4, .goto_w 17]),
  (17, [.iload 4, .sipush (9), .if_icmp .gt 61, .aload 0, .sipush (41), .iload 4, .iload 1, .invokevirtual 154, .istore 5, .iload 5, .iload 2, .if_icmp .ge 46, .iload 4, .goto 47]),
  (46, [.iload 3, .istore 3, .iload 5, .iload 2, .invokestatic 138, .istore 2, .iinc 4 (1), .goto 17]),
  (47, [.istore 3, .iload 5, .iload 2, .invokestatic 138, .istore 2, .iinc 4 (1), .goto 17]),
  (61, [.iload 3, .ireturn])]
def cdX7_isOrder : List (Nat × List ClassFile.Instr) := [(0, [.iload 1, .istore 2, .sipush (0), .istore 3, .aload 0, .getfield 703, .sipush (1), .isub, .istore 4, .goto_w 12]),
  (12, [.iload 4, .ifCond .lt 55, .aload 0, .getfield 716, .iload 4, .iload 2, .aload 0, .getfield 703, .irem, .iastore, .iload 2, .aload 0, .getfield 703, .idiv, .istore 2, .iload 3, .sipush (1), .aload 0, .getfield 716, .iload 4, .iaload, .ishl, .ior, .istore 3, .iinc 4 (-1), .goto 12]),
  (55, [.iload 3, .sipush (1), .aload 0, .getfield 703, .ishl, .sipush (1), .isub, .if_icmp .ne 71, .sipush (1), .goto 72]),
  (71, [.sipush (0), .ireturn]),
  (72, [.ireturn])]
def cdX7_order : List (Nat × List ClassFile.Instr) := [(0, [.iload 1, .invokestatic 153, .ifCond .eq 26, .iload 2, .ifCond .eq 28, .iload 2, .sipush (10), .isub, .i2l, .jsr (0), .jsr (3), .invokestatic 101, .ifCond .ne 28, .sipush (-1), .ireturn]),
  (26, [.sipush (-1), .ireturn]),
  (28, [.sipush (1), .istore 3, .sipush (0), .istore 4, .goto_w 33]),
  (33, [.iload 4, .aload 0, .getfield 703, .if_icmp .ge 55, .iload 3, .aload 0, .getfield 703, .imul, .istore 3, .iinc 4 (1), .goto 33]),
  (55, [.sipush (1000000), .istore 4, .sipush (0), .istore 5, .sipush (0), .istore 6, .goto_w 65]),
  (65, [.iload 6, .iload 3, .if_icmp .ge 122, .aload 0, .invokevirtual 123, .aload 0, .iload 6, .invokevirtual 161, .ifCond .eq 116, .aload 0, .iload 1, .invokevirtual 135, .istore 7, .iload 7, .iload 4, .if_icmp .ge 103, .iload 6, .goto 105]),
  (103, [.iload 5, .istore 5, .iload 7, .iload 4, .invokestatic 138, .istore 4, .iinc 6 (1), .goto 65]),
  (105, [.istore 5, .iload 7, .iload 4, .invokestatic 138, .istore 4, .iinc 6 (1), .goto 65]),
  (116, [.iinc 6 (1), .goto 65]),
  (122, [.aload 0, .iload 5, .invokevirtual 161, .pop, .iload 2, .ifCond .ne 138, .iload 4, .goto 163]),
  (138, [.iload 2, .sipush (10), .isub, .aload 0, .getfield 703, .if_icmp .ge 161, .aload 0, .getfield 716, .iload 2, .sipush (10), .isub, .iaload, .goto 163]),
  (161, [.sipush (-4), .ireturn]),
  (163, [.ireturn])]
def cdX7_common : List (Nat × List ClassFile.Instr) := [(0, [.lload 0, .lstore 4, .lload 2, .lstore 6, .goto_w 6]),
  (6, [.lload 6, .jsr (0), .lcmp, .ifCond .eq 31, .lload 4, .lload 6, .lrem, .lstore 8, .lload 6, .lstore 4, .lload 8, .lstore 6, .goto 6]),
  (31, [.lload 4, .lreturn])]
def cdX7_told : List (Nat × List ClassFile.Instr) := [(0, [.lload 2, .lload 0, .invokestatic 163, .lstore 5, .iload 4, .ifCond .ne 19, .lload 0, .lload 5, .ldiv, .goto 23]),
  (19, [.lload 2, .lload 5, .ldiv, .lreturn]),
  (23, [.lreturn])]
def cdX7_findOdds : List (Nat × List ClassFile.Instr) := [(0, [.aload 0, .invokevirtual 123, .aload 0, .sipush (0), .invokevirtual 136, .istore 4, .aload 0, .jsr (0), .putfield 719, .aload 0, .jsr (0), .putfield 720, .aload 0, .jsr (1), .putfield 721, .sipush (0), .istore 5, .goto_w 29]),
  (29, [.iload 5, .sipush (6), .if_icmp .ge 69, .aload 0, .dup, .getfield 721, .iload 4, .iload 5, .ishr, .sipush (1), .iand, .sipush (1), .if_icmp .ne 58, .jsr (10), .goto 59]),
  (58, [.jsr (1), .lmul, .putfield 721, .iinc 5 (1), .goto 29]),
  (59, [.lmul, .putfield 721, .iinc 5 (1), .goto 29]),
  (69, [.sipush (0), .istore 5, .goto_w 72]),
  (72, [.iload 5, .sipush (64), .if_icmp .ge 244, .iload 5, .iload 4, .sipush (-1), .ixor, .iand, .ifCond .ne 238, .jsr (1), .lstore 6, .aload 0, .invokevirtual 123, .sipush (0), .istore 8, .goto_w 99]),
  (99, [.iload 8, .aload 0, .getfield 701, .sipush (38), .iaload, .if_icmp .ge 192, .iload 5, .iload 8, .ishr, .sipush (1), .iand, .sipush (1), .if_icmp .ne 126, .sipush (1), .goto 127]),
  (126, [.sipush (0), .istore 9, .lload 6, .iload 4, .iload 8, .ishr, .sipush (1), .iand, .ifCond .ne 145, .jsr (1), .goto 160]),
  (127, [.istore 9, .lload 6, .iload 4, .iload 8, .ishr, .sipush (1), .iand, .ifCond .ne 145, .jsr (1), .goto 160]),
  (145, [.iload 9, .ifCond .eq 155, .iload 1, .i2l, .goto 160]),
  (155, [.sipush (10), .iload 1, .isub, .i2l, .lmul, .lstore 6, .aload 0, .iload 8, .sipush (0), .iload 9, .ifCond .eq 176, .sipush (3), .goto 183]),
  (160, [.lmul, .lstore 6, .aload 0, .iload 8, .sipush (0), .iload 9, .ifCond .eq 176, .sipush (3), .goto 183]),
  (176, [.aload 0, .iload 8, .sipush (0), .invokevirtual 125, .invokevirtual 126, .iinc 8 (1), .goto 99]),
  (183, [.invokevirtual 126, .iinc 8 (1), .goto 99]),
  (192, [.aload 0, .dup, .getfield 719, .lload 6, .aload 0, .iload 3, .invokevirtual 135, .i2l, .lmul, .ladd, .putfield 719, .aload 0, .dup, .getfield 720, .aload 0, .sipush (2), .invokevirtual 136, .iload 2, .ishr, .sipush (1), .iand, .sipush (1), .if_icmp .ne 233, .lload 6, .goto 234]),
  (233, [.jsr (0), .ladd, .putfield 720, .iinc 5 (1), .goto 72]),
  (234, [.ladd, .putfield 720, .iinc 5 (1), .goto 72]),
  (238, [.iinc 5 (1), .goto 72]),
  (244, [.return_])]
def cdX7_mean : List (Nat × List ClassFile.Instr) := [(0, [.iload 1, .i2l, .jsr (0), .jsr (10), .invokestatic 101, .ifCond .eq 26, .iload 2, .invokestatic 153, .ifCond .eq 26, .iload 3, .invokestatic 122, .ifCond .ne 30, .jsr (-1), .lreturn]),
  (26, [.jsr (-1), .lreturn]),
  (30, [.aload 0, .iload 1, .sipush (0), .iload 2, .invokevirtual 165, .aload 0, .getfield 719, .aload 0, .getfield 721, .iload 3, .invokestatic 164, .lreturn])]
def cdX7_luck : List (Nat × List ClassFile.Instr) := [(0, [.iload 1, .i2l, .jsr (0), .jsr (10), .invokestatic 101, .ifCond .eq 35, .aload 0, .iload 2, .invokevirtual 121, .ifCond .eq 35, .iload 3, .invokestatic 153, .ifCond .eq 35, .iload 4, .invokestatic 122, .ifCond .ne 39, .jsr (-1), .lreturn]),
  (35, [.jsr (-1), .lreturn]),
  (39, [.aload 0, .iload 1, .iload 2, .iload 3, .invokevirtual 165, .aload 0, .getfield 720, .aload 0, .getfield 721, .iload 4, .invokestatic 164, .lreturn])]
def cdX7_see : List (Nat × List ClassFile.Instr) := [(0, [.aload 0, .iload 1, .invokevirtual 121, .ifCond .eq 28, .iload 2, .i2l, .jsr (0), .jsr (9), .invokestatic 101, .ifCond .eq 28, .aload 0, .iload 3, .invokevirtual 120, .ifCond .ne 30, .sipush (-1), .ireturn]),
  (28, [.sipush (-1), .ireturn]),
  (30, [.aload 0, .getfield 700, .sipush (44), .iaload, .sipush (6), .if_icmp .ne 45, .sipush (-3), .ireturn]),
  (45, [.sipush (45), .sipush (3), .aload 0, .getfield 700, .sipush (44), .iaload, .imul, .iadd, .istore 4, .aload 0, .getfield 700, .iload 4, .iload 1, .iastore, .aload 0, .getfield 700, .iload 4, .sipush (1), .iadd, .iload 2, .iastore, .aload 0, .getfield 700, .iload 4, .sipush (2), .iadd, .iload 3, .iastore, .aload 0, .getfield 700, .sipush (44), .dup2, .iaload, .sipush (1), .iadd, .iastore, .aload 0, .getfield 700, .sipush (44), .iaload, .ireturn])]
def cdX7_forget : List (Nat × List ClassFile.Instr) := [(0, [.iload 1, .i2l, .jsr (0), .aload 0, .getfield 700, .sipush (44), .iaload, .i2l, .invokestatic 101, .ifCond .eq 27, .aload 0, .sipush (44), .iload 1, .invokevirtual 142, .goto 28]),
  (27, [.sipush (-1), .ireturn]),
  (28, [.ireturn])]
def cdX7_isSoWith : List (Nat × List ClassFile.Instr) := [(0, [.aload 0, .invokevirtual 123, .aload 0, .getfield 701, .iload 1, .iload 2, .iastore, .sipush (0), .istore 3, .goto_w 13]),
  (13, [.iload 3, .sipush (9), .if_icmp .gt 69, .sipush (0), .istore 4, .goto_w 22]),
  (22, [.iload 4, .aload 0, .getfield 701, .sipush (38), .iaload, .if_icmp .ge 59, .aload 0, .getfield 722, .sipush (6), .iload 3, .imul, .iload 4, .iadd, .aload 0, .iload 4, .sipush (1), .invokevirtual 125, .iastore, .iinc 4 (1), .goto 22]),
  (59, [.aload 0, .invokevirtual 133, .iinc 3 (1), .goto 13]),
  (69, [.sipush (1), .istore 3, .sipush (0), .istore 4, .goto_w 74]),
  (74, [.iload 4, .aload 0, .getfield 700, .sipush (44), .iaload, .if_icmp .ge 148, .sipush (45), .sipush (3), .iload 4, .imul, .iadd, .istore 5, .iload 3, .ifCond .eq 140, .aload 0, .getfield 722, .sipush (6), .aload 0, .getfield 700, .iload 5, .sipush (1), .iadd, .iaload, .imul, .aload 0, .getfield 700, .iload 5, .iaload, .iadd, .iaload, .aload 0, .getfield 700, .iload 5, .sipush (2), .iadd, .iaload, .if_icmp .ne 140, .sipush (1), .goto 141]),
  (140, [.sipush (0), .istore 3, .iinc 4 (1), .goto 74]),
  (141, [.istore 3, .iinc 4 (1), .goto 74]),
  (148, [.iload 3, .ireturn])]
def cdX7_kindsOf : List (Nat × List ClassFile.Instr) := [(0, [.sipush (0), .istore 2, .sipush (0), .istore 3, .goto_w 4]),
  (4, [.iload 3, .sipush (4), .if_icmp .ge 36, .iload 2, .aload 0, .sipush (8), .sipush (5), .iload 1, .imul, .iadd, .sipush (0), .iadd, .iload 3, .invokevirtual 170, .invokestatic 102, .iload 3, .ishl, .ior, .istore 2, .iinc 3 (1), .goto 4]),
  (36, [.iload 2, .ireturn])]
def cdX7_kinds : List (Nat × List ClassFile.Instr) := [(0, [.aload 0, .iload 1, .invokevirtual 121, .ifCond .eq 16, .aload 0, .iload 1, .invokevirtual 171, .goto 17]),
  (16, [.sipush (-1), .ireturn]),
  (17, [.ireturn])]
def cdX7_fathers : List (Nat × List ClassFile.Instr) := [(0, [.aload 0, .iload 1, .invokevirtual 121, .ifCond .ne 10, .sipush (-1), .ireturn]),
  (10, [.sipush (0), .istore 2, .sipush (0), .istore 3, .goto_w 14]),
  (14, [.iload 3, .sipush (9), .if_icmp .gt 47, .iload 2, .aload 0, .sipush (8), .sipush (5), .iload 1, .imul, .iadd, .sipush (2), .iadd, .iload 3, .invokevirtual 170, .invokestatic 102, .iload 3, .ishl, .ior, .istore 2, .iinc 3 (1), .goto 14]),
  (47, [.iload 2, .ireturn])]
def cdX7_look : List (Nat × List ClassFile.Instr) := [(0, [.aload 0, .iload 1, .invokevirtual 121, .ifCond .eq 15, .iload 2, .invokestatic 122, .ifCond .ne 17, .sipush (-1), .ireturn]),
  (15, [.sipush (-1), .ireturn]),
  (17, [.sipush (0), .istore 3, .sipush (-4), .istore 4, .sipush (0), .istore 5, .goto_w 26]),
  (26, [.iload 5, .sipush (40), .if_icmp .ge 47, .aload 0, .getfield 723, .iload 5, .sipush (0), .iastore, .iinc 5 (1), .goto 26]),
  (47, [.sipush (0), .istore 5, .goto_w 50]),
  (50, [.iload 5, .sipush (4), .if_icmp .ge 124, .aload 0, .sipush (8), .sipush (5), .iload 1, .imul, .iadd, .sipush (0), .iadd, .iload 5, .invokevirtual 170, .ifCond .eq 118, .iinc 3 (1), .sipush (0), .istore 6, .goto_w 79]),
  (79, [.iload 6, .sipush (9), .if_icmp .gt 118, .aload 0, .getfield 723, .sipush (4), .iload 6, .imul, .aload 0, .getfield 722, .sipush (6), .iload 6, .imul, .iload 1, .iadd, .iaload, .iadd, .dup2, .iaload, .sipush (1), .iadd, .iastore, .iinc 6 (1), .goto 79]),
  (118, [.iinc 5 (1), .goto 50]),
  (124, [.sipush (0), .istore 5, .goto_w 127]),
  (127, [.iload 5, .sipush (9), .if_icmp .gt 216, .sipush (0), .istore 6, .sipush (0), .istore 7, .goto_w 140]),
  (140, [.iload 7, .sipush (4), .if_icmp .ge 188, .aload 0, .getfield 723, .sipush (4), .iload 5, .imul, .iload 7, .iadd, .iaload, .iload 6, .if_icmp .le 178, .aload 0, .getfield 723, .sipush (4), .iload 5, .imul, .iload 7, .iadd, .iaload, .goto 180]),
  (178, [.iload 6, .istore 6, .iinc 7 (1), .goto 140]),
  (180, [.istore 6, .iinc 7 (1), .goto 140]),
  (188, [.iload 6, .iload 3, .if_icmp .ge 199, .iload 5, .goto 201]),
  (199, [.iload 4, .istore 4, .iload 6, .iload 3, .invokestatic 138, .istore 3, .iinc 5 (1), .goto 127]),
  (201, [.istore 4, .iload 6, .iload 3, .invokestatic 138, .istore 3, .iinc 5 (1), .goto 127]),
  (216, [.iload 4, .sipush (-4), .if_icmp .ne 228, .sipush (-4), .goto 238]),
  (228, [.iload 2, .ifCond .ne 237, .iload 4, .goto 238]),
  (237, [.iload 3, .ireturn]),
  (238, [.ireturn])]
def cdX7_drift : List (Nat × List ClassFile.Instr) := [(0, [.iload 2, .i2l, .jsr (1), .jsr (60), .invokestatic 101, .ifCond .eq 19, .iload 3, .invokestatic 122, .ifCond .ne 21, .sipush (-1), .ireturn]),
  (19, [.sipush (-1), .ireturn]),
  (21, [.aload 0, .getfield 703, .ifCond .ne 31, .sipush (-2), .ireturn]),
  (31, [.iload 1, .istore 4, .aload 0, .invokevirtual 123, .aload 0, .invokevirtual 134, .istore 5, .sipush (0), .istore 6, .goto_w 47]),
  (47, [.iload 6, .iload 2, .if_icmp .ge 110, .iload 4, .sipush (1103515245), .imul, .sipush (12345), .iadd, .istore 4, .iload 4, .sipush (16), .ishr, .sipush (32767), .iand, .istore 7, .aload 0, .getfield 701, .sipush (2), .iload 7, .aload 0, .getfield 703, .irem, .imul, .sipush (1), .iadd, .iload 7, .sipush (8), .idiv, .sipush (10), .irem, .iastore, .aload 0, .invokevirtual 133, .iinc 6 (1), .goto 47]),
  (110, [.iload 3, .ifCond .ne 124, .iload 5, .aload 0, .invokevirtual 134, .isub, .goto 129]),
  (124, [.aload 0, .sipush (2), .invokevirtual 136, .ireturn]),
  (129, [.ireturn])]
def cdX7_copies : List (Nat × List ClassFile.Instr) := [(0, [.sipush (0), .istore 3, .goto_w 2]),
  (2, [.iload 3, .sipush (63), .if_icmp .ge 30, .aload 0, .getfield 700, .iload 1, .iload 3, .iadd, .aload 0, .getfield 700, .iload 2, .iload 3, .iadd, .iaload, .iastore, .iinc 3 (1), .goto 2]),
  (30, [.return_])]
def cdX7_keep : List (Nat × List ClassFile.Instr) := [(0, [.iload 1, .i2l, .jsr (0), .jsr (1), .invokestatic 101, .ifCond .ne 12, .sipush (-1), .ireturn]),
  (12, [.aload 0, .getfield 702, .iload 1, .baload, .invokestatic 102, .istore 2, .aload 0, .getfield 702, .iload 1, .sipush (1), .bastore, .aload 0, .sipush (63), .iload 1, .sipush (1), .iadd, .imul, .sipush (0), .invokevirtual 176, .iload 2, .ireturn])]
def cdX7_back : List (Nat × List ClassFile.Instr) := [(0, [.iload 1, .i2l, .jsr (0), .jsr (1), .invokestatic 101, .ifCond .ne 12, .sipush (-1), .ireturn]),
  (12, [.aload 0, .getfield 702, .iload 1, .baload, .ifCond .ne 24, .sipush (-2), .ireturn]),
  (24, [.aload 0, .sipush (0), .sipush (63), .iload 1, .sipush (1), .iadd, .imul, .invokevirtual 176, .aload 0, .getfield 700, .sipush (42), .iaload, .ireturn])]
def cdX7_isSheet : List (Nat × List ClassFile.Instr) := [(0, [.iload 0, .i2l, .jsr (0), .jsr (3), .invokestatic 101, .ifCond .eq 28, .iload 1, .i2l, .jsr (0), .jsr (2), .invokestatic 101, .ifCond .eq 28, .sipush (1), .goto 29]),
  (28, [.sipush (0), .ireturn]),
  (29, [.ireturn])]
def cdX7_sheet : List (Nat × List ClassFile.Instr) := [(0, [.iload 1, .iload 2, .invokestatic 179, .ifCond .eq 14, .iload 3, .sipush (40), .if_icmp .le 16, .sipush (-1), .ireturn]),
  (14, [.sipush (-1), .ireturn]),
  (16, [.iload 3, .ifCond .ge 23, .sipush (-14), .ireturn]),
  (23, [.aload 0, .getfield 724, .iload 1, .iload 2, .iastore, .aload 0, .getfield 725, .iload 1, .iload 3, .iastore, .sipush (0), .istore 4, .goto_w 40]),
  (40, [.iload 4, .sipush (40), .if_icmp .ge 66, .aload 0, .getfield 726, .sipush (40), .iload 1, .imul, .iload 4, .iadd, .sipush (0), .iastore, .iinc 4 (1), .goto 40]),
  (66, [.sipush (1), .ireturn])]
def cdX7_lay : List (Nat × List ClassFile.Instr) := [(0, [.iload 1, .sipush (0), .invokestatic 179, .ifCond .ne 10, .sipush (-1), .ireturn]),
  (10, [.aload 0, .getfield 724, .iload 1, .iaload, .sipush (-4), .if_icmp .ne 24, .sipush (-11), .ireturn]),
  (24, [.iload 2, .i2l, .jsr (0), .aload 0, .getfield 725, .iload 1, .iaload, .sipush (1), .isub, .i2l, .invokestatic 101, .ifCond .ne 45, .sipush (-12), .ireturn]),
  (45, [.aload 0, .getfield 726, .sipush (40), .iload 1, .imul, .iload 2, .iadd, .aload 0, .getfield 724, .iload 1, .iaload, .ifCond .ne 69, .iload 3, .i2b, .goto 85]),
  (69, [.aload 0, .getfield 724, .iload 1, .iaload, .sipush (1), .if_icmp .ne 84, .iload 3, .i2s, .goto 85]),
  (84, [.iload 3, .iastore, .sipush (1), .ireturn]),
  (85, [.iastore, .sipush (1), .ireturn])]
def cdX7_read : List (Nat × List ClassFile.Instr) := [(0, [.iload 1, .iload 2, .invokestatic 179, .ifCond .eq 21, .iload 4, .i2l, .jsr (0), .jsr (20), .invokestatic 101, .ifCond .ne 23, .sipush (-1), .ireturn]),
  (21, [.sipush (-1), .ireturn]),
  (23, [.sipush (0), .istore 5, .goto_w 26]),
  (26, [.iload 5, .sipush (63), .if_icmp .ge 53, .aload 0, .getfield 728, .iload 5, .aload 0, .getfield 700, .iload 5, .iaload, .iastore, .iinc 5 (1), .goto 26]),
  (53, [.sipush (0), .istore 5, .sipush (0), .istore 6, .sipush (0), .istore 7, .goto_w 62]),
  (62, [.iload 7, .iload 4, .if_icmp .ge 252, .iload 5, .ifCond .ne 252, .sipush (0), .istore 8, .goto_w 77]),
  (77, [.iload 8, .sipush (2), .if_icmp .ge 164, .iload 5, .ifCond .ne 164, .iload 3, .i2l, .sipush (2), .iload 7, .imul, .i2l, .ladd, .iload 8, .i2l, .ladd, .lstore 9, .aload 0, .getfield 724, .iload 1, .iaload, .sipush (-4), .if_icmp .ne 117, .sipush (1), .goto 156]),
  (117, [.aload 0, .getfield 724, .iload 1, .iaload, .iload 2, .if_icmp .eq 131, .sipush (3), .goto 156]),
  (131, [.lload 9, .jsr (0), .lcmp, .ifCond .lt 151, .lload 9, .aload 0, .getfield 725, .iload 1, .iaload, .i2l, .lcmp, .ifCond .lt 155, .sipush (2), .goto 156]),
  (151, [.sipush (2), .goto 156]),
  (155, [.sipush (0), .istore 5, .iinc 8 (1), .goto 77]),
  (156, [.istore 5, .iinc 8 (1), .goto 77]),
  (164, [.iload 5, .ifCond .ne 246, .sipush (40), .iload 1, .imul, .iload 3, .iadd, .sipush (2), .iload 7, .imul, .iadd, .istore 8, .aload 0, .aload 0, .getfield 726, .iload 8, .iaload, .aload 0, .getfield 726, .iload 8, .sipush (1), .iadd, .iaload, .sipush (0), .sipush (0), .invokevirtual 147, .ifCond .ge 243, .sipush (0), .istore 9, .goto_w 210]),
  (210, [.iload 9, .sipush (63), .if_icmp .ge 237, .aload 0, .getfield 700, .iload 9, .aload 0, .getfield 728, .iload 9, .iaload, .iastore, .iinc 9 (1), .goto 210]),
  (237, [.sipush (-20), .iload 7, .isub, .ireturn]),
  (243, [.iinc 6 (1), .iinc 7 (1), .goto 62]),
  (246, [.iinc 7 (1), .goto 62]),
  (252, [.aload 0, .iload 5, .putfield 727, .iload 6, .ireturn])]
def cdX7_torn : List (Nat × List ClassFile.Instr) := [(0, [.aload 0, .getfield 727, .ireturn])]
def cdX7_count : List (Nat × List ClassFile.Instr) := [(0, [.aload 0, .invokevirtual 123, .sipush (0), .istore 2, .sipush (0), .istore 3, .goto_w 8]),
  (8, [.iload 3, .aload 0, .getfield 701, .sipush (38), .iaload, .if_icmp .ge 46, .iload 2, .aload 0, .iload 3, .sipush (4), .invokevirtual 125, .ifCond .ne 37, .aload 0, .iload 3, .invokevirtual 129, .goto 38]),
  (37, [.sipush (0), .iadd, .istore 2, .iinc 3 (1), .goto 8]),
  (38, [.iadd, .istore 2, .iinc 3 (1), .goto 8]),
  (46, [.iload 1, .tableswitch 147 (0) (5) #[84, 89, 97, 117, 122, 145]]),
  (84, [.aload 0, .invokevirtual 134, .ireturn]),
  (89, [.aload 0, .getfield 700, .sipush (44), .iaload, .ireturn]),
  (97, [.aload 0, .getfield 702, .sipush (0), .baload, .invokestatic 102, .aload 0, .getfield 702, .sipush (1), .baload, .invokestatic 102, .iadd, .ireturn]),
  (117, [.aload 0, .getfield 709, .ireturn]),
  (122, [.aload 0, .getfield 724, .sipush (0), .iaload, .sipush (-4), .if_icmp .ne 138, .sipush (-4), .goto 144]),
  (138, [.aload 0, .getfield 725, .sipush (0), .iaload, .ireturn]),
  (144, [.ireturn]),
  (145, [.iload 2, .ireturn]),
  (147, [.sipush (-1), .ireturn])]
def cdJ6_bitCount_0f7a4 : List (Nat × List ClassFile.Instr) := [(0, [.iload 0, .iload 0, .sipush (1), .iushr, .sipush (1431655765), .iand, .isub, .istore 0, .iload 0, .sipush (858993459), .iand, .iload 0, .sipush (2), .iushr, .sipush (858993459), .iand, .iadd, .istore 0, .iload 0, .iload 0, .sipush (4), .iushr, .iadd, .sipush (252645135), .iand, .istore 0, .iload 0, .iload 0, .sipush (8), .iushr, .iadd, .istore 0, .iload 0, .iload 0, .sipush (16), .iushr, .iadd, .istore 0, .iload 0, .sipush (63), .iand, .ireturn])]
def cdL_law : List (Nat × List ClassFile.Instr) := [(18, [.iload 3, .aload 0, .arraylength, .sipush (5), .isub, .if_icmp .gt 1400, .aload 0, .iload 3, .iaload, .sipush (63), .iand, .tableswitch 1394 (0) (37) #[200, 223, 246, 259, 272, 295, 328, 361, 404, 447, 480, 533, 556, 579, 612, 655, 678, 701, 724, 757, 800, 833, 856, 889, 932, 985, 1028, 1051, 1074, 1097, 1130, 1173, 1196, 1219, 1262, 1305, 1358, 1371]]),
  (200, [.aload 1, .aload 0, .iload 3, .sipush (1), .iadd, .iaload, .invokevirtual 43, .pop, .aload 2, .aload 0, .iload 3, .sipush (1), .iadd, .iaload, .invokevirtual 105, .pop, .goto 1394]),
  (223, [.aload 1, .aload 0, .iload 3, .sipush (1), .iadd, .iaload, .invokevirtual 44, .pop, .aload 2, .aload 0, .iload 3, .sipush (1), .iadd, .iaload, .invokevirtual 106, .pop, .goto 1394]),
  (246, [.aload 1, .invokevirtual 45, .pop, .aload 2, .invokevirtual 118, .pop, .goto 1394]),
  (259, [.aload 1, .invokevirtual 46, .pop, .aload 2, .invokevirtual 119, .pop, .goto 1394]),
  (272, [.aload 1, .aload 0, .iload 3, .sipush (1), .iadd, .iaload, .invokevirtual 47, .pop, .aload 2, .aload 0, .iload 3, .sipush (1), .iadd, .iaload, .invokevirtual 139, .pop, .goto 1394]),
  (295, [.aload 1, .aload 0, .iload 3, .sipush (1), .iadd, .iaload, .aload 0, .iload 3, .sipush (2), .iadd, .iaload, .invokevirtual 48, .pop, .aload 2, .aload 0, .iload 3, .sipush (1), .iadd, .iaload, .aload 0, .iload 3, .sipush (2), .iadd, .iaload, .invokevirtual 140, .pop, .goto 1394]),
  (328, [.aload 1, .aload 0, .iload 3, .sipush (1), .iadd, .iaload, .aload 0, .iload 3, .sipush (2), .iadd, .iaload, .invokevirtual 49, .pop, .aload 2, .aload 0, .iload 3, .sipush (1), .iadd, .iaload, .aload 0, .iload 3, .sipush (2), .iadd, .iaload, .invokevirtual 141, .pop, .goto 1394]),
  (361, [.aload 1, .aload 0, .iload 3, .sipush (1), .iadd, .iaload, .aload 0, .iload 3, .sipush (2), .iadd, .iaload, .aload 0, .iload 3, .sipush (3), .iadd, .iaload, .invokevirtual 50, .pop, .aload 2, .aload 0, .iload 3, .sipush (1), .iadd, .iaload, .aload 0, .iload 3, .sipush (2), .iadd, .iaload, .aload 0, .iload 3, .sipush (3), .iadd, .iaload, .invokevirtual 143, .pop, .goto 1394]),
  (404, [.aload 1, .aload 0, .iload 3, .sipush (1), .iadd, .iaload, .aload 0, .iload 3, .sipush (2), .iadd, .iaload, .aload 0, .iload 3, .sipush (3), .iadd, .iaload, .invokevirtual 51, .pop, .aload 2, .aload 0, .iload 3, .sipush (1), .iadd, .iaload, .aload 0, .iload 3, .sipush (2), .iadd, .iaload, .aload 0, .iload 3, .sipush (3), .iadd, .iaload, .invokevirtual 145, .pop, .goto 1394]),
  (447, [.aload 1, .aload 0, .iload 3, .sipush (1), .iadd, .iaload, .aload 0, .iload 3, .sipush (2), .iadd, .iaload, .invokevirtual 53, .pop, .aload 2, .aload 0, .iload 3, .sipush (1), .iadd, .iaload, .aload 0, .iload 3, .sipush (2), .iadd, .iaload, .invokevirtual 146, .pop, .goto 1394]),
  (480, [.aload 1, .aload 0, .iload 3, .sipush (1), .iadd, .iaload, .aload 0, .iload 3, .sipush (2), .iadd, .iaload, .aload 0, .iload 3, .sipush (3), .iadd, .iaload, .aload 0, .iload 3, .sipush (4), .iadd, .iaload, .invokevirtual 54, .pop, .aload 2, .aload 0, .iload 3, .sipush (1), .iadd, .iaload, .aload 0, .iload 3, .sipush (2), .iadd, .iaload, .aload 0, .iload 3, .sipush (3), .iadd, .iaload, .aload 0, .iload 3, .sipush (4), .iadd, .iaload, .invokevirtual 147, .pop, .goto 1394]),
  (533, [.aload 1, .aload 0, .iload 3, .sipush (1), .iadd, .iaload, .invokevirtual 56, .pop, .aload 2, .aload 0, .iload 3, .sipush (1), .iadd, .iaload, .invokevirtual 148, .pop, .goto 1394]),
  (556, [.aload 1, .aload 0, .iload 3, .sipush (1), .iadd, .iaload, .invokevirtual 57, .pop, .aload 2, .aload 0, .iload 3, .sipush (1), .iadd, .iaload, .invokevirtual 149, .pop, .goto 1394]),
  (579, [.aload 1, .aload 0, .iload 3, .sipush (1), .iadd, .iaload, .aload 0, .iload 3, .sipush (2), .iadd, .iaload, .invokevirtual 58, .pop, .aload 2, .aload 0, .iload 3, .sipush (1), .iadd, .iaload, .aload 0, .iload 3, .sipush (2), .iadd, .iaload, .invokevirtual 150, .pop, .goto 1394]),
  (612, [.aload 1, .aload 0, .iload 3, .sipush (1), .iadd, .iaload, .aload 0, .iload 3, .sipush (2), .iadd, .iaload, .aload 0, .iload 3, .sipush (3), .iadd, .iaload, .invokevirtual 59, .pop, .aload 2, .aload 0, .iload 3, .sipush (1), .iadd, .iaload, .aload 0, .iload 3, .sipush (2), .iadd, .iaload, .aload 0, .iload 3, .sipush (3), .iadd, .iaload, .invokevirtual 151, .pop, .goto 1394]),
  (655, [.aload 1, .aload 0, .iload 3, .sipush (1), .iadd, .iaload, .invokevirtual 60, .pop, .aload 2, .aload 0, .iload 3, .sipush (1), .iadd, .iaload, .invokevirtual 152, .pop, .goto 1394]),
  (678, [.aload 1, .aload 0, .iload 3, .sipush (1), .iadd, .iaload, .invokevirtual 61, .pop, .aload 2, .aload 0, .iload 3, .sipush (1), .iadd, .iaload, .invokevirtual 155, .pop, .goto 1394]),
  (701, [.aload 1, .aload 0, .iload 3, .sipush (1), .iadd, .iaload, .invokevirtual 63, .pop, .aload 2, .aload 0, .iload 3, .sipush (1), .iadd, .iaload, .invokevirtual 156, .pop, .goto 1394]),
  (724, [.aload 1, .aload 0, .iload 3, .sipush (1), .iadd, .iaload, .aload 0, .iload 3, .sipush (2), .iadd, .iaload, .invokevirtual 64, .pop, .aload 2, .aload 0, .iload 3, .sipush (1), .iadd, .iaload, .aload 0, .iload 3, .sipush (2), .iadd, .iaload, .invokevirtual 157, .pop, .goto 1394]),
  (757, [.aload 1, .aload 0, .iload 3, .sipush (1), .iadd, .iaload, .aload 0, .iload 3, .sipush (2), .iadd, .iaload, .aload 0, .iload 3, .sipush (3), .iadd, .iaload, .invokevirtual 66, .pop, .aload 2, .aload 0, .iload 3, .sipush (1), .iadd, .iaload, .aload 0, .iload 3, .sipush (2), .iadd, .iaload, .aload 0, .iload 3, .sipush (3), .iadd, .iaload, .invokevirtual 158, .pop, .goto 1394]),
  (800, [.aload 1, .aload 0, .iload 3, .sipush (1), .iadd, .iaload, .aload 0, .iload 3, .sipush (2), .iadd, .iaload, .invokevirtual 67, .pop, .aload 2, .aload 0, .iload 3, .sipush (1), .iadd, .iaload, .aload 0, .iload 3, .sipush (2), .iadd, .iaload, .invokevirtual 159, .pop, .goto 1394]),
  (833, [.aload 1, .aload 0, .iload 3, .sipush (1), .iadd, .iaload, .invokevirtual 68, .pop, .aload 2, .aload 0, .iload 3, .sipush (1), .iadd, .iaload, .invokevirtual 160, .pop, .goto 1394]),
  (856, [.aload 1, .aload 0, .iload 3, .sipush (1), .iadd, .iaload, .aload 0, .iload 3, .sipush (2), .iadd, .iaload, .invokevirtual 69, .pop, .aload 2, .aload 0, .iload 3, .sipush (1), .iadd, .iaload, .aload 0, .iload 3, .sipush (2), .iadd, .iaload, .invokevirtual 162, .pop, .goto 1394]),
  (889, [.aload 1, .aload 0, .iload 3, .sipush (1), .iadd, .iaload, .aload 0, .iload 3, .sipush (2), .iadd, .iaload, .aload 0, .iload 3, .sipush (3), .iadd, .iaload, .invokevirtual 74, .pop2, .aload 2, .aload 0, .iload 3, .sipush (1), .iadd, .iaload, .aload 0, .iload 3, .sipush (2), .iadd, .iaload, .aload 0, .iload 3, .sipush (3), .iadd, .iaload, .invokevirtual 166, .pop2, .goto 1394]),
  (932, [.aload 1, .aload 0, .iload 3, .sipush (1), .iadd, .iaload, .aload 0, .iload 3, .sipush (2), .iadd, .iaload, .aload 0, .iload 3, .sipush (3), .iadd, .iaload, .aload 0, .iload 3, .sipush (4), .iadd, .iaload, .invokevirtual 75, .pop2, .aload 2, .aload 0, .iload 3, .sipush (1), .iadd, .iaload, .aload 0, .iload 3, .sipush (2), .iadd, .iaload, .aload 0, .iload 3, .sipush (3), .iadd, .iaload, .aload 0, .iload 3, .sipush (4), .iadd, .iaload, .invokevirtual 167, .pop2, .goto 1394]),
  (985, [.aload 1, .aload 0, .iload 3, .sipush (1), .iadd, .iaload, .aload 0, .iload 3, .sipush (2), .iadd, .iaload, .aload 0, .iload 3, .sipush (3), .iadd, .iaload, .invokevirtual 82, .pop, .aload 2, .aload 0, .iload 3, .sipush (1), .iadd, .iaload, .aload 0, .iload 3, .sipush (2), .iadd, .iaload, .aload 0, .iload 3, .sipush (3), .iadd, .iaload, .invokevirtual 168, .pop, .goto 1394]),
  (1028, [.aload 1, .aload 0, .iload 3, .sipush (1), .iadd, .iaload, .invokevirtual 83, .pop, .aload 2, .aload 0, .iload 3, .sipush (1), .iadd, .iaload, .invokevirtual 169, .pop, .goto 1394]),
  (1051, [.aload 1, .aload 0, .iload 3, .sipush (1), .iadd, .iaload, .invokevirtual 84, .pop, .aload 2, .aload 0, .iload 3, .sipush (1), .iadd, .iaload, .invokevirtual 172, .pop, .goto 1394]),
  (1074, [.aload 1, .aload 0, .iload 3, .sipush (1), .iadd, .iaload, .invokevirtual 85, .pop, .aload 2, .aload 0, .iload 3, .sipush (1), .iadd, .iaload, .invokevirtual 173, .pop, .goto 1394]),
  (1097, [.aload 1, .aload 0, .iload 3, .sipush (1), .iadd, .iaload, .aload 0, .iload 3, .sipush (2), .iadd, .iaload, .invokevirtual 88, .pop, .aload 2, .aload 0, .iload 3, .sipush (1), .iadd, .iaload, .aload 0, .iload 3, .sipush (2), .iadd, .iaload, .invokevirtual 174, .pop, .goto 1394]),
  (1130, [.aload 1, .aload 0, .iload 3, .sipush (1), .iadd, .iaload, .aload 0, .iload 3, .sipush (2), .iadd, .iaload, .aload 0, .iload 3, .sipush (3), .iadd, .iaload, .invokevirtual 91, .aload 2, .aload 0, .iload 3, .sipush (1), .iadd, .iaload, .aload 0, .iload 3, .sipush (2), .iadd, .iaload, .aload 0, .iload 3, .sipush (3), .iadd, .iaload, .invokevirtual 175, .if_icmp .eq 1394, .sipush (0), .ireturn]),
  (1173, [.aload 1, .aload 0, .iload 3, .sipush (1), .iadd, .iaload, .invokevirtual 92, .pop, .aload 2, .aload 0, .iload 3, .sipush (1), .iadd, .iaload, .invokevirtual 177, .pop, .goto 1394]),
  (1196, [.aload 1, .aload 0, .iload 3, .sipush (1), .iadd, .iaload, .invokevirtual 93, .pop, .aload 2, .aload 0, .iload 3, .sipush (1), .iadd, .iaload, .invokevirtual 178, .pop, .goto 1394]),
  (1219, [.aload 1, .aload 0, .iload 3, .sipush (1), .iadd, .iaload, .aload 0, .iload 3, .sipush (2), .iadd, .iaload, .aload 0, .iload 3, .sipush (3), .iadd, .iaload, .invokevirtual 94, .pop, .aload 2, .aload 0, .iload 3, .sipush (1), .iadd, .iaload, .aload 0, .iload 3, .sipush (2), .iadd, .iaload, .aload 0, .iload 3, .sipush (3), .iadd, .iaload, .invokevirtual 180, .pop, .goto 1394]),
  (1262, [.aload 1, .aload 0, .iload 3, .sipush (1), .iadd, .iaload, .aload 0, .iload 3, .sipush (2), .iadd, .iaload, .aload 0, .iload 3, .sipush (3), .iadd, .iaload, .invokevirtual 95, .pop, .aload 2, .aload 0, .iload 3, .sipush (1), .iadd, .iaload, .aload 0, .iload 3, .sipush (2), .iadd, .iaload, .aload 0, .iload 3, .sipush (3), .iadd, .iaload, .invokevirtual 181, .pop, .goto 1394]),
  (1305, [.aload 1, .aload 0, .iload 3, .sipush (1), .iadd, .iaload, .aload 0, .iload 3, .sipush (2), .iadd, .iaload, .aload 0, .iload 3, .sipush (3), .iadd, .iaload, .aload 0, .iload 3, .sipush (4), .iadd, .iaload, .invokevirtual 96, .pop, .aload 2, .aload 0, .iload 3, .sipush (1), .iadd, .iaload, .aload 0, .iload 3, .sipush (2), .iadd, .iaload, .aload 0, .iload 3, .sipush (3), .iadd, .iaload, .aload 0, .iload 3, .sipush (4), .iadd, .iaload, .invokevirtual 182, .pop, .goto 1394]),
  (1358, [.aload 1, .invokevirtual 97, .pop, .aload 2, .invokevirtual 183, .pop, .goto 1394]),
  (1371, [.aload 1, .aload 0, .iload 3, .sipush (1), .iadd, .iaload, .invokevirtual 98, .pop, .aload 2, .aload 0, .iload 3, .sipush (1), .iadd, .iaload, .invokevirtual 184, .pop, .goto 1394]),
  (1394, [.iinc 3 (5), .goto 18]),
  (1400, [.sipush (1), .ireturn])]
def cdL : List (List (Nat × List ClassFile.Instr)) := [cdX1_renew, cdX1_faultAt, cdX1_faultOfPair, cdX1_put, cdX2_add, cdX2_fit, cdX2_become, cdX3_append, cdX3_take, cdX3_passRun, cdX3_number, cdX3_isWord, cdX4_tell, cdX4_takeLine, cdX4_hasNoRoom, cdX4_takeNumbers, cdX4_most, cdX4_enter, cdX4_checkPlaces, cdX4_expect, cdX4_refuse, cdX4_lineOf, cdX4_word, cdX5_clear, cdX5_takeTurnsByNumber, cdX5_become, cdX5_hasVillage, cdX5_hasBody, cdX5_addVillage, cdX5_addBody, cdX5_bodyRow, cdX5_lacksOfFather, cdX5_lacks, cdX5_lacksOfLying, cdX5_inWay, cdX5_lyingAt, cdX5_allMeans, cdX5_pass, cdX5_passOne, cdX5_takeTurn, cdX5_firstLyingAt, cdX5_handOn, cdX5_fineAll, cdX6_feed, cdX6_end, cdX6_text, cdX6_fault, cdX6_rule, cdX6_village, cdX6_body, cdX6_grant, cdX6_alter, cdX6_mayBecome, cdX6_set, cdX6_find, cdX6_addFound, cdX6_hire, cdX6_nights, cdX6_runs, cdX6_ahead, cdX6_settled, cdX6_dear, cdX6_provedByPrice, cdX6_mild, cdX6_watch, cdX6_meansBehind, cdX6_place, cdX6_kin, cdX6_late, cdX6_order, cdX6_findBestTurns, cdX6_paidByTurns, cdX6_arrangeNext, cdX6_swap, cdX6_mean, cdX6_luck, cdX6_weighAll, cdX6_weightOf, cdX6_weightOfAll, cdX6_outcome, cdX6_partOfFraction, cdX6_greatestDivisor, cdX6_see, cdX6_forget, cdX6_kinds, cdX6_fathers, cdX6_asSeenBy, cdX6_isAsSeen, cdX6_look, cdX6_noteSpots, cdX6_leftAtWorst, cdX6_drift, cdX6_keep, cdX6_back, cdX6_sheet, cdX6_lay, cdX6_read, cdX6_torn, cdX6_count, cdX6_within, cdX6_fromNow, cdX7_in, cdX7_flag, cdX7_firstDraft, cdX7_keepDraft, cdX7_feed, cdX7_end, cdX7_needs, cdX7_byteAt, cdX7_is, cdX7_ends, cdX7_kindNow, cdX7_lineNow, cdX7_takes, cdX7_readNumber, cdX7_readBody, cdX7_readLineOf, cdX7_readLine, cdX7_text, cdX7_fault, cdX7_isVillage, cdX7_isBody, cdX7_isPart, cdX7_starts, cdX7_settles, cdX7_of, cdX7_becomesOf, cdX7_needOf, cdX7_lacksOf, cdX7_lacks, cdX7_firstAt, cdX7_villageGoes, cdX7_crownerComes, cdX7_nightGoes, cdX7_allMeans, cdX7_paidIn, cdX7_inWay, cdX7_bitsOf, cdX7_lesser, cdX7_rule, cdX7_village, cdX7_body, cdX7_becomes, cdX7_grant, cdX7_liesStill, cdX7_alter, cdX7_set, cdX7_find, cdX7_hire, cdX7_nights, cdX7_runs, cdX7_ahead, cdX7_settled, cdX7_isJudged, cdX7_paidWith, cdX7_dear, cdX7_mild, cdX7_watch, cdX7_place, cdX7_kin, cdX7_late, cdX7_isOrder, cdX7_order, cdX7_common, cdX7_told, cdX7_findOdds, cdX7_mean, cdX7_luck, cdX7_see, cdX7_forget, cdX7_isSoWith, cdX7_kindsOf, cdX7_kinds, cdX7_fathers, cdX7_look, cdX7_drift, cdX7_copies, cdX7_keep, cdX7_back, cdX7_isSheet, cdX7_sheet, cdX7_lay, cdX7_read, cdX7_torn, cdX7_count, cdJ6_bitCount_0f7a4, cdL_law]
def codeZ (z pc : Nat) : List ClassFile.Instr := ((cdL.getD z []).lookup pc).getD []
end
section
/-! THE RELATION between the small machine and the JVM: 'ad o' is the address of object o. -/
def cv (ad : Nat → Nat) (v : Value) : Value := match v with
  | .ref k => .ref (ad k)
  | v => v
theorem cv_cat (ad : Nat → Nat) (v : Value) : (cv ad v).category = v.category := by cases v <;> rfl
def isV (v : Value) : Bool := match v with
  | .retAddr _ => false
  | _ => true
/-- a map by places, in its plain form -/
def mapI {α β : Type} (f : Nat → α → β) : Nat → List α → List β
  | _, [] => []
  | k, a :: l => f k a :: mapI f (k + 1) l
theorem mapI_getk {α β : Type} (f : Nat → α → β) : ∀ (l : List α) (k i : Nat), (mapI f k l)[i]? = (l[i]?).map (f (k + i))
  | [], _, _ => rfl
  | a :: l, k, 0 => rfl
  | a :: l, k, i + 1 => by
    show (mapI f (k + 1) l)[i]? = _
    rw [mapI_getk f l (k + 1) i, List.getElem?_cons_succ, show k + 1 + i = k + (i + 1) by omega]
theorem mapI_get {α β : Type} (f : Nat → α → β) (l : List α) (i : Nat) : (mapI f 0 l)[i]? = (l[i]?).map (f i) := by
  rw [mapI_getk, Nat.zero_add]
theorem mapI_lenk {α β : Type} (f : Nat → α → β) : ∀ (l : List α) (k : Nat), (mapI f k l).length = l.length
  | [], _ => rfl
  | a :: l, k => by
    show (mapI f (k + 1) l).length + 1 = _
    rw [mapI_lenk f l (k + 1)]
    rfl
theorem mapI_len {α β : Type} (f : Nat → α → β) (l : List α) : (mapI f 0 l).length = l.length := mapI_lenk f l 0
def cellE (ad : Nat → Nat) (dA : Nat → ClassId) (m : Mm) (o : Nat) (e : ShE) : va_E := match e with
  | .inl (ci, fs) => .inr (ci, mapI (fun j t => cv ad (fval m o j t)) 0 fs)
  | .inr (k, n, rs) => if k < 2 then .inl (dA k, n, .inl (m.1 o)) else .inl (dA k, n, .inr (.inr (.inr (.inr (fun j => (rs[j]?).map ad)))))
def cellsW (sh : List ShE) (ad : Nat → Nat) (dA : Nat → ClassId) (m : Mm) : va_W := mapI (fun o e => (ad o, cellE ad dA m o e)) 0 sh
section Rel
variable {sh : List ShE} {ad : Nat → Nat} {dA : Nat → ClassId} {m : Mm}
theorem cells_get {o : Nat} {e : ShE} (h : sh[o]? = some e) : (cellsW sh ad dA m)[o]? = some (ad o, cellE ad dA m o e) := by
  simp [cellsW, mapI_get, h]
theorem up_s {α : Type} (f : Nat → α) (k : Nat) (v : α) : va_up f k v k = v := by simp [va_up]
theorem up_n {α : Type} (f : Nat → α) {j k : Nat} (v : α) (h : j ≠ k) : va_up f k v j = f j := by simp [va_up, h]
/-- another row for an array of whole numbers -/
theorem cells_row {o k n : Nat} {rs : List Nat} (f : Nat → Int32) (h : sh[o]? = some (.inr (k, n, rs))) (hk : k < 2) : (cellsW sh ad dA m).set o (ad o, .inl (dA k, n, .inl f)) = cellsW sh ad dA (va_up m.1 o f, m.2) := by
  apply List.ext_getElem?
  intro q
  rw [List.getElem?_set]
  by_cases hq : o = q
  · subst hq
    have hl : o < sh.length := (List.getElem?_eq_some_iff.mp h).1
    rw [if_pos rfl, if_pos (by unfold cellsW; rw [mapI_len]; exact hl), cells_get h]
    simp [cellE, hk, up_s]
  · rw [if_neg hq]
    simp only [cellsW, mapI_get]
    cases hs : sh[q]? with
    | none => rfl
    | some e =>
      have hne : q ≠ o := fun z => hq z.symm
      cases e with
      | inl x =>
        simp only [cellE, Option.map_some]
        congr 4
        apply List.ext_getElem?
        intro j
        simp only [mapI_get]
        cases x.2[j]? with
        | none => rfl
        | some t =>
          simp only [Option.map_some]
          rcases t with _ | _ | _ | t <;> simp [fval, up_n _ _ hne]
      | inr x => simp only [cellE, Option.map_some, up_n _ _ hne]
theorem map_set {α β : Type} (f g : Nat → α → β) : ∀ (l : List α) (j : Nat) (v : β), (∀ i, i ≠ j → ∀ a, f i a = g i a) → (∀ a, l[j]? = some a → v = g j a) → (mapI f 0 l).set j v = mapI g 0 l := by
  intro l j v h1 h2
  apply List.ext_getElem?
  intro q
  rw [List.getElem?_set]
  by_cases hq : j = q
  · subst hq
    simp only [mapI_len, mapI_get]
    rw [if_pos trivial]
    by_cases hl : j < l.length
    · rw [if_pos hl]
      have e := List.getElem?_eq_getElem hl
      rw [e, Option.map_some, h2 _ e]
    · rw [if_neg hl]
      rw [List.getElem?_eq_none (by omega)]
      rfl
  · rw [if_neg hq]
    simp only [mapI_get]
    cases l[q]? with
    | none => rfl
    | some a => rw [Option.map_some, Option.map_some, h1 q (fun z => hq z.symm)]
/-- another value of a field -/
theorem cells_fI {o j ci t : Nat} {fs : List Nat} (x : Int32) (h : sh[o]? = some (.inl (ci, fs))) (hj : fs[j]? = some t) (ht : t = 0 ∨ t = 2) : (cellsW sh ad dA m).set o (ad o, .inr (ci, (mapI (fun j t => cv ad (fval m o j t)) 0 fs).set j (.int x))) = cellsW sh ad dA (wI m o j x) := by
  unfold cellsW
  apply map_set
  · intro i hi e
    cases e with
    | inl y =>
      simp only [cellE]
      congr 3
      apply List.ext_getElem?
      intro q
      simp only [mapI_get]
      cases y.2[q]? with
      | none => rfl
      | some t => rcases t with _ | _ | _ | t <;> simp [fval, wI, up_n _ _ hi]
    | inr y => simp only [cellE, wI, up_n _ _ hi]
  · intro e he
    cases h.symm.trans he
    simp only [cellE]
    congr 3
    apply map_set
    · intro i hi t
      rcases t with _ | _ | _ | t <;> simp [fval, wI, up_s, upd, hi]
    · intro t' ht'
      cases hj.symm.trans ht'
      rcases ht with rfl | rfl <;> simp [fval, wI, up_s, upd, cv]
theorem cells_fL {o j ci : Nat} {fs : List Nat} (x : Int64) (h : sh[o]? = some (.inl (ci, fs))) (hj : fs[j]? = some 1) : (cellsW sh ad dA m).set o (ad o, .inr (ci, (mapI (fun j t => cv ad (fval m o j t)) 0 fs).set j (.long x))) = cellsW sh ad dA (wL m o j x) := by
  unfold cellsW
  apply map_set
  · intro i hi e
    cases e with
    | inl y =>
      simp only [cellE]
      congr 3
      apply List.ext_getElem?
      intro q
      simp only [mapI_get]
      cases y.2[q]? with
      | none => rfl
      | some t => rcases t with _ | _ | _ | t <;> simp [fval, wL, up_n _ _ hi]
    | inr y => simp only [cellE, wL]
  · intro e he
    cases h.symm.trans he
    simp only [cellE]
    congr 3
    apply map_set
    · intro i hi t
      rcases t with _ | _ | _ | t <;> simp [fval, wL, up_s, vp_updL, hi]
    · intro t' ht'
      cases hj.symm.trans ht'
      simp [fval, wL, up_s, vp_updL, cv]
end Rel
/-! locals -/
def LR (ad : Nat → Nat) (ls : Array Slot) (nL : Nat) (L : List Value) : Prop := ls.size = nL ∧ lv_wf ls ∧ L.length = nL ∧ ∀ (i : Nat) (v : Value), L[i]? = some v → isV v = true → ls[i]? = some (.val (cv ad v))
def lvl (ad : Nat → Nat) (L : List Value) : List (Nat × Value) := L.zipIdx.filterMap (fun q => if isV q.1 = true then some (q.2, cv ad q.1) else none)
section Loc
variable {ad : Nat → Nat} {ls : Array Slot} {nL : Nat} {L : List Value}
theorem lvl_mem {i : Nat} {w : Value} : (i, w) ∈ lvl ad L ↔ ∃ v, L[i]? = some v ∧ isV v = true ∧ cv ad v = w := by
  unfold lvl
  rw [List.mem_filterMap]
  constructor
  · rintro ⟨⟨v, j⟩, h1, h2⟩
    by_cases hv : isV v = true
    · rw [if_pos hv] at h2
      simp only [Option.some.injEq, Prod.mk.injEq] at h2
      obtain ⟨rfl, rfl⟩ := h2
      exact ⟨v, List.mem_zipIdx_iff_getElem?.mp h1, hv, rfl⟩
    · rw [if_neg hv] at h2
      cases h2
  · rintro ⟨v, h1, h2, rfl⟩
    exact ⟨(v, i), List.mem_zipIdx_iff_getElem?.mpr h1, by rw [if_pos h2]⟩
theorem LR.has (h : LR ad ls nL L) : lv_has ls nL (lvl ad L) := by
  refine ⟨h.1, h.2.1, fun q hq => ?_⟩
  obtain ⟨i, w⟩ := q
  obtain ⟨v, h1, h2, rfl⟩ := lvl_mem.mp hq
  exact h.2.2.2 i v h1 h2
theorem ld_some {i : Nat} {v : Value} (h : ldL L i = v) (hv : isV v = true) : L[i]? = some v := by
  unfold ldL at h
  rw [List.getD_eq_getElem?_getD] at h
  cases hq : L[i]? with
  | none => rw [hq] at h; simp only [Option.getD_none] at h; rw [← h] at hv; cases hv
  | some w => rw [hq] at h; simp only [Option.getD_some] at h; rw [h]
theorem LR.at (h : LR ad ls nL L) {i : Nat} {v : Value} (hv : ldL L i = v) (h2 : isV v = true) : ls[i]? = some (.val (cv ad v)) := h.2.2.2 i v (ld_some hv h2) h2
theorem preL_len (i : Nat) : (preL L i).length = L.length := by
  unfold preL
  split
  · rfl
  · split <;> simp
theorem preL_at {i j : Nat} {w : Value} (h : (preL L i)[j]? = some w) (hw : isV w = true) : L[j]? = some w ∧ ¬ (j + 1 = i ∧ w.category = 2) := by
  unfold preL at h
  split at h
  · exact ⟨h, fun z => by omega⟩
  · rename_i k
    split at h
    · rename_i hc
      rw [List.getElem?_set] at h
      by_cases hk : k = j
      · rw [if_pos hk] at h
        split at h
        · cases h; cases hw
        · cases h
      · rw [if_neg hk] at h
        exact ⟨h, fun z => hk (by omega)⟩
    · rename_i hc
      refine ⟨h, fun z => hc ?_⟩
      have : k = j := by omega
      subst this
      rw [List.getD_eq_getElem?_getD, h]
      exact z.2
theorem LR.put1 {ls' : Array Slot} {i : Nat} {v : Value} (hL : L.length = nL) (hv : isV v = true) (h : lv_has ls' nL ((i, cv ad v) :: (lvl ad L).filter (fun q => !(q.1 == i) && !(q.1 + 1 == i && q.2.category == 2)))) : LR ad ls' nL (stL L i v) := by
  refine ⟨h.1, h.2.1, by unfold stL; rw [List.length_set, preL_len, hL], fun j w hj hw => ?_⟩
  unfold stL at hj
  rw [List.getElem?_set] at hj
  by_cases e : i = j
  · rw [if_pos e] at hj
    split at hj
    · cases hj
      subst e
      exact h.2.2 (i, cv ad v) List.mem_cons_self
    · cases hj
  · rw [if_neg e] at hj
    obtain ⟨h1, h2⟩ := preL_at hj hw
    refine h.2.2 (j, cv ad w) (List.mem_cons_of_mem _ (List.mem_filter.mpr ⟨lvl_mem.mpr ⟨w, h1, hw, rfl⟩, ?_⟩))
    simp only [cv_cat, Bool.and_eq_true, Bool.not_eq_true', beq_eq_false_iff_ne, ne_eq, Bool.and_eq_false_iff]
    refine ⟨fun z => e z.symm, ?_⟩
    by_cases z : j + 1 = i
    · exact Or.inr fun z2 => h2 ⟨z, z2⟩
    · exact Or.inl z
theorem LR.put2 {ls' : Array Slot} {i : Nat} {v : Value} (hL : L.length = nL) (hv : isV v = true) (h : lv_has ls' nL ((i, cv ad v) :: (lvl ad L).filter (fun q => !(q.1 == i) && (!(q.1 == i + 1) && !(q.1 + 1 == i && q.2.category == 2))))) : LR ad ls' nL (st2 L i v) := by
  refine ⟨h.1, h.2.1, by unfold st2; rw [List.length_set, List.length_set, preL_len, hL], fun j w hj hw => ?_⟩
  unfold st2 at hj
  rw [List.getElem?_set] at hj
  by_cases e1 : i + 1 = j
  · rw [if_pos e1] at hj
    split at hj
    · cases hj; cases hw
    · cases hj
  · rw [if_neg e1, List.getElem?_set] at hj
    by_cases e : i = j
    · rw [if_pos e] at hj
      split at hj
      · cases hj
        subst e
        exact h.2.2 (i, cv ad v) List.mem_cons_self
      · cases hj
    · rw [if_neg e] at hj
      obtain ⟨h1, h2⟩ := preL_at hj hw
      refine h.2.2 (j, cv ad w) (List.mem_cons_of_mem _ (List.mem_filter.mpr ⟨lvl_mem.mpr ⟨w, h1, hw, rfl⟩, ?_⟩))
      simp only [cv_cat, Bool.and_eq_true, Bool.not_eq_true', beq_eq_false_iff_ne, ne_eq, Bool.and_eq_false_iff]
      refine ⟨fun z => e z.symm, fun z => e1 z.symm, ?_⟩
      by_cases z : j + 1 = i
      · exact Or.inr fun z2 => h2 ⟨z, z2⟩
      · exact Or.inl z
theorem vp_inR {i : Int32} {n : Nat} (h : inR i n = true) : vp_in i n := by
  unfold inR at h
  simp only [Bool.and_eq_true, decide_eq_true_eq] at h
  unfold vp_in
  rintro (q | q)
  · exact absurd h.1 (Int32.not_le.mpr q)
  · omega
end Loc
/-! the entry -/
def argL : List Value → List Value
  | [] => []
  | v :: vs => if v.category = 2 then v :: noV :: argL vs else v :: argL vs
def initL (n : Nat) (As : List Value) : List Value := argL As ++ List.replicate (n - (argL As).length) noV
theorem argL_len (ad : Nat → Nat) : ∀ As : List Value, (lg_sl (As.map (cv ad))).length = (argL As).length
  | [] => rfl
  | v :: vs => by
    have ih := argL_len ad vs
    simp only [lg_sl, List.map_cons, List.flatMap_cons, cv_cat, argL] at ih ⊢
    split <;> simp_all <;> omega
theorem argL_mem (ad : Nat → Nat) : ∀ (As : List Value) (i b : Nat) (v : Value), (argL As)[i]? = some v → isV v = true → (b + i, cv ad v) ∈ lv_args b (As.map (cv ad))
  | [], i, b, v, h, _ => by simp [argL] at h
  | w :: As, i, b, v, h, hv => by
    simp only [List.map_cons, lv_args, cv_cat]
    unfold argL at h
    by_cases hc : w.category = 2
    · rw [if_pos hc] at h
      rw [if_pos hc]
      match i, h with
      | 0, h => simp at h; subst h; exact List.mem_cons_self
      | 1, h => simp at h; subst h; cases hv
      | i + 2, h =>
        simp only [List.getElem?_cons_succ] at h
        have := argL_mem ad As i (b + 2) v h hv
        rw [show b + (i + 2) = b + 2 + i by omega]
        exact List.mem_cons_of_mem _ this
    · rw [if_neg hc] at h
      rw [if_neg hc]
      match i, h with
      | 0, h => simp at h; subst h; exact List.mem_cons_self
      | i + 1, h =>
        simp only [List.getElem?_cons_succ] at h
        have := argL_mem ad As i (b + 1) v h hv
        rw [show b + (i + 1) = b + 1 + i by omega]
        exact List.mem_cons_of_mem _ this
theorem LR_entry (ad : Nat → Nat) (As : List Value) {n : Nat} (h : (argL As).length ≤ n) : LR ad ((lg_sl (As.map (cv ad)) ++ List.replicate (n - (lg_sl (As.map (cv ad))).length) Slot.unset).toArray) n (initL n As) := by
  have h0 := lv_entry (As.map (cv ad)) (n := n) (by rw [argL_len]; exact h)
  refine ⟨h0.1, h0.2.1, by unfold initL; rw [List.length_append, List.length_replicate]; omega, fun i v hi hv => ?_⟩
  unfold initL at hi
  by_cases hl : i < (argL As).length
  · rw [List.getElem?_append_left hl] at hi
    have := h0.2.2 _ (argL_mem ad As i 0 v hi hv)
    simpa using this
  · rw [List.getElem?_append_right (by omega), List.getElem?_replicate] at hi
    split at hi
    · cases hi; cases hv
    · cases hi
end
