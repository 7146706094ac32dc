section
-- ===== PART A: goes FIRST, ahead of the names: the tables' words, and 'selects' of the private methods out of them =====
/-- a private method of a class that the tables say can be made, by its rows of tables_1 -/
def lw_okq (q : MethodName × Nat) : Prop := (q.1.cls ≠ "java/lang/invoke/MethodHandle" ∧ q.1.cls ≠ "java/lang/invoke/VarHandle") ∧ Cond.instantiable q.1.cls q.2 ∈ tables_1 ∧ Cond.privateMethod q.1 ∈ tables_1 ∧ Cond.instanceMethod q.1 ∈ tables_1
theorem lw_p0 : lw_okq (⟨"FairHall", "none", "(I)I"⟩, 14) := ⟨⟨by decide +kernel, by decide +kernel⟩, List.mem_of_getElem? (i := 21) (by decide +kernel), List.mem_of_getElem? (i := 434) (by decide +kernel), List.mem_of_getElem? (i := 435) (by decide +kernel)⟩
theorem lw_p1 : lw_okq (⟨"FairHall", "answer", "(I)I"⟩, 14) := ⟨⟨by decide +kernel, by decide +kernel⟩, List.mem_of_getElem? (i := 21) (by decide +kernel), List.mem_of_getElem? (i := 442) (by decide +kernel), List.mem_of_getElem? (i := 443) (by decide +kernel)⟩
theorem lw_p2 : lw_okq (⟨"FairHall", "no", "(I)Z"⟩, 14) := ⟨⟨by decide +kernel, by decide +kernel⟩, List.mem_of_getElem? (i := 21) (by decide +kernel), List.mem_of_getElem? (i := 493) (by decide +kernel), List.mem_of_getElem? (i := 494) (by decide +kernel)⟩
theorem lw_p3 : lw_okq (⟨"FairHall", "yes", "()Z"⟩, 14) := ⟨⟨by decide +kernel, by decide +kernel⟩, List.mem_of_getElem? (i := 21) (by decide +kernel), List.mem_of_getElem? (i := 497) (by decide +kernel), List.mem_of_getElem? (i := 498) (by decide +kernel)⟩
theorem lw_p4 : lw_okq (⟨"FairHall$Plan", "addLook", "()Z"⟩, 17) := ⟨⟨by decide +kernel, by decide +kernel⟩, List.mem_of_getElem? (i := 87) (by decide +kernel), List.mem_of_getElem? (i := 514) (by decide +kernel), List.mem_of_getElem? (i := 515) (by decide +kernel)⟩
theorem lw_p5 : lw_okq (⟨"FairHall$Plan", "reachRoom", "()I"⟩, 17) := ⟨⟨by decide +kernel, by decide +kernel⟩, List.mem_of_getElem? (i := 87) (by decide +kernel), List.mem_of_getElem? (i := 518) (by decide +kernel), List.mem_of_getElem? (i := 519) (by decide +kernel)⟩
theorem lw_p6 : lw_okq (⟨"FairHall$Plan", "startAtLacking", "()V"⟩, 17) := ⟨⟨by decide +kernel, by decide +kernel⟩, List.mem_of_getElem? (i := 87) (by decide +kernel), List.mem_of_getElem? (i := 522) (by decide +kernel), List.mem_of_getElem? (i := 523) (by decide +kernel)⟩
theorem lw_p7 : lw_okq (⟨"FairHall$Plan", "lacks", "(I)Z"⟩, 17) := ⟨⟨by decide +kernel, by decide +kernel⟩, List.mem_of_getElem? (i := 87) (by decide +kernel), List.mem_of_getElem? (i := 526) (by decide +kernel), List.mem_of_getElem? (i := 527) (by decide +kernel)⟩
theorem lw_p8 : lw_okq (⟨"FairHall$Plan", "reach", "(II)V"⟩, 17) := ⟨⟨by decide +kernel, by decide +kernel⟩, List.mem_of_getElem? (i := 87) (by decide +kernel), List.mem_of_getElem? (i := 531) (by decide +kernel), List.mem_of_getElem? (i := 532) (by decide +kernel)⟩
theorem lw_p9 : lw_okq (⟨"FairHall$Plan", "openJudges", "(I)I"⟩, 17) := ⟨⟨by decide +kernel, by decide +kernel⟩, List.mem_of_getElem? (i := 87) (by decide +kernel), List.mem_of_getElem? (i := 535) (by decide +kernel), List.mem_of_getElem? (i := 536) (by decide +kernel)⟩
theorem lw_p10 : lw_okq (⟨"FairHall$Plan", "hasRoom", "(I)Z"⟩, 17) := ⟨⟨by decide +kernel, by decide +kernel⟩, List.mem_of_getElem? (i := 87) (by decide +kernel), List.mem_of_getElem? (i := 539) (by decide +kernel), List.mem_of_getElem? (i := 540) (by decide +kernel)⟩
theorem lw_p11 : lw_okq (⟨"FairHall$Plan", "reachShown", "(I)V"⟩, 17) := ⟨⟨by decide +kernel, by decide +kernel⟩, List.mem_of_getElem? (i := 87) (by decide +kernel), List.mem_of_getElem? (i := 543) (by decide +kernel), List.mem_of_getElem? (i := 544) (by decide +kernel)⟩
theorem lw_p12 : lw_okq (⟨"FairHall$Plan", "openBoards", "(I)I"⟩, 17) := ⟨⟨by decide +kernel, by decide +kernel⟩, List.mem_of_getElem? (i := 87) (by decide +kernel), List.mem_of_getElem? (i := 547) (by decide +kernel), List.mem_of_getElem? (i := 548) (by decide +kernel)⟩
theorem lw_p13 : lw_okq (⟨"FairHall$Plan", "part", "(II)V"⟩, 17) := ⟨⟨by decide +kernel, by decide +kernel⟩, List.mem_of_getElem? (i := 87) (by decide +kernel), List.mem_of_getElem? (i := 551) (by decide +kernel), List.mem_of_getElem? (i := 552) (by decide +kernel)⟩
theorem lw_p14 : lw_okq (⟨"FairHall$Plan", "join", "(II)V"⟩, 17) := ⟨⟨by decide +kernel, by decide +kernel⟩, List.mem_of_getElem? (i := 87) (by decide +kernel), List.mem_of_getElem? (i := 555) (by decide +kernel), List.mem_of_getElem? (i := 556) (by decide +kernel)⟩
theorem lw_p15 : lw_okq (⟨"FairHall$Plan", "prefer", "(II)V"⟩, 17) := ⟨⟨by decide +kernel, by decide +kernel⟩, List.mem_of_getElem? (i := 87) (by decide +kernel), List.mem_of_getElem? (i := 563) (by decide +kernel), List.mem_of_getElem? (i := 564) (by decide +kernel)⟩
def lw_privs_1 : List (MethodName × Nat) := [(⟨"FairHall", "none", "(I)I"⟩, 14), (⟨"FairHall", "answer", "(I)I"⟩, 14), (⟨"FairHall", "no", "(I)Z"⟩, 14), (⟨"FairHall", "yes", "()Z"⟩, 14), (⟨"FairHall$Plan", "addLook", "()Z"⟩, 17), (⟨"FairHall$Plan", "reachRoom", "()I"⟩, 17), (⟨"FairHall$Plan", "startAtLacking", "()V"⟩, 17), (⟨"FairHall$Plan", "lacks", "(I)Z"⟩, 17), (⟨"FairHall$Plan", "reach", "(II)V"⟩, 17), (⟨"FairHall$Plan", "openJudges", "(I)I"⟩, 17), (⟨"FairHall$Plan", "hasRoom", "(I)Z"⟩, 17), (⟨"FairHall$Plan", "reachShown", "(I)V"⟩, 17), (⟨"FairHall$Plan", "openBoards", "(I)I"⟩, 17), (⟨"FairHall$Plan", "part", "(II)V"⟩, 17), (⟨"FairHall$Plan", "join", "(II)V"⟩, 17), (⟨"FairHall$Plan", "prefer", "(II)V"⟩, 17)]
theorem lw_r1 : ∀ q ∈ lw_privs_1, lw_okq q := List.forall_mem_cons.mpr ⟨lw_p0, List.forall_mem_cons.mpr ⟨lw_p1, List.forall_mem_cons.mpr ⟨lw_p2, List.forall_mem_cons.mpr ⟨lw_p3, List.forall_mem_cons.mpr ⟨lw_p4, List.forall_mem_cons.mpr ⟨lw_p5, List.forall_mem_cons.mpr ⟨lw_p6, List.forall_mem_cons.mpr ⟨lw_p7, List.forall_mem_cons.mpr ⟨lw_p8, List.forall_mem_cons.mpr ⟨lw_p9, List.forall_mem_cons.mpr ⟨lw_p10, List.forall_mem_cons.mpr ⟨lw_p11, List.forall_mem_cons.mpr ⟨lw_p12, List.forall_mem_cons.mpr ⟨lw_p13, List.forall_mem_cons.mpr ⟨lw_p14, List.forall_mem_cons.mpr ⟨lw_p15, fun _ h => absurd h List.not_mem_nil⟩⟩⟩⟩⟩⟩⟩⟩⟩⟩⟩⟩⟩⟩⟩⟩
theorem lw_p16 : lw_okq (⟨"FairHall$Known", "takeLatest", "(LFairHall$Marks;I)V"⟩, 3) := ⟨⟨by decide +kernel, by decide +kernel⟩, List.mem_of_getElem? (i := 180) (by decide +kernel), List.mem_of_getElem? (i := 621) (by decide +kernel), List.mem_of_getElem? (i := 622) (by decide +kernel)⟩
theorem lw_p17 : lw_okq (⟨"FairHall$Known", "formHeaps", "()V"⟩, 3) := ⟨⟨by decide +kernel, by decide +kernel⟩, List.mem_of_getElem? (i := 180) (by decide +kernel), List.mem_of_getElem? (i := 629) (by decide +kernel), List.mem_of_getElem? (i := 630) (by decide +kernel)⟩
theorem lw_p18 : lw_okq (⟨"FairHall$Known", "joinHeaps", "(II)V"⟩, 3) := ⟨⟨by decide +kernel, by decide +kernel⟩, List.mem_of_getElem? (i := 180) (by decide +kernel), List.mem_of_getElem? (i := 637) (by decide +kernel), List.mem_of_getElem? (i := 638) (by decide +kernel)⟩
theorem lw_p19 : lw_okq (⟨"FairHall", "whyNoHeap", "(II)I"⟩, 14) := ⟨⟨by decide +kernel, by decide +kernel⟩, List.mem_of_getElem? (i := 21) (by decide +kernel), List.mem_of_getElem? (i := 655) (by decide +kernel), List.mem_of_getElem? (i := 656) (by decide +kernel)⟩
theorem lw_p20 : lw_okq (⟨"FairHall$Scale", "gather", "(LFairHall$Known;I)V"⟩, 6) := ⟨⟨by decide +kernel, by decide +kernel⟩, List.mem_of_getElem? (i := 198) (by decide +kernel), List.mem_of_getElem? (i := 671) (by decide +kernel), List.mem_of_getElem? (i := 672) (by decide +kernel)⟩
theorem lw_p21 : lw_okq (⟨"FairHall$Scale", "setRows", "(LFairHall$Known;)V"⟩, 6) := ⟨⟨by decide +kernel, by decide +kernel⟩, List.mem_of_getElem? (i := 198) (by decide +kernel), List.mem_of_getElem? (i := 675) (by decide +kernel), List.mem_of_getElem? (i := 676) (by decide +kernel)⟩
theorem lw_p22 : lw_okq (⟨"FairHall$Scale", "addBoard", "(LFairHall$Known;I)V"⟩, 6) := ⟨⟨by decide +kernel, by decide +kernel⟩, List.mem_of_getElem? (i := 198) (by decide +kernel), List.mem_of_getElem? (i := 679) (by decide +kernel), List.mem_of_getElem? (i := 680) (by decide +kernel)⟩
theorem lw_p23 : lw_okq (⟨"FairHall$Scale", "takeShares", "(LFairHall$Known;III)V"⟩, 6) := ⟨⟨by decide +kernel, by decide +kernel⟩, List.mem_of_getElem? (i := 198) (by decide +kernel), List.mem_of_getElem? (i := 685) (by decide +kernel), List.mem_of_getElem? (i := 686) (by decide +kernel)⟩
theorem lw_p24 : lw_okq (⟨"FairHall$Scale", "determinant", "(I)J"⟩, 6) := ⟨⟨by decide +kernel, by decide +kernel⟩, List.mem_of_getElem? (i := 198) (by decide +kernel), List.mem_of_getElem? (i := 689) (by decide +kernel), List.mem_of_getElem? (i := 690) (by decide +kernel)⟩
theorem lw_p25 : lw_okq (⟨"FairHall$Scale", "minor", "(II)J"⟩, 6) := ⟨⟨by decide +kernel, by decide +kernel⟩, List.mem_of_getElem? (i := 198) (by decide +kernel), List.mem_of_getElem? (i := 693) (by decide +kernel), List.mem_of_getElem? (i := 694) (by decide +kernel)⟩
theorem lw_p26 : lw_okq (⟨"FairHall$TextReader", "step", "()V"⟩, 8) := ⟨⟨by decide +kernel, by decide +kernel⟩, List.mem_of_getElem? (i := 243) (by decide +kernel), List.mem_of_getElem? (i := 747) (by decide +kernel), List.mem_of_getElem? (i := 748) (by decide +kernel)⟩
theorem lw_p27 : lw_okq (⟨"FairHall$TextReader", "endOfRun", "(CC)I"⟩, 8) := ⟨⟨by decide +kernel, by decide +kernel⟩, List.mem_of_getElem? (i := 243) (by decide +kernel), List.mem_of_getElem? (i := 751) (by decide +kernel), List.mem_of_getElem? (i := 752) (by decide +kernel)⟩
theorem lw_p28 : lw_okq (⟨"FairHall$TextReader", "blame", "(I)V"⟩, 8) := ⟨⟨by decide +kernel, by decide +kernel⟩, List.mem_of_getElem? (i := 243) (by decide +kernel), List.mem_of_getElem? (i := 755) (by decide +kernel), List.mem_of_getElem? (i := 756) (by decide +kernel)⟩
theorem lw_p29 : lw_okq (⟨"FairHall$TextReader", "readPrize", "(LFairHall$PrizeRows;)V"⟩, 8) := ⟨⟨by decide +kernel, by decide +kernel⟩, List.mem_of_getElem? (i := 243) (by decide +kernel), List.mem_of_getElem? (i := 759) (by decide +kernel), List.mem_of_getElem? (i := 760) (by decide +kernel)⟩
theorem lw_p30 : lw_okq (⟨"FairHall$TextReader", "isWord", "(Ljava/lang/String;)Z"⟩, 8) := ⟨⟨by decide +kernel, by decide +kernel⟩, List.mem_of_getElem? (i := 243) (by decide +kernel), List.mem_of_getElem? (i := 764) (by decide +kernel), List.mem_of_getElem? (i := 765) (by decide +kernel)⟩
theorem lw_p31 : lw_okq (⟨"FairHall$TextReader", "readWishes", "(LFairHall$PrizeRows;I)V"⟩, 8) := ⟨⟨by decide +kernel, by decide +kernel⟩, List.mem_of_getElem? (i := 243) (by decide +kernel), List.mem_of_getElem? (i := 820) (by decide +kernel), List.mem_of_getElem? (i := 821) (by decide +kernel)⟩
def lw_privs_2 : List (MethodName × Nat) := [(⟨"FairHall$Known", "takeLatest", "(LFairHall$Marks;I)V"⟩, 3), (⟨"FairHall$Known", "formHeaps", "()V"⟩, 3), (⟨"FairHall$Known", "joinHeaps", "(II)V"⟩, 3), (⟨"FairHall", "whyNoHeap", "(II)I"⟩, 14), (⟨"FairHall$Scale", "gather", "(LFairHall$Known;I)V"⟩, 6), (⟨"FairHall$Scale", "setRows", "(LFairHall$Known;)V"⟩, 6), (⟨"FairHall$Scale", "addBoard", "(LFairHall$Known;I)V"⟩, 6), (⟨"FairHall$Scale", "takeShares", "(LFairHall$Known;III)V"⟩, 6), (⟨"FairHall$Scale", "determinant", "(I)J"⟩, 6), (⟨"FairHall$Scale", "minor", "(II)J"⟩, 6), (⟨"FairHall$TextReader", "step", "()V"⟩, 8), (⟨"FairHall$TextReader", "endOfRun", "(CC)I"⟩, 8), (⟨"FairHall$TextReader", "blame", "(I)V"⟩, 8), (⟨"FairHall$TextReader", "readPrize", "(LFairHall$PrizeRows;)V"⟩, 8), (⟨"FairHall$TextReader", "isWord", "(Ljava/lang/String;)Z"⟩, 8), (⟨"FairHall$TextReader", "readWishes", "(LFairHall$PrizeRows;I)V"⟩, 8)]
theorem lw_r2 : ∀ q ∈ lw_privs_2, lw_okq q := List.forall_mem_cons.mpr ⟨lw_p16, List.forall_mem_cons.mpr ⟨lw_p17, List.forall_mem_cons.mpr ⟨lw_p18, List.forall_mem_cons.mpr ⟨lw_p19, List.forall_mem_cons.mpr ⟨lw_p20, List.forall_mem_cons.mpr ⟨lw_p21, List.forall_mem_cons.mpr ⟨lw_p22, List.forall_mem_cons.mpr ⟨lw_p23, List.forall_mem_cons.mpr ⟨lw_p24, List.forall_mem_cons.mpr ⟨lw_p25, List.forall_mem_cons.mpr ⟨lw_p26, List.forall_mem_cons.mpr ⟨lw_p27, List.forall_mem_cons.mpr ⟨lw_p28, List.forall_mem_cons.mpr ⟨lw_p29, List.forall_mem_cons.mpr ⟨lw_p30, List.forall_mem_cons.mpr ⟨lw_p31, fun _ h => absurd h List.not_mem_nil⟩⟩⟩⟩⟩⟩⟩⟩⟩⟩⟩⟩⟩⟩⟩⟩
theorem lw_p32 : lw_okq (⟨"FairHall$TextReader", "wishInHand", "()I"⟩, 8) := ⟨⟨by decide +kernel, by decide +kernel⟩, List.mem_of_getElem? (i := 243) (by decide +kernel), List.mem_of_getElem? (i := 824) (by decide +kernel), List.mem_of_getElem? (i := 825) (by decide +kernel)⟩
theorem lw_p33 : lw_okq (⟨"FairHall$TextReader", "takeNumber", "(II)I"⟩, 8) := ⟨⟨by decide +kernel, by decide +kernel⟩, List.mem_of_getElem? (i := 243) (by decide +kernel), List.mem_of_getElem? (i := 836) (by decide +kernel), List.mem_of_getElem? (i := 837) (by decide +kernel)⟩
theorem lw_p34 : lw_okq (⟨"FairHall$TextReader", "takeWord", "(Ljava/lang/String;)V"⟩, 8) := ⟨⟨by decide +kernel, by decide +kernel⟩, List.mem_of_getElem? (i := 243) (by decide +kernel), List.mem_of_getElem? (i := 842) (by decide +kernel), List.mem_of_getElem? (i := 843) (by decide +kernel)⟩
theorem lw_p35 : lw_okq (⟨"FairHall$TextReader", "takeStop", "()V"⟩, 8) := ⟨⟨by decide +kernel, by decide +kernel⟩, List.mem_of_getElem? (i := 243) (by decide +kernel), List.mem_of_getElem? (i := 847) (by decide +kernel), List.mem_of_getElem? (i := 848) (by decide +kernel)⟩
theorem lw_p36 : lw_okq (⟨"FairHall$Giver", "insert", "(I)V"⟩, 6) := ⟨⟨by decide +kernel, by decide +kernel⟩, List.mem_of_getElem? (i := 278) (by decide +kernel), List.mem_of_getElem? (i := 879) (by decide +kernel), List.mem_of_getElem? (i := 880) (by decide +kernel)⟩
theorem lw_p37 : lw_okq (⟨"FairHall$Giver", "giveOne", "(LFairHall$PrizeRows;ILFairHall$Boards;LFairHall$Known;)V"⟩, 6) := ⟨⟨by decide +kernel, by decide +kernel⟩, List.mem_of_getElem? (i := 278) (by decide +kernel), List.mem_of_getElem? (i := 894) (by decide +kernel), List.mem_of_getElem? (i := 895) (by decide +kernel)⟩
theorem lw_p38 : lw_okq (⟨"FairHall$PrizeRows", "meets", "(III)Z"⟩, 4) := ⟨⟨by decide +kernel, by decide +kernel⟩, List.mem_of_getElem? (i := 352) (by decide +kernel), List.mem_of_getElem? (i := 902) (by decide +kernel), List.mem_of_getElem? (i := 903) (by decide +kernel)⟩
theorem lw_p39 : lw_okq (⟨"FairHall$Halls", "emptyAll", "()V"⟩, 11) := ⟨⟨by decide +kernel, by decide +kernel⟩, List.mem_of_getElem? (i := 309) (by decide +kernel), List.mem_of_getElem? (i := 931) (by decide +kernel), List.mem_of_getElem? (i := 932) (by decide +kernel)⟩
theorem lw_p40 : lw_okq (⟨"FairHall$Halls", "search", "(LFairHall$Boards;)I"⟩, 11) := ⟨⟨by decide +kernel, by decide +kernel⟩, List.mem_of_getElem? (i := 309) (by decide +kernel), List.mem_of_getElem? (i := 935) (by decide +kernel), List.mem_of_getElem? (i := 936) (by decide +kernel)⟩
theorem lw_p41 : lw_okq (⟨"FairHall$Halls", "move", "(LFairHall$Boards;II)V"⟩, 11) := ⟨⟨by decide +kernel, by decide +kernel⟩, List.mem_of_getElem? (i := 309) (by decide +kernel), List.mem_of_getElem? (i := 940) (by decide +kernel), List.mem_of_getElem? (i := 941) (by decide +kernel)⟩
theorem lw_p42 : lw_okq (⟨"FairHall$Halls", "place", "(LFairHall$Boards;II)I"⟩, 11) := ⟨⟨by decide +kernel, by decide +kernel⟩, List.mem_of_getElem? (i := 309) (by decide +kernel), List.mem_of_getElem? (i := 944) (by decide +kernel), List.mem_of_getElem? (i := 945) (by decide +kernel)⟩
theorem lw_p43 : lw_okq (⟨"FairHallModel", "refuse", "(I)I"⟩, 86) := ⟨⟨by decide +kernel, by decide +kernel⟩, List.mem_of_getElem? (i := 952) (by decide +kernel), List.mem_of_getElem? (i := 1225) (by decide +kernel), List.mem_of_getElem? (i := 1226) (by decide +kernel)⟩
theorem lw_p44 : lw_okq (⟨"FairHallModel", "isBoard", "(I)Z"⟩, 86) := ⟨⟨by decide +kernel, by decide +kernel⟩, List.mem_of_getElem? (i := 952) (by decide +kernel), List.mem_of_getElem? (i := 1237) (by decide +kernel), List.mem_of_getElem? (i := 1238) (by decide +kernel)⟩
theorem lw_p45 : lw_okq (⟨"FairHallModel", "mayOf", "(II)Z"⟩, 86) := ⟨⟨by decide +kernel, by decide +kernel⟩, List.mem_of_getElem? (i := 952) (by decide +kernel), List.mem_of_getElem? (i := 1241) (by decide +kernel), List.mem_of_getElem? (i := 1242) (by decide +kernel)⟩
theorem lw_p46 : lw_okq (⟨"FairHallModel", "isJudge", "(I)Z"⟩, 86) := ⟨⟨by decide +kernel, by decide +kernel⟩, List.mem_of_getElem? (i := 952) (by decide +kernel), List.mem_of_getElem? (i := 1249) (by decide +kernel), List.mem_of_getElem? (i := 1250) (by decide +kernel)⟩
theorem lw_p47 : lw_okq (⟨"FairHallModel", "no", "(I)Z"⟩, 86) := ⟨⟨by decide +kernel, by decide +kernel⟩, List.mem_of_getElem? (i := 952) (by decide +kernel), List.mem_of_getElem? (i := 1257) (by decide +kernel), List.mem_of_getElem? (i := 1258) (by decide +kernel)⟩
def lw_privs_3 : List (MethodName × Nat) := [(⟨"FairHall$TextReader", "wishInHand", "()I"⟩, 8), (⟨"FairHall$TextReader", "takeNumber", "(II)I"⟩, 8), (⟨"FairHall$TextReader", "takeWord", "(Ljava/lang/String;)V"⟩, 8), (⟨"FairHall$TextReader", "takeStop", "()V"⟩, 8), (⟨"FairHall$Giver", "insert", "(I)V"⟩, 6), (⟨"FairHall$Giver", "giveOne", "(LFairHall$PrizeRows;ILFairHall$Boards;LFairHall$Known;)V"⟩, 6), (⟨"FairHall$PrizeRows", "meets", "(III)Z"⟩, 4), (⟨"FairHall$Halls", "emptyAll", "()V"⟩, 11), (⟨"FairHall$Halls", "search", "(LFairHall$Boards;)I"⟩, 11), (⟨"FairHall$Halls", "move", "(LFairHall$Boards;II)V"⟩, 11), (⟨"FairHall$Halls", "place", "(LFairHall$Boards;II)I"⟩, 11), (⟨"FairHallModel", "refuse", "(I)I"⟩, 86), (⟨"FairHallModel", "isBoard", "(I)Z"⟩, 86), (⟨"FairHallModel", "mayOf", "(II)Z"⟩, 86), (⟨"FairHallModel", "isJudge", "(I)Z"⟩, 86), (⟨"FairHallModel", "no", "(I)Z"⟩, 86)]
theorem lw_r3 : ∀ q ∈ lw_privs_3, lw_okq q := List.forall_mem_cons.mpr ⟨lw_p32, List.forall_mem_cons.mpr ⟨lw_p33, List.forall_mem_cons.mpr ⟨lw_p34, List.forall_mem_cons.mpr ⟨lw_p35, List.forall_mem_cons.mpr ⟨lw_p36, List.forall_mem_cons.mpr ⟨lw_p37, List.forall_mem_cons.mpr ⟨lw_p38, List.forall_mem_cons.mpr ⟨lw_p39, List.forall_mem_cons.mpr ⟨lw_p40, List.forall_mem_cons.mpr ⟨lw_p41, List.forall_mem_cons.mpr ⟨lw_p42, List.forall_mem_cons.mpr ⟨lw_p43, List.forall_mem_cons.mpr ⟨lw_p44, List.forall_mem_cons.mpr ⟨lw_p45, List.forall_mem_cons.mpr ⟨lw_p46, List.forall_mem_cons.mpr ⟨lw_p47, fun _ h => absurd h List.not_mem_nil⟩⟩⟩⟩⟩⟩⟩⟩⟩⟩⟩⟩⟩⟩⟩⟩
theorem lw_p48 : lw_okq (⟨"FairHallModel", "find", "()I"⟩, 86) := ⟨⟨by decide +kernel, by decide +kernel⟩, List.mem_of_getElem? (i := 952) (by decide +kernel), List.mem_of_getElem? (i := 1265) (by decide +kernel), List.mem_of_getElem? (i := 1266) (by decide +kernel)⟩
theorem lw_p49 : lw_okq (⟨"FairHallModel", "grows", "(I)Z"⟩, 86) := ⟨⟨by decide +kernel, by decide +kernel⟩, List.mem_of_getElem? (i := 952) (by decide +kernel), List.mem_of_getElem? (i := 1272) (by decide +kernel), List.mem_of_getElem? (i := 1273) (by decide +kernel)⟩
theorem lw_p50 : lw_okq (⟨"FairHallModel", "isFree", "(II)Z"⟩, 86) := ⟨⟨by decide +kernel, by decide +kernel⟩, List.mem_of_getElem? (i := 952) (by decide +kernel), List.mem_of_getElem? (i := 1276) (by decide +kernel), List.mem_of_getElem? (i := 1277) (by decide +kernel)⟩
theorem lw_p51 : lw_okq (⟨"FairHallModel", "turns", "(I)V"⟩, 86) := ⟨⟨by decide +kernel, by decide +kernel⟩, List.mem_of_getElem? (i := 952) (by decide +kernel), List.mem_of_getElem? (i := 1280) (by decide +kernel), List.mem_of_getElem? (i := 1281) (by decide +kernel)⟩
theorem lw_p52 : lw_okq (⟨"FairHallModel", "known", "(I)V"⟩, 86) := ⟨⟨by decide +kernel, by decide +kernel⟩, List.mem_of_getElem? (i := 952) (by decide +kernel), List.mem_of_getElem? (i := 1307) (by decide +kernel), List.mem_of_getElem? (i := 1308) (by decide +kernel)⟩
theorem lw_p53 : lw_okq (⟨"FairHallModel", "countOf", "(I)I"⟩, 86) := ⟨⟨by decide +kernel, by decide +kernel⟩, List.mem_of_getElem? (i := 952) (by decide +kernel), List.mem_of_getElem? (i := 1312) (by decide +kernel), List.mem_of_getElem? (i := 1313) (by decide +kernel)⟩
theorem lw_p54 : lw_okq (⟨"FairHallModel", "sizeOf", "(I)I"⟩, 86) := ⟨⟨by decide +kernel, by decide +kernel⟩, List.mem_of_getElem? (i := 952) (by decide +kernel), List.mem_of_getElem? (i := 1324) (by decide +kernel), List.mem_of_getElem? (i := 1325) (by decide +kernel)⟩
theorem lw_p55 : lw_okq (⟨"FairHallModel", "solve", "(I)V"⟩, 86) := ⟨⟨by decide +kernel, by decide +kernel⟩, List.mem_of_getElem? (i := 952) (by decide +kernel), List.mem_of_getElem? (i := 1328) (by decide +kernel), List.mem_of_getElem? (i := 1329) (by decide +kernel)⟩
theorem lw_p56 : lw_okq (⟨"FairHallModel", "square", "(I)J"⟩, 86) := ⟨⟨by decide +kernel, by decide +kernel⟩, List.mem_of_getElem? (i := 952) (by decide +kernel), List.mem_of_getElem? (i := 1333) (by decide +kernel), List.mem_of_getElem? (i := 1334) (by decide +kernel)⟩
theorem lw_p57 : lw_okq (⟨"FairHallModel", "tells", "(JJ)V"⟩, 86) := ⟨⟨by decide +kernel, by decide +kernel⟩, List.mem_of_getElem? (i := 952) (by decide +kernel), List.mem_of_getElem? (i := 1338) (by decide +kernel), List.mem_of_getElem? (i := 1339) (by decide +kernel)⟩
theorem lw_p58 : lw_okq (⟨"FairHallModel", "fairOf", "(I)V"⟩, 86) := ⟨⟨by decide +kernel, by decide +kernel⟩, List.mem_of_getElem? (i := 952) (by decide +kernel), List.mem_of_getElem? (i := 1350) (by decide +kernel), List.mem_of_getElem? (i := 1351) (by decide +kernel)⟩
theorem lw_p59 : lw_okq (⟨"FairHallModel", "lay", "(I)V"⟩, 86) := ⟨⟨by decide +kernel, by decide +kernel⟩, List.mem_of_getElem? (i := 952) (by decide +kernel), List.mem_of_getElem? (i := 1366) (by decide +kernel), List.mem_of_getElem? (i := 1367) (by decide +kernel)⟩
theorem lw_p60 : lw_okq (⟨"FairHallModel", "next", "()V"⟩, 86) := ⟨⟨by decide +kernel, by decide +kernel⟩, List.mem_of_getElem? (i := 952) (by decide +kernel), List.mem_of_getElem? (i := 1374) (by decide +kernel), List.mem_of_getElem? (i := 1375) (by decide +kernel)⟩
theorem lw_p61 : lw_okq (⟨"FairHallModel", "look", "(I)I"⟩, 86) := ⟨⟨by decide +kernel, by decide +kernel⟩, List.mem_of_getElem? (i := 952) (by decide +kernel), List.mem_of_getElem? (i := 1378) (by decide +kernel), List.mem_of_getElem? (i := 1379) (by decide +kernel)⟩
theorem lw_p62 : lw_okq (⟨"FairHallModel", "isWord", "(J)Z"⟩, 86) := ⟨⟨by decide +kernel, by decide +kernel⟩, List.mem_of_getElem? (i := 952) (by decide +kernel), List.mem_of_getElem? (i := 1393) (by decide +kernel), List.mem_of_getElem? (i := 1394) (by decide +kernel)⟩
theorem lw_p63 : lw_okq (⟨"FairHallModel", "readPrize", "()V"⟩, 86) := ⟨⟨by decide +kernel, by decide +kernel⟩, List.mem_of_getElem? (i := 952) (by decide +kernel), List.mem_of_getElem? (i := 1397) (by decide +kernel), List.mem_of_getElem? (i := 1398) (by decide +kernel)⟩
def lw_privs_4 : List (MethodName × Nat) := [(⟨"FairHallModel", "find", "()I"⟩, 86), (⟨"FairHallModel", "grows", "(I)Z"⟩, 86), (⟨"FairHallModel", "isFree", "(II)Z"⟩, 86), (⟨"FairHallModel", "turns", "(I)V"⟩, 86), (⟨"FairHallModel", "known", "(I)V"⟩, 86), (⟨"FairHallModel", "countOf", "(I)I"⟩, 86), (⟨"FairHallModel", "sizeOf", "(I)I"⟩, 86), (⟨"FairHallModel", "solve", "(I)V"⟩, 86), (⟨"FairHallModel", "square", "(I)J"⟩, 86), (⟨"FairHallModel", "tells", "(JJ)V"⟩, 86), (⟨"FairHallModel", "fairOf", "(I)V"⟩, 86), (⟨"FairHallModel", "lay", "(I)V"⟩, 86), (⟨"FairHallModel", "next", "()V"⟩, 86), (⟨"FairHallModel", "look", "(I)I"⟩, 86), (⟨"FairHallModel", "isWord", "(J)Z"⟩, 86), (⟨"FairHallModel", "readPrize", "()V"⟩, 86)]
theorem lw_r4 : ∀ q ∈ lw_privs_4, lw_okq q := List.forall_mem_cons.mpr ⟨lw_p48, List.forall_mem_cons.mpr ⟨lw_p49, List.forall_mem_cons.mpr ⟨lw_p50, List.forall_mem_cons.mpr ⟨lw_p51, List.forall_mem_cons.mpr ⟨lw_p52, List.forall_mem_cons.mpr ⟨lw_p53, List.forall_mem_cons.mpr ⟨lw_p54, List.forall_mem_cons.mpr ⟨lw_p55, List.forall_mem_cons.mpr ⟨lw_p56, List.forall_mem_cons.mpr ⟨lw_p57, List.forall_mem_cons.mpr ⟨lw_p58, List.forall_mem_cons.mpr ⟨lw_p59, List.forall_mem_cons.mpr ⟨lw_p60, List.forall_mem_cons.mpr ⟨lw_p61, List.forall_mem_cons.mpr ⟨lw_p62, List.forall_mem_cons.mpr ⟨lw_p63, fun _ h => absurd h List.not_mem_nil⟩⟩⟩⟩⟩⟩⟩⟩⟩⟩⟩⟩⟩⟩⟩⟩
theorem lw_p64 : lw_okq (⟨"FairHallModel", "fail", "(II)V"⟩, 86) := ⟨⟨by decide +kernel, by decide +kernel⟩, List.mem_of_getElem? (i := 952) (by decide +kernel), List.mem_of_getElem? (i := 1401) (by decide +kernel), List.mem_of_getElem? (i := 1402) (by decide +kernel)⟩
theorem lw_p65 : lw_okq (⟨"FairHallModel", "wishOf", "()I"⟩, 86) := ⟨⟨by decide +kernel, by decide +kernel⟩, List.mem_of_getElem? (i := 952) (by decide +kernel), List.mem_of_getElem? (i := 1405) (by decide +kernel), List.mem_of_getElem? (i := 1406) (by decide +kernel)⟩
theorem lw_p66 : lw_okq (⟨"FairHallModel", "numberOf", "(II)I"⟩, 86) := ⟨⟨by decide +kernel, by decide +kernel⟩, List.mem_of_getElem? (i := 952) (by decide +kernel), List.mem_of_getElem? (i := 1409) (by decide +kernel), List.mem_of_getElem? (i := 1410) (by decide +kernel)⟩
theorem lw_p67 : lw_okq (⟨"FairHallModel", "wrong", "()V"⟩, 86) := ⟨⟨by decide +kernel, by decide +kernel⟩, List.mem_of_getElem? (i := 952) (by decide +kernel), List.mem_of_getElem? (i := 1413) (by decide +kernel), List.mem_of_getElem? (i := 1414) (by decide +kernel)⟩
theorem lw_p68 : lw_okq (⟨"FairHallModel", "wants", "(II)Z"⟩, 86) := ⟨⟨by decide +kernel, by decide +kernel⟩, List.mem_of_getElem? (i := 952) (by decide +kernel), List.mem_of_getElem? (i := 1425) (by decide +kernel), List.mem_of_getElem? (i := 1426) (by decide +kernel)⟩
theorem lw_p69 : lw_okq (⟨"FairHallModel", "lays", "()I"⟩, 86) := ⟨⟨by decide +kernel, by decide +kernel⟩, List.mem_of_getElem? (i := 952) (by decide +kernel), List.mem_of_getElem? (i := 1448) (by decide +kernel), List.mem_of_getElem? (i := 1449) (by decide +kernel)⟩
theorem lw_p70 : lw_okq (⟨"FairHallModel", "puts", "(III)V"⟩, 86) := ⟨⟨by decide +kernel, by decide +kernel⟩, List.mem_of_getElem? (i := 952) (by decide +kernel), List.mem_of_getElem? (i := 1452) (by decide +kernel), List.mem_of_getElem? (i := 1453) (by decide +kernel)⟩
theorem lw_p71 : lw_okq (⟨"FairHallModel", "canBear", "(II)Z"⟩, 86) := ⟨⟨by decide +kernel, by decide +kernel⟩, List.mem_of_getElem? (i := 952) (by decide +kernel), List.mem_of_getElem? (i := 1456) (by decide +kernel), List.mem_of_getElem? (i := 1457) (by decide +kernel)⟩
def lw_privs_5 : List (MethodName × Nat) := [(⟨"FairHallModel", "fail", "(II)V"⟩, 86), (⟨"FairHallModel", "wishOf", "()I"⟩, 86), (⟨"FairHallModel", "numberOf", "(II)I"⟩, 86), (⟨"FairHallModel", "wrong", "()V"⟩, 86), (⟨"FairHallModel", "wants", "(II)Z"⟩, 86), (⟨"FairHallModel", "lays", "()I"⟩, 86), (⟨"FairHallModel", "puts", "(III)V"⟩, 86), (⟨"FairHallModel", "canBear", "(II)Z"⟩, 86)]
theorem lw_r5 : ∀ q ∈ lw_privs_5, lw_okq q := List.forall_mem_cons.mpr ⟨lw_p64, List.forall_mem_cons.mpr ⟨lw_p65, List.forall_mem_cons.mpr ⟨lw_p66, List.forall_mem_cons.mpr ⟨lw_p67, List.forall_mem_cons.mpr ⟨lw_p68, List.forall_mem_cons.mpr ⟨lw_p69, List.forall_mem_cons.mpr ⟨lw_p70, List.forall_mem_cons.mpr ⟨lw_p71, fun _ h => absurd h List.not_mem_nil⟩⟩⟩⟩⟩⟩⟩⟩
def lw_privs : List (MethodName × Nat) := lw_privs_1 ++ (lw_privs_2 ++ (lw_privs_3 ++ (lw_privs_4 ++ (lw_privs_5))))
def lw_tbl : List Cond := k2_sels lw_privs ++ tables_1
theorem lw_privs_ok : ∀ q ∈ lw_privs, lw_okq q := by
  show ∀ q ∈ lw_privs_1 ++ (lw_privs_2 ++ (lw_privs_3 ++ (lw_privs_4 ++ (lw_privs_5)))), lw_okq q
  exact List.forall_mem_append.mpr ⟨lw_r1, List.forall_mem_append.mpr ⟨lw_r2, List.forall_mem_append.mpr ⟨lw_r3, List.forall_mem_append.mpr ⟨lw_r4, lw_r5⟩⟩⟩⟩
end
section
def RX0 : String := "FairHall$Boards"
def TX0 : u_T := fun k => match k with
  | 0 => ("FairHall$Boards", "count", "I", false)
  | 1 => ("FairHall$Boards", "field", "[I", true)
  | 2 => ("FairHall$Boards", "age", "[I", true)
  | 3 => ("FairHall$Boards", "school", "[I", true)
  | 4 => ("FairHall$Boards", "power", "[I", true)
  | _ => ("FairHall$Boards", "water", "[I", true)
def tyX0 : Nat → FieldType := fun k => match k with
  | 0 => .int
  | 1 => .array .int
  | 2 => .array .int
  | 3 => .array .int
  | 4 => .array .int
  | _ => .array .int
abbrev wsX00 : List Cond := u_ws RX0 TX0 6
theorem nmX0 : ∀ a, a < 6 → ∀ b, b < 6 → a ≠ b → (TX0 a).2.1 ≠ (TX0 b).2.1 := by decide +kernel
theorem tyX0_ok : ∀ k, k < 6 → parseFieldDescriptor (TX0 k).2.2.1 = some (tyX0 k) := by decide +kernel
abbrev cX0_init : ByteArray := prog_2_method_1_code
def yX0_init : MethodName := ⟨RX0, "<init>", "()V"⟩
abbrev cX0_has : ByteArray := prog_2_method_2_code
def yX0_has : MethodName := ⟨RX0, "has", "(I)Z"⟩
abbrev cX0_add : ByteArray := prog_2_method_3_code
def yX0_add : MethodName := ⟨RX0, "add", "(IIIIZ)I"⟩
abbrev cX0_trait : ByteArray := prog_2_method_4_code
def yX0_trait : MethodName := ⟨RX0, "trait", "(II)I"⟩
def RX1 : String := "FairHall$Fraction"
def TX1 : u_T := fun k => match k with
  | 0 => ("FairHall$Fraction", "over", "J", false)
  | _ => ("FairHall$Fraction", "under", "J", false)
def tyX1 : Nat → FieldType := fun k => match k with
  | 0 => .long
  | _ => .long
abbrev wsX10 : List Cond := u_ws RX1 TX1 2
theorem nmX1 : ∀ a, a < 2 → ∀ b, b < 2 → a ≠ b → (TX1 a).2.1 ≠ (TX1 b).2.1 := by decide +kernel
theorem tyX1_ok : ∀ k, k < 2 → parseFieldDescriptor (TX1 k).2.2.1 = some (tyX1 k) := by decide +kernel
abbrev cX1_init : ByteArray := prog_3_method_1_code
def yX1_init : MethodName := ⟨RX1, "<init>", "()V"⟩
abbrev cX1_become : ByteArray := prog_3_method_2_code
def yX1_become : MethodName := ⟨RX1, "become", "(JJ)V"⟩
abbrev cX1_isAbove : ByteArray := prog_3_method_3_code
def yX1_isAbove : MethodName := ⟨RX1, "isAbove", "(LFairHall$Fraction;)Z"⟩
abbrev cX1_commonDivisor : ByteArray := prog_3_method_4_code
def yX1_commonDivisor : MethodName := ⟨RX1, "commonDivisor", "(JJ)J"⟩
def RX2 : String := "FairHall$Giver"
def TX2 : u_T := fun k => match k with
  | 0 => ("FairHall$Giver", "placeCount", "I", false)
  | 1 => ("FairHall$Giver", "places", "[I", true)
  | 2 => ("FairHall$Giver", "fairs", "[LFairHall$Fraction;", true)
  | 3 => ("FairHall$Giver", "rankedCount", "I", false)
  | 4 => ("FairHall$Giver", "ranked", "[I", true)
  | _ => ("FairHall$Giver", "hasOne", "[Z", true)
def tyX2 : Nat → FieldType := fun k => match k with
  | 0 => .int
  | 1 => .array .int
  | 2 => .array (.object "FairHall$Fraction")
  | 3 => .int
  | 4 => .array .int
  | _ => .array .boolean
abbrev wsX20 : List Cond := u_ws RX2 TX2 6
theorem nmX2 : ∀ a, a < 6 → ∀ b, b < 6 → a ≠ b → (TX2 a).2.1 ≠ (TX2 b).2.1 := by decide +kernel
theorem tyX2_ok : ∀ k, k < 6 → parseFieldDescriptor (TX2 k).2.2.1 = some (tyX2 k) := by decide +kernel
abbrev cX2_init : ByteArray := prog_4_method_1_code
def yX2_init : MethodName := ⟨RX2, "<init>", "()V"⟩
abbrev cX2_rank : ByteArray := prog_4_method_2_code
def yX2_rank : MethodName := ⟨RX2, "rank", "(LFairHall$Known;LFairHall$Scale;)V"⟩
abbrev cX2_give : ByteArray := prog_4_method_3_code
def yX2_give : MethodName := ⟨RX2, "give", "(LFairHall$PrizeRows;ILFairHall$Boards;LFairHall$Known;)V"⟩
abbrev cX2_giveOne : ByteArray := prog_4_method_4_code
def yX2_giveOne : MethodName := ⟨RX2, "giveOne", "(LFairHall$PrizeRows;ILFairHall$Boards;LFairHall$Known;)V"⟩
abbrev cX2_insert : ByteArray := prog_4_method_5_code
def yX2_insert : MethodName := ⟨RX2, "insert", "(I)V"⟩
def RX3 : String := "FairHall$Halls"
def TX3 : u_T := fun k => match k with
  | 0 => ("FairHall$Halls", "count", "I", false)
  | 1 => ("FairHall$Halls", "tryCount", "I", false)
  | 2 => ("FairHall$Halls", "hallOf", "[I", true)
  | 3 => ("FairHall$Halls", "places", "[I", true)
  | 4 => ("FairHall$Halls", "power", "[I", true)
  | 5 => ("FairHall$Halls", "water", "[I", true)
  | 6 => ("FairHall$Halls", "placesLeft", "[I", true)
  | 7 => ("FairHall$Halls", "powerLeft", "[I", true)
  | 8 => ("FairHall$Halls", "waterLeft", "[I", true)
  | 9 => ("FairHall$Halls", "boardsLaid", "I", false)
  | _ => ("FairHall$Halls", "outcome", "I", false)
def tyX3 : Nat → FieldType := fun k => match k with
  | 0 => .int
  | 1 => .int
  | 2 => .array .int
  | 3 => .array .int
  | 4 => .array .int
  | 5 => .array .int
  | 6 => .array .int
  | 7 => .array .int
  | 8 => .array .int
  | 9 => .int
  | _ => .int
abbrev wsX30 : List Cond := u_ws RX3 TX3 11
theorem nmX3 : ∀ a, a < 11 → ∀ b, b < 11 → a ≠ b → (TX3 a).2.1 ≠ (TX3 b).2.1 := by decide +kernel
theorem tyX3_ok : ∀ k, k < 11 → parseFieldDescriptor (TX3 k).2.2.1 = some (tyX3 k) := by decide +kernel
abbrev cX3_init : ByteArray := prog_5_method_1_code
def yX3_init : MethodName := ⟨RX3, "<init>", "()V"⟩
abbrev cX3_add : ByteArray := prog_5_method_2_code
def yX3_add : MethodName := ⟨RX3, "add", "(III)I"⟩
abbrev cX3_removeAll : ByteArray := prog_5_method_3_code
def yX3_removeAll : MethodName := ⟨RX3, "removeAll", "()V"⟩
abbrev cX3_lay : ByteArray := prog_5_method_4_code
def yX3_lay : MethodName := ⟨RX3, "lay", "(LFairHall$Boards;)I"⟩
abbrev cX3_emptyAll : ByteArray := prog_5_method_5_code
def yX3_emptyAll : MethodName := ⟨RX3, "emptyAll", "()V"⟩
abbrev cX3_search : ByteArray := prog_5_method_6_code
def yX3_search : MethodName := ⟨RX3, "search", "(LFairHall$Boards;)I"⟩
abbrev cX3_place : ByteArray := prog_5_method_7_code
def yX3_place : MethodName := ⟨RX3, "place", "(LFairHall$Boards;II)I"⟩
abbrev cX3_move : ByteArray := prog_5_method_8_code
def yX3_move : MethodName := ⟨RX3, "move", "(LFairHall$Boards;II)V"⟩
def RX4 : String := "FairHall$Judges"
def TX4 : u_T := fun k => match k with
  | 0 => ("FairHall$Judges", "count", "I", false)
  | 1 => ("FairHall$Judges", "fields", "[I", true)
  | 2 => ("FairHall$Judges", "school", "[I", true)
  | _ => ("FairHall$Judges", "most", "[I", true)
def tyX4 : Nat → FieldType := fun k => match k with
  | 0 => .int
  | 1 => .array .int
  | 2 => .array .int
  | _ => .array .int
abbrev wsX40 : List Cond := u_ws RX4 TX4 4
theorem nmX4 : ∀ a, a < 4 → ∀ b, b < 4 → a ≠ b → (TX4 a).2.1 ≠ (TX4 b).2.1 := by decide +kernel
theorem tyX4_ok : ∀ k, k < 4 → parseFieldDescriptor (TX4 k).2.2.1 = some (tyX4 k) := by decide +kernel
abbrev cX4_init : ByteArray := prog_6_method_1_code
def yX4_init : MethodName := ⟨RX4, "<init>", "()V"⟩
abbrev cX4_has : ByteArray := prog_6_method_2_code
def yX4_has : MethodName := ⟨RX4, "has", "(I)Z"⟩
abbrev cX4_add : ByteArray := prog_6_method_3_code
def yX4_add : MethodName := ⟨RX4, "add", "(III)I"⟩
abbrev cX4_isAllowed : ByteArray := prog_6_method_4_code
def yX4_isAllowed : MethodName := ⟨RX4, "isAllowed", "(ILFairHall$Boards;I)Z"⟩
abbrev cX4_allowedFor : ByteArray := prog_6_method_5_code
def yX4_allowedFor : MethodName := ⟨RX4, "allowedFor", "(LFairHall$Boards;I)I"⟩
def RX5 : String := "FairHall$Known"
def TX5 : u_T := fun k => match k with
  | 0 => ("FairHall$Known", "heapOf", "[I", true)
  | 1 => ("FairHall$Known", "points", "[I", true)
  | _ => ("FairHall$Known", "toldOn", "[I", true)
def tyX5 : Nat → FieldType := fun k => match k with
  | 0 => .array .int
  | 1 => .array .int
  | _ => .array .int
abbrev wsX50 : List Cond := u_ws RX5 TX5 3
theorem nmX5 : ∀ a, a < 3 → ∀ b, b < 3 → a ≠ b → (TX5 a).2.1 ≠ (TX5 b).2.1 := by decide +kernel
theorem tyX5_ok : ∀ k, k < 3 → parseFieldDescriptor (TX5 k).2.2.1 = some (tyX5 k) := by decide +kernel
abbrev cX5_init : ByteArray := prog_7_method_1_code
def yX5_init : MethodName := ⟨RX5, "<init>", "()V"⟩
abbrev cX5_lookBack : ByteArray := prog_7_method_2_code
def yX5_lookBack : MethodName := ⟨RX5, "lookBack", "(LFairHall$Marks;I)V"⟩
abbrev cX5_pointsOf : ByteArray := prog_7_method_3_code
def yX5_pointsOf : MethodName := ⟨RX5, "pointsOf", "(II)I"⟩
abbrev cX5_marksOf : ByteArray := prog_7_method_4_code
def yX5_marksOf : MethodName := ⟨RX5, "marksOf", "(I)I"⟩
abbrev cX5_heapAround : ByteArray := prog_7_method_5_code
def yX5_heapAround : MethodName := ⟨RX5, "heapAround", "(I)I"⟩
abbrev cX5_isGreat : ByteArray := prog_7_method_6_code
def yX5_isGreat : MethodName := ⟨RX5, "isGreat", "(I)Z"⟩
abbrev cX5_anyGreat : ByteArray := prog_7_method_7_code
def yX5_anyGreat : MethodName := ⟨RX5, "anyGreat", "()Z"⟩
abbrev cX5_takeLatest : ByteArray := prog_7_method_8_code
def yX5_takeLatest : MethodName := ⟨RX5, "takeLatest", "(LFairHall$Marks;I)V"⟩
abbrev cX5_formHeaps : ByteArray := prog_7_method_9_code
def yX5_formHeaps : MethodName := ⟨RX5, "formHeaps", "()V"⟩
abbrev cX5_joinHeaps : ByteArray := prog_7_method_10_code
def yX5_joinHeaps : MethodName := ⟨RX5, "joinHeaps", "(II)V"⟩
def RX6 : String := "FairHall$Marks"
def TX6 : u_T := fun k => match k with
  | 0 => ("FairHall$Marks", "count", "I", false)
  | 1 => ("FairHall$Marks", "judge", "[I", true)
  | 2 => ("FairHall$Marks", "board", "[I", true)
  | 3 => ("FairHall$Marks", "points", "[I", true)
  | 4 => ("FairHall$Marks", "toldOn", "[I", true)
  | _ => ("FairHall$Marks", "lostOn", "[I", true)
def tyX6 : Nat → FieldType := fun k => match k with
  | 0 => .int
  | 1 => .array .int
  | 2 => .array .int
  | 3 => .array .int
  | 4 => .array .int
  | _ => .array .int
abbrev wsX60 : List Cond := u_ws RX6 TX6 6
theorem nmX6 : ∀ a, a < 6 → ∀ b, b < 6 → a ≠ b → (TX6 a).2.1 ≠ (TX6 b).2.1 := by decide +kernel
theorem tyX6_ok : ∀ k, k < 6 → parseFieldDescriptor (TX6 k).2.2.1 = some (tyX6 k) := by decide +kernel
abbrev cX6_init : ByteArray := prog_8_method_1_code
def yX6_init : MethodName := ⟨RX6, "<init>", "()V"⟩
abbrev cX6_has : ByteArray := prog_8_method_2_code
def yX6_has : MethodName := ⟨RX6, "has", "(I)Z"⟩
abbrev cX6_add : ByteArray := prog_8_method_3_code
def yX6_add : MethodName := ⟨RX6, "add", "(IIII)I"⟩
abbrev cX6_standsOn : ByteArray := prog_8_method_4_code
def yX6_standsOn : MethodName := ⟨RX6, "standsOn", "(II)Z"⟩
def RX7 : String := "FairHall$Plan"
def TX7 : u_T := fun k => match k with
  | 0 => ("FairHall$Plan", "found", "Z", false)
  | 1 => ("FairHall$Plan", "boardCount", "I", false)
  | 2 => ("FairHall$Plan", "judgeCount", "I", false)
  | 3 => ("FairHall$Plan", "looksDue", "I", false)
  | 4 => ("FairHall$Plan", "holding", "I", false)
  | 5 => ("FairHall$Plan", "most", "[I", true)
  | 6 => ("FairHall$Plan", "allowed", "[I", true)
  | 7 => ("FairHall$Plan", "seers", "[I", true)
  | 8 => ("FairHall$Plan", "shown", "[I", true)
  | 9 => ("FairHall$Plan", "openBoard", "I", false)
  | 10 => ("FairHall$Plan", "openJudge", "I", false)
  | 11 => ("FairHall$Plan", "reachedBoards", "I", false)
  | 12 => ("FairHall$Plan", "reachedJudges", "I", false)
  | 13 => ("FairHall$Plan", "waitingCount", "I", false)
  | 14 => ("FairHall$Plan", "waiting", "[I", true)
  | 15 => ("FairHall$Plan", "judgeBefore", "[I", true)
  | _ => ("FairHall$Plan", "boardBefore", "[I", true)
def tyX7 : Nat → FieldType := fun k => match k with
  | 0 => .boolean
  | 1 => .int
  | 2 => .int
  | 3 => .int
  | 4 => .int
  | 5 => .array .int
  | 6 => .array .int
  | 7 => .array .int
  | 8 => .array .int
  | 9 => .int
  | 10 => .int
  | 11 => .int
  | 12 => .int
  | 13 => .int
  | 14 => .array .int
  | 15 => .array .int
  | _ => .array .int
abbrev wsX70 : List Cond := u_ws RX7 TX7 17
theorem nmX7 : ∀ a, a < 17 → ∀ b, b < 17 → a ≠ b → (TX7 a).2.1 ≠ (TX7 b).2.1 := by decide +kernel
theorem tyX7_ok : ∀ k, k < 17 → parseFieldDescriptor (TX7 k).2.2.1 = some (tyX7 k) := by decide +kernel
abbrev cX7_init : ByteArray := prog_9_method_1_code
def yX7_init : MethodName := ⟨RX7, "<init>", "()V"⟩
abbrev cX7_hasBoard : ByteArray := prog_9_method_2_code
def yX7_hasBoard : MethodName := ⟨RX7, "hasBoard", "(I)Z"⟩
abbrev cX7_hasJudge : ByteArray := prog_9_method_3_code
def yX7_hasJudge : MethodName := ⟨RX7, "hasJudge", "(I)Z"⟩
abbrev cX7_begin : ByteArray := prog_9_method_4_code
def yX7_begin : MethodName := ⟨RX7, "begin", "(LFairHall$Boards;LFairHall$Judges;I)V"⟩
abbrev cX7_giveAllLooks : ByteArray := prog_9_method_5_code
def yX7_giveAllLooks : MethodName := ⟨RX7, "giveAllLooks", "()V"⟩
abbrev cX7_turnToFirst : ByteArray := prog_9_method_6_code
def yX7_turnToFirst : MethodName := ⟨RX7, "turnToFirst", "()V"⟩
abbrev cX7_findHolding : ByteArray := prog_9_method_7_code
def yX7_findHolding : MethodName := ⟨RX7, "findHolding", "()V"⟩
abbrev cX7_lackInAll : ByteArray := prog_9_method_8_code
def yX7_lackInAll : MethodName := ⟨RX7, "lackInAll", "()I"⟩
abbrev cX7_prefer : ByteArray := prog_9_method_9_code
def yX7_prefer : MethodName := ⟨RX7, "prefer", "(II)V"⟩
abbrev cX7_addLook : ByteArray := prog_9_method_10_code
def yX7_addLook : MethodName := ⟨RX7, "addLook", "()Z"⟩
abbrev cX7_reachRoom : ByteArray := prog_9_method_11_code
def yX7_reachRoom : MethodName := ⟨RX7, "reachRoom", "()I"⟩
abbrev cX7_startAtLacking : ByteArray := prog_9_method_12_code
def yX7_startAtLacking : MethodName := ⟨RX7, "startAtLacking", "()V"⟩
abbrev cX7_reachShown : ByteArray := prog_9_method_13_code
def yX7_reachShown : MethodName := ⟨RX7, "reachShown", "(I)V"⟩
abbrev cX7_reach : ByteArray := prog_9_method_14_code
def yX7_reach : MethodName := ⟨RX7, "reach", "(II)V"⟩
abbrev cX7_lacks : ByteArray := prog_9_method_15_code
def yX7_lacks : MethodName := ⟨RX7, "lacks", "(I)Z"⟩
abbrev cX7_hasRoom : ByteArray := prog_9_method_16_code
def yX7_hasRoom : MethodName := ⟨RX7, "hasRoom", "(I)Z"⟩
abbrev cX7_openJudges : ByteArray := prog_9_method_17_code
def yX7_openJudges : MethodName := ⟨RX7, "openJudges", "(I)I"⟩
abbrev cX7_openBoards : ByteArray := prog_9_method_18_code
def yX7_openBoards : MethodName := ⟨RX7, "openBoards", "(I)I"⟩
abbrev cX7_join : ByteArray := prog_9_method_19_code
def yX7_join : MethodName := ⟨RX7, "join", "(II)V"⟩
abbrev cX7_part : ByteArray := prog_9_method_20_code
def yX7_part : MethodName := ⟨RX7, "part", "(II)V"⟩
def RX8 : String := "FairHall$PrizeRows"
def TX8 : u_T := fun k => match k with
  | 0 => ("FairHall$PrizeRows", "count", "I", false)
  | 1 => ("FairHall$PrizeRows", "best", "[I", true)
  | 2 => ("FairHall$PrizeRows", "alone", "[Z", true)
  | _ => ("FairHall$PrizeRows", "wish", "[[I", true)
def tyX8 : Nat → FieldType := fun k => match k with
  | 0 => .int
  | 1 => .array .int
  | 2 => .array .boolean
  | _ => .array (.array .int)
abbrev wsX80 : List Cond := u_ws RX8 TX8 4
theorem nmX8 : ∀ a, a < 4 → ∀ b, b < 4 → a ≠ b → (TX8 a).2.1 ≠ (TX8 b).2.1 := by decide +kernel
theorem tyX8_ok : ∀ k, k < 4 → parseFieldDescriptor (TX8 k).2.2.1 = some (tyX8 k) := by decide +kernel
abbrev cX8_init : ByteArray := prog_10_method_1_code
def yX8_init : MethodName := ⟨RX8, "<init>", "()V"⟩
abbrev cX8_has : ByteArray := prog_10_method_2_code
def yX8_has : MethodName := ⟨RX8, "has", "(I)Z"⟩
abbrev cX8_addEmpty : ByteArray := prog_10_method_3_code
def yX8_addEmpty : MethodName := ⟨RX8, "addEmpty", "()V"⟩
abbrev cX8_isWished : ByteArray := prog_10_method_4_code
def yX8_isWished : MethodName := ⟨RX8, "isWished", "(ILFairHall$Boards;II)Z"⟩
abbrev cX8_meets : ByteArray := prog_10_method_5_code
def yX8_meets : MethodName := ⟨RX8, "meets", "(III)Z"⟩
def RX9 : String := "FairHall$Scale"
def TX9 : u_T := fun k => match k with
  | 0 => ("FairHall$Scale", "hardUpper", "[J", true)
  | 1 => ("FairHall$Scale", "hardLower", "[J", true)
  | 2 => ("FairHall$Scale", "size", "I", false)
  | 3 => ("FairHall$Scale", "member", "[I", true)
  | 4 => ("FairHall$Scale", "rows", "[[J", true)
  | _ => ("FairHall$Scale", "minors", "[J", true)
def tyX9 : Nat → FieldType := fun k => match k with
  | 0 => .array .long
  | 1 => .array .long
  | 2 => .int
  | 3 => .array .int
  | 4 => .array (.array .long)
  | _ => .array .long
abbrev wsX90 : List Cond := u_ws RX9 TX9 6
theorem nmX9 : ∀ a, a < 6 → ∀ b, b < 6 → a ≠ b → (TX9 a).2.1 ≠ (TX9 b).2.1 := by decide +kernel
theorem tyX9_ok : ∀ k, k < 6 → parseFieldDescriptor (TX9 k).2.2.1 = some (tyX9 k) := by decide +kernel
abbrev cX9_init : ByteArray := prog_11_method_1_code
def yX9_init : MethodName := ⟨RX9, "<init>", "()V"⟩
abbrev cX9_weighAll : ByteArray := prog_11_method_2_code
def yX9_weighAll : MethodName := ⟨RX9, "weighAll", "(LFairHall$Known;)V"⟩
abbrev cX9_weigh : ByteArray := prog_11_method_3_code
def yX9_weigh : MethodName := ⟨RX9, "weigh", "(LFairHall$Known;I)V"⟩
abbrev cX9_rate : ByteArray := prog_11_method_4_code
def yX9_rate : MethodName := ⟨RX9, "rate", "(LFairHall$Known;ILFairHall$Fraction;)V"⟩
abbrev cX9_gather : ByteArray := prog_11_method_5_code
def yX9_gather : MethodName := ⟨RX9, "gather", "(LFairHall$Known;I)V"⟩
abbrev cX9_setRows : ByteArray := prog_11_method_6_code
def yX9_setRows : MethodName := ⟨RX9, "setRows", "(LFairHall$Known;)V"⟩
abbrev cX9_addBoard : ByteArray := prog_11_method_7_code
def yX9_addBoard : MethodName := ⟨RX9, "addBoard", "(LFairHall$Known;I)V"⟩
abbrev cX9_takeShares : ByteArray := prog_11_method_8_code
def yX9_takeShares : MethodName := ⟨RX9, "takeShares", "(LFairHall$Known;III)V"⟩
abbrev cX9_determinant : ByteArray := prog_11_method_9_code
def yX9_determinant : MethodName := ⟨RX9, "determinant", "(I)J"⟩
abbrev cX9_minor : ByteArray := prog_11_method_10_code
def yX9_minor : MethodName := ⟨RX9, "minor", "(II)J"⟩
def RX10 : String := "FairHall$TextReader"
def TX10 : u_T := fun k => match k with
  | 0 => ("FairHall$TextReader", "length", "I", false)
  | 1 => ("FairHall$TextReader", "faultKind", "I", false)
  | 2 => ("FairHall$TextReader", "faultPlace", "I", false)
  | 3 => ("FairHall$TextReader", "tape", "[B", true)
  | 4 => ("FairHall$TextReader", "end", "I", false)
  | 5 => ("FairHall$TextReader", "kind", "I", false)
  | 6 => ("FairHall$TextReader", "start", "I", false)
  | _ => ("FairHall$TextReader", "behind", "I", false)
def tyX10 : Nat → FieldType := fun k => match k with
  | 0 => .int
  | 1 => .int
  | 2 => .int
  | 3 => .array .byte
  | 4 => .int
  | 5 => .int
  | 6 => .int
  | _ => .int
abbrev wsX100 : List Cond := u_ws RX10 TX10 8
theorem nmX10 : ∀ a, a < 8 → ∀ b, b < 8 → a ≠ b → (TX10 a).2.1 ≠ (TX10 b).2.1 := by decide +kernel
theorem tyX10_ok : ∀ k, k < 8 → parseFieldDescriptor (TX10 k).2.2.1 = some (tyX10 k) := by decide +kernel
abbrev cX10_init : ByteArray := prog_12_method_1_code
def yX10_init : MethodName := ⟨RX10, "<init>", "()V"⟩
abbrev cX10_take : ByteArray := prog_12_method_2_code
def yX10_take : MethodName := ⟨RX10, "take", "(I)V"⟩
abbrev cX10_read : ByteArray := prog_12_method_3_code
def yX10_read : MethodName := ⟨RX10, "read", "(ILFairHall$PrizeRows;)V"⟩
abbrev cX10_readPrize : ByteArray := prog_12_method_4_code
def yX10_readPrize : MethodName := ⟨RX10, "readPrize", "(LFairHall$PrizeRows;)V"⟩
abbrev cX10_readWishes : ByteArray := prog_12_method_5_code
def yX10_readWishes : MethodName := ⟨RX10, "readWishes", "(LFairHall$PrizeRows;I)V"⟩
abbrev cX10_wishInHand : ByteArray := prog_12_method_6_code
def yX10_wishInHand : MethodName := ⟨RX10, "wishInHand", "()I"⟩
abbrev cX10_takeWord : ByteArray := prog_12_method_7_code
def yX10_takeWord : MethodName := ⟨RX10, "takeWord", "(Ljava/lang/String;)V"⟩
abbrev cX10_takeStop : ByteArray := prog_12_method_8_code
def yX10_takeStop : MethodName := ⟨RX10, "takeStop", "()V"⟩
abbrev cX10_takeNumber : ByteArray := prog_12_method_9_code
def yX10_takeNumber : MethodName := ⟨RX10, "takeNumber", "(II)I"⟩
abbrev cX10_blame : ByteArray := prog_12_method_10_code
def yX10_blame : MethodName := ⟨RX10, "blame", "(I)V"⟩
abbrev cX10_isWord : ByteArray := prog_12_method_11_code
def yX10_isWord : MethodName := ⟨RX10, "isWord", "(Ljava/lang/String;)Z"⟩
abbrev cX10_step : ByteArray := prog_12_method_12_code
def yX10_step : MethodName := ⟨RX10, "step", "()V"⟩
abbrev cX10_endOfRun : ByteArray := prog_12_method_13_code
def yX10_endOfRun : MethodName := ⟨RX10, "endOfRun", "(CC)I"⟩
def RX11 : String := "FairHall"
def TX11 : u_T := fun k => match k with
  | 0 => ("FairHall", "boards", "LFairHall$Boards;", true)
  | 1 => ("FairHall", "judges", "LFairHall$Judges;", true)
  | 2 => ("FairHall", "best", "LFairHall$Plan;", true)
  | 3 => ("FairHall", "marks", "LFairHall$Marks;", true)
  | 4 => ("FairHall", "known", "LFairHall$Known;", true)
  | 5 => ("FairHall", "scale", "LFairHall$Scale;", true)
  | 6 => ("FairHall", "fraction", "LFairHall$Fraction;", true)
  | 7 => ("FairHall", "reader", "LFairHall$TextReader;", true)
  | 8 => ("FairHall", "giver", "LFairHall$Giver;", true)
  | 9 => ("FairHall", "halls", "LFairHall$Halls;", true)
  | 10 => ("FairHall", "kept", "LFairHall$PrizeRows;", false)
  | 11 => ("FairHall", "spare", "LFairHall$PrizeRows;", false)
  | 12 => ("FairHall", "looksDue", "I", false)
  | _ => ("FairHall", "latest", "I", false)
def tyX11 : Nat → FieldType := fun k => match k with
  | 0 => .object "FairHall$Boards"
  | 1 => .object "FairHall$Judges"
  | 2 => .object "FairHall$Plan"
  | 3 => .object "FairHall$Marks"
  | 4 => .object "FairHall$Known"
  | 5 => .object "FairHall$Scale"
  | 6 => .object "FairHall$Fraction"
  | 7 => .object "FairHall$TextReader"
  | 8 => .object "FairHall$Giver"
  | 9 => .object "FairHall$Halls"
  | 10 => .object "FairHall$PrizeRows"
  | 11 => .object "FairHall$PrizeRows"
  | 12 => .int
  | _ => .int
abbrev wsX110 : List Cond := u_ws RX11 TX11 14
theorem nmX11 : ∀ a, a < 14 → ∀ b, b < 14 → a ≠ b → (TX11 a).2.1 ≠ (TX11 b).2.1 := by decide +kernel
theorem tyX11_ok : ∀ k, k < 14 → parseFieldDescriptor (TX11 k).2.2.1 = some (tyX11 k) := by decide +kernel
abbrev cX11_init : ByteArray := prog_1_method_1_code
def yX11_init : MethodName := ⟨RX11, "<init>", "()V"⟩
abbrev cX11_status : ByteArray := prog_1_method_2_code
def yX11_status : MethodName := ⟨RX11, "status", "()I"⟩
abbrev cX11_board : ByteArray := prog_1_method_3_code
def yX11_board : MethodName := ⟨RX11, "board", "(IIIIZ)I"⟩
abbrev cX11_judge : ByteArray := prog_1_method_4_code
def yX11_judge : MethodName := ⟨RX11, "judge", "(III)I"⟩
abbrev cX11_told : ByteArray := prog_1_method_5_code
def yX11_told : MethodName := ⟨RX11, "told", "(II)I"⟩
abbrev cX11_may : ByteArray := prog_1_method_6_code
def yX11_may : MethodName := ⟨RX11, "may", "(II)I"⟩
abbrev cX11_looks : ByteArray := prog_1_method_7_code
def yX11_looks : MethodName := ⟨RX11, "looks", "(I)Z"⟩
abbrev cX11_plan : ByteArray := prog_1_method_8_code
def yX11_plan : MethodName := ⟨RX11, "plan", "()I"⟩
abbrev cX11_sees : ByteArray := prog_1_method_9_code
def yX11_sees : MethodName := ⟨RX11, "sees", "(II)I"⟩
abbrev cX11_holds : ByteArray := prog_1_method_10_code
def yX11_holds : MethodName := ⟨RX11, "holds", "(I)I"⟩
abbrev cX11_mark : ByteArray := prog_1_method_11_code
def yX11_mark : MethodName := ⟨RX11, "mark", "(IIII)I"⟩
abbrev cX11_lose : ByteArray := prog_1_method_12_code
def yX11_lose : MethodName := ⟨RX11, "lose", "(II)Z"⟩
abbrev cX11_seen : ByteArray := prog_1_method_13_code
def yX11_seen : MethodName := ⟨RX11, "seen", "(II)I"⟩
abbrev cX11_heap : ByteArray := prog_1_method_14_code
def yX11_heap : MethodName := ⟨RX11, "heap", "(II)I"⟩
abbrev cX11_hardness : ByteArray := prog_1_method_15_code
def yX11_hardness : MethodName := ⟨RX11, "hardness", "(II)Z"⟩
abbrev cX11_fair : ByteArray := prog_1_method_16_code
def yX11_fair : MethodName := ⟨RX11, "fair", "(II)Z"⟩
abbrev cX11_upper : ByteArray := prog_1_method_17_code
def yX11_upper : MethodName := ⟨RX11, "upper", "()J"⟩
abbrev cX11_lower : ByteArray := prog_1_method_18_code
def yX11_lower : MethodName := ⟨RX11, "lower", "()J"⟩
abbrev cX11_feed : ByteArray := prog_1_method_19_code
def yX11_feed : MethodName := ⟨RX11, "feed", "(IIIII)I"⟩
abbrev cX11_prizes : ByteArray := prog_1_method_20_code
def yX11_prizes : MethodName := ⟨RX11, "prizes", "(I)I"⟩
abbrev cX11_fault : ByteArray := prog_1_method_21_code
def yX11_fault : MethodName := ⟨RX11, "fault", "(I)I"⟩
abbrev cX11_given : ByteArray := prog_1_method_22_code
def yX11_given : MethodName := ⟨RX11, "given", "(III)I"⟩
abbrev cX11_hall : ByteArray := prog_1_method_23_code
def yX11_hall : MethodName := ⟨RX11, "hall", "(III)I"⟩
abbrev cX11_clear : ByteArray := prog_1_method_24_code
def yX11_clear : MethodName := ⟨RX11, "clear", "()Z"⟩
abbrev cX11_laid : ByteArray := prog_1_method_25_code
def yX11_laid : MethodName := ⟨RX11, "laid", "(I)I"⟩
abbrev cX11_tries : ByteArray := prog_1_method_26_code
def yX11_tries : MethodName := ⟨RX11, "tries", "()I"⟩
abbrev cX11_answer : ByteArray := prog_1_method_27_code
def yX11_answer : MethodName := ⟨RX11, "answer", "(I)I"⟩
abbrev cX11_yes : ByteArray := prog_1_method_28_code
def yX11_yes : MethodName := ⟨RX11, "yes", "()Z"⟩
abbrev cX11_none : ByteArray := prog_1_method_29_code
def yX11_none : MethodName := ⟨RX11, "none", "(I)I"⟩
abbrev cX11_no : ByteArray := prog_1_method_30_code
def yX11_no : MethodName := ⟨RX11, "no", "(I)Z"⟩
abbrev cX11_whyNoHeap : ByteArray := prog_1_method_31_code
def yX11_whyNoHeap : MethodName := ⟨RX11, "whyNoHeap", "(II)I"⟩
abbrev cX11_within : ByteArray := prog_1_method_32_code
def yX11_within : MethodName := ⟨RX11, "within", "(III)Z"⟩
abbrev cX11_isDay : ByteArray := prog_1_method_33_code
def yX11_isDay : MethodName := ⟨RX11, "isDay", "(I)Z"⟩
abbrev cX11_lowestBit : ByteArray := prog_1_method_34_code
def yX11_lowestBit : MethodName := ⟨RX11, "lowestBit", "(I)I"⟩
def RX12 : String := "FairHallModel"
def TX12 : u_T := fun k => match k with
  | 0 => ("FairHallModel", "status", "I", false)
  | 1 => ("FairHallModel", "thrown", "I", false)
  | 2 => ("FairHallModel", "above", "J", false)
  | 3 => ("FairHallModel", "under", "J", false)
  | 4 => ("FairHallModel", "boards", "I", false)
  | 5 => ("FairHallModel", "judges", "I", false)
  | 6 => ("FairHallModel", "looks", "I", false)
  | 7 => ("FairHallModel", "field", "[I", true)
  | 8 => ("FairHallModel", "age", "[I", true)
  | 9 => ("FairHallModel", "school", "[I", true)
  | 10 => ("FairHallModel", "power", "[I", true)
  | 11 => ("FairHallModel", "fields", "[I", true)
  | 12 => ("FairHallModel", "theirs", "[I", true)
  | 13 => ("FairHallModel", "most", "[I", true)
  | 14 => ("FairHallModel", "water", "[Z", true)
  | 15 => ("FairHallModel", "hasPlan", "Z", false)
  | 16 => ("FairHallModel", "planBoards", "I", false)
  | 17 => ("FairHallModel", "planJudges", "I", false)
  | 18 => ("FairHallModel", "plan", "[Z", true)
  | 19 => ("FairHallModel", "now", "[Z", true)
  | 20 => ("FairHallModel", "holding", "[Z", true)
  | 21 => ("FairHallModel", "ledJudge", "[Z", true)
  | 22 => ("FairHallModel", "ledBoard", "[Z", true)
  | 23 => ("FairHallModel", "fixed", "[I", true)
  | 24 => ("FairHallModel", "had", "[I", true)
  | 25 => ("FairHallModel", "load", "[I", true)
  | 26 => ("FairHallModel", "by", "[I", true)
  | 27 => ("FairHallModel", "queue", "[I", true)
  | 28 => ("FairHallModel", "came", "[I", true)
  | 29 => ("FairHallModel", "marks", "I", false)
  | 30 => ("FairHallModel", "markJudge", "[I", true)
  | 31 => ("FairHallModel", "markBoard", "[I", true)
  | 32 => ("FairHallModel", "mark", "[I", true)
  | 33 => ("FairHallModel", "markDay", "[I", true)
  | 34 => ("FairHallModel", "lostDay", "[I", true)
  | 35 => ("FairHallModel", "counts", "[I", true)
  | 36 => ("FairHallModel", "heap", "[I", true)
  | 37 => ("FairHallModel", "heapJudge", "[I", true)
  | 38 => ("FairHallModel", "order", "[I", true)
  | 39 => ("FairHallModel", "heapMany", "I", false)
  | 40 => ("FairHallModel", "lines", "[J", true)
  | 41 => ("FairHallModel", "right", "[J", true)
  | 42 => ("FairHallModel", "upperOf", "[J", true)
  | 43 => ("FairHallModel", "lowerOf", "J", false)
  | 44 => ("FairHallModel", "tape", "[B", true)
  | 45 => ("FairHallModel", "taped", "I", false)
  | 46 => ("FairHallModel", "end", "I", false)
  | 47 => ("FairHallModel", "faultKind", "I", false)
  | 48 => ("FairHallModel", "faultAt", "I", false)
  | 49 => ("FairHallModel", "bad", "I", false)
  | 50 => ("FairHallModel", "badAt", "I", false)
  | 51 => ("FairHallModel", "prizes", "I", false)
  | 52 => ("FairHallModel", "newPrizes", "I", false)
  | 53 => ("FairHallModel", "wishField", "[I", true)
  | 54 => ("FairHallModel", "wishAge", "[I", true)
  | 55 => ("FairHallModel", "wishSchool", "[I", true)
  | 56 => ("FairHallModel", "wishSeen", "[I", true)
  | 57 => ("FairHallModel", "best", "[I", true)
  | 58 => ("FairHallModel", "alone", "[Z", true)
  | 59 => ("FairHallModel", "newField", "[I", true)
  | 60 => ("FairHallModel", "newAge", "[I", true)
  | 61 => ("FairHallModel", "newSchool", "[I", true)
  | 62 => ("FairHallModel", "newSeen", "[I", true)
  | 63 => ("FairHallModel", "newBest", "[I", true)
  | 64 => ("FairHallModel", "newAlone", "[Z", true)
  | 65 => ("FairHallModel", "fairTop", "[J", true)
  | 66 => ("FairHallModel", "fairLow", "[J", true)
  | 67 => ("FairHallModel", "hasFair", "[Z", true)
  | 68 => ("FairHallModel", "hasPrize", "[Z", true)
  | 69 => ("FairHallModel", "taken", "[Z", true)
  | 70 => ("FairHallModel", "halls", "I", false)
  | 71 => ("FairHallModel", "tries", "I", false)
  | 72 => ("FairHallModel", "places", "[I", true)
  | 73 => ("FairHallModel", "bears", "[I", true)
  | 74 => ("FairHallModel", "wet", "[I", true)
  | 75 => ("FairHallModel", "lies", "[I", true)
  | 76 => ("FairHallModel", "usedPlaces", "[I", true)
  | 77 => ("FairHallModel", "usedPower", "[I", true)
  | 78 => ("FairHallModel", "usedWater", "[I", true)
  | 79 => ("FairHallModel", "fairA", "J", false)
  | 80 => ("FairHallModel", "fairB", "J", false)
  | 81 => ("FairHallModel", "sort", "I", false)
  | 82 => ("FairHallModel", "place", "I", false)
  | 83 => ("FairHallModel", "behind", "I", false)
  | 84 => ("FairHallModel", "number", "I", false)
  | _ => ("FairHallModel", "word", "J", false)
def tyX12 : Nat → FieldType := fun k => match k with
  | 0 => .int
  | 1 => .int
  | 2 => .long
  | 3 => .long
  | 4 => .int
  | 5 => .int
  | 6 => .int
  | 7 => .array .int
  | 8 => .array .int
  | 9 => .array .int
  | 10 => .array .int
  | 11 => .array .int
  | 12 => .array .int
  | 13 => .array .int
  | 14 => .array .boolean
  | 15 => .boolean
  | 16 => .int
  | 17 => .int
  | 18 => .array .boolean
  | 19 => .array .boolean
  | 20 => .array .boolean
  | 21 => .array .boolean
  | 22 => .array .boolean
  | 23 => .array .int
  | 24 => .array .int
  | 25 => .array .int
  | 26 => .array .int
  | 27 => .array .int
  | 28 => .array .int
  | 29 => .int
  | 30 => .array .int
  | 31 => .array .int
  | 32 => .array .int
  | 33 => .array .int
  | 34 => .array .int
  | 35 => .array .int
  | 36 => .array .int
  | 37 => .array .int
  | 38 => .array .int
  | 39 => .int
  | 40 => .array .long
  | 41 => .array .long
  | 42 => .array .long
  | 43 => .long
  | 44 => .array .byte
  | 45 => .int
  | 46 => .int
  | 47 => .int
  | 48 => .int
  | 49 => .int
  | 50 => .int
  | 51 => .int
  | 52 => .int
  | 53 => .array .int
  | 54 => .array .int
  | 55 => .array .int
  | 56 => .array .int
  | 57 => .array .int
  | 58 => .array .boolean
  | 59 => .array .int
  | 60 => .array .int
  | 61 => .array .int
  | 62 => .array .int
  | 63 => .array .int
  | 64 => .array .boolean
  | 65 => .array .long
  | 66 => .array .long
  | 67 => .array .boolean
  | 68 => .array .boolean
  | 69 => .array .boolean
  | 70 => .int
  | 71 => .int
  | 72 => .array .int
  | 73 => .array .int
  | 74 => .array .int
  | 75 => .array .int
  | 76 => .array .int
  | 77 => .array .int
  | 78 => .array .int
  | 79 => .long
  | 80 => .long
  | 81 => .int
  | 82 => .int
  | 83 => .int
  | 84 => .int
  | _ => .long
abbrev wsX120 : List Cond := u_ws RX12 TX12 86
theorem nmX12 : ∀ a, a < 86 → ∀ b, b < 86 → a ≠ b → (TX12 a).2.1 ≠ (TX12 b).2.1 := by decide +kernel
theorem tyX12_ok : ∀ k, k < 86 → parseFieldDescriptor (TX12 k).2.2.1 = some (tyX12 k) := by decide +kernel
abbrev cX12_init : ByteArray := prog_14_method_1_code
def yX12_init : MethodName := ⟨RX12, "<init>", "()V"⟩
abbrev cX12_status : ByteArray := prog_14_method_3_code
def yX12_status : MethodName := ⟨RX12, "status", "()I"⟩
abbrev cX12_refuse : ByteArray := prog_14_method_4_code
def yX12_refuse : MethodName := ⟨RX12, "refuse", "(I)I"⟩
abbrev cX12_no : ByteArray := prog_14_method_5_code
def yX12_no : MethodName := ⟨RX12, "no", "(I)Z"⟩
abbrev cX12_board : ByteArray := prog_14_method_6_code
def yX12_board : MethodName := ⟨RX12, "board", "(IIIIZ)I"⟩
abbrev cX12_judge : ByteArray := prog_14_method_7_code
def yX12_judge : MethodName := ⟨RX12, "judge", "(III)I"⟩
abbrev cX12_isBoard : ByteArray := prog_14_method_8_code
def yX12_isBoard : MethodName := ⟨RX12, "isBoard", "(I)Z"⟩
abbrev cX12_isJudge : ByteArray := prog_14_method_9_code
def yX12_isJudge : MethodName := ⟨RX12, "isJudge", "(I)Z"⟩
abbrev cX12_mayOf : ByteArray := prog_14_method_10_code
def yX12_mayOf : MethodName := ⟨RX12, "mayOf", "(II)Z"⟩
abbrev cX12_told : ByteArray := prog_14_method_11_code
def yX12_told : MethodName := ⟨RX12, "told", "(II)I"⟩
abbrev cX12_may : ByteArray := prog_14_method_12_code
def yX12_may : MethodName := ⟨RX12, "may", "(II)I"⟩
abbrev cX12_looks : ByteArray := prog_14_method_13_code
def yX12_looks : MethodName := ⟨RX12, "looks", "(I)Z"⟩
abbrev cX12_at : ByteArray := prog_14_method_14_code
def yX12_at : MethodName := ⟨RX12, "at", "(II)I"⟩
abbrev cX12_find : ByteArray := prog_14_method_15_code
def yX12_find : MethodName := ⟨RX12, "find", "()I"⟩
abbrev cX12_isFree : ByteArray := prog_14_method_16_code
def yX12_isFree : MethodName := ⟨RX12, "isFree", "(II)Z"⟩
abbrev cX12_grows : ByteArray := prog_14_method_17_code
def yX12_grows : MethodName := ⟨RX12, "grows", "(I)Z"⟩
abbrev cX12_turns : ByteArray := prog_14_method_18_code
def yX12_turns : MethodName := ⟨RX12, "turns", "(I)V"⟩
abbrev cX12_plan : ByteArray := prog_14_method_19_code
def yX12_plan : MethodName := ⟨RX12, "plan", "()I"⟩
abbrev cX12_sees : ByteArray := prog_14_method_20_code
def yX12_sees : MethodName := ⟨RX12, "sees", "(II)I"⟩
abbrev cX12_holds : ByteArray := prog_14_method_21_code
def yX12_holds : MethodName := ⟨RX12, "holds", "(I)I"⟩
abbrev cX12_isDay : ByteArray := prog_14_method_22_code
def yX12_isDay : MethodName := ⟨RX12, "isDay", "(I)Z"⟩
abbrev cX12_mark : ByteArray := prog_14_method_23_code
def yX12_mark : MethodName := ⟨RX12, "mark", "(IIII)I"⟩
abbrev cX12_lose : ByteArray := prog_14_method_24_code
def yX12_lose : MethodName := ⟨RX12, "lose", "(II)Z"⟩
abbrev cX12_known : ByteArray := prog_14_method_25_code
def yX12_known : MethodName := ⟨RX12, "known", "(I)V"⟩
abbrev cX12_countOf : ByteArray := prog_14_method_26_code
def yX12_countOf : MethodName := ⟨RX12, "countOf", "(I)I"⟩
abbrev cX12_seen : ByteArray := prog_14_method_27_code
def yX12_seen : MethodName := ⟨RX12, "seen", "(II)I"⟩
abbrev cX12_heap : ByteArray := prog_14_method_28_code
def yX12_heap : MethodName := ⟨RX12, "heap", "(II)I"⟩
abbrev cX12_sizeOf : ByteArray := prog_14_method_29_code
def yX12_sizeOf : MethodName := ⟨RX12, "sizeOf", "(I)I"⟩
abbrev cX12_square : ByteArray := prog_14_method_30_code
def yX12_square : MethodName := ⟨RX12, "square", "(I)J"⟩
abbrev cX12_solve : ByteArray := prog_14_method_31_code
def yX12_solve : MethodName := ⟨RX12, "solve", "(I)V"⟩
abbrev cX12_common : ByteArray := prog_14_method_32_code
def yX12_common : MethodName := ⟨RX12, "common", "(JJ)J"⟩
abbrev cX12_tells : ByteArray := prog_14_method_33_code
def yX12_tells : MethodName := ⟨RX12, "tells", "(JJ)V"⟩
abbrev cX12_hardness : ByteArray := prog_14_method_34_code
def yX12_hardness : MethodName := ⟨RX12, "hardness", "(II)Z"⟩
abbrev cX12_fairOf : ByteArray := prog_14_method_35_code
def yX12_fairOf : MethodName := ⟨RX12, "fairOf", "(I)V"⟩
abbrev cX12_fair : ByteArray := prog_14_method_36_code
def yX12_fair : MethodName := ⟨RX12, "fair", "(II)Z"⟩
abbrev cX12_upper : ByteArray := prog_14_method_37_code
def yX12_upper : MethodName := ⟨RX12, "upper", "()J"⟩
abbrev cX12_lower : ByteArray := prog_14_method_38_code
def yX12_lower : MethodName := ⟨RX12, "lower", "()J"⟩
abbrev cX12_look : ByteArray := prog_14_method_39_code
def yX12_look : MethodName := ⟨RX12, "look", "(I)I"⟩
abbrev cX12_isLetter : ByteArray := prog_14_method_40_code
def yX12_isLetter : MethodName := ⟨RX12, "isLetter", "(I)Z"⟩
abbrev cX12_isDigit : ByteArray := prog_14_method_41_code
def yX12_isDigit : MethodName := ⟨RX12, "isDigit", "(I)Z"⟩
abbrev cX12_next : ByteArray := prog_14_method_42_code
def yX12_next : MethodName := ⟨RX12, "next", "()V"⟩
abbrev cX12_spelled : ByteArray := prog_14_method_43_code
def yX12_spelled : MethodName := ⟨RX12, "spelled", "(IIIIII)J"⟩
abbrev cX12_isWord : ByteArray := prog_14_method_44_code
def yX12_isWord : MethodName := ⟨RX12, "isWord", "(J)Z"⟩
abbrev cX12_fail : ByteArray := prog_14_method_45_code
def yX12_fail : MethodName := ⟨RX12, "fail", "(II)V"⟩
abbrev cX12_wrong : ByteArray := prog_14_method_46_code
def yX12_wrong : MethodName := ⟨RX12, "wrong", "()V"⟩
abbrev cX12_numberOf : ByteArray := prog_14_method_47_code
def yX12_numberOf : MethodName := ⟨RX12, "numberOf", "(II)I"⟩
abbrev cX12_wishOf : ByteArray := prog_14_method_48_code
def yX12_wishOf : MethodName := ⟨RX12, "wishOf", "()I"⟩
abbrev cX12_readPrize : ByteArray := prog_14_method_49_code
def yX12_readPrize : MethodName := ⟨RX12, "readPrize", "()V"⟩
abbrev cX12_feed : ByteArray := prog_14_method_50_code
def yX12_feed : MethodName := ⟨RX12, "feed", "(IIIII)I"⟩
abbrev cX12_lay : ByteArray := prog_14_method_51_code
def yX12_lay : MethodName := ⟨RX12, "lay", "(I)V"⟩
abbrev cX12_prizes : ByteArray := prog_14_method_52_code
def yX12_prizes : MethodName := ⟨RX12, "prizes", "(I)I"⟩
abbrev cX12_fault : ByteArray := prog_14_method_53_code
def yX12_fault : MethodName := ⟨RX12, "fault", "(I)I"⟩
abbrev cX12_isAbove : ByteArray := prog_14_method_54_code
def yX12_isAbove : MethodName := ⟨RX12, "isAbove", "(JJJJ)Z"⟩
abbrev cX12_wants : ByteArray := prog_14_method_55_code
def yX12_wants : MethodName := ⟨RX12, "wants", "(II)Z"⟩
abbrev cX12_given : ByteArray := prog_14_method_56_code
def yX12_given : MethodName := ⟨RX12, "given", "(III)I"⟩
abbrev cX12_hall : ByteArray := prog_14_method_57_code
def yX12_hall : MethodName := ⟨RX12, "hall", "(III)I"⟩
abbrev cX12_clear : ByteArray := prog_14_method_58_code
def yX12_clear : MethodName := ⟨RX12, "clear", "()Z"⟩
abbrev cX12_puts : ByteArray := prog_14_method_59_code
def yX12_puts : MethodName := ⟨RX12, "puts", "(III)V"⟩
abbrev cX12_canBear : ByteArray := prog_14_method_60_code
def yX12_canBear : MethodName := ⟨RX12, "canBear", "(II)Z"⟩
abbrev cX12_lays : ByteArray := prog_14_method_61_code
def yX12_lays : MethodName := ⟨RX12, "lays", "()I"⟩
abbrev cX12_laid : ByteArray := prog_14_method_62_code
def yX12_laid : MethodName := ⟨RX12, "laid", "(I)I"⟩
abbrev cX12_tries : ByteArray := prog_14_method_63_code
def yX12_tries : MethodName := ⟨RX12, "tries", "()I"⟩
def RJ6 : String := "java/lang/Integer"
def TJ6 : u_T := fun k => match k with
  | _ => ("", "", "", false)
def tyJ6 : Nat → FieldType := fun k => match k with
  | _ => .int
abbrev wsJ60 : List Cond := u_ws RJ6 TJ6 0
theorem nmJ6 : ∀ a, a < 0 → ∀ b, b < 0 → a ≠ b → (TJ6 a).2.1 ≠ (TJ6 b).2.1 := by decide +kernel
theorem tyJ6_ok : ∀ k, k < 0 → parseFieldDescriptor (TJ6 k).2.2.1 = some (tyJ6 k) := by decide +kernel
abbrev cJ6_bitCount_0f7a4 : ByteArray := prog_15_method_49_code
def yJ6_bitCount_0f7a4 : MethodName := ⟨RJ6, "bitCount", "(I)I"⟩
def RJ9 : String := "java/lang/Math"
def TJ9 : u_T := fun k => match k with
  | _ => ("", "", "", false)
def tyJ9 : Nat → FieldType := fun k => match k with
  | _ => .int
abbrev wsJ90 : List Cond := u_ws RJ9 TJ9 0
theorem nmJ9 : ∀ a, a < 0 → ∀ b, b < 0 → a ≠ b → (TJ9 a).2.1 ≠ (TJ9 b).2.1 := by decide +kernel
theorem tyJ9_ok : ∀ k, k < 0 → parseFieldDescriptor (TJ9 k).2.2.1 = some (tyJ9 k) := by decide +kernel
abbrev cJ9_floorDiv_f86c9 : ByteArray := prog_16_method_49_code
def yJ9_floorDiv_f86c9 : MethodName := ⟨RJ9, "floorDiv", "(JJ)J"⟩
abbrev cJ9_floorMod_f86c9 : ByteArray := prog_16_method_52_code
def yJ9_floorMod_f86c9 : MethodName := ⟨RJ9, "floorMod", "(JJ)J"⟩
abbrev cJ9_abs_067f4 : ByteArray := prog_16_method_61_code
def yJ9_abs_067f4 : MethodName := ⟨RJ9, "abs", "(J)J"⟩
abbrev cJ9_max_7cf53 : ByteArray := prog_16_method_65_code
def yJ9_max_7cf53 : MethodName := ⟨RJ9, "max", "(II)I"⟩
abbrev cJ9_min_7cf53 : ByteArray := prog_16_method_69_code
def yJ9_min_7cf53 : MethodName := ⟨RJ9, "min", "(II)I"⟩
def RJ0 : String := "java/lang/String"
def TJ0 : u_T := fun k => match k with
  | _ => ("", "", "", false)
def tyJ0 : Nat → FieldType := fun k => match k with
  | _ => .int
abbrev wsJ00 : List Cond := u_ws RJ0 TJ0 0
theorem nmJ0 : ∀ a, a < 0 → ∀ b, b < 0 → a ≠ b → (TJ0 a).2.1 ≠ (TJ0 b).2.1 := by decide +kernel
theorem tyJ0_ok : ∀ k, k < 0 → parseFieldDescriptor (TJ0 k).2.2.1 = some (tyJ0 k) := by decide +kernel
abbrev cJ0_length_8abf5 : ByteArray := prog_17_method_54_code
def yJ0_length_8abf5 : MethodName := ⟨RJ0, "length", "()I"⟩
abbrev cJ0_charAt_5068e : ByteArray := prog_17_method_56_code
def yJ0_charAt_5068e : MethodName := ⟨RJ0, "charAt", "(I)C"⟩
abbrev cJ0_coder_7d493 : ByteArray := prog_17_method_152_code
def yJ0_coder_7d493 : MethodName := ⟨RJ0, "coder", "()B"⟩
abbrev cJ0_isLatin1_aae02 : ByteArray := prog_17_method_154_code
def yJ0_isLatin1_aae02 : MethodName := ⟨RJ0, "isLatin1", "()Z"⟩
abbrev cJ0_checkIndex_df160 : ByteArray := prog_17_method_155_code
def yJ0_checkIndex_df160 : MethodName := ⟨RJ0, "checkIndex", "(II)V"⟩
def RJ1 : String := "java/lang/StringLatin1"
def TJ1 : u_T := fun k => match k with
  | _ => ("", "", "", false)
def tyJ1 : Nat → FieldType := fun k => match k with
  | _ => .int
abbrev wsJ10 : List Cond := u_ws RJ1 TJ1 0
theorem nmJ1 : ∀ a, a < 0 → ∀ b, b < 0 → a ≠ b → (TJ1 a).2.1 ≠ (TJ1 b).2.1 := by decide +kernel
theorem tyJ1_ok : ∀ k, k < 0 → parseFieldDescriptor (TJ1 k).2.2.1 = some (tyJ1 k) := by decide +kernel
abbrev cJ1_charAt_3b067 : ByteArray := prog_18_method_2_code
def yJ1_charAt_3b067 : MethodName := ⟨RJ1, "charAt", "([BI)C"⟩
def RJ2 : String := "java/lang/StringUTF16"
def TJ2 : u_T := fun k => match k with
  | _ => ("", "", "", false)
def tyJ2 : Nat → FieldType := fun k => match k with
  | _ => .int
abbrev wsJ20 : List Cond := u_ws RJ2 TJ2 0
theorem nmJ2 : ∀ a, a < 0 → ∀ b, b < 0 → a ≠ b → (TJ2 a).2.1 ≠ (TJ2 b).2.1 := by decide +kernel
theorem tyJ2_ok : ∀ k, k < 0 → parseFieldDescriptor (TJ2 k).2.2.1 = some (tyJ2 k) := by decide +kernel
abbrev cJ2_getChar_3b067 : ByteArray := prog_19_method_5_code
def yJ2_getChar_3b067 : MethodName := ⟨RJ2, "getChar", "([BI)C"⟩
abbrev cJ2_length_9d52b : ByteArray := prog_19_method_6_code
def yJ2_length_9d52b : MethodName := ⟨RJ2, "length", "([B)I"⟩
abbrev cJ2_charAt_3b067 : ByteArray := prog_19_method_83_code
def yJ2_charAt_3b067 : MethodName := ⟨RJ2, "charAt", "([BI)C"⟩
abbrev cJ2_checkIndex_2214a : ByteArray := prog_19_method_91_code
def yJ2_checkIndex_2214a : MethodName := ⟨RJ2, "checkIndex", "(I[B)V"⟩
def RJ3 : String := "jdk/internal/util/Preconditions"
def TJ3 : u_T := fun k => match k with
  | _ => ("", "", "", false)
def tyJ3 : Nat → FieldType := fun k => match k with
  | _ => .int
abbrev wsJ30 : List Cond := u_ws RJ3 TJ3 0
theorem nmJ3 : ∀ a, a < 0 → ∀ b, b < 0 → a ≠ b → (TJ3 a).2.1 ≠ (TJ3 b).2.1 := by decide +kernel
theorem tyJ3_ok : ∀ k, k < 0 → parseFieldDescriptor (TJ3 k).2.2.1 = some (tyJ3 k) := by decide +kernel
abbrev cJ3_checkIndex_8e157 : ByteArray := prog_20_method_11_code
def yJ3_checkIndex_8e157 : MethodName := ⟨RJ3, "checkIndex", "(IILjava/util/function/BiFunction;)I"⟩
def RL : String := "FairHallLaw"
abbrev cL_law : ByteArray := code
def yL_law : MethodName := ⟨RL, "law", "([I)Z"⟩
abbrev vwCl : List vw_C := [(RX0, TX0, 6), (RX1, TX1, 2), (RX2, TX2, 6), (RX3, TX3, 11), (RX4, TX4, 4), (RX5, TX5, 3), (RX6, TX6, 6), (RX7, TX7, 17), (RX8, TX8, 4), (RX9, TX9, 6), (RX10, TX10, 8), (RX11, TX11, 14), (RX12, TX12, 86)]
def gt : List Cond := lw_tbl.filter goodWord
theorem gt_mem {w : Cond} (h : w ∈ lw_tbl) (hg : goodWord w = true) : w ∈ gt := List.mem_filter.mpr ⟨h, hg⟩
theorem gt_good : ∀ w ∈ gt, goodWord w = true := fun _ h => (List.mem_filter.mp h).2
theorem gt_tbl : ∀ w ∈ gt, w ∈ lw_tbl := fun _ h => (List.mem_filter.mp h).1
theorem tmem {w : Cond} (i : Nat) (h : tables_1[i]? = some w) (hg : goodWord w = true) : w ∈ gt := gt_mem (List.mem_append_right _ (List.mem_of_getElem? h)) hg
theorem smem {w : Cond} (i : Nat) (h : (k2_sels lw_privs)[i]? = some w) (hg : goodWord w = true) : w ∈ gt := gt_mem (List.mem_append_left _ (List.mem_of_getElem? h)) hg
theorem tmems {ws : List Cond} (ps : List Nat) (h : ws = ps.filterMap (fun i => tables_1[i]?)) (hg : ws.all goodWord = true) : ∀ w ∈ ws, w ∈ gt := by
  intro w hw
  have h2 := List.all_eq_true.mp hg w hw
  rw [h] at hw
  obtain ⟨i, -, hi⟩ := List.mem_filterMap.mp hw
  exact tmem i hi h2
theorem inX0 : ∀ w ∈ u_ws RX0 TX0 6, w ∈ gt := tmems [50, 52, 54, 56, 58, 60] (by decide +kernel) (by decide +kernel)
theorem inX1 : ∀ w ∈ u_ws RX1 TX1 2, w ∈ gt := tmems [237, 239] (by decide +kernel) (by decide +kernel)
theorem inX2 : ∀ w ∈ u_ws RX2 TX2 6, w ∈ gt := tmems [294, 296, 298, 300, 302, 304] (by decide +kernel) (by decide +kernel)
theorem inX3 : ∀ w ∈ u_ws RX3 TX3 11, w ∈ gt := tmems [328, 330, 332, 334, 336, 338, 340, 342, 344, 346, 348] (by decide +kernel) (by decide +kernel)
theorem inX4 : ∀ w ∈ u_ws RX4 TX4 4, w ∈ gt := tmems [77, 79, 81, 83] (by decide +kernel) (by decide +kernel)
theorem inX5 : ∀ w ∈ u_ws RX5 TX5 3, w ∈ gt := tmems [190, 192, 194] (by decide +kernel) (by decide +kernel)
theorem inX6 : ∀ w ∈ u_ws RX6 TX6 6, w ∈ gt := tmems [166, 168, 170, 172, 174, 176] (by decide +kernel) (by decide +kernel)
theorem inX7 : ∀ w ∈ u_ws RX7 TX7 17, w ∈ gt := tmems [112, 114, 116, 118, 120, 122, 124, 126, 128, 130, 132, 134, 136, 138, 140, 142, 144] (by decide +kernel) (by decide +kernel)
theorem inX8 : ∀ w ∈ u_ws RX8 TX8 4, w ∈ gt := tmems [370, 372, 374, 376] (by decide +kernel) (by decide +kernel)
theorem inX9 : ∀ w ∈ u_ws RX9 TX9 6, w ∈ gt := tmems [213, 215, 217, 219, 221, 223] (by decide +kernel) (by decide +kernel)
theorem inX10 : ∀ w ∈ u_ws RX10 TX10 8, w ∈ gt := tmems [259, 261, 263, 265, 267, 269, 271, 273] (by decide +kernel) (by decide +kernel)
theorem inX11 : ∀ w ∈ u_ws RX11 TX11 14, w ∈ gt := tmems [393, 395, 397, 399, 401, 403, 405, 407, 409, 411, 413, 415, 417, 419] (by decide +kernel) (by decide +kernel)
theorem inX12 : ∀ w ∈ u_ws RX12 TX12 86, w ∈ gt := tmems [1043, 1045, 1047, 1049, 1051, 1053, 1055, 1057, 1059, 1061, 1063, 1065, 1067, 1069, 1071, 1073, 1075, 1077, 1079, 1081, 1083, 1085, 1087, 1089, 1091, 1093, 1095, 1097, 1099, 1101, 1103, 1105, 1107, 1109, 1111, 1113, 1115, 1117, 1119, 1121, 1123, 1125, 1127, 1129, 1131, 1133, 1135, 1137, 1139, 1141, 1143, 1145, 1147, 1149, 1151, 1153, 1155, 1157, 1159, 1161, 1163, 1165, 1167, 1169, 1171, 1173, 1175, 1177, 1179, 1181, 1183, 1185, 1187, 1189, 1191, 1193, 1195, 1197, 1199, 1201, 1203, 1205, 1207, 1209, 1211, 1213] (by decide +kernel) (by decide +kernel)
end
section
theorem dX12_init_0 : decode cX12_init 0 = .ok (.aload_n 0, 1) := by decide +kernel
theorem dX12_init_1 : decode cX12_init 1 = .ok (.invokespecial 1, 3) := by decide +kernel
theorem dX12_init_4 : decode cX12_init 4 = .ok (.aload_n 0, 1) := by decide +kernel
theorem dX12_init_5 : decode cX12_init 5 = .ok (.lconst 1, 1) := by decide +kernel
theorem dX12_init_6 : decode cX12_init 6 = .ok (.putfield 7, 3) := by decide +kernel
theorem dX12_init_9 : decode cX12_init 9 = .ok (.aload_n 0, 1) := by decide +kernel
theorem dX12_init_10 : decode cX12_init 10 = .ok (.iconst 2, 1) := by decide +kernel
theorem dX12_init_11 : decode cX12_init 11 = .ok (.putfield 13, 3) := by decide +kernel
theorem dX12_init_14 : decode cX12_init 14 = .ok (.aload_n 0, 1) := by decide +kernel
theorem dX12_init_15 : decode cX12_init 15 = .ok (.bipush 24, 2) := by decide +kernel
theorem dX12_init_17 : decode cX12_init 17 = .ok (.newarray .int, 2) := by decide +kernel
theorem dX12_init_19 : decode cX12_init 19 = .ok (.putfield 17, 3) := by decide +kernel
theorem dX12_init_22 : decode cX12_init 22 = .ok (.aload_n 0, 1) := by decide +kernel
theorem dX12_init_23 : decode cX12_init 23 = .ok (.bipush 24, 2) := by decide +kernel
theorem dX12_init_25 : decode cX12_init 25 = .ok (.newarray .int, 2) := by decide +kernel
theorem dX12_init_27 : decode cX12_init 27 = .ok (.putfield 21, 3) := by decide +kernel
theorem dX12_init_30 : decode cX12_init 30 = .ok (.aload_n 0, 1) := by decide +kernel
theorem dX12_init_31 : decode cX12_init 31 = .ok (.bipush 24, 2) := by decide +kernel
theorem dX12_init_33 : decode cX12_init 33 = .ok (.newarray .int, 2) := by decide +kernel
theorem dX12_init_35 : decode cX12_init 35 = .ok (.putfield 24, 3) := by decide +kernel
theorem dX12_init_38 : decode cX12_init 38 = .ok (.aload_n 0, 1) := by decide +kernel
theorem dX12_init_39 : decode cX12_init 39 = .ok (.bipush 24, 2) := by decide +kernel
theorem dX12_init_41 : decode cX12_init 41 = .ok (.newarray .int, 2) := by decide +kernel
theorem dX12_init_43 : decode cX12_init 43 = .ok (.putfield 27, 3) := by decide +kernel
theorem dX12_init_46 : decode cX12_init 46 = .ok (.aload_n 0, 1) := by decide +kernel
theorem dX12_init_47 : decode cX12_init 47 = .ok (.bipush 12, 2) := by decide +kernel
theorem dX12_init_49 : decode cX12_init 49 = .ok (.newarray .int, 2) := by decide +kernel
theorem dX12_init_51 : decode cX12_init 51 = .ok (.putfield 30, 3) := by decide +kernel
theorem dX12_init_54 : decode cX12_init 54 = .ok (.aload_n 0, 1) := by decide +kernel
theorem dX12_init_55 : decode cX12_init 55 = .ok (.bipush 12, 2) := by decide +kernel
theorem dX12_init_57 : decode cX12_init 57 = .ok (.newarray .int, 2) := by decide +kernel
theorem dX12_init_59 : decode cX12_init 59 = .ok (.putfield 33, 3) := by decide +kernel
theorem dX12_init_62 : decode cX12_init 62 = .ok (.aload_n 0, 1) := by decide +kernel
theorem dX12_init_63 : decode cX12_init 63 = .ok (.bipush 12, 2) := by decide +kernel
theorem dX12_init_65 : decode cX12_init 65 = .ok (.newarray .int, 2) := by decide +kernel
theorem dX12_init_67 : decode cX12_init 67 = .ok (.putfield 36, 3) := by decide +kernel
theorem dX12_init_70 : decode cX12_init 70 = .ok (.aload_n 0, 1) := by decide +kernel
theorem dX12_init_71 : decode cX12_init 71 = .ok (.bipush 24, 2) := by decide +kernel
theorem dX12_init_73 : decode cX12_init 73 = .ok (.newarray .boolean, 2) := by decide +kernel
theorem dX12_init_75 : decode cX12_init 75 = .ok (.putfield 39, 3) := by decide +kernel
theorem dX12_init_78 : decode cX12_init 78 = .ok (.aload_n 0, 1) := by decide +kernel
theorem dX12_init_79 : decode cX12_init 79 = .ok (.sipush 288, 3) := by decide +kernel
theorem dX12_init_82 : decode cX12_init 82 = .ok (.newarray .boolean, 2) := by decide +kernel
theorem dX12_init_84 : decode cX12_init 84 = .ok (.putfield 43, 3) := by decide +kernel
theorem dX12_init_87 : decode cX12_init 87 = .ok (.aload_n 0, 1) := by decide +kernel
theorem dX12_init_88 : decode cX12_init 88 = .ok (.sipush 288, 3) := by decide +kernel
theorem dX12_init_91 : decode cX12_init 91 = .ok (.newarray .boolean, 2) := by decide +kernel
theorem dX12_init_93 : decode cX12_init 93 = .ok (.putfield 46, 3) := by decide +kernel
theorem dX12_init_96 : decode cX12_init 96 = .ok (.aload_n 0, 1) := by decide +kernel
theorem dX12_init_97 : decode cX12_init 97 = .ok (.bipush 24, 2) := by decide +kernel
theorem dX12_init_99 : decode cX12_init 99 = .ok (.newarray .boolean, 2) := by decide +kernel
theorem dX12_init_101 : decode cX12_init 101 = .ok (.putfield 49, 3) := by decide +kernel
theorem dX12_init_104 : decode cX12_init 104 = .ok (.aload_n 0, 1) := by decide +kernel
theorem dX12_init_105 : decode cX12_init 105 = .ok (.bipush 12, 2) := by decide +kernel
theorem dX12_init_107 : decode cX12_init 107 = .ok (.newarray .boolean, 2) := by decide +kernel
theorem dX12_init_109 : decode cX12_init 109 = .ok (.putfield 52, 3) := by decide +kernel
theorem dX12_init_112 : decode cX12_init 112 = .ok (.aload_n 0, 1) := by decide +kernel
theorem dX12_init_113 : decode cX12_init 113 = .ok (.bipush 24, 2) := by decide +kernel
theorem dX12_init_115 : decode cX12_init 115 = .ok (.newarray .boolean, 2) := by decide +kernel
theorem dX12_init_117 : decode cX12_init 117 = .ok (.putfield 55, 3) := by decide +kernel
theorem dX12_init_120 : decode cX12_init 120 = .ok (.aload_n 0, 1) := by decide +kernel
theorem dX12_init_121 : decode cX12_init 121 = .ok (.sipush 288, 3) := by decide +kernel
theorem dX12_init_124 : decode cX12_init 124 = .ok (.newarray .int, 2) := by decide +kernel
theorem dX12_init_126 : decode cX12_init 126 = .ok (.putfield 58, 3) := by decide +kernel
theorem dX12_init_129 : decode cX12_init 129 = .ok (.aload_n 0, 1) := by decide +kernel
theorem dX12_init_130 : decode cX12_init 130 = .ok (.bipush 24, 2) := by decide +kernel
theorem dX12_init_132 : decode cX12_init 132 = .ok (.newarray .int, 2) := by decide +kernel
theorem dX12_init_134 : decode cX12_init 134 = .ok (.putfield 61, 3) := by decide +kernel
theorem dX12_init_137 : decode cX12_init 137 = .ok (.aload_n 0, 1) := by decide +kernel
theorem dX12_init_138 : decode cX12_init 138 = .ok (.bipush 12, 2) := by decide +kernel
theorem dX12_init_140 : decode cX12_init 140 = .ok (.newarray .int, 2) := by decide +kernel
theorem dX12_init_142 : decode cX12_init 142 = .ok (.putfield 64, 3) := by decide +kernel
theorem dX12_init_145 : decode cX12_init 145 = .ok (.aload_n 0, 1) := by decide +kernel
theorem dX12_init_146 : decode cX12_init 146 = .ok (.bipush 12, 2) := by decide +kernel
theorem dX12_init_148 : decode cX12_init 148 = .ok (.newarray .int, 2) := by decide +kernel
theorem dX12_init_150 : decode cX12_init 150 = .ok (.putfield 67, 3) := by decide +kernel
theorem dX12_init_153 : decode cX12_init 153 = .ok (.aload_n 0, 1) := by decide +kernel
theorem dX12_init_154 : decode cX12_init 154 = .ok (.bipush 24, 2) := by decide +kernel
theorem dX12_init_156 : decode cX12_init 156 = .ok (.newarray .int, 2) := by decide +kernel
theorem dX12_init_158 : decode cX12_init 158 = .ok (.putfield 70, 3) := by decide +kernel
theorem dX12_init_161 : decode cX12_init 161 = .ok (.aload_n 0, 1) := by decide +kernel
theorem dX12_init_162 : decode cX12_init 162 = .ok (.bipush 24, 2) := by decide +kernel
theorem dX12_init_164 : decode cX12_init 164 = .ok (.newarray .int, 2) := by decide +kernel
theorem dX12_init_166 : decode cX12_init 166 = .ok (.putfield 73, 3) := by decide +kernel
theorem dX12_init_169 : decode cX12_init 169 = .ok (.aload_n 0, 1) := by decide +kernel
theorem dX12_init_170 : decode cX12_init 170 = .ok (.sipush 200, 3) := by decide +kernel
theorem dX12_init_173 : decode cX12_init 173 = .ok (.newarray .int, 2) := by decide +kernel
theorem dX12_init_175 : decode cX12_init 175 = .ok (.putfield 76, 3) := by decide +kernel
theorem dX12_init_178 : decode cX12_init 178 = .ok (.aload_n 0, 1) := by decide +kernel
theorem dX12_init_179 : decode cX12_init 179 = .ok (.sipush 200, 3) := by decide +kernel
theorem dX12_init_182 : decode cX12_init 182 = .ok (.newarray .int, 2) := by decide +kernel
theorem dX12_init_184 : decode cX12_init 184 = .ok (.putfield 79, 3) := by decide +kernel
theorem dX12_init_187 : decode cX12_init 187 = .ok (.aload_n 0, 1) := by decide +kernel
theorem dX12_init_188 : decode cX12_init 188 = .ok (.sipush 200, 3) := by decide +kernel
theorem dX12_init_191 : decode cX12_init 191 = .ok (.newarray .int, 2) := by decide +kernel
theorem dX12_init_193 : decode cX12_init 193 = .ok (.putfield 82, 3) := by decide +kernel
theorem dX12_init_196 : decode cX12_init 196 = .ok (.aload_n 0, 1) := by decide +kernel
theorem dX12_init_197 : decode cX12_init 197 = .ok (.sipush 200, 3) := by decide +kernel
theorem dX12_init_200 : decode cX12_init 200 = .ok (.newarray .int, 2) := by decide +kernel
theorem dX12_init_202 : decode cX12_init 202 = .ok (.putfield 85, 3) := by decide +kernel
theorem dX12_init_205 : decode cX12_init 205 = .ok (.aload_n 0, 1) := by decide +kernel
theorem dX12_init_206 : decode cX12_init 206 = .ok (.sipush 200, 3) := by decide +kernel
theorem dX12_init_209 : decode cX12_init 209 = .ok (.newarray .int, 2) := by decide +kernel
theorem dX12_init_211 : decode cX12_init 211 = .ok (.putfield 88, 3) := by decide +kernel
theorem dX12_init_214 : decode cX12_init 214 = .ok (.aload_n 0, 1) := by decide +kernel
theorem dX12_init_215 : decode cX12_init 215 = .ok (.sipush 288, 3) := by decide +kernel
theorem dX12_init_218 : decode cX12_init 218 = .ok (.newarray .int, 2) := by decide +kernel
theorem dX12_init_220 : decode cX12_init 220 = .ok (.putfield 91, 3) := by decide +kernel
theorem dX12_init_223 : decode cX12_init 223 = .ok (.aload_n 0, 1) := by decide +kernel
theorem dX12_init_224 : decode cX12_init 224 = .ok (.bipush 12, 2) := by decide +kernel
theorem dX12_init_226 : decode cX12_init 226 = .ok (.newarray .int, 2) := by decide +kernel
theorem dX12_init_228 : decode cX12_init 228 = .ok (.putfield 94, 3) := by decide +kernel
theorem dX12_init_231 : decode cX12_init 231 = .ok (.aload_n 0, 1) := by decide +kernel
theorem dX12_init_232 : decode cX12_init 232 = .ok (.iconst 5, 1) := by decide +kernel
theorem dX12_init_233 : decode cX12_init 233 = .ok (.newarray .int, 2) := by decide +kernel
theorem dX12_init_235 : decode cX12_init 235 = .ok (.putfield 97, 3) := by decide +kernel
theorem dX12_init_238 : decode cX12_init 238 = .ok (.aload_n 0, 1) := by decide +kernel
theorem dX12_init_239 : decode cX12_init 239 = .ok (.iconst 5, 1) := by decide +kernel
theorem dX12_init_240 : decode cX12_init 240 = .ok (.newarray .int, 2) := by decide +kernel
theorem dX12_init_242 : decode cX12_init 242 = .ok (.putfield 100, 3) := by decide +kernel
theorem dX12_init_245 : decode cX12_init 245 = .ok (.aload_n 0, 1) := by decide +kernel
theorem dX12_init_246 : decode cX12_init 246 = .ok (.bipush 25, 2) := by decide +kernel
theorem dX12_init_248 : decode cX12_init 248 = .ok (.newarray .long, 2) := by decide +kernel
theorem dX12_init_250 : decode cX12_init 250 = .ok (.putfield 103, 3) := by decide +kernel
theorem dX12_init_253 : decode cX12_init 253 = .ok (.aload_n 0, 1) := by decide +kernel
theorem dX12_init_254 : decode cX12_init 254 = .ok (.iconst 5, 1) := by decide +kernel
theorem dX12_init_255 : decode cX12_init 255 = .ok (.newarray .long, 2) := by decide +kernel
theorem dX12_init_257 : decode cX12_init 257 = .ok (.putfield 107, 3) := by decide +kernel
theorem dX12_init_260 : decode cX12_init 260 = .ok (.aload_n 0, 1) := by decide +kernel
theorem dX12_init_261 : decode cX12_init 261 = .ok (.iconst 5, 1) := by decide +kernel
theorem dX12_init_262 : decode cX12_init 262 = .ok (.newarray .long, 2) := by decide +kernel
theorem dX12_init_264 : decode cX12_init 264 = .ok (.putfield 110, 3) := by decide +kernel
theorem dX12_init_267 : decode cX12_init 267 = .ok (.aload_n 0, 1) := by decide +kernel
theorem dX12_init_268 : decode cX12_init 268 = .ok (.sipush 300, 3) := by decide +kernel
theorem dX12_init_271 : decode cX12_init 271 = .ok (.newarray .byte, 2) := by decide +kernel
theorem dX12_init_273 : decode cX12_init 273 = .ok (.putfield 113, 3) := by decide +kernel
theorem dX12_init_276 : decode cX12_init 276 = .ok (.aload_n 0, 1) := by decide +kernel
theorem dX12_init_277 : decode cX12_init 277 = .ok (.iconst (-1), 1) := by decide +kernel
theorem dX12_init_278 : decode cX12_init 278 = .ok (.putfield 117, 3) := by decide +kernel
theorem dX12_init_281 : decode cX12_init 281 = .ok (.aload_n 0, 1) := by decide +kernel
theorem dX12_init_282 : decode cX12_init 282 = .ok (.iconst (-1), 1) := by decide +kernel
theorem dX12_init_283 : decode cX12_init 283 = .ok (.putfield 120, 3) := by decide +kernel
theorem dX12_init_286 : decode cX12_init 286 = .ok (.aload_n 0, 1) := by decide +kernel
theorem dX12_init_287 : decode cX12_init 287 = .ok (.bipush 8, 2) := by decide +kernel
theorem dX12_init_289 : decode cX12_init 289 = .ok (.newarray .int, 2) := by decide +kernel
theorem dX12_init_291 : decode cX12_init 291 = .ok (.putfield 123, 3) := by decide +kernel
theorem dX12_init_294 : decode cX12_init 294 = .ok (.aload_n 0, 1) := by decide +kernel
theorem dX12_init_295 : decode cX12_init 295 = .ok (.bipush 8, 2) := by decide +kernel
theorem dX12_init_297 : decode cX12_init 297 = .ok (.newarray .int, 2) := by decide +kernel
theorem dX12_init_299 : decode cX12_init 299 = .ok (.putfield 126, 3) := by decide +kernel
theorem dX12_init_302 : decode cX12_init 302 = .ok (.aload_n 0, 1) := by decide +kernel
theorem dX12_init_303 : decode cX12_init 303 = .ok (.bipush 8, 2) := by decide +kernel
theorem dX12_init_305 : decode cX12_init 305 = .ok (.newarray .int, 2) := by decide +kernel
theorem dX12_init_307 : decode cX12_init 307 = .ok (.putfield 129, 3) := by decide +kernel
theorem dX12_init_310 : decode cX12_init 310 = .ok (.aload_n 0, 1) := by decide +kernel
theorem dX12_init_311 : decode cX12_init 311 = .ok (.bipush 8, 2) := by decide +kernel
theorem dX12_init_313 : decode cX12_init 313 = .ok (.newarray .int, 2) := by decide +kernel
theorem dX12_init_315 : decode cX12_init 315 = .ok (.putfield 132, 3) := by decide +kernel
theorem dX12_init_318 : decode cX12_init 318 = .ok (.aload_n 0, 1) := by decide +kernel
theorem dX12_init_319 : decode cX12_init 319 = .ok (.bipush 8, 2) := by decide +kernel
theorem dX12_init_321 : decode cX12_init 321 = .ok (.newarray .int, 2) := by decide +kernel
theorem dX12_init_323 : decode cX12_init 323 = .ok (.putfield 135, 3) := by decide +kernel
theorem dX12_init_326 : decode cX12_init 326 = .ok (.aload_n 0, 1) := by decide +kernel
theorem dX12_init_327 : decode cX12_init 327 = .ok (.bipush 8, 2) := by decide +kernel
theorem dX12_init_329 : decode cX12_init 329 = .ok (.newarray .boolean, 2) := by decide +kernel
theorem dX12_init_331 : decode cX12_init 331 = .ok (.putfield 138, 3) := by decide +kernel
theorem dX12_init_334 : decode cX12_init 334 = .ok (.aload_n 0, 1) := by decide +kernel
theorem dX12_init_335 : decode cX12_init 335 = .ok (.bipush 9, 2) := by decide +kernel
theorem dX12_init_337 : decode cX12_init 337 = .ok (.newarray .int, 2) := by decide +kernel
theorem dX12_init_339 : decode cX12_init 339 = .ok (.putfield 141, 3) := by decide +kernel
theorem dX12_init_342 : decode cX12_init 342 = .ok (.aload_n 0, 1) := by decide +kernel
theorem dX12_init_343 : decode cX12_init 343 = .ok (.bipush 9, 2) := by decide +kernel
theorem dX12_init_345 : decode cX12_init 345 = .ok (.newarray .int, 2) := by decide +kernel
theorem dX12_init_347 : decode cX12_init 347 = .ok (.putfield 144, 3) := by decide +kernel
theorem dX12_init_350 : decode cX12_init 350 = .ok (.aload_n 0, 1) := by decide +kernel
theorem dX12_init_351 : decode cX12_init 351 = .ok (.bipush 9, 2) := by decide +kernel
theorem dX12_init_353 : decode cX12_init 353 = .ok (.newarray .int, 2) := by decide +kernel
theorem dX12_init_355 : decode cX12_init 355 = .ok (.putfield 147, 3) := by decide +kernel
theorem dX12_init_358 : decode cX12_init 358 = .ok (.aload_n 0, 1) := by decide +kernel
theorem dX12_init_359 : decode cX12_init 359 = .ok (.bipush 9, 2) := by decide +kernel
theorem dX12_init_361 : decode cX12_init 361 = .ok (.newarray .int, 2) := by decide +kernel
theorem dX12_init_363 : decode cX12_init 363 = .ok (.putfield 150, 3) := by decide +kernel
theorem dX12_init_366 : decode cX12_init 366 = .ok (.aload_n 0, 1) := by decide +kernel
theorem dX12_init_367 : decode cX12_init 367 = .ok (.bipush 9, 2) := by decide +kernel
theorem dX12_init_369 : decode cX12_init 369 = .ok (.newarray .int, 2) := by decide +kernel
theorem dX12_init_371 : decode cX12_init 371 = .ok (.putfield 153, 3) := by decide +kernel
theorem dX12_init_374 : decode cX12_init 374 = .ok (.aload_n 0, 1) := by decide +kernel
theorem dX12_init_375 : decode cX12_init 375 = .ok (.bipush 9, 2) := by decide +kernel
theorem dX12_init_377 : decode cX12_init 377 = .ok (.newarray .boolean, 2) := by decide +kernel
theorem dX12_init_379 : decode cX12_init 379 = .ok (.putfield 156, 3) := by decide +kernel
theorem dX12_init_382 : decode cX12_init 382 = .ok (.aload_n 0, 1) := by decide +kernel
theorem dX12_init_383 : decode cX12_init 383 = .ok (.bipush 24, 2) := by decide +kernel
theorem dX12_init_385 : decode cX12_init 385 = .ok (.newarray .long, 2) := by decide +kernel
theorem dX12_init_387 : decode cX12_init 387 = .ok (.putfield 159, 3) := by decide +kernel
theorem dX12_init_390 : decode cX12_init 390 = .ok (.aload_n 0, 1) := by decide +kernel
theorem dX12_init_391 : decode cX12_init 391 = .ok (.bipush 24, 2) := by decide +kernel
theorem dX12_init_393 : decode cX12_init 393 = .ok (.newarray .long, 2) := by decide +kernel
theorem dX12_init_395 : decode cX12_init 395 = .ok (.putfield 162, 3) := by decide +kernel
theorem dX12_init_398 : decode cX12_init 398 = .ok (.aload_n 0, 1) := by decide +kernel
theorem dX12_init_399 : decode cX12_init 399 = .ok (.bipush 24, 2) := by decide +kernel
theorem dX12_init_401 : decode cX12_init 401 = .ok (.newarray .boolean, 2) := by decide +kernel
theorem dX12_init_403 : decode cX12_init 403 = .ok (.putfield 165, 3) := by decide +kernel
theorem dX12_init_406 : decode cX12_init 406 = .ok (.aload_n 0, 1) := by decide +kernel
theorem dX12_init_407 : decode cX12_init 407 = .ok (.bipush 24, 2) := by decide +kernel
theorem dX12_init_409 : decode cX12_init 409 = .ok (.newarray .boolean, 2) := by decide +kernel
theorem dX12_init_411 : decode cX12_init 411 = .ok (.putfield 168, 3) := by decide +kernel
theorem dX12_init_414 : decode cX12_init 414 = .ok (.aload_n 0, 1) := by decide +kernel
theorem dX12_init_415 : decode cX12_init 415 = .ok (.bipush 24, 2) := by decide +kernel
theorem dX12_init_417 : decode cX12_init 417 = .ok (.newarray .boolean, 2) := by decide +kernel
theorem dX12_init_419 : decode cX12_init 419 = .ok (.putfield 171, 3) := by decide +kernel
theorem dX12_init_422 : decode cX12_init 422 = .ok (.aload_n 0, 1) := by decide +kernel
theorem dX12_init_423 : decode cX12_init 423 = .ok (.iconst 4, 1) := by decide +kernel
theorem dX12_init_424 : decode cX12_init 424 = .ok (.newarray .int, 2) := by decide +kernel
theorem dX12_init_426 : decode cX12_init 426 = .ok (.putfield 174, 3) := by decide +kernel
theorem dX12_init_429 : decode cX12_init 429 = .ok (.aload_n 0, 1) := by decide +kernel
theorem dX12_init_430 : decode cX12_init 430 = .ok (.iconst 4, 1) := by decide +kernel
theorem dX12_init_431 : decode cX12_init 431 = .ok (.newarray .int, 2) := by decide +kernel
theorem dX12_init_433 : decode cX12_init 433 = .ok (.putfield 177, 3) := by decide +kernel
theorem dX12_init_436 : decode cX12_init 436 = .ok (.aload_n 0, 1) := by decide +kernel
theorem dX12_init_437 : decode cX12_init 437 = .ok (.iconst 4, 1) := by decide +kernel
theorem dX12_init_438 : decode cX12_init 438 = .ok (.newarray .int, 2) := by decide +kernel
theorem dX12_init_440 : decode cX12_init 440 = .ok (.putfield 180, 3) := by decide +kernel
theorem dX12_init_443 : decode cX12_init 443 = .ok (.aload_n 0, 1) := by decide +kernel
theorem dX12_init_444 : decode cX12_init 444 = .ok (.bipush 24, 2) := by decide +kernel
theorem dX12_init_446 : decode cX12_init 446 = .ok (.newarray .int, 2) := by decide +kernel
theorem dX12_init_448 : decode cX12_init 448 = .ok (.putfield 183, 3) := by decide +kernel
theorem dX12_init_451 : decode cX12_init 451 = .ok (.aload_n 0, 1) := by decide +kernel
theorem dX12_init_452 : decode cX12_init 452 = .ok (.iconst 4, 1) := by decide +kernel
theorem dX12_init_453 : decode cX12_init 453 = .ok (.newarray .int, 2) := by decide +kernel
theorem dX12_init_455 : decode cX12_init 455 = .ok (.putfield 186, 3) := by decide +kernel
theorem dX12_init_458 : decode cX12_init 458 = .ok (.aload_n 0, 1) := by decide +kernel
theorem dX12_init_459 : decode cX12_init 459 = .ok (.iconst 4, 1) := by decide +kernel
theorem dX12_init_460 : decode cX12_init 460 = .ok (.newarray .int, 2) := by decide +kernel
theorem dX12_init_462 : decode cX12_init 462 = .ok (.putfield 189, 3) := by decide +kernel
theorem dX12_init_465 : decode cX12_init 465 = .ok (.aload_n 0, 1) := by decide +kernel
theorem dX12_init_466 : decode cX12_init 466 = .ok (.iconst 4, 1) := by decide +kernel
theorem dX12_init_467 : decode cX12_init 467 = .ok (.newarray .int, 2) := by decide +kernel
theorem dX12_init_469 : decode cX12_init 469 = .ok (.putfield 192, 3) := by decide +kernel
theorem dX12_init_472 : decode cX12_init 472 = .ok (.return_, 1) := by decide +kernel
theorem dX12_status_0 : decode cX12_status 0 = .ok (.aload_n 0, 1) := by decide +kernel
theorem dX12_status_1 : decode cX12_status 1 = .ok (.iconst 0, 1) := by decide +kernel
theorem dX12_status_2 : decode cX12_status 2 = .ok (.putfield 195, 3) := by decide +kernel
theorem dX12_status_5 : decode cX12_status 5 = .ok (.aload_n 0, 1) := by decide +kernel
theorem dX12_status_6 : decode cX12_status 6 = .ok (.getfield 198, 3) := by decide +kernel
theorem dX12_status_9 : decode cX12_status 9 = .ok (.ireturn, 1) := by decide +kernel
theorem dX12_refuse_0 : decode cX12_refuse 0 = .ok (.aload_n 0, 1) := by decide +kernel
theorem dX12_refuse_1 : decode cX12_refuse 1 = .ok (.iload_n 1, 1) := by decide +kernel
theorem dX12_refuse_2 : decode cX12_refuse 2 = .ok (.putfield 198, 3) := by decide +kernel
theorem dX12_refuse_5 : decode cX12_refuse 5 = .ok (.iconst (-1), 1) := by decide +kernel
theorem dX12_refuse_6 : decode cX12_refuse 6 = .ok (.ireturn, 1) := by decide +kernel
theorem dX12_no_0 : decode cX12_no 0 = .ok (.aload_n 0, 1) := by decide +kernel
theorem dX12_no_1 : decode cX12_no 1 = .ok (.iload_n 1, 1) := by decide +kernel
theorem dX12_no_2 : decode cX12_no 2 = .ok (.putfield 198, 3) := by decide +kernel
theorem dX12_no_5 : decode cX12_no 5 = .ok (.iconst 0, 1) := by decide +kernel
theorem dX12_no_6 : decode cX12_no 6 = .ok (.ireturn, 1) := by decide +kernel
theorem dX12_board_0 : decode cX12_board 0 = .ok (.aload_n 0, 1) := by decide +kernel
theorem dX12_board_1 : decode cX12_board 1 = .ok (.iconst 0, 1) := by decide +kernel
theorem dX12_board_2 : decode cX12_board 2 = .ok (.putfield 195, 3) := by decide +kernel
theorem dX12_board_5 : decode cX12_board 5 = .ok (.aload_n 0, 1) := by decide +kernel
theorem dX12_board_6 : decode cX12_board 6 = .ok (.iconst 0, 1) := by decide +kernel
theorem dX12_board_7 : decode cX12_board 7 = .ok (.putfield 198, 3) := by decide +kernel
theorem dX12_board_10 : decode cX12_board 10 = .ok (.iload_n 1, 1) := by decide +kernel
theorem dX12_board_11 : decode cX12_board 11 = .ok (.ifCond .lt 40, 3) := by decide +kernel
theorem dX12_board_14 : decode cX12_board 14 = .ok (.iload_n 1, 1) := by decide +kernel
theorem dX12_board_15 : decode cX12_board 15 = .ok (.bipush 7, 2) := by decide +kernel
theorem dX12_board_17 : decode cX12_board 17 = .ok (.if_icmp .gt 34, 3) := by decide +kernel
theorem dX12_board_20 : decode cX12_board 20 = .ok (.iload_n 2, 1) := by decide +kernel
theorem dX12_board_21 : decode cX12_board 21 = .ok (.ifCond .lt 30, 3) := by decide +kernel
theorem dX12_board_24 : decode cX12_board 24 = .ok (.iload_n 2, 1) := by decide +kernel
theorem dX12_board_25 : decode cX12_board 25 = .ok (.iconst 3, 1) := by decide +kernel
theorem dX12_board_26 : decode cX12_board 26 = .ok (.if_icmp .gt 25, 3) := by decide +kernel
theorem dX12_board_29 : decode cX12_board 29 = .ok (.iload_n 3, 1) := by decide +kernel
theorem dX12_board_30 : decode cX12_board 30 = .ok (.ifCond .lt 21, 3) := by decide +kernel
theorem dX12_board_33 : decode cX12_board 33 = .ok (.iload_n 3, 1) := by decide +kernel
theorem dX12_board_34 : decode cX12_board 34 = .ok (.bipush 15, 2) := by decide +kernel
theorem dX12_board_36 : decode cX12_board 36 = .ok (.if_icmp .gt 15, 3) := by decide +kernel
theorem dX12_board_39 : decode cX12_board 39 = .ok (.iload 4, 2) := by decide +kernel
theorem dX12_board_41 : decode cX12_board 41 = .ok (.ifCond .lt 10, 3) := by decide +kernel
theorem dX12_board_44 : decode cX12_board 44 = .ok (.iload 4, 2) := by decide +kernel
theorem dX12_board_46 : decode cX12_board 46 = .ok (.bipush 99, 2) := by decide +kernel
theorem dX12_board_48 : decode cX12_board 48 = .ok (.if_icmp .le 9, 3) := by decide +kernel
theorem dX12_board_51 : decode cX12_board 51 = .ok (.aload_n 0, 1) := by decide +kernel
theorem dX12_board_52 : decode cX12_board 52 = .ok (.iconst 2, 1) := by decide +kernel
theorem dX12_board_53 : decode cX12_board 53 = .ok (.invokevirtual 201, 3) := by decide +kernel
theorem dX12_board_56 : decode cX12_board 56 = .ok (.ireturn, 1) := by decide +kernel
theorem dX12_board_57 : decode cX12_board 57 = .ok (.aload_n 0, 1) := by decide +kernel
theorem dX12_board_58 : decode cX12_board 58 = .ok (.getfield 205, 3) := by decide +kernel
theorem dX12_board_61 : decode cX12_board 61 = .ok (.bipush 24, 2) := by decide +kernel
theorem dX12_board_63 : decode cX12_board 63 = .ok (.if_icmp .ne 9, 3) := by decide +kernel
theorem dX12_board_66 : decode cX12_board 66 = .ok (.aload_n 0, 1) := by decide +kernel
theorem dX12_board_67 : decode cX12_board 67 = .ok (.iconst 3, 1) := by decide +kernel
theorem dX12_board_68 : decode cX12_board 68 = .ok (.invokevirtual 201, 3) := by decide +kernel
theorem dX12_board_71 : decode cX12_board 71 = .ok (.ireturn, 1) := by decide +kernel
theorem dX12_board_72 : decode cX12_board 72 = .ok (.aload_n 0, 1) := by decide +kernel
theorem dX12_board_73 : decode cX12_board 73 = .ok (.getfield 17, 3) := by decide +kernel
theorem dX12_board_76 : decode cX12_board 76 = .ok (.aload_n 0, 1) := by decide +kernel
theorem dX12_board_77 : decode cX12_board 77 = .ok (.getfield 205, 3) := by decide +kernel
theorem dX12_board_80 : decode cX12_board 80 = .ok (.iload_n 1, 1) := by decide +kernel
theorem dX12_board_81 : decode cX12_board 81 = .ok (.iastore, 1) := by decide +kernel
theorem dX12_board_82 : decode cX12_board 82 = .ok (.aload_n 0, 1) := by decide +kernel
theorem dX12_board_83 : decode cX12_board 83 = .ok (.getfield 21, 3) := by decide +kernel
theorem dX12_board_86 : decode cX12_board 86 = .ok (.aload_n 0, 1) := by decide +kernel
theorem dX12_board_87 : decode cX12_board 87 = .ok (.getfield 205, 3) := by decide +kernel
theorem dX12_board_90 : decode cX12_board 90 = .ok (.iload_n 2, 1) := by decide +kernel
theorem dX12_board_91 : decode cX12_board 91 = .ok (.iastore, 1) := by decide +kernel
theorem dX12_board_92 : decode cX12_board 92 = .ok (.aload_n 0, 1) := by decide +kernel
theorem dX12_board_93 : decode cX12_board 93 = .ok (.getfield 24, 3) := by decide +kernel
theorem dX12_board_96 : decode cX12_board 96 = .ok (.aload_n 0, 1) := by decide +kernel
theorem dX12_board_97 : decode cX12_board 97 = .ok (.getfield 205, 3) := by decide +kernel
theorem dX12_board_100 : decode cX12_board 100 = .ok (.iload_n 3, 1) := by decide +kernel
theorem dX12_board_101 : decode cX12_board 101 = .ok (.iastore, 1) := by decide +kernel
theorem dX12_board_102 : decode cX12_board 102 = .ok (.aload_n 0, 1) := by decide +kernel
theorem dX12_board_103 : decode cX12_board 103 = .ok (.getfield 27, 3) := by decide +kernel
theorem dX12_board_106 : decode cX12_board 106 = .ok (.aload_n 0, 1) := by decide +kernel
theorem dX12_board_107 : decode cX12_board 107 = .ok (.getfield 205, 3) := by decide +kernel
theorem dX12_board_110 : decode cX12_board 110 = .ok (.iload 4, 2) := by decide +kernel
theorem dX12_board_112 : decode cX12_board 112 = .ok (.iastore, 1) := by decide +kernel
theorem dX12_board_113 : decode cX12_board 113 = .ok (.aload_n 0, 1) := by decide +kernel
theorem dX12_board_114 : decode cX12_board 114 = .ok (.getfield 39, 3) := by decide +kernel
theorem dX12_board_117 : decode cX12_board 117 = .ok (.aload_n 0, 1) := by decide +kernel
theorem dX12_board_118 : decode cX12_board 118 = .ok (.getfield 205, 3) := by decide +kernel
theorem dX12_board_121 : decode cX12_board 121 = .ok (.iload 5, 2) := by decide +kernel
theorem dX12_board_123 : decode cX12_board 123 = .ok (.bastore, 1) := by decide +kernel
theorem dX12_board_124 : decode cX12_board 124 = .ok (.aload_n 0, 1) := by decide +kernel
theorem dX12_board_125 : decode cX12_board 125 = .ok (.dup, 1) := by decide +kernel
theorem dX12_board_126 : decode cX12_board 126 = .ok (.getfield 205, 3) := by decide +kernel
theorem dX12_board_129 : decode cX12_board 129 = .ok (.iconst 1, 1) := by decide +kernel
theorem dX12_board_130 : decode cX12_board 130 = .ok (.iadd, 1) := by decide +kernel
theorem dX12_board_131 : decode cX12_board 131 = .ok (.putfield 205, 3) := by decide +kernel
theorem dX12_board_134 : decode cX12_board 134 = .ok (.aload_n 0, 1) := by decide +kernel
theorem dX12_board_135 : decode cX12_board 135 = .ok (.getfield 205, 3) := by decide +kernel
theorem dX12_board_138 : decode cX12_board 138 = .ok (.iconst 1, 1) := by decide +kernel
theorem dX12_board_139 : decode cX12_board 139 = .ok (.isub, 1) := by decide +kernel
theorem dX12_board_140 : decode cX12_board 140 = .ok (.ireturn, 1) := by decide +kernel
theorem dX12_judge_0 : decode cX12_judge 0 = .ok (.aload_n 0, 1) := by decide +kernel
theorem dX12_judge_1 : decode cX12_judge 1 = .ok (.iconst 0, 1) := by decide +kernel
theorem dX12_judge_2 : decode cX12_judge 2 = .ok (.putfield 195, 3) := by decide +kernel
theorem dX12_judge_5 : decode cX12_judge 5 = .ok (.aload_n 0, 1) := by decide +kernel
theorem dX12_judge_6 : decode cX12_judge 6 = .ok (.iconst 0, 1) := by decide +kernel
theorem dX12_judge_7 : decode cX12_judge 7 = .ok (.putfield 198, 3) := by decide +kernel
theorem dX12_judge_10 : decode cX12_judge 10 = .ok (.iload_n 1, 1) := by decide +kernel
theorem dX12_judge_11 : decode cX12_judge 11 = .ok (.ifCond .lt 31, 3) := by decide +kernel
theorem dX12_judge_14 : decode cX12_judge 14 = .ok (.iload_n 1, 1) := by decide +kernel
theorem dX12_judge_15 : decode cX12_judge 15 = .ok (.sipush 255, 3) := by decide +kernel
theorem dX12_judge_18 : decode cX12_judge 18 = .ok (.if_icmp .gt 24, 3) := by decide +kernel
theorem dX12_judge_21 : decode cX12_judge 21 = .ok (.iload_n 2, 1) := by decide +kernel
theorem dX12_judge_22 : decode cX12_judge 22 = .ok (.iconst (-1), 1) := by decide +kernel
theorem dX12_judge_23 : decode cX12_judge 23 = .ok (.if_icmp .lt 19, 3) := by decide +kernel
theorem dX12_judge_26 : decode cX12_judge 26 = .ok (.iload_n 2, 1) := by decide +kernel
theorem dX12_judge_27 : decode cX12_judge 27 = .ok (.bipush 15, 2) := by decide +kernel
theorem dX12_judge_29 : decode cX12_judge 29 = .ok (.if_icmp .gt 13, 3) := by decide +kernel
theorem dX12_judge_32 : decode cX12_judge 32 = .ok (.iload_n 3, 1) := by decide +kernel
theorem dX12_judge_33 : decode cX12_judge 33 = .ok (.ifCond .lt 9, 3) := by decide +kernel
theorem dX12_judge_36 : decode cX12_judge 36 = .ok (.iload_n 3, 1) := by decide +kernel
theorem dX12_judge_37 : decode cX12_judge 37 = .ok (.bipush 24, 2) := by decide +kernel
theorem dX12_judge_39 : decode cX12_judge 39 = .ok (.if_icmp .le 9, 3) := by decide +kernel
theorem dX12_judge_42 : decode cX12_judge 42 = .ok (.aload_n 0, 1) := by decide +kernel
theorem dX12_judge_43 : decode cX12_judge 43 = .ok (.iconst 2, 1) := by decide +kernel
theorem dX12_judge_44 : decode cX12_judge 44 = .ok (.invokevirtual 201, 3) := by decide +kernel
theorem dX12_judge_47 : decode cX12_judge 47 = .ok (.ireturn, 1) := by decide +kernel
theorem dX12_judge_48 : decode cX12_judge 48 = .ok (.aload_n 0, 1) := by decide +kernel
theorem dX12_judge_49 : decode cX12_judge 49 = .ok (.getfield 208, 3) := by decide +kernel
theorem dX12_judge_52 : decode cX12_judge 52 = .ok (.bipush 12, 2) := by decide +kernel
theorem dX12_judge_54 : decode cX12_judge 54 = .ok (.if_icmp .ne 9, 3) := by decide +kernel
theorem dX12_judge_57 : decode cX12_judge 57 = .ok (.aload_n 0, 1) := by decide +kernel
theorem dX12_judge_58 : decode cX12_judge 58 = .ok (.iconst 3, 1) := by decide +kernel
theorem dX12_judge_59 : decode cX12_judge 59 = .ok (.invokevirtual 201, 3) := by decide +kernel
theorem dX12_judge_62 : decode cX12_judge 62 = .ok (.ireturn, 1) := by decide +kernel
theorem dX12_judge_63 : decode cX12_judge 63 = .ok (.aload_n 0, 1) := by decide +kernel
theorem dX12_judge_64 : decode cX12_judge 64 = .ok (.getfield 30, 3) := by decide +kernel
theorem dX12_judge_67 : decode cX12_judge 67 = .ok (.aload_n 0, 1) := by decide +kernel
theorem dX12_judge_68 : decode cX12_judge 68 = .ok (.getfield 208, 3) := by decide +kernel
theorem dX12_judge_71 : decode cX12_judge 71 = .ok (.iload_n 1, 1) := by decide +kernel
theorem dX12_judge_72 : decode cX12_judge 72 = .ok (.iastore, 1) := by decide +kernel
theorem dX12_judge_73 : decode cX12_judge 73 = .ok (.aload_n 0, 1) := by decide +kernel
theorem dX12_judge_74 : decode cX12_judge 74 = .ok (.getfield 33, 3) := by decide +kernel
theorem dX12_judge_77 : decode cX12_judge 77 = .ok (.aload_n 0, 1) := by decide +kernel
theorem dX12_judge_78 : decode cX12_judge 78 = .ok (.getfield 208, 3) := by decide +kernel
theorem dX12_judge_81 : decode cX12_judge 81 = .ok (.iload_n 2, 1) := by decide +kernel
theorem dX12_judge_82 : decode cX12_judge 82 = .ok (.iastore, 1) := by decide +kernel
theorem dX12_judge_83 : decode cX12_judge 83 = .ok (.aload_n 0, 1) := by decide +kernel
theorem dX12_judge_84 : decode cX12_judge 84 = .ok (.getfield 36, 3) := by decide +kernel
theorem dX12_judge_87 : decode cX12_judge 87 = .ok (.aload_n 0, 1) := by decide +kernel
theorem dX12_judge_88 : decode cX12_judge 88 = .ok (.getfield 208, 3) := by decide +kernel
theorem dX12_judge_91 : decode cX12_judge 91 = .ok (.iload_n 3, 1) := by decide +kernel
theorem dX12_judge_92 : decode cX12_judge 92 = .ok (.iastore, 1) := by decide +kernel
theorem dX12_judge_93 : decode cX12_judge 93 = .ok (.aload_n 0, 1) := by decide +kernel
theorem dX12_judge_94 : decode cX12_judge 94 = .ok (.dup, 1) := by decide +kernel
theorem dX12_judge_95 : decode cX12_judge 95 = .ok (.getfield 208, 3) := by decide +kernel
theorem dX12_judge_98 : decode cX12_judge 98 = .ok (.iconst 1, 1) := by decide +kernel
theorem dX12_judge_99 : decode cX12_judge 99 = .ok (.iadd, 1) := by decide +kernel
theorem dX12_judge_100 : decode cX12_judge 100 = .ok (.putfield 208, 3) := by decide +kernel
theorem dX12_judge_103 : decode cX12_judge 103 = .ok (.aload_n 0, 1) := by decide +kernel
theorem dX12_judge_104 : decode cX12_judge 104 = .ok (.getfield 208, 3) := by decide +kernel
theorem dX12_judge_107 : decode cX12_judge 107 = .ok (.iconst 1, 1) := by decide +kernel
theorem dX12_judge_108 : decode cX12_judge 108 = .ok (.isub, 1) := by decide +kernel
theorem dX12_judge_109 : decode cX12_judge 109 = .ok (.ireturn, 1) := by decide +kernel
theorem dX12_isBoard_0 : decode cX12_isBoard 0 = .ok (.iload_n 1, 1) := by decide +kernel
theorem dX12_isBoard_1 : decode cX12_isBoard 1 = .ok (.ifCond .lt 15, 3) := by decide +kernel
theorem dX12_isBoard_4 : decode cX12_isBoard 4 = .ok (.iload_n 1, 1) := by decide +kernel
theorem dX12_isBoard_5 : decode cX12_isBoard 5 = .ok (.aload_n 0, 1) := by decide +kernel
theorem dX12_isBoard_6 : decode cX12_isBoard 6 = .ok (.getfield 205, 3) := by decide +kernel
theorem dX12_isBoard_9 : decode cX12_isBoard 9 = .ok (.if_icmp .ge 7, 3) := by decide +kernel
theorem dX12_isBoard_12 : decode cX12_isBoard 12 = .ok (.iconst 1, 1) := by decide +kernel
theorem dX12_isBoard_13 : decode cX12_isBoard 13 = .ok (.goto 4, 3) := by decide +kernel
theorem dX12_isBoard_16 : decode cX12_isBoard 16 = .ok (.iconst 0, 1) := by decide +kernel
theorem dX12_isBoard_17 : decode cX12_isBoard 17 = .ok (.ireturn, 1) := by decide +kernel
theorem dX12_isJudge_0 : decode cX12_isJudge 0 = .ok (.iload_n 1, 1) := by decide +kernel
theorem dX12_isJudge_1 : decode cX12_isJudge 1 = .ok (.ifCond .lt 15, 3) := by decide +kernel
theorem dX12_isJudge_4 : decode cX12_isJudge 4 = .ok (.iload_n 1, 1) := by decide +kernel
theorem dX12_isJudge_5 : decode cX12_isJudge 5 = .ok (.aload_n 0, 1) := by decide +kernel
theorem dX12_isJudge_6 : decode cX12_isJudge 6 = .ok (.getfield 208, 3) := by decide +kernel
theorem dX12_isJudge_9 : decode cX12_isJudge 9 = .ok (.if_icmp .ge 7, 3) := by decide +kernel
theorem dX12_isJudge_12 : decode cX12_isJudge 12 = .ok (.iconst 1, 1) := by decide +kernel
theorem dX12_isJudge_13 : decode cX12_isJudge 13 = .ok (.goto 4, 3) := by decide +kernel
theorem dX12_isJudge_16 : decode cX12_isJudge 16 = .ok (.iconst 0, 1) := by decide +kernel
theorem dX12_isJudge_17 : decode cX12_isJudge 17 = .ok (.ireturn, 1) := by decide +kernel
theorem dX12_mayOf_0 : decode cX12_mayOf 0 = .ok (.aload_n 0, 1) := by decide +kernel
theorem dX12_mayOf_1 : decode cX12_mayOf 1 = .ok (.getfield 30, 3) := by decide +kernel
theorem dX12_mayOf_4 : decode cX12_mayOf 4 = .ok (.iload_n 1, 1) := by decide +kernel
theorem dX12_mayOf_5 : decode cX12_mayOf 5 = .ok (.iaload, 1) := by decide +kernel
theorem dX12_mayOf_6 : decode cX12_mayOf 6 = .ok (.aload_n 0, 1) := by decide +kernel
theorem dX12_mayOf_7 : decode cX12_mayOf 7 = .ok (.getfield 17, 3) := by decide +kernel
theorem dX12_mayOf_10 : decode cX12_mayOf 10 = .ok (.iload_n 2, 1) := by decide +kernel
theorem dX12_mayOf_11 : decode cX12_mayOf 11 = .ok (.iaload, 1) := by decide +kernel
theorem dX12_mayOf_12 : decode cX12_mayOf 12 = .ok (.ishr, 1) := by decide +kernel
theorem dX12_mayOf_13 : decode cX12_mayOf 13 = .ok (.iconst 1, 1) := by decide +kernel
theorem dX12_mayOf_14 : decode cX12_mayOf 14 = .ok (.iand, 1) := by decide +kernel
theorem dX12_mayOf_15 : decode cX12_mayOf 15 = .ok (.iconst 1, 1) := by decide +kernel
theorem dX12_mayOf_16 : decode cX12_mayOf 16 = .ok (.if_icmp .ne 22, 3) := by decide +kernel
theorem dX12_mayOf_19 : decode cX12_mayOf 19 = .ok (.aload_n 0, 1) := by decide +kernel
theorem dX12_mayOf_20 : decode cX12_mayOf 20 = .ok (.getfield 33, 3) := by decide +kernel
theorem dX12_mayOf_23 : decode cX12_mayOf 23 = .ok (.iload_n 1, 1) := by decide +kernel
theorem dX12_mayOf_24 : decode cX12_mayOf 24 = .ok (.iaload, 1) := by decide +kernel
theorem dX12_mayOf_25 : decode cX12_mayOf 25 = .ok (.aload_n 0, 1) := by decide +kernel
theorem dX12_mayOf_26 : decode cX12_mayOf 26 = .ok (.getfield 24, 3) := by decide +kernel
theorem dX12_mayOf_29 : decode cX12_mayOf 29 = .ok (.iload_n 2, 1) := by decide +kernel
theorem dX12_mayOf_30 : decode cX12_mayOf 30 = .ok (.iaload, 1) := by decide +kernel
theorem dX12_mayOf_31 : decode cX12_mayOf 31 = .ok (.if_icmp .eq 7, 3) := by decide +kernel
theorem dX12_mayOf_34 : decode cX12_mayOf 34 = .ok (.iconst 1, 1) := by decide +kernel
theorem dX12_mayOf_35 : decode cX12_mayOf 35 = .ok (.goto 4, 3) := by decide +kernel
theorem dX12_mayOf_38 : decode cX12_mayOf 38 = .ok (.iconst 0, 1) := by decide +kernel
theorem dX12_mayOf_39 : decode cX12_mayOf 39 = .ok (.ireturn, 1) := by decide +kernel
theorem dX12_told_0 : decode cX12_told 0 = .ok (.aload_n 0, 1) := by decide +kernel
theorem dX12_told_1 : decode cX12_told 1 = .ok (.iconst 0, 1) := by decide +kernel
theorem dX12_told_2 : decode cX12_told 2 = .ok (.putfield 195, 3) := by decide +kernel
theorem dX12_told_5 : decode cX12_told 5 = .ok (.aload_n 0, 1) := by decide +kernel
theorem dX12_told_6 : decode cX12_told 6 = .ok (.iconst 0, 1) := by decide +kernel
theorem dX12_told_7 : decode cX12_told 7 = .ok (.putfield 198, 3) := by decide +kernel
theorem dX12_told_10 : decode cX12_told 10 = .ok (.aload_n 0, 1) := by decide +kernel
theorem dX12_told_11 : decode cX12_told 11 = .ok (.iload_n 1, 1) := by decide +kernel
theorem dX12_told_12 : decode cX12_told 12 = .ok (.invokevirtual 211, 3) := by decide +kernel
theorem dX12_told_15 : decode cX12_told 15 = .ok (.ifCond .ne 9, 3) := by decide +kernel
theorem dX12_told_18 : decode cX12_told 18 = .ok (.aload_n 0, 1) := by decide +kernel
theorem dX12_told_19 : decode cX12_told 19 = .ok (.iconst 1, 1) := by decide +kernel
theorem dX12_told_20 : decode cX12_told 20 = .ok (.invokevirtual 201, 3) := by decide +kernel
theorem dX12_told_23 : decode cX12_told 23 = .ok (.ireturn, 1) := by decide +kernel
theorem dX12_told_24 : decode cX12_told 24 = .ok (.iload_n 2, 1) := by decide +kernel
theorem dX12_told_25 : decode cX12_told 25 = .ok (.tableswitch 122 0 5 #[39, 46, 53, 60, 67, 82], 39) := by decide +kernel
theorem dX12_told_64 : decode cX12_told 64 = .ok (.aload_n 0, 1) := by decide +kernel
theorem dX12_told_65 : decode cX12_told 65 = .ok (.getfield 17, 3) := by decide +kernel
theorem dX12_told_68 : decode cX12_told 68 = .ok (.iload_n 1, 1) := by decide +kernel
theorem dX12_told_69 : decode cX12_told 69 = .ok (.iaload, 1) := by decide +kernel
theorem dX12_told_70 : decode cX12_told 70 = .ok (.ireturn, 1) := by decide +kernel
theorem dX12_told_71 : decode cX12_told 71 = .ok (.aload_n 0, 1) := by decide +kernel
theorem dX12_told_72 : decode cX12_told 72 = .ok (.getfield 21, 3) := by decide +kernel
theorem dX12_told_75 : decode cX12_told 75 = .ok (.iload_n 1, 1) := by decide +kernel
theorem dX12_told_76 : decode cX12_told 76 = .ok (.iaload, 1) := by decide +kernel
theorem dX12_told_77 : decode cX12_told 77 = .ok (.ireturn, 1) := by decide +kernel
theorem dX12_told_78 : decode cX12_told 78 = .ok (.aload_n 0, 1) := by decide +kernel
theorem dX12_told_79 : decode cX12_told 79 = .ok (.getfield 24, 3) := by decide +kernel
theorem dX12_told_82 : decode cX12_told 82 = .ok (.iload_n 1, 1) := by decide +kernel
theorem dX12_told_83 : decode cX12_told 83 = .ok (.iaload, 1) := by decide +kernel
theorem dX12_told_84 : decode cX12_told 84 = .ok (.ireturn, 1) := by decide +kernel
theorem dX12_told_85 : decode cX12_told 85 = .ok (.aload_n 0, 1) := by decide +kernel
theorem dX12_told_86 : decode cX12_told 86 = .ok (.getfield 27, 3) := by decide +kernel
theorem dX12_told_89 : decode cX12_told 89 = .ok (.iload_n 1, 1) := by decide +kernel
theorem dX12_told_90 : decode cX12_told 90 = .ok (.iaload, 1) := by decide +kernel
theorem dX12_told_91 : decode cX12_told 91 = .ok (.ireturn, 1) := by decide +kernel
theorem dX12_told_92 : decode cX12_told 92 = .ok (.aload_n 0, 1) := by decide +kernel
theorem dX12_told_93 : decode cX12_told 93 = .ok (.getfield 39, 3) := by decide +kernel
theorem dX12_told_96 : decode cX12_told 96 = .ok (.iload_n 1, 1) := by decide +kernel
theorem dX12_told_97 : decode cX12_told 97 = .ok (.baload, 1) := by decide +kernel
theorem dX12_told_98 : decode cX12_told 98 = .ok (.ifCond .eq 7, 3) := by decide +kernel
theorem dX12_told_101 : decode cX12_told 101 = .ok (.iconst 1, 1) := by decide +kernel
theorem dX12_told_102 : decode cX12_told 102 = .ok (.goto 4, 3) := by decide +kernel
theorem dX12_told_105 : decode cX12_told 105 = .ok (.iconst 0, 1) := by decide +kernel
theorem dX12_told_106 : decode cX12_told 106 = .ok (.ireturn, 1) := by decide +kernel
theorem dX12_told_107 : decode cX12_told 107 = .ok (.iconst 0, 1) := by decide +kernel
theorem dX12_told_108 : decode cX12_told 108 = .ok (.istore_n 3, 1) := by decide +kernel
theorem dX12_told_109 : decode cX12_told 109 = .ok (.iconst 0, 1) := by decide +kernel
theorem dX12_told_110 : decode cX12_told 110 = .ok (.istore 4, 2) := by decide +kernel
theorem dX12_told_112 : decode cX12_told 112 = .ok (.iload 4, 2) := by decide +kernel
theorem dX12_told_114 : decode cX12_told 114 = .ok (.aload_n 0, 1) := by decide +kernel
theorem dX12_told_115 : decode cX12_told 115 = .ok (.getfield 208, 3) := by decide +kernel
theorem dX12_told_118 : decode cX12_told 118 = .ok (.if_icmp .ge 27, 3) := by decide +kernel
theorem dX12_told_121 : decode cX12_told 121 = .ok (.iload_n 3, 1) := by decide +kernel
theorem dX12_told_122 : decode cX12_told 122 = .ok (.aload_n 0, 1) := by decide +kernel
theorem dX12_told_123 : decode cX12_told 123 = .ok (.iload 4, 2) := by decide +kernel
theorem dX12_told_125 : decode cX12_told 125 = .ok (.iload_n 1, 1) := by decide +kernel
theorem dX12_told_126 : decode cX12_told 126 = .ok (.invokevirtual 215, 3) := by decide +kernel
theorem dX12_told_129 : decode cX12_told 129 = .ok (.ifCond .eq 7, 3) := by decide +kernel
theorem dX12_told_132 : decode cX12_told 132 = .ok (.iconst 1, 1) := by decide +kernel
theorem dX12_told_133 : decode cX12_told 133 = .ok (.goto 4, 3) := by decide +kernel
theorem dX12_told_136 : decode cX12_told 136 = .ok (.iconst 0, 1) := by decide +kernel
theorem dX12_told_137 : decode cX12_told 137 = .ok (.iadd, 1) := by decide +kernel
theorem dX12_told_138 : decode cX12_told 138 = .ok (.istore_n 3, 1) := by decide +kernel
theorem dX12_told_139 : decode cX12_told 139 = .ok (.iinc 4 1, 3) := by decide +kernel
theorem dX12_told_142 : decode cX12_told 142 = .ok (.goto (-30), 3) := by decide +kernel
theorem dX12_told_145 : decode cX12_told 145 = .ok (.iload_n 3, 1) := by decide +kernel
theorem dX12_told_146 : decode cX12_told 146 = .ok (.ireturn, 1) := by decide +kernel
theorem dX12_told_147 : decode cX12_told 147 = .ok (.aload_n 0, 1) := by decide +kernel
theorem dX12_told_148 : decode cX12_told 148 = .ok (.iconst 2, 1) := by decide +kernel
theorem dX12_told_149 : decode cX12_told 149 = .ok (.invokevirtual 201, 3) := by decide +kernel
theorem dX12_told_152 : decode cX12_told 152 = .ok (.ireturn, 1) := by decide +kernel
theorem dX12_may_0 : decode cX12_may 0 = .ok (.aload_n 0, 1) := by decide +kernel
theorem dX12_may_1 : decode cX12_may 1 = .ok (.iconst 0, 1) := by decide +kernel
theorem dX12_may_2 : decode cX12_may 2 = .ok (.putfield 195, 3) := by decide +kernel
theorem dX12_may_5 : decode cX12_may 5 = .ok (.aload_n 0, 1) := by decide +kernel
theorem dX12_may_6 : decode cX12_may 6 = .ok (.iconst 0, 1) := by decide +kernel
theorem dX12_may_7 : decode cX12_may 7 = .ok (.putfield 198, 3) := by decide +kernel
theorem dX12_may_10 : decode cX12_may 10 = .ok (.aload_n 0, 1) := by decide +kernel
theorem dX12_may_11 : decode cX12_may 11 = .ok (.iload_n 1, 1) := by decide +kernel
theorem dX12_may_12 : decode cX12_may 12 = .ok (.invokevirtual 219, 3) := by decide +kernel
theorem dX12_may_15 : decode cX12_may 15 = .ok (.ifCond .eq 11, 3) := by decide +kernel
theorem dX12_may_18 : decode cX12_may 18 = .ok (.aload_n 0, 1) := by decide +kernel
theorem dX12_may_19 : decode cX12_may 19 = .ok (.iload_n 2, 1) := by decide +kernel
theorem dX12_may_20 : decode cX12_may 20 = .ok (.invokevirtual 211, 3) := by decide +kernel
theorem dX12_may_23 : decode cX12_may 23 = .ok (.ifCond .ne 9, 3) := by decide +kernel
theorem dX12_may_26 : decode cX12_may 26 = .ok (.aload_n 0, 1) := by decide +kernel
theorem dX12_may_27 : decode cX12_may 27 = .ok (.iconst 1, 1) := by decide +kernel
theorem dX12_may_28 : decode cX12_may 28 = .ok (.invokevirtual 201, 3) := by decide +kernel
theorem dX12_may_31 : decode cX12_may 31 = .ok (.ireturn, 1) := by decide +kernel
theorem dX12_may_32 : decode cX12_may 32 = .ok (.aload_n 0, 1) := by decide +kernel
theorem dX12_may_33 : decode cX12_may 33 = .ok (.iload_n 1, 1) := by decide +kernel
theorem dX12_may_34 : decode cX12_may 34 = .ok (.iload_n 2, 1) := by decide +kernel
theorem dX12_may_35 : decode cX12_may 35 = .ok (.invokevirtual 215, 3) := by decide +kernel
theorem dX12_may_38 : decode cX12_may 38 = .ok (.ifCond .eq 7, 3) := by decide +kernel
theorem dX12_may_41 : decode cX12_may 41 = .ok (.iconst 1, 1) := by decide +kernel
theorem dX12_may_42 : decode cX12_may 42 = .ok (.goto 4, 3) := by decide +kernel
theorem dX12_may_45 : decode cX12_may 45 = .ok (.iconst 0, 1) := by decide +kernel
theorem dX12_may_46 : decode cX12_may 46 = .ok (.ireturn, 1) := by decide +kernel
theorem dX12_looks_0 : decode cX12_looks 0 = .ok (.aload_n 0, 1) := by decide +kernel
theorem dX12_looks_1 : decode cX12_looks 1 = .ok (.iconst 0, 1) := by decide +kernel
theorem dX12_looks_2 : decode cX12_looks 2 = .ok (.putfield 195, 3) := by decide +kernel
theorem dX12_looks_5 : decode cX12_looks 5 = .ok (.aload_n 0, 1) := by decide +kernel
theorem dX12_looks_6 : decode cX12_looks 6 = .ok (.iconst 0, 1) := by decide +kernel
theorem dX12_looks_7 : decode cX12_looks 7 = .ok (.putfield 198, 3) := by decide +kernel
theorem dX12_looks_10 : decode cX12_looks 10 = .ok (.iload_n 1, 1) := by decide +kernel
theorem dX12_looks_11 : decode cX12_looks 11 = .ok (.iconst 1, 1) := by decide +kernel
theorem dX12_looks_12 : decode cX12_looks 12 = .ok (.if_icmp .lt 8, 3) := by decide +kernel
theorem dX12_looks_15 : decode cX12_looks 15 = .ok (.iload_n 1, 1) := by decide +kernel
theorem dX12_looks_16 : decode cX12_looks 16 = .ok (.iconst 4, 1) := by decide +kernel
theorem dX12_looks_17 : decode cX12_looks 17 = .ok (.if_icmp .le 9, 3) := by decide +kernel
theorem dX12_looks_20 : decode cX12_looks 20 = .ok (.aload_n 0, 1) := by decide +kernel
theorem dX12_looks_21 : decode cX12_looks 21 = .ok (.iconst 2, 1) := by decide +kernel
theorem dX12_looks_22 : decode cX12_looks 22 = .ok (.invokevirtual 222, 3) := by decide +kernel
theorem dX12_looks_25 : decode cX12_looks 25 = .ok (.ireturn, 1) := by decide +kernel
theorem dX12_looks_26 : decode cX12_looks 26 = .ok (.aload_n 0, 1) := by decide +kernel
theorem dX12_looks_27 : decode cX12_looks 27 = .ok (.iload_n 1, 1) := by decide +kernel
theorem dX12_looks_28 : decode cX12_looks 28 = .ok (.putfield 13, 3) := by decide +kernel
theorem dX12_looks_31 : decode cX12_looks 31 = .ok (.iconst 1, 1) := by decide +kernel
theorem dX12_looks_32 : decode cX12_looks 32 = .ok (.ireturn, 1) := by decide +kernel
theorem dX12_at_0 : decode cX12_at 0 = .ok (.bipush 12, 2) := by decide +kernel
theorem dX12_at_2 : decode cX12_at 2 = .ok (.iload_n 0, 1) := by decide +kernel
theorem dX12_at_3 : decode cX12_at 3 = .ok (.imul, 1) := by decide +kernel
theorem dX12_at_4 : decode cX12_at 4 = .ok (.iload_n 1, 1) := by decide +kernel
theorem dX12_at_5 : decode cX12_at 5 = .ok (.iadd, 1) := by decide +kernel
theorem dX12_at_6 : decode cX12_at 6 = .ok (.ireturn, 1) := by decide +kernel
theorem dX12_find_0 : decode cX12_find 0 = .ok (.iconst 0, 1) := by decide +kernel
theorem dX12_find_1 : decode cX12_find 1 = .ok (.istore_n 1, 1) := by decide +kernel
theorem dX12_find_2 : decode cX12_find 2 = .ok (.iconst 0, 1) := by decide +kernel
theorem dX12_find_3 : decode cX12_find 3 = .ok (.istore_n 2, 1) := by decide +kernel
theorem dX12_find_4 : decode cX12_find 4 = .ok (.iload_n 2, 1) := by decide +kernel
theorem dX12_find_5 : decode cX12_find 5 = .ok (.aload_n 0, 1) := by decide +kernel
theorem dX12_find_6 : decode cX12_find 6 = .ok (.getfield 208, 3) := by decide +kernel
theorem dX12_find_9 : decode cX12_find 9 = .ok (.if_icmp .ge 16, 3) := by decide +kernel
theorem dX12_find_12 : decode cX12_find 12 = .ok (.aload_n 0, 1) := by decide +kernel
theorem dX12_find_13 : decode cX12_find 13 = .ok (.getfield 64, 3) := by decide +kernel
theorem dX12_find_16 : decode cX12_find 16 = .ok (.iload_n 2, 1) := by decide +kernel
theorem dX12_find_17 : decode cX12_find 17 = .ok (.iconst 0, 1) := by decide +kernel
theorem dX12_find_18 : decode cX12_find 18 = .ok (.iastore, 1) := by decide +kernel
theorem dX12_find_19 : decode cX12_find 19 = .ok (.iinc 2 1, 3) := by decide +kernel
theorem dX12_find_22 : decode cX12_find 22 = .ok (.goto (-18), 3) := by decide +kernel
theorem dX12_find_25 : decode cX12_find 25 = .ok (.iconst 0, 1) := by decide +kernel
theorem dX12_find_26 : decode cX12_find 26 = .ok (.istore_n 2, 1) := by decide +kernel
theorem dX12_find_27 : decode cX12_find 27 = .ok (.iload_n 2, 1) := by decide +kernel
theorem dX12_find_28 : decode cX12_find 28 = .ok (.aload_n 0, 1) := by decide +kernel
theorem dX12_find_29 : decode cX12_find 29 = .ok (.getfield 205, 3) := by decide +kernel
theorem dX12_find_32 : decode cX12_find 32 = .ok (.if_icmp .ge 100, 3) := by decide +kernel
theorem dX12_find_35 : decode cX12_find 35 = .ok (.aload_n 0, 1) := by decide +kernel
theorem dX12_find_36 : decode cX12_find 36 = .ok (.getfield 61, 3) := by decide +kernel
theorem dX12_find_39 : decode cX12_find 39 = .ok (.iload_n 2, 1) := by decide +kernel
theorem dX12_find_40 : decode cX12_find 40 = .ok (.iconst 0, 1) := by decide +kernel
theorem dX12_find_41 : decode cX12_find 41 = .ok (.iastore, 1) := by decide +kernel
theorem dX12_find_42 : decode cX12_find 42 = .ok (.iconst 0, 1) := by decide +kernel
theorem dX12_find_43 : decode cX12_find 43 = .ok (.istore_n 3, 1) := by decide +kernel
theorem dX12_find_44 : decode cX12_find 44 = .ok (.iload_n 3, 1) := by decide +kernel
theorem dX12_find_45 : decode cX12_find 45 = .ok (.aload_n 0, 1) := by decide +kernel
theorem dX12_find_46 : decode cX12_find 46 = .ok (.getfield 208, 3) := by decide +kernel
theorem dX12_find_49 : decode cX12_find 49 = .ok (.if_icmp .ge 77, 3) := by decide +kernel
theorem dX12_find_52 : decode cX12_find 52 = .ok (.aload_n 0, 1) := by decide +kernel
theorem dX12_find_53 : decode cX12_find 53 = .ok (.getfield 46, 3) := by decide +kernel
theorem dX12_find_56 : decode cX12_find 56 = .ok (.iload_n 2, 1) := by decide +kernel
theorem dX12_find_57 : decode cX12_find 57 = .ok (.iload_n 3, 1) := by decide +kernel
theorem dX12_find_58 : decode cX12_find 58 = .ok (.invokestatic 225, 3) := by decide +kernel
theorem dX12_find_61 : decode cX12_find 61 = .ok (.aload_n 0, 1) := by decide +kernel
theorem dX12_find_62 : decode cX12_find 62 = .ok (.getfield 58, 3) := by decide +kernel
theorem dX12_find_65 : decode cX12_find 65 = .ok (.iload_n 2, 1) := by decide +kernel
theorem dX12_find_66 : decode cX12_find 66 = .ok (.iload_n 3, 1) := by decide +kernel
theorem dX12_find_67 : decode cX12_find 67 = .ok (.invokestatic 225, 3) := by decide +kernel
theorem dX12_find_70 : decode cX12_find 70 = .ok (.iaload, 1) := by decide +kernel
theorem dX12_find_71 : decode cX12_find 71 = .ok (.iconst 1, 1) := by decide +kernel
theorem dX12_find_72 : decode cX12_find 72 = .ok (.if_icmp .ne 7, 3) := by decide +kernel
theorem dX12_find_75 : decode cX12_find 75 = .ok (.iconst 1, 1) := by decide +kernel
theorem dX12_find_76 : decode cX12_find 76 = .ok (.goto 4, 3) := by decide +kernel
theorem dX12_find_79 : decode cX12_find 79 = .ok (.iconst 0, 1) := by decide +kernel
theorem dX12_find_80 : decode cX12_find 80 = .ok (.bastore, 1) := by decide +kernel
theorem dX12_find_81 : decode cX12_find 81 = .ok (.aload_n 0, 1) := by decide +kernel
theorem dX12_find_82 : decode cX12_find 82 = .ok (.getfield 46, 3) := by decide +kernel
theorem dX12_find_85 : decode cX12_find 85 = .ok (.iload_n 2, 1) := by decide +kernel
theorem dX12_find_86 : decode cX12_find 86 = .ok (.iload_n 3, 1) := by decide +kernel
theorem dX12_find_87 : decode cX12_find 87 = .ok (.invokestatic 225, 3) := by decide +kernel
theorem dX12_find_90 : decode cX12_find 90 = .ok (.baload, 1) := by decide +kernel
theorem dX12_find_91 : decode cX12_find 91 = .ok (.ifCond .ne 6, 3) := by decide +kernel
theorem dX12_find_94 : decode cX12_find 94 = .ok (.goto 26, 3) := by decide +kernel
theorem dX12_find_97 : decode cX12_find 97 = .ok (.aload_n 0, 1) := by decide +kernel
theorem dX12_find_98 : decode cX12_find 98 = .ok (.getfield 61, 3) := by decide +kernel
theorem dX12_find_101 : decode cX12_find 101 = .ok (.iload_n 2, 1) := by decide +kernel
theorem dX12_find_102 : decode cX12_find 102 = .ok (.dup2, 1) := by decide +kernel
theorem dX12_find_103 : decode cX12_find 103 = .ok (.iaload, 1) := by decide +kernel
theorem dX12_find_104 : decode cX12_find 104 = .ok (.iconst 1, 1) := by decide +kernel
theorem dX12_find_105 : decode cX12_find 105 = .ok (.iadd, 1) := by decide +kernel
theorem dX12_find_106 : decode cX12_find 106 = .ok (.iastore, 1) := by decide +kernel
theorem dX12_find_107 : decode cX12_find 107 = .ok (.aload_n 0, 1) := by decide +kernel
theorem dX12_find_108 : decode cX12_find 108 = .ok (.getfield 64, 3) := by decide +kernel
theorem dX12_find_111 : decode cX12_find 111 = .ok (.iload_n 3, 1) := by decide +kernel
theorem dX12_find_112 : decode cX12_find 112 = .ok (.dup2, 1) := by decide +kernel
theorem dX12_find_113 : decode cX12_find 113 = .ok (.iaload, 1) := by decide +kernel
theorem dX12_find_114 : decode cX12_find 114 = .ok (.iconst 1, 1) := by decide +kernel
theorem dX12_find_115 : decode cX12_find 115 = .ok (.iadd, 1) := by decide +kernel
theorem dX12_find_116 : decode cX12_find 116 = .ok (.iastore, 1) := by decide +kernel
theorem dX12_find_117 : decode cX12_find 117 = .ok (.iinc 1 1, 3) := by decide +kernel
theorem dX12_find_120 : decode cX12_find 120 = .ok (.iinc 3 1, 3) := by decide +kernel
theorem dX12_find_123 : decode cX12_find 123 = .ok (.goto (-79), 3) := by decide +kernel
theorem dX12_find_126 : decode cX12_find 126 = .ok (.iinc 2 1, 3) := by decide +kernel
theorem dX12_find_129 : decode cX12_find 129 = .ok (.goto (-102), 3) := by decide +kernel
theorem dX12_find_132 : decode cX12_find 132 = .ok (.iconst 0, 1) := by decide +kernel
theorem dX12_find_133 : decode cX12_find 133 = .ok (.istore_n 2, 1) := by decide +kernel
theorem dX12_find_134 : decode cX12_find 134 = .ok (.iload_n 2, 1) := by decide +kernel
theorem dX12_find_135 : decode cX12_find 135 = .ok (.aload_n 0, 1) := by decide +kernel
theorem dX12_find_136 : decode cX12_find 136 = .ok (.getfield 208, 3) := by decide +kernel
theorem dX12_find_139 : decode cX12_find 139 = .ok (.if_icmp .ge 26, 3) := by decide +kernel
theorem dX12_find_142 : decode cX12_find 142 = .ok (.aload_n 0, 1) := by decide +kernel
theorem dX12_find_143 : decode cX12_find 143 = .ok (.getfield 64, 3) := by decide +kernel
theorem dX12_find_146 : decode cX12_find 146 = .ok (.iload_n 2, 1) := by decide +kernel
theorem dX12_find_147 : decode cX12_find 147 = .ok (.iaload, 1) := by decide +kernel
theorem dX12_find_148 : decode cX12_find 148 = .ok (.aload_n 0, 1) := by decide +kernel
theorem dX12_find_149 : decode cX12_find 149 = .ok (.getfield 36, 3) := by decide +kernel
theorem dX12_find_152 : decode cX12_find 152 = .ok (.iload_n 2, 1) := by decide +kernel
theorem dX12_find_153 : decode cX12_find 153 = .ok (.iaload, 1) := by decide +kernel
theorem dX12_find_154 : decode cX12_find 154 = .ok (.if_icmp .le 5, 3) := by decide +kernel
theorem dX12_find_157 : decode cX12_find 157 = .ok (.iconst (-1), 1) := by decide +kernel
theorem dX12_find_158 : decode cX12_find 158 = .ok (.ireturn, 1) := by decide +kernel
theorem dX12_find_159 : decode cX12_find 159 = .ok (.iinc 2 1, 3) := by decide +kernel
theorem dX12_find_162 : decode cX12_find 162 = .ok (.goto (-28), 3) := by decide +kernel
theorem dX12_find_165 : decode cX12_find 165 = .ok (.iconst 0, 1) := by decide +kernel
theorem dX12_find_166 : decode cX12_find 166 = .ok (.istore_n 2, 1) := by decide +kernel
theorem dX12_find_167 : decode cX12_find 167 = .ok (.iload_n 2, 1) := by decide +kernel
theorem dX12_find_168 : decode cX12_find 168 = .ok (.aload_n 0, 1) := by decide +kernel
theorem dX12_find_169 : decode cX12_find 169 = .ok (.getfield 205, 3) := by decide +kernel
theorem dX12_find_172 : decode cX12_find 172 = .ok (.if_icmp .ge 51, 3) := by decide +kernel
theorem dX12_find_175 : decode cX12_find 175 = .ok (.aload_n 0, 1) := by decide +kernel
theorem dX12_find_176 : decode cX12_find 176 = .ok (.getfield 61, 3) := by decide +kernel
theorem dX12_find_179 : decode cX12_find 179 = .ok (.iload_n 2, 1) := by decide +kernel
theorem dX12_find_180 : decode cX12_find 180 = .ok (.iaload, 1) := by decide +kernel
theorem dX12_find_181 : decode cX12_find 181 = .ok (.aload_n 0, 1) := by decide +kernel
theorem dX12_find_182 : decode cX12_find 182 = .ok (.getfield 13, 3) := by decide +kernel
theorem dX12_find_185 : decode cX12_find 185 = .ok (.if_icmp .le 5, 3) := by decide +kernel
theorem dX12_find_188 : decode cX12_find 188 = .ok (.iconst (-1), 1) := by decide +kernel
theorem dX12_find_189 : decode cX12_find 189 = .ok (.ireturn, 1) := by decide +kernel
theorem dX12_find_190 : decode cX12_find 190 = .ok (.aload_n 0, 1) := by decide +kernel
theorem dX12_find_191 : decode cX12_find 191 = .ok (.getfield 61, 3) := by decide +kernel
theorem dX12_find_194 : decode cX12_find 194 = .ok (.iload_n 2, 1) := by decide +kernel
theorem dX12_find_195 : decode cX12_find 195 = .ok (.iaload, 1) := by decide +kernel
theorem dX12_find_196 : decode cX12_find 196 = .ok (.aload_n 0, 1) := by decide +kernel
theorem dX12_find_197 : decode cX12_find 197 = .ok (.getfield 13, 3) := by decide +kernel
theorem dX12_find_200 : decode cX12_find 200 = .ok (.if_icmp .ge 17, 3) := by decide +kernel
theorem dX12_find_203 : decode cX12_find 203 = .ok (.aload_n 0, 1) := by decide +kernel
theorem dX12_find_204 : decode cX12_find 204 = .ok (.iload_n 2, 1) := by decide +kernel
theorem dX12_find_205 : decode cX12_find 205 = .ok (.invokevirtual 229, 3) := by decide +kernel
theorem dX12_find_208 : decode cX12_find 208 = .ok (.ifCond .eq 9, 3) := by decide +kernel
theorem dX12_find_211 : decode cX12_find 211 = .ok (.iinc 1 1, 3) := by decide +kernel
theorem dX12_find_214 : decode cX12_find 214 = .ok (.goto (-24), 3) := by decide +kernel
theorem dX12_find_217 : decode cX12_find 217 = .ok (.iinc 2 1, 3) := by decide +kernel
theorem dX12_find_220 : decode cX12_find 220 = .ok (.goto (-53), 3) := by decide +kernel
theorem dX12_find_223 : decode cX12_find 223 = .ok (.iload_n 1, 1) := by decide +kernel
theorem dX12_find_224 : decode cX12_find 224 = .ok (.ireturn, 1) := by decide +kernel
theorem dX12_isFree_0 : decode cX12_isFree 0 = .ok (.aload_n 0, 1) := by decide +kernel
theorem dX12_isFree_1 : decode cX12_isFree 1 = .ok (.iload_n 2, 1) := by decide +kernel
theorem dX12_isFree_2 : decode cX12_isFree 2 = .ok (.iload_n 1, 1) := by decide +kernel
theorem dX12_isFree_3 : decode cX12_isFree 3 = .ok (.invokevirtual 215, 3) := by decide +kernel
theorem dX12_isFree_6 : decode cX12_isFree 6 = .ok (.ifCond .eq 20, 3) := by decide +kernel
theorem dX12_isFree_9 : decode cX12_isFree 9 = .ok (.aload_n 0, 1) := by decide +kernel
theorem dX12_isFree_10 : decode cX12_isFree 10 = .ok (.getfield 58, 3) := by decide +kernel
theorem dX12_isFree_13 : decode cX12_isFree 13 = .ok (.iload_n 1, 1) := by decide +kernel
theorem dX12_isFree_14 : decode cX12_isFree 14 = .ok (.iload_n 2, 1) := by decide +kernel
theorem dX12_isFree_15 : decode cX12_isFree 15 = .ok (.invokestatic 225, 3) := by decide +kernel
theorem dX12_isFree_18 : decode cX12_isFree 18 = .ok (.iaload, 1) := by decide +kernel
theorem dX12_isFree_19 : decode cX12_isFree 19 = .ok (.ifCond .ne 7, 3) := by decide +kernel
theorem dX12_isFree_22 : decode cX12_isFree 22 = .ok (.iconst 1, 1) := by decide +kernel
theorem dX12_isFree_23 : decode cX12_isFree 23 = .ok (.goto 4, 3) := by decide +kernel
theorem dX12_isFree_26 : decode cX12_isFree 26 = .ok (.iconst 0, 1) := by decide +kernel
theorem dX12_isFree_27 : decode cX12_isFree 27 = .ok (.ireturn, 1) := by decide +kernel
theorem dX12_grows_0 : decode cX12_grows 0 = .ok (.iconst 0, 1) := by decide +kernel
theorem dX12_grows_1 : decode cX12_grows 1 = .ok (.istore_n 2, 1) := by decide +kernel
theorem dX12_grows_2 : decode cX12_grows 2 = .ok (.iload_n 2, 1) := by decide +kernel
theorem dX12_grows_3 : decode cX12_grows 3 = .ok (.aload_n 0, 1) := by decide +kernel
theorem dX12_grows_4 : decode cX12_grows 4 = .ok (.getfield 208, 3) := by decide +kernel
theorem dX12_grows_7 : decode cX12_grows 7 = .ok (.if_icmp .ge 16, 3) := by decide +kernel
theorem dX12_grows_10 : decode cX12_grows 10 = .ok (.aload_n 0, 1) := by decide +kernel
theorem dX12_grows_11 : decode cX12_grows 11 = .ok (.getfield 52, 3) := by decide +kernel
theorem dX12_grows_14 : decode cX12_grows 14 = .ok (.iload_n 2, 1) := by decide +kernel
theorem dX12_grows_15 : decode cX12_grows 15 = .ok (.iconst 0, 1) := by decide +kernel
theorem dX12_grows_16 : decode cX12_grows 16 = .ok (.bastore, 1) := by decide +kernel
theorem dX12_grows_17 : decode cX12_grows 17 = .ok (.iinc 2 1, 3) := by decide +kernel
theorem dX12_grows_20 : decode cX12_grows 20 = .ok (.goto (-18), 3) := by decide +kernel
theorem dX12_grows_23 : decode cX12_grows 23 = .ok (.iconst 0, 1) := by decide +kernel
theorem dX12_grows_24 : decode cX12_grows 24 = .ok (.istore_n 2, 1) := by decide +kernel
theorem dX12_grows_25 : decode cX12_grows 25 = .ok (.iload_n 2, 1) := by decide +kernel
theorem dX12_grows_26 : decode cX12_grows 26 = .ok (.aload_n 0, 1) := by decide +kernel
theorem dX12_grows_27 : decode cX12_grows 27 = .ok (.getfield 205, 3) := by decide +kernel
theorem dX12_grows_30 : decode cX12_grows 30 = .ok (.if_icmp .ge 16, 3) := by decide +kernel
theorem dX12_grows_33 : decode cX12_grows 33 = .ok (.aload_n 0, 1) := by decide +kernel
theorem dX12_grows_34 : decode cX12_grows 34 = .ok (.getfield 55, 3) := by decide +kernel
theorem dX12_grows_37 : decode cX12_grows 37 = .ok (.iload_n 2, 1) := by decide +kernel
theorem dX12_grows_38 : decode cX12_grows 38 = .ok (.iconst 0, 1) := by decide +kernel
theorem dX12_grows_39 : decode cX12_grows 39 = .ok (.bastore, 1) := by decide +kernel
theorem dX12_grows_40 : decode cX12_grows 40 = .ok (.iinc 2 1, 3) := by decide +kernel
theorem dX12_grows_43 : decode cX12_grows 43 = .ok (.goto (-18), 3) := by decide +kernel
theorem dX12_grows_46 : decode cX12_grows 46 = .ok (.iconst 1, 1) := by decide +kernel
theorem dX12_grows_47 : decode cX12_grows 47 = .ok (.istore_n 2, 1) := by decide +kernel
theorem dX12_grows_48 : decode cX12_grows 48 = .ok (.aload_n 0, 1) := by decide +kernel
theorem dX12_grows_49 : decode cX12_grows 49 = .ok (.getfield 70, 3) := by decide +kernel
theorem dX12_grows_52 : decode cX12_grows 52 = .ok (.iconst 0, 1) := by decide +kernel
theorem dX12_grows_53 : decode cX12_grows 53 = .ok (.iload_n 1, 1) := by decide +kernel
theorem dX12_grows_54 : decode cX12_grows 54 = .ok (.iastore, 1) := by decide +kernel
theorem dX12_grows_55 : decode cX12_grows 55 = .ok (.aload_n 0, 1) := by decide +kernel
theorem dX12_grows_56 : decode cX12_grows 56 = .ok (.getfield 55, 3) := by decide +kernel
theorem dX12_grows_59 : decode cX12_grows 59 = .ok (.iload_n 1, 1) := by decide +kernel
theorem dX12_grows_60 : decode cX12_grows 60 = .ok (.iconst 1, 1) := by decide +kernel
theorem dX12_grows_61 : decode cX12_grows 61 = .ok (.bastore, 1) := by decide +kernel
theorem dX12_grows_62 : decode cX12_grows 62 = .ok (.aload_n 0, 1) := by decide +kernel
theorem dX12_grows_63 : decode cX12_grows 63 = .ok (.getfield 73, 3) := by decide +kernel
theorem dX12_grows_66 : decode cX12_grows 66 = .ok (.iload_n 1, 1) := by decide +kernel
theorem dX12_grows_67 : decode cX12_grows 67 = .ok (.iconst (-1), 1) := by decide +kernel
theorem dX12_grows_68 : decode cX12_grows 68 = .ok (.iastore, 1) := by decide +kernel
theorem dX12_grows_69 : decode cX12_grows 69 = .ok (.iconst 0, 1) := by decide +kernel
theorem dX12_grows_70 : decode cX12_grows 70 = .ok (.istore_n 3, 1) := by decide +kernel
theorem dX12_grows_71 : decode cX12_grows 71 = .ok (.iload_n 3, 1) := by decide +kernel
theorem dX12_grows_72 : decode cX12_grows 72 = .ok (.iload_n 2, 1) := by decide +kernel
theorem dX12_grows_73 : decode cX12_grows 73 = .ok (.if_icmp .ge 211, 3) := by decide +kernel
theorem dX12_grows_76 : decode cX12_grows 76 = .ok (.aload_n 0, 1) := by decide +kernel
theorem dX12_grows_77 : decode cX12_grows 77 = .ok (.getfield 70, 3) := by decide +kernel
theorem dX12_grows_80 : decode cX12_grows 80 = .ok (.iload_n 3, 1) := by decide +kernel
theorem dX12_grows_81 : decode cX12_grows 81 = .ok (.iaload, 1) := by decide +kernel
theorem dX12_grows_82 : decode cX12_grows 82 = .ok (.istore 4, 2) := by decide +kernel
theorem dX12_grows_84 : decode cX12_grows 84 = .ok (.iconst 0, 1) := by decide +kernel
theorem dX12_grows_85 : decode cX12_grows 85 = .ok (.istore 5, 2) := by decide +kernel
theorem dX12_grows_87 : decode cX12_grows 87 = .ok (.iload 5, 2) := by decide +kernel
theorem dX12_grows_89 : decode cX12_grows 89 = .ok (.aload_n 0, 1) := by decide +kernel
theorem dX12_grows_90 : decode cX12_grows 90 = .ok (.getfield 208, 3) := by decide +kernel
theorem dX12_grows_93 : decode cX12_grows 93 = .ok (.if_icmp .ge 185, 3) := by decide +kernel
theorem dX12_grows_96 : decode cX12_grows 96 = .ok (.aload_n 0, 1) := by decide +kernel
theorem dX12_grows_97 : decode cX12_grows 97 = .ok (.getfield 52, 3) := by decide +kernel
theorem dX12_grows_100 : decode cX12_grows 100 = .ok (.iload 5, 2) := by decide +kernel
theorem dX12_grows_102 : decode cX12_grows 102 = .ok (.baload, 1) := by decide +kernel
theorem dX12_grows_103 : decode cX12_grows 103 = .ok (.ifCond .ne 169, 3) := by decide +kernel
theorem dX12_grows_106 : decode cX12_grows 106 = .ok (.aload_n 0, 1) := by decide +kernel
theorem dX12_grows_107 : decode cX12_grows 107 = .ok (.iload 4, 2) := by decide +kernel
theorem dX12_grows_109 : decode cX12_grows 109 = .ok (.iload 5, 2) := by decide +kernel
theorem dX12_grows_111 : decode cX12_grows 111 = .ok (.invokevirtual 232, 3) := by decide +kernel
theorem dX12_grows_114 : decode cX12_grows 114 = .ok (.ifCond .eq 158, 3) := by decide +kernel
theorem dX12_grows_117 : decode cX12_grows 117 = .ok (.aload_n 0, 1) := by decide +kernel
theorem dX12_grows_118 : decode cX12_grows 118 = .ok (.getfield 46, 3) := by decide +kernel
theorem dX12_grows_121 : decode cX12_grows 121 = .ok (.iload 4, 2) := by decide +kernel
theorem dX12_grows_123 : decode cX12_grows 123 = .ok (.iload 5, 2) := by decide +kernel
theorem dX12_grows_125 : decode cX12_grows 125 = .ok (.invokestatic 225, 3) := by decide +kernel
theorem dX12_grows_128 : decode cX12_grows 128 = .ok (.baload, 1) := by decide +kernel
theorem dX12_grows_129 : decode cX12_grows 129 = .ok (.ifCond .eq 6, 3) := by decide +kernel
theorem dX12_grows_132 : decode cX12_grows 132 = .ok (.goto 140, 3) := by decide +kernel
theorem dX12_grows_135 : decode cX12_grows 135 = .ok (.aload_n 0, 1) := by decide +kernel
theorem dX12_grows_136 : decode cX12_grows 136 = .ok (.getfield 52, 3) := by decide +kernel
theorem dX12_grows_139 : decode cX12_grows 139 = .ok (.iload 5, 2) := by decide +kernel
theorem dX12_grows_141 : decode cX12_grows 141 = .ok (.iconst 1, 1) := by decide +kernel
theorem dX12_grows_142 : decode cX12_grows 142 = .ok (.bastore, 1) := by decide +kernel
theorem dX12_grows_143 : decode cX12_grows 143 = .ok (.aload_n 0, 1) := by decide +kernel
theorem dX12_grows_144 : decode cX12_grows 144 = .ok (.getfield 67, 3) := by decide +kernel
theorem dX12_grows_147 : decode cX12_grows 147 = .ok (.iload 5, 2) := by decide +kernel
theorem dX12_grows_149 : decode cX12_grows 149 = .ok (.iload 4, 2) := by decide +kernel
theorem dX12_grows_151 : decode cX12_grows 151 = .ok (.iastore, 1) := by decide +kernel
theorem dX12_grows_152 : decode cX12_grows 152 = .ok (.aload_n 0, 1) := by decide +kernel
theorem dX12_grows_153 : decode cX12_grows 153 = .ok (.getfield 64, 3) := by decide +kernel
theorem dX12_grows_156 : decode cX12_grows 156 = .ok (.iload 5, 2) := by decide +kernel
theorem dX12_grows_158 : decode cX12_grows 158 = .ok (.iaload, 1) := by decide +kernel
theorem dX12_grows_159 : decode cX12_grows 159 = .ok (.aload_n 0, 1) := by decide +kernel
theorem dX12_grows_160 : decode cX12_grows 160 = .ok (.getfield 36, 3) := by decide +kernel
theorem dX12_grows_163 : decode cX12_grows 163 = .ok (.iload 5, 2) := by decide +kernel
theorem dX12_grows_165 : decode cX12_grows 165 = .ok (.iaload, 1) := by decide +kernel
theorem dX12_grows_166 : decode cX12_grows 166 = .ok (.if_icmp .ge 21, 3) := by decide +kernel
theorem dX12_grows_169 : decode cX12_grows 169 = .ok (.aload_n 0, 1) := by decide +kernel
theorem dX12_grows_170 : decode cX12_grows 170 = .ok (.iload 5, 2) := by decide +kernel
theorem dX12_grows_172 : decode cX12_grows 172 = .ok (.invokevirtual 235, 3) := by decide +kernel
theorem dX12_grows_175 : decode cX12_grows 175 = .ok (.aload_n 0, 1) := by decide +kernel
theorem dX12_grows_176 : decode cX12_grows 176 = .ok (.getfield 61, 3) := by decide +kernel
theorem dX12_grows_179 : decode cX12_grows 179 = .ok (.iload_n 1, 1) := by decide +kernel
theorem dX12_grows_180 : decode cX12_grows 180 = .ok (.dup2, 1) := by decide +kernel
theorem dX12_grows_181 : decode cX12_grows 181 = .ok (.iaload, 1) := by decide +kernel
theorem dX12_grows_182 : decode cX12_grows 182 = .ok (.iconst 1, 1) := by decide +kernel
theorem dX12_grows_183 : decode cX12_grows 183 = .ok (.iadd, 1) := by decide +kernel
theorem dX12_grows_184 : decode cX12_grows 184 = .ok (.iastore, 1) := by decide +kernel
theorem dX12_grows_185 : decode cX12_grows 185 = .ok (.iconst 1, 1) := by decide +kernel
theorem dX12_grows_186 : decode cX12_grows 186 = .ok (.ireturn, 1) := by decide +kernel
theorem dX12_grows_187 : decode cX12_grows 187 = .ok (.iconst 0, 1) := by decide +kernel
theorem dX12_grows_188 : decode cX12_grows 188 = .ok (.istore 6, 2) := by decide +kernel
theorem dX12_grows_190 : decode cX12_grows 190 = .ok (.iload 6, 2) := by decide +kernel
theorem dX12_grows_192 : decode cX12_grows 192 = .ok (.aload_n 0, 1) := by decide +kernel
theorem dX12_grows_193 : decode cX12_grows 193 = .ok (.getfield 205, 3) := by decide +kernel
theorem dX12_grows_196 : decode cX12_grows 196 = .ok (.if_icmp .ge 76, 3) := by decide +kernel
theorem dX12_grows_199 : decode cX12_grows 199 = .ok (.aload_n 0, 1) := by decide +kernel
theorem dX12_grows_200 : decode cX12_grows 200 = .ok (.getfield 55, 3) := by decide +kernel
theorem dX12_grows_203 : decode cX12_grows 203 = .ok (.iload 6, 2) := by decide +kernel
theorem dX12_grows_205 : decode cX12_grows 205 = .ok (.baload, 1) := by decide +kernel
theorem dX12_grows_206 : decode cX12_grows 206 = .ok (.ifCond .ne 60, 3) := by decide +kernel
theorem dX12_grows_209 : decode cX12_grows 209 = .ok (.aload_n 0, 1) := by decide +kernel
theorem dX12_grows_210 : decode cX12_grows 210 = .ok (.getfield 46, 3) := by decide +kernel
theorem dX12_grows_213 : decode cX12_grows 213 = .ok (.iload 6, 2) := by decide +kernel
theorem dX12_grows_215 : decode cX12_grows 215 = .ok (.iload 5, 2) := by decide +kernel
theorem dX12_grows_217 : decode cX12_grows 217 = .ok (.invokestatic 225, 3) := by decide +kernel
theorem dX12_grows_220 : decode cX12_grows 220 = .ok (.baload, 1) := by decide +kernel
theorem dX12_grows_221 : decode cX12_grows 221 = .ok (.ifCond .eq 45, 3) := by decide +kernel
theorem dX12_grows_224 : decode cX12_grows 224 = .ok (.aload_n 0, 1) := by decide +kernel
theorem dX12_grows_225 : decode cX12_grows 225 = .ok (.iload 6, 2) := by decide +kernel
theorem dX12_grows_227 : decode cX12_grows 227 = .ok (.iload 5, 2) := by decide +kernel
theorem dX12_grows_229 : decode cX12_grows 229 = .ok (.invokevirtual 232, 3) := by decide +kernel
theorem dX12_grows_232 : decode cX12_grows 232 = .ok (.ifCond .ne 6, 3) := by decide +kernel
theorem dX12_grows_235 : decode cX12_grows 235 = .ok (.goto 31, 3) := by decide +kernel
theorem dX12_grows_238 : decode cX12_grows 238 = .ok (.aload_n 0, 1) := by decide +kernel
theorem dX12_grows_239 : decode cX12_grows 239 = .ok (.getfield 55, 3) := by decide +kernel
theorem dX12_grows_242 : decode cX12_grows 242 = .ok (.iload 6, 2) := by decide +kernel
theorem dX12_grows_244 : decode cX12_grows 244 = .ok (.iconst 1, 1) := by decide +kernel
theorem dX12_grows_245 : decode cX12_grows 245 = .ok (.bastore, 1) := by decide +kernel
theorem dX12_grows_246 : decode cX12_grows 246 = .ok (.aload_n 0, 1) := by decide +kernel
theorem dX12_grows_247 : decode cX12_grows 247 = .ok (.getfield 73, 3) := by decide +kernel
theorem dX12_grows_250 : decode cX12_grows 250 = .ok (.iload 6, 2) := by decide +kernel
theorem dX12_grows_252 : decode cX12_grows 252 = .ok (.iload 5, 2) := by decide +kernel
theorem dX12_grows_254 : decode cX12_grows 254 = .ok (.iastore, 1) := by decide +kernel
theorem dX12_grows_255 : decode cX12_grows 255 = .ok (.aload_n 0, 1) := by decide +kernel
theorem dX12_grows_256 : decode cX12_grows 256 = .ok (.getfield 70, 3) := by decide +kernel
theorem dX12_grows_259 : decode cX12_grows 259 = .ok (.iload_n 2, 1) := by decide +kernel
theorem dX12_grows_260 : decode cX12_grows 260 = .ok (.iload 6, 2) := by decide +kernel
theorem dX12_grows_262 : decode cX12_grows 262 = .ok (.iastore, 1) := by decide +kernel
theorem dX12_grows_263 : decode cX12_grows 263 = .ok (.iinc 2 1, 3) := by decide +kernel
theorem dX12_grows_266 : decode cX12_grows 266 = .ok (.iinc 6 1, 3) := by decide +kernel
theorem dX12_grows_269 : decode cX12_grows 269 = .ok (.goto (-79), 3) := by decide +kernel
theorem dX12_grows_272 : decode cX12_grows 272 = .ok (.iinc 5 1, 3) := by decide +kernel
theorem dX12_grows_275 : decode cX12_grows 275 = .ok (.goto (-188), 3) := by decide +kernel
theorem dX12_grows_278 : decode cX12_grows 278 = .ok (.iinc 3 1, 3) := by decide +kernel
theorem dX12_grows_281 : decode cX12_grows 281 = .ok (.goto (-210), 3) := by decide +kernel
theorem dX12_grows_284 : decode cX12_grows 284 = .ok (.iconst 0, 1) := by decide +kernel
theorem dX12_grows_285 : decode cX12_grows 285 = .ok (.ireturn, 1) := by decide +kernel
theorem dX12_turns_0 : decode cX12_turns 0 = .ok (.aload_n 0, 1) := by decide +kernel
theorem dX12_turns_1 : decode cX12_turns 1 = .ok (.getfield 64, 3) := by decide +kernel
theorem dX12_turns_4 : decode cX12_turns 4 = .ok (.iload_n 1, 1) := by decide +kernel
theorem dX12_turns_5 : decode cX12_turns 5 = .ok (.dup2, 1) := by decide +kernel
theorem dX12_turns_6 : decode cX12_turns 6 = .ok (.iaload, 1) := by decide +kernel
theorem dX12_turns_7 : decode cX12_turns 7 = .ok (.iconst 1, 1) := by decide +kernel
theorem dX12_turns_8 : decode cX12_turns 8 = .ok (.iadd, 1) := by decide +kernel
theorem dX12_turns_9 : decode cX12_turns 9 = .ok (.iastore, 1) := by decide +kernel
theorem dX12_turns_10 : decode cX12_turns 10 = .ok (.iload_n 1, 1) := by decide +kernel
theorem dX12_turns_11 : decode cX12_turns 11 = .ok (.istore_n 2, 1) := by decide +kernel
theorem dX12_turns_12 : decode cX12_turns 12 = .ok (.iload_n 2, 1) := by decide +kernel
theorem dX12_turns_13 : decode cX12_turns 13 = .ok (.ifCond .lt 52, 3) := by decide +kernel
theorem dX12_turns_16 : decode cX12_turns 16 = .ok (.aload_n 0, 1) := by decide +kernel
theorem dX12_turns_17 : decode cX12_turns 17 = .ok (.getfield 67, 3) := by decide +kernel
theorem dX12_turns_20 : decode cX12_turns 20 = .ok (.iload_n 2, 1) := by decide +kernel
theorem dX12_turns_21 : decode cX12_turns 21 = .ok (.iaload, 1) := by decide +kernel
theorem dX12_turns_22 : decode cX12_turns 22 = .ok (.istore_n 3, 1) := by decide +kernel
theorem dX12_turns_23 : decode cX12_turns 23 = .ok (.aload_n 0, 1) := by decide +kernel
theorem dX12_turns_24 : decode cX12_turns 24 = .ok (.getfield 46, 3) := by decide +kernel
theorem dX12_turns_27 : decode cX12_turns 27 = .ok (.iload_n 3, 1) := by decide +kernel
theorem dX12_turns_28 : decode cX12_turns 28 = .ok (.iload_n 2, 1) := by decide +kernel
theorem dX12_turns_29 : decode cX12_turns 29 = .ok (.invokestatic 225, 3) := by decide +kernel
theorem dX12_turns_32 : decode cX12_turns 32 = .ok (.iconst 1, 1) := by decide +kernel
theorem dX12_turns_33 : decode cX12_turns 33 = .ok (.bastore, 1) := by decide +kernel
theorem dX12_turns_34 : decode cX12_turns 34 = .ok (.aload_n 0, 1) := by decide +kernel
theorem dX12_turns_35 : decode cX12_turns 35 = .ok (.getfield 73, 3) := by decide +kernel
theorem dX12_turns_38 : decode cX12_turns 38 = .ok (.iload_n 3, 1) := by decide +kernel
theorem dX12_turns_39 : decode cX12_turns 39 = .ok (.iaload, 1) := by decide +kernel
theorem dX12_turns_40 : decode cX12_turns 40 = .ok (.istore 4, 2) := by decide +kernel
theorem dX12_turns_42 : decode cX12_turns 42 = .ok (.iload 4, 2) := by decide +kernel
theorem dX12_turns_44 : decode cX12_turns 44 = .ok (.ifCond .lt 15, 3) := by decide +kernel
theorem dX12_turns_47 : decode cX12_turns 47 = .ok (.aload_n 0, 1) := by decide +kernel
theorem dX12_turns_48 : decode cX12_turns 48 = .ok (.getfield 46, 3) := by decide +kernel
theorem dX12_turns_51 : decode cX12_turns 51 = .ok (.iload_n 3, 1) := by decide +kernel
theorem dX12_turns_52 : decode cX12_turns 52 = .ok (.iload 4, 2) := by decide +kernel
theorem dX12_turns_54 : decode cX12_turns 54 = .ok (.invokestatic 225, 3) := by decide +kernel
theorem dX12_turns_57 : decode cX12_turns 57 = .ok (.iconst 0, 1) := by decide +kernel
theorem dX12_turns_58 : decode cX12_turns 58 = .ok (.bastore, 1) := by decide +kernel
theorem dX12_turns_59 : decode cX12_turns 59 = .ok (.iload 4, 2) := by decide +kernel
theorem dX12_turns_61 : decode cX12_turns 61 = .ok (.istore_n 2, 1) := by decide +kernel
theorem dX12_turns_62 : decode cX12_turns 62 = .ok (.goto (-50), 3) := by decide +kernel
theorem dX12_turns_65 : decode cX12_turns 65 = .ok (.return_, 1) := by decide +kernel
theorem dX12_plan_0 : decode cX12_plan 0 = .ok (.aload_n 0, 1) := by decide +kernel
theorem dX12_plan_1 : decode cX12_plan 1 = .ok (.iconst 0, 1) := by decide +kernel
theorem dX12_plan_2 : decode cX12_plan 2 = .ok (.putfield 195, 3) := by decide +kernel
theorem dX12_plan_5 : decode cX12_plan 5 = .ok (.aload_n 0, 1) := by decide +kernel
theorem dX12_plan_6 : decode cX12_plan 6 = .ok (.iconst 0, 1) := by decide +kernel
theorem dX12_plan_7 : decode cX12_plan 7 = .ok (.putfield 198, 3) := by decide +kernel
theorem dX12_plan_10 : decode cX12_plan 10 = .ok (.iconst 0, 1) := by decide +kernel
theorem dX12_plan_11 : decode cX12_plan 11 = .ok (.istore_n 1, 1) := by decide +kernel
theorem dX12_plan_12 : decode cX12_plan 12 = .ok (.iload_n 1, 1) := by decide +kernel
theorem dX12_plan_13 : decode cX12_plan 13 = .ok (.sipush 288, 3) := by decide +kernel
theorem dX12_plan_16 : decode cX12_plan 16 = .ok (.if_icmp .ge 16, 3) := by decide +kernel
theorem dX12_plan_19 : decode cX12_plan 19 = .ok (.aload_n 0, 1) := by decide +kernel
theorem dX12_plan_20 : decode cX12_plan 20 = .ok (.getfield 58, 3) := by decide +kernel
theorem dX12_plan_23 : decode cX12_plan 23 = .ok (.iload_n 1, 1) := by decide +kernel
theorem dX12_plan_24 : decode cX12_plan 24 = .ok (.iconst 0, 1) := by decide +kernel
theorem dX12_plan_25 : decode cX12_plan 25 = .ok (.iastore, 1) := by decide +kernel
theorem dX12_plan_26 : decode cX12_plan 26 = .ok (.iinc 1 1, 3) := by decide +kernel
theorem dX12_plan_29 : decode cX12_plan 29 = .ok (.goto (-17), 3) := by decide +kernel
theorem dX12_plan_32 : decode cX12_plan 32 = .ok (.aload_n 0, 1) := by decide +kernel
theorem dX12_plan_33 : decode cX12_plan 33 = .ok (.invokevirtual 239, 3) := by decide +kernel
theorem dX12_plan_36 : decode cX12_plan 36 = .ok (.istore_n 1, 1) := by decide +kernel
theorem dX12_plan_37 : decode cX12_plan 37 = .ok (.iconst 0, 1) := by decide +kernel
theorem dX12_plan_38 : decode cX12_plan 38 = .ok (.istore_n 2, 1) := by decide +kernel
theorem dX12_plan_39 : decode cX12_plan 39 = .ok (.iload_n 2, 1) := by decide +kernel
theorem dX12_plan_40 : decode cX12_plan 40 = .ok (.aload_n 0, 1) := by decide +kernel
theorem dX12_plan_41 : decode cX12_plan 41 = .ok (.getfield 205, 3) := by decide +kernel
theorem dX12_plan_44 : decode cX12_plan 44 = .ok (.if_icmp .ge 67, 3) := by decide +kernel
theorem dX12_plan_47 : decode cX12_plan 47 = .ok (.iconst 0, 1) := by decide +kernel
theorem dX12_plan_48 : decode cX12_plan 48 = .ok (.istore_n 3, 1) := by decide +kernel
theorem dX12_plan_49 : decode cX12_plan 49 = .ok (.iload_n 3, 1) := by decide +kernel
theorem dX12_plan_50 : decode cX12_plan 50 = .ok (.aload_n 0, 1) := by decide +kernel
theorem dX12_plan_51 : decode cX12_plan 51 = .ok (.getfield 208, 3) := by decide +kernel
theorem dX12_plan_54 : decode cX12_plan 54 = .ok (.if_icmp .ge 51, 3) := by decide +kernel
theorem dX12_plan_57 : decode cX12_plan 57 = .ok (.aload_n 0, 1) := by decide +kernel
theorem dX12_plan_58 : decode cX12_plan 58 = .ok (.iload_n 3, 1) := by decide +kernel
theorem dX12_plan_59 : decode cX12_plan 59 = .ok (.iload_n 2, 1) := by decide +kernel
theorem dX12_plan_60 : decode cX12_plan 60 = .ok (.invokevirtual 215, 3) := by decide +kernel
theorem dX12_plan_63 : decode cX12_plan 63 = .ok (.ifCond .ne 6, 3) := by decide +kernel
theorem dX12_plan_66 : decode cX12_plan 66 = .ok (.goto 33, 3) := by decide +kernel
theorem dX12_plan_69 : decode cX12_plan 69 = .ok (.aload_n 0, 1) := by decide +kernel
theorem dX12_plan_70 : decode cX12_plan 70 = .ok (.getfield 58, 3) := by decide +kernel
theorem dX12_plan_73 : decode cX12_plan 73 = .ok (.iload_n 2, 1) := by decide +kernel
theorem dX12_plan_74 : decode cX12_plan 74 = .ok (.iload_n 3, 1) := by decide +kernel
theorem dX12_plan_75 : decode cX12_plan 75 = .ok (.invokestatic 225, 3) := by decide +kernel
theorem dX12_plan_78 : decode cX12_plan 78 = .ok (.iconst 1, 1) := by decide +kernel
theorem dX12_plan_79 : decode cX12_plan 79 = .ok (.iastore, 1) := by decide +kernel
theorem dX12_plan_80 : decode cX12_plan 80 = .ok (.aload_n 0, 1) := by decide +kernel
theorem dX12_plan_81 : decode cX12_plan 81 = .ok (.invokevirtual 239, 3) := by decide +kernel
theorem dX12_plan_84 : decode cX12_plan 84 = .ok (.iload_n 1, 1) := by decide +kernel
theorem dX12_plan_85 : decode cX12_plan 85 = .ok (.if_icmp .eq 14, 3) := by decide +kernel
theorem dX12_plan_88 : decode cX12_plan 88 = .ok (.aload_n 0, 1) := by decide +kernel
theorem dX12_plan_89 : decode cX12_plan 89 = .ok (.getfield 58, 3) := by decide +kernel
theorem dX12_plan_92 : decode cX12_plan 92 = .ok (.iload_n 2, 1) := by decide +kernel
theorem dX12_plan_93 : decode cX12_plan 93 = .ok (.iload_n 3, 1) := by decide +kernel
theorem dX12_plan_94 : decode cX12_plan 94 = .ok (.invokestatic 225, 3) := by decide +kernel
theorem dX12_plan_97 : decode cX12_plan 97 = .ok (.iconst 2, 1) := by decide +kernel
theorem dX12_plan_98 : decode cX12_plan 98 = .ok (.iastore, 1) := by decide +kernel
theorem dX12_plan_99 : decode cX12_plan 99 = .ok (.iinc 3 1, 3) := by decide +kernel
theorem dX12_plan_102 : decode cX12_plan 102 = .ok (.goto (-53), 3) := by decide +kernel
theorem dX12_plan_105 : decode cX12_plan 105 = .ok (.iinc 2 1, 3) := by decide +kernel
theorem dX12_plan_108 : decode cX12_plan 108 = .ok (.goto (-69), 3) := by decide +kernel
theorem dX12_plan_111 : decode cX12_plan 111 = .ok (.iconst 0, 1) := by decide +kernel
theorem dX12_plan_112 : decode cX12_plan 112 = .ok (.istore_n 2, 1) := by decide +kernel
theorem dX12_plan_113 : decode cX12_plan 113 = .ok (.iload_n 2, 1) := by decide +kernel
theorem dX12_plan_114 : decode cX12_plan 114 = .ok (.sipush 288, 3) := by decide +kernel
theorem dX12_plan_117 : decode cX12_plan 117 = .ok (.if_icmp .ge 30, 3) := by decide +kernel
theorem dX12_plan_120 : decode cX12_plan 120 = .ok (.aload_n 0, 1) := by decide +kernel
theorem dX12_plan_121 : decode cX12_plan 121 = .ok (.getfield 43, 3) := by decide +kernel
theorem dX12_plan_124 : decode cX12_plan 124 = .ok (.iload_n 2, 1) := by decide +kernel
theorem dX12_plan_125 : decode cX12_plan 125 = .ok (.aload_n 0, 1) := by decide +kernel
theorem dX12_plan_126 : decode cX12_plan 126 = .ok (.getfield 58, 3) := by decide +kernel
theorem dX12_plan_129 : decode cX12_plan 129 = .ok (.iload_n 2, 1) := by decide +kernel
theorem dX12_plan_130 : decode cX12_plan 130 = .ok (.iaload, 1) := by decide +kernel
theorem dX12_plan_131 : decode cX12_plan 131 = .ok (.iconst 1, 1) := by decide +kernel
theorem dX12_plan_132 : decode cX12_plan 132 = .ok (.if_icmp .ne 7, 3) := by decide +kernel
theorem dX12_plan_135 : decode cX12_plan 135 = .ok (.iconst 1, 1) := by decide +kernel
theorem dX12_plan_136 : decode cX12_plan 136 = .ok (.goto 4, 3) := by decide +kernel
theorem dX12_plan_139 : decode cX12_plan 139 = .ok (.iconst 0, 1) := by decide +kernel
theorem dX12_plan_140 : decode cX12_plan 140 = .ok (.bastore, 1) := by decide +kernel
theorem dX12_plan_141 : decode cX12_plan 141 = .ok (.iinc 2 1, 3) := by decide +kernel
theorem dX12_plan_144 : decode cX12_plan 144 = .ok (.goto (-31), 3) := by decide +kernel
theorem dX12_plan_147 : decode cX12_plan 147 = .ok (.aload_n 0, 1) := by decide +kernel
theorem dX12_plan_148 : decode cX12_plan 148 = .ok (.iconst 1, 1) := by decide +kernel
theorem dX12_plan_149 : decode cX12_plan 149 = .ok (.putfield 243, 3) := by decide +kernel
theorem dX12_plan_152 : decode cX12_plan 152 = .ok (.aload_n 0, 1) := by decide +kernel
theorem dX12_plan_153 : decode cX12_plan 153 = .ok (.aload_n 0, 1) := by decide +kernel
theorem dX12_plan_154 : decode cX12_plan 154 = .ok (.getfield 205, 3) := by decide +kernel
theorem dX12_plan_157 : decode cX12_plan 157 = .ok (.putfield 247, 3) := by decide +kernel
theorem dX12_plan_160 : decode cX12_plan 160 = .ok (.aload_n 0, 1) := by decide +kernel
theorem dX12_plan_161 : decode cX12_plan 161 = .ok (.aload_n 0, 1) := by decide +kernel
theorem dX12_plan_162 : decode cX12_plan 162 = .ok (.getfield 208, 3) := by decide +kernel
theorem dX12_plan_165 : decode cX12_plan 165 = .ok (.putfield 250, 3) := by decide +kernel
theorem dX12_plan_168 : decode cX12_plan 168 = .ok (.iconst 0, 1) := by decide +kernel
theorem dX12_plan_169 : decode cX12_plan 169 = .ok (.istore_n 2, 1) := by decide +kernel
theorem dX12_plan_170 : decode cX12_plan 170 = .ok (.iload_n 2, 1) := by decide +kernel
theorem dX12_plan_171 : decode cX12_plan 171 = .ok (.aload_n 0, 1) := by decide +kernel
theorem dX12_plan_172 : decode cX12_plan 172 = .ok (.getfield 205, 3) := by decide +kernel
theorem dX12_plan_175 : decode cX12_plan 175 = .ok (.if_icmp .ge 70, 3) := by decide +kernel
theorem dX12_plan_178 : decode cX12_plan 178 = .ok (.iconst 0, 1) := by decide +kernel
theorem dX12_plan_179 : decode cX12_plan 179 = .ok (.istore_n 3, 1) := by decide +kernel
theorem dX12_plan_180 : decode cX12_plan 180 = .ok (.iconst 0, 1) := by decide +kernel
theorem dX12_plan_181 : decode cX12_plan 181 = .ok (.istore 4, 2) := by decide +kernel
theorem dX12_plan_183 : decode cX12_plan 183 = .ok (.iload 4, 2) := by decide +kernel
theorem dX12_plan_185 : decode cX12_plan 185 = .ok (.aload_n 0, 1) := by decide +kernel
theorem dX12_plan_186 : decode cX12_plan 186 = .ok (.getfield 208, 3) := by decide +kernel
theorem dX12_plan_189 : decode cX12_plan 189 = .ok (.if_icmp .ge 31, 3) := by decide +kernel
theorem dX12_plan_192 : decode cX12_plan 192 = .ok (.iload_n 3, 1) := by decide +kernel
theorem dX12_plan_193 : decode cX12_plan 193 = .ok (.aload_n 0, 1) := by decide +kernel
theorem dX12_plan_194 : decode cX12_plan 194 = .ok (.getfield 43, 3) := by decide +kernel
theorem dX12_plan_197 : decode cX12_plan 197 = .ok (.iload_n 2, 1) := by decide +kernel
theorem dX12_plan_198 : decode cX12_plan 198 = .ok (.iload 4, 2) := by decide +kernel
theorem dX12_plan_200 : decode cX12_plan 200 = .ok (.invokestatic 225, 3) := by decide +kernel
theorem dX12_plan_203 : decode cX12_plan 203 = .ok (.baload, 1) := by decide +kernel
theorem dX12_plan_204 : decode cX12_plan 204 = .ok (.ifCond .eq 7, 3) := by decide +kernel
theorem dX12_plan_207 : decode cX12_plan 207 = .ok (.iconst 1, 1) := by decide +kernel
theorem dX12_plan_208 : decode cX12_plan 208 = .ok (.goto 4, 3) := by decide +kernel
theorem dX12_plan_211 : decode cX12_plan 211 = .ok (.iconst 0, 1) := by decide +kernel
theorem dX12_plan_212 : decode cX12_plan 212 = .ok (.iadd, 1) := by decide +kernel
theorem dX12_plan_213 : decode cX12_plan 213 = .ok (.istore_n 3, 1) := by decide +kernel
theorem dX12_plan_214 : decode cX12_plan 214 = .ok (.iinc 4 1, 3) := by decide +kernel
theorem dX12_plan_217 : decode cX12_plan 217 = .ok (.goto (-34), 3) := by decide +kernel
theorem dX12_plan_220 : decode cX12_plan 220 = .ok (.aload_n 0, 1) := by decide +kernel
theorem dX12_plan_221 : decode cX12_plan 221 = .ok (.getfield 49, 3) := by decide +kernel
theorem dX12_plan_224 : decode cX12_plan 224 = .ok (.iload_n 2, 1) := by decide +kernel
theorem dX12_plan_225 : decode cX12_plan 225 = .ok (.iload_n 3, 1) := by decide +kernel
theorem dX12_plan_226 : decode cX12_plan 226 = .ok (.aload_n 0, 1) := by decide +kernel
theorem dX12_plan_227 : decode cX12_plan 227 = .ok (.getfield 13, 3) := by decide +kernel
theorem dX12_plan_230 : decode cX12_plan 230 = .ok (.if_icmp .ge 7, 3) := by decide +kernel
theorem dX12_plan_233 : decode cX12_plan 233 = .ok (.iconst 1, 1) := by decide +kernel
theorem dX12_plan_234 : decode cX12_plan 234 = .ok (.goto 4, 3) := by decide +kernel
theorem dX12_plan_237 : decode cX12_plan 237 = .ok (.iconst 0, 1) := by decide +kernel
theorem dX12_plan_238 : decode cX12_plan 238 = .ok (.bastore, 1) := by decide +kernel
theorem dX12_plan_239 : decode cX12_plan 239 = .ok (.iinc 2 1, 3) := by decide +kernel
theorem dX12_plan_242 : decode cX12_plan 242 = .ok (.goto (-72), 3) := by decide +kernel
theorem dX12_plan_245 : decode cX12_plan 245 = .ok (.iconst 1, 1) := by decide +kernel
theorem dX12_plan_246 : decode cX12_plan 246 = .ok (.istore_n 2, 1) := by decide +kernel
theorem dX12_plan_247 : decode cX12_plan 247 = .ok (.iload_n 2, 1) := by decide +kernel
theorem dX12_plan_248 : decode cX12_plan 248 = .ok (.ifCond .eq 134, 3) := by decide +kernel
theorem dX12_plan_251 : decode cX12_plan 251 = .ok (.iconst 0, 1) := by decide +kernel
theorem dX12_plan_252 : decode cX12_plan 252 = .ok (.istore_n 2, 1) := by decide +kernel
theorem dX12_plan_253 : decode cX12_plan 253 = .ok (.iconst 0, 1) := by decide +kernel
theorem dX12_plan_254 : decode cX12_plan 254 = .ok (.istore_n 3, 1) := by decide +kernel
theorem dX12_plan_255 : decode cX12_plan 255 = .ok (.iload_n 3, 1) := by decide +kernel
theorem dX12_plan_256 : decode cX12_plan 256 = .ok (.aload_n 0, 1) := by decide +kernel
theorem dX12_plan_257 : decode cX12_plan 257 = .ok (.getfield 205, 3) := by decide +kernel
theorem dX12_plan_260 : decode cX12_plan 260 = .ok (.if_icmp .ge 119, 3) := by decide +kernel
theorem dX12_plan_263 : decode cX12_plan 263 = .ok (.iconst 0, 1) := by decide +kernel
theorem dX12_plan_264 : decode cX12_plan 264 = .ok (.istore 4, 2) := by decide +kernel
theorem dX12_plan_266 : decode cX12_plan 266 = .ok (.iload 4, 2) := by decide +kernel
theorem dX12_plan_268 : decode cX12_plan 268 = .ok (.aload_n 0, 1) := by decide +kernel
theorem dX12_plan_269 : decode cX12_plan 269 = .ok (.getfield 208, 3) := by decide +kernel
theorem dX12_plan_272 : decode cX12_plan 272 = .ok (.if_icmp .ge 101, 3) := by decide +kernel
theorem dX12_plan_275 : decode cX12_plan 275 = .ok (.aload_n 0, 1) := by decide +kernel
theorem dX12_plan_276 : decode cX12_plan 276 = .ok (.getfield 49, 3) := by decide +kernel
theorem dX12_plan_279 : decode cX12_plan 279 = .ok (.iload_n 3, 1) := by decide +kernel
theorem dX12_plan_280 : decode cX12_plan 280 = .ok (.baload, 1) := by decide +kernel
theorem dX12_plan_281 : decode cX12_plan 281 = .ok (.ifCond .eq 92, 3) := by decide +kernel
theorem dX12_plan_284 : decode cX12_plan 284 = .ok (.aload_n 0, 1) := by decide +kernel
theorem dX12_plan_285 : decode cX12_plan 285 = .ok (.iload 4, 2) := by decide +kernel
theorem dX12_plan_287 : decode cX12_plan 287 = .ok (.iload_n 3, 1) := by decide +kernel
theorem dX12_plan_288 : decode cX12_plan 288 = .ok (.invokevirtual 215, 3) := by decide +kernel
theorem dX12_plan_291 : decode cX12_plan 291 = .ok (.ifCond .eq 76, 3) := by decide +kernel
theorem dX12_plan_294 : decode cX12_plan 294 = .ok (.aload_n 0, 1) := by decide +kernel
theorem dX12_plan_295 : decode cX12_plan 295 = .ok (.getfield 43, 3) := by decide +kernel
theorem dX12_plan_298 : decode cX12_plan 298 = .ok (.iload_n 3, 1) := by decide +kernel
theorem dX12_plan_299 : decode cX12_plan 299 = .ok (.iload 4, 2) := by decide +kernel
theorem dX12_plan_301 : decode cX12_plan 301 = .ok (.invokestatic 225, 3) := by decide +kernel
theorem dX12_plan_304 : decode cX12_plan 304 = .ok (.baload, 1) := by decide +kernel
theorem dX12_plan_305 : decode cX12_plan 305 = .ok (.ifCond .eq 6, 3) := by decide +kernel
theorem dX12_plan_308 : decode cX12_plan 308 = .ok (.goto 59, 3) := by decide +kernel
theorem dX12_plan_311 : decode cX12_plan 311 = .ok (.iconst 0, 1) := by decide +kernel
theorem dX12_plan_312 : decode cX12_plan 312 = .ok (.istore 5, 2) := by decide +kernel
theorem dX12_plan_314 : decode cX12_plan 314 = .ok (.iload 5, 2) := by decide +kernel
theorem dX12_plan_316 : decode cX12_plan 316 = .ok (.aload_n 0, 1) := by decide +kernel
theorem dX12_plan_317 : decode cX12_plan 317 = .ok (.getfield 205, 3) := by decide +kernel
theorem dX12_plan_320 : decode cX12_plan 320 = .ok (.if_icmp .ge 47, 3) := by decide +kernel
theorem dX12_plan_323 : decode cX12_plan 323 = .ok (.aload_n 0, 1) := by decide +kernel
theorem dX12_plan_324 : decode cX12_plan 324 = .ok (.getfield 43, 3) := by decide +kernel
theorem dX12_plan_327 : decode cX12_plan 327 = .ok (.iload 5, 2) := by decide +kernel
theorem dX12_plan_329 : decode cX12_plan 329 = .ok (.iload 4, 2) := by decide +kernel
theorem dX12_plan_331 : decode cX12_plan 331 = .ok (.invokestatic 225, 3) := by decide +kernel
theorem dX12_plan_334 : decode cX12_plan 334 = .ok (.baload, 1) := by decide +kernel
theorem dX12_plan_335 : decode cX12_plan 335 = .ok (.ifCond .eq 26, 3) := by decide +kernel
theorem dX12_plan_338 : decode cX12_plan 338 = .ok (.aload_n 0, 1) := by decide +kernel
theorem dX12_plan_339 : decode cX12_plan 339 = .ok (.getfield 49, 3) := by decide +kernel
theorem dX12_plan_342 : decode cX12_plan 342 = .ok (.iload 5, 2) := by decide +kernel
theorem dX12_plan_344 : decode cX12_plan 344 = .ok (.baload, 1) := by decide +kernel
theorem dX12_plan_345 : decode cX12_plan 345 = .ok (.ifCond .eq 6, 3) := by decide +kernel
theorem dX12_plan_348 : decode cX12_plan 348 = .ok (.goto 13, 3) := by decide +kernel
theorem dX12_plan_351 : decode cX12_plan 351 = .ok (.aload_n 0, 1) := by decide +kernel
theorem dX12_plan_352 : decode cX12_plan 352 = .ok (.getfield 49, 3) := by decide +kernel
theorem dX12_plan_355 : decode cX12_plan 355 = .ok (.iload 5, 2) := by decide +kernel
theorem dX12_plan_357 : decode cX12_plan 357 = .ok (.iconst 1, 1) := by decide +kernel
theorem dX12_plan_358 : decode cX12_plan 358 = .ok (.bastore, 1) := by decide +kernel
theorem dX12_plan_359 : decode cX12_plan 359 = .ok (.iconst 1, 1) := by decide +kernel
theorem dX12_plan_360 : decode cX12_plan 360 = .ok (.istore_n 2, 1) := by decide +kernel
theorem dX12_plan_361 : decode cX12_plan 361 = .ok (.iinc 5 1, 3) := by decide +kernel
theorem dX12_plan_364 : decode cX12_plan 364 = .ok (.goto (-50), 3) := by decide +kernel
theorem dX12_plan_367 : decode cX12_plan 367 = .ok (.iinc 4 1, 3) := by decide +kernel
theorem dX12_plan_370 : decode cX12_plan 370 = .ok (.goto (-104), 3) := by decide +kernel
theorem dX12_plan_373 : decode cX12_plan 373 = .ok (.iinc 3 1, 3) := by decide +kernel
theorem dX12_plan_376 : decode cX12_plan 376 = .ok (.goto (-121), 3) := by decide +kernel
theorem dX12_plan_379 : decode cX12_plan 379 = .ok (.goto (-132), 3) := by decide +kernel
theorem dX12_plan_382 : decode cX12_plan 382 = .ok (.aload_n 0, 1) := by decide +kernel
theorem dX12_plan_383 : decode cX12_plan 383 = .ok (.getfield 13, 3) := by decide +kernel
theorem dX12_plan_386 : decode cX12_plan 386 = .ok (.aload_n 0, 1) := by decide +kernel
theorem dX12_plan_387 : decode cX12_plan 387 = .ok (.getfield 205, 3) := by decide +kernel
theorem dX12_plan_390 : decode cX12_plan 390 = .ok (.imul, 1) := by decide +kernel
theorem dX12_plan_391 : decode cX12_plan 391 = .ok (.iload_n 1, 1) := by decide +kernel
theorem dX12_plan_392 : decode cX12_plan 392 = .ok (.isub, 1) := by decide +kernel
theorem dX12_plan_393 : decode cX12_plan 393 = .ok (.ireturn, 1) := by decide +kernel
theorem dX12_sees_0 : decode cX12_sees 0 = .ok (.aload_n 0, 1) := by decide +kernel
theorem dX12_sees_1 : decode cX12_sees 1 = .ok (.iconst 0, 1) := by decide +kernel
theorem dX12_sees_2 : decode cX12_sees 2 = .ok (.putfield 195, 3) := by decide +kernel
theorem dX12_sees_5 : decode cX12_sees 5 = .ok (.aload_n 0, 1) := by decide +kernel
theorem dX12_sees_6 : decode cX12_sees 6 = .ok (.iconst 0, 1) := by decide +kernel
theorem dX12_sees_7 : decode cX12_sees 7 = .ok (.putfield 198, 3) := by decide +kernel
theorem dX12_sees_10 : decode cX12_sees 10 = .ok (.aload_n 0, 1) := by decide +kernel
theorem dX12_sees_11 : decode cX12_sees 11 = .ok (.getfield 243, 3) := by decide +kernel
theorem dX12_sees_14 : decode cX12_sees 14 = .ok (.ifCond .ne 9, 3) := by decide +kernel
theorem dX12_sees_17 : decode cX12_sees 17 = .ok (.aload_n 0, 1) := by decide +kernel
theorem dX12_sees_18 : decode cX12_sees 18 = .ok (.iconst 4, 1) := by decide +kernel
theorem dX12_sees_19 : decode cX12_sees 19 = .ok (.invokevirtual 201, 3) := by decide +kernel
theorem dX12_sees_22 : decode cX12_sees 22 = .ok (.ireturn, 1) := by decide +kernel
theorem dX12_sees_23 : decode cX12_sees 23 = .ok (.iload_n 1, 1) := by decide +kernel
theorem dX12_sees_24 : decode cX12_sees 24 = .ok (.ifCond .lt 23, 3) := by decide +kernel
theorem dX12_sees_27 : decode cX12_sees 27 = .ok (.iload_n 1, 1) := by decide +kernel
theorem dX12_sees_28 : decode cX12_sees 28 = .ok (.aload_n 0, 1) := by decide +kernel
theorem dX12_sees_29 : decode cX12_sees 29 = .ok (.getfield 250, 3) := by decide +kernel
theorem dX12_sees_32 : decode cX12_sees 32 = .ok (.if_icmp .ge 15, 3) := by decide +kernel
theorem dX12_sees_35 : decode cX12_sees 35 = .ok (.iload_n 2, 1) := by decide +kernel
theorem dX12_sees_36 : decode cX12_sees 36 = .ok (.ifCond .lt 11, 3) := by decide +kernel
theorem dX12_sees_39 : decode cX12_sees 39 = .ok (.iload_n 2, 1) := by decide +kernel
theorem dX12_sees_40 : decode cX12_sees 40 = .ok (.aload_n 0, 1) := by decide +kernel
theorem dX12_sees_41 : decode cX12_sees 41 = .ok (.getfield 247, 3) := by decide +kernel
theorem dX12_sees_44 : decode cX12_sees 44 = .ok (.if_icmp .lt 9, 3) := by decide +kernel
theorem dX12_sees_47 : decode cX12_sees 47 = .ok (.aload_n 0, 1) := by decide +kernel
theorem dX12_sees_48 : decode cX12_sees 48 = .ok (.iconst 1, 1) := by decide +kernel
theorem dX12_sees_49 : decode cX12_sees 49 = .ok (.invokevirtual 201, 3) := by decide +kernel
theorem dX12_sees_52 : decode cX12_sees 52 = .ok (.ireturn, 1) := by decide +kernel
theorem dX12_sees_53 : decode cX12_sees 53 = .ok (.aload_n 0, 1) := by decide +kernel
theorem dX12_sees_54 : decode cX12_sees 54 = .ok (.getfield 43, 3) := by decide +kernel
theorem dX12_sees_57 : decode cX12_sees 57 = .ok (.iload_n 2, 1) := by decide +kernel
theorem dX12_sees_58 : decode cX12_sees 58 = .ok (.iload_n 1, 1) := by decide +kernel
theorem dX12_sees_59 : decode cX12_sees 59 = .ok (.invokestatic 225, 3) := by decide +kernel
theorem dX12_sees_62 : decode cX12_sees 62 = .ok (.baload, 1) := by decide +kernel
theorem dX12_sees_63 : decode cX12_sees 63 = .ok (.ifCond .eq 7, 3) := by decide +kernel
theorem dX12_sees_66 : decode cX12_sees 66 = .ok (.iconst 1, 1) := by decide +kernel
theorem dX12_sees_67 : decode cX12_sees 67 = .ok (.goto 4, 3) := by decide +kernel
theorem dX12_sees_70 : decode cX12_sees 70 = .ok (.iconst 0, 1) := by decide +kernel
theorem dX12_sees_71 : decode cX12_sees 71 = .ok (.ireturn, 1) := by decide +kernel
theorem dX12_holds_0 : decode cX12_holds 0 = .ok (.aload_n 0, 1) := by decide +kernel
theorem dX12_holds_1 : decode cX12_holds 1 = .ok (.iconst 0, 1) := by decide +kernel
theorem dX12_holds_2 : decode cX12_holds 2 = .ok (.putfield 195, 3) := by decide +kernel
theorem dX12_holds_5 : decode cX12_holds 5 = .ok (.aload_n 0, 1) := by decide +kernel
theorem dX12_holds_6 : decode cX12_holds 6 = .ok (.iconst 0, 1) := by decide +kernel
theorem dX12_holds_7 : decode cX12_holds 7 = .ok (.putfield 198, 3) := by decide +kernel
theorem dX12_holds_10 : decode cX12_holds 10 = .ok (.aload_n 0, 1) := by decide +kernel
theorem dX12_holds_11 : decode cX12_holds 11 = .ok (.getfield 243, 3) := by decide +kernel
theorem dX12_holds_14 : decode cX12_holds 14 = .ok (.ifCond .ne 9, 3) := by decide +kernel
theorem dX12_holds_17 : decode cX12_holds 17 = .ok (.aload_n 0, 1) := by decide +kernel
theorem dX12_holds_18 : decode cX12_holds 18 = .ok (.iconst 4, 1) := by decide +kernel
theorem dX12_holds_19 : decode cX12_holds 19 = .ok (.invokevirtual 201, 3) := by decide +kernel
theorem dX12_holds_22 : decode cX12_holds 22 = .ok (.ireturn, 1) := by decide +kernel
theorem dX12_holds_23 : decode cX12_holds 23 = .ok (.iload_n 1, 1) := by decide +kernel
theorem dX12_holds_24 : decode cX12_holds 24 = .ok (.ifCond .lt 11, 3) := by decide +kernel
theorem dX12_holds_27 : decode cX12_holds 27 = .ok (.iload_n 1, 1) := by decide +kernel
theorem dX12_holds_28 : decode cX12_holds 28 = .ok (.aload_n 0, 1) := by decide +kernel
theorem dX12_holds_29 : decode cX12_holds 29 = .ok (.getfield 247, 3) := by decide +kernel
theorem dX12_holds_32 : decode cX12_holds 32 = .ok (.if_icmp .lt 9, 3) := by decide +kernel
theorem dX12_holds_35 : decode cX12_holds 35 = .ok (.aload_n 0, 1) := by decide +kernel
theorem dX12_holds_36 : decode cX12_holds 36 = .ok (.iconst 1, 1) := by decide +kernel
theorem dX12_holds_37 : decode cX12_holds 37 = .ok (.invokevirtual 201, 3) := by decide +kernel
theorem dX12_holds_40 : decode cX12_holds 40 = .ok (.ireturn, 1) := by decide +kernel
theorem dX12_holds_41 : decode cX12_holds 41 = .ok (.aload_n 0, 1) := by decide +kernel
theorem dX12_holds_42 : decode cX12_holds 42 = .ok (.getfield 49, 3) := by decide +kernel
theorem dX12_holds_45 : decode cX12_holds 45 = .ok (.iload_n 1, 1) := by decide +kernel
theorem dX12_holds_46 : decode cX12_holds 46 = .ok (.baload, 1) := by decide +kernel
theorem dX12_holds_47 : decode cX12_holds 47 = .ok (.ifCond .eq 7, 3) := by decide +kernel
theorem dX12_holds_50 : decode cX12_holds 50 = .ok (.iconst 1, 1) := by decide +kernel
theorem dX12_holds_51 : decode cX12_holds 51 = .ok (.goto 4, 3) := by decide +kernel
theorem dX12_holds_54 : decode cX12_holds 54 = .ok (.iconst 0, 1) := by decide +kernel
theorem dX12_holds_55 : decode cX12_holds 55 = .ok (.ireturn, 1) := by decide +kernel
theorem dX12_isDay_0 : decode cX12_isDay 0 = .ok (.iload_n 0, 1) := by decide +kernel
theorem dX12_isDay_1 : decode cX12_isDay 1 = .ok (.ifCond .lt 14, 3) := by decide +kernel
theorem dX12_isDay_4 : decode cX12_isDay 4 = .ok (.iload_n 0, 1) := by decide +kernel
theorem dX12_isDay_5 : decode cX12_isDay 5 = .ok (.sipush 999, 3) := by decide +kernel
theorem dX12_isDay_8 : decode cX12_isDay 8 = .ok (.if_icmp .gt 7, 3) := by decide +kernel
theorem dX12_isDay_11 : decode cX12_isDay 11 = .ok (.iconst 1, 1) := by decide +kernel
theorem dX12_isDay_12 : decode cX12_isDay 12 = .ok (.goto 4, 3) := by decide +kernel
theorem dX12_isDay_15 : decode cX12_isDay 15 = .ok (.iconst 0, 1) := by decide +kernel
theorem dX12_isDay_16 : decode cX12_isDay 16 = .ok (.ireturn, 1) := by decide +kernel
theorem dX12_mark_0 : decode cX12_mark 0 = .ok (.aload_n 0, 1) := by decide +kernel
theorem dX12_mark_1 : decode cX12_mark 1 = .ok (.iconst 0, 1) := by decide +kernel
theorem dX12_mark_2 : decode cX12_mark 2 = .ok (.putfield 195, 3) := by decide +kernel
theorem dX12_mark_5 : decode cX12_mark 5 = .ok (.aload_n 0, 1) := by decide +kernel
theorem dX12_mark_6 : decode cX12_mark 6 = .ok (.iconst 0, 1) := by decide +kernel
theorem dX12_mark_7 : decode cX12_mark 7 = .ok (.putfield 198, 3) := by decide +kernel
theorem dX12_mark_10 : decode cX12_mark 10 = .ok (.aload_n 0, 1) := by decide +kernel
theorem dX12_mark_11 : decode cX12_mark 11 = .ok (.iload_n 1, 1) := by decide +kernel
theorem dX12_mark_12 : decode cX12_mark 12 = .ok (.invokevirtual 219, 3) := by decide +kernel
theorem dX12_mark_15 : decode cX12_mark 15 = .ok (.ifCond .eq 11, 3) := by decide +kernel
theorem dX12_mark_18 : decode cX12_mark 18 = .ok (.aload_n 0, 1) := by decide +kernel
theorem dX12_mark_19 : decode cX12_mark 19 = .ok (.iload_n 2, 1) := by decide +kernel
theorem dX12_mark_20 : decode cX12_mark 20 = .ok (.invokevirtual 211, 3) := by decide +kernel
theorem dX12_mark_23 : decode cX12_mark 23 = .ok (.ifCond .ne 9, 3) := by decide +kernel
theorem dX12_mark_26 : decode cX12_mark 26 = .ok (.aload_n 0, 1) := by decide +kernel
theorem dX12_mark_27 : decode cX12_mark 27 = .ok (.iconst 1, 1) := by decide +kernel
theorem dX12_mark_28 : decode cX12_mark 28 = .ok (.invokevirtual 201, 3) := by decide +kernel
theorem dX12_mark_31 : decode cX12_mark 31 = .ok (.ireturn, 1) := by decide +kernel
theorem dX12_mark_32 : decode cX12_mark 32 = .ok (.iload_n 3, 1) := by decide +kernel
theorem dX12_mark_33 : decode cX12_mark 33 = .ok (.ifCond .lt 17, 3) := by decide +kernel
theorem dX12_mark_36 : decode cX12_mark 36 = .ok (.iload_n 3, 1) := by decide +kernel
theorem dX12_mark_37 : decode cX12_mark 37 = .ok (.bipush 100, 2) := by decide +kernel
theorem dX12_mark_39 : decode cX12_mark 39 = .ok (.if_icmp .gt 11, 3) := by decide +kernel
theorem dX12_mark_42 : decode cX12_mark 42 = .ok (.iload 4, 2) := by decide +kernel
theorem dX12_mark_44 : decode cX12_mark 44 = .ok (.invokestatic 253, 3) := by decide +kernel
theorem dX12_mark_47 : decode cX12_mark 47 = .ok (.ifCond .ne 9, 3) := by decide +kernel
theorem dX12_mark_50 : decode cX12_mark 50 = .ok (.aload_n 0, 1) := by decide +kernel
theorem dX12_mark_51 : decode cX12_mark 51 = .ok (.iconst 2, 1) := by decide +kernel
theorem dX12_mark_52 : decode cX12_mark 52 = .ok (.invokevirtual 201, 3) := by decide +kernel
theorem dX12_mark_55 : decode cX12_mark 55 = .ok (.ireturn, 1) := by decide +kernel
theorem dX12_mark_56 : decode cX12_mark 56 = .ok (.aload_n 0, 1) := by decide +kernel
theorem dX12_mark_57 : decode cX12_mark 57 = .ok (.getfield 256, 3) := by decide +kernel
theorem dX12_mark_60 : decode cX12_mark 60 = .ok (.sipush 200, 3) := by decide +kernel
theorem dX12_mark_63 : decode cX12_mark 63 = .ok (.if_icmp .ne 9, 3) := by decide +kernel
theorem dX12_mark_66 : decode cX12_mark 66 = .ok (.aload_n 0, 1) := by decide +kernel
theorem dX12_mark_67 : decode cX12_mark 67 = .ok (.iconst 3, 1) := by decide +kernel
theorem dX12_mark_68 : decode cX12_mark 68 = .ok (.invokevirtual 201, 3) := by decide +kernel
theorem dX12_mark_71 : decode cX12_mark 71 = .ok (.ireturn, 1) := by decide +kernel
theorem dX12_mark_72 : decode cX12_mark 72 = .ok (.aload_n 0, 1) := by decide +kernel
theorem dX12_mark_73 : decode cX12_mark 73 = .ok (.getfield 76, 3) := by decide +kernel
theorem dX12_mark_76 : decode cX12_mark 76 = .ok (.aload_n 0, 1) := by decide +kernel
theorem dX12_mark_77 : decode cX12_mark 77 = .ok (.getfield 256, 3) := by decide +kernel
theorem dX12_mark_80 : decode cX12_mark 80 = .ok (.iload_n 1, 1) := by decide +kernel
theorem dX12_mark_81 : decode cX12_mark 81 = .ok (.iastore, 1) := by decide +kernel
theorem dX12_mark_82 : decode cX12_mark 82 = .ok (.aload_n 0, 1) := by decide +kernel
theorem dX12_mark_83 : decode cX12_mark 83 = .ok (.getfield 79, 3) := by decide +kernel
theorem dX12_mark_86 : decode cX12_mark 86 = .ok (.aload_n 0, 1) := by decide +kernel
theorem dX12_mark_87 : decode cX12_mark 87 = .ok (.getfield 256, 3) := by decide +kernel
theorem dX12_mark_90 : decode cX12_mark 90 = .ok (.iload_n 2, 1) := by decide +kernel
theorem dX12_mark_91 : decode cX12_mark 91 = .ok (.iastore, 1) := by decide +kernel
theorem dX12_mark_92 : decode cX12_mark 92 = .ok (.aload_n 0, 1) := by decide +kernel
theorem dX12_mark_93 : decode cX12_mark 93 = .ok (.getfield 82, 3) := by decide +kernel
theorem dX12_mark_96 : decode cX12_mark 96 = .ok (.aload_n 0, 1) := by decide +kernel
theorem dX12_mark_97 : decode cX12_mark 97 = .ok (.getfield 256, 3) := by decide +kernel
theorem dX12_mark_100 : decode cX12_mark 100 = .ok (.iload_n 3, 1) := by decide +kernel
theorem dX12_mark_101 : decode cX12_mark 101 = .ok (.iastore, 1) := by decide +kernel
theorem dX12_mark_102 : decode cX12_mark 102 = .ok (.aload_n 0, 1) := by decide +kernel
theorem dX12_mark_103 : decode cX12_mark 103 = .ok (.getfield 85, 3) := by decide +kernel
theorem dX12_mark_106 : decode cX12_mark 106 = .ok (.aload_n 0, 1) := by decide +kernel
theorem dX12_mark_107 : decode cX12_mark 107 = .ok (.getfield 256, 3) := by decide +kernel
theorem dX12_mark_110 : decode cX12_mark 110 = .ok (.iload 4, 2) := by decide +kernel
theorem dX12_mark_112 : decode cX12_mark 112 = .ok (.iastore, 1) := by decide +kernel
theorem dX12_mark_113 : decode cX12_mark 113 = .ok (.aload_n 0, 1) := by decide +kernel
theorem dX12_mark_114 : decode cX12_mark 114 = .ok (.getfield 88, 3) := by decide +kernel
theorem dX12_mark_117 : decode cX12_mark 117 = .ok (.aload_n 0, 1) := by decide +kernel
theorem dX12_mark_118 : decode cX12_mark 118 = .ok (.getfield 256, 3) := by decide +kernel
theorem dX12_mark_121 : decode cX12_mark 121 = .ok (.iconst (-1), 1) := by decide +kernel
theorem dX12_mark_122 : decode cX12_mark 122 = .ok (.iastore, 1) := by decide +kernel
theorem dX12_mark_123 : decode cX12_mark 123 = .ok (.aload_n 0, 1) := by decide +kernel
theorem dX12_mark_124 : decode cX12_mark 124 = .ok (.dup, 1) := by decide +kernel
theorem dX12_mark_125 : decode cX12_mark 125 = .ok (.getfield 256, 3) := by decide +kernel
theorem dX12_mark_128 : decode cX12_mark 128 = .ok (.iconst 1, 1) := by decide +kernel
theorem dX12_mark_129 : decode cX12_mark 129 = .ok (.iadd, 1) := by decide +kernel
theorem dX12_mark_130 : decode cX12_mark 130 = .ok (.putfield 256, 3) := by decide +kernel
theorem dX12_mark_133 : decode cX12_mark 133 = .ok (.aload_n 0, 1) := by decide +kernel
theorem dX12_mark_134 : decode cX12_mark 134 = .ok (.getfield 256, 3) := by decide +kernel
theorem dX12_mark_137 : decode cX12_mark 137 = .ok (.iconst 1, 1) := by decide +kernel
theorem dX12_mark_138 : decode cX12_mark 138 = .ok (.isub, 1) := by decide +kernel
theorem dX12_mark_139 : decode cX12_mark 139 = .ok (.ireturn, 1) := by decide +kernel
theorem dX12_lose_0 : decode cX12_lose 0 = .ok (.aload_n 0, 1) := by decide +kernel
theorem dX12_lose_1 : decode cX12_lose 1 = .ok (.iconst 0, 1) := by decide +kernel
theorem dX12_lose_2 : decode cX12_lose 2 = .ok (.putfield 195, 3) := by decide +kernel
theorem dX12_lose_5 : decode cX12_lose 5 = .ok (.aload_n 0, 1) := by decide +kernel
theorem dX12_lose_6 : decode cX12_lose 6 = .ok (.iconst 0, 1) := by decide +kernel
theorem dX12_lose_7 : decode cX12_lose 7 = .ok (.putfield 198, 3) := by decide +kernel
theorem dX12_lose_10 : decode cX12_lose 10 = .ok (.iload_n 1, 1) := by decide +kernel
theorem dX12_lose_11 : decode cX12_lose 11 = .ok (.ifCond .lt 11, 3) := by decide +kernel
theorem dX12_lose_14 : decode cX12_lose 14 = .ok (.iload_n 1, 1) := by decide +kernel
theorem dX12_lose_15 : decode cX12_lose 15 = .ok (.aload_n 0, 1) := by decide +kernel
theorem dX12_lose_16 : decode cX12_lose 16 = .ok (.getfield 256, 3) := by decide +kernel
theorem dX12_lose_19 : decode cX12_lose 19 = .ok (.if_icmp .lt 9, 3) := by decide +kernel
theorem dX12_lose_22 : decode cX12_lose 22 = .ok (.aload_n 0, 1) := by decide +kernel
theorem dX12_lose_23 : decode cX12_lose 23 = .ok (.iconst 1, 1) := by decide +kernel
theorem dX12_lose_24 : decode cX12_lose 24 = .ok (.invokevirtual 222, 3) := by decide +kernel
theorem dX12_lose_27 : decode cX12_lose 27 = .ok (.ireturn, 1) := by decide +kernel
theorem dX12_lose_28 : decode cX12_lose 28 = .ok (.iload_n 2, 1) := by decide +kernel
theorem dX12_lose_29 : decode cX12_lose 29 = .ok (.invokestatic 253, 3) := by decide +kernel
theorem dX12_lose_32 : decode cX12_lose 32 = .ok (.ifCond .ne 9, 3) := by decide +kernel
theorem dX12_lose_35 : decode cX12_lose 35 = .ok (.aload_n 0, 1) := by decide +kernel
theorem dX12_lose_36 : decode cX12_lose 36 = .ok (.iconst 2, 1) := by decide +kernel
theorem dX12_lose_37 : decode cX12_lose 37 = .ok (.invokevirtual 222, 3) := by decide +kernel
theorem dX12_lose_40 : decode cX12_lose 40 = .ok (.ireturn, 1) := by decide +kernel
theorem dX12_lose_41 : decode cX12_lose 41 = .ok (.aload_n 0, 1) := by decide +kernel
theorem dX12_lose_42 : decode cX12_lose 42 = .ok (.getfield 88, 3) := by decide +kernel
theorem dX12_lose_45 : decode cX12_lose 45 = .ok (.iload_n 1, 1) := by decide +kernel
theorem dX12_lose_46 : decode cX12_lose 46 = .ok (.iaload, 1) := by decide +kernel
theorem dX12_lose_47 : decode cX12_lose 47 = .ok (.ifCond .lt 9, 3) := by decide +kernel
theorem dX12_lose_50 : decode cX12_lose 50 = .ok (.aload_n 0, 1) := by decide +kernel
theorem dX12_lose_51 : decode cX12_lose 51 = .ok (.iconst 5, 1) := by decide +kernel
theorem dX12_lose_52 : decode cX12_lose 52 = .ok (.invokevirtual 222, 3) := by decide +kernel
theorem dX12_lose_55 : decode cX12_lose 55 = .ok (.ireturn, 1) := by decide +kernel
theorem dX12_lose_56 : decode cX12_lose 56 = .ok (.aload_n 0, 1) := by decide +kernel
theorem dX12_lose_57 : decode cX12_lose 57 = .ok (.getfield 88, 3) := by decide +kernel
theorem dX12_lose_60 : decode cX12_lose 60 = .ok (.iload_n 1, 1) := by decide +kernel
theorem dX12_lose_61 : decode cX12_lose 61 = .ok (.iload_n 2, 1) := by decide +kernel
theorem dX12_lose_62 : decode cX12_lose 62 = .ok (.iastore, 1) := by decide +kernel
theorem dX12_lose_63 : decode cX12_lose 63 = .ok (.iconst 1, 1) := by decide +kernel
theorem dX12_lose_64 : decode cX12_lose 64 = .ok (.ireturn, 1) := by decide +kernel
theorem dX12_known_0 : decode cX12_known 0 = .ok (.iconst 0, 1) := by decide +kernel
theorem dX12_known_1 : decode cX12_known 1 = .ok (.istore_n 2, 1) := by decide +kernel
theorem dX12_known_2 : decode cX12_known 2 = .ok (.iload_n 2, 1) := by decide +kernel
theorem dX12_known_3 : decode cX12_known 3 = .ok (.sipush 288, 3) := by decide +kernel
theorem dX12_known_6 : decode cX12_known 6 = .ok (.if_icmp .ge 16, 3) := by decide +kernel
theorem dX12_known_9 : decode cX12_known 9 = .ok (.aload_n 0, 1) := by decide +kernel
theorem dX12_known_10 : decode cX12_known 10 = .ok (.getfield 91, 3) := by decide +kernel
theorem dX12_known_13 : decode cX12_known 13 = .ok (.iload_n 2, 1) := by decide +kernel
theorem dX12_known_14 : decode cX12_known 14 = .ok (.iconst (-1), 1) := by decide +kernel
theorem dX12_known_15 : decode cX12_known 15 = .ok (.iastore, 1) := by decide +kernel
theorem dX12_known_16 : decode cX12_known 16 = .ok (.iinc 2 1, 3) := by decide +kernel
theorem dX12_known_19 : decode cX12_known 19 = .ok (.goto (-17), 3) := by decide +kernel
theorem dX12_known_22 : decode cX12_known 22 = .ok (.iconst 0, 1) := by decide +kernel
theorem dX12_known_23 : decode cX12_known 23 = .ok (.istore_n 2, 1) := by decide +kernel
theorem dX12_known_24 : decode cX12_known 24 = .ok (.iload_n 2, 1) := by decide +kernel
theorem dX12_known_25 : decode cX12_known 25 = .ok (.aload_n 0, 1) := by decide +kernel
theorem dX12_known_26 : decode cX12_known 26 = .ok (.getfield 256, 3) := by decide +kernel
theorem dX12_known_29 : decode cX12_known 29 = .ok (.if_icmp .ge 93, 3) := by decide +kernel
theorem dX12_known_32 : decode cX12_known 32 = .ok (.aload_n 0, 1) := by decide +kernel
theorem dX12_known_33 : decode cX12_known 33 = .ok (.getfield 85, 3) := by decide +kernel
theorem dX12_known_36 : decode cX12_known 36 = .ok (.iload_n 2, 1) := by decide +kernel
theorem dX12_known_37 : decode cX12_known 37 = .ok (.iaload, 1) := by decide +kernel
theorem dX12_known_38 : decode cX12_known 38 = .ok (.iload_n 1, 1) := by decide +kernel
theorem dX12_known_39 : decode cX12_known 39 = .ok (.if_icmp .gt 77, 3) := by decide +kernel
theorem dX12_known_42 : decode cX12_known 42 = .ok (.aload_n 0, 1) := by decide +kernel
theorem dX12_known_43 : decode cX12_known 43 = .ok (.getfield 88, 3) := by decide +kernel
theorem dX12_known_46 : decode cX12_known 46 = .ok (.iload_n 2, 1) := by decide +kernel
theorem dX12_known_47 : decode cX12_known 47 = .ok (.iaload, 1) := by decide +kernel
theorem dX12_known_48 : decode cX12_known 48 = .ok (.ifCond .lt 16, 3) := by decide +kernel
theorem dX12_known_51 : decode cX12_known 51 = .ok (.aload_n 0, 1) := by decide +kernel
theorem dX12_known_52 : decode cX12_known 52 = .ok (.getfield 88, 3) := by decide +kernel
theorem dX12_known_55 : decode cX12_known 55 = .ok (.iload_n 2, 1) := by decide +kernel
theorem dX12_known_56 : decode cX12_known 56 = .ok (.iaload, 1) := by decide +kernel
theorem dX12_known_57 : decode cX12_known 57 = .ok (.iload_n 1, 1) := by decide +kernel
theorem dX12_known_58 : decode cX12_known 58 = .ok (.if_icmp .gt 6, 3) := by decide +kernel
theorem dX12_known_61 : decode cX12_known 61 = .ok (.goto 55, 3) := by decide +kernel
theorem dX12_known_64 : decode cX12_known 64 = .ok (.aload_n 0, 1) := by decide +kernel
theorem dX12_known_65 : decode cX12_known 65 = .ok (.getfield 79, 3) := by decide +kernel
theorem dX12_known_68 : decode cX12_known 68 = .ok (.iload_n 2, 1) := by decide +kernel
theorem dX12_known_69 : decode cX12_known 69 = .ok (.iaload, 1) := by decide +kernel
theorem dX12_known_70 : decode cX12_known 70 = .ok (.aload_n 0, 1) := by decide +kernel
theorem dX12_known_71 : decode cX12_known 71 = .ok (.getfield 76, 3) := by decide +kernel
theorem dX12_known_74 : decode cX12_known 74 = .ok (.iload_n 2, 1) := by decide +kernel
theorem dX12_known_75 : decode cX12_known 75 = .ok (.iaload, 1) := by decide +kernel
theorem dX12_known_76 : decode cX12_known 76 = .ok (.invokestatic 225, 3) := by decide +kernel
theorem dX12_known_79 : decode cX12_known 79 = .ok (.istore_n 3, 1) := by decide +kernel
theorem dX12_known_80 : decode cX12_known 80 = .ok (.aload_n 0, 1) := by decide +kernel
theorem dX12_known_81 : decode cX12_known 81 = .ok (.getfield 91, 3) := by decide +kernel
theorem dX12_known_84 : decode cX12_known 84 = .ok (.iload_n 3, 1) := by decide +kernel
theorem dX12_known_85 : decode cX12_known 85 = .ok (.iaload, 1) := by decide +kernel
theorem dX12_known_86 : decode cX12_known 86 = .ok (.ifCond .lt 23, 3) := by decide +kernel
theorem dX12_known_89 : decode cX12_known 89 = .ok (.aload_n 0, 1) := by decide +kernel
theorem dX12_known_90 : decode cX12_known 90 = .ok (.getfield 85, 3) := by decide +kernel
theorem dX12_known_93 : decode cX12_known 93 = .ok (.iload_n 2, 1) := by decide +kernel
theorem dX12_known_94 : decode cX12_known 94 = .ok (.iaload, 1) := by decide +kernel
theorem dX12_known_95 : decode cX12_known 95 = .ok (.aload_n 0, 1) := by decide +kernel
theorem dX12_known_96 : decode cX12_known 96 = .ok (.getfield 85, 3) := by decide +kernel
theorem dX12_known_99 : decode cX12_known 99 = .ok (.aload_n 0, 1) := by decide +kernel
theorem dX12_known_100 : decode cX12_known 100 = .ok (.getfield 91, 3) := by decide +kernel
theorem dX12_known_103 : decode cX12_known 103 = .ok (.iload_n 3, 1) := by decide +kernel
theorem dX12_known_104 : decode cX12_known 104 = .ok (.iaload, 1) := by decide +kernel
theorem dX12_known_105 : decode cX12_known 105 = .ok (.iaload, 1) := by decide +kernel
theorem dX12_known_106 : decode cX12_known 106 = .ok (.if_icmp .lt 10, 3) := by decide +kernel
theorem dX12_known_109 : decode cX12_known 109 = .ok (.aload_n 0, 1) := by decide +kernel
theorem dX12_known_110 : decode cX12_known 110 = .ok (.getfield 91, 3) := by decide +kernel
theorem dX12_known_113 : decode cX12_known 113 = .ok (.iload_n 3, 1) := by decide +kernel
theorem dX12_known_114 : decode cX12_known 114 = .ok (.iload_n 2, 1) := by decide +kernel
theorem dX12_known_115 : decode cX12_known 115 = .ok (.iastore, 1) := by decide +kernel
theorem dX12_known_116 : decode cX12_known 116 = .ok (.iinc 2 1, 3) := by decide +kernel
theorem dX12_known_119 : decode cX12_known 119 = .ok (.goto (-95), 3) := by decide +kernel
theorem dX12_known_122 : decode cX12_known 122 = .ok (.iconst 0, 1) := by decide +kernel
theorem dX12_known_123 : decode cX12_known 123 = .ok (.istore_n 2, 1) := by decide +kernel
theorem dX12_known_124 : decode cX12_known 124 = .ok (.iload_n 2, 1) := by decide +kernel
theorem dX12_known_125 : decode cX12_known 125 = .ok (.aload_n 0, 1) := by decide +kernel
theorem dX12_known_126 : decode cX12_known 126 = .ok (.getfield 208, 3) := by decide +kernel
theorem dX12_known_129 : decode cX12_known 129 = .ok (.if_icmp .ge 52, 3) := by decide +kernel
theorem dX12_known_132 : decode cX12_known 132 = .ok (.aload_n 0, 1) := by decide +kernel
theorem dX12_known_133 : decode cX12_known 133 = .ok (.getfield 94, 3) := by decide +kernel
theorem dX12_known_136 : decode cX12_known 136 = .ok (.iload_n 2, 1) := by decide +kernel
theorem dX12_known_137 : decode cX12_known 137 = .ok (.iconst (-1), 1) := by decide +kernel
theorem dX12_known_138 : decode cX12_known 138 = .ok (.iastore, 1) := by decide +kernel
theorem dX12_known_139 : decode cX12_known 139 = .ok (.iconst 0, 1) := by decide +kernel
theorem dX12_known_140 : decode cX12_known 140 = .ok (.istore_n 3, 1) := by decide +kernel
theorem dX12_known_141 : decode cX12_known 141 = .ok (.iload_n 3, 1) := by decide +kernel
theorem dX12_known_142 : decode cX12_known 142 = .ok (.aload_n 0, 1) := by decide +kernel
theorem dX12_known_143 : decode cX12_known 143 = .ok (.getfield 205, 3) := by decide +kernel
theorem dX12_known_146 : decode cX12_known 146 = .ok (.if_icmp .ge 29, 3) := by decide +kernel
theorem dX12_known_149 : decode cX12_known 149 = .ok (.aload_n 0, 1) := by decide +kernel
theorem dX12_known_150 : decode cX12_known 150 = .ok (.getfield 91, 3) := by decide +kernel
theorem dX12_known_153 : decode cX12_known 153 = .ok (.iload_n 3, 1) := by decide +kernel
theorem dX12_known_154 : decode cX12_known 154 = .ok (.iload_n 2, 1) := by decide +kernel
theorem dX12_known_155 : decode cX12_known 155 = .ok (.invokestatic 225, 3) := by decide +kernel
theorem dX12_known_158 : decode cX12_known 158 = .ok (.iaload, 1) := by decide +kernel
theorem dX12_known_159 : decode cX12_known 159 = .ok (.ifCond .lt 10, 3) := by decide +kernel
theorem dX12_known_162 : decode cX12_known 162 = .ok (.aload_n 0, 1) := by decide +kernel
theorem dX12_known_163 : decode cX12_known 163 = .ok (.getfield 94, 3) := by decide +kernel
theorem dX12_known_166 : decode cX12_known 166 = .ok (.iload_n 2, 1) := by decide +kernel
theorem dX12_known_167 : decode cX12_known 167 = .ok (.iload_n 2, 1) := by decide +kernel
theorem dX12_known_168 : decode cX12_known 168 = .ok (.iastore, 1) := by decide +kernel
theorem dX12_known_169 : decode cX12_known 169 = .ok (.iinc 3 1, 3) := by decide +kernel
theorem dX12_known_172 : decode cX12_known 172 = .ok (.goto (-31), 3) := by decide +kernel
theorem dX12_known_175 : decode cX12_known 175 = .ok (.iinc 2 1, 3) := by decide +kernel
theorem dX12_known_178 : decode cX12_known 178 = .ok (.goto (-54), 3) := by decide +kernel
theorem dX12_known_181 : decode cX12_known 181 = .ok (.iconst 1, 1) := by decide +kernel
theorem dX12_known_182 : decode cX12_known 182 = .ok (.istore_n 2, 1) := by decide +kernel
theorem dX12_known_183 : decode cX12_known 183 = .ok (.iload_n 2, 1) := by decide +kernel
theorem dX12_known_184 : decode cX12_known 184 = .ok (.ifCond .eq 132, 3) := by decide +kernel
theorem dX12_known_187 : decode cX12_known 187 = .ok (.iconst 0, 1) := by decide +kernel
theorem dX12_known_188 : decode cX12_known 188 = .ok (.istore_n 2, 1) := by decide +kernel
theorem dX12_known_189 : decode cX12_known 189 = .ok (.iconst 0, 1) := by decide +kernel
theorem dX12_known_190 : decode cX12_known 190 = .ok (.istore_n 3, 1) := by decide +kernel
theorem dX12_known_191 : decode cX12_known 191 = .ok (.iload_n 3, 1) := by decide +kernel
theorem dX12_known_192 : decode cX12_known 192 = .ok (.aload_n 0, 1) := by decide +kernel
theorem dX12_known_193 : decode cX12_known 193 = .ok (.getfield 205, 3) := by decide +kernel
theorem dX12_known_196 : decode cX12_known 196 = .ok (.if_icmp .ge 117, 3) := by decide +kernel
theorem dX12_known_199 : decode cX12_known 199 = .ok (.bipush 12, 2) := by decide +kernel
theorem dX12_known_201 : decode cX12_known 201 = .ok (.istore 4, 2) := by decide +kernel
theorem dX12_known_203 : decode cX12_known 203 = .ok (.iconst 0, 1) := by decide +kernel
theorem dX12_known_204 : decode cX12_known 204 = .ok (.istore 5, 2) := by decide +kernel
theorem dX12_known_206 : decode cX12_known 206 = .ok (.iload 5, 2) := by decide +kernel
theorem dX12_known_208 : decode cX12_known 208 = .ok (.aload_n 0, 1) := by decide +kernel
theorem dX12_known_209 : decode cX12_known 209 = .ok (.getfield 208, 3) := by decide +kernel
theorem dX12_known_212 : decode cX12_known 212 = .ok (.if_icmp .ge 37, 3) := by decide +kernel
theorem dX12_known_215 : decode cX12_known 215 = .ok (.aload_n 0, 1) := by decide +kernel
theorem dX12_known_216 : decode cX12_known 216 = .ok (.getfield 91, 3) := by decide +kernel
theorem dX12_known_219 : decode cX12_known 219 = .ok (.iload_n 3, 1) := by decide +kernel
theorem dX12_known_220 : decode cX12_known 220 = .ok (.iload 5, 2) := by decide +kernel
theorem dX12_known_222 : decode cX12_known 222 = .ok (.invokestatic 225, 3) := by decide +kernel
theorem dX12_known_225 : decode cX12_known 225 = .ok (.iaload, 1) := by decide +kernel
theorem dX12_known_226 : decode cX12_known 226 = .ok (.ifCond .lt 17, 3) := by decide +kernel
theorem dX12_known_229 : decode cX12_known 229 = .ok (.iload 4, 2) := by decide +kernel
theorem dX12_known_231 : decode cX12_known 231 = .ok (.aload_n 0, 1) := by decide +kernel
theorem dX12_known_232 : decode cX12_known 232 = .ok (.getfield 94, 3) := by decide +kernel
theorem dX12_known_235 : decode cX12_known 235 = .ok (.iload 5, 2) := by decide +kernel
theorem dX12_known_237 : decode cX12_known 237 = .ok (.iaload, 1) := by decide +kernel
theorem dX12_known_238 : decode cX12_known 238 = .ok (.invokestatic 259, 3) := by decide +kernel
theorem dX12_known_241 : decode cX12_known 241 = .ok (.istore 4, 2) := by decide +kernel
theorem dX12_known_243 : decode cX12_known 243 = .ok (.iinc 5 1, 3) := by decide +kernel
theorem dX12_known_246 : decode cX12_known 246 = .ok (.goto (-40), 3) := by decide +kernel
theorem dX12_known_249 : decode cX12_known 249 = .ok (.iconst 0, 1) := by decide +kernel
theorem dX12_known_250 : decode cX12_known 250 = .ok (.istore 5, 2) := by decide +kernel
theorem dX12_known_252 : decode cX12_known 252 = .ok (.iload 5, 2) := by decide +kernel
theorem dX12_known_254 : decode cX12_known 254 = .ok (.aload_n 0, 1) := by decide +kernel
theorem dX12_known_255 : decode cX12_known 255 = .ok (.getfield 208, 3) := by decide +kernel
theorem dX12_known_258 : decode cX12_known 258 = .ok (.if_icmp .ge 49, 3) := by decide +kernel
theorem dX12_known_261 : decode cX12_known 261 = .ok (.aload_n 0, 1) := by decide +kernel
theorem dX12_known_262 : decode cX12_known 262 = .ok (.getfield 91, 3) := by decide +kernel
theorem dX12_known_265 : decode cX12_known 265 = .ok (.iload_n 3, 1) := by decide +kernel
theorem dX12_known_266 : decode cX12_known 266 = .ok (.iload 5, 2) := by decide +kernel
theorem dX12_known_268 : decode cX12_known 268 = .ok (.invokestatic 225, 3) := by decide +kernel
theorem dX12_known_271 : decode cX12_known 271 = .ok (.iaload, 1) := by decide +kernel
theorem dX12_known_272 : decode cX12_known 272 = .ok (.ifCond .lt 29, 3) := by decide +kernel
theorem dX12_known_275 : decode cX12_known 275 = .ok (.aload_n 0, 1) := by decide +kernel
theorem dX12_known_276 : decode cX12_known 276 = .ok (.getfield 94, 3) := by decide +kernel
theorem dX12_known_279 : decode cX12_known 279 = .ok (.iload 5, 2) := by decide +kernel
theorem dX12_known_281 : decode cX12_known 281 = .ok (.iaload, 1) := by decide +kernel
theorem dX12_known_282 : decode cX12_known 282 = .ok (.iload 4, 2) := by decide +kernel
theorem dX12_known_284 : decode cX12_known 284 = .ok (.if_icmp .ne 6, 3) := by decide +kernel
theorem dX12_known_287 : decode cX12_known 287 = .ok (.goto 14, 3) := by decide +kernel
theorem dX12_known_290 : decode cX12_known 290 = .ok (.aload_n 0, 1) := by decide +kernel
theorem dX12_known_291 : decode cX12_known 291 = .ok (.getfield 94, 3) := by decide +kernel
theorem dX12_known_294 : decode cX12_known 294 = .ok (.iload 5, 2) := by decide +kernel
theorem dX12_known_296 : decode cX12_known 296 = .ok (.iload 4, 2) := by decide +kernel
theorem dX12_known_298 : decode cX12_known 298 = .ok (.iastore, 1) := by decide +kernel
theorem dX12_known_299 : decode cX12_known 299 = .ok (.iconst 1, 1) := by decide +kernel
theorem dX12_known_300 : decode cX12_known 300 = .ok (.istore_n 2, 1) := by decide +kernel
theorem dX12_known_301 : decode cX12_known 301 = .ok (.iinc 5 1, 3) := by decide +kernel
theorem dX12_known_304 : decode cX12_known 304 = .ok (.goto (-52), 3) := by decide +kernel
theorem dX12_known_307 : decode cX12_known 307 = .ok (.iinc 3 1, 3) := by decide +kernel
theorem dX12_known_310 : decode cX12_known 310 = .ok (.goto (-119), 3) := by decide +kernel
theorem dX12_known_313 : decode cX12_known 313 = .ok (.goto (-130), 3) := by decide +kernel
theorem dX12_known_316 : decode cX12_known 316 = .ok (.return_, 1) := by decide +kernel
theorem dX12_countOf_0 : decode cX12_countOf 0 = .ok (.iconst 0, 1) := by decide +kernel
theorem dX12_countOf_1 : decode cX12_countOf 1 = .ok (.istore_n 2, 1) := by decide +kernel
theorem dX12_countOf_2 : decode cX12_countOf 2 = .ok (.iconst 0, 1) := by decide +kernel
theorem dX12_countOf_3 : decode cX12_countOf 3 = .ok (.istore_n 3, 1) := by decide +kernel
theorem dX12_countOf_4 : decode cX12_countOf 4 = .ok (.iload_n 3, 1) := by decide +kernel
theorem dX12_countOf_5 : decode cX12_countOf 5 = .ok (.aload_n 0, 1) := by decide +kernel
theorem dX12_countOf_6 : decode cX12_countOf 6 = .ok (.getfield 208, 3) := by decide +kernel
theorem dX12_countOf_9 : decode cX12_countOf 9 = .ok (.if_icmp .ge 30, 3) := by decide +kernel
theorem dX12_countOf_12 : decode cX12_countOf 12 = .ok (.iload_n 2, 1) := by decide +kernel
theorem dX12_countOf_13 : decode cX12_countOf 13 = .ok (.aload_n 0, 1) := by decide +kernel
theorem dX12_countOf_14 : decode cX12_countOf 14 = .ok (.getfield 91, 3) := by decide +kernel
theorem dX12_countOf_17 : decode cX12_countOf 17 = .ok (.iload_n 1, 1) := by decide +kernel
theorem dX12_countOf_18 : decode cX12_countOf 18 = .ok (.iload_n 3, 1) := by decide +kernel
theorem dX12_countOf_19 : decode cX12_countOf 19 = .ok (.invokestatic 225, 3) := by decide +kernel
theorem dX12_countOf_22 : decode cX12_countOf 22 = .ok (.iaload, 1) := by decide +kernel
theorem dX12_countOf_23 : decode cX12_countOf 23 = .ok (.ifCond .lt 7, 3) := by decide +kernel
theorem dX12_countOf_26 : decode cX12_countOf 26 = .ok (.iconst 1, 1) := by decide +kernel
theorem dX12_countOf_27 : decode cX12_countOf 27 = .ok (.goto 4, 3) := by decide +kernel
theorem dX12_countOf_30 : decode cX12_countOf 30 = .ok (.iconst 0, 1) := by decide +kernel
theorem dX12_countOf_31 : decode cX12_countOf 31 = .ok (.iadd, 1) := by decide +kernel
theorem dX12_countOf_32 : decode cX12_countOf 32 = .ok (.istore_n 2, 1) := by decide +kernel
theorem dX12_countOf_33 : decode cX12_countOf 33 = .ok (.iinc 3 1, 3) := by decide +kernel
theorem dX12_countOf_36 : decode cX12_countOf 36 = .ok (.goto (-32), 3) := by decide +kernel
theorem dX12_countOf_39 : decode cX12_countOf 39 = .ok (.iload_n 2, 1) := by decide +kernel
theorem dX12_countOf_40 : decode cX12_countOf 40 = .ok (.ireturn, 1) := by decide +kernel
theorem dX12_seen_0 : decode cX12_seen 0 = .ok (.aload_n 0, 1) := by decide +kernel
theorem dX12_seen_1 : decode cX12_seen 1 = .ok (.iconst 0, 1) := by decide +kernel
theorem dX12_seen_2 : decode cX12_seen 2 = .ok (.putfield 195, 3) := by decide +kernel
theorem dX12_seen_5 : decode cX12_seen 5 = .ok (.aload_n 0, 1) := by decide +kernel
theorem dX12_seen_6 : decode cX12_seen 6 = .ok (.iconst 0, 1) := by decide +kernel
theorem dX12_seen_7 : decode cX12_seen 7 = .ok (.putfield 198, 3) := by decide +kernel
theorem dX12_seen_10 : decode cX12_seen 10 = .ok (.aload_n 0, 1) := by decide +kernel
theorem dX12_seen_11 : decode cX12_seen 11 = .ok (.iload_n 1, 1) := by decide +kernel
theorem dX12_seen_12 : decode cX12_seen 12 = .ok (.invokevirtual 211, 3) := by decide +kernel
theorem dX12_seen_15 : decode cX12_seen 15 = .ok (.ifCond .ne 9, 3) := by decide +kernel
theorem dX12_seen_18 : decode cX12_seen 18 = .ok (.aload_n 0, 1) := by decide +kernel
theorem dX12_seen_19 : decode cX12_seen 19 = .ok (.iconst 1, 1) := by decide +kernel
theorem dX12_seen_20 : decode cX12_seen 20 = .ok (.invokevirtual 201, 3) := by decide +kernel
theorem dX12_seen_23 : decode cX12_seen 23 = .ok (.ireturn, 1) := by decide +kernel
theorem dX12_seen_24 : decode cX12_seen 24 = .ok (.iload_n 2, 1) := by decide +kernel
theorem dX12_seen_25 : decode cX12_seen 25 = .ok (.invokestatic 253, 3) := by decide +kernel
theorem dX12_seen_28 : decode cX12_seen 28 = .ok (.ifCond .ne 9, 3) := by decide +kernel
theorem dX12_seen_31 : decode cX12_seen 31 = .ok (.aload_n 0, 1) := by decide +kernel
theorem dX12_seen_32 : decode cX12_seen 32 = .ok (.iconst 2, 1) := by decide +kernel
theorem dX12_seen_33 : decode cX12_seen 33 = .ok (.invokevirtual 201, 3) := by decide +kernel
theorem dX12_seen_36 : decode cX12_seen 36 = .ok (.ireturn, 1) := by decide +kernel
theorem dX12_seen_37 : decode cX12_seen 37 = .ok (.aload_n 0, 1) := by decide +kernel
theorem dX12_seen_38 : decode cX12_seen 38 = .ok (.iload_n 2, 1) := by decide +kernel
theorem dX12_seen_39 : decode cX12_seen 39 = .ok (.invokevirtual 264, 3) := by decide +kernel
theorem dX12_seen_42 : decode cX12_seen 42 = .ok (.aload_n 0, 1) := by decide +kernel
theorem dX12_seen_43 : decode cX12_seen 43 = .ok (.iload_n 1, 1) := by decide +kernel
theorem dX12_seen_44 : decode cX12_seen 44 = .ok (.invokevirtual 267, 3) := by decide +kernel
theorem dX12_seen_47 : decode cX12_seen 47 = .ok (.ireturn, 1) := by decide +kernel
theorem dX12_heap_0 : decode cX12_heap 0 = .ok (.aload_n 0, 1) := by decide +kernel
theorem dX12_heap_1 : decode cX12_heap 1 = .ok (.iconst 0, 1) := by decide +kernel
theorem dX12_heap_2 : decode cX12_heap 2 = .ok (.putfield 195, 3) := by decide +kernel
theorem dX12_heap_5 : decode cX12_heap 5 = .ok (.aload_n 0, 1) := by decide +kernel
theorem dX12_heap_6 : decode cX12_heap 6 = .ok (.iconst 0, 1) := by decide +kernel
theorem dX12_heap_7 : decode cX12_heap 7 = .ok (.putfield 198, 3) := by decide +kernel
theorem dX12_heap_10 : decode cX12_heap 10 = .ok (.aload_n 0, 1) := by decide +kernel
theorem dX12_heap_11 : decode cX12_heap 11 = .ok (.iload_n 1, 1) := by decide +kernel
theorem dX12_heap_12 : decode cX12_heap 12 = .ok (.invokevirtual 219, 3) := by decide +kernel
theorem dX12_heap_15 : decode cX12_heap 15 = .ok (.ifCond .ne 9, 3) := by decide +kernel
theorem dX12_heap_18 : decode cX12_heap 18 = .ok (.aload_n 0, 1) := by decide +kernel
theorem dX12_heap_19 : decode cX12_heap 19 = .ok (.iconst 1, 1) := by decide +kernel
theorem dX12_heap_20 : decode cX12_heap 20 = .ok (.invokevirtual 201, 3) := by decide +kernel
theorem dX12_heap_23 : decode cX12_heap 23 = .ok (.ireturn, 1) := by decide +kernel
theorem dX12_heap_24 : decode cX12_heap 24 = .ok (.iload_n 2, 1) := by decide +kernel
theorem dX12_heap_25 : decode cX12_heap 25 = .ok (.invokestatic 253, 3) := by decide +kernel
theorem dX12_heap_28 : decode cX12_heap 28 = .ok (.ifCond .ne 9, 3) := by decide +kernel
theorem dX12_heap_31 : decode cX12_heap 31 = .ok (.aload_n 0, 1) := by decide +kernel
theorem dX12_heap_32 : decode cX12_heap 32 = .ok (.iconst 2, 1) := by decide +kernel
theorem dX12_heap_33 : decode cX12_heap 33 = .ok (.invokevirtual 201, 3) := by decide +kernel
theorem dX12_heap_36 : decode cX12_heap 36 = .ok (.ireturn, 1) := by decide +kernel
theorem dX12_heap_37 : decode cX12_heap 37 = .ok (.aload_n 0, 1) := by decide +kernel
theorem dX12_heap_38 : decode cX12_heap 38 = .ok (.iload_n 2, 1) := by decide +kernel
theorem dX12_heap_39 : decode cX12_heap 39 = .ok (.invokevirtual 264, 3) := by decide +kernel
theorem dX12_heap_42 : decode cX12_heap 42 = .ok (.aload_n 0, 1) := by decide +kernel
theorem dX12_heap_43 : decode cX12_heap 43 = .ok (.getfield 94, 3) := by decide +kernel
theorem dX12_heap_46 : decode cX12_heap 46 = .ok (.iload_n 1, 1) := by decide +kernel
theorem dX12_heap_47 : decode cX12_heap 47 = .ok (.iaload, 1) := by decide +kernel
theorem dX12_heap_48 : decode cX12_heap 48 = .ok (.ifCond .ge 12, 3) := by decide +kernel
theorem dX12_heap_51 : decode cX12_heap 51 = .ok (.aload_n 0, 1) := by decide +kernel
theorem dX12_heap_52 : decode cX12_heap 52 = .ok (.bipush 6, 2) := by decide +kernel
theorem dX12_heap_54 : decode cX12_heap 54 = .ok (.invokevirtual 201, 3) := by decide +kernel
theorem dX12_heap_57 : decode cX12_heap 57 = .ok (.goto 9, 3) := by decide +kernel
theorem dX12_heap_60 : decode cX12_heap 60 = .ok (.aload_n 0, 1) := by decide +kernel
theorem dX12_heap_61 : decode cX12_heap 61 = .ok (.getfield 94, 3) := by decide +kernel
theorem dX12_heap_64 : decode cX12_heap 64 = .ok (.iload_n 1, 1) := by decide +kernel
theorem dX12_heap_65 : decode cX12_heap 65 = .ok (.iaload, 1) := by decide +kernel
theorem dX12_heap_66 : decode cX12_heap 66 = .ok (.ireturn, 1) := by decide +kernel
theorem dX12_sizeOf_0 : decode cX12_sizeOf 0 = .ok (.iconst 0, 1) := by decide +kernel
theorem dX12_sizeOf_1 : decode cX12_sizeOf 1 = .ok (.istore_n 2, 1) := by decide +kernel
theorem dX12_sizeOf_2 : decode cX12_sizeOf 2 = .ok (.iconst 0, 1) := by decide +kernel
theorem dX12_sizeOf_3 : decode cX12_sizeOf 3 = .ok (.istore_n 3, 1) := by decide +kernel
theorem dX12_sizeOf_4 : decode cX12_sizeOf 4 = .ok (.iload_n 3, 1) := by decide +kernel
theorem dX12_sizeOf_5 : decode cX12_sizeOf 5 = .ok (.aload_n 0, 1) := by decide +kernel
theorem dX12_sizeOf_6 : decode cX12_sizeOf 6 = .ok (.getfield 208, 3) := by decide +kernel
theorem dX12_sizeOf_9 : decode cX12_sizeOf 9 = .ok (.if_icmp .ge 27, 3) := by decide +kernel
theorem dX12_sizeOf_12 : decode cX12_sizeOf 12 = .ok (.iload_n 2, 1) := by decide +kernel
theorem dX12_sizeOf_13 : decode cX12_sizeOf 13 = .ok (.aload_n 0, 1) := by decide +kernel
theorem dX12_sizeOf_14 : decode cX12_sizeOf 14 = .ok (.getfield 94, 3) := by decide +kernel
theorem dX12_sizeOf_17 : decode cX12_sizeOf 17 = .ok (.iload_n 3, 1) := by decide +kernel
theorem dX12_sizeOf_18 : decode cX12_sizeOf 18 = .ok (.iaload, 1) := by decide +kernel
theorem dX12_sizeOf_19 : decode cX12_sizeOf 19 = .ok (.iload_n 1, 1) := by decide +kernel
theorem dX12_sizeOf_20 : decode cX12_sizeOf 20 = .ok (.if_icmp .ne 7, 3) := by decide +kernel
theorem dX12_sizeOf_23 : decode cX12_sizeOf 23 = .ok (.iconst 1, 1) := by decide +kernel
theorem dX12_sizeOf_24 : decode cX12_sizeOf 24 = .ok (.goto 4, 3) := by decide +kernel
theorem dX12_sizeOf_27 : decode cX12_sizeOf 27 = .ok (.iconst 0, 1) := by decide +kernel
theorem dX12_sizeOf_28 : decode cX12_sizeOf 28 = .ok (.iadd, 1) := by decide +kernel
theorem dX12_sizeOf_29 : decode cX12_sizeOf 29 = .ok (.istore_n 2, 1) := by decide +kernel
theorem dX12_sizeOf_30 : decode cX12_sizeOf 30 = .ok (.iinc 3 1, 3) := by decide +kernel
theorem dX12_sizeOf_33 : decode cX12_sizeOf 33 = .ok (.goto (-29), 3) := by decide +kernel
theorem dX12_sizeOf_36 : decode cX12_sizeOf 36 = .ok (.iload_n 2, 1) := by decide +kernel
theorem dX12_sizeOf_37 : decode cX12_sizeOf 37 = .ok (.ireturn, 1) := by decide +kernel
theorem dX12_square_0 : decode cX12_square 0 = .ok (.aload_n 0, 1) := by decide +kernel
theorem dX12_square_1 : decode cX12_square 1 = .ok (.getfield 270, 3) := by decide +kernel
theorem dX12_square_4 : decode cX12_square 4 = .ok (.istore_n 2, 1) := by decide +kernel
theorem dX12_square_5 : decode cX12_square 5 = .ok (.lconst 0, 1) := by decide +kernel
theorem dX12_square_6 : decode cX12_square 6 = .ok (.lstore_n 3, 1) := by decide +kernel
theorem dX12_square_7 : decode cX12_square 7 = .ok (.iconst 1, 1) := by decide +kernel
theorem dX12_square_8 : decode cX12_square 8 = .ok (.istore 5, 2) := by decide +kernel
theorem dX12_square_10 : decode cX12_square 10 = .ok (.iconst 0, 1) := by decide +kernel
theorem dX12_square_11 : decode cX12_square 11 = .ok (.istore 6, 2) := by decide +kernel
theorem dX12_square_13 : decode cX12_square 13 = .ok (.iload 6, 2) := by decide +kernel
theorem dX12_square_15 : decode cX12_square 15 = .ok (.iload_n 2, 1) := by decide +kernel
theorem dX12_square_16 : decode cX12_square 16 = .ok (.if_icmp .ge 15, 3) := by decide +kernel
theorem dX12_square_19 : decode cX12_square 19 = .ok (.iload 5, 2) := by decide +kernel
theorem dX12_square_21 : decode cX12_square 21 = .ok (.iload_n 2, 1) := by decide +kernel
theorem dX12_square_22 : decode cX12_square 22 = .ok (.imul, 1) := by decide +kernel
theorem dX12_square_23 : decode cX12_square 23 = .ok (.istore 5, 2) := by decide +kernel
theorem dX12_square_25 : decode cX12_square 25 = .ok (.iinc 6 1, 3) := by decide +kernel
theorem dX12_square_28 : decode cX12_square 28 = .ok (.goto (-15), 3) := by decide +kernel
theorem dX12_square_31 : decode cX12_square 31 = .ok (.iconst 0, 1) := by decide +kernel
theorem dX12_square_32 : decode cX12_square 32 = .ok (.istore 6, 2) := by decide +kernel
theorem dX12_square_34 : decode cX12_square 34 = .ok (.iload 6, 2) := by decide +kernel
theorem dX12_square_36 : decode cX12_square 36 = .ok (.iload 5, 2) := by decide +kernel
theorem dX12_square_38 : decode cX12_square 38 = .ok (.if_icmp .ge 192, 3) := by decide +kernel
theorem dX12_square_41 : decode cX12_square 41 = .ok (.iload 6, 2) := by decide +kernel
theorem dX12_square_43 : decode cX12_square 43 = .ok (.istore 7, 2) := by decide +kernel
theorem dX12_square_45 : decode cX12_square 45 = .ok (.iconst 0, 1) := by decide +kernel
theorem dX12_square_46 : decode cX12_square 46 = .ok (.istore 8, 2) := by decide +kernel
theorem dX12_square_48 : decode cX12_square 48 = .ok (.iconst 0, 1) := by decide +kernel
theorem dX12_square_49 : decode cX12_square 49 = .ok (.istore 9, 2) := by decide +kernel
theorem dX12_square_51 : decode cX12_square 51 = .ok (.iconst 0, 1) := by decide +kernel
theorem dX12_square_52 : decode cX12_square 52 = .ok (.istore 10, 2) := by decide +kernel
theorem dX12_square_54 : decode cX12_square 54 = .ok (.iload 10, 2) := by decide +kernel
theorem dX12_square_56 : decode cX12_square 56 = .ok (.iload_n 2, 1) := by decide +kernel
theorem dX12_square_57 : decode cX12_square 57 = .ok (.if_icmp .ge 75, 3) := by decide +kernel
theorem dX12_square_60 : decode cX12_square 60 = .ok (.aload_n 0, 1) := by decide +kernel
theorem dX12_square_61 : decode cX12_square 61 = .ok (.getfield 100, 3) := by decide +kernel
theorem dX12_square_64 : decode cX12_square 64 = .ok (.iload 10, 2) := by decide +kernel
theorem dX12_square_66 : decode cX12_square 66 = .ok (.iload 7, 2) := by decide +kernel
theorem dX12_square_68 : decode cX12_square 68 = .ok (.iload_n 2, 1) := by decide +kernel
theorem dX12_square_69 : decode cX12_square 69 = .ok (.irem, 1) := by decide +kernel
theorem dX12_square_70 : decode cX12_square 70 = .ok (.iastore, 1) := by decide +kernel
theorem dX12_square_71 : decode cX12_square 71 = .ok (.iload 7, 2) := by decide +kernel
theorem dX12_square_73 : decode cX12_square 73 = .ok (.iload_n 2, 1) := by decide +kernel
theorem dX12_square_74 : decode cX12_square 74 = .ok (.idiv, 1) := by decide +kernel
theorem dX12_square_75 : decode cX12_square 75 = .ok (.istore 7, 2) := by decide +kernel
theorem dX12_square_77 : decode cX12_square 77 = .ok (.aload_n 0, 1) := by decide +kernel
theorem dX12_square_78 : decode cX12_square 78 = .ok (.getfield 100, 3) := by decide +kernel
theorem dX12_square_81 : decode cX12_square 81 = .ok (.iload 10, 2) := by decide +kernel
theorem dX12_square_83 : decode cX12_square 83 = .ok (.iaload, 1) := by decide +kernel
theorem dX12_square_84 : decode cX12_square 84 = .ok (.iconst 1, 1) := by decide +kernel
theorem dX12_square_85 : decode cX12_square 85 = .ok (.iadd, 1) := by decide +kernel
theorem dX12_square_86 : decode cX12_square 86 = .ok (.istore 11, 2) := by decide +kernel
theorem dX12_square_88 : decode cX12_square 88 = .ok (.iload 11, 2) := by decide +kernel
theorem dX12_square_90 : decode cX12_square 90 = .ok (.iload_n 2, 1) := by decide +kernel
theorem dX12_square_91 : decode cX12_square 91 = .ok (.if_icmp .ge 21, 3) := by decide +kernel
theorem dX12_square_94 : decode cX12_square 94 = .ok (.iload 9, 2) := by decide +kernel
theorem dX12_square_96 : decode cX12_square 96 = .ok (.iload 8, 2) := by decide +kernel
theorem dX12_square_98 : decode cX12_square 98 = .ok (.iload 11, 2) := by decide +kernel
theorem dX12_square_100 : decode cX12_square 100 = .ok (.ishr, 1) := by decide +kernel
theorem dX12_square_101 : decode cX12_square 101 = .ok (.iconst 1, 1) := by decide +kernel
theorem dX12_square_102 : decode cX12_square 102 = .ok (.iand, 1) := by decide +kernel
theorem dX12_square_103 : decode cX12_square 103 = .ok (.iadd, 1) := by decide +kernel
theorem dX12_square_104 : decode cX12_square 104 = .ok (.istore 9, 2) := by decide +kernel
theorem dX12_square_106 : decode cX12_square 106 = .ok (.iinc 11 1, 3) := by decide +kernel
theorem dX12_square_109 : decode cX12_square 109 = .ok (.goto (-21), 3) := by decide +kernel
theorem dX12_square_112 : decode cX12_square 112 = .ok (.iload 8, 2) := by decide +kernel
theorem dX12_square_114 : decode cX12_square 114 = .ok (.iconst 1, 1) := by decide +kernel
theorem dX12_square_115 : decode cX12_square 115 = .ok (.aload_n 0, 1) := by decide +kernel
theorem dX12_square_116 : decode cX12_square 116 = .ok (.getfield 100, 3) := by decide +kernel
theorem dX12_square_119 : decode cX12_square 119 = .ok (.iload 10, 2) := by decide +kernel
theorem dX12_square_121 : decode cX12_square 121 = .ok (.iaload, 1) := by decide +kernel
theorem dX12_square_122 : decode cX12_square 122 = .ok (.ishl, 1) := by decide +kernel
theorem dX12_square_123 : decode cX12_square 123 = .ok (.ior, 1) := by decide +kernel
theorem dX12_square_124 : decode cX12_square 124 = .ok (.istore 8, 2) := by decide +kernel
theorem dX12_square_126 : decode cX12_square 126 = .ok (.iinc 10 1, 3) := by decide +kernel
theorem dX12_square_129 : decode cX12_square 129 = .ok (.goto (-75), 3) := by decide +kernel
theorem dX12_square_132 : decode cX12_square 132 = .ok (.iload 8, 2) := by decide +kernel
theorem dX12_square_134 : decode cX12_square 134 = .ok (.iconst 1, 1) := by decide +kernel
theorem dX12_square_135 : decode cX12_square 135 = .ok (.iload_n 2, 1) := by decide +kernel
theorem dX12_square_136 : decode cX12_square 136 = .ok (.ishl, 1) := by decide +kernel
theorem dX12_square_137 : decode cX12_square 137 = .ok (.iconst 1, 1) := by decide +kernel
theorem dX12_square_138 : decode cX12_square 138 = .ok (.isub, 1) := by decide +kernel
theorem dX12_square_139 : decode cX12_square 139 = .ok (.if_icmp .eq 6, 3) := by decide +kernel
theorem dX12_square_142 : decode cX12_square 142 = .ok (.goto 82, 3) := by decide +kernel
theorem dX12_square_145 : decode cX12_square 145 = .ok (.iload 9, 2) := by decide +kernel
theorem dX12_square_147 : decode cX12_square 147 = .ok (.iconst 2, 1) := by decide +kernel
theorem dX12_square_148 : decode cX12_square 148 = .ok (.irem, 1) := by decide +kernel
theorem dX12_square_149 : decode cX12_square 149 = .ok (.ifCond .ne 7, 3) := by decide +kernel
theorem dX12_square_152 : decode cX12_square 152 = .ok (.lconst 1, 1) := by decide +kernel
theorem dX12_square_153 : decode cX12_square 153 = .ok (.goto 6, 3) := by decide +kernel
theorem dX12_square_156 : decode cX12_square 156 = .ok (.ldc2_w 273, 3) := by decide +kernel
theorem dX12_square_159 : decode cX12_square 159 = .ok (.lstore 10, 2) := by decide +kernel
theorem dX12_square_161 : decode cX12_square 161 = .ok (.iconst 0, 1) := by decide +kernel
theorem dX12_square_162 : decode cX12_square 162 = .ok (.istore 12, 2) := by decide +kernel
theorem dX12_square_164 : decode cX12_square 164 = .ok (.iload 12, 2) := by decide +kernel
theorem dX12_square_166 : decode cX12_square 166 = .ok (.iload_n 2, 1) := by decide +kernel
theorem dX12_square_167 : decode cX12_square 167 = .ok (.if_icmp .ge 52, 3) := by decide +kernel
theorem dX12_square_170 : decode cX12_square 170 = .ok (.lload 10, 2) := by decide +kernel
theorem dX12_square_172 : decode cX12_square 172 = .ok (.aload_n 0, 1) := by decide +kernel
theorem dX12_square_173 : decode cX12_square 173 = .ok (.getfield 100, 3) := by decide +kernel
theorem dX12_square_176 : decode cX12_square 176 = .ok (.iload 12, 2) := by decide +kernel
theorem dX12_square_178 : decode cX12_square 178 = .ok (.iaload, 1) := by decide +kernel
theorem dX12_square_179 : decode cX12_square 179 = .ok (.iload_n 1, 1) := by decide +kernel
theorem dX12_square_180 : decode cX12_square 180 = .ok (.if_icmp .ne 13, 3) := by decide +kernel
theorem dX12_square_183 : decode cX12_square 183 = .ok (.aload_n 0, 1) := by decide +kernel
theorem dX12_square_184 : decode cX12_square 184 = .ok (.getfield 107, 3) := by decide +kernel
theorem dX12_square_187 : decode cX12_square 187 = .ok (.iload 12, 2) := by decide +kernel
theorem dX12_square_189 : decode cX12_square 189 = .ok (.laload, 1) := by decide +kernel
theorem dX12_square_190 : decode cX12_square 190 = .ok (.goto 20, 3) := by decide +kernel
theorem dX12_square_193 : decode cX12_square 193 = .ok (.aload_n 0, 1) := by decide +kernel
theorem dX12_square_194 : decode cX12_square 194 = .ok (.getfield 103, 3) := by decide +kernel
theorem dX12_square_197 : decode cX12_square 197 = .ok (.iconst 5, 1) := by decide +kernel
theorem dX12_square_198 : decode cX12_square 198 = .ok (.iload 12, 2) := by decide +kernel
theorem dX12_square_200 : decode cX12_square 200 = .ok (.imul, 1) := by decide +kernel
theorem dX12_square_201 : decode cX12_square 201 = .ok (.aload_n 0, 1) := by decide +kernel
theorem dX12_square_202 : decode cX12_square 202 = .ok (.getfield 100, 3) := by decide +kernel
theorem dX12_square_205 : decode cX12_square 205 = .ok (.iload 12, 2) := by decide +kernel
theorem dX12_square_207 : decode cX12_square 207 = .ok (.iaload, 1) := by decide +kernel
theorem dX12_square_208 : decode cX12_square 208 = .ok (.iadd, 1) := by decide +kernel
theorem dX12_square_209 : decode cX12_square 209 = .ok (.laload, 1) := by decide +kernel
theorem dX12_square_210 : decode cX12_square 210 = .ok (.lmul, 1) := by decide +kernel
theorem dX12_square_211 : decode cX12_square 211 = .ok (.lstore 10, 2) := by decide +kernel
theorem dX12_square_213 : decode cX12_square 213 = .ok (.iinc 12 1, 3) := by decide +kernel
theorem dX12_square_216 : decode cX12_square 216 = .ok (.goto (-52), 3) := by decide +kernel
theorem dX12_square_219 : decode cX12_square 219 = .ok (.lload_n 3, 1) := by decide +kernel
theorem dX12_square_220 : decode cX12_square 220 = .ok (.lload 10, 2) := by decide +kernel
theorem dX12_square_222 : decode cX12_square 222 = .ok (.ladd, 1) := by decide +kernel
theorem dX12_square_223 : decode cX12_square 223 = .ok (.lstore_n 3, 1) := by decide +kernel
theorem dX12_square_224 : decode cX12_square 224 = .ok (.iinc 6 1, 3) := by decide +kernel
theorem dX12_square_227 : decode cX12_square 227 = .ok (.goto (-193), 3) := by decide +kernel
theorem dX12_square_230 : decode cX12_square 230 = .ok (.lload_n 3, 1) := by decide +kernel
theorem dX12_square_231 : decode cX12_square 231 = .ok (.lreturn, 1) := by decide +kernel
theorem dX12_solve_0 : decode cX12_solve 0 = .ok (.aload_n 0, 1) := by decide +kernel
theorem dX12_solve_1 : decode cX12_solve 1 = .ok (.iconst 0, 1) := by decide +kernel
theorem dX12_solve_2 : decode cX12_solve 2 = .ok (.putfield 270, 3) := by decide +kernel
theorem dX12_solve_5 : decode cX12_solve 5 = .ok (.iconst 0, 1) := by decide +kernel
theorem dX12_solve_6 : decode cX12_solve 6 = .ok (.istore_n 2, 1) := by decide +kernel
theorem dX12_solve_7 : decode cX12_solve 7 = .ok (.iload_n 2, 1) := by decide +kernel
theorem dX12_solve_8 : decode cX12_solve 8 = .ok (.aload_n 0, 1) := by decide +kernel
theorem dX12_solve_9 : decode cX12_solve 9 = .ok (.getfield 208, 3) := by decide +kernel
theorem dX12_solve_12 : decode cX12_solve 12 = .ok (.if_icmp .ge 42, 3) := by decide +kernel
theorem dX12_solve_15 : decode cX12_solve 15 = .ok (.aload_n 0, 1) := by decide +kernel
theorem dX12_solve_16 : decode cX12_solve 16 = .ok (.getfield 94, 3) := by decide +kernel
theorem dX12_solve_19 : decode cX12_solve 19 = .ok (.iload_n 2, 1) := by decide +kernel
theorem dX12_solve_20 : decode cX12_solve 20 = .ok (.iaload, 1) := by decide +kernel
theorem dX12_solve_21 : decode cX12_solve 21 = .ok (.iload_n 1, 1) := by decide +kernel
theorem dX12_solve_22 : decode cX12_solve 22 = .ok (.if_icmp .eq 6, 3) := by decide +kernel
theorem dX12_solve_25 : decode cX12_solve 25 = .ok (.goto 23, 3) := by decide +kernel
theorem dX12_solve_28 : decode cX12_solve 28 = .ok (.aload_n 0, 1) := by decide +kernel
theorem dX12_solve_29 : decode cX12_solve 29 = .ok (.getfield 97, 3) := by decide +kernel
theorem dX12_solve_32 : decode cX12_solve 32 = .ok (.aload_n 0, 1) := by decide +kernel
theorem dX12_solve_33 : decode cX12_solve 33 = .ok (.getfield 270, 3) := by decide +kernel
theorem dX12_solve_36 : decode cX12_solve 36 = .ok (.iload_n 2, 1) := by decide +kernel
theorem dX12_solve_37 : decode cX12_solve 37 = .ok (.iastore, 1) := by decide +kernel
theorem dX12_solve_38 : decode cX12_solve 38 = .ok (.aload_n 0, 1) := by decide +kernel
theorem dX12_solve_39 : decode cX12_solve 39 = .ok (.dup, 1) := by decide +kernel
theorem dX12_solve_40 : decode cX12_solve 40 = .ok (.getfield 270, 3) := by decide +kernel
theorem dX12_solve_43 : decode cX12_solve 43 = .ok (.iconst 1, 1) := by decide +kernel
theorem dX12_solve_44 : decode cX12_solve 44 = .ok (.iadd, 1) := by decide +kernel
theorem dX12_solve_45 : decode cX12_solve 45 = .ok (.putfield 270, 3) := by decide +kernel
theorem dX12_solve_48 : decode cX12_solve 48 = .ok (.iinc 2 1, 3) := by decide +kernel
theorem dX12_solve_51 : decode cX12_solve 51 = .ok (.goto (-44), 3) := by decide +kernel
theorem dX12_solve_54 : decode cX12_solve 54 = .ok (.aload_n 0, 1) := by decide +kernel
theorem dX12_solve_55 : decode cX12_solve 55 = .ok (.getfield 270, 3) := by decide +kernel
theorem dX12_solve_58 : decode cX12_solve 58 = .ok (.istore_n 2, 1) := by decide +kernel
theorem dX12_solve_59 : decode cX12_solve 59 = .ok (.iconst 0, 1) := by decide +kernel
theorem dX12_solve_60 : decode cX12_solve 60 = .ok (.istore_n 3, 1) := by decide +kernel
theorem dX12_solve_61 : decode cX12_solve 61 = .ok (.iload_n 3, 1) := by decide +kernel
theorem dX12_solve_62 : decode cX12_solve 62 = .ok (.bipush 25, 2) := by decide +kernel
theorem dX12_solve_64 : decode cX12_solve 64 = .ok (.if_icmp .ge 16, 3) := by decide +kernel
theorem dX12_solve_67 : decode cX12_solve 67 = .ok (.aload_n 0, 1) := by decide +kernel
theorem dX12_solve_68 : decode cX12_solve 68 = .ok (.getfield 103, 3) := by decide +kernel
theorem dX12_solve_71 : decode cX12_solve 71 = .ok (.iload_n 3, 1) := by decide +kernel
theorem dX12_solve_72 : decode cX12_solve 72 = .ok (.lconst 0, 1) := by decide +kernel
theorem dX12_solve_73 : decode cX12_solve 73 = .ok (.lastore, 1) := by decide +kernel
theorem dX12_solve_74 : decode cX12_solve 74 = .ok (.iinc 3 1, 3) := by decide +kernel
theorem dX12_solve_77 : decode cX12_solve 77 = .ok (.goto (-16), 3) := by decide +kernel
theorem dX12_solve_80 : decode cX12_solve 80 = .ok (.iconst 0, 1) := by decide +kernel
theorem dX12_solve_81 : decode cX12_solve 81 = .ok (.istore_n 3, 1) := by decide +kernel
theorem dX12_solve_82 : decode cX12_solve 82 = .ok (.iload_n 3, 1) := by decide +kernel
theorem dX12_solve_83 : decode cX12_solve 83 = .ok (.iload_n 2, 1) := by decide +kernel
theorem dX12_solve_84 : decode cX12_solve 84 = .ok (.if_icmp .ge 16, 3) := by decide +kernel
theorem dX12_solve_87 : decode cX12_solve 87 = .ok (.aload_n 0, 1) := by decide +kernel
theorem dX12_solve_88 : decode cX12_solve 88 = .ok (.getfield 107, 3) := by decide +kernel
theorem dX12_solve_91 : decode cX12_solve 91 = .ok (.iload_n 3, 1) := by decide +kernel
theorem dX12_solve_92 : decode cX12_solve 92 = .ok (.lconst 0, 1) := by decide +kernel
theorem dX12_solve_93 : decode cX12_solve 93 = .ok (.lastore, 1) := by decide +kernel
theorem dX12_solve_94 : decode cX12_solve 94 = .ok (.iinc 3 1, 3) := by decide +kernel
theorem dX12_solve_97 : decode cX12_solve 97 = .ok (.goto (-15), 3) := by decide +kernel
theorem dX12_solve_100 : decode cX12_solve 100 = .ok (.iconst 0, 1) := by decide +kernel
theorem dX12_solve_101 : decode cX12_solve 101 = .ok (.istore_n 3, 1) := by decide +kernel
theorem dX12_solve_102 : decode cX12_solve 102 = .ok (.iload_n 3, 1) := by decide +kernel
theorem dX12_solve_103 : decode cX12_solve 103 = .ok (.aload_n 0, 1) := by decide +kernel
theorem dX12_solve_104 : decode cX12_solve 104 = .ok (.getfield 205, 3) := by decide +kernel
theorem dX12_solve_107 : decode cX12_solve 107 = .ok (.if_icmp .ge 237, 3) := by decide +kernel
theorem dX12_solve_110 : decode cX12_solve 110 = .ok (.aload_n 0, 1) := by decide +kernel
theorem dX12_solve_111 : decode cX12_solve 111 = .ok (.iload_n 3, 1) := by decide +kernel
theorem dX12_solve_112 : decode cX12_solve 112 = .ok (.invokevirtual 267, 3) := by decide +kernel
theorem dX12_solve_115 : decode cX12_solve 115 = .ok (.istore 4, 2) := by decide +kernel
theorem dX12_solve_117 : decode cX12_solve 117 = .ok (.iload 4, 2) := by decide +kernel
theorem dX12_solve_119 : decode cX12_solve 119 = .ok (.ifCond .ne 6, 3) := by decide +kernel
theorem dX12_solve_122 : decode cX12_solve 122 = .ok (.goto 216, 3) := by decide +kernel
theorem dX12_solve_125 : decode cX12_solve 125 = .ok (.lconst 0, 1) := by decide +kernel
theorem dX12_solve_126 : decode cX12_solve 126 = .ok (.lstore 5, 2) := by decide +kernel
theorem dX12_solve_128 : decode cX12_solve 128 = .ok (.iconst 0, 1) := by decide +kernel
theorem dX12_solve_129 : decode cX12_solve 129 = .ok (.istore 7, 2) := by decide +kernel
theorem dX12_solve_131 : decode cX12_solve 131 = .ok (.iload 7, 2) := by decide +kernel
theorem dX12_solve_133 : decode cX12_solve 133 = .ok (.aload_n 0, 1) := by decide +kernel
theorem dX12_solve_134 : decode cX12_solve 134 = .ok (.getfield 208, 3) := by decide +kernel
theorem dX12_solve_137 : decode cX12_solve 137 = .ok (.if_icmp .ge 49, 3) := by decide +kernel
theorem dX12_solve_140 : decode cX12_solve 140 = .ok (.lload 5, 2) := by decide +kernel
theorem dX12_solve_142 : decode cX12_solve 142 = .ok (.aload_n 0, 1) := by decide +kernel
theorem dX12_solve_143 : decode cX12_solve 143 = .ok (.getfield 91, 3) := by decide +kernel
theorem dX12_solve_146 : decode cX12_solve 146 = .ok (.iload_n 3, 1) := by decide +kernel
theorem dX12_solve_147 : decode cX12_solve 147 = .ok (.iload 7, 2) := by decide +kernel
theorem dX12_solve_149 : decode cX12_solve 149 = .ok (.invokestatic 225, 3) := by decide +kernel
theorem dX12_solve_152 : decode cX12_solve 152 = .ok (.iaload, 1) := by decide +kernel
theorem dX12_solve_153 : decode cX12_solve 153 = .ok (.ifCond .lt 23, 3) := by decide +kernel
theorem dX12_solve_156 : decode cX12_solve 156 = .ok (.aload_n 0, 1) := by decide +kernel
theorem dX12_solve_157 : decode cX12_solve 157 = .ok (.getfield 82, 3) := by decide +kernel
theorem dX12_solve_160 : decode cX12_solve 160 = .ok (.aload_n 0, 1) := by decide +kernel
theorem dX12_solve_161 : decode cX12_solve 161 = .ok (.getfield 91, 3) := by decide +kernel
theorem dX12_solve_164 : decode cX12_solve 164 = .ok (.iload_n 3, 1) := by decide +kernel
theorem dX12_solve_165 : decode cX12_solve 165 = .ok (.iload 7, 2) := by decide +kernel
theorem dX12_solve_167 : decode cX12_solve 167 = .ok (.invokestatic 225, 3) := by decide +kernel
theorem dX12_solve_170 : decode cX12_solve 170 = .ok (.iaload, 1) := by decide +kernel
theorem dX12_solve_171 : decode cX12_solve 171 = .ok (.iaload, 1) := by decide +kernel
theorem dX12_solve_172 : decode cX12_solve 172 = .ok (.i2l, 1) := by decide +kernel
theorem dX12_solve_173 : decode cX12_solve 173 = .ok (.goto 4, 3) := by decide +kernel
theorem dX12_solve_176 : decode cX12_solve 176 = .ok (.lconst 0, 1) := by decide +kernel
theorem dX12_solve_177 : decode cX12_solve 177 = .ok (.ladd, 1) := by decide +kernel
theorem dX12_solve_178 : decode cX12_solve 178 = .ok (.lstore 5, 2) := by decide +kernel
theorem dX12_solve_180 : decode cX12_solve 180 = .ok (.iinc 7 1, 3) := by decide +kernel
theorem dX12_solve_183 : decode cX12_solve 183 = .ok (.goto (-52), 3) := by decide +kernel
theorem dX12_solve_186 : decode cX12_solve 186 = .ok (.iconst 0, 1) := by decide +kernel
theorem dX12_solve_187 : decode cX12_solve 187 = .ok (.istore 7, 2) := by decide +kernel
theorem dX12_solve_189 : decode cX12_solve 189 = .ok (.iload 7, 2) := by decide +kernel
theorem dX12_solve_191 : decode cX12_solve 191 = .ok (.iload_n 2, 1) := by decide +kernel
theorem dX12_solve_192 : decode cX12_solve 192 = .ok (.if_icmp .ge 146, 3) := by decide +kernel
theorem dX12_solve_195 : decode cX12_solve 195 = .ok (.aload_n 0, 1) := by decide +kernel
theorem dX12_solve_196 : decode cX12_solve 196 = .ok (.getfield 91, 3) := by decide +kernel
theorem dX12_solve_199 : decode cX12_solve 199 = .ok (.iload_n 3, 1) := by decide +kernel
theorem dX12_solve_200 : decode cX12_solve 200 = .ok (.aload_n 0, 1) := by decide +kernel
theorem dX12_solve_201 : decode cX12_solve 201 = .ok (.getfield 97, 3) := by decide +kernel
theorem dX12_solve_204 : decode cX12_solve 204 = .ok (.iload 7, 2) := by decide +kernel
theorem dX12_solve_206 : decode cX12_solve 206 = .ok (.iaload, 1) := by decide +kernel
theorem dX12_solve_207 : decode cX12_solve 207 = .ok (.invokestatic 225, 3) := by decide +kernel
theorem dX12_solve_210 : decode cX12_solve 210 = .ok (.iaload, 1) := by decide +kernel
theorem dX12_solve_211 : decode cX12_solve 211 = .ok (.istore 8, 2) := by decide +kernel
theorem dX12_solve_213 : decode cX12_solve 213 = .ok (.iload 8, 2) := by decide +kernel
theorem dX12_solve_215 : decode cX12_solve 215 = .ok (.ifCond .ge 6, 3) := by decide +kernel
theorem dX12_solve_218 : decode cX12_solve 218 = .ok (.goto 114, 3) := by decide +kernel
theorem dX12_solve_221 : decode cX12_solve 221 = .ok (.aload_n 0, 1) := by decide +kernel
theorem dX12_solve_222 : decode cX12_solve 222 = .ok (.getfield 103, 3) := by decide +kernel
theorem dX12_solve_225 : decode cX12_solve 225 = .ok (.iconst 5, 1) := by decide +kernel
theorem dX12_solve_226 : decode cX12_solve 226 = .ok (.iload 7, 2) := by decide +kernel
theorem dX12_solve_228 : decode cX12_solve 228 = .ok (.imul, 1) := by decide +kernel
theorem dX12_solve_229 : decode cX12_solve 229 = .ok (.iload 7, 2) := by decide +kernel
theorem dX12_solve_231 : decode cX12_solve 231 = .ok (.iadd, 1) := by decide +kernel
theorem dX12_solve_232 : decode cX12_solve 232 = .ok (.dup2, 1) := by decide +kernel
theorem dX12_solve_233 : decode cX12_solve 233 = .ok (.laload, 1) := by decide +kernel
theorem dX12_solve_234 : decode cX12_solve 234 = .ok (.ldc2_w 275, 3) := by decide +kernel
theorem dX12_solve_237 : decode cX12_solve 237 = .ok (.ladd, 1) := by decide +kernel
theorem dX12_solve_238 : decode cX12_solve 238 = .ok (.lastore, 1) := by decide +kernel
theorem dX12_solve_239 : decode cX12_solve 239 = .ok (.aload_n 0, 1) := by decide +kernel
theorem dX12_solve_240 : decode cX12_solve 240 = .ok (.getfield 107, 3) := by decide +kernel
theorem dX12_solve_243 : decode cX12_solve 243 = .ok (.iload 7, 2) := by decide +kernel
theorem dX12_solve_245 : decode cX12_solve 245 = .ok (.dup2, 1) := by decide +kernel
theorem dX12_solve_246 : decode cX12_solve 246 = .ok (.laload, 1) := by decide +kernel
theorem dX12_solve_247 : decode cX12_solve 247 = .ok (.ldc2_w 275, 3) := by decide +kernel
theorem dX12_solve_250 : decode cX12_solve 250 = .ok (.aload_n 0, 1) := by decide +kernel
theorem dX12_solve_251 : decode cX12_solve 251 = .ok (.getfield 82, 3) := by decide +kernel
theorem dX12_solve_254 : decode cX12_solve 254 = .ok (.iload 8, 2) := by decide +kernel
theorem dX12_solve_256 : decode cX12_solve 256 = .ok (.iaload, 1) := by decide +kernel
theorem dX12_solve_257 : decode cX12_solve 257 = .ok (.i2l, 1) := by decide +kernel
theorem dX12_solve_258 : decode cX12_solve 258 = .ok (.lmul, 1) := by decide +kernel
theorem dX12_solve_259 : decode cX12_solve 259 = .ok (.ldc2_w 275, 3) := by decide +kernel
theorem dX12_solve_262 : decode cX12_solve 262 = .ok (.iload 4, 2) := by decide +kernel
theorem dX12_solve_264 : decode cX12_solve 264 = .ok (.i2l, 1) := by decide +kernel
theorem dX12_solve_265 : decode cX12_solve 265 = .ok (.ldiv, 1) := by decide +kernel
theorem dX12_solve_266 : decode cX12_solve 266 = .ok (.lload 5, 2) := by decide +kernel
theorem dX12_solve_268 : decode cX12_solve 268 = .ok (.lmul, 1) := by decide +kernel
theorem dX12_solve_269 : decode cX12_solve 269 = .ok (.lsub, 1) := by decide +kernel
theorem dX12_solve_270 : decode cX12_solve 270 = .ok (.ladd, 1) := by decide +kernel
theorem dX12_solve_271 : decode cX12_solve 271 = .ok (.lastore, 1) := by decide +kernel
theorem dX12_solve_272 : decode cX12_solve 272 = .ok (.iconst 0, 1) := by decide +kernel
theorem dX12_solve_273 : decode cX12_solve 273 = .ok (.istore 9, 2) := by decide +kernel
theorem dX12_solve_275 : decode cX12_solve 275 = .ok (.iload 9, 2) := by decide +kernel
theorem dX12_solve_277 : decode cX12_solve 277 = .ok (.iload_n 2, 1) := by decide +kernel
theorem dX12_solve_278 : decode cX12_solve 278 = .ok (.if_icmp .ge 54, 3) := by decide +kernel
theorem dX12_solve_281 : decode cX12_solve 281 = .ok (.aload_n 0, 1) := by decide +kernel
theorem dX12_solve_282 : decode cX12_solve 282 = .ok (.getfield 103, 3) := by decide +kernel
theorem dX12_solve_285 : decode cX12_solve 285 = .ok (.iconst 5, 1) := by decide +kernel
theorem dX12_solve_286 : decode cX12_solve 286 = .ok (.iload 7, 2) := by decide +kernel
theorem dX12_solve_288 : decode cX12_solve 288 = .ok (.imul, 1) := by decide +kernel
theorem dX12_solve_289 : decode cX12_solve 289 = .ok (.iload 9, 2) := by decide +kernel
theorem dX12_solve_291 : decode cX12_solve 291 = .ok (.iadd, 1) := by decide +kernel
theorem dX12_solve_292 : decode cX12_solve 292 = .ok (.dup2, 1) := by decide +kernel
theorem dX12_solve_293 : decode cX12_solve 293 = .ok (.laload, 1) := by decide +kernel
theorem dX12_solve_294 : decode cX12_solve 294 = .ok (.aload_n 0, 1) := by decide +kernel
theorem dX12_solve_295 : decode cX12_solve 295 = .ok (.getfield 91, 3) := by decide +kernel
theorem dX12_solve_298 : decode cX12_solve 298 = .ok (.iload_n 3, 1) := by decide +kernel
theorem dX12_solve_299 : decode cX12_solve 299 = .ok (.aload_n 0, 1) := by decide +kernel
theorem dX12_solve_300 : decode cX12_solve 300 = .ok (.getfield 97, 3) := by decide +kernel
theorem dX12_solve_303 : decode cX12_solve 303 = .ok (.iload 9, 2) := by decide +kernel
theorem dX12_solve_305 : decode cX12_solve 305 = .ok (.iaload, 1) := by decide +kernel
theorem dX12_solve_306 : decode cX12_solve 306 = .ok (.invokestatic 225, 3) := by decide +kernel
theorem dX12_solve_309 : decode cX12_solve 309 = .ok (.iaload, 1) := by decide +kernel
theorem dX12_solve_310 : decode cX12_solve 310 = .ok (.ifCond .lt 13, 3) := by decide +kernel
theorem dX12_solve_313 : decode cX12_solve 313 = .ok (.ldc2_w 275, 3) := by decide +kernel
theorem dX12_solve_316 : decode cX12_solve 316 = .ok (.iload 4, 2) := by decide +kernel
theorem dX12_solve_318 : decode cX12_solve 318 = .ok (.i2l, 1) := by decide +kernel
theorem dX12_solve_319 : decode cX12_solve 319 = .ok (.ldiv, 1) := by decide +kernel
theorem dX12_solve_320 : decode cX12_solve 320 = .ok (.goto 4, 3) := by decide +kernel
theorem dX12_solve_323 : decode cX12_solve 323 = .ok (.lconst 0, 1) := by decide +kernel
theorem dX12_solve_324 : decode cX12_solve 324 = .ok (.lsub, 1) := by decide +kernel
theorem dX12_solve_325 : decode cX12_solve 325 = .ok (.lastore, 1) := by decide +kernel
theorem dX12_solve_326 : decode cX12_solve 326 = .ok (.iinc 9 1, 3) := by decide +kernel
theorem dX12_solve_329 : decode cX12_solve 329 = .ok (.goto (-54), 3) := by decide +kernel
theorem dX12_solve_332 : decode cX12_solve 332 = .ok (.iinc 7 1, 3) := by decide +kernel
theorem dX12_solve_335 : decode cX12_solve 335 = .ok (.goto (-146), 3) := by decide +kernel
theorem dX12_solve_338 : decode cX12_solve 338 = .ok (.iinc 3 1, 3) := by decide +kernel
theorem dX12_solve_341 : decode cX12_solve 341 = .ok (.goto (-239), 3) := by decide +kernel
theorem dX12_solve_344 : decode cX12_solve 344 = .ok (.iconst 0, 1) := by decide +kernel
theorem dX12_solve_345 : decode cX12_solve 345 = .ok (.istore_n 3, 1) := by decide +kernel
theorem dX12_solve_346 : decode cX12_solve 346 = .ok (.iload_n 3, 1) := by decide +kernel
theorem dX12_solve_347 : decode cX12_solve 347 = .ok (.iload_n 2, 1) := by decide +kernel
theorem dX12_solve_348 : decode cX12_solve 348 = .ok (.if_icmp .ge 22, 3) := by decide +kernel
theorem dX12_solve_351 : decode cX12_solve 351 = .ok (.aload_n 0, 1) := by decide +kernel
theorem dX12_solve_352 : decode cX12_solve 352 = .ok (.getfield 103, 3) := by decide +kernel
theorem dX12_solve_355 : decode cX12_solve 355 = .ok (.iconst 5, 1) := by decide +kernel
theorem dX12_solve_356 : decode cX12_solve 356 = .ok (.iload_n 2, 1) := by decide +kernel
theorem dX12_solve_357 : decode cX12_solve 357 = .ok (.iconst 1, 1) := by decide +kernel
theorem dX12_solve_358 : decode cX12_solve 358 = .ok (.isub, 1) := by decide +kernel
theorem dX12_solve_359 : decode cX12_solve 359 = .ok (.imul, 1) := by decide +kernel
theorem dX12_solve_360 : decode cX12_solve 360 = .ok (.iload_n 3, 1) := by decide +kernel
theorem dX12_solve_361 : decode cX12_solve 361 = .ok (.iadd, 1) := by decide +kernel
theorem dX12_solve_362 : decode cX12_solve 362 = .ok (.lconst 1, 1) := by decide +kernel
theorem dX12_solve_363 : decode cX12_solve 363 = .ok (.lastore, 1) := by decide +kernel
theorem dX12_solve_364 : decode cX12_solve 364 = .ok (.iinc 3 1, 3) := by decide +kernel
theorem dX12_solve_367 : decode cX12_solve 367 = .ok (.goto (-21), 3) := by decide +kernel
theorem dX12_solve_370 : decode cX12_solve 370 = .ok (.aload_n 0, 1) := by decide +kernel
theorem dX12_solve_371 : decode cX12_solve 371 = .ok (.getfield 107, 3) := by decide +kernel
theorem dX12_solve_374 : decode cX12_solve 374 = .ok (.iload_n 2, 1) := by decide +kernel
theorem dX12_solve_375 : decode cX12_solve 375 = .ok (.iconst 1, 1) := by decide +kernel
theorem dX12_solve_376 : decode cX12_solve 376 = .ok (.isub, 1) := by decide +kernel
theorem dX12_solve_377 : decode cX12_solve 377 = .ok (.lconst 0, 1) := by decide +kernel
theorem dX12_solve_378 : decode cX12_solve 378 = .ok (.lastore, 1) := by decide +kernel
theorem dX12_solve_379 : decode cX12_solve 379 = .ok (.aload_n 0, 1) := by decide +kernel
theorem dX12_solve_380 : decode cX12_solve 380 = .ok (.aload_n 0, 1) := by decide +kernel
theorem dX12_solve_381 : decode cX12_solve 381 = .ok (.iconst (-1), 1) := by decide +kernel
theorem dX12_solve_382 : decode cX12_solve 382 = .ok (.invokevirtual 277, 3) := by decide +kernel
theorem dX12_solve_385 : decode cX12_solve 385 = .ok (.putfield 281, 3) := by decide +kernel
theorem dX12_solve_388 : decode cX12_solve 388 = .ok (.iconst 0, 1) := by decide +kernel
theorem dX12_solve_389 : decode cX12_solve 389 = .ok (.istore_n 3, 1) := by decide +kernel
theorem dX12_solve_390 : decode cX12_solve 390 = .ok (.iload_n 3, 1) := by decide +kernel
theorem dX12_solve_391 : decode cX12_solve 391 = .ok (.iload_n 2, 1) := by decide +kernel
theorem dX12_solve_392 : decode cX12_solve 392 = .ok (.if_icmp .ge 20, 3) := by decide +kernel
theorem dX12_solve_395 : decode cX12_solve 395 = .ok (.aload_n 0, 1) := by decide +kernel
theorem dX12_solve_396 : decode cX12_solve 396 = .ok (.getfield 110, 3) := by decide +kernel
theorem dX12_solve_399 : decode cX12_solve 399 = .ok (.iload_n 3, 1) := by decide +kernel
theorem dX12_solve_400 : decode cX12_solve 400 = .ok (.aload_n 0, 1) := by decide +kernel
theorem dX12_solve_401 : decode cX12_solve 401 = .ok (.iload_n 3, 1) := by decide +kernel
theorem dX12_solve_402 : decode cX12_solve 402 = .ok (.invokevirtual 277, 3) := by decide +kernel
theorem dX12_solve_405 : decode cX12_solve 405 = .ok (.lastore, 1) := by decide +kernel
theorem dX12_solve_406 : decode cX12_solve 406 = .ok (.iinc 3 1, 3) := by decide +kernel
theorem dX12_solve_409 : decode cX12_solve 409 = .ok (.goto (-19), 3) := by decide +kernel
theorem dX12_solve_412 : decode cX12_solve 412 = .ok (.return_, 1) := by decide +kernel
theorem dX12_common_0 : decode cX12_common 0 = .ok (.lload_n 0, 1) := by decide +kernel
theorem dX12_common_1 : decode cX12_common 1 = .ok (.invokestatic 284, 3) := by decide +kernel
theorem dX12_common_4 : decode cX12_common 4 = .ok (.lstore 4, 2) := by decide +kernel
theorem dX12_common_6 : decode cX12_common 6 = .ok (.lload_n 2, 1) := by decide +kernel
theorem dX12_common_7 : decode cX12_common 7 = .ok (.invokestatic 284, 3) := by decide +kernel
theorem dX12_common_10 : decode cX12_common 10 = .ok (.lstore 6, 2) := by decide +kernel
theorem dX12_common_12 : decode cX12_common 12 = .ok (.lload 6, 2) := by decide +kernel
theorem dX12_common_14 : decode cX12_common 14 = .ok (.lconst 0, 1) := by decide +kernel
theorem dX12_common_15 : decode cX12_common 15 = .ok (.lcmp, 1) := by decide +kernel
theorem dX12_common_16 : decode cX12_common 16 = .ok (.ifCond .eq 21, 3) := by decide +kernel
theorem dX12_common_19 : decode cX12_common 19 = .ok (.lload 4, 2) := by decide +kernel
theorem dX12_common_21 : decode cX12_common 21 = .ok (.lload 6, 2) := by decide +kernel
theorem dX12_common_23 : decode cX12_common 23 = .ok (.lrem, 1) := by decide +kernel
theorem dX12_common_24 : decode cX12_common 24 = .ok (.lstore 8, 2) := by decide +kernel
theorem dX12_common_26 : decode cX12_common 26 = .ok (.lload 6, 2) := by decide +kernel
theorem dX12_common_28 : decode cX12_common 28 = .ok (.lstore 4, 2) := by decide +kernel
theorem dX12_common_30 : decode cX12_common 30 = .ok (.lload 8, 2) := by decide +kernel
theorem dX12_common_32 : decode cX12_common 32 = .ok (.lstore 6, 2) := by decide +kernel
theorem dX12_common_34 : decode cX12_common 34 = .ok (.goto (-22), 3) := by decide +kernel
theorem dX12_common_37 : decode cX12_common 37 = .ok (.lload 4, 2) := by decide +kernel
theorem dX12_common_39 : decode cX12_common 39 = .ok (.lreturn, 1) := by decide +kernel
theorem dX12_tells_0 : decode cX12_tells 0 = .ok (.lload_n 1, 1) := by decide +kernel
theorem dX12_tells_1 : decode cX12_tells 1 = .ok (.lload_n 3, 1) := by decide +kernel
theorem dX12_tells_2 : decode cX12_tells 2 = .ok (.invokestatic 288, 3) := by decide +kernel
theorem dX12_tells_5 : decode cX12_tells 5 = .ok (.lstore 5, 2) := by decide +kernel
theorem dX12_tells_7 : decode cX12_tells 7 = .ok (.lload_n 3, 1) := by decide +kernel
theorem dX12_tells_8 : decode cX12_tells 8 = .ok (.lconst 0, 1) := by decide +kernel
theorem dX12_tells_9 : decode cX12_tells 9 = .ok (.lcmp, 1) := by decide +kernel
theorem dX12_tells_10 : decode cX12_tells 10 = .ok (.ifCond .ge 8, 3) := by decide +kernel
theorem dX12_tells_13 : decode cX12_tells 13 = .ok (.lload 5, 2) := by decide +kernel
theorem dX12_tells_15 : decode cX12_tells 15 = .ok (.lneg, 1) := by decide +kernel
theorem dX12_tells_16 : decode cX12_tells 16 = .ok (.lstore 5, 2) := by decide +kernel
theorem dX12_tells_18 : decode cX12_tells 18 = .ok (.aload_n 0, 1) := by decide +kernel
theorem dX12_tells_19 : decode cX12_tells 19 = .ok (.lload_n 1, 1) := by decide +kernel
theorem dX12_tells_20 : decode cX12_tells 20 = .ok (.lload 5, 2) := by decide +kernel
theorem dX12_tells_22 : decode cX12_tells 22 = .ok (.ldiv, 1) := by decide +kernel
theorem dX12_tells_23 : decode cX12_tells 23 = .ok (.putfield 292, 3) := by decide +kernel
theorem dX12_tells_26 : decode cX12_tells 26 = .ok (.aload_n 0, 1) := by decide +kernel
theorem dX12_tells_27 : decode cX12_tells 27 = .ok (.lload_n 3, 1) := by decide +kernel
theorem dX12_tells_28 : decode cX12_tells 28 = .ok (.lload 5, 2) := by decide +kernel
theorem dX12_tells_30 : decode cX12_tells 30 = .ok (.ldiv, 1) := by decide +kernel
theorem dX12_tells_31 : decode cX12_tells 31 = .ok (.putfield 7, 3) := by decide +kernel
theorem dX12_tells_34 : decode cX12_tells 34 = .ok (.return_, 1) := by decide +kernel
theorem dX12_hardness_0 : decode cX12_hardness 0 = .ok (.aload_n 0, 1) := by decide +kernel
theorem dX12_hardness_1 : decode cX12_hardness 1 = .ok (.iconst 0, 1) := by decide +kernel
theorem dX12_hardness_2 : decode cX12_hardness 2 = .ok (.putfield 195, 3) := by decide +kernel
theorem dX12_hardness_5 : decode cX12_hardness 5 = .ok (.aload_n 0, 1) := by decide +kernel
theorem dX12_hardness_6 : decode cX12_hardness 6 = .ok (.iconst 0, 1) := by decide +kernel
theorem dX12_hardness_7 : decode cX12_hardness 7 = .ok (.putfield 198, 3) := by decide +kernel
theorem dX12_hardness_10 : decode cX12_hardness 10 = .ok (.aload_n 0, 1) := by decide +kernel
theorem dX12_hardness_11 : decode cX12_hardness 11 = .ok (.iload_n 1, 1) := by decide +kernel
theorem dX12_hardness_12 : decode cX12_hardness 12 = .ok (.invokevirtual 219, 3) := by decide +kernel
theorem dX12_hardness_15 : decode cX12_hardness 15 = .ok (.ifCond .ne 9, 3) := by decide +kernel
theorem dX12_hardness_18 : decode cX12_hardness 18 = .ok (.aload_n 0, 1) := by decide +kernel
theorem dX12_hardness_19 : decode cX12_hardness 19 = .ok (.iconst 1, 1) := by decide +kernel
theorem dX12_hardness_20 : decode cX12_hardness 20 = .ok (.invokevirtual 222, 3) := by decide +kernel
theorem dX12_hardness_23 : decode cX12_hardness 23 = .ok (.ireturn, 1) := by decide +kernel
theorem dX12_hardness_24 : decode cX12_hardness 24 = .ok (.iload_n 2, 1) := by decide +kernel
theorem dX12_hardness_25 : decode cX12_hardness 25 = .ok (.invokestatic 253, 3) := by decide +kernel
theorem dX12_hardness_28 : decode cX12_hardness 28 = .ok (.ifCond .ne 9, 3) := by decide +kernel
theorem dX12_hardness_31 : decode cX12_hardness 31 = .ok (.aload_n 0, 1) := by decide +kernel
theorem dX12_hardness_32 : decode cX12_hardness 32 = .ok (.iconst 2, 1) := by decide +kernel
theorem dX12_hardness_33 : decode cX12_hardness 33 = .ok (.invokevirtual 222, 3) := by decide +kernel
theorem dX12_hardness_36 : decode cX12_hardness 36 = .ok (.ireturn, 1) := by decide +kernel
theorem dX12_hardness_37 : decode cX12_hardness 37 = .ok (.aload_n 0, 1) := by decide +kernel
theorem dX12_hardness_38 : decode cX12_hardness 38 = .ok (.iload_n 2, 1) := by decide +kernel
theorem dX12_hardness_39 : decode cX12_hardness 39 = .ok (.invokevirtual 264, 3) := by decide +kernel
theorem dX12_hardness_42 : decode cX12_hardness 42 = .ok (.aload_n 0, 1) := by decide +kernel
theorem dX12_hardness_43 : decode cX12_hardness 43 = .ok (.getfield 94, 3) := by decide +kernel
theorem dX12_hardness_46 : decode cX12_hardness 46 = .ok (.iload_n 1, 1) := by decide +kernel
theorem dX12_hardness_47 : decode cX12_hardness 47 = .ok (.iaload, 1) := by decide +kernel
theorem dX12_hardness_48 : decode cX12_hardness 48 = .ok (.ifCond .ge 10, 3) := by decide +kernel
theorem dX12_hardness_51 : decode cX12_hardness 51 = .ok (.aload_n 0, 1) := by decide +kernel
theorem dX12_hardness_52 : decode cX12_hardness 52 = .ok (.bipush 6, 2) := by decide +kernel
theorem dX12_hardness_54 : decode cX12_hardness 54 = .ok (.invokevirtual 222, 3) := by decide +kernel
theorem dX12_hardness_57 : decode cX12_hardness 57 = .ok (.ireturn, 1) := by decide +kernel
theorem dX12_hardness_58 : decode cX12_hardness 58 = .ok (.aload_n 0, 1) := by decide +kernel
theorem dX12_hardness_59 : decode cX12_hardness 59 = .ok (.aload_n 0, 1) := by decide +kernel
theorem dX12_hardness_60 : decode cX12_hardness 60 = .ok (.getfield 94, 3) := by decide +kernel
theorem dX12_hardness_63 : decode cX12_hardness 63 = .ok (.iload_n 1, 1) := by decide +kernel
theorem dX12_hardness_64 : decode cX12_hardness 64 = .ok (.iaload, 1) := by decide +kernel
theorem dX12_hardness_65 : decode cX12_hardness 65 = .ok (.invokevirtual 295, 3) := by decide +kernel
theorem dX12_hardness_68 : decode cX12_hardness 68 = .ok (.iconst 5, 1) := by decide +kernel
theorem dX12_hardness_69 : decode cX12_hardness 69 = .ok (.if_icmp .le 10, 3) := by decide +kernel
theorem dX12_hardness_72 : decode cX12_hardness 72 = .ok (.aload_n 0, 1) := by decide +kernel
theorem dX12_hardness_73 : decode cX12_hardness 73 = .ok (.bipush 9, 2) := by decide +kernel
theorem dX12_hardness_75 : decode cX12_hardness 75 = .ok (.invokevirtual 222, 3) := by decide +kernel
theorem dX12_hardness_78 : decode cX12_hardness 78 = .ok (.ireturn, 1) := by decide +kernel
theorem dX12_hardness_79 : decode cX12_hardness 79 = .ok (.aload_n 0, 1) := by decide +kernel
theorem dX12_hardness_80 : decode cX12_hardness 80 = .ok (.aload_n 0, 1) := by decide +kernel
theorem dX12_hardness_81 : decode cX12_hardness 81 = .ok (.getfield 94, 3) := by decide +kernel
theorem dX12_hardness_84 : decode cX12_hardness 84 = .ok (.iload_n 1, 1) := by decide +kernel
theorem dX12_hardness_85 : decode cX12_hardness 85 = .ok (.iaload, 1) := by decide +kernel
theorem dX12_hardness_86 : decode cX12_hardness 86 = .ok (.invokevirtual 298, 3) := by decide +kernel
theorem dX12_hardness_89 : decode cX12_hardness 89 = .ok (.iconst 0, 1) := by decide +kernel
theorem dX12_hardness_90 : decode cX12_hardness 90 = .ok (.istore_n 3, 1) := by decide +kernel
theorem dX12_hardness_91 : decode cX12_hardness 91 = .ok (.iload_n 3, 1) := by decide +kernel
theorem dX12_hardness_92 : decode cX12_hardness 92 = .ok (.aload_n 0, 1) := by decide +kernel
theorem dX12_hardness_93 : decode cX12_hardness 93 = .ok (.getfield 270, 3) := by decide +kernel
theorem dX12_hardness_96 : decode cX12_hardness 96 = .ok (.if_icmp .ge 33, 3) := by decide +kernel
theorem dX12_hardness_99 : decode cX12_hardness 99 = .ok (.aload_n 0, 1) := by decide +kernel
theorem dX12_hardness_100 : decode cX12_hardness 100 = .ok (.getfield 97, 3) := by decide +kernel
theorem dX12_hardness_103 : decode cX12_hardness 103 = .ok (.iload_n 3, 1) := by decide +kernel
theorem dX12_hardness_104 : decode cX12_hardness 104 = .ok (.iaload, 1) := by decide +kernel
theorem dX12_hardness_105 : decode cX12_hardness 105 = .ok (.iload_n 1, 1) := by decide +kernel
theorem dX12_hardness_106 : decode cX12_hardness 106 = .ok (.if_icmp .ne 17, 3) := by decide +kernel
theorem dX12_hardness_109 : decode cX12_hardness 109 = .ok (.aload_n 0, 1) := by decide +kernel
theorem dX12_hardness_110 : decode cX12_hardness 110 = .ok (.aload_n 0, 1) := by decide +kernel
theorem dX12_hardness_111 : decode cX12_hardness 111 = .ok (.getfield 110, 3) := by decide +kernel
theorem dX12_hardness_114 : decode cX12_hardness 114 = .ok (.iload_n 3, 1) := by decide +kernel
theorem dX12_hardness_115 : decode cX12_hardness 115 = .ok (.laload, 1) := by decide +kernel
theorem dX12_hardness_116 : decode cX12_hardness 116 = .ok (.aload_n 0, 1) := by decide +kernel
theorem dX12_hardness_117 : decode cX12_hardness 117 = .ok (.getfield 281, 3) := by decide +kernel
theorem dX12_hardness_120 : decode cX12_hardness 120 = .ok (.invokevirtual 301, 3) := by decide +kernel
theorem dX12_hardness_123 : decode cX12_hardness 123 = .ok (.iinc 3 1, 3) := by decide +kernel
theorem dX12_hardness_126 : decode cX12_hardness 126 = .ok (.goto (-35), 3) := by decide +kernel
theorem dX12_hardness_129 : decode cX12_hardness 129 = .ok (.iconst 1, 1) := by decide +kernel
theorem dX12_hardness_130 : decode cX12_hardness 130 = .ok (.ireturn, 1) := by decide +kernel
theorem dX12_fairOf_0 : decode cX12_fairOf 0 = .ok (.iconst (-1), 1) := by decide +kernel
theorem dX12_fairOf_1 : decode cX12_fairOf 1 = .ok (.istore_n 2, 1) := by decide +kernel
theorem dX12_fairOf_2 : decode cX12_fairOf 2 = .ok (.iconst 0, 1) := by decide +kernel
theorem dX12_fairOf_3 : decode cX12_fairOf 3 = .ok (.istore_n 3, 1) := by decide +kernel
theorem dX12_fairOf_4 : decode cX12_fairOf 4 = .ok (.iload_n 3, 1) := by decide +kernel
theorem dX12_fairOf_5 : decode cX12_fairOf 5 = .ok (.aload_n 0, 1) := by decide +kernel
theorem dX12_fairOf_6 : decode cX12_fairOf 6 = .ok (.getfield 208, 3) := by decide +kernel
theorem dX12_fairOf_9 : decode cX12_fairOf 9 = .ok (.if_icmp .ge 29, 3) := by decide +kernel
theorem dX12_fairOf_12 : decode cX12_fairOf 12 = .ok (.aload_n 0, 1) := by decide +kernel
theorem dX12_fairOf_13 : decode cX12_fairOf 13 = .ok (.getfield 91, 3) := by decide +kernel
theorem dX12_fairOf_16 : decode cX12_fairOf 16 = .ok (.iload_n 1, 1) := by decide +kernel
theorem dX12_fairOf_17 : decode cX12_fairOf 17 = .ok (.iload_n 3, 1) := by decide +kernel
theorem dX12_fairOf_18 : decode cX12_fairOf 18 = .ok (.invokestatic 225, 3) := by decide +kernel
theorem dX12_fairOf_21 : decode cX12_fairOf 21 = .ok (.iaload, 1) := by decide +kernel
theorem dX12_fairOf_22 : decode cX12_fairOf 22 = .ok (.ifCond .lt 10, 3) := by decide +kernel
theorem dX12_fairOf_25 : decode cX12_fairOf 25 = .ok (.aload_n 0, 1) := by decide +kernel
theorem dX12_fairOf_26 : decode cX12_fairOf 26 = .ok (.getfield 94, 3) := by decide +kernel
theorem dX12_fairOf_29 : decode cX12_fairOf 29 = .ok (.iload_n 3, 1) := by decide +kernel
theorem dX12_fairOf_30 : decode cX12_fairOf 30 = .ok (.iaload, 1) := by decide +kernel
theorem dX12_fairOf_31 : decode cX12_fairOf 31 = .ok (.istore_n 2, 1) := by decide +kernel
theorem dX12_fairOf_32 : decode cX12_fairOf 32 = .ok (.iinc 3 1, 3) := by decide +kernel
theorem dX12_fairOf_35 : decode cX12_fairOf 35 = .ok (.goto (-31), 3) := by decide +kernel
theorem dX12_fairOf_38 : decode cX12_fairOf 38 = .ok (.aload_n 0, 1) := by decide +kernel
theorem dX12_fairOf_39 : decode cX12_fairOf 39 = .ok (.iload_n 2, 1) := by decide +kernel
theorem dX12_fairOf_40 : decode cX12_fairOf 40 = .ok (.invokevirtual 298, 3) := by decide +kernel
theorem dX12_fairOf_43 : decode cX12_fairOf 43 = .ok (.lconst 0, 1) := by decide +kernel
theorem dX12_fairOf_44 : decode cX12_fairOf 44 = .ok (.lstore_n 3, 1) := by decide +kernel
theorem dX12_fairOf_45 : decode cX12_fairOf 45 = .ok (.iconst 0, 1) := by decide +kernel
theorem dX12_fairOf_46 : decode cX12_fairOf 46 = .ok (.istore 5, 2) := by decide +kernel
theorem dX12_fairOf_48 : decode cX12_fairOf 48 = .ok (.iconst 0, 1) := by decide +kernel
theorem dX12_fairOf_49 : decode cX12_fairOf 49 = .ok (.istore 6, 2) := by decide +kernel
theorem dX12_fairOf_51 : decode cX12_fairOf 51 = .ok (.iload 6, 2) := by decide +kernel
theorem dX12_fairOf_53 : decode cX12_fairOf 53 = .ok (.aload_n 0, 1) := by decide +kernel
theorem dX12_fairOf_54 : decode cX12_fairOf 54 = .ok (.getfield 270, 3) := by decide +kernel
theorem dX12_fairOf_57 : decode cX12_fairOf 57 = .ok (.if_icmp .ge 62, 3) := by decide +kernel
theorem dX12_fairOf_60 : decode cX12_fairOf 60 = .ok (.aload_n 0, 1) := by decide +kernel
theorem dX12_fairOf_61 : decode cX12_fairOf 61 = .ok (.getfield 91, 3) := by decide +kernel
theorem dX12_fairOf_64 : decode cX12_fairOf 64 = .ok (.iload_n 1, 1) := by decide +kernel
theorem dX12_fairOf_65 : decode cX12_fairOf 65 = .ok (.aload_n 0, 1) := by decide +kernel
theorem dX12_fairOf_66 : decode cX12_fairOf 66 = .ok (.getfield 97, 3) := by decide +kernel
theorem dX12_fairOf_69 : decode cX12_fairOf 69 = .ok (.iload 6, 2) := by decide +kernel
theorem dX12_fairOf_71 : decode cX12_fairOf 71 = .ok (.iaload, 1) := by decide +kernel
theorem dX12_fairOf_72 : decode cX12_fairOf 72 = .ok (.invokestatic 225, 3) := by decide +kernel
theorem dX12_fairOf_75 : decode cX12_fairOf 75 = .ok (.iaload, 1) := by decide +kernel
theorem dX12_fairOf_76 : decode cX12_fairOf 76 = .ok (.istore 7, 2) := by decide +kernel
theorem dX12_fairOf_78 : decode cX12_fairOf 78 = .ok (.iload 7, 2) := by decide +kernel
theorem dX12_fairOf_80 : decode cX12_fairOf 80 = .ok (.ifCond .ge 6, 3) := by decide +kernel
theorem dX12_fairOf_83 : decode cX12_fairOf 83 = .ok (.goto 30, 3) := by decide +kernel
theorem dX12_fairOf_86 : decode cX12_fairOf 86 = .ok (.lload_n 3, 1) := by decide +kernel
theorem dX12_fairOf_87 : decode cX12_fairOf 87 = .ok (.aload_n 0, 1) := by decide +kernel
theorem dX12_fairOf_88 : decode cX12_fairOf 88 = .ok (.getfield 82, 3) := by decide +kernel
theorem dX12_fairOf_91 : decode cX12_fairOf 91 = .ok (.iload 7, 2) := by decide +kernel
theorem dX12_fairOf_93 : decode cX12_fairOf 93 = .ok (.iaload, 1) := by decide +kernel
theorem dX12_fairOf_94 : decode cX12_fairOf 94 = .ok (.i2l, 1) := by decide +kernel
theorem dX12_fairOf_95 : decode cX12_fairOf 95 = .ok (.aload_n 0, 1) := by decide +kernel
theorem dX12_fairOf_96 : decode cX12_fairOf 96 = .ok (.getfield 281, 3) := by decide +kernel
theorem dX12_fairOf_99 : decode cX12_fairOf 99 = .ok (.lmul, 1) := by decide +kernel
theorem dX12_fairOf_100 : decode cX12_fairOf 100 = .ok (.aload_n 0, 1) := by decide +kernel
theorem dX12_fairOf_101 : decode cX12_fairOf 101 = .ok (.getfield 110, 3) := by decide +kernel
theorem dX12_fairOf_104 : decode cX12_fairOf 104 = .ok (.iload 6, 2) := by decide +kernel
theorem dX12_fairOf_106 : decode cX12_fairOf 106 = .ok (.laload, 1) := by decide +kernel
theorem dX12_fairOf_107 : decode cX12_fairOf 107 = .ok (.lsub, 1) := by decide +kernel
theorem dX12_fairOf_108 : decode cX12_fairOf 108 = .ok (.ladd, 1) := by decide +kernel
theorem dX12_fairOf_109 : decode cX12_fairOf 109 = .ok (.lstore_n 3, 1) := by decide +kernel
theorem dX12_fairOf_110 : decode cX12_fairOf 110 = .ok (.iinc 5 1, 3) := by decide +kernel
theorem dX12_fairOf_113 : decode cX12_fairOf 113 = .ok (.iinc 6 1, 3) := by decide +kernel
theorem dX12_fairOf_116 : decode cX12_fairOf 116 = .ok (.goto (-65), 3) := by decide +kernel
theorem dX12_fairOf_119 : decode cX12_fairOf 119 = .ok (.iload 5, 2) := by decide +kernel
theorem dX12_fairOf_121 : decode cX12_fairOf 121 = .ok (.i2l, 1) := by decide +kernel
theorem dX12_fairOf_122 : decode cX12_fairOf 122 = .ok (.aload_n 0, 1) := by decide +kernel
theorem dX12_fairOf_123 : decode cX12_fairOf 123 = .ok (.getfield 281, 3) := by decide +kernel
theorem dX12_fairOf_126 : decode cX12_fairOf 126 = .ok (.lmul, 1) := by decide +kernel
theorem dX12_fairOf_127 : decode cX12_fairOf 127 = .ok (.lstore 6, 2) := by decide +kernel
theorem dX12_fairOf_129 : decode cX12_fairOf 129 = .ok (.lload_n 3, 1) := by decide +kernel
theorem dX12_fairOf_130 : decode cX12_fairOf 130 = .ok (.lload 6, 2) := by decide +kernel
theorem dX12_fairOf_132 : decode cX12_fairOf 132 = .ok (.invokestatic 288, 3) := by decide +kernel
theorem dX12_fairOf_135 : decode cX12_fairOf 135 = .ok (.lstore 8, 2) := by decide +kernel
theorem dX12_fairOf_137 : decode cX12_fairOf 137 = .ok (.lload 6, 2) := by decide +kernel
theorem dX12_fairOf_139 : decode cX12_fairOf 139 = .ok (.lconst 0, 1) := by decide +kernel
theorem dX12_fairOf_140 : decode cX12_fairOf 140 = .ok (.lcmp, 1) := by decide +kernel
theorem dX12_fairOf_141 : decode cX12_fairOf 141 = .ok (.ifCond .ge 8, 3) := by decide +kernel
theorem dX12_fairOf_144 : decode cX12_fairOf 144 = .ok (.lload 8, 2) := by decide +kernel
theorem dX12_fairOf_146 : decode cX12_fairOf 146 = .ok (.lneg, 1) := by decide +kernel
theorem dX12_fairOf_147 : decode cX12_fairOf 147 = .ok (.lstore 8, 2) := by decide +kernel
theorem dX12_fairOf_149 : decode cX12_fairOf 149 = .ok (.aload_n 0, 1) := by decide +kernel
theorem dX12_fairOf_150 : decode cX12_fairOf 150 = .ok (.lload_n 3, 1) := by decide +kernel
theorem dX12_fairOf_151 : decode cX12_fairOf 151 = .ok (.lload 8, 2) := by decide +kernel
theorem dX12_fairOf_153 : decode cX12_fairOf 153 = .ok (.ldiv, 1) := by decide +kernel
theorem dX12_fairOf_154 : decode cX12_fairOf 154 = .ok (.putfield 305, 3) := by decide +kernel
theorem dX12_fairOf_157 : decode cX12_fairOf 157 = .ok (.aload_n 0, 1) := by decide +kernel
theorem dX12_fairOf_158 : decode cX12_fairOf 158 = .ok (.lload 6, 2) := by decide +kernel
theorem dX12_fairOf_160 : decode cX12_fairOf 160 = .ok (.lload 8, 2) := by decide +kernel
theorem dX12_fairOf_162 : decode cX12_fairOf 162 = .ok (.ldiv, 1) := by decide +kernel
theorem dX12_fairOf_163 : decode cX12_fairOf 163 = .ok (.putfield 308, 3) := by decide +kernel
theorem dX12_fairOf_166 : decode cX12_fairOf 166 = .ok (.return_, 1) := by decide +kernel
theorem dX12_fair_0 : decode cX12_fair 0 = .ok (.aload_n 0, 1) := by decide +kernel
theorem dX12_fair_1 : decode cX12_fair 1 = .ok (.iconst 0, 1) := by decide +kernel
theorem dX12_fair_2 : decode cX12_fair 2 = .ok (.putfield 195, 3) := by decide +kernel
theorem dX12_fair_5 : decode cX12_fair 5 = .ok (.aload_n 0, 1) := by decide +kernel
theorem dX12_fair_6 : decode cX12_fair 6 = .ok (.iconst 0, 1) := by decide +kernel
theorem dX12_fair_7 : decode cX12_fair 7 = .ok (.putfield 198, 3) := by decide +kernel
theorem dX12_fair_10 : decode cX12_fair 10 = .ok (.aload_n 0, 1) := by decide +kernel
theorem dX12_fair_11 : decode cX12_fair 11 = .ok (.iload_n 1, 1) := by decide +kernel
theorem dX12_fair_12 : decode cX12_fair 12 = .ok (.invokevirtual 211, 3) := by decide +kernel
theorem dX12_fair_15 : decode cX12_fair 15 = .ok (.ifCond .ne 9, 3) := by decide +kernel
theorem dX12_fair_18 : decode cX12_fair 18 = .ok (.aload_n 0, 1) := by decide +kernel
theorem dX12_fair_19 : decode cX12_fair 19 = .ok (.iconst 1, 1) := by decide +kernel
theorem dX12_fair_20 : decode cX12_fair 20 = .ok (.invokevirtual 222, 3) := by decide +kernel
theorem dX12_fair_23 : decode cX12_fair 23 = .ok (.ireturn, 1) := by decide +kernel
theorem dX12_fair_24 : decode cX12_fair 24 = .ok (.iload_n 2, 1) := by decide +kernel
theorem dX12_fair_25 : decode cX12_fair 25 = .ok (.invokestatic 253, 3) := by decide +kernel
theorem dX12_fair_28 : decode cX12_fair 28 = .ok (.ifCond .ne 9, 3) := by decide +kernel
theorem dX12_fair_31 : decode cX12_fair 31 = .ok (.aload_n 0, 1) := by decide +kernel
theorem dX12_fair_32 : decode cX12_fair 32 = .ok (.iconst 2, 1) := by decide +kernel
theorem dX12_fair_33 : decode cX12_fair 33 = .ok (.invokevirtual 222, 3) := by decide +kernel
theorem dX12_fair_36 : decode cX12_fair 36 = .ok (.ireturn, 1) := by decide +kernel
theorem dX12_fair_37 : decode cX12_fair 37 = .ok (.aload_n 0, 1) := by decide +kernel
theorem dX12_fair_38 : decode cX12_fair 38 = .ok (.iload_n 2, 1) := by decide +kernel
theorem dX12_fair_39 : decode cX12_fair 39 = .ok (.invokevirtual 264, 3) := by decide +kernel
theorem dX12_fair_42 : decode cX12_fair 42 = .ok (.aload_n 0, 1) := by decide +kernel
theorem dX12_fair_43 : decode cX12_fair 43 = .ok (.iload_n 1, 1) := by decide +kernel
theorem dX12_fair_44 : decode cX12_fair 44 = .ok (.invokevirtual 267, 3) := by decide +kernel
theorem dX12_fair_47 : decode cX12_fair 47 = .ok (.ifCond .ne 10, 3) := by decide +kernel
theorem dX12_fair_50 : decode cX12_fair 50 = .ok (.aload_n 0, 1) := by decide +kernel
theorem dX12_fair_51 : decode cX12_fair 51 = .ok (.bipush 6, 2) := by decide +kernel
theorem dX12_fair_53 : decode cX12_fair 53 = .ok (.invokevirtual 222, 3) := by decide +kernel
theorem dX12_fair_56 : decode cX12_fair 56 = .ok (.ireturn, 1) := by decide +kernel
theorem dX12_fair_57 : decode cX12_fair 57 = .ok (.iconst 0, 1) := by decide +kernel
theorem dX12_fair_58 : decode cX12_fair 58 = .ok (.istore_n 3, 1) := by decide +kernel
theorem dX12_fair_59 : decode cX12_fair 59 = .ok (.iload_n 3, 1) := by decide +kernel
theorem dX12_fair_60 : decode cX12_fair 60 = .ok (.aload_n 0, 1) := by decide +kernel
theorem dX12_fair_61 : decode cX12_fair 61 = .ok (.getfield 208, 3) := by decide +kernel
theorem dX12_fair_64 : decode cX12_fair 64 = .ok (.if_icmp .ge 43, 3) := by decide +kernel
theorem dX12_fair_67 : decode cX12_fair 67 = .ok (.aload_n 0, 1) := by decide +kernel
theorem dX12_fair_68 : decode cX12_fair 68 = .ok (.getfield 91, 3) := by decide +kernel
theorem dX12_fair_71 : decode cX12_fair 71 = .ok (.iload_n 1, 1) := by decide +kernel
theorem dX12_fair_72 : decode cX12_fair 72 = .ok (.iload_n 3, 1) := by decide +kernel
theorem dX12_fair_73 : decode cX12_fair 73 = .ok (.invokestatic 225, 3) := by decide +kernel
theorem dX12_fair_76 : decode cX12_fair 76 = .ok (.iaload, 1) := by decide +kernel
theorem dX12_fair_77 : decode cX12_fair 77 = .ok (.ifCond .lt 24, 3) := by decide +kernel
theorem dX12_fair_80 : decode cX12_fair 80 = .ok (.aload_n 0, 1) := by decide +kernel
theorem dX12_fair_81 : decode cX12_fair 81 = .ok (.aload_n 0, 1) := by decide +kernel
theorem dX12_fair_82 : decode cX12_fair 82 = .ok (.getfield 94, 3) := by decide +kernel
theorem dX12_fair_85 : decode cX12_fair 85 = .ok (.iload_n 3, 1) := by decide +kernel
theorem dX12_fair_86 : decode cX12_fair 86 = .ok (.iaload, 1) := by decide +kernel
theorem dX12_fair_87 : decode cX12_fair 87 = .ok (.invokevirtual 295, 3) := by decide +kernel
theorem dX12_fair_90 : decode cX12_fair 90 = .ok (.iconst 5, 1) := by decide +kernel
theorem dX12_fair_91 : decode cX12_fair 91 = .ok (.if_icmp .le 10, 3) := by decide +kernel
theorem dX12_fair_94 : decode cX12_fair 94 = .ok (.aload_n 0, 1) := by decide +kernel
theorem dX12_fair_95 : decode cX12_fair 95 = .ok (.bipush 9, 2) := by decide +kernel
theorem dX12_fair_97 : decode cX12_fair 97 = .ok (.invokevirtual 222, 3) := by decide +kernel
theorem dX12_fair_100 : decode cX12_fair 100 = .ok (.ireturn, 1) := by decide +kernel
theorem dX12_fair_101 : decode cX12_fair 101 = .ok (.iinc 3 1, 3) := by decide +kernel
theorem dX12_fair_104 : decode cX12_fair 104 = .ok (.goto (-45), 3) := by decide +kernel
theorem dX12_fair_107 : decode cX12_fair 107 = .ok (.aload_n 0, 1) := by decide +kernel
theorem dX12_fair_108 : decode cX12_fair 108 = .ok (.iload_n 1, 1) := by decide +kernel
theorem dX12_fair_109 : decode cX12_fair 109 = .ok (.invokevirtual 311, 3) := by decide +kernel
theorem dX12_fair_112 : decode cX12_fair 112 = .ok (.aload_n 0, 1) := by decide +kernel
theorem dX12_fair_113 : decode cX12_fair 113 = .ok (.aload_n 0, 1) := by decide +kernel
theorem dX12_fair_114 : decode cX12_fair 114 = .ok (.getfield 305, 3) := by decide +kernel
theorem dX12_fair_117 : decode cX12_fair 117 = .ok (.putfield 292, 3) := by decide +kernel
theorem dX12_fair_120 : decode cX12_fair 120 = .ok (.aload_n 0, 1) := by decide +kernel
theorem dX12_fair_121 : decode cX12_fair 121 = .ok (.aload_n 0, 1) := by decide +kernel
theorem dX12_fair_122 : decode cX12_fair 122 = .ok (.getfield 308, 3) := by decide +kernel
theorem dX12_fair_125 : decode cX12_fair 125 = .ok (.putfield 7, 3) := by decide +kernel
theorem dX12_fair_128 : decode cX12_fair 128 = .ok (.iconst 1, 1) := by decide +kernel
theorem dX12_fair_129 : decode cX12_fair 129 = .ok (.ireturn, 1) := by decide +kernel
theorem dX12_upper_0 : decode cX12_upper 0 = .ok (.aload_n 0, 1) := by decide +kernel
theorem dX12_upper_1 : decode cX12_upper 1 = .ok (.iconst 0, 1) := by decide +kernel
theorem dX12_upper_2 : decode cX12_upper 2 = .ok (.putfield 195, 3) := by decide +kernel
theorem dX12_upper_5 : decode cX12_upper 5 = .ok (.aload_n 0, 1) := by decide +kernel
theorem dX12_upper_6 : decode cX12_upper 6 = .ok (.getfield 292, 3) := by decide +kernel
theorem dX12_upper_9 : decode cX12_upper 9 = .ok (.lreturn, 1) := by decide +kernel
theorem dX12_lower_0 : decode cX12_lower 0 = .ok (.aload_n 0, 1) := by decide +kernel
theorem dX12_lower_1 : decode cX12_lower 1 = .ok (.iconst 0, 1) := by decide +kernel
theorem dX12_lower_2 : decode cX12_lower 2 = .ok (.putfield 195, 3) := by decide +kernel
theorem dX12_lower_5 : decode cX12_lower 5 = .ok (.aload_n 0, 1) := by decide +kernel
theorem dX12_lower_6 : decode cX12_lower 6 = .ok (.getfield 7, 3) := by decide +kernel
theorem dX12_lower_9 : decode cX12_lower 9 = .ok (.lreturn, 1) := by decide +kernel
theorem dX12_look_0 : decode cX12_look 0 = .ok (.iload_n 1, 1) := by decide +kernel
theorem dX12_look_1 : decode cX12_look 1 = .ok (.aload_n 0, 1) := by decide +kernel
theorem dX12_look_2 : decode cX12_look 2 = .ok (.getfield 314, 3) := by decide +kernel
theorem dX12_look_5 : decode cX12_look 5 = .ok (.if_icmp .ge 16, 3) := by decide +kernel
theorem dX12_look_8 : decode cX12_look 8 = .ok (.aload_n 0, 1) := by decide +kernel
theorem dX12_look_9 : decode cX12_look 9 = .ok (.getfield 113, 3) := by decide +kernel
theorem dX12_look_12 : decode cX12_look 12 = .ok (.iload_n 1, 1) := by decide +kernel
theorem dX12_look_13 : decode cX12_look 13 = .ok (.baload, 1) := by decide +kernel
theorem dX12_look_14 : decode cX12_look 14 = .ok (.sipush 255, 3) := by decide +kernel
theorem dX12_look_17 : decode cX12_look 17 = .ok (.iand, 1) := by decide +kernel
theorem dX12_look_18 : decode cX12_look 18 = .ok (.goto 4, 3) := by decide +kernel
theorem dX12_look_21 : decode cX12_look 21 = .ok (.iconst 0, 1) := by decide +kernel
theorem dX12_look_22 : decode cX12_look 22 = .ok (.ireturn, 1) := by decide +kernel
theorem dX12_isLetter_0 : decode cX12_isLetter 0 = .ok (.iload_n 0, 1) := by decide +kernel
theorem dX12_isLetter_1 : decode cX12_isLetter 1 = .ok (.bipush 97, 2) := by decide +kernel
theorem dX12_isLetter_3 : decode cX12_isLetter 3 = .ok (.if_icmp .lt 13, 3) := by decide +kernel
theorem dX12_isLetter_6 : decode cX12_isLetter 6 = .ok (.iload_n 0, 1) := by decide +kernel
theorem dX12_isLetter_7 : decode cX12_isLetter 7 = .ok (.bipush 122, 2) := by decide +kernel
theorem dX12_isLetter_9 : decode cX12_isLetter 9 = .ok (.if_icmp .gt 7, 3) := by decide +kernel
theorem dX12_isLetter_12 : decode cX12_isLetter 12 = .ok (.iconst 1, 1) := by decide +kernel
theorem dX12_isLetter_13 : decode cX12_isLetter 13 = .ok (.goto 4, 3) := by decide +kernel
theorem dX12_isLetter_16 : decode cX12_isLetter 16 = .ok (.iconst 0, 1) := by decide +kernel
theorem dX12_isLetter_17 : decode cX12_isLetter 17 = .ok (.ireturn, 1) := by decide +kernel
theorem dX12_isDigit_0 : decode cX12_isDigit 0 = .ok (.iload_n 0, 1) := by decide +kernel
theorem dX12_isDigit_1 : decode cX12_isDigit 1 = .ok (.bipush 48, 2) := by decide +kernel
theorem dX12_isDigit_3 : decode cX12_isDigit 3 = .ok (.if_icmp .lt 13, 3) := by decide +kernel
theorem dX12_isDigit_6 : decode cX12_isDigit 6 = .ok (.iload_n 0, 1) := by decide +kernel
theorem dX12_isDigit_7 : decode cX12_isDigit 7 = .ok (.bipush 57, 2) := by decide +kernel
theorem dX12_isDigit_9 : decode cX12_isDigit 9 = .ok (.if_icmp .gt 7, 3) := by decide +kernel
theorem dX12_isDigit_12 : decode cX12_isDigit 12 = .ok (.iconst 1, 1) := by decide +kernel
theorem dX12_isDigit_13 : decode cX12_isDigit 13 = .ok (.goto 4, 3) := by decide +kernel
theorem dX12_isDigit_16 : decode cX12_isDigit 16 = .ok (.iconst 0, 1) := by decide +kernel
theorem dX12_isDigit_17 : decode cX12_isDigit 17 = .ok (.ireturn, 1) := by decide +kernel
theorem dX12_next_0 : decode cX12_next 0 = .ok (.aload_n 0, 1) := by decide +kernel
theorem dX12_next_1 : decode cX12_next 1 = .ok (.aload_n 0, 1) := by decide +kernel
theorem dX12_next_2 : decode cX12_next 2 = .ok (.getfield 317, 3) := by decide +kernel
theorem dX12_next_5 : decode cX12_next 5 = .ok (.putfield 320, 3) := by decide +kernel
theorem dX12_next_8 : decode cX12_next 8 = .ok (.aload_n 0, 1) := by decide +kernel
theorem dX12_next_9 : decode cX12_next 9 = .ok (.getfield 320, 3) := by decide +kernel
theorem dX12_next_12 : decode cX12_next 12 = .ok (.aload_n 0, 1) := by decide +kernel
theorem dX12_next_13 : decode cX12_next 13 = .ok (.getfield 314, 3) := by decide +kernel
theorem dX12_next_16 : decode cX12_next 16 = .ok (.if_icmp .ge 42, 3) := by decide +kernel
theorem dX12_next_19 : decode cX12_next 19 = .ok (.aload_n 0, 1) := by decide +kernel
theorem dX12_next_20 : decode cX12_next 20 = .ok (.aload_n 0, 1) := by decide +kernel
theorem dX12_next_21 : decode cX12_next 21 = .ok (.getfield 320, 3) := by decide +kernel
theorem dX12_next_24 : decode cX12_next 24 = .ok (.invokevirtual 323, 3) := by decide +kernel
theorem dX12_next_27 : decode cX12_next 27 = .ok (.bipush 10, 2) := by decide +kernel
theorem dX12_next_29 : decode cX12_next 29 = .ok (.if_icmp .eq 16, 3) := by decide +kernel
theorem dX12_next_32 : decode cX12_next 32 = .ok (.aload_n 0, 1) := by decide +kernel
theorem dX12_next_33 : decode cX12_next 33 = .ok (.aload_n 0, 1) := by decide +kernel
theorem dX12_next_34 : decode cX12_next 34 = .ok (.getfield 320, 3) := by decide +kernel
theorem dX12_next_37 : decode cX12_next 37 = .ok (.invokevirtual 323, 3) := by decide +kernel
theorem dX12_next_40 : decode cX12_next 40 = .ok (.bipush 32, 2) := by decide +kernel
theorem dX12_next_42 : decode cX12_next 42 = .ok (.if_icmp .ne 16, 3) := by decide +kernel
theorem dX12_next_45 : decode cX12_next 45 = .ok (.aload_n 0, 1) := by decide +kernel
theorem dX12_next_46 : decode cX12_next 46 = .ok (.dup, 1) := by decide +kernel
theorem dX12_next_47 : decode cX12_next 47 = .ok (.getfield 320, 3) := by decide +kernel
theorem dX12_next_50 : decode cX12_next 50 = .ok (.iconst 1, 1) := by decide +kernel
theorem dX12_next_51 : decode cX12_next 51 = .ok (.iadd, 1) := by decide +kernel
theorem dX12_next_52 : decode cX12_next 52 = .ok (.putfield 320, 3) := by decide +kernel
theorem dX12_next_55 : decode cX12_next 55 = .ok (.goto (-47), 3) := by decide +kernel
theorem dX12_next_58 : decode cX12_next 58 = .ok (.aload_n 0, 1) := by decide +kernel
theorem dX12_next_59 : decode cX12_next 59 = .ok (.aload_n 0, 1) := by decide +kernel
theorem dX12_next_60 : decode cX12_next 60 = .ok (.getfield 320, 3) := by decide +kernel
theorem dX12_next_63 : decode cX12_next 63 = .ok (.putfield 317, 3) := by decide +kernel
theorem dX12_next_66 : decode cX12_next 66 = .ok (.aload_n 0, 1) := by decide +kernel
theorem dX12_next_67 : decode cX12_next 67 = .ok (.getfield 320, 3) := by decide +kernel
theorem dX12_next_70 : decode cX12_next 70 = .ok (.aload_n 0, 1) := by decide +kernel
theorem dX12_next_71 : decode cX12_next 71 = .ok (.getfield 314, 3) := by decide +kernel
theorem dX12_next_74 : decode cX12_next 74 = .ok (.if_icmp .lt 9, 3) := by decide +kernel
theorem dX12_next_77 : decode cX12_next 77 = .ok (.aload_n 0, 1) := by decide +kernel
theorem dX12_next_78 : decode cX12_next 78 = .ok (.iconst 0, 1) := by decide +kernel
theorem dX12_next_79 : decode cX12_next 79 = .ok (.putfield 326, 3) := by decide +kernel
theorem dX12_next_82 : decode cX12_next 82 = .ok (.return_, 1) := by decide +kernel
theorem dX12_next_83 : decode cX12_next 83 = .ok (.aload_n 0, 1) := by decide +kernel
theorem dX12_next_84 : decode cX12_next 84 = .ok (.aload_n 0, 1) := by decide +kernel
theorem dX12_next_85 : decode cX12_next 85 = .ok (.getfield 320, 3) := by decide +kernel
theorem dX12_next_88 : decode cX12_next 88 = .ok (.invokevirtual 323, 3) := by decide +kernel
theorem dX12_next_91 : decode cX12_next 91 = .ok (.istore_n 1, 1) := by decide +kernel
theorem dX12_next_92 : decode cX12_next 92 = .ok (.iload_n 1, 1) := by decide +kernel
theorem dX12_next_93 : decode cX12_next 93 = .ok (.invokestatic 329, 3) := by decide +kernel
theorem dX12_next_96 : decode cX12_next 96 = .ok (.ifCond .eq 86, 3) := by decide +kernel
theorem dX12_next_99 : decode cX12_next 99 = .ok (.aload_n 0, 1) := by decide +kernel
theorem dX12_next_100 : decode cX12_next 100 = .ok (.iconst 1, 1) := by decide +kernel
theorem dX12_next_101 : decode cX12_next 101 = .ok (.putfield 326, 3) := by decide +kernel
theorem dX12_next_104 : decode cX12_next 104 = .ok (.aload_n 0, 1) := by decide +kernel
theorem dX12_next_105 : decode cX12_next 105 = .ok (.lconst 0, 1) := by decide +kernel
theorem dX12_next_106 : decode cX12_next 106 = .ok (.putfield 332, 3) := by decide +kernel
theorem dX12_next_109 : decode cX12_next 109 = .ok (.aload_n 0, 1) := by decide +kernel
theorem dX12_next_110 : decode cX12_next 110 = .ok (.aload_n 0, 1) := by decide +kernel
theorem dX12_next_111 : decode cX12_next 111 = .ok (.getfield 317, 3) := by decide +kernel
theorem dX12_next_114 : decode cX12_next 114 = .ok (.invokevirtual 323, 3) := by decide +kernel
theorem dX12_next_117 : decode cX12_next 117 = .ok (.invokestatic 329, 3) := by decide +kernel
theorem dX12_next_120 : decode cX12_next 120 = .ok (.ifCond .eq 187, 3) := by decide +kernel
theorem dX12_next_123 : decode cX12_next 123 = .ok (.aload_n 0, 1) := by decide +kernel
theorem dX12_next_124 : decode cX12_next 124 = .ok (.aload_n 0, 1) := by decide +kernel
theorem dX12_next_125 : decode cX12_next 125 = .ok (.getfield 317, 3) := by decide +kernel
theorem dX12_next_128 : decode cX12_next 128 = .ok (.aload_n 0, 1) := by decide +kernel
theorem dX12_next_129 : decode cX12_next 129 = .ok (.getfield 320, 3) := by decide +kernel
theorem dX12_next_132 : decode cX12_next 132 = .ok (.isub, 1) := by decide +kernel
theorem dX12_next_133 : decode cX12_next 133 = .ok (.bipush 12, 2) := by decide +kernel
theorem dX12_next_135 : decode cX12_next 135 = .ok (.if_icmp .ge 28, 3) := by decide +kernel
theorem dX12_next_138 : decode cX12_next 138 = .ok (.aload_n 0, 1) := by decide +kernel
theorem dX12_next_139 : decode cX12_next 139 = .ok (.getfield 332, 3) := by decide +kernel
theorem dX12_next_142 : decode cX12_next 142 = .ok (.ldc2_w 335, 3) := by decide +kernel
theorem dX12_next_145 : decode cX12_next 145 = .ok (.lmul, 1) := by decide +kernel
theorem dX12_next_146 : decode cX12_next 146 = .ok (.aload_n 0, 1) := by decide +kernel
theorem dX12_next_147 : decode cX12_next 147 = .ok (.aload_n 0, 1) := by decide +kernel
theorem dX12_next_148 : decode cX12_next 148 = .ok (.getfield 317, 3) := by decide +kernel
theorem dX12_next_151 : decode cX12_next 151 = .ok (.invokevirtual 323, 3) := by decide +kernel
theorem dX12_next_154 : decode cX12_next 154 = .ok (.i2l, 1) := by decide +kernel
theorem dX12_next_155 : decode cX12_next 155 = .ok (.ladd, 1) := by decide +kernel
theorem dX12_next_156 : decode cX12_next 156 = .ok (.ldc2_w 337, 3) := by decide +kernel
theorem dX12_next_159 : decode cX12_next 159 = .ok (.lsub, 1) := by decide +kernel
theorem dX12_next_160 : decode cX12_next 160 = .ok (.goto 6, 3) := by decide +kernel
theorem dX12_next_163 : decode cX12_next 163 = .ok (.ldc2_w 273, 3) := by decide +kernel
theorem dX12_next_166 : decode cX12_next 166 = .ok (.putfield 332, 3) := by decide +kernel
theorem dX12_next_169 : decode cX12_next 169 = .ok (.aload_n 0, 1) := by decide +kernel
theorem dX12_next_170 : decode cX12_next 170 = .ok (.dup, 1) := by decide +kernel
theorem dX12_next_171 : decode cX12_next 171 = .ok (.getfield 317, 3) := by decide +kernel
theorem dX12_next_174 : decode cX12_next 174 = .ok (.iconst 1, 1) := by decide +kernel
theorem dX12_next_175 : decode cX12_next 175 = .ok (.iadd, 1) := by decide +kernel
theorem dX12_next_176 : decode cX12_next 176 = .ok (.putfield 317, 3) := by decide +kernel
theorem dX12_next_179 : decode cX12_next 179 = .ok (.goto (-70), 3) := by decide +kernel
theorem dX12_next_182 : decode cX12_next 182 = .ok (.iload_n 1, 1) := by decide +kernel
theorem dX12_next_183 : decode cX12_next 183 = .ok (.invokestatic 339, 3) := by decide +kernel
theorem dX12_next_186 : decode cX12_next 186 = .ok (.ifCond .eq 96, 3) := by decide +kernel
theorem dX12_next_189 : decode cX12_next 189 = .ok (.aload_n 0, 1) := by decide +kernel
theorem dX12_next_190 : decode cX12_next 190 = .ok (.iconst 0, 1) := by decide +kernel
theorem dX12_next_191 : decode cX12_next 191 = .ok (.putfield 342, 3) := by decide +kernel
theorem dX12_next_194 : decode cX12_next 194 = .ok (.aload_n 0, 1) := by decide +kernel
theorem dX12_next_195 : decode cX12_next 195 = .ok (.aload_n 0, 1) := by decide +kernel
theorem dX12_next_196 : decode cX12_next 196 = .ok (.getfield 317, 3) := by decide +kernel
theorem dX12_next_199 : decode cX12_next 199 = .ok (.invokevirtual 323, 3) := by decide +kernel
theorem dX12_next_202 : decode cX12_next 202 = .ok (.invokestatic 339, 3) := by decide +kernel
theorem dX12_next_205 : decode cX12_next 205 = .ok (.ifCond .eq 52, 3) := by decide +kernel
theorem dX12_next_208 : decode cX12_next 208 = .ok (.aload_n 0, 1) := by decide +kernel
theorem dX12_next_209 : decode cX12_next 209 = .ok (.getfield 317, 3) := by decide +kernel
theorem dX12_next_212 : decode cX12_next 212 = .ok (.aload_n 0, 1) := by decide +kernel
theorem dX12_next_213 : decode cX12_next 213 = .ok (.getfield 320, 3) := by decide +kernel
theorem dX12_next_216 : decode cX12_next 216 = .ok (.isub, 1) := by decide +kernel
theorem dX12_next_217 : decode cX12_next 217 = .ok (.iconst 3, 1) := by decide +kernel
theorem dX12_next_218 : decode cX12_next 218 = .ok (.if_icmp .ge 26, 3) := by decide +kernel
theorem dX12_next_221 : decode cX12_next 221 = .ok (.aload_n 0, 1) := by decide +kernel
theorem dX12_next_222 : decode cX12_next 222 = .ok (.bipush 10, 2) := by decide +kernel
theorem dX12_next_224 : decode cX12_next 224 = .ok (.aload_n 0, 1) := by decide +kernel
theorem dX12_next_225 : decode cX12_next 225 = .ok (.getfield 342, 3) := by decide +kernel
theorem dX12_next_228 : decode cX12_next 228 = .ok (.imul, 1) := by decide +kernel
theorem dX12_next_229 : decode cX12_next 229 = .ok (.aload_n 0, 1) := by decide +kernel
theorem dX12_next_230 : decode cX12_next 230 = .ok (.aload_n 0, 1) := by decide +kernel
theorem dX12_next_231 : decode cX12_next 231 = .ok (.getfield 317, 3) := by decide +kernel
theorem dX12_next_234 : decode cX12_next 234 = .ok (.invokevirtual 323, 3) := by decide +kernel
theorem dX12_next_237 : decode cX12_next 237 = .ok (.iadd, 1) := by decide +kernel
theorem dX12_next_238 : decode cX12_next 238 = .ok (.bipush 48, 2) := by decide +kernel
theorem dX12_next_240 : decode cX12_next 240 = .ok (.isub, 1) := by decide +kernel
theorem dX12_next_241 : decode cX12_next 241 = .ok (.putfield 342, 3) := by decide +kernel
theorem dX12_next_244 : decode cX12_next 244 = .ok (.aload_n 0, 1) := by decide +kernel
theorem dX12_next_245 : decode cX12_next 245 = .ok (.dup, 1) := by decide +kernel
theorem dX12_next_246 : decode cX12_next 246 = .ok (.getfield 317, 3) := by decide +kernel
theorem dX12_next_249 : decode cX12_next 249 = .ok (.iconst 1, 1) := by decide +kernel
theorem dX12_next_250 : decode cX12_next 250 = .ok (.iadd, 1) := by decide +kernel
theorem dX12_next_251 : decode cX12_next 251 = .ok (.putfield 317, 3) := by decide +kernel
theorem dX12_next_254 : decode cX12_next 254 = .ok (.goto (-60), 3) := by decide +kernel
theorem dX12_next_257 : decode cX12_next 257 = .ok (.aload_n 0, 1) := by decide +kernel
theorem dX12_next_258 : decode cX12_next 258 = .ok (.aload_n 0, 1) := by decide +kernel
theorem dX12_next_259 : decode cX12_next 259 = .ok (.getfield 317, 3) := by decide +kernel
theorem dX12_next_262 : decode cX12_next 262 = .ok (.aload_n 0, 1) := by decide +kernel
theorem dX12_next_263 : decode cX12_next 263 = .ok (.getfield 320, 3) := by decide +kernel
theorem dX12_next_266 : decode cX12_next 266 = .ok (.isub, 1) := by decide +kernel
theorem dX12_next_267 : decode cX12_next 267 = .ok (.iconst 3, 1) := by decide +kernel
theorem dX12_next_268 : decode cX12_next 268 = .ok (.if_icmp .le 7, 3) := by decide +kernel
theorem dX12_next_271 : decode cX12_next 271 = .ok (.iconst 4, 1) := by decide +kernel
theorem dX12_next_272 : decode cX12_next 272 = .ok (.goto 4, 3) := by decide +kernel
theorem dX12_next_275 : decode cX12_next 275 = .ok (.iconst 2, 1) := by decide +kernel
theorem dX12_next_276 : decode cX12_next 276 = .ok (.putfield 326, 3) := by decide +kernel
theorem dX12_next_279 : decode cX12_next 279 = .ok (.goto 28, 3) := by decide +kernel
theorem dX12_next_282 : decode cX12_next 282 = .ok (.aload_n 0, 1) := by decide +kernel
theorem dX12_next_283 : decode cX12_next 283 = .ok (.aload_n 0, 1) := by decide +kernel
theorem dX12_next_284 : decode cX12_next 284 = .ok (.getfield 320, 3) := by decide +kernel
theorem dX12_next_287 : decode cX12_next 287 = .ok (.iconst 1, 1) := by decide +kernel
theorem dX12_next_288 : decode cX12_next 288 = .ok (.iadd, 1) := by decide +kernel
theorem dX12_next_289 : decode cX12_next 289 = .ok (.putfield 317, 3) := by decide +kernel
theorem dX12_next_292 : decode cX12_next 292 = .ok (.aload_n 0, 1) := by decide +kernel
theorem dX12_next_293 : decode cX12_next 293 = .ok (.iload_n 1, 1) := by decide +kernel
theorem dX12_next_294 : decode cX12_next 294 = .ok (.bipush 59, 2) := by decide +kernel
theorem dX12_next_296 : decode cX12_next 296 = .ok (.if_icmp .ne 7, 3) := by decide +kernel
theorem dX12_next_299 : decode cX12_next 299 = .ok (.iconst 3, 1) := by decide +kernel
theorem dX12_next_300 : decode cX12_next 300 = .ok (.goto 4, 3) := by decide +kernel
theorem dX12_next_303 : decode cX12_next 303 = .ok (.iconst 4, 1) := by decide +kernel
theorem dX12_next_304 : decode cX12_next 304 = .ok (.putfield 326, 3) := by decide +kernel
theorem dX12_next_307 : decode cX12_next 307 = .ok (.return_, 1) := by decide +kernel
theorem dX12_spelled_0 : decode cX12_spelled 0 = .ok (.iload_n 0, 1) := by decide +kernel
theorem dX12_spelled_1 : decode cX12_spelled 1 = .ok (.i2l, 1) := by decide +kernel
theorem dX12_spelled_2 : decode cX12_spelled 2 = .ok (.ldc2_w 337, 3) := by decide +kernel
theorem dX12_spelled_5 : decode cX12_spelled 5 = .ok (.lsub, 1) := by decide +kernel
theorem dX12_spelled_6 : decode cX12_spelled 6 = .ok (.lstore 6, 2) := by decide +kernel
theorem dX12_spelled_8 : decode cX12_spelled 8 = .ok (.lload 6, 2) := by decide +kernel
theorem dX12_spelled_10 : decode cX12_spelled 10 = .ok (.ldc2_w 335, 3) := by decide +kernel
theorem dX12_spelled_13 : decode cX12_spelled 13 = .ok (.lmul, 1) := by decide +kernel
theorem dX12_spelled_14 : decode cX12_spelled 14 = .ok (.iload_n 1, 1) := by decide +kernel
theorem dX12_spelled_15 : decode cX12_spelled 15 = .ok (.i2l, 1) := by decide +kernel
theorem dX12_spelled_16 : decode cX12_spelled 16 = .ok (.ladd, 1) := by decide +kernel
theorem dX12_spelled_17 : decode cX12_spelled 17 = .ok (.ldc2_w 337, 3) := by decide +kernel
theorem dX12_spelled_20 : decode cX12_spelled 20 = .ok (.lsub, 1) := by decide +kernel
theorem dX12_spelled_21 : decode cX12_spelled 21 = .ok (.lstore 6, 2) := by decide +kernel
theorem dX12_spelled_23 : decode cX12_spelled 23 = .ok (.lload 6, 2) := by decide +kernel
theorem dX12_spelled_25 : decode cX12_spelled 25 = .ok (.ldc2_w 335, 3) := by decide +kernel
theorem dX12_spelled_28 : decode cX12_spelled 28 = .ok (.lmul, 1) := by decide +kernel
theorem dX12_spelled_29 : decode cX12_spelled 29 = .ok (.iload_n 2, 1) := by decide +kernel
theorem dX12_spelled_30 : decode cX12_spelled 30 = .ok (.i2l, 1) := by decide +kernel
theorem dX12_spelled_31 : decode cX12_spelled 31 = .ok (.ladd, 1) := by decide +kernel
theorem dX12_spelled_32 : decode cX12_spelled 32 = .ok (.ldc2_w 337, 3) := by decide +kernel
theorem dX12_spelled_35 : decode cX12_spelled 35 = .ok (.lsub, 1) := by decide +kernel
theorem dX12_spelled_36 : decode cX12_spelled 36 = .ok (.lstore 6, 2) := by decide +kernel
theorem dX12_spelled_38 : decode cX12_spelled 38 = .ok (.iload_n 3, 1) := by decide +kernel
theorem dX12_spelled_39 : decode cX12_spelled 39 = .ok (.ifCond .le 19, 3) := by decide +kernel
theorem dX12_spelled_42 : decode cX12_spelled 42 = .ok (.lload 6, 2) := by decide +kernel
theorem dX12_spelled_44 : decode cX12_spelled 44 = .ok (.ldc2_w 335, 3) := by decide +kernel
theorem dX12_spelled_47 : decode cX12_spelled 47 = .ok (.lmul, 1) := by decide +kernel
theorem dX12_spelled_48 : decode cX12_spelled 48 = .ok (.iload_n 3, 1) := by decide +kernel
theorem dX12_spelled_49 : decode cX12_spelled 49 = .ok (.i2l, 1) := by decide +kernel
theorem dX12_spelled_50 : decode cX12_spelled 50 = .ok (.ladd, 1) := by decide +kernel
theorem dX12_spelled_51 : decode cX12_spelled 51 = .ok (.ldc2_w 337, 3) := by decide +kernel
theorem dX12_spelled_54 : decode cX12_spelled 54 = .ok (.lsub, 1) := by decide +kernel
theorem dX12_spelled_55 : decode cX12_spelled 55 = .ok (.goto 5, 3) := by decide +kernel
theorem dX12_spelled_58 : decode cX12_spelled 58 = .ok (.lload 6, 2) := by decide +kernel
theorem dX12_spelled_60 : decode cX12_spelled 60 = .ok (.lstore 6, 2) := by decide +kernel
theorem dX12_spelled_62 : decode cX12_spelled 62 = .ok (.iload 4, 2) := by decide +kernel
theorem dX12_spelled_64 : decode cX12_spelled 64 = .ok (.ifCond .le 20, 3) := by decide +kernel
theorem dX12_spelled_67 : decode cX12_spelled 67 = .ok (.lload 6, 2) := by decide +kernel
theorem dX12_spelled_69 : decode cX12_spelled 69 = .ok (.ldc2_w 335, 3) := by decide +kernel
theorem dX12_spelled_72 : decode cX12_spelled 72 = .ok (.lmul, 1) := by decide +kernel
theorem dX12_spelled_73 : decode cX12_spelled 73 = .ok (.iload 4, 2) := by decide +kernel
theorem dX12_spelled_75 : decode cX12_spelled 75 = .ok (.i2l, 1) := by decide +kernel
theorem dX12_spelled_76 : decode cX12_spelled 76 = .ok (.ladd, 1) := by decide +kernel
theorem dX12_spelled_77 : decode cX12_spelled 77 = .ok (.ldc2_w 337, 3) := by decide +kernel
theorem dX12_spelled_80 : decode cX12_spelled 80 = .ok (.lsub, 1) := by decide +kernel
theorem dX12_spelled_81 : decode cX12_spelled 81 = .ok (.goto 5, 3) := by decide +kernel
theorem dX12_spelled_84 : decode cX12_spelled 84 = .ok (.lload 6, 2) := by decide +kernel
theorem dX12_spelled_86 : decode cX12_spelled 86 = .ok (.lstore 6, 2) := by decide +kernel
theorem dX12_spelled_88 : decode cX12_spelled 88 = .ok (.iload 5, 2) := by decide +kernel
theorem dX12_spelled_90 : decode cX12_spelled 90 = .ok (.ifCond .le 20, 3) := by decide +kernel
theorem dX12_spelled_93 : decode cX12_spelled 93 = .ok (.lload 6, 2) := by decide +kernel
theorem dX12_spelled_95 : decode cX12_spelled 95 = .ok (.ldc2_w 335, 3) := by decide +kernel
theorem dX12_spelled_98 : decode cX12_spelled 98 = .ok (.lmul, 1) := by decide +kernel
theorem dX12_spelled_99 : decode cX12_spelled 99 = .ok (.iload 5, 2) := by decide +kernel
theorem dX12_spelled_101 : decode cX12_spelled 101 = .ok (.i2l, 1) := by decide +kernel
theorem dX12_spelled_102 : decode cX12_spelled 102 = .ok (.ladd, 1) := by decide +kernel
theorem dX12_spelled_103 : decode cX12_spelled 103 = .ok (.ldc2_w 337, 3) := by decide +kernel
theorem dX12_spelled_106 : decode cX12_spelled 106 = .ok (.lsub, 1) := by decide +kernel
theorem dX12_spelled_107 : decode cX12_spelled 107 = .ok (.goto 5, 3) := by decide +kernel
theorem dX12_spelled_110 : decode cX12_spelled 110 = .ok (.lload 6, 2) := by decide +kernel
theorem dX12_spelled_112 : decode cX12_spelled 112 = .ok (.lreturn, 1) := by decide +kernel
theorem dX12_isWord_0 : decode cX12_isWord 0 = .ok (.aload_n 0, 1) := by decide +kernel
theorem dX12_isWord_1 : decode cX12_isWord 1 = .ok (.getfield 326, 3) := by decide +kernel
theorem dX12_isWord_4 : decode cX12_isWord 4 = .ok (.iconst 1, 1) := by decide +kernel
theorem dX12_isWord_5 : decode cX12_isWord 5 = .ok (.if_icmp .ne 16, 3) := by decide +kernel
theorem dX12_isWord_8 : decode cX12_isWord 8 = .ok (.aload_n 0, 1) := by decide +kernel
theorem dX12_isWord_9 : decode cX12_isWord 9 = .ok (.getfield 332, 3) := by decide +kernel
theorem dX12_isWord_12 : decode cX12_isWord 12 = .ok (.lload_n 1, 1) := by decide +kernel
theorem dX12_isWord_13 : decode cX12_isWord 13 = .ok (.lcmp, 1) := by decide +kernel
theorem dX12_isWord_14 : decode cX12_isWord 14 = .ok (.ifCond .ne 7, 3) := by decide +kernel
theorem dX12_isWord_17 : decode cX12_isWord 17 = .ok (.iconst 1, 1) := by decide +kernel
theorem dX12_isWord_18 : decode cX12_isWord 18 = .ok (.goto 4, 3) := by decide +kernel
theorem dX12_isWord_21 : decode cX12_isWord 21 = .ok (.iconst 0, 1) := by decide +kernel
theorem dX12_isWord_22 : decode cX12_isWord 22 = .ok (.ireturn, 1) := by decide +kernel
theorem dX12_fail_0 : decode cX12_fail 0 = .ok (.aload_n 0, 1) := by decide +kernel
theorem dX12_fail_1 : decode cX12_fail 1 = .ok (.getfield 345, 3) := by decide +kernel
theorem dX12_fail_4 : decode cX12_fail 4 = .ok (.ifCond .le 4, 3) := by decide +kernel
theorem dX12_fail_7 : decode cX12_fail 7 = .ok (.return_, 1) := by decide +kernel
theorem dX12_fail_8 : decode cX12_fail 8 = .ok (.aload_n 0, 1) := by decide +kernel
theorem dX12_fail_9 : decode cX12_fail 9 = .ok (.iload_n 1, 1) := by decide +kernel
theorem dX12_fail_10 : decode cX12_fail 10 = .ok (.putfield 345, 3) := by decide +kernel
theorem dX12_fail_13 : decode cX12_fail 13 = .ok (.aload_n 0, 1) := by decide +kernel
theorem dX12_fail_14 : decode cX12_fail 14 = .ok (.iload_n 2, 1) := by decide +kernel
theorem dX12_fail_15 : decode cX12_fail 15 = .ok (.putfield 348, 3) := by decide +kernel
theorem dX12_fail_18 : decode cX12_fail 18 = .ok (.return_, 1) := by decide +kernel
theorem dX12_wrong_0 : decode cX12_wrong 0 = .ok (.aload_n 0, 1) := by decide +kernel
theorem dX12_wrong_1 : decode cX12_wrong 1 = .ok (.aload_n 0, 1) := by decide +kernel
theorem dX12_wrong_2 : decode cX12_wrong 2 = .ok (.getfield 326, 3) := by decide +kernel
theorem dX12_wrong_5 : decode cX12_wrong 5 = .ok (.iconst 4, 1) := by decide +kernel
theorem dX12_wrong_6 : decode cX12_wrong 6 = .ok (.if_icmp .ne 7, 3) := by decide +kernel
theorem dX12_wrong_9 : decode cX12_wrong 9 = .ok (.iconst 1, 1) := by decide +kernel
theorem dX12_wrong_10 : decode cX12_wrong 10 = .ok (.goto 4, 3) := by decide +kernel
theorem dX12_wrong_13 : decode cX12_wrong 13 = .ok (.iconst 2, 1) := by decide +kernel
theorem dX12_wrong_14 : decode cX12_wrong 14 = .ok (.aload_n 0, 1) := by decide +kernel
theorem dX12_wrong_15 : decode cX12_wrong 15 = .ok (.getfield 320, 3) := by decide +kernel
theorem dX12_wrong_18 : decode cX12_wrong 18 = .ok (.invokevirtual 351, 3) := by decide +kernel
theorem dX12_wrong_21 : decode cX12_wrong 21 = .ok (.return_, 1) := by decide +kernel
theorem dX12_numberOf_0 : decode cX12_numberOf 0 = .ok (.aload_n 0, 1) := by decide +kernel
theorem dX12_numberOf_1 : decode cX12_numberOf 1 = .ok (.getfield 326, 3) := by decide +kernel
theorem dX12_numberOf_4 : decode cX12_numberOf 4 = .ok (.iconst 2, 1) := by decide +kernel
theorem dX12_numberOf_5 : decode cX12_numberOf 5 = .ok (.if_icmp .eq 9, 3) := by decide +kernel
theorem dX12_numberOf_8 : decode cX12_numberOf 8 = .ok (.aload_n 0, 1) := by decide +kernel
theorem dX12_numberOf_9 : decode cX12_numberOf 9 = .ok (.invokevirtual 355, 3) := by decide +kernel
theorem dX12_numberOf_12 : decode cX12_numberOf 12 = .ok (.iload_n 1, 1) := by decide +kernel
theorem dX12_numberOf_13 : decode cX12_numberOf 13 = .ok (.ireturn, 1) := by decide +kernel
theorem dX12_numberOf_14 : decode cX12_numberOf 14 = .ok (.aload_n 0, 1) := by decide +kernel
theorem dX12_numberOf_15 : decode cX12_numberOf 15 = .ok (.getfield 342, 3) := by decide +kernel
theorem dX12_numberOf_18 : decode cX12_numberOf 18 = .ok (.istore_n 3, 1) := by decide +kernel
theorem dX12_numberOf_19 : decode cX12_numberOf 19 = .ok (.iload_n 3, 1) := by decide +kernel
theorem dX12_numberOf_20 : decode cX12_numberOf 20 = .ok (.iload_n 1, 1) := by decide +kernel
theorem dX12_numberOf_21 : decode cX12_numberOf 21 = .ok (.if_icmp .lt 8, 3) := by decide +kernel
theorem dX12_numberOf_24 : decode cX12_numberOf 24 = .ok (.iload_n 3, 1) := by decide +kernel
theorem dX12_numberOf_25 : decode cX12_numberOf 25 = .ok (.iload_n 2, 1) := by decide +kernel
theorem dX12_numberOf_26 : decode cX12_numberOf 26 = .ok (.if_icmp .le 12, 3) := by decide +kernel
theorem dX12_numberOf_29 : decode cX12_numberOf 29 = .ok (.aload_n 0, 1) := by decide +kernel
theorem dX12_numberOf_30 : decode cX12_numberOf 30 = .ok (.iconst 4, 1) := by decide +kernel
theorem dX12_numberOf_31 : decode cX12_numberOf 31 = .ok (.aload_n 0, 1) := by decide +kernel
theorem dX12_numberOf_32 : decode cX12_numberOf 32 = .ok (.getfield 320, 3) := by decide +kernel
theorem dX12_numberOf_35 : decode cX12_numberOf 35 = .ok (.invokevirtual 351, 3) := by decide +kernel
theorem dX12_numberOf_38 : decode cX12_numberOf 38 = .ok (.aload_n 0, 1) := by decide +kernel
theorem dX12_numberOf_39 : decode cX12_numberOf 39 = .ok (.getfield 345, 3) := by decide +kernel
theorem dX12_numberOf_42 : decode cX12_numberOf 42 = .ok (.ifCond .ne 7, 3) := by decide +kernel
theorem dX12_numberOf_45 : decode cX12_numberOf 45 = .ok (.aload_n 0, 1) := by decide +kernel
theorem dX12_numberOf_46 : decode cX12_numberOf 46 = .ok (.invokevirtual 358, 3) := by decide +kernel
theorem dX12_numberOf_49 : decode cX12_numberOf 49 = .ok (.aload_n 0, 1) := by decide +kernel
theorem dX12_numberOf_50 : decode cX12_numberOf 50 = .ok (.getfield 345, 3) := by decide +kernel
theorem dX12_numberOf_53 : decode cX12_numberOf 53 = .ok (.ifCond .ne 7, 3) := by decide +kernel
theorem dX12_numberOf_56 : decode cX12_numberOf 56 = .ok (.iload_n 3, 1) := by decide +kernel
theorem dX12_numberOf_57 : decode cX12_numberOf 57 = .ok (.goto 4, 3) := by decide +kernel
theorem dX12_numberOf_60 : decode cX12_numberOf 60 = .ok (.iload_n 1, 1) := by decide +kernel
theorem dX12_numberOf_61 : decode cX12_numberOf 61 = .ok (.ireturn, 1) := by decide +kernel
theorem dX12_wishOf_0 : decode cX12_wishOf 0 = .ok (.aload_n 0, 1) := by decide +kernel
theorem dX12_wishOf_1 : decode cX12_wishOf 1 = .ok (.bipush 102, 2) := by decide +kernel
theorem dX12_wishOf_3 : decode cX12_wishOf 3 = .ok (.bipush 105, 2) := by decide +kernel
theorem dX12_wishOf_5 : decode cX12_wishOf 5 = .ok (.bipush 101, 2) := by decide +kernel
theorem dX12_wishOf_7 : decode cX12_wishOf 7 = .ok (.bipush 108, 2) := by decide +kernel
theorem dX12_wishOf_9 : decode cX12_wishOf 9 = .ok (.bipush 100, 2) := by decide +kernel
theorem dX12_wishOf_11 : decode cX12_wishOf 11 = .ok (.iconst 0, 1) := by decide +kernel
theorem dX12_wishOf_12 : decode cX12_wishOf 12 = .ok (.invokestatic 361, 3) := by decide +kernel
theorem dX12_wishOf_15 : decode cX12_wishOf 15 = .ok (.invokevirtual 365, 3) := by decide +kernel
theorem dX12_wishOf_18 : decode cX12_wishOf 18 = .ok (.ifCond .eq 5, 3) := by decide +kernel
theorem dX12_wishOf_21 : decode cX12_wishOf 21 = .ok (.iconst 0, 1) := by decide +kernel
theorem dX12_wishOf_22 : decode cX12_wishOf 22 = .ok (.ireturn, 1) := by decide +kernel
theorem dX12_wishOf_23 : decode cX12_wishOf 23 = .ok (.aload_n 0, 1) := by decide +kernel
theorem dX12_wishOf_24 : decode cX12_wishOf 24 = .ok (.bipush 97, 2) := by decide +kernel
theorem dX12_wishOf_26 : decode cX12_wishOf 26 = .ok (.bipush 103, 2) := by decide +kernel
theorem dX12_wishOf_28 : decode cX12_wishOf 28 = .ok (.bipush 101, 2) := by decide +kernel
theorem dX12_wishOf_30 : decode cX12_wishOf 30 = .ok (.iconst 0, 1) := by decide +kernel
theorem dX12_wishOf_31 : decode cX12_wishOf 31 = .ok (.iconst 0, 1) := by decide +kernel
theorem dX12_wishOf_32 : decode cX12_wishOf 32 = .ok (.iconst 0, 1) := by decide +kernel
theorem dX12_wishOf_33 : decode cX12_wishOf 33 = .ok (.invokestatic 361, 3) := by decide +kernel
theorem dX12_wishOf_36 : decode cX12_wishOf 36 = .ok (.invokevirtual 365, 3) := by decide +kernel
theorem dX12_wishOf_39 : decode cX12_wishOf 39 = .ok (.ifCond .eq 5, 3) := by decide +kernel
theorem dX12_wishOf_42 : decode cX12_wishOf 42 = .ok (.iconst 1, 1) := by decide +kernel
theorem dX12_wishOf_43 : decode cX12_wishOf 43 = .ok (.ireturn, 1) := by decide +kernel
theorem dX12_wishOf_44 : decode cX12_wishOf 44 = .ok (.aload_n 0, 1) := by decide +kernel
theorem dX12_wishOf_45 : decode cX12_wishOf 45 = .ok (.bipush 115, 2) := by decide +kernel
theorem dX12_wishOf_47 : decode cX12_wishOf 47 = .ok (.bipush 99, 2) := by decide +kernel
theorem dX12_wishOf_49 : decode cX12_wishOf 49 = .ok (.bipush 104, 2) := by decide +kernel
theorem dX12_wishOf_51 : decode cX12_wishOf 51 = .ok (.bipush 111, 2) := by decide +kernel
theorem dX12_wishOf_53 : decode cX12_wishOf 53 = .ok (.bipush 111, 2) := by decide +kernel
theorem dX12_wishOf_55 : decode cX12_wishOf 55 = .ok (.bipush 108, 2) := by decide +kernel
theorem dX12_wishOf_57 : decode cX12_wishOf 57 = .ok (.invokestatic 361, 3) := by decide +kernel
theorem dX12_wishOf_60 : decode cX12_wishOf 60 = .ok (.invokevirtual 365, 3) := by decide +kernel
theorem dX12_wishOf_63 : decode cX12_wishOf 63 = .ok (.ifCond .eq 5, 3) := by decide +kernel
theorem dX12_wishOf_66 : decode cX12_wishOf 66 = .ok (.iconst 2, 1) := by decide +kernel
theorem dX12_wishOf_67 : decode cX12_wishOf 67 = .ok (.ireturn, 1) := by decide +kernel
theorem dX12_wishOf_68 : decode cX12_wishOf 68 = .ok (.aload_n 0, 1) := by decide +kernel
theorem dX12_wishOf_69 : decode cX12_wishOf 69 = .ok (.bipush 115, 2) := by decide +kernel
theorem dX12_wishOf_71 : decode cX12_wishOf 71 = .ok (.bipush 101, 2) := by decide +kernel
theorem dX12_wishOf_73 : decode cX12_wishOf 73 = .ok (.bipush 101, 2) := by decide +kernel
theorem dX12_wishOf_75 : decode cX12_wishOf 75 = .ok (.bipush 110, 2) := by decide +kernel
theorem dX12_wishOf_77 : decode cX12_wishOf 77 = .ok (.iconst 0, 1) := by decide +kernel
theorem dX12_wishOf_78 : decode cX12_wishOf 78 = .ok (.iconst 0, 1) := by decide +kernel
theorem dX12_wishOf_79 : decode cX12_wishOf 79 = .ok (.invokestatic 361, 3) := by decide +kernel
theorem dX12_wishOf_82 : decode cX12_wishOf 82 = .ok (.invokevirtual 365, 3) := by decide +kernel
theorem dX12_wishOf_85 : decode cX12_wishOf 85 = .ok (.ifCond .eq 7, 3) := by decide +kernel
theorem dX12_wishOf_88 : decode cX12_wishOf 88 = .ok (.iconst 3, 1) := by decide +kernel
theorem dX12_wishOf_89 : decode cX12_wishOf 89 = .ok (.goto 4, 3) := by decide +kernel
theorem dX12_wishOf_92 : decode cX12_wishOf 92 = .ok (.iconst (-1), 1) := by decide +kernel
theorem dX12_wishOf_93 : decode cX12_wishOf 93 = .ok (.ireturn, 1) := by decide +kernel
theorem dX12_readPrize_0 : decode cX12_readPrize 0 = .ok (.aload_n 0, 1) := by decide +kernel
theorem dX12_readPrize_1 : decode cX12_readPrize 1 = .ok (.getfield 369, 3) := by decide +kernel
theorem dX12_readPrize_4 : decode cX12_readPrize 4 = .ok (.bipush 8, 2) := by decide +kernel
theorem dX12_readPrize_6 : decode cX12_readPrize 6 = .ok (.if_icmp .ne 13, 3) := by decide +kernel
theorem dX12_readPrize_9 : decode cX12_readPrize 9 = .ok (.aload_n 0, 1) := by decide +kernel
theorem dX12_readPrize_10 : decode cX12_readPrize 10 = .ok (.iconst 3, 1) := by decide +kernel
theorem dX12_readPrize_11 : decode cX12_readPrize 11 = .ok (.aload_n 0, 1) := by decide +kernel
theorem dX12_readPrize_12 : decode cX12_readPrize 12 = .ok (.getfield 320, 3) := by decide +kernel
theorem dX12_readPrize_15 : decode cX12_readPrize 15 = .ok (.invokevirtual 351, 3) := by decide +kernel
theorem dX12_readPrize_18 : decode cX12_readPrize 18 = .ok (.return_, 1) := by decide +kernel
theorem dX12_readPrize_19 : decode cX12_readPrize 19 = .ok (.aload_n 0, 1) := by decide +kernel
theorem dX12_readPrize_20 : decode cX12_readPrize 20 = .ok (.getfield 369, 3) := by decide +kernel
theorem dX12_readPrize_23 : decode cX12_readPrize 23 = .ok (.istore_n 1, 1) := by decide +kernel
theorem dX12_readPrize_24 : decode cX12_readPrize 24 = .ok (.aload_n 0, 1) := by decide +kernel
theorem dX12_readPrize_25 : decode cX12_readPrize 25 = .ok (.invokevirtual 358, 3) := by decide +kernel
theorem dX12_readPrize_28 : decode cX12_readPrize 28 = .ok (.aload_n 0, 1) := by decide +kernel
theorem dX12_readPrize_29 : decode cX12_readPrize 29 = .ok (.getfield 141, 3) := by decide +kernel
theorem dX12_readPrize_32 : decode cX12_readPrize 32 = .ok (.iload_n 1, 1) := by decide +kernel
theorem dX12_readPrize_33 : decode cX12_readPrize 33 = .ok (.iconst (-1), 1) := by decide +kernel
theorem dX12_readPrize_34 : decode cX12_readPrize 34 = .ok (.iastore, 1) := by decide +kernel
theorem dX12_readPrize_35 : decode cX12_readPrize 35 = .ok (.aload_n 0, 1) := by decide +kernel
theorem dX12_readPrize_36 : decode cX12_readPrize 36 = .ok (.getfield 144, 3) := by decide +kernel
theorem dX12_readPrize_39 : decode cX12_readPrize 39 = .ok (.iload_n 1, 1) := by decide +kernel
theorem dX12_readPrize_40 : decode cX12_readPrize 40 = .ok (.iconst (-1), 1) := by decide +kernel
theorem dX12_readPrize_41 : decode cX12_readPrize 41 = .ok (.iastore, 1) := by decide +kernel
theorem dX12_readPrize_42 : decode cX12_readPrize 42 = .ok (.aload_n 0, 1) := by decide +kernel
theorem dX12_readPrize_43 : decode cX12_readPrize 43 = .ok (.getfield 147, 3) := by decide +kernel
theorem dX12_readPrize_46 : decode cX12_readPrize 46 = .ok (.iload_n 1, 1) := by decide +kernel
theorem dX12_readPrize_47 : decode cX12_readPrize 47 = .ok (.iconst (-1), 1) := by decide +kernel
theorem dX12_readPrize_48 : decode cX12_readPrize 48 = .ok (.iastore, 1) := by decide +kernel
theorem dX12_readPrize_49 : decode cX12_readPrize 49 = .ok (.aload_n 0, 1) := by decide +kernel
theorem dX12_readPrize_50 : decode cX12_readPrize 50 = .ok (.getfield 150, 3) := by decide +kernel
theorem dX12_readPrize_53 : decode cX12_readPrize 53 = .ok (.iload_n 1, 1) := by decide +kernel
theorem dX12_readPrize_54 : decode cX12_readPrize 54 = .ok (.iconst 1, 1) := by decide +kernel
theorem dX12_readPrize_55 : decode cX12_readPrize 55 = .ok (.iastore, 1) := by decide +kernel
theorem dX12_readPrize_56 : decode cX12_readPrize 56 = .ok (.aload_n 0, 1) := by decide +kernel
theorem dX12_readPrize_57 : decode cX12_readPrize 57 = .ok (.getfield 156, 3) := by decide +kernel
theorem dX12_readPrize_60 : decode cX12_readPrize 60 = .ok (.iload_n 1, 1) := by decide +kernel
theorem dX12_readPrize_61 : decode cX12_readPrize 61 = .ok (.iconst 0, 1) := by decide +kernel
theorem dX12_readPrize_62 : decode cX12_readPrize 62 = .ok (.bastore, 1) := by decide +kernel
theorem dX12_readPrize_63 : decode cX12_readPrize 63 = .ok (.iconst 0, 1) := by decide +kernel
theorem dX12_readPrize_64 : decode cX12_readPrize 64 = .ok (.istore_n 2, 1) := by decide +kernel
theorem dX12_readPrize_65 : decode cX12_readPrize 65 = .ok (.aload_n 0, 1) := by decide +kernel
theorem dX12_readPrize_66 : decode cX12_readPrize 66 = .ok (.invokevirtual 372, 3) := by decide +kernel
theorem dX12_readPrize_69 : decode cX12_readPrize 69 = .ok (.istore_n 3, 1) := by decide +kernel
theorem dX12_readPrize_70 : decode cX12_readPrize 70 = .ok (.iload_n 3, 1) := by decide +kernel
theorem dX12_readPrize_71 : decode cX12_readPrize 71 = .ok (.ifCond .lt 166, 3) := by decide +kernel
theorem dX12_readPrize_74 : decode cX12_readPrize 74 = .ok (.aload_n 0, 1) := by decide +kernel
theorem dX12_readPrize_75 : decode cX12_readPrize 75 = .ok (.getfield 345, 3) := by decide +kernel
theorem dX12_readPrize_78 : decode cX12_readPrize 78 = .ok (.ifCond .ne 159, 3) := by decide +kernel
theorem dX12_readPrize_81 : decode cX12_readPrize 81 = .ok (.iload_n 2, 1) := by decide +kernel
theorem dX12_readPrize_82 : decode cX12_readPrize 82 = .ok (.iload_n 3, 1) := by decide +kernel
theorem dX12_readPrize_83 : decode cX12_readPrize 83 = .ok (.ishr, 1) := by decide +kernel
theorem dX12_readPrize_84 : decode cX12_readPrize 84 = .ok (.iconst 1, 1) := by decide +kernel
theorem dX12_readPrize_85 : decode cX12_readPrize 85 = .ok (.iand, 1) := by decide +kernel
theorem dX12_readPrize_86 : decode cX12_readPrize 86 = .ok (.iconst 1, 1) := by decide +kernel
theorem dX12_readPrize_87 : decode cX12_readPrize 87 = .ok (.if_icmp .ne 12, 3) := by decide +kernel
theorem dX12_readPrize_90 : decode cX12_readPrize 90 = .ok (.aload_n 0, 1) := by decide +kernel
theorem dX12_readPrize_91 : decode cX12_readPrize 91 = .ok (.iconst 5, 1) := by decide +kernel
theorem dX12_readPrize_92 : decode cX12_readPrize 92 = .ok (.aload_n 0, 1) := by decide +kernel
theorem dX12_readPrize_93 : decode cX12_readPrize 93 = .ok (.getfield 320, 3) := by decide +kernel
theorem dX12_readPrize_96 : decode cX12_readPrize 96 = .ok (.invokevirtual 351, 3) := by decide +kernel
theorem dX12_readPrize_99 : decode cX12_readPrize 99 = .ok (.iload_n 2, 1) := by decide +kernel
theorem dX12_readPrize_100 : decode cX12_readPrize 100 = .ok (.iconst 1, 1) := by decide +kernel
theorem dX12_readPrize_101 : decode cX12_readPrize 101 = .ok (.iload_n 3, 1) := by decide +kernel
theorem dX12_readPrize_102 : decode cX12_readPrize 102 = .ok (.ishl, 1) := by decide +kernel
theorem dX12_readPrize_103 : decode cX12_readPrize 103 = .ok (.ior, 1) := by decide +kernel
theorem dX12_readPrize_104 : decode cX12_readPrize 104 = .ok (.istore_n 2, 1) := by decide +kernel
theorem dX12_readPrize_105 : decode cX12_readPrize 105 = .ok (.aload_n 0, 1) := by decide +kernel
theorem dX12_readPrize_106 : decode cX12_readPrize 106 = .ok (.getfield 345, 3) := by decide +kernel
theorem dX12_readPrize_109 : decode cX12_readPrize 109 = .ok (.ifCond .le 4, 3) := by decide +kernel
theorem dX12_readPrize_112 : decode cX12_readPrize 112 = .ok (.return_, 1) := by decide +kernel
theorem dX12_readPrize_113 : decode cX12_readPrize 113 = .ok (.aload_n 0, 1) := by decide +kernel
theorem dX12_readPrize_114 : decode cX12_readPrize 114 = .ok (.invokevirtual 358, 3) := by decide +kernel
theorem dX12_readPrize_117 : decode cX12_readPrize 117 = .ok (.aload_n 0, 1) := by decide +kernel
theorem dX12_readPrize_118 : decode cX12_readPrize 118 = .ok (.iload_n 3, 1) := by decide +kernel
theorem dX12_readPrize_119 : decode cX12_readPrize 119 = .ok (.iconst 3, 1) := by decide +kernel
theorem dX12_readPrize_120 : decode cX12_readPrize 120 = .ok (.if_icmp .ne 7, 3) := by decide +kernel
theorem dX12_readPrize_123 : decode cX12_readPrize 123 = .ok (.iconst 1, 1) := by decide +kernel
theorem dX12_readPrize_124 : decode cX12_readPrize 124 = .ok (.goto 4, 3) := by decide +kernel
theorem dX12_readPrize_127 : decode cX12_readPrize 127 = .ok (.iconst 0, 1) := by decide +kernel
theorem dX12_readPrize_128 : decode cX12_readPrize 128 = .ok (.iload_n 3, 1) := by decide +kernel
theorem dX12_readPrize_129 : decode cX12_readPrize 129 = .ok (.ifCond .ne 8, 3) := by decide +kernel
theorem dX12_readPrize_132 : decode cX12_readPrize 132 = .ok (.bipush 7, 2) := by decide +kernel
theorem dX12_readPrize_134 : decode cX12_readPrize 134 = .ok (.goto 24, 3) := by decide +kernel
theorem dX12_readPrize_137 : decode cX12_readPrize 137 = .ok (.iload_n 3, 1) := by decide +kernel
theorem dX12_readPrize_138 : decode cX12_readPrize 138 = .ok (.iconst 1, 1) := by decide +kernel
theorem dX12_readPrize_139 : decode cX12_readPrize 139 = .ok (.if_icmp .ne 7, 3) := by decide +kernel
theorem dX12_readPrize_142 : decode cX12_readPrize 142 = .ok (.iconst 3, 1) := by decide +kernel
theorem dX12_readPrize_143 : decode cX12_readPrize 143 = .ok (.goto 15, 3) := by decide +kernel
theorem dX12_readPrize_146 : decode cX12_readPrize 146 = .ok (.iload_n 3, 1) := by decide +kernel
theorem dX12_readPrize_147 : decode cX12_readPrize 147 = .ok (.iconst 2, 1) := by decide +kernel
theorem dX12_readPrize_148 : decode cX12_readPrize 148 = .ok (.if_icmp .ne 8, 3) := by decide +kernel
theorem dX12_readPrize_151 : decode cX12_readPrize 151 = .ok (.bipush 15, 2) := by decide +kernel
theorem dX12_readPrize_153 : decode cX12_readPrize 153 = .ok (.goto 5, 3) := by decide +kernel
theorem dX12_readPrize_156 : decode cX12_readPrize 156 = .ok (.bipush 12, 2) := by decide +kernel
theorem dX12_readPrize_158 : decode cX12_readPrize 158 = .ok (.invokevirtual 375, 3) := by decide +kernel
theorem dX12_readPrize_161 : decode cX12_readPrize 161 = .ok (.istore 4, 2) := by decide +kernel
theorem dX12_readPrize_163 : decode cX12_readPrize 163 = .ok (.iload_n 3, 1) := by decide +kernel
theorem dX12_readPrize_164 : decode cX12_readPrize 164 = .ok (.ifCond .ne 14, 3) := by decide +kernel
theorem dX12_readPrize_167 : decode cX12_readPrize 167 = .ok (.aload_n 0, 1) := by decide +kernel
theorem dX12_readPrize_168 : decode cX12_readPrize 168 = .ok (.getfield 141, 3) := by decide +kernel
theorem dX12_readPrize_171 : decode cX12_readPrize 171 = .ok (.iload_n 1, 1) := by decide +kernel
theorem dX12_readPrize_172 : decode cX12_readPrize 172 = .ok (.iload 4, 2) := by decide +kernel
theorem dX12_readPrize_174 : decode cX12_readPrize 174 = .ok (.iastore, 1) := by decide +kernel
theorem dX12_readPrize_175 : decode cX12_readPrize 175 = .ok (.goto 43, 3) := by decide +kernel
theorem dX12_readPrize_178 : decode cX12_readPrize 178 = .ok (.iload_n 3, 1) := by decide +kernel
theorem dX12_readPrize_179 : decode cX12_readPrize 179 = .ok (.iconst 1, 1) := by decide +kernel
theorem dX12_readPrize_180 : decode cX12_readPrize 180 = .ok (.if_icmp .ne 14, 3) := by decide +kernel
theorem dX12_readPrize_183 : decode cX12_readPrize 183 = .ok (.aload_n 0, 1) := by decide +kernel
theorem dX12_readPrize_184 : decode cX12_readPrize 184 = .ok (.getfield 144, 3) := by decide +kernel
theorem dX12_readPrize_187 : decode cX12_readPrize 187 = .ok (.iload_n 1, 1) := by decide +kernel
theorem dX12_readPrize_188 : decode cX12_readPrize 188 = .ok (.iload 4, 2) := by decide +kernel
theorem dX12_readPrize_190 : decode cX12_readPrize 190 = .ok (.iastore, 1) := by decide +kernel
theorem dX12_readPrize_191 : decode cX12_readPrize 191 = .ok (.goto 27, 3) := by decide +kernel
theorem dX12_readPrize_194 : decode cX12_readPrize 194 = .ok (.iload_n 3, 1) := by decide +kernel
theorem dX12_readPrize_195 : decode cX12_readPrize 195 = .ok (.iconst 2, 1) := by decide +kernel
theorem dX12_readPrize_196 : decode cX12_readPrize 196 = .ok (.if_icmp .ne 14, 3) := by decide +kernel
theorem dX12_readPrize_199 : decode cX12_readPrize 199 = .ok (.aload_n 0, 1) := by decide +kernel
theorem dX12_readPrize_200 : decode cX12_readPrize 200 = .ok (.getfield 147, 3) := by decide +kernel
theorem dX12_readPrize_203 : decode cX12_readPrize 203 = .ok (.iload_n 1, 1) := by decide +kernel
theorem dX12_readPrize_204 : decode cX12_readPrize 204 = .ok (.iload 4, 2) := by decide +kernel
theorem dX12_readPrize_206 : decode cX12_readPrize 206 = .ok (.iastore, 1) := by decide +kernel
theorem dX12_readPrize_207 : decode cX12_readPrize 207 = .ok (.goto 11, 3) := by decide +kernel
theorem dX12_readPrize_210 : decode cX12_readPrize 210 = .ok (.aload_n 0, 1) := by decide +kernel
theorem dX12_readPrize_211 : decode cX12_readPrize 211 = .ok (.getfield 150, 3) := by decide +kernel
theorem dX12_readPrize_214 : decode cX12_readPrize 214 = .ok (.iload_n 1, 1) := by decide +kernel
theorem dX12_readPrize_215 : decode cX12_readPrize 215 = .ok (.iload 4, 2) := by decide +kernel
theorem dX12_readPrize_217 : decode cX12_readPrize 217 = .ok (.iastore, 1) := by decide +kernel
theorem dX12_readPrize_218 : decode cX12_readPrize 218 = .ok (.aload_n 0, 1) := by decide +kernel
theorem dX12_readPrize_219 : decode cX12_readPrize 219 = .ok (.getfield 345, 3) := by decide +kernel
theorem dX12_readPrize_222 : decode cX12_readPrize 222 = .ok (.ifCond .ne 10, 3) := by decide +kernel
theorem dX12_readPrize_225 : decode cX12_readPrize 225 = .ok (.aload_n 0, 1) := by decide +kernel
theorem dX12_readPrize_226 : decode cX12_readPrize 226 = .ok (.invokevirtual 372, 3) := by decide +kernel
theorem dX12_readPrize_229 : decode cX12_readPrize 229 = .ok (.goto 4, 3) := by decide +kernel
theorem dX12_readPrize_232 : decode cX12_readPrize 232 = .ok (.iconst (-1), 1) := by decide +kernel
theorem dX12_readPrize_233 : decode cX12_readPrize 233 = .ok (.istore_n 3, 1) := by decide +kernel
theorem dX12_readPrize_234 : decode cX12_readPrize 234 = .ok (.goto (-164), 3) := by decide +kernel
theorem dX12_readPrize_237 : decode cX12_readPrize 237 = .ok (.aload_n 0, 1) := by decide +kernel
theorem dX12_readPrize_238 : decode cX12_readPrize 238 = .ok (.getfield 345, 3) := by decide +kernel
theorem dX12_readPrize_241 : decode cX12_readPrize 241 = .ok (.ifCond .le 4, 3) := by decide +kernel
theorem dX12_readPrize_244 : decode cX12_readPrize 244 = .ok (.return_, 1) := by decide +kernel
theorem dX12_readPrize_245 : decode cX12_readPrize 245 = .ok (.aload_n 0, 1) := by decide +kernel
theorem dX12_readPrize_246 : decode cX12_readPrize 246 = .ok (.bipush 98, 2) := by decide +kernel
theorem dX12_readPrize_248 : decode cX12_readPrize 248 = .ok (.bipush 101, 2) := by decide +kernel
theorem dX12_readPrize_250 : decode cX12_readPrize 250 = .ok (.bipush 115, 2) := by decide +kernel
theorem dX12_readPrize_252 : decode cX12_readPrize 252 = .ok (.bipush 116, 2) := by decide +kernel
theorem dX12_readPrize_254 : decode cX12_readPrize 254 = .ok (.iconst 0, 1) := by decide +kernel
theorem dX12_readPrize_255 : decode cX12_readPrize 255 = .ok (.iconst 0, 1) := by decide +kernel
theorem dX12_readPrize_256 : decode cX12_readPrize 256 = .ok (.invokestatic 361, 3) := by decide +kernel
theorem dX12_readPrize_259 : decode cX12_readPrize 259 = .ok (.invokevirtual 365, 3) := by decide +kernel
theorem dX12_readPrize_262 : decode cX12_readPrize 262 = .ok (.ifCond .ne 8, 3) := by decide +kernel
theorem dX12_readPrize_265 : decode cX12_readPrize 265 = .ok (.aload_n 0, 1) := by decide +kernel
theorem dX12_readPrize_266 : decode cX12_readPrize 266 = .ok (.invokevirtual 355, 3) := by decide +kernel
theorem dX12_readPrize_269 : decode cX12_readPrize 269 = .ok (.return_, 1) := by decide +kernel
theorem dX12_readPrize_270 : decode cX12_readPrize 270 = .ok (.aload_n 0, 1) := by decide +kernel
theorem dX12_readPrize_271 : decode cX12_readPrize 271 = .ok (.invokevirtual 358, 3) := by decide +kernel
theorem dX12_readPrize_274 : decode cX12_readPrize 274 = .ok (.aload_n 0, 1) := by decide +kernel
theorem dX12_readPrize_275 : decode cX12_readPrize 275 = .ok (.getfield 153, 3) := by decide +kernel
theorem dX12_readPrize_278 : decode cX12_readPrize 278 = .ok (.iload_n 1, 1) := by decide +kernel
theorem dX12_readPrize_279 : decode cX12_readPrize 279 = .ok (.aload_n 0, 1) := by decide +kernel
theorem dX12_readPrize_280 : decode cX12_readPrize 280 = .ok (.iconst 1, 1) := by decide +kernel
theorem dX12_readPrize_281 : decode cX12_readPrize 281 = .ok (.bipush 24, 2) := by decide +kernel
theorem dX12_readPrize_283 : decode cX12_readPrize 283 = .ok (.invokevirtual 375, 3) := by decide +kernel
theorem dX12_readPrize_286 : decode cX12_readPrize 286 = .ok (.iastore, 1) := by decide +kernel
theorem dX12_readPrize_287 : decode cX12_readPrize 287 = .ok (.aload_n 0, 1) := by decide +kernel
theorem dX12_readPrize_288 : decode cX12_readPrize 288 = .ok (.getfield 345, 3) := by decide +kernel
theorem dX12_readPrize_291 : decode cX12_readPrize 291 = .ok (.ifCond .le 4, 3) := by decide +kernel
theorem dX12_readPrize_294 : decode cX12_readPrize 294 = .ok (.return_, 1) := by decide +kernel
theorem dX12_readPrize_295 : decode cX12_readPrize 295 = .ok (.aload_n 0, 1) := by decide +kernel
theorem dX12_readPrize_296 : decode cX12_readPrize 296 = .ok (.getfield 156, 3) := by decide +kernel
theorem dX12_readPrize_299 : decode cX12_readPrize 299 = .ok (.iload_n 1, 1) := by decide +kernel
theorem dX12_readPrize_300 : decode cX12_readPrize 300 = .ok (.aload_n 0, 1) := by decide +kernel
theorem dX12_readPrize_301 : decode cX12_readPrize 301 = .ok (.bipush 97, 2) := by decide +kernel
theorem dX12_readPrize_303 : decode cX12_readPrize 303 = .ok (.bipush 108, 2) := by decide +kernel
theorem dX12_readPrize_305 : decode cX12_readPrize 305 = .ok (.bipush 111, 2) := by decide +kernel
theorem dX12_readPrize_307 : decode cX12_readPrize 307 = .ok (.bipush 110, 2) := by decide +kernel
theorem dX12_readPrize_309 : decode cX12_readPrize 309 = .ok (.bipush 101, 2) := by decide +kernel
theorem dX12_readPrize_311 : decode cX12_readPrize 311 = .ok (.iconst 0, 1) := by decide +kernel
theorem dX12_readPrize_312 : decode cX12_readPrize 312 = .ok (.invokestatic 361, 3) := by decide +kernel
theorem dX12_readPrize_315 : decode cX12_readPrize 315 = .ok (.invokevirtual 365, 3) := by decide +kernel
theorem dX12_readPrize_318 : decode cX12_readPrize 318 = .ok (.bastore, 1) := by decide +kernel
theorem dX12_readPrize_319 : decode cX12_readPrize 319 = .ok (.aload_n 0, 1) := by decide +kernel
theorem dX12_readPrize_320 : decode cX12_readPrize 320 = .ok (.getfield 156, 3) := by decide +kernel
theorem dX12_readPrize_323 : decode cX12_readPrize 323 = .ok (.iload_n 1, 1) := by decide +kernel
theorem dX12_readPrize_324 : decode cX12_readPrize 324 = .ok (.baload, 1) := by decide +kernel
theorem dX12_readPrize_325 : decode cX12_readPrize 325 = .ok (.ifCond .eq 7, 3) := by decide +kernel
theorem dX12_readPrize_328 : decode cX12_readPrize 328 = .ok (.aload_n 0, 1) := by decide +kernel
theorem dX12_readPrize_329 : decode cX12_readPrize 329 = .ok (.invokevirtual 358, 3) := by decide +kernel
theorem dX12_readPrize_332 : decode cX12_readPrize 332 = .ok (.aload_n 0, 1) := by decide +kernel
theorem dX12_readPrize_333 : decode cX12_readPrize 333 = .ok (.getfield 326, 3) := by decide +kernel
theorem dX12_readPrize_336 : decode cX12_readPrize 336 = .ok (.iconst 3, 1) := by decide +kernel
theorem dX12_readPrize_337 : decode cX12_readPrize 337 = .ok (.if_icmp .eq 8, 3) := by decide +kernel
theorem dX12_readPrize_340 : decode cX12_readPrize 340 = .ok (.aload_n 0, 1) := by decide +kernel
theorem dX12_readPrize_341 : decode cX12_readPrize 341 = .ok (.invokevirtual 355, 3) := by decide +kernel
theorem dX12_readPrize_344 : decode cX12_readPrize 344 = .ok (.return_, 1) := by decide +kernel
theorem dX12_readPrize_345 : decode cX12_readPrize 345 = .ok (.aload_n 0, 1) := by decide +kernel
theorem dX12_readPrize_346 : decode cX12_readPrize 346 = .ok (.invokevirtual 358, 3) := by decide +kernel
theorem dX12_readPrize_349 : decode cX12_readPrize 349 = .ok (.aload_n 0, 1) := by decide +kernel
theorem dX12_readPrize_350 : decode cX12_readPrize 350 = .ok (.dup, 1) := by decide +kernel
theorem dX12_readPrize_351 : decode cX12_readPrize 351 = .ok (.getfield 369, 3) := by decide +kernel
theorem dX12_readPrize_354 : decode cX12_readPrize 354 = .ok (.iconst 1, 1) := by decide +kernel
theorem dX12_readPrize_355 : decode cX12_readPrize 355 = .ok (.iadd, 1) := by decide +kernel
theorem dX12_readPrize_356 : decode cX12_readPrize 356 = .ok (.putfield 369, 3) := by decide +kernel
theorem dX12_readPrize_359 : decode cX12_readPrize 359 = .ok (.return_, 1) := by decide +kernel
theorem dX12_feed_0 : decode cX12_feed 0 = .ok (.aload_n 0, 1) := by decide +kernel
theorem dX12_feed_1 : decode cX12_feed 1 = .ok (.iconst 0, 1) := by decide +kernel
theorem dX12_feed_2 : decode cX12_feed 2 = .ok (.putfield 195, 3) := by decide +kernel
theorem dX12_feed_5 : decode cX12_feed 5 = .ok (.aload_n 0, 1) := by decide +kernel
theorem dX12_feed_6 : decode cX12_feed 6 = .ok (.getfield 378, 3) := by decide +kernel
theorem dX12_feed_9 : decode cX12_feed 9 = .ok (.bipush 20, 2) := by decide +kernel
theorem dX12_feed_11 : decode cX12_feed 11 = .ok (.iadd, 1) := by decide +kernel
theorem dX12_feed_12 : decode cX12_feed 12 = .ok (.sipush 300, 3) := by decide +kernel
theorem dX12_feed_15 : decode cX12_feed 15 = .ok (.if_icmp .le 5, 3) := by decide +kernel
theorem dX12_feed_18 : decode cX12_feed 18 = .ok (.iconst (-1), 1) := by decide +kernel
theorem dX12_feed_19 : decode cX12_feed 19 = .ok (.ireturn, 1) := by decide +kernel
theorem dX12_feed_20 : decode cX12_feed 20 = .ok (.aload_n 0, 1) := by decide +kernel
theorem dX12_feed_21 : decode cX12_feed 21 = .ok (.iload_n 1, 1) := by decide +kernel
theorem dX12_feed_22 : decode cX12_feed 22 = .ok (.invokevirtual 381, 3) := by decide +kernel
theorem dX12_feed_25 : decode cX12_feed 25 = .ok (.aload_n 0, 1) := by decide +kernel
theorem dX12_feed_26 : decode cX12_feed 26 = .ok (.iload_n 2, 1) := by decide +kernel
theorem dX12_feed_27 : decode cX12_feed 27 = .ok (.invokevirtual 381, 3) := by decide +kernel
theorem dX12_feed_30 : decode cX12_feed 30 = .ok (.aload_n 0, 1) := by decide +kernel
theorem dX12_feed_31 : decode cX12_feed 31 = .ok (.iload_n 3, 1) := by decide +kernel
theorem dX12_feed_32 : decode cX12_feed 32 = .ok (.invokevirtual 381, 3) := by decide +kernel
theorem dX12_feed_35 : decode cX12_feed 35 = .ok (.aload_n 0, 1) := by decide +kernel
theorem dX12_feed_36 : decode cX12_feed 36 = .ok (.iload 4, 2) := by decide +kernel
theorem dX12_feed_38 : decode cX12_feed 38 = .ok (.invokevirtual 381, 3) := by decide +kernel
theorem dX12_feed_41 : decode cX12_feed 41 = .ok (.aload_n 0, 1) := by decide +kernel
theorem dX12_feed_42 : decode cX12_feed 42 = .ok (.iload 5, 2) := by decide +kernel
theorem dX12_feed_44 : decode cX12_feed 44 = .ok (.invokevirtual 381, 3) := by decide +kernel
theorem dX12_feed_47 : decode cX12_feed 47 = .ok (.aload_n 0, 1) := by decide +kernel
theorem dX12_feed_48 : decode cX12_feed 48 = .ok (.getfield 378, 3) := by decide +kernel
theorem dX12_feed_51 : decode cX12_feed 51 = .ok (.ireturn, 1) := by decide +kernel
theorem dX12_lay_0 : decode cX12_lay 0 = .ok (.iconst 3, 1) := by decide +kernel
theorem dX12_lay_1 : decode cX12_lay 1 = .ok (.istore_n 2, 1) := by decide +kernel
theorem dX12_lay_2 : decode cX12_lay 2 = .ok (.iload_n 2, 1) := by decide +kernel
theorem dX12_lay_3 : decode cX12_lay 3 = .ok (.ifCond .lt 35, 3) := by decide +kernel
theorem dX12_lay_6 : decode cX12_lay 6 = .ok (.aload_n 0, 1) := by decide +kernel
theorem dX12_lay_7 : decode cX12_lay 7 = .ok (.getfield 113, 3) := by decide +kernel
theorem dX12_lay_10 : decode cX12_lay 10 = .ok (.aload_n 0, 1) := by decide +kernel
theorem dX12_lay_11 : decode cX12_lay 11 = .ok (.getfield 378, 3) := by decide +kernel
theorem dX12_lay_14 : decode cX12_lay 14 = .ok (.iload_n 1, 1) := by decide +kernel
theorem dX12_lay_15 : decode cX12_lay 15 = .ok (.bipush 8, 2) := by decide +kernel
theorem dX12_lay_17 : decode cX12_lay 17 = .ok (.iload_n 2, 1) := by decide +kernel
theorem dX12_lay_18 : decode cX12_lay 18 = .ok (.imul, 1) := by decide +kernel
theorem dX12_lay_19 : decode cX12_lay 19 = .ok (.ishr, 1) := by decide +kernel
theorem dX12_lay_20 : decode cX12_lay 20 = .ok (.i2b, 1) := by decide +kernel
theorem dX12_lay_21 : decode cX12_lay 21 = .ok (.bastore, 1) := by decide +kernel
theorem dX12_lay_22 : decode cX12_lay 22 = .ok (.aload_n 0, 1) := by decide +kernel
theorem dX12_lay_23 : decode cX12_lay 23 = .ok (.dup, 1) := by decide +kernel
theorem dX12_lay_24 : decode cX12_lay 24 = .ok (.getfield 378, 3) := by decide +kernel
theorem dX12_lay_27 : decode cX12_lay 27 = .ok (.iconst 1, 1) := by decide +kernel
theorem dX12_lay_28 : decode cX12_lay 28 = .ok (.iadd, 1) := by decide +kernel
theorem dX12_lay_29 : decode cX12_lay 29 = .ok (.putfield 378, 3) := by decide +kernel
theorem dX12_lay_32 : decode cX12_lay 32 = .ok (.iinc 2 (-1), 3) := by decide +kernel
theorem dX12_lay_35 : decode cX12_lay 35 = .ok (.goto (-33), 3) := by decide +kernel
theorem dX12_lay_38 : decode cX12_lay 38 = .ok (.return_, 1) := by decide +kernel
theorem dX12_prizes_0 : decode cX12_prizes 0 = .ok (.aload_n 0, 1) := by decide +kernel
theorem dX12_prizes_1 : decode cX12_prizes 1 = .ok (.iconst 0, 1) := by decide +kernel
theorem dX12_prizes_2 : decode cX12_prizes 2 = .ok (.putfield 195, 3) := by decide +kernel
theorem dX12_prizes_5 : decode cX12_prizes 5 = .ok (.aload_n 0, 1) := by decide +kernel
theorem dX12_prizes_6 : decode cX12_prizes 6 = .ok (.iconst 0, 1) := by decide +kernel
theorem dX12_prizes_7 : decode cX12_prizes 7 = .ok (.putfield 198, 3) := by decide +kernel
theorem dX12_prizes_10 : decode cX12_prizes 10 = .ok (.iload_n 1, 1) := by decide +kernel
theorem dX12_prizes_11 : decode cX12_prizes 11 = .ok (.ifCond .lt 11, 3) := by decide +kernel
theorem dX12_prizes_14 : decode cX12_prizes 14 = .ok (.iload_n 1, 1) := by decide +kernel
theorem dX12_prizes_15 : decode cX12_prizes 15 = .ok (.aload_n 0, 1) := by decide +kernel
theorem dX12_prizes_16 : decode cX12_prizes 16 = .ok (.getfield 378, 3) := by decide +kernel
theorem dX12_prizes_19 : decode cX12_prizes 19 = .ok (.if_icmp .le 9, 3) := by decide +kernel
theorem dX12_prizes_22 : decode cX12_prizes 22 = .ok (.aload_n 0, 1) := by decide +kernel
theorem dX12_prizes_23 : decode cX12_prizes 23 = .ok (.iconst 2, 1) := by decide +kernel
theorem dX12_prizes_24 : decode cX12_prizes 24 = .ok (.invokevirtual 201, 3) := by decide +kernel
theorem dX12_prizes_27 : decode cX12_prizes 27 = .ok (.ireturn, 1) := by decide +kernel
theorem dX12_prizes_28 : decode cX12_prizes 28 = .ok (.aload_n 0, 1) := by decide +kernel
theorem dX12_prizes_29 : decode cX12_prizes 29 = .ok (.iload_n 1, 1) := by decide +kernel
theorem dX12_prizes_30 : decode cX12_prizes 30 = .ok (.putfield 314, 3) := by decide +kernel
theorem dX12_prizes_33 : decode cX12_prizes 33 = .ok (.aload_n 0, 1) := by decide +kernel
theorem dX12_prizes_34 : decode cX12_prizes 34 = .ok (.iconst 0, 1) := by decide +kernel
theorem dX12_prizes_35 : decode cX12_prizes 35 = .ok (.putfield 378, 3) := by decide +kernel
theorem dX12_prizes_38 : decode cX12_prizes 38 = .ok (.aload_n 0, 1) := by decide +kernel
theorem dX12_prizes_39 : decode cX12_prizes 39 = .ok (.iconst 0, 1) := by decide +kernel
theorem dX12_prizes_40 : decode cX12_prizes 40 = .ok (.putfield 317, 3) := by decide +kernel
theorem dX12_prizes_43 : decode cX12_prizes 43 = .ok (.aload_n 0, 1) := by decide +kernel
theorem dX12_prizes_44 : decode cX12_prizes 44 = .ok (.iconst 0, 1) := by decide +kernel
theorem dX12_prizes_45 : decode cX12_prizes 45 = .ok (.putfield 345, 3) := by decide +kernel
theorem dX12_prizes_48 : decode cX12_prizes 48 = .ok (.aload_n 0, 1) := by decide +kernel
theorem dX12_prizes_49 : decode cX12_prizes 49 = .ok (.iconst 0, 1) := by decide +kernel
theorem dX12_prizes_50 : decode cX12_prizes 50 = .ok (.putfield 369, 3) := by decide +kernel
theorem dX12_prizes_53 : decode cX12_prizes 53 = .ok (.aload_n 0, 1) := by decide +kernel
theorem dX12_prizes_54 : decode cX12_prizes 54 = .ok (.invokevirtual 358, 3) := by decide +kernel
theorem dX12_prizes_57 : decode cX12_prizes 57 = .ok (.aload_n 0, 1) := by decide +kernel
theorem dX12_prizes_58 : decode cX12_prizes 58 = .ok (.getfield 345, 3) := by decide +kernel
theorem dX12_prizes_61 : decode cX12_prizes 61 = .ok (.ifCond .ne 31, 3) := by decide +kernel
theorem dX12_prizes_64 : decode cX12_prizes 64 = .ok (.aload_n 0, 1) := by decide +kernel
theorem dX12_prizes_65 : decode cX12_prizes 65 = .ok (.bipush 112, 2) := by decide +kernel
theorem dX12_prizes_67 : decode cX12_prizes 67 = .ok (.bipush 114, 2) := by decide +kernel
theorem dX12_prizes_69 : decode cX12_prizes 69 = .ok (.bipush 105, 2) := by decide +kernel
theorem dX12_prizes_71 : decode cX12_prizes 71 = .ok (.bipush 122, 2) := by decide +kernel
theorem dX12_prizes_73 : decode cX12_prizes 73 = .ok (.bipush 101, 2) := by decide +kernel
theorem dX12_prizes_75 : decode cX12_prizes 75 = .ok (.iconst 0, 1) := by decide +kernel
theorem dX12_prizes_76 : decode cX12_prizes 76 = .ok (.invokestatic 361, 3) := by decide +kernel
theorem dX12_prizes_79 : decode cX12_prizes 79 = .ok (.invokevirtual 365, 3) := by decide +kernel
theorem dX12_prizes_82 : decode cX12_prizes 82 = .ok (.ifCond .eq 10, 3) := by decide +kernel
theorem dX12_prizes_85 : decode cX12_prizes 85 = .ok (.aload_n 0, 1) := by decide +kernel
theorem dX12_prizes_86 : decode cX12_prizes 86 = .ok (.invokevirtual 384, 3) := by decide +kernel
theorem dX12_prizes_89 : decode cX12_prizes 89 = .ok (.goto (-32), 3) := by decide +kernel
theorem dX12_prizes_92 : decode cX12_prizes 92 = .ok (.aload_n 0, 1) := by decide +kernel
theorem dX12_prizes_93 : decode cX12_prizes 93 = .ok (.getfield 345, 3) := by decide +kernel
theorem dX12_prizes_96 : decode cX12_prizes 96 = .ok (.ifCond .ne 14, 3) := by decide +kernel
theorem dX12_prizes_99 : decode cX12_prizes 99 = .ok (.aload_n 0, 1) := by decide +kernel
theorem dX12_prizes_100 : decode cX12_prizes 100 = .ok (.getfield 326, 3) := by decide +kernel
theorem dX12_prizes_103 : decode cX12_prizes 103 = .ok (.ifCond .eq 7, 3) := by decide +kernel
theorem dX12_prizes_106 : decode cX12_prizes 106 = .ok (.aload_n 0, 1) := by decide +kernel
theorem dX12_prizes_107 : decode cX12_prizes 107 = .ok (.invokevirtual 355, 3) := by decide +kernel
theorem dX12_prizes_110 : decode cX12_prizes 110 = .ok (.aload_n 0, 1) := by decide +kernel
theorem dX12_prizes_111 : decode cX12_prizes 111 = .ok (.aload_n 0, 1) := by decide +kernel
theorem dX12_prizes_112 : decode cX12_prizes 112 = .ok (.getfield 345, 3) := by decide +kernel
theorem dX12_prizes_115 : decode cX12_prizes 115 = .ok (.putfield 117, 3) := by decide +kernel
theorem dX12_prizes_118 : decode cX12_prizes 118 = .ok (.aload_n 0, 1) := by decide +kernel
theorem dX12_prizes_119 : decode cX12_prizes 119 = .ok (.aload_n 0, 1) := by decide +kernel
theorem dX12_prizes_120 : decode cX12_prizes 120 = .ok (.getfield 345, 3) := by decide +kernel
theorem dX12_prizes_123 : decode cX12_prizes 123 = .ok (.ifCond .ne 7, 3) := by decide +kernel
theorem dX12_prizes_126 : decode cX12_prizes 126 = .ok (.iconst (-1), 1) := by decide +kernel
theorem dX12_prizes_127 : decode cX12_prizes 127 = .ok (.goto 7, 3) := by decide +kernel
theorem dX12_prizes_130 : decode cX12_prizes 130 = .ok (.aload_n 0, 1) := by decide +kernel
theorem dX12_prizes_131 : decode cX12_prizes 131 = .ok (.getfield 348, 3) := by decide +kernel
theorem dX12_prizes_134 : decode cX12_prizes 134 = .ok (.putfield 120, 3) := by decide +kernel
theorem dX12_prizes_137 : decode cX12_prizes 137 = .ok (.aload_n 0, 1) := by decide +kernel
theorem dX12_prizes_138 : decode cX12_prizes 138 = .ok (.getfield 345, 3) := by decide +kernel
theorem dX12_prizes_141 : decode cX12_prizes 141 = .ok (.ifCond .le 10, 3) := by decide +kernel
theorem dX12_prizes_144 : decode cX12_prizes 144 = .ok (.aload_n 0, 1) := by decide +kernel
theorem dX12_prizes_145 : decode cX12_prizes 145 = .ok (.bipush 7, 2) := by decide +kernel
theorem dX12_prizes_147 : decode cX12_prizes 147 = .ok (.invokevirtual 201, 3) := by decide +kernel
theorem dX12_prizes_150 : decode cX12_prizes 150 = .ok (.ireturn, 1) := by decide +kernel
theorem dX12_prizes_151 : decode cX12_prizes 151 = .ok (.aload_n 0, 1) := by decide +kernel
theorem dX12_prizes_152 : decode cX12_prizes 152 = .ok (.aload_n 0, 1) := by decide +kernel
theorem dX12_prizes_153 : decode cX12_prizes 153 = .ok (.getfield 369, 3) := by decide +kernel
theorem dX12_prizes_156 : decode cX12_prizes 156 = .ok (.putfield 387, 3) := by decide +kernel
theorem dX12_prizes_159 : decode cX12_prizes 159 = .ok (.iconst 0, 1) := by decide +kernel
theorem dX12_prizes_160 : decode cX12_prizes 160 = .ok (.istore_n 2, 1) := by decide +kernel
theorem dX12_prizes_161 : decode cX12_prizes 161 = .ok (.iload_n 2, 1) := by decide +kernel
theorem dX12_prizes_162 : decode cX12_prizes 162 = .ok (.aload_n 0, 1) := by decide +kernel
theorem dX12_prizes_163 : decode cX12_prizes 163 = .ok (.getfield 387, 3) := by decide +kernel
theorem dX12_prizes_166 : decode cX12_prizes 166 = .ok (.if_icmp .ge 81, 3) := by decide +kernel
theorem dX12_prizes_169 : decode cX12_prizes 169 = .ok (.aload_n 0, 1) := by decide +kernel
theorem dX12_prizes_170 : decode cX12_prizes 170 = .ok (.getfield 123, 3) := by decide +kernel
theorem dX12_prizes_173 : decode cX12_prizes 173 = .ok (.iload_n 2, 1) := by decide +kernel
theorem dX12_prizes_174 : decode cX12_prizes 174 = .ok (.aload_n 0, 1) := by decide +kernel
theorem dX12_prizes_175 : decode cX12_prizes 175 = .ok (.getfield 141, 3) := by decide +kernel
theorem dX12_prizes_178 : decode cX12_prizes 178 = .ok (.iload_n 2, 1) := by decide +kernel
theorem dX12_prizes_179 : decode cX12_prizes 179 = .ok (.iaload, 1) := by decide +kernel
theorem dX12_prizes_180 : decode cX12_prizes 180 = .ok (.iastore, 1) := by decide +kernel
theorem dX12_prizes_181 : decode cX12_prizes 181 = .ok (.aload_n 0, 1) := by decide +kernel
theorem dX12_prizes_182 : decode cX12_prizes 182 = .ok (.getfield 126, 3) := by decide +kernel
theorem dX12_prizes_185 : decode cX12_prizes 185 = .ok (.iload_n 2, 1) := by decide +kernel
theorem dX12_prizes_186 : decode cX12_prizes 186 = .ok (.aload_n 0, 1) := by decide +kernel
theorem dX12_prizes_187 : decode cX12_prizes 187 = .ok (.getfield 144, 3) := by decide +kernel
theorem dX12_prizes_190 : decode cX12_prizes 190 = .ok (.iload_n 2, 1) := by decide +kernel
theorem dX12_prizes_191 : decode cX12_prizes 191 = .ok (.iaload, 1) := by decide +kernel
theorem dX12_prizes_192 : decode cX12_prizes 192 = .ok (.iastore, 1) := by decide +kernel
theorem dX12_prizes_193 : decode cX12_prizes 193 = .ok (.aload_n 0, 1) := by decide +kernel
theorem dX12_prizes_194 : decode cX12_prizes 194 = .ok (.getfield 129, 3) := by decide +kernel
theorem dX12_prizes_197 : decode cX12_prizes 197 = .ok (.iload_n 2, 1) := by decide +kernel
theorem dX12_prizes_198 : decode cX12_prizes 198 = .ok (.aload_n 0, 1) := by decide +kernel
theorem dX12_prizes_199 : decode cX12_prizes 199 = .ok (.getfield 147, 3) := by decide +kernel
theorem dX12_prizes_202 : decode cX12_prizes 202 = .ok (.iload_n 2, 1) := by decide +kernel
theorem dX12_prizes_203 : decode cX12_prizes 203 = .ok (.iaload, 1) := by decide +kernel
theorem dX12_prizes_204 : decode cX12_prizes 204 = .ok (.iastore, 1) := by decide +kernel
theorem dX12_prizes_205 : decode cX12_prizes 205 = .ok (.aload_n 0, 1) := by decide +kernel
theorem dX12_prizes_206 : decode cX12_prizes 206 = .ok (.getfield 132, 3) := by decide +kernel
theorem dX12_prizes_209 : decode cX12_prizes 209 = .ok (.iload_n 2, 1) := by decide +kernel
theorem dX12_prizes_210 : decode cX12_prizes 210 = .ok (.aload_n 0, 1) := by decide +kernel
theorem dX12_prizes_211 : decode cX12_prizes 211 = .ok (.getfield 150, 3) := by decide +kernel
theorem dX12_prizes_214 : decode cX12_prizes 214 = .ok (.iload_n 2, 1) := by decide +kernel
theorem dX12_prizes_215 : decode cX12_prizes 215 = .ok (.iaload, 1) := by decide +kernel
theorem dX12_prizes_216 : decode cX12_prizes 216 = .ok (.iastore, 1) := by decide +kernel
theorem dX12_prizes_217 : decode cX12_prizes 217 = .ok (.aload_n 0, 1) := by decide +kernel
theorem dX12_prizes_218 : decode cX12_prizes 218 = .ok (.getfield 135, 3) := by decide +kernel
theorem dX12_prizes_221 : decode cX12_prizes 221 = .ok (.iload_n 2, 1) := by decide +kernel
theorem dX12_prizes_222 : decode cX12_prizes 222 = .ok (.aload_n 0, 1) := by decide +kernel
theorem dX12_prizes_223 : decode cX12_prizes 223 = .ok (.getfield 153, 3) := by decide +kernel
theorem dX12_prizes_226 : decode cX12_prizes 226 = .ok (.iload_n 2, 1) := by decide +kernel
theorem dX12_prizes_227 : decode cX12_prizes 227 = .ok (.iaload, 1) := by decide +kernel
theorem dX12_prizes_228 : decode cX12_prizes 228 = .ok (.iastore, 1) := by decide +kernel
theorem dX12_prizes_229 : decode cX12_prizes 229 = .ok (.aload_n 0, 1) := by decide +kernel
theorem dX12_prizes_230 : decode cX12_prizes 230 = .ok (.getfield 138, 3) := by decide +kernel
theorem dX12_prizes_233 : decode cX12_prizes 233 = .ok (.iload_n 2, 1) := by decide +kernel
theorem dX12_prizes_234 : decode cX12_prizes 234 = .ok (.aload_n 0, 1) := by decide +kernel
theorem dX12_prizes_235 : decode cX12_prizes 235 = .ok (.getfield 156, 3) := by decide +kernel
theorem dX12_prizes_238 : decode cX12_prizes 238 = .ok (.iload_n 2, 1) := by decide +kernel
theorem dX12_prizes_239 : decode cX12_prizes 239 = .ok (.baload, 1) := by decide +kernel
theorem dX12_prizes_240 : decode cX12_prizes 240 = .ok (.bastore, 1) := by decide +kernel
theorem dX12_prizes_241 : decode cX12_prizes 241 = .ok (.iinc 2 1, 3) := by decide +kernel
theorem dX12_prizes_244 : decode cX12_prizes 244 = .ok (.goto (-83), 3) := by decide +kernel
theorem dX12_prizes_247 : decode cX12_prizes 247 = .ok (.aload_n 0, 1) := by decide +kernel
theorem dX12_prizes_248 : decode cX12_prizes 248 = .ok (.getfield 387, 3) := by decide +kernel
theorem dX12_prizes_251 : decode cX12_prizes 251 = .ok (.ireturn, 1) := by decide +kernel
theorem dX12_fault_0 : decode cX12_fault 0 = .ok (.aload_n 0, 1) := by decide +kernel
theorem dX12_fault_1 : decode cX12_fault 1 = .ok (.iconst 0, 1) := by decide +kernel
theorem dX12_fault_2 : decode cX12_fault 2 = .ok (.putfield 195, 3) := by decide +kernel
theorem dX12_fault_5 : decode cX12_fault 5 = .ok (.iload_n 1, 1) := by decide +kernel
theorem dX12_fault_6 : decode cX12_fault 6 = .ok (.ifCond .ne 10, 3) := by decide +kernel
theorem dX12_fault_9 : decode cX12_fault 9 = .ok (.aload_n 0, 1) := by decide +kernel
theorem dX12_fault_10 : decode cX12_fault 10 = .ok (.getfield 117, 3) := by decide +kernel
theorem dX12_fault_13 : decode cX12_fault 13 = .ok (.goto 16, 3) := by decide +kernel
theorem dX12_fault_16 : decode cX12_fault 16 = .ok (.iload_n 1, 1) := by decide +kernel
theorem dX12_fault_17 : decode cX12_fault 17 = .ok (.iconst 1, 1) := by decide +kernel
theorem dX12_fault_18 : decode cX12_fault 18 = .ok (.if_icmp .ne 10, 3) := by decide +kernel
theorem dX12_fault_21 : decode cX12_fault 21 = .ok (.aload_n 0, 1) := by decide +kernel
theorem dX12_fault_22 : decode cX12_fault 22 = .ok (.getfield 120, 3) := by decide +kernel
theorem dX12_fault_25 : decode cX12_fault 25 = .ok (.goto 4, 3) := by decide +kernel
theorem dX12_fault_28 : decode cX12_fault 28 = .ok (.iconst (-1), 1) := by decide +kernel
theorem dX12_fault_29 : decode cX12_fault 29 = .ok (.ireturn, 1) := by decide +kernel
theorem dX12_isAbove_0 : decode cX12_isAbove 0 = .ok (.lload_n 0, 1) := by decide +kernel
theorem dX12_isAbove_1 : decode cX12_isAbove 1 = .ok (.lstore 8, 2) := by decide +kernel
theorem dX12_isAbove_3 : decode cX12_isAbove 3 = .ok (.lload_n 2, 1) := by decide +kernel
theorem dX12_isAbove_4 : decode cX12_isAbove 4 = .ok (.lstore 10, 2) := by decide +kernel
theorem dX12_isAbove_6 : decode cX12_isAbove 6 = .ok (.lload 4, 2) := by decide +kernel
theorem dX12_isAbove_8 : decode cX12_isAbove 8 = .ok (.lstore 12, 2) := by decide +kernel
theorem dX12_isAbove_10 : decode cX12_isAbove 10 = .ok (.lload 6, 2) := by decide +kernel
theorem dX12_isAbove_12 : decode cX12_isAbove 12 = .ok (.lstore 14, 2) := by decide +kernel
theorem dX12_isAbove_14 : decode cX12_isAbove 14 = .ok (.iconst 0, 1) := by decide +kernel
theorem dX12_isAbove_15 : decode cX12_isAbove 15 = .ok (.istore 16, 2) := by decide +kernel
theorem dX12_isAbove_17 : decode cX12_isAbove 17 = .ok (.lload 10, 2) := by decide +kernel
theorem dX12_isAbove_19 : decode cX12_isAbove 19 = .ok (.lconst 0, 1) := by decide +kernel
theorem dX12_isAbove_20 : decode cX12_isAbove 20 = .ok (.lcmp, 1) := by decide +kernel
theorem dX12_isAbove_21 : decode cX12_isAbove 21 = .ok (.ifCond .eq 77, 3) := by decide +kernel
theorem dX12_isAbove_24 : decode cX12_isAbove 24 = .ok (.lload 14, 2) := by decide +kernel
theorem dX12_isAbove_26 : decode cX12_isAbove 26 = .ok (.lconst 0, 1) := by decide +kernel
theorem dX12_isAbove_27 : decode cX12_isAbove 27 = .ok (.lcmp, 1) := by decide +kernel
theorem dX12_isAbove_28 : decode cX12_isAbove 28 = .ok (.ifCond .eq 70, 3) := by decide +kernel
theorem dX12_isAbove_31 : decode cX12_isAbove 31 = .ok (.lload 8, 2) := by decide +kernel
theorem dX12_isAbove_33 : decode cX12_isAbove 33 = .ok (.lload 10, 2) := by decide +kernel
theorem dX12_isAbove_35 : decode cX12_isAbove 35 = .ok (.invokestatic 390, 3) := by decide +kernel
theorem dX12_isAbove_38 : decode cX12_isAbove 38 = .ok (.lload 12, 2) := by decide +kernel
theorem dX12_isAbove_40 : decode cX12_isAbove 40 = .ok (.lload 14, 2) := by decide +kernel
theorem dX12_isAbove_42 : decode cX12_isAbove 42 = .ok (.invokestatic 390, 3) := by decide +kernel
theorem dX12_isAbove_45 : decode cX12_isAbove 45 = .ok (.lcmp, 1) := by decide +kernel
theorem dX12_isAbove_46 : decode cX12_isAbove 46 = .ok (.ifCond .ne 52, 3) := by decide +kernel
theorem dX12_isAbove_49 : decode cX12_isAbove 49 = .ok (.lload 8, 2) := by decide +kernel
theorem dX12_isAbove_51 : decode cX12_isAbove 51 = .ok (.lload 10, 2) := by decide +kernel
theorem dX12_isAbove_53 : decode cX12_isAbove 53 = .ok (.invokestatic 393, 3) := by decide +kernel
theorem dX12_isAbove_56 : decode cX12_isAbove 56 = .ok (.lstore 17, 2) := by decide +kernel
theorem dX12_isAbove_58 : decode cX12_isAbove 58 = .ok (.lload 12, 2) := by decide +kernel
theorem dX12_isAbove_60 : decode cX12_isAbove 60 = .ok (.lload 14, 2) := by decide +kernel
theorem dX12_isAbove_62 : decode cX12_isAbove 62 = .ok (.invokestatic 393, 3) := by decide +kernel
theorem dX12_isAbove_65 : decode cX12_isAbove 65 = .ok (.lstore 19, 2) := by decide +kernel
theorem dX12_isAbove_67 : decode cX12_isAbove 67 = .ok (.lload 10, 2) := by decide +kernel
theorem dX12_isAbove_69 : decode cX12_isAbove 69 = .ok (.lstore 8, 2) := by decide +kernel
theorem dX12_isAbove_71 : decode cX12_isAbove 71 = .ok (.lload 17, 2) := by decide +kernel
theorem dX12_isAbove_73 : decode cX12_isAbove 73 = .ok (.lstore 10, 2) := by decide +kernel
theorem dX12_isAbove_75 : decode cX12_isAbove 75 = .ok (.lload 14, 2) := by decide +kernel
theorem dX12_isAbove_77 : decode cX12_isAbove 77 = .ok (.lstore 12, 2) := by decide +kernel
theorem dX12_isAbove_79 : decode cX12_isAbove 79 = .ok (.lload 19, 2) := by decide +kernel
theorem dX12_isAbove_81 : decode cX12_isAbove 81 = .ok (.lstore 14, 2) := by decide +kernel
theorem dX12_isAbove_83 : decode cX12_isAbove 83 = .ok (.iload 16, 2) := by decide +kernel
theorem dX12_isAbove_85 : decode cX12_isAbove 85 = .ok (.ifCond .ne 7, 3) := by decide +kernel
theorem dX12_isAbove_88 : decode cX12_isAbove 88 = .ok (.iconst 1, 1) := by decide +kernel
theorem dX12_isAbove_89 : decode cX12_isAbove 89 = .ok (.goto 4, 3) := by decide +kernel
theorem dX12_isAbove_92 : decode cX12_isAbove 92 = .ok (.iconst 0, 1) := by decide +kernel
theorem dX12_isAbove_93 : decode cX12_isAbove 93 = .ok (.istore 16, 2) := by decide +kernel
theorem dX12_isAbove_95 : decode cX12_isAbove 95 = .ok (.goto (-78), 3) := by decide +kernel
theorem dX12_isAbove_98 : decode cX12_isAbove 98 = .ok (.lload 10, 2) := by decide +kernel
theorem dX12_isAbove_100 : decode cX12_isAbove 100 = .ok (.lconst 0, 1) := by decide +kernel
theorem dX12_isAbove_101 : decode cX12_isAbove 101 = .ok (.lcmp, 1) := by decide +kernel
theorem dX12_isAbove_102 : decode cX12_isAbove 102 = .ok (.ifCond .ne 12, 3) := by decide +kernel
theorem dX12_isAbove_105 : decode cX12_isAbove 105 = .ok (.lload 14, 2) := by decide +kernel
theorem dX12_isAbove_107 : decode cX12_isAbove 107 = .ok (.lconst 0, 1) := by decide +kernel
theorem dX12_isAbove_108 : decode cX12_isAbove 108 = .ok (.lcmp, 1) := by decide +kernel
theorem dX12_isAbove_109 : decode cX12_isAbove 109 = .ok (.ifCond .ne 5, 3) := by decide +kernel
theorem dX12_isAbove_112 : decode cX12_isAbove 112 = .ok (.iconst 0, 1) := by decide +kernel
theorem dX12_isAbove_113 : decode cX12_isAbove 113 = .ok (.ireturn, 1) := by decide +kernel
theorem dX12_isAbove_114 : decode cX12_isAbove 114 = .ok (.lload 14, 2) := by decide +kernel
theorem dX12_isAbove_116 : decode cX12_isAbove 116 = .ok (.lconst 0, 1) := by decide +kernel
theorem dX12_isAbove_117 : decode cX12_isAbove 117 = .ok (.lcmp, 1) := by decide +kernel
theorem dX12_isAbove_118 : decode cX12_isAbove 118 = .ok (.ifCond .eq 32, 3) := by decide +kernel
theorem dX12_isAbove_121 : decode cX12_isAbove 121 = .ok (.lload 10, 2) := by decide +kernel
theorem dX12_isAbove_123 : decode cX12_isAbove 123 = .ok (.lconst 0, 1) := by decide +kernel
theorem dX12_isAbove_124 : decode cX12_isAbove 124 = .ok (.lcmp, 1) := by decide +kernel
theorem dX12_isAbove_125 : decode cX12_isAbove 125 = .ok (.ifCond .eq 21, 3) := by decide +kernel
theorem dX12_isAbove_128 : decode cX12_isAbove 128 = .ok (.lload 8, 2) := by decide +kernel
theorem dX12_isAbove_130 : decode cX12_isAbove 130 = .ok (.lload 10, 2) := by decide +kernel
theorem dX12_isAbove_132 : decode cX12_isAbove 132 = .ok (.invokestatic 390, 3) := by decide +kernel
theorem dX12_isAbove_135 : decode cX12_isAbove 135 = .ok (.lload 12, 2) := by decide +kernel
theorem dX12_isAbove_137 : decode cX12_isAbove 137 = .ok (.lload 14, 2) := by decide +kernel
theorem dX12_isAbove_139 : decode cX12_isAbove 139 = .ok (.invokestatic 390, 3) := by decide +kernel
theorem dX12_isAbove_142 : decode cX12_isAbove 142 = .ok (.lcmp, 1) := by decide +kernel
theorem dX12_isAbove_143 : decode cX12_isAbove 143 = .ok (.ifCond .le 7, 3) := by decide +kernel
theorem dX12_isAbove_146 : decode cX12_isAbove 146 = .ok (.iconst 1, 1) := by decide +kernel
theorem dX12_isAbove_147 : decode cX12_isAbove 147 = .ok (.goto 4, 3) := by decide +kernel
theorem dX12_isAbove_150 : decode cX12_isAbove 150 = .ok (.iconst 0, 1) := by decide +kernel
theorem dX12_isAbove_151 : decode cX12_isAbove 151 = .ok (.istore 17, 2) := by decide +kernel
theorem dX12_isAbove_153 : decode cX12_isAbove 153 = .ok (.iload 16, 2) := by decide +kernel
theorem dX12_isAbove_155 : decode cX12_isAbove 155 = .ok (.iload 17, 2) := by decide +kernel
theorem dX12_isAbove_157 : decode cX12_isAbove 157 = .ok (.if_icmp .eq 7, 3) := by decide +kernel
theorem dX12_isAbove_160 : decode cX12_isAbove 160 = .ok (.iconst 1, 1) := by decide +kernel
theorem dX12_isAbove_161 : decode cX12_isAbove 161 = .ok (.goto 4, 3) := by decide +kernel
theorem dX12_isAbove_164 : decode cX12_isAbove 164 = .ok (.iconst 0, 1) := by decide +kernel
theorem dX12_isAbove_165 : decode cX12_isAbove 165 = .ok (.ireturn, 1) := by decide +kernel
theorem dX12_wants_0 : decode cX12_wants 0 = .ok (.aload_n 0, 1) := by decide +kernel
theorem dX12_wants_1 : decode cX12_wants 1 = .ok (.getfield 165, 3) := by decide +kernel
theorem dX12_wants_4 : decode cX12_wants 4 = .ok (.iload_n 2, 1) := by decide +kernel
theorem dX12_wants_5 : decode cX12_wants 5 = .ok (.baload, 1) := by decide +kernel
theorem dX12_wants_6 : decode cX12_wants 6 = .ok (.ifCond .eq 35, 3) := by decide +kernel
theorem dX12_wants_9 : decode cX12_wants 9 = .ok (.aload_n 0, 1) := by decide +kernel
theorem dX12_wants_10 : decode cX12_wants 10 = .ok (.iload_n 2, 1) := by decide +kernel
theorem dX12_wants_11 : decode cX12_wants 11 = .ok (.invokevirtual 267, 3) := by decide +kernel
theorem dX12_wants_14 : decode cX12_wants 14 = .ok (.aload_n 0, 1) := by decide +kernel
theorem dX12_wants_15 : decode cX12_wants 15 = .ok (.getfield 132, 3) := by decide +kernel
theorem dX12_wants_18 : decode cX12_wants 18 = .ok (.iload_n 1, 1) := by decide +kernel
theorem dX12_wants_19 : decode cX12_wants 19 = .ok (.iaload, 1) := by decide +kernel
theorem dX12_wants_20 : decode cX12_wants 20 = .ok (.if_icmp .lt 21, 3) := by decide +kernel
theorem dX12_wants_23 : decode cX12_wants 23 = .ok (.aload_n 0, 1) := by decide +kernel
theorem dX12_wants_24 : decode cX12_wants 24 = .ok (.getfield 138, 3) := by decide +kernel
theorem dX12_wants_27 : decode cX12_wants 27 = .ok (.iload_n 1, 1) := by decide +kernel
theorem dX12_wants_28 : decode cX12_wants 28 = .ok (.baload, 1) := by decide +kernel
theorem dX12_wants_29 : decode cX12_wants 29 = .ok (.ifCond .eq 14, 3) := by decide +kernel
theorem dX12_wants_32 : decode cX12_wants 32 = .ok (.aload_n 0, 1) := by decide +kernel
theorem dX12_wants_33 : decode cX12_wants 33 = .ok (.getfield 168, 3) := by decide +kernel
theorem dX12_wants_36 : decode cX12_wants 36 = .ok (.iload_n 2, 1) := by decide +kernel
theorem dX12_wants_37 : decode cX12_wants 37 = .ok (.baload, 1) := by decide +kernel
theorem dX12_wants_38 : decode cX12_wants 38 = .ok (.ifCond .eq 5, 3) := by decide +kernel
theorem dX12_wants_41 : decode cX12_wants 41 = .ok (.iconst 0, 1) := by decide +kernel
theorem dX12_wants_42 : decode cX12_wants 42 = .ok (.ireturn, 1) := by decide +kernel
theorem dX12_wants_43 : decode cX12_wants 43 = .ok (.aload_n 0, 1) := by decide +kernel
theorem dX12_wants_44 : decode cX12_wants 44 = .ok (.getfield 123, 3) := by decide +kernel
theorem dX12_wants_47 : decode cX12_wants 47 = .ok (.iload_n 1, 1) := by decide +kernel
theorem dX12_wants_48 : decode cX12_wants 48 = .ok (.iaload, 1) := by decide +kernel
theorem dX12_wants_49 : decode cX12_wants 49 = .ok (.ifCond .lt 18, 3) := by decide +kernel
theorem dX12_wants_52 : decode cX12_wants 52 = .ok (.aload_n 0, 1) := by decide +kernel
theorem dX12_wants_53 : decode cX12_wants 53 = .ok (.getfield 123, 3) := by decide +kernel
theorem dX12_wants_56 : decode cX12_wants 56 = .ok (.iload_n 1, 1) := by decide +kernel
theorem dX12_wants_57 : decode cX12_wants 57 = .ok (.iaload, 1) := by decide +kernel
theorem dX12_wants_58 : decode cX12_wants 58 = .ok (.aload_n 0, 1) := by decide +kernel
theorem dX12_wants_59 : decode cX12_wants 59 = .ok (.getfield 17, 3) := by decide +kernel
theorem dX12_wants_62 : decode cX12_wants 62 = .ok (.iload_n 2, 1) := by decide +kernel
theorem dX12_wants_63 : decode cX12_wants 63 = .ok (.iaload, 1) := by decide +kernel
theorem dX12_wants_64 : decode cX12_wants 64 = .ok (.if_icmp .ne 55, 3) := by decide +kernel
theorem dX12_wants_67 : decode cX12_wants 67 = .ok (.aload_n 0, 1) := by decide +kernel
theorem dX12_wants_68 : decode cX12_wants 68 = .ok (.getfield 126, 3) := by decide +kernel
theorem dX12_wants_71 : decode cX12_wants 71 = .ok (.iload_n 1, 1) := by decide +kernel
theorem dX12_wants_72 : decode cX12_wants 72 = .ok (.iaload, 1) := by decide +kernel
theorem dX12_wants_73 : decode cX12_wants 73 = .ok (.ifCond .lt 18, 3) := by decide +kernel
theorem dX12_wants_76 : decode cX12_wants 76 = .ok (.aload_n 0, 1) := by decide +kernel
theorem dX12_wants_77 : decode cX12_wants 77 = .ok (.getfield 126, 3) := by decide +kernel
theorem dX12_wants_80 : decode cX12_wants 80 = .ok (.iload_n 1, 1) := by decide +kernel
theorem dX12_wants_81 : decode cX12_wants 81 = .ok (.iaload, 1) := by decide +kernel
theorem dX12_wants_82 : decode cX12_wants 82 = .ok (.aload_n 0, 1) := by decide +kernel
theorem dX12_wants_83 : decode cX12_wants 83 = .ok (.getfield 21, 3) := by decide +kernel
theorem dX12_wants_86 : decode cX12_wants 86 = .ok (.iload_n 2, 1) := by decide +kernel
theorem dX12_wants_87 : decode cX12_wants 87 = .ok (.iaload, 1) := by decide +kernel
theorem dX12_wants_88 : decode cX12_wants 88 = .ok (.if_icmp .ne 31, 3) := by decide +kernel
theorem dX12_wants_91 : decode cX12_wants 91 = .ok (.aload_n 0, 1) := by decide +kernel
theorem dX12_wants_92 : decode cX12_wants 92 = .ok (.getfield 129, 3) := by decide +kernel
theorem dX12_wants_95 : decode cX12_wants 95 = .ok (.iload_n 1, 1) := by decide +kernel
theorem dX12_wants_96 : decode cX12_wants 96 = .ok (.iaload, 1) := by decide +kernel
theorem dX12_wants_97 : decode cX12_wants 97 = .ok (.ifCond .lt 18, 3) := by decide +kernel
theorem dX12_wants_100 : decode cX12_wants 100 = .ok (.aload_n 0, 1) := by decide +kernel
theorem dX12_wants_101 : decode cX12_wants 101 = .ok (.getfield 129, 3) := by decide +kernel
theorem dX12_wants_104 : decode cX12_wants 104 = .ok (.iload_n 1, 1) := by decide +kernel
theorem dX12_wants_105 : decode cX12_wants 105 = .ok (.iaload, 1) := by decide +kernel
theorem dX12_wants_106 : decode cX12_wants 106 = .ok (.aload_n 0, 1) := by decide +kernel
theorem dX12_wants_107 : decode cX12_wants 107 = .ok (.getfield 24, 3) := by decide +kernel
theorem dX12_wants_110 : decode cX12_wants 110 = .ok (.iload_n 2, 1) := by decide +kernel
theorem dX12_wants_111 : decode cX12_wants 111 = .ok (.iaload, 1) := by decide +kernel
theorem dX12_wants_112 : decode cX12_wants 112 = .ok (.if_icmp .ne 7, 3) := by decide +kernel
theorem dX12_wants_115 : decode cX12_wants 115 = .ok (.iconst 1, 1) := by decide +kernel
theorem dX12_wants_116 : decode cX12_wants 116 = .ok (.goto 4, 3) := by decide +kernel
theorem dX12_wants_119 : decode cX12_wants 119 = .ok (.iconst 0, 1) := by decide +kernel
theorem dX12_wants_120 : decode cX12_wants 120 = .ok (.ireturn, 1) := by decide +kernel
theorem dX12_given_0 : decode cX12_given 0 = .ok (.aload_n 0, 1) := by decide +kernel
theorem dX12_given_1 : decode cX12_given 1 = .ok (.iconst 0, 1) := by decide +kernel
theorem dX12_given_2 : decode cX12_given 2 = .ok (.putfield 195, 3) := by decide +kernel
theorem dX12_given_5 : decode cX12_given 5 = .ok (.aload_n 0, 1) := by decide +kernel
theorem dX12_given_6 : decode cX12_given 6 = .ok (.iconst 0, 1) := by decide +kernel
theorem dX12_given_7 : decode cX12_given 7 = .ok (.putfield 198, 3) := by decide +kernel
theorem dX12_given_10 : decode cX12_given 10 = .ok (.iload_n 1, 1) := by decide +kernel
theorem dX12_given_11 : decode cX12_given 11 = .ok (.ifCond .lt 15, 3) := by decide +kernel
theorem dX12_given_14 : decode cX12_given 14 = .ok (.iload_n 1, 1) := by decide +kernel
theorem dX12_given_15 : decode cX12_given 15 = .ok (.aload_n 0, 1) := by decide +kernel
theorem dX12_given_16 : decode cX12_given 16 = .ok (.getfield 387, 3) := by decide +kernel
theorem dX12_given_19 : decode cX12_given 19 = .ok (.if_icmp .ge 7, 3) := by decide +kernel
theorem dX12_given_22 : decode cX12_given 22 = .ok (.iload_n 2, 1) := by decide +kernel
theorem dX12_given_23 : decode cX12_given 23 = .ok (.ifCond .ge 9, 3) := by decide +kernel
theorem dX12_given_26 : decode cX12_given 26 = .ok (.aload_n 0, 1) := by decide +kernel
theorem dX12_given_27 : decode cX12_given 27 = .ok (.iconst 1, 1) := by decide +kernel
theorem dX12_given_28 : decode cX12_given 28 = .ok (.invokevirtual 201, 3) := by decide +kernel
theorem dX12_given_31 : decode cX12_given 31 = .ok (.ireturn, 1) := by decide +kernel
theorem dX12_given_32 : decode cX12_given 32 = .ok (.iload_n 3, 1) := by decide +kernel
theorem dX12_given_33 : decode cX12_given 33 = .ok (.invokestatic 253, 3) := by decide +kernel
theorem dX12_given_36 : decode cX12_given 36 = .ok (.ifCond .ne 9, 3) := by decide +kernel
theorem dX12_given_39 : decode cX12_given 39 = .ok (.aload_n 0, 1) := by decide +kernel
theorem dX12_given_40 : decode cX12_given 40 = .ok (.iconst 2, 1) := by decide +kernel
theorem dX12_given_41 : decode cX12_given 41 = .ok (.invokevirtual 201, 3) := by decide +kernel
theorem dX12_given_44 : decode cX12_given 44 = .ok (.ireturn, 1) := by decide +kernel
theorem dX12_given_45 : decode cX12_given 45 = .ok (.aload_n 0, 1) := by decide +kernel
theorem dX12_given_46 : decode cX12_given 46 = .ok (.iload_n 3, 1) := by decide +kernel
theorem dX12_given_47 : decode cX12_given 47 = .ok (.invokevirtual 264, 3) := by decide +kernel
theorem dX12_given_50 : decode cX12_given 50 = .ok (.iconst 0, 1) := by decide +kernel
theorem dX12_given_51 : decode cX12_given 51 = .ok (.istore 4, 2) := by decide +kernel
theorem dX12_given_53 : decode cX12_given 53 = .ok (.iload 4, 2) := by decide +kernel
theorem dX12_given_55 : decode cX12_given 55 = .ok (.aload_n 0, 1) := by decide +kernel
theorem dX12_given_56 : decode cX12_given 56 = .ok (.getfield 208, 3) := by decide +kernel
theorem dX12_given_59 : decode cX12_given 59 = .ok (.if_icmp .ge 41, 3) := by decide +kernel
theorem dX12_given_62 : decode cX12_given 62 = .ok (.aload_n 0, 1) := by decide +kernel
theorem dX12_given_63 : decode cX12_given 63 = .ok (.getfield 94, 3) := by decide +kernel
theorem dX12_given_66 : decode cX12_given 66 = .ok (.iload 4, 2) := by decide +kernel
theorem dX12_given_68 : decode cX12_given 68 = .ok (.iaload, 1) := by decide +kernel
theorem dX12_given_69 : decode cX12_given 69 = .ok (.ifCond .lt 25, 3) := by decide +kernel
theorem dX12_given_72 : decode cX12_given 72 = .ok (.aload_n 0, 1) := by decide +kernel
theorem dX12_given_73 : decode cX12_given 73 = .ok (.aload_n 0, 1) := by decide +kernel
theorem dX12_given_74 : decode cX12_given 74 = .ok (.getfield 94, 3) := by decide +kernel
theorem dX12_given_77 : decode cX12_given 77 = .ok (.iload 4, 2) := by decide +kernel
theorem dX12_given_79 : decode cX12_given 79 = .ok (.iaload, 1) := by decide +kernel
theorem dX12_given_80 : decode cX12_given 80 = .ok (.invokevirtual 295, 3) := by decide +kernel
theorem dX12_given_83 : decode cX12_given 83 = .ok (.iconst 5, 1) := by decide +kernel
theorem dX12_given_84 : decode cX12_given 84 = .ok (.if_icmp .le 10, 3) := by decide +kernel
theorem dX12_given_87 : decode cX12_given 87 = .ok (.aload_n 0, 1) := by decide +kernel
theorem dX12_given_88 : decode cX12_given 88 = .ok (.bipush 9, 2) := by decide +kernel
theorem dX12_given_90 : decode cX12_given 90 = .ok (.invokevirtual 201, 3) := by decide +kernel
theorem dX12_given_93 : decode cX12_given 93 = .ok (.ireturn, 1) := by decide +kernel
theorem dX12_given_94 : decode cX12_given 94 = .ok (.iinc 4 1, 3) := by decide +kernel
theorem dX12_given_97 : decode cX12_given 97 = .ok (.goto (-44), 3) := by decide +kernel
theorem dX12_given_100 : decode cX12_given 100 = .ok (.iconst 0, 1) := by decide +kernel
theorem dX12_given_101 : decode cX12_given 101 = .ok (.istore 4, 2) := by decide +kernel
theorem dX12_given_103 : decode cX12_given 103 = .ok (.iload 4, 2) := by decide +kernel
theorem dX12_given_105 : decode cX12_given 105 = .ok (.aload_n 0, 1) := by decide +kernel
theorem dX12_given_106 : decode cX12_given 106 = .ok (.getfield 205, 3) := by decide +kernel
theorem dX12_given_109 : decode cX12_given 109 = .ok (.if_icmp .ge 79, 3) := by decide +kernel
theorem dX12_given_112 : decode cX12_given 112 = .ok (.aload_n 0, 1) := by decide +kernel
theorem dX12_given_113 : decode cX12_given 113 = .ok (.getfield 168, 3) := by decide +kernel
theorem dX12_given_116 : decode cX12_given 116 = .ok (.iload 4, 2) := by decide +kernel
theorem dX12_given_118 : decode cX12_given 118 = .ok (.iconst 0, 1) := by decide +kernel
theorem dX12_given_119 : decode cX12_given 119 = .ok (.bastore, 1) := by decide +kernel
theorem dX12_given_120 : decode cX12_given 120 = .ok (.aload_n 0, 1) := by decide +kernel
theorem dX12_given_121 : decode cX12_given 121 = .ok (.getfield 165, 3) := by decide +kernel
theorem dX12_given_124 : decode cX12_given 124 = .ok (.iload 4, 2) := by decide +kernel
theorem dX12_given_126 : decode cX12_given 126 = .ok (.aload_n 0, 1) := by decide +kernel
theorem dX12_given_127 : decode cX12_given 127 = .ok (.iload 4, 2) := by decide +kernel
theorem dX12_given_129 : decode cX12_given 129 = .ok (.invokevirtual 267, 3) := by decide +kernel
theorem dX12_given_132 : decode cX12_given 132 = .ok (.ifCond .le 7, 3) := by decide +kernel
theorem dX12_given_135 : decode cX12_given 135 = .ok (.iconst 1, 1) := by decide +kernel
theorem dX12_given_136 : decode cX12_given 136 = .ok (.goto 4, 3) := by decide +kernel
theorem dX12_given_139 : decode cX12_given 139 = .ok (.iconst 0, 1) := by decide +kernel
theorem dX12_given_140 : decode cX12_given 140 = .ok (.bastore, 1) := by decide +kernel
theorem dX12_given_141 : decode cX12_given 141 = .ok (.aload_n 0, 1) := by decide +kernel
theorem dX12_given_142 : decode cX12_given 142 = .ok (.getfield 165, 3) := by decide +kernel
theorem dX12_given_145 : decode cX12_given 145 = .ok (.iload 4, 2) := by decide +kernel
theorem dX12_given_147 : decode cX12_given 147 = .ok (.baload, 1) := by decide +kernel
theorem dX12_given_148 : decode cX12_given 148 = .ok (.ifCond .ne 6, 3) := by decide +kernel
theorem dX12_given_151 : decode cX12_given 151 = .ok (.goto 31, 3) := by decide +kernel
theorem dX12_given_154 : decode cX12_given 154 = .ok (.aload_n 0, 1) := by decide +kernel
theorem dX12_given_155 : decode cX12_given 155 = .ok (.iload 4, 2) := by decide +kernel
theorem dX12_given_157 : decode cX12_given 157 = .ok (.invokevirtual 311, 3) := by decide +kernel
theorem dX12_given_160 : decode cX12_given 160 = .ok (.aload_n 0, 1) := by decide +kernel
theorem dX12_given_161 : decode cX12_given 161 = .ok (.getfield 159, 3) := by decide +kernel
theorem dX12_given_164 : decode cX12_given 164 = .ok (.iload 4, 2) := by decide +kernel
theorem dX12_given_166 : decode cX12_given 166 = .ok (.aload_n 0, 1) := by decide +kernel
theorem dX12_given_167 : decode cX12_given 167 = .ok (.getfield 305, 3) := by decide +kernel
theorem dX12_given_170 : decode cX12_given 170 = .ok (.lastore, 1) := by decide +kernel
theorem dX12_given_171 : decode cX12_given 171 = .ok (.aload_n 0, 1) := by decide +kernel
theorem dX12_given_172 : decode cX12_given 172 = .ok (.getfield 162, 3) := by decide +kernel
theorem dX12_given_175 : decode cX12_given 175 = .ok (.iload 4, 2) := by decide +kernel
theorem dX12_given_177 : decode cX12_given 177 = .ok (.aload_n 0, 1) := by decide +kernel
theorem dX12_given_178 : decode cX12_given 178 = .ok (.getfield 308, 3) := by decide +kernel
theorem dX12_given_181 : decode cX12_given 181 = .ok (.lastore, 1) := by decide +kernel
theorem dX12_given_182 : decode cX12_given 182 = .ok (.iinc 4 1, 3) := by decide +kernel
theorem dX12_given_185 : decode cX12_given 185 = .ok (.goto (-82), 3) := by decide +kernel
theorem dX12_given_188 : decode cX12_given 188 = .ok (.iconst 0, 1) := by decide +kernel
theorem dX12_given_189 : decode cX12_given 189 = .ok (.istore 4, 2) := by decide +kernel
theorem dX12_given_191 : decode cX12_given 191 = .ok (.iload 4, 2) := by decide +kernel
theorem dX12_given_193 : decode cX12_given 193 = .ok (.iload_n 1, 1) := by decide +kernel
theorem dX12_given_194 : decode cX12_given 194 = .ok (.if_icmp .gt 198, 3) := by decide +kernel
theorem dX12_given_197 : decode cX12_given 197 = .ok (.iconst 0, 1) := by decide +kernel
theorem dX12_given_198 : decode cX12_given 198 = .ok (.istore 5, 2) := by decide +kernel
theorem dX12_given_200 : decode cX12_given 200 = .ok (.iload 5, 2) := by decide +kernel
theorem dX12_given_202 : decode cX12_given 202 = .ok (.aload_n 0, 1) := by decide +kernel
theorem dX12_given_203 : decode cX12_given 203 = .ok (.getfield 205, 3) := by decide +kernel
theorem dX12_given_206 : decode cX12_given 206 = .ok (.if_icmp .ge 32, 3) := by decide +kernel
theorem dX12_given_209 : decode cX12_given 209 = .ok (.aload_n 0, 1) := by decide +kernel
theorem dX12_given_210 : decode cX12_given 210 = .ok (.getfield 171, 3) := by decide +kernel
theorem dX12_given_213 : decode cX12_given 213 = .ok (.iload 5, 2) := by decide +kernel
theorem dX12_given_215 : decode cX12_given 215 = .ok (.aload_n 0, 1) := by decide +kernel
theorem dX12_given_216 : decode cX12_given 216 = .ok (.iload 4, 2) := by decide +kernel
theorem dX12_given_218 : decode cX12_given 218 = .ok (.iload 5, 2) := by decide +kernel
theorem dX12_given_220 : decode cX12_given 220 = .ok (.invokevirtual 396, 3) := by decide +kernel
theorem dX12_given_223 : decode cX12_given 223 = .ok (.ifCond .ne 7, 3) := by decide +kernel
theorem dX12_given_226 : decode cX12_given 226 = .ok (.iconst 1, 1) := by decide +kernel
theorem dX12_given_227 : decode cX12_given 227 = .ok (.goto 4, 3) := by decide +kernel
theorem dX12_given_230 : decode cX12_given 230 = .ok (.iconst 0, 1) := by decide +kernel
theorem dX12_given_231 : decode cX12_given 231 = .ok (.bastore, 1) := by decide +kernel
theorem dX12_given_232 : decode cX12_given 232 = .ok (.iinc 5 1, 3) := by decide +kernel
theorem dX12_given_235 : decode cX12_given 235 = .ok (.goto (-35), 3) := by decide +kernel
theorem dX12_given_238 : decode cX12_given 238 = .ok (.iconst 0, 1) := by decide +kernel
theorem dX12_given_239 : decode cX12_given 239 = .ok (.istore 5, 2) := by decide +kernel
theorem dX12_given_241 : decode cX12_given 241 = .ok (.iload 5, 2) := by decide +kernel
theorem dX12_given_243 : decode cX12_given 243 = .ok (.aload_n 0, 1) := by decide +kernel
theorem dX12_given_244 : decode cX12_given 244 = .ok (.getfield 135, 3) := by decide +kernel
theorem dX12_given_247 : decode cX12_given 247 = .ok (.iload 4, 2) := by decide +kernel
theorem dX12_given_249 : decode cX12_given 249 = .ok (.iaload, 1) := by decide +kernel
theorem dX12_given_250 : decode cX12_given 250 = .ok (.if_icmp .ge 136, 3) := by decide +kernel
theorem dX12_given_253 : decode cX12_given 253 = .ok (.iconst (-1), 1) := by decide +kernel
theorem dX12_given_254 : decode cX12_given 254 = .ok (.istore 6, 2) := by decide +kernel
theorem dX12_given_256 : decode cX12_given 256 = .ok (.iconst 0, 1) := by decide +kernel
theorem dX12_given_257 : decode cX12_given 257 = .ok (.istore 7, 2) := by decide +kernel
theorem dX12_given_259 : decode cX12_given 259 = .ok (.iload 7, 2) := by decide +kernel
theorem dX12_given_261 : decode cX12_given 261 = .ok (.aload_n 0, 1) := by decide +kernel
theorem dX12_given_262 : decode cX12_given 262 = .ok (.getfield 205, 3) := by decide +kernel
theorem dX12_given_265 : decode cX12_given 265 = .ok (.if_icmp .ge 62, 3) := by decide +kernel
theorem dX12_given_268 : decode cX12_given 268 = .ok (.aload_n 0, 1) := by decide +kernel
theorem dX12_given_269 : decode cX12_given 269 = .ok (.getfield 171, 3) := by decide +kernel
theorem dX12_given_272 : decode cX12_given 272 = .ok (.iload 7, 2) := by decide +kernel
theorem dX12_given_274 : decode cX12_given 274 = .ok (.baload, 1) := by decide +kernel
theorem dX12_given_275 : decode cX12_given 275 = .ok (.ifCond .ne 46, 3) := by decide +kernel
theorem dX12_given_278 : decode cX12_given 278 = .ok (.iload 6, 2) := by decide +kernel
theorem dX12_given_280 : decode cX12_given 280 = .ok (.ifCond .lt 37, 3) := by decide +kernel
theorem dX12_given_283 : decode cX12_given 283 = .ok (.aload_n 0, 1) := by decide +kernel
theorem dX12_given_284 : decode cX12_given 284 = .ok (.getfield 159, 3) := by decide +kernel
theorem dX12_given_287 : decode cX12_given 287 = .ok (.iload 7, 2) := by decide +kernel
theorem dX12_given_289 : decode cX12_given 289 = .ok (.laload, 1) := by decide +kernel
theorem dX12_given_290 : decode cX12_given 290 = .ok (.aload_n 0, 1) := by decide +kernel
theorem dX12_given_291 : decode cX12_given 291 = .ok (.getfield 162, 3) := by decide +kernel
theorem dX12_given_294 : decode cX12_given 294 = .ok (.iload 7, 2) := by decide +kernel
theorem dX12_given_296 : decode cX12_given 296 = .ok (.laload, 1) := by decide +kernel
theorem dX12_given_297 : decode cX12_given 297 = .ok (.aload_n 0, 1) := by decide +kernel
theorem dX12_given_298 : decode cX12_given 298 = .ok (.getfield 159, 3) := by decide +kernel
theorem dX12_given_301 : decode cX12_given 301 = .ok (.iload 6, 2) := by decide +kernel
theorem dX12_given_303 : decode cX12_given 303 = .ok (.laload, 1) := by decide +kernel
theorem dX12_given_304 : decode cX12_given 304 = .ok (.aload_n 0, 1) := by decide +kernel
theorem dX12_given_305 : decode cX12_given 305 = .ok (.getfield 162, 3) := by decide +kernel
theorem dX12_given_308 : decode cX12_given 308 = .ok (.iload 6, 2) := by decide +kernel
theorem dX12_given_310 : decode cX12_given 310 = .ok (.laload, 1) := by decide +kernel
theorem dX12_given_311 : decode cX12_given 311 = .ok (.invokestatic 399, 3) := by decide +kernel
theorem dX12_given_314 : decode cX12_given 314 = .ok (.ifCond .eq 7, 3) := by decide +kernel
theorem dX12_given_317 : decode cX12_given 317 = .ok (.iload 7, 2) := by decide +kernel
theorem dX12_given_319 : decode cX12_given 319 = .ok (.istore 6, 2) := by decide +kernel
theorem dX12_given_321 : decode cX12_given 321 = .ok (.iinc 7 1, 3) := by decide +kernel
theorem dX12_given_324 : decode cX12_given 324 = .ok (.goto (-65), 3) := by decide +kernel
theorem dX12_given_327 : decode cX12_given 327 = .ok (.iload 6, 2) := by decide +kernel
theorem dX12_given_329 : decode cX12_given 329 = .ok (.ifCond .ge 15, 3) := by decide +kernel
theorem dX12_given_332 : decode cX12_given 332 = .ok (.aload_n 0, 1) := by decide +kernel
theorem dX12_given_333 : decode cX12_given 333 = .ok (.getfield 135, 3) := by decide +kernel
theorem dX12_given_336 : decode cX12_given 336 = .ok (.iload 4, 2) := by decide +kernel
theorem dX12_given_338 : decode cX12_given 338 = .ok (.iaload, 1) := by decide +kernel
theorem dX12_given_339 : decode cX12_given 339 = .ok (.istore 5, 2) := by decide +kernel
theorem dX12_given_341 : decode cX12_given 341 = .ok (.goto 18, 3) := by decide +kernel
theorem dX12_given_344 : decode cX12_given 344 = .ok (.iload 4, 2) := by decide +kernel
theorem dX12_given_346 : decode cX12_given 346 = .ok (.iload_n 1, 1) := by decide +kernel
theorem dX12_given_347 : decode cX12_given 347 = .ok (.if_icmp .ne 12, 3) := by decide +kernel
theorem dX12_given_350 : decode cX12_given 350 = .ok (.iload 5, 2) := by decide +kernel
theorem dX12_given_352 : decode cX12_given 352 = .ok (.iload_n 2, 1) := by decide +kernel
theorem dX12_given_353 : decode cX12_given 353 = .ok (.if_icmp .ne 6, 3) := by decide +kernel
theorem dX12_given_356 : decode cX12_given 356 = .ok (.iload 6, 2) := by decide +kernel
theorem dX12_given_358 : decode cX12_given 358 = .ok (.ireturn, 1) := by decide +kernel
theorem dX12_given_359 : decode cX12_given 359 = .ok (.iload 6, 2) := by decide +kernel
theorem dX12_given_361 : decode cX12_given 361 = .ok (.ifCond .lt 19, 3) := by decide +kernel
theorem dX12_given_364 : decode cX12_given 364 = .ok (.aload_n 0, 1) := by decide +kernel
theorem dX12_given_365 : decode cX12_given 365 = .ok (.getfield 171, 3) := by decide +kernel
theorem dX12_given_368 : decode cX12_given 368 = .ok (.iload 6, 2) := by decide +kernel
theorem dX12_given_370 : decode cX12_given 370 = .ok (.iconst 1, 1) := by decide +kernel
theorem dX12_given_371 : decode cX12_given 371 = .ok (.bastore, 1) := by decide +kernel
theorem dX12_given_372 : decode cX12_given 372 = .ok (.aload_n 0, 1) := by decide +kernel
theorem dX12_given_373 : decode cX12_given 373 = .ok (.getfield 168, 3) := by decide +kernel
theorem dX12_given_376 : decode cX12_given 376 = .ok (.iload 6, 2) := by decide +kernel
theorem dX12_given_378 : decode cX12_given 378 = .ok (.iconst 1, 1) := by decide +kernel
theorem dX12_given_379 : decode cX12_given 379 = .ok (.bastore, 1) := by decide +kernel
theorem dX12_given_380 : decode cX12_given 380 = .ok (.iinc 5 1, 3) := by decide +kernel
theorem dX12_given_383 : decode cX12_given 383 = .ok (.goto (-142), 3) := by decide +kernel
theorem dX12_given_386 : decode cX12_given 386 = .ok (.iinc 4 1, 3) := by decide +kernel
theorem dX12_given_389 : decode cX12_given 389 = .ok (.goto (-198), 3) := by decide +kernel
theorem dX12_given_392 : decode cX12_given 392 = .ok (.aload_n 0, 1) := by decide +kernel
theorem dX12_given_393 : decode cX12_given 393 = .ok (.iconst 1, 1) := by decide +kernel
theorem dX12_given_394 : decode cX12_given 394 = .ok (.invokevirtual 201, 3) := by decide +kernel
theorem dX12_given_397 : decode cX12_given 397 = .ok (.ireturn, 1) := by decide +kernel
theorem dX12_hall_0 : decode cX12_hall 0 = .ok (.aload_n 0, 1) := by decide +kernel
theorem dX12_hall_1 : decode cX12_hall 1 = .ok (.iconst 0, 1) := by decide +kernel
theorem dX12_hall_2 : decode cX12_hall 2 = .ok (.putfield 195, 3) := by decide +kernel
theorem dX12_hall_5 : decode cX12_hall 5 = .ok (.aload_n 0, 1) := by decide +kernel
theorem dX12_hall_6 : decode cX12_hall 6 = .ok (.iconst 0, 1) := by decide +kernel
theorem dX12_hall_7 : decode cX12_hall 7 = .ok (.putfield 198, 3) := by decide +kernel
theorem dX12_hall_10 : decode cX12_hall 10 = .ok (.iload_n 1, 1) := by decide +kernel
theorem dX12_hall_11 : decode cX12_hall 11 = .ok (.ifCond .lt 30, 3) := by decide +kernel
theorem dX12_hall_14 : decode cX12_hall 14 = .ok (.iload_n 1, 1) := by decide +kernel
theorem dX12_hall_15 : decode cX12_hall 15 = .ok (.bipush 24, 2) := by decide +kernel
theorem dX12_hall_17 : decode cX12_hall 17 = .ok (.if_icmp .gt 24, 3) := by decide +kernel
theorem dX12_hall_20 : decode cX12_hall 20 = .ok (.iload_n 2, 1) := by decide +kernel
theorem dX12_hall_21 : decode cX12_hall 21 = .ok (.ifCond .lt 20, 3) := by decide +kernel
theorem dX12_hall_24 : decode cX12_hall 24 = .ok (.iload_n 2, 1) := by decide +kernel
theorem dX12_hall_25 : decode cX12_hall 25 = .ok (.sipush 999, 3) := by decide +kernel
theorem dX12_hall_28 : decode cX12_hall 28 = .ok (.if_icmp .gt 13, 3) := by decide +kernel
theorem dX12_hall_31 : decode cX12_hall 31 = .ok (.iload_n 3, 1) := by decide +kernel
theorem dX12_hall_32 : decode cX12_hall 32 = .ok (.ifCond .lt 9, 3) := by decide +kernel
theorem dX12_hall_35 : decode cX12_hall 35 = .ok (.iload_n 3, 1) := by decide +kernel
theorem dX12_hall_36 : decode cX12_hall 36 = .ok (.bipush 24, 2) := by decide +kernel
theorem dX12_hall_38 : decode cX12_hall 38 = .ok (.if_icmp .le 9, 3) := by decide +kernel
theorem dX12_hall_41 : decode cX12_hall 41 = .ok (.aload_n 0, 1) := by decide +kernel
theorem dX12_hall_42 : decode cX12_hall 42 = .ok (.iconst 2, 1) := by decide +kernel
theorem dX12_hall_43 : decode cX12_hall 43 = .ok (.invokevirtual 201, 3) := by decide +kernel
theorem dX12_hall_46 : decode cX12_hall 46 = .ok (.ireturn, 1) := by decide +kernel
theorem dX12_hall_47 : decode cX12_hall 47 = .ok (.aload_n 0, 1) := by decide +kernel
theorem dX12_hall_48 : decode cX12_hall 48 = .ok (.getfield 403, 3) := by decide +kernel
theorem dX12_hall_51 : decode cX12_hall 51 = .ok (.iconst 4, 1) := by decide +kernel
theorem dX12_hall_52 : decode cX12_hall 52 = .ok (.if_icmp .ne 9, 3) := by decide +kernel
theorem dX12_hall_55 : decode cX12_hall 55 = .ok (.aload_n 0, 1) := by decide +kernel
theorem dX12_hall_56 : decode cX12_hall 56 = .ok (.iconst 3, 1) := by decide +kernel
theorem dX12_hall_57 : decode cX12_hall 57 = .ok (.invokevirtual 201, 3) := by decide +kernel
theorem dX12_hall_60 : decode cX12_hall 60 = .ok (.ireturn, 1) := by decide +kernel
theorem dX12_hall_61 : decode cX12_hall 61 = .ok (.aload_n 0, 1) := by decide +kernel
theorem dX12_hall_62 : decode cX12_hall 62 = .ok (.getfield 174, 3) := by decide +kernel
theorem dX12_hall_65 : decode cX12_hall 65 = .ok (.aload_n 0, 1) := by decide +kernel
theorem dX12_hall_66 : decode cX12_hall 66 = .ok (.getfield 403, 3) := by decide +kernel
theorem dX12_hall_69 : decode cX12_hall 69 = .ok (.iload_n 1, 1) := by decide +kernel
theorem dX12_hall_70 : decode cX12_hall 70 = .ok (.iastore, 1) := by decide +kernel
theorem dX12_hall_71 : decode cX12_hall 71 = .ok (.aload_n 0, 1) := by decide +kernel
theorem dX12_hall_72 : decode cX12_hall 72 = .ok (.getfield 177, 3) := by decide +kernel
theorem dX12_hall_75 : decode cX12_hall 75 = .ok (.aload_n 0, 1) := by decide +kernel
theorem dX12_hall_76 : decode cX12_hall 76 = .ok (.getfield 403, 3) := by decide +kernel
theorem dX12_hall_79 : decode cX12_hall 79 = .ok (.iload_n 2, 1) := by decide +kernel
theorem dX12_hall_80 : decode cX12_hall 80 = .ok (.iastore, 1) := by decide +kernel
theorem dX12_hall_81 : decode cX12_hall 81 = .ok (.aload_n 0, 1) := by decide +kernel
theorem dX12_hall_82 : decode cX12_hall 82 = .ok (.getfield 180, 3) := by decide +kernel
theorem dX12_hall_85 : decode cX12_hall 85 = .ok (.aload_n 0, 1) := by decide +kernel
theorem dX12_hall_86 : decode cX12_hall 86 = .ok (.getfield 403, 3) := by decide +kernel
theorem dX12_hall_89 : decode cX12_hall 89 = .ok (.iload_n 3, 1) := by decide +kernel
theorem dX12_hall_90 : decode cX12_hall 90 = .ok (.iastore, 1) := by decide +kernel
theorem dX12_hall_91 : decode cX12_hall 91 = .ok (.aload_n 0, 1) := by decide +kernel
theorem dX12_hall_92 : decode cX12_hall 92 = .ok (.dup, 1) := by decide +kernel
theorem dX12_hall_93 : decode cX12_hall 93 = .ok (.getfield 403, 3) := by decide +kernel
theorem dX12_hall_96 : decode cX12_hall 96 = .ok (.iconst 1, 1) := by decide +kernel
theorem dX12_hall_97 : decode cX12_hall 97 = .ok (.iadd, 1) := by decide +kernel
theorem dX12_hall_98 : decode cX12_hall 98 = .ok (.putfield 403, 3) := by decide +kernel
theorem dX12_hall_101 : decode cX12_hall 101 = .ok (.aload_n 0, 1) := by decide +kernel
theorem dX12_hall_102 : decode cX12_hall 102 = .ok (.getfield 403, 3) := by decide +kernel
theorem dX12_hall_105 : decode cX12_hall 105 = .ok (.iconst 1, 1) := by decide +kernel
theorem dX12_hall_106 : decode cX12_hall 106 = .ok (.isub, 1) := by decide +kernel
theorem dX12_hall_107 : decode cX12_hall 107 = .ok (.ireturn, 1) := by decide +kernel
theorem dX12_clear_0 : decode cX12_clear 0 = .ok (.aload_n 0, 1) := by decide +kernel
theorem dX12_clear_1 : decode cX12_clear 1 = .ok (.iconst 0, 1) := by decide +kernel
theorem dX12_clear_2 : decode cX12_clear 2 = .ok (.putfield 195, 3) := by decide +kernel
theorem dX12_clear_5 : decode cX12_clear 5 = .ok (.aload_n 0, 1) := by decide +kernel
theorem dX12_clear_6 : decode cX12_clear 6 = .ok (.iconst 0, 1) := by decide +kernel
theorem dX12_clear_7 : decode cX12_clear 7 = .ok (.putfield 198, 3) := by decide +kernel
theorem dX12_clear_10 : decode cX12_clear 10 = .ok (.aload_n 0, 1) := by decide +kernel
theorem dX12_clear_11 : decode cX12_clear 11 = .ok (.iconst 0, 1) := by decide +kernel
theorem dX12_clear_12 : decode cX12_clear 12 = .ok (.putfield 403, 3) := by decide +kernel
theorem dX12_clear_15 : decode cX12_clear 15 = .ok (.iconst 1, 1) := by decide +kernel
theorem dX12_clear_16 : decode cX12_clear 16 = .ok (.ireturn, 1) := by decide +kernel
theorem dX12_puts_0 : decode cX12_puts 0 = .ok (.aload_n 0, 1) := by decide +kernel
theorem dX12_puts_1 : decode cX12_puts 1 = .ok (.getfield 186, 3) := by decide +kernel
theorem dX12_puts_4 : decode cX12_puts 4 = .ok (.iload_n 2, 1) := by decide +kernel
theorem dX12_puts_5 : decode cX12_puts 5 = .ok (.dup2, 1) := by decide +kernel
theorem dX12_puts_6 : decode cX12_puts 6 = .ok (.iaload, 1) := by decide +kernel
theorem dX12_puts_7 : decode cX12_puts 7 = .ok (.iload_n 3, 1) := by decide +kernel
theorem dX12_puts_8 : decode cX12_puts 8 = .ok (.iadd, 1) := by decide +kernel
theorem dX12_puts_9 : decode cX12_puts 9 = .ok (.iastore, 1) := by decide +kernel
theorem dX12_puts_10 : decode cX12_puts 10 = .ok (.aload_n 0, 1) := by decide +kernel
theorem dX12_puts_11 : decode cX12_puts 11 = .ok (.getfield 189, 3) := by decide +kernel
theorem dX12_puts_14 : decode cX12_puts 14 = .ok (.iload_n 2, 1) := by decide +kernel
theorem dX12_puts_15 : decode cX12_puts 15 = .ok (.dup2, 1) := by decide +kernel
theorem dX12_puts_16 : decode cX12_puts 16 = .ok (.iaload, 1) := by decide +kernel
theorem dX12_puts_17 : decode cX12_puts 17 = .ok (.iload_n 3, 1) := by decide +kernel
theorem dX12_puts_18 : decode cX12_puts 18 = .ok (.aload_n 0, 1) := by decide +kernel
theorem dX12_puts_19 : decode cX12_puts 19 = .ok (.getfield 27, 3) := by decide +kernel
theorem dX12_puts_22 : decode cX12_puts 22 = .ok (.iload_n 1, 1) := by decide +kernel
theorem dX12_puts_23 : decode cX12_puts 23 = .ok (.iaload, 1) := by decide +kernel
theorem dX12_puts_24 : decode cX12_puts 24 = .ok (.imul, 1) := by decide +kernel
theorem dX12_puts_25 : decode cX12_puts 25 = .ok (.iadd, 1) := by decide +kernel
theorem dX12_puts_26 : decode cX12_puts 26 = .ok (.iastore, 1) := by decide +kernel
theorem dX12_puts_27 : decode cX12_puts 27 = .ok (.aload_n 0, 1) := by decide +kernel
theorem dX12_puts_28 : decode cX12_puts 28 = .ok (.getfield 192, 3) := by decide +kernel
theorem dX12_puts_31 : decode cX12_puts 31 = .ok (.iload_n 2, 1) := by decide +kernel
theorem dX12_puts_32 : decode cX12_puts 32 = .ok (.dup2, 1) := by decide +kernel
theorem dX12_puts_33 : decode cX12_puts 33 = .ok (.iaload, 1) := by decide +kernel
theorem dX12_puts_34 : decode cX12_puts 34 = .ok (.aload_n 0, 1) := by decide +kernel
theorem dX12_puts_35 : decode cX12_puts 35 = .ok (.getfield 39, 3) := by decide +kernel
theorem dX12_puts_38 : decode cX12_puts 38 = .ok (.iload_n 1, 1) := by decide +kernel
theorem dX12_puts_39 : decode cX12_puts 39 = .ok (.baload, 1) := by decide +kernel
theorem dX12_puts_40 : decode cX12_puts 40 = .ok (.ifCond .eq 7, 3) := by decide +kernel
theorem dX12_puts_43 : decode cX12_puts 43 = .ok (.iload_n 3, 1) := by decide +kernel
theorem dX12_puts_44 : decode cX12_puts 44 = .ok (.goto 4, 3) := by decide +kernel
theorem dX12_puts_47 : decode cX12_puts 47 = .ok (.iconst 0, 1) := by decide +kernel
theorem dX12_puts_48 : decode cX12_puts 48 = .ok (.iadd, 1) := by decide +kernel
theorem dX12_puts_49 : decode cX12_puts 49 = .ok (.iastore, 1) := by decide +kernel
theorem dX12_puts_50 : decode cX12_puts 50 = .ok (.return_, 1) := by decide +kernel
theorem dX12_canBear_0 : decode cX12_canBear 0 = .ok (.aload_n 0, 1) := by decide +kernel
theorem dX12_canBear_1 : decode cX12_canBear 1 = .ok (.getfield 186, 3) := by decide +kernel
theorem dX12_canBear_4 : decode cX12_canBear 4 = .ok (.iload_n 2, 1) := by decide +kernel
theorem dX12_canBear_5 : decode cX12_canBear 5 = .ok (.iaload, 1) := by decide +kernel
theorem dX12_canBear_6 : decode cX12_canBear 6 = .ok (.aload_n 0, 1) := by decide +kernel
theorem dX12_canBear_7 : decode cX12_canBear 7 = .ok (.getfield 174, 3) := by decide +kernel
theorem dX12_canBear_10 : decode cX12_canBear 10 = .ok (.iload_n 2, 1) := by decide +kernel
theorem dX12_canBear_11 : decode cX12_canBear 11 = .ok (.iaload, 1) := by decide +kernel
theorem dX12_canBear_12 : decode cX12_canBear 12 = .ok (.if_icmp .ge 59, 3) := by decide +kernel
theorem dX12_canBear_15 : decode cX12_canBear 15 = .ok (.aload_n 0, 1) := by decide +kernel
theorem dX12_canBear_16 : decode cX12_canBear 16 = .ok (.getfield 189, 3) := by decide +kernel
theorem dX12_canBear_19 : decode cX12_canBear 19 = .ok (.iload_n 2, 1) := by decide +kernel
theorem dX12_canBear_20 : decode cX12_canBear 20 = .ok (.iaload, 1) := by decide +kernel
theorem dX12_canBear_21 : decode cX12_canBear 21 = .ok (.aload_n 0, 1) := by decide +kernel
theorem dX12_canBear_22 : decode cX12_canBear 22 = .ok (.getfield 27, 3) := by decide +kernel
theorem dX12_canBear_25 : decode cX12_canBear 25 = .ok (.iload_n 1, 1) := by decide +kernel
theorem dX12_canBear_26 : decode cX12_canBear 26 = .ok (.iaload, 1) := by decide +kernel
theorem dX12_canBear_27 : decode cX12_canBear 27 = .ok (.iadd, 1) := by decide +kernel
theorem dX12_canBear_28 : decode cX12_canBear 28 = .ok (.aload_n 0, 1) := by decide +kernel
theorem dX12_canBear_29 : decode cX12_canBear 29 = .ok (.getfield 177, 3) := by decide +kernel
theorem dX12_canBear_32 : decode cX12_canBear 32 = .ok (.iload_n 2, 1) := by decide +kernel
theorem dX12_canBear_33 : decode cX12_canBear 33 = .ok (.iaload, 1) := by decide +kernel
theorem dX12_canBear_34 : decode cX12_canBear 34 = .ok (.if_icmp .gt 37, 3) := by decide +kernel
theorem dX12_canBear_37 : decode cX12_canBear 37 = .ok (.aload_n 0, 1) := by decide +kernel
theorem dX12_canBear_38 : decode cX12_canBear 38 = .ok (.getfield 192, 3) := by decide +kernel
theorem dX12_canBear_41 : decode cX12_canBear 41 = .ok (.iload_n 2, 1) := by decide +kernel
theorem dX12_canBear_42 : decode cX12_canBear 42 = .ok (.iaload, 1) := by decide +kernel
theorem dX12_canBear_43 : decode cX12_canBear 43 = .ok (.aload_n 0, 1) := by decide +kernel
theorem dX12_canBear_44 : decode cX12_canBear 44 = .ok (.getfield 39, 3) := by decide +kernel
theorem dX12_canBear_47 : decode cX12_canBear 47 = .ok (.iload_n 1, 1) := by decide +kernel
theorem dX12_canBear_48 : decode cX12_canBear 48 = .ok (.baload, 1) := by decide +kernel
theorem dX12_canBear_49 : decode cX12_canBear 49 = .ok (.ifCond .eq 7, 3) := by decide +kernel
theorem dX12_canBear_52 : decode cX12_canBear 52 = .ok (.iconst 1, 1) := by decide +kernel
theorem dX12_canBear_53 : decode cX12_canBear 53 = .ok (.goto 4, 3) := by decide +kernel
theorem dX12_canBear_56 : decode cX12_canBear 56 = .ok (.iconst 0, 1) := by decide +kernel
theorem dX12_canBear_57 : decode cX12_canBear 57 = .ok (.iadd, 1) := by decide +kernel
theorem dX12_canBear_58 : decode cX12_canBear 58 = .ok (.aload_n 0, 1) := by decide +kernel
theorem dX12_canBear_59 : decode cX12_canBear 59 = .ok (.getfield 180, 3) := by decide +kernel
theorem dX12_canBear_62 : decode cX12_canBear 62 = .ok (.iload_n 2, 1) := by decide +kernel
theorem dX12_canBear_63 : decode cX12_canBear 63 = .ok (.iaload, 1) := by decide +kernel
theorem dX12_canBear_64 : decode cX12_canBear 64 = .ok (.if_icmp .gt 7, 3) := by decide +kernel
theorem dX12_canBear_67 : decode cX12_canBear 67 = .ok (.iconst 1, 1) := by decide +kernel
theorem dX12_canBear_68 : decode cX12_canBear 68 = .ok (.goto 4, 3) := by decide +kernel
theorem dX12_canBear_71 : decode cX12_canBear 71 = .ok (.iconst 0, 1) := by decide +kernel
theorem dX12_canBear_72 : decode cX12_canBear 72 = .ok (.ireturn, 1) := by decide +kernel
theorem dX12_lays_0 : decode cX12_lays 0 = .ok (.aload_n 0, 1) := by decide +kernel
theorem dX12_lays_1 : decode cX12_lays 1 = .ok (.iconst 0, 1) := by decide +kernel
theorem dX12_lays_2 : decode cX12_lays 2 = .ok (.putfield 406, 3) := by decide +kernel
theorem dX12_lays_5 : decode cX12_lays 5 = .ok (.iconst 0, 1) := by decide +kernel
theorem dX12_lays_6 : decode cX12_lays 6 = .ok (.istore_n 1, 1) := by decide +kernel
theorem dX12_lays_7 : decode cX12_lays 7 = .ok (.iload_n 1, 1) := by decide +kernel
theorem dX12_lays_8 : decode cX12_lays 8 = .ok (.iconst 4, 1) := by decide +kernel
theorem dX12_lays_9 : decode cX12_lays 9 = .ok (.if_icmp .ge 30, 3) := by decide +kernel
theorem dX12_lays_12 : decode cX12_lays 12 = .ok (.aload_n 0, 1) := by decide +kernel
theorem dX12_lays_13 : decode cX12_lays 13 = .ok (.getfield 186, 3) := by decide +kernel
theorem dX12_lays_16 : decode cX12_lays 16 = .ok (.iload_n 1, 1) := by decide +kernel
theorem dX12_lays_17 : decode cX12_lays 17 = .ok (.iconst 0, 1) := by decide +kernel
theorem dX12_lays_18 : decode cX12_lays 18 = .ok (.iastore, 1) := by decide +kernel
theorem dX12_lays_19 : decode cX12_lays 19 = .ok (.aload_n 0, 1) := by decide +kernel
theorem dX12_lays_20 : decode cX12_lays 20 = .ok (.getfield 189, 3) := by decide +kernel
theorem dX12_lays_23 : decode cX12_lays 23 = .ok (.iload_n 1, 1) := by decide +kernel
theorem dX12_lays_24 : decode cX12_lays 24 = .ok (.iconst 0, 1) := by decide +kernel
theorem dX12_lays_25 : decode cX12_lays 25 = .ok (.iastore, 1) := by decide +kernel
theorem dX12_lays_26 : decode cX12_lays 26 = .ok (.aload_n 0, 1) := by decide +kernel
theorem dX12_lays_27 : decode cX12_lays 27 = .ok (.getfield 192, 3) := by decide +kernel
theorem dX12_lays_30 : decode cX12_lays 30 = .ok (.iload_n 1, 1) := by decide +kernel
theorem dX12_lays_31 : decode cX12_lays 31 = .ok (.iconst 0, 1) := by decide +kernel
theorem dX12_lays_32 : decode cX12_lays 32 = .ok (.iastore, 1) := by decide +kernel
theorem dX12_lays_33 : decode cX12_lays 33 = .ok (.iinc 1 1, 3) := by decide +kernel
theorem dX12_lays_36 : decode cX12_lays 36 = .ok (.goto (-29), 3) := by decide +kernel
theorem dX12_lays_39 : decode cX12_lays 39 = .ok (.iconst 0, 1) := by decide +kernel
theorem dX12_lays_40 : decode cX12_lays 40 = .ok (.istore_n 1, 1) := by decide +kernel
theorem dX12_lays_41 : decode cX12_lays 41 = .ok (.aload_n 0, 1) := by decide +kernel
theorem dX12_lays_42 : decode cX12_lays 42 = .ok (.getfield 205, 3) := by decide +kernel
theorem dX12_lays_45 : decode cX12_lays 45 = .ok (.ifCond .le 10, 3) := by decide +kernel
theorem dX12_lays_48 : decode cX12_lays 48 = .ok (.aload_n 0, 1) := by decide +kernel
theorem dX12_lays_49 : decode cX12_lays 49 = .ok (.getfield 183, 3) := by decide +kernel
theorem dX12_lays_52 : decode cX12_lays 52 = .ok (.iconst 0, 1) := by decide +kernel
theorem dX12_lays_53 : decode cX12_lays 53 = .ok (.iconst (-1), 1) := by decide +kernel
theorem dX12_lays_54 : decode cX12_lays 54 = .ok (.iastore, 1) := by decide +kernel
theorem dX12_lays_55 : decode cX12_lays 55 = .ok (.iload_n 1, 1) := by decide +kernel
theorem dX12_lays_56 : decode cX12_lays 56 = .ok (.aload_n 0, 1) := by decide +kernel
theorem dX12_lays_57 : decode cX12_lays 57 = .ok (.getfield 205, 3) := by decide +kernel
theorem dX12_lays_60 : decode cX12_lays 60 = .ok (.if_icmp .ge 144, 3) := by decide +kernel
theorem dX12_lays_63 : decode cX12_lays 63 = .ok (.aload_n 0, 1) := by decide +kernel
theorem dX12_lays_64 : decode cX12_lays 64 = .ok (.getfield 183, 3) := by decide +kernel
theorem dX12_lays_67 : decode cX12_lays 67 = .ok (.iload_n 1, 1) := by decide +kernel
theorem dX12_lays_68 : decode cX12_lays 68 = .ok (.iaload, 1) := by decide +kernel
theorem dX12_lays_69 : decode cX12_lays 69 = .ok (.ifCond .lt 15, 3) := by decide +kernel
theorem dX12_lays_72 : decode cX12_lays 72 = .ok (.aload_n 0, 1) := by decide +kernel
theorem dX12_lays_73 : decode cX12_lays 73 = .ok (.iload_n 1, 1) := by decide +kernel
theorem dX12_lays_74 : decode cX12_lays 74 = .ok (.aload_n 0, 1) := by decide +kernel
theorem dX12_lays_75 : decode cX12_lays 75 = .ok (.getfield 183, 3) := by decide +kernel
theorem dX12_lays_78 : decode cX12_lays 78 = .ok (.iload_n 1, 1) := by decide +kernel
theorem dX12_lays_79 : decode cX12_lays 79 = .ok (.iaload, 1) := by decide +kernel
theorem dX12_lays_80 : decode cX12_lays 80 = .ok (.iconst (-1), 1) := by decide +kernel
theorem dX12_lays_81 : decode cX12_lays 81 = .ok (.invokevirtual 409, 3) := by decide +kernel
theorem dX12_lays_84 : decode cX12_lays 84 = .ok (.aload_n 0, 1) := by decide +kernel
theorem dX12_lays_85 : decode cX12_lays 85 = .ok (.getfield 183, 3) := by decide +kernel
theorem dX12_lays_88 : decode cX12_lays 88 = .ok (.iload_n 1, 1) := by decide +kernel
theorem dX12_lays_89 : decode cX12_lays 89 = .ok (.iaload, 1) := by decide +kernel
theorem dX12_lays_90 : decode cX12_lays 90 = .ok (.iconst 1, 1) := by decide +kernel
theorem dX12_lays_91 : decode cX12_lays 91 = .ok (.iadd, 1) := by decide +kernel
theorem dX12_lays_92 : decode cX12_lays 92 = .ok (.istore_n 2, 1) := by decide +kernel
theorem dX12_lays_93 : decode cX12_lays 93 = .ok (.iconst 0, 1) := by decide +kernel
theorem dX12_lays_94 : decode cX12_lays 94 = .ok (.istore_n 3, 1) := by decide +kernel
theorem dX12_lays_95 : decode cX12_lays 95 = .ok (.iload_n 2, 1) := by decide +kernel
theorem dX12_lays_96 : decode cX12_lays 96 = .ok (.aload_n 0, 1) := by decide +kernel
theorem dX12_lays_97 : decode cX12_lays 97 = .ok (.getfield 403, 3) := by decide +kernel
theorem dX12_lays_100 : decode cX12_lays 100 = .ok (.if_icmp .ge 52, 3) := by decide +kernel
theorem dX12_lays_103 : decode cX12_lays 103 = .ok (.iload_n 3, 1) := by decide +kernel
theorem dX12_lays_104 : decode cX12_lays 104 = .ok (.ifCond .ne 48, 3) := by decide +kernel
theorem dX12_lays_107 : decode cX12_lays 107 = .ok (.aload_n 0, 1) := by decide +kernel
theorem dX12_lays_108 : decode cX12_lays 108 = .ok (.getfield 406, 3) := by decide +kernel
theorem dX12_lays_111 : decode cX12_lays 111 = .ok (.sipush 20000, 3) := by decide +kernel
theorem dX12_lays_114 : decode cX12_lays 114 = .ok (.if_icmp .ne 6, 3) := by decide +kernel
theorem dX12_lays_117 : decode cX12_lays 117 = .ok (.bipush 10, 2) := by decide +kernel
theorem dX12_lays_119 : decode cX12_lays 119 = .ok (.ireturn, 1) := by decide +kernel
theorem dX12_lays_120 : decode cX12_lays 120 = .ok (.aload_n 0, 1) := by decide +kernel
theorem dX12_lays_121 : decode cX12_lays 121 = .ok (.dup, 1) := by decide +kernel
theorem dX12_lays_122 : decode cX12_lays 122 = .ok (.getfield 406, 3) := by decide +kernel
theorem dX12_lays_125 : decode cX12_lays 125 = .ok (.iconst 1, 1) := by decide +kernel
theorem dX12_lays_126 : decode cX12_lays 126 = .ok (.iadd, 1) := by decide +kernel
theorem dX12_lays_127 : decode cX12_lays 127 = .ok (.putfield 406, 3) := by decide +kernel
theorem dX12_lays_130 : decode cX12_lays 130 = .ok (.aload_n 0, 1) := by decide +kernel
theorem dX12_lays_131 : decode cX12_lays 131 = .ok (.iload_n 1, 1) := by decide +kernel
theorem dX12_lays_132 : decode cX12_lays 132 = .ok (.iload_n 2, 1) := by decide +kernel
theorem dX12_lays_133 : decode cX12_lays 133 = .ok (.invokevirtual 413, 3) := by decide +kernel
theorem dX12_lays_136 : decode cX12_lays 136 = .ok (.istore_n 3, 1) := by decide +kernel
theorem dX12_lays_137 : decode cX12_lays 137 = .ok (.iload_n 2, 1) := by decide +kernel
theorem dX12_lays_138 : decode cX12_lays 138 = .ok (.iload_n 3, 1) := by decide +kernel
theorem dX12_lays_139 : decode cX12_lays 139 = .ok (.ifCond .eq 7, 3) := by decide +kernel
theorem dX12_lays_142 : decode cX12_lays 142 = .ok (.iconst 0, 1) := by decide +kernel
theorem dX12_lays_143 : decode cX12_lays 143 = .ok (.goto 4, 3) := by decide +kernel
theorem dX12_lays_146 : decode cX12_lays 146 = .ok (.iconst 1, 1) := by decide +kernel
theorem dX12_lays_147 : decode cX12_lays 147 = .ok (.iadd, 1) := by decide +kernel
theorem dX12_lays_148 : decode cX12_lays 148 = .ok (.istore_n 2, 1) := by decide +kernel
theorem dX12_lays_149 : decode cX12_lays 149 = .ok (.goto (-54), 3) := by decide +kernel
theorem dX12_lays_152 : decode cX12_lays 152 = .ok (.iload_n 3, 1) := by decide +kernel
theorem dX12_lays_153 : decode cX12_lays 153 = .ok (.ifCond .eq 38, 3) := by decide +kernel
theorem dX12_lays_156 : decode cX12_lays 156 = .ok (.aload_n 0, 1) := by decide +kernel
theorem dX12_lays_157 : decode cX12_lays 157 = .ok (.getfield 183, 3) := by decide +kernel
theorem dX12_lays_160 : decode cX12_lays 160 = .ok (.iload_n 1, 1) := by decide +kernel
theorem dX12_lays_161 : decode cX12_lays 161 = .ok (.iload_n 2, 1) := by decide +kernel
theorem dX12_lays_162 : decode cX12_lays 162 = .ok (.iastore, 1) := by decide +kernel
theorem dX12_lays_163 : decode cX12_lays 163 = .ok (.aload_n 0, 1) := by decide +kernel
theorem dX12_lays_164 : decode cX12_lays 164 = .ok (.iload_n 1, 1) := by decide +kernel
theorem dX12_lays_165 : decode cX12_lays 165 = .ok (.iload_n 2, 1) := by decide +kernel
theorem dX12_lays_166 : decode cX12_lays 166 = .ok (.iconst 1, 1) := by decide +kernel
theorem dX12_lays_167 : decode cX12_lays 167 = .ok (.invokevirtual 409, 3) := by decide +kernel
theorem dX12_lays_170 : decode cX12_lays 170 = .ok (.iinc 1 1, 3) := by decide +kernel
theorem dX12_lays_173 : decode cX12_lays 173 = .ok (.iload_n 1, 1) := by decide +kernel
theorem dX12_lays_174 : decode cX12_lays 174 = .ok (.aload_n 0, 1) := by decide +kernel
theorem dX12_lays_175 : decode cX12_lays 175 = .ok (.getfield 205, 3) := by decide +kernel
theorem dX12_lays_178 : decode cX12_lays 178 = .ok (.if_icmp .ge 23, 3) := by decide +kernel
theorem dX12_lays_181 : decode cX12_lays 181 = .ok (.aload_n 0, 1) := by decide +kernel
theorem dX12_lays_182 : decode cX12_lays 182 = .ok (.getfield 183, 3) := by decide +kernel
theorem dX12_lays_185 : decode cX12_lays 185 = .ok (.iload_n 1, 1) := by decide +kernel
theorem dX12_lays_186 : decode cX12_lays 186 = .ok (.iconst (-1), 1) := by decide +kernel
theorem dX12_lays_187 : decode cX12_lays 187 = .ok (.iastore, 1) := by decide +kernel
theorem dX12_lays_188 : decode cX12_lays 188 = .ok (.goto 13, 3) := by decide +kernel
theorem dX12_lays_191 : decode cX12_lays 191 = .ok (.iinc 1 (-1), 3) := by decide +kernel
theorem dX12_lays_194 : decode cX12_lays 194 = .ok (.iload_n 1, 1) := by decide +kernel
theorem dX12_lays_195 : decode cX12_lays 195 = .ok (.ifCond .ge 6, 3) := by decide +kernel
theorem dX12_lays_198 : decode cX12_lays 198 = .ok (.bipush 8, 2) := by decide +kernel
theorem dX12_lays_200 : decode cX12_lays 200 = .ok (.ireturn, 1) := by decide +kernel
theorem dX12_lays_201 : decode cX12_lays 201 = .ok (.goto (-146), 3) := by decide +kernel
theorem dX12_lays_204 : decode cX12_lays 204 = .ok (.iconst 0, 1) := by decide +kernel
theorem dX12_lays_205 : decode cX12_lays 205 = .ok (.ireturn, 1) := by decide +kernel
theorem dX12_laid_0 : decode cX12_laid 0 = .ok (.aload_n 0, 1) := by decide +kernel
theorem dX12_laid_1 : decode cX12_laid 1 = .ok (.iconst 0, 1) := by decide +kernel
theorem dX12_laid_2 : decode cX12_laid 2 = .ok (.putfield 195, 3) := by decide +kernel
theorem dX12_laid_5 : decode cX12_laid 5 = .ok (.aload_n 0, 1) := by decide +kernel
theorem dX12_laid_6 : decode cX12_laid 6 = .ok (.iconst 0, 1) := by decide +kernel
theorem dX12_laid_7 : decode cX12_laid 7 = .ok (.putfield 198, 3) := by decide +kernel
theorem dX12_laid_10 : decode cX12_laid 10 = .ok (.aload_n 0, 1) := by decide +kernel
theorem dX12_laid_11 : decode cX12_laid 11 = .ok (.iload_n 1, 1) := by decide +kernel
theorem dX12_laid_12 : decode cX12_laid 12 = .ok (.invokevirtual 211, 3) := by decide +kernel
theorem dX12_laid_15 : decode cX12_laid 15 = .ok (.ifCond .ne 9, 3) := by decide +kernel
theorem dX12_laid_18 : decode cX12_laid 18 = .ok (.aload_n 0, 1) := by decide +kernel
theorem dX12_laid_19 : decode cX12_laid 19 = .ok (.iconst 1, 1) := by decide +kernel
theorem dX12_laid_20 : decode cX12_laid 20 = .ok (.invokevirtual 201, 3) := by decide +kernel
theorem dX12_laid_23 : decode cX12_laid 23 = .ok (.ireturn, 1) := by decide +kernel
theorem dX12_laid_24 : decode cX12_laid 24 = .ok (.aload_n 0, 1) := by decide +kernel
theorem dX12_laid_25 : decode cX12_laid 25 = .ok (.invokevirtual 416, 3) := by decide +kernel
theorem dX12_laid_28 : decode cX12_laid 28 = .ok (.istore_n 2, 1) := by decide +kernel
theorem dX12_laid_29 : decode cX12_laid 29 = .ok (.iload_n 2, 1) := by decide +kernel
theorem dX12_laid_30 : decode cX12_laid 30 = .ok (.ifCond .le 11, 3) := by decide +kernel
theorem dX12_laid_33 : decode cX12_laid 33 = .ok (.aload_n 0, 1) := by decide +kernel
theorem dX12_laid_34 : decode cX12_laid 34 = .ok (.iload_n 2, 1) := by decide +kernel
theorem dX12_laid_35 : decode cX12_laid 35 = .ok (.invokevirtual 201, 3) := by decide +kernel
theorem dX12_laid_38 : decode cX12_laid 38 = .ok (.goto 9, 3) := by decide +kernel
theorem dX12_laid_41 : decode cX12_laid 41 = .ok (.aload_n 0, 1) := by decide +kernel
theorem dX12_laid_42 : decode cX12_laid 42 = .ok (.getfield 183, 3) := by decide +kernel
theorem dX12_laid_45 : decode cX12_laid 45 = .ok (.iload_n 1, 1) := by decide +kernel
theorem dX12_laid_46 : decode cX12_laid 46 = .ok (.iaload, 1) := by decide +kernel
theorem dX12_laid_47 : decode cX12_laid 47 = .ok (.ireturn, 1) := by decide +kernel
theorem dX12_tries_0 : decode cX12_tries 0 = .ok (.aload_n 0, 1) := by decide +kernel
theorem dX12_tries_1 : decode cX12_tries 1 = .ok (.iconst 0, 1) := by decide +kernel
theorem dX12_tries_2 : decode cX12_tries 2 = .ok (.putfield 195, 3) := by decide +kernel
theorem dX12_tries_5 : decode cX12_tries 5 = .ok (.aload_n 0, 1) := by decide +kernel
theorem dX12_tries_6 : decode cX12_tries 6 = .ok (.iconst 0, 1) := by decide +kernel
theorem dX12_tries_7 : decode cX12_tries 7 = .ok (.putfield 198, 3) := by decide +kernel
theorem dX12_tries_10 : decode cX12_tries 10 = .ok (.aload_n 0, 1) := by decide +kernel
theorem dX12_tries_11 : decode cX12_tries 11 = .ok (.invokevirtual 416, 3) := by decide +kernel
theorem dX12_tries_14 : decode cX12_tries 14 = .ok (.istore_n 1, 1) := by decide +kernel
theorem dX12_tries_15 : decode cX12_tries 15 = .ok (.iload_n 1, 1) := by decide +kernel
theorem dX12_tries_16 : decode cX12_tries 16 = .ok (.ifCond .le 11, 3) := by decide +kernel
theorem dX12_tries_19 : decode cX12_tries 19 = .ok (.aload_n 0, 1) := by decide +kernel
theorem dX12_tries_20 : decode cX12_tries 20 = .ok (.iload_n 1, 1) := by decide +kernel
theorem dX12_tries_21 : decode cX12_tries 21 = .ok (.invokevirtual 201, 3) := by decide +kernel
theorem dX12_tries_24 : decode cX12_tries 24 = .ok (.goto 7, 3) := by decide +kernel
theorem dX12_tries_27 : decode cX12_tries 27 = .ok (.aload_n 0, 1) := by decide +kernel
theorem dX12_tries_28 : decode cX12_tries 28 = .ok (.getfield 406, 3) := by decide +kernel
theorem dX12_tries_31 : decode cX12_tries 31 = .ok (.ireturn, 1) := by decide +kernel
end
section
theorem dX0_init_0 : decode cX0_init 0 = .ok (.aload_n 0, 1) := by decide +kernel
theorem dX0_init_1 : decode cX0_init 1 = .ok (.invokespecial 3, 3) := by decide +kernel
theorem dX0_init_4 : decode cX0_init 4 = .ok (.aload_n 0, 1) := by decide +kernel
theorem dX0_init_5 : decode cX0_init 5 = .ok (.bipush 24, 2) := by decide +kernel
theorem dX0_init_7 : decode cX0_init 7 = .ok (.newarray .int, 2) := by decide +kernel
theorem dX0_init_9 : decode cX0_init 9 = .ok (.putfield 9, 3) := by decide +kernel
theorem dX0_init_12 : decode cX0_init 12 = .ok (.aload_n 0, 1) := by decide +kernel
theorem dX0_init_13 : decode cX0_init 13 = .ok (.bipush 24, 2) := by decide +kernel
theorem dX0_init_15 : decode cX0_init 15 = .ok (.newarray .int, 2) := by decide +kernel
theorem dX0_init_17 : decode cX0_init 17 = .ok (.putfield 15, 3) := by decide +kernel
theorem dX0_init_20 : decode cX0_init 20 = .ok (.aload_n 0, 1) := by decide +kernel
theorem dX0_init_21 : decode cX0_init 21 = .ok (.bipush 24, 2) := by decide +kernel
theorem dX0_init_23 : decode cX0_init 23 = .ok (.newarray .int, 2) := by decide +kernel
theorem dX0_init_25 : decode cX0_init 25 = .ok (.putfield 18, 3) := by decide +kernel
theorem dX0_init_28 : decode cX0_init 28 = .ok (.aload_n 0, 1) := by decide +kernel
theorem dX0_init_29 : decode cX0_init 29 = .ok (.bipush 24, 2) := by decide +kernel
theorem dX0_init_31 : decode cX0_init 31 = .ok (.newarray .int, 2) := by decide +kernel
theorem dX0_init_33 : decode cX0_init 33 = .ok (.putfield 21, 3) := by decide +kernel
theorem dX0_init_36 : decode cX0_init 36 = .ok (.aload_n 0, 1) := by decide +kernel
theorem dX0_init_37 : decode cX0_init 37 = .ok (.bipush 24, 2) := by decide +kernel
theorem dX0_init_39 : decode cX0_init 39 = .ok (.newarray .int, 2) := by decide +kernel
theorem dX0_init_41 : decode cX0_init 41 = .ok (.putfield 24, 3) := by decide +kernel
theorem dX0_init_44 : decode cX0_init 44 = .ok (.return_, 1) := by decide +kernel
theorem dX0_has_0 : decode cX0_has 0 = .ok (.iload_n 1, 1) := by decide +kernel
theorem dX0_has_1 : decode cX0_has 1 = .ok (.ifCond .lt 15, 3) := by decide +kernel
theorem dX0_has_4 : decode cX0_has 4 = .ok (.iload_n 1, 1) := by decide +kernel
theorem dX0_has_5 : decode cX0_has 5 = .ok (.aload_n 0, 1) := by decide +kernel
theorem dX0_has_6 : decode cX0_has 6 = .ok (.getfield 27, 3) := by decide +kernel
theorem dX0_has_9 : decode cX0_has 9 = .ok (.if_icmp .ge 7, 3) := by decide +kernel
theorem dX0_has_12 : decode cX0_has 12 = .ok (.iconst 1, 1) := by decide +kernel
theorem dX0_has_13 : decode cX0_has 13 = .ok (.goto 4, 3) := by decide +kernel
theorem dX0_has_16 : decode cX0_has 16 = .ok (.iconst 0, 1) := by decide +kernel
theorem dX0_has_17 : decode cX0_has 17 = .ok (.ireturn, 1) := by decide +kernel
theorem dX0_add_0 : decode cX0_add 0 = .ok (.aload_n 0, 1) := by decide +kernel
theorem dX0_add_1 : decode cX0_add 1 = .ok (.getfield 27, 3) := by decide +kernel
theorem dX0_add_4 : decode cX0_add 4 = .ok (.istore 6, 2) := by decide +kernel
theorem dX0_add_6 : decode cX0_add 6 = .ok (.aload_n 0, 1) := by decide +kernel
theorem dX0_add_7 : decode cX0_add 7 = .ok (.getfield 9, 3) := by decide +kernel
theorem dX0_add_10 : decode cX0_add 10 = .ok (.iload 6, 2) := by decide +kernel
theorem dX0_add_12 : decode cX0_add 12 = .ok (.iload_n 1, 1) := by decide +kernel
theorem dX0_add_13 : decode cX0_add 13 = .ok (.iastore, 1) := by decide +kernel
theorem dX0_add_14 : decode cX0_add 14 = .ok (.aload_n 0, 1) := by decide +kernel
theorem dX0_add_15 : decode cX0_add 15 = .ok (.getfield 15, 3) := by decide +kernel
theorem dX0_add_18 : decode cX0_add 18 = .ok (.iload 6, 2) := by decide +kernel
theorem dX0_add_20 : decode cX0_add 20 = .ok (.iload_n 2, 1) := by decide +kernel
theorem dX0_add_21 : decode cX0_add 21 = .ok (.iastore, 1) := by decide +kernel
theorem dX0_add_22 : decode cX0_add 22 = .ok (.aload_n 0, 1) := by decide +kernel
theorem dX0_add_23 : decode cX0_add 23 = .ok (.getfield 18, 3) := by decide +kernel
theorem dX0_add_26 : decode cX0_add 26 = .ok (.iload 6, 2) := by decide +kernel
theorem dX0_add_28 : decode cX0_add 28 = .ok (.iload_n 3, 1) := by decide +kernel
theorem dX0_add_29 : decode cX0_add 29 = .ok (.iastore, 1) := by decide +kernel
theorem dX0_add_30 : decode cX0_add 30 = .ok (.aload_n 0, 1) := by decide +kernel
theorem dX0_add_31 : decode cX0_add 31 = .ok (.getfield 21, 3) := by decide +kernel
theorem dX0_add_34 : decode cX0_add 34 = .ok (.iload 6, 2) := by decide +kernel
theorem dX0_add_36 : decode cX0_add 36 = .ok (.iload 4, 2) := by decide +kernel
theorem dX0_add_38 : decode cX0_add 38 = .ok (.iastore, 1) := by decide +kernel
theorem dX0_add_39 : decode cX0_add 39 = .ok (.aload_n 0, 1) := by decide +kernel
theorem dX0_add_40 : decode cX0_add 40 = .ok (.getfield 24, 3) := by decide +kernel
theorem dX0_add_43 : decode cX0_add 43 = .ok (.iload 6, 2) := by decide +kernel
theorem dX0_add_45 : decode cX0_add 45 = .ok (.iload 5, 2) := by decide +kernel
theorem dX0_add_47 : decode cX0_add 47 = .ok (.ifCond .eq 7, 3) := by decide +kernel
theorem dX0_add_50 : decode cX0_add 50 = .ok (.iconst 1, 1) := by decide +kernel
theorem dX0_add_51 : decode cX0_add 51 = .ok (.goto 4, 3) := by decide +kernel
theorem dX0_add_54 : decode cX0_add 54 = .ok (.iconst 0, 1) := by decide +kernel
theorem dX0_add_55 : decode cX0_add 55 = .ok (.iastore, 1) := by decide +kernel
theorem dX0_add_56 : decode cX0_add 56 = .ok (.aload_n 0, 1) := by decide +kernel
theorem dX0_add_57 : decode cX0_add 57 = .ok (.dup, 1) := by decide +kernel
theorem dX0_add_58 : decode cX0_add 58 = .ok (.getfield 27, 3) := by decide +kernel
theorem dX0_add_61 : decode cX0_add 61 = .ok (.iconst 1, 1) := by decide +kernel
theorem dX0_add_62 : decode cX0_add 62 = .ok (.iadd, 1) := by decide +kernel
theorem dX0_add_63 : decode cX0_add 63 = .ok (.putfield 27, 3) := by decide +kernel
theorem dX0_add_66 : decode cX0_add 66 = .ok (.iload 6, 2) := by decide +kernel
theorem dX0_add_68 : decode cX0_add 68 = .ok (.ireturn, 1) := by decide +kernel
theorem dX0_trait_0 : decode cX0_trait 0 = .ok (.iload_n 2, 1) := by decide +kernel
theorem dX0_trait_1 : decode cX0_trait 1 = .ok (.tableswitch 59 0 3 #[31, 38, 45, 52], 31) := by decide +kernel
theorem dX0_trait_32 : decode cX0_trait 32 = .ok (.aload_n 0, 1) := by decide +kernel
theorem dX0_trait_33 : decode cX0_trait 33 = .ok (.getfield 9, 3) := by decide +kernel
theorem dX0_trait_36 : decode cX0_trait 36 = .ok (.iload_n 1, 1) := by decide +kernel
theorem dX0_trait_37 : decode cX0_trait 37 = .ok (.iaload, 1) := by decide +kernel
theorem dX0_trait_38 : decode cX0_trait 38 = .ok (.ireturn, 1) := by decide +kernel
theorem dX0_trait_39 : decode cX0_trait 39 = .ok (.aload_n 0, 1) := by decide +kernel
theorem dX0_trait_40 : decode cX0_trait 40 = .ok (.getfield 15, 3) := by decide +kernel
theorem dX0_trait_43 : decode cX0_trait 43 = .ok (.iload_n 1, 1) := by decide +kernel
theorem dX0_trait_44 : decode cX0_trait 44 = .ok (.iaload, 1) := by decide +kernel
theorem dX0_trait_45 : decode cX0_trait 45 = .ok (.ireturn, 1) := by decide +kernel
theorem dX0_trait_46 : decode cX0_trait 46 = .ok (.aload_n 0, 1) := by decide +kernel
theorem dX0_trait_47 : decode cX0_trait 47 = .ok (.getfield 18, 3) := by decide +kernel
theorem dX0_trait_50 : decode cX0_trait 50 = .ok (.iload_n 1, 1) := by decide +kernel
theorem dX0_trait_51 : decode cX0_trait 51 = .ok (.iaload, 1) := by decide +kernel
theorem dX0_trait_52 : decode cX0_trait 52 = .ok (.ireturn, 1) := by decide +kernel
theorem dX0_trait_53 : decode cX0_trait 53 = .ok (.aload_n 0, 1) := by decide +kernel
theorem dX0_trait_54 : decode cX0_trait 54 = .ok (.getfield 21, 3) := by decide +kernel
theorem dX0_trait_57 : decode cX0_trait 57 = .ok (.iload_n 1, 1) := by decide +kernel
theorem dX0_trait_58 : decode cX0_trait 58 = .ok (.iaload, 1) := by decide +kernel
theorem dX0_trait_59 : decode cX0_trait 59 = .ok (.ireturn, 1) := by decide +kernel
theorem dX0_trait_60 : decode cX0_trait 60 = .ok (.aload_n 0, 1) := by decide +kernel
theorem dX0_trait_61 : decode cX0_trait 61 = .ok (.getfield 24, 3) := by decide +kernel
theorem dX0_trait_64 : decode cX0_trait 64 = .ok (.iload_n 1, 1) := by decide +kernel
theorem dX0_trait_65 : decode cX0_trait 65 = .ok (.iaload, 1) := by decide +kernel
theorem dX0_trait_66 : decode cX0_trait 66 = .ok (.ireturn, 1) := by decide +kernel
theorem dX1_init_0 : decode cX1_init 0 = .ok (.aload_n 0, 1) := by decide +kernel
theorem dX1_init_1 : decode cX1_init 1 = .ok (.invokespecial 1, 3) := by decide +kernel
theorem dX1_init_4 : decode cX1_init 4 = .ok (.aload_n 0, 1) := by decide +kernel
theorem dX1_init_5 : decode cX1_init 5 = .ok (.lconst 0, 1) := by decide +kernel
theorem dX1_init_6 : decode cX1_init 6 = .ok (.putfield 7, 3) := by decide +kernel
theorem dX1_init_9 : decode cX1_init 9 = .ok (.aload_n 0, 1) := by decide +kernel
theorem dX1_init_10 : decode cX1_init 10 = .ok (.lconst 1, 1) := by decide +kernel
theorem dX1_init_11 : decode cX1_init 11 = .ok (.putfield 13, 3) := by decide +kernel
theorem dX1_init_14 : decode cX1_init 14 = .ok (.return_, 1) := by decide +kernel
theorem dX1_become_0 : decode cX1_become 0 = .ok (.lload_n 1, 1) := by decide +kernel
theorem dX1_become_1 : decode cX1_become 1 = .ok (.invokestatic 16, 3) := by decide +kernel
theorem dX1_become_4 : decode cX1_become 4 = .ok (.lload_n 3, 1) := by decide +kernel
theorem dX1_become_5 : decode cX1_become 5 = .ok (.invokestatic 22, 3) := by decide +kernel
theorem dX1_become_8 : decode cX1_become 8 = .ok (.lstore 5, 2) := by decide +kernel
theorem dX1_become_10 : decode cX1_become 10 = .ok (.lload_n 3, 1) := by decide +kernel
theorem dX1_become_11 : decode cX1_become 11 = .ok (.lconst 0, 1) := by decide +kernel
theorem dX1_become_12 : decode cX1_become 12 = .ok (.lcmp, 1) := by decide +kernel
theorem dX1_become_13 : decode cX1_become 13 = .ok (.ifCond .le 26, 3) := by decide +kernel
theorem dX1_become_16 : decode cX1_become 16 = .ok (.lload 5, 2) := by decide +kernel
theorem dX1_become_18 : decode cX1_become 18 = .ok (.lconst 0, 1) := by decide +kernel
theorem dX1_become_19 : decode cX1_become 19 = .ok (.lcmp, 1) := by decide +kernel
theorem dX1_become_20 : decode cX1_become 20 = .ok (.ifCond .le 19, 3) := by decide +kernel
theorem dX1_become_23 : decode cX1_become 23 = .ok (.aload_n 0, 1) := by decide +kernel
theorem dX1_become_24 : decode cX1_become 24 = .ok (.lload_n 1, 1) := by decide +kernel
theorem dX1_become_25 : decode cX1_become 25 = .ok (.lload 5, 2) := by decide +kernel
theorem dX1_become_27 : decode cX1_become 27 = .ok (.ldiv, 1) := by decide +kernel
theorem dX1_become_28 : decode cX1_become 28 = .ok (.putfield 7, 3) := by decide +kernel
theorem dX1_become_31 : decode cX1_become 31 = .ok (.aload_n 0, 1) := by decide +kernel
theorem dX1_become_32 : decode cX1_become 32 = .ok (.lload_n 3, 1) := by decide +kernel
theorem dX1_become_33 : decode cX1_become 33 = .ok (.lload 5, 2) := by decide +kernel
theorem dX1_become_35 : decode cX1_become 35 = .ok (.ldiv, 1) := by decide +kernel
theorem dX1_become_36 : decode cX1_become 36 = .ok (.putfield 13, 3) := by decide +kernel
theorem dX1_become_39 : decode cX1_become 39 = .ok (.return_, 1) := by decide +kernel
theorem dX1_isAbove_0 : decode cX1_isAbove 0 = .ok (.aload_n 0, 1) := by decide +kernel
theorem dX1_isAbove_1 : decode cX1_isAbove 1 = .ok (.getfield 7, 3) := by decide +kernel
theorem dX1_isAbove_4 : decode cX1_isAbove 4 = .ok (.lstore_n 2, 1) := by decide +kernel
theorem dX1_isAbove_5 : decode cX1_isAbove 5 = .ok (.aload_n 0, 1) := by decide +kernel
theorem dX1_isAbove_6 : decode cX1_isAbove 6 = .ok (.getfield 13, 3) := by decide +kernel
theorem dX1_isAbove_9 : decode cX1_isAbove 9 = .ok (.lstore 4, 2) := by decide +kernel
theorem dX1_isAbove_11 : decode cX1_isAbove 11 = .ok (.aload_n 1, 1) := by decide +kernel
theorem dX1_isAbove_12 : decode cX1_isAbove 12 = .ok (.getfield 7, 3) := by decide +kernel
theorem dX1_isAbove_15 : decode cX1_isAbove 15 = .ok (.lstore 6, 2) := by decide +kernel
theorem dX1_isAbove_17 : decode cX1_isAbove 17 = .ok (.aload_n 1, 1) := by decide +kernel
theorem dX1_isAbove_18 : decode cX1_isAbove 18 = .ok (.getfield 13, 3) := by decide +kernel
theorem dX1_isAbove_21 : decode cX1_isAbove 21 = .ok (.lstore 8, 2) := by decide +kernel
theorem dX1_isAbove_23 : decode cX1_isAbove 23 = .ok (.iconst 0, 1) := by decide +kernel
theorem dX1_isAbove_24 : decode cX1_isAbove 24 = .ok (.istore 10, 2) := by decide +kernel
theorem dX1_isAbove_26 : decode cX1_isAbove 26 = .ok (.iconst 0, 1) := by decide +kernel
theorem dX1_isAbove_27 : decode cX1_isAbove 27 = .ok (.istore 11, 2) := by decide +kernel
theorem dX1_isAbove_29 : decode cX1_isAbove 29 = .ok (.iload 11, 2) := by decide +kernel
theorem dX1_isAbove_31 : decode cX1_isAbove 31 = .ok (.sipush 200, 3) := by decide +kernel
theorem dX1_isAbove_34 : decode cX1_isAbove 34 = .ok (.if_icmp .ge 118, 3) := by decide +kernel
theorem dX1_isAbove_37 : decode cX1_isAbove 37 = .ok (.lload 4, 2) := by decide +kernel
theorem dX1_isAbove_39 : decode cX1_isAbove 39 = .ok (.lconst 0, 1) := by decide +kernel
theorem dX1_isAbove_40 : decode cX1_isAbove 40 = .ok (.lcmp, 1) := by decide +kernel
theorem dX1_isAbove_41 : decode cX1_isAbove 41 = .ok (.ifCond .le 111, 3) := by decide +kernel
theorem dX1_isAbove_44 : decode cX1_isAbove 44 = .ok (.lload 8, 2) := by decide +kernel
theorem dX1_isAbove_46 : decode cX1_isAbove 46 = .ok (.lconst 0, 1) := by decide +kernel
theorem dX1_isAbove_47 : decode cX1_isAbove 47 = .ok (.lcmp, 1) := by decide +kernel
theorem dX1_isAbove_48 : decode cX1_isAbove 48 = .ok (.ifCond .le 104, 3) := by decide +kernel
theorem dX1_isAbove_51 : decode cX1_isAbove 51 = .ok (.lload_n 2, 1) := by decide +kernel
theorem dX1_isAbove_52 : decode cX1_isAbove 52 = .ok (.lload 4, 2) := by decide +kernel
theorem dX1_isAbove_54 : decode cX1_isAbove 54 = .ok (.invokestatic 26, 3) := by decide +kernel
theorem dX1_isAbove_57 : decode cX1_isAbove 57 = .ok (.lstore 12, 2) := by decide +kernel
theorem dX1_isAbove_59 : decode cX1_isAbove 59 = .ok (.lload 6, 2) := by decide +kernel
theorem dX1_isAbove_61 : decode cX1_isAbove 61 = .ok (.lload 8, 2) := by decide +kernel
theorem dX1_isAbove_63 : decode cX1_isAbove 63 = .ok (.invokestatic 26, 3) := by decide +kernel
theorem dX1_isAbove_66 : decode cX1_isAbove 66 = .ok (.lstore 14, 2) := by decide +kernel
theorem dX1_isAbove_68 : decode cX1_isAbove 68 = .ok (.lload 12, 2) := by decide +kernel
theorem dX1_isAbove_70 : decode cX1_isAbove 70 = .ok (.lload 14, 2) := by decide +kernel
theorem dX1_isAbove_72 : decode cX1_isAbove 72 = .ok (.lcmp, 1) := by decide +kernel
theorem dX1_isAbove_73 : decode cX1_isAbove 73 = .ok (.ifCond .eq 27, 3) := by decide +kernel
theorem dX1_isAbove_76 : decode cX1_isAbove 76 = .ok (.lload 12, 2) := by decide +kernel
theorem dX1_isAbove_78 : decode cX1_isAbove 78 = .ok (.lload 14, 2) := by decide +kernel
theorem dX1_isAbove_80 : decode cX1_isAbove 80 = .ok (.lcmp, 1) := by decide +kernel
theorem dX1_isAbove_81 : decode cX1_isAbove 81 = .ok (.ifCond .le 7, 3) := by decide +kernel
theorem dX1_isAbove_84 : decode cX1_isAbove 84 = .ok (.iconst 1, 1) := by decide +kernel
theorem dX1_isAbove_85 : decode cX1_isAbove 85 = .ok (.goto 4, 3) := by decide +kernel
theorem dX1_isAbove_88 : decode cX1_isAbove 88 = .ok (.iconst 0, 1) := by decide +kernel
theorem dX1_isAbove_89 : decode cX1_isAbove 89 = .ok (.iload 10, 2) := by decide +kernel
theorem dX1_isAbove_91 : decode cX1_isAbove 91 = .ok (.if_icmp .eq 7, 3) := by decide +kernel
theorem dX1_isAbove_94 : decode cX1_isAbove 94 = .ok (.iconst 1, 1) := by decide +kernel
theorem dX1_isAbove_95 : decode cX1_isAbove 95 = .ok (.goto 4, 3) := by decide +kernel
theorem dX1_isAbove_98 : decode cX1_isAbove 98 = .ok (.iconst 0, 1) := by decide +kernel
theorem dX1_isAbove_99 : decode cX1_isAbove 99 = .ok (.ireturn, 1) := by decide +kernel
theorem dX1_isAbove_100 : decode cX1_isAbove 100 = .ok (.lload_n 2, 1) := by decide +kernel
theorem dX1_isAbove_101 : decode cX1_isAbove 101 = .ok (.lload 12, 2) := by decide +kernel
theorem dX1_isAbove_103 : decode cX1_isAbove 103 = .ok (.lload 4, 2) := by decide +kernel
theorem dX1_isAbove_105 : decode cX1_isAbove 105 = .ok (.lmul, 1) := by decide +kernel
theorem dX1_isAbove_106 : decode cX1_isAbove 106 = .ok (.lsub, 1) := by decide +kernel
theorem dX1_isAbove_107 : decode cX1_isAbove 107 = .ok (.lstore 16, 2) := by decide +kernel
theorem dX1_isAbove_109 : decode cX1_isAbove 109 = .ok (.lload 6, 2) := by decide +kernel
theorem dX1_isAbove_111 : decode cX1_isAbove 111 = .ok (.lload 14, 2) := by decide +kernel
theorem dX1_isAbove_113 : decode cX1_isAbove 113 = .ok (.lload 8, 2) := by decide +kernel
theorem dX1_isAbove_115 : decode cX1_isAbove 115 = .ok (.lmul, 1) := by decide +kernel
theorem dX1_isAbove_116 : decode cX1_isAbove 116 = .ok (.lsub, 1) := by decide +kernel
theorem dX1_isAbove_117 : decode cX1_isAbove 117 = .ok (.lstore 18, 2) := by decide +kernel
theorem dX1_isAbove_119 : decode cX1_isAbove 119 = .ok (.lload 4, 2) := by decide +kernel
theorem dX1_isAbove_121 : decode cX1_isAbove 121 = .ok (.lstore_n 2, 1) := by decide +kernel
theorem dX1_isAbove_122 : decode cX1_isAbove 122 = .ok (.lload 16, 2) := by decide +kernel
theorem dX1_isAbove_124 : decode cX1_isAbove 124 = .ok (.lstore 4, 2) := by decide +kernel
theorem dX1_isAbove_126 : decode cX1_isAbove 126 = .ok (.lload 8, 2) := by decide +kernel
theorem dX1_isAbove_128 : decode cX1_isAbove 128 = .ok (.lstore 6, 2) := by decide +kernel
theorem dX1_isAbove_130 : decode cX1_isAbove 130 = .ok (.lload 18, 2) := by decide +kernel
theorem dX1_isAbove_132 : decode cX1_isAbove 132 = .ok (.lstore 8, 2) := by decide +kernel
theorem dX1_isAbove_134 : decode cX1_isAbove 134 = .ok (.iload 10, 2) := by decide +kernel
theorem dX1_isAbove_136 : decode cX1_isAbove 136 = .ok (.ifCond .ne 7, 3) := by decide +kernel
theorem dX1_isAbove_139 : decode cX1_isAbove 139 = .ok (.iconst 1, 1) := by decide +kernel
theorem dX1_isAbove_140 : decode cX1_isAbove 140 = .ok (.goto 4, 3) := by decide +kernel
theorem dX1_isAbove_143 : decode cX1_isAbove 143 = .ok (.iconst 0, 1) := by decide +kernel
theorem dX1_isAbove_144 : decode cX1_isAbove 144 = .ok (.istore 10, 2) := by decide +kernel
theorem dX1_isAbove_146 : decode cX1_isAbove 146 = .ok (.iinc 11 1, 3) := by decide +kernel
theorem dX1_isAbove_149 : decode cX1_isAbove 149 = .ok (.goto (-120), 3) := by decide +kernel
theorem dX1_isAbove_152 : decode cX1_isAbove 152 = .ok (.lload 4, 2) := by decide +kernel
theorem dX1_isAbove_154 : decode cX1_isAbove 154 = .ok (.lload 8, 2) := by decide +kernel
theorem dX1_isAbove_156 : decode cX1_isAbove 156 = .ok (.lcmp, 1) := by decide +kernel
theorem dX1_isAbove_157 : decode cX1_isAbove 157 = .ok (.ifCond .eq 24, 3) := by decide +kernel
theorem dX1_isAbove_160 : decode cX1_isAbove 160 = .ok (.lload 4, 2) := by decide +kernel
theorem dX1_isAbove_162 : decode cX1_isAbove 162 = .ok (.lconst 0, 1) := by decide +kernel
theorem dX1_isAbove_163 : decode cX1_isAbove 163 = .ok (.lcmp, 1) := by decide +kernel
theorem dX1_isAbove_164 : decode cX1_isAbove 164 = .ok (.ifCond .ne 7, 3) := by decide +kernel
theorem dX1_isAbove_167 : decode cX1_isAbove 167 = .ok (.iconst 1, 1) := by decide +kernel
theorem dX1_isAbove_168 : decode cX1_isAbove 168 = .ok (.goto 4, 3) := by decide +kernel
theorem dX1_isAbove_171 : decode cX1_isAbove 171 = .ok (.iconst 0, 1) := by decide +kernel
theorem dX1_isAbove_172 : decode cX1_isAbove 172 = .ok (.iload 10, 2) := by decide +kernel
theorem dX1_isAbove_174 : decode cX1_isAbove 174 = .ok (.if_icmp .eq 7, 3) := by decide +kernel
theorem dX1_isAbove_177 : decode cX1_isAbove 177 = .ok (.iconst 1, 1) := by decide +kernel
theorem dX1_isAbove_178 : decode cX1_isAbove 178 = .ok (.goto 4, 3) := by decide +kernel
theorem dX1_isAbove_181 : decode cX1_isAbove 181 = .ok (.iconst 0, 1) := by decide +kernel
theorem dX1_isAbove_182 : decode cX1_isAbove 182 = .ok (.ireturn, 1) := by decide +kernel
theorem dX1_commonDivisor_0 : decode cX1_commonDivisor 0 = .ok (.lload_n 0, 1) := by decide +kernel
theorem dX1_commonDivisor_1 : decode cX1_commonDivisor 1 = .ok (.lstore 4, 2) := by decide +kernel
theorem dX1_commonDivisor_3 : decode cX1_commonDivisor 3 = .ok (.lload_n 2, 1) := by decide +kernel
theorem dX1_commonDivisor_4 : decode cX1_commonDivisor 4 = .ok (.lstore 6, 2) := by decide +kernel
theorem dX1_commonDivisor_6 : decode cX1_commonDivisor 6 = .ok (.iconst 0, 1) := by decide +kernel
theorem dX1_commonDivisor_7 : decode cX1_commonDivisor 7 = .ok (.istore 8, 2) := by decide +kernel
theorem dX1_commonDivisor_9 : decode cX1_commonDivisor 9 = .ok (.iload 8, 2) := by decide +kernel
theorem dX1_commonDivisor_11 : decode cX1_commonDivisor 11 = .ok (.sipush 200, 3) := by decide +kernel
theorem dX1_commonDivisor_14 : decode cX1_commonDivisor 14 = .ok (.if_icmp .ge 31, 3) := by decide +kernel
theorem dX1_commonDivisor_17 : decode cX1_commonDivisor 17 = .ok (.lload 6, 2) := by decide +kernel
theorem dX1_commonDivisor_19 : decode cX1_commonDivisor 19 = .ok (.lconst 0, 1) := by decide +kernel
theorem dX1_commonDivisor_20 : decode cX1_commonDivisor 20 = .ok (.lcmp, 1) := by decide +kernel
theorem dX1_commonDivisor_21 : decode cX1_commonDivisor 21 = .ok (.ifCond .le 24, 3) := by decide +kernel
theorem dX1_commonDivisor_24 : decode cX1_commonDivisor 24 = .ok (.lload 4, 2) := by decide +kernel
theorem dX1_commonDivisor_26 : decode cX1_commonDivisor 26 = .ok (.lload 6, 2) := by decide +kernel
theorem dX1_commonDivisor_28 : decode cX1_commonDivisor 28 = .ok (.lrem, 1) := by decide +kernel
theorem dX1_commonDivisor_29 : decode cX1_commonDivisor 29 = .ok (.lstore 9, 2) := by decide +kernel
theorem dX1_commonDivisor_31 : decode cX1_commonDivisor 31 = .ok (.lload 6, 2) := by decide +kernel
theorem dX1_commonDivisor_33 : decode cX1_commonDivisor 33 = .ok (.lstore 4, 2) := by decide +kernel
theorem dX1_commonDivisor_35 : decode cX1_commonDivisor 35 = .ok (.lload 9, 2) := by decide +kernel
theorem dX1_commonDivisor_37 : decode cX1_commonDivisor 37 = .ok (.lstore 6, 2) := by decide +kernel
theorem dX1_commonDivisor_39 : decode cX1_commonDivisor 39 = .ok (.iinc 8 1, 3) := by decide +kernel
theorem dX1_commonDivisor_42 : decode cX1_commonDivisor 42 = .ok (.goto (-33), 3) := by decide +kernel
theorem dX1_commonDivisor_45 : decode cX1_commonDivisor 45 = .ok (.lload 4, 2) := by decide +kernel
theorem dX1_commonDivisor_47 : decode cX1_commonDivisor 47 = .ok (.lreturn, 1) := by decide +kernel
theorem dX2_init_0 : decode cX2_init 0 = .ok (.aload_n 0, 1) := by decide +kernel
theorem dX2_init_1 : decode cX2_init 1 = .ok (.invokespecial 3, 3) := by decide +kernel
theorem dX2_init_4 : decode cX2_init 4 = .ok (.aload_n 0, 1) := by decide +kernel
theorem dX2_init_5 : decode cX2_init 5 = .ok (.bipush 24, 2) := by decide +kernel
theorem dX2_init_7 : decode cX2_init 7 = .ok (.newarray .int, 2) := by decide +kernel
theorem dX2_init_9 : decode cX2_init 9 = .ok (.putfield 9, 3) := by decide +kernel
theorem dX2_init_12 : decode cX2_init 12 = .ok (.aload_n 0, 1) := by decide +kernel
theorem dX2_init_13 : decode cX2_init 13 = .ok (.bipush 24, 2) := by decide +kernel
theorem dX2_init_15 : decode cX2_init 15 = .ok (.anewarray 15, 3) := by decide +kernel
theorem dX2_init_18 : decode cX2_init 18 = .ok (.putfield 17, 3) := by decide +kernel
theorem dX2_init_21 : decode cX2_init 21 = .ok (.aload_n 0, 1) := by decide +kernel
theorem dX2_init_22 : decode cX2_init 22 = .ok (.bipush 24, 2) := by decide +kernel
theorem dX2_init_24 : decode cX2_init 24 = .ok (.newarray .int, 2) := by decide +kernel
theorem dX2_init_26 : decode cX2_init 26 = .ok (.putfield 21, 3) := by decide +kernel
theorem dX2_init_29 : decode cX2_init 29 = .ok (.aload_n 0, 1) := by decide +kernel
theorem dX2_init_30 : decode cX2_init 30 = .ok (.bipush 24, 2) := by decide +kernel
theorem dX2_init_32 : decode cX2_init 32 = .ok (.newarray .boolean, 2) := by decide +kernel
theorem dX2_init_34 : decode cX2_init 34 = .ok (.putfield 24, 3) := by decide +kernel
theorem dX2_init_37 : decode cX2_init 37 = .ok (.iconst 0, 1) := by decide +kernel
theorem dX2_init_38 : decode cX2_init 38 = .ok (.istore_n 1, 1) := by decide +kernel
theorem dX2_init_39 : decode cX2_init 39 = .ok (.iload_n 1, 1) := by decide +kernel
theorem dX2_init_40 : decode cX2_init 40 = .ok (.bipush 24, 2) := by decide +kernel
theorem dX2_init_42 : decode cX2_init 42 = .ok (.if_icmp .ge 22, 3) := by decide +kernel
theorem dX2_init_45 : decode cX2_init 45 = .ok (.aload_n 0, 1) := by decide +kernel
theorem dX2_init_46 : decode cX2_init 46 = .ok (.getfield 17, 3) := by decide +kernel
theorem dX2_init_49 : decode cX2_init 49 = .ok (.iload_n 1, 1) := by decide +kernel
theorem dX2_init_50 : decode cX2_init 50 = .ok (.new 15, 3) := by decide +kernel
theorem dX2_init_53 : decode cX2_init 53 = .ok (.dup, 1) := by decide +kernel
theorem dX2_init_54 : decode cX2_init 54 = .ok (.invokespecial 28, 3) := by decide +kernel
theorem dX2_init_57 : decode cX2_init 57 = .ok (.aastore, 1) := by decide +kernel
theorem dX2_init_58 : decode cX2_init 58 = .ok (.iinc 1 1, 3) := by decide +kernel
theorem dX2_init_61 : decode cX2_init 61 = .ok (.goto (-22), 3) := by decide +kernel
theorem dX2_init_64 : decode cX2_init 64 = .ok (.return_, 1) := by decide +kernel
theorem dX2_rank_0 : decode cX2_rank 0 = .ok (.aload_n 0, 1) := by decide +kernel
theorem dX2_rank_1 : decode cX2_rank 1 = .ok (.iconst 0, 1) := by decide +kernel
theorem dX2_rank_2 : decode cX2_rank 2 = .ok (.putfield 29, 3) := by decide +kernel
theorem dX2_rank_5 : decode cX2_rank 5 = .ok (.iconst 0, 1) := by decide +kernel
theorem dX2_rank_6 : decode cX2_rank 6 = .ok (.istore_n 3, 1) := by decide +kernel
theorem dX2_rank_7 : decode cX2_rank 7 = .ok (.iload_n 3, 1) := by decide +kernel
theorem dX2_rank_8 : decode cX2_rank 8 = .ok (.bipush 24, 2) := by decide +kernel
theorem dX2_rank_10 : decode cX2_rank 10 = .ok (.if_icmp .ge 34, 3) := by decide +kernel
theorem dX2_rank_13 : decode cX2_rank 13 = .ok (.aload_n 1, 1) := by decide +kernel
theorem dX2_rank_14 : decode cX2_rank 14 = .ok (.iload_n 3, 1) := by decide +kernel
theorem dX2_rank_15 : decode cX2_rank 15 = .ok (.invokevirtual 33, 3) := by decide +kernel
theorem dX2_rank_18 : decode cX2_rank 18 = .ok (.ifCond .le 20, 3) := by decide +kernel
theorem dX2_rank_21 : decode cX2_rank 21 = .ok (.aload_n 2, 1) := by decide +kernel
theorem dX2_rank_22 : decode cX2_rank 22 = .ok (.aload_n 1, 1) := by decide +kernel
theorem dX2_rank_23 : decode cX2_rank 23 = .ok (.iload_n 3, 1) := by decide +kernel
theorem dX2_rank_24 : decode cX2_rank 24 = .ok (.aload_n 0, 1) := by decide +kernel
theorem dX2_rank_25 : decode cX2_rank 25 = .ok (.getfield 17, 3) := by decide +kernel
theorem dX2_rank_28 : decode cX2_rank 28 = .ok (.iload_n 3, 1) := by decide +kernel
theorem dX2_rank_29 : decode cX2_rank 29 = .ok (.aaload, 1) := by decide +kernel
theorem dX2_rank_30 : decode cX2_rank 30 = .ok (.invokevirtual 39, 3) := by decide +kernel
theorem dX2_rank_33 : decode cX2_rank 33 = .ok (.aload_n 0, 1) := by decide +kernel
theorem dX2_rank_34 : decode cX2_rank 34 = .ok (.iload_n 3, 1) := by decide +kernel
theorem dX2_rank_35 : decode cX2_rank 35 = .ok (.invokevirtual 45, 3) := by decide +kernel
theorem dX2_rank_38 : decode cX2_rank 38 = .ok (.iinc 3 1, 3) := by decide +kernel
theorem dX2_rank_41 : decode cX2_rank 41 = .ok (.goto (-34), 3) := by decide +kernel
theorem dX2_rank_44 : decode cX2_rank 44 = .ok (.return_, 1) := by decide +kernel
theorem dX2_give_0 : decode cX2_give 0 = .ok (.iconst 0, 1) := by decide +kernel
theorem dX2_give_1 : decode cX2_give 1 = .ok (.istore 5, 2) := by decide +kernel
theorem dX2_give_3 : decode cX2_give 3 = .ok (.iload 5, 2) := by decide +kernel
theorem dX2_give_5 : decode cX2_give 5 = .ok (.bipush 24, 2) := by decide +kernel
theorem dX2_give_7 : decode cX2_give 7 = .ok (.if_icmp .ge 17, 3) := by decide +kernel
theorem dX2_give_10 : decode cX2_give 10 = .ok (.aload_n 0, 1) := by decide +kernel
theorem dX2_give_11 : decode cX2_give 11 = .ok (.getfield 24, 3) := by decide +kernel
theorem dX2_give_14 : decode cX2_give 14 = .ok (.iload 5, 2) := by decide +kernel
theorem dX2_give_16 : decode cX2_give 16 = .ok (.iconst 0, 1) := by decide +kernel
theorem dX2_give_17 : decode cX2_give 17 = .ok (.bastore, 1) := by decide +kernel
theorem dX2_give_18 : decode cX2_give 18 = .ok (.iinc 5 1, 3) := by decide +kernel
theorem dX2_give_21 : decode cX2_give 21 = .ok (.goto (-18), 3) := by decide +kernel
theorem dX2_give_24 : decode cX2_give 24 = .ok (.iconst 0, 1) := by decide +kernel
theorem dX2_give_25 : decode cX2_give 25 = .ok (.istore 5, 2) := by decide +kernel
theorem dX2_give_27 : decode cX2_give 27 = .ok (.iload 5, 2) := by decide +kernel
theorem dX2_give_29 : decode cX2_give 29 = .ok (.iload_n 2, 1) := by decide +kernel
theorem dX2_give_30 : decode cX2_give 30 = .ok (.if_icmp .gt 26, 3) := by decide +kernel
theorem dX2_give_33 : decode cX2_give 33 = .ok (.iload 5, 2) := by decide +kernel
theorem dX2_give_35 : decode cX2_give 35 = .ok (.bipush 8, 2) := by decide +kernel
theorem dX2_give_37 : decode cX2_give 37 = .ok (.if_icmp .ge 19, 3) := by decide +kernel
theorem dX2_give_40 : decode cX2_give 40 = .ok (.aload_n 0, 1) := by decide +kernel
theorem dX2_give_41 : decode cX2_give 41 = .ok (.aload_n 1, 1) := by decide +kernel
theorem dX2_give_42 : decode cX2_give 42 = .ok (.iload 5, 2) := by decide +kernel
theorem dX2_give_44 : decode cX2_give 44 = .ok (.aload_n 3, 1) := by decide +kernel
theorem dX2_give_45 : decode cX2_give 45 = .ok (.aload 4, 2) := by decide +kernel
theorem dX2_give_47 : decode cX2_give 47 = .ok (.invokevirtual 49, 3) := by decide +kernel
theorem dX2_give_50 : decode cX2_give 50 = .ok (.iinc 5 1, 3) := by decide +kernel
theorem dX2_give_53 : decode cX2_give 53 = .ok (.goto (-26), 3) := by decide +kernel
theorem dX2_give_56 : decode cX2_give 56 = .ok (.return_, 1) := by decide +kernel
theorem dX2_giveOne_0 : decode cX2_giveOne 0 = .ok (.aload_n 0, 1) := by decide +kernel
theorem dX2_giveOne_1 : decode cX2_giveOne 1 = .ok (.iconst 0, 1) := by decide +kernel
theorem dX2_giveOne_2 : decode cX2_giveOne 2 = .ok (.putfield 53, 3) := by decide +kernel
theorem dX2_giveOne_5 : decode cX2_giveOne 5 = .ok (.iconst 0, 1) := by decide +kernel
theorem dX2_giveOne_6 : decode cX2_giveOne 6 = .ok (.istore 5, 2) := by decide +kernel
theorem dX2_giveOne_8 : decode cX2_giveOne 8 = .ok (.iload 5, 2) := by decide +kernel
theorem dX2_giveOne_10 : decode cX2_giveOne 10 = .ok (.aload_n 0, 1) := by decide +kernel
theorem dX2_giveOne_11 : decode cX2_giveOne 11 = .ok (.getfield 29, 3) := by decide +kernel
theorem dX2_giveOne_14 : decode cX2_giveOne 14 = .ok (.if_icmp .ge 109, 3) := by decide +kernel
theorem dX2_giveOne_17 : decode cX2_giveOne 17 = .ok (.aload_n 0, 1) := by decide +kernel
theorem dX2_giveOne_18 : decode cX2_giveOne 18 = .ok (.getfield 53, 3) := by decide +kernel
theorem dX2_giveOne_21 : decode cX2_giveOne 21 = .ok (.aload_n 1, 1) := by decide +kernel
theorem dX2_giveOne_22 : decode cX2_giveOne 22 = .ok (.getfield 56, 3) := by decide +kernel
theorem dX2_giveOne_25 : decode cX2_giveOne 25 = .ok (.iload_n 2, 1) := by decide +kernel
theorem dX2_giveOne_26 : decode cX2_giveOne 26 = .ok (.iaload, 1) := by decide +kernel
theorem dX2_giveOne_27 : decode cX2_giveOne 27 = .ok (.if_icmp .ge 96, 3) := by decide +kernel
theorem dX2_giveOne_30 : decode cX2_giveOne 30 = .ok (.aload_n 0, 1) := by decide +kernel
theorem dX2_giveOne_31 : decode cX2_giveOne 31 = .ok (.getfield 21, 3) := by decide +kernel
theorem dX2_giveOne_34 : decode cX2_giveOne 34 = .ok (.iload 5, 2) := by decide +kernel
theorem dX2_giveOne_36 : decode cX2_giveOne 36 = .ok (.iaload, 1) := by decide +kernel
theorem dX2_giveOne_37 : decode cX2_giveOne 37 = .ok (.istore 6, 2) := by decide +kernel
theorem dX2_giveOne_39 : decode cX2_giveOne 39 = .ok (.aload_n 1, 1) := by decide +kernel
theorem dX2_giveOne_40 : decode cX2_giveOne 40 = .ok (.getfield 61, 3) := by decide +kernel
theorem dX2_giveOne_43 : decode cX2_giveOne 43 = .ok (.iload_n 2, 1) := by decide +kernel
theorem dX2_giveOne_44 : decode cX2_giveOne 44 = .ok (.baload, 1) := by decide +kernel
theorem dX2_giveOne_45 : decode cX2_giveOne 45 = .ok (.ifCond .eq 17, 3) := by decide +kernel
theorem dX2_giveOne_48 : decode cX2_giveOne 48 = .ok (.aload_n 0, 1) := by decide +kernel
theorem dX2_giveOne_49 : decode cX2_giveOne 49 = .ok (.getfield 24, 3) := by decide +kernel
theorem dX2_giveOne_52 : decode cX2_giveOne 52 = .ok (.iload 6, 2) := by decide +kernel
theorem dX2_giveOne_54 : decode cX2_giveOne 54 = .ok (.baload, 1) := by decide +kernel
theorem dX2_giveOne_55 : decode cX2_giveOne 55 = .ok (.ifCond .eq 7, 3) := by decide +kernel
theorem dX2_giveOne_58 : decode cX2_giveOne 58 = .ok (.iconst 1, 1) := by decide +kernel
theorem dX2_giveOne_59 : decode cX2_giveOne 59 = .ok (.goto 4, 3) := by decide +kernel
theorem dX2_giveOne_62 : decode cX2_giveOne 62 = .ok (.iconst 0, 1) := by decide +kernel
theorem dX2_giveOne_63 : decode cX2_giveOne 63 = .ok (.istore 7, 2) := by decide +kernel
theorem dX2_giveOne_65 : decode cX2_giveOne 65 = .ok (.iload 7, 2) := by decide +kernel
theorem dX2_giveOne_67 : decode cX2_giveOne 67 = .ok (.ifCond .ne 50, 3) := by decide +kernel
theorem dX2_giveOne_70 : decode cX2_giveOne 70 = .ok (.aload_n 1, 1) := by decide +kernel
theorem dX2_giveOne_71 : decode cX2_giveOne 71 = .ok (.iload_n 2, 1) := by decide +kernel
theorem dX2_giveOne_72 : decode cX2_giveOne 72 = .ok (.aload_n 3, 1) := by decide +kernel
theorem dX2_giveOne_73 : decode cX2_giveOne 73 = .ok (.iload 6, 2) := by decide +kernel
theorem dX2_giveOne_75 : decode cX2_giveOne 75 = .ok (.aload 4, 2) := by decide +kernel
theorem dX2_giveOne_77 : decode cX2_giveOne 77 = .ok (.iload 6, 2) := by decide +kernel
theorem dX2_giveOne_79 : decode cX2_giveOne 79 = .ok (.invokevirtual 33, 3) := by decide +kernel
theorem dX2_giveOne_82 : decode cX2_giveOne 82 = .ok (.invokevirtual 64, 3) := by decide +kernel
theorem dX2_giveOne_85 : decode cX2_giveOne 85 = .ok (.ifCond .eq 32, 3) := by decide +kernel
theorem dX2_giveOne_88 : decode cX2_giveOne 88 = .ok (.aload_n 0, 1) := by decide +kernel
theorem dX2_giveOne_89 : decode cX2_giveOne 89 = .ok (.getfield 24, 3) := by decide +kernel
theorem dX2_giveOne_92 : decode cX2_giveOne 92 = .ok (.iload 6, 2) := by decide +kernel
theorem dX2_giveOne_94 : decode cX2_giveOne 94 = .ok (.iconst 1, 1) := by decide +kernel
theorem dX2_giveOne_95 : decode cX2_giveOne 95 = .ok (.bastore, 1) := by decide +kernel
theorem dX2_giveOne_96 : decode cX2_giveOne 96 = .ok (.aload_n 0, 1) := by decide +kernel
theorem dX2_giveOne_97 : decode cX2_giveOne 97 = .ok (.getfield 9, 3) := by decide +kernel
theorem dX2_giveOne_100 : decode cX2_giveOne 100 = .ok (.aload_n 0, 1) := by decide +kernel
theorem dX2_giveOne_101 : decode cX2_giveOne 101 = .ok (.getfield 53, 3) := by decide +kernel
theorem dX2_giveOne_104 : decode cX2_giveOne 104 = .ok (.iload 6, 2) := by decide +kernel
theorem dX2_giveOne_106 : decode cX2_giveOne 106 = .ok (.iastore, 1) := by decide +kernel
theorem dX2_giveOne_107 : decode cX2_giveOne 107 = .ok (.aload_n 0, 1) := by decide +kernel
theorem dX2_giveOne_108 : decode cX2_giveOne 108 = .ok (.dup, 1) := by decide +kernel
theorem dX2_giveOne_109 : decode cX2_giveOne 109 = .ok (.getfield 53, 3) := by decide +kernel
theorem dX2_giveOne_112 : decode cX2_giveOne 112 = .ok (.iconst 1, 1) := by decide +kernel
theorem dX2_giveOne_113 : decode cX2_giveOne 113 = .ok (.iadd, 1) := by decide +kernel
theorem dX2_giveOne_114 : decode cX2_giveOne 114 = .ok (.putfield 53, 3) := by decide +kernel
theorem dX2_giveOne_117 : decode cX2_giveOne 117 = .ok (.iinc 5 1, 3) := by decide +kernel
theorem dX2_giveOne_120 : decode cX2_giveOne 120 = .ok (.goto (-112), 3) := by decide +kernel
theorem dX2_giveOne_123 : decode cX2_giveOne 123 = .ok (.return_, 1) := by decide +kernel
theorem dX2_insert_0 : decode cX2_insert 0 = .ok (.aload_n 0, 1) := by decide +kernel
theorem dX2_insert_1 : decode cX2_insert 1 = .ok (.getfield 29, 3) := by decide +kernel
theorem dX2_insert_4 : decode cX2_insert 4 = .ok (.istore_n 2, 1) := by decide +kernel
theorem dX2_insert_5 : decode cX2_insert 5 = .ok (.iload_n 2, 1) := by decide +kernel
theorem dX2_insert_6 : decode cX2_insert 6 = .ok (.ifCond .le 48, 3) := by decide +kernel
theorem dX2_insert_9 : decode cX2_insert 9 = .ok (.aload_n 0, 1) := by decide +kernel
theorem dX2_insert_10 : decode cX2_insert 10 = .ok (.getfield 17, 3) := by decide +kernel
theorem dX2_insert_13 : decode cX2_insert 13 = .ok (.iload_n 1, 1) := by decide +kernel
theorem dX2_insert_14 : decode cX2_insert 14 = .ok (.aaload, 1) := by decide +kernel
theorem dX2_insert_15 : decode cX2_insert 15 = .ok (.aload_n 0, 1) := by decide +kernel
theorem dX2_insert_16 : decode cX2_insert 16 = .ok (.getfield 17, 3) := by decide +kernel
theorem dX2_insert_19 : decode cX2_insert 19 = .ok (.aload_n 0, 1) := by decide +kernel
theorem dX2_insert_20 : decode cX2_insert 20 = .ok (.getfield 21, 3) := by decide +kernel
theorem dX2_insert_23 : decode cX2_insert 23 = .ok (.iload_n 2, 1) := by decide +kernel
theorem dX2_insert_24 : decode cX2_insert 24 = .ok (.iconst 1, 1) := by decide +kernel
theorem dX2_insert_25 : decode cX2_insert 25 = .ok (.isub, 1) := by decide +kernel
theorem dX2_insert_26 : decode cX2_insert 26 = .ok (.iaload, 1) := by decide +kernel
theorem dX2_insert_27 : decode cX2_insert 27 = .ok (.aaload, 1) := by decide +kernel
theorem dX2_insert_28 : decode cX2_insert 28 = .ok (.invokevirtual 68, 3) := by decide +kernel
theorem dX2_insert_31 : decode cX2_insert 31 = .ok (.ifCond .eq 23, 3) := by decide +kernel
theorem dX2_insert_34 : decode cX2_insert 34 = .ok (.aload_n 0, 1) := by decide +kernel
theorem dX2_insert_35 : decode cX2_insert 35 = .ok (.getfield 21, 3) := by decide +kernel
theorem dX2_insert_38 : decode cX2_insert 38 = .ok (.iload_n 2, 1) := by decide +kernel
theorem dX2_insert_39 : decode cX2_insert 39 = .ok (.aload_n 0, 1) := by decide +kernel
theorem dX2_insert_40 : decode cX2_insert 40 = .ok (.getfield 21, 3) := by decide +kernel
theorem dX2_insert_43 : decode cX2_insert 43 = .ok (.iload_n 2, 1) := by decide +kernel
theorem dX2_insert_44 : decode cX2_insert 44 = .ok (.iconst 1, 1) := by decide +kernel
theorem dX2_insert_45 : decode cX2_insert 45 = .ok (.isub, 1) := by decide +kernel
theorem dX2_insert_46 : decode cX2_insert 46 = .ok (.iaload, 1) := by decide +kernel
theorem dX2_insert_47 : decode cX2_insert 47 = .ok (.iastore, 1) := by decide +kernel
theorem dX2_insert_48 : decode cX2_insert 48 = .ok (.iinc 2 (-1), 3) := by decide +kernel
theorem dX2_insert_51 : decode cX2_insert 51 = .ok (.goto (-46), 3) := by decide +kernel
theorem dX2_insert_54 : decode cX2_insert 54 = .ok (.aload_n 0, 1) := by decide +kernel
theorem dX2_insert_55 : decode cX2_insert 55 = .ok (.getfield 21, 3) := by decide +kernel
theorem dX2_insert_58 : decode cX2_insert 58 = .ok (.iload_n 2, 1) := by decide +kernel
theorem dX2_insert_59 : decode cX2_insert 59 = .ok (.iload_n 1, 1) := by decide +kernel
theorem dX2_insert_60 : decode cX2_insert 60 = .ok (.iastore, 1) := by decide +kernel
theorem dX2_insert_61 : decode cX2_insert 61 = .ok (.aload_n 0, 1) := by decide +kernel
theorem dX2_insert_62 : decode cX2_insert 62 = .ok (.dup, 1) := by decide +kernel
theorem dX2_insert_63 : decode cX2_insert 63 = .ok (.getfield 29, 3) := by decide +kernel
theorem dX2_insert_66 : decode cX2_insert 66 = .ok (.iconst 1, 1) := by decide +kernel
theorem dX2_insert_67 : decode cX2_insert 67 = .ok (.iadd, 1) := by decide +kernel
theorem dX2_insert_68 : decode cX2_insert 68 = .ok (.putfield 29, 3) := by decide +kernel
theorem dX2_insert_71 : decode cX2_insert 71 = .ok (.return_, 1) := by decide +kernel
theorem dX3_init_0 : decode cX3_init 0 = .ok (.aload_n 0, 1) := by decide +kernel
theorem dX3_init_1 : decode cX3_init 1 = .ok (.invokespecial 5, 3) := by decide +kernel
theorem dX3_init_4 : decode cX3_init 4 = .ok (.aload_n 0, 1) := by decide +kernel
theorem dX3_init_5 : decode cX3_init 5 = .ok (.bipush 24, 2) := by decide +kernel
theorem dX3_init_7 : decode cX3_init 7 = .ok (.newarray .int, 2) := by decide +kernel
theorem dX3_init_9 : decode cX3_init 9 = .ok (.putfield 11, 3) := by decide +kernel
theorem dX3_init_12 : decode cX3_init 12 = .ok (.aload_n 0, 1) := by decide +kernel
theorem dX3_init_13 : decode cX3_init 13 = .ok (.iconst 4, 1) := by decide +kernel
theorem dX3_init_14 : decode cX3_init 14 = .ok (.newarray .int, 2) := by decide +kernel
theorem dX3_init_16 : decode cX3_init 16 = .ok (.putfield 15, 3) := by decide +kernel
theorem dX3_init_19 : decode cX3_init 19 = .ok (.aload_n 0, 1) := by decide +kernel
theorem dX3_init_20 : decode cX3_init 20 = .ok (.iconst 4, 1) := by decide +kernel
theorem dX3_init_21 : decode cX3_init 21 = .ok (.newarray .int, 2) := by decide +kernel
theorem dX3_init_23 : decode cX3_init 23 = .ok (.putfield 18, 3) := by decide +kernel
theorem dX3_init_26 : decode cX3_init 26 = .ok (.aload_n 0, 1) := by decide +kernel
theorem dX3_init_27 : decode cX3_init 27 = .ok (.iconst 4, 1) := by decide +kernel
theorem dX3_init_28 : decode cX3_init 28 = .ok (.newarray .int, 2) := by decide +kernel
theorem dX3_init_30 : decode cX3_init 30 = .ok (.putfield 21, 3) := by decide +kernel
theorem dX3_init_33 : decode cX3_init 33 = .ok (.aload_n 0, 1) := by decide +kernel
theorem dX3_init_34 : decode cX3_init 34 = .ok (.iconst 4, 1) := by decide +kernel
theorem dX3_init_35 : decode cX3_init 35 = .ok (.newarray .int, 2) := by decide +kernel
theorem dX3_init_37 : decode cX3_init 37 = .ok (.putfield 24, 3) := by decide +kernel
theorem dX3_init_40 : decode cX3_init 40 = .ok (.aload_n 0, 1) := by decide +kernel
theorem dX3_init_41 : decode cX3_init 41 = .ok (.iconst 4, 1) := by decide +kernel
theorem dX3_init_42 : decode cX3_init 42 = .ok (.newarray .int, 2) := by decide +kernel
theorem dX3_init_44 : decode cX3_init 44 = .ok (.putfield 27, 3) := by decide +kernel
theorem dX3_init_47 : decode cX3_init 47 = .ok (.aload_n 0, 1) := by decide +kernel
theorem dX3_init_48 : decode cX3_init 48 = .ok (.iconst 4, 1) := by decide +kernel
theorem dX3_init_49 : decode cX3_init 49 = .ok (.newarray .int, 2) := by decide +kernel
theorem dX3_init_51 : decode cX3_init 51 = .ok (.putfield 30, 3) := by decide +kernel
theorem dX3_init_54 : decode cX3_init 54 = .ok (.aload_n 0, 1) := by decide +kernel
theorem dX3_init_55 : decode cX3_init 55 = .ok (.iconst (-1), 1) := by decide +kernel
theorem dX3_init_56 : decode cX3_init 56 = .ok (.putfield 33, 3) := by decide +kernel
theorem dX3_init_59 : decode cX3_init 59 = .ok (.return_, 1) := by decide +kernel
theorem dX3_add_0 : decode cX3_add 0 = .ok (.aload_n 0, 1) := by decide +kernel
theorem dX3_add_1 : decode cX3_add 1 = .ok (.getfield 37, 3) := by decide +kernel
theorem dX3_add_4 : decode cX3_add 4 = .ok (.istore 4, 2) := by decide +kernel
theorem dX3_add_6 : decode cX3_add 6 = .ok (.aload_n 0, 1) := by decide +kernel
theorem dX3_add_7 : decode cX3_add 7 = .ok (.getfield 15, 3) := by decide +kernel
theorem dX3_add_10 : decode cX3_add 10 = .ok (.iload 4, 2) := by decide +kernel
theorem dX3_add_12 : decode cX3_add 12 = .ok (.iload_n 1, 1) := by decide +kernel
theorem dX3_add_13 : decode cX3_add 13 = .ok (.iastore, 1) := by decide +kernel
theorem dX3_add_14 : decode cX3_add 14 = .ok (.aload_n 0, 1) := by decide +kernel
theorem dX3_add_15 : decode cX3_add 15 = .ok (.getfield 18, 3) := by decide +kernel
theorem dX3_add_18 : decode cX3_add 18 = .ok (.iload 4, 2) := by decide +kernel
theorem dX3_add_20 : decode cX3_add 20 = .ok (.iload_n 2, 1) := by decide +kernel
theorem dX3_add_21 : decode cX3_add 21 = .ok (.iastore, 1) := by decide +kernel
theorem dX3_add_22 : decode cX3_add 22 = .ok (.aload_n 0, 1) := by decide +kernel
theorem dX3_add_23 : decode cX3_add 23 = .ok (.getfield 21, 3) := by decide +kernel
theorem dX3_add_26 : decode cX3_add 26 = .ok (.iload 4, 2) := by decide +kernel
theorem dX3_add_28 : decode cX3_add 28 = .ok (.iload_n 3, 1) := by decide +kernel
theorem dX3_add_29 : decode cX3_add 29 = .ok (.iastore, 1) := by decide +kernel
theorem dX3_add_30 : decode cX3_add 30 = .ok (.aload_n 0, 1) := by decide +kernel
theorem dX3_add_31 : decode cX3_add 31 = .ok (.dup, 1) := by decide +kernel
theorem dX3_add_32 : decode cX3_add 32 = .ok (.getfield 37, 3) := by decide +kernel
theorem dX3_add_35 : decode cX3_add 35 = .ok (.iconst 1, 1) := by decide +kernel
theorem dX3_add_36 : decode cX3_add 36 = .ok (.iadd, 1) := by decide +kernel
theorem dX3_add_37 : decode cX3_add 37 = .ok (.putfield 37, 3) := by decide +kernel
theorem dX3_add_40 : decode cX3_add 40 = .ok (.aload_n 0, 1) := by decide +kernel
theorem dX3_add_41 : decode cX3_add 41 = .ok (.iconst (-1), 1) := by decide +kernel
theorem dX3_add_42 : decode cX3_add 42 = .ok (.putfield 33, 3) := by decide +kernel
theorem dX3_add_45 : decode cX3_add 45 = .ok (.iload 4, 2) := by decide +kernel
theorem dX3_add_47 : decode cX3_add 47 = .ok (.ireturn, 1) := by decide +kernel
theorem dX3_removeAll_0 : decode cX3_removeAll 0 = .ok (.aload_n 0, 1) := by decide +kernel
theorem dX3_removeAll_1 : decode cX3_removeAll 1 = .ok (.iconst 0, 1) := by decide +kernel
theorem dX3_removeAll_2 : decode cX3_removeAll 2 = .ok (.putfield 37, 3) := by decide +kernel
theorem dX3_removeAll_5 : decode cX3_removeAll 5 = .ok (.aload_n 0, 1) := by decide +kernel
theorem dX3_removeAll_6 : decode cX3_removeAll 6 = .ok (.iconst (-1), 1) := by decide +kernel
theorem dX3_removeAll_7 : decode cX3_removeAll 7 = .ok (.putfield 33, 3) := by decide +kernel
theorem dX3_removeAll_10 : decode cX3_removeAll 10 = .ok (.return_, 1) := by decide +kernel
theorem dX3_lay_0 : decode cX3_lay 0 = .ok (.aload_n 0, 1) := by decide +kernel
theorem dX3_lay_1 : decode cX3_lay 1 = .ok (.getfield 33, 3) := by decide +kernel
theorem dX3_lay_4 : decode cX3_lay 4 = .ok (.aload_n 1, 1) := by decide +kernel
theorem dX3_lay_5 : decode cX3_lay 5 = .ok (.getfield 40, 3) := by decide +kernel
theorem dX3_lay_8 : decode cX3_lay 8 = .ok (.if_icmp .eq 24, 3) := by decide +kernel
theorem dX3_lay_11 : decode cX3_lay 11 = .ok (.aload_n 0, 1) := by decide +kernel
theorem dX3_lay_12 : decode cX3_lay 12 = .ok (.aload_n 1, 1) := by decide +kernel
theorem dX3_lay_13 : decode cX3_lay 13 = .ok (.getfield 40, 3) := by decide +kernel
theorem dX3_lay_16 : decode cX3_lay 16 = .ok (.putfield 33, 3) := by decide +kernel
theorem dX3_lay_19 : decode cX3_lay 19 = .ok (.aload_n 0, 1) := by decide +kernel
theorem dX3_lay_20 : decode cX3_lay 20 = .ok (.invokevirtual 43, 3) := by decide +kernel
theorem dX3_lay_23 : decode cX3_lay 23 = .ok (.aload_n 0, 1) := by decide +kernel
theorem dX3_lay_24 : decode cX3_lay 24 = .ok (.aload_n 0, 1) := by decide +kernel
theorem dX3_lay_25 : decode cX3_lay 25 = .ok (.aload_n 1, 1) := by decide +kernel
theorem dX3_lay_26 : decode cX3_lay 26 = .ok (.invokevirtual 46, 3) := by decide +kernel
theorem dX3_lay_29 : decode cX3_lay 29 = .ok (.putfield 50, 3) := by decide +kernel
theorem dX3_lay_32 : decode cX3_lay 32 = .ok (.aload_n 0, 1) := by decide +kernel
theorem dX3_lay_33 : decode cX3_lay 33 = .ok (.getfield 50, 3) := by decide +kernel
theorem dX3_lay_36 : decode cX3_lay 36 = .ok (.ireturn, 1) := by decide +kernel
theorem dX3_emptyAll_0 : decode cX3_emptyAll 0 = .ok (.aload_n 0, 1) := by decide +kernel
theorem dX3_emptyAll_1 : decode cX3_emptyAll 1 = .ok (.iconst 0, 1) := by decide +kernel
theorem dX3_emptyAll_2 : decode cX3_emptyAll 2 = .ok (.putfield 53, 3) := by decide +kernel
theorem dX3_emptyAll_5 : decode cX3_emptyAll 5 = .ok (.aload_n 0, 1) := by decide +kernel
theorem dX3_emptyAll_6 : decode cX3_emptyAll 6 = .ok (.getfield 11, 3) := by decide +kernel
theorem dX3_emptyAll_9 : decode cX3_emptyAll 9 = .ok (.iconst 0, 1) := by decide +kernel
theorem dX3_emptyAll_10 : decode cX3_emptyAll 10 = .ok (.iconst 0, 1) := by decide +kernel
theorem dX3_emptyAll_11 : decode cX3_emptyAll 11 = .ok (.iastore, 1) := by decide +kernel
theorem dX3_emptyAll_12 : decode cX3_emptyAll 12 = .ok (.iconst 0, 1) := by decide +kernel
theorem dX3_emptyAll_13 : decode cX3_emptyAll 13 = .ok (.istore_n 1, 1) := by decide +kernel
theorem dX3_emptyAll_14 : decode cX3_emptyAll 14 = .ok (.iload_n 1, 1) := by decide +kernel
theorem dX3_emptyAll_15 : decode cX3_emptyAll 15 = .ok (.aload_n 0, 1) := by decide +kernel
theorem dX3_emptyAll_16 : decode cX3_emptyAll 16 = .ok (.getfield 37, 3) := by decide +kernel
theorem dX3_emptyAll_19 : decode cX3_emptyAll 19 = .ok (.if_icmp .ge 45, 3) := by decide +kernel
theorem dX3_emptyAll_22 : decode cX3_emptyAll 22 = .ok (.aload_n 0, 1) := by decide +kernel
theorem dX3_emptyAll_23 : decode cX3_emptyAll 23 = .ok (.getfield 24, 3) := by decide +kernel
theorem dX3_emptyAll_26 : decode cX3_emptyAll 26 = .ok (.iload_n 1, 1) := by decide +kernel
theorem dX3_emptyAll_27 : decode cX3_emptyAll 27 = .ok (.aload_n 0, 1) := by decide +kernel
theorem dX3_emptyAll_28 : decode cX3_emptyAll 28 = .ok (.getfield 15, 3) := by decide +kernel
theorem dX3_emptyAll_31 : decode cX3_emptyAll 31 = .ok (.iload_n 1, 1) := by decide +kernel
theorem dX3_emptyAll_32 : decode cX3_emptyAll 32 = .ok (.iaload, 1) := by decide +kernel
theorem dX3_emptyAll_33 : decode cX3_emptyAll 33 = .ok (.iastore, 1) := by decide +kernel
theorem dX3_emptyAll_34 : decode cX3_emptyAll 34 = .ok (.aload_n 0, 1) := by decide +kernel
theorem dX3_emptyAll_35 : decode cX3_emptyAll 35 = .ok (.getfield 27, 3) := by decide +kernel
theorem dX3_emptyAll_38 : decode cX3_emptyAll 38 = .ok (.iload_n 1, 1) := by decide +kernel
theorem dX3_emptyAll_39 : decode cX3_emptyAll 39 = .ok (.aload_n 0, 1) := by decide +kernel
theorem dX3_emptyAll_40 : decode cX3_emptyAll 40 = .ok (.getfield 18, 3) := by decide +kernel
theorem dX3_emptyAll_43 : decode cX3_emptyAll 43 = .ok (.iload_n 1, 1) := by decide +kernel
theorem dX3_emptyAll_44 : decode cX3_emptyAll 44 = .ok (.iaload, 1) := by decide +kernel
theorem dX3_emptyAll_45 : decode cX3_emptyAll 45 = .ok (.iastore, 1) := by decide +kernel
theorem dX3_emptyAll_46 : decode cX3_emptyAll 46 = .ok (.aload_n 0, 1) := by decide +kernel
theorem dX3_emptyAll_47 : decode cX3_emptyAll 47 = .ok (.getfield 30, 3) := by decide +kernel
theorem dX3_emptyAll_50 : decode cX3_emptyAll 50 = .ok (.iload_n 1, 1) := by decide +kernel
theorem dX3_emptyAll_51 : decode cX3_emptyAll 51 = .ok (.aload_n 0, 1) := by decide +kernel
theorem dX3_emptyAll_52 : decode cX3_emptyAll 52 = .ok (.getfield 21, 3) := by decide +kernel
theorem dX3_emptyAll_55 : decode cX3_emptyAll 55 = .ok (.iload_n 1, 1) := by decide +kernel
theorem dX3_emptyAll_56 : decode cX3_emptyAll 56 = .ok (.iaload, 1) := by decide +kernel
theorem dX3_emptyAll_57 : decode cX3_emptyAll 57 = .ok (.iastore, 1) := by decide +kernel
theorem dX3_emptyAll_58 : decode cX3_emptyAll 58 = .ok (.iinc 1 1, 3) := by decide +kernel
theorem dX3_emptyAll_61 : decode cX3_emptyAll 61 = .ok (.goto (-47), 3) := by decide +kernel
theorem dX3_emptyAll_64 : decode cX3_emptyAll 64 = .ok (.return_, 1) := by decide +kernel
theorem dX3_search_0 : decode cX3_search 0 = .ok (.iconst 0, 1) := by decide +kernel
theorem dX3_search_1 : decode cX3_search 1 = .ok (.istore_n 2, 1) := by decide +kernel
theorem dX3_search_2 : decode cX3_search 2 = .ok (.iconst 0, 1) := by decide +kernel
theorem dX3_search_3 : decode cX3_search 3 = .ok (.istore_n 3, 1) := by decide +kernel
theorem dX3_search_4 : decode cX3_search 4 = .ok (.iload_n 3, 1) := by decide +kernel
theorem dX3_search_5 : decode cX3_search 5 = .ok (.ldc 56, 2) := by decide +kernel
theorem dX3_search_7 : decode cX3_search 7 = .ok (.if_icmp .ge 97, 3) := by decide +kernel
theorem dX3_search_10 : decode cX3_search 10 = .ok (.iload_n 2, 1) := by decide +kernel
theorem dX3_search_11 : decode cX3_search 11 = .ok (.ifCond .lt 93, 3) := by decide +kernel
theorem dX3_search_14 : decode cX3_search 14 = .ok (.iload_n 2, 1) := by decide +kernel
theorem dX3_search_15 : decode cX3_search 15 = .ok (.aload_n 1, 1) := by decide +kernel
theorem dX3_search_16 : decode cX3_search 16 = .ok (.getfield 40, 3) := by decide +kernel
theorem dX3_search_19 : decode cX3_search 19 = .ok (.if_icmp .ge 85, 3) := by decide +kernel
theorem dX3_search_22 : decode cX3_search 22 = .ok (.aload_n 0, 1) := by decide +kernel
theorem dX3_search_23 : decode cX3_search 23 = .ok (.getfield 11, 3) := by decide +kernel
theorem dX3_search_26 : decode cX3_search 26 = .ok (.iload_n 2, 1) := by decide +kernel
theorem dX3_search_27 : decode cX3_search 27 = .ok (.iaload, 1) := by decide +kernel
theorem dX3_search_28 : decode cX3_search 28 = .ok (.istore 4, 2) := by decide +kernel
theorem dX3_search_30 : decode cX3_search 30 = .ok (.iload 4, 2) := by decide +kernel
theorem dX3_search_32 : decode cX3_search 32 = .ok (.aload_n 0, 1) := by decide +kernel
theorem dX3_search_33 : decode cX3_search 33 = .ok (.getfield 37, 3) := by decide +kernel
theorem dX3_search_36 : decode cX3_search 36 = .ok (.if_icmp .lt 30, 3) := by decide +kernel
theorem dX3_search_39 : decode cX3_search 39 = .ok (.iinc 2 (-1), 3) := by decide +kernel
theorem dX3_search_42 : decode cX3_search 42 = .ok (.iload_n 2, 1) := by decide +kernel
theorem dX3_search_43 : decode cX3_search 43 = .ok (.ifCond .lt 55, 3) := by decide +kernel
theorem dX3_search_46 : decode cX3_search 46 = .ok (.aload_n 0, 1) := by decide +kernel
theorem dX3_search_47 : decode cX3_search 47 = .ok (.aload_n 1, 1) := by decide +kernel
theorem dX3_search_48 : decode cX3_search 48 = .ok (.iload_n 2, 1) := by decide +kernel
theorem dX3_search_49 : decode cX3_search 49 = .ok (.iconst 1, 1) := by decide +kernel
theorem dX3_search_50 : decode cX3_search 50 = .ok (.invokevirtual 57, 3) := by decide +kernel
theorem dX3_search_53 : decode cX3_search 53 = .ok (.aload_n 0, 1) := by decide +kernel
theorem dX3_search_54 : decode cX3_search 54 = .ok (.getfield 11, 3) := by decide +kernel
theorem dX3_search_57 : decode cX3_search 57 = .ok (.iload_n 2, 1) := by decide +kernel
theorem dX3_search_58 : decode cX3_search 58 = .ok (.dup2, 1) := by decide +kernel
theorem dX3_search_59 : decode cX3_search 59 = .ok (.iaload, 1) := by decide +kernel
theorem dX3_search_60 : decode cX3_search 60 = .ok (.iconst 1, 1) := by decide +kernel
theorem dX3_search_61 : decode cX3_search 61 = .ok (.iadd, 1) := by decide +kernel
theorem dX3_search_62 : decode cX3_search 62 = .ok (.iastore, 1) := by decide +kernel
theorem dX3_search_63 : decode cX3_search 63 = .ok (.goto 35, 3) := by decide +kernel
theorem dX3_search_66 : decode cX3_search 66 = .ok (.aload_n 0, 1) := by decide +kernel
theorem dX3_search_67 : decode cX3_search 67 = .ok (.getfield 53, 3) := by decide +kernel
theorem dX3_search_70 : decode cX3_search 70 = .ok (.sipush 20000, 3) := by decide +kernel
theorem dX3_search_73 : decode cX3_search 73 = .ok (.if_icmp .lt 6, 3) := by decide +kernel
theorem dX3_search_76 : decode cX3_search 76 = .ok (.bipush 10, 2) := by decide +kernel
theorem dX3_search_78 : decode cX3_search 78 = .ok (.ireturn, 1) := by decide +kernel
theorem dX3_search_79 : decode cX3_search 79 = .ok (.aload_n 0, 1) := by decide +kernel
theorem dX3_search_80 : decode cX3_search 80 = .ok (.dup, 1) := by decide +kernel
theorem dX3_search_81 : decode cX3_search 81 = .ok (.getfield 53, 3) := by decide +kernel
theorem dX3_search_84 : decode cX3_search 84 = .ok (.iconst 1, 1) := by decide +kernel
theorem dX3_search_85 : decode cX3_search 85 = .ok (.iadd, 1) := by decide +kernel
theorem dX3_search_86 : decode cX3_search 86 = .ok (.putfield 53, 3) := by decide +kernel
theorem dX3_search_89 : decode cX3_search 89 = .ok (.aload_n 0, 1) := by decide +kernel
theorem dX3_search_90 : decode cX3_search 90 = .ok (.aload_n 1, 1) := by decide +kernel
theorem dX3_search_91 : decode cX3_search 91 = .ok (.iload_n 2, 1) := by decide +kernel
theorem dX3_search_92 : decode cX3_search 92 = .ok (.iload 4, 2) := by decide +kernel
theorem dX3_search_94 : decode cX3_search 94 = .ok (.invokevirtual 61, 3) := by decide +kernel
theorem dX3_search_97 : decode cX3_search 97 = .ok (.istore_n 2, 1) := by decide +kernel
theorem dX3_search_98 : decode cX3_search 98 = .ok (.iinc 3 1, 3) := by decide +kernel
theorem dX3_search_101 : decode cX3_search 101 = .ok (.goto (-97), 3) := by decide +kernel
theorem dX3_search_104 : decode cX3_search 104 = .ok (.iload_n 2, 1) := by decide +kernel
theorem dX3_search_105 : decode cX3_search 105 = .ok (.ifCond .ge 8, 3) := by decide +kernel
theorem dX3_search_108 : decode cX3_search 108 = .ok (.bipush 8, 2) := by decide +kernel
theorem dX3_search_110 : decode cX3_search 110 = .ok (.goto 4, 3) := by decide +kernel
theorem dX3_search_113 : decode cX3_search 113 = .ok (.iconst 0, 1) := by decide +kernel
theorem dX3_search_114 : decode cX3_search 114 = .ok (.ireturn, 1) := by decide +kernel
theorem dX3_place_0 : decode cX3_place 0 = .ok (.aload_n 0, 1) := by decide +kernel
theorem dX3_place_1 : decode cX3_place 1 = .ok (.getfield 24, 3) := by decide +kernel
theorem dX3_place_4 : decode cX3_place 4 = .ok (.iload_n 3, 1) := by decide +kernel
theorem dX3_place_5 : decode cX3_place 5 = .ok (.iaload, 1) := by decide +kernel
theorem dX3_place_6 : decode cX3_place 6 = .ok (.iconst 1, 1) := by decide +kernel
theorem dX3_place_7 : decode cX3_place 7 = .ok (.if_icmp .lt 37, 3) := by decide +kernel
theorem dX3_place_10 : decode cX3_place 10 = .ok (.aload_n 0, 1) := by decide +kernel
theorem dX3_place_11 : decode cX3_place 11 = .ok (.getfield 27, 3) := by decide +kernel
theorem dX3_place_14 : decode cX3_place 14 = .ok (.iload_n 3, 1) := by decide +kernel
theorem dX3_place_15 : decode cX3_place 15 = .ok (.iaload, 1) := by decide +kernel
theorem dX3_place_16 : decode cX3_place 16 = .ok (.aload_n 1, 1) := by decide +kernel
theorem dX3_place_17 : decode cX3_place 17 = .ok (.getfield 65, 3) := by decide +kernel
theorem dX3_place_20 : decode cX3_place 20 = .ok (.iload_n 2, 1) := by decide +kernel
theorem dX3_place_21 : decode cX3_place 21 = .ok (.iaload, 1) := by decide +kernel
theorem dX3_place_22 : decode cX3_place 22 = .ok (.if_icmp .lt 22, 3) := by decide +kernel
theorem dX3_place_25 : decode cX3_place 25 = .ok (.aload_n 0, 1) := by decide +kernel
theorem dX3_place_26 : decode cX3_place 26 = .ok (.getfield 30, 3) := by decide +kernel
theorem dX3_place_29 : decode cX3_place 29 = .ok (.iload_n 3, 1) := by decide +kernel
theorem dX3_place_30 : decode cX3_place 30 = .ok (.iaload, 1) := by decide +kernel
theorem dX3_place_31 : decode cX3_place 31 = .ok (.aload_n 1, 1) := by decide +kernel
theorem dX3_place_32 : decode cX3_place 32 = .ok (.getfield 66, 3) := by decide +kernel
theorem dX3_place_35 : decode cX3_place 35 = .ok (.iload_n 2, 1) := by decide +kernel
theorem dX3_place_36 : decode cX3_place 36 = .ok (.iaload, 1) := by decide +kernel
theorem dX3_place_37 : decode cX3_place 37 = .ok (.if_icmp .lt 7, 3) := by decide +kernel
theorem dX3_place_40 : decode cX3_place 40 = .ok (.iconst 1, 1) := by decide +kernel
theorem dX3_place_41 : decode cX3_place 41 = .ok (.goto 4, 3) := by decide +kernel
theorem dX3_place_44 : decode cX3_place 44 = .ok (.iconst 0, 1) := by decide +kernel
theorem dX3_place_45 : decode cX3_place 45 = .ok (.istore 4, 2) := by decide +kernel
theorem dX3_place_47 : decode cX3_place 47 = .ok (.iload 4, 2) := by decide +kernel
theorem dX3_place_49 : decode cX3_place 49 = .ok (.ifCond .ne 15, 3) := by decide +kernel
theorem dX3_place_52 : decode cX3_place 52 = .ok (.aload_n 0, 1) := by decide +kernel
theorem dX3_place_53 : decode cX3_place 53 = .ok (.getfield 11, 3) := by decide +kernel
theorem dX3_place_56 : decode cX3_place 56 = .ok (.iload_n 2, 1) := by decide +kernel
theorem dX3_place_57 : decode cX3_place 57 = .ok (.dup2, 1) := by decide +kernel
theorem dX3_place_58 : decode cX3_place 58 = .ok (.iaload, 1) := by decide +kernel
theorem dX3_place_59 : decode cX3_place 59 = .ok (.iconst 1, 1) := by decide +kernel
theorem dX3_place_60 : decode cX3_place 60 = .ok (.iadd, 1) := by decide +kernel
theorem dX3_place_61 : decode cX3_place 61 = .ok (.iastore, 1) := by decide +kernel
theorem dX3_place_62 : decode cX3_place 62 = .ok (.iload_n 2, 1) := by decide +kernel
theorem dX3_place_63 : decode cX3_place 63 = .ok (.ireturn, 1) := by decide +kernel
theorem dX3_place_64 : decode cX3_place 64 = .ok (.aload_n 0, 1) := by decide +kernel
theorem dX3_place_65 : decode cX3_place 65 = .ok (.aload_n 1, 1) := by decide +kernel
theorem dX3_place_66 : decode cX3_place 66 = .ok (.iload_n 2, 1) := by decide +kernel
theorem dX3_place_67 : decode cX3_place 67 = .ok (.iconst (-1), 1) := by decide +kernel
theorem dX3_place_68 : decode cX3_place 68 = .ok (.invokevirtual 57, 3) := by decide +kernel
theorem dX3_place_71 : decode cX3_place 71 = .ok (.iload_n 2, 1) := by decide +kernel
theorem dX3_place_72 : decode cX3_place 72 = .ok (.iconst 1, 1) := by decide +kernel
theorem dX3_place_73 : decode cX3_place 73 = .ok (.iadd, 1) := by decide +kernel
theorem dX3_place_74 : decode cX3_place 74 = .ok (.bipush 24, 2) := by decide +kernel
theorem dX3_place_76 : decode cX3_place 76 = .ok (.if_icmp .ge 12, 3) := by decide +kernel
theorem dX3_place_79 : decode cX3_place 79 = .ok (.aload_n 0, 1) := by decide +kernel
theorem dX3_place_80 : decode cX3_place 80 = .ok (.getfield 11, 3) := by decide +kernel
theorem dX3_place_83 : decode cX3_place 83 = .ok (.iload_n 2, 1) := by decide +kernel
theorem dX3_place_84 : decode cX3_place 84 = .ok (.iconst 1, 1) := by decide +kernel
theorem dX3_place_85 : decode cX3_place 85 = .ok (.iadd, 1) := by decide +kernel
theorem dX3_place_86 : decode cX3_place 86 = .ok (.iconst 0, 1) := by decide +kernel
theorem dX3_place_87 : decode cX3_place 87 = .ok (.iastore, 1) := by decide +kernel
theorem dX3_place_88 : decode cX3_place 88 = .ok (.iload_n 2, 1) := by decide +kernel
theorem dX3_place_89 : decode cX3_place 89 = .ok (.iconst 1, 1) := by decide +kernel
theorem dX3_place_90 : decode cX3_place 90 = .ok (.iadd, 1) := by decide +kernel
theorem dX3_place_91 : decode cX3_place 91 = .ok (.ireturn, 1) := by decide +kernel
theorem dX3_move_0 : decode cX3_move 0 = .ok (.aload_n 0, 1) := by decide +kernel
theorem dX3_move_1 : decode cX3_move 1 = .ok (.getfield 11, 3) := by decide +kernel
theorem dX3_move_4 : decode cX3_move 4 = .ok (.iload_n 2, 1) := by decide +kernel
theorem dX3_move_5 : decode cX3_move 5 = .ok (.iaload, 1) := by decide +kernel
theorem dX3_move_6 : decode cX3_move 6 = .ok (.istore 4, 2) := by decide +kernel
theorem dX3_move_8 : decode cX3_move 8 = .ok (.aload_n 0, 1) := by decide +kernel
theorem dX3_move_9 : decode cX3_move 9 = .ok (.getfield 24, 3) := by decide +kernel
theorem dX3_move_12 : decode cX3_move 12 = .ok (.iload 4, 2) := by decide +kernel
theorem dX3_move_14 : decode cX3_move 14 = .ok (.dup2, 1) := by decide +kernel
theorem dX3_move_15 : decode cX3_move 15 = .ok (.iaload, 1) := by decide +kernel
theorem dX3_move_16 : decode cX3_move 16 = .ok (.iload_n 3, 1) := by decide +kernel
theorem dX3_move_17 : decode cX3_move 17 = .ok (.iadd, 1) := by decide +kernel
theorem dX3_move_18 : decode cX3_move 18 = .ok (.iastore, 1) := by decide +kernel
theorem dX3_move_19 : decode cX3_move 19 = .ok (.aload_n 0, 1) := by decide +kernel
theorem dX3_move_20 : decode cX3_move 20 = .ok (.getfield 27, 3) := by decide +kernel
theorem dX3_move_23 : decode cX3_move 23 = .ok (.iload 4, 2) := by decide +kernel
theorem dX3_move_25 : decode cX3_move 25 = .ok (.dup2, 1) := by decide +kernel
theorem dX3_move_26 : decode cX3_move 26 = .ok (.iaload, 1) := by decide +kernel
theorem dX3_move_27 : decode cX3_move 27 = .ok (.iload_n 3, 1) := by decide +kernel
theorem dX3_move_28 : decode cX3_move 28 = .ok (.aload_n 1, 1) := by decide +kernel
theorem dX3_move_29 : decode cX3_move 29 = .ok (.getfield 65, 3) := by decide +kernel
theorem dX3_move_32 : decode cX3_move 32 = .ok (.iload_n 2, 1) := by decide +kernel
theorem dX3_move_33 : decode cX3_move 33 = .ok (.iaload, 1) := by decide +kernel
theorem dX3_move_34 : decode cX3_move 34 = .ok (.imul, 1) := by decide +kernel
theorem dX3_move_35 : decode cX3_move 35 = .ok (.iadd, 1) := by decide +kernel
theorem dX3_move_36 : decode cX3_move 36 = .ok (.iastore, 1) := by decide +kernel
theorem dX3_move_37 : decode cX3_move 37 = .ok (.aload_n 0, 1) := by decide +kernel
theorem dX3_move_38 : decode cX3_move 38 = .ok (.getfield 30, 3) := by decide +kernel
theorem dX3_move_41 : decode cX3_move 41 = .ok (.iload 4, 2) := by decide +kernel
theorem dX3_move_43 : decode cX3_move 43 = .ok (.dup2, 1) := by decide +kernel
theorem dX3_move_44 : decode cX3_move 44 = .ok (.iaload, 1) := by decide +kernel
theorem dX3_move_45 : decode cX3_move 45 = .ok (.iload_n 3, 1) := by decide +kernel
theorem dX3_move_46 : decode cX3_move 46 = .ok (.aload_n 1, 1) := by decide +kernel
theorem dX3_move_47 : decode cX3_move 47 = .ok (.getfield 66, 3) := by decide +kernel
theorem dX3_move_50 : decode cX3_move 50 = .ok (.iload_n 2, 1) := by decide +kernel
theorem dX3_move_51 : decode cX3_move 51 = .ok (.iaload, 1) := by decide +kernel
theorem dX3_move_52 : decode cX3_move 52 = .ok (.imul, 1) := by decide +kernel
theorem dX3_move_53 : decode cX3_move 53 = .ok (.iadd, 1) := by decide +kernel
theorem dX3_move_54 : decode cX3_move 54 = .ok (.iastore, 1) := by decide +kernel
theorem dX3_move_55 : decode cX3_move 55 = .ok (.return_, 1) := by decide +kernel
theorem dX4_init_0 : decode cX4_init 0 = .ok (.aload_n 0, 1) := by decide +kernel
theorem dX4_init_1 : decode cX4_init 1 = .ok (.invokespecial 3, 3) := by decide +kernel
theorem dX4_init_4 : decode cX4_init 4 = .ok (.aload_n 0, 1) := by decide +kernel
theorem dX4_init_5 : decode cX4_init 5 = .ok (.bipush 12, 2) := by decide +kernel
theorem dX4_init_7 : decode cX4_init 7 = .ok (.newarray .int, 2) := by decide +kernel
theorem dX4_init_9 : decode cX4_init 9 = .ok (.putfield 9, 3) := by decide +kernel
theorem dX4_init_12 : decode cX4_init 12 = .ok (.aload_n 0, 1) := by decide +kernel
theorem dX4_init_13 : decode cX4_init 13 = .ok (.bipush 12, 2) := by decide +kernel
theorem dX4_init_15 : decode cX4_init 15 = .ok (.newarray .int, 2) := by decide +kernel
theorem dX4_init_17 : decode cX4_init 17 = .ok (.putfield 15, 3) := by decide +kernel
theorem dX4_init_20 : decode cX4_init 20 = .ok (.aload_n 0, 1) := by decide +kernel
theorem dX4_init_21 : decode cX4_init 21 = .ok (.bipush 12, 2) := by decide +kernel
theorem dX4_init_23 : decode cX4_init 23 = .ok (.newarray .int, 2) := by decide +kernel
theorem dX4_init_25 : decode cX4_init 25 = .ok (.putfield 18, 3) := by decide +kernel
theorem dX4_init_28 : decode cX4_init 28 = .ok (.return_, 1) := by decide +kernel
theorem dX4_has_0 : decode cX4_has 0 = .ok (.iload_n 1, 1) := by decide +kernel
theorem dX4_has_1 : decode cX4_has 1 = .ok (.ifCond .lt 15, 3) := by decide +kernel
theorem dX4_has_4 : decode cX4_has 4 = .ok (.iload_n 1, 1) := by decide +kernel
theorem dX4_has_5 : decode cX4_has 5 = .ok (.aload_n 0, 1) := by decide +kernel
theorem dX4_has_6 : decode cX4_has 6 = .ok (.getfield 21, 3) := by decide +kernel
theorem dX4_has_9 : decode cX4_has 9 = .ok (.if_icmp .ge 7, 3) := by decide +kernel
theorem dX4_has_12 : decode cX4_has 12 = .ok (.iconst 1, 1) := by decide +kernel
theorem dX4_has_13 : decode cX4_has 13 = .ok (.goto 4, 3) := by decide +kernel
theorem dX4_has_16 : decode cX4_has 16 = .ok (.iconst 0, 1) := by decide +kernel
theorem dX4_has_17 : decode cX4_has 17 = .ok (.ireturn, 1) := by decide +kernel
theorem dX4_add_0 : decode cX4_add 0 = .ok (.aload_n 0, 1) := by decide +kernel
theorem dX4_add_1 : decode cX4_add 1 = .ok (.getfield 21, 3) := by decide +kernel
theorem dX4_add_4 : decode cX4_add 4 = .ok (.istore 4, 2) := by decide +kernel
theorem dX4_add_6 : decode cX4_add 6 = .ok (.aload_n 0, 1) := by decide +kernel
theorem dX4_add_7 : decode cX4_add 7 = .ok (.getfield 9, 3) := by decide +kernel
theorem dX4_add_10 : decode cX4_add 10 = .ok (.iload 4, 2) := by decide +kernel
theorem dX4_add_12 : decode cX4_add 12 = .ok (.iload_n 1, 1) := by decide +kernel
theorem dX4_add_13 : decode cX4_add 13 = .ok (.iastore, 1) := by decide +kernel
theorem dX4_add_14 : decode cX4_add 14 = .ok (.aload_n 0, 1) := by decide +kernel
theorem dX4_add_15 : decode cX4_add 15 = .ok (.getfield 15, 3) := by decide +kernel
theorem dX4_add_18 : decode cX4_add 18 = .ok (.iload 4, 2) := by decide +kernel
theorem dX4_add_20 : decode cX4_add 20 = .ok (.iload_n 2, 1) := by decide +kernel
theorem dX4_add_21 : decode cX4_add 21 = .ok (.iastore, 1) := by decide +kernel
theorem dX4_add_22 : decode cX4_add 22 = .ok (.aload_n 0, 1) := by decide +kernel
theorem dX4_add_23 : decode cX4_add 23 = .ok (.getfield 18, 3) := by decide +kernel
theorem dX4_add_26 : decode cX4_add 26 = .ok (.iload 4, 2) := by decide +kernel
theorem dX4_add_28 : decode cX4_add 28 = .ok (.iload_n 3, 1) := by decide +kernel
theorem dX4_add_29 : decode cX4_add 29 = .ok (.iastore, 1) := by decide +kernel
theorem dX4_add_30 : decode cX4_add 30 = .ok (.aload_n 0, 1) := by decide +kernel
theorem dX4_add_31 : decode cX4_add 31 = .ok (.dup, 1) := by decide +kernel
theorem dX4_add_32 : decode cX4_add 32 = .ok (.getfield 21, 3) := by decide +kernel
theorem dX4_add_35 : decode cX4_add 35 = .ok (.iconst 1, 1) := by decide +kernel
theorem dX4_add_36 : decode cX4_add 36 = .ok (.iadd, 1) := by decide +kernel
theorem dX4_add_37 : decode cX4_add 37 = .ok (.putfield 21, 3) := by decide +kernel
theorem dX4_add_40 : decode cX4_add 40 = .ok (.iload 4, 2) := by decide +kernel
theorem dX4_add_42 : decode cX4_add 42 = .ok (.ireturn, 1) := by decide +kernel
theorem dX4_isAllowed_0 : decode cX4_isAllowed 0 = .ok (.aload_n 0, 1) := by decide +kernel
theorem dX4_isAllowed_1 : decode cX4_isAllowed 1 = .ok (.getfield 9, 3) := by decide +kernel
theorem dX4_isAllowed_4 : decode cX4_isAllowed 4 = .ok (.iload_n 1, 1) := by decide +kernel
theorem dX4_isAllowed_5 : decode cX4_isAllowed 5 = .ok (.iaload, 1) := by decide +kernel
theorem dX4_isAllowed_6 : decode cX4_isAllowed 6 = .ok (.aload_n 2, 1) := by decide +kernel
theorem dX4_isAllowed_7 : decode cX4_isAllowed 7 = .ok (.getfield 25, 3) := by decide +kernel
theorem dX4_isAllowed_10 : decode cX4_isAllowed 10 = .ok (.iload_n 3, 1) := by decide +kernel
theorem dX4_isAllowed_11 : decode cX4_isAllowed 11 = .ok (.iaload, 1) := by decide +kernel
theorem dX4_isAllowed_12 : decode cX4_isAllowed 12 = .ok (.ishr, 1) := by decide +kernel
theorem dX4_isAllowed_13 : decode cX4_isAllowed 13 = .ok (.iconst 1, 1) := by decide +kernel
theorem dX4_isAllowed_14 : decode cX4_isAllowed 14 = .ok (.iand, 1) := by decide +kernel
theorem dX4_isAllowed_15 : decode cX4_isAllowed 15 = .ok (.iconst 1, 1) := by decide +kernel
theorem dX4_isAllowed_16 : decode cX4_isAllowed 16 = .ok (.if_icmp .ne 7, 3) := by decide +kernel
theorem dX4_isAllowed_19 : decode cX4_isAllowed 19 = .ok (.iconst 1, 1) := by decide +kernel
theorem dX4_isAllowed_20 : decode cX4_isAllowed 20 = .ok (.goto 4, 3) := by decide +kernel
theorem dX4_isAllowed_23 : decode cX4_isAllowed 23 = .ok (.iconst 0, 1) := by decide +kernel
theorem dX4_isAllowed_24 : decode cX4_isAllowed 24 = .ok (.istore 4, 2) := by decide +kernel
theorem dX4_isAllowed_26 : decode cX4_isAllowed 26 = .ok (.iload 4, 2) := by decide +kernel
theorem dX4_isAllowed_28 : decode cX4_isAllowed 28 = .ok (.ifCond .eq 22, 3) := by decide +kernel
theorem dX4_isAllowed_31 : decode cX4_isAllowed 31 = .ok (.aload_n 0, 1) := by decide +kernel
theorem dX4_isAllowed_32 : decode cX4_isAllowed 32 = .ok (.getfield 15, 3) := by decide +kernel
theorem dX4_isAllowed_35 : decode cX4_isAllowed 35 = .ok (.iload_n 1, 1) := by decide +kernel
theorem dX4_isAllowed_36 : decode cX4_isAllowed 36 = .ok (.iaload, 1) := by decide +kernel
theorem dX4_isAllowed_37 : decode cX4_isAllowed 37 = .ok (.aload_n 2, 1) := by decide +kernel
theorem dX4_isAllowed_38 : decode cX4_isAllowed 38 = .ok (.getfield 30, 3) := by decide +kernel
theorem dX4_isAllowed_41 : decode cX4_isAllowed 41 = .ok (.iload_n 3, 1) := by decide +kernel
theorem dX4_isAllowed_42 : decode cX4_isAllowed 42 = .ok (.iaload, 1) := by decide +kernel
theorem dX4_isAllowed_43 : decode cX4_isAllowed 43 = .ok (.if_icmp .eq 7, 3) := by decide +kernel
theorem dX4_isAllowed_46 : decode cX4_isAllowed 46 = .ok (.iconst 1, 1) := by decide +kernel
theorem dX4_isAllowed_47 : decode cX4_isAllowed 47 = .ok (.goto 4, 3) := by decide +kernel
theorem dX4_isAllowed_50 : decode cX4_isAllowed 50 = .ok (.iconst 0, 1) := by decide +kernel
theorem dX4_isAllowed_51 : decode cX4_isAllowed 51 = .ok (.ireturn, 1) := by decide +kernel
theorem dX4_allowedFor_0 : decode cX4_allowedFor 0 = .ok (.iconst 0, 1) := by decide +kernel
theorem dX4_allowedFor_1 : decode cX4_allowedFor 1 = .ok (.istore_n 3, 1) := by decide +kernel
theorem dX4_allowedFor_2 : decode cX4_allowedFor 2 = .ok (.iconst 0, 1) := by decide +kernel
theorem dX4_allowedFor_3 : decode cX4_allowedFor 3 = .ok (.istore 4, 2) := by decide +kernel
theorem dX4_allowedFor_5 : decode cX4_allowedFor 5 = .ok (.iload 4, 2) := by decide +kernel
theorem dX4_allowedFor_7 : decode cX4_allowedFor 7 = .ok (.aload_n 0, 1) := by decide +kernel
theorem dX4_allowedFor_8 : decode cX4_allowedFor 8 = .ok (.getfield 21, 3) := by decide +kernel
theorem dX4_allowedFor_11 : decode cX4_allowedFor 11 = .ok (.if_icmp .ge 27, 3) := by decide +kernel
theorem dX4_allowedFor_14 : decode cX4_allowedFor 14 = .ok (.aload_n 0, 1) := by decide +kernel
theorem dX4_allowedFor_15 : decode cX4_allowedFor 15 = .ok (.iload 4, 2) := by decide +kernel
theorem dX4_allowedFor_17 : decode cX4_allowedFor 17 = .ok (.aload_n 1, 1) := by decide +kernel
theorem dX4_allowedFor_18 : decode cX4_allowedFor 18 = .ok (.iload_n 2, 1) := by decide +kernel
theorem dX4_allowedFor_19 : decode cX4_allowedFor 19 = .ok (.invokevirtual 31, 3) := by decide +kernel
theorem dX4_allowedFor_22 : decode cX4_allowedFor 22 = .ok (.ifCond .eq 10, 3) := by decide +kernel
theorem dX4_allowedFor_25 : decode cX4_allowedFor 25 = .ok (.iload_n 3, 1) := by decide +kernel
theorem dX4_allowedFor_26 : decode cX4_allowedFor 26 = .ok (.iconst 1, 1) := by decide +kernel
theorem dX4_allowedFor_27 : decode cX4_allowedFor 27 = .ok (.iload 4, 2) := by decide +kernel
theorem dX4_allowedFor_29 : decode cX4_allowedFor 29 = .ok (.ishl, 1) := by decide +kernel
theorem dX4_allowedFor_30 : decode cX4_allowedFor 30 = .ok (.ior, 1) := by decide +kernel
theorem dX4_allowedFor_31 : decode cX4_allowedFor 31 = .ok (.istore_n 3, 1) := by decide +kernel
theorem dX4_allowedFor_32 : decode cX4_allowedFor 32 = .ok (.iinc 4 1, 3) := by decide +kernel
theorem dX4_allowedFor_35 : decode cX4_allowedFor 35 = .ok (.goto (-30), 3) := by decide +kernel
theorem dX4_allowedFor_38 : decode cX4_allowedFor 38 = .ok (.iload_n 3, 1) := by decide +kernel
theorem dX4_allowedFor_39 : decode cX4_allowedFor 39 = .ok (.ireturn, 1) := by decide +kernel
theorem dX5_init_0 : decode cX5_init 0 = .ok (.aload_n 0, 1) := by decide +kernel
theorem dX5_init_1 : decode cX5_init 1 = .ok (.invokespecial 3, 3) := by decide +kernel
theorem dX5_init_4 : decode cX5_init 4 = .ok (.aload_n 0, 1) := by decide +kernel
theorem dX5_init_5 : decode cX5_init 5 = .ok (.bipush 12, 2) := by decide +kernel
theorem dX5_init_7 : decode cX5_init 7 = .ok (.newarray .int, 2) := by decide +kernel
theorem dX5_init_9 : decode cX5_init 9 = .ok (.putfield 9, 3) := by decide +kernel
theorem dX5_init_12 : decode cX5_init 12 = .ok (.aload_n 0, 1) := by decide +kernel
theorem dX5_init_13 : decode cX5_init 13 = .ok (.sipush 288, 3) := by decide +kernel
theorem dX5_init_16 : decode cX5_init 16 = .ok (.newarray .int, 2) := by decide +kernel
theorem dX5_init_18 : decode cX5_init 18 = .ok (.putfield 15, 3) := by decide +kernel
theorem dX5_init_21 : decode cX5_init 21 = .ok (.aload_n 0, 1) := by decide +kernel
theorem dX5_init_22 : decode cX5_init 22 = .ok (.sipush 288, 3) := by decide +kernel
theorem dX5_init_25 : decode cX5_init 25 = .ok (.newarray .int, 2) := by decide +kernel
theorem dX5_init_27 : decode cX5_init 27 = .ok (.putfield 18, 3) := by decide +kernel
theorem dX5_init_30 : decode cX5_init 30 = .ok (.return_, 1) := by decide +kernel
theorem dX5_lookBack_0 : decode cX5_lookBack 0 = .ok (.aload_n 0, 1) := by decide +kernel
theorem dX5_lookBack_1 : decode cX5_lookBack 1 = .ok (.aload_n 1, 1) := by decide +kernel
theorem dX5_lookBack_2 : decode cX5_lookBack 2 = .ok (.iload_n 2, 1) := by decide +kernel
theorem dX5_lookBack_3 : decode cX5_lookBack 3 = .ok (.invokevirtual 21, 3) := by decide +kernel
theorem dX5_lookBack_6 : decode cX5_lookBack 6 = .ok (.aload_n 0, 1) := by decide +kernel
theorem dX5_lookBack_7 : decode cX5_lookBack 7 = .ok (.invokevirtual 25, 3) := by decide +kernel
theorem dX5_lookBack_10 : decode cX5_lookBack 10 = .ok (.return_, 1) := by decide +kernel
theorem dX5_pointsOf_0 : decode cX5_pointsOf 0 = .ok (.aload_n 0, 1) := by decide +kernel
theorem dX5_pointsOf_1 : decode cX5_pointsOf 1 = .ok (.getfield 15, 3) := by decide +kernel
theorem dX5_pointsOf_4 : decode cX5_pointsOf 4 = .ok (.iload_n 1, 1) := by decide +kernel
theorem dX5_pointsOf_5 : decode cX5_pointsOf 5 = .ok (.bipush 24, 2) := by decide +kernel
theorem dX5_pointsOf_7 : decode cX5_pointsOf 7 = .ok (.imul, 1) := by decide +kernel
theorem dX5_pointsOf_8 : decode cX5_pointsOf 8 = .ok (.iload_n 2, 1) := by decide +kernel
theorem dX5_pointsOf_9 : decode cX5_pointsOf 9 = .ok (.iadd, 1) := by decide +kernel
theorem dX5_pointsOf_10 : decode cX5_pointsOf 10 = .ok (.iaload, 1) := by decide +kernel
theorem dX5_pointsOf_11 : decode cX5_pointsOf 11 = .ok (.ireturn, 1) := by decide +kernel
theorem dX5_marksOf_0 : decode cX5_marksOf 0 = .ok (.iconst 0, 1) := by decide +kernel
theorem dX5_marksOf_1 : decode cX5_marksOf 1 = .ok (.istore_n 2, 1) := by decide +kernel
theorem dX5_marksOf_2 : decode cX5_marksOf 2 = .ok (.iconst 0, 1) := by decide +kernel
theorem dX5_marksOf_3 : decode cX5_marksOf 3 = .ok (.istore_n 3, 1) := by decide +kernel
theorem dX5_marksOf_4 : decode cX5_marksOf 4 = .ok (.iload_n 3, 1) := by decide +kernel
theorem dX5_marksOf_5 : decode cX5_marksOf 5 = .ok (.bipush 12, 2) := by decide +kernel
theorem dX5_marksOf_7 : decode cX5_marksOf 7 = .ok (.if_icmp .ge 22, 3) := by decide +kernel
theorem dX5_marksOf_10 : decode cX5_marksOf 10 = .ok (.aload_n 0, 1) := by decide +kernel
theorem dX5_marksOf_11 : decode cX5_marksOf 11 = .ok (.iload_n 3, 1) := by decide +kernel
theorem dX5_marksOf_12 : decode cX5_marksOf 12 = .ok (.iload_n 1, 1) := by decide +kernel
theorem dX5_marksOf_13 : decode cX5_marksOf 13 = .ok (.invokevirtual 28, 3) := by decide +kernel
theorem dX5_marksOf_16 : decode cX5_marksOf 16 = .ok (.iconst (-1), 1) := by decide +kernel
theorem dX5_marksOf_17 : decode cX5_marksOf 17 = .ok (.if_icmp .eq 6, 3) := by decide +kernel
theorem dX5_marksOf_20 : decode cX5_marksOf 20 = .ok (.iinc 2 1, 3) := by decide +kernel
theorem dX5_marksOf_23 : decode cX5_marksOf 23 = .ok (.iinc 3 1, 3) := by decide +kernel
theorem dX5_marksOf_26 : decode cX5_marksOf 26 = .ok (.goto (-22), 3) := by decide +kernel
theorem dX5_marksOf_29 : decode cX5_marksOf 29 = .ok (.iload_n 2, 1) := by decide +kernel
theorem dX5_marksOf_30 : decode cX5_marksOf 30 = .ok (.ireturn, 1) := by decide +kernel
theorem dX5_heapAround_0 : decode cX5_heapAround 0 = .ok (.iconst 0, 1) := by decide +kernel
theorem dX5_heapAround_1 : decode cX5_heapAround 1 = .ok (.istore_n 2, 1) := by decide +kernel
theorem dX5_heapAround_2 : decode cX5_heapAround 2 = .ok (.iload_n 2, 1) := by decide +kernel
theorem dX5_heapAround_3 : decode cX5_heapAround 3 = .ok (.bipush 12, 2) := by decide +kernel
theorem dX5_heapAround_5 : decode cX5_heapAround 5 = .ok (.if_icmp .ge 26, 3) := by decide +kernel
theorem dX5_heapAround_8 : decode cX5_heapAround 8 = .ok (.aload_n 0, 1) := by decide +kernel
theorem dX5_heapAround_9 : decode cX5_heapAround 9 = .ok (.iload_n 2, 1) := by decide +kernel
theorem dX5_heapAround_10 : decode cX5_heapAround 10 = .ok (.iload_n 1, 1) := by decide +kernel
theorem dX5_heapAround_11 : decode cX5_heapAround 11 = .ok (.invokevirtual 28, 3) := by decide +kernel
theorem dX5_heapAround_14 : decode cX5_heapAround 14 = .ok (.iconst (-1), 1) := by decide +kernel
theorem dX5_heapAround_15 : decode cX5_heapAround 15 = .ok (.if_icmp .eq 10, 3) := by decide +kernel
theorem dX5_heapAround_18 : decode cX5_heapAround 18 = .ok (.aload_n 0, 1) := by decide +kernel
theorem dX5_heapAround_19 : decode cX5_heapAround 19 = .ok (.getfield 9, 3) := by decide +kernel
theorem dX5_heapAround_22 : decode cX5_heapAround 22 = .ok (.iload_n 2, 1) := by decide +kernel
theorem dX5_heapAround_23 : decode cX5_heapAround 23 = .ok (.iaload, 1) := by decide +kernel
theorem dX5_heapAround_24 : decode cX5_heapAround 24 = .ok (.ireturn, 1) := by decide +kernel
theorem dX5_heapAround_25 : decode cX5_heapAround 25 = .ok (.iinc 2 1, 3) := by decide +kernel
theorem dX5_heapAround_28 : decode cX5_heapAround 28 = .ok (.goto (-26), 3) := by decide +kernel
theorem dX5_heapAround_31 : decode cX5_heapAround 31 = .ok (.iconst (-1), 1) := by decide +kernel
theorem dX5_heapAround_32 : decode cX5_heapAround 32 = .ok (.ireturn, 1) := by decide +kernel
theorem dX5_isGreat_0 : decode cX5_isGreat 0 = .ok (.iconst 0, 1) := by decide +kernel
theorem dX5_isGreat_1 : decode cX5_isGreat 1 = .ok (.istore_n 2, 1) := by decide +kernel
theorem dX5_isGreat_2 : decode cX5_isGreat 2 = .ok (.iconst 0, 1) := by decide +kernel
theorem dX5_isGreat_3 : decode cX5_isGreat 3 = .ok (.istore_n 3, 1) := by decide +kernel
theorem dX5_isGreat_4 : decode cX5_isGreat 4 = .ok (.iload_n 3, 1) := by decide +kernel
theorem dX5_isGreat_5 : decode cX5_isGreat 5 = .ok (.bipush 12, 2) := by decide +kernel
theorem dX5_isGreat_7 : decode cX5_isGreat 7 = .ok (.if_icmp .ge 22, 3) := by decide +kernel
theorem dX5_isGreat_10 : decode cX5_isGreat 10 = .ok (.aload_n 0, 1) := by decide +kernel
theorem dX5_isGreat_11 : decode cX5_isGreat 11 = .ok (.getfield 9, 3) := by decide +kernel
theorem dX5_isGreat_14 : decode cX5_isGreat 14 = .ok (.iload_n 3, 1) := by decide +kernel
theorem dX5_isGreat_15 : decode cX5_isGreat 15 = .ok (.iaload, 1) := by decide +kernel
theorem dX5_isGreat_16 : decode cX5_isGreat 16 = .ok (.iload_n 1, 1) := by decide +kernel
theorem dX5_isGreat_17 : decode cX5_isGreat 17 = .ok (.if_icmp .ne 6, 3) := by decide +kernel
theorem dX5_isGreat_20 : decode cX5_isGreat 20 = .ok (.iinc 2 1, 3) := by decide +kernel
theorem dX5_isGreat_23 : decode cX5_isGreat 23 = .ok (.iinc 3 1, 3) := by decide +kernel
theorem dX5_isGreat_26 : decode cX5_isGreat 26 = .ok (.goto (-22), 3) := by decide +kernel
theorem dX5_isGreat_29 : decode cX5_isGreat 29 = .ok (.iload_n 2, 1) := by decide +kernel
theorem dX5_isGreat_30 : decode cX5_isGreat 30 = .ok (.iconst 5, 1) := by decide +kernel
theorem dX5_isGreat_31 : decode cX5_isGreat 31 = .ok (.if_icmp .le 7, 3) := by decide +kernel
theorem dX5_isGreat_34 : decode cX5_isGreat 34 = .ok (.iconst 1, 1) := by decide +kernel
theorem dX5_isGreat_35 : decode cX5_isGreat 35 = .ok (.goto 4, 3) := by decide +kernel
theorem dX5_isGreat_38 : decode cX5_isGreat 38 = .ok (.iconst 0, 1) := by decide +kernel
theorem dX5_isGreat_39 : decode cX5_isGreat 39 = .ok (.ireturn, 1) := by decide +kernel
theorem dX5_anyGreat_0 : decode cX5_anyGreat 0 = .ok (.iconst 0, 1) := by decide +kernel
theorem dX5_anyGreat_1 : decode cX5_anyGreat 1 = .ok (.istore_n 1, 1) := by decide +kernel
theorem dX5_anyGreat_2 : decode cX5_anyGreat 2 = .ok (.iload_n 1, 1) := by decide +kernel
theorem dX5_anyGreat_3 : decode cX5_anyGreat 3 = .ok (.bipush 12, 2) := by decide +kernel
theorem dX5_anyGreat_5 : decode cX5_anyGreat 5 = .ok (.if_icmp .ge 29, 3) := by decide +kernel
theorem dX5_anyGreat_8 : decode cX5_anyGreat 8 = .ok (.aload_n 0, 1) := by decide +kernel
theorem dX5_anyGreat_9 : decode cX5_anyGreat 9 = .ok (.getfield 9, 3) := by decide +kernel
theorem dX5_anyGreat_12 : decode cX5_anyGreat 12 = .ok (.iload_n 1, 1) := by decide +kernel
theorem dX5_anyGreat_13 : decode cX5_anyGreat 13 = .ok (.iaload, 1) := by decide +kernel
theorem dX5_anyGreat_14 : decode cX5_anyGreat 14 = .ok (.iload_n 1, 1) := by decide +kernel
theorem dX5_anyGreat_15 : decode cX5_anyGreat 15 = .ok (.if_icmp .ne 13, 3) := by decide +kernel
theorem dX5_anyGreat_18 : decode cX5_anyGreat 18 = .ok (.aload_n 0, 1) := by decide +kernel
theorem dX5_anyGreat_19 : decode cX5_anyGreat 19 = .ok (.iload_n 1, 1) := by decide +kernel
theorem dX5_anyGreat_20 : decode cX5_anyGreat 20 = .ok (.invokevirtual 32, 3) := by decide +kernel
theorem dX5_anyGreat_23 : decode cX5_anyGreat 23 = .ok (.ifCond .eq 5, 3) := by decide +kernel
theorem dX5_anyGreat_26 : decode cX5_anyGreat 26 = .ok (.iconst 1, 1) := by decide +kernel
theorem dX5_anyGreat_27 : decode cX5_anyGreat 27 = .ok (.ireturn, 1) := by decide +kernel
theorem dX5_anyGreat_28 : decode cX5_anyGreat 28 = .ok (.iinc 1 1, 3) := by decide +kernel
theorem dX5_anyGreat_31 : decode cX5_anyGreat 31 = .ok (.goto (-29), 3) := by decide +kernel
theorem dX5_anyGreat_34 : decode cX5_anyGreat 34 = .ok (.iconst 0, 1) := by decide +kernel
theorem dX5_anyGreat_35 : decode cX5_anyGreat 35 = .ok (.ireturn, 1) := by decide +kernel
theorem dX5_takeLatest_0 : decode cX5_takeLatest 0 = .ok (.iconst 0, 1) := by decide +kernel
theorem dX5_takeLatest_1 : decode cX5_takeLatest 1 = .ok (.istore_n 3, 1) := by decide +kernel
theorem dX5_takeLatest_2 : decode cX5_takeLatest 2 = .ok (.iload_n 3, 1) := by decide +kernel
theorem dX5_takeLatest_3 : decode cX5_takeLatest 3 = .ok (.sipush 288, 3) := by decide +kernel
theorem dX5_takeLatest_6 : decode cX5_takeLatest 6 = .ok (.if_icmp .ge 16, 3) := by decide +kernel
theorem dX5_takeLatest_9 : decode cX5_takeLatest 9 = .ok (.aload_n 0, 1) := by decide +kernel
theorem dX5_takeLatest_10 : decode cX5_takeLatest 10 = .ok (.getfield 15, 3) := by decide +kernel
theorem dX5_takeLatest_13 : decode cX5_takeLatest 13 = .ok (.iload_n 3, 1) := by decide +kernel
theorem dX5_takeLatest_14 : decode cX5_takeLatest 14 = .ok (.iconst (-1), 1) := by decide +kernel
theorem dX5_takeLatest_15 : decode cX5_takeLatest 15 = .ok (.iastore, 1) := by decide +kernel
theorem dX5_takeLatest_16 : decode cX5_takeLatest 16 = .ok (.iinc 3 1, 3) := by decide +kernel
theorem dX5_takeLatest_19 : decode cX5_takeLatest 19 = .ok (.goto (-17), 3) := by decide +kernel
theorem dX5_takeLatest_22 : decode cX5_takeLatest 22 = .ok (.iconst 0, 1) := by decide +kernel
theorem dX5_takeLatest_23 : decode cX5_takeLatest 23 = .ok (.istore_n 3, 1) := by decide +kernel
theorem dX5_takeLatest_24 : decode cX5_takeLatest 24 = .ok (.iload_n 3, 1) := by decide +kernel
theorem dX5_takeLatest_25 : decode cX5_takeLatest 25 = .ok (.aload_n 1, 1) := by decide +kernel
theorem dX5_takeLatest_26 : decode cX5_takeLatest 26 = .ok (.getfield 36, 3) := by decide +kernel
theorem dX5_takeLatest_29 : decode cX5_takeLatest 29 = .ok (.if_icmp .ge 101, 3) := by decide +kernel
theorem dX5_takeLatest_32 : decode cX5_takeLatest 32 = .ok (.aload_n 1, 1) := by decide +kernel
theorem dX5_takeLatest_33 : decode cX5_takeLatest 33 = .ok (.getfield 42, 3) := by decide +kernel
theorem dX5_takeLatest_36 : decode cX5_takeLatest 36 = .ok (.iload_n 3, 1) := by decide +kernel
theorem dX5_takeLatest_37 : decode cX5_takeLatest 37 = .ok (.iaload, 1) := by decide +kernel
theorem dX5_takeLatest_38 : decode cX5_takeLatest 38 = .ok (.bipush 24, 2) := by decide +kernel
theorem dX5_takeLatest_40 : decode cX5_takeLatest 40 = .ok (.imul, 1) := by decide +kernel
theorem dX5_takeLatest_41 : decode cX5_takeLatest 41 = .ok (.aload_n 1, 1) := by decide +kernel
theorem dX5_takeLatest_42 : decode cX5_takeLatest 42 = .ok (.getfield 45, 3) := by decide +kernel
theorem dX5_takeLatest_45 : decode cX5_takeLatest 45 = .ok (.iload_n 3, 1) := by decide +kernel
theorem dX5_takeLatest_46 : decode cX5_takeLatest 46 = .ok (.iaload, 1) := by decide +kernel
theorem dX5_takeLatest_47 : decode cX5_takeLatest 47 = .ok (.iadd, 1) := by decide +kernel
theorem dX5_takeLatest_48 : decode cX5_takeLatest 48 = .ok (.istore 4, 2) := by decide +kernel
theorem dX5_takeLatest_50 : decode cX5_takeLatest 50 = .ok (.aload_n 0, 1) := by decide +kernel
theorem dX5_takeLatest_51 : decode cX5_takeLatest 51 = .ok (.getfield 15, 3) := by decide +kernel
theorem dX5_takeLatest_54 : decode cX5_takeLatest 54 = .ok (.iload 4, 2) := by decide +kernel
theorem dX5_takeLatest_56 : decode cX5_takeLatest 56 = .ok (.iaload, 1) := by decide +kernel
theorem dX5_takeLatest_57 : decode cX5_takeLatest 57 = .ok (.iconst (-1), 1) := by decide +kernel
theorem dX5_takeLatest_58 : decode cX5_takeLatest 58 = .ok (.if_icmp .eq 19, 3) := by decide +kernel
theorem dX5_takeLatest_61 : decode cX5_takeLatest 61 = .ok (.aload_n 0, 1) := by decide +kernel
theorem dX5_takeLatest_62 : decode cX5_takeLatest 62 = .ok (.getfield 18, 3) := by decide +kernel
theorem dX5_takeLatest_65 : decode cX5_takeLatest 65 = .ok (.iload 4, 2) := by decide +kernel
theorem dX5_takeLatest_67 : decode cX5_takeLatest 67 = .ok (.iaload, 1) := by decide +kernel
theorem dX5_takeLatest_68 : decode cX5_takeLatest 68 = .ok (.aload_n 1, 1) := by decide +kernel
theorem dX5_takeLatest_69 : decode cX5_takeLatest 69 = .ok (.getfield 48, 3) := by decide +kernel
theorem dX5_takeLatest_72 : decode cX5_takeLatest 72 = .ok (.iload_n 3, 1) := by decide +kernel
theorem dX5_takeLatest_73 : decode cX5_takeLatest 73 = .ok (.iaload, 1) := by decide +kernel
theorem dX5_takeLatest_74 : decode cX5_takeLatest 74 = .ok (.if_icmp .gt 7, 3) := by decide +kernel
theorem dX5_takeLatest_77 : decode cX5_takeLatest 77 = .ok (.iconst 1, 1) := by decide +kernel
theorem dX5_takeLatest_78 : decode cX5_takeLatest 78 = .ok (.goto 4, 3) := by decide +kernel
theorem dX5_takeLatest_81 : decode cX5_takeLatest 81 = .ok (.iconst 0, 1) := by decide +kernel
theorem dX5_takeLatest_82 : decode cX5_takeLatest 82 = .ok (.istore 5, 2) := by decide +kernel
theorem dX5_takeLatest_84 : decode cX5_takeLatest 84 = .ok (.iload 5, 2) := by decide +kernel
theorem dX5_takeLatest_86 : decode cX5_takeLatest 86 = .ok (.ifCond .eq 38, 3) := by decide +kernel
theorem dX5_takeLatest_89 : decode cX5_takeLatest 89 = .ok (.aload_n 1, 1) := by decide +kernel
theorem dX5_takeLatest_90 : decode cX5_takeLatest 90 = .ok (.iload_n 3, 1) := by decide +kernel
theorem dX5_takeLatest_91 : decode cX5_takeLatest 91 = .ok (.iload_n 2, 1) := by decide +kernel
theorem dX5_takeLatest_92 : decode cX5_takeLatest 92 = .ok (.invokevirtual 49, 3) := by decide +kernel
theorem dX5_takeLatest_95 : decode cX5_takeLatest 95 = .ok (.ifCond .eq 29, 3) := by decide +kernel
theorem dX5_takeLatest_98 : decode cX5_takeLatest 98 = .ok (.aload_n 0, 1) := by decide +kernel
theorem dX5_takeLatest_99 : decode cX5_takeLatest 99 = .ok (.getfield 15, 3) := by decide +kernel
theorem dX5_takeLatest_102 : decode cX5_takeLatest 102 = .ok (.iload 4, 2) := by decide +kernel
theorem dX5_takeLatest_104 : decode cX5_takeLatest 104 = .ok (.aload_n 1, 1) := by decide +kernel
theorem dX5_takeLatest_105 : decode cX5_takeLatest 105 = .ok (.getfield 53, 3) := by decide +kernel
theorem dX5_takeLatest_108 : decode cX5_takeLatest 108 = .ok (.iload_n 3, 1) := by decide +kernel
theorem dX5_takeLatest_109 : decode cX5_takeLatest 109 = .ok (.iaload, 1) := by decide +kernel
theorem dX5_takeLatest_110 : decode cX5_takeLatest 110 = .ok (.iastore, 1) := by decide +kernel
theorem dX5_takeLatest_111 : decode cX5_takeLatest 111 = .ok (.aload_n 0, 1) := by decide +kernel
theorem dX5_takeLatest_112 : decode cX5_takeLatest 112 = .ok (.getfield 18, 3) := by decide +kernel
theorem dX5_takeLatest_115 : decode cX5_takeLatest 115 = .ok (.iload 4, 2) := by decide +kernel
theorem dX5_takeLatest_117 : decode cX5_takeLatest 117 = .ok (.aload_n 1, 1) := by decide +kernel
theorem dX5_takeLatest_118 : decode cX5_takeLatest 118 = .ok (.getfield 48, 3) := by decide +kernel
theorem dX5_takeLatest_121 : decode cX5_takeLatest 121 = .ok (.iload_n 3, 1) := by decide +kernel
theorem dX5_takeLatest_122 : decode cX5_takeLatest 122 = .ok (.iaload, 1) := by decide +kernel
theorem dX5_takeLatest_123 : decode cX5_takeLatest 123 = .ok (.iastore, 1) := by decide +kernel
theorem dX5_takeLatest_124 : decode cX5_takeLatest 124 = .ok (.iinc 3 1, 3) := by decide +kernel
theorem dX5_takeLatest_127 : decode cX5_takeLatest 127 = .ok (.goto (-103), 3) := by decide +kernel
theorem dX5_takeLatest_130 : decode cX5_takeLatest 130 = .ok (.return_, 1) := by decide +kernel
theorem dX5_formHeaps_0 : decode cX5_formHeaps 0 = .ok (.iconst 0, 1) := by decide +kernel
theorem dX5_formHeaps_1 : decode cX5_formHeaps 1 = .ok (.istore_n 1, 1) := by decide +kernel
theorem dX5_formHeaps_2 : decode cX5_formHeaps 2 = .ok (.iload_n 1, 1) := by decide +kernel
theorem dX5_formHeaps_3 : decode cX5_formHeaps 3 = .ok (.bipush 12, 2) := by decide +kernel
theorem dX5_formHeaps_5 : decode cX5_formHeaps 5 = .ok (.if_icmp .ge 16, 3) := by decide +kernel
theorem dX5_formHeaps_8 : decode cX5_formHeaps 8 = .ok (.aload_n 0, 1) := by decide +kernel
theorem dX5_formHeaps_9 : decode cX5_formHeaps 9 = .ok (.getfield 9, 3) := by decide +kernel
theorem dX5_formHeaps_12 : decode cX5_formHeaps 12 = .ok (.iload_n 1, 1) := by decide +kernel
theorem dX5_formHeaps_13 : decode cX5_formHeaps 13 = .ok (.iconst (-1), 1) := by decide +kernel
theorem dX5_formHeaps_14 : decode cX5_formHeaps 14 = .ok (.iastore, 1) := by decide +kernel
theorem dX5_formHeaps_15 : decode cX5_formHeaps 15 = .ok (.iinc 1 1, 3) := by decide +kernel
theorem dX5_formHeaps_18 : decode cX5_formHeaps 18 = .ok (.goto (-16), 3) := by decide +kernel
theorem dX5_formHeaps_21 : decode cX5_formHeaps 21 = .ok (.iconst 0, 1) := by decide +kernel
theorem dX5_formHeaps_22 : decode cX5_formHeaps 22 = .ok (.istore_n 1, 1) := by decide +kernel
theorem dX5_formHeaps_23 : decode cX5_formHeaps 23 = .ok (.iload_n 1, 1) := by decide +kernel
theorem dX5_formHeaps_24 : decode cX5_formHeaps 24 = .ok (.bipush 24, 2) := by decide +kernel
theorem dX5_formHeaps_26 : decode cX5_formHeaps 26 = .ok (.if_icmp .ge 79, 3) := by decide +kernel
theorem dX5_formHeaps_29 : decode cX5_formHeaps 29 = .ok (.iconst (-1), 1) := by decide +kernel
theorem dX5_formHeaps_30 : decode cX5_formHeaps 30 = .ok (.istore_n 2, 1) := by decide +kernel
theorem dX5_formHeaps_31 : decode cX5_formHeaps 31 = .ok (.iconst 0, 1) := by decide +kernel
theorem dX5_formHeaps_32 : decode cX5_formHeaps 32 = .ok (.istore_n 3, 1) := by decide +kernel
theorem dX5_formHeaps_33 : decode cX5_formHeaps 33 = .ok (.iload_n 3, 1) := by decide +kernel
theorem dX5_formHeaps_34 : decode cX5_formHeaps 34 = .ok (.bipush 12, 2) := by decide +kernel
theorem dX5_formHeaps_36 : decode cX5_formHeaps 36 = .ok (.if_icmp .ge 63, 3) := by decide +kernel
theorem dX5_formHeaps_39 : decode cX5_formHeaps 39 = .ok (.aload_n 0, 1) := by decide +kernel
theorem dX5_formHeaps_40 : decode cX5_formHeaps 40 = .ok (.iload_n 3, 1) := by decide +kernel
theorem dX5_formHeaps_41 : decode cX5_formHeaps 41 = .ok (.iload_n 1, 1) := by decide +kernel
theorem dX5_formHeaps_42 : decode cX5_formHeaps 42 = .ok (.invokevirtual 28, 3) := by decide +kernel
theorem dX5_formHeaps_45 : decode cX5_formHeaps 45 = .ok (.iconst (-1), 1) := by decide +kernel
theorem dX5_formHeaps_46 : decode cX5_formHeaps 46 = .ok (.if_icmp .eq 47, 3) := by decide +kernel
theorem dX5_formHeaps_49 : decode cX5_formHeaps 49 = .ok (.aload_n 0, 1) := by decide +kernel
theorem dX5_formHeaps_50 : decode cX5_formHeaps 50 = .ok (.getfield 9, 3) := by decide +kernel
theorem dX5_formHeaps_53 : decode cX5_formHeaps 53 = .ok (.iload_n 3, 1) := by decide +kernel
theorem dX5_formHeaps_54 : decode cX5_formHeaps 54 = .ok (.iaload, 1) := by decide +kernel
theorem dX5_formHeaps_55 : decode cX5_formHeaps 55 = .ok (.iconst (-1), 1) := by decide +kernel
theorem dX5_formHeaps_56 : decode cX5_formHeaps 56 = .ok (.if_icmp .ne 10, 3) := by decide +kernel
theorem dX5_formHeaps_59 : decode cX5_formHeaps 59 = .ok (.aload_n 0, 1) := by decide +kernel
theorem dX5_formHeaps_60 : decode cX5_formHeaps 60 = .ok (.getfield 9, 3) := by decide +kernel
theorem dX5_formHeaps_63 : decode cX5_formHeaps 63 = .ok (.iload_n 3, 1) := by decide +kernel
theorem dX5_formHeaps_64 : decode cX5_formHeaps 64 = .ok (.iload_n 3, 1) := by decide +kernel
theorem dX5_formHeaps_65 : decode cX5_formHeaps 65 = .ok (.iastore, 1) := by decide +kernel
theorem dX5_formHeaps_66 : decode cX5_formHeaps 66 = .ok (.iload_n 2, 1) := by decide +kernel
theorem dX5_formHeaps_67 : decode cX5_formHeaps 67 = .ok (.iconst (-1), 1) := by decide +kernel
theorem dX5_formHeaps_68 : decode cX5_formHeaps 68 = .ok (.if_icmp .ne 7, 3) := by decide +kernel
theorem dX5_formHeaps_71 : decode cX5_formHeaps 71 = .ok (.iload_n 3, 1) := by decide +kernel
theorem dX5_formHeaps_72 : decode cX5_formHeaps 72 = .ok (.goto 4, 3) := by decide +kernel
theorem dX5_formHeaps_75 : decode cX5_formHeaps 75 = .ok (.iload_n 2, 1) := by decide +kernel
theorem dX5_formHeaps_76 : decode cX5_formHeaps 76 = .ok (.istore_n 2, 1) := by decide +kernel
theorem dX5_formHeaps_77 : decode cX5_formHeaps 77 = .ok (.aload_n 0, 1) := by decide +kernel
theorem dX5_formHeaps_78 : decode cX5_formHeaps 78 = .ok (.aload_n 0, 1) := by decide +kernel
theorem dX5_formHeaps_79 : decode cX5_formHeaps 79 = .ok (.getfield 9, 3) := by decide +kernel
theorem dX5_formHeaps_82 : decode cX5_formHeaps 82 = .ok (.iload_n 2, 1) := by decide +kernel
theorem dX5_formHeaps_83 : decode cX5_formHeaps 83 = .ok (.iaload, 1) := by decide +kernel
theorem dX5_formHeaps_84 : decode cX5_formHeaps 84 = .ok (.aload_n 0, 1) := by decide +kernel
theorem dX5_formHeaps_85 : decode cX5_formHeaps 85 = .ok (.getfield 9, 3) := by decide +kernel
theorem dX5_formHeaps_88 : decode cX5_formHeaps 88 = .ok (.iload_n 3, 1) := by decide +kernel
theorem dX5_formHeaps_89 : decode cX5_formHeaps 89 = .ok (.iaload, 1) := by decide +kernel
theorem dX5_formHeaps_90 : decode cX5_formHeaps 90 = .ok (.invokevirtual 54, 3) := by decide +kernel
theorem dX5_formHeaps_93 : decode cX5_formHeaps 93 = .ok (.iinc 3 1, 3) := by decide +kernel
theorem dX5_formHeaps_96 : decode cX5_formHeaps 96 = .ok (.goto (-63), 3) := by decide +kernel
theorem dX5_formHeaps_99 : decode cX5_formHeaps 99 = .ok (.iinc 1 1, 3) := by decide +kernel
theorem dX5_formHeaps_102 : decode cX5_formHeaps 102 = .ok (.goto (-79), 3) := by decide +kernel
theorem dX5_formHeaps_105 : decode cX5_formHeaps 105 = .ok (.return_, 1) := by decide +kernel
theorem dX5_joinHeaps_0 : decode cX5_joinHeaps 0 = .ok (.iload_n 1, 1) := by decide +kernel
theorem dX5_joinHeaps_1 : decode cX5_joinHeaps 1 = .ok (.iload_n 2, 1) := by decide +kernel
theorem dX5_joinHeaps_2 : decode cX5_joinHeaps 2 = .ok (.invokestatic 58, 3) := by decide +kernel
theorem dX5_joinHeaps_5 : decode cX5_joinHeaps 5 = .ok (.istore_n 3, 1) := by decide +kernel
theorem dX5_joinHeaps_6 : decode cX5_joinHeaps 6 = .ok (.iload_n 1, 1) := by decide +kernel
theorem dX5_joinHeaps_7 : decode cX5_joinHeaps 7 = .ok (.iload_n 2, 1) := by decide +kernel
theorem dX5_joinHeaps_8 : decode cX5_joinHeaps 8 = .ok (.invokestatic 63, 3) := by decide +kernel
theorem dX5_joinHeaps_11 : decode cX5_joinHeaps 11 = .ok (.istore 4, 2) := by decide +kernel
theorem dX5_joinHeaps_13 : decode cX5_joinHeaps 13 = .ok (.iconst 0, 1) := by decide +kernel
theorem dX5_joinHeaps_14 : decode cX5_joinHeaps 14 = .ok (.istore 5, 2) := by decide +kernel
theorem dX5_joinHeaps_16 : decode cX5_joinHeaps 16 = .ok (.iload 5, 2) := by decide +kernel
theorem dX5_joinHeaps_18 : decode cX5_joinHeaps 18 = .ok (.bipush 12, 2) := by decide +kernel
theorem dX5_joinHeaps_20 : decode cX5_joinHeaps 20 = .ok (.if_icmp .ge 35, 3) := by decide +kernel
theorem dX5_joinHeaps_23 : decode cX5_joinHeaps 23 = .ok (.iload_n 3, 1) := by decide +kernel
theorem dX5_joinHeaps_24 : decode cX5_joinHeaps 24 = .ok (.iload 4, 2) := by decide +kernel
theorem dX5_joinHeaps_26 : decode cX5_joinHeaps 26 = .ok (.if_icmp .ge 29, 3) := by decide +kernel
theorem dX5_joinHeaps_29 : decode cX5_joinHeaps 29 = .ok (.aload_n 0, 1) := by decide +kernel
theorem dX5_joinHeaps_30 : decode cX5_joinHeaps 30 = .ok (.getfield 9, 3) := by decide +kernel
theorem dX5_joinHeaps_33 : decode cX5_joinHeaps 33 = .ok (.iload 5, 2) := by decide +kernel
theorem dX5_joinHeaps_35 : decode cX5_joinHeaps 35 = .ok (.iaload, 1) := by decide +kernel
theorem dX5_joinHeaps_36 : decode cX5_joinHeaps 36 = .ok (.iload 4, 2) := by decide +kernel
theorem dX5_joinHeaps_38 : decode cX5_joinHeaps 38 = .ok (.if_icmp .ne 11, 3) := by decide +kernel
theorem dX5_joinHeaps_41 : decode cX5_joinHeaps 41 = .ok (.aload_n 0, 1) := by decide +kernel
theorem dX5_joinHeaps_42 : decode cX5_joinHeaps 42 = .ok (.getfield 9, 3) := by decide +kernel
theorem dX5_joinHeaps_45 : decode cX5_joinHeaps 45 = .ok (.iload 5, 2) := by decide +kernel
theorem dX5_joinHeaps_47 : decode cX5_joinHeaps 47 = .ok (.iload_n 3, 1) := by decide +kernel
theorem dX5_joinHeaps_48 : decode cX5_joinHeaps 48 = .ok (.iastore, 1) := by decide +kernel
theorem dX5_joinHeaps_49 : decode cX5_joinHeaps 49 = .ok (.iinc 5 1, 3) := by decide +kernel
theorem dX5_joinHeaps_52 : decode cX5_joinHeaps 52 = .ok (.goto (-36), 3) := by decide +kernel
theorem dX5_joinHeaps_55 : decode cX5_joinHeaps 55 = .ok (.return_, 1) := by decide +kernel
theorem dX6_init_0 : decode cX6_init 0 = .ok (.aload_n 0, 1) := by decide +kernel
theorem dX6_init_1 : decode cX6_init 1 = .ok (.invokespecial 3, 3) := by decide +kernel
theorem dX6_init_4 : decode cX6_init 4 = .ok (.aload_n 0, 1) := by decide +kernel
theorem dX6_init_5 : decode cX6_init 5 = .ok (.sipush 200, 3) := by decide +kernel
theorem dX6_init_8 : decode cX6_init 8 = .ok (.newarray .int, 2) := by decide +kernel
theorem dX6_init_10 : decode cX6_init 10 = .ok (.putfield 9, 3) := by decide +kernel
theorem dX6_init_13 : decode cX6_init 13 = .ok (.aload_n 0, 1) := by decide +kernel
theorem dX6_init_14 : decode cX6_init 14 = .ok (.sipush 200, 3) := by decide +kernel
theorem dX6_init_17 : decode cX6_init 17 = .ok (.newarray .int, 2) := by decide +kernel
theorem dX6_init_19 : decode cX6_init 19 = .ok (.putfield 15, 3) := by decide +kernel
theorem dX6_init_22 : decode cX6_init 22 = .ok (.aload_n 0, 1) := by decide +kernel
theorem dX6_init_23 : decode cX6_init 23 = .ok (.sipush 200, 3) := by decide +kernel
theorem dX6_init_26 : decode cX6_init 26 = .ok (.newarray .int, 2) := by decide +kernel
theorem dX6_init_28 : decode cX6_init 28 = .ok (.putfield 18, 3) := by decide +kernel
theorem dX6_init_31 : decode cX6_init 31 = .ok (.aload_n 0, 1) := by decide +kernel
theorem dX6_init_32 : decode cX6_init 32 = .ok (.sipush 200, 3) := by decide +kernel
theorem dX6_init_35 : decode cX6_init 35 = .ok (.newarray .int, 2) := by decide +kernel
theorem dX6_init_37 : decode cX6_init 37 = .ok (.putfield 21, 3) := by decide +kernel
theorem dX6_init_40 : decode cX6_init 40 = .ok (.aload_n 0, 1) := by decide +kernel
theorem dX6_init_41 : decode cX6_init 41 = .ok (.sipush 200, 3) := by decide +kernel
theorem dX6_init_44 : decode cX6_init 44 = .ok (.newarray .int, 2) := by decide +kernel
theorem dX6_init_46 : decode cX6_init 46 = .ok (.putfield 24, 3) := by decide +kernel
theorem dX6_init_49 : decode cX6_init 49 = .ok (.return_, 1) := by decide +kernel
theorem dX6_has_0 : decode cX6_has 0 = .ok (.iload_n 1, 1) := by decide +kernel
theorem dX6_has_1 : decode cX6_has 1 = .ok (.ifCond .lt 15, 3) := by decide +kernel
theorem dX6_has_4 : decode cX6_has 4 = .ok (.iload_n 1, 1) := by decide +kernel
theorem dX6_has_5 : decode cX6_has 5 = .ok (.aload_n 0, 1) := by decide +kernel
theorem dX6_has_6 : decode cX6_has 6 = .ok (.getfield 27, 3) := by decide +kernel
theorem dX6_has_9 : decode cX6_has 9 = .ok (.if_icmp .ge 7, 3) := by decide +kernel
theorem dX6_has_12 : decode cX6_has 12 = .ok (.iconst 1, 1) := by decide +kernel
theorem dX6_has_13 : decode cX6_has 13 = .ok (.goto 4, 3) := by decide +kernel
theorem dX6_has_16 : decode cX6_has 16 = .ok (.iconst 0, 1) := by decide +kernel
theorem dX6_has_17 : decode cX6_has 17 = .ok (.ireturn, 1) := by decide +kernel
theorem dX6_add_0 : decode cX6_add 0 = .ok (.aload_n 0, 1) := by decide +kernel
theorem dX6_add_1 : decode cX6_add 1 = .ok (.getfield 27, 3) := by decide +kernel
theorem dX6_add_4 : decode cX6_add 4 = .ok (.istore 5, 2) := by decide +kernel
theorem dX6_add_6 : decode cX6_add 6 = .ok (.aload_n 0, 1) := by decide +kernel
theorem dX6_add_7 : decode cX6_add 7 = .ok (.getfield 9, 3) := by decide +kernel
theorem dX6_add_10 : decode cX6_add 10 = .ok (.iload 5, 2) := by decide +kernel
theorem dX6_add_12 : decode cX6_add 12 = .ok (.iload_n 1, 1) := by decide +kernel
theorem dX6_add_13 : decode cX6_add 13 = .ok (.iastore, 1) := by decide +kernel
theorem dX6_add_14 : decode cX6_add 14 = .ok (.aload_n 0, 1) := by decide +kernel
theorem dX6_add_15 : decode cX6_add 15 = .ok (.getfield 15, 3) := by decide +kernel
theorem dX6_add_18 : decode cX6_add 18 = .ok (.iload 5, 2) := by decide +kernel
theorem dX6_add_20 : decode cX6_add 20 = .ok (.iload_n 2, 1) := by decide +kernel
theorem dX6_add_21 : decode cX6_add 21 = .ok (.iastore, 1) := by decide +kernel
theorem dX6_add_22 : decode cX6_add 22 = .ok (.aload_n 0, 1) := by decide +kernel
theorem dX6_add_23 : decode cX6_add 23 = .ok (.getfield 18, 3) := by decide +kernel
theorem dX6_add_26 : decode cX6_add 26 = .ok (.iload 5, 2) := by decide +kernel
theorem dX6_add_28 : decode cX6_add 28 = .ok (.iload_n 3, 1) := by decide +kernel
theorem dX6_add_29 : decode cX6_add 29 = .ok (.iastore, 1) := by decide +kernel
theorem dX6_add_30 : decode cX6_add 30 = .ok (.aload_n 0, 1) := by decide +kernel
theorem dX6_add_31 : decode cX6_add 31 = .ok (.getfield 21, 3) := by decide +kernel
theorem dX6_add_34 : decode cX6_add 34 = .ok (.iload 5, 2) := by decide +kernel
theorem dX6_add_36 : decode cX6_add 36 = .ok (.iload 4, 2) := by decide +kernel
theorem dX6_add_38 : decode cX6_add 38 = .ok (.iastore, 1) := by decide +kernel
theorem dX6_add_39 : decode cX6_add 39 = .ok (.aload_n 0, 1) := by decide +kernel
theorem dX6_add_40 : decode cX6_add 40 = .ok (.getfield 24, 3) := by decide +kernel
theorem dX6_add_43 : decode cX6_add 43 = .ok (.iload 5, 2) := by decide +kernel
theorem dX6_add_45 : decode cX6_add 45 = .ok (.iconst (-1), 1) := by decide +kernel
theorem dX6_add_46 : decode cX6_add 46 = .ok (.iastore, 1) := by decide +kernel
theorem dX6_add_47 : decode cX6_add 47 = .ok (.aload_n 0, 1) := by decide +kernel
theorem dX6_add_48 : decode cX6_add 48 = .ok (.dup, 1) := by decide +kernel
theorem dX6_add_49 : decode cX6_add 49 = .ok (.getfield 27, 3) := by decide +kernel
theorem dX6_add_52 : decode cX6_add 52 = .ok (.iconst 1, 1) := by decide +kernel
theorem dX6_add_53 : decode cX6_add 53 = .ok (.iadd, 1) := by decide +kernel
theorem dX6_add_54 : decode cX6_add 54 = .ok (.putfield 27, 3) := by decide +kernel
theorem dX6_add_57 : decode cX6_add 57 = .ok (.iload 5, 2) := by decide +kernel
theorem dX6_add_59 : decode cX6_add 59 = .ok (.ireturn, 1) := by decide +kernel
theorem dX6_standsOn_0 : decode cX6_standsOn 0 = .ok (.aload_n 0, 1) := by decide +kernel
theorem dX6_standsOn_1 : decode cX6_standsOn 1 = .ok (.getfield 21, 3) := by decide +kernel
theorem dX6_standsOn_4 : decode cX6_standsOn 4 = .ok (.iload_n 1, 1) := by decide +kernel
theorem dX6_standsOn_5 : decode cX6_standsOn 5 = .ok (.iaload, 1) := by decide +kernel
theorem dX6_standsOn_6 : decode cX6_standsOn 6 = .ok (.iload_n 2, 1) := by decide +kernel
theorem dX6_standsOn_7 : decode cX6_standsOn 7 = .ok (.if_icmp .gt 27, 3) := by decide +kernel
theorem dX6_standsOn_10 : decode cX6_standsOn 10 = .ok (.aload_n 0, 1) := by decide +kernel
theorem dX6_standsOn_11 : decode cX6_standsOn 11 = .ok (.getfield 24, 3) := by decide +kernel
theorem dX6_standsOn_14 : decode cX6_standsOn 14 = .ok (.iload_n 1, 1) := by decide +kernel
theorem dX6_standsOn_15 : decode cX6_standsOn 15 = .ok (.iaload, 1) := by decide +kernel
theorem dX6_standsOn_16 : decode cX6_standsOn 16 = .ok (.iconst (-1), 1) := by decide +kernel
theorem dX6_standsOn_17 : decode cX6_standsOn 17 = .ok (.if_icmp .eq 13, 3) := by decide +kernel
theorem dX6_standsOn_20 : decode cX6_standsOn 20 = .ok (.aload_n 0, 1) := by decide +kernel
theorem dX6_standsOn_21 : decode cX6_standsOn 21 = .ok (.getfield 24, 3) := by decide +kernel
theorem dX6_standsOn_24 : decode cX6_standsOn 24 = .ok (.iload_n 1, 1) := by decide +kernel
theorem dX6_standsOn_25 : decode cX6_standsOn 25 = .ok (.iaload, 1) := by decide +kernel
theorem dX6_standsOn_26 : decode cX6_standsOn 26 = .ok (.iload_n 2, 1) := by decide +kernel
theorem dX6_standsOn_27 : decode cX6_standsOn 27 = .ok (.if_icmp .le 7, 3) := by decide +kernel
theorem dX6_standsOn_30 : decode cX6_standsOn 30 = .ok (.iconst 1, 1) := by decide +kernel
theorem dX6_standsOn_31 : decode cX6_standsOn 31 = .ok (.goto 4, 3) := by decide +kernel
theorem dX6_standsOn_34 : decode cX6_standsOn 34 = .ok (.iconst 0, 1) := by decide +kernel
theorem dX6_standsOn_35 : decode cX6_standsOn 35 = .ok (.ireturn, 1) := by decide +kernel
theorem dX7_init_0 : decode cX7_init 0 = .ok (.aload_n 0, 1) := by decide +kernel
theorem dX7_init_1 : decode cX7_init 1 = .ok (.invokespecial 3, 3) := by decide +kernel
theorem dX7_init_4 : decode cX7_init 4 = .ok (.aload_n 0, 1) := by decide +kernel
theorem dX7_init_5 : decode cX7_init 5 = .ok (.bipush 12, 2) := by decide +kernel
theorem dX7_init_7 : decode cX7_init 7 = .ok (.newarray .int, 2) := by decide +kernel
theorem dX7_init_9 : decode cX7_init 9 = .ok (.putfield 9, 3) := by decide +kernel
theorem dX7_init_12 : decode cX7_init 12 = .ok (.aload_n 0, 1) := by decide +kernel
theorem dX7_init_13 : decode cX7_init 13 = .ok (.bipush 24, 2) := by decide +kernel
theorem dX7_init_15 : decode cX7_init 15 = .ok (.newarray .int, 2) := by decide +kernel
theorem dX7_init_17 : decode cX7_init 17 = .ok (.putfield 15, 3) := by decide +kernel
theorem dX7_init_20 : decode cX7_init 20 = .ok (.aload_n 0, 1) := by decide +kernel
theorem dX7_init_21 : decode cX7_init 21 = .ok (.bipush 24, 2) := by decide +kernel
theorem dX7_init_23 : decode cX7_init 23 = .ok (.newarray .int, 2) := by decide +kernel
theorem dX7_init_25 : decode cX7_init 25 = .ok (.putfield 18, 3) := by decide +kernel
theorem dX7_init_28 : decode cX7_init 28 = .ok (.aload_n 0, 1) := by decide +kernel
theorem dX7_init_29 : decode cX7_init 29 = .ok (.bipush 12, 2) := by decide +kernel
theorem dX7_init_31 : decode cX7_init 31 = .ok (.newarray .int, 2) := by decide +kernel
theorem dX7_init_33 : decode cX7_init 33 = .ok (.putfield 21, 3) := by decide +kernel
theorem dX7_init_36 : decode cX7_init 36 = .ok (.aload_n 0, 1) := by decide +kernel
theorem dX7_init_37 : decode cX7_init 37 = .ok (.bipush 24, 2) := by decide +kernel
theorem dX7_init_39 : decode cX7_init 39 = .ok (.newarray .int, 2) := by decide +kernel
theorem dX7_init_41 : decode cX7_init 41 = .ok (.putfield 24, 3) := by decide +kernel
theorem dX7_init_44 : decode cX7_init 44 = .ok (.aload_n 0, 1) := by decide +kernel
theorem dX7_init_45 : decode cX7_init 45 = .ok (.bipush 24, 2) := by decide +kernel
theorem dX7_init_47 : decode cX7_init 47 = .ok (.newarray .int, 2) := by decide +kernel
theorem dX7_init_49 : decode cX7_init 49 = .ok (.putfield 27, 3) := by decide +kernel
theorem dX7_init_52 : decode cX7_init 52 = .ok (.aload_n 0, 1) := by decide +kernel
theorem dX7_init_53 : decode cX7_init 53 = .ok (.bipush 12, 2) := by decide +kernel
theorem dX7_init_55 : decode cX7_init 55 = .ok (.newarray .int, 2) := by decide +kernel
theorem dX7_init_57 : decode cX7_init 57 = .ok (.putfield 30, 3) := by decide +kernel
theorem dX7_init_60 : decode cX7_init 60 = .ok (.return_, 1) := by decide +kernel
theorem dX7_hasBoard_0 : decode cX7_hasBoard 0 = .ok (.iload_n 1, 1) := by decide +kernel
theorem dX7_hasBoard_1 : decode cX7_hasBoard 1 = .ok (.ifCond .lt 15, 3) := by decide +kernel
theorem dX7_hasBoard_4 : decode cX7_hasBoard 4 = .ok (.iload_n 1, 1) := by decide +kernel
theorem dX7_hasBoard_5 : decode cX7_hasBoard 5 = .ok (.aload_n 0, 1) := by decide +kernel
theorem dX7_hasBoard_6 : decode cX7_hasBoard 6 = .ok (.getfield 33, 3) := by decide +kernel
theorem dX7_hasBoard_9 : decode cX7_hasBoard 9 = .ok (.if_icmp .ge 7, 3) := by decide +kernel
theorem dX7_hasBoard_12 : decode cX7_hasBoard 12 = .ok (.iconst 1, 1) := by decide +kernel
theorem dX7_hasBoard_13 : decode cX7_hasBoard 13 = .ok (.goto 4, 3) := by decide +kernel
theorem dX7_hasBoard_16 : decode cX7_hasBoard 16 = .ok (.iconst 0, 1) := by decide +kernel
theorem dX7_hasBoard_17 : decode cX7_hasBoard 17 = .ok (.ireturn, 1) := by decide +kernel
theorem dX7_hasJudge_0 : decode cX7_hasJudge 0 = .ok (.iload_n 1, 1) := by decide +kernel
theorem dX7_hasJudge_1 : decode cX7_hasJudge 1 = .ok (.ifCond .lt 15, 3) := by decide +kernel
theorem dX7_hasJudge_4 : decode cX7_hasJudge 4 = .ok (.iload_n 1, 1) := by decide +kernel
theorem dX7_hasJudge_5 : decode cX7_hasJudge 5 = .ok (.aload_n 0, 1) := by decide +kernel
theorem dX7_hasJudge_6 : decode cX7_hasJudge 6 = .ok (.getfield 37, 3) := by decide +kernel
theorem dX7_hasJudge_9 : decode cX7_hasJudge 9 = .ok (.if_icmp .ge 7, 3) := by decide +kernel
theorem dX7_hasJudge_12 : decode cX7_hasJudge 12 = .ok (.iconst 1, 1) := by decide +kernel
theorem dX7_hasJudge_13 : decode cX7_hasJudge 13 = .ok (.goto 4, 3) := by decide +kernel
theorem dX7_hasJudge_16 : decode cX7_hasJudge 16 = .ok (.iconst 0, 1) := by decide +kernel
theorem dX7_hasJudge_17 : decode cX7_hasJudge 17 = .ok (.ireturn, 1) := by decide +kernel
theorem dX7_begin_0 : decode cX7_begin 0 = .ok (.aload_n 0, 1) := by decide +kernel
theorem dX7_begin_1 : decode cX7_begin 1 = .ok (.iconst 1, 1) := by decide +kernel
theorem dX7_begin_2 : decode cX7_begin 2 = .ok (.putfield 40, 3) := by decide +kernel
theorem dX7_begin_5 : decode cX7_begin 5 = .ok (.aload_n 0, 1) := by decide +kernel
theorem dX7_begin_6 : decode cX7_begin 6 = .ok (.aload_n 1, 1) := by decide +kernel
theorem dX7_begin_7 : decode cX7_begin 7 = .ok (.getfield 44, 3) := by decide +kernel
theorem dX7_begin_10 : decode cX7_begin 10 = .ok (.putfield 33, 3) := by decide +kernel
theorem dX7_begin_13 : decode cX7_begin 13 = .ok (.aload_n 0, 1) := by decide +kernel
theorem dX7_begin_14 : decode cX7_begin 14 = .ok (.aload_n 2, 1) := by decide +kernel
theorem dX7_begin_15 : decode cX7_begin 15 = .ok (.getfield 49, 3) := by decide +kernel
theorem dX7_begin_18 : decode cX7_begin 18 = .ok (.putfield 37, 3) := by decide +kernel
theorem dX7_begin_21 : decode cX7_begin 21 = .ok (.aload_n 0, 1) := by decide +kernel
theorem dX7_begin_22 : decode cX7_begin 22 = .ok (.iload_n 3, 1) := by decide +kernel
theorem dX7_begin_23 : decode cX7_begin 23 = .ok (.putfield 52, 3) := by decide +kernel
theorem dX7_begin_26 : decode cX7_begin 26 = .ok (.aload_n 0, 1) := by decide +kernel
theorem dX7_begin_27 : decode cX7_begin 27 = .ok (.iconst 0, 1) := by decide +kernel
theorem dX7_begin_28 : decode cX7_begin 28 = .ok (.putfield 55, 3) := by decide +kernel
theorem dX7_begin_31 : decode cX7_begin 31 = .ok (.aload_n 0, 1) := by decide +kernel
theorem dX7_begin_32 : decode cX7_begin 32 = .ok (.iconst 0, 1) := by decide +kernel
theorem dX7_begin_33 : decode cX7_begin 33 = .ok (.putfield 58, 3) := by decide +kernel
theorem dX7_begin_36 : decode cX7_begin 36 = .ok (.iconst 0, 1) := by decide +kernel
theorem dX7_begin_37 : decode cX7_begin 37 = .ok (.istore 4, 2) := by decide +kernel
theorem dX7_begin_39 : decode cX7_begin 39 = .ok (.iload 4, 2) := by decide +kernel
theorem dX7_begin_41 : decode cX7_begin 41 = .ok (.aload_n 0, 1) := by decide +kernel
theorem dX7_begin_42 : decode cX7_begin 42 = .ok (.getfield 33, 3) := by decide +kernel
theorem dX7_begin_45 : decode cX7_begin 45 = .ok (.if_icmp .ge 31, 3) := by decide +kernel
theorem dX7_begin_48 : decode cX7_begin 48 = .ok (.aload_n 0, 1) := by decide +kernel
theorem dX7_begin_49 : decode cX7_begin 49 = .ok (.getfield 15, 3) := by decide +kernel
theorem dX7_begin_52 : decode cX7_begin 52 = .ok (.iload 4, 2) := by decide +kernel
theorem dX7_begin_54 : decode cX7_begin 54 = .ok (.aload_n 2, 1) := by decide +kernel
theorem dX7_begin_55 : decode cX7_begin 55 = .ok (.aload_n 1, 1) := by decide +kernel
theorem dX7_begin_56 : decode cX7_begin 56 = .ok (.iload 4, 2) := by decide +kernel
theorem dX7_begin_58 : decode cX7_begin 58 = .ok (.invokevirtual 61, 3) := by decide +kernel
theorem dX7_begin_61 : decode cX7_begin 61 = .ok (.iastore, 1) := by decide +kernel
theorem dX7_begin_62 : decode cX7_begin 62 = .ok (.aload_n 0, 1) := by decide +kernel
theorem dX7_begin_63 : decode cX7_begin 63 = .ok (.getfield 18, 3) := by decide +kernel
theorem dX7_begin_66 : decode cX7_begin 66 = .ok (.iload 4, 2) := by decide +kernel
theorem dX7_begin_68 : decode cX7_begin 68 = .ok (.iconst 0, 1) := by decide +kernel
theorem dX7_begin_69 : decode cX7_begin 69 = .ok (.iastore, 1) := by decide +kernel
theorem dX7_begin_70 : decode cX7_begin 70 = .ok (.iinc 4 1, 3) := by decide +kernel
theorem dX7_begin_73 : decode cX7_begin 73 = .ok (.goto (-34), 3) := by decide +kernel
theorem dX7_begin_76 : decode cX7_begin 76 = .ok (.iconst 0, 1) := by decide +kernel
theorem dX7_begin_77 : decode cX7_begin 77 = .ok (.istore 4, 2) := by decide +kernel
theorem dX7_begin_79 : decode cX7_begin 79 = .ok (.iload 4, 2) := by decide +kernel
theorem dX7_begin_81 : decode cX7_begin 81 = .ok (.aload_n 0, 1) := by decide +kernel
theorem dX7_begin_82 : decode cX7_begin 82 = .ok (.getfield 37, 3) := by decide +kernel
theorem dX7_begin_85 : decode cX7_begin 85 = .ok (.if_icmp .ge 31, 3) := by decide +kernel
theorem dX7_begin_88 : decode cX7_begin 88 = .ok (.aload_n 0, 1) := by decide +kernel
theorem dX7_begin_89 : decode cX7_begin 89 = .ok (.getfield 9, 3) := by decide +kernel
theorem dX7_begin_92 : decode cX7_begin 92 = .ok (.iload 4, 2) := by decide +kernel
theorem dX7_begin_94 : decode cX7_begin 94 = .ok (.aload_n 2, 1) := by decide +kernel
theorem dX7_begin_95 : decode cX7_begin 95 = .ok (.getfield 65, 3) := by decide +kernel
theorem dX7_begin_98 : decode cX7_begin 98 = .ok (.iload 4, 2) := by decide +kernel
theorem dX7_begin_100 : decode cX7_begin 100 = .ok (.iaload, 1) := by decide +kernel
theorem dX7_begin_101 : decode cX7_begin 101 = .ok (.iastore, 1) := by decide +kernel
theorem dX7_begin_102 : decode cX7_begin 102 = .ok (.aload_n 0, 1) := by decide +kernel
theorem dX7_begin_103 : decode cX7_begin 103 = .ok (.getfield 21, 3) := by decide +kernel
theorem dX7_begin_106 : decode cX7_begin 106 = .ok (.iload 4, 2) := by decide +kernel
theorem dX7_begin_108 : decode cX7_begin 108 = .ok (.iconst 0, 1) := by decide +kernel
theorem dX7_begin_109 : decode cX7_begin 109 = .ok (.iastore, 1) := by decide +kernel
theorem dX7_begin_110 : decode cX7_begin 110 = .ok (.iinc 4 1, 3) := by decide +kernel
theorem dX7_begin_113 : decode cX7_begin 113 = .ok (.goto (-34), 3) := by decide +kernel
theorem dX7_begin_116 : decode cX7_begin 116 = .ok (.return_, 1) := by decide +kernel
theorem dX7_giveAllLooks_0 : decode cX7_giveAllLooks 0 = .ok (.iconst 1, 1) := by decide +kernel
theorem dX7_giveAllLooks_1 : decode cX7_giveAllLooks 1 = .ok (.istore_n 1, 1) := by decide +kernel
theorem dX7_giveAllLooks_2 : decode cX7_giveAllLooks 2 = .ok (.iconst 0, 1) := by decide +kernel
theorem dX7_giveAllLooks_3 : decode cX7_giveAllLooks 3 = .ok (.istore_n 2, 1) := by decide +kernel
theorem dX7_giveAllLooks_4 : decode cX7_giveAllLooks 4 = .ok (.iload_n 2, 1) := by decide +kernel
theorem dX7_giveAllLooks_5 : decode cX7_giveAllLooks 5 = .ok (.sipush 288, 3) := by decide +kernel
theorem dX7_giveAllLooks_8 : decode cX7_giveAllLooks 8 = .ok (.if_icmp .ge 18, 3) := by decide +kernel
theorem dX7_giveAllLooks_11 : decode cX7_giveAllLooks 11 = .ok (.iload_n 1, 1) := by decide +kernel
theorem dX7_giveAllLooks_12 : decode cX7_giveAllLooks 12 = .ok (.ifCond .eq 14, 3) := by decide +kernel
theorem dX7_giveAllLooks_15 : decode cX7_giveAllLooks 15 = .ok (.aload_n 0, 1) := by decide +kernel
theorem dX7_giveAllLooks_16 : decode cX7_giveAllLooks 16 = .ok (.invokevirtual 66, 3) := by decide +kernel
theorem dX7_giveAllLooks_19 : decode cX7_giveAllLooks 19 = .ok (.istore_n 1, 1) := by decide +kernel
theorem dX7_giveAllLooks_20 : decode cX7_giveAllLooks 20 = .ok (.iinc 2 1, 3) := by decide +kernel
theorem dX7_giveAllLooks_23 : decode cX7_giveAllLooks 23 = .ok (.goto (-19), 3) := by decide +kernel
theorem dX7_giveAllLooks_26 : decode cX7_giveAllLooks 26 = .ok (.return_, 1) := by decide +kernel
theorem dX7_turnToFirst_0 : decode cX7_turnToFirst 0 = .ok (.iconst 0, 1) := by decide +kernel
theorem dX7_turnToFirst_1 : decode cX7_turnToFirst 1 = .ok (.istore_n 1, 1) := by decide +kernel
theorem dX7_turnToFirst_2 : decode cX7_turnToFirst 2 = .ok (.iload_n 1, 1) := by decide +kernel
theorem dX7_turnToFirst_3 : decode cX7_turnToFirst 3 = .ok (.aload_n 0, 1) := by decide +kernel
theorem dX7_turnToFirst_4 : decode cX7_turnToFirst 4 = .ok (.getfield 33, 3) := by decide +kernel
theorem dX7_turnToFirst_7 : decode cX7_turnToFirst 7 = .ok (.if_icmp .ge 66, 3) := by decide +kernel
theorem dX7_turnToFirst_10 : decode cX7_turnToFirst 10 = .ok (.iconst 0, 1) := by decide +kernel
theorem dX7_turnToFirst_11 : decode cX7_turnToFirst 11 = .ok (.istore_n 2, 1) := by decide +kernel
theorem dX7_turnToFirst_12 : decode cX7_turnToFirst 12 = .ok (.iload_n 2, 1) := by decide +kernel
theorem dX7_turnToFirst_13 : decode cX7_turnToFirst 13 = .ok (.aload_n 0, 1) := by decide +kernel
theorem dX7_turnToFirst_14 : decode cX7_turnToFirst 14 = .ok (.getfield 37, 3) := by decide +kernel
theorem dX7_turnToFirst_17 : decode cX7_turnToFirst 17 = .ok (.if_icmp .ge 50, 3) := by decide +kernel
theorem dX7_turnToFirst_20 : decode cX7_turnToFirst 20 = .ok (.aload_n 0, 1) := by decide +kernel
theorem dX7_turnToFirst_21 : decode cX7_turnToFirst 21 = .ok (.iload_n 1, 1) := by decide +kernel
theorem dX7_turnToFirst_22 : decode cX7_turnToFirst 22 = .ok (.putfield 55, 3) := by decide +kernel
theorem dX7_turnToFirst_25 : decode cX7_turnToFirst 25 = .ok (.aload_n 0, 1) := by decide +kernel
theorem dX7_turnToFirst_26 : decode cX7_turnToFirst 26 = .ok (.iload_n 2, 1) := by decide +kernel
theorem dX7_turnToFirst_27 : decode cX7_turnToFirst 27 = .ok (.iconst 1, 1) := by decide +kernel
theorem dX7_turnToFirst_28 : decode cX7_turnToFirst 28 = .ok (.iadd, 1) := by decide +kernel
theorem dX7_turnToFirst_29 : decode cX7_turnToFirst 29 = .ok (.putfield 58, 3) := by decide +kernel
theorem dX7_turnToFirst_32 : decode cX7_turnToFirst 32 = .ok (.aload_n 0, 1) := by decide +kernel
theorem dX7_turnToFirst_33 : decode cX7_turnToFirst 33 = .ok (.getfield 15, 3) := by decide +kernel
theorem dX7_turnToFirst_36 : decode cX7_turnToFirst 36 = .ok (.iload_n 1, 1) := by decide +kernel
theorem dX7_turnToFirst_37 : decode cX7_turnToFirst 37 = .ok (.iaload, 1) := by decide +kernel
theorem dX7_turnToFirst_38 : decode cX7_turnToFirst 38 = .ok (.aload_n 0, 1) := by decide +kernel
theorem dX7_turnToFirst_39 : decode cX7_turnToFirst 39 = .ok (.getfield 18, 3) := by decide +kernel
theorem dX7_turnToFirst_42 : decode cX7_turnToFirst 42 = .ok (.iload_n 1, 1) := by decide +kernel
theorem dX7_turnToFirst_43 : decode cX7_turnToFirst 43 = .ok (.iaload, 1) := by decide +kernel
theorem dX7_turnToFirst_44 : decode cX7_turnToFirst 44 = .ok (.iconst (-1), 1) := by decide +kernel
theorem dX7_turnToFirst_45 : decode cX7_turnToFirst 45 = .ok (.ixor, 1) := by decide +kernel
theorem dX7_turnToFirst_46 : decode cX7_turnToFirst 46 = .ok (.iand, 1) := by decide +kernel
theorem dX7_turnToFirst_47 : decode cX7_turnToFirst 47 = .ok (.iload_n 2, 1) := by decide +kernel
theorem dX7_turnToFirst_48 : decode cX7_turnToFirst 48 = .ok (.ishr, 1) := by decide +kernel
theorem dX7_turnToFirst_49 : decode cX7_turnToFirst 49 = .ok (.iconst 1, 1) := by decide +kernel
theorem dX7_turnToFirst_50 : decode cX7_turnToFirst 50 = .ok (.iand, 1) := by decide +kernel
theorem dX7_turnToFirst_51 : decode cX7_turnToFirst 51 = .ok (.iconst 1, 1) := by decide +kernel
theorem dX7_turnToFirst_52 : decode cX7_turnToFirst 52 = .ok (.if_icmp .ne 9, 3) := by decide +kernel
theorem dX7_turnToFirst_55 : decode cX7_turnToFirst 55 = .ok (.aload_n 0, 1) := by decide +kernel
theorem dX7_turnToFirst_56 : decode cX7_turnToFirst 56 = .ok (.iload_n 1, 1) := by decide +kernel
theorem dX7_turnToFirst_57 : decode cX7_turnToFirst 57 = .ok (.iload_n 2, 1) := by decide +kernel
theorem dX7_turnToFirst_58 : decode cX7_turnToFirst 58 = .ok (.invokevirtual 70, 3) := by decide +kernel
theorem dX7_turnToFirst_61 : decode cX7_turnToFirst 61 = .ok (.iinc 2 1, 3) := by decide +kernel
theorem dX7_turnToFirst_64 : decode cX7_turnToFirst 64 = .ok (.goto (-52), 3) := by decide +kernel
theorem dX7_turnToFirst_67 : decode cX7_turnToFirst 67 = .ok (.iinc 1 1, 3) := by decide +kernel
theorem dX7_turnToFirst_70 : decode cX7_turnToFirst 70 = .ok (.goto (-68), 3) := by decide +kernel
theorem dX7_turnToFirst_73 : decode cX7_turnToFirst 73 = .ok (.return_, 1) := by decide +kernel
theorem dX7_findHolding_0 : decode cX7_findHolding 0 = .ok (.aload_n 0, 1) := by decide +kernel
theorem dX7_findHolding_1 : decode cX7_findHolding 1 = .ok (.iconst 0, 1) := by decide +kernel
theorem dX7_findHolding_2 : decode cX7_findHolding 2 = .ok (.putfield 55, 3) := by decide +kernel
theorem dX7_findHolding_5 : decode cX7_findHolding 5 = .ok (.aload_n 0, 1) := by decide +kernel
theorem dX7_findHolding_6 : decode cX7_findHolding 6 = .ok (.iconst 0, 1) := by decide +kernel
theorem dX7_findHolding_7 : decode cX7_findHolding 7 = .ok (.putfield 58, 3) := by decide +kernel
theorem dX7_findHolding_10 : decode cX7_findHolding 10 = .ok (.aload_n 0, 1) := by decide +kernel
theorem dX7_findHolding_11 : decode cX7_findHolding 11 = .ok (.invokevirtual 74, 3) := by decide +kernel
theorem dX7_findHolding_14 : decode cX7_findHolding 14 = .ok (.pop, 1) := by decide +kernel
theorem dX7_findHolding_15 : decode cX7_findHolding 15 = .ok (.aload_n 0, 1) := by decide +kernel
theorem dX7_findHolding_16 : decode cX7_findHolding 16 = .ok (.aload_n 0, 1) := by decide +kernel
theorem dX7_findHolding_17 : decode cX7_findHolding 17 = .ok (.getfield 78, 3) := by decide +kernel
theorem dX7_findHolding_20 : decode cX7_findHolding 20 = .ok (.putfield 81, 3) := by decide +kernel
theorem dX7_findHolding_23 : decode cX7_findHolding 23 = .ok (.return_, 1) := by decide +kernel
theorem dX7_lackInAll_0 : decode cX7_lackInAll 0 = .ok (.iconst 0, 1) := by decide +kernel
theorem dX7_lackInAll_1 : decode cX7_lackInAll 1 = .ok (.istore_n 1, 1) := by decide +kernel
theorem dX7_lackInAll_2 : decode cX7_lackInAll 2 = .ok (.iconst 0, 1) := by decide +kernel
theorem dX7_lackInAll_3 : decode cX7_lackInAll 3 = .ok (.istore_n 2, 1) := by decide +kernel
theorem dX7_lackInAll_4 : decode cX7_lackInAll 4 = .ok (.iload_n 2, 1) := by decide +kernel
theorem dX7_lackInAll_5 : decode cX7_lackInAll 5 = .ok (.aload_n 0, 1) := by decide +kernel
theorem dX7_lackInAll_6 : decode cX7_lackInAll 6 = .ok (.getfield 33, 3) := by decide +kernel
theorem dX7_lackInAll_9 : decode cX7_lackInAll 9 = .ok (.if_icmp .ge 26, 3) := by decide +kernel
theorem dX7_lackInAll_12 : decode cX7_lackInAll 12 = .ok (.iload_n 1, 1) := by decide +kernel
theorem dX7_lackInAll_13 : decode cX7_lackInAll 13 = .ok (.aload_n 0, 1) := by decide +kernel
theorem dX7_lackInAll_14 : decode cX7_lackInAll 14 = .ok (.getfield 52, 3) := by decide +kernel
theorem dX7_lackInAll_17 : decode cX7_lackInAll 17 = .ok (.aload_n 0, 1) := by decide +kernel
theorem dX7_lackInAll_18 : decode cX7_lackInAll 18 = .ok (.getfield 18, 3) := by decide +kernel
theorem dX7_lackInAll_21 : decode cX7_lackInAll 21 = .ok (.iload_n 2, 1) := by decide +kernel
theorem dX7_lackInAll_22 : decode cX7_lackInAll 22 = .ok (.iaload, 1) := by decide +kernel
theorem dX7_lackInAll_23 : decode cX7_lackInAll 23 = .ok (.invokestatic 84, 3) := by decide +kernel
theorem dX7_lackInAll_26 : decode cX7_lackInAll 26 = .ok (.isub, 1) := by decide +kernel
theorem dX7_lackInAll_27 : decode cX7_lackInAll 27 = .ok (.iadd, 1) := by decide +kernel
theorem dX7_lackInAll_28 : decode cX7_lackInAll 28 = .ok (.istore_n 1, 1) := by decide +kernel
theorem dX7_lackInAll_29 : decode cX7_lackInAll 29 = .ok (.iinc 2 1, 3) := by decide +kernel
theorem dX7_lackInAll_32 : decode cX7_lackInAll 32 = .ok (.goto (-28), 3) := by decide +kernel
theorem dX7_lackInAll_35 : decode cX7_lackInAll 35 = .ok (.iload_n 1, 1) := by decide +kernel
theorem dX7_lackInAll_36 : decode cX7_lackInAll 36 = .ok (.ireturn, 1) := by decide +kernel
theorem dX7_prefer_0 : decode cX7_prefer 0 = .ok (.aload_n 0, 1) := by decide +kernel
theorem dX7_prefer_1 : decode cX7_prefer 1 = .ok (.iload_n 1, 1) := by decide +kernel
theorem dX7_prefer_2 : decode cX7_prefer 2 = .ok (.invokevirtual 90, 3) := by decide +kernel
theorem dX7_prefer_5 : decode cX7_prefer 5 = .ok (.ifCond .ne 7, 3) := by decide +kernel
theorem dX7_prefer_8 : decode cX7_prefer 8 = .ok (.iconst 1, 1) := by decide +kernel
theorem dX7_prefer_9 : decode cX7_prefer 9 = .ok (.goto 4, 3) := by decide +kernel
theorem dX7_prefer_12 : decode cX7_prefer 12 = .ok (.iconst 0, 1) := by decide +kernel
theorem dX7_prefer_13 : decode cX7_prefer 13 = .ok (.istore_n 3, 1) := by decide +kernel
theorem dX7_prefer_14 : decode cX7_prefer 14 = .ok (.aload_n 0, 1) := by decide +kernel
theorem dX7_prefer_15 : decode cX7_prefer 15 = .ok (.iload_n 2, 1) := by decide +kernel
theorem dX7_prefer_16 : decode cX7_prefer 16 = .ok (.invokevirtual 94, 3) := by decide +kernel
theorem dX7_prefer_19 : decode cX7_prefer 19 = .ok (.ifCond .ne 7, 3) := by decide +kernel
theorem dX7_prefer_22 : decode cX7_prefer 22 = .ok (.iconst 1, 1) := by decide +kernel
theorem dX7_prefer_23 : decode cX7_prefer 23 = .ok (.goto 4, 3) := by decide +kernel
theorem dX7_prefer_26 : decode cX7_prefer 26 = .ok (.iconst 0, 1) := by decide +kernel
theorem dX7_prefer_27 : decode cX7_prefer 27 = .ok (.istore 4, 2) := by decide +kernel
theorem dX7_prefer_29 : decode cX7_prefer 29 = .ok (.aload_n 0, 1) := by decide +kernel
theorem dX7_prefer_30 : decode cX7_prefer 30 = .ok (.getfield 18, 3) := by decide +kernel
theorem dX7_prefer_33 : decode cX7_prefer 33 = .ok (.iload_n 1, 1) := by decide +kernel
theorem dX7_prefer_34 : decode cX7_prefer 34 = .ok (.iaload, 1) := by decide +kernel
theorem dX7_prefer_35 : decode cX7_prefer 35 = .ok (.aload_n 0, 1) := by decide +kernel
theorem dX7_prefer_36 : decode cX7_prefer 36 = .ok (.iload_n 1, 1) := by decide +kernel
theorem dX7_prefer_37 : decode cX7_prefer 37 = .ok (.invokevirtual 97, 3) := by decide +kernel
theorem dX7_prefer_40 : decode cX7_prefer 40 = .ok (.iand, 1) := by decide +kernel
theorem dX7_prefer_41 : decode cX7_prefer 41 = .ok (.invokestatic 100, 3) := by decide +kernel
theorem dX7_prefer_44 : decode cX7_prefer 44 = .ok (.istore 5, 2) := by decide +kernel
theorem dX7_prefer_46 : decode cX7_prefer 46 = .ok (.aload_n 0, 1) := by decide +kernel
theorem dX7_prefer_47 : decode cX7_prefer 47 = .ok (.getfield 21, 3) := by decide +kernel
theorem dX7_prefer_50 : decode cX7_prefer 50 = .ok (.iload_n 2, 1) := by decide +kernel
theorem dX7_prefer_51 : decode cX7_prefer 51 = .ok (.iaload, 1) := by decide +kernel
theorem dX7_prefer_52 : decode cX7_prefer 52 = .ok (.aload_n 0, 1) := by decide +kernel
theorem dX7_prefer_53 : decode cX7_prefer 53 = .ok (.iload_n 2, 1) := by decide +kernel
theorem dX7_prefer_54 : decode cX7_prefer 54 = .ok (.invokevirtual 103, 3) := by decide +kernel
theorem dX7_prefer_57 : decode cX7_prefer 57 = .ok (.iand, 1) := by decide +kernel
theorem dX7_prefer_58 : decode cX7_prefer 58 = .ok (.invokestatic 100, 3) := by decide +kernel
theorem dX7_prefer_61 : decode cX7_prefer 61 = .ok (.istore 6, 2) := by decide +kernel
theorem dX7_prefer_63 : decode cX7_prefer 63 = .ok (.iload_n 3, 1) := by decide +kernel
theorem dX7_prefer_64 : decode cX7_prefer 64 = .ok (.ifCond .eq 9, 3) := by decide +kernel
theorem dX7_prefer_67 : decode cX7_prefer 67 = .ok (.iload 5, 2) := by decide +kernel
theorem dX7_prefer_69 : decode cX7_prefer 69 = .ok (.iconst (-1), 1) := by decide +kernel
theorem dX7_prefer_70 : decode cX7_prefer 70 = .ok (.if_icmp .eq 14, 3) := by decide +kernel
theorem dX7_prefer_73 : decode cX7_prefer 73 = .ok (.iload 4, 2) := by decide +kernel
theorem dX7_prefer_75 : decode cX7_prefer 75 = .ok (.ifCond .eq 10, 3) := by decide +kernel
theorem dX7_prefer_78 : decode cX7_prefer 78 = .ok (.iload 6, 2) := by decide +kernel
theorem dX7_prefer_80 : decode cX7_prefer 80 = .ok (.iconst (-1), 1) := by decide +kernel
theorem dX7_prefer_81 : decode cX7_prefer 81 = .ok (.if_icmp .ne 4, 3) := by decide +kernel
theorem dX7_prefer_84 : decode cX7_prefer 84 = .ok (.return_, 1) := by decide +kernel
theorem dX7_prefer_85 : decode cX7_prefer 85 = .ok (.iload_n 3, 1) := by decide +kernel
theorem dX7_prefer_86 : decode cX7_prefer 86 = .ok (.ifCond .eq 10, 3) := by decide +kernel
theorem dX7_prefer_89 : decode cX7_prefer 89 = .ok (.aload_n 0, 1) := by decide +kernel
theorem dX7_prefer_90 : decode cX7_prefer 90 = .ok (.iload_n 1, 1) := by decide +kernel
theorem dX7_prefer_91 : decode cX7_prefer 91 = .ok (.iload 5, 2) := by decide +kernel
theorem dX7_prefer_93 : decode cX7_prefer 93 = .ok (.invokevirtual 106, 3) := by decide +kernel
theorem dX7_prefer_96 : decode cX7_prefer 96 = .ok (.iload 4, 2) := by decide +kernel
theorem dX7_prefer_98 : decode cX7_prefer 98 = .ok (.ifCond .eq 10, 3) := by decide +kernel
theorem dX7_prefer_101 : decode cX7_prefer 101 = .ok (.aload_n 0, 1) := by decide +kernel
theorem dX7_prefer_102 : decode cX7_prefer 102 = .ok (.iload 6, 2) := by decide +kernel
theorem dX7_prefer_104 : decode cX7_prefer 104 = .ok (.iload_n 2, 1) := by decide +kernel
theorem dX7_prefer_105 : decode cX7_prefer 105 = .ok (.invokevirtual 106, 3) := by decide +kernel
theorem dX7_prefer_108 : decode cX7_prefer 108 = .ok (.aload_n 0, 1) := by decide +kernel
theorem dX7_prefer_109 : decode cX7_prefer 109 = .ok (.iload_n 1, 1) := by decide +kernel
theorem dX7_prefer_110 : decode cX7_prefer 110 = .ok (.iload_n 2, 1) := by decide +kernel
theorem dX7_prefer_111 : decode cX7_prefer 111 = .ok (.invokevirtual 109, 3) := by decide +kernel
theorem dX7_prefer_114 : decode cX7_prefer 114 = .ok (.iload_n 3, 1) := by decide +kernel
theorem dX7_prefer_115 : decode cX7_prefer 115 = .ok (.ifCond .eq 35, 3) := by decide +kernel
theorem dX7_prefer_118 : decode cX7_prefer 118 = .ok (.iload 4, 2) := by decide +kernel
theorem dX7_prefer_120 : decode cX7_prefer 120 = .ok (.ifCond .eq 30, 3) := by decide +kernel
theorem dX7_prefer_123 : decode cX7_prefer 123 = .ok (.aload_n 0, 1) := by decide +kernel
theorem dX7_prefer_124 : decode cX7_prefer 124 = .ok (.invokevirtual 66, 3) := by decide +kernel
theorem dX7_prefer_127 : decode cX7_prefer 127 = .ok (.ifCond .ne 23, 3) := by decide +kernel
theorem dX7_prefer_130 : decode cX7_prefer 130 = .ok (.aload_n 0, 1) := by decide +kernel
theorem dX7_prefer_131 : decode cX7_prefer 131 = .ok (.iload_n 1, 1) := by decide +kernel
theorem dX7_prefer_132 : decode cX7_prefer 132 = .ok (.iload_n 2, 1) := by decide +kernel
theorem dX7_prefer_133 : decode cX7_prefer 133 = .ok (.invokevirtual 106, 3) := by decide +kernel
theorem dX7_prefer_136 : decode cX7_prefer 136 = .ok (.aload_n 0, 1) := by decide +kernel
theorem dX7_prefer_137 : decode cX7_prefer 137 = .ok (.iload_n 1, 1) := by decide +kernel
theorem dX7_prefer_138 : decode cX7_prefer 138 = .ok (.iload 5, 2) := by decide +kernel
theorem dX7_prefer_140 : decode cX7_prefer 140 = .ok (.invokevirtual 109, 3) := by decide +kernel
theorem dX7_prefer_143 : decode cX7_prefer 143 = .ok (.aload_n 0, 1) := by decide +kernel
theorem dX7_prefer_144 : decode cX7_prefer 144 = .ok (.iload 6, 2) := by decide +kernel
theorem dX7_prefer_146 : decode cX7_prefer 146 = .ok (.iload_n 2, 1) := by decide +kernel
theorem dX7_prefer_147 : decode cX7_prefer 147 = .ok (.invokevirtual 109, 3) := by decide +kernel
theorem dX7_prefer_150 : decode cX7_prefer 150 = .ok (.return_, 1) := by decide +kernel
theorem dX7_addLook_0 : decode cX7_addLook 0 = .ok (.aload_n 0, 1) := by decide +kernel
theorem dX7_addLook_1 : decode cX7_addLook 1 = .ok (.invokevirtual 74, 3) := by decide +kernel
theorem dX7_addLook_4 : decode cX7_addLook 4 = .ok (.istore_n 1, 1) := by decide +kernel
theorem dX7_addLook_5 : decode cX7_addLook 5 = .ok (.iload_n 1, 1) := by decide +kernel
theorem dX7_addLook_6 : decode cX7_addLook 6 = .ok (.iconst (-1), 1) := by decide +kernel
theorem dX7_addLook_7 : decode cX7_addLook 7 = .ok (.if_icmp .ne 5, 3) := by decide +kernel
theorem dX7_addLook_10 : decode cX7_addLook 10 = .ok (.iconst 0, 1) := by decide +kernel
theorem dX7_addLook_11 : decode cX7_addLook 11 = .ok (.ireturn, 1) := by decide +kernel
theorem dX7_addLook_12 : decode cX7_addLook 12 = .ok (.iconst 0, 1) := by decide +kernel
theorem dX7_addLook_13 : decode cX7_addLook 13 = .ok (.istore_n 2, 1) := by decide +kernel
theorem dX7_addLook_14 : decode cX7_addLook 14 = .ok (.iload_n 2, 1) := by decide +kernel
theorem dX7_addLook_15 : decode cX7_addLook 15 = .ok (.bipush 12, 2) := by decide +kernel
theorem dX7_addLook_17 : decode cX7_addLook 17 = .ok (.if_icmp .ge 51, 3) := by decide +kernel
theorem dX7_addLook_20 : decode cX7_addLook 20 = .ok (.iload_n 1, 1) := by decide +kernel
theorem dX7_addLook_21 : decode cX7_addLook 21 = .ok (.iconst (-1), 1) := by decide +kernel
theorem dX7_addLook_22 : decode cX7_addLook 22 = .ok (.if_icmp .eq 46, 3) := by decide +kernel
theorem dX7_addLook_25 : decode cX7_addLook 25 = .ok (.aload_n 0, 1) := by decide +kernel
theorem dX7_addLook_26 : decode cX7_addLook 26 = .ok (.getfield 30, 3) := by decide +kernel
theorem dX7_addLook_29 : decode cX7_addLook 29 = .ok (.iload_n 1, 1) := by decide +kernel
theorem dX7_addLook_30 : decode cX7_addLook 30 = .ok (.iaload, 1) := by decide +kernel
theorem dX7_addLook_31 : decode cX7_addLook 31 = .ok (.istore_n 3, 1) := by decide +kernel
theorem dX7_addLook_32 : decode cX7_addLook 32 = .ok (.aload_n 0, 1) := by decide +kernel
theorem dX7_addLook_33 : decode cX7_addLook 33 = .ok (.getfield 27, 3) := by decide +kernel
theorem dX7_addLook_36 : decode cX7_addLook 36 = .ok (.iload_n 3, 1) := by decide +kernel
theorem dX7_addLook_37 : decode cX7_addLook 37 = .ok (.iaload, 1) := by decide +kernel
theorem dX7_addLook_38 : decode cX7_addLook 38 = .ok (.istore 4, 2) := by decide +kernel
theorem dX7_addLook_40 : decode cX7_addLook 40 = .ok (.iload 4, 2) := by decide +kernel
theorem dX7_addLook_42 : decode cX7_addLook 42 = .ok (.iconst (-1), 1) := by decide +kernel
theorem dX7_addLook_43 : decode cX7_addLook 43 = .ok (.if_icmp .eq 10, 3) := by decide +kernel
theorem dX7_addLook_46 : decode cX7_addLook 46 = .ok (.aload_n 0, 1) := by decide +kernel
theorem dX7_addLook_47 : decode cX7_addLook 47 = .ok (.iload_n 3, 1) := by decide +kernel
theorem dX7_addLook_48 : decode cX7_addLook 48 = .ok (.iload 4, 2) := by decide +kernel
theorem dX7_addLook_50 : decode cX7_addLook 50 = .ok (.invokevirtual 106, 3) := by decide +kernel
theorem dX7_addLook_53 : decode cX7_addLook 53 = .ok (.aload_n 0, 1) := by decide +kernel
theorem dX7_addLook_54 : decode cX7_addLook 54 = .ok (.iload_n 3, 1) := by decide +kernel
theorem dX7_addLook_55 : decode cX7_addLook 55 = .ok (.iload_n 1, 1) := by decide +kernel
theorem dX7_addLook_56 : decode cX7_addLook 56 = .ok (.invokevirtual 109, 3) := by decide +kernel
theorem dX7_addLook_59 : decode cX7_addLook 59 = .ok (.iload 4, 2) := by decide +kernel
theorem dX7_addLook_61 : decode cX7_addLook 61 = .ok (.istore_n 1, 1) := by decide +kernel
theorem dX7_addLook_62 : decode cX7_addLook 62 = .ok (.iinc 2 1, 3) := by decide +kernel
theorem dX7_addLook_65 : decode cX7_addLook 65 = .ok (.goto (-51), 3) := by decide +kernel
theorem dX7_addLook_68 : decode cX7_addLook 68 = .ok (.iconst 1, 1) := by decide +kernel
theorem dX7_addLook_69 : decode cX7_addLook 69 = .ok (.ireturn, 1) := by decide +kernel
theorem dX7_reachRoom_0 : decode cX7_reachRoom 0 = .ok (.aload_n 0, 1) := by decide +kernel
theorem dX7_reachRoom_1 : decode cX7_reachRoom 1 = .ok (.invokevirtual 112, 3) := by decide +kernel
theorem dX7_reachRoom_4 : decode cX7_reachRoom 4 = .ok (.iconst 0, 1) := by decide +kernel
theorem dX7_reachRoom_5 : decode cX7_reachRoom 5 = .ok (.istore_n 1, 1) := by decide +kernel
theorem dX7_reachRoom_6 : decode cX7_reachRoom 6 = .ok (.iload_n 1, 1) := by decide +kernel
theorem dX7_reachRoom_7 : decode cX7_reachRoom 7 = .ok (.aload_n 0, 1) := by decide +kernel
theorem dX7_reachRoom_8 : decode cX7_reachRoom 8 = .ok (.getfield 115, 3) := by decide +kernel
theorem dX7_reachRoom_11 : decode cX7_reachRoom 11 = .ok (.if_icmp .ge 122, 3) := by decide +kernel
theorem dX7_reachRoom_14 : decode cX7_reachRoom 14 = .ok (.iload_n 1, 1) := by decide +kernel
theorem dX7_reachRoom_15 : decode cX7_reachRoom 15 = .ok (.bipush 24, 2) := by decide +kernel
theorem dX7_reachRoom_17 : decode cX7_reachRoom 17 = .ok (.if_icmp .ge 116, 3) := by decide +kernel
theorem dX7_reachRoom_20 : decode cX7_reachRoom 20 = .ok (.aload_n 0, 1) := by decide +kernel
theorem dX7_reachRoom_21 : decode cX7_reachRoom 21 = .ok (.getfield 24, 3) := by decide +kernel
theorem dX7_reachRoom_24 : decode cX7_reachRoom 24 = .ok (.iload_n 1, 1) := by decide +kernel
theorem dX7_reachRoom_25 : decode cX7_reachRoom 25 = .ok (.iaload, 1) := by decide +kernel
theorem dX7_reachRoom_26 : decode cX7_reachRoom 26 = .ok (.istore_n 2, 1) := by decide +kernel
theorem dX7_reachRoom_27 : decode cX7_reachRoom 27 = .ok (.aload_n 0, 1) := by decide +kernel
theorem dX7_reachRoom_28 : decode cX7_reachRoom 28 = .ok (.getfield 15, 3) := by decide +kernel
theorem dX7_reachRoom_31 : decode cX7_reachRoom 31 = .ok (.iload_n 2, 1) := by decide +kernel
theorem dX7_reachRoom_32 : decode cX7_reachRoom 32 = .ok (.iaload, 1) := by decide +kernel
theorem dX7_reachRoom_33 : decode cX7_reachRoom 33 = .ok (.aload_n 0, 1) := by decide +kernel
theorem dX7_reachRoom_34 : decode cX7_reachRoom 34 = .ok (.getfield 18, 3) := by decide +kernel
theorem dX7_reachRoom_37 : decode cX7_reachRoom 37 = .ok (.iload_n 2, 1) := by decide +kernel
theorem dX7_reachRoom_38 : decode cX7_reachRoom 38 = .ok (.iaload, 1) := by decide +kernel
theorem dX7_reachRoom_39 : decode cX7_reachRoom 39 = .ok (.iconst (-1), 1) := by decide +kernel
theorem dX7_reachRoom_40 : decode cX7_reachRoom 40 = .ok (.ixor, 1) := by decide +kernel
theorem dX7_reachRoom_41 : decode cX7_reachRoom 41 = .ok (.iand, 1) := by decide +kernel
theorem dX7_reachRoom_42 : decode cX7_reachRoom 42 = .ok (.aload_n 0, 1) := by decide +kernel
theorem dX7_reachRoom_43 : decode cX7_reachRoom 43 = .ok (.iload_n 2, 1) := by decide +kernel
theorem dX7_reachRoom_44 : decode cX7_reachRoom 44 = .ok (.invokevirtual 97, 3) := by decide +kernel
theorem dX7_reachRoom_47 : decode cX7_reachRoom 47 = .ok (.iand, 1) := by decide +kernel
theorem dX7_reachRoom_48 : decode cX7_reachRoom 48 = .ok (.aload_n 0, 1) := by decide +kernel
theorem dX7_reachRoom_49 : decode cX7_reachRoom 49 = .ok (.getfield 118, 3) := by decide +kernel
theorem dX7_reachRoom_52 : decode cX7_reachRoom 52 = .ok (.iconst (-1), 1) := by decide +kernel
theorem dX7_reachRoom_53 : decode cX7_reachRoom 53 = .ok (.ixor, 1) := by decide +kernel
theorem dX7_reachRoom_54 : decode cX7_reachRoom 54 = .ok (.iand, 1) := by decide +kernel
theorem dX7_reachRoom_55 : decode cX7_reachRoom 55 = .ok (.istore_n 3, 1) := by decide +kernel
theorem dX7_reachRoom_56 : decode cX7_reachRoom 56 = .ok (.iconst 0, 1) := by decide +kernel
theorem dX7_reachRoom_57 : decode cX7_reachRoom 57 = .ok (.istore 4, 2) := by decide +kernel
theorem dX7_reachRoom_59 : decode cX7_reachRoom 59 = .ok (.iload 4, 2) := by decide +kernel
theorem dX7_reachRoom_61 : decode cX7_reachRoom 61 = .ok (.aload_n 0, 1) := by decide +kernel
theorem dX7_reachRoom_62 : decode cX7_reachRoom 62 = .ok (.getfield 37, 3) := by decide +kernel
theorem dX7_reachRoom_65 : decode cX7_reachRoom 65 = .ok (.if_icmp .ge 62, 3) := by decide +kernel
theorem dX7_reachRoom_68 : decode cX7_reachRoom 68 = .ok (.iload_n 3, 1) := by decide +kernel
theorem dX7_reachRoom_69 : decode cX7_reachRoom 69 = .ok (.ifCond .eq 58, 3) := by decide +kernel
theorem dX7_reachRoom_72 : decode cX7_reachRoom 72 = .ok (.iload_n 3, 1) := by decide +kernel
theorem dX7_reachRoom_73 : decode cX7_reachRoom 73 = .ok (.iload 4, 2) := by decide +kernel
theorem dX7_reachRoom_75 : decode cX7_reachRoom 75 = .ok (.ishr, 1) := by decide +kernel
theorem dX7_reachRoom_76 : decode cX7_reachRoom 76 = .ok (.iconst 1, 1) := by decide +kernel
theorem dX7_reachRoom_77 : decode cX7_reachRoom 77 = .ok (.iand, 1) := by decide +kernel
theorem dX7_reachRoom_78 : decode cX7_reachRoom 78 = .ok (.iconst 1, 1) := by decide +kernel
theorem dX7_reachRoom_79 : decode cX7_reachRoom 79 = .ok (.if_icmp .ne 42, 3) := by decide +kernel
theorem dX7_reachRoom_82 : decode cX7_reachRoom 82 = .ok (.aload_n 0, 1) := by decide +kernel
theorem dX7_reachRoom_83 : decode cX7_reachRoom 83 = .ok (.dup, 1) := by decide +kernel
theorem dX7_reachRoom_84 : decode cX7_reachRoom 84 = .ok (.getfield 118, 3) := by decide +kernel
theorem dX7_reachRoom_87 : decode cX7_reachRoom 87 = .ok (.iconst 1, 1) := by decide +kernel
theorem dX7_reachRoom_88 : decode cX7_reachRoom 88 = .ok (.iload 4, 2) := by decide +kernel
theorem dX7_reachRoom_90 : decode cX7_reachRoom 90 = .ok (.ishl, 1) := by decide +kernel
theorem dX7_reachRoom_91 : decode cX7_reachRoom 91 = .ok (.ior, 1) := by decide +kernel
theorem dX7_reachRoom_92 : decode cX7_reachRoom 92 = .ok (.putfield 118, 3) := by decide +kernel
theorem dX7_reachRoom_95 : decode cX7_reachRoom 95 = .ok (.aload_n 0, 1) := by decide +kernel
theorem dX7_reachRoom_96 : decode cX7_reachRoom 96 = .ok (.getfield 30, 3) := by decide +kernel
theorem dX7_reachRoom_99 : decode cX7_reachRoom 99 = .ok (.iload 4, 2) := by decide +kernel
theorem dX7_reachRoom_101 : decode cX7_reachRoom 101 = .ok (.iload_n 2, 1) := by decide +kernel
theorem dX7_reachRoom_102 : decode cX7_reachRoom 102 = .ok (.iastore, 1) := by decide +kernel
theorem dX7_reachRoom_103 : decode cX7_reachRoom 103 = .ok (.aload_n 0, 1) := by decide +kernel
theorem dX7_reachRoom_104 : decode cX7_reachRoom 104 = .ok (.iload 4, 2) := by decide +kernel
theorem dX7_reachRoom_106 : decode cX7_reachRoom 106 = .ok (.invokevirtual 94, 3) := by decide +kernel
theorem dX7_reachRoom_109 : decode cX7_reachRoom 109 = .ok (.ifCond .eq 6, 3) := by decide +kernel
theorem dX7_reachRoom_112 : decode cX7_reachRoom 112 = .ok (.iload 4, 2) := by decide +kernel
theorem dX7_reachRoom_114 : decode cX7_reachRoom 114 = .ok (.ireturn, 1) := by decide +kernel
theorem dX7_reachRoom_115 : decode cX7_reachRoom 115 = .ok (.aload_n 0, 1) := by decide +kernel
theorem dX7_reachRoom_116 : decode cX7_reachRoom 116 = .ok (.iload 4, 2) := by decide +kernel
theorem dX7_reachRoom_118 : decode cX7_reachRoom 118 = .ok (.invokevirtual 121, 3) := by decide +kernel
theorem dX7_reachRoom_121 : decode cX7_reachRoom 121 = .ok (.iinc 4 1, 3) := by decide +kernel
theorem dX7_reachRoom_124 : decode cX7_reachRoom 124 = .ok (.goto (-65), 3) := by decide +kernel
theorem dX7_reachRoom_127 : decode cX7_reachRoom 127 = .ok (.iinc 1 1, 3) := by decide +kernel
theorem dX7_reachRoom_130 : decode cX7_reachRoom 130 = .ok (.goto (-124), 3) := by decide +kernel
theorem dX7_reachRoom_133 : decode cX7_reachRoom 133 = .ok (.iconst (-1), 1) := by decide +kernel
theorem dX7_reachRoom_134 : decode cX7_reachRoom 134 = .ok (.ireturn, 1) := by decide +kernel
theorem dX7_startAtLacking_0 : decode cX7_startAtLacking 0 = .ok (.aload_n 0, 1) := by decide +kernel
theorem dX7_startAtLacking_1 : decode cX7_startAtLacking 1 = .ok (.iconst 0, 1) := by decide +kernel
theorem dX7_startAtLacking_2 : decode cX7_startAtLacking 2 = .ok (.putfield 78, 3) := by decide +kernel
theorem dX7_startAtLacking_5 : decode cX7_startAtLacking 5 = .ok (.aload_n 0, 1) := by decide +kernel
theorem dX7_startAtLacking_6 : decode cX7_startAtLacking 6 = .ok (.iconst 0, 1) := by decide +kernel
theorem dX7_startAtLacking_7 : decode cX7_startAtLacking 7 = .ok (.putfield 118, 3) := by decide +kernel
theorem dX7_startAtLacking_10 : decode cX7_startAtLacking 10 = .ok (.aload_n 0, 1) := by decide +kernel
theorem dX7_startAtLacking_11 : decode cX7_startAtLacking 11 = .ok (.iconst 0, 1) := by decide +kernel
theorem dX7_startAtLacking_12 : decode cX7_startAtLacking 12 = .ok (.putfield 115, 3) := by decide +kernel
theorem dX7_startAtLacking_15 : decode cX7_startAtLacking 15 = .ok (.iconst 0, 1) := by decide +kernel
theorem dX7_startAtLacking_16 : decode cX7_startAtLacking 16 = .ok (.istore_n 1, 1) := by decide +kernel
theorem dX7_startAtLacking_17 : decode cX7_startAtLacking 17 = .ok (.iload_n 1, 1) := by decide +kernel
theorem dX7_startAtLacking_18 : decode cX7_startAtLacking 18 = .ok (.aload_n 0, 1) := by decide +kernel
theorem dX7_startAtLacking_19 : decode cX7_startAtLacking 19 = .ok (.getfield 33, 3) := by decide +kernel
theorem dX7_startAtLacking_22 : decode cX7_startAtLacking 22 = .ok (.if_icmp .ge 23, 3) := by decide +kernel
theorem dX7_startAtLacking_25 : decode cX7_startAtLacking 25 = .ok (.aload_n 0, 1) := by decide +kernel
theorem dX7_startAtLacking_26 : decode cX7_startAtLacking 26 = .ok (.iload_n 1, 1) := by decide +kernel
theorem dX7_startAtLacking_27 : decode cX7_startAtLacking 27 = .ok (.invokevirtual 90, 3) := by decide +kernel
theorem dX7_startAtLacking_30 : decode cX7_startAtLacking 30 = .ok (.ifCond .eq 9, 3) := by decide +kernel
theorem dX7_startAtLacking_33 : decode cX7_startAtLacking 33 = .ok (.aload_n 0, 1) := by decide +kernel
theorem dX7_startAtLacking_34 : decode cX7_startAtLacking 34 = .ok (.iload_n 1, 1) := by decide +kernel
theorem dX7_startAtLacking_35 : decode cX7_startAtLacking 35 = .ok (.iconst (-1), 1) := by decide +kernel
theorem dX7_startAtLacking_36 : decode cX7_startAtLacking 36 = .ok (.invokevirtual 125, 3) := by decide +kernel
theorem dX7_startAtLacking_39 : decode cX7_startAtLacking 39 = .ok (.iinc 1 1, 3) := by decide +kernel
theorem dX7_startAtLacking_42 : decode cX7_startAtLacking 42 = .ok (.goto (-25), 3) := by decide +kernel
theorem dX7_startAtLacking_45 : decode cX7_startAtLacking 45 = .ok (.return_, 1) := by decide +kernel
theorem dX7_reachShown_0 : decode cX7_reachShown 0 = .ok (.aload_n 0, 1) := by decide +kernel
theorem dX7_reachShown_1 : decode cX7_reachShown 1 = .ok (.getfield 21, 3) := by decide +kernel
theorem dX7_reachShown_4 : decode cX7_reachShown 4 = .ok (.iload_n 1, 1) := by decide +kernel
theorem dX7_reachShown_5 : decode cX7_reachShown 5 = .ok (.iaload, 1) := by decide +kernel
theorem dX7_reachShown_6 : decode cX7_reachShown 6 = .ok (.aload_n 0, 1) := by decide +kernel
theorem dX7_reachShown_7 : decode cX7_reachShown 7 = .ok (.iload_n 1, 1) := by decide +kernel
theorem dX7_reachShown_8 : decode cX7_reachShown 8 = .ok (.invokevirtual 103, 3) := by decide +kernel
theorem dX7_reachShown_11 : decode cX7_reachShown 11 = .ok (.iand, 1) := by decide +kernel
theorem dX7_reachShown_12 : decode cX7_reachShown 12 = .ok (.aload_n 0, 1) := by decide +kernel
theorem dX7_reachShown_13 : decode cX7_reachShown 13 = .ok (.getfield 78, 3) := by decide +kernel
theorem dX7_reachShown_16 : decode cX7_reachShown 16 = .ok (.iconst (-1), 1) := by decide +kernel
theorem dX7_reachShown_17 : decode cX7_reachShown 17 = .ok (.ixor, 1) := by decide +kernel
theorem dX7_reachShown_18 : decode cX7_reachShown 18 = .ok (.iand, 1) := by decide +kernel
theorem dX7_reachShown_19 : decode cX7_reachShown 19 = .ok (.istore_n 2, 1) := by decide +kernel
theorem dX7_reachShown_20 : decode cX7_reachShown 20 = .ok (.iconst 0, 1) := by decide +kernel
theorem dX7_reachShown_21 : decode cX7_reachShown 21 = .ok (.istore_n 3, 1) := by decide +kernel
theorem dX7_reachShown_22 : decode cX7_reachShown 22 = .ok (.iload_n 3, 1) := by decide +kernel
theorem dX7_reachShown_23 : decode cX7_reachShown 23 = .ok (.aload_n 0, 1) := by decide +kernel
theorem dX7_reachShown_24 : decode cX7_reachShown 24 = .ok (.getfield 33, 3) := by decide +kernel
theorem dX7_reachShown_27 : decode cX7_reachShown 27 = .ok (.if_icmp .ge 28, 3) := by decide +kernel
theorem dX7_reachShown_30 : decode cX7_reachShown 30 = .ok (.iload_n 2, 1) := by decide +kernel
theorem dX7_reachShown_31 : decode cX7_reachShown 31 = .ok (.ifCond .eq 24, 3) := by decide +kernel
theorem dX7_reachShown_34 : decode cX7_reachShown 34 = .ok (.iload_n 2, 1) := by decide +kernel
theorem dX7_reachShown_35 : decode cX7_reachShown 35 = .ok (.iload_n 3, 1) := by decide +kernel
theorem dX7_reachShown_36 : decode cX7_reachShown 36 = .ok (.ishr, 1) := by decide +kernel
theorem dX7_reachShown_37 : decode cX7_reachShown 37 = .ok (.iconst 1, 1) := by decide +kernel
theorem dX7_reachShown_38 : decode cX7_reachShown 38 = .ok (.iand, 1) := by decide +kernel
theorem dX7_reachShown_39 : decode cX7_reachShown 39 = .ok (.iconst 1, 1) := by decide +kernel
theorem dX7_reachShown_40 : decode cX7_reachShown 40 = .ok (.if_icmp .ne 9, 3) := by decide +kernel
theorem dX7_reachShown_43 : decode cX7_reachShown 43 = .ok (.aload_n 0, 1) := by decide +kernel
theorem dX7_reachShown_44 : decode cX7_reachShown 44 = .ok (.iload_n 3, 1) := by decide +kernel
theorem dX7_reachShown_45 : decode cX7_reachShown 45 = .ok (.iload_n 1, 1) := by decide +kernel
theorem dX7_reachShown_46 : decode cX7_reachShown 46 = .ok (.invokevirtual 125, 3) := by decide +kernel
theorem dX7_reachShown_49 : decode cX7_reachShown 49 = .ok (.iinc 3 1, 3) := by decide +kernel
theorem dX7_reachShown_52 : decode cX7_reachShown 52 = .ok (.goto (-30), 3) := by decide +kernel
theorem dX7_reachShown_55 : decode cX7_reachShown 55 = .ok (.return_, 1) := by decide +kernel
theorem dX7_reach_0 : decode cX7_reach 0 = .ok (.aload_n 0, 1) := by decide +kernel
theorem dX7_reach_1 : decode cX7_reach 1 = .ok (.getfield 115, 3) := by decide +kernel
theorem dX7_reach_4 : decode cX7_reach 4 = .ok (.bipush 24, 2) := by decide +kernel
theorem dX7_reach_6 : decode cX7_reach 6 = .ok (.if_icmp .ge 42, 3) := by decide +kernel
theorem dX7_reach_9 : decode cX7_reach 9 = .ok (.aload_n 0, 1) := by decide +kernel
theorem dX7_reach_10 : decode cX7_reach 10 = .ok (.dup, 1) := by decide +kernel
theorem dX7_reach_11 : decode cX7_reach 11 = .ok (.getfield 78, 3) := by decide +kernel
theorem dX7_reach_14 : decode cX7_reach 14 = .ok (.iconst 1, 1) := by decide +kernel
theorem dX7_reach_15 : decode cX7_reach 15 = .ok (.iload_n 1, 1) := by decide +kernel
theorem dX7_reach_16 : decode cX7_reach 16 = .ok (.ishl, 1) := by decide +kernel
theorem dX7_reach_17 : decode cX7_reach 17 = .ok (.ior, 1) := by decide +kernel
theorem dX7_reach_18 : decode cX7_reach 18 = .ok (.putfield 78, 3) := by decide +kernel
theorem dX7_reach_21 : decode cX7_reach 21 = .ok (.aload_n 0, 1) := by decide +kernel
theorem dX7_reach_22 : decode cX7_reach 22 = .ok (.getfield 27, 3) := by decide +kernel
theorem dX7_reach_25 : decode cX7_reach 25 = .ok (.iload_n 1, 1) := by decide +kernel
theorem dX7_reach_26 : decode cX7_reach 26 = .ok (.iload_n 2, 1) := by decide +kernel
theorem dX7_reach_27 : decode cX7_reach 27 = .ok (.iastore, 1) := by decide +kernel
theorem dX7_reach_28 : decode cX7_reach 28 = .ok (.aload_n 0, 1) := by decide +kernel
theorem dX7_reach_29 : decode cX7_reach 29 = .ok (.getfield 24, 3) := by decide +kernel
theorem dX7_reach_32 : decode cX7_reach 32 = .ok (.aload_n 0, 1) := by decide +kernel
theorem dX7_reach_33 : decode cX7_reach 33 = .ok (.getfield 115, 3) := by decide +kernel
theorem dX7_reach_36 : decode cX7_reach 36 = .ok (.iload_n 1, 1) := by decide +kernel
theorem dX7_reach_37 : decode cX7_reach 37 = .ok (.iastore, 1) := by decide +kernel
theorem dX7_reach_38 : decode cX7_reach 38 = .ok (.aload_n 0, 1) := by decide +kernel
theorem dX7_reach_39 : decode cX7_reach 39 = .ok (.dup, 1) := by decide +kernel
theorem dX7_reach_40 : decode cX7_reach 40 = .ok (.getfield 115, 3) := by decide +kernel
theorem dX7_reach_43 : decode cX7_reach 43 = .ok (.iconst 1, 1) := by decide +kernel
theorem dX7_reach_44 : decode cX7_reach 44 = .ok (.iadd, 1) := by decide +kernel
theorem dX7_reach_45 : decode cX7_reach 45 = .ok (.putfield 115, 3) := by decide +kernel
theorem dX7_reach_48 : decode cX7_reach 48 = .ok (.return_, 1) := by decide +kernel
theorem dX7_lacks_0 : decode cX7_lacks 0 = .ok (.aload_n 0, 1) := by decide +kernel
theorem dX7_lacks_1 : decode cX7_lacks 1 = .ok (.getfield 18, 3) := by decide +kernel
theorem dX7_lacks_4 : decode cX7_lacks 4 = .ok (.iload_n 1, 1) := by decide +kernel
theorem dX7_lacks_5 : decode cX7_lacks 5 = .ok (.iaload, 1) := by decide +kernel
theorem dX7_lacks_6 : decode cX7_lacks 6 = .ok (.invokestatic 84, 3) := by decide +kernel
theorem dX7_lacks_9 : decode cX7_lacks 9 = .ok (.aload_n 0, 1) := by decide +kernel
theorem dX7_lacks_10 : decode cX7_lacks 10 = .ok (.getfield 52, 3) := by decide +kernel
theorem dX7_lacks_13 : decode cX7_lacks 13 = .ok (.if_icmp .ge 7, 3) := by decide +kernel
theorem dX7_lacks_16 : decode cX7_lacks 16 = .ok (.iconst 1, 1) := by decide +kernel
theorem dX7_lacks_17 : decode cX7_lacks 17 = .ok (.goto 4, 3) := by decide +kernel
theorem dX7_lacks_20 : decode cX7_lacks 20 = .ok (.iconst 0, 1) := by decide +kernel
theorem dX7_lacks_21 : decode cX7_lacks 21 = .ok (.ireturn, 1) := by decide +kernel
theorem dX7_hasRoom_0 : decode cX7_hasRoom 0 = .ok (.aload_n 0, 1) := by decide +kernel
theorem dX7_hasRoom_1 : decode cX7_hasRoom 1 = .ok (.getfield 21, 3) := by decide +kernel
theorem dX7_hasRoom_4 : decode cX7_hasRoom 4 = .ok (.iload_n 1, 1) := by decide +kernel
theorem dX7_hasRoom_5 : decode cX7_hasRoom 5 = .ok (.iaload, 1) := by decide +kernel
theorem dX7_hasRoom_6 : decode cX7_hasRoom 6 = .ok (.invokestatic 84, 3) := by decide +kernel
theorem dX7_hasRoom_9 : decode cX7_hasRoom 9 = .ok (.aload_n 0, 1) := by decide +kernel
theorem dX7_hasRoom_10 : decode cX7_hasRoom 10 = .ok (.getfield 9, 3) := by decide +kernel
theorem dX7_hasRoom_13 : decode cX7_hasRoom 13 = .ok (.iload_n 1, 1) := by decide +kernel
theorem dX7_hasRoom_14 : decode cX7_hasRoom 14 = .ok (.iaload, 1) := by decide +kernel
theorem dX7_hasRoom_15 : decode cX7_hasRoom 15 = .ok (.if_icmp .ge 7, 3) := by decide +kernel
theorem dX7_hasRoom_18 : decode cX7_hasRoom 18 = .ok (.iconst 1, 1) := by decide +kernel
theorem dX7_hasRoom_19 : decode cX7_hasRoom 19 = .ok (.goto 4, 3) := by decide +kernel
theorem dX7_hasRoom_22 : decode cX7_hasRoom 22 = .ok (.iconst 0, 1) := by decide +kernel
theorem dX7_hasRoom_23 : decode cX7_hasRoom 23 = .ok (.ireturn, 1) := by decide +kernel
theorem dX7_openJudges_0 : decode cX7_openJudges 0 = .ok (.iload_n 1, 1) := by decide +kernel
theorem dX7_openJudges_1 : decode cX7_openJudges 1 = .ok (.aload_n 0, 1) := by decide +kernel
theorem dX7_openJudges_2 : decode cX7_openJudges 2 = .ok (.getfield 55, 3) := by decide +kernel
theorem dX7_openJudges_5 : decode cX7_openJudges 5 = .ok (.if_icmp .ge 5, 3) := by decide +kernel
theorem dX7_openJudges_8 : decode cX7_openJudges 8 = .ok (.iconst 0, 1) := by decide +kernel
theorem dX7_openJudges_9 : decode cX7_openJudges 9 = .ok (.ireturn, 1) := by decide +kernel
theorem dX7_openJudges_10 : decode cX7_openJudges 10 = .ok (.iload_n 1, 1) := by decide +kernel
theorem dX7_openJudges_11 : decode cX7_openJudges 11 = .ok (.aload_n 0, 1) := by decide +kernel
theorem dX7_openJudges_12 : decode cX7_openJudges 12 = .ok (.getfield 55, 3) := by decide +kernel
theorem dX7_openJudges_15 : decode cX7_openJudges 15 = .ok (.if_icmp .le 7, 3) := by decide +kernel
theorem dX7_openJudges_18 : decode cX7_openJudges 18 = .ok (.iconst (-1), 1) := by decide +kernel
theorem dX7_openJudges_19 : decode cX7_openJudges 19 = .ok (.goto 9, 3) := by decide +kernel
theorem dX7_openJudges_22 : decode cX7_openJudges 22 = .ok (.iconst (-1), 1) := by decide +kernel
theorem dX7_openJudges_23 : decode cX7_openJudges 23 = .ok (.aload_n 0, 1) := by decide +kernel
theorem dX7_openJudges_24 : decode cX7_openJudges 24 = .ok (.getfield 58, 3) := by decide +kernel
theorem dX7_openJudges_27 : decode cX7_openJudges 27 = .ok (.ishl, 1) := by decide +kernel
theorem dX7_openJudges_28 : decode cX7_openJudges 28 = .ok (.ireturn, 1) := by decide +kernel
theorem dX7_openBoards_0 : decode cX7_openBoards 0 = .ok (.iload_n 1, 1) := by decide +kernel
theorem dX7_openBoards_1 : decode cX7_openBoards 1 = .ok (.aload_n 0, 1) := by decide +kernel
theorem dX7_openBoards_2 : decode cX7_openBoards 2 = .ok (.getfield 58, 3) := by decide +kernel
theorem dX7_openBoards_5 : decode cX7_openBoards 5 = .ok (.if_icmp .ge 14, 3) := by decide +kernel
theorem dX7_openBoards_8 : decode cX7_openBoards 8 = .ok (.iconst (-1), 1) := by decide +kernel
theorem dX7_openBoards_9 : decode cX7_openBoards 9 = .ok (.aload_n 0, 1) := by decide +kernel
theorem dX7_openBoards_10 : decode cX7_openBoards 10 = .ok (.getfield 55, 3) := by decide +kernel
theorem dX7_openBoards_13 : decode cX7_openBoards 13 = .ok (.iconst 1, 1) := by decide +kernel
theorem dX7_openBoards_14 : decode cX7_openBoards 14 = .ok (.iadd, 1) := by decide +kernel
theorem dX7_openBoards_15 : decode cX7_openBoards 15 = .ok (.ishl, 1) := by decide +kernel
theorem dX7_openBoards_16 : decode cX7_openBoards 16 = .ok (.goto 9, 3) := by decide +kernel
theorem dX7_openBoards_19 : decode cX7_openBoards 19 = .ok (.iconst (-1), 1) := by decide +kernel
theorem dX7_openBoards_20 : decode cX7_openBoards 20 = .ok (.aload_n 0, 1) := by decide +kernel
theorem dX7_openBoards_21 : decode cX7_openBoards 21 = .ok (.getfield 55, 3) := by decide +kernel
theorem dX7_openBoards_24 : decode cX7_openBoards 24 = .ok (.ishl, 1) := by decide +kernel
theorem dX7_openBoards_25 : decode cX7_openBoards 25 = .ok (.ireturn, 1) := by decide +kernel
theorem dX7_join_0 : decode cX7_join 0 = .ok (.aload_n 0, 1) := by decide +kernel
theorem dX7_join_1 : decode cX7_join 1 = .ok (.getfield 18, 3) := by decide +kernel
theorem dX7_join_4 : decode cX7_join 4 = .ok (.iload_n 1, 1) := by decide +kernel
theorem dX7_join_5 : decode cX7_join 5 = .ok (.dup2, 1) := by decide +kernel
theorem dX7_join_6 : decode cX7_join 6 = .ok (.iaload, 1) := by decide +kernel
theorem dX7_join_7 : decode cX7_join 7 = .ok (.iconst 1, 1) := by decide +kernel
theorem dX7_join_8 : decode cX7_join 8 = .ok (.iload_n 2, 1) := by decide +kernel
theorem dX7_join_9 : decode cX7_join 9 = .ok (.ishl, 1) := by decide +kernel
theorem dX7_join_10 : decode cX7_join 10 = .ok (.ior, 1) := by decide +kernel
theorem dX7_join_11 : decode cX7_join 11 = .ok (.iastore, 1) := by decide +kernel
theorem dX7_join_12 : decode cX7_join 12 = .ok (.aload_n 0, 1) := by decide +kernel
theorem dX7_join_13 : decode cX7_join 13 = .ok (.getfield 21, 3) := by decide +kernel
theorem dX7_join_16 : decode cX7_join 16 = .ok (.iload_n 2, 1) := by decide +kernel
theorem dX7_join_17 : decode cX7_join 17 = .ok (.dup2, 1) := by decide +kernel
theorem dX7_join_18 : decode cX7_join 18 = .ok (.iaload, 1) := by decide +kernel
theorem dX7_join_19 : decode cX7_join 19 = .ok (.iconst 1, 1) := by decide +kernel
theorem dX7_join_20 : decode cX7_join 20 = .ok (.iload_n 1, 1) := by decide +kernel
theorem dX7_join_21 : decode cX7_join 21 = .ok (.ishl, 1) := by decide +kernel
theorem dX7_join_22 : decode cX7_join 22 = .ok (.ior, 1) := by decide +kernel
theorem dX7_join_23 : decode cX7_join 23 = .ok (.iastore, 1) := by decide +kernel
theorem dX7_join_24 : decode cX7_join 24 = .ok (.return_, 1) := by decide +kernel
theorem dX7_part_0 : decode cX7_part 0 = .ok (.aload_n 0, 1) := by decide +kernel
theorem dX7_part_1 : decode cX7_part 1 = .ok (.getfield 18, 3) := by decide +kernel
theorem dX7_part_4 : decode cX7_part 4 = .ok (.iload_n 1, 1) := by decide +kernel
theorem dX7_part_5 : decode cX7_part 5 = .ok (.dup2, 1) := by decide +kernel
theorem dX7_part_6 : decode cX7_part 6 = .ok (.iaload, 1) := by decide +kernel
theorem dX7_part_7 : decode cX7_part 7 = .ok (.iconst 1, 1) := by decide +kernel
theorem dX7_part_8 : decode cX7_part 8 = .ok (.iload_n 2, 1) := by decide +kernel
theorem dX7_part_9 : decode cX7_part 9 = .ok (.ishl, 1) := by decide +kernel
theorem dX7_part_10 : decode cX7_part 10 = .ok (.iconst (-1), 1) := by decide +kernel
theorem dX7_part_11 : decode cX7_part 11 = .ok (.ixor, 1) := by decide +kernel
theorem dX7_part_12 : decode cX7_part 12 = .ok (.iand, 1) := by decide +kernel
theorem dX7_part_13 : decode cX7_part 13 = .ok (.iastore, 1) := by decide +kernel
theorem dX7_part_14 : decode cX7_part 14 = .ok (.aload_n 0, 1) := by decide +kernel
theorem dX7_part_15 : decode cX7_part 15 = .ok (.getfield 21, 3) := by decide +kernel
theorem dX7_part_18 : decode cX7_part 18 = .ok (.iload_n 2, 1) := by decide +kernel
theorem dX7_part_19 : decode cX7_part 19 = .ok (.dup2, 1) := by decide +kernel
theorem dX7_part_20 : decode cX7_part 20 = .ok (.iaload, 1) := by decide +kernel
theorem dX7_part_21 : decode cX7_part 21 = .ok (.iconst 1, 1) := by decide +kernel
theorem dX7_part_22 : decode cX7_part 22 = .ok (.iload_n 1, 1) := by decide +kernel
theorem dX7_part_23 : decode cX7_part 23 = .ok (.ishl, 1) := by decide +kernel
theorem dX7_part_24 : decode cX7_part 24 = .ok (.iconst (-1), 1) := by decide +kernel
theorem dX7_part_25 : decode cX7_part 25 = .ok (.ixor, 1) := by decide +kernel
theorem dX7_part_26 : decode cX7_part 26 = .ok (.iand, 1) := by decide +kernel
theorem dX7_part_27 : decode cX7_part 27 = .ok (.iastore, 1) := by decide +kernel
theorem dX7_part_28 : decode cX7_part 28 = .ok (.return_, 1) := by decide +kernel
theorem dX8_init_0 : decode cX8_init 0 = .ok (.aload_n 0, 1) := by decide +kernel
theorem dX8_init_1 : decode cX8_init 1 = .ok (.invokespecial 3, 3) := by decide +kernel
theorem dX8_init_4 : decode cX8_init 4 = .ok (.aload_n 0, 1) := by decide +kernel
theorem dX8_init_5 : decode cX8_init 5 = .ok (.bipush 8, 2) := by decide +kernel
theorem dX8_init_7 : decode cX8_init 7 = .ok (.newarray .int, 2) := by decide +kernel
theorem dX8_init_9 : decode cX8_init 9 = .ok (.putfield 9, 3) := by decide +kernel
theorem dX8_init_12 : decode cX8_init 12 = .ok (.aload_n 0, 1) := by decide +kernel
theorem dX8_init_13 : decode cX8_init 13 = .ok (.bipush 8, 2) := by decide +kernel
theorem dX8_init_15 : decode cX8_init 15 = .ok (.newarray .boolean, 2) := by decide +kernel
theorem dX8_init_17 : decode cX8_init 17 = .ok (.putfield 15, 3) := by decide +kernel
theorem dX8_init_20 : decode cX8_init 20 = .ok (.aload_n 0, 1) := by decide +kernel
theorem dX8_init_21 : decode cX8_init 21 = .ok (.iconst 4, 1) := by decide +kernel
theorem dX8_init_22 : decode cX8_init 22 = .ok (.bipush 8, 2) := by decide +kernel
theorem dX8_init_24 : decode cX8_init 24 = .ok (.multianewarray 19 2, 4) := by decide +kernel
theorem dX8_init_28 : decode cX8_init 28 = .ok (.putfield 21, 3) := by decide +kernel
theorem dX8_init_31 : decode cX8_init 31 = .ok (.return_, 1) := by decide +kernel
theorem dX8_has_0 : decode cX8_has 0 = .ok (.iload_n 1, 1) := by decide +kernel
theorem dX8_has_1 : decode cX8_has 1 = .ok (.ifCond .lt 15, 3) := by decide +kernel
theorem dX8_has_4 : decode cX8_has 4 = .ok (.iload_n 1, 1) := by decide +kernel
theorem dX8_has_5 : decode cX8_has 5 = .ok (.aload_n 0, 1) := by decide +kernel
theorem dX8_has_6 : decode cX8_has 6 = .ok (.getfield 24, 3) := by decide +kernel
theorem dX8_has_9 : decode cX8_has 9 = .ok (.if_icmp .ge 7, 3) := by decide +kernel
theorem dX8_has_12 : decode cX8_has 12 = .ok (.iconst 1, 1) := by decide +kernel
theorem dX8_has_13 : decode cX8_has 13 = .ok (.goto 4, 3) := by decide +kernel
theorem dX8_has_16 : decode cX8_has 16 = .ok (.iconst 0, 1) := by decide +kernel
theorem dX8_has_17 : decode cX8_has 17 = .ok (.ireturn, 1) := by decide +kernel
theorem dX8_addEmpty_0 : decode cX8_addEmpty 0 = .ok (.aload_n 0, 1) := by decide +kernel
theorem dX8_addEmpty_1 : decode cX8_addEmpty 1 = .ok (.getfield 24, 3) := by decide +kernel
theorem dX8_addEmpty_4 : decode cX8_addEmpty 4 = .ok (.bipush 8, 2) := by decide +kernel
theorem dX8_addEmpty_6 : decode cX8_addEmpty 6 = .ok (.if_icmp .ge 48, 3) := by decide +kernel
theorem dX8_addEmpty_9 : decode cX8_addEmpty 9 = .ok (.iconst 0, 1) := by decide +kernel
theorem dX8_addEmpty_10 : decode cX8_addEmpty 10 = .ok (.istore_n 1, 1) := by decide +kernel
theorem dX8_addEmpty_11 : decode cX8_addEmpty 11 = .ok (.iload_n 1, 1) := by decide +kernel
theorem dX8_addEmpty_12 : decode cX8_addEmpty 12 = .ok (.iconst 4, 1) := by decide +kernel
theorem dX8_addEmpty_13 : decode cX8_addEmpty 13 = .ok (.if_icmp .ge 21, 3) := by decide +kernel
theorem dX8_addEmpty_16 : decode cX8_addEmpty 16 = .ok (.aload_n 0, 1) := by decide +kernel
theorem dX8_addEmpty_17 : decode cX8_addEmpty 17 = .ok (.getfield 21, 3) := by decide +kernel
theorem dX8_addEmpty_20 : decode cX8_addEmpty 20 = .ok (.iload_n 1, 1) := by decide +kernel
theorem dX8_addEmpty_21 : decode cX8_addEmpty 21 = .ok (.aaload, 1) := by decide +kernel
theorem dX8_addEmpty_22 : decode cX8_addEmpty 22 = .ok (.aload_n 0, 1) := by decide +kernel
theorem dX8_addEmpty_23 : decode cX8_addEmpty 23 = .ok (.getfield 24, 3) := by decide +kernel
theorem dX8_addEmpty_26 : decode cX8_addEmpty 26 = .ok (.iconst (-1), 1) := by decide +kernel
theorem dX8_addEmpty_27 : decode cX8_addEmpty 27 = .ok (.iastore, 1) := by decide +kernel
theorem dX8_addEmpty_28 : decode cX8_addEmpty 28 = .ok (.iinc 1 1, 3) := by decide +kernel
theorem dX8_addEmpty_31 : decode cX8_addEmpty 31 = .ok (.goto (-20), 3) := by decide +kernel
theorem dX8_addEmpty_34 : decode cX8_addEmpty 34 = .ok (.aload_n 0, 1) := by decide +kernel
theorem dX8_addEmpty_35 : decode cX8_addEmpty 35 = .ok (.getfield 15, 3) := by decide +kernel
theorem dX8_addEmpty_38 : decode cX8_addEmpty 38 = .ok (.aload_n 0, 1) := by decide +kernel
theorem dX8_addEmpty_39 : decode cX8_addEmpty 39 = .ok (.getfield 24, 3) := by decide +kernel
theorem dX8_addEmpty_42 : decode cX8_addEmpty 42 = .ok (.iconst 0, 1) := by decide +kernel
theorem dX8_addEmpty_43 : decode cX8_addEmpty 43 = .ok (.bastore, 1) := by decide +kernel
theorem dX8_addEmpty_44 : decode cX8_addEmpty 44 = .ok (.aload_n 0, 1) := by decide +kernel
theorem dX8_addEmpty_45 : decode cX8_addEmpty 45 = .ok (.dup, 1) := by decide +kernel
theorem dX8_addEmpty_46 : decode cX8_addEmpty 46 = .ok (.getfield 24, 3) := by decide +kernel
theorem dX8_addEmpty_49 : decode cX8_addEmpty 49 = .ok (.iconst 1, 1) := by decide +kernel
theorem dX8_addEmpty_50 : decode cX8_addEmpty 50 = .ok (.iadd, 1) := by decide +kernel
theorem dX8_addEmpty_51 : decode cX8_addEmpty 51 = .ok (.putfield 24, 3) := by decide +kernel
theorem dX8_addEmpty_54 : decode cX8_addEmpty 54 = .ok (.return_, 1) := by decide +kernel
theorem dX8_isWished_0 : decode cX8_isWished 0 = .ok (.aload_n 0, 1) := by decide +kernel
theorem dX8_isWished_1 : decode cX8_isWished 1 = .ok (.iconst 0, 1) := by decide +kernel
theorem dX8_isWished_2 : decode cX8_isWished 2 = .ok (.iload_n 1, 1) := by decide +kernel
theorem dX8_isWished_3 : decode cX8_isWished 3 = .ok (.aload_n 2, 1) := by decide +kernel
theorem dX8_isWished_4 : decode cX8_isWished 4 = .ok (.getfield 28, 3) := by decide +kernel
theorem dX8_isWished_7 : decode cX8_isWished 7 = .ok (.iload_n 3, 1) := by decide +kernel
theorem dX8_isWished_8 : decode cX8_isWished 8 = .ok (.iaload, 1) := by decide +kernel
theorem dX8_isWished_9 : decode cX8_isWished 9 = .ok (.invokevirtual 33, 3) := by decide +kernel
theorem dX8_isWished_12 : decode cX8_isWished 12 = .ok (.ifCond .eq 54, 3) := by decide +kernel
theorem dX8_isWished_15 : decode cX8_isWished 15 = .ok (.aload_n 0, 1) := by decide +kernel
theorem dX8_isWished_16 : decode cX8_isWished 16 = .ok (.iconst 1, 1) := by decide +kernel
theorem dX8_isWished_17 : decode cX8_isWished 17 = .ok (.iload_n 1, 1) := by decide +kernel
theorem dX8_isWished_18 : decode cX8_isWished 18 = .ok (.aload_n 2, 1) := by decide +kernel
theorem dX8_isWished_19 : decode cX8_isWished 19 = .ok (.getfield 37, 3) := by decide +kernel
theorem dX8_isWished_22 : decode cX8_isWished 22 = .ok (.iload_n 3, 1) := by decide +kernel
theorem dX8_isWished_23 : decode cX8_isWished 23 = .ok (.iaload, 1) := by decide +kernel
theorem dX8_isWished_24 : decode cX8_isWished 24 = .ok (.invokevirtual 33, 3) := by decide +kernel
theorem dX8_isWished_27 : decode cX8_isWished 27 = .ok (.ifCond .eq 39, 3) := by decide +kernel
theorem dX8_isWished_30 : decode cX8_isWished 30 = .ok (.aload_n 0, 1) := by decide +kernel
theorem dX8_isWished_31 : decode cX8_isWished 31 = .ok (.iconst 2, 1) := by decide +kernel
theorem dX8_isWished_32 : decode cX8_isWished 32 = .ok (.iload_n 1, 1) := by decide +kernel
theorem dX8_isWished_33 : decode cX8_isWished 33 = .ok (.aload_n 2, 1) := by decide +kernel
theorem dX8_isWished_34 : decode cX8_isWished 34 = .ok (.getfield 40, 3) := by decide +kernel
theorem dX8_isWished_37 : decode cX8_isWished 37 = .ok (.iload_n 3, 1) := by decide +kernel
theorem dX8_isWished_38 : decode cX8_isWished 38 = .ok (.iaload, 1) := by decide +kernel
theorem dX8_isWished_39 : decode cX8_isWished 39 = .ok (.invokevirtual 33, 3) := by decide +kernel
theorem dX8_isWished_42 : decode cX8_isWished 42 = .ok (.ifCond .eq 24, 3) := by decide +kernel
theorem dX8_isWished_45 : decode cX8_isWished 45 = .ok (.iload 4, 2) := by decide +kernel
theorem dX8_isWished_47 : decode cX8_isWished 47 = .ok (.iconst 1, 1) := by decide +kernel
theorem dX8_isWished_48 : decode cX8_isWished 48 = .ok (.aload_n 0, 1) := by decide +kernel
theorem dX8_isWished_49 : decode cX8_isWished 49 = .ok (.getfield 21, 3) := by decide +kernel
theorem dX8_isWished_52 : decode cX8_isWished 52 = .ok (.iconst 3, 1) := by decide +kernel
theorem dX8_isWished_53 : decode cX8_isWished 53 = .ok (.aaload, 1) := by decide +kernel
theorem dX8_isWished_54 : decode cX8_isWished 54 = .ok (.iload_n 1, 1) := by decide +kernel
theorem dX8_isWished_55 : decode cX8_isWished 55 = .ok (.iaload, 1) := by decide +kernel
theorem dX8_isWished_56 : decode cX8_isWished 56 = .ok (.invokestatic 43, 3) := by decide +kernel
theorem dX8_isWished_59 : decode cX8_isWished 59 = .ok (.if_icmp .lt 7, 3) := by decide +kernel
theorem dX8_isWished_62 : decode cX8_isWished 62 = .ok (.iconst 1, 1) := by decide +kernel
theorem dX8_isWished_63 : decode cX8_isWished 63 = .ok (.goto 4, 3) := by decide +kernel
theorem dX8_isWished_66 : decode cX8_isWished 66 = .ok (.iconst 0, 1) := by decide +kernel
theorem dX8_isWished_67 : decode cX8_isWished 67 = .ok (.ireturn, 1) := by decide +kernel
theorem dX8_meets_0 : decode cX8_meets 0 = .ok (.aload_n 0, 1) := by decide +kernel
theorem dX8_meets_1 : decode cX8_meets 1 = .ok (.getfield 21, 3) := by decide +kernel
theorem dX8_meets_4 : decode cX8_meets 4 = .ok (.iload_n 1, 1) := by decide +kernel
theorem dX8_meets_5 : decode cX8_meets 5 = .ok (.aaload, 1) := by decide +kernel
theorem dX8_meets_6 : decode cX8_meets 6 = .ok (.iload_n 2, 1) := by decide +kernel
theorem dX8_meets_7 : decode cX8_meets 7 = .ok (.iaload, 1) := by decide +kernel
theorem dX8_meets_8 : decode cX8_meets 8 = .ok (.iconst (-1), 1) := by decide +kernel
theorem dX8_meets_9 : decode cX8_meets 9 = .ok (.if_icmp .eq 15, 3) := by decide +kernel
theorem dX8_meets_12 : decode cX8_meets 12 = .ok (.aload_n 0, 1) := by decide +kernel
theorem dX8_meets_13 : decode cX8_meets 13 = .ok (.getfield 21, 3) := by decide +kernel
theorem dX8_meets_16 : decode cX8_meets 16 = .ok (.iload_n 1, 1) := by decide +kernel
theorem dX8_meets_17 : decode cX8_meets 17 = .ok (.aaload, 1) := by decide +kernel
theorem dX8_meets_18 : decode cX8_meets 18 = .ok (.iload_n 2, 1) := by decide +kernel
theorem dX8_meets_19 : decode cX8_meets 19 = .ok (.iaload, 1) := by decide +kernel
theorem dX8_meets_20 : decode cX8_meets 20 = .ok (.iload_n 3, 1) := by decide +kernel
theorem dX8_meets_21 : decode cX8_meets 21 = .ok (.if_icmp .ne 7, 3) := by decide +kernel
theorem dX8_meets_24 : decode cX8_meets 24 = .ok (.iconst 1, 1) := by decide +kernel
theorem dX8_meets_25 : decode cX8_meets 25 = .ok (.goto 4, 3) := by decide +kernel
theorem dX8_meets_28 : decode cX8_meets 28 = .ok (.iconst 0, 1) := by decide +kernel
theorem dX8_meets_29 : decode cX8_meets 29 = .ok (.ireturn, 1) := by decide +kernel
theorem dX9_init_0 : decode cX9_init 0 = .ok (.aload_n 0, 1) := by decide +kernel
theorem dX9_init_1 : decode cX9_init 1 = .ok (.invokespecial 3, 3) := by decide +kernel
theorem dX9_init_4 : decode cX9_init 4 = .ok (.aload_n 0, 1) := by decide +kernel
theorem dX9_init_5 : decode cX9_init 5 = .ok (.bipush 12, 2) := by decide +kernel
theorem dX9_init_7 : decode cX9_init 7 = .ok (.newarray .long, 2) := by decide +kernel
theorem dX9_init_9 : decode cX9_init 9 = .ok (.putfield 9, 3) := by decide +kernel
theorem dX9_init_12 : decode cX9_init 12 = .ok (.aload_n 0, 1) := by decide +kernel
theorem dX9_init_13 : decode cX9_init 13 = .ok (.bipush 12, 2) := by decide +kernel
theorem dX9_init_15 : decode cX9_init 15 = .ok (.newarray .long, 2) := by decide +kernel
theorem dX9_init_17 : decode cX9_init 17 = .ok (.putfield 15, 3) := by decide +kernel
theorem dX9_init_20 : decode cX9_init 20 = .ok (.aload_n 0, 1) := by decide +kernel
theorem dX9_init_21 : decode cX9_init 21 = .ok (.iconst 5, 1) := by decide +kernel
theorem dX9_init_22 : decode cX9_init 22 = .ok (.newarray .int, 2) := by decide +kernel
theorem dX9_init_24 : decode cX9_init 24 = .ok (.putfield 18, 3) := by decide +kernel
theorem dX9_init_27 : decode cX9_init 27 = .ok (.aload_n 0, 1) := by decide +kernel
theorem dX9_init_28 : decode cX9_init 28 = .ok (.iconst 5, 1) := by decide +kernel
theorem dX9_init_29 : decode cX9_init 29 = .ok (.bipush 6, 2) := by decide +kernel
theorem dX9_init_31 : decode cX9_init 31 = .ok (.multianewarray 22 2, 4) := by decide +kernel
theorem dX9_init_35 : decode cX9_init 35 = .ok (.putfield 24, 3) := by decide +kernel
theorem dX9_init_38 : decode cX9_init 38 = .ok (.aload_n 0, 1) := by decide +kernel
theorem dX9_init_39 : decode cX9_init 39 = .ok (.bipush 32, 2) := by decide +kernel
theorem dX9_init_41 : decode cX9_init 41 = .ok (.newarray .long, 2) := by decide +kernel
theorem dX9_init_43 : decode cX9_init 43 = .ok (.putfield 27, 3) := by decide +kernel
theorem dX9_init_46 : decode cX9_init 46 = .ok (.return_, 1) := by decide +kernel
theorem dX9_weighAll_0 : decode cX9_weighAll 0 = .ok (.iconst 0, 1) := by decide +kernel
theorem dX9_weighAll_1 : decode cX9_weighAll 1 = .ok (.istore_n 2, 1) := by decide +kernel
theorem dX9_weighAll_2 : decode cX9_weighAll 2 = .ok (.iload_n 2, 1) := by decide +kernel
theorem dX9_weighAll_3 : decode cX9_weighAll 3 = .ok (.bipush 12, 2) := by decide +kernel
theorem dX9_weighAll_5 : decode cX9_weighAll 5 = .ok (.if_icmp .ge 25, 3) := by decide +kernel
theorem dX9_weighAll_8 : decode cX9_weighAll 8 = .ok (.aload_n 1, 1) := by decide +kernel
theorem dX9_weighAll_9 : decode cX9_weighAll 9 = .ok (.getfield 30, 3) := by decide +kernel
theorem dX9_weighAll_12 : decode cX9_weighAll 12 = .ok (.iload_n 2, 1) := by decide +kernel
theorem dX9_weighAll_13 : decode cX9_weighAll 13 = .ok (.iaload, 1) := by decide +kernel
theorem dX9_weighAll_14 : decode cX9_weighAll 14 = .ok (.iload_n 2, 1) := by decide +kernel
theorem dX9_weighAll_15 : decode cX9_weighAll 15 = .ok (.if_icmp .ne 9, 3) := by decide +kernel
theorem dX9_weighAll_18 : decode cX9_weighAll 18 = .ok (.aload_n 0, 1) := by decide +kernel
theorem dX9_weighAll_19 : decode cX9_weighAll 19 = .ok (.aload_n 1, 1) := by decide +kernel
theorem dX9_weighAll_20 : decode cX9_weighAll 20 = .ok (.iload_n 2, 1) := by decide +kernel
theorem dX9_weighAll_21 : decode cX9_weighAll 21 = .ok (.invokevirtual 35, 3) := by decide +kernel
theorem dX9_weighAll_24 : decode cX9_weighAll 24 = .ok (.iinc 2 1, 3) := by decide +kernel
theorem dX9_weighAll_27 : decode cX9_weighAll 27 = .ok (.goto (-25), 3) := by decide +kernel
theorem dX9_weighAll_30 : decode cX9_weighAll 30 = .ok (.return_, 1) := by decide +kernel
theorem dX9_weigh_0 : decode cX9_weigh 0 = .ok (.aload_n 0, 1) := by decide +kernel
theorem dX9_weigh_1 : decode cX9_weigh 1 = .ok (.aload_n 1, 1) := by decide +kernel
theorem dX9_weigh_2 : decode cX9_weigh 2 = .ok (.iload_n 2, 1) := by decide +kernel
theorem dX9_weigh_3 : decode cX9_weigh 3 = .ok (.invokevirtual 39, 3) := by decide +kernel
theorem dX9_weigh_6 : decode cX9_weigh 6 = .ok (.aload_n 0, 1) := by decide +kernel
theorem dX9_weigh_7 : decode cX9_weigh 7 = .ok (.aload_n 1, 1) := by decide +kernel
theorem dX9_weigh_8 : decode cX9_weigh 8 = .ok (.invokevirtual 42, 3) := by decide +kernel
theorem dX9_weigh_11 : decode cX9_weigh 11 = .ok (.aload_n 0, 1) := by decide +kernel
theorem dX9_weigh_12 : decode cX9_weigh 12 = .ok (.iconst (-1), 1) := by decide +kernel
theorem dX9_weigh_13 : decode cX9_weigh 13 = .ok (.invokevirtual 46, 3) := by decide +kernel
theorem dX9_weigh_16 : decode cX9_weigh 16 = .ok (.lstore_n 3, 1) := by decide +kernel
theorem dX9_weigh_17 : decode cX9_weigh 17 = .ok (.iconst 0, 1) := by decide +kernel
theorem dX9_weigh_18 : decode cX9_weigh 18 = .ok (.istore 5, 2) := by decide +kernel
theorem dX9_weigh_20 : decode cX9_weigh 20 = .ok (.iload 5, 2) := by decide +kernel
theorem dX9_weigh_22 : decode cX9_weigh 22 = .ok (.aload_n 0, 1) := by decide +kernel
theorem dX9_weigh_23 : decode cX9_weigh 23 = .ok (.getfield 50, 3) := by decide +kernel
theorem dX9_weigh_26 : decode cX9_weigh 26 = .ok (.if_icmp .ge 59, 3) := by decide +kernel
theorem dX9_weigh_29 : decode cX9_weigh 29 = .ok (.aload_n 0, 1) := by decide +kernel
theorem dX9_weigh_30 : decode cX9_weigh 30 = .ok (.iload 5, 2) := by decide +kernel
theorem dX9_weigh_32 : decode cX9_weigh 32 = .ok (.invokevirtual 46, 3) := by decide +kernel
theorem dX9_weigh_35 : decode cX9_weigh 35 = .ok (.lstore 6, 2) := by decide +kernel
theorem dX9_weigh_37 : decode cX9_weigh 37 = .ok (.aload_n 0, 1) := by decide +kernel
theorem dX9_weigh_38 : decode cX9_weigh 38 = .ok (.getfield 9, 3) := by decide +kernel
theorem dX9_weigh_41 : decode cX9_weigh 41 = .ok (.aload_n 0, 1) := by decide +kernel
theorem dX9_weigh_42 : decode cX9_weigh 42 = .ok (.getfield 18, 3) := by decide +kernel
theorem dX9_weigh_45 : decode cX9_weigh 45 = .ok (.iload 5, 2) := by decide +kernel
theorem dX9_weigh_47 : decode cX9_weigh 47 = .ok (.iaload, 1) := by decide +kernel
theorem dX9_weigh_48 : decode cX9_weigh 48 = .ok (.lload_n 3, 1) := by decide +kernel
theorem dX9_weigh_49 : decode cX9_weigh 49 = .ok (.lconst 0, 1) := by decide +kernel
theorem dX9_weigh_50 : decode cX9_weigh 50 = .ok (.lcmp, 1) := by decide +kernel
theorem dX9_weigh_51 : decode cX9_weigh 51 = .ok (.ifCond .ge 9, 3) := by decide +kernel
theorem dX9_weigh_54 : decode cX9_weigh 54 = .ok (.lload 6, 2) := by decide +kernel
theorem dX9_weigh_56 : decode cX9_weigh 56 = .ok (.lneg, 1) := by decide +kernel
theorem dX9_weigh_57 : decode cX9_weigh 57 = .ok (.goto 5, 3) := by decide +kernel
theorem dX9_weigh_60 : decode cX9_weigh 60 = .ok (.lload 6, 2) := by decide +kernel
theorem dX9_weigh_62 : decode cX9_weigh 62 = .ok (.lastore, 1) := by decide +kernel
theorem dX9_weigh_63 : decode cX9_weigh 63 = .ok (.aload_n 0, 1) := by decide +kernel
theorem dX9_weigh_64 : decode cX9_weigh 64 = .ok (.getfield 15, 3) := by decide +kernel
theorem dX9_weigh_67 : decode cX9_weigh 67 = .ok (.aload_n 0, 1) := by decide +kernel
theorem dX9_weigh_68 : decode cX9_weigh 68 = .ok (.getfield 18, 3) := by decide +kernel
theorem dX9_weigh_71 : decode cX9_weigh 71 = .ok (.iload 5, 2) := by decide +kernel
theorem dX9_weigh_73 : decode cX9_weigh 73 = .ok (.iaload, 1) := by decide +kernel
theorem dX9_weigh_74 : decode cX9_weigh 74 = .ok (.lload_n 3, 1) := by decide +kernel
theorem dX9_weigh_75 : decode cX9_weigh 75 = .ok (.invokestatic 54, 3) := by decide +kernel
theorem dX9_weigh_78 : decode cX9_weigh 78 = .ok (.lastore, 1) := by decide +kernel
theorem dX9_weigh_79 : decode cX9_weigh 79 = .ok (.iinc 5 1, 3) := by decide +kernel
theorem dX9_weigh_82 : decode cX9_weigh 82 = .ok (.goto (-62), 3) := by decide +kernel
theorem dX9_weigh_85 : decode cX9_weigh 85 = .ok (.return_, 1) := by decide +kernel
theorem dX9_rate_0 : decode cX9_rate 0 = .ok (.lconst 0, 1) := by decide +kernel
theorem dX9_rate_1 : decode cX9_rate 1 = .ok (.lstore 4, 2) := by decide +kernel
theorem dX9_rate_3 : decode cX9_rate 3 = .ok (.lconst 0, 1) := by decide +kernel
theorem dX9_rate_4 : decode cX9_rate 4 = .ok (.lstore 6, 2) := by decide +kernel
theorem dX9_rate_6 : decode cX9_rate 6 = .ok (.iconst 0, 1) := by decide +kernel
theorem dX9_rate_7 : decode cX9_rate 7 = .ok (.istore 8, 2) := by decide +kernel
theorem dX9_rate_9 : decode cX9_rate 9 = .ok (.iload 8, 2) := by decide +kernel
theorem dX9_rate_11 : decode cX9_rate 11 = .ok (.bipush 12, 2) := by decide +kernel
theorem dX9_rate_13 : decode cX9_rate 13 = .ok (.if_icmp .ge 60, 3) := by decide +kernel
theorem dX9_rate_16 : decode cX9_rate 16 = .ok (.aload_n 1, 1) := by decide +kernel
theorem dX9_rate_17 : decode cX9_rate 17 = .ok (.iload 8, 2) := by decide +kernel
theorem dX9_rate_19 : decode cX9_rate 19 = .ok (.iload_n 2, 1) := by decide +kernel
theorem dX9_rate_20 : decode cX9_rate 20 = .ok (.invokevirtual 60, 3) := by decide +kernel
theorem dX9_rate_23 : decode cX9_rate 23 = .ok (.istore 9, 2) := by decide +kernel
theorem dX9_rate_25 : decode cX9_rate 25 = .ok (.iload 9, 2) := by decide +kernel
theorem dX9_rate_27 : decode cX9_rate 27 = .ok (.iconst (-1), 1) := by decide +kernel
theorem dX9_rate_28 : decode cX9_rate 28 = .ok (.if_icmp .eq 39, 3) := by decide +kernel
theorem dX9_rate_31 : decode cX9_rate 31 = .ok (.lload 4, 2) := by decide +kernel
theorem dX9_rate_33 : decode cX9_rate 33 = .ok (.iload 9, 2) := by decide +kernel
theorem dX9_rate_35 : decode cX9_rate 35 = .ok (.i2l, 1) := by decide +kernel
theorem dX9_rate_36 : decode cX9_rate 36 = .ok (.aload_n 0, 1) := by decide +kernel
theorem dX9_rate_37 : decode cX9_rate 37 = .ok (.getfield 15, 3) := by decide +kernel
theorem dX9_rate_40 : decode cX9_rate 40 = .ok (.iload 8, 2) := by decide +kernel
theorem dX9_rate_42 : decode cX9_rate 42 = .ok (.laload, 1) := by decide +kernel
theorem dX9_rate_43 : decode cX9_rate 43 = .ok (.lmul, 1) := by decide +kernel
theorem dX9_rate_44 : decode cX9_rate 44 = .ok (.aload_n 0, 1) := by decide +kernel
theorem dX9_rate_45 : decode cX9_rate 45 = .ok (.getfield 9, 3) := by decide +kernel
theorem dX9_rate_48 : decode cX9_rate 48 = .ok (.iload 8, 2) := by decide +kernel
theorem dX9_rate_50 : decode cX9_rate 50 = .ok (.laload, 1) := by decide +kernel
theorem dX9_rate_51 : decode cX9_rate 51 = .ok (.lsub, 1) := by decide +kernel
theorem dX9_rate_52 : decode cX9_rate 52 = .ok (.ladd, 1) := by decide +kernel
theorem dX9_rate_53 : decode cX9_rate 53 = .ok (.lstore 4, 2) := by decide +kernel
theorem dX9_rate_55 : decode cX9_rate 55 = .ok (.lload 6, 2) := by decide +kernel
theorem dX9_rate_57 : decode cX9_rate 57 = .ok (.aload_n 0, 1) := by decide +kernel
theorem dX9_rate_58 : decode cX9_rate 58 = .ok (.getfield 15, 3) := by decide +kernel
theorem dX9_rate_61 : decode cX9_rate 61 = .ok (.iload 8, 2) := by decide +kernel
theorem dX9_rate_63 : decode cX9_rate 63 = .ok (.laload, 1) := by decide +kernel
theorem dX9_rate_64 : decode cX9_rate 64 = .ok (.ladd, 1) := by decide +kernel
theorem dX9_rate_65 : decode cX9_rate 65 = .ok (.lstore 6, 2) := by decide +kernel
theorem dX9_rate_67 : decode cX9_rate 67 = .ok (.iinc 8 1, 3) := by decide +kernel
theorem dX9_rate_70 : decode cX9_rate 70 = .ok (.goto (-61), 3) := by decide +kernel
theorem dX9_rate_73 : decode cX9_rate 73 = .ok (.aload_n 3, 1) := by decide +kernel
theorem dX9_rate_74 : decode cX9_rate 74 = .ok (.lload 4, 2) := by decide +kernel
theorem dX9_rate_76 : decode cX9_rate 76 = .ok (.lload 6, 2) := by decide +kernel
theorem dX9_rate_78 : decode cX9_rate 78 = .ok (.invokevirtual 64, 3) := by decide +kernel
theorem dX9_rate_81 : decode cX9_rate 81 = .ok (.return_, 1) := by decide +kernel
theorem dX9_gather_0 : decode cX9_gather 0 = .ok (.aload_n 0, 1) := by decide +kernel
theorem dX9_gather_1 : decode cX9_gather 1 = .ok (.iconst 0, 1) := by decide +kernel
theorem dX9_gather_2 : decode cX9_gather 2 = .ok (.putfield 50, 3) := by decide +kernel
theorem dX9_gather_5 : decode cX9_gather 5 = .ok (.iconst 0, 1) := by decide +kernel
theorem dX9_gather_6 : decode cX9_gather 6 = .ok (.istore_n 3, 1) := by decide +kernel
theorem dX9_gather_7 : decode cX9_gather 7 = .ok (.iload_n 3, 1) := by decide +kernel
theorem dX9_gather_8 : decode cX9_gather 8 = .ok (.bipush 12, 2) := by decide +kernel
theorem dX9_gather_10 : decode cX9_gather 10 = .ok (.if_icmp .ge 47, 3) := by decide +kernel
theorem dX9_gather_13 : decode cX9_gather 13 = .ok (.aload_n 1, 1) := by decide +kernel
theorem dX9_gather_14 : decode cX9_gather 14 = .ok (.getfield 30, 3) := by decide +kernel
theorem dX9_gather_17 : decode cX9_gather 17 = .ok (.iload_n 3, 1) := by decide +kernel
theorem dX9_gather_18 : decode cX9_gather 18 = .ok (.iaload, 1) := by decide +kernel
theorem dX9_gather_19 : decode cX9_gather 19 = .ok (.iload_n 2, 1) := by decide +kernel
theorem dX9_gather_20 : decode cX9_gather 20 = .ok (.if_icmp .ne 31, 3) := by decide +kernel
theorem dX9_gather_23 : decode cX9_gather 23 = .ok (.aload_n 0, 1) := by decide +kernel
theorem dX9_gather_24 : decode cX9_gather 24 = .ok (.getfield 50, 3) := by decide +kernel
theorem dX9_gather_27 : decode cX9_gather 27 = .ok (.iconst 5, 1) := by decide +kernel
theorem dX9_gather_28 : decode cX9_gather 28 = .ok (.if_icmp .ge 23, 3) := by decide +kernel
theorem dX9_gather_31 : decode cX9_gather 31 = .ok (.aload_n 0, 1) := by decide +kernel
theorem dX9_gather_32 : decode cX9_gather 32 = .ok (.getfield 18, 3) := by decide +kernel
theorem dX9_gather_35 : decode cX9_gather 35 = .ok (.aload_n 0, 1) := by decide +kernel
theorem dX9_gather_36 : decode cX9_gather 36 = .ok (.getfield 50, 3) := by decide +kernel
theorem dX9_gather_39 : decode cX9_gather 39 = .ok (.iload_n 3, 1) := by decide +kernel
theorem dX9_gather_40 : decode cX9_gather 40 = .ok (.iastore, 1) := by decide +kernel
theorem dX9_gather_41 : decode cX9_gather 41 = .ok (.aload_n 0, 1) := by decide +kernel
theorem dX9_gather_42 : decode cX9_gather 42 = .ok (.dup, 1) := by decide +kernel
theorem dX9_gather_43 : decode cX9_gather 43 = .ok (.getfield 50, 3) := by decide +kernel
theorem dX9_gather_46 : decode cX9_gather 46 = .ok (.iconst 1, 1) := by decide +kernel
theorem dX9_gather_47 : decode cX9_gather 47 = .ok (.iadd, 1) := by decide +kernel
theorem dX9_gather_48 : decode cX9_gather 48 = .ok (.putfield 50, 3) := by decide +kernel
theorem dX9_gather_51 : decode cX9_gather 51 = .ok (.iinc 3 1, 3) := by decide +kernel
theorem dX9_gather_54 : decode cX9_gather 54 = .ok (.goto (-47), 3) := by decide +kernel
theorem dX9_gather_57 : decode cX9_gather 57 = .ok (.return_, 1) := by decide +kernel
theorem dX9_setRows_0 : decode cX9_setRows 0 = .ok (.iconst 0, 1) := by decide +kernel
theorem dX9_setRows_1 : decode cX9_setRows 1 = .ok (.istore_n 2, 1) := by decide +kernel
theorem dX9_setRows_2 : decode cX9_setRows 2 = .ok (.iload_n 2, 1) := by decide +kernel
theorem dX9_setRows_3 : decode cX9_setRows 3 = .ok (.aload_n 0, 1) := by decide +kernel
theorem dX9_setRows_4 : decode cX9_setRows 4 = .ok (.getfield 50, 3) := by decide +kernel
theorem dX9_setRows_7 : decode cX9_setRows 7 = .ok (.if_icmp .ge 31, 3) := by decide +kernel
theorem dX9_setRows_10 : decode cX9_setRows 10 = .ok (.iconst 0, 1) := by decide +kernel
theorem dX9_setRows_11 : decode cX9_setRows 11 = .ok (.istore_n 3, 1) := by decide +kernel
theorem dX9_setRows_12 : decode cX9_setRows 12 = .ok (.iload_n 3, 1) := by decide +kernel
theorem dX9_setRows_13 : decode cX9_setRows 13 = .ok (.iconst 5, 1) := by decide +kernel
theorem dX9_setRows_14 : decode cX9_setRows 14 = .ok (.if_icmp .gt 18, 3) := by decide +kernel
theorem dX9_setRows_17 : decode cX9_setRows 17 = .ok (.aload_n 0, 1) := by decide +kernel
theorem dX9_setRows_18 : decode cX9_setRows 18 = .ok (.getfield 24, 3) := by decide +kernel
theorem dX9_setRows_21 : decode cX9_setRows 21 = .ok (.iload_n 2, 1) := by decide +kernel
theorem dX9_setRows_22 : decode cX9_setRows 22 = .ok (.aaload, 1) := by decide +kernel
theorem dX9_setRows_23 : decode cX9_setRows 23 = .ok (.iload_n 3, 1) := by decide +kernel
theorem dX9_setRows_24 : decode cX9_setRows 24 = .ok (.lconst 0, 1) := by decide +kernel
theorem dX9_setRows_25 : decode cX9_setRows 25 = .ok (.lastore, 1) := by decide +kernel
theorem dX9_setRows_26 : decode cX9_setRows 26 = .ok (.iinc 3 1, 3) := by decide +kernel
theorem dX9_setRows_29 : decode cX9_setRows 29 = .ok (.goto (-17), 3) := by decide +kernel
theorem dX9_setRows_32 : decode cX9_setRows 32 = .ok (.iinc 2 1, 3) := by decide +kernel
theorem dX9_setRows_35 : decode cX9_setRows 35 = .ok (.goto (-33), 3) := by decide +kernel
theorem dX9_setRows_38 : decode cX9_setRows 38 = .ok (.iconst 0, 1) := by decide +kernel
theorem dX9_setRows_39 : decode cX9_setRows 39 = .ok (.istore_n 2, 1) := by decide +kernel
theorem dX9_setRows_40 : decode cX9_setRows 40 = .ok (.iload_n 2, 1) := by decide +kernel
theorem dX9_setRows_41 : decode cX9_setRows 41 = .ok (.bipush 24, 2) := by decide +kernel
theorem dX9_setRows_43 : decode cX9_setRows 43 = .ok (.if_icmp .ge 15, 3) := by decide +kernel
theorem dX9_setRows_46 : decode cX9_setRows 46 = .ok (.aload_n 0, 1) := by decide +kernel
theorem dX9_setRows_47 : decode cX9_setRows 47 = .ok (.aload_n 1, 1) := by decide +kernel
theorem dX9_setRows_48 : decode cX9_setRows 48 = .ok (.iload_n 2, 1) := by decide +kernel
theorem dX9_setRows_49 : decode cX9_setRows 49 = .ok (.invokevirtual 70, 3) := by decide +kernel
theorem dX9_setRows_52 : decode cX9_setRows 52 = .ok (.iinc 2 1, 3) := by decide +kernel
theorem dX9_setRows_55 : decode cX9_setRows 55 = .ok (.goto (-15), 3) := by decide +kernel
theorem dX9_setRows_58 : decode cX9_setRows 58 = .ok (.aload_n 0, 1) := by decide +kernel
theorem dX9_setRows_59 : decode cX9_setRows 59 = .ok (.getfield 50, 3) := by decide +kernel
theorem dX9_setRows_62 : decode cX9_setRows 62 = .ok (.iconst 1, 1) := by decide +kernel
theorem dX9_setRows_63 : decode cX9_setRows 63 = .ok (.isub, 1) := by decide +kernel
theorem dX9_setRows_64 : decode cX9_setRows 64 = .ok (.istore_n 2, 1) := by decide +kernel
theorem dX9_setRows_65 : decode cX9_setRows 65 = .ok (.iconst 0, 1) := by decide +kernel
theorem dX9_setRows_66 : decode cX9_setRows 66 = .ok (.istore_n 3, 1) := by decide +kernel
theorem dX9_setRows_67 : decode cX9_setRows 67 = .ok (.iload_n 3, 1) := by decide +kernel
theorem dX9_setRows_68 : decode cX9_setRows 68 = .ok (.iconst 5, 1) := by decide +kernel
theorem dX9_setRows_69 : decode cX9_setRows 69 = .ok (.if_icmp .gt 31, 3) := by decide +kernel
theorem dX9_setRows_72 : decode cX9_setRows 72 = .ok (.iload_n 2, 1) := by decide +kernel
theorem dX9_setRows_73 : decode cX9_setRows 73 = .ok (.ifCond .lt 27, 3) := by decide +kernel
theorem dX9_setRows_76 : decode cX9_setRows 76 = .ok (.aload_n 0, 1) := by decide +kernel
theorem dX9_setRows_77 : decode cX9_setRows 77 = .ok (.getfield 24, 3) := by decide +kernel
theorem dX9_setRows_80 : decode cX9_setRows 80 = .ok (.iload_n 2, 1) := by decide +kernel
theorem dX9_setRows_81 : decode cX9_setRows 81 = .ok (.aaload, 1) := by decide +kernel
theorem dX9_setRows_82 : decode cX9_setRows 82 = .ok (.iload_n 3, 1) := by decide +kernel
theorem dX9_setRows_83 : decode cX9_setRows 83 = .ok (.iload_n 3, 1) := by decide +kernel
theorem dX9_setRows_84 : decode cX9_setRows 84 = .ok (.iconst 5, 1) := by decide +kernel
theorem dX9_setRows_85 : decode cX9_setRows 85 = .ok (.if_icmp .ne 7, 3) := by decide +kernel
theorem dX9_setRows_88 : decode cX9_setRows 88 = .ok (.lconst 0, 1) := by decide +kernel
theorem dX9_setRows_89 : decode cX9_setRows 89 = .ok (.goto 4, 3) := by decide +kernel
theorem dX9_setRows_92 : decode cX9_setRows 92 = .ok (.lconst 1, 1) := by decide +kernel
theorem dX9_setRows_93 : decode cX9_setRows 93 = .ok (.lastore, 1) := by decide +kernel
theorem dX9_setRows_94 : decode cX9_setRows 94 = .ok (.iinc 3 1, 3) := by decide +kernel
theorem dX9_setRows_97 : decode cX9_setRows 97 = .ok (.goto (-30), 3) := by decide +kernel
theorem dX9_setRows_100 : decode cX9_setRows 100 = .ok (.return_, 1) := by decide +kernel
theorem dX9_addBoard_0 : decode cX9_addBoard 0 = .ok (.iconst 0, 1) := by decide +kernel
theorem dX9_addBoard_1 : decode cX9_addBoard 1 = .ok (.istore_n 3, 1) := by decide +kernel
theorem dX9_addBoard_2 : decode cX9_addBoard 2 = .ok (.iconst 0, 1) := by decide +kernel
theorem dX9_addBoard_3 : decode cX9_addBoard 3 = .ok (.istore 4, 2) := by decide +kernel
theorem dX9_addBoard_5 : decode cX9_addBoard 5 = .ok (.iconst 0, 1) := by decide +kernel
theorem dX9_addBoard_6 : decode cX9_addBoard 6 = .ok (.istore 5, 2) := by decide +kernel
theorem dX9_addBoard_8 : decode cX9_addBoard 8 = .ok (.iload 5, 2) := by decide +kernel
theorem dX9_addBoard_10 : decode cX9_addBoard 10 = .ok (.aload_n 0, 1) := by decide +kernel
theorem dX9_addBoard_11 : decode cX9_addBoard 11 = .ok (.getfield 50, 3) := by decide +kernel
theorem dX9_addBoard_14 : decode cX9_addBoard 14 = .ok (.if_icmp .ge 39, 3) := by decide +kernel
theorem dX9_addBoard_17 : decode cX9_addBoard 17 = .ok (.aload_n 1, 1) := by decide +kernel
theorem dX9_addBoard_18 : decode cX9_addBoard 18 = .ok (.aload_n 0, 1) := by decide +kernel
theorem dX9_addBoard_19 : decode cX9_addBoard 19 = .ok (.getfield 18, 3) := by decide +kernel
theorem dX9_addBoard_22 : decode cX9_addBoard 22 = .ok (.iload 5, 2) := by decide +kernel
theorem dX9_addBoard_24 : decode cX9_addBoard 24 = .ok (.iaload, 1) := by decide +kernel
theorem dX9_addBoard_25 : decode cX9_addBoard 25 = .ok (.iload_n 2, 1) := by decide +kernel
theorem dX9_addBoard_26 : decode cX9_addBoard 26 = .ok (.invokevirtual 60, 3) := by decide +kernel
theorem dX9_addBoard_29 : decode cX9_addBoard 29 = .ok (.istore 6, 2) := by decide +kernel
theorem dX9_addBoard_31 : decode cX9_addBoard 31 = .ok (.iload 6, 2) := by decide +kernel
theorem dX9_addBoard_33 : decode cX9_addBoard 33 = .ok (.iconst (-1), 1) := by decide +kernel
theorem dX9_addBoard_34 : decode cX9_addBoard 34 = .ok (.if_icmp .eq 13, 3) := by decide +kernel
theorem dX9_addBoard_37 : decode cX9_addBoard 37 = .ok (.iinc 3 1, 3) := by decide +kernel
theorem dX9_addBoard_40 : decode cX9_addBoard 40 = .ok (.iload 4, 2) := by decide +kernel
theorem dX9_addBoard_42 : decode cX9_addBoard 42 = .ok (.iload 6, 2) := by decide +kernel
theorem dX9_addBoard_44 : decode cX9_addBoard 44 = .ok (.iadd, 1) := by decide +kernel
theorem dX9_addBoard_45 : decode cX9_addBoard 45 = .ok (.istore 4, 2) := by decide +kernel
theorem dX9_addBoard_47 : decode cX9_addBoard 47 = .ok (.iinc 5 1, 3) := by decide +kernel
theorem dX9_addBoard_50 : decode cX9_addBoard 50 = .ok (.goto (-42), 3) := by decide +kernel
theorem dX9_addBoard_53 : decode cX9_addBoard 53 = .ok (.iload_n 3, 1) := by decide +kernel
theorem dX9_addBoard_54 : decode cX9_addBoard 54 = .ok (.ifCond .ne 7, 3) := by decide +kernel
theorem dX9_addBoard_57 : decode cX9_addBoard 57 = .ok (.iconst 0, 1) := by decide +kernel
theorem dX9_addBoard_58 : decode cX9_addBoard 58 = .ok (.goto 7, 3) := by decide +kernel
theorem dX9_addBoard_61 : decode cX9_addBoard 61 = .ok (.bipush 60, 2) := by decide +kernel
theorem dX9_addBoard_63 : decode cX9_addBoard 63 = .ok (.iload_n 3, 1) := by decide +kernel
theorem dX9_addBoard_64 : decode cX9_addBoard 64 = .ok (.idiv, 1) := by decide +kernel
theorem dX9_addBoard_65 : decode cX9_addBoard 65 = .ok (.istore 5, 2) := by decide +kernel
theorem dX9_addBoard_67 : decode cX9_addBoard 67 = .ok (.iconst 0, 1) := by decide +kernel
theorem dX9_addBoard_68 : decode cX9_addBoard 68 = .ok (.istore 6, 2) := by decide +kernel
theorem dX9_addBoard_70 : decode cX9_addBoard 70 = .ok (.iload 6, 2) := by decide +kernel
theorem dX9_addBoard_72 : decode cX9_addBoard 72 = .ok (.aload_n 0, 1) := by decide +kernel
theorem dX9_addBoard_73 : decode cX9_addBoard 73 = .ok (.getfield 50, 3) := by decide +kernel
theorem dX9_addBoard_76 : decode cX9_addBoard 76 = .ok (.if_icmp .ge 84, 3) := by decide +kernel
theorem dX9_addBoard_79 : decode cX9_addBoard 79 = .ok (.iload_n 3, 1) := by decide +kernel
theorem dX9_addBoard_80 : decode cX9_addBoard 80 = .ok (.iconst 1, 1) := by decide +kernel
theorem dX9_addBoard_81 : decode cX9_addBoard 81 = .ok (.if_icmp .le 79, 3) := by decide +kernel
theorem dX9_addBoard_84 : decode cX9_addBoard 84 = .ok (.aload_n 1, 1) := by decide +kernel
theorem dX9_addBoard_85 : decode cX9_addBoard 85 = .ok (.aload_n 0, 1) := by decide +kernel
theorem dX9_addBoard_86 : decode cX9_addBoard 86 = .ok (.getfield 18, 3) := by decide +kernel
theorem dX9_addBoard_89 : decode cX9_addBoard 89 = .ok (.iload 6, 2) := by decide +kernel
theorem dX9_addBoard_91 : decode cX9_addBoard 91 = .ok (.iaload, 1) := by decide +kernel
theorem dX9_addBoard_92 : decode cX9_addBoard 92 = .ok (.iload_n 2, 1) := by decide +kernel
theorem dX9_addBoard_93 : decode cX9_addBoard 93 = .ok (.invokevirtual 60, 3) := by decide +kernel
theorem dX9_addBoard_96 : decode cX9_addBoard 96 = .ok (.istore 7, 2) := by decide +kernel
theorem dX9_addBoard_98 : decode cX9_addBoard 98 = .ok (.iload 7, 2) := by decide +kernel
theorem dX9_addBoard_100 : decode cX9_addBoard 100 = .ok (.iconst (-1), 1) := by decide +kernel
theorem dX9_addBoard_101 : decode cX9_addBoard 101 = .ok (.if_icmp .eq 53, 3) := by decide +kernel
theorem dX9_addBoard_104 : decode cX9_addBoard 104 = .ok (.aload_n 0, 1) := by decide +kernel
theorem dX9_addBoard_105 : decode cX9_addBoard 105 = .ok (.getfield 24, 3) := by decide +kernel
theorem dX9_addBoard_108 : decode cX9_addBoard 108 = .ok (.iload 6, 2) := by decide +kernel
theorem dX9_addBoard_110 : decode cX9_addBoard 110 = .ok (.aaload, 1) := by decide +kernel
theorem dX9_addBoard_111 : decode cX9_addBoard 111 = .ok (.iload 6, 2) := by decide +kernel
theorem dX9_addBoard_113 : decode cX9_addBoard 113 = .ok (.dup2, 1) := by decide +kernel
theorem dX9_addBoard_114 : decode cX9_addBoard 114 = .ok (.laload, 1) := by decide +kernel
theorem dX9_addBoard_115 : decode cX9_addBoard 115 = .ok (.ldc2_w 73, 3) := by decide +kernel
theorem dX9_addBoard_118 : decode cX9_addBoard 118 = .ok (.ladd, 1) := by decide +kernel
theorem dX9_addBoard_119 : decode cX9_addBoard 119 = .ok (.lastore, 1) := by decide +kernel
theorem dX9_addBoard_120 : decode cX9_addBoard 120 = .ok (.aload_n 0, 1) := by decide +kernel
theorem dX9_addBoard_121 : decode cX9_addBoard 121 = .ok (.getfield 24, 3) := by decide +kernel
theorem dX9_addBoard_124 : decode cX9_addBoard 124 = .ok (.iload 6, 2) := by decide +kernel
theorem dX9_addBoard_126 : decode cX9_addBoard 126 = .ok (.aaload, 1) := by decide +kernel
theorem dX9_addBoard_127 : decode cX9_addBoard 127 = .ok (.iconst 5, 1) := by decide +kernel
theorem dX9_addBoard_128 : decode cX9_addBoard 128 = .ok (.dup2, 1) := by decide +kernel
theorem dX9_addBoard_129 : decode cX9_addBoard 129 = .ok (.laload, 1) := by decide +kernel
theorem dX9_addBoard_130 : decode cX9_addBoard 130 = .ok (.bipush 60, 2) := by decide +kernel
theorem dX9_addBoard_132 : decode cX9_addBoard 132 = .ok (.iload 7, 2) := by decide +kernel
theorem dX9_addBoard_134 : decode cX9_addBoard 134 = .ok (.imul, 1) := by decide +kernel
theorem dX9_addBoard_135 : decode cX9_addBoard 135 = .ok (.iload 5, 2) := by decide +kernel
theorem dX9_addBoard_137 : decode cX9_addBoard 137 = .ok (.iload 4, 2) := by decide +kernel
theorem dX9_addBoard_139 : decode cX9_addBoard 139 = .ok (.imul, 1) := by decide +kernel
theorem dX9_addBoard_140 : decode cX9_addBoard 140 = .ok (.isub, 1) := by decide +kernel
theorem dX9_addBoard_141 : decode cX9_addBoard 141 = .ok (.i2l, 1) := by decide +kernel
theorem dX9_addBoard_142 : decode cX9_addBoard 142 = .ok (.ladd, 1) := by decide +kernel
theorem dX9_addBoard_143 : decode cX9_addBoard 143 = .ok (.lastore, 1) := by decide +kernel
theorem dX9_addBoard_144 : decode cX9_addBoard 144 = .ok (.aload_n 0, 1) := by decide +kernel
theorem dX9_addBoard_145 : decode cX9_addBoard 145 = .ok (.aload_n 1, 1) := by decide +kernel
theorem dX9_addBoard_146 : decode cX9_addBoard 146 = .ok (.iload_n 2, 1) := by decide +kernel
theorem dX9_addBoard_147 : decode cX9_addBoard 147 = .ok (.iload 6, 2) := by decide +kernel
theorem dX9_addBoard_149 : decode cX9_addBoard 149 = .ok (.iload 5, 2) := by decide +kernel
theorem dX9_addBoard_151 : decode cX9_addBoard 151 = .ok (.invokevirtual 75, 3) := by decide +kernel
theorem dX9_addBoard_154 : decode cX9_addBoard 154 = .ok (.iinc 6 1, 3) := by decide +kernel
theorem dX9_addBoard_157 : decode cX9_addBoard 157 = .ok (.goto (-87), 3) := by decide +kernel
theorem dX9_addBoard_160 : decode cX9_addBoard 160 = .ok (.return_, 1) := by decide +kernel
theorem dX9_takeShares_0 : decode cX9_takeShares 0 = .ok (.iconst 0, 1) := by decide +kernel
theorem dX9_takeShares_1 : decode cX9_takeShares 1 = .ok (.istore 5, 2) := by decide +kernel
theorem dX9_takeShares_3 : decode cX9_takeShares 3 = .ok (.iload 5, 2) := by decide +kernel
theorem dX9_takeShares_5 : decode cX9_takeShares 5 = .ok (.aload_n 0, 1) := by decide +kernel
theorem dX9_takeShares_6 : decode cX9_takeShares 6 = .ok (.getfield 50, 3) := by decide +kernel
theorem dX9_takeShares_9 : decode cX9_takeShares 9 = .ok (.if_icmp .ge 40, 3) := by decide +kernel
theorem dX9_takeShares_12 : decode cX9_takeShares 12 = .ok (.aload_n 1, 1) := by decide +kernel
theorem dX9_takeShares_13 : decode cX9_takeShares 13 = .ok (.aload_n 0, 1) := by decide +kernel
theorem dX9_takeShares_14 : decode cX9_takeShares 14 = .ok (.getfield 18, 3) := by decide +kernel
theorem dX9_takeShares_17 : decode cX9_takeShares 17 = .ok (.iload 5, 2) := by decide +kernel
theorem dX9_takeShares_19 : decode cX9_takeShares 19 = .ok (.iaload, 1) := by decide +kernel
theorem dX9_takeShares_20 : decode cX9_takeShares 20 = .ok (.iload_n 2, 1) := by decide +kernel
theorem dX9_takeShares_21 : decode cX9_takeShares 21 = .ok (.invokevirtual 60, 3) := by decide +kernel
theorem dX9_takeShares_24 : decode cX9_takeShares 24 = .ok (.iconst (-1), 1) := by decide +kernel
theorem dX9_takeShares_25 : decode cX9_takeShares 25 = .ok (.if_icmp .eq 18, 3) := by decide +kernel
theorem dX9_takeShares_28 : decode cX9_takeShares 28 = .ok (.aload_n 0, 1) := by decide +kernel
theorem dX9_takeShares_29 : decode cX9_takeShares 29 = .ok (.getfield 24, 3) := by decide +kernel
theorem dX9_takeShares_32 : decode cX9_takeShares 32 = .ok (.iload_n 3, 1) := by decide +kernel
theorem dX9_takeShares_33 : decode cX9_takeShares 33 = .ok (.aaload, 1) := by decide +kernel
theorem dX9_takeShares_34 : decode cX9_takeShares 34 = .ok (.iload 5, 2) := by decide +kernel
theorem dX9_takeShares_36 : decode cX9_takeShares 36 = .ok (.dup2, 1) := by decide +kernel
theorem dX9_takeShares_37 : decode cX9_takeShares 37 = .ok (.laload, 1) := by decide +kernel
theorem dX9_takeShares_38 : decode cX9_takeShares 38 = .ok (.iload 4, 2) := by decide +kernel
theorem dX9_takeShares_40 : decode cX9_takeShares 40 = .ok (.i2l, 1) := by decide +kernel
theorem dX9_takeShares_41 : decode cX9_takeShares 41 = .ok (.lsub, 1) := by decide +kernel
theorem dX9_takeShares_42 : decode cX9_takeShares 42 = .ok (.lastore, 1) := by decide +kernel
theorem dX9_takeShares_43 : decode cX9_takeShares 43 = .ok (.iinc 5 1, 3) := by decide +kernel
theorem dX9_takeShares_46 : decode cX9_takeShares 46 = .ok (.goto (-43), 3) := by decide +kernel
theorem dX9_takeShares_49 : decode cX9_takeShares 49 = .ok (.return_, 1) := by decide +kernel
theorem dX9_determinant_0 : decode cX9_determinant 0 = .ok (.iconst 1, 1) := by decide +kernel
theorem dX9_determinant_1 : decode cX9_determinant 1 = .ok (.aload_n 0, 1) := by decide +kernel
theorem dX9_determinant_2 : decode cX9_determinant 2 = .ok (.getfield 50, 3) := by decide +kernel
theorem dX9_determinant_5 : decode cX9_determinant 5 = .ok (.ishl, 1) := by decide +kernel
theorem dX9_determinant_6 : decode cX9_determinant 6 = .ok (.iconst 1, 1) := by decide +kernel
theorem dX9_determinant_7 : decode cX9_determinant 7 = .ok (.isub, 1) := by decide +kernel
theorem dX9_determinant_8 : decode cX9_determinant 8 = .ok (.istore_n 2, 1) := by decide +kernel
theorem dX9_determinant_9 : decode cX9_determinant 9 = .ok (.aload_n 0, 1) := by decide +kernel
theorem dX9_determinant_10 : decode cX9_determinant 10 = .ok (.getfield 27, 3) := by decide +kernel
theorem dX9_determinant_13 : decode cX9_determinant 13 = .ok (.iconst 0, 1) := by decide +kernel
theorem dX9_determinant_14 : decode cX9_determinant 14 = .ok (.lconst 1, 1) := by decide +kernel
theorem dX9_determinant_15 : decode cX9_determinant 15 = .ok (.lastore, 1) := by decide +kernel
theorem dX9_determinant_16 : decode cX9_determinant 16 = .ok (.iconst 1, 1) := by decide +kernel
theorem dX9_determinant_17 : decode cX9_determinant 17 = .ok (.istore_n 3, 1) := by decide +kernel
theorem dX9_determinant_18 : decode cX9_determinant 18 = .ok (.iload_n 3, 1) := by decide +kernel
theorem dX9_determinant_19 : decode cX9_determinant 19 = .ok (.iload_n 2, 1) := by decide +kernel
theorem dX9_determinant_20 : decode cX9_determinant 20 = .ok (.if_icmp .gt 21, 3) := by decide +kernel
theorem dX9_determinant_23 : decode cX9_determinant 23 = .ok (.aload_n 0, 1) := by decide +kernel
theorem dX9_determinant_24 : decode cX9_determinant 24 = .ok (.getfield 27, 3) := by decide +kernel
theorem dX9_determinant_27 : decode cX9_determinant 27 = .ok (.iload_n 3, 1) := by decide +kernel
theorem dX9_determinant_28 : decode cX9_determinant 28 = .ok (.aload_n 0, 1) := by decide +kernel
theorem dX9_determinant_29 : decode cX9_determinant 29 = .ok (.iload_n 3, 1) := by decide +kernel
theorem dX9_determinant_30 : decode cX9_determinant 30 = .ok (.iload_n 1, 1) := by decide +kernel
theorem dX9_determinant_31 : decode cX9_determinant 31 = .ok (.invokevirtual 79, 3) := by decide +kernel
theorem dX9_determinant_34 : decode cX9_determinant 34 = .ok (.lastore, 1) := by decide +kernel
theorem dX9_determinant_35 : decode cX9_determinant 35 = .ok (.iinc 3 1, 3) := by decide +kernel
theorem dX9_determinant_38 : decode cX9_determinant 38 = .ok (.goto (-20), 3) := by decide +kernel
theorem dX9_determinant_41 : decode cX9_determinant 41 = .ok (.aload_n 0, 1) := by decide +kernel
theorem dX9_determinant_42 : decode cX9_determinant 42 = .ok (.getfield 27, 3) := by decide +kernel
theorem dX9_determinant_45 : decode cX9_determinant 45 = .ok (.iload_n 2, 1) := by decide +kernel
theorem dX9_determinant_46 : decode cX9_determinant 46 = .ok (.laload, 1) := by decide +kernel
theorem dX9_determinant_47 : decode cX9_determinant 47 = .ok (.lreturn, 1) := by decide +kernel
theorem dX9_minor_0 : decode cX9_minor 0 = .ok (.iload_n 1, 1) := by decide +kernel
theorem dX9_minor_1 : decode cX9_minor 1 = .ok (.invokestatic 83, 3) := by decide +kernel
theorem dX9_minor_4 : decode cX9_minor 4 = .ok (.iconst 1, 1) := by decide +kernel
theorem dX9_minor_5 : decode cX9_minor 5 = .ok (.isub, 1) := by decide +kernel
theorem dX9_minor_6 : decode cX9_minor 6 = .ok (.istore_n 3, 1) := by decide +kernel
theorem dX9_minor_7 : decode cX9_minor 7 = .ok (.lconst 0, 1) := by decide +kernel
theorem dX9_minor_8 : decode cX9_minor 8 = .ok (.lstore 4, 2) := by decide +kernel
theorem dX9_minor_10 : decode cX9_minor 10 = .ok (.iconst 0, 1) := by decide +kernel
theorem dX9_minor_11 : decode cX9_minor 11 = .ok (.istore 6, 2) := by decide +kernel
theorem dX9_minor_13 : decode cX9_minor 13 = .ok (.iload 6, 2) := by decide +kernel
theorem dX9_minor_15 : decode cX9_minor 15 = .ok (.aload_n 0, 1) := by decide +kernel
theorem dX9_minor_16 : decode cX9_minor 16 = .ok (.getfield 50, 3) := by decide +kernel
theorem dX9_minor_19 : decode cX9_minor 19 = .ok (.if_icmp .ge 89, 3) := by decide +kernel
theorem dX9_minor_22 : decode cX9_minor 22 = .ok (.iload_n 1, 1) := by decide +kernel
theorem dX9_minor_23 : decode cX9_minor 23 = .ok (.iload 6, 2) := by decide +kernel
theorem dX9_minor_25 : decode cX9_minor 25 = .ok (.ishr, 1) := by decide +kernel
theorem dX9_minor_26 : decode cX9_minor 26 = .ok (.iconst 1, 1) := by decide +kernel
theorem dX9_minor_27 : decode cX9_minor 27 = .ok (.iand, 1) := by decide +kernel
theorem dX9_minor_28 : decode cX9_minor 28 = .ok (.iconst 1, 1) := by decide +kernel
theorem dX9_minor_29 : decode cX9_minor 29 = .ok (.if_icmp .ne 73, 3) := by decide +kernel
theorem dX9_minor_32 : decode cX9_minor 32 = .ok (.aload_n 0, 1) := by decide +kernel
theorem dX9_minor_33 : decode cX9_minor 33 = .ok (.getfield 24, 3) := by decide +kernel
theorem dX9_minor_36 : decode cX9_minor 36 = .ok (.iload_n 3, 1) := by decide +kernel
theorem dX9_minor_37 : decode cX9_minor 37 = .ok (.aaload, 1) := by decide +kernel
theorem dX9_minor_38 : decode cX9_minor 38 = .ok (.iload 6, 2) := by decide +kernel
theorem dX9_minor_40 : decode cX9_minor 40 = .ok (.iload_n 2, 1) := by decide +kernel
theorem dX9_minor_41 : decode cX9_minor 41 = .ok (.if_icmp .ne 7, 3) := by decide +kernel
theorem dX9_minor_44 : decode cX9_minor 44 = .ok (.iconst 5, 1) := by decide +kernel
theorem dX9_minor_45 : decode cX9_minor 45 = .ok (.goto 5, 3) := by decide +kernel
theorem dX9_minor_48 : decode cX9_minor 48 = .ok (.iload 6, 2) := by decide +kernel
theorem dX9_minor_50 : decode cX9_minor 50 = .ok (.laload, 1) := by decide +kernel
theorem dX9_minor_51 : decode cX9_minor 51 = .ok (.lstore 7, 2) := by decide +kernel
theorem dX9_minor_53 : decode cX9_minor 53 = .ok (.lload 7, 2) := by decide +kernel
theorem dX9_minor_55 : decode cX9_minor 55 = .ok (.aload_n 0, 1) := by decide +kernel
theorem dX9_minor_56 : decode cX9_minor 56 = .ok (.getfield 27, 3) := by decide +kernel
theorem dX9_minor_59 : decode cX9_minor 59 = .ok (.iload_n 1, 1) := by decide +kernel
theorem dX9_minor_60 : decode cX9_minor 60 = .ok (.iconst 1, 1) := by decide +kernel
theorem dX9_minor_61 : decode cX9_minor 61 = .ok (.iload 6, 2) := by decide +kernel
theorem dX9_minor_63 : decode cX9_minor 63 = .ok (.ishl, 1) := by decide +kernel
theorem dX9_minor_64 : decode cX9_minor 64 = .ok (.iconst (-1), 1) := by decide +kernel
theorem dX9_minor_65 : decode cX9_minor 65 = .ok (.ixor, 1) := by decide +kernel
theorem dX9_minor_66 : decode cX9_minor 66 = .ok (.iand, 1) := by decide +kernel
theorem dX9_minor_67 : decode cX9_minor 67 = .ok (.laload, 1) := by decide +kernel
theorem dX9_minor_68 : decode cX9_minor 68 = .ok (.lmul, 1) := by decide +kernel
theorem dX9_minor_69 : decode cX9_minor 69 = .ok (.lstore 9, 2) := by decide +kernel
theorem dX9_minor_71 : decode cX9_minor 71 = .ok (.iload_n 1, 1) := by decide +kernel
theorem dX9_minor_72 : decode cX9_minor 72 = .ok (.iload 6, 2) := by decide +kernel
theorem dX9_minor_74 : decode cX9_minor 74 = .ok (.iconst 1, 1) := by decide +kernel
theorem dX9_minor_75 : decode cX9_minor 75 = .ok (.iadd, 1) := by decide +kernel
theorem dX9_minor_76 : decode cX9_minor 76 = .ok (.ishr, 1) := by decide +kernel
theorem dX9_minor_77 : decode cX9_minor 77 = .ok (.invokestatic 83, 3) := by decide +kernel
theorem dX9_minor_80 : decode cX9_minor 80 = .ok (.istore 11, 2) := by decide +kernel
theorem dX9_minor_82 : decode cX9_minor 82 = .ok (.lload 4, 2) := by decide +kernel
theorem dX9_minor_84 : decode cX9_minor 84 = .ok (.iload 11, 2) := by decide +kernel
theorem dX9_minor_86 : decode cX9_minor 86 = .ok (.iconst 1, 1) := by decide +kernel
theorem dX9_minor_87 : decode cX9_minor 87 = .ok (.iand, 1) := by decide +kernel
theorem dX9_minor_88 : decode cX9_minor 88 = .ok (.ifCond .ne 8, 3) := by decide +kernel
theorem dX9_minor_91 : decode cX9_minor 91 = .ok (.lload 9, 2) := by decide +kernel
theorem dX9_minor_93 : decode cX9_minor 93 = .ok (.goto 6, 3) := by decide +kernel
theorem dX9_minor_96 : decode cX9_minor 96 = .ok (.lload 9, 2) := by decide +kernel
theorem dX9_minor_98 : decode cX9_minor 98 = .ok (.lneg, 1) := by decide +kernel
theorem dX9_minor_99 : decode cX9_minor 99 = .ok (.ladd, 1) := by decide +kernel
theorem dX9_minor_100 : decode cX9_minor 100 = .ok (.lstore 4, 2) := by decide +kernel
theorem dX9_minor_102 : decode cX9_minor 102 = .ok (.iinc 6 1, 3) := by decide +kernel
theorem dX9_minor_105 : decode cX9_minor 105 = .ok (.goto (-92), 3) := by decide +kernel
theorem dX9_minor_108 : decode cX9_minor 108 = .ok (.lload 4, 2) := by decide +kernel
theorem dX9_minor_110 : decode cX9_minor 110 = .ok (.lreturn, 1) := by decide +kernel
theorem dX10_init_0 : decode cX10_init 0 = .ok (.aload_n 0, 1) := by decide +kernel
theorem dX10_init_1 : decode cX10_init 1 = .ok (.invokespecial 3, 3) := by decide +kernel
theorem dX10_init_4 : decode cX10_init 4 = .ok (.aload_n 0, 1) := by decide +kernel
theorem dX10_init_5 : decode cX10_init 5 = .ok (.iconst (-1), 1) := by decide +kernel
theorem dX10_init_6 : decode cX10_init 6 = .ok (.putfield 9, 3) := by decide +kernel
theorem dX10_init_9 : decode cX10_init 9 = .ok (.aload_n 0, 1) := by decide +kernel
theorem dX10_init_10 : decode cX10_init 10 = .ok (.iconst (-1), 1) := by decide +kernel
theorem dX10_init_11 : decode cX10_init 11 = .ok (.putfield 15, 3) := by decide +kernel
theorem dX10_init_14 : decode cX10_init 14 = .ok (.aload_n 0, 1) := by decide +kernel
theorem dX10_init_15 : decode cX10_init 15 = .ok (.sipush 300, 3) := by decide +kernel
theorem dX10_init_18 : decode cX10_init 18 = .ok (.newarray .byte, 2) := by decide +kernel
theorem dX10_init_20 : decode cX10_init 20 = .ok (.putfield 18, 3) := by decide +kernel
theorem dX10_init_23 : decode cX10_init 23 = .ok (.return_, 1) := by decide +kernel
theorem dX10_take_0 : decode cX10_take 0 = .ok (.bipush 24, 2) := by decide +kernel
theorem dX10_take_2 : decode cX10_take 2 = .ok (.istore_n 2, 1) := by decide +kernel
theorem dX10_take_3 : decode cX10_take 3 = .ok (.iload_n 2, 1) := by decide +kernel
theorem dX10_take_4 : decode cX10_take 4 = .ok (.ifCond .lt 42, 3) := by decide +kernel
theorem dX10_take_7 : decode cX10_take 7 = .ok (.aload_n 0, 1) := by decide +kernel
theorem dX10_take_8 : decode cX10_take 8 = .ok (.getfield 22, 3) := by decide +kernel
theorem dX10_take_11 : decode cX10_take 11 = .ok (.sipush 300, 3) := by decide +kernel
theorem dX10_take_14 : decode cX10_take 14 = .ok (.if_icmp .ge 32, 3) := by decide +kernel
theorem dX10_take_17 : decode cX10_take 17 = .ok (.aload_n 0, 1) := by decide +kernel
theorem dX10_take_18 : decode cX10_take 18 = .ok (.getfield 18, 3) := by decide +kernel
theorem dX10_take_21 : decode cX10_take 21 = .ok (.aload_n 0, 1) := by decide +kernel
theorem dX10_take_22 : decode cX10_take 22 = .ok (.getfield 22, 3) := by decide +kernel
theorem dX10_take_25 : decode cX10_take 25 = .ok (.iload_n 1, 1) := by decide +kernel
theorem dX10_take_26 : decode cX10_take 26 = .ok (.iload_n 2, 1) := by decide +kernel
theorem dX10_take_27 : decode cX10_take 27 = .ok (.ishr, 1) := by decide +kernel
theorem dX10_take_28 : decode cX10_take 28 = .ok (.i2b, 1) := by decide +kernel
theorem dX10_take_29 : decode cX10_take 29 = .ok (.bastore, 1) := by decide +kernel
theorem dX10_take_30 : decode cX10_take 30 = .ok (.aload_n 0, 1) := by decide +kernel
theorem dX10_take_31 : decode cX10_take 31 = .ok (.dup, 1) := by decide +kernel
theorem dX10_take_32 : decode cX10_take 32 = .ok (.getfield 22, 3) := by decide +kernel
theorem dX10_take_35 : decode cX10_take 35 = .ok (.iconst 1, 1) := by decide +kernel
theorem dX10_take_36 : decode cX10_take 36 = .ok (.iadd, 1) := by decide +kernel
theorem dX10_take_37 : decode cX10_take 37 = .ok (.putfield 22, 3) := by decide +kernel
theorem dX10_take_40 : decode cX10_take 40 = .ok (.iinc 2 (-8), 3) := by decide +kernel
theorem dX10_take_43 : decode cX10_take 43 = .ok (.goto (-40), 3) := by decide +kernel
theorem dX10_take_46 : decode cX10_take 46 = .ok (.return_, 1) := by decide +kernel
theorem dX10_read_0 : decode cX10_read 0 = .ok (.aload_n 0, 1) := by decide +kernel
theorem dX10_read_1 : decode cX10_read 1 = .ok (.iconst 0, 1) := by decide +kernel
theorem dX10_read_2 : decode cX10_read 2 = .ok (.putfield 9, 3) := by decide +kernel
theorem dX10_read_5 : decode cX10_read 5 = .ok (.aload_n 0, 1) := by decide +kernel
theorem dX10_read_6 : decode cX10_read 6 = .ok (.iconst (-1), 1) := by decide +kernel
theorem dX10_read_7 : decode cX10_read 7 = .ok (.putfield 15, 3) := by decide +kernel
theorem dX10_read_10 : decode cX10_read 10 = .ok (.aload_n 0, 1) := by decide +kernel
theorem dX10_read_11 : decode cX10_read 11 = .ok (.iload_n 1, 1) := by decide +kernel
theorem dX10_read_12 : decode cX10_read 12 = .ok (.sipush 300, 3) := by decide +kernel
theorem dX10_read_15 : decode cX10_read 15 = .ok (.invokestatic 25, 3) := by decide +kernel
theorem dX10_read_18 : decode cX10_read 18 = .ok (.putfield 31, 3) := by decide +kernel
theorem dX10_read_21 : decode cX10_read 21 = .ok (.aload_n 0, 1) := by decide +kernel
theorem dX10_read_22 : decode cX10_read 22 = .ok (.iconst 0, 1) := by decide +kernel
theorem dX10_read_23 : decode cX10_read 23 = .ok (.putfield 34, 3) := by decide +kernel
theorem dX10_read_26 : decode cX10_read 26 = .ok (.aload_n 2, 1) := by decide +kernel
theorem dX10_read_27 : decode cX10_read 27 = .ok (.iconst 0, 1) := by decide +kernel
theorem dX10_read_28 : decode cX10_read 28 = .ok (.putfield 37, 3) := by decide +kernel
theorem dX10_read_31 : decode cX10_read 31 = .ok (.aload_n 0, 1) := by decide +kernel
theorem dX10_read_32 : decode cX10_read 32 = .ok (.invokevirtual 42, 3) := by decide +kernel
theorem dX10_read_35 : decode cX10_read 35 = .ok (.iconst 0, 1) := by decide +kernel
theorem dX10_read_36 : decode cX10_read 36 = .ok (.istore_n 3, 1) := by decide +kernel
theorem dX10_read_37 : decode cX10_read 37 = .ok (.iload_n 3, 1) := by decide +kernel
theorem dX10_read_38 : decode cX10_read 38 = .ok (.bipush 8, 2) := by decide +kernel
theorem dX10_read_40 : decode cX10_read 40 = .ok (.if_icmp .gt 28, 3) := by decide +kernel
theorem dX10_read_43 : decode cX10_read 43 = .ok (.aload_n 0, 1) := by decide +kernel
theorem dX10_read_44 : decode cX10_read 44 = .ok (.getfield 45, 3) := by decide +kernel
theorem dX10_read_47 : decode cX10_read 47 = .ok (.ifCond .eq 21, 3) := by decide +kernel
theorem dX10_read_50 : decode cX10_read 50 = .ok (.aload_n 0, 1) := by decide +kernel
theorem dX10_read_51 : decode cX10_read 51 = .ok (.getfield 9, 3) := by decide +kernel
theorem dX10_read_54 : decode cX10_read 54 = .ok (.ifCond .ne 14, 3) := by decide +kernel
theorem dX10_read_57 : decode cX10_read 57 = .ok (.aload_n 0, 1) := by decide +kernel
theorem dX10_read_58 : decode cX10_read 58 = .ok (.aload_n 2, 1) := by decide +kernel
theorem dX10_read_59 : decode cX10_read 59 = .ok (.invokevirtual 48, 3) := by decide +kernel
theorem dX10_read_62 : decode cX10_read 62 = .ok (.iinc 3 1, 3) := by decide +kernel
theorem dX10_read_65 : decode cX10_read 65 = .ok (.goto (-28), 3) := by decide +kernel
theorem dX10_read_68 : decode cX10_read 68 = .ok (.return_, 1) := by decide +kernel
theorem dX10_readPrize_0 : decode cX10_readPrize 0 = .ok (.aload_n 0, 1) := by decide +kernel
theorem dX10_readPrize_1 : decode cX10_readPrize 1 = .ok (.ldc 52, 2) := by decide +kernel
theorem dX10_readPrize_3 : decode cX10_readPrize 3 = .ok (.invokevirtual 54, 3) := by decide +kernel
theorem dX10_readPrize_6 : decode cX10_readPrize 6 = .ok (.ifCond .ne 9, 3) := by decide +kernel
theorem dX10_readPrize_9 : decode cX10_readPrize 9 = .ok (.aload_n 0, 1) := by decide +kernel
theorem dX10_readPrize_10 : decode cX10_readPrize 10 = .ok (.iconst 2, 1) := by decide +kernel
theorem dX10_readPrize_11 : decode cX10_readPrize 11 = .ok (.invokevirtual 58, 3) := by decide +kernel
theorem dX10_readPrize_14 : decode cX10_readPrize 14 = .ok (.return_, 1) := by decide +kernel
theorem dX10_readPrize_15 : decode cX10_readPrize 15 = .ok (.aload_n 1, 1) := by decide +kernel
theorem dX10_readPrize_16 : decode cX10_readPrize 16 = .ok (.getfield 37, 3) := by decide +kernel
theorem dX10_readPrize_19 : decode cX10_readPrize 19 = .ok (.bipush 8, 2) := by decide +kernel
theorem dX10_readPrize_21 : decode cX10_readPrize 21 = .ok (.if_icmp .lt 9, 3) := by decide +kernel
theorem dX10_readPrize_24 : decode cX10_readPrize 24 = .ok (.aload_n 0, 1) := by decide +kernel
theorem dX10_readPrize_25 : decode cX10_readPrize 25 = .ok (.iconst 3, 1) := by decide +kernel
theorem dX10_readPrize_26 : decode cX10_readPrize 26 = .ok (.invokevirtual 58, 3) := by decide +kernel
theorem dX10_readPrize_29 : decode cX10_readPrize 29 = .ok (.return_, 1) := by decide +kernel
theorem dX10_readPrize_30 : decode cX10_readPrize 30 = .ok (.aload_n 1, 1) := by decide +kernel
theorem dX10_readPrize_31 : decode cX10_readPrize 31 = .ok (.getfield 37, 3) := by decide +kernel
theorem dX10_readPrize_34 : decode cX10_readPrize 34 = .ok (.istore_n 2, 1) := by decide +kernel
theorem dX10_readPrize_35 : decode cX10_readPrize 35 = .ok (.aload_n 1, 1) := by decide +kernel
theorem dX10_readPrize_36 : decode cX10_readPrize 36 = .ok (.invokevirtual 62, 3) := by decide +kernel
theorem dX10_readPrize_39 : decode cX10_readPrize 39 = .ok (.aload_n 0, 1) := by decide +kernel
theorem dX10_readPrize_40 : decode cX10_readPrize 40 = .ok (.invokevirtual 42, 3) := by decide +kernel
theorem dX10_readPrize_43 : decode cX10_readPrize 43 = .ok (.aload_n 0, 1) := by decide +kernel
theorem dX10_readPrize_44 : decode cX10_readPrize 44 = .ok (.aload_n 1, 1) := by decide +kernel
theorem dX10_readPrize_45 : decode cX10_readPrize 45 = .ok (.iload_n 2, 1) := by decide +kernel
theorem dX10_readPrize_46 : decode cX10_readPrize 46 = .ok (.invokevirtual 65, 3) := by decide +kernel
theorem dX10_readPrize_49 : decode cX10_readPrize 49 = .ok (.aload_n 0, 1) := by decide +kernel
theorem dX10_readPrize_50 : decode cX10_readPrize 50 = .ok (.ldc 69, 2) := by decide +kernel
theorem dX10_readPrize_52 : decode cX10_readPrize 52 = .ok (.invokevirtual 71, 3) := by decide +kernel
theorem dX10_readPrize_55 : decode cX10_readPrize 55 = .ok (.aload_n 1, 1) := by decide +kernel
theorem dX10_readPrize_56 : decode cX10_readPrize 56 = .ok (.getfield 75, 3) := by decide +kernel
theorem dX10_readPrize_59 : decode cX10_readPrize 59 = .ok (.iload_n 2, 1) := by decide +kernel
theorem dX10_readPrize_60 : decode cX10_readPrize 60 = .ok (.aload_n 0, 1) := by decide +kernel
theorem dX10_readPrize_61 : decode cX10_readPrize 61 = .ok (.iconst 1, 1) := by decide +kernel
theorem dX10_readPrize_62 : decode cX10_readPrize 62 = .ok (.bipush 24, 2) := by decide +kernel
theorem dX10_readPrize_64 : decode cX10_readPrize 64 = .ok (.invokevirtual 78, 3) := by decide +kernel
theorem dX10_readPrize_67 : decode cX10_readPrize 67 = .ok (.iastore, 1) := by decide +kernel
theorem dX10_readPrize_68 : decode cX10_readPrize 68 = .ok (.aload_n 0, 1) := by decide +kernel
theorem dX10_readPrize_69 : decode cX10_readPrize 69 = .ok (.getfield 9, 3) := by decide +kernel
theorem dX10_readPrize_72 : decode cX10_readPrize 72 = .ok (.ifCond .ne 23, 3) := by decide +kernel
theorem dX10_readPrize_75 : decode cX10_readPrize 75 = .ok (.aload_n 0, 1) := by decide +kernel
theorem dX10_readPrize_76 : decode cX10_readPrize 76 = .ok (.ldc 81, 2) := by decide +kernel
theorem dX10_readPrize_78 : decode cX10_readPrize 78 = .ok (.invokevirtual 54, 3) := by decide +kernel
theorem dX10_readPrize_81 : decode cX10_readPrize 81 = .ok (.ifCond .eq 14, 3) := by decide +kernel
theorem dX10_readPrize_84 : decode cX10_readPrize 84 = .ok (.aload_n 1, 1) := by decide +kernel
theorem dX10_readPrize_85 : decode cX10_readPrize 85 = .ok (.getfield 83, 3) := by decide +kernel
theorem dX10_readPrize_88 : decode cX10_readPrize 88 = .ok (.iload_n 2, 1) := by decide +kernel
theorem dX10_readPrize_89 : decode cX10_readPrize 89 = .ok (.iconst 1, 1) := by decide +kernel
theorem dX10_readPrize_90 : decode cX10_readPrize 90 = .ok (.bastore, 1) := by decide +kernel
theorem dX10_readPrize_91 : decode cX10_readPrize 91 = .ok (.aload_n 0, 1) := by decide +kernel
theorem dX10_readPrize_92 : decode cX10_readPrize 92 = .ok (.invokevirtual 42, 3) := by decide +kernel
theorem dX10_readPrize_95 : decode cX10_readPrize 95 = .ok (.aload_n 0, 1) := by decide +kernel
theorem dX10_readPrize_96 : decode cX10_readPrize 96 = .ok (.invokevirtual 86, 3) := by decide +kernel
theorem dX10_readPrize_99 : decode cX10_readPrize 99 = .ok (.return_, 1) := by decide +kernel
theorem dX10_readWishes_0 : decode cX10_readWishes 0 = .ok (.aload_n 0, 1) := by decide +kernel
theorem dX10_readWishes_1 : decode cX10_readWishes 1 = .ok (.invokevirtual 89, 3) := by decide +kernel
theorem dX10_readWishes_4 : decode cX10_readWishes 4 = .ok (.istore_n 3, 1) := by decide +kernel
theorem dX10_readWishes_5 : decode cX10_readWishes 5 = .ok (.iconst 0, 1) := by decide +kernel
theorem dX10_readWishes_6 : decode cX10_readWishes 6 = .ok (.istore 4, 2) := by decide +kernel
theorem dX10_readWishes_8 : decode cX10_readWishes 8 = .ok (.iload 4, 2) := by decide +kernel
theorem dX10_readWishes_10 : decode cX10_readWishes 10 = .ok (.iconst 4, 1) := by decide +kernel
theorem dX10_readWishes_11 : decode cX10_readWishes 11 = .ok (.if_icmp .gt 72, 3) := by decide +kernel
theorem dX10_readWishes_14 : decode cX10_readWishes 14 = .ok (.iload_n 3, 1) := by decide +kernel
theorem dX10_readWishes_15 : decode cX10_readWishes 15 = .ok (.iconst (-1), 1) := by decide +kernel
theorem dX10_readWishes_16 : decode cX10_readWishes 16 = .ok (.if_icmp .eq 67, 3) := by decide +kernel
theorem dX10_readWishes_19 : decode cX10_readWishes 19 = .ok (.aload_n 0, 1) := by decide +kernel
theorem dX10_readWishes_20 : decode cX10_readWishes 20 = .ok (.getfield 9, 3) := by decide +kernel
theorem dX10_readWishes_23 : decode cX10_readWishes 23 = .ok (.ifCond .ne 60, 3) := by decide +kernel
theorem dX10_readWishes_26 : decode cX10_readWishes 26 = .ok (.aload_n 1, 1) := by decide +kernel
theorem dX10_readWishes_27 : decode cX10_readWishes 27 = .ok (.getfield 93, 3) := by decide +kernel
theorem dX10_readWishes_30 : decode cX10_readWishes 30 = .ok (.iload_n 3, 1) := by decide +kernel
theorem dX10_readWishes_31 : decode cX10_readWishes 31 = .ok (.aaload, 1) := by decide +kernel
theorem dX10_readWishes_32 : decode cX10_readWishes 32 = .ok (.iload_n 2, 1) := by decide +kernel
theorem dX10_readWishes_33 : decode cX10_readWishes 33 = .ok (.iaload, 1) := by decide +kernel
theorem dX10_readWishes_34 : decode cX10_readWishes 34 = .ok (.iconst (-1), 1) := by decide +kernel
theorem dX10_readWishes_35 : decode cX10_readWishes 35 = .ok (.if_icmp .eq 11, 3) := by decide +kernel
theorem dX10_readWishes_38 : decode cX10_readWishes 38 = .ok (.aload_n 0, 1) := by decide +kernel
theorem dX10_readWishes_39 : decode cX10_readWishes 39 = .ok (.iconst 5, 1) := by decide +kernel
theorem dX10_readWishes_40 : decode cX10_readWishes 40 = .ok (.invokevirtual 58, 3) := by decide +kernel
theorem dX10_readWishes_43 : decode cX10_readWishes 43 = .ok (.goto 34, 3) := by decide +kernel
theorem dX10_readWishes_46 : decode cX10_readWishes 46 = .ok (.aload_n 0, 1) := by decide +kernel
theorem dX10_readWishes_47 : decode cX10_readWishes 47 = .ok (.invokevirtual 42, 3) := by decide +kernel
theorem dX10_readWishes_50 : decode cX10_readWishes 50 = .ok (.aload_n 1, 1) := by decide +kernel
theorem dX10_readWishes_51 : decode cX10_readWishes 51 = .ok (.getfield 93, 3) := by decide +kernel
theorem dX10_readWishes_54 : decode cX10_readWishes 54 = .ok (.iload_n 3, 1) := by decide +kernel
theorem dX10_readWishes_55 : decode cX10_readWishes 55 = .ok (.aaload, 1) := by decide +kernel
theorem dX10_readWishes_56 : decode cX10_readWishes 56 = .ok (.iload_n 2, 1) := by decide +kernel
theorem dX10_readWishes_57 : decode cX10_readWishes 57 = .ok (.aload_n 0, 1) := by decide +kernel
theorem dX10_readWishes_58 : decode cX10_readWishes 58 = .ok (.getstatic 97, 3) := by decide +kernel
theorem dX10_readWishes_61 : decode cX10_readWishes 61 = .ok (.iload_n 3, 1) := by decide +kernel
theorem dX10_readWishes_62 : decode cX10_readWishes 62 = .ok (.iaload, 1) := by decide +kernel
theorem dX10_readWishes_63 : decode cX10_readWishes 63 = .ok (.getstatic 100, 3) := by decide +kernel
theorem dX10_readWishes_66 : decode cX10_readWishes 66 = .ok (.iload_n 3, 1) := by decide +kernel
theorem dX10_readWishes_67 : decode cX10_readWishes 67 = .ok (.iaload, 1) := by decide +kernel
theorem dX10_readWishes_68 : decode cX10_readWishes 68 = .ok (.invokevirtual 78, 3) := by decide +kernel
theorem dX10_readWishes_71 : decode cX10_readWishes 71 = .ok (.iastore, 1) := by decide +kernel
theorem dX10_readWishes_72 : decode cX10_readWishes 72 = .ok (.aload_n 0, 1) := by decide +kernel
theorem dX10_readWishes_73 : decode cX10_readWishes 73 = .ok (.invokevirtual 89, 3) := by decide +kernel
theorem dX10_readWishes_76 : decode cX10_readWishes 76 = .ok (.istore_n 3, 1) := by decide +kernel
theorem dX10_readWishes_77 : decode cX10_readWishes 77 = .ok (.iinc 4 1, 3) := by decide +kernel
theorem dX10_readWishes_80 : decode cX10_readWishes 80 = .ok (.goto (-72), 3) := by decide +kernel
theorem dX10_readWishes_83 : decode cX10_readWishes 83 = .ok (.return_, 1) := by decide +kernel
theorem dX10_wishInHand_0 : decode cX10_wishInHand 0 = .ok (.aload_n 0, 1) := by decide +kernel
theorem dX10_wishInHand_1 : decode cX10_wishInHand 1 = .ok (.ldc 103, 2) := by decide +kernel
theorem dX10_wishInHand_3 : decode cX10_wishInHand 3 = .ok (.invokevirtual 54, 3) := by decide +kernel
theorem dX10_wishInHand_6 : decode cX10_wishInHand 6 = .ok (.ifCond .eq 5, 3) := by decide +kernel
theorem dX10_wishInHand_9 : decode cX10_wishInHand 9 = .ok (.iconst 0, 1) := by decide +kernel
theorem dX10_wishInHand_10 : decode cX10_wishInHand 10 = .ok (.ireturn, 1) := by decide +kernel
theorem dX10_wishInHand_11 : decode cX10_wishInHand 11 = .ok (.aload_n 0, 1) := by decide +kernel
theorem dX10_wishInHand_12 : decode cX10_wishInHand 12 = .ok (.ldc 105, 2) := by decide +kernel
theorem dX10_wishInHand_14 : decode cX10_wishInHand 14 = .ok (.invokevirtual 54, 3) := by decide +kernel
theorem dX10_wishInHand_17 : decode cX10_wishInHand 17 = .ok (.ifCond .eq 5, 3) := by decide +kernel
theorem dX10_wishInHand_20 : decode cX10_wishInHand 20 = .ok (.iconst 1, 1) := by decide +kernel
theorem dX10_wishInHand_21 : decode cX10_wishInHand 21 = .ok (.ireturn, 1) := by decide +kernel
theorem dX10_wishInHand_22 : decode cX10_wishInHand 22 = .ok (.aload_n 0, 1) := by decide +kernel
theorem dX10_wishInHand_23 : decode cX10_wishInHand 23 = .ok (.ldc 107, 2) := by decide +kernel
theorem dX10_wishInHand_25 : decode cX10_wishInHand 25 = .ok (.invokevirtual 54, 3) := by decide +kernel
theorem dX10_wishInHand_28 : decode cX10_wishInHand 28 = .ok (.ifCond .eq 5, 3) := by decide +kernel
theorem dX10_wishInHand_31 : decode cX10_wishInHand 31 = .ok (.iconst 2, 1) := by decide +kernel
theorem dX10_wishInHand_32 : decode cX10_wishInHand 32 = .ok (.ireturn, 1) := by decide +kernel
theorem dX10_wishInHand_33 : decode cX10_wishInHand 33 = .ok (.aload_n 0, 1) := by decide +kernel
theorem dX10_wishInHand_34 : decode cX10_wishInHand 34 = .ok (.ldc 109, 2) := by decide +kernel
theorem dX10_wishInHand_36 : decode cX10_wishInHand 36 = .ok (.invokevirtual 54, 3) := by decide +kernel
theorem dX10_wishInHand_39 : decode cX10_wishInHand 39 = .ok (.ifCond .eq 7, 3) := by decide +kernel
theorem dX10_wishInHand_42 : decode cX10_wishInHand 42 = .ok (.iconst 3, 1) := by decide +kernel
theorem dX10_wishInHand_43 : decode cX10_wishInHand 43 = .ok (.goto 4, 3) := by decide +kernel
theorem dX10_wishInHand_46 : decode cX10_wishInHand 46 = .ok (.iconst (-1), 1) := by decide +kernel
theorem dX10_wishInHand_47 : decode cX10_wishInHand 47 = .ok (.ireturn, 1) := by decide +kernel
theorem dX10_takeWord_0 : decode cX10_takeWord 0 = .ok (.aload_n 0, 1) := by decide +kernel
theorem dX10_takeWord_1 : decode cX10_takeWord 1 = .ok (.aload_n 1, 1) := by decide +kernel
theorem dX10_takeWord_2 : decode cX10_takeWord 2 = .ok (.invokevirtual 54, 3) := by decide +kernel
theorem dX10_takeWord_5 : decode cX10_takeWord 5 = .ok (.ifCond .ne 8, 3) := by decide +kernel
theorem dX10_takeWord_8 : decode cX10_takeWord 8 = .ok (.aload_n 0, 1) := by decide +kernel
theorem dX10_takeWord_9 : decode cX10_takeWord 9 = .ok (.iconst 2, 1) := by decide +kernel
theorem dX10_takeWord_10 : decode cX10_takeWord 10 = .ok (.invokevirtual 58, 3) := by decide +kernel
theorem dX10_takeWord_13 : decode cX10_takeWord 13 = .ok (.aload_n 0, 1) := by decide +kernel
theorem dX10_takeWord_14 : decode cX10_takeWord 14 = .ok (.invokevirtual 42, 3) := by decide +kernel
theorem dX10_takeWord_17 : decode cX10_takeWord 17 = .ok (.return_, 1) := by decide +kernel
theorem dX10_takeStop_0 : decode cX10_takeStop 0 = .ok (.aload_n 0, 1) := by decide +kernel
theorem dX10_takeStop_1 : decode cX10_takeStop 1 = .ok (.getfield 45, 3) := by decide +kernel
theorem dX10_takeStop_4 : decode cX10_takeStop 4 = .ok (.iconst 3, 1) := by decide +kernel
theorem dX10_takeStop_5 : decode cX10_takeStop 5 = .ok (.if_icmp .eq 8, 3) := by decide +kernel
theorem dX10_takeStop_8 : decode cX10_takeStop 8 = .ok (.aload_n 0, 1) := by decide +kernel
theorem dX10_takeStop_9 : decode cX10_takeStop 9 = .ok (.iconst 2, 1) := by decide +kernel
theorem dX10_takeStop_10 : decode cX10_takeStop 10 = .ok (.invokevirtual 58, 3) := by decide +kernel
theorem dX10_takeStop_13 : decode cX10_takeStop 13 = .ok (.aload_n 0, 1) := by decide +kernel
theorem dX10_takeStop_14 : decode cX10_takeStop 14 = .ok (.invokevirtual 42, 3) := by decide +kernel
theorem dX10_takeStop_17 : decode cX10_takeStop 17 = .ok (.return_, 1) := by decide +kernel
theorem dX10_takeNumber_0 : decode cX10_takeNumber 0 = .ok (.iconst 0, 1) := by decide +kernel
theorem dX10_takeNumber_1 : decode cX10_takeNumber 1 = .ok (.istore_n 3, 1) := by decide +kernel
theorem dX10_takeNumber_2 : decode cX10_takeNumber 2 = .ok (.aload_n 0, 1) := by decide +kernel
theorem dX10_takeNumber_3 : decode cX10_takeNumber 3 = .ok (.getfield 45, 3) := by decide +kernel
theorem dX10_takeNumber_6 : decode cX10_takeNumber 6 = .ok (.iconst 2, 1) := by decide +kernel
theorem dX10_takeNumber_7 : decode cX10_takeNumber 7 = .ok (.if_icmp .eq 11, 3) := by decide +kernel
theorem dX10_takeNumber_10 : decode cX10_takeNumber 10 = .ok (.aload_n 0, 1) := by decide +kernel
theorem dX10_takeNumber_11 : decode cX10_takeNumber 11 = .ok (.iconst 2, 1) := by decide +kernel
theorem dX10_takeNumber_12 : decode cX10_takeNumber 12 = .ok (.invokevirtual 58, 3) := by decide +kernel
theorem dX10_takeNumber_15 : decode cX10_takeNumber 15 = .ok (.goto 54, 3) := by decide +kernel
theorem dX10_takeNumber_18 : decode cX10_takeNumber 18 = .ok (.aload_n 0, 1) := by decide +kernel
theorem dX10_takeNumber_19 : decode cX10_takeNumber 19 = .ok (.getfield 111, 3) := by decide +kernel
theorem dX10_takeNumber_22 : decode cX10_takeNumber 22 = .ok (.istore 4, 2) := by decide +kernel
theorem dX10_takeNumber_24 : decode cX10_takeNumber 24 = .ok (.iload 4, 2) := by decide +kernel
theorem dX10_takeNumber_26 : decode cX10_takeNumber 26 = .ok (.aload_n 0, 1) := by decide +kernel
theorem dX10_takeNumber_27 : decode cX10_takeNumber 27 = .ok (.getfield 34, 3) := by decide +kernel
theorem dX10_takeNumber_30 : decode cX10_takeNumber 30 = .ok (.if_icmp .ge 25, 3) := by decide +kernel
theorem dX10_takeNumber_33 : decode cX10_takeNumber 33 = .ok (.iload_n 3, 1) := by decide +kernel
theorem dX10_takeNumber_34 : decode cX10_takeNumber 34 = .ok (.bipush 10, 2) := by decide +kernel
theorem dX10_takeNumber_36 : decode cX10_takeNumber 36 = .ok (.imul, 1) := by decide +kernel
theorem dX10_takeNumber_37 : decode cX10_takeNumber 37 = .ok (.aload_n 0, 1) := by decide +kernel
theorem dX10_takeNumber_38 : decode cX10_takeNumber 38 = .ok (.getfield 18, 3) := by decide +kernel
theorem dX10_takeNumber_41 : decode cX10_takeNumber 41 = .ok (.iload 4, 2) := by decide +kernel
theorem dX10_takeNumber_43 : decode cX10_takeNumber 43 = .ok (.baload, 1) := by decide +kernel
theorem dX10_takeNumber_44 : decode cX10_takeNumber 44 = .ok (.bipush 48, 2) := by decide +kernel
theorem dX10_takeNumber_46 : decode cX10_takeNumber 46 = .ok (.isub, 1) := by decide +kernel
theorem dX10_takeNumber_47 : decode cX10_takeNumber 47 = .ok (.iadd, 1) := by decide +kernel
theorem dX10_takeNumber_48 : decode cX10_takeNumber 48 = .ok (.istore_n 3, 1) := by decide +kernel
theorem dX10_takeNumber_49 : decode cX10_takeNumber 49 = .ok (.iinc 4 1, 3) := by decide +kernel
theorem dX10_takeNumber_52 : decode cX10_takeNumber 52 = .ok (.goto (-28), 3) := by decide +kernel
theorem dX10_takeNumber_55 : decode cX10_takeNumber 55 = .ok (.iload_n 3, 1) := by decide +kernel
theorem dX10_takeNumber_56 : decode cX10_takeNumber 56 = .ok (.iload_n 1, 1) := by decide +kernel
theorem dX10_takeNumber_57 : decode cX10_takeNumber 57 = .ok (.iload_n 2, 1) := by decide +kernel
theorem dX10_takeNumber_58 : decode cX10_takeNumber 58 = .ok (.invokestatic 114, 3) := by decide +kernel
theorem dX10_takeNumber_61 : decode cX10_takeNumber 61 = .ok (.ifCond .ne 8, 3) := by decide +kernel
theorem dX10_takeNumber_64 : decode cX10_takeNumber 64 = .ok (.aload_n 0, 1) := by decide +kernel
theorem dX10_takeNumber_65 : decode cX10_takeNumber 65 = .ok (.iconst 4, 1) := by decide +kernel
theorem dX10_takeNumber_66 : decode cX10_takeNumber 66 = .ok (.invokevirtual 58, 3) := by decide +kernel
theorem dX10_takeNumber_69 : decode cX10_takeNumber 69 = .ok (.aload_n 0, 1) := by decide +kernel
theorem dX10_takeNumber_70 : decode cX10_takeNumber 70 = .ok (.invokevirtual 42, 3) := by decide +kernel
theorem dX10_takeNumber_73 : decode cX10_takeNumber 73 = .ok (.iload_n 3, 1) := by decide +kernel
theorem dX10_takeNumber_74 : decode cX10_takeNumber 74 = .ok (.ireturn, 1) := by decide +kernel
theorem dX10_blame_0 : decode cX10_blame 0 = .ok (.aload_n 0, 1) := by decide +kernel
theorem dX10_blame_1 : decode cX10_blame 1 = .ok (.getfield 9, 3) := by decide +kernel
theorem dX10_blame_4 : decode cX10_blame 4 = .ok (.ifCond .ne 16, 3) := by decide +kernel
theorem dX10_blame_7 : decode cX10_blame 7 = .ok (.aload_n 0, 1) := by decide +kernel
theorem dX10_blame_8 : decode cX10_blame 8 = .ok (.iload_n 1, 1) := by decide +kernel
theorem dX10_blame_9 : decode cX10_blame 9 = .ok (.putfield 9, 3) := by decide +kernel
theorem dX10_blame_12 : decode cX10_blame 12 = .ok (.aload_n 0, 1) := by decide +kernel
theorem dX10_blame_13 : decode cX10_blame 13 = .ok (.aload_n 0, 1) := by decide +kernel
theorem dX10_blame_14 : decode cX10_blame 14 = .ok (.getfield 111, 3) := by decide +kernel
theorem dX10_blame_17 : decode cX10_blame 17 = .ok (.putfield 15, 3) := by decide +kernel
theorem dX10_blame_20 : decode cX10_blame 20 = .ok (.return_, 1) := by decide +kernel
theorem dX10_isWord_0 : decode cX10_isWord 0 = .ok (.aload_n 0, 1) := by decide +kernel
theorem dX10_isWord_1 : decode cX10_isWord 1 = .ok (.getfield 45, 3) := by decide +kernel
theorem dX10_isWord_4 : decode cX10_isWord 4 = .ok (.iconst 1, 1) := by decide +kernel
theorem dX10_isWord_5 : decode cX10_isWord 5 = .ok (.if_icmp .ne 19, 3) := by decide +kernel
theorem dX10_isWord_8 : decode cX10_isWord 8 = .ok (.aload_n 0, 1) := by decide +kernel
theorem dX10_isWord_9 : decode cX10_isWord 9 = .ok (.getfield 34, 3) := by decide +kernel
theorem dX10_isWord_12 : decode cX10_isWord 12 = .ok (.aload_n 0, 1) := by decide +kernel
theorem dX10_isWord_13 : decode cX10_isWord 13 = .ok (.getfield 111, 3) := by decide +kernel
theorem dX10_isWord_16 : decode cX10_isWord 16 = .ok (.isub, 1) := by decide +kernel
theorem dX10_isWord_17 : decode cX10_isWord 17 = .ok (.aload_n 1, 1) := by decide +kernel
theorem dX10_isWord_18 : decode cX10_isWord 18 = .ok (.invokevirtual 118, 3) := by decide +kernel
theorem dX10_isWord_21 : decode cX10_isWord 21 = .ok (.if_icmp .eq 5, 3) := by decide +kernel
theorem dX10_isWord_24 : decode cX10_isWord 24 = .ok (.iconst 0, 1) := by decide +kernel
theorem dX10_isWord_25 : decode cX10_isWord 25 = .ok (.ireturn, 1) := by decide +kernel
theorem dX10_isWord_26 : decode cX10_isWord 26 = .ok (.iconst 0, 1) := by decide +kernel
theorem dX10_isWord_27 : decode cX10_isWord 27 = .ok (.istore_n 2, 1) := by decide +kernel
theorem dX10_isWord_28 : decode cX10_isWord 28 = .ok (.iload_n 2, 1) := by decide +kernel
theorem dX10_isWord_29 : decode cX10_isWord 29 = .ok (.aload_n 1, 1) := by decide +kernel
theorem dX10_isWord_30 : decode cX10_isWord 30 = .ok (.invokevirtual 118, 3) := by decide +kernel
theorem dX10_isWord_33 : decode cX10_isWord 33 = .ok (.if_icmp .ge 30, 3) := by decide +kernel
theorem dX10_isWord_36 : decode cX10_isWord 36 = .ok (.aload_n 0, 1) := by decide +kernel
theorem dX10_isWord_37 : decode cX10_isWord 37 = .ok (.getfield 18, 3) := by decide +kernel
theorem dX10_isWord_40 : decode cX10_isWord 40 = .ok (.aload_n 0, 1) := by decide +kernel
theorem dX10_isWord_41 : decode cX10_isWord 41 = .ok (.getfield 111, 3) := by decide +kernel
theorem dX10_isWord_44 : decode cX10_isWord 44 = .ok (.iload_n 2, 1) := by decide +kernel
theorem dX10_isWord_45 : decode cX10_isWord 45 = .ok (.iadd, 1) := by decide +kernel
theorem dX10_isWord_46 : decode cX10_isWord 46 = .ok (.baload, 1) := by decide +kernel
theorem dX10_isWord_47 : decode cX10_isWord 47 = .ok (.aload_n 1, 1) := by decide +kernel
theorem dX10_isWord_48 : decode cX10_isWord 48 = .ok (.iload_n 2, 1) := by decide +kernel
theorem dX10_isWord_49 : decode cX10_isWord 49 = .ok (.invokevirtual 122, 3) := by decide +kernel
theorem dX10_isWord_52 : decode cX10_isWord 52 = .ok (.if_icmp .eq 5, 3) := by decide +kernel
theorem dX10_isWord_55 : decode cX10_isWord 55 = .ok (.iconst 0, 1) := by decide +kernel
theorem dX10_isWord_56 : decode cX10_isWord 56 = .ok (.ireturn, 1) := by decide +kernel
theorem dX10_isWord_57 : decode cX10_isWord 57 = .ok (.iinc 2 1, 3) := by decide +kernel
theorem dX10_isWord_60 : decode cX10_isWord 60 = .ok (.goto (-32), 3) := by decide +kernel
theorem dX10_isWord_63 : decode cX10_isWord 63 = .ok (.iconst 1, 1) := by decide +kernel
theorem dX10_isWord_64 : decode cX10_isWord 64 = .ok (.ireturn, 1) := by decide +kernel
theorem dX10_step_0 : decode cX10_step 0 = .ok (.aload_n 0, 1) := by decide +kernel
theorem dX10_step_1 : decode cX10_step 1 = .ok (.getfield 9, 3) := by decide +kernel
theorem dX10_step_4 : decode cX10_step 4 = .ok (.ifCond .eq 4, 3) := by decide +kernel
theorem dX10_step_7 : decode cX10_step 7 = .ok (.return_, 1) := by decide +kernel
theorem dX10_step_8 : decode cX10_step 8 = .ok (.aload_n 0, 1) := by decide +kernel
theorem dX10_step_9 : decode cX10_step 9 = .ok (.aload_n 0, 1) := by decide +kernel
theorem dX10_step_10 : decode cX10_step 10 = .ok (.getfield 34, 3) := by decide +kernel
theorem dX10_step_13 : decode cX10_step 13 = .ok (.putfield 111, 3) := by decide +kernel
theorem dX10_step_16 : decode cX10_step 16 = .ok (.aload_n 0, 1) := by decide +kernel
theorem dX10_step_17 : decode cX10_step 17 = .ok (.getfield 111, 3) := by decide +kernel
theorem dX10_step_20 : decode cX10_step 20 = .ok (.aload_n 0, 1) := by decide +kernel
theorem dX10_step_21 : decode cX10_step 21 = .ok (.getfield 31, 3) := by decide +kernel
theorem dX10_step_24 : decode cX10_step 24 = .ok (.if_icmp .ge 44, 3) := by decide +kernel
theorem dX10_step_27 : decode cX10_step 27 = .ok (.aload_n 0, 1) := by decide +kernel
theorem dX10_step_28 : decode cX10_step 28 = .ok (.getfield 18, 3) := by decide +kernel
theorem dX10_step_31 : decode cX10_step 31 = .ok (.aload_n 0, 1) := by decide +kernel
theorem dX10_step_32 : decode cX10_step 32 = .ok (.getfield 111, 3) := by decide +kernel
theorem dX10_step_35 : decode cX10_step 35 = .ok (.baload, 1) := by decide +kernel
theorem dX10_step_36 : decode cX10_step 36 = .ok (.bipush 10, 2) := by decide +kernel
theorem dX10_step_38 : decode cX10_step 38 = .ok (.if_icmp .eq 17, 3) := by decide +kernel
theorem dX10_step_41 : decode cX10_step 41 = .ok (.aload_n 0, 1) := by decide +kernel
theorem dX10_step_42 : decode cX10_step 42 = .ok (.getfield 18, 3) := by decide +kernel
theorem dX10_step_45 : decode cX10_step 45 = .ok (.aload_n 0, 1) := by decide +kernel
theorem dX10_step_46 : decode cX10_step 46 = .ok (.getfield 111, 3) := by decide +kernel
theorem dX10_step_49 : decode cX10_step 49 = .ok (.baload, 1) := by decide +kernel
theorem dX10_step_50 : decode cX10_step 50 = .ok (.bipush 32, 2) := by decide +kernel
theorem dX10_step_52 : decode cX10_step 52 = .ok (.if_icmp .ne 16, 3) := by decide +kernel
theorem dX10_step_55 : decode cX10_step 55 = .ok (.aload_n 0, 1) := by decide +kernel
theorem dX10_step_56 : decode cX10_step 56 = .ok (.dup, 1) := by decide +kernel
theorem dX10_step_57 : decode cX10_step 57 = .ok (.getfield 111, 3) := by decide +kernel
theorem dX10_step_60 : decode cX10_step 60 = .ok (.iconst 1, 1) := by decide +kernel
theorem dX10_step_61 : decode cX10_step 61 = .ok (.iadd, 1) := by decide +kernel
theorem dX10_step_62 : decode cX10_step 62 = .ok (.putfield 111, 3) := by decide +kernel
theorem dX10_step_65 : decode cX10_step 65 = .ok (.goto (-49), 3) := by decide +kernel
theorem dX10_step_68 : decode cX10_step 68 = .ok (.aload_n 0, 1) := by decide +kernel
theorem dX10_step_69 : decode cX10_step 69 = .ok (.getfield 111, 3) := by decide +kernel
theorem dX10_step_72 : decode cX10_step 72 = .ok (.aload_n 0, 1) := by decide +kernel
theorem dX10_step_73 : decode cX10_step 73 = .ok (.getfield 31, 3) := by decide +kernel
theorem dX10_step_76 : decode cX10_step 76 = .ok (.if_icmp .lt 19, 3) := by decide +kernel
theorem dX10_step_79 : decode cX10_step 79 = .ok (.aload_n 0, 1) := by decide +kernel
theorem dX10_step_80 : decode cX10_step 80 = .ok (.iconst 0, 1) := by decide +kernel
theorem dX10_step_81 : decode cX10_step 81 = .ok (.putfield 45, 3) := by decide +kernel
theorem dX10_step_84 : decode cX10_step 84 = .ok (.aload_n 0, 1) := by decide +kernel
theorem dX10_step_85 : decode cX10_step 85 = .ok (.aload_n 0, 1) := by decide +kernel
theorem dX10_step_86 : decode cX10_step 86 = .ok (.getfield 31, 3) := by decide +kernel
theorem dX10_step_89 : decode cX10_step 89 = .ok (.putfield 34, 3) := by decide +kernel
theorem dX10_step_92 : decode cX10_step 92 = .ok (.goto 52, 3) := by decide +kernel
theorem dX10_step_95 : decode cX10_step 95 = .ok (.aload_n 0, 1) := by decide +kernel
theorem dX10_step_96 : decode cX10_step 96 = .ok (.getfield 18, 3) := by decide +kernel
theorem dX10_step_99 : decode cX10_step 99 = .ok (.aload_n 0, 1) := by decide +kernel
theorem dX10_step_100 : decode cX10_step 100 = .ok (.getfield 111, 3) := by decide +kernel
theorem dX10_step_103 : decode cX10_step 103 = .ok (.baload, 1) := by decide +kernel
theorem dX10_step_104 : decode cX10_step 104 = .ok (.bipush 59, 2) := by decide +kernel
theorem dX10_step_106 : decode cX10_step 106 = .ok (.if_icmp .ne 21, 3) := by decide +kernel
theorem dX10_step_109 : decode cX10_step 109 = .ok (.aload_n 0, 1) := by decide +kernel
theorem dX10_step_110 : decode cX10_step 110 = .ok (.iconst 3, 1) := by decide +kernel
theorem dX10_step_111 : decode cX10_step 111 = .ok (.putfield 45, 3) := by decide +kernel
theorem dX10_step_114 : decode cX10_step 114 = .ok (.aload_n 0, 1) := by decide +kernel
theorem dX10_step_115 : decode cX10_step 115 = .ok (.aload_n 0, 1) := by decide +kernel
theorem dX10_step_116 : decode cX10_step 116 = .ok (.getfield 111, 3) := by decide +kernel
theorem dX10_step_119 : decode cX10_step 119 = .ok (.iconst 1, 1) := by decide +kernel
theorem dX10_step_120 : decode cX10_step 120 = .ok (.iadd, 1) := by decide +kernel
theorem dX10_step_121 : decode cX10_step 121 = .ok (.putfield 34, 3) := by decide +kernel
theorem dX10_step_124 : decode cX10_step 124 = .ok (.goto 20, 3) := by decide +kernel
theorem dX10_step_127 : decode cX10_step 127 = .ok (.aload_n 0, 1) := by decide +kernel
theorem dX10_step_128 : decode cX10_step 128 = .ok (.iconst 1, 1) := by decide +kernel
theorem dX10_step_129 : decode cX10_step 129 = .ok (.putfield 45, 3) := by decide +kernel
theorem dX10_step_132 : decode cX10_step 132 = .ok (.aload_n 0, 1) := by decide +kernel
theorem dX10_step_133 : decode cX10_step 133 = .ok (.aload_n 0, 1) := by decide +kernel
theorem dX10_step_134 : decode cX10_step 134 = .ok (.bipush 97, 2) := by decide +kernel
theorem dX10_step_136 : decode cX10_step 136 = .ok (.bipush 122, 2) := by decide +kernel
theorem dX10_step_138 : decode cX10_step 138 = .ok (.invokevirtual 126, 3) := by decide +kernel
theorem dX10_step_141 : decode cX10_step 141 = .ok (.putfield 34, 3) := by decide +kernel
theorem dX10_step_144 : decode cX10_step 144 = .ok (.aload_n 0, 1) := by decide +kernel
theorem dX10_step_145 : decode cX10_step 145 = .ok (.getfield 45, 3) := by decide +kernel
theorem dX10_step_148 : decode cX10_step 148 = .ok (.iconst 1, 1) := by decide +kernel
theorem dX10_step_149 : decode cX10_step 149 = .ok (.if_icmp .ne 60, 3) := by decide +kernel
theorem dX10_step_152 : decode cX10_step 152 = .ok (.aload_n 0, 1) := by decide +kernel
theorem dX10_step_153 : decode cX10_step 153 = .ok (.getfield 34, 3) := by decide +kernel
theorem dX10_step_156 : decode cX10_step 156 = .ok (.aload_n 0, 1) := by decide +kernel
theorem dX10_step_157 : decode cX10_step 157 = .ok (.getfield 111, 3) := by decide +kernel
theorem dX10_step_160 : decode cX10_step 160 = .ok (.if_icmp .ne 49, 3) := by decide +kernel
theorem dX10_step_163 : decode cX10_step 163 = .ok (.aload_n 0, 1) := by decide +kernel
theorem dX10_step_164 : decode cX10_step 164 = .ok (.iconst 2, 1) := by decide +kernel
theorem dX10_step_165 : decode cX10_step 165 = .ok (.putfield 45, 3) := by decide +kernel
theorem dX10_step_168 : decode cX10_step 168 = .ok (.aload_n 0, 1) := by decide +kernel
theorem dX10_step_169 : decode cX10_step 169 = .ok (.aload_n 0, 1) := by decide +kernel
theorem dX10_step_170 : decode cX10_step 170 = .ok (.bipush 48, 2) := by decide +kernel
theorem dX10_step_172 : decode cX10_step 172 = .ok (.bipush 57, 2) := by decide +kernel
theorem dX10_step_174 : decode cX10_step 174 = .ok (.invokevirtual 126, 3) := by decide +kernel
theorem dX10_step_177 : decode cX10_step 177 = .ok (.putfield 34, 3) := by decide +kernel
theorem dX10_step_180 : decode cX10_step 180 = .ok (.aload_n 0, 1) := by decide +kernel
theorem dX10_step_181 : decode cX10_step 181 = .ok (.getfield 34, 3) := by decide +kernel
theorem dX10_step_184 : decode cX10_step 184 = .ok (.aload_n 0, 1) := by decide +kernel
theorem dX10_step_185 : decode cX10_step 185 = .ok (.getfield 111, 3) := by decide +kernel
theorem dX10_step_188 : decode cX10_step 188 = .ok (.if_icmp .eq 16, 3) := by decide +kernel
theorem dX10_step_191 : decode cX10_step 191 = .ok (.aload_n 0, 1) := by decide +kernel
theorem dX10_step_192 : decode cX10_step 192 = .ok (.getfield 34, 3) := by decide +kernel
theorem dX10_step_195 : decode cX10_step 195 = .ok (.aload_n 0, 1) := by decide +kernel
theorem dX10_step_196 : decode cX10_step 196 = .ok (.getfield 111, 3) := by decide +kernel
theorem dX10_step_199 : decode cX10_step 199 = .ok (.isub, 1) := by decide +kernel
theorem dX10_step_200 : decode cX10_step 200 = .ok (.iconst 3, 1) := by decide +kernel
theorem dX10_step_201 : decode cX10_step 201 = .ok (.if_icmp .le 8, 3) := by decide +kernel
theorem dX10_step_204 : decode cX10_step 204 = .ok (.aload_n 0, 1) := by decide +kernel
theorem dX10_step_205 : decode cX10_step 205 = .ok (.iconst 1, 1) := by decide +kernel
theorem dX10_step_206 : decode cX10_step 206 = .ok (.invokevirtual 58, 3) := by decide +kernel
theorem dX10_step_209 : decode cX10_step 209 = .ok (.return_, 1) := by decide +kernel
theorem dX10_endOfRun_0 : decode cX10_endOfRun 0 = .ok (.aload_n 0, 1) := by decide +kernel
theorem dX10_endOfRun_1 : decode cX10_endOfRun 1 = .ok (.getfield 111, 3) := by decide +kernel
theorem dX10_endOfRun_4 : decode cX10_endOfRun 4 = .ok (.istore_n 3, 1) := by decide +kernel
theorem dX10_endOfRun_5 : decode cX10_endOfRun 5 = .ok (.iload_n 3, 1) := by decide +kernel
theorem dX10_endOfRun_6 : decode cX10_endOfRun 6 = .ok (.aload_n 0, 1) := by decide +kernel
theorem dX10_endOfRun_7 : decode cX10_endOfRun 7 = .ok (.getfield 31, 3) := by decide +kernel
theorem dX10_endOfRun_10 : decode cX10_endOfRun 10 = .ok (.if_icmp .ge 29, 3) := by decide +kernel
theorem dX10_endOfRun_13 : decode cX10_endOfRun 13 = .ok (.aload_n 0, 1) := by decide +kernel
theorem dX10_endOfRun_14 : decode cX10_endOfRun 14 = .ok (.getfield 18, 3) := by decide +kernel
theorem dX10_endOfRun_17 : decode cX10_endOfRun 17 = .ok (.iload_n 3, 1) := by decide +kernel
theorem dX10_endOfRun_18 : decode cX10_endOfRun 18 = .ok (.baload, 1) := by decide +kernel
theorem dX10_endOfRun_19 : decode cX10_endOfRun 19 = .ok (.iload_n 1, 1) := by decide +kernel
theorem dX10_endOfRun_20 : decode cX10_endOfRun 20 = .ok (.if_icmp .lt 19, 3) := by decide +kernel
theorem dX10_endOfRun_23 : decode cX10_endOfRun 23 = .ok (.aload_n 0, 1) := by decide +kernel
theorem dX10_endOfRun_24 : decode cX10_endOfRun 24 = .ok (.getfield 18, 3) := by decide +kernel
theorem dX10_endOfRun_27 : decode cX10_endOfRun 27 = .ok (.iload_n 3, 1) := by decide +kernel
theorem dX10_endOfRun_28 : decode cX10_endOfRun 28 = .ok (.baload, 1) := by decide +kernel
theorem dX10_endOfRun_29 : decode cX10_endOfRun 29 = .ok (.iload_n 2, 1) := by decide +kernel
theorem dX10_endOfRun_30 : decode cX10_endOfRun 30 = .ok (.if_icmp .gt 9, 3) := by decide +kernel
theorem dX10_endOfRun_33 : decode cX10_endOfRun 33 = .ok (.iinc 3 1, 3) := by decide +kernel
theorem dX10_endOfRun_36 : decode cX10_endOfRun 36 = .ok (.goto (-31), 3) := by decide +kernel
theorem dX10_endOfRun_39 : decode cX10_endOfRun 39 = .ok (.iload_n 3, 1) := by decide +kernel
theorem dX10_endOfRun_40 : decode cX10_endOfRun 40 = .ok (.ireturn, 1) := by decide +kernel
theorem dX11_init_0 : decode cX11_init 0 = .ok (.aload_n 0, 1) := by decide +kernel
theorem dX11_init_1 : decode cX11_init 1 = .ok (.invokespecial 1, 3) := by decide +kernel
theorem dX11_init_4 : decode cX11_init 4 = .ok (.aload_n 0, 1) := by decide +kernel
theorem dX11_init_5 : decode cX11_init 5 = .ok (.new 7, 3) := by decide +kernel
theorem dX11_init_8 : decode cX11_init 8 = .ok (.dup, 1) := by decide +kernel
theorem dX11_init_9 : decode cX11_init 9 = .ok (.invokespecial 9, 3) := by decide +kernel
theorem dX11_init_12 : decode cX11_init 12 = .ok (.putfield 10, 3) := by decide +kernel
theorem dX11_init_15 : decode cX11_init 15 = .ok (.aload_n 0, 1) := by decide +kernel
theorem dX11_init_16 : decode cX11_init 16 = .ok (.new 16, 3) := by decide +kernel
theorem dX11_init_19 : decode cX11_init 19 = .ok (.dup, 1) := by decide +kernel
theorem dX11_init_20 : decode cX11_init 20 = .ok (.invokespecial 18, 3) := by decide +kernel
theorem dX11_init_23 : decode cX11_init 23 = .ok (.putfield 19, 3) := by decide +kernel
theorem dX11_init_26 : decode cX11_init 26 = .ok (.aload_n 0, 1) := by decide +kernel
theorem dX11_init_27 : decode cX11_init 27 = .ok (.new 23, 3) := by decide +kernel
theorem dX11_init_30 : decode cX11_init 30 = .ok (.dup, 1) := by decide +kernel
theorem dX11_init_31 : decode cX11_init 31 = .ok (.invokespecial 25, 3) := by decide +kernel
theorem dX11_init_34 : decode cX11_init 34 = .ok (.putfield 26, 3) := by decide +kernel
theorem dX11_init_37 : decode cX11_init 37 = .ok (.aload_n 0, 1) := by decide +kernel
theorem dX11_init_38 : decode cX11_init 38 = .ok (.new 30, 3) := by decide +kernel
theorem dX11_init_41 : decode cX11_init 41 = .ok (.dup, 1) := by decide +kernel
theorem dX11_init_42 : decode cX11_init 42 = .ok (.invokespecial 32, 3) := by decide +kernel
theorem dX11_init_45 : decode cX11_init 45 = .ok (.putfield 33, 3) := by decide +kernel
theorem dX11_init_48 : decode cX11_init 48 = .ok (.aload_n 0, 1) := by decide +kernel
theorem dX11_init_49 : decode cX11_init 49 = .ok (.new 37, 3) := by decide +kernel
theorem dX11_init_52 : decode cX11_init 52 = .ok (.dup, 1) := by decide +kernel
theorem dX11_init_53 : decode cX11_init 53 = .ok (.invokespecial 39, 3) := by decide +kernel
theorem dX11_init_56 : decode cX11_init 56 = .ok (.putfield 40, 3) := by decide +kernel
theorem dX11_init_59 : decode cX11_init 59 = .ok (.aload_n 0, 1) := by decide +kernel
theorem dX11_init_60 : decode cX11_init 60 = .ok (.new 44, 3) := by decide +kernel
theorem dX11_init_63 : decode cX11_init 63 = .ok (.dup, 1) := by decide +kernel
theorem dX11_init_64 : decode cX11_init 64 = .ok (.invokespecial 46, 3) := by decide +kernel
theorem dX11_init_67 : decode cX11_init 67 = .ok (.putfield 47, 3) := by decide +kernel
theorem dX11_init_70 : decode cX11_init 70 = .ok (.aload_n 0, 1) := by decide +kernel
theorem dX11_init_71 : decode cX11_init 71 = .ok (.new 51, 3) := by decide +kernel
theorem dX11_init_74 : decode cX11_init 74 = .ok (.dup, 1) := by decide +kernel
theorem dX11_init_75 : decode cX11_init 75 = .ok (.invokespecial 53, 3) := by decide +kernel
theorem dX11_init_78 : decode cX11_init 78 = .ok (.putfield 54, 3) := by decide +kernel
theorem dX11_init_81 : decode cX11_init 81 = .ok (.aload_n 0, 1) := by decide +kernel
theorem dX11_init_82 : decode cX11_init 82 = .ok (.new 58, 3) := by decide +kernel
theorem dX11_init_85 : decode cX11_init 85 = .ok (.dup, 1) := by decide +kernel
theorem dX11_init_86 : decode cX11_init 86 = .ok (.invokespecial 60, 3) := by decide +kernel
theorem dX11_init_89 : decode cX11_init 89 = .ok (.putfield 61, 3) := by decide +kernel
theorem dX11_init_92 : decode cX11_init 92 = .ok (.aload_n 0, 1) := by decide +kernel
theorem dX11_init_93 : decode cX11_init 93 = .ok (.new 65, 3) := by decide +kernel
theorem dX11_init_96 : decode cX11_init 96 = .ok (.dup, 1) := by decide +kernel
theorem dX11_init_97 : decode cX11_init 97 = .ok (.invokespecial 67, 3) := by decide +kernel
theorem dX11_init_100 : decode cX11_init 100 = .ok (.putfield 68, 3) := by decide +kernel
theorem dX11_init_103 : decode cX11_init 103 = .ok (.aload_n 0, 1) := by decide +kernel
theorem dX11_init_104 : decode cX11_init 104 = .ok (.new 72, 3) := by decide +kernel
theorem dX11_init_107 : decode cX11_init 107 = .ok (.dup, 1) := by decide +kernel
theorem dX11_init_108 : decode cX11_init 108 = .ok (.invokespecial 74, 3) := by decide +kernel
theorem dX11_init_111 : decode cX11_init 111 = .ok (.putfield 75, 3) := by decide +kernel
theorem dX11_init_114 : decode cX11_init 114 = .ok (.aload_n 0, 1) := by decide +kernel
theorem dX11_init_115 : decode cX11_init 115 = .ok (.new 79, 3) := by decide +kernel
theorem dX11_init_118 : decode cX11_init 118 = .ok (.dup, 1) := by decide +kernel
theorem dX11_init_119 : decode cX11_init 119 = .ok (.invokespecial 81, 3) := by decide +kernel
theorem dX11_init_122 : decode cX11_init 122 = .ok (.putfield 82, 3) := by decide +kernel
theorem dX11_init_125 : decode cX11_init 125 = .ok (.aload_n 0, 1) := by decide +kernel
theorem dX11_init_126 : decode cX11_init 126 = .ok (.new 79, 3) := by decide +kernel
theorem dX11_init_129 : decode cX11_init 129 = .ok (.dup, 1) := by decide +kernel
theorem dX11_init_130 : decode cX11_init 130 = .ok (.invokespecial 81, 3) := by decide +kernel
theorem dX11_init_133 : decode cX11_init 133 = .ok (.putfield 86, 3) := by decide +kernel
theorem dX11_init_136 : decode cX11_init 136 = .ok (.aload_n 0, 1) := by decide +kernel
theorem dX11_init_137 : decode cX11_init 137 = .ok (.iconst 2, 1) := by decide +kernel
theorem dX11_init_138 : decode cX11_init 138 = .ok (.putfield 89, 3) := by decide +kernel
theorem dX11_init_141 : decode cX11_init 141 = .ok (.aload_n 0, 1) := by decide +kernel
theorem dX11_init_142 : decode cX11_init 142 = .ok (.iconst 0, 1) := by decide +kernel
theorem dX11_init_143 : decode cX11_init 143 = .ok (.putfield 93, 3) := by decide +kernel
theorem dX11_init_146 : decode cX11_init 146 = .ok (.return_, 1) := by decide +kernel
theorem dX11_status_0 : decode cX11_status 0 = .ok (.aload_n 0, 1) := by decide +kernel
theorem dX11_status_1 : decode cX11_status 1 = .ok (.getfield 93, 3) := by decide +kernel
theorem dX11_status_4 : decode cX11_status 4 = .ok (.ireturn, 1) := by decide +kernel
theorem dX11_board_0 : decode cX11_board 0 = .ok (.iload_n 1, 1) := by decide +kernel
theorem dX11_board_1 : decode cX11_board 1 = .ok (.iconst 0, 1) := by decide +kernel
theorem dX11_board_2 : decode cX11_board 2 = .ok (.bipush 7, 2) := by decide +kernel
theorem dX11_board_4 : decode cX11_board 4 = .ok (.invokestatic 96, 3) := by decide +kernel
theorem dX11_board_7 : decode cX11_board 7 = .ok (.ifCond .eq 33, 3) := by decide +kernel
theorem dX11_board_10 : decode cX11_board 10 = .ok (.iload_n 2, 1) := by decide +kernel
theorem dX11_board_11 : decode cX11_board 11 = .ok (.iconst 0, 1) := by decide +kernel
theorem dX11_board_12 : decode cX11_board 12 = .ok (.iconst 3, 1) := by decide +kernel
theorem dX11_board_13 : decode cX11_board 13 = .ok (.invokestatic 96, 3) := by decide +kernel
theorem dX11_board_16 : decode cX11_board 16 = .ok (.ifCond .eq 24, 3) := by decide +kernel
theorem dX11_board_19 : decode cX11_board 19 = .ok (.iload_n 3, 1) := by decide +kernel
theorem dX11_board_20 : decode cX11_board 20 = .ok (.iconst 0, 1) := by decide +kernel
theorem dX11_board_21 : decode cX11_board 21 = .ok (.bipush 15, 2) := by decide +kernel
theorem dX11_board_23 : decode cX11_board 23 = .ok (.invokestatic 96, 3) := by decide +kernel
theorem dX11_board_26 : decode cX11_board 26 = .ok (.ifCond .eq 14, 3) := by decide +kernel
theorem dX11_board_29 : decode cX11_board 29 = .ok (.iload 4, 2) := by decide +kernel
theorem dX11_board_31 : decode cX11_board 31 = .ok (.iconst 0, 1) := by decide +kernel
theorem dX11_board_32 : decode cX11_board 32 = .ok (.bipush 99, 2) := by decide +kernel
theorem dX11_board_34 : decode cX11_board 34 = .ok (.invokestatic 96, 3) := by decide +kernel
theorem dX11_board_37 : decode cX11_board 37 = .ok (.ifCond .ne 9, 3) := by decide +kernel
theorem dX11_board_40 : decode cX11_board 40 = .ok (.aload_n 0, 1) := by decide +kernel
theorem dX11_board_41 : decode cX11_board 41 = .ok (.iconst 2, 1) := by decide +kernel
theorem dX11_board_42 : decode cX11_board 42 = .ok (.invokevirtual 100, 3) := by decide +kernel
theorem dX11_board_45 : decode cX11_board 45 = .ok (.ireturn, 1) := by decide +kernel
theorem dX11_board_46 : decode cX11_board 46 = .ok (.aload_n 0, 1) := by decide +kernel
theorem dX11_board_47 : decode cX11_board 47 = .ok (.getfield 10, 3) := by decide +kernel
theorem dX11_board_50 : decode cX11_board 50 = .ok (.getfield 104, 3) := by decide +kernel
theorem dX11_board_53 : decode cX11_board 53 = .ok (.bipush 24, 2) := by decide +kernel
theorem dX11_board_55 : decode cX11_board 55 = .ok (.if_icmp .lt 9, 3) := by decide +kernel
theorem dX11_board_58 : decode cX11_board 58 = .ok (.aload_n 0, 1) := by decide +kernel
theorem dX11_board_59 : decode cX11_board 59 = .ok (.iconst 3, 1) := by decide +kernel
theorem dX11_board_60 : decode cX11_board 60 = .ok (.invokevirtual 100, 3) := by decide +kernel
theorem dX11_board_63 : decode cX11_board 63 = .ok (.ireturn, 1) := by decide +kernel
theorem dX11_board_64 : decode cX11_board 64 = .ok (.aload_n 0, 1) := by decide +kernel
theorem dX11_board_65 : decode cX11_board 65 = .ok (.aload_n 0, 1) := by decide +kernel
theorem dX11_board_66 : decode cX11_board 66 = .ok (.getfield 10, 3) := by decide +kernel
theorem dX11_board_69 : decode cX11_board 69 = .ok (.iload_n 1, 1) := by decide +kernel
theorem dX11_board_70 : decode cX11_board 70 = .ok (.iload_n 2, 1) := by decide +kernel
theorem dX11_board_71 : decode cX11_board 71 = .ok (.iload_n 3, 1) := by decide +kernel
theorem dX11_board_72 : decode cX11_board 72 = .ok (.iload 4, 2) := by decide +kernel
theorem dX11_board_74 : decode cX11_board 74 = .ok (.iload 5, 2) := by decide +kernel
theorem dX11_board_76 : decode cX11_board 76 = .ok (.invokevirtual 107, 3) := by decide +kernel
theorem dX11_board_79 : decode cX11_board 79 = .ok (.invokevirtual 111, 3) := by decide +kernel
theorem dX11_board_82 : decode cX11_board 82 = .ok (.ireturn, 1) := by decide +kernel
theorem dX11_judge_0 : decode cX11_judge 0 = .ok (.iload_n 1, 1) := by decide +kernel
theorem dX11_judge_1 : decode cX11_judge 1 = .ok (.iconst 0, 1) := by decide +kernel
theorem dX11_judge_2 : decode cX11_judge 2 = .ok (.sipush 255, 3) := by decide +kernel
theorem dX11_judge_5 : decode cX11_judge 5 = .ok (.invokestatic 96, 3) := by decide +kernel
theorem dX11_judge_8 : decode cX11_judge 8 = .ok (.ifCond .eq 23, 3) := by decide +kernel
theorem dX11_judge_11 : decode cX11_judge 11 = .ok (.iload_n 2, 1) := by decide +kernel
theorem dX11_judge_12 : decode cX11_judge 12 = .ok (.iconst (-1), 1) := by decide +kernel
theorem dX11_judge_13 : decode cX11_judge 13 = .ok (.bipush 15, 2) := by decide +kernel
theorem dX11_judge_15 : decode cX11_judge 15 = .ok (.invokestatic 96, 3) := by decide +kernel
theorem dX11_judge_18 : decode cX11_judge 18 = .ok (.ifCond .eq 13, 3) := by decide +kernel
theorem dX11_judge_21 : decode cX11_judge 21 = .ok (.iload_n 3, 1) := by decide +kernel
theorem dX11_judge_22 : decode cX11_judge 22 = .ok (.iconst 0, 1) := by decide +kernel
theorem dX11_judge_23 : decode cX11_judge 23 = .ok (.bipush 24, 2) := by decide +kernel
theorem dX11_judge_25 : decode cX11_judge 25 = .ok (.invokestatic 96, 3) := by decide +kernel
theorem dX11_judge_28 : decode cX11_judge 28 = .ok (.ifCond .ne 9, 3) := by decide +kernel
theorem dX11_judge_31 : decode cX11_judge 31 = .ok (.aload_n 0, 1) := by decide +kernel
theorem dX11_judge_32 : decode cX11_judge 32 = .ok (.iconst 2, 1) := by decide +kernel
theorem dX11_judge_33 : decode cX11_judge 33 = .ok (.invokevirtual 100, 3) := by decide +kernel
theorem dX11_judge_36 : decode cX11_judge 36 = .ok (.ireturn, 1) := by decide +kernel
theorem dX11_judge_37 : decode cX11_judge 37 = .ok (.aload_n 0, 1) := by decide +kernel
theorem dX11_judge_38 : decode cX11_judge 38 = .ok (.getfield 19, 3) := by decide +kernel
theorem dX11_judge_41 : decode cX11_judge 41 = .ok (.getfield 114, 3) := by decide +kernel
theorem dX11_judge_44 : decode cX11_judge 44 = .ok (.bipush 12, 2) := by decide +kernel
theorem dX11_judge_46 : decode cX11_judge 46 = .ok (.if_icmp .lt 9, 3) := by decide +kernel
theorem dX11_judge_49 : decode cX11_judge 49 = .ok (.aload_n 0, 1) := by decide +kernel
theorem dX11_judge_50 : decode cX11_judge 50 = .ok (.iconst 3, 1) := by decide +kernel
theorem dX11_judge_51 : decode cX11_judge 51 = .ok (.invokevirtual 100, 3) := by decide +kernel
theorem dX11_judge_54 : decode cX11_judge 54 = .ok (.ireturn, 1) := by decide +kernel
theorem dX11_judge_55 : decode cX11_judge 55 = .ok (.aload_n 0, 1) := by decide +kernel
theorem dX11_judge_56 : decode cX11_judge 56 = .ok (.aload_n 0, 1) := by decide +kernel
theorem dX11_judge_57 : decode cX11_judge 57 = .ok (.getfield 19, 3) := by decide +kernel
theorem dX11_judge_60 : decode cX11_judge 60 = .ok (.iload_n 1, 1) := by decide +kernel
theorem dX11_judge_61 : decode cX11_judge 61 = .ok (.iload_n 2, 1) := by decide +kernel
theorem dX11_judge_62 : decode cX11_judge 62 = .ok (.iload_n 3, 1) := by decide +kernel
theorem dX11_judge_63 : decode cX11_judge 63 = .ok (.invokevirtual 115, 3) := by decide +kernel
theorem dX11_judge_66 : decode cX11_judge 66 = .ok (.invokevirtual 111, 3) := by decide +kernel
theorem dX11_judge_69 : decode cX11_judge 69 = .ok (.ireturn, 1) := by decide +kernel
theorem dX11_told_0 : decode cX11_told 0 = .ok (.aload_n 0, 1) := by decide +kernel
theorem dX11_told_1 : decode cX11_told 1 = .ok (.getfield 10, 3) := by decide +kernel
theorem dX11_told_4 : decode cX11_told 4 = .ok (.iload_n 1, 1) := by decide +kernel
theorem dX11_told_5 : decode cX11_told 5 = .ok (.invokevirtual 118, 3) := by decide +kernel
theorem dX11_told_8 : decode cX11_told 8 = .ok (.ifCond .ne 9, 3) := by decide +kernel
theorem dX11_told_11 : decode cX11_told 11 = .ok (.aload_n 0, 1) := by decide +kernel
theorem dX11_told_12 : decode cX11_told 12 = .ok (.iconst 1, 1) := by decide +kernel
theorem dX11_told_13 : decode cX11_told 13 = .ok (.invokevirtual 100, 3) := by decide +kernel
theorem dX11_told_16 : decode cX11_told 16 = .ok (.ireturn, 1) := by decide +kernel
theorem dX11_told_17 : decode cX11_told 17 = .ok (.iload_n 2, 1) := by decide +kernel
theorem dX11_told_18 : decode cX11_told 18 = .ok (.iconst 0, 1) := by decide +kernel
theorem dX11_told_19 : decode cX11_told 19 = .ok (.iconst 5, 1) := by decide +kernel
theorem dX11_told_20 : decode cX11_told 20 = .ok (.invokestatic 96, 3) := by decide +kernel
theorem dX11_told_23 : decode cX11_told 23 = .ok (.ifCond .ne 9, 3) := by decide +kernel
theorem dX11_told_26 : decode cX11_told 26 = .ok (.aload_n 0, 1) := by decide +kernel
theorem dX11_told_27 : decode cX11_told 27 = .ok (.iconst 2, 1) := by decide +kernel
theorem dX11_told_28 : decode cX11_told 28 = .ok (.invokevirtual 100, 3) := by decide +kernel
theorem dX11_told_31 : decode cX11_told 31 = .ok (.ireturn, 1) := by decide +kernel
theorem dX11_told_32 : decode cX11_told 32 = .ok (.iload_n 2, 1) := by decide +kernel
theorem dX11_told_33 : decode cX11_told 33 = .ok (.iconst 5, 1) := by decide +kernel
theorem dX11_told_34 : decode cX11_told 34 = .ok (.if_icmp .ne 23, 3) := by decide +kernel
theorem dX11_told_37 : decode cX11_told 37 = .ok (.aload_n 0, 1) := by decide +kernel
theorem dX11_told_38 : decode cX11_told 38 = .ok (.aload_n 0, 1) := by decide +kernel
theorem dX11_told_39 : decode cX11_told 39 = .ok (.getfield 19, 3) := by decide +kernel
theorem dX11_told_42 : decode cX11_told 42 = .ok (.aload_n 0, 1) := by decide +kernel
theorem dX11_told_43 : decode cX11_told 43 = .ok (.getfield 10, 3) := by decide +kernel
theorem dX11_told_46 : decode cX11_told 46 = .ok (.iload_n 1, 1) := by decide +kernel
theorem dX11_told_47 : decode cX11_told 47 = .ok (.invokevirtual 122, 3) := by decide +kernel
theorem dX11_told_50 : decode cX11_told 50 = .ok (.invokestatic 126, 3) := by decide +kernel
theorem dX11_told_53 : decode cX11_told 53 = .ok (.invokevirtual 111, 3) := by decide +kernel
theorem dX11_told_56 : decode cX11_told 56 = .ok (.ireturn, 1) := by decide +kernel
theorem dX11_told_57 : decode cX11_told 57 = .ok (.aload_n 0, 1) := by decide +kernel
theorem dX11_told_58 : decode cX11_told 58 = .ok (.aload_n 0, 1) := by decide +kernel
theorem dX11_told_59 : decode cX11_told 59 = .ok (.getfield 10, 3) := by decide +kernel
theorem dX11_told_62 : decode cX11_told 62 = .ok (.iload_n 1, 1) := by decide +kernel
theorem dX11_told_63 : decode cX11_told 63 = .ok (.iload_n 2, 1) := by decide +kernel
theorem dX11_told_64 : decode cX11_told 64 = .ok (.invokevirtual 131, 3) := by decide +kernel
theorem dX11_told_67 : decode cX11_told 67 = .ok (.invokevirtual 111, 3) := by decide +kernel
theorem dX11_told_70 : decode cX11_told 70 = .ok (.ireturn, 1) := by decide +kernel
theorem dX11_may_0 : decode cX11_may 0 = .ok (.aload_n 0, 1) := by decide +kernel
theorem dX11_may_1 : decode cX11_may 1 = .ok (.getfield 19, 3) := by decide +kernel
theorem dX11_may_4 : decode cX11_may 4 = .ok (.iload_n 1, 1) := by decide +kernel
theorem dX11_may_5 : decode cX11_may 5 = .ok (.invokevirtual 135, 3) := by decide +kernel
theorem dX11_may_8 : decode cX11_may 8 = .ok (.ifCond .eq 14, 3) := by decide +kernel
theorem dX11_may_11 : decode cX11_may 11 = .ok (.aload_n 0, 1) := by decide +kernel
theorem dX11_may_12 : decode cX11_may 12 = .ok (.getfield 10, 3) := by decide +kernel
theorem dX11_may_15 : decode cX11_may 15 = .ok (.iload_n 2, 1) := by decide +kernel
theorem dX11_may_16 : decode cX11_may 16 = .ok (.invokevirtual 118, 3) := by decide +kernel
theorem dX11_may_19 : decode cX11_may 19 = .ok (.ifCond .ne 9, 3) := by decide +kernel
theorem dX11_may_22 : decode cX11_may 22 = .ok (.aload_n 0, 1) := by decide +kernel
theorem dX11_may_23 : decode cX11_may 23 = .ok (.iconst 1, 1) := by decide +kernel
theorem dX11_may_24 : decode cX11_may 24 = .ok (.invokevirtual 100, 3) := by decide +kernel
theorem dX11_may_27 : decode cX11_may 27 = .ok (.ireturn, 1) := by decide +kernel
theorem dX11_may_28 : decode cX11_may 28 = .ok (.aload_n 0, 1) := by decide +kernel
theorem dX11_may_29 : decode cX11_may 29 = .ok (.aload_n 0, 1) := by decide +kernel
theorem dX11_may_30 : decode cX11_may 30 = .ok (.getfield 19, 3) := by decide +kernel
theorem dX11_may_33 : decode cX11_may 33 = .ok (.iload_n 1, 1) := by decide +kernel
theorem dX11_may_34 : decode cX11_may 34 = .ok (.aload_n 0, 1) := by decide +kernel
theorem dX11_may_35 : decode cX11_may 35 = .ok (.getfield 10, 3) := by decide +kernel
theorem dX11_may_38 : decode cX11_may 38 = .ok (.iload_n 2, 1) := by decide +kernel
theorem dX11_may_39 : decode cX11_may 39 = .ok (.invokevirtual 136, 3) := by decide +kernel
theorem dX11_may_42 : decode cX11_may 42 = .ok (.ifCond .eq 7, 3) := by decide +kernel
theorem dX11_may_45 : decode cX11_may 45 = .ok (.iconst 1, 1) := by decide +kernel
theorem dX11_may_46 : decode cX11_may 46 = .ok (.goto 4, 3) := by decide +kernel
theorem dX11_may_49 : decode cX11_may 49 = .ok (.iconst 0, 1) := by decide +kernel
theorem dX11_may_50 : decode cX11_may 50 = .ok (.invokevirtual 111, 3) := by decide +kernel
theorem dX11_may_53 : decode cX11_may 53 = .ok (.ireturn, 1) := by decide +kernel
theorem dX11_looks_0 : decode cX11_looks 0 = .ok (.iload_n 1, 1) := by decide +kernel
theorem dX11_looks_1 : decode cX11_looks 1 = .ok (.iconst 1, 1) := by decide +kernel
theorem dX11_looks_2 : decode cX11_looks 2 = .ok (.iconst 4, 1) := by decide +kernel
theorem dX11_looks_3 : decode cX11_looks 3 = .ok (.invokestatic 96, 3) := by decide +kernel
theorem dX11_looks_6 : decode cX11_looks 6 = .ok (.ifCond .ne 9, 3) := by decide +kernel
theorem dX11_looks_9 : decode cX11_looks 9 = .ok (.aload_n 0, 1) := by decide +kernel
theorem dX11_looks_10 : decode cX11_looks 10 = .ok (.iconst 2, 1) := by decide +kernel
theorem dX11_looks_11 : decode cX11_looks 11 = .ok (.invokevirtual 140, 3) := by decide +kernel
theorem dX11_looks_14 : decode cX11_looks 14 = .ok (.ireturn, 1) := by decide +kernel
theorem dX11_looks_15 : decode cX11_looks 15 = .ok (.aload_n 0, 1) := by decide +kernel
theorem dX11_looks_16 : decode cX11_looks 16 = .ok (.iload_n 1, 1) := by decide +kernel
theorem dX11_looks_17 : decode cX11_looks 17 = .ok (.putfield 89, 3) := by decide +kernel
theorem dX11_looks_20 : decode cX11_looks 20 = .ok (.aload_n 0, 1) := by decide +kernel
theorem dX11_looks_21 : decode cX11_looks 21 = .ok (.invokevirtual 143, 3) := by decide +kernel
theorem dX11_looks_24 : decode cX11_looks 24 = .ok (.ireturn, 1) := by decide +kernel
theorem dX11_plan_0 : decode cX11_plan 0 = .ok (.aload_n 0, 1) := by decide +kernel
theorem dX11_plan_1 : decode cX11_plan 1 = .ok (.getfield 26, 3) := by decide +kernel
theorem dX11_plan_4 : decode cX11_plan 4 = .ok (.aload_n 0, 1) := by decide +kernel
theorem dX11_plan_5 : decode cX11_plan 5 = .ok (.getfield 10, 3) := by decide +kernel
theorem dX11_plan_8 : decode cX11_plan 8 = .ok (.aload_n 0, 1) := by decide +kernel
theorem dX11_plan_9 : decode cX11_plan 9 = .ok (.getfield 19, 3) := by decide +kernel
theorem dX11_plan_12 : decode cX11_plan 12 = .ok (.aload_n 0, 1) := by decide +kernel
theorem dX11_plan_13 : decode cX11_plan 13 = .ok (.getfield 89, 3) := by decide +kernel
theorem dX11_plan_16 : decode cX11_plan 16 = .ok (.invokevirtual 147, 3) := by decide +kernel
theorem dX11_plan_19 : decode cX11_plan 19 = .ok (.aload_n 0, 1) := by decide +kernel
theorem dX11_plan_20 : decode cX11_plan 20 = .ok (.getfield 26, 3) := by decide +kernel
theorem dX11_plan_23 : decode cX11_plan 23 = .ok (.invokevirtual 151, 3) := by decide +kernel
theorem dX11_plan_26 : decode cX11_plan 26 = .ok (.aload_n 0, 1) := by decide +kernel
theorem dX11_plan_27 : decode cX11_plan 27 = .ok (.getfield 26, 3) := by decide +kernel
theorem dX11_plan_30 : decode cX11_plan 30 = .ok (.invokevirtual 154, 3) := by decide +kernel
theorem dX11_plan_33 : decode cX11_plan 33 = .ok (.aload_n 0, 1) := by decide +kernel
theorem dX11_plan_34 : decode cX11_plan 34 = .ok (.getfield 26, 3) := by decide +kernel
theorem dX11_plan_37 : decode cX11_plan 37 = .ok (.invokevirtual 157, 3) := by decide +kernel
theorem dX11_plan_40 : decode cX11_plan 40 = .ok (.aload_n 0, 1) := by decide +kernel
theorem dX11_plan_41 : decode cX11_plan 41 = .ok (.aload_n 0, 1) := by decide +kernel
theorem dX11_plan_42 : decode cX11_plan 42 = .ok (.getfield 26, 3) := by decide +kernel
theorem dX11_plan_45 : decode cX11_plan 45 = .ok (.invokevirtual 160, 3) := by decide +kernel
theorem dX11_plan_48 : decode cX11_plan 48 = .ok (.invokevirtual 111, 3) := by decide +kernel
theorem dX11_plan_51 : decode cX11_plan 51 = .ok (.ireturn, 1) := by decide +kernel
theorem dX11_sees_0 : decode cX11_sees 0 = .ok (.aload_n 0, 1) := by decide +kernel
theorem dX11_sees_1 : decode cX11_sees 1 = .ok (.getfield 26, 3) := by decide +kernel
theorem dX11_sees_4 : decode cX11_sees 4 = .ok (.getfield 164, 3) := by decide +kernel
theorem dX11_sees_7 : decode cX11_sees 7 = .ok (.ifCond .ne 9, 3) := by decide +kernel
theorem dX11_sees_10 : decode cX11_sees 10 = .ok (.aload_n 0, 1) := by decide +kernel
theorem dX11_sees_11 : decode cX11_sees 11 = .ok (.iconst 4, 1) := by decide +kernel
theorem dX11_sees_12 : decode cX11_sees 12 = .ok (.invokevirtual 100, 3) := by decide +kernel
theorem dX11_sees_15 : decode cX11_sees 15 = .ok (.ireturn, 1) := by decide +kernel
theorem dX11_sees_16 : decode cX11_sees 16 = .ok (.aload_n 0, 1) := by decide +kernel
theorem dX11_sees_17 : decode cX11_sees 17 = .ok (.getfield 26, 3) := by decide +kernel
theorem dX11_sees_20 : decode cX11_sees 20 = .ok (.iload_n 1, 1) := by decide +kernel
theorem dX11_sees_21 : decode cX11_sees 21 = .ok (.invokevirtual 168, 3) := by decide +kernel
theorem dX11_sees_24 : decode cX11_sees 24 = .ok (.ifCond .eq 14, 3) := by decide +kernel
theorem dX11_sees_27 : decode cX11_sees 27 = .ok (.aload_n 0, 1) := by decide +kernel
theorem dX11_sees_28 : decode cX11_sees 28 = .ok (.getfield 26, 3) := by decide +kernel
theorem dX11_sees_31 : decode cX11_sees 31 = .ok (.iload_n 2, 1) := by decide +kernel
theorem dX11_sees_32 : decode cX11_sees 32 = .ok (.invokevirtual 171, 3) := by decide +kernel
theorem dX11_sees_35 : decode cX11_sees 35 = .ok (.ifCond .ne 9, 3) := by decide +kernel
theorem dX11_sees_38 : decode cX11_sees 38 = .ok (.aload_n 0, 1) := by decide +kernel
theorem dX11_sees_39 : decode cX11_sees 39 = .ok (.iconst 1, 1) := by decide +kernel
theorem dX11_sees_40 : decode cX11_sees 40 = .ok (.invokevirtual 100, 3) := by decide +kernel
theorem dX11_sees_43 : decode cX11_sees 43 = .ok (.ireturn, 1) := by decide +kernel
theorem dX11_sees_44 : decode cX11_sees 44 = .ok (.aload_n 0, 1) := by decide +kernel
theorem dX11_sees_45 : decode cX11_sees 45 = .ok (.aload_n 0, 1) := by decide +kernel
theorem dX11_sees_46 : decode cX11_sees 46 = .ok (.getfield 26, 3) := by decide +kernel
theorem dX11_sees_49 : decode cX11_sees 49 = .ok (.getfield 174, 3) := by decide +kernel
theorem dX11_sees_52 : decode cX11_sees 52 = .ok (.iload_n 2, 1) := by decide +kernel
theorem dX11_sees_53 : decode cX11_sees 53 = .ok (.iaload, 1) := by decide +kernel
theorem dX11_sees_54 : decode cX11_sees 54 = .ok (.iload_n 1, 1) := by decide +kernel
theorem dX11_sees_55 : decode cX11_sees 55 = .ok (.ishr, 1) := by decide +kernel
theorem dX11_sees_56 : decode cX11_sees 56 = .ok (.iconst 1, 1) := by decide +kernel
theorem dX11_sees_57 : decode cX11_sees 57 = .ok (.iand, 1) := by decide +kernel
theorem dX11_sees_58 : decode cX11_sees 58 = .ok (.invokevirtual 111, 3) := by decide +kernel
theorem dX11_sees_61 : decode cX11_sees 61 = .ok (.ireturn, 1) := by decide +kernel
theorem dX11_holds_0 : decode cX11_holds 0 = .ok (.aload_n 0, 1) := by decide +kernel
theorem dX11_holds_1 : decode cX11_holds 1 = .ok (.getfield 26, 3) := by decide +kernel
theorem dX11_holds_4 : decode cX11_holds 4 = .ok (.getfield 164, 3) := by decide +kernel
theorem dX11_holds_7 : decode cX11_holds 7 = .ok (.ifCond .ne 9, 3) := by decide +kernel
theorem dX11_holds_10 : decode cX11_holds 10 = .ok (.aload_n 0, 1) := by decide +kernel
theorem dX11_holds_11 : decode cX11_holds 11 = .ok (.iconst 4, 1) := by decide +kernel
theorem dX11_holds_12 : decode cX11_holds 12 = .ok (.invokevirtual 100, 3) := by decide +kernel
theorem dX11_holds_15 : decode cX11_holds 15 = .ok (.ireturn, 1) := by decide +kernel
theorem dX11_holds_16 : decode cX11_holds 16 = .ok (.aload_n 0, 1) := by decide +kernel
theorem dX11_holds_17 : decode cX11_holds 17 = .ok (.getfield 26, 3) := by decide +kernel
theorem dX11_holds_20 : decode cX11_holds 20 = .ok (.iload_n 1, 1) := by decide +kernel
theorem dX11_holds_21 : decode cX11_holds 21 = .ok (.invokevirtual 171, 3) := by decide +kernel
theorem dX11_holds_24 : decode cX11_holds 24 = .ok (.ifCond .ne 9, 3) := by decide +kernel
theorem dX11_holds_27 : decode cX11_holds 27 = .ok (.aload_n 0, 1) := by decide +kernel
theorem dX11_holds_28 : decode cX11_holds 28 = .ok (.iconst 1, 1) := by decide +kernel
theorem dX11_holds_29 : decode cX11_holds 29 = .ok (.invokevirtual 100, 3) := by decide +kernel
theorem dX11_holds_32 : decode cX11_holds 32 = .ok (.ireturn, 1) := by decide +kernel
theorem dX11_holds_33 : decode cX11_holds 33 = .ok (.aload_n 0, 1) := by decide +kernel
theorem dX11_holds_34 : decode cX11_holds 34 = .ok (.aload_n 0, 1) := by decide +kernel
theorem dX11_holds_35 : decode cX11_holds 35 = .ok (.getfield 26, 3) := by decide +kernel
theorem dX11_holds_38 : decode cX11_holds 38 = .ok (.getfield 178, 3) := by decide +kernel
theorem dX11_holds_41 : decode cX11_holds 41 = .ok (.iload_n 1, 1) := by decide +kernel
theorem dX11_holds_42 : decode cX11_holds 42 = .ok (.ishr, 1) := by decide +kernel
theorem dX11_holds_43 : decode cX11_holds 43 = .ok (.iconst 1, 1) := by decide +kernel
theorem dX11_holds_44 : decode cX11_holds 44 = .ok (.iand, 1) := by decide +kernel
theorem dX11_holds_45 : decode cX11_holds 45 = .ok (.invokevirtual 111, 3) := by decide +kernel
theorem dX11_holds_48 : decode cX11_holds 48 = .ok (.ireturn, 1) := by decide +kernel
theorem dX11_mark_0 : decode cX11_mark 0 = .ok (.aload_n 0, 1) := by decide +kernel
theorem dX11_mark_1 : decode cX11_mark 1 = .ok (.getfield 19, 3) := by decide +kernel
theorem dX11_mark_4 : decode cX11_mark 4 = .ok (.iload_n 1, 1) := by decide +kernel
theorem dX11_mark_5 : decode cX11_mark 5 = .ok (.invokevirtual 135, 3) := by decide +kernel
theorem dX11_mark_8 : decode cX11_mark 8 = .ok (.ifCond .eq 14, 3) := by decide +kernel
theorem dX11_mark_11 : decode cX11_mark 11 = .ok (.aload_n 0, 1) := by decide +kernel
theorem dX11_mark_12 : decode cX11_mark 12 = .ok (.getfield 10, 3) := by decide +kernel
theorem dX11_mark_15 : decode cX11_mark 15 = .ok (.iload_n 2, 1) := by decide +kernel
theorem dX11_mark_16 : decode cX11_mark 16 = .ok (.invokevirtual 118, 3) := by decide +kernel
theorem dX11_mark_19 : decode cX11_mark 19 = .ok (.ifCond .ne 9, 3) := by decide +kernel
theorem dX11_mark_22 : decode cX11_mark 22 = .ok (.aload_n 0, 1) := by decide +kernel
theorem dX11_mark_23 : decode cX11_mark 23 = .ok (.iconst 1, 1) := by decide +kernel
theorem dX11_mark_24 : decode cX11_mark 24 = .ok (.invokevirtual 100, 3) := by decide +kernel
theorem dX11_mark_27 : decode cX11_mark 27 = .ok (.ireturn, 1) := by decide +kernel
theorem dX11_mark_28 : decode cX11_mark 28 = .ok (.iload_n 3, 1) := by decide +kernel
theorem dX11_mark_29 : decode cX11_mark 29 = .ok (.iconst 0, 1) := by decide +kernel
theorem dX11_mark_30 : decode cX11_mark 30 = .ok (.bipush 100, 2) := by decide +kernel
theorem dX11_mark_32 : decode cX11_mark 32 = .ok (.invokestatic 96, 3) := by decide +kernel
theorem dX11_mark_35 : decode cX11_mark 35 = .ok (.ifCond .eq 11, 3) := by decide +kernel
theorem dX11_mark_38 : decode cX11_mark 38 = .ok (.iload 4, 2) := by decide +kernel
theorem dX11_mark_40 : decode cX11_mark 40 = .ok (.invokestatic 181, 3) := by decide +kernel
theorem dX11_mark_43 : decode cX11_mark 43 = .ok (.ifCond .ne 9, 3) := by decide +kernel
theorem dX11_mark_46 : decode cX11_mark 46 = .ok (.aload_n 0, 1) := by decide +kernel
theorem dX11_mark_47 : decode cX11_mark 47 = .ok (.iconst 2, 1) := by decide +kernel
theorem dX11_mark_48 : decode cX11_mark 48 = .ok (.invokevirtual 100, 3) := by decide +kernel
theorem dX11_mark_51 : decode cX11_mark 51 = .ok (.ireturn, 1) := by decide +kernel
theorem dX11_mark_52 : decode cX11_mark 52 = .ok (.aload_n 0, 1) := by decide +kernel
theorem dX11_mark_53 : decode cX11_mark 53 = .ok (.getfield 33, 3) := by decide +kernel
theorem dX11_mark_56 : decode cX11_mark 56 = .ok (.getfield 184, 3) := by decide +kernel
theorem dX11_mark_59 : decode cX11_mark 59 = .ok (.sipush 200, 3) := by decide +kernel
theorem dX11_mark_62 : decode cX11_mark 62 = .ok (.if_icmp .lt 9, 3) := by decide +kernel
theorem dX11_mark_65 : decode cX11_mark 65 = .ok (.aload_n 0, 1) := by decide +kernel
theorem dX11_mark_66 : decode cX11_mark 66 = .ok (.iconst 3, 1) := by decide +kernel
theorem dX11_mark_67 : decode cX11_mark 67 = .ok (.invokevirtual 100, 3) := by decide +kernel
theorem dX11_mark_70 : decode cX11_mark 70 = .ok (.ireturn, 1) := by decide +kernel
theorem dX11_mark_71 : decode cX11_mark 71 = .ok (.aload_n 0, 1) := by decide +kernel
theorem dX11_mark_72 : decode cX11_mark 72 = .ok (.aload_n 0, 1) := by decide +kernel
theorem dX11_mark_73 : decode cX11_mark 73 = .ok (.getfield 33, 3) := by decide +kernel
theorem dX11_mark_76 : decode cX11_mark 76 = .ok (.iload_n 1, 1) := by decide +kernel
theorem dX11_mark_77 : decode cX11_mark 77 = .ok (.iload_n 2, 1) := by decide +kernel
theorem dX11_mark_78 : decode cX11_mark 78 = .ok (.iload_n 3, 1) := by decide +kernel
theorem dX11_mark_79 : decode cX11_mark 79 = .ok (.iload 4, 2) := by decide +kernel
theorem dX11_mark_81 : decode cX11_mark 81 = .ok (.invokevirtual 185, 3) := by decide +kernel
theorem dX11_mark_84 : decode cX11_mark 84 = .ok (.invokevirtual 111, 3) := by decide +kernel
theorem dX11_mark_87 : decode cX11_mark 87 = .ok (.ireturn, 1) := by decide +kernel
theorem dX11_lose_0 : decode cX11_lose 0 = .ok (.aload_n 0, 1) := by decide +kernel
theorem dX11_lose_1 : decode cX11_lose 1 = .ok (.getfield 33, 3) := by decide +kernel
theorem dX11_lose_4 : decode cX11_lose 4 = .ok (.iload_n 1, 1) := by decide +kernel
theorem dX11_lose_5 : decode cX11_lose 5 = .ok (.invokevirtual 188, 3) := by decide +kernel
theorem dX11_lose_8 : decode cX11_lose 8 = .ok (.ifCond .ne 9, 3) := by decide +kernel
theorem dX11_lose_11 : decode cX11_lose 11 = .ok (.aload_n 0, 1) := by decide +kernel
theorem dX11_lose_12 : decode cX11_lose 12 = .ok (.iconst 1, 1) := by decide +kernel
theorem dX11_lose_13 : decode cX11_lose 13 = .ok (.invokevirtual 140, 3) := by decide +kernel
theorem dX11_lose_16 : decode cX11_lose 16 = .ok (.ireturn, 1) := by decide +kernel
theorem dX11_lose_17 : decode cX11_lose 17 = .ok (.iload_n 2, 1) := by decide +kernel
theorem dX11_lose_18 : decode cX11_lose 18 = .ok (.invokestatic 181, 3) := by decide +kernel
theorem dX11_lose_21 : decode cX11_lose 21 = .ok (.ifCond .ne 9, 3) := by decide +kernel
theorem dX11_lose_24 : decode cX11_lose 24 = .ok (.aload_n 0, 1) := by decide +kernel
theorem dX11_lose_25 : decode cX11_lose 25 = .ok (.iconst 2, 1) := by decide +kernel
theorem dX11_lose_26 : decode cX11_lose 26 = .ok (.invokevirtual 140, 3) := by decide +kernel
theorem dX11_lose_29 : decode cX11_lose 29 = .ok (.ireturn, 1) := by decide +kernel
theorem dX11_lose_30 : decode cX11_lose 30 = .ok (.aload_n 0, 1) := by decide +kernel
theorem dX11_lose_31 : decode cX11_lose 31 = .ok (.getfield 33, 3) := by decide +kernel
theorem dX11_lose_34 : decode cX11_lose 34 = .ok (.getfield 189, 3) := by decide +kernel
theorem dX11_lose_37 : decode cX11_lose 37 = .ok (.iload_n 1, 1) := by decide +kernel
theorem dX11_lose_38 : decode cX11_lose 38 = .ok (.iaload, 1) := by decide +kernel
theorem dX11_lose_39 : decode cX11_lose 39 = .ok (.iconst (-1), 1) := by decide +kernel
theorem dX11_lose_40 : decode cX11_lose 40 = .ok (.if_icmp .eq 9, 3) := by decide +kernel
theorem dX11_lose_43 : decode cX11_lose 43 = .ok (.aload_n 0, 1) := by decide +kernel
theorem dX11_lose_44 : decode cX11_lose 44 = .ok (.iconst 5, 1) := by decide +kernel
theorem dX11_lose_45 : decode cX11_lose 45 = .ok (.invokevirtual 140, 3) := by decide +kernel
theorem dX11_lose_48 : decode cX11_lose 48 = .ok (.ireturn, 1) := by decide +kernel
theorem dX11_lose_49 : decode cX11_lose 49 = .ok (.aload_n 0, 1) := by decide +kernel
theorem dX11_lose_50 : decode cX11_lose 50 = .ok (.getfield 33, 3) := by decide +kernel
theorem dX11_lose_53 : decode cX11_lose 53 = .ok (.getfield 189, 3) := by decide +kernel
theorem dX11_lose_56 : decode cX11_lose 56 = .ok (.iload_n 1, 1) := by decide +kernel
theorem dX11_lose_57 : decode cX11_lose 57 = .ok (.iload_n 2, 1) := by decide +kernel
theorem dX11_lose_58 : decode cX11_lose 58 = .ok (.iastore, 1) := by decide +kernel
theorem dX11_lose_59 : decode cX11_lose 59 = .ok (.aload_n 0, 1) := by decide +kernel
theorem dX11_lose_60 : decode cX11_lose 60 = .ok (.invokevirtual 143, 3) := by decide +kernel
theorem dX11_lose_63 : decode cX11_lose 63 = .ok (.ireturn, 1) := by decide +kernel
theorem dX11_seen_0 : decode cX11_seen 0 = .ok (.aload_n 0, 1) := by decide +kernel
theorem dX11_seen_1 : decode cX11_seen 1 = .ok (.getfield 10, 3) := by decide +kernel
theorem dX11_seen_4 : decode cX11_seen 4 = .ok (.iload_n 1, 1) := by decide +kernel
theorem dX11_seen_5 : decode cX11_seen 5 = .ok (.invokevirtual 118, 3) := by decide +kernel
theorem dX11_seen_8 : decode cX11_seen 8 = .ok (.ifCond .ne 9, 3) := by decide +kernel
theorem dX11_seen_11 : decode cX11_seen 11 = .ok (.aload_n 0, 1) := by decide +kernel
theorem dX11_seen_12 : decode cX11_seen 12 = .ok (.iconst 1, 1) := by decide +kernel
theorem dX11_seen_13 : decode cX11_seen 13 = .ok (.invokevirtual 100, 3) := by decide +kernel
theorem dX11_seen_16 : decode cX11_seen 16 = .ok (.ireturn, 1) := by decide +kernel
theorem dX11_seen_17 : decode cX11_seen 17 = .ok (.iload_n 2, 1) := by decide +kernel
theorem dX11_seen_18 : decode cX11_seen 18 = .ok (.invokestatic 181, 3) := by decide +kernel
theorem dX11_seen_21 : decode cX11_seen 21 = .ok (.ifCond .ne 9, 3) := by decide +kernel
theorem dX11_seen_24 : decode cX11_seen 24 = .ok (.aload_n 0, 1) := by decide +kernel
theorem dX11_seen_25 : decode cX11_seen 25 = .ok (.iconst 2, 1) := by decide +kernel
theorem dX11_seen_26 : decode cX11_seen 26 = .ok (.invokevirtual 100, 3) := by decide +kernel
theorem dX11_seen_29 : decode cX11_seen 29 = .ok (.ireturn, 1) := by decide +kernel
theorem dX11_seen_30 : decode cX11_seen 30 = .ok (.aload_n 0, 1) := by decide +kernel
theorem dX11_seen_31 : decode cX11_seen 31 = .ok (.getfield 40, 3) := by decide +kernel
theorem dX11_seen_34 : decode cX11_seen 34 = .ok (.aload_n 0, 1) := by decide +kernel
theorem dX11_seen_35 : decode cX11_seen 35 = .ok (.getfield 33, 3) := by decide +kernel
theorem dX11_seen_38 : decode cX11_seen 38 = .ok (.iload_n 2, 1) := by decide +kernel
theorem dX11_seen_39 : decode cX11_seen 39 = .ok (.invokevirtual 192, 3) := by decide +kernel
theorem dX11_seen_42 : decode cX11_seen 42 = .ok (.aload_n 0, 1) := by decide +kernel
theorem dX11_seen_43 : decode cX11_seen 43 = .ok (.aload_n 0, 1) := by decide +kernel
theorem dX11_seen_44 : decode cX11_seen 44 = .ok (.getfield 40, 3) := by decide +kernel
theorem dX11_seen_47 : decode cX11_seen 47 = .ok (.iload_n 1, 1) := by decide +kernel
theorem dX11_seen_48 : decode cX11_seen 48 = .ok (.invokevirtual 196, 3) := by decide +kernel
theorem dX11_seen_51 : decode cX11_seen 51 = .ok (.invokevirtual 111, 3) := by decide +kernel
theorem dX11_seen_54 : decode cX11_seen 54 = .ok (.ireturn, 1) := by decide +kernel
theorem dX11_heap_0 : decode cX11_heap 0 = .ok (.aload_n 0, 1) := by decide +kernel
theorem dX11_heap_1 : decode cX11_heap 1 = .ok (.iload_n 1, 1) := by decide +kernel
theorem dX11_heap_2 : decode cX11_heap 2 = .ok (.iload_n 2, 1) := by decide +kernel
theorem dX11_heap_3 : decode cX11_heap 3 = .ok (.invokevirtual 199, 3) := by decide +kernel
theorem dX11_heap_6 : decode cX11_heap 6 = .ok (.istore_n 3, 1) := by decide +kernel
theorem dX11_heap_7 : decode cX11_heap 7 = .ok (.iload_n 3, 1) := by decide +kernel
theorem dX11_heap_8 : decode cX11_heap 8 = .ok (.ifCond .ne 19, 3) := by decide +kernel
theorem dX11_heap_11 : decode cX11_heap 11 = .ok (.aload_n 0, 1) := by decide +kernel
theorem dX11_heap_12 : decode cX11_heap 12 = .ok (.aload_n 0, 1) := by decide +kernel
theorem dX11_heap_13 : decode cX11_heap 13 = .ok (.getfield 40, 3) := by decide +kernel
theorem dX11_heap_16 : decode cX11_heap 16 = .ok (.getfield 202, 3) := by decide +kernel
theorem dX11_heap_19 : decode cX11_heap 19 = .ok (.iload_n 1, 1) := by decide +kernel
theorem dX11_heap_20 : decode cX11_heap 20 = .ok (.iaload, 1) := by decide +kernel
theorem dX11_heap_21 : decode cX11_heap 21 = .ok (.invokevirtual 111, 3) := by decide +kernel
theorem dX11_heap_24 : decode cX11_heap 24 = .ok (.goto 8, 3) := by decide +kernel
theorem dX11_heap_27 : decode cX11_heap 27 = .ok (.aload_n 0, 1) := by decide +kernel
theorem dX11_heap_28 : decode cX11_heap 28 = .ok (.iload_n 3, 1) := by decide +kernel
theorem dX11_heap_29 : decode cX11_heap 29 = .ok (.invokevirtual 100, 3) := by decide +kernel
theorem dX11_heap_32 : decode cX11_heap 32 = .ok (.ireturn, 1) := by decide +kernel
theorem dX11_hardness_0 : decode cX11_hardness 0 = .ok (.aload_n 0, 1) := by decide +kernel
theorem dX11_hardness_1 : decode cX11_hardness 1 = .ok (.iload_n 1, 1) := by decide +kernel
theorem dX11_hardness_2 : decode cX11_hardness 2 = .ok (.iload_n 2, 1) := by decide +kernel
theorem dX11_hardness_3 : decode cX11_hardness 3 = .ok (.invokevirtual 199, 3) := by decide +kernel
theorem dX11_hardness_6 : decode cX11_hardness 6 = .ok (.istore_n 3, 1) := by decide +kernel
theorem dX11_hardness_7 : decode cX11_hardness 7 = .ok (.iload_n 3, 1) := by decide +kernel
theorem dX11_hardness_8 : decode cX11_hardness 8 = .ok (.ifCond .eq 9, 3) := by decide +kernel
theorem dX11_hardness_11 : decode cX11_hardness 11 = .ok (.aload_n 0, 1) := by decide +kernel
theorem dX11_hardness_12 : decode cX11_hardness 12 = .ok (.iload_n 3, 1) := by decide +kernel
theorem dX11_hardness_13 : decode cX11_hardness 13 = .ok (.invokevirtual 140, 3) := by decide +kernel
theorem dX11_hardness_16 : decode cX11_hardness 16 = .ok (.ireturn, 1) := by decide +kernel
theorem dX11_hardness_17 : decode cX11_hardness 17 = .ok (.aload_n 0, 1) := by decide +kernel
theorem dX11_hardness_18 : decode cX11_hardness 18 = .ok (.getfield 40, 3) := by decide +kernel
theorem dX11_hardness_21 : decode cX11_hardness 21 = .ok (.getfield 202, 3) := by decide +kernel
theorem dX11_hardness_24 : decode cX11_hardness 24 = .ok (.iload_n 1, 1) := by decide +kernel
theorem dX11_hardness_25 : decode cX11_hardness 25 = .ok (.iaload, 1) := by decide +kernel
theorem dX11_hardness_26 : decode cX11_hardness 26 = .ok (.istore 4, 2) := by decide +kernel
theorem dX11_hardness_28 : decode cX11_hardness 28 = .ok (.aload_n 0, 1) := by decide +kernel
theorem dX11_hardness_29 : decode cX11_hardness 29 = .ok (.getfield 40, 3) := by decide +kernel
theorem dX11_hardness_32 : decode cX11_hardness 32 = .ok (.iload 4, 2) := by decide +kernel
theorem dX11_hardness_34 : decode cX11_hardness 34 = .ok (.invokevirtual 205, 3) := by decide +kernel
theorem dX11_hardness_37 : decode cX11_hardness 37 = .ok (.ifCond .eq 10, 3) := by decide +kernel
theorem dX11_hardness_40 : decode cX11_hardness 40 = .ok (.aload_n 0, 1) := by decide +kernel
theorem dX11_hardness_41 : decode cX11_hardness 41 = .ok (.bipush 9, 2) := by decide +kernel
theorem dX11_hardness_43 : decode cX11_hardness 43 = .ok (.invokevirtual 140, 3) := by decide +kernel
theorem dX11_hardness_46 : decode cX11_hardness 46 = .ok (.ireturn, 1) := by decide +kernel
theorem dX11_hardness_47 : decode cX11_hardness 47 = .ok (.aload_n 0, 1) := by decide +kernel
theorem dX11_hardness_48 : decode cX11_hardness 48 = .ok (.getfield 47, 3) := by decide +kernel
theorem dX11_hardness_51 : decode cX11_hardness 51 = .ok (.aload_n 0, 1) := by decide +kernel
theorem dX11_hardness_52 : decode cX11_hardness 52 = .ok (.getfield 40, 3) := by decide +kernel
theorem dX11_hardness_55 : decode cX11_hardness 55 = .ok (.iload 4, 2) := by decide +kernel
theorem dX11_hardness_57 : decode cX11_hardness 57 = .ok (.invokevirtual 208, 3) := by decide +kernel
theorem dX11_hardness_60 : decode cX11_hardness 60 = .ok (.aload_n 0, 1) := by decide +kernel
theorem dX11_hardness_61 : decode cX11_hardness 61 = .ok (.getfield 54, 3) := by decide +kernel
theorem dX11_hardness_64 : decode cX11_hardness 64 = .ok (.aload_n 0, 1) := by decide +kernel
theorem dX11_hardness_65 : decode cX11_hardness 65 = .ok (.getfield 47, 3) := by decide +kernel
theorem dX11_hardness_68 : decode cX11_hardness 68 = .ok (.getfield 212, 3) := by decide +kernel
theorem dX11_hardness_71 : decode cX11_hardness 71 = .ok (.iload_n 1, 1) := by decide +kernel
theorem dX11_hardness_72 : decode cX11_hardness 72 = .ok (.laload, 1) := by decide +kernel
theorem dX11_hardness_73 : decode cX11_hardness 73 = .ok (.aload_n 0, 1) := by decide +kernel
theorem dX11_hardness_74 : decode cX11_hardness 74 = .ok (.getfield 47, 3) := by decide +kernel
theorem dX11_hardness_77 : decode cX11_hardness 77 = .ok (.getfield 216, 3) := by decide +kernel
theorem dX11_hardness_80 : decode cX11_hardness 80 = .ok (.iload_n 1, 1) := by decide +kernel
theorem dX11_hardness_81 : decode cX11_hardness 81 = .ok (.laload, 1) := by decide +kernel
theorem dX11_hardness_82 : decode cX11_hardness 82 = .ok (.invokevirtual 219, 3) := by decide +kernel
theorem dX11_hardness_85 : decode cX11_hardness 85 = .ok (.aload_n 0, 1) := by decide +kernel
theorem dX11_hardness_86 : decode cX11_hardness 86 = .ok (.invokevirtual 143, 3) := by decide +kernel
theorem dX11_hardness_89 : decode cX11_hardness 89 = .ok (.ireturn, 1) := by decide +kernel
theorem dX11_fair_0 : decode cX11_fair 0 = .ok (.aload_n 0, 1) := by decide +kernel
theorem dX11_fair_1 : decode cX11_fair 1 = .ok (.getfield 10, 3) := by decide +kernel
theorem dX11_fair_4 : decode cX11_fair 4 = .ok (.iload_n 1, 1) := by decide +kernel
theorem dX11_fair_5 : decode cX11_fair 5 = .ok (.invokevirtual 118, 3) := by decide +kernel
theorem dX11_fair_8 : decode cX11_fair 8 = .ok (.ifCond .ne 9, 3) := by decide +kernel
theorem dX11_fair_11 : decode cX11_fair 11 = .ok (.aload_n 0, 1) := by decide +kernel
theorem dX11_fair_12 : decode cX11_fair 12 = .ok (.iconst 1, 1) := by decide +kernel
theorem dX11_fair_13 : decode cX11_fair 13 = .ok (.invokevirtual 140, 3) := by decide +kernel
theorem dX11_fair_16 : decode cX11_fair 16 = .ok (.ireturn, 1) := by decide +kernel
theorem dX11_fair_17 : decode cX11_fair 17 = .ok (.iload_n 2, 1) := by decide +kernel
theorem dX11_fair_18 : decode cX11_fair 18 = .ok (.invokestatic 181, 3) := by decide +kernel
theorem dX11_fair_21 : decode cX11_fair 21 = .ok (.ifCond .ne 9, 3) := by decide +kernel
theorem dX11_fair_24 : decode cX11_fair 24 = .ok (.aload_n 0, 1) := by decide +kernel
theorem dX11_fair_25 : decode cX11_fair 25 = .ok (.iconst 2, 1) := by decide +kernel
theorem dX11_fair_26 : decode cX11_fair 26 = .ok (.invokevirtual 140, 3) := by decide +kernel
theorem dX11_fair_29 : decode cX11_fair 29 = .ok (.ireturn, 1) := by decide +kernel
theorem dX11_fair_30 : decode cX11_fair 30 = .ok (.aload_n 0, 1) := by decide +kernel
theorem dX11_fair_31 : decode cX11_fair 31 = .ok (.getfield 40, 3) := by decide +kernel
theorem dX11_fair_34 : decode cX11_fair 34 = .ok (.aload_n 0, 1) := by decide +kernel
theorem dX11_fair_35 : decode cX11_fair 35 = .ok (.getfield 33, 3) := by decide +kernel
theorem dX11_fair_38 : decode cX11_fair 38 = .ok (.iload_n 2, 1) := by decide +kernel
theorem dX11_fair_39 : decode cX11_fair 39 = .ok (.invokevirtual 192, 3) := by decide +kernel
theorem dX11_fair_42 : decode cX11_fair 42 = .ok (.aload_n 0, 1) := by decide +kernel
theorem dX11_fair_43 : decode cX11_fair 43 = .ok (.getfield 40, 3) := by decide +kernel
theorem dX11_fair_46 : decode cX11_fair 46 = .ok (.iload_n 1, 1) := by decide +kernel
theorem dX11_fair_47 : decode cX11_fair 47 = .ok (.invokevirtual 223, 3) := by decide +kernel
theorem dX11_fair_50 : decode cX11_fair 50 = .ok (.istore_n 3, 1) := by decide +kernel
theorem dX11_fair_51 : decode cX11_fair 51 = .ok (.iload_n 3, 1) := by decide +kernel
theorem dX11_fair_52 : decode cX11_fair 52 = .ok (.iconst (-1), 1) := by decide +kernel
theorem dX11_fair_53 : decode cX11_fair 53 = .ok (.if_icmp .ne 10, 3) := by decide +kernel
theorem dX11_fair_56 : decode cX11_fair 56 = .ok (.aload_n 0, 1) := by decide +kernel
theorem dX11_fair_57 : decode cX11_fair 57 = .ok (.bipush 6, 2) := by decide +kernel
theorem dX11_fair_59 : decode cX11_fair 59 = .ok (.invokevirtual 140, 3) := by decide +kernel
theorem dX11_fair_62 : decode cX11_fair 62 = .ok (.ireturn, 1) := by decide +kernel
theorem dX11_fair_63 : decode cX11_fair 63 = .ok (.aload_n 0, 1) := by decide +kernel
theorem dX11_fair_64 : decode cX11_fair 64 = .ok (.getfield 40, 3) := by decide +kernel
theorem dX11_fair_67 : decode cX11_fair 67 = .ok (.iload_n 3, 1) := by decide +kernel
theorem dX11_fair_68 : decode cX11_fair 68 = .ok (.invokevirtual 205, 3) := by decide +kernel
theorem dX11_fair_71 : decode cX11_fair 71 = .ok (.ifCond .eq 10, 3) := by decide +kernel
theorem dX11_fair_74 : decode cX11_fair 74 = .ok (.aload_n 0, 1) := by decide +kernel
theorem dX11_fair_75 : decode cX11_fair 75 = .ok (.bipush 9, 2) := by decide +kernel
theorem dX11_fair_77 : decode cX11_fair 77 = .ok (.invokevirtual 140, 3) := by decide +kernel
theorem dX11_fair_80 : decode cX11_fair 80 = .ok (.ireturn, 1) := by decide +kernel
theorem dX11_fair_81 : decode cX11_fair 81 = .ok (.aload_n 0, 1) := by decide +kernel
theorem dX11_fair_82 : decode cX11_fair 82 = .ok (.getfield 47, 3) := by decide +kernel
theorem dX11_fair_85 : decode cX11_fair 85 = .ok (.aload_n 0, 1) := by decide +kernel
theorem dX11_fair_86 : decode cX11_fair 86 = .ok (.getfield 40, 3) := by decide +kernel
theorem dX11_fair_89 : decode cX11_fair 89 = .ok (.iload_n 3, 1) := by decide +kernel
theorem dX11_fair_90 : decode cX11_fair 90 = .ok (.invokevirtual 208, 3) := by decide +kernel
theorem dX11_fair_93 : decode cX11_fair 93 = .ok (.aload_n 0, 1) := by decide +kernel
theorem dX11_fair_94 : decode cX11_fair 94 = .ok (.getfield 47, 3) := by decide +kernel
theorem dX11_fair_97 : decode cX11_fair 97 = .ok (.aload_n 0, 1) := by decide +kernel
theorem dX11_fair_98 : decode cX11_fair 98 = .ok (.getfield 40, 3) := by decide +kernel
theorem dX11_fair_101 : decode cX11_fair 101 = .ok (.iload_n 1, 1) := by decide +kernel
theorem dX11_fair_102 : decode cX11_fair 102 = .ok (.aload_n 0, 1) := by decide +kernel
theorem dX11_fair_103 : decode cX11_fair 103 = .ok (.getfield 54, 3) := by decide +kernel
theorem dX11_fair_106 : decode cX11_fair 106 = .ok (.invokevirtual 226, 3) := by decide +kernel
theorem dX11_fair_109 : decode cX11_fair 109 = .ok (.aload_n 0, 1) := by decide +kernel
theorem dX11_fair_110 : decode cX11_fair 110 = .ok (.invokevirtual 143, 3) := by decide +kernel
theorem dX11_fair_113 : decode cX11_fair 113 = .ok (.ireturn, 1) := by decide +kernel
theorem dX11_upper_0 : decode cX11_upper 0 = .ok (.aload_n 0, 1) := by decide +kernel
theorem dX11_upper_1 : decode cX11_upper 1 = .ok (.getfield 54, 3) := by decide +kernel
theorem dX11_upper_4 : decode cX11_upper 4 = .ok (.getfield 230, 3) := by decide +kernel
theorem dX11_upper_7 : decode cX11_upper 7 = .ok (.lreturn, 1) := by decide +kernel
theorem dX11_lower_0 : decode cX11_lower 0 = .ok (.aload_n 0, 1) := by decide +kernel
theorem dX11_lower_1 : decode cX11_lower 1 = .ok (.getfield 54, 3) := by decide +kernel
theorem dX11_lower_4 : decode cX11_lower 4 = .ok (.getfield 234, 3) := by decide +kernel
theorem dX11_lower_7 : decode cX11_lower 7 = .ok (.lreturn, 1) := by decide +kernel
theorem dX11_feed_0 : decode cX11_feed 0 = .ok (.aload_n 0, 1) := by decide +kernel
theorem dX11_feed_1 : decode cX11_feed 1 = .ok (.getfield 61, 3) := by decide +kernel
theorem dX11_feed_4 : decode cX11_feed 4 = .ok (.getfield 237, 3) := by decide +kernel
theorem dX11_feed_7 : decode cX11_feed 7 = .ok (.bipush 20, 2) := by decide +kernel
theorem dX11_feed_9 : decode cX11_feed 9 = .ok (.iadd, 1) := by decide +kernel
theorem dX11_feed_10 : decode cX11_feed 10 = .ok (.sipush 300, 3) := by decide +kernel
theorem dX11_feed_13 : decode cX11_feed 13 = .ok (.if_icmp .le 5, 3) := by decide +kernel
theorem dX11_feed_16 : decode cX11_feed 16 = .ok (.iconst (-1), 1) := by decide +kernel
theorem dX11_feed_17 : decode cX11_feed 17 = .ok (.ireturn, 1) := by decide +kernel
theorem dX11_feed_18 : decode cX11_feed 18 = .ok (.aload_n 0, 1) := by decide +kernel
theorem dX11_feed_19 : decode cX11_feed 19 = .ok (.getfield 61, 3) := by decide +kernel
theorem dX11_feed_22 : decode cX11_feed 22 = .ok (.iload_n 1, 1) := by decide +kernel
theorem dX11_feed_23 : decode cX11_feed 23 = .ok (.invokevirtual 240, 3) := by decide +kernel
theorem dX11_feed_26 : decode cX11_feed 26 = .ok (.aload_n 0, 1) := by decide +kernel
theorem dX11_feed_27 : decode cX11_feed 27 = .ok (.getfield 61, 3) := by decide +kernel
theorem dX11_feed_30 : decode cX11_feed 30 = .ok (.iload_n 2, 1) := by decide +kernel
theorem dX11_feed_31 : decode cX11_feed 31 = .ok (.invokevirtual 240, 3) := by decide +kernel
theorem dX11_feed_34 : decode cX11_feed 34 = .ok (.aload_n 0, 1) := by decide +kernel
theorem dX11_feed_35 : decode cX11_feed 35 = .ok (.getfield 61, 3) := by decide +kernel
theorem dX11_feed_38 : decode cX11_feed 38 = .ok (.iload_n 3, 1) := by decide +kernel
theorem dX11_feed_39 : decode cX11_feed 39 = .ok (.invokevirtual 240, 3) := by decide +kernel
theorem dX11_feed_42 : decode cX11_feed 42 = .ok (.aload_n 0, 1) := by decide +kernel
theorem dX11_feed_43 : decode cX11_feed 43 = .ok (.getfield 61, 3) := by decide +kernel
theorem dX11_feed_46 : decode cX11_feed 46 = .ok (.iload 4, 2) := by decide +kernel
theorem dX11_feed_48 : decode cX11_feed 48 = .ok (.invokevirtual 240, 3) := by decide +kernel
theorem dX11_feed_51 : decode cX11_feed 51 = .ok (.aload_n 0, 1) := by decide +kernel
theorem dX11_feed_52 : decode cX11_feed 52 = .ok (.getfield 61, 3) := by decide +kernel
theorem dX11_feed_55 : decode cX11_feed 55 = .ok (.iload 5, 2) := by decide +kernel
theorem dX11_feed_57 : decode cX11_feed 57 = .ok (.invokevirtual 240, 3) := by decide +kernel
theorem dX11_feed_60 : decode cX11_feed 60 = .ok (.aload_n 0, 1) := by decide +kernel
theorem dX11_feed_61 : decode cX11_feed 61 = .ok (.getfield 61, 3) := by decide +kernel
theorem dX11_feed_64 : decode cX11_feed 64 = .ok (.getfield 237, 3) := by decide +kernel
theorem dX11_feed_67 : decode cX11_feed 67 = .ok (.ireturn, 1) := by decide +kernel
theorem dX11_prizes_0 : decode cX11_prizes 0 = .ok (.iload_n 1, 1) := by decide +kernel
theorem dX11_prizes_1 : decode cX11_prizes 1 = .ok (.iconst 0, 1) := by decide +kernel
theorem dX11_prizes_2 : decode cX11_prizes 2 = .ok (.aload_n 0, 1) := by decide +kernel
theorem dX11_prizes_3 : decode cX11_prizes 3 = .ok (.getfield 61, 3) := by decide +kernel
theorem dX11_prizes_6 : decode cX11_prizes 6 = .ok (.getfield 237, 3) := by decide +kernel
theorem dX11_prizes_9 : decode cX11_prizes 9 = .ok (.invokestatic 96, 3) := by decide +kernel
theorem dX11_prizes_12 : decode cX11_prizes 12 = .ok (.ifCond .ne 9, 3) := by decide +kernel
theorem dX11_prizes_15 : decode cX11_prizes 15 = .ok (.aload_n 0, 1) := by decide +kernel
theorem dX11_prizes_16 : decode cX11_prizes 16 = .ok (.iconst 2, 1) := by decide +kernel
theorem dX11_prizes_17 : decode cX11_prizes 17 = .ok (.invokevirtual 100, 3) := by decide +kernel
theorem dX11_prizes_20 : decode cX11_prizes 20 = .ok (.ireturn, 1) := by decide +kernel
theorem dX11_prizes_21 : decode cX11_prizes 21 = .ok (.aload_n 0, 1) := by decide +kernel
theorem dX11_prizes_22 : decode cX11_prizes 22 = .ok (.getfield 61, 3) := by decide +kernel
theorem dX11_prizes_25 : decode cX11_prizes 25 = .ok (.iload_n 1, 1) := by decide +kernel
theorem dX11_prizes_26 : decode cX11_prizes 26 = .ok (.aload_n 0, 1) := by decide +kernel
theorem dX11_prizes_27 : decode cX11_prizes 27 = .ok (.getfield 86, 3) := by decide +kernel
theorem dX11_prizes_30 : decode cX11_prizes 30 = .ok (.invokevirtual 244, 3) := by decide +kernel
theorem dX11_prizes_33 : decode cX11_prizes 33 = .ok (.aload_n 0, 1) := by decide +kernel
theorem dX11_prizes_34 : decode cX11_prizes 34 = .ok (.getfield 61, 3) := by decide +kernel
theorem dX11_prizes_37 : decode cX11_prizes 37 = .ok (.iconst 0, 1) := by decide +kernel
theorem dX11_prizes_38 : decode cX11_prizes 38 = .ok (.putfield 237, 3) := by decide +kernel
theorem dX11_prizes_41 : decode cX11_prizes 41 = .ok (.aload_n 0, 1) := by decide +kernel
theorem dX11_prizes_42 : decode cX11_prizes 42 = .ok (.getfield 61, 3) := by decide +kernel
theorem dX11_prizes_45 : decode cX11_prizes 45 = .ok (.getfield 248, 3) := by decide +kernel
theorem dX11_prizes_48 : decode cX11_prizes 48 = .ok (.ifCond .eq 10, 3) := by decide +kernel
theorem dX11_prizes_51 : decode cX11_prizes 51 = .ok (.aload_n 0, 1) := by decide +kernel
theorem dX11_prizes_52 : decode cX11_prizes 52 = .ok (.bipush 7, 2) := by decide +kernel
theorem dX11_prizes_54 : decode cX11_prizes 54 = .ok (.invokevirtual 100, 3) := by decide +kernel
theorem dX11_prizes_57 : decode cX11_prizes 57 = .ok (.ireturn, 1) := by decide +kernel
theorem dX11_prizes_58 : decode cX11_prizes 58 = .ok (.aload_n 0, 1) := by decide +kernel
theorem dX11_prizes_59 : decode cX11_prizes 59 = .ok (.getfield 82, 3) := by decide +kernel
theorem dX11_prizes_62 : decode cX11_prizes 62 = .ok (.astore_n 2, 1) := by decide +kernel
theorem dX11_prizes_63 : decode cX11_prizes 63 = .ok (.aload_n 0, 1) := by decide +kernel
theorem dX11_prizes_64 : decode cX11_prizes 64 = .ok (.aload_n 0, 1) := by decide +kernel
theorem dX11_prizes_65 : decode cX11_prizes 65 = .ok (.getfield 86, 3) := by decide +kernel
theorem dX11_prizes_68 : decode cX11_prizes 68 = .ok (.putfield 82, 3) := by decide +kernel
theorem dX11_prizes_71 : decode cX11_prizes 71 = .ok (.aload_n 0, 1) := by decide +kernel
theorem dX11_prizes_72 : decode cX11_prizes 72 = .ok (.aload_n 2, 1) := by decide +kernel
theorem dX11_prizes_73 : decode cX11_prizes 73 = .ok (.putfield 86, 3) := by decide +kernel
theorem dX11_prizes_76 : decode cX11_prizes 76 = .ok (.aload_n 0, 1) := by decide +kernel
theorem dX11_prizes_77 : decode cX11_prizes 77 = .ok (.aload_n 0, 1) := by decide +kernel
theorem dX11_prizes_78 : decode cX11_prizes 78 = .ok (.getfield 82, 3) := by decide +kernel
theorem dX11_prizes_81 : decode cX11_prizes 81 = .ok (.getfield 251, 3) := by decide +kernel
theorem dX11_prizes_84 : decode cX11_prizes 84 = .ok (.invokevirtual 111, 3) := by decide +kernel
theorem dX11_prizes_87 : decode cX11_prizes 87 = .ok (.ireturn, 1) := by decide +kernel
theorem dX11_fault_0 : decode cX11_fault 0 = .ok (.iload_n 1, 1) := by decide +kernel
theorem dX11_fault_1 : decode cX11_fault 1 = .ok (.ifCond .ne 11, 3) := by decide +kernel
theorem dX11_fault_4 : decode cX11_fault 4 = .ok (.aload_n 0, 1) := by decide +kernel
theorem dX11_fault_5 : decode cX11_fault 5 = .ok (.getfield 61, 3) := by decide +kernel
theorem dX11_fault_8 : decode cX11_fault 8 = .ok (.getfield 248, 3) := by decide +kernel
theorem dX11_fault_11 : decode cX11_fault 11 = .ok (.ireturn, 1) := by decide +kernel
theorem dX11_fault_12 : decode cX11_fault 12 = .ok (.iload_n 1, 1) := by decide +kernel
theorem dX11_fault_13 : decode cX11_fault 13 = .ok (.iconst 1, 1) := by decide +kernel
theorem dX11_fault_14 : decode cX11_fault 14 = .ok (.if_icmp .ne 13, 3) := by decide +kernel
theorem dX11_fault_17 : decode cX11_fault 17 = .ok (.aload_n 0, 1) := by decide +kernel
theorem dX11_fault_18 : decode cX11_fault 18 = .ok (.getfield 61, 3) := by decide +kernel
theorem dX11_fault_21 : decode cX11_fault 21 = .ok (.getfield 252, 3) := by decide +kernel
theorem dX11_fault_24 : decode cX11_fault 24 = .ok (.goto 4, 3) := by decide +kernel
theorem dX11_fault_27 : decode cX11_fault 27 = .ok (.iconst (-1), 1) := by decide +kernel
theorem dX11_fault_28 : decode cX11_fault 28 = .ok (.ireturn, 1) := by decide +kernel
theorem dX11_given_0 : decode cX11_given 0 = .ok (.aload_n 0, 1) := by decide +kernel
theorem dX11_given_1 : decode cX11_given 1 = .ok (.getfield 82, 3) := by decide +kernel
theorem dX11_given_4 : decode cX11_given 4 = .ok (.iload_n 1, 1) := by decide +kernel
theorem dX11_given_5 : decode cX11_given 5 = .ok (.invokevirtual 255, 3) := by decide +kernel
theorem dX11_given_8 : decode cX11_given 8 = .ok (.ifCond .eq 7, 3) := by decide +kernel
theorem dX11_given_11 : decode cX11_given 11 = .ok (.iload_n 2, 1) := by decide +kernel
theorem dX11_given_12 : decode cX11_given 12 = .ok (.ifCond .ge 9, 3) := by decide +kernel
theorem dX11_given_15 : decode cX11_given 15 = .ok (.aload_n 0, 1) := by decide +kernel
theorem dX11_given_16 : decode cX11_given 16 = .ok (.iconst 1, 1) := by decide +kernel
theorem dX11_given_17 : decode cX11_given 17 = .ok (.invokevirtual 100, 3) := by decide +kernel
theorem dX11_given_20 : decode cX11_given 20 = .ok (.ireturn, 1) := by decide +kernel
theorem dX11_given_21 : decode cX11_given 21 = .ok (.iload_n 3, 1) := by decide +kernel
theorem dX11_given_22 : decode cX11_given 22 = .ok (.invokestatic 181, 3) := by decide +kernel
theorem dX11_given_25 : decode cX11_given 25 = .ok (.ifCond .ne 9, 3) := by decide +kernel
theorem dX11_given_28 : decode cX11_given 28 = .ok (.aload_n 0, 1) := by decide +kernel
theorem dX11_given_29 : decode cX11_given 29 = .ok (.iconst 2, 1) := by decide +kernel
theorem dX11_given_30 : decode cX11_given 30 = .ok (.invokevirtual 100, 3) := by decide +kernel
theorem dX11_given_33 : decode cX11_given 33 = .ok (.ireturn, 1) := by decide +kernel
theorem dX11_given_34 : decode cX11_given 34 = .ok (.aload_n 0, 1) := by decide +kernel
theorem dX11_given_35 : decode cX11_given 35 = .ok (.getfield 40, 3) := by decide +kernel
theorem dX11_given_38 : decode cX11_given 38 = .ok (.aload_n 0, 1) := by decide +kernel
theorem dX11_given_39 : decode cX11_given 39 = .ok (.getfield 33, 3) := by decide +kernel
theorem dX11_given_42 : decode cX11_given 42 = .ok (.iload_n 3, 1) := by decide +kernel
theorem dX11_given_43 : decode cX11_given 43 = .ok (.invokevirtual 192, 3) := by decide +kernel
theorem dX11_given_46 : decode cX11_given 46 = .ok (.aload_n 0, 1) := by decide +kernel
theorem dX11_given_47 : decode cX11_given 47 = .ok (.getfield 40, 3) := by decide +kernel
theorem dX11_given_50 : decode cX11_given 50 = .ok (.invokevirtual 256, 3) := by decide +kernel
theorem dX11_given_53 : decode cX11_given 53 = .ok (.ifCond .eq 10, 3) := by decide +kernel
theorem dX11_given_56 : decode cX11_given 56 = .ok (.aload_n 0, 1) := by decide +kernel
theorem dX11_given_57 : decode cX11_given 57 = .ok (.bipush 9, 2) := by decide +kernel
theorem dX11_given_59 : decode cX11_given 59 = .ok (.invokevirtual 100, 3) := by decide +kernel
theorem dX11_given_62 : decode cX11_given 62 = .ok (.ireturn, 1) := by decide +kernel
theorem dX11_given_63 : decode cX11_given 63 = .ok (.aload_n 0, 1) := by decide +kernel
theorem dX11_given_64 : decode cX11_given 64 = .ok (.getfield 47, 3) := by decide +kernel
theorem dX11_given_67 : decode cX11_given 67 = .ok (.aload_n 0, 1) := by decide +kernel
theorem dX11_given_68 : decode cX11_given 68 = .ok (.getfield 40, 3) := by decide +kernel
theorem dX11_given_71 : decode cX11_given 71 = .ok (.invokevirtual 259, 3) := by decide +kernel
theorem dX11_given_74 : decode cX11_given 74 = .ok (.aload_n 0, 1) := by decide +kernel
theorem dX11_given_75 : decode cX11_given 75 = .ok (.getfield 68, 3) := by decide +kernel
theorem dX11_given_78 : decode cX11_given 78 = .ok (.aload_n 0, 1) := by decide +kernel
theorem dX11_given_79 : decode cX11_given 79 = .ok (.getfield 40, 3) := by decide +kernel
theorem dX11_given_82 : decode cX11_given 82 = .ok (.aload_n 0, 1) := by decide +kernel
theorem dX11_given_83 : decode cX11_given 83 = .ok (.getfield 47, 3) := by decide +kernel
theorem dX11_given_86 : decode cX11_given 86 = .ok (.invokevirtual 263, 3) := by decide +kernel
theorem dX11_given_89 : decode cX11_given 89 = .ok (.aload_n 0, 1) := by decide +kernel
theorem dX11_given_90 : decode cX11_given 90 = .ok (.getfield 68, 3) := by decide +kernel
theorem dX11_given_93 : decode cX11_given 93 = .ok (.aload_n 0, 1) := by decide +kernel
theorem dX11_given_94 : decode cX11_given 94 = .ok (.getfield 82, 3) := by decide +kernel
theorem dX11_given_97 : decode cX11_given 97 = .ok (.iload_n 1, 1) := by decide +kernel
theorem dX11_given_98 : decode cX11_given 98 = .ok (.aload_n 0, 1) := by decide +kernel
theorem dX11_given_99 : decode cX11_given 99 = .ok (.getfield 10, 3) := by decide +kernel
theorem dX11_given_102 : decode cX11_given 102 = .ok (.aload_n 0, 1) := by decide +kernel
theorem dX11_given_103 : decode cX11_given 103 = .ok (.getfield 40, 3) := by decide +kernel
theorem dX11_given_106 : decode cX11_given 106 = .ok (.invokevirtual 267, 3) := by decide +kernel
theorem dX11_given_109 : decode cX11_given 109 = .ok (.iload_n 2, 1) := by decide +kernel
theorem dX11_given_110 : decode cX11_given 110 = .ok (.aload_n 0, 1) := by decide +kernel
theorem dX11_given_111 : decode cX11_given 111 = .ok (.getfield 68, 3) := by decide +kernel
theorem dX11_given_114 : decode cX11_given 114 = .ok (.getfield 271, 3) := by decide +kernel
theorem dX11_given_117 : decode cX11_given 117 = .ok (.if_icmp .lt 9, 3) := by decide +kernel
theorem dX11_given_120 : decode cX11_given 120 = .ok (.aload_n 0, 1) := by decide +kernel
theorem dX11_given_121 : decode cX11_given 121 = .ok (.iconst 1, 1) := by decide +kernel
theorem dX11_given_122 : decode cX11_given 122 = .ok (.invokevirtual 100, 3) := by decide +kernel
theorem dX11_given_125 : decode cX11_given 125 = .ok (.ireturn, 1) := by decide +kernel
theorem dX11_given_126 : decode cX11_given 126 = .ok (.aload_n 0, 1) := by decide +kernel
theorem dX11_given_127 : decode cX11_given 127 = .ok (.aload_n 0, 1) := by decide +kernel
theorem dX11_given_128 : decode cX11_given 128 = .ok (.getfield 68, 3) := by decide +kernel
theorem dX11_given_131 : decode cX11_given 131 = .ok (.getfield 274, 3) := by decide +kernel
theorem dX11_given_134 : decode cX11_given 134 = .ok (.iload_n 2, 1) := by decide +kernel
theorem dX11_given_135 : decode cX11_given 135 = .ok (.iaload, 1) := by decide +kernel
theorem dX11_given_136 : decode cX11_given 136 = .ok (.invokevirtual 111, 3) := by decide +kernel
theorem dX11_given_139 : decode cX11_given 139 = .ok (.ireturn, 1) := by decide +kernel
theorem dX11_hall_0 : decode cX11_hall 0 = .ok (.iload_n 1, 1) := by decide +kernel
theorem dX11_hall_1 : decode cX11_hall 1 = .ok (.iconst 0, 1) := by decide +kernel
theorem dX11_hall_2 : decode cX11_hall 2 = .ok (.bipush 24, 2) := by decide +kernel
theorem dX11_hall_4 : decode cX11_hall 4 = .ok (.invokestatic 96, 3) := by decide +kernel
theorem dX11_hall_7 : decode cX11_hall 7 = .ok (.ifCond .eq 24, 3) := by decide +kernel
theorem dX11_hall_10 : decode cX11_hall 10 = .ok (.iload_n 2, 1) := by decide +kernel
theorem dX11_hall_11 : decode cX11_hall 11 = .ok (.iconst 0, 1) := by decide +kernel
theorem dX11_hall_12 : decode cX11_hall 12 = .ok (.sipush 999, 3) := by decide +kernel
theorem dX11_hall_15 : decode cX11_hall 15 = .ok (.invokestatic 96, 3) := by decide +kernel
theorem dX11_hall_18 : decode cX11_hall 18 = .ok (.ifCond .eq 13, 3) := by decide +kernel
theorem dX11_hall_21 : decode cX11_hall 21 = .ok (.iload_n 3, 1) := by decide +kernel
theorem dX11_hall_22 : decode cX11_hall 22 = .ok (.iconst 0, 1) := by decide +kernel
theorem dX11_hall_23 : decode cX11_hall 23 = .ok (.bipush 24, 2) := by decide +kernel
theorem dX11_hall_25 : decode cX11_hall 25 = .ok (.invokestatic 96, 3) := by decide +kernel
theorem dX11_hall_28 : decode cX11_hall 28 = .ok (.ifCond .ne 9, 3) := by decide +kernel
theorem dX11_hall_31 : decode cX11_hall 31 = .ok (.aload_n 0, 1) := by decide +kernel
theorem dX11_hall_32 : decode cX11_hall 32 = .ok (.iconst 2, 1) := by decide +kernel
theorem dX11_hall_33 : decode cX11_hall 33 = .ok (.invokevirtual 100, 3) := by decide +kernel
theorem dX11_hall_36 : decode cX11_hall 36 = .ok (.ireturn, 1) := by decide +kernel
theorem dX11_hall_37 : decode cX11_hall 37 = .ok (.aload_n 0, 1) := by decide +kernel
theorem dX11_hall_38 : decode cX11_hall 38 = .ok (.getfield 75, 3) := by decide +kernel
theorem dX11_hall_41 : decode cX11_hall 41 = .ok (.getfield 277, 3) := by decide +kernel
theorem dX11_hall_44 : decode cX11_hall 44 = .ok (.iconst 4, 1) := by decide +kernel
theorem dX11_hall_45 : decode cX11_hall 45 = .ok (.if_icmp .lt 9, 3) := by decide +kernel
theorem dX11_hall_48 : decode cX11_hall 48 = .ok (.aload_n 0, 1) := by decide +kernel
theorem dX11_hall_49 : decode cX11_hall 49 = .ok (.iconst 3, 1) := by decide +kernel
theorem dX11_hall_50 : decode cX11_hall 50 = .ok (.invokevirtual 100, 3) := by decide +kernel
theorem dX11_hall_53 : decode cX11_hall 53 = .ok (.ireturn, 1) := by decide +kernel
theorem dX11_hall_54 : decode cX11_hall 54 = .ok (.aload_n 0, 1) := by decide +kernel
theorem dX11_hall_55 : decode cX11_hall 55 = .ok (.aload_n 0, 1) := by decide +kernel
theorem dX11_hall_56 : decode cX11_hall 56 = .ok (.getfield 75, 3) := by decide +kernel
theorem dX11_hall_59 : decode cX11_hall 59 = .ok (.iload_n 1, 1) := by decide +kernel
theorem dX11_hall_60 : decode cX11_hall 60 = .ok (.iload_n 2, 1) := by decide +kernel
theorem dX11_hall_61 : decode cX11_hall 61 = .ok (.iload_n 3, 1) := by decide +kernel
theorem dX11_hall_62 : decode cX11_hall 62 = .ok (.invokevirtual 278, 3) := by decide +kernel
theorem dX11_hall_65 : decode cX11_hall 65 = .ok (.invokevirtual 111, 3) := by decide +kernel
theorem dX11_hall_68 : decode cX11_hall 68 = .ok (.ireturn, 1) := by decide +kernel
theorem dX11_clear_0 : decode cX11_clear 0 = .ok (.aload_n 0, 1) := by decide +kernel
theorem dX11_clear_1 : decode cX11_clear 1 = .ok (.getfield 75, 3) := by decide +kernel
theorem dX11_clear_4 : decode cX11_clear 4 = .ok (.invokevirtual 279, 3) := by decide +kernel
theorem dX11_clear_7 : decode cX11_clear 7 = .ok (.aload_n 0, 1) := by decide +kernel
theorem dX11_clear_8 : decode cX11_clear 8 = .ok (.invokevirtual 143, 3) := by decide +kernel
theorem dX11_clear_11 : decode cX11_clear 11 = .ok (.ireturn, 1) := by decide +kernel
theorem dX11_laid_0 : decode cX11_laid 0 = .ok (.aload_n 0, 1) := by decide +kernel
theorem dX11_laid_1 : decode cX11_laid 1 = .ok (.getfield 10, 3) := by decide +kernel
theorem dX11_laid_4 : decode cX11_laid 4 = .ok (.iload_n 1, 1) := by decide +kernel
theorem dX11_laid_5 : decode cX11_laid 5 = .ok (.invokevirtual 118, 3) := by decide +kernel
theorem dX11_laid_8 : decode cX11_laid 8 = .ok (.ifCond .ne 9, 3) := by decide +kernel
theorem dX11_laid_11 : decode cX11_laid 11 = .ok (.aload_n 0, 1) := by decide +kernel
theorem dX11_laid_12 : decode cX11_laid 12 = .ok (.iconst 1, 1) := by decide +kernel
theorem dX11_laid_13 : decode cX11_laid 13 = .ok (.invokevirtual 100, 3) := by decide +kernel
theorem dX11_laid_16 : decode cX11_laid 16 = .ok (.ireturn, 1) := by decide +kernel
theorem dX11_laid_17 : decode cX11_laid 17 = .ok (.aload_n 0, 1) := by decide +kernel
theorem dX11_laid_18 : decode cX11_laid 18 = .ok (.getfield 75, 3) := by decide +kernel
theorem dX11_laid_21 : decode cX11_laid 21 = .ok (.aload_n 0, 1) := by decide +kernel
theorem dX11_laid_22 : decode cX11_laid 22 = .ok (.getfield 10, 3) := by decide +kernel
theorem dX11_laid_25 : decode cX11_laid 25 = .ok (.invokevirtual 282, 3) := by decide +kernel
theorem dX11_laid_28 : decode cX11_laid 28 = .ok (.istore_n 2, 1) := by decide +kernel
theorem dX11_laid_29 : decode cX11_laid 29 = .ok (.iload_n 2, 1) := by decide +kernel
theorem dX11_laid_30 : decode cX11_laid 30 = .ok (.ifCond .ne 19, 3) := by decide +kernel
theorem dX11_laid_33 : decode cX11_laid 33 = .ok (.aload_n 0, 1) := by decide +kernel
theorem dX11_laid_34 : decode cX11_laid 34 = .ok (.aload_n 0, 1) := by decide +kernel
theorem dX11_laid_35 : decode cX11_laid 35 = .ok (.getfield 75, 3) := by decide +kernel
theorem dX11_laid_38 : decode cX11_laid 38 = .ok (.getfield 286, 3) := by decide +kernel
theorem dX11_laid_41 : decode cX11_laid 41 = .ok (.iload_n 1, 1) := by decide +kernel
theorem dX11_laid_42 : decode cX11_laid 42 = .ok (.iaload, 1) := by decide +kernel
theorem dX11_laid_43 : decode cX11_laid 43 = .ok (.invokevirtual 111, 3) := by decide +kernel
theorem dX11_laid_46 : decode cX11_laid 46 = .ok (.goto 8, 3) := by decide +kernel
theorem dX11_laid_49 : decode cX11_laid 49 = .ok (.aload_n 0, 1) := by decide +kernel
theorem dX11_laid_50 : decode cX11_laid 50 = .ok (.iload_n 2, 1) := by decide +kernel
theorem dX11_laid_51 : decode cX11_laid 51 = .ok (.invokevirtual 100, 3) := by decide +kernel
theorem dX11_laid_54 : decode cX11_laid 54 = .ok (.ireturn, 1) := by decide +kernel
theorem dX11_tries_0 : decode cX11_tries 0 = .ok (.aload_n 0, 1) := by decide +kernel
theorem dX11_tries_1 : decode cX11_tries 1 = .ok (.getfield 75, 3) := by decide +kernel
theorem dX11_tries_4 : decode cX11_tries 4 = .ok (.aload_n 0, 1) := by decide +kernel
theorem dX11_tries_5 : decode cX11_tries 5 = .ok (.getfield 10, 3) := by decide +kernel
theorem dX11_tries_8 : decode cX11_tries 8 = .ok (.invokevirtual 282, 3) := by decide +kernel
theorem dX11_tries_11 : decode cX11_tries 11 = .ok (.istore_n 1, 1) := by decide +kernel
theorem dX11_tries_12 : decode cX11_tries 12 = .ok (.iload_n 1, 1) := by decide +kernel
theorem dX11_tries_13 : decode cX11_tries 13 = .ok (.ifCond .ne 17, 3) := by decide +kernel
theorem dX11_tries_16 : decode cX11_tries 16 = .ok (.aload_n 0, 1) := by decide +kernel
theorem dX11_tries_17 : decode cX11_tries 17 = .ok (.aload_n 0, 1) := by decide +kernel
theorem dX11_tries_18 : decode cX11_tries 18 = .ok (.getfield 75, 3) := by decide +kernel
theorem dX11_tries_21 : decode cX11_tries 21 = .ok (.getfield 289, 3) := by decide +kernel
theorem dX11_tries_24 : decode cX11_tries 24 = .ok (.invokevirtual 111, 3) := by decide +kernel
theorem dX11_tries_27 : decode cX11_tries 27 = .ok (.goto 8, 3) := by decide +kernel
theorem dX11_tries_30 : decode cX11_tries 30 = .ok (.aload_n 0, 1) := by decide +kernel
theorem dX11_tries_31 : decode cX11_tries 31 = .ok (.iload_n 1, 1) := by decide +kernel
theorem dX11_tries_32 : decode cX11_tries 32 = .ok (.invokevirtual 100, 3) := by decide +kernel
theorem dX11_tries_35 : decode cX11_tries 35 = .ok (.ireturn, 1) := by decide +kernel
theorem dX11_answer_0 : decode cX11_answer 0 = .ok (.aload_n 0, 1) := by decide +kernel
theorem dX11_answer_1 : decode cX11_answer 1 = .ok (.iconst 0, 1) := by decide +kernel
theorem dX11_answer_2 : decode cX11_answer 2 = .ok (.putfield 93, 3) := by decide +kernel
theorem dX11_answer_5 : decode cX11_answer 5 = .ok (.iload_n 1, 1) := by decide +kernel
theorem dX11_answer_6 : decode cX11_answer 6 = .ok (.ireturn, 1) := by decide +kernel
theorem dX11_yes_0 : decode cX11_yes 0 = .ok (.aload_n 0, 1) := by decide +kernel
theorem dX11_yes_1 : decode cX11_yes 1 = .ok (.iconst 0, 1) := by decide +kernel
theorem dX11_yes_2 : decode cX11_yes 2 = .ok (.putfield 93, 3) := by decide +kernel
theorem dX11_yes_5 : decode cX11_yes 5 = .ok (.iconst 1, 1) := by decide +kernel
theorem dX11_yes_6 : decode cX11_yes 6 = .ok (.ireturn, 1) := by decide +kernel
theorem dX11_none_0 : decode cX11_none 0 = .ok (.aload_n 0, 1) := by decide +kernel
theorem dX11_none_1 : decode cX11_none 1 = .ok (.iload_n 1, 1) := by decide +kernel
theorem dX11_none_2 : decode cX11_none 2 = .ok (.putfield 93, 3) := by decide +kernel
theorem dX11_none_5 : decode cX11_none 5 = .ok (.iconst (-1), 1) := by decide +kernel
theorem dX11_none_6 : decode cX11_none 6 = .ok (.ireturn, 1) := by decide +kernel
theorem dX11_no_0 : decode cX11_no 0 = .ok (.aload_n 0, 1) := by decide +kernel
theorem dX11_no_1 : decode cX11_no 1 = .ok (.iload_n 1, 1) := by decide +kernel
theorem dX11_no_2 : decode cX11_no 2 = .ok (.putfield 93, 3) := by decide +kernel
theorem dX11_no_5 : decode cX11_no 5 = .ok (.iconst 0, 1) := by decide +kernel
theorem dX11_no_6 : decode cX11_no 6 = .ok (.ireturn, 1) := by decide +kernel
theorem dX11_whyNoHeap_0 : decode cX11_whyNoHeap 0 = .ok (.aload_n 0, 1) := by decide +kernel
theorem dX11_whyNoHeap_1 : decode cX11_whyNoHeap 1 = .ok (.getfield 19, 3) := by decide +kernel
theorem dX11_whyNoHeap_4 : decode cX11_whyNoHeap 4 = .ok (.iload_n 1, 1) := by decide +kernel
theorem dX11_whyNoHeap_5 : decode cX11_whyNoHeap 5 = .ok (.invokevirtual 135, 3) := by decide +kernel
theorem dX11_whyNoHeap_8 : decode cX11_whyNoHeap 8 = .ok (.ifCond .ne 5, 3) := by decide +kernel
theorem dX11_whyNoHeap_11 : decode cX11_whyNoHeap 11 = .ok (.iconst 1, 1) := by decide +kernel
theorem dX11_whyNoHeap_12 : decode cX11_whyNoHeap 12 = .ok (.ireturn, 1) := by decide +kernel
theorem dX11_whyNoHeap_13 : decode cX11_whyNoHeap 13 = .ok (.iload_n 2, 1) := by decide +kernel
theorem dX11_whyNoHeap_14 : decode cX11_whyNoHeap 14 = .ok (.invokestatic 181, 3) := by decide +kernel
theorem dX11_whyNoHeap_17 : decode cX11_whyNoHeap 17 = .ok (.ifCond .ne 5, 3) := by decide +kernel
theorem dX11_whyNoHeap_20 : decode cX11_whyNoHeap 20 = .ok (.iconst 2, 1) := by decide +kernel
theorem dX11_whyNoHeap_21 : decode cX11_whyNoHeap 21 = .ok (.ireturn, 1) := by decide +kernel
theorem dX11_whyNoHeap_22 : decode cX11_whyNoHeap 22 = .ok (.aload_n 0, 1) := by decide +kernel
theorem dX11_whyNoHeap_23 : decode cX11_whyNoHeap 23 = .ok (.getfield 40, 3) := by decide +kernel
theorem dX11_whyNoHeap_26 : decode cX11_whyNoHeap 26 = .ok (.aload_n 0, 1) := by decide +kernel
theorem dX11_whyNoHeap_27 : decode cX11_whyNoHeap 27 = .ok (.getfield 33, 3) := by decide +kernel
theorem dX11_whyNoHeap_30 : decode cX11_whyNoHeap 30 = .ok (.iload_n 2, 1) := by decide +kernel
theorem dX11_whyNoHeap_31 : decode cX11_whyNoHeap 31 = .ok (.invokevirtual 192, 3) := by decide +kernel
theorem dX11_whyNoHeap_34 : decode cX11_whyNoHeap 34 = .ok (.aload_n 0, 1) := by decide +kernel
theorem dX11_whyNoHeap_35 : decode cX11_whyNoHeap 35 = .ok (.getfield 40, 3) := by decide +kernel
theorem dX11_whyNoHeap_38 : decode cX11_whyNoHeap 38 = .ok (.getfield 202, 3) := by decide +kernel
theorem dX11_whyNoHeap_41 : decode cX11_whyNoHeap 41 = .ok (.iload_n 1, 1) := by decide +kernel
theorem dX11_whyNoHeap_42 : decode cX11_whyNoHeap 42 = .ok (.iaload, 1) := by decide +kernel
theorem dX11_whyNoHeap_43 : decode cX11_whyNoHeap 43 = .ok (.iconst (-1), 1) := by decide +kernel
theorem dX11_whyNoHeap_44 : decode cX11_whyNoHeap 44 = .ok (.if_icmp .ne 8, 3) := by decide +kernel
theorem dX11_whyNoHeap_47 : decode cX11_whyNoHeap 47 = .ok (.bipush 6, 2) := by decide +kernel
theorem dX11_whyNoHeap_49 : decode cX11_whyNoHeap 49 = .ok (.goto 4, 3) := by decide +kernel
theorem dX11_whyNoHeap_52 : decode cX11_whyNoHeap 52 = .ok (.iconst 0, 1) := by decide +kernel
theorem dX11_whyNoHeap_53 : decode cX11_whyNoHeap 53 = .ok (.ireturn, 1) := by decide +kernel
theorem dX11_within_0 : decode cX11_within 0 = .ok (.iload_n 0, 1) := by decide +kernel
theorem dX11_within_1 : decode cX11_within 1 = .ok (.iload_n 1, 1) := by decide +kernel
theorem dX11_within_2 : decode cX11_within 2 = .ok (.if_icmp .lt 12, 3) := by decide +kernel
theorem dX11_within_5 : decode cX11_within 5 = .ok (.iload_n 0, 1) := by decide +kernel
theorem dX11_within_6 : decode cX11_within 6 = .ok (.iload_n 2, 1) := by decide +kernel
theorem dX11_within_7 : decode cX11_within 7 = .ok (.if_icmp .gt 7, 3) := by decide +kernel
theorem dX11_within_10 : decode cX11_within 10 = .ok (.iconst 1, 1) := by decide +kernel
theorem dX11_within_11 : decode cX11_within 11 = .ok (.goto 4, 3) := by decide +kernel
theorem dX11_within_14 : decode cX11_within 14 = .ok (.iconst 0, 1) := by decide +kernel
theorem dX11_within_15 : decode cX11_within 15 = .ok (.ireturn, 1) := by decide +kernel
theorem dX11_isDay_0 : decode cX11_isDay 0 = .ok (.iload_n 0, 1) := by decide +kernel
theorem dX11_isDay_1 : decode cX11_isDay 1 = .ok (.iconst 0, 1) := by decide +kernel
theorem dX11_isDay_2 : decode cX11_isDay 2 = .ok (.sipush 999, 3) := by decide +kernel
theorem dX11_isDay_5 : decode cX11_isDay 5 = .ok (.invokestatic 96, 3) := by decide +kernel
theorem dX11_isDay_8 : decode cX11_isDay 8 = .ok (.ireturn, 1) := by decide +kernel
theorem dX11_lowestBit_0 : decode cX11_lowestBit 0 = .ok (.iload_n 0, 1) := by decide +kernel
theorem dX11_lowestBit_1 : decode cX11_lowestBit 1 = .ok (.ifCond .ne 7, 3) := by decide +kernel
theorem dX11_lowestBit_4 : decode cX11_lowestBit 4 = .ok (.iconst (-1), 1) := by decide +kernel
theorem dX11_lowestBit_5 : decode cX11_lowestBit 5 = .ok (.goto 12, 3) := by decide +kernel
theorem dX11_lowestBit_8 : decode cX11_lowestBit 8 = .ok (.iload_n 0, 1) := by decide +kernel
theorem dX11_lowestBit_9 : decode cX11_lowestBit 9 = .ok (.iload_n 0, 1) := by decide +kernel
theorem dX11_lowestBit_10 : decode cX11_lowestBit 10 = .ok (.ineg, 1) := by decide +kernel
theorem dX11_lowestBit_11 : decode cX11_lowestBit 11 = .ok (.iand, 1) := by decide +kernel
theorem dX11_lowestBit_12 : decode cX11_lowestBit 12 = .ok (.iconst 1, 1) := by decide +kernel
theorem dX11_lowestBit_13 : decode cX11_lowestBit 13 = .ok (.isub, 1) := by decide +kernel
theorem dX11_lowestBit_14 : decode cX11_lowestBit 14 = .ok (.invokestatic 126, 3) := by decide +kernel
theorem dX11_lowestBit_17 : decode cX11_lowestBit 17 = .ok (.ireturn, 1) := by decide +kernel
theorem dJ6_bitCount_0f7a4_0 : decode cJ6_bitCount_0f7a4 0 = .ok (.iload_n 0, 1) := by decide +kernel
theorem dJ6_bitCount_0f7a4_1 : decode cJ6_bitCount_0f7a4 1 = .ok (.iload_n 0, 1) := by decide +kernel
theorem dJ6_bitCount_0f7a4_2 : decode cJ6_bitCount_0f7a4 2 = .ok (.iconst 1, 1) := by decide +kernel
theorem dJ6_bitCount_0f7a4_3 : decode cJ6_bitCount_0f7a4 3 = .ok (.iushr, 1) := by decide +kernel
theorem dJ6_bitCount_0f7a4_4 : decode cJ6_bitCount_0f7a4 4 = .ok (.ldc_w 265, 3) := by decide +kernel
theorem dJ6_bitCount_0f7a4_7 : decode cJ6_bitCount_0f7a4 7 = .ok (.iand, 1) := by decide +kernel
theorem dJ6_bitCount_0f7a4_8 : decode cJ6_bitCount_0f7a4 8 = .ok (.isub, 1) := by decide +kernel
theorem dJ6_bitCount_0f7a4_9 : decode cJ6_bitCount_0f7a4 9 = .ok (.istore_n 0, 1) := by decide +kernel
theorem dJ6_bitCount_0f7a4_10 : decode cJ6_bitCount_0f7a4 10 = .ok (.iload_n 0, 1) := by decide +kernel
theorem dJ6_bitCount_0f7a4_11 : decode cJ6_bitCount_0f7a4 11 = .ok (.ldc_w 266, 3) := by decide +kernel
theorem dJ6_bitCount_0f7a4_14 : decode cJ6_bitCount_0f7a4 14 = .ok (.iand, 1) := by decide +kernel
theorem dJ6_bitCount_0f7a4_15 : decode cJ6_bitCount_0f7a4 15 = .ok (.iload_n 0, 1) := by decide +kernel
theorem dJ6_bitCount_0f7a4_16 : decode cJ6_bitCount_0f7a4 16 = .ok (.iconst 2, 1) := by decide +kernel
theorem dJ6_bitCount_0f7a4_17 : decode cJ6_bitCount_0f7a4 17 = .ok (.iushr, 1) := by decide +kernel
theorem dJ6_bitCount_0f7a4_18 : decode cJ6_bitCount_0f7a4 18 = .ok (.ldc_w 266, 3) := by decide +kernel
theorem dJ6_bitCount_0f7a4_21 : decode cJ6_bitCount_0f7a4 21 = .ok (.iand, 1) := by decide +kernel
theorem dJ6_bitCount_0f7a4_22 : decode cJ6_bitCount_0f7a4 22 = .ok (.iadd, 1) := by decide +kernel
theorem dJ6_bitCount_0f7a4_23 : decode cJ6_bitCount_0f7a4 23 = .ok (.istore_n 0, 1) := by decide +kernel
theorem dJ6_bitCount_0f7a4_24 : decode cJ6_bitCount_0f7a4 24 = .ok (.iload_n 0, 1) := by decide +kernel
theorem dJ6_bitCount_0f7a4_25 : decode cJ6_bitCount_0f7a4 25 = .ok (.iload_n 0, 1) := by decide +kernel
theorem dJ6_bitCount_0f7a4_26 : decode cJ6_bitCount_0f7a4 26 = .ok (.iconst 4, 1) := by decide +kernel
theorem dJ6_bitCount_0f7a4_27 : decode cJ6_bitCount_0f7a4 27 = .ok (.iushr, 1) := by decide +kernel
theorem dJ6_bitCount_0f7a4_28 : decode cJ6_bitCount_0f7a4 28 = .ok (.iadd, 1) := by decide +kernel
theorem dJ6_bitCount_0f7a4_29 : decode cJ6_bitCount_0f7a4 29 = .ok (.ldc_w 267, 3) := by decide +kernel
theorem dJ6_bitCount_0f7a4_32 : decode cJ6_bitCount_0f7a4 32 = .ok (.iand, 1) := by decide +kernel
theorem dJ6_bitCount_0f7a4_33 : decode cJ6_bitCount_0f7a4 33 = .ok (.istore_n 0, 1) := by decide +kernel
theorem dJ6_bitCount_0f7a4_34 : decode cJ6_bitCount_0f7a4 34 = .ok (.iload_n 0, 1) := by decide +kernel
theorem dJ6_bitCount_0f7a4_35 : decode cJ6_bitCount_0f7a4 35 = .ok (.iload_n 0, 1) := by decide +kernel
theorem dJ6_bitCount_0f7a4_36 : decode cJ6_bitCount_0f7a4 36 = .ok (.bipush 8, 2) := by decide +kernel
theorem dJ6_bitCount_0f7a4_38 : decode cJ6_bitCount_0f7a4 38 = .ok (.iushr, 1) := by decide +kernel
theorem dJ6_bitCount_0f7a4_39 : decode cJ6_bitCount_0f7a4 39 = .ok (.iadd, 1) := by decide +kernel
theorem dJ6_bitCount_0f7a4_40 : decode cJ6_bitCount_0f7a4 40 = .ok (.istore_n 0, 1) := by decide +kernel
theorem dJ6_bitCount_0f7a4_41 : decode cJ6_bitCount_0f7a4 41 = .ok (.iload_n 0, 1) := by decide +kernel
theorem dJ6_bitCount_0f7a4_42 : decode cJ6_bitCount_0f7a4 42 = .ok (.iload_n 0, 1) := by decide +kernel
theorem dJ6_bitCount_0f7a4_43 : decode cJ6_bitCount_0f7a4 43 = .ok (.bipush 16, 2) := by decide +kernel
theorem dJ6_bitCount_0f7a4_45 : decode cJ6_bitCount_0f7a4 45 = .ok (.iushr, 1) := by decide +kernel
theorem dJ6_bitCount_0f7a4_46 : decode cJ6_bitCount_0f7a4 46 = .ok (.iadd, 1) := by decide +kernel
theorem dJ6_bitCount_0f7a4_47 : decode cJ6_bitCount_0f7a4 47 = .ok (.istore_n 0, 1) := by decide +kernel
theorem dJ6_bitCount_0f7a4_48 : decode cJ6_bitCount_0f7a4 48 = .ok (.iload_n 0, 1) := by decide +kernel
theorem dJ6_bitCount_0f7a4_49 : decode cJ6_bitCount_0f7a4 49 = .ok (.bipush 63, 2) := by decide +kernel
theorem dJ6_bitCount_0f7a4_51 : decode cJ6_bitCount_0f7a4 51 = .ok (.iand, 1) := by decide +kernel
theorem dJ6_bitCount_0f7a4_52 : decode cJ6_bitCount_0f7a4 52 = .ok (.ireturn, 1) := by decide +kernel
theorem dJ9_floorDiv_f86c9_0 : decode cJ9_floorDiv_f86c9 0 = .ok (.lload_n 0, 1) := by decide +kernel
theorem dJ9_floorDiv_f86c9_1 : decode cJ9_floorDiv_f86c9 1 = .ok (.lload_n 2, 1) := by decide +kernel
theorem dJ9_floorDiv_f86c9_2 : decode cJ9_floorDiv_f86c9 2 = .ok (.ldiv, 1) := by decide +kernel
theorem dJ9_floorDiv_f86c9_3 : decode cJ9_floorDiv_f86c9 3 = .ok (.lstore 4, 2) := by decide +kernel
theorem dJ9_floorDiv_f86c9_5 : decode cJ9_floorDiv_f86c9 5 = .ok (.lload_n 0, 1) := by decide +kernel
theorem dJ9_floorDiv_f86c9_6 : decode cJ9_floorDiv_f86c9 6 = .ok (.lload_n 2, 1) := by decide +kernel
theorem dJ9_floorDiv_f86c9_7 : decode cJ9_floorDiv_f86c9 7 = .ok (.lxor, 1) := by decide +kernel
theorem dJ9_floorDiv_f86c9_8 : decode cJ9_floorDiv_f86c9 8 = .ok (.lconst 0, 1) := by decide +kernel
theorem dJ9_floorDiv_f86c9_9 : decode cJ9_floorDiv_f86c9 9 = .ok (.lcmp, 1) := by decide +kernel
theorem dJ9_floorDiv_f86c9_10 : decode cJ9_floorDiv_f86c9 10 = .ok (.ifCond .ge 17, 3) := by decide +kernel
theorem dJ9_floorDiv_f86c9_13 : decode cJ9_floorDiv_f86c9 13 = .ok (.lload 4, 2) := by decide +kernel
theorem dJ9_floorDiv_f86c9_15 : decode cJ9_floorDiv_f86c9 15 = .ok (.lload_n 2, 1) := by decide +kernel
theorem dJ9_floorDiv_f86c9_16 : decode cJ9_floorDiv_f86c9 16 = .ok (.lmul, 1) := by decide +kernel
theorem dJ9_floorDiv_f86c9_17 : decode cJ9_floorDiv_f86c9 17 = .ok (.lload_n 0, 1) := by decide +kernel
theorem dJ9_floorDiv_f86c9_18 : decode cJ9_floorDiv_f86c9 18 = .ok (.lcmp, 1) := by decide +kernel
theorem dJ9_floorDiv_f86c9_19 : decode cJ9_floorDiv_f86c9 19 = .ok (.ifCond .eq 8, 3) := by decide +kernel
theorem dJ9_floorDiv_f86c9_22 : decode cJ9_floorDiv_f86c9 22 = .ok (.lload 4, 2) := by decide +kernel
theorem dJ9_floorDiv_f86c9_24 : decode cJ9_floorDiv_f86c9 24 = .ok (.lconst 1, 1) := by decide +kernel
theorem dJ9_floorDiv_f86c9_25 : decode cJ9_floorDiv_f86c9 25 = .ok (.lsub, 1) := by decide +kernel
theorem dJ9_floorDiv_f86c9_26 : decode cJ9_floorDiv_f86c9 26 = .ok (.lreturn, 1) := by decide +kernel
theorem dJ9_floorDiv_f86c9_27 : decode cJ9_floorDiv_f86c9 27 = .ok (.lload 4, 2) := by decide +kernel
theorem dJ9_floorDiv_f86c9_29 : decode cJ9_floorDiv_f86c9 29 = .ok (.lreturn, 1) := by decide +kernel
theorem dJ9_floorMod_f86c9_0 : decode cJ9_floorMod_f86c9 0 = .ok (.lload_n 0, 1) := by decide +kernel
theorem dJ9_floorMod_f86c9_1 : decode cJ9_floorMod_f86c9 1 = .ok (.lload_n 2, 1) := by decide +kernel
theorem dJ9_floorMod_f86c9_2 : decode cJ9_floorMod_f86c9 2 = .ok (.lrem, 1) := by decide +kernel
theorem dJ9_floorMod_f86c9_3 : decode cJ9_floorMod_f86c9 3 = .ok (.lstore 4, 2) := by decide +kernel
theorem dJ9_floorMod_f86c9_5 : decode cJ9_floorMod_f86c9 5 = .ok (.lload_n 0, 1) := by decide +kernel
theorem dJ9_floorMod_f86c9_6 : decode cJ9_floorMod_f86c9 6 = .ok (.lload_n 2, 1) := by decide +kernel
theorem dJ9_floorMod_f86c9_7 : decode cJ9_floorMod_f86c9 7 = .ok (.lxor, 1) := by decide +kernel
theorem dJ9_floorMod_f86c9_8 : decode cJ9_floorMod_f86c9 8 = .ok (.lconst 0, 1) := by decide +kernel
theorem dJ9_floorMod_f86c9_9 : decode cJ9_floorMod_f86c9 9 = .ok (.lcmp, 1) := by decide +kernel
theorem dJ9_floorMod_f86c9_10 : decode cJ9_floorMod_f86c9 10 = .ok (.ifCond .ge 15, 3) := by decide +kernel
theorem dJ9_floorMod_f86c9_13 : decode cJ9_floorMod_f86c9 13 = .ok (.lload 4, 2) := by decide +kernel
theorem dJ9_floorMod_f86c9_15 : decode cJ9_floorMod_f86c9 15 = .ok (.lconst 0, 1) := by decide +kernel
theorem dJ9_floorMod_f86c9_16 : decode cJ9_floorMod_f86c9 16 = .ok (.lcmp, 1) := by decide +kernel
theorem dJ9_floorMod_f86c9_17 : decode cJ9_floorMod_f86c9 17 = .ok (.ifCond .eq 8, 3) := by decide +kernel
theorem dJ9_floorMod_f86c9_20 : decode cJ9_floorMod_f86c9 20 = .ok (.lload 4, 2) := by decide +kernel
theorem dJ9_floorMod_f86c9_22 : decode cJ9_floorMod_f86c9 22 = .ok (.lload_n 2, 1) := by decide +kernel
theorem dJ9_floorMod_f86c9_23 : decode cJ9_floorMod_f86c9 23 = .ok (.ladd, 1) := by decide +kernel
theorem dJ9_floorMod_f86c9_24 : decode cJ9_floorMod_f86c9 24 = .ok (.lreturn, 1) := by decide +kernel
theorem dJ9_floorMod_f86c9_25 : decode cJ9_floorMod_f86c9 25 = .ok (.lload 4, 2) := by decide +kernel
theorem dJ9_floorMod_f86c9_27 : decode cJ9_floorMod_f86c9 27 = .ok (.lreturn, 1) := by decide +kernel
theorem dJ9_abs_067f4_0 : decode cJ9_abs_067f4 0 = .ok (.lload_n 0, 1) := by decide +kernel
theorem dJ9_abs_067f4_1 : decode cJ9_abs_067f4 1 = .ok (.lconst 0, 1) := by decide +kernel
theorem dJ9_abs_067f4_2 : decode cJ9_abs_067f4 2 = .ok (.lcmp, 1) := by decide +kernel
theorem dJ9_abs_067f4_3 : decode cJ9_abs_067f4 3 = .ok (.ifCond .ge 8, 3) := by decide +kernel
theorem dJ9_abs_067f4_6 : decode cJ9_abs_067f4 6 = .ok (.lload_n 0, 1) := by decide +kernel
theorem dJ9_abs_067f4_7 : decode cJ9_abs_067f4 7 = .ok (.lneg, 1) := by decide +kernel
theorem dJ9_abs_067f4_8 : decode cJ9_abs_067f4 8 = .ok (.goto 4, 3) := by decide +kernel
theorem dJ9_abs_067f4_11 : decode cJ9_abs_067f4 11 = .ok (.lload_n 0, 1) := by decide +kernel
theorem dJ9_abs_067f4_12 : decode cJ9_abs_067f4 12 = .ok (.lreturn, 1) := by decide +kernel
theorem dJ9_max_7cf53_0 : decode cJ9_max_7cf53 0 = .ok (.iload_n 0, 1) := by decide +kernel
theorem dJ9_max_7cf53_1 : decode cJ9_max_7cf53 1 = .ok (.iload_n 1, 1) := by decide +kernel
theorem dJ9_max_7cf53_2 : decode cJ9_max_7cf53 2 = .ok (.if_icmp .lt 7, 3) := by decide +kernel
theorem dJ9_max_7cf53_5 : decode cJ9_max_7cf53 5 = .ok (.iload_n 0, 1) := by decide +kernel
theorem dJ9_max_7cf53_6 : decode cJ9_max_7cf53 6 = .ok (.goto 4, 3) := by decide +kernel
theorem dJ9_max_7cf53_9 : decode cJ9_max_7cf53 9 = .ok (.iload_n 1, 1) := by decide +kernel
theorem dJ9_max_7cf53_10 : decode cJ9_max_7cf53 10 = .ok (.ireturn, 1) := by decide +kernel
theorem dJ9_min_7cf53_0 : decode cJ9_min_7cf53 0 = .ok (.iload_n 0, 1) := by decide +kernel
theorem dJ9_min_7cf53_1 : decode cJ9_min_7cf53 1 = .ok (.iload_n 1, 1) := by decide +kernel
theorem dJ9_min_7cf53_2 : decode cJ9_min_7cf53 2 = .ok (.if_icmp .gt 7, 3) := by decide +kernel
theorem dJ9_min_7cf53_5 : decode cJ9_min_7cf53 5 = .ok (.iload_n 0, 1) := by decide +kernel
theorem dJ9_min_7cf53_6 : decode cJ9_min_7cf53 6 = .ok (.goto 4, 3) := by decide +kernel
theorem dJ9_min_7cf53_9 : decode cJ9_min_7cf53 9 = .ok (.iload_n 1, 1) := by decide +kernel
theorem dJ9_min_7cf53_10 : decode cJ9_min_7cf53 10 = .ok (.ireturn, 1) := by decide +kernel
theorem dJ0_length_8abf5_0 : decode cJ0_length_8abf5 0 = .ok (.aload_n 0, 1) := by decide +kernel
theorem dJ0_length_8abf5_1 : decode cJ0_length_8abf5 1 = .ok (.getfield 9, 3) := by decide +kernel
theorem dJ0_length_8abf5_4 : decode cJ0_length_8abf5 4 = .ok (.arraylength, 1) := by decide +kernel
theorem dJ0_length_8abf5_5 : decode cJ0_length_8abf5 5 = .ok (.aload_n 0, 1) := by decide +kernel
theorem dJ0_length_8abf5_6 : decode cJ0_length_8abf5 6 = .ok (.invokevirtual 335, 3) := by decide +kernel
theorem dJ0_length_8abf5_9 : decode cJ0_length_8abf5 9 = .ok (.ishr, 1) := by decide +kernel
theorem dJ0_length_8abf5_10 : decode cJ0_length_8abf5 10 = .ok (.ireturn, 1) := by decide +kernel
theorem dJ0_charAt_5068e_0 : decode cJ0_charAt_5068e 0 = .ok (.aload_n 0, 1) := by decide +kernel
theorem dJ0_charAt_5068e_1 : decode cJ0_charAt_5068e 1 = .ok (.invokevirtual 492, 3) := by decide +kernel
theorem dJ0_charAt_5068e_4 : decode cJ0_charAt_5068e 4 = .ok (.ifCond .eq 12, 3) := by decide +kernel
theorem dJ0_charAt_5068e_7 : decode cJ0_charAt_5068e 7 = .ok (.aload_n 0, 1) := by decide +kernel
theorem dJ0_charAt_5068e_8 : decode cJ0_charAt_5068e 8 = .ok (.getfield 9, 3) := by decide +kernel
theorem dJ0_charAt_5068e_11 : decode cJ0_charAt_5068e 11 = .ok (.iload_n 1, 1) := by decide +kernel
theorem dJ0_charAt_5068e_12 : decode cJ0_charAt_5068e 12 = .ok (.invokestatic 495, 3) := by decide +kernel
theorem dJ0_charAt_5068e_15 : decode cJ0_charAt_5068e 15 = .ok (.ireturn, 1) := by decide +kernel
theorem dJ0_charAt_5068e_16 : decode cJ0_charAt_5068e 16 = .ok (.aload_n 0, 1) := by decide +kernel
theorem dJ0_charAt_5068e_17 : decode cJ0_charAt_5068e 17 = .ok (.getfield 9, 3) := by decide +kernel
theorem dJ0_charAt_5068e_20 : decode cJ0_charAt_5068e 20 = .ok (.iload_n 1, 1) := by decide +kernel
theorem dJ0_charAt_5068e_21 : decode cJ0_charAt_5068e 21 = .ok (.invokestatic 498, 3) := by decide +kernel
theorem dJ0_charAt_5068e_24 : decode cJ0_charAt_5068e 24 = .ok (.ireturn, 1) := by decide +kernel
theorem dJ0_coder_7d493_0 : decode cJ0_coder_7d493 0 = .ok (.getstatic 38, 3) := by decide +kernel
theorem dJ0_coder_7d493_3 : decode cJ0_coder_7d493 3 = .ok (.ifCond .eq 10, 3) := by decide +kernel
theorem dJ0_coder_7d493_6 : decode cJ0_coder_7d493 6 = .ok (.aload_n 0, 1) := by decide +kernel
theorem dJ0_coder_7d493_7 : decode cJ0_coder_7d493 7 = .ok (.getfield 15, 3) := by decide +kernel
theorem dJ0_coder_7d493_10 : decode cJ0_coder_7d493 10 = .ok (.goto 4, 3) := by decide +kernel
theorem dJ0_coder_7d493_13 : decode cJ0_coder_7d493 13 = .ok (.iconst 1, 1) := by decide +kernel
theorem dJ0_coder_7d493_14 : decode cJ0_coder_7d493 14 = .ok (.ireturn, 1) := by decide +kernel
theorem dJ0_isLatin1_aae02_0 : decode cJ0_isLatin1_aae02 0 = .ok (.getstatic 38, 3) := by decide +kernel
theorem dJ0_isLatin1_aae02_3 : decode cJ0_isLatin1_aae02 3 = .ok (.ifCond .eq 14, 3) := by decide +kernel
theorem dJ0_isLatin1_aae02_6 : decode cJ0_isLatin1_aae02 6 = .ok (.aload_n 0, 1) := by decide +kernel
theorem dJ0_isLatin1_aae02_7 : decode cJ0_isLatin1_aae02 7 = .ok (.getfield 15, 3) := by decide +kernel
theorem dJ0_isLatin1_aae02_10 : decode cJ0_isLatin1_aae02 10 = .ok (.ifCond .ne 7, 3) := by decide +kernel
theorem dJ0_isLatin1_aae02_13 : decode cJ0_isLatin1_aae02 13 = .ok (.iconst 1, 1) := by decide +kernel
theorem dJ0_isLatin1_aae02_14 : decode cJ0_isLatin1_aae02 14 = .ok (.goto 4, 3) := by decide +kernel
theorem dJ0_isLatin1_aae02_17 : decode cJ0_isLatin1_aae02 17 = .ok (.iconst 0, 1) := by decide +kernel
theorem dJ0_isLatin1_aae02_18 : decode cJ0_isLatin1_aae02 18 = .ok (.ireturn, 1) := by decide +kernel
theorem dJ0_checkIndex_df160_0 : decode cJ0_checkIndex_df160 0 = .ok (.iload_n 0, 1) := by decide +kernel
theorem dJ0_checkIndex_df160_1 : decode cJ0_checkIndex_df160 1 = .ok (.iload_n 1, 1) := by decide +kernel
theorem dJ0_checkIndex_df160_2 : decode cJ0_checkIndex_df160 2 = .ok (.getstatic 1053, 3) := by decide +kernel
theorem dJ0_checkIndex_df160_5 : decode cJ0_checkIndex_df160 5 = .ok (.invokestatic 1059, 3) := by decide +kernel
theorem dJ0_checkIndex_df160_8 : decode cJ0_checkIndex_df160 8 = .ok (.pop, 1) := by decide +kernel
theorem dJ0_checkIndex_df160_9 : decode cJ0_checkIndex_df160 9 = .ok (.return_, 1) := by decide +kernel
theorem dJ1_charAt_3b067_0 : decode cJ1_charAt_3b067 0 = .ok (.iload_n 1, 1) := by decide +kernel
theorem dJ1_charAt_3b067_1 : decode cJ1_charAt_3b067 1 = .ok (.aload_n 0, 1) := by decide +kernel
theorem dJ1_charAt_3b067_2 : decode cJ1_charAt_3b067 2 = .ok (.arraylength, 1) := by decide +kernel
theorem dJ1_charAt_3b067_3 : decode cJ1_charAt_3b067 3 = .ok (.invokestatic 9, 3) := by decide +kernel
theorem dJ1_charAt_3b067_6 : decode cJ1_charAt_3b067 6 = .ok (.aload_n 0, 1) := by decide +kernel
theorem dJ1_charAt_3b067_7 : decode cJ1_charAt_3b067 7 = .ok (.iload_n 1, 1) := by decide +kernel
theorem dJ1_charAt_3b067_8 : decode cJ1_charAt_3b067 8 = .ok (.baload, 1) := by decide +kernel
theorem dJ1_charAt_3b067_9 : decode cJ1_charAt_3b067 9 = .ok (.sipush 255, 3) := by decide +kernel
theorem dJ1_charAt_3b067_12 : decode cJ1_charAt_3b067 12 = .ok (.iand, 1) := by decide +kernel
theorem dJ1_charAt_3b067_13 : decode cJ1_charAt_3b067 13 = .ok (.i2c, 1) := by decide +kernel
theorem dJ1_charAt_3b067_14 : decode cJ1_charAt_3b067 14 = .ok (.ireturn, 1) := by decide +kernel
theorem dJ2_getChar_3b067_0 : decode cJ2_getChar_3b067 0 = .ok (.getstatic 44, 3) := by decide +kernel
theorem dJ2_getChar_3b067_3 : decode cJ2_getChar_3b067 3 = .ok (.ifCond .ne 25, 3) := by decide +kernel
theorem dJ2_getChar_3b067_6 : decode cJ2_getChar_3b067 6 = .ok (.iload_n 1, 1) := by decide +kernel
theorem dJ2_getChar_3b067_7 : decode cJ2_getChar_3b067 7 = .ok (.ifCond .lt 11, 3) := by decide +kernel
theorem dJ2_getChar_3b067_10 : decode cJ2_getChar_3b067 10 = .ok (.iload_n 1, 1) := by decide +kernel
theorem dJ2_getChar_3b067_11 : decode cJ2_getChar_3b067 11 = .ok (.aload_n 0, 1) := by decide +kernel
theorem dJ2_getChar_3b067_12 : decode cJ2_getChar_3b067 12 = .ok (.invokestatic 48, 3) := by decide +kernel
theorem dJ2_getChar_3b067_15 : decode cJ2_getChar_3b067 15 = .ok (.if_icmp .lt 13, 3) := by decide +kernel
theorem dJ2_getChar_3b067_18 : decode cJ2_getChar_3b067 18 = .ok (.new 52, 3) := by decide +kernel
theorem dJ2_getChar_3b067_21 : decode cJ2_getChar_3b067 21 = .ok (.dup, 1) := by decide +kernel
theorem dJ2_getChar_3b067_22 : decode cJ2_getChar_3b067 22 = .ok (.ldc 54, 2) := by decide +kernel
theorem dJ2_getChar_3b067_24 : decode cJ2_getChar_3b067 24 = .ok (.invokespecial 56, 3) := by decide +kernel
theorem dJ2_getChar_3b067_27 : decode cJ2_getChar_3b067 27 = .ok (.athrow, 1) := by decide +kernel
theorem dJ2_getChar_3b067_28 : decode cJ2_getChar_3b067 28 = .ok (.iload_n 1, 1) := by decide +kernel
theorem dJ2_getChar_3b067_29 : decode cJ2_getChar_3b067 29 = .ok (.iconst 1, 1) := by decide +kernel
theorem dJ2_getChar_3b067_30 : decode cJ2_getChar_3b067 30 = .ok (.ishl, 1) := by decide +kernel
theorem dJ2_getChar_3b067_31 : decode cJ2_getChar_3b067 31 = .ok (.istore_n 1, 1) := by decide +kernel
theorem dJ2_getChar_3b067_32 : decode cJ2_getChar_3b067 32 = .ok (.aload_n 0, 1) := by decide +kernel
theorem dJ2_getChar_3b067_33 : decode cJ2_getChar_3b067 33 = .ok (.iload_n 1, 1) := by decide +kernel
theorem dJ2_getChar_3b067_34 : decode cJ2_getChar_3b067 34 = .ok (.iinc 1 1, 3) := by decide +kernel
theorem dJ2_getChar_3b067_37 : decode cJ2_getChar_3b067 37 = .ok (.baload, 1) := by decide +kernel
theorem dJ2_getChar_3b067_38 : decode cJ2_getChar_3b067 38 = .ok (.sipush 255, 3) := by decide +kernel
theorem dJ2_getChar_3b067_41 : decode cJ2_getChar_3b067 41 = .ok (.iand, 1) := by decide +kernel
theorem dJ2_getChar_3b067_42 : decode cJ2_getChar_3b067 42 = .ok (.getstatic 59, 3) := by decide +kernel
theorem dJ2_getChar_3b067_45 : decode cJ2_getChar_3b067 45 = .ok (.ishl, 1) := by decide +kernel
theorem dJ2_getChar_3b067_46 : decode cJ2_getChar_3b067 46 = .ok (.aload_n 0, 1) := by decide +kernel
theorem dJ2_getChar_3b067_47 : decode cJ2_getChar_3b067 47 = .ok (.iload_n 1, 1) := by decide +kernel
theorem dJ2_getChar_3b067_48 : decode cJ2_getChar_3b067 48 = .ok (.baload, 1) := by decide +kernel
theorem dJ2_getChar_3b067_49 : decode cJ2_getChar_3b067 49 = .ok (.sipush 255, 3) := by decide +kernel
theorem dJ2_getChar_3b067_52 : decode cJ2_getChar_3b067 52 = .ok (.iand, 1) := by decide +kernel
theorem dJ2_getChar_3b067_53 : decode cJ2_getChar_3b067 53 = .ok (.getstatic 63, 3) := by decide +kernel
theorem dJ2_getChar_3b067_56 : decode cJ2_getChar_3b067 56 = .ok (.ishl, 1) := by decide +kernel
theorem dJ2_getChar_3b067_57 : decode cJ2_getChar_3b067 57 = .ok (.ior, 1) := by decide +kernel
theorem dJ2_getChar_3b067_58 : decode cJ2_getChar_3b067 58 = .ok (.i2c, 1) := by decide +kernel
theorem dJ2_getChar_3b067_59 : decode cJ2_getChar_3b067 59 = .ok (.ireturn, 1) := by decide +kernel
theorem dJ2_length_9d52b_0 : decode cJ2_length_9d52b 0 = .ok (.aload_n 0, 1) := by decide +kernel
theorem dJ2_length_9d52b_1 : decode cJ2_length_9d52b 1 = .ok (.arraylength, 1) := by decide +kernel
theorem dJ2_length_9d52b_2 : decode cJ2_length_9d52b 2 = .ok (.iconst 1, 1) := by decide +kernel
theorem dJ2_length_9d52b_3 : decode cJ2_length_9d52b 3 = .ok (.ishr, 1) := by decide +kernel
theorem dJ2_length_9d52b_4 : decode cJ2_length_9d52b 4 = .ok (.ireturn, 1) := by decide +kernel
theorem dJ2_charAt_3b067_0 : decode cJ2_charAt_3b067 0 = .ok (.iload_n 1, 1) := by decide +kernel
theorem dJ2_charAt_3b067_1 : decode cJ2_charAt_3b067 1 = .ok (.aload_n 0, 1) := by decide +kernel
theorem dJ2_charAt_3b067_2 : decode cJ2_charAt_3b067 2 = .ok (.invokestatic 67, 3) := by decide +kernel
theorem dJ2_charAt_3b067_5 : decode cJ2_charAt_3b067 5 = .ok (.aload_n 0, 1) := by decide +kernel
theorem dJ2_charAt_3b067_6 : decode cJ2_charAt_3b067 6 = .ok (.iload_n 1, 1) := by decide +kernel
theorem dJ2_charAt_3b067_7 : decode cJ2_charAt_3b067 7 = .ok (.invokestatic 71, 3) := by decide +kernel
theorem dJ2_charAt_3b067_10 : decode cJ2_charAt_3b067 10 = .ok (.ireturn, 1) := by decide +kernel
theorem dJ2_checkIndex_2214a_0 : decode cJ2_checkIndex_2214a 0 = .ok (.iload_n 0, 1) := by decide +kernel
theorem dJ2_checkIndex_2214a_1 : decode cJ2_checkIndex_2214a 1 = .ok (.aload_n 1, 1) := by decide +kernel
theorem dJ2_checkIndex_2214a_2 : decode cJ2_checkIndex_2214a 2 = .ok (.invokestatic 48, 3) := by decide +kernel
theorem dJ2_checkIndex_2214a_5 : decode cJ2_checkIndex_2214a 5 = .ok (.invokestatic 414, 3) := by decide +kernel
theorem dJ2_checkIndex_2214a_8 : decode cJ2_checkIndex_2214a 8 = .ok (.return_, 1) := by decide +kernel
theorem dJ3_checkIndex_8e157_0 : decode cJ3_checkIndex_8e157 0 = .ok (.iload_n 0, 1) := by decide +kernel
theorem dJ3_checkIndex_8e157_1 : decode cJ3_checkIndex_8e157 1 = .ok (.ifCond .lt 8, 3) := by decide +kernel
theorem dJ3_checkIndex_8e157_4 : decode cJ3_checkIndex_8e157 4 = .ok (.iload_n 0, 1) := by decide +kernel
theorem dJ3_checkIndex_8e157_5 : decode cJ3_checkIndex_8e157 5 = .ok (.iload_n 1, 1) := by decide +kernel
theorem dJ3_checkIndex_8e157_6 : decode cJ3_checkIndex_8e157 6 = .ok (.if_icmp .lt 10, 3) := by decide +kernel
theorem dJ3_checkIndex_8e157_9 : decode cJ3_checkIndex_8e157 9 = .ok (.aload_n 2, 1) := by decide +kernel
theorem dJ3_checkIndex_8e157_10 : decode cJ3_checkIndex_8e157 10 = .ok (.iload_n 0, 1) := by decide +kernel
theorem dJ3_checkIndex_8e157_11 : decode cJ3_checkIndex_8e157 11 = .ok (.iload_n 1, 1) := by decide +kernel
theorem dJ3_checkIndex_8e157_12 : decode cJ3_checkIndex_8e157 12 = .ok (.invokestatic 95, 3) := by decide +kernel
theorem dJ3_checkIndex_8e157_15 : decode cJ3_checkIndex_8e157 15 = .ok (.athrow, 1) := by decide +kernel
theorem dJ3_checkIndex_8e157_16 : decode cJ3_checkIndex_8e157 16 = .ok (.iload_n 0, 1) := by decide +kernel
theorem dJ3_checkIndex_8e157_17 : decode cJ3_checkIndex_8e157 17 = .ok (.ireturn, 1) := by decide +kernel
end
section
theorem dL_law_0 : decode cL_law 0 = .ok (.new 7, 3) := by decide +kernel
theorem dL_law_3 : decode cL_law 3 = .ok (.dup, 1) := by decide +kernel
theorem dL_law_4 : decode cL_law 4 = .ok (.invokespecial 9, 3) := by decide +kernel
theorem dL_law_7 : decode cL_law 7 = .ok (.astore_n 1, 1) := by decide +kernel
theorem dL_law_8 : decode cL_law 8 = .ok (.new 10, 3) := by decide +kernel
theorem dL_law_11 : decode cL_law 11 = .ok (.dup, 1) := by decide +kernel
theorem dL_law_12 : decode cL_law 12 = .ok (.invokespecial 12, 3) := by decide +kernel
theorem dL_law_15 : decode cL_law 15 = .ok (.astore_n 2, 1) := by decide +kernel
theorem dL_law_16 : decode cL_law 16 = .ok (.iconst 0, 1) := by decide +kernel
theorem dL_law_17 : decode cL_law 17 = .ok (.istore_n 3, 1) := by decide +kernel
theorem dL_law_18 : decode cL_law 18 = .ok (.iload_n 3, 1) := by decide +kernel
theorem dL_law_19 : decode cL_law 19 = .ok (.aload_n 0, 1) := by decide +kernel
theorem dL_law_20 : decode cL_law 20 = .ok (.arraylength, 1) := by decide +kernel
theorem dL_law_21 : decode cL_law 21 = .ok (.bipush 6, 2) := by decide +kernel
theorem dL_law_23 : decode cL_law 23 = .ok (.isub, 1) := by decide +kernel
theorem dL_law_24 : decode cL_law 24 = .ok (.if_icmp .gt 913, 3) := by decide +kernel
theorem dL_law_27 : decode cL_law 27 = .ok (.aload_n 0, 1) := by decide +kernel
theorem dL_law_28 : decode cL_law 28 = .ok (.iload_n 3, 1) := by decide +kernel
theorem dL_law_29 : decode cL_law 29 = .ok (.iaload, 1) := by decide +kernel
theorem dL_law_30 : decode cL_law 30 = .ok (.bipush 31, 2) := by decide +kernel
theorem dL_law_32 : decode cL_law 32 = .ok (.iand, 1) := by decide +kernel
theorem dL_law_33 : decode cL_law 33 = .ok (.tableswitch 898 0 24 #[115, 128, 207, 250, 283, 316, 339, 352, 385, 408, 461, 494, 527, 560, 593, 626, 640, 654, 717, 740, 763, 806, 849, 862, 885], 115) := by decide +kernel
theorem dL_law_148 : decode cL_law 148 = .ok (.aload_n 1, 1) := by decide +kernel
theorem dL_law_149 : decode cL_law 149 = .ok (.invokevirtual 13, 3) := by decide +kernel
theorem dL_law_152 : decode cL_law 152 = .ok (.aload_n 2, 1) := by decide +kernel
theorem dL_law_153 : decode cL_law 153 = .ok (.invokevirtual 17, 3) := by decide +kernel
theorem dL_law_156 : decode cL_law 156 = .ok (.if_icmp .eq 775, 3) := by decide +kernel
theorem dL_law_159 : decode cL_law 159 = .ok (.iconst 0, 1) := by decide +kernel
theorem dL_law_160 : decode cL_law 160 = .ok (.ireturn, 1) := by decide +kernel
theorem dL_law_161 : decode cL_law 161 = .ok (.aload_n 1, 1) := by decide +kernel
theorem dL_law_162 : decode cL_law 162 = .ok (.aload_n 0, 1) := by decide +kernel
theorem dL_law_163 : decode cL_law 163 = .ok (.iload_n 3, 1) := by decide +kernel
theorem dL_law_164 : decode cL_law 164 = .ok (.iconst 1, 1) := by decide +kernel
theorem dL_law_165 : decode cL_law 165 = .ok (.iadd, 1) := by decide +kernel
theorem dL_law_166 : decode cL_law 166 = .ok (.iaload, 1) := by decide +kernel
theorem dL_law_167 : decode cL_law 167 = .ok (.aload_n 0, 1) := by decide +kernel
theorem dL_law_168 : decode cL_law 168 = .ok (.iload_n 3, 1) := by decide +kernel
theorem dL_law_169 : decode cL_law 169 = .ok (.iconst 2, 1) := by decide +kernel
theorem dL_law_170 : decode cL_law 170 = .ok (.iadd, 1) := by decide +kernel
theorem dL_law_171 : decode cL_law 171 = .ok (.iaload, 1) := by decide +kernel
theorem dL_law_172 : decode cL_law 172 = .ok (.aload_n 0, 1) := by decide +kernel
theorem dL_law_173 : decode cL_law 173 = .ok (.iload_n 3, 1) := by decide +kernel
theorem dL_law_174 : decode cL_law 174 = .ok (.iconst 3, 1) := by decide +kernel
theorem dL_law_175 : decode cL_law 175 = .ok (.iadd, 1) := by decide +kernel
theorem dL_law_176 : decode cL_law 176 = .ok (.iaload, 1) := by decide +kernel
theorem dL_law_177 : decode cL_law 177 = .ok (.aload_n 0, 1) := by decide +kernel
theorem dL_law_178 : decode cL_law 178 = .ok (.iload_n 3, 1) := by decide +kernel
theorem dL_law_179 : decode cL_law 179 = .ok (.iconst 4, 1) := by decide +kernel
theorem dL_law_180 : decode cL_law 180 = .ok (.iadd, 1) := by decide +kernel
theorem dL_law_181 : decode cL_law 181 = .ok (.iaload, 1) := by decide +kernel
theorem dL_law_182 : decode cL_law 182 = .ok (.aload_n 0, 1) := by decide +kernel
theorem dL_law_183 : decode cL_law 183 = .ok (.iload_n 3, 1) := by decide +kernel
theorem dL_law_184 : decode cL_law 184 = .ok (.iconst 5, 1) := by decide +kernel
theorem dL_law_185 : decode cL_law 185 = .ok (.iadd, 1) := by decide +kernel
theorem dL_law_186 : decode cL_law 186 = .ok (.iaload, 1) := by decide +kernel
theorem dL_law_187 : decode cL_law 187 = .ok (.ifCond .eq 7, 3) := by decide +kernel
theorem dL_law_190 : decode cL_law 190 = .ok (.iconst 1, 1) := by decide +kernel
theorem dL_law_191 : decode cL_law 191 = .ok (.goto 4, 3) := by decide +kernel
theorem dL_law_194 : decode cL_law 194 = .ok (.iconst 0, 1) := by decide +kernel
theorem dL_law_195 : decode cL_law 195 = .ok (.invokevirtual 18, 3) := by decide +kernel
theorem dL_law_198 : decode cL_law 198 = .ok (.aload_n 2, 1) := by decide +kernel
theorem dL_law_199 : decode cL_law 199 = .ok (.aload_n 0, 1) := by decide +kernel
theorem dL_law_200 : decode cL_law 200 = .ok (.iload_n 3, 1) := by decide +kernel
theorem dL_law_201 : decode cL_law 201 = .ok (.iconst 1, 1) := by decide +kernel
theorem dL_law_202 : decode cL_law 202 = .ok (.iadd, 1) := by decide +kernel
theorem dL_law_203 : decode cL_law 203 = .ok (.iaload, 1) := by decide +kernel
theorem dL_law_204 : decode cL_law 204 = .ok (.aload_n 0, 1) := by decide +kernel
theorem dL_law_205 : decode cL_law 205 = .ok (.iload_n 3, 1) := by decide +kernel
theorem dL_law_206 : decode cL_law 206 = .ok (.iconst 2, 1) := by decide +kernel
theorem dL_law_207 : decode cL_law 207 = .ok (.iadd, 1) := by decide +kernel
theorem dL_law_208 : decode cL_law 208 = .ok (.iaload, 1) := by decide +kernel
theorem dL_law_209 : decode cL_law 209 = .ok (.aload_n 0, 1) := by decide +kernel
theorem dL_law_210 : decode cL_law 210 = .ok (.iload_n 3, 1) := by decide +kernel
theorem dL_law_211 : decode cL_law 211 = .ok (.iconst 3, 1) := by decide +kernel
theorem dL_law_212 : decode cL_law 212 = .ok (.iadd, 1) := by decide +kernel
theorem dL_law_213 : decode cL_law 213 = .ok (.iaload, 1) := by decide +kernel
theorem dL_law_214 : decode cL_law 214 = .ok (.aload_n 0, 1) := by decide +kernel
theorem dL_law_215 : decode cL_law 215 = .ok (.iload_n 3, 1) := by decide +kernel
theorem dL_law_216 : decode cL_law 216 = .ok (.iconst 4, 1) := by decide +kernel
theorem dL_law_217 : decode cL_law 217 = .ok (.iadd, 1) := by decide +kernel
theorem dL_law_218 : decode cL_law 218 = .ok (.iaload, 1) := by decide +kernel
theorem dL_law_219 : decode cL_law 219 = .ok (.aload_n 0, 1) := by decide +kernel
theorem dL_law_220 : decode cL_law 220 = .ok (.iload_n 3, 1) := by decide +kernel
theorem dL_law_221 : decode cL_law 221 = .ok (.iconst 5, 1) := by decide +kernel
theorem dL_law_222 : decode cL_law 222 = .ok (.iadd, 1) := by decide +kernel
theorem dL_law_223 : decode cL_law 223 = .ok (.iaload, 1) := by decide +kernel
theorem dL_law_224 : decode cL_law 224 = .ok (.ifCond .eq 7, 3) := by decide +kernel
theorem dL_law_227 : decode cL_law 227 = .ok (.iconst 1, 1) := by decide +kernel
theorem dL_law_228 : decode cL_law 228 = .ok (.goto 4, 3) := by decide +kernel
theorem dL_law_231 : decode cL_law 231 = .ok (.iconst 0, 1) := by decide +kernel
theorem dL_law_232 : decode cL_law 232 = .ok (.invokevirtual 22, 3) := by decide +kernel
theorem dL_law_235 : decode cL_law 235 = .ok (.if_icmp .eq 696, 3) := by decide +kernel
theorem dL_law_238 : decode cL_law 238 = .ok (.iconst 0, 1) := by decide +kernel
theorem dL_law_239 : decode cL_law 239 = .ok (.ireturn, 1) := by decide +kernel
theorem dL_law_240 : decode cL_law 240 = .ok (.aload_n 1, 1) := by decide +kernel
theorem dL_law_241 : decode cL_law 241 = .ok (.aload_n 0, 1) := by decide +kernel
theorem dL_law_242 : decode cL_law 242 = .ok (.iload_n 3, 1) := by decide +kernel
theorem dL_law_243 : decode cL_law 243 = .ok (.iconst 1, 1) := by decide +kernel
theorem dL_law_244 : decode cL_law 244 = .ok (.iadd, 1) := by decide +kernel
theorem dL_law_245 : decode cL_law 245 = .ok (.iaload, 1) := by decide +kernel
theorem dL_law_246 : decode cL_law 246 = .ok (.aload_n 0, 1) := by decide +kernel
theorem dL_law_247 : decode cL_law 247 = .ok (.iload_n 3, 1) := by decide +kernel
theorem dL_law_248 : decode cL_law 248 = .ok (.iconst 2, 1) := by decide +kernel
theorem dL_law_249 : decode cL_law 249 = .ok (.iadd, 1) := by decide +kernel
theorem dL_law_250 : decode cL_law 250 = .ok (.iaload, 1) := by decide +kernel
theorem dL_law_251 : decode cL_law 251 = .ok (.aload_n 0, 1) := by decide +kernel
theorem dL_law_252 : decode cL_law 252 = .ok (.iload_n 3, 1) := by decide +kernel
theorem dL_law_253 : decode cL_law 253 = .ok (.iconst 3, 1) := by decide +kernel
theorem dL_law_254 : decode cL_law 254 = .ok (.iadd, 1) := by decide +kernel
theorem dL_law_255 : decode cL_law 255 = .ok (.iaload, 1) := by decide +kernel
theorem dL_law_256 : decode cL_law 256 = .ok (.invokevirtual 23, 3) := by decide +kernel
theorem dL_law_259 : decode cL_law 259 = .ok (.aload_n 2, 1) := by decide +kernel
theorem dL_law_260 : decode cL_law 260 = .ok (.aload_n 0, 1) := by decide +kernel
theorem dL_law_261 : decode cL_law 261 = .ok (.iload_n 3, 1) := by decide +kernel
theorem dL_law_262 : decode cL_law 262 = .ok (.iconst 1, 1) := by decide +kernel
theorem dL_law_263 : decode cL_law 263 = .ok (.iadd, 1) := by decide +kernel
theorem dL_law_264 : decode cL_law 264 = .ok (.iaload, 1) := by decide +kernel
theorem dL_law_265 : decode cL_law 265 = .ok (.aload_n 0, 1) := by decide +kernel
theorem dL_law_266 : decode cL_law 266 = .ok (.iload_n 3, 1) := by decide +kernel
theorem dL_law_267 : decode cL_law 267 = .ok (.iconst 2, 1) := by decide +kernel
theorem dL_law_268 : decode cL_law 268 = .ok (.iadd, 1) := by decide +kernel
theorem dL_law_269 : decode cL_law 269 = .ok (.iaload, 1) := by decide +kernel
theorem dL_law_270 : decode cL_law 270 = .ok (.aload_n 0, 1) := by decide +kernel
theorem dL_law_271 : decode cL_law 271 = .ok (.iload_n 3, 1) := by decide +kernel
theorem dL_law_272 : decode cL_law 272 = .ok (.iconst 3, 1) := by decide +kernel
theorem dL_law_273 : decode cL_law 273 = .ok (.iadd, 1) := by decide +kernel
theorem dL_law_274 : decode cL_law 274 = .ok (.iaload, 1) := by decide +kernel
theorem dL_law_275 : decode cL_law 275 = .ok (.invokevirtual 27, 3) := by decide +kernel
theorem dL_law_278 : decode cL_law 278 = .ok (.if_icmp .eq 653, 3) := by decide +kernel
theorem dL_law_281 : decode cL_law 281 = .ok (.iconst 0, 1) := by decide +kernel
theorem dL_law_282 : decode cL_law 282 = .ok (.ireturn, 1) := by decide +kernel
theorem dL_law_283 : decode cL_law 283 = .ok (.aload_n 1, 1) := by decide +kernel
theorem dL_law_284 : decode cL_law 284 = .ok (.aload_n 0, 1) := by decide +kernel
theorem dL_law_285 : decode cL_law 285 = .ok (.iload_n 3, 1) := by decide +kernel
theorem dL_law_286 : decode cL_law 286 = .ok (.iconst 1, 1) := by decide +kernel
theorem dL_law_287 : decode cL_law 287 = .ok (.iadd, 1) := by decide +kernel
theorem dL_law_288 : decode cL_law 288 = .ok (.iaload, 1) := by decide +kernel
theorem dL_law_289 : decode cL_law 289 = .ok (.aload_n 0, 1) := by decide +kernel
theorem dL_law_290 : decode cL_law 290 = .ok (.iload_n 3, 1) := by decide +kernel
theorem dL_law_291 : decode cL_law 291 = .ok (.iconst 2, 1) := by decide +kernel
theorem dL_law_292 : decode cL_law 292 = .ok (.iadd, 1) := by decide +kernel
theorem dL_law_293 : decode cL_law 293 = .ok (.iaload, 1) := by decide +kernel
theorem dL_law_294 : decode cL_law 294 = .ok (.invokevirtual 28, 3) := by decide +kernel
theorem dL_law_297 : decode cL_law 297 = .ok (.aload_n 2, 1) := by decide +kernel
theorem dL_law_298 : decode cL_law 298 = .ok (.aload_n 0, 1) := by decide +kernel
theorem dL_law_299 : decode cL_law 299 = .ok (.iload_n 3, 1) := by decide +kernel
theorem dL_law_300 : decode cL_law 300 = .ok (.iconst 1, 1) := by decide +kernel
theorem dL_law_301 : decode cL_law 301 = .ok (.iadd, 1) := by decide +kernel
theorem dL_law_302 : decode cL_law 302 = .ok (.iaload, 1) := by decide +kernel
theorem dL_law_303 : decode cL_law 303 = .ok (.aload_n 0, 1) := by decide +kernel
theorem dL_law_304 : decode cL_law 304 = .ok (.iload_n 3, 1) := by decide +kernel
theorem dL_law_305 : decode cL_law 305 = .ok (.iconst 2, 1) := by decide +kernel
theorem dL_law_306 : decode cL_law 306 = .ok (.iadd, 1) := by decide +kernel
theorem dL_law_307 : decode cL_law 307 = .ok (.iaload, 1) := by decide +kernel
theorem dL_law_308 : decode cL_law 308 = .ok (.invokevirtual 32, 3) := by decide +kernel
theorem dL_law_311 : decode cL_law 311 = .ok (.if_icmp .eq 620, 3) := by decide +kernel
theorem dL_law_314 : decode cL_law 314 = .ok (.iconst 0, 1) := by decide +kernel
theorem dL_law_315 : decode cL_law 315 = .ok (.ireturn, 1) := by decide +kernel
theorem dL_law_316 : decode cL_law 316 = .ok (.aload_n 1, 1) := by decide +kernel
theorem dL_law_317 : decode cL_law 317 = .ok (.aload_n 0, 1) := by decide +kernel
theorem dL_law_318 : decode cL_law 318 = .ok (.iload_n 3, 1) := by decide +kernel
theorem dL_law_319 : decode cL_law 319 = .ok (.iconst 1, 1) := by decide +kernel
theorem dL_law_320 : decode cL_law 320 = .ok (.iadd, 1) := by decide +kernel
theorem dL_law_321 : decode cL_law 321 = .ok (.iaload, 1) := by decide +kernel
theorem dL_law_322 : decode cL_law 322 = .ok (.aload_n 0, 1) := by decide +kernel
theorem dL_law_323 : decode cL_law 323 = .ok (.iload_n 3, 1) := by decide +kernel
theorem dL_law_324 : decode cL_law 324 = .ok (.iconst 2, 1) := by decide +kernel
theorem dL_law_325 : decode cL_law 325 = .ok (.iadd, 1) := by decide +kernel
theorem dL_law_326 : decode cL_law 326 = .ok (.iaload, 1) := by decide +kernel
theorem dL_law_327 : decode cL_law 327 = .ok (.invokevirtual 33, 3) := by decide +kernel
theorem dL_law_330 : decode cL_law 330 = .ok (.aload_n 2, 1) := by decide +kernel
theorem dL_law_331 : decode cL_law 331 = .ok (.aload_n 0, 1) := by decide +kernel
theorem dL_law_332 : decode cL_law 332 = .ok (.iload_n 3, 1) := by decide +kernel
theorem dL_law_333 : decode cL_law 333 = .ok (.iconst 1, 1) := by decide +kernel
theorem dL_law_334 : decode cL_law 334 = .ok (.iadd, 1) := by decide +kernel
theorem dL_law_335 : decode cL_law 335 = .ok (.iaload, 1) := by decide +kernel
theorem dL_law_336 : decode cL_law 336 = .ok (.aload_n 0, 1) := by decide +kernel
theorem dL_law_337 : decode cL_law 337 = .ok (.iload_n 3, 1) := by decide +kernel
theorem dL_law_338 : decode cL_law 338 = .ok (.iconst 2, 1) := by decide +kernel
theorem dL_law_339 : decode cL_law 339 = .ok (.iadd, 1) := by decide +kernel
theorem dL_law_340 : decode cL_law 340 = .ok (.iaload, 1) := by decide +kernel
theorem dL_law_341 : decode cL_law 341 = .ok (.invokevirtual 36, 3) := by decide +kernel
theorem dL_law_344 : decode cL_law 344 = .ok (.if_icmp .eq 587, 3) := by decide +kernel
theorem dL_law_347 : decode cL_law 347 = .ok (.iconst 0, 1) := by decide +kernel
theorem dL_law_348 : decode cL_law 348 = .ok (.ireturn, 1) := by decide +kernel
theorem dL_law_349 : decode cL_law 349 = .ok (.aload_n 1, 1) := by decide +kernel
theorem dL_law_350 : decode cL_law 350 = .ok (.aload_n 0, 1) := by decide +kernel
theorem dL_law_351 : decode cL_law 351 = .ok (.iload_n 3, 1) := by decide +kernel
theorem dL_law_352 : decode cL_law 352 = .ok (.iconst 1, 1) := by decide +kernel
theorem dL_law_353 : decode cL_law 353 = .ok (.iadd, 1) := by decide +kernel
theorem dL_law_354 : decode cL_law 354 = .ok (.iaload, 1) := by decide +kernel
theorem dL_law_355 : decode cL_law 355 = .ok (.invokevirtual 37, 3) := by decide +kernel
theorem dL_law_358 : decode cL_law 358 = .ok (.aload_n 2, 1) := by decide +kernel
theorem dL_law_359 : decode cL_law 359 = .ok (.aload_n 0, 1) := by decide +kernel
theorem dL_law_360 : decode cL_law 360 = .ok (.iload_n 3, 1) := by decide +kernel
theorem dL_law_361 : decode cL_law 361 = .ok (.iconst 1, 1) := by decide +kernel
theorem dL_law_362 : decode cL_law 362 = .ok (.iadd, 1) := by decide +kernel
theorem dL_law_363 : decode cL_law 363 = .ok (.iaload, 1) := by decide +kernel
theorem dL_law_364 : decode cL_law 364 = .ok (.invokevirtual 41, 3) := by decide +kernel
theorem dL_law_367 : decode cL_law 367 = .ok (.if_icmp .eq 564, 3) := by decide +kernel
theorem dL_law_370 : decode cL_law 370 = .ok (.iconst 0, 1) := by decide +kernel
theorem dL_law_371 : decode cL_law 371 = .ok (.ireturn, 1) := by decide +kernel
theorem dL_law_372 : decode cL_law 372 = .ok (.aload_n 1, 1) := by decide +kernel
theorem dL_law_373 : decode cL_law 373 = .ok (.invokevirtual 42, 3) := by decide +kernel
theorem dL_law_376 : decode cL_law 376 = .ok (.aload_n 2, 1) := by decide +kernel
theorem dL_law_377 : decode cL_law 377 = .ok (.invokevirtual 45, 3) := by decide +kernel
theorem dL_law_380 : decode cL_law 380 = .ok (.if_icmp .eq 551, 3) := by decide +kernel
theorem dL_law_383 : decode cL_law 383 = .ok (.iconst 0, 1) := by decide +kernel
theorem dL_law_384 : decode cL_law 384 = .ok (.ireturn, 1) := by decide +kernel
theorem dL_law_385 : decode cL_law 385 = .ok (.aload_n 1, 1) := by decide +kernel
theorem dL_law_386 : decode cL_law 386 = .ok (.aload_n 0, 1) := by decide +kernel
theorem dL_law_387 : decode cL_law 387 = .ok (.iload_n 3, 1) := by decide +kernel
theorem dL_law_388 : decode cL_law 388 = .ok (.iconst 1, 1) := by decide +kernel
theorem dL_law_389 : decode cL_law 389 = .ok (.iadd, 1) := by decide +kernel
theorem dL_law_390 : decode cL_law 390 = .ok (.iaload, 1) := by decide +kernel
theorem dL_law_391 : decode cL_law 391 = .ok (.aload_n 0, 1) := by decide +kernel
theorem dL_law_392 : decode cL_law 392 = .ok (.iload_n 3, 1) := by decide +kernel
theorem dL_law_393 : decode cL_law 393 = .ok (.iconst 2, 1) := by decide +kernel
theorem dL_law_394 : decode cL_law 394 = .ok (.iadd, 1) := by decide +kernel
theorem dL_law_395 : decode cL_law 395 = .ok (.iaload, 1) := by decide +kernel
theorem dL_law_396 : decode cL_law 396 = .ok (.invokevirtual 46, 3) := by decide +kernel
theorem dL_law_399 : decode cL_law 399 = .ok (.aload_n 2, 1) := by decide +kernel
theorem dL_law_400 : decode cL_law 400 = .ok (.aload_n 0, 1) := by decide +kernel
theorem dL_law_401 : decode cL_law 401 = .ok (.iload_n 3, 1) := by decide +kernel
theorem dL_law_402 : decode cL_law 402 = .ok (.iconst 1, 1) := by decide +kernel
theorem dL_law_403 : decode cL_law 403 = .ok (.iadd, 1) := by decide +kernel
theorem dL_law_404 : decode cL_law 404 = .ok (.iaload, 1) := by decide +kernel
theorem dL_law_405 : decode cL_law 405 = .ok (.aload_n 0, 1) := by decide +kernel
theorem dL_law_406 : decode cL_law 406 = .ok (.iload_n 3, 1) := by decide +kernel
theorem dL_law_407 : decode cL_law 407 = .ok (.iconst 2, 1) := by decide +kernel
theorem dL_law_408 : decode cL_law 408 = .ok (.iadd, 1) := by decide +kernel
theorem dL_law_409 : decode cL_law 409 = .ok (.iaload, 1) := by decide +kernel
theorem dL_law_410 : decode cL_law 410 = .ok (.invokevirtual 49, 3) := by decide +kernel
theorem dL_law_413 : decode cL_law 413 = .ok (.if_icmp .eq 518, 3) := by decide +kernel
theorem dL_law_416 : decode cL_law 416 = .ok (.iconst 0, 1) := by decide +kernel
theorem dL_law_417 : decode cL_law 417 = .ok (.ireturn, 1) := by decide +kernel
theorem dL_law_418 : decode cL_law 418 = .ok (.aload_n 1, 1) := by decide +kernel
theorem dL_law_419 : decode cL_law 419 = .ok (.aload_n 0, 1) := by decide +kernel
theorem dL_law_420 : decode cL_law 420 = .ok (.iload_n 3, 1) := by decide +kernel
theorem dL_law_421 : decode cL_law 421 = .ok (.iconst 1, 1) := by decide +kernel
theorem dL_law_422 : decode cL_law 422 = .ok (.iadd, 1) := by decide +kernel
theorem dL_law_423 : decode cL_law 423 = .ok (.iaload, 1) := by decide +kernel
theorem dL_law_424 : decode cL_law 424 = .ok (.invokevirtual 50, 3) := by decide +kernel
theorem dL_law_427 : decode cL_law 427 = .ok (.aload_n 2, 1) := by decide +kernel
theorem dL_law_428 : decode cL_law 428 = .ok (.aload_n 0, 1) := by decide +kernel
theorem dL_law_429 : decode cL_law 429 = .ok (.iload_n 3, 1) := by decide +kernel
theorem dL_law_430 : decode cL_law 430 = .ok (.iconst 1, 1) := by decide +kernel
theorem dL_law_431 : decode cL_law 431 = .ok (.iadd, 1) := by decide +kernel
theorem dL_law_432 : decode cL_law 432 = .ok (.iaload, 1) := by decide +kernel
theorem dL_law_433 : decode cL_law 433 = .ok (.invokevirtual 54, 3) := by decide +kernel
theorem dL_law_436 : decode cL_law 436 = .ok (.if_icmp .eq 495, 3) := by decide +kernel
theorem dL_law_439 : decode cL_law 439 = .ok (.iconst 0, 1) := by decide +kernel
theorem dL_law_440 : decode cL_law 440 = .ok (.ireturn, 1) := by decide +kernel
theorem dL_law_441 : decode cL_law 441 = .ok (.aload_n 1, 1) := by decide +kernel
theorem dL_law_442 : decode cL_law 442 = .ok (.aload_n 0, 1) := by decide +kernel
theorem dL_law_443 : decode cL_law 443 = .ok (.iload_n 3, 1) := by decide +kernel
theorem dL_law_444 : decode cL_law 444 = .ok (.iconst 1, 1) := by decide +kernel
theorem dL_law_445 : decode cL_law 445 = .ok (.iadd, 1) := by decide +kernel
theorem dL_law_446 : decode cL_law 446 = .ok (.iaload, 1) := by decide +kernel
theorem dL_law_447 : decode cL_law 447 = .ok (.aload_n 0, 1) := by decide +kernel
theorem dL_law_448 : decode cL_law 448 = .ok (.iload_n 3, 1) := by decide +kernel
theorem dL_law_449 : decode cL_law 449 = .ok (.iconst 2, 1) := by decide +kernel
theorem dL_law_450 : decode cL_law 450 = .ok (.iadd, 1) := by decide +kernel
theorem dL_law_451 : decode cL_law 451 = .ok (.iaload, 1) := by decide +kernel
theorem dL_law_452 : decode cL_law 452 = .ok (.aload_n 0, 1) := by decide +kernel
theorem dL_law_453 : decode cL_law 453 = .ok (.iload_n 3, 1) := by decide +kernel
theorem dL_law_454 : decode cL_law 454 = .ok (.iconst 3, 1) := by decide +kernel
theorem dL_law_455 : decode cL_law 455 = .ok (.iadd, 1) := by decide +kernel
theorem dL_law_456 : decode cL_law 456 = .ok (.iaload, 1) := by decide +kernel
theorem dL_law_457 : decode cL_law 457 = .ok (.aload_n 0, 1) := by decide +kernel
theorem dL_law_458 : decode cL_law 458 = .ok (.iload_n 3, 1) := by decide +kernel
theorem dL_law_459 : decode cL_law 459 = .ok (.iconst 4, 1) := by decide +kernel
theorem dL_law_460 : decode cL_law 460 = .ok (.iadd, 1) := by decide +kernel
theorem dL_law_461 : decode cL_law 461 = .ok (.iaload, 1) := by decide +kernel
theorem dL_law_462 : decode cL_law 462 = .ok (.invokevirtual 55, 3) := by decide +kernel
theorem dL_law_465 : decode cL_law 465 = .ok (.aload_n 2, 1) := by decide +kernel
theorem dL_law_466 : decode cL_law 466 = .ok (.aload_n 0, 1) := by decide +kernel
theorem dL_law_467 : decode cL_law 467 = .ok (.iload_n 3, 1) := by decide +kernel
theorem dL_law_468 : decode cL_law 468 = .ok (.iconst 1, 1) := by decide +kernel
theorem dL_law_469 : decode cL_law 469 = .ok (.iadd, 1) := by decide +kernel
theorem dL_law_470 : decode cL_law 470 = .ok (.iaload, 1) := by decide +kernel
theorem dL_law_471 : decode cL_law 471 = .ok (.aload_n 0, 1) := by decide +kernel
theorem dL_law_472 : decode cL_law 472 = .ok (.iload_n 3, 1) := by decide +kernel
theorem dL_law_473 : decode cL_law 473 = .ok (.iconst 2, 1) := by decide +kernel
theorem dL_law_474 : decode cL_law 474 = .ok (.iadd, 1) := by decide +kernel
theorem dL_law_475 : decode cL_law 475 = .ok (.iaload, 1) := by decide +kernel
theorem dL_law_476 : decode cL_law 476 = .ok (.aload_n 0, 1) := by decide +kernel
theorem dL_law_477 : decode cL_law 477 = .ok (.iload_n 3, 1) := by decide +kernel
theorem dL_law_478 : decode cL_law 478 = .ok (.iconst 3, 1) := by decide +kernel
theorem dL_law_479 : decode cL_law 479 = .ok (.iadd, 1) := by decide +kernel
theorem dL_law_480 : decode cL_law 480 = .ok (.iaload, 1) := by decide +kernel
theorem dL_law_481 : decode cL_law 481 = .ok (.aload_n 0, 1) := by decide +kernel
theorem dL_law_482 : decode cL_law 482 = .ok (.iload_n 3, 1) := by decide +kernel
theorem dL_law_483 : decode cL_law 483 = .ok (.iconst 4, 1) := by decide +kernel
theorem dL_law_484 : decode cL_law 484 = .ok (.iadd, 1) := by decide +kernel
theorem dL_law_485 : decode cL_law 485 = .ok (.iaload, 1) := by decide +kernel
theorem dL_law_486 : decode cL_law 486 = .ok (.invokevirtual 59, 3) := by decide +kernel
theorem dL_law_489 : decode cL_law 489 = .ok (.if_icmp .eq 442, 3) := by decide +kernel
theorem dL_law_492 : decode cL_law 492 = .ok (.iconst 0, 1) := by decide +kernel
theorem dL_law_493 : decode cL_law 493 = .ok (.ireturn, 1) := by decide +kernel
theorem dL_law_494 : decode cL_law 494 = .ok (.aload_n 1, 1) := by decide +kernel
theorem dL_law_495 : decode cL_law 495 = .ok (.aload_n 0, 1) := by decide +kernel
theorem dL_law_496 : decode cL_law 496 = .ok (.iload_n 3, 1) := by decide +kernel
theorem dL_law_497 : decode cL_law 497 = .ok (.iconst 1, 1) := by decide +kernel
theorem dL_law_498 : decode cL_law 498 = .ok (.iadd, 1) := by decide +kernel
theorem dL_law_499 : decode cL_law 499 = .ok (.iaload, 1) := by decide +kernel
theorem dL_law_500 : decode cL_law 500 = .ok (.aload_n 0, 1) := by decide +kernel
theorem dL_law_501 : decode cL_law 501 = .ok (.iload_n 3, 1) := by decide +kernel
theorem dL_law_502 : decode cL_law 502 = .ok (.iconst 2, 1) := by decide +kernel
theorem dL_law_503 : decode cL_law 503 = .ok (.iadd, 1) := by decide +kernel
theorem dL_law_504 : decode cL_law 504 = .ok (.iaload, 1) := by decide +kernel
theorem dL_law_505 : decode cL_law 505 = .ok (.invokevirtual 60, 3) := by decide +kernel
theorem dL_law_508 : decode cL_law 508 = .ok (.aload_n 2, 1) := by decide +kernel
theorem dL_law_509 : decode cL_law 509 = .ok (.aload_n 0, 1) := by decide +kernel
theorem dL_law_510 : decode cL_law 510 = .ok (.iload_n 3, 1) := by decide +kernel
theorem dL_law_511 : decode cL_law 511 = .ok (.iconst 1, 1) := by decide +kernel
theorem dL_law_512 : decode cL_law 512 = .ok (.iadd, 1) := by decide +kernel
theorem dL_law_513 : decode cL_law 513 = .ok (.iaload, 1) := by decide +kernel
theorem dL_law_514 : decode cL_law 514 = .ok (.aload_n 0, 1) := by decide +kernel
theorem dL_law_515 : decode cL_law 515 = .ok (.iload_n 3, 1) := by decide +kernel
theorem dL_law_516 : decode cL_law 516 = .ok (.iconst 2, 1) := by decide +kernel
theorem dL_law_517 : decode cL_law 517 = .ok (.iadd, 1) := by decide +kernel
theorem dL_law_518 : decode cL_law 518 = .ok (.iaload, 1) := by decide +kernel
theorem dL_law_519 : decode cL_law 519 = .ok (.invokevirtual 64, 3) := by decide +kernel
theorem dL_law_522 : decode cL_law 522 = .ok (.if_icmp .eq 409, 3) := by decide +kernel
theorem dL_law_525 : decode cL_law 525 = .ok (.iconst 0, 1) := by decide +kernel
theorem dL_law_526 : decode cL_law 526 = .ok (.ireturn, 1) := by decide +kernel
theorem dL_law_527 : decode cL_law 527 = .ok (.aload_n 1, 1) := by decide +kernel
theorem dL_law_528 : decode cL_law 528 = .ok (.aload_n 0, 1) := by decide +kernel
theorem dL_law_529 : decode cL_law 529 = .ok (.iload_n 3, 1) := by decide +kernel
theorem dL_law_530 : decode cL_law 530 = .ok (.iconst 1, 1) := by decide +kernel
theorem dL_law_531 : decode cL_law 531 = .ok (.iadd, 1) := by decide +kernel
theorem dL_law_532 : decode cL_law 532 = .ok (.iaload, 1) := by decide +kernel
theorem dL_law_533 : decode cL_law 533 = .ok (.aload_n 0, 1) := by decide +kernel
theorem dL_law_534 : decode cL_law 534 = .ok (.iload_n 3, 1) := by decide +kernel
theorem dL_law_535 : decode cL_law 535 = .ok (.iconst 2, 1) := by decide +kernel
theorem dL_law_536 : decode cL_law 536 = .ok (.iadd, 1) := by decide +kernel
theorem dL_law_537 : decode cL_law 537 = .ok (.iaload, 1) := by decide +kernel
theorem dL_law_538 : decode cL_law 538 = .ok (.invokevirtual 65, 3) := by decide +kernel
theorem dL_law_541 : decode cL_law 541 = .ok (.aload_n 2, 1) := by decide +kernel
theorem dL_law_542 : decode cL_law 542 = .ok (.aload_n 0, 1) := by decide +kernel
theorem dL_law_543 : decode cL_law 543 = .ok (.iload_n 3, 1) := by decide +kernel
theorem dL_law_544 : decode cL_law 544 = .ok (.iconst 1, 1) := by decide +kernel
theorem dL_law_545 : decode cL_law 545 = .ok (.iadd, 1) := by decide +kernel
theorem dL_law_546 : decode cL_law 546 = .ok (.iaload, 1) := by decide +kernel
theorem dL_law_547 : decode cL_law 547 = .ok (.aload_n 0, 1) := by decide +kernel
theorem dL_law_548 : decode cL_law 548 = .ok (.iload_n 3, 1) := by decide +kernel
theorem dL_law_549 : decode cL_law 549 = .ok (.iconst 2, 1) := by decide +kernel
theorem dL_law_550 : decode cL_law 550 = .ok (.iadd, 1) := by decide +kernel
theorem dL_law_551 : decode cL_law 551 = .ok (.iaload, 1) := by decide +kernel
theorem dL_law_552 : decode cL_law 552 = .ok (.invokevirtual 68, 3) := by decide +kernel
theorem dL_law_555 : decode cL_law 555 = .ok (.if_icmp .eq 376, 3) := by decide +kernel
theorem dL_law_558 : decode cL_law 558 = .ok (.iconst 0, 1) := by decide +kernel
theorem dL_law_559 : decode cL_law 559 = .ok (.ireturn, 1) := by decide +kernel
theorem dL_law_560 : decode cL_law 560 = .ok (.aload_n 1, 1) := by decide +kernel
theorem dL_law_561 : decode cL_law 561 = .ok (.aload_n 0, 1) := by decide +kernel
theorem dL_law_562 : decode cL_law 562 = .ok (.iload_n 3, 1) := by decide +kernel
theorem dL_law_563 : decode cL_law 563 = .ok (.iconst 1, 1) := by decide +kernel
theorem dL_law_564 : decode cL_law 564 = .ok (.iadd, 1) := by decide +kernel
theorem dL_law_565 : decode cL_law 565 = .ok (.iaload, 1) := by decide +kernel
theorem dL_law_566 : decode cL_law 566 = .ok (.aload_n 0, 1) := by decide +kernel
theorem dL_law_567 : decode cL_law 567 = .ok (.iload_n 3, 1) := by decide +kernel
theorem dL_law_568 : decode cL_law 568 = .ok (.iconst 2, 1) := by decide +kernel
theorem dL_law_569 : decode cL_law 569 = .ok (.iadd, 1) := by decide +kernel
theorem dL_law_570 : decode cL_law 570 = .ok (.iaload, 1) := by decide +kernel
theorem dL_law_571 : decode cL_law 571 = .ok (.invokevirtual 69, 3) := by decide +kernel
theorem dL_law_574 : decode cL_law 574 = .ok (.aload_n 2, 1) := by decide +kernel
theorem dL_law_575 : decode cL_law 575 = .ok (.aload_n 0, 1) := by decide +kernel
theorem dL_law_576 : decode cL_law 576 = .ok (.iload_n 3, 1) := by decide +kernel
theorem dL_law_577 : decode cL_law 577 = .ok (.iconst 1, 1) := by decide +kernel
theorem dL_law_578 : decode cL_law 578 = .ok (.iadd, 1) := by decide +kernel
theorem dL_law_579 : decode cL_law 579 = .ok (.iaload, 1) := by decide +kernel
theorem dL_law_580 : decode cL_law 580 = .ok (.aload_n 0, 1) := by decide +kernel
theorem dL_law_581 : decode cL_law 581 = .ok (.iload_n 3, 1) := by decide +kernel
theorem dL_law_582 : decode cL_law 582 = .ok (.iconst 2, 1) := by decide +kernel
theorem dL_law_583 : decode cL_law 583 = .ok (.iadd, 1) := by decide +kernel
theorem dL_law_584 : decode cL_law 584 = .ok (.iaload, 1) := by decide +kernel
theorem dL_law_585 : decode cL_law 585 = .ok (.invokevirtual 72, 3) := by decide +kernel
theorem dL_law_588 : decode cL_law 588 = .ok (.if_icmp .eq 343, 3) := by decide +kernel
theorem dL_law_591 : decode cL_law 591 = .ok (.iconst 0, 1) := by decide +kernel
theorem dL_law_592 : decode cL_law 592 = .ok (.ireturn, 1) := by decide +kernel
theorem dL_law_593 : decode cL_law 593 = .ok (.aload_n 1, 1) := by decide +kernel
theorem dL_law_594 : decode cL_law 594 = .ok (.aload_n 0, 1) := by decide +kernel
theorem dL_law_595 : decode cL_law 595 = .ok (.iload_n 3, 1) := by decide +kernel
theorem dL_law_596 : decode cL_law 596 = .ok (.iconst 1, 1) := by decide +kernel
theorem dL_law_597 : decode cL_law 597 = .ok (.iadd, 1) := by decide +kernel
theorem dL_law_598 : decode cL_law 598 = .ok (.iaload, 1) := by decide +kernel
theorem dL_law_599 : decode cL_law 599 = .ok (.aload_n 0, 1) := by decide +kernel
theorem dL_law_600 : decode cL_law 600 = .ok (.iload_n 3, 1) := by decide +kernel
theorem dL_law_601 : decode cL_law 601 = .ok (.iconst 2, 1) := by decide +kernel
theorem dL_law_602 : decode cL_law 602 = .ok (.iadd, 1) := by decide +kernel
theorem dL_law_603 : decode cL_law 603 = .ok (.iaload, 1) := by decide +kernel
theorem dL_law_604 : decode cL_law 604 = .ok (.invokevirtual 73, 3) := by decide +kernel
theorem dL_law_607 : decode cL_law 607 = .ok (.aload_n 2, 1) := by decide +kernel
theorem dL_law_608 : decode cL_law 608 = .ok (.aload_n 0, 1) := by decide +kernel
theorem dL_law_609 : decode cL_law 609 = .ok (.iload_n 3, 1) := by decide +kernel
theorem dL_law_610 : decode cL_law 610 = .ok (.iconst 1, 1) := by decide +kernel
theorem dL_law_611 : decode cL_law 611 = .ok (.iadd, 1) := by decide +kernel
theorem dL_law_612 : decode cL_law 612 = .ok (.iaload, 1) := by decide +kernel
theorem dL_law_613 : decode cL_law 613 = .ok (.aload_n 0, 1) := by decide +kernel
theorem dL_law_614 : decode cL_law 614 = .ok (.iload_n 3, 1) := by decide +kernel
theorem dL_law_615 : decode cL_law 615 = .ok (.iconst 2, 1) := by decide +kernel
theorem dL_law_616 : decode cL_law 616 = .ok (.iadd, 1) := by decide +kernel
theorem dL_law_617 : decode cL_law 617 = .ok (.iaload, 1) := by decide +kernel
theorem dL_law_618 : decode cL_law 618 = .ok (.invokevirtual 76, 3) := by decide +kernel
theorem dL_law_621 : decode cL_law 621 = .ok (.if_icmp .eq 310, 3) := by decide +kernel
theorem dL_law_624 : decode cL_law 624 = .ok (.iconst 0, 1) := by decide +kernel
theorem dL_law_625 : decode cL_law 625 = .ok (.ireturn, 1) := by decide +kernel
theorem dL_law_626 : decode cL_law 626 = .ok (.aload_n 1, 1) := by decide +kernel
theorem dL_law_627 : decode cL_law 627 = .ok (.aload_n 0, 1) := by decide +kernel
theorem dL_law_628 : decode cL_law 628 = .ok (.iload_n 3, 1) := by decide +kernel
theorem dL_law_629 : decode cL_law 629 = .ok (.iconst 1, 1) := by decide +kernel
theorem dL_law_630 : decode cL_law 630 = .ok (.iadd, 1) := by decide +kernel
theorem dL_law_631 : decode cL_law 631 = .ok (.iaload, 1) := by decide +kernel
theorem dL_law_632 : decode cL_law 632 = .ok (.aload_n 0, 1) := by decide +kernel
theorem dL_law_633 : decode cL_law 633 = .ok (.iload_n 3, 1) := by decide +kernel
theorem dL_law_634 : decode cL_law 634 = .ok (.iconst 2, 1) := by decide +kernel
theorem dL_law_635 : decode cL_law 635 = .ok (.iadd, 1) := by decide +kernel
theorem dL_law_636 : decode cL_law 636 = .ok (.iaload, 1) := by decide +kernel
theorem dL_law_637 : decode cL_law 637 = .ok (.invokevirtual 77, 3) := by decide +kernel
theorem dL_law_640 : decode cL_law 640 = .ok (.aload_n 2, 1) := by decide +kernel
theorem dL_law_641 : decode cL_law 641 = .ok (.aload_n 0, 1) := by decide +kernel
theorem dL_law_642 : decode cL_law 642 = .ok (.iload_n 3, 1) := by decide +kernel
theorem dL_law_643 : decode cL_law 643 = .ok (.iconst 1, 1) := by decide +kernel
theorem dL_law_644 : decode cL_law 644 = .ok (.iadd, 1) := by decide +kernel
theorem dL_law_645 : decode cL_law 645 = .ok (.iaload, 1) := by decide +kernel
theorem dL_law_646 : decode cL_law 646 = .ok (.aload_n 0, 1) := by decide +kernel
theorem dL_law_647 : decode cL_law 647 = .ok (.iload_n 3, 1) := by decide +kernel
theorem dL_law_648 : decode cL_law 648 = .ok (.iconst 2, 1) := by decide +kernel
theorem dL_law_649 : decode cL_law 649 = .ok (.iadd, 1) := by decide +kernel
theorem dL_law_650 : decode cL_law 650 = .ok (.iaload, 1) := by decide +kernel
theorem dL_law_651 : decode cL_law 651 = .ok (.invokevirtual 80, 3) := by decide +kernel
theorem dL_law_654 : decode cL_law 654 = .ok (.if_icmp .eq 277, 3) := by decide +kernel
theorem dL_law_657 : decode cL_law 657 = .ok (.iconst 0, 1) := by decide +kernel
theorem dL_law_658 : decode cL_law 658 = .ok (.ireturn, 1) := by decide +kernel
theorem dL_law_659 : decode cL_law 659 = .ok (.aload_n 1, 1) := by decide +kernel
theorem dL_law_660 : decode cL_law 660 = .ok (.invokevirtual 81, 3) := by decide +kernel
theorem dL_law_663 : decode cL_law 663 = .ok (.aload_n 2, 1) := by decide +kernel
theorem dL_law_664 : decode cL_law 664 = .ok (.invokevirtual 85, 3) := by decide +kernel
theorem dL_law_667 : decode cL_law 667 = .ok (.lcmp, 1) := by decide +kernel
theorem dL_law_668 : decode cL_law 668 = .ok (.ifCond .eq 263, 3) := by decide +kernel
theorem dL_law_671 : decode cL_law 671 = .ok (.iconst 0, 1) := by decide +kernel
theorem dL_law_672 : decode cL_law 672 = .ok (.ireturn, 1) := by decide +kernel
theorem dL_law_673 : decode cL_law 673 = .ok (.aload_n 1, 1) := by decide +kernel
theorem dL_law_674 : decode cL_law 674 = .ok (.invokevirtual 86, 3) := by decide +kernel
theorem dL_law_677 : decode cL_law 677 = .ok (.aload_n 2, 1) := by decide +kernel
theorem dL_law_678 : decode cL_law 678 = .ok (.invokevirtual 89, 3) := by decide +kernel
theorem dL_law_681 : decode cL_law 681 = .ok (.lcmp, 1) := by decide +kernel
theorem dL_law_682 : decode cL_law 682 = .ok (.ifCond .eq 249, 3) := by decide +kernel
theorem dL_law_685 : decode cL_law 685 = .ok (.iconst 0, 1) := by decide +kernel
theorem dL_law_686 : decode cL_law 686 = .ok (.ireturn, 1) := by decide +kernel
theorem dL_law_687 : decode cL_law 687 = .ok (.aload_n 1, 1) := by decide +kernel
theorem dL_law_688 : decode cL_law 688 = .ok (.aload_n 0, 1) := by decide +kernel
theorem dL_law_689 : decode cL_law 689 = .ok (.iload_n 3, 1) := by decide +kernel
theorem dL_law_690 : decode cL_law 690 = .ok (.iconst 1, 1) := by decide +kernel
theorem dL_law_691 : decode cL_law 691 = .ok (.iadd, 1) := by decide +kernel
theorem dL_law_692 : decode cL_law 692 = .ok (.iaload, 1) := by decide +kernel
theorem dL_law_693 : decode cL_law 693 = .ok (.aload_n 0, 1) := by decide +kernel
theorem dL_law_694 : decode cL_law 694 = .ok (.iload_n 3, 1) := by decide +kernel
theorem dL_law_695 : decode cL_law 695 = .ok (.iconst 2, 1) := by decide +kernel
theorem dL_law_696 : decode cL_law 696 = .ok (.iadd, 1) := by decide +kernel
theorem dL_law_697 : decode cL_law 697 = .ok (.iaload, 1) := by decide +kernel
theorem dL_law_698 : decode cL_law 698 = .ok (.aload_n 0, 1) := by decide +kernel
theorem dL_law_699 : decode cL_law 699 = .ok (.iload_n 3, 1) := by decide +kernel
theorem dL_law_700 : decode cL_law 700 = .ok (.iconst 3, 1) := by decide +kernel
theorem dL_law_701 : decode cL_law 701 = .ok (.iadd, 1) := by decide +kernel
theorem dL_law_702 : decode cL_law 702 = .ok (.iaload, 1) := by decide +kernel
theorem dL_law_703 : decode cL_law 703 = .ok (.aload_n 0, 1) := by decide +kernel
theorem dL_law_704 : decode cL_law 704 = .ok (.iload_n 3, 1) := by decide +kernel
theorem dL_law_705 : decode cL_law 705 = .ok (.iconst 4, 1) := by decide +kernel
theorem dL_law_706 : decode cL_law 706 = .ok (.iadd, 1) := by decide +kernel
theorem dL_law_707 : decode cL_law 707 = .ok (.iaload, 1) := by decide +kernel
theorem dL_law_708 : decode cL_law 708 = .ok (.aload_n 0, 1) := by decide +kernel
theorem dL_law_709 : decode cL_law 709 = .ok (.iload_n 3, 1) := by decide +kernel
theorem dL_law_710 : decode cL_law 710 = .ok (.iconst 5, 1) := by decide +kernel
theorem dL_law_711 : decode cL_law 711 = .ok (.iadd, 1) := by decide +kernel
theorem dL_law_712 : decode cL_law 712 = .ok (.iaload, 1) := by decide +kernel
theorem dL_law_713 : decode cL_law 713 = .ok (.invokevirtual 90, 3) := by decide +kernel
theorem dL_law_716 : decode cL_law 716 = .ok (.aload_n 2, 1) := by decide +kernel
theorem dL_law_717 : decode cL_law 717 = .ok (.aload_n 0, 1) := by decide +kernel
theorem dL_law_718 : decode cL_law 718 = .ok (.iload_n 3, 1) := by decide +kernel
theorem dL_law_719 : decode cL_law 719 = .ok (.iconst 1, 1) := by decide +kernel
theorem dL_law_720 : decode cL_law 720 = .ok (.iadd, 1) := by decide +kernel
theorem dL_law_721 : decode cL_law 721 = .ok (.iaload, 1) := by decide +kernel
theorem dL_law_722 : decode cL_law 722 = .ok (.aload_n 0, 1) := by decide +kernel
theorem dL_law_723 : decode cL_law 723 = .ok (.iload_n 3, 1) := by decide +kernel
theorem dL_law_724 : decode cL_law 724 = .ok (.iconst 2, 1) := by decide +kernel
theorem dL_law_725 : decode cL_law 725 = .ok (.iadd, 1) := by decide +kernel
theorem dL_law_726 : decode cL_law 726 = .ok (.iaload, 1) := by decide +kernel
theorem dL_law_727 : decode cL_law 727 = .ok (.aload_n 0, 1) := by decide +kernel
theorem dL_law_728 : decode cL_law 728 = .ok (.iload_n 3, 1) := by decide +kernel
theorem dL_law_729 : decode cL_law 729 = .ok (.iconst 3, 1) := by decide +kernel
theorem dL_law_730 : decode cL_law 730 = .ok (.iadd, 1) := by decide +kernel
theorem dL_law_731 : decode cL_law 731 = .ok (.iaload, 1) := by decide +kernel
theorem dL_law_732 : decode cL_law 732 = .ok (.aload_n 0, 1) := by decide +kernel
theorem dL_law_733 : decode cL_law 733 = .ok (.iload_n 3, 1) := by decide +kernel
theorem dL_law_734 : decode cL_law 734 = .ok (.iconst 4, 1) := by decide +kernel
theorem dL_law_735 : decode cL_law 735 = .ok (.iadd, 1) := by decide +kernel
theorem dL_law_736 : decode cL_law 736 = .ok (.iaload, 1) := by decide +kernel
theorem dL_law_737 : decode cL_law 737 = .ok (.aload_n 0, 1) := by decide +kernel
theorem dL_law_738 : decode cL_law 738 = .ok (.iload_n 3, 1) := by decide +kernel
theorem dL_law_739 : decode cL_law 739 = .ok (.iconst 5, 1) := by decide +kernel
theorem dL_law_740 : decode cL_law 740 = .ok (.iadd, 1) := by decide +kernel
theorem dL_law_741 : decode cL_law 741 = .ok (.iaload, 1) := by decide +kernel
theorem dL_law_742 : decode cL_law 742 = .ok (.invokevirtual 94, 3) := by decide +kernel
theorem dL_law_745 : decode cL_law 745 = .ok (.if_icmp .eq 186, 3) := by decide +kernel
theorem dL_law_748 : decode cL_law 748 = .ok (.iconst 0, 1) := by decide +kernel
theorem dL_law_749 : decode cL_law 749 = .ok (.ireturn, 1) := by decide +kernel
theorem dL_law_750 : decode cL_law 750 = .ok (.aload_n 1, 1) := by decide +kernel
theorem dL_law_751 : decode cL_law 751 = .ok (.aload_n 0, 1) := by decide +kernel
theorem dL_law_752 : decode cL_law 752 = .ok (.iload_n 3, 1) := by decide +kernel
theorem dL_law_753 : decode cL_law 753 = .ok (.iconst 1, 1) := by decide +kernel
theorem dL_law_754 : decode cL_law 754 = .ok (.iadd, 1) := by decide +kernel
theorem dL_law_755 : decode cL_law 755 = .ok (.iaload, 1) := by decide +kernel
theorem dL_law_756 : decode cL_law 756 = .ok (.invokevirtual 95, 3) := by decide +kernel
theorem dL_law_759 : decode cL_law 759 = .ok (.aload_n 2, 1) := by decide +kernel
theorem dL_law_760 : decode cL_law 760 = .ok (.aload_n 0, 1) := by decide +kernel
theorem dL_law_761 : decode cL_law 761 = .ok (.iload_n 3, 1) := by decide +kernel
theorem dL_law_762 : decode cL_law 762 = .ok (.iconst 1, 1) := by decide +kernel
theorem dL_law_763 : decode cL_law 763 = .ok (.iadd, 1) := by decide +kernel
theorem dL_law_764 : decode cL_law 764 = .ok (.iaload, 1) := by decide +kernel
theorem dL_law_765 : decode cL_law 765 = .ok (.invokevirtual 98, 3) := by decide +kernel
theorem dL_law_768 : decode cL_law 768 = .ok (.if_icmp .eq 163, 3) := by decide +kernel
theorem dL_law_771 : decode cL_law 771 = .ok (.iconst 0, 1) := by decide +kernel
theorem dL_law_772 : decode cL_law 772 = .ok (.ireturn, 1) := by decide +kernel
theorem dL_law_773 : decode cL_law 773 = .ok (.aload_n 1, 1) := by decide +kernel
theorem dL_law_774 : decode cL_law 774 = .ok (.aload_n 0, 1) := by decide +kernel
theorem dL_law_775 : decode cL_law 775 = .ok (.iload_n 3, 1) := by decide +kernel
theorem dL_law_776 : decode cL_law 776 = .ok (.iconst 1, 1) := by decide +kernel
theorem dL_law_777 : decode cL_law 777 = .ok (.iadd, 1) := by decide +kernel
theorem dL_law_778 : decode cL_law 778 = .ok (.iaload, 1) := by decide +kernel
theorem dL_law_779 : decode cL_law 779 = .ok (.invokevirtual 99, 3) := by decide +kernel
theorem dL_law_782 : decode cL_law 782 = .ok (.aload_n 2, 1) := by decide +kernel
theorem dL_law_783 : decode cL_law 783 = .ok (.aload_n 0, 1) := by decide +kernel
theorem dL_law_784 : decode cL_law 784 = .ok (.iload_n 3, 1) := by decide +kernel
theorem dL_law_785 : decode cL_law 785 = .ok (.iconst 1, 1) := by decide +kernel
theorem dL_law_786 : decode cL_law 786 = .ok (.iadd, 1) := by decide +kernel
theorem dL_law_787 : decode cL_law 787 = .ok (.iaload, 1) := by decide +kernel
theorem dL_law_788 : decode cL_law 788 = .ok (.invokevirtual 102, 3) := by decide +kernel
theorem dL_law_791 : decode cL_law 791 = .ok (.if_icmp .eq 140, 3) := by decide +kernel
theorem dL_law_794 : decode cL_law 794 = .ok (.iconst 0, 1) := by decide +kernel
theorem dL_law_795 : decode cL_law 795 = .ok (.ireturn, 1) := by decide +kernel
theorem dL_law_796 : decode cL_law 796 = .ok (.aload_n 1, 1) := by decide +kernel
theorem dL_law_797 : decode cL_law 797 = .ok (.aload_n 0, 1) := by decide +kernel
theorem dL_law_798 : decode cL_law 798 = .ok (.iload_n 3, 1) := by decide +kernel
theorem dL_law_799 : decode cL_law 799 = .ok (.iconst 1, 1) := by decide +kernel
theorem dL_law_800 : decode cL_law 800 = .ok (.iadd, 1) := by decide +kernel
theorem dL_law_801 : decode cL_law 801 = .ok (.iaload, 1) := by decide +kernel
theorem dL_law_802 : decode cL_law 802 = .ok (.aload_n 0, 1) := by decide +kernel
theorem dL_law_803 : decode cL_law 803 = .ok (.iload_n 3, 1) := by decide +kernel
theorem dL_law_804 : decode cL_law 804 = .ok (.iconst 2, 1) := by decide +kernel
theorem dL_law_805 : decode cL_law 805 = .ok (.iadd, 1) := by decide +kernel
theorem dL_law_806 : decode cL_law 806 = .ok (.iaload, 1) := by decide +kernel
theorem dL_law_807 : decode cL_law 807 = .ok (.aload_n 0, 1) := by decide +kernel
theorem dL_law_808 : decode cL_law 808 = .ok (.iload_n 3, 1) := by decide +kernel
theorem dL_law_809 : decode cL_law 809 = .ok (.iconst 3, 1) := by decide +kernel
theorem dL_law_810 : decode cL_law 810 = .ok (.iadd, 1) := by decide +kernel
theorem dL_law_811 : decode cL_law 811 = .ok (.iaload, 1) := by decide +kernel
theorem dL_law_812 : decode cL_law 812 = .ok (.invokevirtual 103, 3) := by decide +kernel
theorem dL_law_815 : decode cL_law 815 = .ok (.aload_n 2, 1) := by decide +kernel
theorem dL_law_816 : decode cL_law 816 = .ok (.aload_n 0, 1) := by decide +kernel
theorem dL_law_817 : decode cL_law 817 = .ok (.iload_n 3, 1) := by decide +kernel
theorem dL_law_818 : decode cL_law 818 = .ok (.iconst 1, 1) := by decide +kernel
theorem dL_law_819 : decode cL_law 819 = .ok (.iadd, 1) := by decide +kernel
theorem dL_law_820 : decode cL_law 820 = .ok (.iaload, 1) := by decide +kernel
theorem dL_law_821 : decode cL_law 821 = .ok (.aload_n 0, 1) := by decide +kernel
theorem dL_law_822 : decode cL_law 822 = .ok (.iload_n 3, 1) := by decide +kernel
theorem dL_law_823 : decode cL_law 823 = .ok (.iconst 2, 1) := by decide +kernel
theorem dL_law_824 : decode cL_law 824 = .ok (.iadd, 1) := by decide +kernel
theorem dL_law_825 : decode cL_law 825 = .ok (.iaload, 1) := by decide +kernel
theorem dL_law_826 : decode cL_law 826 = .ok (.aload_n 0, 1) := by decide +kernel
theorem dL_law_827 : decode cL_law 827 = .ok (.iload_n 3, 1) := by decide +kernel
theorem dL_law_828 : decode cL_law 828 = .ok (.iconst 3, 1) := by decide +kernel
theorem dL_law_829 : decode cL_law 829 = .ok (.iadd, 1) := by decide +kernel
theorem dL_law_830 : decode cL_law 830 = .ok (.iaload, 1) := by decide +kernel
theorem dL_law_831 : decode cL_law 831 = .ok (.invokevirtual 106, 3) := by decide +kernel
theorem dL_law_834 : decode cL_law 834 = .ok (.if_icmp .eq 97, 3) := by decide +kernel
theorem dL_law_837 : decode cL_law 837 = .ok (.iconst 0, 1) := by decide +kernel
theorem dL_law_838 : decode cL_law 838 = .ok (.ireturn, 1) := by decide +kernel
theorem dL_law_839 : decode cL_law 839 = .ok (.aload_n 1, 1) := by decide +kernel
theorem dL_law_840 : decode cL_law 840 = .ok (.aload_n 0, 1) := by decide +kernel
theorem dL_law_841 : decode cL_law 841 = .ok (.iload_n 3, 1) := by decide +kernel
theorem dL_law_842 : decode cL_law 842 = .ok (.iconst 1, 1) := by decide +kernel
theorem dL_law_843 : decode cL_law 843 = .ok (.iadd, 1) := by decide +kernel
theorem dL_law_844 : decode cL_law 844 = .ok (.iaload, 1) := by decide +kernel
theorem dL_law_845 : decode cL_law 845 = .ok (.aload_n 0, 1) := by decide +kernel
theorem dL_law_846 : decode cL_law 846 = .ok (.iload_n 3, 1) := by decide +kernel
theorem dL_law_847 : decode cL_law 847 = .ok (.iconst 2, 1) := by decide +kernel
theorem dL_law_848 : decode cL_law 848 = .ok (.iadd, 1) := by decide +kernel
theorem dL_law_849 : decode cL_law 849 = .ok (.iaload, 1) := by decide +kernel
theorem dL_law_850 : decode cL_law 850 = .ok (.aload_n 0, 1) := by decide +kernel
theorem dL_law_851 : decode cL_law 851 = .ok (.iload_n 3, 1) := by decide +kernel
theorem dL_law_852 : decode cL_law 852 = .ok (.iconst 3, 1) := by decide +kernel
theorem dL_law_853 : decode cL_law 853 = .ok (.iadd, 1) := by decide +kernel
theorem dL_law_854 : decode cL_law 854 = .ok (.iaload, 1) := by decide +kernel
theorem dL_law_855 : decode cL_law 855 = .ok (.invokevirtual 107, 3) := by decide +kernel
theorem dL_law_858 : decode cL_law 858 = .ok (.aload_n 2, 1) := by decide +kernel
theorem dL_law_859 : decode cL_law 859 = .ok (.aload_n 0, 1) := by decide +kernel
theorem dL_law_860 : decode cL_law 860 = .ok (.iload_n 3, 1) := by decide +kernel
theorem dL_law_861 : decode cL_law 861 = .ok (.iconst 1, 1) := by decide +kernel
theorem dL_law_862 : decode cL_law 862 = .ok (.iadd, 1) := by decide +kernel
theorem dL_law_863 : decode cL_law 863 = .ok (.iaload, 1) := by decide +kernel
theorem dL_law_864 : decode cL_law 864 = .ok (.aload_n 0, 1) := by decide +kernel
theorem dL_law_865 : decode cL_law 865 = .ok (.iload_n 3, 1) := by decide +kernel
theorem dL_law_866 : decode cL_law 866 = .ok (.iconst 2, 1) := by decide +kernel
theorem dL_law_867 : decode cL_law 867 = .ok (.iadd, 1) := by decide +kernel
theorem dL_law_868 : decode cL_law 868 = .ok (.iaload, 1) := by decide +kernel
theorem dL_law_869 : decode cL_law 869 = .ok (.aload_n 0, 1) := by decide +kernel
theorem dL_law_870 : decode cL_law 870 = .ok (.iload_n 3, 1) := by decide +kernel
theorem dL_law_871 : decode cL_law 871 = .ok (.iconst 3, 1) := by decide +kernel
theorem dL_law_872 : decode cL_law 872 = .ok (.iadd, 1) := by decide +kernel
theorem dL_law_873 : decode cL_law 873 = .ok (.iaload, 1) := by decide +kernel
theorem dL_law_874 : decode cL_law 874 = .ok (.invokevirtual 110, 3) := by decide +kernel
theorem dL_law_877 : decode cL_law 877 = .ok (.if_icmp .eq 54, 3) := by decide +kernel
theorem dL_law_880 : decode cL_law 880 = .ok (.iconst 0, 1) := by decide +kernel
theorem dL_law_881 : decode cL_law 881 = .ok (.ireturn, 1) := by decide +kernel
theorem dL_law_882 : decode cL_law 882 = .ok (.aload_n 1, 1) := by decide +kernel
theorem dL_law_883 : decode cL_law 883 = .ok (.invokevirtual 111, 3) := by decide +kernel
theorem dL_law_886 : decode cL_law 886 = .ok (.aload_n 2, 1) := by decide +kernel
theorem dL_law_887 : decode cL_law 887 = .ok (.invokevirtual 115, 3) := by decide +kernel
theorem dL_law_890 : decode cL_law 890 = .ok (.if_icmp .eq 41, 3) := by decide +kernel
theorem dL_law_893 : decode cL_law 893 = .ok (.iconst 0, 1) := by decide +kernel
theorem dL_law_894 : decode cL_law 894 = .ok (.ireturn, 1) := by decide +kernel
theorem dL_law_895 : decode cL_law 895 = .ok (.aload_n 1, 1) := by decide +kernel
theorem dL_law_896 : decode cL_law 896 = .ok (.aload_n 0, 1) := by decide +kernel
theorem dL_law_897 : decode cL_law 897 = .ok (.iload_n 3, 1) := by decide +kernel
theorem dL_law_898 : decode cL_law 898 = .ok (.iconst 1, 1) := by decide +kernel
theorem dL_law_899 : decode cL_law 899 = .ok (.iadd, 1) := by decide +kernel
theorem dL_law_900 : decode cL_law 900 = .ok (.iaload, 1) := by decide +kernel
theorem dL_law_901 : decode cL_law 901 = .ok (.invokevirtual 116, 3) := by decide +kernel
theorem dL_law_904 : decode cL_law 904 = .ok (.aload_n 2, 1) := by decide +kernel
theorem dL_law_905 : decode cL_law 905 = .ok (.aload_n 0, 1) := by decide +kernel
theorem dL_law_906 : decode cL_law 906 = .ok (.iload_n 3, 1) := by decide +kernel
theorem dL_law_907 : decode cL_law 907 = .ok (.iconst 1, 1) := by decide +kernel
theorem dL_law_908 : decode cL_law 908 = .ok (.iadd, 1) := by decide +kernel
theorem dL_law_909 : decode cL_law 909 = .ok (.iaload, 1) := by decide +kernel
theorem dL_law_910 : decode cL_law 910 = .ok (.invokevirtual 119, 3) := by decide +kernel
theorem dL_law_913 : decode cL_law 913 = .ok (.if_icmp .eq 18, 3) := by decide +kernel
theorem dL_law_916 : decode cL_law 916 = .ok (.iconst 0, 1) := by decide +kernel
theorem dL_law_917 : decode cL_law 917 = .ok (.ireturn, 1) := by decide +kernel
theorem dL_law_918 : decode cL_law 918 = .ok (.aload_n 1, 1) := by decide +kernel
theorem dL_law_919 : decode cL_law 919 = .ok (.invokevirtual 120, 3) := by decide +kernel
theorem dL_law_922 : decode cL_law 922 = .ok (.aload_n 2, 1) := by decide +kernel
theorem dL_law_923 : decode cL_law 923 = .ok (.invokevirtual 123, 3) := by decide +kernel
theorem dL_law_926 : decode cL_law 926 = .ok (.if_icmp .eq 5, 3) := by decide +kernel
theorem dL_law_929 : decode cL_law 929 = .ok (.iconst 0, 1) := by decide +kernel
theorem dL_law_930 : decode cL_law 930 = .ok (.ireturn, 1) := by decide +kernel
theorem dL_law_931 : decode cL_law 931 = .ok (.iinc 3 6, 3) := by decide +kernel
theorem dL_law_934 : decode cL_law 934 = .ok (.goto (-916), 3) := by decide +kernel
theorem dL_law_937 : decode cL_law 937 = .ok (.iconst 1, 1) := by decide +kernel
theorem dL_law_938 : decode cL_law 938 = .ok (.ireturn, 1) := by decide +kernel
end
section
/-! BASE: a fixed-shape world over mathematical integers, and the kit's rows restated over it.
A cell's number is its place in the shape list S; ad gives its address; the state sg gives, for a cell and a place, an integer; the machine holds it cut to 32 or 64 bits. -/
def w32 (a : Int) : Int := (Int32.ofInt a).toInt
def w64 (a : Int) : Int := (Int64.ofInt a).toInt
abbrev mI (a : Int) : Value := .int (Int32.ofInt a)
abbrev mL (a : Int) : Value := .long (Int64.ofInt a)
def ix (a : Int) : Nat := (w32 a).toNat
abbrev inb (a : Int) (n : Nat) : Prop := 0 ≤ w32 a ∧ w32 a < (n : Int)
abbrev St : Type := Nat → Nat → Int
def put (sg : St) (c j : Nat) (v : Int) : St := fun c2 j2 => if c2 = c ∧ j2 = j then v else sg c2 j2
def gd {α : Type} (q : Prop) [Decidable q] (x : Option α) : Option α := if q then x else none
theorem gd_some {α : Type} {q : Prop} [Decidable q] {x : Option α} {r : α} (h : gd q x = some r) : q ∧ x = some r := by
  unfold gd at h
  split at h
  · exact ⟨by assumption, h⟩
  · cases h
theorem ite_yes {α : Type} {q : Prop} [Decidable q] {x y : Option α} {r : α} (hq : q) (h : (if q then x else y) = some r) : x = some r := by rwa [if_pos hq] at h
theorem ite_no {α : Type} {q : Prop} [Decidable q] {x y : Option α} {r : α} (hq : ¬ q) (h : (if q then x else y) = some r) : y = some r := by rwa [if_neg hq] at h
theorem bd_some {α β : Type} {x : Option α} {f : α → Option β} {r : β} (h : x.bind f = some r) : ∃ a, x = some a ∧ f a = some r := by
  cases x with
  | none => cases h
  | some a => exact ⟨a, rfl, h⟩
abbrev Shp : Type := (Nat × Nat × (Nat ⊕ (Nat → Nat))) ⊕ (Nat × List (Nat ⊕ Nat))
def fv (ad : Nat → Nat) (k : Nat ⊕ Nat) (v : Int) : Value := match k with
  | .inr t => .ref (ad t)
  | .inl 0 => mI v
  | .inl 1 => mL v
  | .inl _ => .ref (ad v.toNat)
def ce (cy : Nat → ClassId) (ad : Nat → Nat) (q : Shp) (f : Nat → Int) : va_E := match q with
  | .inl (t, n, .inl 0) => .inl (cy t, n, .inl (fun j => Int32.ofInt (f j)))
  | .inl (t, n, .inl _) => .inl (cy t, n, .inr (.inl (fun j => Int64.ofInt (f j))))
  | .inl (t, n, .inr g) => .inl (cy t, n, .inr (.inr (.inr (.inr (fun j => some (ad (g j)))))))
  | .inr (ci, ks) => .inr (ci, ks.mapIdx (fun j k => fv ad k (f j)))
def wd (S : List Shp) (cy : Nat → ClassId) (ad : Nat → Nat) (sg : St) : va_W := S.mapIdx (fun c q => (ad c, ce cy ad q (sg c)))
def aw (S : List Shp) (ad : Nat → Nat) : Nat → Prop := fun q => ∃ k, k < S.length ∧ q = ad k
def tyl (cy : Nat → ClassId) : List (ClassId × FieldType) := [(cy 0, .int), (cy 1, .long), (cy 2, .boolean), (cy 3, .byte), (cy 4, .object "FairHall$Fraction"), (cy 5, .array .int), (cy 6, .array .long)]
/-- addresses apart -/
def apart (S : List Shp) (ad : Nat → Nat) : Prop := ∀ i j, i < S.length → j < S.length → ad i = ad j → i = j
theorem wd_at {S : List Shp} {cy : Nat → ClassId} {ad : Nat → Nat} {sg : St} {c : Nat} {q : Shp} (h : S[c]? = some q) : (wd S cy ad sg)[c]? = some (ad c, ce cy ad q (sg c)) := by
  unfold wd
  rw [List.getElem?_mapIdx, h]
  rfl
theorem wd_D {S : List Shp} {cy : Nat → ClassId} {ad : Nat → Nat} (sg : St) {A : Nat → Prop} (h : apart S ad) (hA : ∀ k, k < S.length → A (ad k)) : va_D A (wd S cy ad sg) := by
  have key : ∀ (k : Nat) (q : Nat × va_E), (wd S cy ad sg)[k]? = some q → k < S.length ∧ q.1 = ad k := by
    intro k q hq
    unfold wd at hq
    rw [List.getElem?_mapIdx] at hq
    cases hs : S[k]? with
    | none => rw [hs] at hq; cases hq
    | some z =>
      rw [hs] at hq
      have := (List.getElem?_eq_some_iff.mp hs).1
      cases hq
      exact ⟨this, rfl⟩
  refine ⟨fun i j p q hp hq e => ?_, fun k q hq => ?_⟩
  · obtain ⟨a1, a2⟩ := key i p hp
    obtain ⟨b1, b2⟩ := key j q hq
    exact h i j a1 b1 (by rw [← a2, ← b2]; exact e)
  · obtain ⟨a1, a2⟩ := key k q hq
    rw [a2]
    exact hA k a1
theorem wd_set {S : List Shp} {cy : Nat → ClassId} {ad : Nat → Nat} {sg sg2 : St} {c : Nat} {q : Shp} {e : va_E} (h : S[c]? = some q) (he : ce cy ad q (sg2 c) = e) (ho : ∀ c2, c2 ≠ c → sg2 c2 = sg c2) : (wd S cy ad sg).set c (ad c, e) = wd S cy ad sg2 := by
  apply List.ext_getElem?
  intro i
  unfold wd
  rw [List.getElem?_set, List.getElem?_mapIdx, List.getElem?_mapIdx]
  by_cases hi : c = i
  · subst hi
    have hl := (List.getElem?_eq_some_iff.mp h).1
    simp [hl]
    rw [(List.getElem?_eq_some_iff.mp h).2, he]
  · simp only [hi, if_false]
    rw [ho i (fun q => hi q.symm)]
theorem put_same (sg : St) (c j : Nat) (v : Int) : put sg c j v c j = v := by simp [put]
theorem put_other (sg : St) (c j : Nat) (v : Int) {c2 : Nat} (h : c2 ≠ c) : put sg c j v c2 = sg c2 := by funext j2; simp [put, h]
theorem ofInt_w32 (a : Int) : Int32.ofInt (w32 a) = Int32.ofInt a := by unfold w32; exact Int32.ofInt_toInt _
theorem ofInt_w64 (a : Int) : Int64.ofInt (w64 a) = Int64.ofInt a := by unfold w64; exact Int64.ofInt_toInt _
theorem lt_w {a b : Int} : Int32.ofInt a < Int32.ofInt b ↔ w32 a < w32 b := Int32.lt_iff_toInt_lt
theorem le_w {a b : Int} : Int32.ofInt a ≤ Int32.ofInt b ↔ w32 a ≤ w32 b := Int32.le_iff_toInt_le
theorem eq_w {a b : Int} : Int32.ofInt a = Int32.ofInt b ↔ w32 a = w32 b := Int32.toInt_inj.symm
theorem ltL_w {a b : Int} : Int64.ofInt a < Int64.ofInt b ↔ w64 a < w64 b := Int64.lt_iff_toInt_lt
theorem leL_w {a b : Int} : Int64.ofInt a ≤ Int64.ofInt b ↔ w64 a ≤ w64 b := Int64.le_iff_toInt_le
theorem eqL_w {a b : Int} : Int64.ofInt a = Int64.ofInt b ↔ w64 a = w64 b := Int64.toInt_inj.symm
theorem w32_0 : w32 0 = 0 := by decide
theorem inb_vp {a : Int} {n : Nat} (h : inb a n) : vp_in (Int32.ofInt a) n := vp_in_iff.mpr h
theorem ix_eq (a : Int) : (Int32.ofInt a).toNatClampNeg = ix a := rfl
def andI (a b : Int) : Int := (Int32.ofInt a &&& Int32.ofInt b).toInt
def orI (a b : Int) : Int := (Int32.ofInt a ||| Int32.ofInt b).toInt
def xorI (a b : Int) : Int := (Int32.ofInt a ^^^ Int32.ofInt b).toInt
def shlI (a b : Int) : Int := (Int32.ofInt a <<< (Int32.ofInt b &&& 31)).toInt
def shrI (a b : Int) : Int := (Int32.ofInt a >>> (Int32.ofInt b &&& 31)).toInt
def ushrI (a b : Int) : Int := ((Int32.ofInt a).toUInt32 >>> ((Int32.ofInt b).toUInt32 &&& Int32.toUInt32 31)).toInt32.toInt
def xorL (a b : Int) : Int := (Int64.ofInt a ^^^ Int64.ofInt b).toInt
def divI (a b : Int) : Int := (Int32.ofInt a / Int32.ofInt b).toInt
def remI (a b : Int) : Int := (Int32.ofInt a - Int32.ofInt a / Int32.ofInt b * Int32.ofInt b).toInt
def divL (a b : Int) : Int := (Int64.ofInt a / Int64.ofInt b).toInt
def remL (a b : Int) : Int := (Int64.ofInt a - Int64.ofInt a / Int64.ofInt b * Int64.ofInt b).toInt
def w8 (a : Int) : Int := (Int32.ofInt a).toInt8.toInt
def nz (a : Int) : Int := (vp_nar .boolean (Int32.ofInt a)).toInt
theorem i2l_w (a : Int) : (Int32.ofInt a).toInt64 = Int64.ofInt (w32 a) := by
  apply Int64.toInt_inj.mp
  rw [Int32.toInt_toInt64]
  unfold w32
  have h1 := Int32.le_toInt (Int32.ofInt a)
  have h2 := Int32.toInt_lt (Int32.ofInt a)
  rw [Int64.toInt_ofInt_of_le (by omega) (by omega)]
theorem i2b_w (a : Int) : (Int32.ofInt a).toInt8.toInt32 = Int32.ofInt (w8 a) := by
  apply Int32.toInt_inj.mp
  rw [Int8.toInt_toInt32]
  unfold w8
  have h1 := Int8.le_toInt (Int32.ofInt a).toInt8
  have h2 := Int8.toInt_lt (Int32.ofInt a).toInt8
  rw [Int32.toInt_ofInt_of_le (by omega) (by omega)]
theorem eq_w0 {a : Int} : Int32.ofInt a = 0 ↔ w32 a = 0 := by
  constructor
  · intro h; unfold w32; rw [h]; rfl
  · intro h; exact Int32.toInt_inj.mp h
theorem lt_w0 {a : Int} : Int32.ofInt a < 0 ↔ w32 a < 0 := Int32.lt_iff_toInt_lt
theorem ge_w0 {a : Int} : 0 ≤ Int32.ofInt a ↔ 0 ≤ w32 a := Int32.le_iff_toInt_le
theorem gt_w0 {a : Int} : 0 < Int32.ofInt a ↔ 0 < w32 a := Int32.lt_iff_toInt_lt
theorem le_w0 {a : Int} : Int32.ofInt a ≤ 0 ↔ w32 a ≤ 0 := Int32.le_iff_toInt_le
theorem lg_three (x y : Int64) : (x < y ∧ lg_cmp x y = -1) ∨ (x = y ∧ lg_cmp x y = 0) ∨ (y < x ∧ lg_cmp x y = 1) := by
  unfold lg_cmp
  by_cases h : x > y
  · right; right; exact ⟨h, by rw [if_pos h]⟩
  · by_cases e : x = y
    · right; left; exact ⟨e, by rw [if_neg h, if_pos e]⟩
    · left
      refine ⟨?_, by rw [if_neg h, if_neg e]⟩
      rw [Int64.lt_iff_toInt_lt]
      have h' : ¬ y.toInt < x.toInt := fun q => h (Int64.lt_iff_toInt_lt.mpr q)
      have e' : ¬ x.toInt = y.toInt := fun q => e (Int64.toInt_inj.mp q)
      omega
theorem lgc_eq {a b : Int} : lg_cmp (Int64.ofInt a) (Int64.ofInt b) = 0 ↔ w64 a = w64 b := by
  unfold w64
  rcases lg_three (Int64.ofInt a) (Int64.ofInt b) with ⟨h, e⟩ | ⟨h, e⟩ | ⟨h, e⟩ <;> rw [e]
  · have := Int64.lt_iff_toInt_lt.mp h
    exact ⟨fun q => absurd q (by decide), fun q => by omega⟩
  · exact ⟨fun _ => by rw [h], fun _ => rfl⟩
  · have := Int64.lt_iff_toInt_lt.mp h
    exact ⟨fun q => absurd q (by decide), fun q => by omega⟩
theorem lgc_lt {a b : Int} : lg_cmp (Int64.ofInt a) (Int64.ofInt b) < 0 ↔ w64 a < w64 b := by
  unfold w64
  rcases lg_three (Int64.ofInt a) (Int64.ofInt b) with ⟨h, e⟩ | ⟨h, e⟩ | ⟨h, e⟩ <;> rw [e]
  · exact ⟨fun _ => Int64.lt_iff_toInt_lt.mp h, fun _ => by decide⟩
  · exact ⟨fun q => absurd q (by decide), fun q => by rw [h] at q; omega⟩
  · have := Int64.lt_iff_toInt_lt.mp h
    exact ⟨fun q => absurd q (by decide), fun q => by omega⟩
theorem lgc_gt {a b : Int} : 0 < lg_cmp (Int64.ofInt a) (Int64.ofInt b) ↔ w64 b < w64 a := by
  unfold w64
  rcases lg_three (Int64.ofInt a) (Int64.ofInt b) with ⟨h, e⟩ | ⟨h, e⟩ | ⟨h, e⟩ <;> rw [e]
  · have := Int64.lt_iff_toInt_lt.mp h
    exact ⟨fun q => absurd q (by decide), fun q => by omega⟩
  · exact ⟨fun q => absurd q (by decide), fun q => by rw [h] at q; omega⟩
  · exact ⟨fun _ => Int64.lt_iff_toInt_lt.mp h, fun _ => by decide⟩
theorem lgc_ge {a b : Int} : 0 ≤ lg_cmp (Int64.ofInt a) (Int64.ofInt b) ↔ w64 b ≤ w64 a := by
  unfold w64
  rcases lg_three (Int64.ofInt a) (Int64.ofInt b) with ⟨h, e⟩ | ⟨h, e⟩ | ⟨h, e⟩ <;> rw [e]
  · have := Int64.lt_iff_toInt_lt.mp h
    exact ⟨fun q => absurd q (by decide), fun q => by omega⟩
  · exact ⟨fun _ => by rw [h]; omega, fun _ => by decide⟩
  · have := Int64.lt_iff_toInt_lt.mp h
    exact ⟨fun _ => by omega, fun _ => by decide⟩
theorem lgc_le {a b : Int} : lg_cmp (Int64.ofInt a) (Int64.ofInt b) ≤ 0 ↔ w64 a ≤ w64 b := by
  unfold w64
  rcases lg_three (Int64.ofInt a) (Int64.ofInt b) with ⟨h, e⟩ | ⟨h, e⟩ | ⟨h, e⟩ <;> rw [e]
  · have := Int64.lt_iff_toInt_lt.mp h
    exact ⟨fun _ => by omega, fun _ => by decide⟩
  · exact ⟨fun _ => by rw [h]; omega, fun _ => by decide⟩
  · have := Int64.lt_iff_toInt_lt.mp h
    exact ⟨fun q => absurd q (by decide), fun q => by omega⟩
theorem ce_i (cy : Nat → ClassId) (ad : Nat → Nat) (t n : Nat) (sg : St) (c j : Nat) (v : Int) : ce cy ad (.inl (t, n, .inl 0)) (put sg c j v c) = .inl (cy t, n, .inl (upd (fun j => Int32.ofInt (sg c j)) j (Int32.ofInt v))) := by
  show (Sum.inl (cy t, n, Sum.inl _) : va_E) = _
  congr 4
  funext j2
  simp only [put, upd, true_and]
  split <;> rfl
theorem ce_l (cy : Nat → ClassId) (ad : Nat → Nat) (t n : Nat) (sg : St) (c j : Nat) (v : Int) : ce cy ad (.inl (t, n, .inl 1)) (put sg c j v c) = .inl (cy t, n, .inr (.inl (vp_updL (fun j => Int64.ofInt (sg c j)) j (Int64.ofInt v)))) := by
  show (Sum.inl (cy t, n, Sum.inr (Sum.inl _)) : va_E) = _
  congr 5
  funext j2
  simp only [put, vp_updL, true_and]
  split <;> rfl
theorem ce_z (cy : Nat → ClassId) (ad : Nat → Nat) (t n : Nat) (sg : St) (c j : Nat) (v : Int) : ce cy ad (.inl (t, n, .inl 0)) (put sg c j (nz v) c) = .inl (cy t, n, .inl (upd (fun j => Int32.ofInt (sg c j)) j (vp_nar .boolean (Int32.ofInt v)))) := by
  rw [ce_i, nz, Int32.ofInt_toInt]
theorem ce_b (cy : Nat → ClassId) (ad : Nat → Nat) (t n : Nat) (sg : St) (c j : Nat) (v : Int) : ce cy ad (.inl (t, n, .inl 0)) (put sg c j (w8 v) c) = .inl (cy t, n, .inl (upd (fun j => Int32.ofInt (sg c j)) j (vp_nar .byte (Int32.ofInt v)))) := by
  rw [ce_i, vp_nar_byte, i2b_w]
theorem ce_o (cy : Nat → ClassId) (ad : Nat → Nat) (ci : Nat) (ks : List (Nat ⊕ Nat)) (sg : St) (c j : Nat) (k : Nat ⊕ Nat) (v : Int) (hk : ks[j]? = some k) : ce cy ad (.inr (ci, ks)) (put sg c j v c) = .inr (ci, (ks.mapIdx (fun j k => fv ad k (sg c j))).set j (fv ad k v)) := by
  show (Sum.inr (ci, ks.mapIdx _) : va_E) = _
  congr 2
  apply List.ext_getElem?
  intro i
  rw [List.getElem?_set, List.getElem?_mapIdx, List.getElem?_mapIdx]
  by_cases hi : j = i
  · subst hi
    rw [hk]
    have hl := (List.getElem?_eq_some_iff.mp hk).1
    simp [hl, put]
  · have hi2 : ¬ i = j := fun q => hi q.symm
    simp [hi, hi2, put]
end
section
/-! ROWS: the machine at a pc with a list of locals, a stack and a state of the world -/
def CX (p : Program) (s : State) (m : MethodId) (args : Array Value) (meth : Method) (c : Code) (cc : ByteArray) (own : String) (nL : Nat) (ret : Option FieldType) (D : va_G) (S : List Shp) (cy : Nat → ClassId) (ad : Nat → Nat) (A : Nat → Prop) : Prop :=
  p.tables.exec = Jvm.exec ∧ c.code = cc ∧ c.maxLocals = nL ∧ s.vm.findClass own = some m.cls ∧ (∀ w ∈ gt, w.before args s = true) ∧ va_K D vwCl (tyl cy) s ∧ apart S ad ∧ (∀ k, k < S.length → A (ad k)) ∧ meth.sig.returnType = ret ∧ meth.locks = false
def GG (p : Program) (l : Launch) (e : Env) (R : Room) (s : State) (m : MethodId) (args : Array Value) (below : List Frame) (meth : Method) (c : Code) (Q : State → Prop) (D : va_G) (S : List Shp) (cy : Nat → ClassId) (ad : Nat → Nat) (A : Nat → Prop) (nL : Nat) (pc : Nat) (lv : List (Nat × Value)) (st : List Value) (sg : St) : Prop :=
  ∀ (H : Heap) (locs : List Loc) (ls : Array Slot), va_P D vwCl (wd S cy ad sg) H → va_S A s.heap H locs → lv_has ls nL lv → W p l e R s m args below meth c H locs 0 0 Q (F0 m pc ls st)
/-- a field of class number ci, place j, as the pool entry idx of own spells it -/
def FL (own : String) (idx ci j : Nat) : Prop := ∃ (C : String) (T : u_T) (N : Nat), vwCl[ci]? = some (C, T, N) ∧ j < N ∧ Cond.fieldLink own idx (T j).1 (T j).2.1 (T j).2.2.1 ∈ gt ∧ ∀ w ∈ u_ws C T N, w ∈ gt
def FP (own : String) (idx ci j : Nat) (ty : FieldType) : Prop := ∃ (C : String) (T : u_T) (N : Nat) (ty0 : Nat → FieldType), vwCl[ci]? = some (C, T, N) ∧ j < N ∧ Cond.fieldLink own idx (T j).1 (T j).2.1 (T j).2.2.1 ∈ gt ∧ (∀ w ∈ u_ws C T N, w ∈ gt) ∧ (∀ k, k < N → parseFieldDescriptor (T k).2.2.1 = some (ty0 k)) ∧ (∀ a, a < N → ∀ b, b < N → a ≠ b → (T a).2.1 ≠ (T b).2.1) ∧ (T j).2.2.2 = false ∧ parseFieldDescriptor (T j).2.2.1 = some ty
/-- the kind of place j of cell c, an object of class ci -/
def fk (S : List Shp) (c j : Nat) : Option (Nat × (Nat ⊕ Nat)) := match S[c]? with
  | some (.inr (ci, ks)) => ks[j]?.map (fun k => (ci, k))
  | _ => none
theorem fk_spec {S : List Shp} {c j ci : Nat} {k : Nat ⊕ Nat} (h : fk S c j = some (ci, k)) : ∃ ks : List (Nat ⊕ Nat), S[c]? = some (.inr (ci, ks)) ∧ ks[j]? = some k := by
  unfold fk at h
  split at h
  · rename_i ci2 ks hs
    cases hk : ks[j]? with
    | none => rw [hk] at h; cases h
    | some z =>
      rw [hk] at h
      cases h
      exact ⟨ks, hs, hk⟩
  · cases h
section RR
variable {p : Program} {l : Launch} {e : Env} {R : Room} {s : State} {m : MethodId} {args : Array Value} {below : List Frame} {meth : Method} {c : Code} {Q : State → Prop} {D : va_G} {S : List Shp} {cy : Nat → ClassId} {ad : Nat → Nat} {A : Nat → Prop} {nL pc : Nat} {lv lv2 : List (Nat × Value)} {st : List Value} {sg : St} {cc : ByteArray} {own : String} {ret : Option FieldType} {a b : Int}
theorem r_perm (ks : List Nat) (h : lv_pick lv ks = lv2) (k : GG p l e R s m args below meth c Q D S cy ad A nL pc lv2 st sg) : GG p l e R s m args below meth c Q D S cy ad A nL pc lv st sg := fun H locs ls hP hS hl => k H locs ls hP hS (lv_sub hl ks h)
theorem r_iconst (X : CX p s m args meth c cc own nL ret D S cy ad A) {n : Int} (hdg : decode cc pc = .ok (.iconst n, 1)) (k : GG p l e R s m args below meth c Q D S cy ad A nL (pc + 1) lv (mI n :: st) sg) : GG p l e R s m args below meth c Q D S cy ad A nL pc lv st sg := fun H locs ls hP hS hl => lv_iconst X.1 X.2.1 hdg rfl (k H locs ls hP hS hl)
theorem r_bipush (X : CX p s m args meth c cc own nL ret D S cy ad A) {n : Int} (hdg : decode cc pc = .ok (.bipush n, 2)) (hv : (Int8.ofInt n).toInt32 = Int32.ofInt n) (k : GG p l e R s m args below meth c Q D S cy ad A nL (pc + 2) lv (mI n :: st) sg) : GG p l e R s m args below meth c Q D S cy ad A nL pc lv st sg := fun H locs ls hP hS hl => lv_bipush X.1 X.2.1 hdg hv (k H locs ls hP hS hl)
theorem r_sipush (X : CX p s m args meth c cc own nL ret D S cy ad A) {n : Int} (hdg : decode cc pc = .ok (.sipush n, 3)) (hv : (Int16.ofInt n).toInt32 = Int32.ofInt n) (k : GG p l e R s m args below meth c Q D S cy ad A nL (pc + 3) lv (mI n :: st) sg) : GG p l e R s m args below meth c Q D S cy ad A nL pc lv st sg := fun H locs ls hP hS hl => lv_sipush X.1 X.2.1 hdg hv (k H locs ls hP hS hl)
theorem r_lconst (X : CX p s m args meth c cc own nL ret D S cy ad A) {n : Fin 2} {v : Int} (hdg : decode cc pc = .ok (.lconst n, 1)) (hv : Int64.ofNat (n : Nat) = Int64.ofInt v) (k : GG p l e R s m args below meth c Q D S cy ad A nL (pc + 1) lv (mL v :: st) sg) : GG p l e R s m args below meth c Q D S cy ad A nL pc lv st sg := fun H locs ls hP hS hl => lv_lconst X.1 X.2.1 hdg hv (k H locs ls hP hS hl)
theorem r_iload_n (X : CX p s m args meth c cc own nL ret D S cy ad A) {k0 : Fin 4} {i : Nat} (q : Nat) (hdg : decode cc pc = .ok (.iload_n k0, 1)) (hi : (k0 : Nat) = i) (hq : lv[q]? = some (i, mI a)) (k : GG p l e R s m args below meth c Q D S cy ad A nL (pc + 1) lv (mI a :: st) sg) : GG p l e R s m args below meth c Q D S cy ad A nL pc lv st sg := fun H locs ls hP hS hl => lv_iload_n X.1 X.2.1 hdg hi (lv_at hl q hq) (k H locs ls hP hS hl)
theorem r_iload (X : CX p s m args meth c cc own nL ret D S cy ad A) {i : Nat} (q : Nat) (hdg : decode cc pc = .ok (.iload i, 2)) (hq : lv[q]? = some (i, mI a)) (k : GG p l e R s m args below meth c Q D S cy ad A nL (pc + 2) lv (mI a :: st) sg) : GG p l e R s m args below meth c Q D S cy ad A nL pc lv st sg := fun H locs ls hP hS hl => lv_iload X.1 X.2.1 hdg (lv_at hl q hq) (k H locs ls hP hS hl)
theorem r_lload_n (X : CX p s m args meth c cc own nL ret D S cy ad A) {k0 : Fin 4} {i : Nat} (q : Nat) (hdg : decode cc pc = .ok (.lload_n k0, 1)) (hi : (k0 : Nat) = i) (hq : lv[q]? = some (i, mL a)) (k : GG p l e R s m args below meth c Q D S cy ad A nL (pc + 1) lv (mL a :: st) sg) : GG p l e R s m args below meth c Q D S cy ad A nL pc lv st sg := fun H locs ls hP hS hl => lv_lload_n X.1 X.2.1 hdg hi (lv_at hl q hq) (k H locs ls hP hS hl)
theorem r_lload (X : CX p s m args meth c cc own nL ret D S cy ad A) {i : Nat} (q : Nat) (hdg : decode cc pc = .ok (.lload i, 2)) (hq : lv[q]? = some (i, mL a)) (k : GG p l e R s m args below meth c Q D S cy ad A nL (pc + 2) lv (mL a :: st) sg) : GG p l e R s m args below meth c Q D S cy ad A nL pc lv st sg := fun H locs ls hP hS hl => lv_lload X.1 X.2.1 hdg (lv_at hl q hq) (k H locs ls hP hS hl)
theorem r_aload_n (X : CX p s m args meth c cc own nL ret D S cy ad A) {k0 : Fin 4} {i x : Nat} (q : Nat) (hdg : decode cc pc = .ok (.aload_n k0, 1)) (hi : (k0 : Nat) = i) (hq : lv[q]? = some (i, .ref x)) (k : GG p l e R s m args below meth c Q D S cy ad A nL (pc + 1) lv (.ref x :: st) sg) : GG p l e R s m args below meth c Q D S cy ad A nL pc lv st sg := fun H locs ls hP hS hl => lv_aload_n X.1 X.2.1 hdg hi (lv_at hl q hq) (k H locs ls hP hS hl)
theorem r_aload (X : CX p s m args meth c cc own nL ret D S cy ad A) {i x : Nat} (q : Nat) (hdg : decode cc pc = .ok (.aload i, 2)) (hq : lv[q]? = some (i, .ref x)) (k : GG p l e R s m args below meth c Q D S cy ad A nL (pc + 2) lv (.ref x :: st) sg) : GG p l e R s m args below meth c Q D S cy ad A nL pc lv st sg := fun H locs ls hP hS hl => lv_aload X.1 X.2.1 hdg (lv_at hl q hq) (k H locs ls hP hS hl)
theorem r_istore_n (X : CX p s m args meth c cc own nL ret D S cy ad A) {k0 : Fin 4} {i : Nat} (hdg : decode cc pc = .ok (.istore_n k0, 1)) (hi : (k0 : Nat) = i) (hn : i < nL) (hl2 : (i, mI a) :: lv.filter (fun q => !(q.1 == i) && !(q.1 + 1 == i && q.2.category == 2)) = lv2) (k : GG p l e R s m args below meth c Q D S cy ad A nL (pc + 1) lv2 st sg) : GG p l e R s m args below meth c Q D S cy ad A nL pc lv (mI a :: st) sg := fun H locs ls hP hS hl => lv_istore_n X.1 X.2.1 hdg hi hl hn hl2 (fun ls hl => k H locs ls hP hS hl)
theorem r_istore (X : CX p s m args meth c cc own nL ret D S cy ad A) {i : Nat} (hdg : decode cc pc = .ok (.istore i, 2)) (hn : i < nL) (hl2 : (i, mI a) :: lv.filter (fun q => !(q.1 == i) && !(q.1 + 1 == i && q.2.category == 2)) = lv2) (k : GG p l e R s m args below meth c Q D S cy ad A nL (pc + 2) lv2 st sg) : GG p l e R s m args below meth c Q D S cy ad A nL pc lv (mI a :: st) sg := fun H locs ls hP hS hl => lv_istore X.1 X.2.1 hdg hl hn hl2 (fun ls hl => k H locs ls hP hS hl)
theorem r_lstore_n (X : CX p s m args meth c cc own nL ret D S cy ad A) {k0 : Fin 4} {i : Nat} (hdg : decode cc pc = .ok (.lstore_n k0, 1)) (hi : (k0 : Nat) = i) (hn : i + 1 < nL) (hl2 : (i, mL a) :: lv.filter (fun q => !(q.1 == i) && (!(q.1 == i + 1) && !(q.1 + 1 == i && q.2.category == 2))) = lv2) (k : GG p l e R s m args below meth c Q D S cy ad A nL (pc + 1) lv2 st sg) : GG p l e R s m args below meth c Q D S cy ad A nL pc lv (mL a :: st) sg := fun H locs ls hP hS hl => lv_lstore_n X.1 X.2.1 hdg hi hl hn hl2 (fun ls hl => k H locs ls hP hS hl)
theorem r_lstore (X : CX p s m args meth c cc own nL ret D S cy ad A) {i : Nat} (hdg : decode cc pc = .ok (.lstore i, 2)) (hn : i + 1 < nL) (hl2 : (i, mL a) :: lv.filter (fun q => !(q.1 == i) && (!(q.1 == i + 1) && !(q.1 + 1 == i && q.2.category == 2))) = lv2) (k : GG p l e R s m args below meth c Q D S cy ad A nL (pc + 2) lv2 st sg) : GG p l e R s m args below meth c Q D S cy ad A nL pc lv (mL a :: st) sg := fun H locs ls hP hS hl => lv_lstore X.1 X.2.1 hdg hl hn hl2 (fun ls hl => k H locs ls hP hS hl)
theorem r_astore_n (X : CX p s m args meth c cc own nL ret D S cy ad A) {k0 : Fin 4} {i x : Nat} (hdg : decode cc pc = .ok (.astore_n k0, 1)) (hi : (k0 : Nat) = i) (hn : i < nL) (hl2 : (i, .ref x) :: lv.filter (fun q => !(q.1 == i) && !(q.1 + 1 == i && q.2.category == 2)) = lv2) (k : GG p l e R s m args below meth c Q D S cy ad A nL (pc + 1) lv2 st sg) : GG p l e R s m args below meth c Q D S cy ad A nL pc lv (.ref x :: st) sg := fun H locs ls hP hS hl => lv_astore_n X.1 X.2.1 hdg hi hl hn hl2 (fun ls hl => k H locs ls hP hS hl)
theorem r_iinc (X : CX p s m args meth c cc own nL ret D S cy ad A) {i : Nat} {n : Int} (q : Nat) (hdg : decode cc pc = .ok (.iinc i n, 3)) (hq : lv[q]? = some (i, mI a)) (hn : i < nL) (hl2 : (i, mI (a + n)) :: lv.filter (fun q => !(q.1 == i) && !(q.1 + 1 == i && q.2.category == 2)) = lv2) (k : GG p l e R s m args below meth c Q D S cy ad A nL (pc + 3) lv2 st sg) : GG p l e R s m args below meth c Q D S cy ad A nL pc lv st sg := fun H locs ls hP hS hl => lv_iinc X.1 X.2.1 hdg hl hq (Int32.ofInt_add a n).symm hn hl2 (fun ls hl => k H locs ls hP hS hl)
theorem r_iadd (X : CX p s m args meth c cc own nL ret D S cy ad A) (hdg : decode cc pc = .ok (.iadd, 1)) (k : GG p l e R s m args below meth c Q D S cy ad A nL (pc + 1) lv (mI (a + b) :: st) sg) : GG p l e R s m args below meth c Q D S cy ad A nL pc lv (mI b :: mI a :: st) sg := fun H locs ls hP hS hl => lv_iadd X.1 X.2.1 hdg (by rw [← Int32.ofInt_add]; exact k H locs ls hP hS hl)
theorem r_isub (X : CX p s m args meth c cc own nL ret D S cy ad A) (hdg : decode cc pc = .ok (.isub, 1)) (k : GG p l e R s m args below meth c Q D S cy ad A nL (pc + 1) lv (mI (a - b) :: st) sg) : GG p l e R s m args below meth c Q D S cy ad A nL pc lv (mI b :: mI a :: st) sg := fun H locs ls hP hS hl => lv_isub X.1 X.2.1 hdg (by rw [← Int32.ofInt_sub]; exact k H locs ls hP hS hl)
theorem r_imul (X : CX p s m args meth c cc own nL ret D S cy ad A) (hdg : decode cc pc = .ok (.imul, 1)) (k : GG p l e R s m args below meth c Q D S cy ad A nL (pc + 1) lv (mI (a * b) :: st) sg) : GG p l e R s m args below meth c Q D S cy ad A nL pc lv (mI b :: mI a :: st) sg := fun H locs ls hP hS hl => lv_imul X.1 X.2.1 hdg (by rw [← Int32.ofInt_mul]; exact k H locs ls hP hS hl)
theorem r_ladd (X : CX p s m args meth c cc own nL ret D S cy ad A) (hdg : decode cc pc = .ok (.ladd, 1)) (k : GG p l e R s m args below meth c Q D S cy ad A nL (pc + 1) lv (mL (a + b) :: st) sg) : GG p l e R s m args below meth c Q D S cy ad A nL pc lv (mL b :: mL a :: st) sg := fun H locs ls hP hS hl => lv_ladd X.1 X.2.1 hdg (by rw [← Int64.ofInt_add]; exact k H locs ls hP hS hl)
theorem r_lsub (X : CX p s m args meth c cc own nL ret D S cy ad A) (hdg : decode cc pc = .ok (.lsub, 1)) (k : GG p l e R s m args below meth c Q D S cy ad A nL (pc + 1) lv (mL (a - b) :: st) sg) : GG p l e R s m args below meth c Q D S cy ad A nL pc lv (mL b :: mL a :: st) sg := fun H locs ls hP hS hl => lv_lsub X.1 X.2.1 hdg (by rw [← Int64.ofInt_sub]; exact k H locs ls hP hS hl)
theorem r_lmul (X : CX p s m args meth c cc own nL ret D S cy ad A) (hdg : decode cc pc = .ok (.lmul, 1)) (k : GG p l e R s m args below meth c Q D S cy ad A nL (pc + 1) lv (mL (a * b) :: st) sg) : GG p l e R s m args below meth c Q D S cy ad A nL pc lv (mL b :: mL a :: st) sg := fun H locs ls hP hS hl => lv_lmul X.1 X.2.1 hdg (by rw [← Int64.ofInt_mul]; exact k H locs ls hP hS hl)
theorem r_ineg (X : CX p s m args meth c cc own nL ret D S cy ad A) (hdg : decode cc pc = .ok (.ineg, 1)) (k : GG p l e R s m args below meth c Q D S cy ad A nL (pc + 1) lv (mI (-a) :: st) sg) : GG p l e R s m args below meth c Q D S cy ad A nL pc lv (mI a :: st) sg := fun H locs ls hP hS hl => lv_ineg X.1 X.2.1 hdg (by have h := k H locs ls hP hS hl; rw [show mI (-a) = .int (0 - Int32.ofInt a) by rw [mI, Int32.ofInt_neg]; simp] at h; first | exact h | (simp at h ⊢; exact h))
theorem r_lneg (X : CX p s m args meth c cc own nL ret D S cy ad A) (hdg : decode cc pc = .ok (.lneg, 1)) (k : GG p l e R s m args below meth c Q D S cy ad A nL (pc + 1) lv (mL (-a) :: st) sg) : GG p l e R s m args below meth c Q D S cy ad A nL pc lv (mL a :: st) sg := fun H locs ls hP hS hl => lv_lneg X.1 X.2.1 hdg (by have h := k H locs ls hP hS hl; rw [show mL (-a) = .long (0 - Int64.ofInt a) by rw [mL, Int64.ofInt_neg]; simp] at h; first | exact h | (simp at h ⊢; exact h))
theorem get_any (X : CX p s m args meth c cc own nL ret D S cy ad A) {idx c0 j ci : Nat} {kd : Nat ⊕ Nat} (hF : FL own idx ci j) (hk : fk S c0 j = some (ci, kd)) {H : Heap} {locs : List Loc} {ls : Array Slot} (hP : va_P D vwCl (wd S cy ad sg) H) (hdg : decode cc pc = .ok (.getfield idx, 3)) (k : W p l e R s m args below meth c H locs 0 0 Q (F0 m (pc + 3) ls (fv ad kd (sg c0 j) :: st))) : W p l e R s m args below meth c H locs 0 0 Q (F0 m pc ls (.ref (ad c0) :: st)) := by
  obtain ⟨C, T, N, h1, h2, h3, h4⟩ := hF
  obtain ⟨ks, g1, g2⟩ := fk_spec hk
  refine va_get (D := D) (ci := ci) (v := fv ad kd (sg c0 j)) (C := C) (T := T) (N := N) X.1 X.2.1 X.2.2.2.2.1 h4 X.2.2.2.1 X.2.2.2.2.2.1 hP c0 (wd_at g1) h1 j h2 (X.2.2.2.2.1 _ h3) (fun _ h9 => h9) ?_ hdg k
  rw [List.getElem?_mapIdx, g2]
  rfl
theorem put_any (X : CX p s m args meth c cc own nL ret D S cy ad A) {idx c0 j ci : Nat} {kd : Nat ⊕ Nat} {ty : FieldType} {vv : Value} {v : Int} (hF : FP own idx ci j ty) (hk : fk S c0 j = some (ci, kd)) (hn : narrow ty vv = vv) (hfit : fits ty vv = true) (hv : fv ad kd v = vv) {H : Heap} {locs : List Loc} {ls : Array Slot} (hP : va_P D vwCl (wd S cy ad sg) H) (hS : va_S A s.heap H locs) (hdg : decode cc pc = .ok (.putfield idx, 3)) (k : ∀ (H1 : Heap) (locs1 : List Loc), va_P D vwCl (wd S cy ad (put sg c0 j v)) H1 → va_S A s.heap H1 locs1 → W p l e R s m args below meth c H1 locs1 0 0 Q (F0 m (pc + 3) ls st)) : W p l e R s m args below meth c H locs 0 0 Q (F0 m pc ls (vv :: .ref (ad c0) :: st)) := by
  obtain ⟨C, T, N, ty0, h1, h2, h3, h4, h5, h6, h7, h8⟩ := hF
  obtain ⟨ks, g1, g2⟩ := fk_spec hk
  refine va_put (D := D) (ci := ci) (v := vv) (ty := ty) (C := C) (T := T) (N := N) X.1 X.2.1 X.2.2.2.2.1 h4 ty0 h5 h6 X.2.2.2.1 X.2.2.2.2.2.1 hP (wd_D sg X.2.2.2.2.2.2.1 X.2.2.2.2.2.2.2.1) hS c0 (wd_at g1) h1 j h2 (X.2.2.2.2.1 _ h3) (fun _ h9 => h9) h7 h8 hn hfit ?_ hdg (fun H1 locs1 hP1 _ hS1 => k H1 locs1 ?_ hS1)
  · rw [List.length_mapIdx]
    exact (List.getElem?_eq_some_iff.mp g2).1
  · rw [← wd_set g1 (e := .inr (ci, (ks.mapIdx (fun j k => fv ad k (sg c0 j))).set j vv)) (by rw [ce_o cy ad ci ks sg c0 j kd v g2, hv]) (fun c2 h => put_other sg c0 j v h)]
    exact hP1
theorem r_iand (X : CX p s m args meth c cc own nL ret D S cy ad A) (hdg : decode cc pc = .ok (.iand, 1)) (k : GG p l e R s m args below meth c Q D S cy ad A nL (pc + 1) lv (mI (andI a b) :: st) sg) : GG p l e R s m args below meth c Q D S cy ad A nL pc lv (mI b :: mI a :: st) sg := fun H locs ls hP hS hl => lv_iand X.1 X.2.1 hdg (by have h := k H locs ls hP hS hl; rwa [show mI (andI a b) = _ by unfold mI andI; rw [Int32.ofInt_toInt]] at h)
theorem r_ior (X : CX p s m args meth c cc own nL ret D S cy ad A) (hdg : decode cc pc = .ok (.ior, 1)) (k : GG p l e R s m args below meth c Q D S cy ad A nL (pc + 1) lv (mI (orI a b) :: st) sg) : GG p l e R s m args below meth c Q D S cy ad A nL pc lv (mI b :: mI a :: st) sg := fun H locs ls hP hS hl => lv_ior X.1 X.2.1 hdg (by have h := k H locs ls hP hS hl; rwa [show mI (orI a b) = _ by unfold mI orI; rw [Int32.ofInt_toInt]] at h)
theorem r_ixor (X : CX p s m args meth c cc own nL ret D S cy ad A) (hdg : decode cc pc = .ok (.ixor, 1)) (k : GG p l e R s m args below meth c Q D S cy ad A nL (pc + 1) lv (mI (xorI a b) :: st) sg) : GG p l e R s m args below meth c Q D S cy ad A nL pc lv (mI b :: mI a :: st) sg := fun H locs ls hP hS hl => lv_ixor X.1 X.2.1 hdg (by have h := k H locs ls hP hS hl; rwa [show mI (xorI a b) = _ by unfold mI xorI; rw [Int32.ofInt_toInt]] at h)
theorem r_ishl (X : CX p s m args meth c cc own nL ret D S cy ad A) (hdg : decode cc pc = .ok (.ishl, 1)) (k : GG p l e R s m args below meth c Q D S cy ad A nL (pc + 1) lv (mI (shlI a b) :: st) sg) : GG p l e R s m args below meth c Q D S cy ad A nL pc lv (mI b :: mI a :: st) sg := fun H locs ls hP hS hl => lv_ishl X.1 X.2.1 hdg (by have h := k H locs ls hP hS hl; rwa [show mI (shlI a b) = _ by unfold mI shlI; rw [Int32.ofInt_toInt]] at h)
theorem r_ishr (X : CX p s m args meth c cc own nL ret D S cy ad A) (hdg : decode cc pc = .ok (.ishr, 1)) (k : GG p l e R s m args below meth c Q D S cy ad A nL (pc + 1) lv (mI (shrI a b) :: st) sg) : GG p l e R s m args below meth c Q D S cy ad A nL pc lv (mI b :: mI a :: st) sg := fun H locs ls hP hS hl => lv_ishr X.1 X.2.1 hdg (by have h := k H locs ls hP hS hl; rwa [show mI (shrI a b) = _ by unfold mI shrI; rw [Int32.ofInt_toInt]] at h)
theorem r_lxor (X : CX p s m args meth c cc own nL ret D S cy ad A) (hdg : decode cc pc = .ok (.lxor, 1)) (k : GG p l e R s m args below meth c Q D S cy ad A nL (pc + 1) lv (mL (xorL a b) :: st) sg) : GG p l e R s m args below meth c Q D S cy ad A nL pc lv (mL b :: mL a :: st) sg := fun H locs ls hP hS hl => lv_lxor X.1 X.2.1 hdg (by have h := k H locs ls hP hS hl; rwa [show mL (xorL a b) = _ by unfold mL xorL; rw [Int64.ofInt_toInt]] at h)
theorem r_iushr (X : CX p s m args meth c cc own nL ret D S cy ad A) (hdg : decode cc pc = .ok (.iushr, 1)) (k : GG p l e R s m args below meth c Q D S cy ad A nL (pc + 1) lv (mI (ushrI a b) :: st) sg) : GG p l e R s m args below meth c Q D S cy ad A nL pc lv (mI b :: mI a :: st) sg := fun H locs ls hP hS hl => lv_iushr X.1 X.2.1 hdg rfl (by have h := k H locs ls hP hS hl; rwa [show mI (ushrI a b) = _ by unfold mI ushrI; rw [Int32.ofInt_toInt]] at h)
theorem r_idiv (X : CX p s m args meth c cc own nL ret D S cy ad A) (hne : ¬ w32 b = 0) (hdg : decode cc pc = .ok (.idiv, 1)) (k : GG p l e R s m args below meth c Q D S cy ad A nL (pc + 1) lv (mI (divI a b) :: st) sg) : GG p l e R s m args below meth c Q D S cy ad A nL pc lv (mI b :: mI a :: st) sg := fun H locs ls hP hS hl => lv_idiv X.1 X.2.1 hdg (fun h0 => hne (by unfold w32; rw [h0]; rfl)) (by have h := k H locs ls hP hS hl; rwa [show mI (divI a b) = _ by unfold mI divI; rw [Int32.ofInt_toInt]] at h)
theorem r_irem (X : CX p s m args meth c cc own nL ret D S cy ad A) (hne : ¬ w32 b = 0) (hdg : decode cc pc = .ok (.irem, 1)) (k : GG p l e R s m args below meth c Q D S cy ad A nL (pc + 1) lv (mI (remI a b) :: st) sg) : GG p l e R s m args below meth c Q D S cy ad A nL pc lv (mI b :: mI a :: st) sg := fun H locs ls hP hS hl => lv_irem X.1 X.2.1 hdg (fun h0 => hne (by unfold w32; rw [h0]; rfl)) (by have h := k H locs ls hP hS hl; rwa [show mI (remI a b) = _ by unfold mI remI; rw [Int32.ofInt_toInt]] at h)
theorem r_ldiv (X : CX p s m args meth c cc own nL ret D S cy ad A) (hne : ¬ w64 b = 0) (hdg : decode cc pc = .ok (.ldiv, 1)) (k : GG p l e R s m args below meth c Q D S cy ad A nL (pc + 1) lv (mL (divL a b) :: st) sg) : GG p l e R s m args below meth c Q D S cy ad A nL pc lv (mL b :: mL a :: st) sg := fun H locs ls hP hS hl => lv_ldiv X.1 X.2.1 hdg (fun h0 => hne (by unfold w64; rw [h0]; rfl)) (by have h := k H locs ls hP hS hl; rwa [show mL (divL a b) = _ by unfold mL divL; rw [Int64.ofInt_toInt]] at h)
theorem r_lrem (X : CX p s m args meth c cc own nL ret D S cy ad A) (hne : ¬ w64 b = 0) (hdg : decode cc pc = .ok (.lrem, 1)) (k : GG p l e R s m args below meth c Q D S cy ad A nL (pc + 1) lv (mL (remL a b) :: st) sg) : GG p l e R s m args below meth c Q D S cy ad A nL pc lv (mL b :: mL a :: st) sg := fun H locs ls hP hS hl => lv_lrem X.1 X.2.1 hdg (fun h0 => hne (by unfold w64; rw [h0]; rfl)) (by have h := k H locs ls hP hS hl; rwa [show mL (remL a b) = _ by unfold mL remL; rw [Int64.ofInt_toInt]] at h)
theorem r_i2l (X : CX p s m args meth c cc own nL ret D S cy ad A) (hdg : decode cc pc = .ok (.i2l, 1)) (k : GG p l e R s m args below meth c Q D S cy ad A nL (pc + 1) lv (mL (w32 a) :: st) sg) : GG p l e R s m args below meth c Q D S cy ad A nL pc lv (mI a :: st) sg := fun H locs ls hP hS hl => lv_i2l X.1 X.2.1 hdg (i2l_w a) (k H locs ls hP hS hl)
theorem r_i2b (X : CX p s m args meth c cc own nL ret D S cy ad A) (hdg : decode cc pc = .ok (.i2b, 1)) (k : GG p l e R s m args below meth c Q D S cy ad A nL (pc + 1) lv (mI (w8 a) :: st) sg) : GG p l e R s m args below meth c Q D S cy ad A nL pc lv (mI a :: st) sg := fun H locs ls hP hS hl => lv_i2b X.1 X.2.1 hdg (i2b_w a) (k H locs ls hP hS hl)
theorem r_dup (X : CX p s m args meth c cc own nL ret D S cy ad A) {va : Value} (hdg : decode cc pc = .ok (.dup, 1)) (hva : va.category = 1) (k : GG p l e R s m args below meth c Q D S cy ad A nL (pc + 1) lv (va :: va :: st) sg) : GG p l e R s m args below meth c Q D S cy ad A nL pc lv (va :: st) sg := fun H locs ls hP hS hl => lv_dup X.1 X.2.1 hdg hva (k H locs ls hP hS hl)
theorem r_pop (X : CX p s m args meth c cc own nL ret D S cy ad A) {va : Value} (hdg : decode cc pc = .ok (.pop, 1)) (hva : va.category = 1) (k : GG p l e R s m args below meth c Q D S cy ad A nL (pc + 1) lv st sg) : GG p l e R s m args below meth c Q D S cy ad A nL pc lv (va :: st) sg := fun H locs ls hP hS hl => lv_pop X.1 X.2.1 hdg hva (k H locs ls hP hS hl)
theorem r_dup_x1 (X : CX p s m args meth c cc own nL ret D S cy ad A) {va vb : Value} (hdg : decode cc pc = .ok (.dup_x1, 1)) (hva : va.category = 1) (hvb : vb.category = 1) (k : GG p l e R s m args below meth c Q D S cy ad A nL (pc + 1) lv (va :: vb :: va :: st) sg) : GG p l e R s m args below meth c Q D S cy ad A nL pc lv (va :: vb :: st) sg := fun H locs ls hP hS hl => lv_dup_x1 X.1 X.2.1 hdg hva hvb (k H locs ls hP hS hl)
theorem r_dup2 (X : CX p s m args meth c cc own nL ret D S cy ad A) {va vb : Value} (hdg : decode cc pc = .ok (.dup2, 1)) (hva : va.category = 1) (hvb : vb.category = 1) (k : GG p l e R s m args below meth c Q D S cy ad A nL (pc + 1) lv (va :: vb :: va :: vb :: st) sg) : GG p l e R s m args below meth c Q D S cy ad A nL pc lv (va :: vb :: st) sg := fun H locs ls hP hS hl => lv_dup2_11 X.1 X.2.1 hdg hva hvb (k H locs ls hP hS hl)
theorem r_goto (X : CX p s m args meth c cc own nL ret D S cy ad A) {off : Int} {tgt : Nat} (hdg : decode cc pc = .ok (.goto off, 3)) (ht : (pc : Int) + off = (tgt : Int)) (k : GG p l e R s m args below meth c Q D S cy ad A nL tgt lv st sg) : GG p l e R s m args below meth c Q D S cy ad A nL pc lv st sg := fun H locs ls hP hS hl => lv_goto X.1 X.2.1 hdg ht (k H locs ls hP hS hl)
theorem r_ldc (X : CX p s m args meth c cc own nL ret D S cy ad A) {index : Nat} {v : Int} (hconst : Jvm.Cond.constant own index (Int32.ofInt v) ∈ gt) (hdg : decode cc pc = .ok (.ldc index, 2)) (k : GG p l e R s m args below meth c Q D S cy ad A nL (pc + 2) lv (mI v :: st) sg) : GG p l e R s m args below meth c Q D S cy ad A nL pc lv st sg := fun H locs ls hP hS hl => lv_ldc X.1 X.2.1 X.2.2.2.1 (X.2.2.2.2.1 _ hconst) hdg (k H locs ls hP hS hl)
theorem r_ldc2 (X : CX p s m args meth c cc own nL ret D S cy ad A) {index : Nat} {v : Int} (hconst : Jvm.Cond.constantLong own index (Int64.ofInt v) ∈ gt) (hdg : decode cc pc = .ok (.ldc2_w index, 3)) (k : GG p l e R s m args below meth c Q D S cy ad A nL (pc + 3) lv (mL v :: st) sg) : GG p l e R s m args below meth c Q D S cy ad A nL pc lv st sg := fun H locs ls hP hS hl => lv_ldc2 X.1 X.2.1 X.2.2.2.1 (X.2.2.2.2.1 _ hconst) hdg (k H locs ls hP hS hl)
theorem r_ldcw (X : CX p s m args meth c cc own nL ret D S cy ad A) {index : Nat} {v : Int} (hconst : Jvm.Cond.constant own index (Int32.ofInt v) ∈ gt) (hdg : decode cc pc = .ok (.ldc_w index, 3)) (k : GG p l e R s m args below meth c Q D S cy ad A nL (pc + 3) lv (mI v :: st) sg) : GG p l e R s m args below meth c Q D S cy ad A nL pc lv st sg := fun H locs ls hP hS hl => lv_ldcw X.1 X.2.1 X.2.2.2.1 (X.2.2.2.2.1 _ hconst) hdg (k H locs ls hP hS hl)
theorem r_icmp_eq (X : CX p s m args meth c cc own nL ret D S cy ad A) {off : Int} {tgt : Nat} (hdg : decode cc pc = .ok (.if_icmp .eq off, 3)) (ht : (pc : Int) + off = (tgt : Int)) (kt : w32 a = w32 b → GG p l e R s m args below meth c Q D S cy ad A nL tgt lv st sg) (kf : ¬ w32 a = w32 b → GG p l e R s m args below meth c Q D S cy ad A nL (pc + 3) lv st sg) : GG p l e R s m args below meth c Q D S cy ad A nL pc lv (mI b :: mI a :: st) sg := fun H locs ls hP hS hl => lv_icmp_eq X.1 X.2.1 hdg ht (fun q => kt (eq_w.mp q) H locs ls hP hS hl) (fun q => kf (fun z => q (eq_w.mpr z)) H locs ls hP hS hl)
theorem r_icmp_lt (X : CX p s m args meth c cc own nL ret D S cy ad A) {off : Int} {tgt : Nat} (hdg : decode cc pc = .ok (.if_icmp .lt off, 3)) (ht : (pc : Int) + off = (tgt : Int)) (kt : w32 a < w32 b → GG p l e R s m args below meth c Q D S cy ad A nL tgt lv st sg) (kf : ¬ w32 a < w32 b → GG p l e R s m args below meth c Q D S cy ad A nL (pc + 3) lv st sg) : GG p l e R s m args below meth c Q D S cy ad A nL pc lv (mI b :: mI a :: st) sg := fun H locs ls hP hS hl => lv_icmp_lt X.1 X.2.1 hdg ht (fun q => kt (lt_w.mp q) H locs ls hP hS hl) (fun q => kf (fun z => q (lt_w.mpr z)) H locs ls hP hS hl)
theorem r_icmp_ge (X : CX p s m args meth c cc own nL ret D S cy ad A) {off : Int} {tgt : Nat} (hdg : decode cc pc = .ok (.if_icmp .ge off, 3)) (ht : (pc : Int) + off = (tgt : Int)) (kt : w32 b ≤ w32 a → GG p l e R s m args below meth c Q D S cy ad A nL tgt lv st sg) (kf : ¬ w32 b ≤ w32 a → GG p l e R s m args below meth c Q D S cy ad A nL (pc + 3) lv st sg) : GG p l e R s m args below meth c Q D S cy ad A nL pc lv (mI b :: mI a :: st) sg := fun H locs ls hP hS hl => lv_icmp_ge X.1 X.2.1 hdg ht (fun q => kt (le_w.mp q) H locs ls hP hS hl) (fun q => kf (fun z => q (le_w.mpr z)) H locs ls hP hS hl)
theorem r_icmp_gt (X : CX p s m args meth c cc own nL ret D S cy ad A) {off : Int} {tgt : Nat} (hdg : decode cc pc = .ok (.if_icmp .gt off, 3)) (ht : (pc : Int) + off = (tgt : Int)) (kt : w32 b < w32 a → GG p l e R s m args below meth c Q D S cy ad A nL tgt lv st sg) (kf : ¬ w32 b < w32 a → GG p l e R s m args below meth c Q D S cy ad A nL (pc + 3) lv st sg) : GG p l e R s m args below meth c Q D S cy ad A nL pc lv (mI b :: mI a :: st) sg := fun H locs ls hP hS hl => lv_icmp_gt X.1 X.2.1 hdg ht (fun q => kt (lt_w.mp q) H locs ls hP hS hl) (fun q => kf (fun z => q (lt_w.mpr z)) H locs ls hP hS hl)
theorem r_icmp_le (X : CX p s m args meth c cc own nL ret D S cy ad A) {off : Int} {tgt : Nat} (hdg : decode cc pc = .ok (.if_icmp .le off, 3)) (ht : (pc : Int) + off = (tgt : Int)) (kt : w32 a ≤ w32 b → GG p l e R s m args below meth c Q D S cy ad A nL tgt lv st sg) (kf : ¬ w32 a ≤ w32 b → GG p l e R s m args below meth c Q D S cy ad A nL (pc + 3) lv st sg) : GG p l e R s m args below meth c Q D S cy ad A nL pc lv (mI b :: mI a :: st) sg := fun H locs ls hP hS hl => lv_icmp_le X.1 X.2.1 hdg ht (fun q => kt (le_w.mp q) H locs ls hP hS hl) (fun q => kf (fun z => q (le_w.mpr z)) H locs ls hP hS hl)
theorem r_if_eq (X : CX p s m args meth c cc own nL ret D S cy ad A) {off : Int} {tgt : Nat} (hdg : decode cc pc = .ok (.ifCond .eq off, 3)) (ht : (pc : Int) + off = (tgt : Int)) (kt : w32 a = 0 → GG p l e R s m args below meth c Q D S cy ad A nL tgt lv st sg) (kf : ¬ w32 a = 0 → GG p l e R s m args below meth c Q D S cy ad A nL (pc + 3) lv st sg) : GG p l e R s m args below meth c Q D S cy ad A nL pc lv (mI a :: st) sg := fun H locs ls hP hS hl => lv_if_eq X.1 X.2.1 hdg ht (fun q => kt (eq_w0.mp q) H locs ls hP hS hl) (fun q => kf (fun z => q (eq_w0.mpr z)) H locs ls hP hS hl)
theorem r_if_lt (X : CX p s m args meth c cc own nL ret D S cy ad A) {off : Int} {tgt : Nat} (hdg : decode cc pc = .ok (.ifCond .lt off, 3)) (ht : (pc : Int) + off = (tgt : Int)) (kt : w32 a < 0 → GG p l e R s m args below meth c Q D S cy ad A nL tgt lv st sg) (kf : ¬ w32 a < 0 → GG p l e R s m args below meth c Q D S cy ad A nL (pc + 3) lv st sg) : GG p l e R s m args below meth c Q D S cy ad A nL pc lv (mI a :: st) sg := fun H locs ls hP hS hl => lv_if_lt X.1 X.2.1 hdg ht (fun q => kt (lt_w0.mp q) H locs ls hP hS hl) (fun q => kf (fun z => q (lt_w0.mpr z)) H locs ls hP hS hl)
theorem r_if_ge (X : CX p s m args meth c cc own nL ret D S cy ad A) {off : Int} {tgt : Nat} (hdg : decode cc pc = .ok (.ifCond .ge off, 3)) (ht : (pc : Int) + off = (tgt : Int)) (kt : 0 ≤ w32 a → GG p l e R s m args below meth c Q D S cy ad A nL tgt lv st sg) (kf : ¬ 0 ≤ w32 a → GG p l e R s m args below meth c Q D S cy ad A nL (pc + 3) lv st sg) : GG p l e R s m args below meth c Q D S cy ad A nL pc lv (mI a :: st) sg := fun H locs ls hP hS hl => lv_if_ge X.1 X.2.1 hdg ht (fun q => kt (ge_w0.mp q) H locs ls hP hS hl) (fun q => kf (fun z => q (ge_w0.mpr z)) H locs ls hP hS hl)
theorem r_if_gt (X : CX p s m args meth c cc own nL ret D S cy ad A) {off : Int} {tgt : Nat} (hdg : decode cc pc = .ok (.ifCond .gt off, 3)) (ht : (pc : Int) + off = (tgt : Int)) (kt : 0 < w32 a → GG p l e R s m args below meth c Q D S cy ad A nL tgt lv st sg) (kf : ¬ 0 < w32 a → GG p l e R s m args below meth c Q D S cy ad A nL (pc + 3) lv st sg) : GG p l e R s m args below meth c Q D S cy ad A nL pc lv (mI a :: st) sg := fun H locs ls hP hS hl => lv_if_gt X.1 X.2.1 hdg ht (fun q => kt (gt_w0.mp q) H locs ls hP hS hl) (fun q => kf (fun z => q (gt_w0.mpr z)) H locs ls hP hS hl)
theorem r_if_le (X : CX p s m args meth c cc own nL ret D S cy ad A) {off : Int} {tgt : Nat} (hdg : decode cc pc = .ok (.ifCond .le off, 3)) (ht : (pc : Int) + off = (tgt : Int)) (kt : w32 a ≤ 0 → GG p l e R s m args below meth c Q D S cy ad A nL tgt lv st sg) (kf : ¬ w32 a ≤ 0 → GG p l e R s m args below meth c Q D S cy ad A nL (pc + 3) lv st sg) : GG p l e R s m args below meth c Q D S cy ad A nL pc lv (mI a :: st) sg := fun H locs ls hP hS hl => lv_if_le X.1 X.2.1 hdg ht (fun q => kt (le_w0.mp q) H locs ls hP hS hl) (fun q => kf (fun z => q (le_w0.mpr z)) H locs ls hP hS hl)
theorem r_icmp_ne (X : CX p s m args meth c cc own nL ret D S cy ad A) {off : Int} {tgt : Nat} (hdg : decode cc pc = .ok (.if_icmp .ne off, 3)) (ht : (pc : Int) + off = (tgt : Int)) (kf : w32 a = w32 b → GG p l e R s m args below meth c Q D S cy ad A nL (pc + 3) lv st sg) (kt : ¬ w32 a = w32 b → GG p l e R s m args below meth c Q D S cy ad A nL tgt lv st sg) : GG p l e R s m args below meth c Q D S cy ad A nL pc lv (mI b :: mI a :: st) sg := fun H locs ls hP hS hl => lv_icmp_ne X.1 X.2.1 hdg ht (fun q => kt (fun z => q (eq_w.mpr z)) H locs ls hP hS hl) (fun q => kf (eq_w.mp q) H locs ls hP hS hl)
theorem r_if_ne (X : CX p s m args meth c cc own nL ret D S cy ad A) {off : Int} {tgt : Nat} (hdg : decode cc pc = .ok (.ifCond .ne off, 3)) (ht : (pc : Int) + off = (tgt : Int)) (kf : w32 a = 0 → GG p l e R s m args below meth c Q D S cy ad A nL (pc + 3) lv st sg) (kt : ¬ w32 a = 0 → GG p l e R s m args below meth c Q D S cy ad A nL tgt lv st sg) : GG p l e R s m args below meth c Q D S cy ad A nL pc lv (mI a :: st) sg := fun H locs ls hP hS hl => lv_if_ne X.1 X.2.1 hdg ht (fun q => kt (fun z => q (eq_w0.mpr z)) H locs ls hP hS hl) (fun q => kf (eq_w0.mp q) H locs ls hP hS hl)
theorem r_lc_eq (X : CX p s m args meth c cc own nL ret D S cy ad A) {off : Int} {tgt : Nat} (hd0 : decode cc pc = .ok (.lcmp, 1)) (hdg : decode cc (pc + 1) = .ok (.ifCond .eq off, 3)) (ht : ((pc + 1 : Nat) : Int) + off = (tgt : Int)) (kt : w64 a = w64 b → GG p l e R s m args below meth c Q D S cy ad A nL tgt lv st sg) (kf : ¬ w64 a = w64 b → GG p l e R s m args below meth c Q D S cy ad A nL (pc + 1 + 3) lv st sg) : GG p l e R s m args below meth c Q D S cy ad A nL pc lv (mL b :: mL a :: st) sg := fun H locs ls hP hS hl => W.lcmp X.1 X.2.1 hd0 (lv_if_eq X.1 X.2.1 hdg ht (fun q => kt (lgc_eq.mp q) H locs ls hP hS hl) (fun q => kf (fun z => q (lgc_eq.mpr z)) H locs ls hP hS hl))
theorem r_lc_lt (X : CX p s m args meth c cc own nL ret D S cy ad A) {off : Int} {tgt : Nat} (hd0 : decode cc pc = .ok (.lcmp, 1)) (hdg : decode cc (pc + 1) = .ok (.ifCond .lt off, 3)) (ht : ((pc + 1 : Nat) : Int) + off = (tgt : Int)) (kt : w64 a < w64 b → GG p l e R s m args below meth c Q D S cy ad A nL tgt lv st sg) (kf : ¬ w64 a < w64 b → GG p l e R s m args below meth c Q D S cy ad A nL (pc + 1 + 3) lv st sg) : GG p l e R s m args below meth c Q D S cy ad A nL pc lv (mL b :: mL a :: st) sg := fun H locs ls hP hS hl => W.lcmp X.1 X.2.1 hd0 (lv_if_lt X.1 X.2.1 hdg ht (fun q => kt (lgc_lt.mp q) H locs ls hP hS hl) (fun q => kf (fun z => q (lgc_lt.mpr z)) H locs ls hP hS hl))
theorem r_lc_ge (X : CX p s m args meth c cc own nL ret D S cy ad A) {off : Int} {tgt : Nat} (hd0 : decode cc pc = .ok (.lcmp, 1)) (hdg : decode cc (pc + 1) = .ok (.ifCond .ge off, 3)) (ht : ((pc + 1 : Nat) : Int) + off = (tgt : Int)) (kt : w64 b ≤ w64 a → GG p l e R s m args below meth c Q D S cy ad A nL tgt lv st sg) (kf : ¬ w64 b ≤ w64 a → GG p l e R s m args below meth c Q D S cy ad A nL (pc + 1 + 3) lv st sg) : GG p l e R s m args below meth c Q D S cy ad A nL pc lv (mL b :: mL a :: st) sg := fun H locs ls hP hS hl => W.lcmp X.1 X.2.1 hd0 (lv_if_ge X.1 X.2.1 hdg ht (fun q => kt (lgc_ge.mp q) H locs ls hP hS hl) (fun q => kf (fun z => q (lgc_ge.mpr z)) H locs ls hP hS hl))
theorem r_lc_gt (X : CX p s m args meth c cc own nL ret D S cy ad A) {off : Int} {tgt : Nat} (hd0 : decode cc pc = .ok (.lcmp, 1)) (hdg : decode cc (pc + 1) = .ok (.ifCond .gt off, 3)) (ht : ((pc + 1 : Nat) : Int) + off = (tgt : Int)) (kt : w64 b < w64 a → GG p l e R s m args below meth c Q D S cy ad A nL tgt lv st sg) (kf : ¬ w64 b < w64 a → GG p l e R s m args below meth c Q D S cy ad A nL (pc + 1 + 3) lv st sg) : GG p l e R s m args below meth c Q D S cy ad A nL pc lv (mL b :: mL a :: st) sg := fun H locs ls hP hS hl => W.lcmp X.1 X.2.1 hd0 (lv_if_gt X.1 X.2.1 hdg ht (fun q => kt (lgc_gt.mp q) H locs ls hP hS hl) (fun q => kf (fun z => q (lgc_gt.mpr z)) H locs ls hP hS hl))
theorem r_lc_le (X : CX p s m args meth c cc own nL ret D S cy ad A) {off : Int} {tgt : Nat} (hd0 : decode cc pc = .ok (.lcmp, 1)) (hdg : decode cc (pc + 1) = .ok (.ifCond .le off, 3)) (ht : ((pc + 1 : Nat) : Int) + off = (tgt : Int)) (kt : w64 a ≤ w64 b → GG p l e R s m args below meth c Q D S cy ad A nL tgt lv st sg) (kf : ¬ w64 a ≤ w64 b → GG p l e R s m args below meth c Q D S cy ad A nL (pc + 1 + 3) lv st sg) : GG p l e R s m args below meth c Q D S cy ad A nL pc lv (mL b :: mL a :: st) sg := fun H locs ls hP hS hl => W.lcmp X.1 X.2.1 hd0 (lv_if_le X.1 X.2.1 hdg ht (fun q => kt (lgc_le.mp q) H locs ls hP hS hl) (fun q => kf (fun z => q (lgc_le.mpr z)) H locs ls hP hS hl))
theorem r_lc_ne (X : CX p s m args meth c cc own nL ret D S cy ad A) {off : Int} {tgt : Nat} (hd0 : decode cc pc = .ok (.lcmp, 1)) (hdg : decode cc (pc + 1) = .ok (.ifCond .ne off, 3)) (ht : ((pc + 1 : Nat) : Int) + off = (tgt : Int)) (kf : w64 a = w64 b → GG p l e R s m args below meth c Q D S cy ad A nL (pc + 1 + 3) lv st sg) (kt : ¬ w64 a = w64 b → GG p l e R s m args below meth c Q D S cy ad A nL tgt lv st sg) : GG p l e R s m args below meth c Q D S cy ad A nL pc lv (mL b :: mL a :: st) sg := fun H locs ls hP hS hl => W.lcmp X.1 X.2.1 hd0 (lv_if_ne X.1 X.2.1 hdg ht (fun q => kt (fun z => q (lgc_eq.mpr z)) H locs ls hP hS hl) (fun q => kf (lgc_eq.mp q) H locs ls hP hS hl))
theorem r_getI (X : CX p s m args meth c cc own nL ret D S cy ad A) {idx c0 j ci : Nat} (hF : FL own idx ci j) (hk : fk S c0 j = some (ci, .inl 0)) (hdg : decode cc pc = .ok (.getfield idx, 3)) (k : GG p l e R s m args below meth c Q D S cy ad A nL (pc + 3) lv (mI (sg c0 j) :: st) sg) : GG p l e R s m args below meth c Q D S cy ad A nL pc lv (.ref (ad c0) :: st) sg := fun H locs ls hP hS hl => get_any X hF hk hP hdg (k H locs ls hP hS hl)
theorem r_getL (X : CX p s m args meth c cc own nL ret D S cy ad A) {idx c0 j ci : Nat} (hF : FL own idx ci j) (hk : fk S c0 j = some (ci, .inl 1)) (hdg : decode cc pc = .ok (.getfield idx, 3)) (k : GG p l e R s m args below meth c Q D S cy ad A nL (pc + 3) lv (mL (sg c0 j) :: st) sg) : GG p l e R s m args below meth c Q D S cy ad A nL pc lv (.ref (ad c0) :: st) sg := fun H locs ls hP hS hl => get_any X hF hk hP hdg (k H locs ls hP hS hl)
theorem r_getR (X : CX p s m args meth c cc own nL ret D S cy ad A) {idx c0 j ci t : Nat} (hF : FL own idx ci j) (hk : fk S c0 j = some (ci, .inr t)) (hdg : decode cc pc = .ok (.getfield idx, 3)) (k : GG p l e R s m args below meth c Q D S cy ad A nL (pc + 3) lv (.ref (ad t) :: st) sg) : GG p l e R s m args below meth c Q D S cy ad A nL pc lv (.ref (ad c0) :: st) sg := fun H locs ls hP hS hl => get_any X hF hk hP hdg (k H locs ls hP hS hl)
theorem r_getM (X : CX p s m args meth c cc own nL ret D S cy ad A) {idx c0 j ci : Nat} (hF : FL own idx ci j) (hk : fk S c0 j = some (ci, .inl 2)) (hdg : decode cc pc = .ok (.getfield idx, 3)) (k : GG p l e R s m args below meth c Q D S cy ad A nL (pc + 3) lv (.ref (ad (sg c0 j).toNat) :: st) sg) : GG p l e R s m args below meth c Q D S cy ad A nL pc lv (.ref (ad c0) :: st) sg := fun H locs ls hP hS hl => get_any X hF hk hP hdg (k H locs ls hP hS hl)
theorem r_putI (X : CX p s m args meth c cc own nL ret D S cy ad A) {idx c0 j ci : Nat} {ty : FieldType} {v : Int} (hF : FP own idx ci j ty) (hk : fk S c0 j = some (ci, .inl 0)) (hn : narrow ty (mI v) = mI v) (hfit : fits ty (mI v) = true) (hdg : decode cc pc = .ok (.putfield idx, 3)) (k : GG p l e R s m args below meth c Q D S cy ad A nL (pc + 3) lv st (put sg c0 j v)) : GG p l e R s m args below meth c Q D S cy ad A nL pc lv (mI v :: .ref (ad c0) :: st) sg := fun H locs ls hP hS hl => put_any X hF hk hn hfit rfl hP hS hdg (fun H1 locs1 hP1 hS1 => k H1 locs1 ls hP1 hS1 hl)
theorem r_putL (X : CX p s m args meth c cc own nL ret D S cy ad A) {idx c0 j ci : Nat} {ty : FieldType} {v : Int} (hF : FP own idx ci j ty) (hk : fk S c0 j = some (ci, .inl 1)) (hn : narrow ty (mL v) = mL v) (hfit : fits ty (mL v) = true) (hdg : decode cc pc = .ok (.putfield idx, 3)) (k : GG p l e R s m args below meth c Q D S cy ad A nL (pc + 3) lv st (put sg c0 j v)) : GG p l e R s m args below meth c Q D S cy ad A nL pc lv (mL v :: .ref (ad c0) :: st) sg := fun H locs ls hP hS hl => put_any X hF hk hn hfit rfl hP hS hdg (fun H1 locs1 hP1 hS1 => k H1 locs1 ls hP1 hS1 hl)
theorem r_putM (X : CX p s m args meth c cc own nL ret D S cy ad A) {idx c0 j ci : Nat} {ty : FieldType} {v : Nat} (hF : FP own idx ci j ty) (hk : fk S c0 j = some (ci, .inl 2)) (hn : narrow ty (.ref (ad v)) = .ref (ad v)) (hfit : fits ty (.ref (ad v)) = true) (hdg : decode cc pc = .ok (.putfield idx, 3)) (k : GG p l e R s m args below meth c Q D S cy ad A nL (pc + 3) lv st (put sg c0 j (v : Int))) : GG p l e R s m args below meth c Q D S cy ad A nL pc lv (.ref (ad v) :: .ref (ad c0) :: st) sg := fun H locs ls hP hS hl => put_any X hF hk hn hfit rfl hP hS hdg (fun H1 locs1 hP1 hS1 => k H1 locs1 ls hP1 hS1 hl)
theorem r_iald (X : CX p s m args meth c cc own nL ret D S cy ad A) {c0 n : Nat} (hq : S[c0]? = some (.inl (0, n, .inl 0))) (hi : inb a n) (hdg : decode cc pc = .ok (.iaload, 1)) (k : GG p l e R s m args below meth c Q D S cy ad A nL (pc + 1) lv (mI (sg c0 (ix a)) :: st) sg) : GG p l e R s m args below meth c Q D S cy ad A nL pc lv (mI a :: .ref (ad c0) :: st) sg := fun H locs ls hP hS hl => va_iald X.1 X.2.1 X.2.2.2.2.2.1 hP c0 0 (wd_at hq) rfl (inb_vp hi) hdg (k H locs ls hP hS hl)
theorem r_zald (X : CX p s m args meth c cc own nL ret D S cy ad A) {c0 n : Nat} (hq : S[c0]? = some (.inl (2, n, .inl 0))) (hi : inb a n) (hdg : decode cc pc = .ok (.baload, 1)) (k : GG p l e R s m args below meth c Q D S cy ad A nL (pc + 1) lv (mI (sg c0 (ix a)) :: st) sg) : GG p l e R s m args below meth c Q D S cy ad A nL pc lv (mI a :: .ref (ad c0) :: st) sg := fun H locs ls hP hS hl => va_zald X.1 X.2.1 X.2.2.2.2.2.1 hP c0 2 (wd_at hq) rfl (inb_vp hi) hdg (k H locs ls hP hS hl)
theorem r_bald (X : CX p s m args meth c cc own nL ret D S cy ad A) {c0 n : Nat} (hq : S[c0]? = some (.inl (3, n, .inl 0))) (hi : inb a n) (hdg : decode cc pc = .ok (.baload, 1)) (k : GG p l e R s m args below meth c Q D S cy ad A nL (pc + 1) lv (mI (sg c0 (ix a)) :: st) sg) : GG p l e R s m args below meth c Q D S cy ad A nL pc lv (mI a :: .ref (ad c0) :: st) sg := fun H locs ls hP hS hl => va_bald X.1 X.2.1 X.2.2.2.2.2.1 hP c0 3 (wd_at hq) rfl (inb_vp hi) hdg (k H locs ls hP hS hl)
theorem r_lald (X : CX p s m args meth c cc own nL ret D S cy ad A) {c0 n : Nat} (hq : S[c0]? = some (.inl (1, n, .inl 1))) (hi : inb a n) (hdg : decode cc pc = .ok (.laload, 1)) (k : GG p l e R s m args below meth c Q D S cy ad A nL (pc + 1) lv (mL (sg c0 (ix a)) :: st) sg) : GG p l e R s m args below meth c Q D S cy ad A nL pc lv (mI a :: .ref (ad c0) :: st) sg := fun H locs ls hP hS hl => va_lald X.1 X.2.1 X.2.2.2.2.2.1 hP c0 1 (wd_at hq) rfl (inb_vp hi) hdg (k H locs ls hP hS hl)
theorem r_iast (X : CX p s m args meth c cc own nL ret D S cy ad A) {c0 n : Nat} {v : Int} (hq : S[c0]? = some (.inl (0, n, .inl 0))) (hi : inb a n) (hdg : decode cc pc = .ok (.iastore, 1)) (k : GG p l e R s m args below meth c Q D S cy ad A nL (pc + 1) lv st (put sg c0 (ix a) v)) : GG p l e R s m args below meth c Q D S cy ad A nL pc lv (mI v :: mI a :: .ref (ad c0) :: st) sg := fun H locs ls hP hS hl => va_iast X.1 X.2.1 X.2.2.2.2.2.1 hP (wd_D sg X.2.2.2.2.2.2.1 X.2.2.2.2.2.2.2.1) hS c0 0 (wd_at hq) rfl (inb_vp hi) hdg (fun H1 locs1 hP1 _ hS1 => k H1 locs1 ls (by rw [← wd_set hq (ce_i _ _ _ _ sg _ _ _) (fun c2 h => put_other sg c0 _ _ h)]; exact hP1) hS1 hl)
theorem r_zast (X : CX p s m args meth c cc own nL ret D S cy ad A) {c0 n : Nat} {v : Int} (hq : S[c0]? = some (.inl (2, n, .inl 0))) (hi : inb a n) (hdg : decode cc pc = .ok (.bastore, 1)) (k : GG p l e R s m args below meth c Q D S cy ad A nL (pc + 1) lv st (put sg c0 (ix a) (nz v))) : GG p l e R s m args below meth c Q D S cy ad A nL pc lv (mI v :: mI a :: .ref (ad c0) :: st) sg := fun H locs ls hP hS hl => va_zast X.1 X.2.1 X.2.2.2.2.2.1 hP (wd_D sg X.2.2.2.2.2.2.1 X.2.2.2.2.2.2.2.1) hS c0 2 (wd_at hq) rfl (inb_vp hi) hdg (fun H1 locs1 hP1 _ hS1 => k H1 locs1 ls (by rw [← wd_set hq (ce_z _ _ _ _ sg _ _ _) (fun c2 h => put_other sg c0 _ _ h)]; exact hP1) hS1 hl)
theorem r_bast (X : CX p s m args meth c cc own nL ret D S cy ad A) {c0 n : Nat} {v : Int} (hq : S[c0]? = some (.inl (3, n, .inl 0))) (hi : inb a n) (hdg : decode cc pc = .ok (.bastore, 1)) (k : GG p l e R s m args below meth c Q D S cy ad A nL (pc + 1) lv st (put sg c0 (ix a) (w8 v))) : GG p l e R s m args below meth c Q D S cy ad A nL pc lv (mI v :: mI a :: .ref (ad c0) :: st) sg := fun H locs ls hP hS hl => va_bast X.1 X.2.1 X.2.2.2.2.2.1 hP (wd_D sg X.2.2.2.2.2.2.1 X.2.2.2.2.2.2.2.1) hS c0 3 (wd_at hq) rfl (inb_vp hi) hdg (fun H1 locs1 hP1 _ hS1 => k H1 locs1 ls (by rw [← wd_set hq (ce_b _ _ _ _ sg _ _ _) (fun c2 h => put_other sg c0 _ _ h)]; exact hP1) hS1 hl)
theorem r_last (X : CX p s m args meth c cc own nL ret D S cy ad A) {c0 n : Nat} {v : Int} (hq : S[c0]? = some (.inl (1, n, .inl 1))) (hi : inb a n) (hdg : decode cc pc = .ok (.lastore, 1)) (k : GG p l e R s m args below meth c Q D S cy ad A nL (pc + 1) lv st (put sg c0 (ix a) v)) : GG p l e R s m args below meth c Q D S cy ad A nL pc lv (mL v :: mI a :: .ref (ad c0) :: st) sg := fun H locs ls hP hS hl => va_last X.1 X.2.1 X.2.2.2.2.2.1 hP (wd_D sg X.2.2.2.2.2.2.1 X.2.2.2.2.2.2.2.1) hS c0 1 (wd_at hq) rfl (inb_vp hi) hdg (fun H1 locs1 hP1 _ hS1 => k H1 locs1 ls (by rw [← wd_set hq (ce_l _ _ _ _ sg _ _ _) (fun c2 h => put_other sg c0 _ _ h)]; exact hP1) hS1 hl)
end RR
end
section
/-! CALLS: contracts over the fixed world, how they are made and how they are used -/
def PW (S : List Shp) (cy : Nat → ClassId) (ad : Nat → Nat) (D : va_G) (sg : St) : State → Prop := fun U => va_P D vwCl (wd S cy ad sg) U.heap ∧ va_K D vwCl (tyl cy) U ∧ apart S ad
def MI (l : Launch) (S : List Shp) (y : MethodName) (cc : ByteArray) (nL : Nat) (ret : Option FieldType) (rm : Room) (as : (Nat → Nat) → List Value) (sg sg2 : St) (r : Int) : Prop :=
  ∀ (D : va_G) (cy : Nat → ClassId) (ad : Nat → Nat), Met l y (.code y cc nL ret :: gt) rm (va_Pc (as ad) (PW S cy ad D sg)) (va_Qi (fun (x : Int32) (_ : Unit) => x = Int32.ofInt r) (fun _ t => va_P D vwCl (wd S cy ad sg2) t.heap) (aw S ad)) 0 0 (aw S ad)
def ML (l : Launch) (S : List Shp) (y : MethodName) (cc : ByteArray) (nL : Nat) (ret : Option FieldType) (rm : Room) (as : (Nat → Nat) → List Value) (sg sg2 : St) (r : Int) : Prop :=
  ∀ (D : va_G) (cy : Nat → ClassId) (ad : Nat → Nat), Met l y (.code y cc nL ret :: gt) rm (va_Pc (as ad) (PW S cy ad D sg)) (va_Ql (fun (x : Int64) (_ : Unit) => x = Int64.ofInt r) (fun _ t => va_P D vwCl (wd S cy ad sg2) t.heap) (aw S ad)) 0 0 (aw S ad)
def MV (l : Launch) (S : List Shp) (y : MethodName) (cc : ByteArray) (nL : Nat) (ret : Option FieldType) (rm : Room) (as : (Nat → Nat) → List Value) (sg sg2 : St) : Prop :=
  ∀ (D : va_G) (cy : Nat → ClassId) (ad : Nat → Nat), Met l y (.code y cc nL ret :: gt) rm (va_Pc (as ad) (PW S cy ad D sg)) (va_Qv (fun (_ : Unit) => True) (fun _ t => va_P D vwCl (wd S cy ad sg2) t.heap) (aw S ad)) 0 0 (aw S ad)
def QI (D : va_G) (S : List Shp) (cy : Nat → ClassId) (ad : Nat → Nat) (below : List Frame) (args : Array Value) (s : State) (q : Int × St) : State → Prop := MQ below (va_Qi (fun (x : Int32) (_ : Unit) => x = Int32.ofInt q.1) (fun _ t => va_P D vwCl (wd S cy ad q.2) t.heap) (aw S ad)) args s 0 0 (aw S ad)
def QL (D : va_G) (S : List Shp) (cy : Nat → ClassId) (ad : Nat → Nat) (below : List Frame) (args : Array Value) (s : State) (q : Int × St) : State → Prop := MQ below (va_Ql (fun (x : Int64) (_ : Unit) => x = Int64.ofInt q.1) (fun _ t => va_P D vwCl (wd S cy ad q.2) t.heap) (aw S ad)) args s 0 0 (aw S ad)
def QV (D : va_G) (S : List Shp) (cy : Nat → ClassId) (ad : Nat → Nat) (below : List Frame) (args : Array Value) (s : State) (q : St) : State → Prop := MQ below (va_Qv (fun (_ : Unit) => True) (fun _ t => va_P D vwCl (wd S cy ad q) t.heap) (aw S ad)) args s 0 0 (aw S ad)
theorem mk_i {l : Launch} {S : List Shp} {y : MethodName} {cc : ByteArray} {nL : Nat} {ret : Option FieldType} {rm : Room} {as : (Nat → Nat) → List Value} {sg : St} {q : Int × St} (hy : plainName y.cls = true) (hn : ∀ ad, (lg_sl (as ad)).length ≤ nL)
    (h : ∀ p e s m args below meth c D cy ad, CX p s m args meth c cc y.cls nL ret D S cy ad (aw S ad) → GG p l e rm s m args below meth c (QI D S cy ad below args s q) D S cy ad (aw S ad) nL 0 (lv_args 0 (as ad)) [] sg) : MI l S y cc nL ret rm as sg q.2 q.1 := by
  intro D cy ad
  refine Met.ofW (cc := cc) (maxL := nL) (ret := ret) hy rfl ?_
  intro p e s m args below meth c s₁ B hml hv
  obtain ⟨rfl, hP, hK, hap⟩ := hv
  have hl := lv_entry (as ad) (n := nL) (hn ad)
  rw [lg_entry_eq]
  refine h p e s m _ below meth c D cy ad ⟨B.exec, B.bytes, hml, findClass_of_methodNamed B.named, fun w hw => atoms_spec (ws := .code y cc nL ret :: gt) B.pre w (List.mem_cons_of_mem _ hw), hK, hap, fun k hk => ⟨k, hk, rfl⟩, B.returns, B.notSynchronized⟩ s.heap [] _ hP va_S.rf hl
theorem mk_l {l : Launch} {S : List Shp} {y : MethodName} {cc : ByteArray} {nL : Nat} {ret : Option FieldType} {rm : Room} {as : (Nat → Nat) → List Value} {sg : St} {q : Int × St} (hy : plainName y.cls = true) (hn : ∀ ad, (lg_sl (as ad)).length ≤ nL)
    (h : ∀ p e s m args below meth c D cy ad, CX p s m args meth c cc y.cls nL ret D S cy ad (aw S ad) → GG p l e rm s m args below meth c (QL D S cy ad below args s q) D S cy ad (aw S ad) nL 0 (lv_args 0 (as ad)) [] sg) : ML l S y cc nL ret rm as sg q.2 q.1 := by
  intro D cy ad
  refine Met.ofW (cc := cc) (maxL := nL) (ret := ret) hy rfl ?_
  intro p e s m args below meth c s₁ B hml hv
  obtain ⟨rfl, hP, hK, hap⟩ := hv
  have hl := lv_entry (as ad) (n := nL) (hn ad)
  rw [lg_entry_eq]
  refine h p e s m _ below meth c D cy ad ⟨B.exec, B.bytes, hml, findClass_of_methodNamed B.named, fun w hw => atoms_spec (ws := .code y cc nL ret :: gt) B.pre w (List.mem_cons_of_mem _ hw), hK, hap, fun k hk => ⟨k, hk, rfl⟩, B.returns, B.notSynchronized⟩ s.heap [] _ hP va_S.rf hl
theorem mk_v {l : Launch} {S : List Shp} {y : MethodName} {cc : ByteArray} {nL : Nat} {ret : Option FieldType} {rm : Room} {as : (Nat → Nat) → List Value} {sg q : St} (hy : plainName y.cls = true) (hn : ∀ ad, (lg_sl (as ad)).length ≤ nL)
    (h : ∀ p e s m args below meth c D cy ad, CX p s m args meth c cc y.cls nL ret D S cy ad (aw S ad) → GG p l e rm s m args below meth c (QV D S cy ad below args s q) D S cy ad (aw S ad) nL 0 (lv_args 0 (as ad)) [] sg) : MV l S y cc nL ret rm as sg q := by
  intro D cy ad
  refine Met.ofW (cc := cc) (maxL := nL) (ret := ret) hy rfl ?_
  intro p e s m args below meth c s₁ B hml hv
  obtain ⟨rfl, hP, hK, hap⟩ := hv
  have hl := lv_entry (as ad) (n := nL) (hn ad)
  rw [lg_entry_eq]
  refine h p e s m _ below meth c D cy ad ⟨B.exec, B.bytes, hml, findClass_of_methodNamed B.named, fun w hw => atoms_spec (ws := .code y cc nL ret :: gt) B.pre w (List.mem_cons_of_mem _ hw), hK, hap, fun k hk => ⟨k, hk, rfl⟩, B.returns, B.notSynchronized⟩ s.heap [] _ hP va_S.rf hl
/-- a method's own words: its code, how many arguments -/
def YW (y : MethodName) (cc : ByteArray) (nL : Nat) (ret : Option FieldType) (n : Nat) : Prop := Cond.code y cc nL ret ∈ gt ∧ Cond.initialized y.cls ∈ gt ∧ (y.cls ≠ "java/lang/invoke/MethodHandle" ∧ y.cls ≠ "java/lang/invoke/VarHandle" ∧ (parseMethodDescriptor y.desc).map (fun d => d.parameters.length) = some n)
def YV (y : MethodName) : Prop := Cond.instanceMethod y ∈ gt ∧ Cond.selects y.cls y y ∈ gt
theorem good_gt {y : MethodName} {cc : ByteArray} {nL : Nat} {ret : Option FieldType} (h : Cond.code y cc nL ret ∈ gt) : GoodIn gt (.code y cc nL ret :: gt) := by
  intro w hw
  have : w ∈ gt := by
    rcases List.mem_cons.mp hw with rfl | h2
    · exact h
    · exact h2
  exact ⟨this, good_of_word (gt_good w this)⟩
theorem pw_blind {S : List Shp} {cy : Nat → ClassId} {ad : Nat → Nat} {D : va_G} {sg : St} {av : List Value} : FrameBlind (va_Pc av (PW S cy ad D sg)) := by
  intro a U g mk q
  obtain ⟨q0, qP, qK, qA⟩ := q
  exact ⟨q0, qP, va_K.moved (u := U) (U := U.calling g mk a) (Vm.Alike.refl U.vm) qK, qA⟩
section RC
variable {p : Program} {l : Launch} {e : Env} {R : Room} {s : State} {m : MethodId} {args : Array Value} {below : List Frame} {meth : Method} {c : Code} {Q : State → Prop} {D : va_G} {S : List Shp} {cy : Nat → ClassId} {ad : Nat → Nat} {A : Nat → Prop} {nL pc : Nat} {lv lv2 : List (Nat × Value)} {st : List Value} {sg : St} {cc : ByteArray} {own : String} {ret : Option FieldType} {a b : Int}
variable {y : MethodName} {cc2 : ByteArray} {nL2 : Nat} {ret2 : Option FieldType} {rm2 : Room} {sg2 : St} {r : Int} {stk : List Value}
theorem pre_S (X : CX p s m args meth c cc own nL ret D S cy ad A) {H : Heap} (hP : va_P D vwCl (wd S cy ad sg) H) (av : List Value) : PreS s H (va_Pc av (PW S cy ad D sg)) av :=
  ⟨pw_blind, fun U hU hW => ⟨rfl, by rw [hU]; exact hP, va_K.moved hW.alike X.2.2.2.2.2.1, X.2.2.2.2.2.2.1⟩⟩
theorem pre_V (X : CX p s m args meth c cc own nL ret D S cy ad A) {H : Heap} (hP : va_P D vwCl (wd S cy ad sg) H) {c0 ci : Nat} {ks : List (Nat ⊕ Nat)} {q : vw_C} (hk : S[c0]? = some (.inr (ci, ks))) (hc : vwCl[ci]? = some q) (As : List Value) : PreV s H q.1 (ad c0) (va_Pc (.ref (ad c0) :: As) (PW S cy ad D sg)) As :=
  ⟨pw_blind, va_recv X.2.2.2.2.2.1 hP hc (wd_at hk), fun U hU hW => ⟨rfl, by rw [hU]; exact hP, va_K.moved hW.alike X.2.2.2.2.2.1, X.2.2.2.2.2.2.1⟩⟩
theorem call_b (X : CX p s m args meth c cc own nL ret D S cy ad A) {n idx : Nat} (hY : YW y cc2 nL2 ret2 n) (hl : Cond.methodLink own idx y ∈ gt) (hrc : rm2.cells = 0) (hrs : rm2.slots = 0) (hR : rm2.frames + 1 ≤ R.frames ∧ 8 + (nL2 + 11) + rm2.locals ≤ R.locals) : CallB R s args own idx y cc2 nL2 ret2 (.code y cc2 nL2 ret2 :: gt) rm2 0 0 n :=
  callB_of n X.2.2.2.2.1 (good_gt hY.1) rfl hrc hrs (X.2.2.2.2.1 _ hY.2.1) (X.2.2.2.2.1 _ hl) hY.2.2 hR
theorem r_callVI (X : CX p s m args meth c cc own nL ret D S cy ad A) {As : List Value} {n idx c0 ci : Nat} {ks : List (Nat ⊕ Nat)} {q : vw_C} {as : (Nat → Nat) → List Value} (hM : MI l S y cc2 nL2 ret2 rm2 as sg sg2 r) (has : as ad = .ref (ad c0) :: As) (hY : YW y cc2 nL2 ret2 n) (hV : YV y) (hl : Cond.methodLink own idx y ∈ gt) (hk : S[c0]? = some (.inr (ci, ks))) (hc : vwCl[ci]? = some q) (hq : q.1 = y.cls) (hz : rm2.cells = 0 ∧ rm2.slots = 0) (hR : rm2.frames + 1 ≤ R.frames ∧ 8 + (nL2 + 11) + rm2.locals ≤ R.locals) (hn : As.length = n) (hs : stk = As.reverse ++ .ref (ad c0) :: st) (hw : (st.map fun v => v.category).sum ≤ 8) (hdg : decode cc pc = .ok (.invokevirtual idx, 3)) (k : GG p l e R s m args below meth c Q D S cy ad A nL (pc + 3) lv (mI r :: st) sg2) : GG p l e R s m args below meth c Q D S cy ad A nL pc lv stk sg := by
  intro H locs ls hP hS hl2
  have hM2 := hM D cy ad
  rw [has] at hM2
  subst hs
  refine va_calli (va_runV (As := As) (rest := st) (C := q.1) ⟨X.1, X.2.1, X.2.2.1, X.2.2.2.1, X.2.2.2.2.1⟩ hM2 ⟨call_b X hY hl hz.1 hz.2 hR, X.2.2.2.2.1 _ hV.1, by rw [hq]; exact X.2.2.2.2.1 _ hV.2⟩ (pre_V X hP hk hc As) rfl hn hl2.1 rfl (lv_room hw) hdg ⟨Nat.zero_le _, Nat.zero_le _⟩) hS (fun q _ h => ?_) (fun q h => ?_) (fun r_2 u t H1 locs1 ht hvm hw1 hB hz1 hk1 hS1 => ?_)
  · obtain ⟨k0, h1, h2⟩ := h; rw [h2]; exact X.2.2.2.2.2.2.2.1 k0 h1
  · obtain ⟨k0, h1, h2⟩ := h; rw [h2]; exact X.2.2.2.2.2.2.2.1 k0 h1
  · rw [hw1]
    exact k H1 locs1 ls (by rw [← ht]; exact hB) hS1 hl2
theorem r_callVL (X : CX p s m args meth c cc own nL ret D S cy ad A) {As : List Value} {n idx c0 ci : Nat} {ks : List (Nat ⊕ Nat)} {q : vw_C} {as : (Nat → Nat) → List Value} (hM : ML l S y cc2 nL2 ret2 rm2 as sg sg2 r) (has : as ad = .ref (ad c0) :: As) (hY : YW y cc2 nL2 ret2 n) (hV : YV y) (hl : Cond.methodLink own idx y ∈ gt) (hk : S[c0]? = some (.inr (ci, ks))) (hc : vwCl[ci]? = some q) (hq : q.1 = y.cls) (hz : rm2.cells = 0 ∧ rm2.slots = 0) (hR : rm2.frames + 1 ≤ R.frames ∧ 8 + (nL2 + 11) + rm2.locals ≤ R.locals) (hn : As.length = n) (hs : stk = As.reverse ++ .ref (ad c0) :: st) (hw : (st.map fun v => v.category).sum ≤ 8) (hdg : decode cc pc = .ok (.invokevirtual idx, 3)) (k : GG p l e R s m args below meth c Q D S cy ad A nL (pc + 3) lv (mL r :: st) sg2) : GG p l e R s m args below meth c Q D S cy ad A nL pc lv stk sg := by
  intro H locs ls hP hS hl2
  have hM2 := hM D cy ad
  rw [has] at hM2
  subst hs
  refine va_calll (va_runV (As := As) (rest := st) (C := q.1) ⟨X.1, X.2.1, X.2.2.1, X.2.2.2.1, X.2.2.2.2.1⟩ hM2 ⟨call_b X hY hl hz.1 hz.2 hR, X.2.2.2.2.1 _ hV.1, by rw [hq]; exact X.2.2.2.2.1 _ hV.2⟩ (pre_V X hP hk hc As) rfl hn hl2.1 rfl (lv_room hw) hdg ⟨Nat.zero_le _, Nat.zero_le _⟩) hS (fun q _ h => ?_) (fun q h => ?_) (fun r_2 u t H1 locs1 ht hvm hw1 hB hz1 hk1 hS1 => ?_)
  · obtain ⟨k0, h1, h2⟩ := h; rw [h2]; exact X.2.2.2.2.2.2.2.1 k0 h1
  · obtain ⟨k0, h1, h2⟩ := h; rw [h2]; exact X.2.2.2.2.2.2.2.1 k0 h1
  · rw [hw1]
    exact k H1 locs1 ls (by rw [← ht]; exact hB) hS1 hl2
theorem r_callVV (X : CX p s m args meth c cc own nL ret D S cy ad A) {As : List Value} {n idx c0 ci : Nat} {ks : List (Nat ⊕ Nat)} {q : vw_C} {as : (Nat → Nat) → List Value} (hM : MV l S y cc2 nL2 ret2 rm2 as sg sg2) (has : as ad = .ref (ad c0) :: As) (hY : YW y cc2 nL2 ret2 n) (hV : YV y) (hl : Cond.methodLink own idx y ∈ gt) (hk : S[c0]? = some (.inr (ci, ks))) (hc : vwCl[ci]? = some q) (hq : q.1 = y.cls) (hz : rm2.cells = 0 ∧ rm2.slots = 0) (hR : rm2.frames + 1 ≤ R.frames ∧ 8 + (nL2 + 11) + rm2.locals ≤ R.locals) (hn : As.length = n) (hs : stk = As.reverse ++ .ref (ad c0) :: st) (hw : (st.map fun v => v.category).sum ≤ 8) (hdg : decode cc pc = .ok (.invokevirtual idx, 3)) (k : GG p l e R s m args below meth c Q D S cy ad A nL (pc + 3) lv st sg2) : GG p l e R s m args below meth c Q D S cy ad A nL pc lv stk sg := by
  intro H locs ls hP hS hl2
  have hM2 := hM D cy ad
  rw [has] at hM2
  subst hs
  refine va_callv (va_runV (As := As) (rest := st) (C := q.1) ⟨X.1, X.2.1, X.2.2.1, X.2.2.2.1, X.2.2.2.2.1⟩ hM2 ⟨call_b X hY hl hz.1 hz.2 hR, X.2.2.2.2.1 _ hV.1, by rw [hq]; exact X.2.2.2.2.1 _ hV.2⟩ (pre_V X hP hk hc As) rfl hn hl2.1 rfl (lv_room hw) hdg ⟨Nat.zero_le _, Nat.zero_le _⟩) hS (fun q _ h => ?_) (fun q h => ?_) (fun u t H1 locs1 ht hvm hw1 hB hz1 hk1 hS1 => ?_)
  · obtain ⟨k0, h1, h2⟩ := h; rw [h2]; exact X.2.2.2.2.2.2.2.1 k0 h1
  · obtain ⟨k0, h1, h2⟩ := h; rw [h2]; exact X.2.2.2.2.2.2.2.1 k0 h1
  · exact k H1 locs1 ls (by rw [← ht]; exact hB) hS1 hl2
theorem r_callSI (X : CX p s m args meth c cc own nL ret D S cy ad A) {As : List Value} {n idx : Nat} {as : (Nat → Nat) → List Value} (hM : MI l S y cc2 nL2 ret2 rm2 as sg sg2 r) (has : as ad = As) (hY : YW y cc2 nL2 ret2 n) (hV : Cond.static y ∈ gt) (hl : Cond.methodLink own idx y ∈ gt) (hz : rm2.cells = 0 ∧ rm2.slots = 0) (hR : rm2.frames + 1 ≤ R.frames ∧ 8 + (nL2 + 11) + rm2.locals ≤ R.locals) (hn : As.length = n) (hs : stk = As.reverse ++ st) (hw : (st.map fun v => v.category).sum ≤ 8) (hdg : decode cc pc = .ok (.invokestatic idx, 3)) (k : GG p l e R s m args below meth c Q D S cy ad A nL (pc + 3) lv (mI r :: st) sg2) : GG p l e R s m args below meth c Q D S cy ad A nL pc lv stk sg := by
  intro H locs ls hP hS hl2
  have hM2 := hM D cy ad
  rw [has] at hM2
  subst hs
  refine va_calli (va_runS (As := As) (rest := st) ⟨X.1, X.2.1, X.2.2.1, X.2.2.2.1, X.2.2.2.2.1⟩ hM2 ⟨call_b X hY hl hz.1 hz.2 hR, X.2.2.2.2.1 _ hV⟩ (pre_S X hP As) rfl hn hl2.1 rfl (lv_room hw) hdg ⟨Nat.zero_le _, Nat.zero_le _⟩) hS (fun q _ h => ?_) (fun q h => ?_) (fun r_2 u t H1 locs1 ht hvm hw1 hB hz1 hk1 hS1 => ?_)
  · obtain ⟨k0, h1, h2⟩ := h; rw [h2]; exact X.2.2.2.2.2.2.2.1 k0 h1
  · obtain ⟨k0, h1, h2⟩ := h; rw [h2]; exact X.2.2.2.2.2.2.2.1 k0 h1
  · rw [hw1]
    exact k H1 locs1 ls (by rw [← ht]; exact hB) hS1 hl2
theorem r_callSL (X : CX p s m args meth c cc own nL ret D S cy ad A) {As : List Value} {n idx : Nat} {as : (Nat → Nat) → List Value} (hM : ML l S y cc2 nL2 ret2 rm2 as sg sg2 r) (has : as ad = As) (hY : YW y cc2 nL2 ret2 n) (hV : Cond.static y ∈ gt) (hl : Cond.methodLink own idx y ∈ gt) (hz : rm2.cells = 0 ∧ rm2.slots = 0) (hR : rm2.frames + 1 ≤ R.frames ∧ 8 + (nL2 + 11) + rm2.locals ≤ R.locals) (hn : As.length = n) (hs : stk = As.reverse ++ st) (hw : (st.map fun v => v.category).sum ≤ 8) (hdg : decode cc pc = .ok (.invokestatic idx, 3)) (k : GG p l e R s m args below meth c Q D S cy ad A nL (pc + 3) lv (mL r :: st) sg2) : GG p l e R s m args below meth c Q D S cy ad A nL pc lv stk sg := by
  intro H locs ls hP hS hl2
  have hM2 := hM D cy ad
  rw [has] at hM2
  subst hs
  refine va_calll (va_runS (As := As) (rest := st) ⟨X.1, X.2.1, X.2.2.1, X.2.2.2.1, X.2.2.2.2.1⟩ hM2 ⟨call_b X hY hl hz.1 hz.2 hR, X.2.2.2.2.1 _ hV⟩ (pre_S X hP As) rfl hn hl2.1 rfl (lv_room hw) hdg ⟨Nat.zero_le _, Nat.zero_le _⟩) hS (fun q _ h => ?_) (fun q h => ?_) (fun r_2 u t H1 locs1 ht hvm hw1 hB hz1 hk1 hS1 => ?_)
  · obtain ⟨k0, h1, h2⟩ := h; rw [h2]; exact X.2.2.2.2.2.2.2.1 k0 h1
  · obtain ⟨k0, h1, h2⟩ := h; rw [h2]; exact X.2.2.2.2.2.2.2.1 k0 h1
  · rw [hw1]
    exact k H1 locs1 ls (by rw [← ht]; exact hB) hS1 hl2
theorem r_ireturn (X : CX p s m args meth c cc own nL (some .int) D S cy ad (aw S ad)) {q : Int × St} (h : some (a, sg) = some q) (hdg : decode cc pc = .ok (.ireturn, 1)) : GG p l e R s m args below meth c (QI D S cy ad below args s q) D S cy ad (aw S ad) nL pc lv [mI a] sg := by
  cases h
  exact fun H locs ls hP hS hl => W.iret X.1 X.2.1 X.2.2.2.2.2.2.2.2.1 (fun t ht hW => ⟨⟨_, (), rfl, rfl, by subst ht; exact hP⟩, hS.F ht⟩) hS.2.2 hdg X.2.2.2.2.2.2.2.2.2
theorem r_zreturn (X : CX p s m args meth c cc own nL (some .boolean) D S cy ad (aw S ad)) {q : Int × St} (h : some (a, sg) = some q) (hn : narrow .boolean (mI a) = mI a) (hdg : decode cc pc = .ok (.ireturn, 1)) : GG p l e R s m args below meth c (QI D S cy ad below args s q) D S cy ad (aw S ad) nL pc lv [mI a] sg := by
  cases h
  exact fun H locs ls hP hS hl => W.zret X.1 X.2.1 X.2.2.2.2.2.2.2.2.1 hn (fun t ht hW => ⟨⟨_, (), rfl, rfl, by subst ht; exact hP⟩, hS.F ht⟩) hS.2.2 hdg X.2.2.2.2.2.2.2.2.2
theorem r_lreturn (X : CX p s m args meth c cc own nL (some .long) D S cy ad (aw S ad)) {q : Int × St} (h : some (a, sg) = some q) (hdg : decode cc pc = .ok (.lreturn, 1)) : GG p l e R s m args below meth c (QL D S cy ad below args s q) D S cy ad (aw S ad) nL pc lv [mL a] sg := by
  cases h
  exact fun H locs ls hP hS hl => W.lret X.1 X.2.1 X.2.2.2.2.2.2.2.2.1 (fun t ht hW => ⟨⟨_, (), rfl, rfl, by subst ht; exact hP⟩, hS.F ht⟩) hS.2.2 hdg X.2.2.2.2.2.2.2.2.2
theorem r_vreturn (X : CX p s m args meth c cc own nL none D S cy ad (aw S ad)) {q : St} (h : some sg = some q) (hdg : decode cc pc = .ok (.return_, 1)) : GG p l e R s m args below meth c (QV D S cy ad below args s q) D S cy ad (aw S ad) nL pc lv [] sg := by
  cases h
  exact fun H locs ls hP hS hl => W.vret X.1 X.2.1 X.2.2.2.2.2.2.2.2.1 (fun t ht hW => ⟨⟨(), rfl, trivial, by subst ht; exact hP⟩, hS.F ht⟩) hS.2.2 hdg X.2.2.2.2.2.2.2.2.2
theorem zn_of {a : Int} (h : w32 a = 0 ∨ w32 a = 1) : narrow .boolean (mI a) = mI a := by
  rcases h with h | h
  · rw [show mI a = mI 0 by rw [mI, mI, ← ofInt_w32 a, h]]; rfl
  · rw [show mI a = mI 1 by rw [mI, mI, ← ofInt_w32 a, h]]; rfl
end RC
end
