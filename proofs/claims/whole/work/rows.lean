section
-- ===== PART A: goes FIRST, ahead of the names: the tables' words, and 'selects' of the private methods out of them =====
/-- a private method of a class that the tables say can be made, by its rows of tables_1 -/
def lw_okq (q : MethodName × Nat) : Prop := (q.1.cls ≠ "java/lang/invoke/MethodHandle" ∧ q.1.cls ≠ "java/lang/invoke/VarHandle") ∧ Cond.instantiable q.1.cls q.2 ∈ tables_1 ∧ Cond.privateMethod q.1 ∈ tables_1 ∧ Cond.instanceMethod q.1 ∈ tables_1
theorem lw_p0 : lw_okq (⟨"FairHall", "none", "(I)I"⟩, 14) := ⟨⟨by decide +kernel, by decide +kernel⟩, List.mem_of_getElem? (i := 21) (by decide +kernel), List.mem_of_getElem? (i := 434) (by decide +kernel), List.mem_of_getElem? (i := 435) (by decide +kernel)⟩
theorem lw_p1 : lw_okq (⟨"FairHall", "answer", "(I)I"⟩, 14) := ⟨⟨by decide +kernel, by decide +kernel⟩, List.mem_of_getElem? (i := 21) (by decide +kernel), List.mem_of_getElem? (i := 442) (by decide +kernel), List.mem_of_getElem? (i := 443) (by decide +kernel)⟩
theorem lw_p2 : lw_okq (⟨"FairHall", "no", "(I)Z"⟩, 14) := ⟨⟨by decide +kernel, by decide +kernel⟩, List.mem_of_getElem? (i := 21) (by decide +kernel), List.mem_of_getElem? (i := 493) (by decide +kernel), List.mem_of_getElem? (i := 494) (by decide +kernel)⟩
theorem lw_p3 : lw_okq (⟨"FairHall", "yes", "()Z"⟩, 14) := ⟨⟨by decide +kernel, by decide +kernel⟩, List.mem_of_getElem? (i := 21) (by decide +kernel), List.mem_of_getElem? (i := 497) (by decide +kernel), List.mem_of_getElem? (i := 498) (by decide +kernel)⟩
theorem lw_p4 : lw_okq (⟨"FairHall$Plan", "addLook", "()Z"⟩, 17) := ⟨⟨by decide +kernel, by decide +kernel⟩, List.mem_of_getElem? (i := 87) (by decide +kernel), List.mem_of_getElem? (i := 514) (by decide +kernel), List.mem_of_getElem? (i := 515) (by decide +kernel)⟩
theorem lw_p5 : lw_okq (⟨"FairHall$Plan", "reachRoom", "()I"⟩, 17) := ⟨⟨by decide +kernel, by decide +kernel⟩, List.mem_of_getElem? (i := 87) (by decide +kernel), List.mem_of_getElem? (i := 518) (by decide +kernel), List.mem_of_getElem? (i := 519) (by decide +kernel)⟩
theorem lw_p6 : lw_okq (⟨"FairHall$Plan", "startAtLacking", "()V"⟩, 17) := ⟨⟨by decide +kernel, by decide +kernel⟩, List.mem_of_getElem? (i := 87) (by decide +kernel), List.mem_of_getElem? (i := 522) (by decide +kernel), List.mem_of_getElem? (i := 523) (by decide +kernel)⟩
theorem lw_p7 : lw_okq (⟨"FairHall$Plan", "lacks", "(I)Z"⟩, 17) := ⟨⟨by decide +kernel, by decide +kernel⟩, List.mem_of_getElem? (i := 87) (by decide +kernel), List.mem_of_getElem? (i := 526) (by decide +kernel), List.mem_of_getElem? (i := 527) (by decide +kernel)⟩
theorem lw_p8 : lw_okq (⟨"FairHall$Plan", "reach", "(II)V"⟩, 17) := ⟨⟨by decide +kernel, by decide +kernel⟩, List.mem_of_getElem? (i := 87) (by decide +kernel), List.mem_of_getElem? (i := 531) (by decide +kernel), List.mem_of_getElem? (i := 532) (by decide +kernel)⟩
theorem lw_p9 : lw_okq (⟨"FairHall$Plan", "openJudges", "(I)I"⟩, 17) := ⟨⟨by decide +kernel, by decide +kernel⟩, List.mem_of_getElem? (i := 87) (by decide +kernel), List.mem_of_getElem? (i := 535) (by decide +kernel), List.mem_of_getElem? (i := 536) (by decide +kernel)⟩
theorem lw_p10 : lw_okq (⟨"FairHall$Plan", "hasRoom", "(I)Z"⟩, 17) := ⟨⟨by decide +kernel, by decide +kernel⟩, List.mem_of_getElem? (i := 87) (by decide +kernel), List.mem_of_getElem? (i := 539) (by decide +kernel), List.mem_of_getElem? (i := 540) (by decide +kernel)⟩
theorem lw_p11 : lw_okq (⟨"FairHall$Plan", "reachShown", "(I)V"⟩, 17) := ⟨⟨by decide +kernel, by decide +kernel⟩, List.mem_of_getElem? (i := 87) (by decide +kernel), List.mem_of_getElem? (i := 543) (by decide +kernel), List.mem_of_getElem? (i := 544) (by decide +kernel)⟩
theorem lw_p12 : lw_okq (⟨"FairHall$Plan", "openBoards", "(I)I"⟩, 17) := ⟨⟨by decide +kernel, by decide +kernel⟩, List.mem_of_getElem? (i := 87) (by decide +kernel), List.mem_of_getElem? (i := 547) (by decide +kernel), List.mem_of_getElem? (i := 548) (by decide +kernel)⟩
theorem lw_p13 : lw_okq (⟨"FairHall$Plan", "part", "(II)V"⟩, 17) := ⟨⟨by decide +kernel, by decide +kernel⟩, List.mem_of_getElem? (i := 87) (by decide +kernel), List.mem_of_getElem? (i := 551) (by decide +kernel), List.mem_of_getElem? (i := 552) (by decide +kernel)⟩
theorem lw_p14 : lw_okq (⟨"FairHall$Plan", "join", "(II)V"⟩, 17) := ⟨⟨by decide +kernel, by decide +kernel⟩, List.mem_of_getElem? (i := 87) (by decide +kernel), List.mem_of_getElem? (i := 555) (by decide +kernel), List.mem_of_getElem? (i := 556) (by decide +kernel)⟩
theorem lw_p15 : lw_okq (⟨"FairHall$Plan", "prefer", "(II)V"⟩, 17) := ⟨⟨by decide +kernel, by decide +kernel⟩, List.mem_of_getElem? (i := 87) (by decide +kernel), List.mem_of_getElem? (i := 563) (by decide +kernel), List.mem_of_getElem? (i := 564) (by decide +kernel)⟩
def lw_privs_1 : List (MethodName × Nat) := [(⟨"FairHall", "none", "(I)I"⟩, 14), (⟨"FairHall", "answer", "(I)I"⟩, 14), (⟨"FairHall", "no", "(I)Z"⟩, 14), (⟨"FairHall", "yes", "()Z"⟩, 14), (⟨"FairHall$Plan", "addLook", "()Z"⟩, 17), (⟨"FairHall$Plan", "reachRoom", "()I"⟩, 17), (⟨"FairHall$Plan", "startAtLacking", "()V"⟩, 17), (⟨"FairHall$Plan", "lacks", "(I)Z"⟩, 17), (⟨"FairHall$Plan", "reach", "(II)V"⟩, 17), (⟨"FairHall$Plan", "openJudges", "(I)I"⟩, 17), (⟨"FairHall$Plan", "hasRoom", "(I)Z"⟩, 17), (⟨"FairHall$Plan", "reachShown", "(I)V"⟩, 17), (⟨"FairHall$Plan", "openBoards", "(I)I"⟩, 17), (⟨"FairHall$Plan", "part", "(II)V"⟩, 17), (⟨"FairHall$Plan", "join", "(II)V"⟩, 17), (⟨"FairHall$Plan", "prefer", "(II)V"⟩, 17)]
theorem lw_r1 : ∀ q ∈ lw_privs_1, lw_okq q := List.forall_mem_cons.mpr ⟨lw_p0, List.forall_mem_cons.mpr ⟨lw_p1, List.forall_mem_cons.mpr ⟨lw_p2, List.forall_mem_cons.mpr ⟨lw_p3, List.forall_mem_cons.mpr ⟨lw_p4, List.forall_mem_cons.mpr ⟨lw_p5, List.forall_mem_cons.mpr ⟨lw_p6, List.forall_mem_cons.mpr ⟨lw_p7, List.forall_mem_cons.mpr ⟨lw_p8, List.forall_mem_cons.mpr ⟨lw_p9, List.forall_mem_cons.mpr ⟨lw_p10, List.forall_mem_cons.mpr ⟨lw_p11, List.forall_mem_cons.mpr ⟨lw_p12, List.forall_mem_cons.mpr ⟨lw_p13, List.forall_mem_cons.mpr ⟨lw_p14, List.forall_mem_cons.mpr ⟨lw_p15, fun _ h => absurd h List.not_mem_nil⟩⟩⟩⟩⟩⟩⟩⟩⟩⟩⟩⟩⟩⟩⟩⟩
theorem lw_p16 : lw_okq (⟨"FairHall$Known", "takeLatest", "(LFairHall$Marks;I)V"⟩, 3) := ⟨⟨by decide +kernel, by decide +kernel⟩, List.mem_of_getElem? (i := 180) (by decide +kernel), List.mem_of_getElem? (i := 621) (by decide +kernel), List.mem_of_getElem? (i := 622) (by decide +kernel)⟩
theorem lw_p17 : lw_okq (⟨"FairHall$Known", "formHeaps", "()V"⟩, 3) := ⟨⟨by decide +kernel, by decide +kernel⟩, List.mem_of_getElem? (i := 180) (by decide +kernel), List.mem_of_getElem? (i := 629) (by decide +kernel), List.mem_of_getElem? (i := 630) (by decide +kernel)⟩
theorem lw_p18 : lw_okq (⟨"FairHall$Known", "joinHeaps", "(II)V"⟩, 3) := ⟨⟨by decide +kernel, by decide +kernel⟩, List.mem_of_getElem? (i := 180) (by decide +kernel), List.mem_of_getElem? (i := 637) (by decide +kernel), List.mem_of_getElem? (i := 638) (by decide +kernel)⟩
theorem lw_p19 : lw_okq (⟨"FairHall", "whyNoHeap", "(II)I"⟩, 14) := ⟨⟨by decide +kernel, by decide +kernel⟩, List.mem_of_getElem? (i := 21) (by decide +kernel), List.mem_of_getElem? (i := 655) (by decide +kernel), List.mem_of_getElem? (i := 656) (by decide +kernel)⟩
theorem lw_p20 : lw_okq (⟨"FairHall$Scale", "gather", "(LFairHall$Known;I)V"⟩, 6) := ⟨⟨by decide +kernel, by decide +kernel⟩, List.mem_of_getElem? (i := 198) (by decide +kernel), List.mem_of_getElem? (i := 671) (by decide +kernel), List.mem_of_getElem? (i := 672) (by decide +kernel)⟩
theorem lw_p21 : lw_okq (⟨"FairHall$Scale", "setRows", "(LFairHall$Known;)V"⟩, 6) := ⟨⟨by decide +kernel, by decide +kernel⟩, List.mem_of_getElem? (i := 198) (by decide +kernel), List.mem_of_getElem? (i := 675) (by decide +kernel), List.mem_of_getElem? (i := 676) (by decide +kernel)⟩
theorem lw_p22 : lw_okq (⟨"FairHall$Scale", "addBoard", "(LFairHall$Known;I)V"⟩, 6) := ⟨⟨by decide +kernel, by decide +kernel⟩, List.mem_of_getElem? (i := 198) (by decide +kernel), List.mem_of_getElem? (i := 679) (by decide +kernel), List.mem_of_getElem? (i := 680) (by decide +kernel)⟩
theorem lw_p23 : lw_okq (⟨"FairHall$Scale", "takeShares", "(LFairHall$Known;III)V"⟩, 6) := ⟨⟨by decide +kernel, by decide +kernel⟩, List.mem_of_getElem? (i := 198) (by decide +kernel), List.mem_of_getElem? (i := 685) (by decide +kernel), List.mem_of_getElem? (i := 686) (by decide +kernel)⟩
theorem lw_p24 : lw_okq (⟨"FairHall$Scale", "determinant", "(I)J"⟩, 6) := ⟨⟨by decide +kernel, by decide +kernel⟩, List.mem_of_getElem? (i := 198) (by decide +kernel), List.mem_of_getElem? (i := 689) (by decide +kernel), List.mem_of_getElem? (i := 690) (by decide +kernel)⟩
theorem lw_p25 : lw_okq (⟨"FairHall$Scale", "minor", "(II)J"⟩, 6) := ⟨⟨by decide +kernel, by decide +kernel⟩, List.mem_of_getElem? (i := 198) (by decide +kernel), List.mem_of_getElem? (i := 693) (by decide +kernel), List.mem_of_getElem? (i := 694) (by decide +kernel)⟩
theorem lw_p26 : lw_okq (⟨"FairHall$TextReader", "step", "()V"⟩, 8) := ⟨⟨by decide +kernel, by decide +kernel⟩, List.mem_of_getElem? (i := 243) (by decide +kernel), List.mem_of_getElem? (i := 747) (by decide +kernel), List.mem_of_getElem? (i := 748) (by decide +kernel)⟩
theorem lw_p27 : lw_okq (⟨"FairHall$TextReader", "endOfRun", "(CC)I"⟩, 8) := ⟨⟨by decide +kernel, by decide +kernel⟩, List.mem_of_getElem? (i := 243) (by decide +kernel), List.mem_of_getElem? (i := 751) (by decide +kernel), List.mem_of_getElem? (i := 752) (by decide +kernel)⟩
theorem lw_p28 : lw_okq (⟨"FairHall$TextReader", "blame", "(I)V"⟩, 8) := ⟨⟨by decide +kernel, by decide +kernel⟩, List.mem_of_getElem? (i := 243) (by decide +kernel), List.mem_of_getElem? (i := 755) (by decide +kernel), List.mem_of_getElem? (i := 756) (by decide +kernel)⟩
theorem lw_p29 : lw_okq (⟨"FairHall$TextReader", "readPrize", "(LFairHall$PrizeRows;)V"⟩, 8) := ⟨⟨by decide +kernel, by decide +kernel⟩, List.mem_of_getElem? (i := 243) (by decide +kernel), List.mem_of_getElem? (i := 759) (by decide +kernel), List.mem_of_getElem? (i := 760) (by decide +kernel)⟩
theorem lw_p30 : lw_okq (⟨"FairHall$TextReader", "isWord", "(Ljava/lang/String;)Z"⟩, 8) := ⟨⟨by decide +kernel, by decide +kernel⟩, List.mem_of_getElem? (i := 243) (by decide +kernel), List.mem_of_getElem? (i := 764) (by decide +kernel), List.mem_of_getElem? (i := 765) (by decide +kernel)⟩
theorem lw_p31 : lw_okq (⟨"FairHall$TextReader", "readWishes", "(LFairHall$PrizeRows;I)V"⟩, 8) := ⟨⟨by decide +kernel, by decide +kernel⟩, List.mem_of_getElem? (i := 243) (by decide +kernel), List.mem_of_getElem? (i := 820) (by decide +kernel), List.mem_of_getElem? (i := 821) (by decide +kernel)⟩
def lw_privs_2 : List (MethodName × Nat) := [(⟨"FairHall$Known", "takeLatest", "(LFairHall$Marks;I)V"⟩, 3), (⟨"FairHall$Known", "formHeaps", "()V"⟩, 3), (⟨"FairHall$Known", "joinHeaps", "(II)V"⟩, 3), (⟨"FairHall", "whyNoHeap", "(II)I"⟩, 14), (⟨"FairHall$Scale", "gather", "(LFairHall$Known;I)V"⟩, 6), (⟨"FairHall$Scale", "setRows", "(LFairHall$Known;)V"⟩, 6), (⟨"FairHall$Scale", "addBoard", "(LFairHall$Known;I)V"⟩, 6), (⟨"FairHall$Scale", "takeShares", "(LFairHall$Known;III)V"⟩, 6), (⟨"FairHall$Scale", "determinant", "(I)J"⟩, 6), (⟨"FairHall$Scale", "minor", "(II)J"⟩, 6), (⟨"FairHall$TextReader", "step", "()V"⟩, 8), (⟨"FairHall$TextReader", "endOfRun", "(CC)I"⟩, 8), (⟨"FairHall$TextReader", "blame", "(I)V"⟩, 8), (⟨"FairHall$TextReader", "readPrize", "(LFairHall$PrizeRows;)V"⟩, 8), (⟨"FairHall$TextReader", "isWord", "(Ljava/lang/String;)Z"⟩, 8), (⟨"FairHall$TextReader", "readWishes", "(LFairHall$PrizeRows;I)V"⟩, 8)]
theorem lw_r2 : ∀ q ∈ lw_privs_2, lw_okq q := List.forall_mem_cons.mpr ⟨lw_p16, List.forall_mem_cons.mpr ⟨lw_p17, List.forall_mem_cons.mpr ⟨lw_p18, List.forall_mem_cons.mpr ⟨lw_p19, List.forall_mem_cons.mpr ⟨lw_p20, List.forall_mem_cons.mpr ⟨lw_p21, List.forall_mem_cons.mpr ⟨lw_p22, List.forall_mem_cons.mpr ⟨lw_p23, List.forall_mem_cons.mpr ⟨lw_p24, List.forall_mem_cons.mpr ⟨lw_p25, List.forall_mem_cons.mpr ⟨lw_p26, List.forall_mem_cons.mpr ⟨lw_p27, List.forall_mem_cons.mpr ⟨lw_p28, List.forall_mem_cons.mpr ⟨lw_p29, List.forall_mem_cons.mpr ⟨lw_p30, List.forall_mem_cons.mpr ⟨lw_p31, fun _ h => absurd h List.not_mem_nil⟩⟩⟩⟩⟩⟩⟩⟩⟩⟩⟩⟩⟩⟩⟩⟩
theorem lw_p32 : lw_okq (⟨"FairHall$TextReader", "wishInHand", "()I"⟩, 8) := ⟨⟨by decide +kernel, by decide +kernel⟩, List.mem_of_getElem? (i := 243) (by decide +kernel), List.mem_of_getElem? (i := 824) (by decide +kernel), List.mem_of_getElem? (i := 825) (by decide +kernel)⟩
theorem lw_p33 : lw_okq (⟨"FairHall$TextReader", "takeNumber", "(II)I"⟩, 8) := ⟨⟨by decide +kernel, by decide +kernel⟩, List.mem_of_getElem? (i := 243) (by decide +kernel), List.mem_of_getElem? (i := 836) (by decide +kernel), List.mem_of_getElem? (i := 837) (by decide +kernel)⟩
theorem lw_p34 : lw_okq (⟨"FairHall$TextReader", "takeWord", "(Ljava/lang/String;)V"⟩, 8) := ⟨⟨by decide +kernel, by decide +kernel⟩, List.mem_of_getElem? (i := 243) (by decide +kernel), List.mem_of_getElem? (i := 842) (by decide +kernel), List.mem_of_getElem? (i := 843) (by decide +kernel)⟩
theorem lw_p35 : lw_okq (⟨"FairHall$TextReader", "takeStop", "()V"⟩, 8) := ⟨⟨by decide +kernel, by decide +kernel⟩, List.mem_of_getElem? (i := 243) (by decide +kernel), List.mem_of_getElem? (i := 847) (by decide +kernel), List.mem_of_getElem? (i := 848) (by decide +kernel)⟩
theorem lw_p36 : lw_okq (⟨"FairHall$Giver", "insert", "(I)V"⟩, 6) := ⟨⟨by decide +kernel, by decide +kernel⟩, List.mem_of_getElem? (i := 278) (by decide +kernel), List.mem_of_getElem? (i := 879) (by decide +kernel), List.mem_of_getElem? (i := 880) (by decide +kernel)⟩
theorem lw_p37 : lw_okq (⟨"FairHall$Giver", "giveOne", "(LFairHall$PrizeRows;ILFairHall$Boards;LFairHall$Known;)V"⟩, 6) := ⟨⟨by decide +kernel, by decide +kernel⟩, List.mem_of_getElem? (i := 278) (by decide +kernel), List.mem_of_getElem? (i := 894) (by decide +kernel), List.mem_of_getElem? (i := 895) (by decide +kernel)⟩
theorem lw_p38 : lw_okq (⟨"FairHall$PrizeRows", "meets", "(III)Z"⟩, 4) := ⟨⟨by decide +kernel, by decide +kernel⟩, List.mem_of_getElem? (i := 352) (by decide +kernel), List.mem_of_getElem? (i := 902) (by decide +kernel), List.mem_of_getElem? (i := 903) (by decide +kernel)⟩
theorem lw_p39 : lw_okq (⟨"FairHall$Halls", "emptyAll", "()V"⟩, 11) := ⟨⟨by decide +kernel, by decide +kernel⟩, List.mem_of_getElem? (i := 309) (by decide +kernel), List.mem_of_getElem? (i := 931) (by decide +kernel), List.mem_of_getElem? (i := 932) (by decide +kernel)⟩
theorem lw_p40 : lw_okq (⟨"FairHall$Halls", "search", "(LFairHall$Boards;)I"⟩, 11) := ⟨⟨by decide +kernel, by decide +kernel⟩, List.mem_of_getElem? (i := 309) (by decide +kernel), List.mem_of_getElem? (i := 935) (by decide +kernel), List.mem_of_getElem? (i := 936) (by decide +kernel)⟩
theorem lw_p41 : lw_okq (⟨"FairHall$Halls", "move", "(LFairHall$Boards;II)V"⟩, 11) := ⟨⟨by decide +kernel, by decide +kernel⟩, List.mem_of_getElem? (i := 309) (by decide +kernel), List.mem_of_getElem? (i := 940) (by decide +kernel), List.mem_of_getElem? (i := 941) (by decide +kernel)⟩
theorem lw_p42 : lw_okq (⟨"FairHall$Halls", "place", "(LFairHall$Boards;II)I"⟩, 11) := ⟨⟨by decide +kernel, by decide +kernel⟩, List.mem_of_getElem? (i := 309) (by decide +kernel), List.mem_of_getElem? (i := 944) (by decide +kernel), List.mem_of_getElem? (i := 945) (by decide +kernel)⟩
theorem lw_p43 : lw_okq (⟨"FairHallModel", "refuse", "(I)I"⟩, 86) := ⟨⟨by decide +kernel, by decide +kernel⟩, List.mem_of_getElem? (i := 952) (by decide +kernel), List.mem_of_getElem? (i := 1225) (by decide +kernel), List.mem_of_getElem? (i := 1226) (by decide +kernel)⟩
theorem lw_p44 : lw_okq (⟨"FairHallModel", "isBoard", "(I)Z"⟩, 86) := ⟨⟨by decide +kernel, by decide +kernel⟩, List.mem_of_getElem? (i := 952) (by decide +kernel), List.mem_of_getElem? (i := 1237) (by decide +kernel), List.mem_of_getElem? (i := 1238) (by decide +kernel)⟩
theorem lw_p45 : lw_okq (⟨"FairHallModel", "mayOf", "(II)Z"⟩, 86) := ⟨⟨by decide +kernel, by decide +kernel⟩, List.mem_of_getElem? (i := 952) (by decide +kernel), List.mem_of_getElem? (i := 1241) (by decide +kernel), List.mem_of_getElem? (i := 1242) (by decide +kernel)⟩
theorem lw_p46 : lw_okq (⟨"FairHallModel", "isJudge", "(I)Z"⟩, 86) := ⟨⟨by decide +kernel, by decide +kernel⟩, List.mem_of_getElem? (i := 952) (by decide +kernel), List.mem_of_getElem? (i := 1249) (by decide +kernel), List.mem_of_getElem? (i := 1250) (by decide +kernel)⟩
theorem lw_p47 : lw_okq (⟨"FairHallModel", "no", "(I)Z"⟩, 86) := ⟨⟨by decide +kernel, by decide +kernel⟩, List.mem_of_getElem? (i := 952) (by decide +kernel), List.mem_of_getElem? (i := 1257) (by decide +kernel), List.mem_of_getElem? (i := 1258) (by decide +kernel)⟩
def lw_privs_3 : List (MethodName × Nat) := [(⟨"FairHall$TextReader", "wishInHand", "()I"⟩, 8), (⟨"FairHall$TextReader", "takeNumber", "(II)I"⟩, 8), (⟨"FairHall$TextReader", "takeWord", "(Ljava/lang/String;)V"⟩, 8), (⟨"FairHall$TextReader", "takeStop", "()V"⟩, 8), (⟨"FairHall$Giver", "insert", "(I)V"⟩, 6), (⟨"FairHall$Giver", "giveOne", "(LFairHall$PrizeRows;ILFairHall$Boards;LFairHall$Known;)V"⟩, 6), (⟨"FairHall$PrizeRows", "meets", "(III)Z"⟩, 4), (⟨"FairHall$Halls", "emptyAll", "()V"⟩, 11), (⟨"FairHall$Halls", "search", "(LFairHall$Boards;)I"⟩, 11), (⟨"FairHall$Halls", "move", "(LFairHall$Boards;II)V"⟩, 11), (⟨"FairHall$Halls", "place", "(LFairHall$Boards;II)I"⟩, 11), (⟨"FairHallModel", "refuse", "(I)I"⟩, 86), (⟨"FairHallModel", "isBoard", "(I)Z"⟩, 86), (⟨"FairHallModel", "mayOf", "(II)Z"⟩, 86), (⟨"FairHallModel", "isJudge", "(I)Z"⟩, 86), (⟨"FairHallModel", "no", "(I)Z"⟩, 86)]
theorem lw_r3 : ∀ q ∈ lw_privs_3, lw_okq q := List.forall_mem_cons.mpr ⟨lw_p32, List.forall_mem_cons.mpr ⟨lw_p33, List.forall_mem_cons.mpr ⟨lw_p34, List.forall_mem_cons.mpr ⟨lw_p35, List.forall_mem_cons.mpr ⟨lw_p36, List.forall_mem_cons.mpr ⟨lw_p37, List.forall_mem_cons.mpr ⟨lw_p38, List.forall_mem_cons.mpr ⟨lw_p39, List.forall_mem_cons.mpr ⟨lw_p40, List.forall_mem_cons.mpr ⟨lw_p41, List.forall_mem_cons.mpr ⟨lw_p42, List.forall_mem_cons.mpr ⟨lw_p43, List.forall_mem_cons.mpr ⟨lw_p44, List.forall_mem_cons.mpr ⟨lw_p45, List.forall_mem_cons.mpr ⟨lw_p46, List.forall_mem_cons.mpr ⟨lw_p47, fun _ h => absurd h List.not_mem_nil⟩⟩⟩⟩⟩⟩⟩⟩⟩⟩⟩⟩⟩⟩⟩⟩
theorem lw_p48 : lw_okq (⟨"FairHallModel", "find", "()I"⟩, 86) := ⟨⟨by decide +kernel, by decide +kernel⟩, List.mem_of_getElem? (i := 952) (by decide +kernel), List.mem_of_getElem? (i := 1265) (by decide +kernel), List.mem_of_getElem? (i := 1266) (by decide +kernel)⟩
theorem lw_p49 : lw_okq (⟨"FairHallModel", "grows", "(I)Z"⟩, 86) := ⟨⟨by decide +kernel, by decide +kernel⟩, List.mem_of_getElem? (i := 952) (by decide +kernel), List.mem_of_getElem? (i := 1272) (by decide +kernel), List.mem_of_getElem? (i := 1273) (by decide +kernel)⟩
theorem lw_p50 : lw_okq (⟨"FairHallModel", "isFree", "(II)Z"⟩, 86) := ⟨⟨by decide +kernel, by decide +kernel⟩, List.mem_of_getElem? (i := 952) (by decide +kernel), List.mem_of_getElem? (i := 1276) (by decide +kernel), List.mem_of_getElem? (i := 1277) (by decide +kernel)⟩
theorem lw_p51 : lw_okq (⟨"FairHallModel", "turns", "(I)V"⟩, 86) := ⟨⟨by decide +kernel, by decide +kernel⟩, List.mem_of_getElem? (i := 952) (by decide +kernel), List.mem_of_getElem? (i := 1280) (by decide +kernel), List.mem_of_getElem? (i := 1281) (by decide +kernel)⟩
theorem lw_p52 : lw_okq (⟨"FairHallModel", "known", "(I)V"⟩, 86) := ⟨⟨by decide +kernel, by decide +kernel⟩, List.mem_of_getElem? (i := 952) (by decide +kernel), List.mem_of_getElem? (i := 1307) (by decide +kernel), List.mem_of_getElem? (i := 1308) (by decide +kernel)⟩
theorem lw_p53 : lw_okq (⟨"FairHallModel", "countOf", "(I)I"⟩, 86) := ⟨⟨by decide +kernel, by decide +kernel⟩, List.mem_of_getElem? (i := 952) (by decide +kernel), List.mem_of_getElem? (i := 1312) (by decide +kernel), List.mem_of_getElem? (i := 1313) (by decide +kernel)⟩
theorem lw_p54 : lw_okq (⟨"FairHallModel", "sizeOf", "(I)I"⟩, 86) := ⟨⟨by decide +kernel, by decide +kernel⟩, List.mem_of_getElem? (i := 952) (by decide +kernel), List.mem_of_getElem? (i := 1324) (by decide +kernel), List.mem_of_getElem? (i := 1325) (by decide +kernel)⟩
theorem lw_p55 : lw_okq (⟨"FairHallModel", "solve", "(I)V"⟩, 86) := ⟨⟨by decide +kernel, by decide +kernel⟩, List.mem_of_getElem? (i := 952) (by decide +kernel), List.mem_of_getElem? (i := 1328) (by decide +kernel), List.mem_of_getElem? (i := 1329) (by decide +kernel)⟩
theorem lw_p56 : lw_okq (⟨"FairHallModel", "square", "(I)J"⟩, 86) := ⟨⟨by decide +kernel, by decide +kernel⟩, List.mem_of_getElem? (i := 952) (by decide +kernel), List.mem_of_getElem? (i := 1333) (by decide +kernel), List.mem_of_getElem? (i := 1334) (by decide +kernel)⟩
theorem lw_p57 : lw_okq (⟨"FairHallModel", "tells", "(JJ)V"⟩, 86) := ⟨⟨by decide +kernel, by decide +kernel⟩, List.mem_of_getElem? (i := 952) (by decide +kernel), List.mem_of_getElem? (i := 1338) (by decide +kernel), List.mem_of_getElem? (i := 1339) (by decide +kernel)⟩
theorem lw_p58 : lw_okq (⟨"FairHallModel", "fairOf", "(I)V"⟩, 86) := ⟨⟨by decide +kernel, by decide +kernel⟩, List.mem_of_getElem? (i := 952) (by decide +kernel), List.mem_of_getElem? (i := 1350) (by decide +kernel), List.mem_of_getElem? (i := 1351) (by decide +kernel)⟩
theorem lw_p59 : lw_okq (⟨"FairHallModel", "lay", "(I)V"⟩, 86) := ⟨⟨by decide +kernel, by decide +kernel⟩, List.mem_of_getElem? (i := 952) (by decide +kernel), List.mem_of_getElem? (i := 1366) (by decide +kernel), List.mem_of_getElem? (i := 1367) (by decide +kernel)⟩
theorem lw_p60 : lw_okq (⟨"FairHallModel", "next", "()V"⟩, 86) := ⟨⟨by decide +kernel, by decide +kernel⟩, List.mem_of_getElem? (i := 952) (by decide +kernel), List.mem_of_getElem? (i := 1374) (by decide +kernel), List.mem_of_getElem? (i := 1375) (by decide +kernel)⟩
theorem lw_p61 : lw_okq (⟨"FairHallModel", "look", "(I)I"⟩, 86) := ⟨⟨by decide +kernel, by decide +kernel⟩, List.mem_of_getElem? (i := 952) (by decide +kernel), List.mem_of_getElem? (i := 1378) (by decide +kernel), List.mem_of_getElem? (i := 1379) (by decide +kernel)⟩
theorem lw_p62 : lw_okq (⟨"FairHallModel", "isWord", "(J)Z"⟩, 86) := ⟨⟨by decide +kernel, by decide +kernel⟩, List.mem_of_getElem? (i := 952) (by decide +kernel), List.mem_of_getElem? (i := 1393) (by decide +kernel), List.mem_of_getElem? (i := 1394) (by decide +kernel)⟩
theorem lw_p63 : lw_okq (⟨"FairHallModel", "readPrize", "()V"⟩, 86) := ⟨⟨by decide +kernel, by decide +kernel⟩, List.mem_of_getElem? (i := 952) (by decide +kernel), List.mem_of_getElem? (i := 1397) (by decide +kernel), List.mem_of_getElem? (i := 1398) (by decide +kernel)⟩
def lw_privs_4 : List (MethodName × Nat) := [(⟨"FairHallModel", "find", "()I"⟩, 86), (⟨"FairHallModel", "grows", "(I)Z"⟩, 86), (⟨"FairHallModel", "isFree", "(II)Z"⟩, 86), (⟨"FairHallModel", "turns", "(I)V"⟩, 86), (⟨"FairHallModel", "known", "(I)V"⟩, 86), (⟨"FairHallModel", "countOf", "(I)I"⟩, 86), (⟨"FairHallModel", "sizeOf", "(I)I"⟩, 86), (⟨"FairHallModel", "solve", "(I)V"⟩, 86), (⟨"FairHallModel", "square", "(I)J"⟩, 86), (⟨"FairHallModel", "tells", "(JJ)V"⟩, 86), (⟨"FairHallModel", "fairOf", "(I)V"⟩, 86), (⟨"FairHallModel", "lay", "(I)V"⟩, 86), (⟨"FairHallModel", "next", "()V"⟩, 86), (⟨"FairHallModel", "look", "(I)I"⟩, 86), (⟨"FairHallModel", "isWord", "(J)Z"⟩, 86), (⟨"FairHallModel", "readPrize", "()V"⟩, 86)]
theorem lw_r4 : ∀ q ∈ lw_privs_4, lw_okq q := List.forall_mem_cons.mpr ⟨lw_p48, List.forall_mem_cons.mpr ⟨lw_p49, List.forall_mem_cons.mpr ⟨lw_p50, List.forall_mem_cons.mpr ⟨lw_p51, List.forall_mem_cons.mpr ⟨lw_p52, List.forall_mem_cons.mpr ⟨lw_p53, List.forall_mem_cons.mpr ⟨lw_p54, List.forall_mem_cons.mpr ⟨lw_p55, List.forall_mem_cons.mpr ⟨lw_p56, List.forall_mem_cons.mpr ⟨lw_p57, List.forall_mem_cons.mpr ⟨lw_p58, List.forall_mem_cons.mpr ⟨lw_p59, List.forall_mem_cons.mpr ⟨lw_p60, List.forall_mem_cons.mpr ⟨lw_p61, List.forall_mem_cons.mpr ⟨lw_p62, List.forall_mem_cons.mpr ⟨lw_p63, fun _ h => absurd h List.not_mem_nil⟩⟩⟩⟩⟩⟩⟩⟩⟩⟩⟩⟩⟩⟩⟩⟩
theorem lw_p64 : lw_okq (⟨"FairHallModel", "fail", "(II)V"⟩, 86) := ⟨⟨by decide +kernel, by decide +kernel⟩, List.mem_of_getElem? (i := 952) (by decide +kernel), List.mem_of_getElem? (i := 1401) (by decide +kernel), List.mem_of_getElem? (i := 1402) (by decide +kernel)⟩
theorem lw_p65 : lw_okq (⟨"FairHallModel", "wishOf", "()I"⟩, 86) := ⟨⟨by decide +kernel, by decide +kernel⟩, List.mem_of_getElem? (i := 952) (by decide +kernel), List.mem_of_getElem? (i := 1405) (by decide +kernel), List.mem_of_getElem? (i := 1406) (by decide +kernel)⟩
theorem lw_p66 : lw_okq (⟨"FairHallModel", "numberOf", "(II)I"⟩, 86) := ⟨⟨by decide +kernel, by decide +kernel⟩, List.mem_of_getElem? (i := 952) (by decide +kernel), List.mem_of_getElem? (i := 1409) (by decide +kernel), List.mem_of_getElem? (i := 1410) (by decide +kernel)⟩
theorem lw_p67 : lw_okq (⟨"FairHallModel", "wrong", "()V"⟩, 86) := ⟨⟨by decide +kernel, by decide +kernel⟩, List.mem_of_getElem? (i := 952) (by decide +kernel), List.mem_of_getElem? (i := 1413) (by decide +kernel), List.mem_of_getElem? (i := 1414) (by decide +kernel)⟩
theorem lw_p68 : lw_okq (⟨"FairHallModel", "wants", "(II)Z"⟩, 86) := ⟨⟨by decide +kernel, by decide +kernel⟩, List.mem_of_getElem? (i := 952) (by decide +kernel), List.mem_of_getElem? (i := 1425) (by decide +kernel), List.mem_of_getElem? (i := 1426) (by decide +kernel)⟩
theorem lw_p69 : lw_okq (⟨"FairHallModel", "lays", "()I"⟩, 86) := ⟨⟨by decide +kernel, by decide +kernel⟩, List.mem_of_getElem? (i := 952) (by decide +kernel), List.mem_of_getElem? (i := 1448) (by decide +kernel), List.mem_of_getElem? (i := 1449) (by decide +kernel)⟩
theorem lw_p70 : lw_okq (⟨"FairHallModel", "puts", "(III)V"⟩, 86) := ⟨⟨by decide +kernel, by decide +kernel⟩, List.mem_of_getElem? (i := 952) (by decide +kernel), List.mem_of_getElem? (i := 1452) (by decide +kernel), List.mem_of_getElem? (i := 1453) (by decide +kernel)⟩
theorem lw_p71 : lw_okq (⟨"FairHallModel", "canBear", "(II)Z"⟩, 86) := ⟨⟨by decide +kernel, by decide +kernel⟩, List.mem_of_getElem? (i := 952) (by decide +kernel), List.mem_of_getElem? (i := 1456) (by decide +kernel), List.mem_of_getElem? (i := 1457) (by decide +kernel)⟩
def lw_privs_5 : List (MethodName × Nat) := [(⟨"FairHallModel", "fail", "(II)V"⟩, 86), (⟨"FairHallModel", "wishOf", "()I"⟩, 86), (⟨"FairHallModel", "numberOf", "(II)I"⟩, 86), (⟨"FairHallModel", "wrong", "()V"⟩, 86), (⟨"FairHallModel", "wants", "(II)Z"⟩, 86), (⟨"FairHallModel", "lays", "()I"⟩, 86), (⟨"FairHallModel", "puts", "(III)V"⟩, 86), (⟨"FairHallModel", "canBear", "(II)Z"⟩, 86)]
theorem lw_r5 : ∀ q ∈ lw_privs_5, lw_okq q := List.forall_mem_cons.mpr ⟨lw_p64, List.forall_mem_cons.mpr ⟨lw_p65, List.forall_mem_cons.mpr ⟨lw_p66, List.forall_mem_cons.mpr ⟨lw_p67, List.forall_mem_cons.mpr ⟨lw_p68, List.forall_mem_cons.mpr ⟨lw_p69, List.forall_mem_cons.mpr ⟨lw_p70, List.forall_mem_cons.mpr ⟨lw_p71, fun _ h => absurd h List.not_mem_nil⟩⟩⟩⟩⟩⟩⟩⟩
def lw_privs : List (MethodName × Nat) := lw_privs_1 ++ (lw_privs_2 ++ (lw_privs_3 ++ (lw_privs_4 ++ (lw_privs_5))))
def lw_tbl : List Cond := k2_sels lw_privs ++ tables_1
theorem lw_privs_ok : ∀ q ∈ lw_privs, lw_okq q := by
  show ∀ q ∈ lw_privs_1 ++ (lw_privs_2 ++ (lw_privs_3 ++ (lw_privs_4 ++ (lw_privs_5)))), lw_okq q
  exact List.forall_mem_append.mpr ⟨lw_r1, List.forall_mem_append.mpr ⟨lw_r2, List.forall_mem_append.mpr ⟨lw_r3, List.forall_mem_append.mpr ⟨lw_r4, lw_r5⟩⟩⟩⟩
end
section
def RX0 : String := "FairHall$Boards"
def TX0 : u_T := fun k => match k with
  | 0 => ("FairHall$Boards", "count", "I", false)
  | 1 => ("FairHall$Boards", "field", "[I", true)
  | 2 => ("FairHall$Boards", "age", "[I", true)
  | 3 => ("FairHall$Boards", "school", "[I", true)
  | 4 => ("FairHall$Boards", "power", "[I", true)
  | _ => ("FairHall$Boards", "water", "[I", true)
def tyX0 : Nat → FieldType := fun k => match k with
  | 0 => .int
  | 1 => .array .int
  | 2 => .array .int
  | 3 => .array .int
  | 4 => .array .int
  | _ => .array .int
abbrev wsX00 : List Cond := u_ws RX0 TX0 6
theorem nmX0 : ∀ a, a < 6 → ∀ b, b < 6 → a ≠ b → (TX0 a).2.1 ≠ (TX0 b).2.1 := by decide +kernel
theorem tyX0_ok : ∀ k, k < 6 → parseFieldDescriptor (TX0 k).2.2.1 = some (tyX0 k) := by decide +kernel
abbrev cX0_init : ByteArray := prog_2_method_1_code
def yX0_init : MethodName := ⟨RX0, "<init>", "()V"⟩
abbrev cX0_has : ByteArray := prog_2_method_2_code
def yX0_has : MethodName := ⟨RX0, "has", "(I)Z"⟩
abbrev cX0_add : ByteArray := prog_2_method_3_code
def yX0_add : MethodName := ⟨RX0, "add", "(IIIIZ)I"⟩
abbrev cX0_trait : ByteArray := prog_2_method_4_code
def yX0_trait : MethodName := ⟨RX0, "trait", "(II)I"⟩
def RX1 : String := "FairHall$Fraction"
def TX1 : u_T := fun k => match k with
  | 0 => ("FairHall$Fraction", "over", "J", false)
  | _ => ("FairHall$Fraction", "under", "J", false)
def tyX1 : Nat → FieldType := fun k => match k with
  | 0 => .long
  | _ => .long
abbrev wsX10 : List Cond := u_ws RX1 TX1 2
theorem nmX1 : ∀ a, a < 2 → ∀ b, b < 2 → a ≠ b → (TX1 a).2.1 ≠ (TX1 b).2.1 := by decide +kernel
theorem tyX1_ok : ∀ k, k < 2 → parseFieldDescriptor (TX1 k).2.2.1 = some (tyX1 k) := by decide +kernel
abbrev cX1_init : ByteArray := prog_3_method_1_code
def yX1_init : MethodName := ⟨RX1, "<init>", "()V"⟩
abbrev cX1_become : ByteArray := prog_3_method_2_code
def yX1_become : MethodName := ⟨RX1, "become", "(JJ)V"⟩
abbrev cX1_isAbove : ByteArray := prog_3_method_3_code
def yX1_isAbove : MethodName := ⟨RX1, "isAbove", "(LFairHall$Fraction;)Z"⟩
abbrev cX1_commonDivisor : ByteArray := prog_3_method_4_code
def yX1_commonDivisor : MethodName := ⟨RX1, "commonDivisor", "(JJ)J"⟩
def RX2 : String := "FairHall$Giver"
def TX2 : u_T := fun k => match k with
  | 0 => ("FairHall$Giver", "placeCount", "I", false)
  | 1 => ("FairHall$Giver", "places", "[I", true)
  | 2 => ("FairHall$Giver", "fairs", "[LFairHall$Fraction;", true)
  | 3 => ("FairHall$Giver", "rankedCount", "I", false)
  | 4 => ("FairHall$Giver", "ranked", "[I", true)
  | _ => ("FairHall$Giver", "hasOne", "[Z", true)
def tyX2 : Nat → FieldType := fun k => match k with
  | 0 => .int
  | 1 => .array .int
  | 2 => .array (.object "FairHall$Fraction")
  | 3 => .int
  | 4 => .array .int
  | _ => .array .boolean
abbrev wsX20 : List Cond := u_ws RX2 TX2 6
theorem nmX2 : ∀ a, a < 6 → ∀ b, b < 6 → a ≠ b → (TX2 a).2.1 ≠ (TX2 b).2.1 := by decide +kernel
theorem tyX2_ok : ∀ k, k < 6 → parseFieldDescriptor (TX2 k).2.2.1 = some (tyX2 k) := by decide +kernel
abbrev cX2_init : ByteArray := prog_4_method_1_code
def yX2_init : MethodName := ⟨RX2, "<init>", "()V"⟩
abbrev cX2_rank : ByteArray := prog_4_method_2_code
def yX2_rank : MethodName := ⟨RX2, "rank", "(LFairHall$Known;LFairHall$Scale;)V"⟩
abbrev cX2_give : ByteArray := prog_4_method_3_code
def yX2_give : MethodName := ⟨RX2, "give", "(LFairHall$PrizeRows;ILFairHall$Boards;LFairHall$Known;)V"⟩
abbrev cX2_giveOne : ByteArray := prog_4_method_4_code
def yX2_giveOne : MethodName := ⟨RX2, "giveOne", "(LFairHall$PrizeRows;ILFairHall$Boards;LFairHall$Known;)V"⟩
abbrev cX2_insert : ByteArray := prog_4_method_5_code
def yX2_insert : MethodName := ⟨RX2, "insert", "(I)V"⟩
def RX3 : String := "FairHall$Halls"
def TX3 : u_T := fun k => match k with
  | 0 => ("FairHall$Halls", "count", "I", false)
  | 1 => ("FairHall$Halls", "tryCount", "I", false)
  | 2 => ("FairHall$Halls", "hallOf", "[I", true)
  | 3 => ("FairHall$Halls", "places", "[I", true)
  | 4 => ("FairHall$Halls", "power", "[I", true)
  | 5 => ("FairHall$Halls", "water", "[I", true)
  | 6 => ("FairHall$Halls", "placesLeft", "[I", true)
  | 7 => ("FairHall$Halls", "powerLeft", "[I", true)
  | 8 => ("FairHall$Halls", "waterLeft", "[I", true)
  | 9 => ("FairHall$Halls", "boardsLaid", "I", false)
  | _ => ("FairHall$Halls", "outcome", "I", false)
def tyX3 : Nat → FieldType := fun k => match k with
  | 0 => .int
  | 1 => .int
  | 2 => .array .int
  | 3 => .array .int
  | 4 => .array .int
  | 5 => .array .int
  | 6 => .array .int
  | 7 => .array .int
  | 8 => .array .int
  | 9 => .int
  | _ => .int
abbrev wsX30 : List Cond := u_ws RX3 TX3 11
theorem nmX3 : ∀ a, a < 11 → ∀ b, b < 11 → a ≠ b → (TX3 a).2.1 ≠ (TX3 b).2.1 := by decide +kernel
theorem tyX3_ok : ∀ k, k < 11 → parseFieldDescriptor (TX3 k).2.2.1 = some (tyX3 k) := by decide +kernel
abbrev cX3_init : ByteArray := prog_5_method_1_code
def yX3_init : MethodName := ⟨RX3, "<init>", "()V"⟩
abbrev cX3_add : ByteArray := prog_5_method_2_code
def yX3_add : MethodName := ⟨RX3, "add", "(III)I"⟩
abbrev cX3_removeAll : ByteArray := prog_5_method_3_code
def yX3_removeAll : MethodName := ⟨RX3, "removeAll", "()V"⟩
abbrev cX3_lay : ByteArray := prog_5_method_4_code
def yX3_lay : MethodName := ⟨RX3, "lay", "(LFairHall$Boards;)I"⟩
abbrev cX3_emptyAll : ByteArray := prog_5_method_5_code
def yX3_emptyAll : MethodName := ⟨RX3, "emptyAll", "()V"⟩
abbrev cX3_search : ByteArray := prog_5_method_6_code
def yX3_search : MethodName := ⟨RX3, "search", "(LFairHall$Boards;)I"⟩
abbrev cX3_place : ByteArray := prog_5_method_7_code
def yX3_place : MethodName := ⟨RX3, "place", "(LFairHall$Boards;II)I"⟩
abbrev cX3_move : ByteArray := prog_5_method_8_code
def yX3_move : MethodName := ⟨RX3, "move", "(LFairHall$Boards;II)V"⟩
def RX4 : String := "FairHall$Judges"
def TX4 : u_T := fun k => match k with
  | 0 => ("FairHall$Judges", "count", "I", false)
  | 1 => ("FairHall$Judges", "fields", "[I", true)
  | 2 => ("FairHall$Judges", "school", "[I", true)
  | _ => ("FairHall$Judges", "most", "[I", true)
def tyX4 : Nat → FieldType := fun k => match k with
  | 0 => .int
  | 1 => .array .int
  | 2 => .array .int
  | _ => .array .int
abbrev wsX40 : List Cond := u_ws RX4 TX4 4
theorem nmX4 : ∀ a, a < 4 → ∀ b, b < 4 → a ≠ b → (TX4 a).2.1 ≠ (TX4 b).2.1 := by decide +kernel
theorem tyX4_ok : ∀ k, k < 4 → parseFieldDescriptor (TX4 k).2.2.1 = some (tyX4 k) := by decide +kernel
abbrev cX4_init : ByteArray := prog_6_method_1_code
def yX4_init : MethodName := ⟨RX4, "<init>", "()V"⟩
abbrev cX4_has : ByteArray := prog_6_method_2_code
def yX4_has : MethodName := ⟨RX4, "has", "(I)Z"⟩
abbrev cX4_add : ByteArray := prog_6_method_3_code
def yX4_add : MethodName := ⟨RX4, "add", "(III)I"⟩
abbrev cX4_isAllowed : ByteArray := prog_6_method_4_code
def yX4_isAllowed : MethodName := ⟨RX4, "isAllowed", "(ILFairHall$Boards;I)Z"⟩
abbrev cX4_allowedFor : ByteArray := prog_6_method_5_code
def yX4_allowedFor : MethodName := ⟨RX4, "allowedFor", "(LFairHall$Boards;I)I"⟩
def RX5 : String := "FairHall$Known"
def TX5 : u_T := fun k => match k with
  | 0 => ("FairHall$Known", "heapOf", "[I", true)
  | 1 => ("FairHall$Known", "points", "[I", true)
  | _ => ("FairHall$Known", "toldOn", "[I", true)
def tyX5 : Nat → FieldType := fun k => match k with
  | 0 => .array .int
  | 1 => .array .int
  | _ => .array .int
abbrev wsX50 : List Cond := u_ws RX5 TX5 3
theorem nmX5 : ∀ a, a < 3 → ∀ b, b < 3 → a ≠ b → (TX5 a).2.1 ≠ (TX5 b).2.1 := by decide +kernel
theorem tyX5_ok : ∀ k, k < 3 → parseFieldDescriptor (TX5 k).2.2.1 = some (tyX5 k) := by decide +kernel
abbrev cX5_init : ByteArray := prog_7_method_1_code
def yX5_init : MethodName := ⟨RX5, "<init>", "()V"⟩
abbrev cX5_lookBack : ByteArray := prog_7_method_2_code
def yX5_lookBack : MethodName := ⟨RX5, "lookBack", "(LFairHall$Marks;I)V"⟩
abbrev cX5_pointsOf : ByteArray := prog_7_method_3_code
def yX5_pointsOf : MethodName := ⟨RX5, "pointsOf", "(II)I"⟩
abbrev cX5_marksOf : ByteArray := prog_7_method_4_code
def yX5_marksOf : MethodName := ⟨RX5, "marksOf", "(I)I"⟩
abbrev cX5_heapAround : ByteArray := prog_7_method_5_code
def yX5_heapAround : MethodName := ⟨RX5, "heapAround", "(I)I"⟩
abbrev cX5_isGreat : ByteArray := prog_7_method_6_code
def yX5_isGreat : MethodName := ⟨RX5, "isGreat", "(I)Z"⟩
abbrev cX5_anyGreat : ByteArray := prog_7_method_7_code
def yX5_anyGreat : MethodName := ⟨RX5, "anyGreat", "()Z"⟩
abbrev cX5_takeLatest : ByteArray := prog_7_method_8_code
def yX5_takeLatest : MethodName := ⟨RX5, "takeLatest", "(LFairHall$Marks;I)V"⟩
abbrev cX5_formHeaps : ByteArray := prog_7_method_9_code
def yX5_formHeaps : MethodName := ⟨RX5, "formHeaps", "()V"⟩
abbrev cX5_joinHeaps : ByteArray := prog_7_method_10_code
def yX5_joinHeaps : MethodName := ⟨RX5, "joinHeaps", "(II)V"⟩
def RX6 : String := "FairHall$Marks"
def TX6 : u_T := fun k => match k with
  | 0 => ("FairHall$Marks", "count", "I", false)
  | 1 => ("FairHall$Marks", "judge", "[I", true)
  | 2 => ("FairHall$Marks", "board", "[I", true)
  | 3 => ("FairHall$Marks", "points", "[I", true)
  | 4 => ("FairHall$Marks", "toldOn", "[I", true)
  | _ => ("FairHall$Marks", "lostOn", "[I", true)
def tyX6 : Nat → FieldType := fun k => match k with
  | 0 => .int
  | 1 => .array .int
  | 2 => .array .int
  | 3 => .array .int
  | 4 => .array .int
  | _ => .array .int
abbrev wsX60 : List Cond := u_ws RX6 TX6 6
theorem nmX6 : ∀ a, a < 6 → ∀ b, b < 6 → a ≠ b → (TX6 a).2.1 ≠ (TX6 b).2.1 := by decide +kernel
theorem tyX6_ok : ∀ k, k < 6 → parseFieldDescriptor (TX6 k).2.2.1 = some (tyX6 k) := by decide +kernel
abbrev cX6_init : ByteArray := prog_8_method_1_code
def yX6_init : MethodName := ⟨RX6, "<init>", "()V"⟩
abbrev cX6_has : ByteArray := prog_8_method_2_code
def yX6_has : MethodName := ⟨RX6, "has", "(I)Z"⟩
abbrev cX6_add : ByteArray := prog_8_method_3_code
def yX6_add : MethodName := ⟨RX6, "add", "(IIII)I"⟩
abbrev cX6_standsOn : ByteArray := prog_8_method_4_code
def yX6_standsOn : MethodName := ⟨RX6, "standsOn", "(II)Z"⟩
def RX7 : String := "FairHall$Plan"
def TX7 : u_T := fun k => match k with
  | 0 => ("FairHall$Plan", "found", "Z", false)
  | 1 => ("FairHall$Plan", "boardCount", "I", false)
  | 2 => ("FairHall$Plan", "judgeCount", "I", false)
  | 3 => ("FairHall$Plan", "looksDue", "I", false)
  | 4 => ("FairHall$Plan", "holding", "I", false)
  | 5 => ("FairHall$Plan", "most", "[I", true)
  | 6 => ("FairHall$Plan", "allowed", "[I", true)
  | 7 => ("FairHall$Plan", "seers", "[I", true)
  | 8 => ("FairHall$Plan", "shown", "[I", true)
  | 9 => ("FairHall$Plan", "openBoard", "I", false)
  | 10 => ("FairHall$Plan", "openJudge", "I", false)
  | 11 => ("FairHall$Plan", "reachedBoards", "I", false)
  | 12 => ("FairHall$Plan", "reachedJudges", "I", false)
  | 13 => ("FairHall$Plan", "waitingCount", "I", false)
  | 14 => ("FairHall$Plan", "waiting", "[I", true)
  | 15 => ("FairHall$Plan", "judgeBefore", "[I", true)
  | _ => ("FairHall$Plan", "boardBefore", "[I", true)
def tyX7 : Nat → FieldType := fun k => match k with
  | 0 => .boolean
  | 1 => .int
  | 2 => .int
  | 3 => .int
  | 4 => .int
  | 5 => .array .int
  | 6 => .array .int
  | 7 => .array .int
  | 8 => .array .int
  | 9 => .int
  | 10 => .int
  | 11 => .int
  | 12 => .int
  | 13 => .int
  | 14 => .array .int
  | 15 => .array .int
  | _ => .array .int
abbrev wsX70 : List Cond := u_ws RX7 TX7 17
theorem nmX7 : ∀ a, a < 17 → ∀ b, b < 17 → a ≠ b → (TX7 a).2.1 ≠ (TX7 b).2.1 := by decide +kernel
theorem tyX7_ok : ∀ k, k < 17 → parseFieldDescriptor (TX7 k).2.2.1 = some (tyX7 k) := by decide +kernel
abbrev cX7_init : ByteArray := prog_9_method_1_code
def yX7_init : MethodName := ⟨RX7, "<init>", "()V"⟩
abbrev cX7_hasBoard : ByteArray := prog_9_method_2_code
def yX7_hasBoard : MethodName := ⟨RX7, "hasBoard", "(I)Z"⟩
abbrev cX7_hasJudge : ByteArray := prog_9_method_3_code
def yX7_hasJudge : MethodName := ⟨RX7, "hasJudge", "(I)Z"⟩
abbrev cX7_begin : ByteArray := prog_9_method_4_code
def yX7_begin : MethodName := ⟨RX7, "begin", "(LFairHall$Boards;LFairHall$Judges;I)V"⟩
abbrev cX7_giveAllLooks : ByteArray := prog_9_method_5_code
def yX7_giveAllLooks : MethodName := ⟨RX7, "giveAllLooks", "()V"⟩
abbrev cX7_turnToFirst : ByteArray := prog_9_method_6_code
def yX7_turnToFirst : MethodName := ⟨RX7, "turnToFirst", "()V"⟩
abbrev cX7_findHolding : ByteArray := prog_9_method_7_code
def yX7_findHolding : MethodName := ⟨RX7, "findHolding", "()V"⟩
abbrev cX7_lackInAll : ByteArray := prog_9_method_8_code
def yX7_lackInAll : MethodName := ⟨RX7, "lackInAll", "()I"⟩
abbrev cX7_prefer : ByteArray := prog_9_method_9_code
def yX7_prefer : MethodName := ⟨RX7, "prefer", "(II)V"⟩
abbrev cX7_addLook : ByteArray := prog_9_method_10_code
def yX7_addLook : MethodName := ⟨RX7, "addLook", "()Z"⟩
abbrev cX7_reachRoom : ByteArray := prog_9_method_11_code
def yX7_reachRoom : MethodName := ⟨RX7, "reachRoom", "()I"⟩
abbrev cX7_startAtLacking : ByteArray := prog_9_method_12_code
def yX7_startAtLacking : MethodName := ⟨RX7, "startAtLacking", "()V"⟩
abbrev cX7_reachShown : ByteArray := prog_9_method_13_code
def yX7_reachShown : MethodName := ⟨RX7, "reachShown", "(I)V"⟩
abbrev cX7_reach : ByteArray := prog_9_method_14_code
def yX7_reach : MethodName := ⟨RX7, "reach", "(II)V"⟩
abbrev cX7_lacks : ByteArray := prog_9_method_15_code
def yX7_lacks : MethodName := ⟨RX7, "lacks", "(I)Z"⟩
abbrev cX7_hasRoom : ByteArray := prog_9_method_16_code
def yX7_hasRoom : MethodName := ⟨RX7, "hasRoom", "(I)Z"⟩
abbrev cX7_openJudges : ByteArray := prog_9_method_17_code
def yX7_openJudges : MethodName := ⟨RX7, "openJudges", "(I)I"⟩
abbrev cX7_openBoards : ByteArray := prog_9_method_18_code
def yX7_openBoards : MethodName := ⟨RX7, "openBoards", "(I)I"⟩
abbrev cX7_join : ByteArray := prog_9_method_19_code
def yX7_join : MethodName := ⟨RX7, "join", "(II)V"⟩
abbrev cX7_part : ByteArray := prog_9_method_20_code
def yX7_part : MethodName := ⟨RX7, "part", "(II)V"⟩
def RX8 : String := "FairHall$PrizeRows"
def TX8 : u_T := fun k => match k with
  | 0 => ("FairHall$PrizeRows", "count", "I", false)
  | 1 => ("FairHall$PrizeRows", "best", "[I", true)
  | 2 => ("FairHall$PrizeRows", "alone", "[Z", true)
  | _ => ("FairHall$PrizeRows", "wish", "[[I", true)
def tyX8 : Nat → FieldType := fun k => match k with
  | 0 => .int
  | 1 => .array .int
  | 2 => .array .boolean
  | _ => .array (.array .int)
abbrev wsX80 : List Cond := u_ws RX8 TX8 4
theorem nmX8 : ∀ a, a < 4 → ∀ b, b < 4 → a ≠ b → (TX8 a).2.1 ≠ (TX8 b).2.1 := by decide +kernel
theorem tyX8_ok : ∀ k, k < 4 → parseFieldDescriptor (TX8 k).2.2.1 = some (tyX8 k) := by decide +kernel
abbrev cX8_init : ByteArray := prog_10_method_1_code
def yX8_init : MethodName := ⟨RX8, "<init>", "()V"⟩
abbrev cX8_has : ByteArray := prog_10_method_2_code
def yX8_has : MethodName := ⟨RX8, "has", "(I)Z"⟩
abbrev cX8_addEmpty : ByteArray := prog_10_method_3_code
def yX8_addEmpty : MethodName := ⟨RX8, "addEmpty", "()V"⟩
abbrev cX8_isWished : ByteArray := prog_10_method_4_code
def yX8_isWished : MethodName := ⟨RX8, "isWished", "(ILFairHall$Boards;II)Z"⟩
abbrev cX8_meets : ByteArray := prog_10_method_5_code
def yX8_meets : MethodName := ⟨RX8, "meets", "(III)Z"⟩
def RX9 : String := "FairHall$Scale"
def TX9 : u_T := fun k => match k with
  | 0 => ("FairHall$Scale", "hardUpper", "[J", true)
  | 1 => ("FairHall$Scale", "hardLower", "[J", true)
  | 2 => ("FairHall$Scale", "size", "I", false)
  | 3 => ("FairHall$Scale", "member", "[I", true)
  | 4 => ("FairHall$Scale", "rows", "[[J", true)
  | _ => ("FairHall$Scale", "minors", "[J", true)
def tyX9 : Nat → FieldType := fun k => match k with
  | 0 => .array .long
  | 1 => .array .long
  | 2 => .int
  | 3 => .array .int
  | 4 => .array (.array .long)
  | _ => .array .long
abbrev wsX90 : List Cond := u_ws RX9 TX9 6
theorem nmX9 : ∀ a, a < 6 → ∀ b, b < 6 → a ≠ b → (TX9 a).2.1 ≠ (TX9 b).2.1 := by decide +kernel
theorem tyX9_ok : ∀ k, k < 6 → parseFieldDescriptor (TX9 k).2.2.1 = some (tyX9 k) := by decide +kernel
abbrev cX9_init : ByteArray := prog_11_method_1_code
def yX9_init : MethodName := ⟨RX9, "<init>", "()V"⟩
abbrev cX9_weighAll : ByteArray := prog_11_method_2_code
def yX9_weighAll : MethodName := ⟨RX9, "weighAll", "(LFairHall$Known;)V"⟩
abbrev cX9_weigh : ByteArray := prog_11_method_3_code
def yX9_weigh : MethodName := ⟨RX9, "weigh", "(LFairHall$Known;I)V"⟩
abbrev cX9_rate : ByteArray := prog_11_method_4_code
def yX9_rate : MethodName := ⟨RX9, "rate", "(LFairHall$Known;ILFairHall$Fraction;)V"⟩
abbrev cX9_gather : ByteArray := prog_11_method_5_code
def yX9_gather : MethodName := ⟨RX9, "gather", "(LFairHall$Known;I)V"⟩
abbrev cX9_setRows : ByteArray := prog_11_method_6_code
def yX9_setRows : MethodName := ⟨RX9, "setRows", "(LFairHall$Known;)V"⟩
abbrev cX9_addBoard : ByteArray := prog_11_method_7_code
def yX9_addBoard : MethodName := ⟨RX9, "addBoard", "(LFairHall$Known;I)V"⟩
abbrev cX9_takeShares : ByteArray := prog_11_method_8_code
def yX9_takeShares : MethodName := ⟨RX9, "takeShares", "(LFairHall$Known;III)V"⟩
abbrev cX9_determinant : ByteArray := prog_11_method_9_code
def yX9_determinant : MethodName := ⟨RX9, "determinant", "(I)J"⟩
abbrev cX9_minor : ByteArray := prog_11_method_10_code
def yX9_minor : MethodName := ⟨RX9, "minor", "(II)J"⟩
def RX10 : String := "FairHall$TextReader"
def TX10 : u_T := fun k => match k with
  | 0 => ("FairHall$TextReader", "length", "I", false)
  | 1 => ("FairHall$TextReader", "faultKind", "I", false)
  | 2 => ("FairHall$TextReader", "faultPlace", "I", false)
  | 3 => ("FairHall$TextReader", "tape", "[B", true)
  | 4 => ("FairHall$TextReader", "end", "I", false)
  | 5 => ("FairHall$TextReader", "kind", "I", false)
  | 6 => ("FairHall$TextReader", "start", "I", false)
  | _ => ("FairHall$TextReader", "behind", "I", false)
def tyX10 : Nat → FieldType := fun k => match k with
  | 0 => .int
  | 1 => .int
  | 2 => .int
  | 3 => .array .byte
  | 4 => .int
  | 5 => .int
  | 6 => .int
  | _ => .int
abbrev wsX100 : List Cond := u_ws RX10 TX10 8
theorem nmX10 : ∀ a, a < 8 → ∀ b, b < 8 → a ≠ b → (TX10 a).2.1 ≠ (TX10 b).2.1 := by decide +kernel
theorem tyX10_ok : ∀ k, k < 8 → parseFieldDescriptor (TX10 k).2.2.1 = some (tyX10 k) := by decide +kernel
abbrev cX10_init : ByteArray := prog_12_method_1_code
def yX10_init : MethodName := ⟨RX10, "<init>", "()V"⟩
abbrev cX10_take : ByteArray := prog_12_method_2_code
def yX10_take : MethodName := ⟨RX10, "take", "(I)V"⟩
abbrev cX10_read : ByteArray := prog_12_method_3_code
def yX10_read : MethodName := ⟨RX10, "read", "(ILFairHall$PrizeRows;)V"⟩
abbrev cX10_readPrize : ByteArray := prog_12_method_4_code
def yX10_readPrize : MethodName := ⟨RX10, "readPrize", "(LFairHall$PrizeRows;)V"⟩
abbrev cX10_readWishes : ByteArray := prog_12_method_5_code
def yX10_readWishes : MethodName := ⟨RX10, "readWishes", "(LFairHall$PrizeRows;I)V"⟩
abbrev cX10_wishInHand : ByteArray := prog_12_method_6_code
def yX10_wishInHand : MethodName := ⟨RX10, "wishInHand", "()I"⟩
abbrev cX10_takeWord : ByteArray := prog_12_method_7_code
def yX10_takeWord : MethodName := ⟨RX10, "takeWord", "(Ljava/lang/String;)V"⟩
abbrev cX10_takeStop : ByteArray := prog_12_method_8_code
def yX10_takeStop : MethodName := ⟨RX10, "takeStop", "()V"⟩
abbrev cX10_takeNumber : ByteArray := prog_12_method_9_code
def yX10_takeNumber : MethodName := ⟨RX10, "takeNumber", "(II)I"⟩
abbrev cX10_blame : ByteArray := prog_12_method_10_code
def yX10_blame : MethodName := ⟨RX10, "blame", "(I)V"⟩
abbrev cX10_isWord : ByteArray := prog_12_method_11_code
def yX10_isWord : MethodName := ⟨RX10, "isWord", "(Ljava/lang/String;)Z"⟩
abbrev cX10_step : ByteArray := prog_12_method_12_code
def yX10_step : MethodName := ⟨RX10, "step", "()V"⟩
abbrev cX10_endOfRun : ByteArray := prog_12_method_13_code
def yX10_endOfRun : MethodName := ⟨RX10, "endOfRun", "(CC)I"⟩
def RX11 : String := "FairHall"
def TX11 : u_T := fun k => match k with
  | 0 => ("FairHall", "boards", "LFairHall$Boards;", true)
  | 1 => ("FairHall", "judges", "LFairHall$Judges;", true)
  | 2 => ("FairHall", "best", "LFairHall$Plan;", true)
  | 3 => ("FairHall", "marks", "LFairHall$Marks;", true)
  | 4 => ("FairHall", "known", "LFairHall$Known;", true)
  | 5 => ("FairHall", "scale", "LFairHall$Scale;", true)
  | 6 => ("FairHall", "fraction", "LFairHall$Fraction;", true)
  | 7 => ("FairHall", "reader", "LFairHall$TextReader;", true)
  | 8 => ("FairHall", "giver", "LFairHall$Giver;", true)
  | 9 => ("FairHall", "halls", "LFairHall$Halls;", true)
  | 10 => ("FairHall", "kept", "LFairHall$PrizeRows;", false)
  | 11 => ("FairHall", "spare", "LFairHall$PrizeRows;", false)
  | 12 => ("FairHall", "looksDue", "I", false)
  | _ => ("FairHall", "latest", "I", false)
def tyX11 : Nat → FieldType := fun k => match k with
  | 0 => .object "FairHall$Boards"
  | 1 => .object "FairHall$Judges"
  | 2 => .object "FairHall$Plan"
  | 3 => .object "FairHall$Marks"
  | 4 => .object "FairHall$Known"
  | 5 => .object "FairHall$Scale"
  | 6 => .object "FairHall$Fraction"
  | 7 => .object "FairHall$TextReader"
  | 8 => .object "FairHall$Giver"
  | 9 => .object "FairHall$Halls"
  | 10 => .object "FairHall$PrizeRows"
  | 11 => .object "FairHall$PrizeRows"
  | 12 => .int
  | _ => .int
abbrev wsX110 : List Cond := u_ws RX11 TX11 14
theorem nmX11 : ∀ a, a < 14 → ∀ b, b < 14 → a ≠ b → (TX11 a).2.1 ≠ (TX11 b).2.1 := by decide +kernel
theorem tyX11_ok : ∀ k, k < 14 → parseFieldDescriptor (TX11 k).2.2.1 = some (tyX11 k) := by decide +kernel
abbrev cX11_init : ByteArray := prog_1_method_1_code
def yX11_init : MethodName := ⟨RX11, "<init>", "()V"⟩
abbrev cX11_status : ByteArray := prog_1_method_2_code
def yX11_status : MethodName := ⟨RX11, "status", "()I"⟩
abbrev cX11_board : ByteArray := prog_1_method_3_code
def yX11_board : MethodName := ⟨RX11, "board", "(IIIIZ)I"⟩
abbrev cX11_judge : ByteArray := prog_1_method_4_code
def yX11_judge : MethodName := ⟨RX11, "judge", "(III)I"⟩
abbrev cX11_told : ByteArray := prog_1_method_5_code
def yX11_told : MethodName := ⟨RX11, "told", "(II)I"⟩
abbrev cX11_may : ByteArray := prog_1_method_6_code
def yX11_may : MethodName := ⟨RX11, "may", "(II)I"⟩
abbrev cX11_looks : ByteArray := prog_1_method_7_code
def yX11_looks : MethodName := ⟨RX11, "looks", "(I)Z"⟩
abbrev cX11_plan : ByteArray := prog_1_method_8_code
def yX11_plan : MethodName := ⟨RX11, "plan", "()I"⟩
abbrev cX11_sees : ByteArray := prog_1_method_9_code
def yX11_sees : MethodName := ⟨RX11, "sees", "(II)I"⟩
abbrev cX11_holds : ByteArray := prog_1_method_10_code
def yX11_holds : MethodName := ⟨RX11, "holds", "(I)I"⟩
abbrev cX11_mark : ByteArray := prog_1_method_11_code
def yX11_mark : MethodName := ⟨RX11, "mark", "(IIII)I"⟩
abbrev cX11_lose : ByteArray := prog_1_method_12_code
def yX11_lose : MethodName := ⟨RX11, "lose", "(II)Z"⟩
abbrev cX11_seen : ByteArray := prog_1_method_13_code
def yX11_seen : MethodName := ⟨RX11, "seen", "(II)I"⟩
abbrev cX11_heap : ByteArray := prog_1_method_14_code
def yX11_heap : MethodName := ⟨RX11, "heap", "(II)I"⟩
abbrev cX11_hardness : ByteArray := prog_1_method_15_code
def yX11_hardness : MethodName := ⟨RX11, "hardness", "(II)Z"⟩
abbrev cX11_fair : ByteArray := prog_1_method_16_code
def yX11_fair : MethodName := ⟨RX11, "fair", "(II)Z"⟩
abbrev cX11_upper : ByteArray := prog_1_method_17_code
def yX11_upper : MethodName := ⟨RX11, "upper", "()J"⟩
abbrev cX11_lower : ByteArray := prog_1_method_18_code
def yX11_lower : MethodName := ⟨RX11, "lower", "()J"⟩
abbrev cX11_feed : ByteArray := prog_1_method_19_code
def yX11_feed : MethodName := ⟨RX11, "feed", "(IIIII)I"⟩
abbrev cX11_prizes : ByteArray := prog_1_method_20_code
def yX11_prizes : MethodName := ⟨RX11, "prizes", "(I)I"⟩
abbrev cX11_fault : ByteArray := prog_1_method_21_code
def yX11_fault : MethodName := ⟨RX11, "fault", "(I)I"⟩
abbrev cX11_given : ByteArray := prog_1_method_22_code
def yX11_given : MethodName := ⟨RX11, "given", "(III)I"⟩
abbrev cX11_hall : ByteArray := prog_1_method_23_code
def yX11_hall : MethodName := ⟨RX11, "hall", "(III)I"⟩
abbrev cX11_clear : ByteArray := prog_1_method_24_code
def yX11_clear : MethodName := ⟨RX11, "clear", "()Z"⟩
abbrev cX11_laid : ByteArray := prog_1_method_25_code
def yX11_laid : MethodName := ⟨RX11, "laid", "(I)I"⟩
abbrev cX11_tries : ByteArray := prog_1_method_26_code
def yX11_tries : MethodName := ⟨RX11, "tries", "()I"⟩
abbrev cX11_answer : ByteArray := prog_1_method_27_code
def yX11_answer : MethodName := ⟨RX11, "answer", "(I)I"⟩
abbrev cX11_yes : ByteArray := prog_1_method_28_code
def yX11_yes : MethodName := ⟨RX11, "yes", "()Z"⟩
abbrev cX11_none : ByteArray := prog_1_method_29_code
def yX11_none : MethodName := ⟨RX11, "none", "(I)I"⟩
abbrev cX11_no : ByteArray := prog_1_method_30_code
def yX11_no : MethodName := ⟨RX11, "no", "(I)Z"⟩
abbrev cX11_whyNoHeap : ByteArray := prog_1_method_31_code
def yX11_whyNoHeap : MethodName := ⟨RX11, "whyNoHeap", "(II)I"⟩
abbrev cX11_within : ByteArray := prog_1_method_32_code
def yX11_within : MethodName := ⟨RX11, "within", "(III)Z"⟩
abbrev cX11_isDay : ByteArray := prog_1_method_33_code
def yX11_isDay : MethodName := ⟨RX11, "isDay", "(I)Z"⟩
abbrev cX11_lowestBit : ByteArray := prog_1_method_34_code
def yX11_lowestBit : MethodName := ⟨RX11, "lowestBit", "(I)I"⟩
def RX12 : String := "FairHallModel"
def TX12 : u_T := fun k => match k with
  | 0 => ("FairHallModel", "status", "I", false)
  | 1 => ("FairHallModel", "thrown", "I", false)
  | 2 => ("FairHallModel", "above", "J", false)
  | 3 => ("FairHallModel", "under", "J", false)
  | 4 => ("FairHallModel", "boards", "I", false)
  | 5 => ("FairHallModel", "judges", "I", false)
  | 6 => ("FairHallModel", "looks", "I", false)
  | 7 => ("FairHallModel", "field", "[I", true)
  | 8 => ("FairHallModel", "age", "[I", true)
  | 9 => ("FairHallModel", "school", "[I", true)
  | 10 => ("FairHallModel", "power", "[I", true)
  | 11 => ("FairHallModel", "fields", "[I", true)
  | 12 => ("FairHallModel", "theirs", "[I", true)
  | 13 => ("FairHallModel", "most", "[I", true)
  | 14 => ("FairHallModel", "water", "[Z", true)
  | 15 => ("FairHallModel", "hasPlan", "Z", false)
  | 16 => ("FairHallModel", "planBoards", "I", false)
  | 17 => ("FairHallModel", "planJudges", "I", false)
  | 18 => ("FairHallModel", "plan", "[Z", true)
  | 19 => ("FairHallModel", "now", "[Z", true)
  | 20 => ("FairHallModel", "holding", "[Z", true)
  | 21 => ("FairHallModel", "ledJudge", "[Z", true)
  | 22 => ("FairHallModel", "ledBoard", "[Z", true)
  | 23 => ("FairHallModel", "fixed", "[I", true)
  | 24 => ("FairHallModel", "had", "[I", true)
  | 25 => ("FairHallModel", "load", "[I", true)
  | 26 => ("FairHallModel", "by", "[I", true)
  | 27 => ("FairHallModel", "queue", "[I", true)
  | 28 => ("FairHallModel", "came", "[I", true)
  | 29 => ("FairHallModel", "marks", "I", false)
  | 30 => ("FairHallModel", "markJudge", "[I", true)
  | 31 => ("FairHallModel", "markBoard", "[I", true)
  | 32 => ("FairHallModel", "mark", "[I", true)
  | 33 => ("FairHallModel", "markDay", "[I", true)
  | 34 => ("FairHallModel", "lostDay", "[I", true)
  | 35 => ("FairHallModel", "counts", "[I", true)
  | 36 => ("FairHallModel", "heap", "[I", true)
  | 37 => ("FairHallModel", "heapJudge", "[I", true)
  | 38 => ("FairHallModel", "order", "[I", true)
  | 39 => ("FairHallModel", "heapMany", "I", false)
  | 40 => ("FairHallModel", "lines", "[J", true)
  | 41 => ("FairHallModel", "right", "[J", true)
  | 42 => ("FairHallModel", "upperOf", "[J", true)
  | 43 => ("FairHallModel", "lowerOf", "J", false)
  | 44 => ("FairHallModel", "tape", "[B", true)
  | 45 => ("FairHallModel", "taped", "I", false)
  | 46 => ("FairHallModel", "end", "I", false)
  | 47 => ("FairHallModel", "faultKind", "I", false)
  | 48 => ("FairHallModel", "faultAt", "I", false)
  | 49 => ("FairHallModel", "bad", "I", false)
  | 50 => ("FairHallModel", "badAt", "I", false)
  | 51 => ("FairHallModel", "prizes", "I", false)
  | 52 => ("FairHallModel", "newPrizes", "I", false)
  | 53 => ("FairHallModel", "wishField", "[I", true)
  | 54 => ("FairHallModel", "wishAge", "[I", true)
  | 55 => ("FairHallModel", "wishSchool", "[I", true)
  | 56 => ("FairHallModel", "wishSeen", "[I", true)
  | 57 => ("FairHallModel", "best", "[I", true)
  | 58 => ("FairHallModel", "alone", "[Z", true)
  | 59 => ("FairHallModel", "newField", "[I", true)
  | 60 => ("FairHallModel", "newAge", "[I", true)
  | 61 => ("FairHallModel", "newSchool", "[I", true)
  | 62 => ("FairHallModel", "newSeen", "[I", true)
  | 63 => ("FairHallModel", "newBest", "[I", true)
  | 64 => ("FairHallModel", "newAlone", "[Z", true)
  | 65 => ("FairHallModel", "fairTop", "[J", true)
  | 66 => ("FairHallModel", "fairLow", "[J", true)
  | 67 => ("FairHallModel", "hasFair", "[Z", true)
  | 68 => ("FairHallModel", "hasPrize", "[Z", true)
  | 69 => ("FairHallModel", "taken", "[Z", true)
  | 70 => ("FairHallModel", "halls", "I", false)
  | 71 => ("FairHallModel", "tries", "I", false)
  | 72 => ("FairHallModel", "places", "[I", true)
  | 73 => ("FairHallModel", "bears", "[I", true)
  | 74 => ("FairHallModel", "wet", "[I", true)
  | 75 => ("FairHallModel", "lies", "[I", true)
  | 76 => ("FairHallModel", "usedPlaces", "[I", true)
  | 77 => ("FairHallModel", "usedPower", "[I", true)
  | 78 => ("FairHallModel", "usedWater", "[I", true)
  | 79 => ("FairHallModel", "fairA", "J", false)
  | 80 => ("FairHallModel", "fairB", "J", false)
  | 81 => ("FairHallModel", "sort", "I", false)
  | 82 => ("FairHallModel", "place", "I", false)
  | 83 => ("FairHallModel", "behind", "I", false)
  | 84 => ("FairHallModel", "number", "I", false)
  | _ => ("FairHallModel", "word", "J", false)
def tyX12 : Nat → FieldType := fun k => match k with
  | 0 => .int
  | 1 => .int
  | 2 => .long
  | 3 => .long
  | 4 => .int
  | 5 => .int
  | 6 => .int
  | 7 => .array .int
  | 8 => .array .int
  | 9 => .array .int
  | 10 => .array .int
  | 11 => .array .int
  | 12 => .array .int
  | 13 => .array .int
  | 14 => .array .boolean
  | 15 => .boolean
  | 16 => .int
  | 17 => .int
  | 18 => .array .boolean
  | 19 => .array .boolean
  | 20 => .array .boolean
  | 21 => .array .boolean
  | 22 => .array .boolean
  | 23 => .array .int
  | 24 => .array .int
  | 25 => .array .int
  | 26 => .array .int
  | 27 => .array .int
  | 28 => .array .int
  | 29 => .int
  | 30 => .array .int
  | 31 => .array .int
  | 32 => .array .int
  | 33 => .array .int
  | 34 => .array .int
  | 35 => .array .int
  | 36 => .array .int
  | 37 => .array .int
  | 38 => .array .int
  | 39 => .int
  | 40 => .array .long
  | 41 => .array .long
  | 42 => .array .long
  | 43 => .long
  | 44 => .array .byte
  | 45 => .int
  | 46 => .int
  | 47 => .int
  | 48 => .int
  | 49 => .int
  | 50 => .int
  | 51 => .int
  | 52 => .int
  | 53 => .array .int
  | 54 => .array .int
  | 55 => .array .int
  | 56 => .array .int
  | 57 => .array .int
  | 58 => .array .boolean
  | 59 => .array .int
  | 60 => .array .int
  | 61 => .array .int
  | 62 => .array .int
  | 63 => .array .int
  | 64 => .array .boolean
  | 65 => .array .long
  | 66 => .array .long
  | 67 => .array .boolean
  | 68 => .array .boolean
  | 69 => .array .boolean
  | 70 => .int
  | 71 => .int
  | 72 => .array .int
  | 73 => .array .int
  | 74 => .array .int
  | 75 => .array .int
  | 76 => .array .int
  | 77 => .array .int
  | 78 => .array .int
  | 79 => .long
  | 80 => .long
  | 81 => .int
  | 82 => .int
  | 83 => .int
  | 84 => .int
  | _ => .long
abbrev wsX120 : List Cond := u_ws RX12 TX12 86
theorem nmX12 : ∀ a, a < 86 → ∀ b, b < 86 → a ≠ b → (TX12 a).2.1 ≠ (TX12 b).2.1 := by decide +kernel
theorem tyX12_ok : ∀ k, k < 86 → parseFieldDescriptor (TX12 k).2.2.1 = some (tyX12 k) := by decide +kernel
abbrev cX12_init : ByteArray := prog_14_method_1_code
def yX12_init : MethodName := ⟨RX12, "<init>", "()V"⟩
abbrev cX12_status : ByteArray := prog_14_method_3_code
def yX12_status : MethodName := ⟨RX12, "status", "()I"⟩
abbrev cX12_refuse : ByteArray := prog_14_method_4_code
def yX12_refuse : MethodName := ⟨RX12, "refuse", "(I)I"⟩
abbrev cX12_no : ByteArray := prog_14_method_5_code
def yX12_no : MethodName := ⟨RX12, "no", "(I)Z"⟩
abbrev cX12_board : ByteArray := prog_14_method_6_code
def yX12_board : MethodName := ⟨RX12, "board", "(IIIIZ)I"⟩
abbrev cX12_judge : ByteArray := prog_14_method_7_code
def yX12_judge : MethodName := ⟨RX12, "judge", "(III)I"⟩
abbrev cX12_isBoard : ByteArray := prog_14_method_8_code
def yX12_isBoard : MethodName := ⟨RX12, "isBoard", "(I)Z"⟩
abbrev cX12_isJudge : ByteArray := prog_14_method_9_code
def yX12_isJudge : MethodName := ⟨RX12, "isJudge", "(I)Z"⟩
abbrev cX12_mayOf : ByteArray := prog_14_method_10_code
def yX12_mayOf : MethodName := ⟨RX12, "mayOf", "(II)Z"⟩
abbrev cX12_told : ByteArray := prog_14_method_11_code
def yX12_told : MethodName := ⟨RX12, "told", "(II)I"⟩
abbrev cX12_may : ByteArray := prog_14_method_12_code
def yX12_may : MethodName := ⟨RX12, "may", "(II)I"⟩
abbrev cX12_looks : ByteArray := prog_14_method_13_code
def yX12_looks : MethodName := ⟨RX12, "looks", "(I)Z"⟩
abbrev cX12_at : ByteArray := prog_14_method_14_code
def yX12_at : MethodName := ⟨RX12, "at", "(II)I"⟩
abbrev cX12_find : ByteArray := prog_14_method_15_code
def yX12_find : MethodName := ⟨RX12, "find", "()I"⟩
abbrev cX12_isFree : ByteArray := prog_14_method_16_code
def yX12_isFree : MethodName := ⟨RX12, "isFree", "(II)Z"⟩
abbrev cX12_grows : ByteArray := prog_14_method_17_code
def yX12_grows : MethodName := ⟨RX12, "grows", "(I)Z"⟩
abbrev cX12_turns : ByteArray := prog_14_method_18_code
def yX12_turns : MethodName := ⟨RX12, "turns", "(I)V"⟩
abbrev cX12_plan : ByteArray := prog_14_method_19_code
def yX12_plan : MethodName := ⟨RX12, "plan", "()I"⟩
abbrev cX12_sees : ByteArray := prog_14_method_20_code
def yX12_sees : MethodName := ⟨RX12, "sees", "(II)I"⟩
abbrev cX12_holds : ByteArray := prog_14_method_21_code
def yX12_holds : MethodName := ⟨RX12, "holds", "(I)I"⟩
abbrev cX12_isDay : ByteArray := prog_14_method_22_code
def yX12_isDay : MethodName := ⟨RX12, "isDay", "(I)Z"⟩
abbrev cX12_mark : ByteArray := prog_14_method_23_code
def yX12_mark : MethodName := ⟨RX12, "mark", "(IIII)I"⟩
abbrev cX12_lose : ByteArray := prog_14_method_24_code
def yX12_lose : MethodName := ⟨RX12, "lose", "(II)Z"⟩
abbrev cX12_known : ByteArray := prog_14_method_25_code
def yX12_known : MethodName := ⟨RX12, "known", "(I)V"⟩
abbrev cX12_countOf : ByteArray := prog_14_method_26_code
def yX12_countOf : MethodName := ⟨RX12, "countOf", "(I)I"⟩
abbrev cX12_seen : ByteArray := prog_14_method_27_code
def yX12_seen : MethodName := ⟨RX12, "seen", "(II)I"⟩
abbrev cX12_heap : ByteArray := prog_14_method_28_code
def yX12_heap : MethodName := ⟨RX12, "heap", "(II)I"⟩
abbrev cX12_sizeOf : ByteArray := prog_14_method_29_code
def yX12_sizeOf : MethodName := ⟨RX12, "sizeOf", "(I)I"⟩
abbrev cX12_square : ByteArray := prog_14_method_30_code
def yX12_square : MethodName := ⟨RX12, "square", "(I)J"⟩
abbrev cX12_solve : ByteArray := prog_14_method_31_code
def yX12_solve : MethodName := ⟨RX12, "solve", "(I)V"⟩
abbrev cX12_common : ByteArray := prog_14_method_32_code
def yX12_common : MethodName := ⟨RX12, "common", "(JJ)J"⟩
abbrev cX12_tells : ByteArray := prog_14_method_33_code
def yX12_tells : MethodName := ⟨RX12, "tells", "(JJ)V"⟩
abbrev cX12_hardness : ByteArray := prog_14_method_34_code
def yX12_hardness : MethodName := ⟨RX12, "hardness", "(II)Z"⟩
abbrev cX12_fairOf : ByteArray := prog_14_method_35_code
def yX12_fairOf : MethodName := ⟨RX12, "fairOf", "(I)V"⟩
abbrev cX12_fair : ByteArray := prog_14_method_36_code
def yX12_fair : MethodName := ⟨RX12, "fair", "(II)Z"⟩
abbrev cX12_upper : ByteArray := prog_14_method_37_code
def yX12_upper : MethodName := ⟨RX12, "upper", "()J"⟩
abbrev cX12_lower : ByteArray := prog_14_method_38_code
def yX12_lower : MethodName := ⟨RX12, "lower", "()J"⟩
abbrev cX12_look : ByteArray := prog_14_method_39_code
def yX12_look : MethodName := ⟨RX12, "look", "(I)I"⟩
abbrev cX12_isLetter : ByteArray := prog_14_method_40_code
def yX12_isLetter : MethodName := ⟨RX12, "isLetter", "(I)Z"⟩
abbrev cX12_isDigit : ByteArray := prog_14_method_41_code
def yX12_isDigit : MethodName := ⟨RX12, "isDigit", "(I)Z"⟩
abbrev cX12_next : ByteArray := prog_14_method_42_code
def yX12_next : MethodName := ⟨RX12, "next", "()V"⟩
abbrev cX12_spelled : ByteArray := prog_14_method_43_code
def yX12_spelled : MethodName := ⟨RX12, "spelled", "(IIIIII)J"⟩
abbrev cX12_isWord : ByteArray := prog_14_method_44_code
def yX12_isWord : MethodName := ⟨RX12, "isWord", "(J)Z"⟩
abbrev cX12_fail : ByteArray := prog_14_method_45_code
def yX12_fail : MethodName := ⟨RX12, "fail", "(II)V"⟩
abbrev cX12_wrong : ByteArray := prog_14_method_46_code
def yX12_wrong : MethodName := ⟨RX12, "wrong", "()V"⟩
abbrev cX12_numberOf : ByteArray := prog_14_method_47_code
def yX12_numberOf : MethodName := ⟨RX12, "numberOf", "(II)I"⟩
abbrev cX12_wishOf : ByteArray := prog_14_method_48_code
def yX12_wishOf : MethodName := ⟨RX12, "wishOf", "()I"⟩
abbrev cX12_readPrize : ByteArray := prog_14_method_49_code
def yX12_readPrize : MethodName := ⟨RX12, "readPrize", "()V"⟩
abbrev cX12_feed : ByteArray := prog_14_method_50_code
def yX12_feed : MethodName := ⟨RX12, "feed", "(IIIII)I"⟩
abbrev cX12_lay : ByteArray := prog_14_method_51_code
def yX12_lay : MethodName := ⟨RX12, "lay", "(I)V"⟩
abbrev cX12_prizes : ByteArray := prog_14_method_52_code
def yX12_prizes : MethodName := ⟨RX12, "prizes", "(I)I"⟩
abbrev cX12_fault : ByteArray := prog_14_method_53_code
def yX12_fault : MethodName := ⟨RX12, "fault", "(I)I"⟩
abbrev cX12_isAbove : ByteArray := prog_14_method_54_code
def yX12_isAbove : MethodName := ⟨RX12, "isAbove", "(JJJJ)Z"⟩
abbrev cX12_wants : ByteArray := prog_14_method_55_code
def yX12_wants : MethodName := ⟨RX12, "wants", "(II)Z"⟩
abbrev cX12_given : ByteArray := prog_14_method_56_code
def yX12_given : MethodName := ⟨RX12, "given", "(III)I"⟩
abbrev cX12_hall : ByteArray := prog_14_method_57_code
def yX12_hall : MethodName := ⟨RX12, "hall", "(III)I"⟩
abbrev cX12_clear : ByteArray := prog_14_method_58_code
def yX12_clear : MethodName := ⟨RX12, "clear", "()Z"⟩
abbrev cX12_puts : ByteArray := prog_14_method_59_code
def yX12_puts : MethodName := ⟨RX12, "puts", "(III)V"⟩
abbrev cX12_canBear : ByteArray := prog_14_method_60_code
def yX12_canBear : MethodName := ⟨RX12, "canBear", "(II)Z"⟩
abbrev cX12_lays : ByteArray := prog_14_method_61_code
def yX12_lays : MethodName := ⟨RX12, "lays", "()I"⟩
abbrev cX12_laid : ByteArray := prog_14_method_62_code
def yX12_laid : MethodName := ⟨RX12, "laid", "(I)I"⟩
abbrev cX12_tries : ByteArray := prog_14_method_63_code
def yX12_tries : MethodName := ⟨RX12, "tries", "()I"⟩
def RJ6 : String := "java/lang/Integer"
def TJ6 : u_T := fun k => match k with
  | _ => ("", "", "", false)
def tyJ6 : Nat → FieldType := fun k => match k with
  | _ => .int
abbrev wsJ60 : List Cond := u_ws RJ6 TJ6 0
theorem nmJ6 : ∀ a, a < 0 → ∀ b, b < 0 → a ≠ b → (TJ6 a).2.1 ≠ (TJ6 b).2.1 := by decide +kernel
theorem tyJ6_ok : ∀ k, k < 0 → parseFieldDescriptor (TJ6 k).2.2.1 = some (tyJ6 k) := by decide +kernel
abbrev cJ6_bitCount_0f7a4 : ByteArray := prog_15_method_49_code
def yJ6_bitCount_0f7a4 : MethodName := ⟨RJ6, "bitCount", "(I)I"⟩
def RJ9 : String := "java/lang/Math"
def TJ9 : u_T := fun k => match k with
  | _ => ("", "", "", false)
def tyJ9 : Nat → FieldType := fun k => match k with
  | _ => .int
abbrev wsJ90 : List Cond := u_ws RJ9 TJ9 0
theorem nmJ9 : ∀ a, a < 0 → ∀ b, b < 0 → a ≠ b → (TJ9 a).2.1 ≠ (TJ9 b).2.1 := by decide +kernel
theorem tyJ9_ok : ∀ k, k < 0 → parseFieldDescriptor (TJ9 k).2.2.1 = some (tyJ9 k) := by decide +kernel
abbrev cJ9_floorDiv_f86c9 : ByteArray := prog_16_method_49_code
def yJ9_floorDiv_f86c9 : MethodName := ⟨RJ9, "floorDiv", "(JJ)J"⟩
abbrev cJ9_floorMod_f86c9 : ByteArray := prog_16_method_52_code
def yJ9_floorMod_f86c9 : MethodName := ⟨RJ9, "floorMod", "(JJ)J"⟩
abbrev cJ9_abs_067f4 : ByteArray := prog_16_method_61_code
def yJ9_abs_067f4 : MethodName := ⟨RJ9, "abs", "(J)J"⟩
abbrev cJ9_max_7cf53 : ByteArray := prog_16_method_65_code
def yJ9_max_7cf53 : MethodName := ⟨RJ9, "max", "(II)I"⟩
abbrev cJ9_min_7cf53 : ByteArray := prog_16_method_69_code
def yJ9_min_7cf53 : MethodName := ⟨RJ9, "min", "(II)I"⟩
def RJ0 : String := "java/lang/String"
def TJ0 : u_T := fun k => match k with
  | _ => ("", "", "", false)
def tyJ0 : Nat → FieldType := fun k => match k with
  | _ => .int
abbrev wsJ00 : List Cond := u_ws RJ0 TJ0 0
theorem nmJ0 : ∀ a, a < 0 → ∀ b, b < 0 → a ≠ b → (TJ0 a).2.1 ≠ (TJ0 b).2.1 := by decide +kernel
theorem tyJ0_ok : ∀ k, k < 0 → parseFieldDescriptor (TJ0 k).2.2.1 = some (tyJ0 k) := by decide +kernel
abbrev cJ0_length_8abf5 : ByteArray := prog_17_method_54_code
def yJ0_length_8abf5 : MethodName := ⟨RJ0, "length", "()I"⟩
abbrev cJ0_charAt_5068e : ByteArray := prog_17_method_56_code
def yJ0_charAt_5068e : MethodName := ⟨RJ0, "charAt", "(I)C"⟩
abbrev cJ0_coder_7d493 : ByteArray := prog_17_method_152_code
def yJ0_coder_7d493 : MethodName := ⟨RJ0, "coder", "()B"⟩
abbrev cJ0_isLatin1_aae02 : ByteArray := prog_17_method_154_code
def yJ0_isLatin1_aae02 : MethodName := ⟨RJ0, "isLatin1", "()Z"⟩
abbrev cJ0_checkIndex_df160 : ByteArray := prog_17_method_155_code
def yJ0_checkIndex_df160 : MethodName := ⟨RJ0, "checkIndex", "(II)V"⟩
def RJ1 : String := "java/lang/StringLatin1"
def TJ1 : u_T := fun k => match k with
  | _ => ("", "", "", false)
def tyJ1 : Nat → FieldType := fun k => match k with
  | _ => .int
abbrev wsJ10 : List Cond := u_ws RJ1 TJ1 0
theorem nmJ1 : ∀ a, a < 0 → ∀ b, b < 0 → a ≠ b → (TJ1 a).2.1 ≠ (TJ1 b).2.1 := by decide +kernel
theorem tyJ1_ok : ∀ k, k < 0 → parseFieldDescriptor (TJ1 k).2.2.1 = some (tyJ1 k) := by decide +kernel
abbrev cJ1_charAt_3b067 : ByteArray := prog_18_method_2_code
def yJ1_charAt_3b067 : MethodName := ⟨RJ1, "charAt", "([BI)C"⟩
def RJ2 : String := "java/lang/StringUTF16"
def TJ2 : u_T := fun k => match k with
  | _ => ("", "", "", false)
def tyJ2 : Nat → FieldType := fun k => match k with
  | _ => .int
abbrev wsJ20 : List Cond := u_ws RJ2 TJ2 0
theorem nmJ2 : ∀ a, a < 0 → ∀ b, b < 0 → a ≠ b → (TJ2 a).2.1 ≠ (TJ2 b).2.1 := by decide +kernel
theorem tyJ2_ok : ∀ k, k < 0 → parseFieldDescriptor (TJ2 k).2.2.1 = some (tyJ2 k) := by decide +kernel
abbrev cJ2_getChar_3b067 : ByteArray := prog_19_method_5_code
def yJ2_getChar_3b067 : MethodName := ⟨RJ2, "getChar", "([BI)C"⟩
abbrev cJ2_length_9d52b : ByteArray := prog_19_method_6_code
def yJ2_length_9d52b : MethodName := ⟨RJ2, "length", "([B)I"⟩
abbrev cJ2_charAt_3b067 : ByteArray := prog_19_method_83_code
def yJ2_charAt_3b067 : MethodName := ⟨RJ2, "charAt", "([BI)C"⟩
abbrev cJ2_checkIndex_2214a : ByteArray := prog_19_method_91_code
def yJ2_checkIndex_2214a : MethodName := ⟨RJ2, "checkIndex", "(I[B)V"⟩
def RJ3 : String := "jdk/internal/util/Preconditions"
def TJ3 : u_T := fun k => match k with
  | _ => ("", "", "", false)
def tyJ3 : Nat → FieldType := fun k => match k with
  | _ => .int
abbrev wsJ30 : List Cond := u_ws RJ3 TJ3 0
theorem nmJ3 : ∀ a, a < 0 → ∀ b, b < 0 → a ≠ b → (TJ3 a).2.1 ≠ (TJ3 b).2.1 := by decide +kernel
theorem tyJ3_ok : ∀ k, k < 0 → parseFieldDescriptor (TJ3 k).2.2.1 = some (tyJ3 k) := by decide +kernel
abbrev cJ3_checkIndex_8e157 : ByteArray := prog_20_method_11_code
def yJ3_checkIndex_8e157 : MethodName := ⟨RJ3, "checkIndex", "(IILjava/util/function/BiFunction;)I"⟩
def RL : String := "FairHallLaw"
abbrev cL_law : ByteArray := code
def yL_law : MethodName := ⟨RL, "law", "([I)Z"⟩
abbrev vwCl : List vw_C := [(RX0, TX0, 6), (RX1, TX1, 2), (RX2, TX2, 6), (RX3, TX3, 11), (RX4, TX4, 4), (RX5, TX5, 3), (RX6, TX6, 6), (RX7, TX7, 17), (RX8, TX8, 4), (RX9, TX9, 6), (RX10, TX10, 8), (RX11, TX11, 14), (RX12, TX12, 86)]
def gt : List Cond := lw_tbl.filter goodWord
theorem gt_mem {w : Cond} (h : w ∈ lw_tbl) (hg : goodWord w = true) : w ∈ gt := List.mem_filter.mpr ⟨h, hg⟩
theorem gt_good : ∀ w ∈ gt, goodWord w = true := fun _ h => (List.mem_filter.mp h).2
theorem gt_tbl : ∀ w ∈ gt, w ∈ lw_tbl := fun _ h => (List.mem_filter.mp h).1
theorem tmem {w : Cond} (i : Nat) (h : tables_1[i]? = some w) (hg : goodWord w = true) : w ∈ gt := gt_mem (List.mem_append_right _ (List.mem_of_getElem? h)) hg
theorem smem {w : Cond} (i : Nat) (h : (k2_sels lw_privs)[i]? = some w) (hg : goodWord w = true) : w ∈ gt := gt_mem (List.mem_append_left _ (List.mem_of_getElem? h)) hg
theorem tmems {ws : List Cond} (ps : List Nat) (h : ws = ps.filterMap (fun i => tables_1[i]?)) (hg : ws.all goodWord = true) : ∀ w ∈ ws, w ∈ gt := by
  intro w hw
  have h2 := List.all_eq_true.mp hg w hw
  rw [h] at hw
  obtain ⟨i, -, hi⟩ := List.mem_filterMap.mp hw
  exact tmem i hi h2
theorem inX0 : ∀ w ∈ u_ws RX0 TX0 6, w ∈ gt := tmems [50, 52, 54, 56, 58, 60] (by decide +kernel) (by decide +kernel)
theorem inX1 : ∀ w ∈ u_ws RX1 TX1 2, w ∈ gt := tmems [237, 239] (by decide +kernel) (by decide +kernel)
theorem inX2 : ∀ w ∈ u_ws RX2 TX2 6, w ∈ gt := tmems [294, 296, 298, 300, 302, 304] (by decide +kernel) (by decide +kernel)
theorem inX3 : ∀ w ∈ u_ws RX3 TX3 11, w ∈ gt := tmems [328, 330, 332, 334, 336, 338, 340, 342, 344, 346, 348] (by decide +kernel) (by decide +kernel)
theorem inX4 : ∀ w ∈ u_ws RX4 TX4 4, w ∈ gt := tmems [77, 79, 81, 83] (by decide +kernel) (by decide +kernel)
theorem inX5 : ∀ w ∈ u_ws RX5 TX5 3, w ∈ gt := tmems [190, 192, 194] (by decide +kernel) (by decide +kernel)
theorem inX6 : ∀ w ∈ u_ws RX6 TX6 6, w ∈ gt := tmems [166, 168, 170, 172, 174, 176] (by decide +kernel) (by decide +kernel)
theorem inX7 : ∀ w ∈ u_ws RX7 TX7 17, w ∈ gt := tmems [112, 114, 116, 118, 120, 122, 124, 126, 128, 130, 132, 134, 136, 138, 140, 142, 144] (by decide +kernel) (by decide +kernel)
theorem inX8 : ∀ w ∈ u_ws RX8 TX8 4, w ∈ gt := tmems [370, 372, 374, 376] (by decide +kernel) (by decide +kernel)
theorem inX9 : ∀ w ∈ u_ws RX9 TX9 6, w ∈ gt := tmems [213, 215, 217, 219, 221, 223] (by decide +kernel) (by decide +kernel)
theorem inX10 : ∀ w ∈ u_ws RX10 TX10 8, w ∈ gt := tmems [259, 261, 263, 265, 267, 269, 271, 273] (by decide +kernel) (by decide +kernel)
theorem inX11 : ∀ w ∈ u_ws RX11 TX11 14, w ∈ gt := tmems [393, 395, 397, 399, 401, 403, 405, 407, 409, 411, 413, 415, 417, 419] (by decide +kernel) (by decide +kernel)
theorem inX12 : ∀ w ∈ u_ws RX12 TX12 86, w ∈ gt := tmems [1043, 1045, 1047, 1049, 1051, 1053, 1055, 1057, 1059, 1061, 1063, 1065, 1067, 1069, 1071, 1073, 1075, 1077, 1079, 1081, 1083, 1085, 1087, 1089, 1091, 1093, 1095, 1097, 1099, 1101, 1103, 1105, 1107, 1109, 1111, 1113, 1115, 1117, 1119, 1121, 1123, 1125, 1127, 1129, 1131, 1133, 1135, 1137, 1139, 1141, 1143, 1145, 1147, 1149, 1151, 1153, 1155, 1157, 1159, 1161, 1163, 1165, 1167, 1169, 1171, 1173, 1175, 1177, 1179, 1181, 1183, 1185, 1187, 1189, 1191, 1193, 1195, 1197, 1199, 1201, 1203, 1205, 1207, 1209, 1211, 1213] (by decide +kernel) (by decide +kernel)
end
section
/-! BASE: a fixed-shape world over mathematical integers, and the kit's rows restated over it.
A cell's number is its place in the shape list S; ad gives its address; the state sg gives, for a cell and a place, an integer; the machine holds it cut to 32 or 64 bits. -/
def w32 (a : Int) : Int := (Int32.ofInt a).toInt
def w64 (a : Int) : Int := (Int64.ofInt a).toInt
abbrev mI (a : Int) : Value := .int (Int32.ofInt a)
abbrev mL (a : Int) : Value := .long (Int64.ofInt a)
def ix (a : Int) : Nat := (w32 a).toNat
abbrev inb (a : Int) (n : Nat) : Prop := 0 ≤ w32 a ∧ w32 a < (n : Int)
abbrev St : Type := Nat → Nat → Int
def put (sg : St) (c j : Nat) (v : Int) : St := fun c2 j2 => if c2 = c ∧ j2 = j then v else sg c2 j2
def gd {α : Type} (q : Prop) [Decidable q] (x : Option α) : Option α := if q then x else none
theorem gd_some {α : Type} {q : Prop} [Decidable q] {x : Option α} {r : α} (h : gd q x = some r) : q ∧ x = some r := by
  unfold gd at h
  split at h
  · exact ⟨by assumption, h⟩
  · cases h
theorem ite_yes {α : Type} {q : Prop} [Decidable q] {x y : Option α} {r : α} (hq : q) (h : (if q then x else y) = some r) : x = some r := by rwa [if_pos hq] at h
theorem ite_no {α : Type} {q : Prop} [Decidable q] {x y : Option α} {r : α} (hq : ¬ q) (h : (if q then x else y) = some r) : y = some r := by rwa [if_neg hq] at h
theorem bd_some {α β : Type} {x : Option α} {f : α → Option β} {r : β} (h : x.bind f = some r) : ∃ a, x = some a ∧ f a = some r := by
  cases x with
  | none => cases h
  | some a => exact ⟨a, rfl, h⟩
abbrev Shp : Type := (Nat × Nat × (Nat ⊕ (Nat → Nat))) ⊕ (Nat × List (Nat ⊕ Nat))
def fv (ad : Nat → Nat) (k : Nat ⊕ Nat) (v : Int) : Value := match k with
  | .inr t => .ref (ad t)
  | .inl 0 => mI v
  | .inl 1 => mL v
  | .inl _ => .ref (ad v.toNat)
def ce (cy : Nat → ClassId) (ad : Nat → Nat) (q : Shp) (f : Nat → Int) : va_E := match q with
  | .inl (t, n, .inl 0) => .inl (cy t, n, .inl (fun j => Int32.ofInt (f j)))
  | .inl (t, n, .inl _) => .inl (cy t, n, .inr (.inl (fun j => Int64.ofInt (f j))))
  | .inl (t, n, .inr g) => .inl (cy t, n, .inr (.inr (.inr (.inr (fun j => some (ad (g j)))))))
  | .inr (ci, ks) => .inr (ci, ks.mapIdx (fun j k => fv ad k (f j)))
def wd (S : List Shp) (cy : Nat → ClassId) (ad : Nat → Nat) (sg : St) : va_W := S.mapIdx (fun c q => (ad c, ce cy ad q (sg c)))
def aw (S : List Shp) (ad : Nat → Nat) : Nat → Prop := fun q => ∃ k, k < S.length ∧ q = ad k
def tyl (cy : Nat → ClassId) : List (ClassId × FieldType) := [(cy 0, .int), (cy 1, .long), (cy 2, .boolean), (cy 3, .byte), (cy 4, .object "FairHall$Fraction"), (cy 5, .array .int), (cy 6, .array .long)]
/-- addresses apart -/
def apart (S : List Shp) (ad : Nat → Nat) : Prop := ∀ i j, i < S.length → j < S.length → ad i = ad j → i = j
theorem wd_at {S : List Shp} {cy : Nat → ClassId} {ad : Nat → Nat} {sg : St} {c : Nat} {q : Shp} (h : S[c]? = some q) : (wd S cy ad sg)[c]? = some (ad c, ce cy ad q (sg c)) := by
  unfold wd
  rw [List.getElem?_mapIdx, h]
  rfl
theorem wd_D {S : List Shp} {cy : Nat → ClassId} {ad : Nat → Nat} (sg : St) {A : Nat → Prop} (h : apart S ad) (hA : ∀ k, k < S.length → A (ad k)) : va_D A (wd S cy ad sg) := by
  have key : ∀ (k : Nat) (q : Nat × va_E), (wd S cy ad sg)[k]? = some q → k < S.length ∧ q.1 = ad k := by
    intro k q hq
    unfold wd at hq
    rw [List.getElem?_mapIdx] at hq
    cases hs : S[k]? with
    | none => rw [hs] at hq; cases hq
    | some z =>
      rw [hs] at hq
      have := (List.getElem?_eq_some_iff.mp hs).1
      cases hq
      exact ⟨this, rfl⟩
  refine ⟨fun i j p q hp hq e => ?_, fun k q hq => ?_⟩
  · obtain ⟨a1, a2⟩ := key i p hp
    obtain ⟨b1, b2⟩ := key j q hq
    exact h i j a1 b1 (by rw [← a2, ← b2]; exact e)
  · obtain ⟨a1, a2⟩ := key k q hq
    rw [a2]
    exact hA k a1
theorem wd_set {S : List Shp} {cy : Nat → ClassId} {ad : Nat → Nat} {sg sg2 : St} {c : Nat} {q : Shp} {e : va_E} (h : S[c]? = some q) (he : ce cy ad q (sg2 c) = e) (ho : ∀ c2, c2 ≠ c → sg2 c2 = sg c2) : (wd S cy ad sg).set c (ad c, e) = wd S cy ad sg2 := by
  apply List.ext_getElem?
  intro i
  unfold wd
  rw [List.getElem?_set, List.getElem?_mapIdx, List.getElem?_mapIdx]
  by_cases hi : c = i
  · subst hi
    have hl := (List.getElem?_eq_some_iff.mp h).1
    simp [hl]
    rw [(List.getElem?_eq_some_iff.mp h).2, he]
  · simp only [hi, if_false]
    rw [ho i (fun q => hi q.symm)]
theorem put_same (sg : St) (c j : Nat) (v : Int) : put sg c j v c j = v := by simp [put]
theorem put_other (sg : St) (c j : Nat) (v : Int) {c2 : Nat} (h : c2 ≠ c) : put sg c j v c2 = sg c2 := by funext j2; simp [put, h]
theorem ofInt_w32 (a : Int) : Int32.ofInt (w32 a) = Int32.ofInt a := by unfold w32; exact Int32.ofInt_toInt _
theorem ofInt_w64 (a : Int) : Int64.ofInt (w64 a) = Int64.ofInt a := by unfold w64; exact Int64.ofInt_toInt _
theorem lt_w {a b : Int} : Int32.ofInt a < Int32.ofInt b ↔ w32 a < w32 b := Int32.lt_iff_toInt_lt
theorem le_w {a b : Int} : Int32.ofInt a ≤ Int32.ofInt b ↔ w32 a ≤ w32 b := Int32.le_iff_toInt_le
theorem eq_w {a b : Int} : Int32.ofInt a = Int32.ofInt b ↔ w32 a = w32 b := Int32.toInt_inj.symm
theorem ltL_w {a b : Int} : Int64.ofInt a < Int64.ofInt b ↔ w64 a < w64 b := Int64.lt_iff_toInt_lt
theorem leL_w {a b : Int} : Int64.ofInt a ≤ Int64.ofInt b ↔ w64 a ≤ w64 b := Int64.le_iff_toInt_le
theorem eqL_w {a b : Int} : Int64.ofInt a = Int64.ofInt b ↔ w64 a = w64 b := Int64.toInt_inj.symm
theorem w32_0 : w32 0 = 0 := by decide
theorem inb_vp {a : Int} {n : Nat} (h : inb a n) : vp_in (Int32.ofInt a) n := vp_in_iff.mpr h
theorem ix_eq (a : Int) : (Int32.ofInt a).toNatClampNeg = ix a := rfl
def andI (a b : Int) : Int := (Int32.ofInt a &&& Int32.ofInt b).toInt
def orI (a b : Int) : Int := (Int32.ofInt a ||| Int32.ofInt b).toInt
def xorI (a b : Int) : Int := (Int32.ofInt a ^^^ Int32.ofInt b).toInt
def shlI (a b : Int) : Int := (Int32.ofInt a <<< (Int32.ofInt b &&& 31)).toInt
def shrI (a b : Int) : Int := (Int32.ofInt a >>> (Int32.ofInt b &&& 31)).toInt
def ushrI (a b : Int) : Int := ((Int32.ofInt a).toUInt32 >>> ((Int32.ofInt b).toUInt32 &&& Int32.toUInt32 31)).toInt32.toInt
def xorL (a b : Int) : Int := (Int64.ofInt a ^^^ Int64.ofInt b).toInt
def divI (a b : Int) : Int := (Int32.ofInt a / Int32.ofInt b).toInt
def remI (a b : Int) : Int := (Int32.ofInt a - Int32.ofInt a / Int32.ofInt b * Int32.ofInt b).toInt
def divL (a b : Int) : Int := (Int64.ofInt a / Int64.ofInt b).toInt
def remL (a b : Int) : Int := (Int64.ofInt a - Int64.ofInt a / Int64.ofInt b * Int64.ofInt b).toInt
def w8 (a : Int) : Int := (Int32.ofInt a).toInt8.toInt
def nz (a : Int) : Int := (vp_nar .boolean (Int32.ofInt a)).toInt
theorem i2l_w (a : Int) : (Int32.ofInt a).toInt64 = Int64.ofInt (w32 a) := by
  apply Int64.toInt_inj.mp
  rw [Int32.toInt_toInt64]
  unfold w32
  have h1 := Int32.le_toInt (Int32.ofInt a)
  have h2 := Int32.toInt_lt (Int32.ofInt a)
  rw [Int64.toInt_ofInt_of_le (by omega) (by omega)]
theorem i2b_w (a : Int) : (Int32.ofInt a).toInt8.toInt32 = Int32.ofInt (w8 a) := by
  apply Int32.toInt_inj.mp
  rw [Int8.toInt_toInt32]
  unfold w8
  have h1 := Int8.le_toInt (Int32.ofInt a).toInt8
  have h2 := Int8.toInt_lt (Int32.ofInt a).toInt8
  rw [Int32.toInt_ofInt_of_le (by omega) (by omega)]
theorem eq_w0 {a : Int} : Int32.ofInt a = 0 ↔ w32 a = 0 := by
  constructor
  · intro h; unfold w32; rw [h]; rfl
  · intro h; exact Int32.toInt_inj.mp h
theorem lt_w0 {a : Int} : Int32.ofInt a < 0 ↔ w32 a < 0 := Int32.lt_iff_toInt_lt
theorem ge_w0 {a : Int} : 0 ≤ Int32.ofInt a ↔ 0 ≤ w32 a := Int32.le_iff_toInt_le
theorem gt_w0 {a : Int} : 0 < Int32.ofInt a ↔ 0 < w32 a := Int32.lt_iff_toInt_lt
theorem le_w0 {a : Int} : Int32.ofInt a ≤ 0 ↔ w32 a ≤ 0 := Int32.le_iff_toInt_le
theorem lg_three (x y : Int64) : (x < y ∧ lg_cmp x y = -1) ∨ (x = y ∧ lg_cmp x y = 0) ∨ (y < x ∧ lg_cmp x y = 1) := by
  unfold lg_cmp
  by_cases h : x > y
  · right; right; exact ⟨h, by rw [if_pos h]⟩
  · by_cases e : x = y
    · right; left; exact ⟨e, by rw [if_neg h, if_pos e]⟩
    · left
      refine ⟨?_, by rw [if_neg h, if_neg e]⟩
      rw [Int64.lt_iff_toInt_lt]
      have h' : ¬ y.toInt < x.toInt := fun q => h (Int64.lt_iff_toInt_lt.mpr q)
      have e' : ¬ x.toInt = y.toInt := fun q => e (Int64.toInt_inj.mp q)
      omega
theorem lgc_eq {a b : Int} : lg_cmp (Int64.ofInt a) (Int64.ofInt b) = 0 ↔ w64 a = w64 b := by
  unfold w64
  rcases lg_three (Int64.ofInt a) (Int64.ofInt b) with ⟨h, e⟩ | ⟨h, e⟩ | ⟨h, e⟩ <;> rw [e]
  · have := Int64.lt_iff_toInt_lt.mp h
    exact ⟨fun q => absurd q (by decide), fun q => by omega⟩
  · exact ⟨fun _ => by rw [h], fun _ => rfl⟩
  · have := Int64.lt_iff_toInt_lt.mp h
    exact ⟨fun q => absurd q (by decide), fun q => by omega⟩
theorem lgc_lt {a b : Int} : lg_cmp (Int64.ofInt a) (Int64.ofInt b) < 0 ↔ w64 a < w64 b := by
  unfold w64
  rcases lg_three (Int64.ofInt a) (Int64.ofInt b) with ⟨h, e⟩ | ⟨h, e⟩ | ⟨h, e⟩ <;> rw [e]
  · exact ⟨fun _ => Int64.lt_iff_toInt_lt.mp h, fun _ => by decide⟩
  · exact ⟨fun q => absurd q (by decide), fun q => by rw [h] at q; omega⟩
  · have := Int64.lt_iff_toInt_lt.mp h
    exact ⟨fun q => absurd q (by decide), fun q => by omega⟩
theorem lgc_gt {a b : Int} : 0 < lg_cmp (Int64.ofInt a) (Int64.ofInt b) ↔ w64 b < w64 a := by
  unfold w64
  rcases lg_three (Int64.ofInt a) (Int64.ofInt b) with ⟨h, e⟩ | ⟨h, e⟩ | ⟨h, e⟩ <;> rw [e]
  · have := Int64.lt_iff_toInt_lt.mp h
    exact ⟨fun q => absurd q (by decide), fun q => by omega⟩
  · exact ⟨fun q => absurd q (by decide), fun q => by rw [h] at q; omega⟩
  · exact ⟨fun _ => Int64.lt_iff_toInt_lt.mp h, fun _ => by decide⟩
theorem lgc_ge {a b : Int} : 0 ≤ lg_cmp (Int64.ofInt a) (Int64.ofInt b) ↔ w64 b ≤ w64 a := by
  unfold w64
  rcases lg_three (Int64.ofInt a) (Int64.ofInt b) with ⟨h, e⟩ | ⟨h, e⟩ | ⟨h, e⟩ <;> rw [e]
  · have := Int64.lt_iff_toInt_lt.mp h
    exact ⟨fun q => absurd q (by decide), fun q => by omega⟩
  · exact ⟨fun _ => by rw [h]; omega, fun _ => by decide⟩
  · have := Int64.lt_iff_toInt_lt.mp h
    exact ⟨fun _ => by omega, fun _ => by decide⟩
theorem lgc_le {a b : Int} : lg_cmp (Int64.ofInt a) (Int64.ofInt b) ≤ 0 ↔ w64 a ≤ w64 b := by
  unfold w64
  rcases lg_three (Int64.ofInt a) (Int64.ofInt b) with ⟨h, e⟩ | ⟨h, e⟩ | ⟨h, e⟩ <;> rw [e]
  · have := Int64.lt_iff_toInt_lt.mp h
    exact ⟨fun _ => by omega, fun _ => by decide⟩
  · exact ⟨fun _ => by rw [h]; omega, fun _ => by decide⟩
  · have := Int64.lt_iff_toInt_lt.mp h
    exact ⟨fun q => absurd q (by decide), fun q => by omega⟩
theorem ce_i (cy : Nat → ClassId) (ad : Nat → Nat) (t n : Nat) (sg : St) (c j : Nat) (v : Int) : ce cy ad (.inl (t, n, .inl 0)) (put sg c j v c) = .inl (cy t, n, .inl (upd (fun j => Int32.ofInt (sg c j)) j (Int32.ofInt v))) := by
  show (Sum.inl (cy t, n, Sum.inl _) : va_E) = _
  congr 4
  funext j2
  simp only [put, upd, true_and]
  split <;> rfl
theorem ce_l (cy : Nat → ClassId) (ad : Nat → Nat) (t n : Nat) (sg : St) (c j : Nat) (v : Int) : ce cy ad (.inl (t, n, .inl 1)) (put sg c j v c) = .inl (cy t, n, .inr (.inl (vp_updL (fun j => Int64.ofInt (sg c j)) j (Int64.ofInt v)))) := by
  show (Sum.inl (cy t, n, Sum.inr (Sum.inl _)) : va_E) = _
  congr 5
  funext j2
  simp only [put, vp_updL, true_and]
  split <;> rfl
theorem ce_z (cy : Nat → ClassId) (ad : Nat → Nat) (t n : Nat) (sg : St) (c j : Nat) (v : Int) : ce cy ad (.inl (t, n, .inl 0)) (put sg c j (nz v) c) = .inl (cy t, n, .inl (upd (fun j => Int32.ofInt (sg c j)) j (vp_nar .boolean (Int32.ofInt v)))) := by
  rw [ce_i, nz, Int32.ofInt_toInt]
theorem ce_b (cy : Nat → ClassId) (ad : Nat → Nat) (t n : Nat) (sg : St) (c j : Nat) (v : Int) : ce cy ad (.inl (t, n, .inl 0)) (put sg c j (w8 v) c) = .inl (cy t, n, .inl (upd (fun j => Int32.ofInt (sg c j)) j (vp_nar .byte (Int32.ofInt v)))) := by
  rw [ce_i, vp_nar_byte, i2b_w]
theorem ce_o (cy : Nat → ClassId) (ad : Nat → Nat) (ci : Nat) (ks : List (Nat ⊕ Nat)) (sg : St) (c j : Nat) (k : Nat ⊕ Nat) (v : Int) (hk : ks[j]? = some k) : ce cy ad (.inr (ci, ks)) (put sg c j v c) = .inr (ci, (ks.mapIdx (fun j k => fv ad k (sg c j))).set j (fv ad k v)) := by
  show (Sum.inr (ci, ks.mapIdx _) : va_E) = _
  congr 2
  apply List.ext_getElem?
  intro i
  rw [List.getElem?_set, List.getElem?_mapIdx, List.getElem?_mapIdx]
  by_cases hi : j = i
  · subst hi
    rw [hk]
    have hl := (List.getElem?_eq_some_iff.mp hk).1
    simp [hl, put]
  · have hi2 : ¬ i = j := fun q => hi q.symm
    simp [hi, hi2, put]
end
section
/-! ROWS: the machine at a pc with a list of locals, a stack and a state of the world -/
def CX (p : Program) (s : State) (m : MethodId) (args : Array Value) (meth : Method) (c : Code) (cc : ByteArray) (own : String) (nL : Nat) (ret : Option FieldType) (D : va_G) (S : List Shp) (cy : Nat → ClassId) (ad : Nat → Nat) (A : Nat → Prop) : Prop :=
  p.tables.exec = Jvm.exec ∧ c.code = cc ∧ c.maxLocals = nL ∧ s.vm.findClass own = some m.cls ∧ (∀ w ∈ gt, w.before args s = true) ∧ va_K D vwCl (tyl cy) s ∧ apart S ad ∧ (∀ k, k < S.length → A (ad k)) ∧ meth.sig.returnType = ret ∧ meth.locks = false
def GG (p : Program) (l : Launch) (e : Env) (R : Room) (s : State) (m : MethodId) (args : Array Value) (below : List Frame) (meth : Method) (c : Code) (Q : State → Prop) (D : va_G) (S : List Shp) (cy : Nat → ClassId) (ad : Nat → Nat) (A : Nat → Prop) (nL : Nat) (pc : Nat) (lv : List (Nat × Value)) (st : List Value) (sg : St) : Prop :=
  ∀ (H : Heap) (locs : List Loc) (ls : Array Slot), va_P D vwCl (wd S cy ad sg) H → va_S A s.heap H locs → lv_has ls nL lv → W p l e R s m args below meth c H locs 0 0 Q (F0 m pc ls st)
/-- a field of class number ci, place j, as the pool entry idx of own spells it -/
def FL (own : String) (idx ci j : Nat) : Prop := ∃ (C : String) (T : u_T) (N : Nat), vwCl[ci]? = some (C, T, N) ∧ j < N ∧ Cond.fieldLink own idx (T j).1 (T j).2.1 (T j).2.2.1 ∈ gt ∧ ∀ w ∈ u_ws C T N, w ∈ gt
def FP (own : String) (idx ci j : Nat) (ty : FieldType) : Prop := ∃ (C : String) (T : u_T) (N : Nat) (ty0 : Nat → FieldType), vwCl[ci]? = some (C, T, N) ∧ j < N ∧ Cond.fieldLink own idx (T j).1 (T j).2.1 (T j).2.2.1 ∈ gt ∧ (∀ w ∈ u_ws C T N, w ∈ gt) ∧ (∀ k, k < N → parseFieldDescriptor (T k).2.2.1 = some (ty0 k)) ∧ (∀ a, a < N → ∀ b, b < N → a ≠ b → (T a).2.1 ≠ (T b).2.1) ∧ (T j).2.2.2 = false ∧ parseFieldDescriptor (T j).2.2.1 = some ty
/-- the kind of place j of cell c, an object of class ci -/
def fk (S : List Shp) (c j : Nat) : Option (Nat × (Nat ⊕ Nat)) := match S[c]? with
  | some (.inr (ci, ks)) => ks[j]?.map (fun k => (ci, k))
  | _ => none
theorem fk_spec {S : List Shp} {c j ci : Nat} {k : Nat ⊕ Nat} (h : fk S c j = some (ci, k)) : ∃ ks : List (Nat ⊕ Nat), S[c]? = some (.inr (ci, ks)) ∧ ks[j]? = some k := by
  unfold fk at h
  split at h
  · rename_i ci2 ks hs
    cases hk : ks[j]? with
    | none => rw [hk] at h; cases h
    | some z =>
      rw [hk] at h
      cases h
      exact ⟨ks, hs, hk⟩
  · cases h
section RR
variable {p : Program} {l : Launch} {e : Env} {R : Room} {s : State} {m : MethodId} {args : Array Value} {below : List Frame} {meth : Method} {c : Code} {Q : State → Prop} {D : va_G} {S : List Shp} {cy : Nat → ClassId} {ad : Nat → Nat} {A : Nat → Prop} {nL pc : Nat} {lv lv2 : List (Nat × Value)} {st : List Value} {sg : St} {cc : ByteArray} {own : String} {ret : Option FieldType} {a b : Int}
theorem r_perm (ks : List Nat) (h : lv_pick lv ks = lv2) (k : GG p l e R s m args below meth c Q D S cy ad A nL pc lv2 st sg) : GG p l e R s m args below meth c Q D S cy ad A nL pc lv st sg := fun H locs ls hP hS hl => k H locs ls hP hS (lv_sub hl ks h)
theorem r_iconst (X : CX p s m args meth c cc own nL ret D S cy ad A) {n : Int} (hdg : decode cc pc = .ok (.iconst n, 1)) (k : GG p l e R s m args below meth c Q D S cy ad A nL (pc + 1) lv (mI n :: st) sg) : GG p l e R s m args below meth c Q D S cy ad A nL pc lv st sg := fun H locs ls hP hS hl => lv_iconst X.1 X.2.1 hdg rfl (k H locs ls hP hS hl)
theorem r_bipush (X : CX p s m args meth c cc own nL ret D S cy ad A) {n : Int} (hdg : decode cc pc = .ok (.bipush n, 2)) (hv : (Int8.ofInt n).toInt32 = Int32.ofInt n) (k : GG p l e R s m args below meth c Q D S cy ad A nL (pc + 2) lv (mI n :: st) sg) : GG p l e R s m args below meth c Q D S cy ad A nL pc lv st sg := fun H locs ls hP hS hl => lv_bipush X.1 X.2.1 hdg hv (k H locs ls hP hS hl)
theorem r_sipush (X : CX p s m args meth c cc own nL ret D S cy ad A) {n : Int} (hdg : decode cc pc = .ok (.sipush n, 3)) (hv : (Int16.ofInt n).toInt32 = Int32.ofInt n) (k : GG p l e R s m args below meth c Q D S cy ad A nL (pc + 3) lv (mI n :: st) sg) : GG p l e R s m args below meth c Q D S cy ad A nL pc lv st sg := fun H locs ls hP hS hl => lv_sipush X.1 X.2.1 hdg hv (k H locs ls hP hS hl)
theorem r_lconst (X : CX p s m args meth c cc own nL ret D S cy ad A) {n : Fin 2} {v : Int} (hdg : decode cc pc = .ok (.lconst n, 1)) (hv : Int64.ofNat (n : Nat) = Int64.ofInt v) (k : GG p l e R s m args below meth c Q D S cy ad A nL (pc + 1) lv (mL v :: st) sg) : GG p l e R s m args below meth c Q D S cy ad A nL pc lv st sg := fun H locs ls hP hS hl => lv_lconst X.1 X.2.1 hdg hv (k H locs ls hP hS hl)
theorem r_iload_n (X : CX p s m args meth c cc own nL ret D S cy ad A) {k0 : Fin 4} {i : Nat} (q : Nat) (hdg : decode cc pc = .ok (.iload_n k0, 1)) (hi : (k0 : Nat) = i) (hq : lv[q]? = some (i, mI a)) (k : GG p l e R s m args below meth c Q D S cy ad A nL (pc + 1) lv (mI a :: st) sg) : GG p l e R s m args below meth c Q D S cy ad A nL pc lv st sg := fun H locs ls hP hS hl => lv_iload_n X.1 X.2.1 hdg hi (lv_at hl q hq) (k H locs ls hP hS hl)
theorem r_iload (X : CX p s m args meth c cc own nL ret D S cy ad A) {i : Nat} (q : Nat) (hdg : decode cc pc = .ok (.iload i, 2)) (hq : lv[q]? = some (i, mI a)) (k : GG p l e R s m args below meth c Q D S cy ad A nL (pc + 2) lv (mI a :: st) sg) : GG p l e R s m args below meth c Q D S cy ad A nL pc lv st sg := fun H locs ls hP hS hl => lv_iload X.1 X.2.1 hdg (lv_at hl q hq) (k H locs ls hP hS hl)
theorem r_lload_n (X : CX p s m args meth c cc own nL ret D S cy ad A) {k0 : Fin 4} {i : Nat} (q : Nat) (hdg : decode cc pc = .ok (.lload_n k0, 1)) (hi : (k0 : Nat) = i) (hq : lv[q]? = some (i, mL a)) (k : GG p l e R s m args below meth c Q D S cy ad A nL (pc + 1) lv (mL a :: st) sg) : GG p l e R s m args below meth c Q D S cy ad A nL pc lv st sg := fun H locs ls hP hS hl => lv_lload_n X.1 X.2.1 hdg hi (lv_at hl q hq) (k H locs ls hP hS hl)
theorem r_lload (X : CX p s m args meth c cc own nL ret D S cy ad A) {i : Nat} (q : Nat) (hdg : decode cc pc = .ok (.lload i, 2)) (hq : lv[q]? = some (i, mL a)) (k : GG p l e R s m args below meth c Q D S cy ad A nL (pc + 2) lv (mL a :: st) sg) : GG p l e R s m args below meth c Q D S cy ad A nL pc lv st sg := fun H locs ls hP hS hl => lv_lload X.1 X.2.1 hdg (lv_at hl q hq) (k H locs ls hP hS hl)
theorem r_aload_n (X : CX p s m args meth c cc own nL ret D S cy ad A) {k0 : Fin 4} {i x : Nat} (q : Nat) (hdg : decode cc pc = .ok (.aload_n k0, 1)) (hi : (k0 : Nat) = i) (hq : lv[q]? = some (i, .ref x)) (k : GG p l e R s m args below meth c Q D S cy ad A nL (pc + 1) lv (.ref x :: st) sg) : GG p l e R s m args below meth c Q D S cy ad A nL pc lv st sg := fun H locs ls hP hS hl => lv_aload_n X.1 X.2.1 hdg hi (lv_at hl q hq) (k H locs ls hP hS hl)
theorem r_aload (X : CX p s m args meth c cc own nL ret D S cy ad A) {i x : Nat} (q : Nat) (hdg : decode cc pc = .ok (.aload i, 2)) (hq : lv[q]? = some (i, .ref x)) (k : GG p l e R s m args below meth c Q D S cy ad A nL (pc + 2) lv (.ref x :: st) sg) : GG p l e R s m args below meth c Q D S cy ad A nL pc lv st sg := fun H locs ls hP hS hl => lv_aload X.1 X.2.1 hdg (lv_at hl q hq) (k H locs ls hP hS hl)
theorem r_istore_n (X : CX p s m args meth c cc own nL ret D S cy ad A) {k0 : Fin 4} {i : Nat} (hdg : decode cc pc = .ok (.istore_n k0, 1)) (hi : (k0 : Nat) = i) (hn : i < nL) (hl2 : (i, mI a) :: lv.filter (fun q => !(q.1 == i) && !(q.1 + 1 == i && q.2.category == 2)) = lv2) (k : GG p l e R s m args below meth c Q D S cy ad A nL (pc + 1) lv2 st sg) : GG p l e R s m args below meth c Q D S cy ad A nL pc lv (mI a :: st) sg := fun H locs ls hP hS hl => lv_istore_n X.1 X.2.1 hdg hi hl hn hl2 (fun ls hl => k H locs ls hP hS hl)
theorem r_istore (X : CX p s m args meth c cc own nL ret D S cy ad A) {i : Nat} (hdg : decode cc pc = .ok (.istore i, 2)) (hn : i < nL) (hl2 : (i, mI a) :: lv.filter (fun q => !(q.1 == i) && !(q.1 + 1 == i && q.2.category == 2)) = lv2) (k : GG p l e R s m args below meth c Q D S cy ad A nL (pc + 2) lv2 st sg) : GG p l e R s m args below meth c Q D S cy ad A nL pc lv (mI a :: st) sg := fun H locs ls hP hS hl => lv_istore X.1 X.2.1 hdg hl hn hl2 (fun ls hl => k H locs ls hP hS hl)
theorem r_lstore_n (X : CX p s m args meth c cc own nL ret D S cy ad A) {k0 : Fin 4} {i : Nat} (hdg : decode cc pc = .ok (.lstore_n k0, 1)) (hi : (k0 : Nat) = i) (hn : i + 1 < nL) (hl2 : (i, mL a) :: lv.filter (fun q => !(q.1 == i) && (!(q.1 == i + 1) && !(q.1 + 1 == i && q.2.category == 2))) = lv2) (k : GG p l e R s m args below meth c Q D S cy ad A nL (pc + 1) lv2 st sg) : GG p l e R s m args below meth c Q D S cy ad A nL pc lv (mL a :: st) sg := fun H locs ls hP hS hl => lv_lstore_n X.1 X.2.1 hdg hi hl hn hl2 (fun ls hl => k H locs ls hP hS hl)
theorem r_lstore (X : CX p s m args meth c cc own nL ret D S cy ad A) {i : Nat} (hdg : decode cc pc = .ok (.lstore i, 2)) (hn : i + 1 < nL) (hl2 : (i, mL a) :: lv.filter (fun q => !(q.1 == i) && (!(q.1 == i + 1) && !(q.1 + 1 == i && q.2.category == 2))) = lv2) (k : GG p l e R s m args below meth c Q D S cy ad A nL (pc + 2) lv2 st sg) : GG p l e R s m args below meth c Q D S cy ad A nL pc lv (mL a :: st) sg := fun H locs ls hP hS hl => lv_lstore X.1 X.2.1 hdg hl hn hl2 (fun ls hl => k H locs ls hP hS hl)
theorem r_astore_n (X : CX p s m args meth c cc own nL ret D S cy ad A) {k0 : Fin 4} {i x : Nat} (hdg : decode cc pc = .ok (.astore_n k0, 1)) (hi : (k0 : Nat) = i) (hn : i < nL) (hl2 : (i, .ref x) :: lv.filter (fun q => !(q.1 == i) && !(q.1 + 1 == i && q.2.category == 2)) = lv2) (k : GG p l e R s m args below meth c Q D S cy ad A nL (pc + 1) lv2 st sg) : GG p l e R s m args below meth c Q D S cy ad A nL pc lv (.ref x :: st) sg := fun H locs ls hP hS hl => lv_astore_n X.1 X.2.1 hdg hi hl hn hl2 (fun ls hl => k H locs ls hP hS hl)
theorem r_iinc (X : CX p s m args meth c cc own nL ret D S cy ad A) {i : Nat} {n : Int} (q : Nat) (hdg : decode cc pc = .ok (.iinc i n, 3)) (hq : lv[q]? = some (i, mI a)) (hn : i < nL) (hl2 : (i, mI (a + n)) :: lv.filter (fun q => !(q.1 == i) && !(q.1 + 1 == i && q.2.category == 2)) = lv2) (k : GG p l e R s m args below meth c Q D S cy ad A nL (pc + 3) lv2 st sg) : GG p l e R s m args below meth c Q D S cy ad A nL pc lv st sg := fun H locs ls hP hS hl => lv_iinc X.1 X.2.1 hdg hl hq (Int32.ofInt_add a n).symm hn hl2 (fun ls hl => k H locs ls hP hS hl)
theorem r_iadd (X : CX p s m args meth c cc own nL ret D S cy ad A) (hdg : decode cc pc = .ok (.iadd, 1)) (k : GG p l e R s m args below meth c Q D S cy ad A nL (pc + 1) lv (mI (a + b) :: st) sg) : GG p l e R s m args below meth c Q D S cy ad A nL pc lv (mI b :: mI a :: st) sg := fun H locs ls hP hS hl => lv_iadd X.1 X.2.1 hdg (by rw [← Int32.ofInt_add]; exact k H locs ls hP hS hl)
theorem r_isub (X : CX p s m args meth c cc own nL ret D S cy ad A) (hdg : decode cc pc = .ok (.isub, 1)) (k : GG p l e R s m args below meth c Q D S cy ad A nL (pc + 1) lv (mI (a - b) :: st) sg) : GG p l e R s m args below meth c Q D S cy ad A nL pc lv (mI b :: mI a :: st) sg := fun H locs ls hP hS hl => lv_isub X.1 X.2.1 hdg (by rw [← Int32.ofInt_sub]; exact k H locs ls hP hS hl)
theorem r_imul (X : CX p s m args meth c cc own nL ret D S cy ad A) (hdg : decode cc pc = .ok (.imul, 1)) (k : GG p l e R s m args below meth c Q D S cy ad A nL (pc + 1) lv (mI (a * b) :: st) sg) : GG p l e R s m args below meth c Q D S cy ad A nL pc lv (mI b :: mI a :: st) sg := fun H locs ls hP hS hl => lv_imul X.1 X.2.1 hdg (by rw [← Int32.ofInt_mul]; exact k H locs ls hP hS hl)
theorem r_ladd (X : CX p s m args meth c cc own nL ret D S cy ad A) (hdg : decode cc pc = .ok (.ladd, 1)) (k : GG p l e R s m args below meth c Q D S cy ad A nL (pc + 1) lv (mL (a + b) :: st) sg) : GG p l e R s m args below meth c Q D S cy ad A nL pc lv (mL b :: mL a :: st) sg := fun H locs ls hP hS hl => lv_ladd X.1 X.2.1 hdg (by rw [← Int64.ofInt_add]; exact k H locs ls hP hS hl)
theorem r_lsub (X : CX p s m args meth c cc own nL ret D S cy ad A) (hdg : decode cc pc = .ok (.lsub, 1)) (k : GG p l e R s m args below meth c Q D S cy ad A nL (pc + 1) lv (mL (a - b) :: st) sg) : GG p l e R s m args below meth c Q D S cy ad A nL pc lv (mL b :: mL a :: st) sg := fun H locs ls hP hS hl => lv_lsub X.1 X.2.1 hdg (by rw [← Int64.ofInt_sub]; exact k H locs ls hP hS hl)
theorem r_lmul (X : CX p s m args meth c cc own nL ret D S cy ad A) (hdg : decode cc pc = .ok (.lmul, 1)) (k : GG p l e R s m args below meth c Q D S cy ad A nL (pc + 1) lv (mL (a * b) :: st) sg) : GG p l e R s m args below meth c Q D S cy ad A nL pc lv (mL b :: mL a :: st) sg := fun H locs ls hP hS hl => lv_lmul X.1 X.2.1 hdg (by rw [← Int64.ofInt_mul]; exact k H locs ls hP hS hl)
theorem r_ineg (X : CX p s m args meth c cc own nL ret D S cy ad A) (hdg : decode cc pc = .ok (.ineg, 1)) (k : GG p l e R s m args below meth c Q D S cy ad A nL (pc + 1) lv (mI (-a) :: st) sg) : GG p l e R s m args below meth c Q D S cy ad A nL pc lv (mI a :: st) sg := fun H locs ls hP hS hl => lv_ineg X.1 X.2.1 hdg (by have h := k H locs ls hP hS hl; rw [show mI (-a) = .int (0 - Int32.ofInt a) by rw [mI, Int32.ofInt_neg]; simp] at h; first | exact h | (simp at h ⊢; exact h))
theorem r_lneg (X : CX p s m args meth c cc own nL ret D S cy ad A) (hdg : decode cc pc = .ok (.lneg, 1)) (k : GG p l e R s m args below meth c Q D S cy ad A nL (pc + 1) lv (mL (-a) :: st) sg) : GG p l e R s m args below meth c Q D S cy ad A nL pc lv (mL a :: st) sg := fun H locs ls hP hS hl => lv_lneg X.1 X.2.1 hdg (by have h := k H locs ls hP hS hl; rw [show mL (-a) = .long (0 - Int64.ofInt a) by rw [mL, Int64.ofInt_neg]; simp] at h; first | exact h | (simp at h ⊢; exact h))
theorem get_any (X : CX p s m args meth c cc own nL ret D S cy ad A) {idx c0 j ci : Nat} {kd : Nat ⊕ Nat} (hF : FL own idx ci j) (hk : fk S c0 j = some (ci, kd)) {H : Heap} {locs : List Loc} {ls : Array Slot} (hP : va_P D vwCl (wd S cy ad sg) H) (hdg : decode cc pc = .ok (.getfield idx, 3)) (k : W p l e R s m args below meth c H locs 0 0 Q (F0 m (pc + 3) ls (fv ad kd (sg c0 j) :: st))) : W p l e R s m args below meth c H locs 0 0 Q (F0 m pc ls (.ref (ad c0) :: st)) := by
  obtain ⟨C, T, N, h1, h2, h3, h4⟩ := hF
  obtain ⟨ks, g1, g2⟩ := fk_spec hk
  refine va_get (D := D) (ci := ci) (v := fv ad kd (sg c0 j)) (C := C) (T := T) (N := N) X.1 X.2.1 X.2.2.2.2.1 h4 X.2.2.2.1 X.2.2.2.2.2.1 hP c0 (wd_at g1) h1 j h2 (X.2.2.2.2.1 _ h3) (fun _ h9 => h9) ?_ hdg k
  rw [List.getElem?_mapIdx, g2]
  rfl
theorem put_any (X : CX p s m args meth c cc own nL ret D S cy ad A) {idx c0 j ci : Nat} {kd : Nat ⊕ Nat} {ty : FieldType} {vv : Value} {v : Int} (hF : FP own idx ci j ty) (hk : fk S c0 j = some (ci, kd)) (hn : narrow ty vv = vv) (hfit : fits ty vv = true) (hv : fv ad kd v = vv) {H : Heap} {locs : List Loc} {ls : Array Slot} (hP : va_P D vwCl (wd S cy ad sg) H) (hS : va_S A s.heap H locs) (hdg : decode cc pc = .ok (.putfield idx, 3)) (k : ∀ (H1 : Heap) (locs1 : List Loc), va_P D vwCl (wd S cy ad (put sg c0 j v)) H1 → va_S A s.heap H1 locs1 → W p l e R s m args below meth c H1 locs1 0 0 Q (F0 m (pc + 3) ls st)) : W p l e R s m args below meth c H locs 0 0 Q (F0 m pc ls (vv :: .ref (ad c0) :: st)) := by
  obtain ⟨C, T, N, ty0, h1, h2, h3, h4, h5, h6, h7, h8⟩ := hF
  obtain ⟨ks, g1, g2⟩ := fk_spec hk
  refine va_put (D := D) (ci := ci) (v := vv) (ty := ty) (C := C) (T := T) (N := N) X.1 X.2.1 X.2.2.2.2.1 h4 ty0 h5 h6 X.2.2.2.1 X.2.2.2.2.2.1 hP (wd_D sg X.2.2.2.2.2.2.1 X.2.2.2.2.2.2.2.1) hS c0 (wd_at g1) h1 j h2 (X.2.2.2.2.1 _ h3) (fun _ h9 => h9) h7 h8 hn hfit ?_ hdg (fun H1 locs1 hP1 _ hS1 => k H1 locs1 ?_ hS1)
  · rw [List.length_mapIdx]
    exact (List.getElem?_eq_some_iff.mp g2).1
  · rw [← wd_set g1 (e := .inr (ci, (ks.mapIdx (fun j k => fv ad k (sg c0 j))).set j vv)) (by rw [ce_o cy ad ci ks sg c0 j kd v g2, hv]) (fun c2 h => put_other sg c0 j v h)]
    exact hP1
theorem r_iand (X : CX p s m args meth c cc own nL ret D S cy ad A) (hdg : decode cc pc = .ok (.iand, 1)) (k : GG p l e R s m args below meth c Q D S cy ad A nL (pc + 1) lv (mI (andI a b) :: st) sg) : GG p l e R s m args below meth c Q D S cy ad A nL pc lv (mI b :: mI a :: st) sg := fun H locs ls hP hS hl => lv_iand X.1 X.2.1 hdg (by have h := k H locs ls hP hS hl; rwa [show mI (andI a b) = _ by unfold mI andI; rw [Int32.ofInt_toInt]] at h)
theorem r_ior (X : CX p s m args meth c cc own nL ret D S cy ad A) (hdg : decode cc pc = .ok (.ior, 1)) (k : GG p l e R s m args below meth c Q D S cy ad A nL (pc + 1) lv (mI (orI a b) :: st) sg) : GG p l e R s m args below meth c Q D S cy ad A nL pc lv (mI b :: mI a :: st) sg := fun H locs ls hP hS hl => lv_ior X.1 X.2.1 hdg (by have h := k H locs ls hP hS hl; rwa [show mI (orI a b) = _ by unfold mI orI; rw [Int32.ofInt_toInt]] at h)
theorem r_ixor (X : CX p s m args meth c cc own nL ret D S cy ad A) (hdg : decode cc pc = .ok (.ixor, 1)) (k : GG p l e R s m args below meth c Q D S cy ad A nL (pc + 1) lv (mI (xorI a b) :: st) sg) : GG p l e R s m args below meth c Q D S cy ad A nL pc lv (mI b :: mI a :: st) sg := fun H locs ls hP hS hl => lv_ixor X.1 X.2.1 hdg (by have h := k H locs ls hP hS hl; rwa [show mI (xorI a b) = _ by unfold mI xorI; rw [Int32.ofInt_toInt]] at h)
theorem r_ishl (X : CX p s m args meth c cc own nL ret D S cy ad A) (hdg : decode cc pc = .ok (.ishl, 1)) (k : GG p l e R s m args below meth c Q D S cy ad A nL (pc + 1) lv (mI (shlI a b) :: st) sg) : GG p l e R s m args below meth c Q D S cy ad A nL pc lv (mI b :: mI a :: st) sg := fun H locs ls hP hS hl => lv_ishl X.1 X.2.1 hdg (by have h := k H locs ls hP hS hl; rwa [show mI (shlI a b) = _ by unfold mI shlI; rw [Int32.ofInt_toInt]] at h)
theorem r_ishr (X : CX p s m args meth c cc own nL ret D S cy ad A) (hdg : decode cc pc = .ok (.ishr, 1)) (k : GG p l e R s m args below meth c Q D S cy ad A nL (pc + 1) lv (mI (shrI a b) :: st) sg) : GG p l e R s m args below meth c Q D S cy ad A nL pc lv (mI b :: mI a :: st) sg := fun H locs ls hP hS hl => lv_ishr X.1 X.2.1 hdg (by have h := k H locs ls hP hS hl; rwa [show mI (shrI a b) = _ by unfold mI shrI; rw [Int32.ofInt_toInt]] at h)
theorem r_lxor (X : CX p s m args meth c cc own nL ret D S cy ad A) (hdg : decode cc pc = .ok (.lxor, 1)) (k : GG p l e R s m args below meth c Q D S cy ad A nL (pc + 1) lv (mL (xorL a b) :: st) sg) : GG p l e R s m args below meth c Q D S cy ad A nL pc lv (mL b :: mL a :: st) sg := fun H locs ls hP hS hl => lv_lxor X.1 X.2.1 hdg (by have h := k H locs ls hP hS hl; rwa [show mL (xorL a b) = _ by unfold mL xorL; rw [Int64.ofInt_toInt]] at h)
theorem r_iushr (X : CX p s m args meth c cc own nL ret D S cy ad A) (hdg : decode cc pc = .ok (.iushr, 1)) (k : GG p l e R s m args below meth c Q D S cy ad A nL (pc + 1) lv (mI (ushrI a b) :: st) sg) : GG p l e R s m args below meth c Q D S cy ad A nL pc lv (mI b :: mI a :: st) sg := fun H locs ls hP hS hl => lv_iushr X.1 X.2.1 hdg rfl (by have h := k H locs ls hP hS hl; rwa [show mI (ushrI a b) = _ by unfold mI ushrI; rw [Int32.ofInt_toInt]] at h)
theorem r_idiv (X : CX p s m args meth c cc own nL ret D S cy ad A) (hne : ¬ w32 b = 0) (hdg : decode cc pc = .ok (.idiv, 1)) (k : GG p l e R s m args below meth c Q D S cy ad A nL (pc + 1) lv (mI (divI a b) :: st) sg) : GG p l e R s m args below meth c Q D S cy ad A nL pc lv (mI b :: mI a :: st) sg := fun H locs ls hP hS hl => lv_idiv X.1 X.2.1 hdg (fun h0 => hne (by unfold w32; rw [h0]; rfl)) (by have h := k H locs ls hP hS hl; rwa [show mI (divI a b) = _ by unfold mI divI; rw [Int32.ofInt_toInt]] at h)
theorem r_irem (X : CX p s m args meth c cc own nL ret D S cy ad A) (hne : ¬ w32 b = 0) (hdg : decode cc pc = .ok (.irem, 1)) (k : GG p l e R s m args below meth c Q D S cy ad A nL (pc + 1) lv (mI (remI a b) :: st) sg) : GG p l e R s m args below meth c Q D S cy ad A nL pc lv (mI b :: mI a :: st) sg := fun H locs ls hP hS hl => lv_irem X.1 X.2.1 hdg (fun h0 => hne (by unfold w32; rw [h0]; rfl)) (by have h := k H locs ls hP hS hl; rwa [show mI (remI a b) = _ by unfold mI remI; rw [Int32.ofInt_toInt]] at h)
theorem r_ldiv (X : CX p s m args meth c cc own nL ret D S cy ad A) (hne : ¬ w64 b = 0) (hdg : decode cc pc = .ok (.ldiv, 1)) (k : GG p l e R s m args below meth c Q D S cy ad A nL (pc + 1) lv (mL (divL a b) :: st) sg) : GG p l e R s m args below meth c Q D S cy ad A nL pc lv (mL b :: mL a :: st) sg := fun H locs ls hP hS hl => lv_ldiv X.1 X.2.1 hdg (fun h0 => hne (by unfold w64; rw [h0]; rfl)) (by have h := k H locs ls hP hS hl; rwa [show mL (divL a b) = _ by unfold mL divL; rw [Int64.ofInt_toInt]] at h)
theorem r_lrem (X : CX p s m args meth c cc own nL ret D S cy ad A) (hne : ¬ w64 b = 0) (hdg : decode cc pc = .ok (.lrem, 1)) (k : GG p l e R s m args below meth c Q D S cy ad A nL (pc + 1) lv (mL (remL a b) :: st) sg) : GG p l e R s m args below meth c Q D S cy ad A nL pc lv (mL b :: mL a :: st) sg := fun H locs ls hP hS hl => lv_lrem X.1 X.2.1 hdg (fun h0 => hne (by unfold w64; rw [h0]; rfl)) (by have h := k H locs ls hP hS hl; rwa [show mL (remL a b) = _ by unfold mL remL; rw [Int64.ofInt_toInt]] at h)
theorem r_i2l (X : CX p s m args meth c cc own nL ret D S cy ad A) (hdg : decode cc pc = .ok (.i2l, 1)) (k : GG p l e R s m args below meth c Q D S cy ad A nL (pc + 1) lv (mL (w32 a) :: st) sg) : GG p l e R s m args below meth c Q D S cy ad A nL pc lv (mI a :: st) sg := fun H locs ls hP hS hl => lv_i2l X.1 X.2.1 hdg (i2l_w a) (k H locs ls hP hS hl)
theorem r_i2b (X : CX p s m args meth c cc own nL ret D S cy ad A) (hdg : decode cc pc = .ok (.i2b, 1)) (k : GG p l e R s m args below meth c Q D S cy ad A nL (pc + 1) lv (mI (w8 a) :: st) sg) : GG p l e R s m args below meth c Q D S cy ad A nL pc lv (mI a :: st) sg := fun H locs ls hP hS hl => lv_i2b X.1 X.2.1 hdg (i2b_w a) (k H locs ls hP hS hl)
theorem r_dup (X : CX p s m args meth c cc own nL ret D S cy ad A) {va : Value} (hdg : decode cc pc = .ok (.dup, 1)) (hva : va.category = 1) (k : GG p l e R s m args below meth c Q D S cy ad A nL (pc + 1) lv (va :: va :: st) sg) : GG p l e R s m args below meth c Q D S cy ad A nL pc lv (va :: st) sg := fun H locs ls hP hS hl => lv_dup X.1 X.2.1 hdg hva (k H locs ls hP hS hl)
theorem r_pop (X : CX p s m args meth c cc own nL ret D S cy ad A) {va : Value} (hdg : decode cc pc = .ok (.pop, 1)) (hva : va.category = 1) (k : GG p l e R s m args below meth c Q D S cy ad A nL (pc + 1) lv st sg) : GG p l e R s m args below meth c Q D S cy ad A nL pc lv (va :: st) sg := fun H locs ls hP hS hl => lv_pop X.1 X.2.1 hdg hva (k H locs ls hP hS hl)
theorem r_dup_x1 (X : CX p s m args meth c cc own nL ret D S cy ad A) {va vb : Value} (hdg : decode cc pc = .ok (.dup_x1, 1)) (hva : va.category = 1) (hvb : vb.category = 1) (k : GG p l e R s m args below meth c Q D S cy ad A nL (pc + 1) lv (va :: vb :: va :: st) sg) : GG p l e R s m args below meth c Q D S cy ad A nL pc lv (va :: vb :: st) sg := fun H locs ls hP hS hl => lv_dup_x1 X.1 X.2.1 hdg hva hvb (k H locs ls hP hS hl)
theorem r_dup2 (X : CX p s m args meth c cc own nL ret D S cy ad A) {va vb : Value} (hdg : decode cc pc = .ok (.dup2, 1)) (hva : va.category = 1) (hvb : vb.category = 1) (k : GG p l e R s m args below meth c Q D S cy ad A nL (pc + 1) lv (va :: vb :: va :: vb :: st) sg) : GG p l e R s m args below meth c Q D S cy ad A nL pc lv (va :: vb :: st) sg := fun H locs ls hP hS hl => lv_dup2_11 X.1 X.2.1 hdg hva hvb (k H locs ls hP hS hl)
theorem r_goto (X : CX p s m args meth c cc own nL ret D S cy ad A) {off : Int} {tgt : Nat} (hdg : decode cc pc = .ok (.goto off, 3)) (ht : (pc : Int) + off = (tgt : Int)) (k : GG p l e R s m args below meth c Q D S cy ad A nL tgt lv st sg) : GG p l e R s m args below meth c Q D S cy ad A nL pc lv st sg := fun H locs ls hP hS hl => lv_goto X.1 X.2.1 hdg ht (k H locs ls hP hS hl)
theorem r_ldc (X : CX p s m args meth c cc own nL ret D S cy ad A) {index : Nat} {v : Int} (hconst : Jvm.Cond.constant own index (Int32.ofInt v) ∈ gt) (hdg : decode cc pc = .ok (.ldc index, 2)) (k : GG p l e R s m args below meth c Q D S cy ad A nL (pc + 2) lv (mI v :: st) sg) : GG p l e R s m args below meth c Q D S cy ad A nL pc lv st sg := fun H locs ls hP hS hl => lv_ldc X.1 X.2.1 X.2.2.2.1 (X.2.2.2.2.1 _ hconst) hdg (k H locs ls hP hS hl)
theorem r_ldc2 (X : CX p s m args meth c cc own nL ret D S cy ad A) {index : Nat} {v : Int} (hconst : Jvm.Cond.constantLong own index (Int64.ofInt v) ∈ gt) (hdg : decode cc pc = .ok (.ldc2_w index, 3)) (k : GG p l e R s m args below meth c Q D S cy ad A nL (pc + 3) lv (mL v :: st) sg) : GG p l e R s m args below meth c Q D S cy ad A nL pc lv st sg := fun H locs ls hP hS hl => lv_ldc2 X.1 X.2.1 X.2.2.2.1 (X.2.2.2.2.1 _ hconst) hdg (k H locs ls hP hS hl)
theorem r_ldcw (X : CX p s m args meth c cc own nL ret D S cy ad A) {index : Nat} {v : Int} (hconst : Jvm.Cond.constant own index (Int32.ofInt v) ∈ gt) (hdg : decode cc pc = .ok (.ldc_w index, 3)) (k : GG p l e R s m args below meth c Q D S cy ad A nL (pc + 3) lv (mI v :: st) sg) : GG p l e R s m args below meth c Q D S cy ad A nL pc lv st sg := fun H locs ls hP hS hl => lv_ldcw X.1 X.2.1 X.2.2.2.1 (X.2.2.2.2.1 _ hconst) hdg (k H locs ls hP hS hl)
theorem r_icmp_eq (X : CX p s m args meth c cc own nL ret D S cy ad A) {off : Int} {tgt : Nat} (hdg : decode cc pc = .ok (.if_icmp .eq off, 3)) (ht : (pc : Int) + off = (tgt : Int)) (kt : w32 a = w32 b → GG p l e R s m args below meth c Q D S cy ad A nL tgt lv st sg) (kf : ¬ w32 a = w32 b → GG p l e R s m args below meth c Q D S cy ad A nL (pc + 3) lv st sg) : GG p l e R s m args below meth c Q D S cy ad A nL pc lv (mI b :: mI a :: st) sg := fun H locs ls hP hS hl => lv_icmp_eq X.1 X.2.1 hdg ht (fun q => kt (eq_w.mp q) H locs ls hP hS hl) (fun q => kf (fun z => q (eq_w.mpr z)) H locs ls hP hS hl)
theorem r_icmp_lt (X : CX p s m args meth c cc own nL ret D S cy ad A) {off : Int} {tgt : Nat} (hdg : decode cc pc = .ok (.if_icmp .lt off, 3)) (ht : (pc : Int) + off = (tgt : Int)) (kt : w32 a < w32 b → GG p l e R s m args below meth c Q D S cy ad A nL tgt lv st sg) (kf : ¬ w32 a < w32 b → GG p l e R s m args below meth c Q D S cy ad A nL (pc + 3) lv st sg) : GG p l e R s m args below meth c Q D S cy ad A nL pc lv (mI b :: mI a :: st) sg := fun H locs ls hP hS hl => lv_icmp_lt X.1 X.2.1 hdg ht (fun q => kt (lt_w.mp q) H locs ls hP hS hl) (fun q => kf (fun z => q (lt_w.mpr z)) H locs ls hP hS hl)
theorem r_icmp_ge (X : CX p s m args meth c cc own nL ret D S cy ad A) {off : Int} {tgt : Nat} (hdg : decode cc pc = .ok (.if_icmp .ge off, 3)) (ht : (pc : Int) + off = (tgt : Int)) (kt : w32 b ≤ w32 a → GG p l e R s m args below meth c Q D S cy ad A nL tgt lv st sg) (kf : ¬ w32 b ≤ w32 a → GG p l e R s m args below meth c Q D S cy ad A nL (pc + 3) lv st sg) : GG p l e R s m args below meth c Q D S cy ad A nL pc lv (mI b :: mI a :: st) sg := fun H locs ls hP hS hl => lv_icmp_ge X.1 X.2.1 hdg ht (fun q => kt (le_w.mp q) H locs ls hP hS hl) (fun q => kf (fun z => q (le_w.mpr z)) H locs ls hP hS hl)
theorem r_icmp_gt (X : CX p s m args meth c cc own nL ret D S cy ad A) {off : Int} {tgt : Nat} (hdg : decode cc pc = .ok (.if_icmp .gt off, 3)) (ht : (pc : Int) + off = (tgt : Int)) (kt : w32 b < w32 a → GG p l e R s m args below meth c Q D S cy ad A nL tgt lv st sg) (kf : ¬ w32 b < w32 a → GG p l e R s m args below meth c Q D S cy ad A nL (pc + 3) lv st sg) : GG p l e R s m args below meth c Q D S cy ad A nL pc lv (mI b :: mI a :: st) sg := fun H locs ls hP hS hl => lv_icmp_gt X.1 X.2.1 hdg ht (fun q => kt (lt_w.mp q) H locs ls hP hS hl) (fun q => kf (fun z => q (lt_w.mpr z)) H locs ls hP hS hl)
theorem r_icmp_le (X : CX p s m args meth c cc own nL ret D S cy ad A) {off : Int} {tgt : Nat} (hdg : decode cc pc = .ok (.if_icmp .le off, 3)) (ht : (pc : Int) + off = (tgt : Int)) (kt : w32 a ≤ w32 b → GG p l e R s m args below meth c Q D S cy ad A nL tgt lv st sg) (kf : ¬ w32 a ≤ w32 b → GG p l e R s m args below meth c Q D S cy ad A nL (pc + 3) lv st sg) : GG p l e R s m args below meth c Q D S cy ad A nL pc lv (mI b :: mI a :: st) sg := fun H locs ls hP hS hl => lv_icmp_le X.1 X.2.1 hdg ht (fun q => kt (le_w.mp q) H locs ls hP hS hl) (fun q => kf (fun z => q (le_w.mpr z)) H locs ls hP hS hl)
theorem r_if_eq (X : CX p s m args meth c cc own nL ret D S cy ad A) {off : Int} {tgt : Nat} (hdg : decode cc pc = .ok (.ifCond .eq off, 3)) (ht : (pc : Int) + off = (tgt : Int)) (kt : w32 a = 0 → GG p l e R s m args below meth c Q D S cy ad A nL tgt lv st sg) (kf : ¬ w32 a = 0 → GG p l e R s m args below meth c Q D S cy ad A nL (pc + 3) lv st sg) : GG p l e R s m args below meth c Q D S cy ad A nL pc lv (mI a :: st) sg := fun H locs ls hP hS hl => lv_if_eq X.1 X.2.1 hdg ht (fun q => kt (eq_w0.mp q) H locs ls hP hS hl) (fun q => kf (fun z => q (eq_w0.mpr z)) H locs ls hP hS hl)
theorem r_if_lt (X : CX p s m args meth c cc own nL ret D S cy ad A) {off : Int} {tgt : Nat} (hdg : decode cc pc = .ok (.ifCond .lt off, 3)) (ht : (pc : Int) + off = (tgt : Int)) (kt : w32 a < 0 → GG p l e R s m args below meth c Q D S cy ad A nL tgt lv st sg) (kf : ¬ w32 a < 0 → GG p l e R s m args below meth c Q D S cy ad A nL (pc + 3) lv st sg) : GG p l e R s m args below meth c Q D S cy ad A nL pc lv (mI a :: st) sg := fun H locs ls hP hS hl => lv_if_lt X.1 X.2.1 hdg ht (fun q => kt (lt_w0.mp q) H locs ls hP hS hl) (fun q => kf (fun z => q (lt_w0.mpr z)) H locs ls hP hS hl)
theorem r_if_ge (X : CX p s m args meth c cc own nL ret D S cy ad A) {off : Int} {tgt : Nat} (hdg : decode cc pc = .ok (.ifCond .ge off, 3)) (ht : (pc : Int) + off = (tgt : Int)) (kt : 0 ≤ w32 a → GG p l e R s m args below meth c Q D S cy ad A nL tgt lv st sg) (kf : ¬ 0 ≤ w32 a → GG p l e R s m args below meth c Q D S cy ad A nL (pc + 3) lv st sg) : GG p l e R s m args below meth c Q D S cy ad A nL pc lv (mI a :: st) sg := fun H locs ls hP hS hl => lv_if_ge X.1 X.2.1 hdg ht (fun q => kt (ge_w0.mp q) H locs ls hP hS hl) (fun q => kf (fun z => q (ge_w0.mpr z)) H locs ls hP hS hl)
theorem r_if_gt (X : CX p s m args meth c cc own nL ret D S cy ad A) {off : Int} {tgt : Nat} (hdg : decode cc pc = .ok (.ifCond .gt off, 3)) (ht : (pc : Int) + off = (tgt : Int)) (kt : 0 < w32 a → GG p l e R s m args below meth c Q D S cy ad A nL tgt lv st sg) (kf : ¬ 0 < w32 a → GG p l e R s m args below meth c Q D S cy ad A nL (pc + 3) lv st sg) : GG p l e R s m args below meth c Q D S cy ad A nL pc lv (mI a :: st) sg := fun H locs ls hP hS hl => lv_if_gt X.1 X.2.1 hdg ht (fun q => kt (gt_w0.mp q) H locs ls hP hS hl) (fun q => kf (fun z => q (gt_w0.mpr z)) H locs ls hP hS hl)
theorem r_if_le (X : CX p s m args meth c cc own nL ret D S cy ad A) {off : Int} {tgt : Nat} (hdg : decode cc pc = .ok (.ifCond .le off, 3)) (ht : (pc : Int) + off = (tgt : Int)) (kt : w32 a ≤ 0 → GG p l e R s m args below meth c Q D S cy ad A nL tgt lv st sg) (kf : ¬ w32 a ≤ 0 → GG p l e R s m args below meth c Q D S cy ad A nL (pc + 3) lv st sg) : GG p l e R s m args below meth c Q D S cy ad A nL pc lv (mI a :: st) sg := fun H locs ls hP hS hl => lv_if_le X.1 X.2.1 hdg ht (fun q => kt (le_w0.mp q) H locs ls hP hS hl) (fun q => kf (fun z => q (le_w0.mpr z)) H locs ls hP hS hl)
theorem r_icmp_ne (X : CX p s m args meth c cc own nL ret D S cy ad A) {off : Int} {tgt : Nat} (hdg : decode cc pc = .ok (.if_icmp .ne off, 3)) (ht : (pc : Int) + off = (tgt : Int)) (kf : w32 a = w32 b → GG p l e R s m args below meth c Q D S cy ad A nL (pc + 3) lv st sg) (kt : ¬ w32 a = w32 b → GG p l e R s m args below meth c Q D S cy ad A nL tgt lv st sg) : GG p l e R s m args below meth c Q D S cy ad A nL pc lv (mI b :: mI a :: st) sg := fun H locs ls hP hS hl => lv_icmp_ne X.1 X.2.1 hdg ht (fun q => kt (fun z => q (eq_w.mpr z)) H locs ls hP hS hl) (fun q => kf (eq_w.mp q) H locs ls hP hS hl)
theorem r_if_ne (X : CX p s m args meth c cc own nL ret D S cy ad A) {off : Int} {tgt : Nat} (hdg : decode cc pc = .ok (.ifCond .ne off, 3)) (ht : (pc : Int) + off = (tgt : Int)) (kf : w32 a = 0 → GG p l e R s m args below meth c Q D S cy ad A nL (pc + 3) lv st sg) (kt : ¬ w32 a = 0 → GG p l e R s m args below meth c Q D S cy ad A nL tgt lv st sg) : GG p l e R s m args below meth c Q D S cy ad A nL pc lv (mI a :: st) sg := fun H locs ls hP hS hl => lv_if_ne X.1 X.2.1 hdg ht (fun q => kt (fun z => q (eq_w0.mpr z)) H locs ls hP hS hl) (fun q => kf (eq_w0.mp q) H locs ls hP hS hl)
theorem r_lc_eq (X : CX p s m args meth c cc own nL ret D S cy ad A) {off : Int} {tgt : Nat} (hd0 : decode cc pc = .ok (.lcmp, 1)) (hdg : decode cc (pc + 1) = .ok (.ifCond .eq off, 3)) (ht : ((pc + 1 : Nat) : Int) + off = (tgt : Int)) (kt : w64 a = w64 b → GG p l e R s m args below meth c Q D S cy ad A nL tgt lv st sg) (kf : ¬ w64 a = w64 b → GG p l e R s m args below meth c Q D S cy ad A nL (pc + 1 + 3) lv st sg) : GG p l e R s m args below meth c Q D S cy ad A nL pc lv (mL b :: mL a :: st) sg := fun H locs ls hP hS hl => W.lcmp X.1 X.2.1 hd0 (lv_if_eq X.1 X.2.1 hdg ht (fun q => kt (lgc_eq.mp q) H locs ls hP hS hl) (fun q => kf (fun z => q (lgc_eq.mpr z)) H locs ls hP hS hl))
theorem r_lc_lt (X : CX p s m args meth c cc own nL ret D S cy ad A) {off : Int} {tgt : Nat} (hd0 : decode cc pc = .ok (.lcmp, 1)) (hdg : decode cc (pc + 1) = .ok (.ifCond .lt off, 3)) (ht : ((pc + 1 : Nat) : Int) + off = (tgt : Int)) (kt : w64 a < w64 b → GG p l e R s m args below meth c Q D S cy ad A nL tgt lv st sg) (kf : ¬ w64 a < w64 b → GG p l e R s m args below meth c Q D S cy ad A nL (pc + 1 + 3) lv st sg) : GG p l e R s m args below meth c Q D S cy ad A nL pc lv (mL b :: mL a :: st) sg := fun H locs ls hP hS hl => W.lcmp X.1 X.2.1 hd0 (lv_if_lt X.1 X.2.1 hdg ht (fun q => kt (lgc_lt.mp q) H locs ls hP hS hl) (fun q => kf (fun z => q (lgc_lt.mpr z)) H locs ls hP hS hl))
theorem r_lc_ge (X : CX p s m args meth c cc own nL ret D S cy ad A) {off : Int} {tgt : Nat} (hd0 : decode cc pc = .ok (.lcmp, 1)) (hdg : decode cc (pc + 1) = .ok (.ifCond .ge off, 3)) (ht : ((pc + 1 : Nat) : Int) + off = (tgt : Int)) (kt : w64 b ≤ w64 a → GG p l e R s m args below meth c Q D S cy ad A nL tgt lv st sg) (kf : ¬ w64 b ≤ w64 a → GG p l e R s m args below meth c Q D S cy ad A nL (pc + 1 + 3) lv st sg) : GG p l e R s m args below meth c Q D S cy ad A nL pc lv (mL b :: mL a :: st) sg := fun H locs ls hP hS hl => W.lcmp X.1 X.2.1 hd0 (lv_if_ge X.1 X.2.1 hdg ht (fun q => kt (lgc_ge.mp q) H locs ls hP hS hl) (fun q => kf (fun z => q (lgc_ge.mpr z)) H locs ls hP hS hl))
theorem r_lc_gt (X : CX p s m args meth c cc own nL ret D S cy ad A) {off : Int} {tgt : Nat} (hd0 : decode cc pc = .ok (.lcmp, 1)) (hdg : decode cc (pc + 1) = .ok (.ifCond .gt off, 3)) (ht : ((pc + 1 : Nat) : Int) + off = (tgt : Int)) (kt : w64 b < w64 a → GG p l e R s m args below meth c Q D S cy ad A nL tgt lv st sg) (kf : ¬ w64 b < w64 a → GG p l e R s m args below meth c Q D S cy ad A nL (pc + 1 + 3) lv st sg) : GG p l e R s m args below meth c Q D S cy ad A nL pc lv (mL b :: mL a :: st) sg := fun H locs ls hP hS hl => W.lcmp X.1 X.2.1 hd0 (lv_if_gt X.1 X.2.1 hdg ht (fun q => kt (lgc_gt.mp q) H locs ls hP hS hl) (fun q => kf (fun z => q (lgc_gt.mpr z)) H locs ls hP hS hl))
theorem r_lc_le (X : CX p s m args meth c cc own nL ret D S cy ad A) {off : Int} {tgt : Nat} (hd0 : decode cc pc = .ok (.lcmp, 1)) (hdg : decode cc (pc + 1) = .ok (.ifCond .le off, 3)) (ht : ((pc + 1 : Nat) : Int) + off = (tgt : Int)) (kt : w64 a ≤ w64 b → GG p l e R s m args below meth c Q D S cy ad A nL tgt lv st sg) (kf : ¬ w64 a ≤ w64 b → GG p l e R s m args below meth c Q D S cy ad A nL (pc + 1 + 3) lv st sg) : GG p l e R s m args below meth c Q D S cy ad A nL pc lv (mL b :: mL a :: st) sg := fun H locs ls hP hS hl => W.lcmp X.1 X.2.1 hd0 (lv_if_le X.1 X.2.1 hdg ht (fun q => kt (lgc_le.mp q) H locs ls hP hS hl) (fun q => kf (fun z => q (lgc_le.mpr z)) H locs ls hP hS hl))
theorem r_lc_ne (X : CX p s m args meth c cc own nL ret D S cy ad A) {off : Int} {tgt : Nat} (hd0 : decode cc pc = .ok (.lcmp, 1)) (hdg : decode cc (pc + 1) = .ok (.ifCond .ne off, 3)) (ht : ((pc + 1 : Nat) : Int) + off = (tgt : Int)) (kf : w64 a = w64 b → GG p l e R s m args below meth c Q D S cy ad A nL (pc + 1 + 3) lv st sg) (kt : ¬ w64 a = w64 b → GG p l e R s m args below meth c Q D S cy ad A nL tgt lv st sg) : GG p l e R s m args below meth c Q D S cy ad A nL pc lv (mL b :: mL a :: st) sg := fun H locs ls hP hS hl => W.lcmp X.1 X.2.1 hd0 (lv_if_ne X.1 X.2.1 hdg ht (fun q => kt (fun z => q (lgc_eq.mpr z)) H locs ls hP hS hl) (fun q => kf (lgc_eq.mp q) H locs ls hP hS hl))
theorem r_getI (X : CX p s m args meth c cc own nL ret D S cy ad A) {idx c0 j ci : Nat} (hF : FL own idx ci j) (hk : fk S c0 j = some (ci, .inl 0)) (hdg : decode cc pc = .ok (.getfield idx, 3)) (k : GG p l e R s m args below meth c Q D S cy ad A nL (pc + 3) lv (mI (sg c0 j) :: st) sg) : GG p l e R s m args below meth c Q D S cy ad A nL pc lv (.ref (ad c0) :: st) sg := fun H locs ls hP hS hl => get_any X hF hk hP hdg (k H locs ls hP hS hl)
theorem r_getL (X : CX p s m args meth c cc own nL ret D S cy ad A) {idx c0 j ci : Nat} (hF : FL own idx ci j) (hk : fk S c0 j = some (ci, .inl 1)) (hdg : decode cc pc = .ok (.getfield idx, 3)) (k : GG p l e R s m args below meth c Q D S cy ad A nL (pc + 3) lv (mL (sg c0 j) :: st) sg) : GG p l e R s m args below meth c Q D S cy ad A nL pc lv (.ref (ad c0) :: st) sg := fun H locs ls hP hS hl => get_any X hF hk hP hdg (k H locs ls hP hS hl)
theorem r_getR (X : CX p s m args meth c cc own nL ret D S cy ad A) {idx c0 j ci t : Nat} (hF : FL own idx ci j) (hk : fk S c0 j = some (ci, .inr t)) (hdg : decode cc pc = .ok (.getfield idx, 3)) (k : GG p l e R s m args below meth c Q D S cy ad A nL (pc + 3) lv (.ref (ad t) :: st) sg) : GG p l e R s m args below meth c Q D S cy ad A nL pc lv (.ref (ad c0) :: st) sg := fun H locs ls hP hS hl => get_any X hF hk hP hdg (k H locs ls hP hS hl)
theorem r_getM (X : CX p s m args meth c cc own nL ret D S cy ad A) {idx c0 j ci : Nat} (hF : FL own idx ci j) (hk : fk S c0 j = some (ci, .inl 2)) (hdg : decode cc pc = .ok (.getfield idx, 3)) (k : GG p l e R s m args below meth c Q D S cy ad A nL (pc + 3) lv (.ref (ad (sg c0 j).toNat) :: st) sg) : GG p l e R s m args below meth c Q D S cy ad A nL pc lv (.ref (ad c0) :: st) sg := fun H locs ls hP hS hl => get_any X hF hk hP hdg (k H locs ls hP hS hl)
theorem r_putI (X : CX p s m args meth c cc own nL ret D S cy ad A) {idx c0 j ci : Nat} {ty : FieldType} {v : Int} (hF : FP own idx ci j ty) (hk : fk S c0 j = some (ci, .inl 0)) (hn : narrow ty (mI v) = mI v) (hfit : fits ty (mI v) = true) (hdg : decode cc pc = .ok (.putfield idx, 3)) (k : GG p l e R s m args below meth c Q D S cy ad A nL (pc + 3) lv st (put sg c0 j v)) : GG p l e R s m args below meth c Q D S cy ad A nL pc lv (mI v :: .ref (ad c0) :: st) sg := fun H locs ls hP hS hl => put_any X hF hk hn hfit rfl hP hS hdg (fun H1 locs1 hP1 hS1 => k H1 locs1 ls hP1 hS1 hl)
theorem r_putL (X : CX p s m args meth c cc own nL ret D S cy ad A) {idx c0 j ci : Nat} {ty : FieldType} {v : Int} (hF : FP own idx ci j ty) (hk : fk S c0 j = some (ci, .inl 1)) (hn : narrow ty (mL v) = mL v) (hfit : fits ty (mL v) = true) (hdg : decode cc pc = .ok (.putfield idx, 3)) (k : GG p l e R s m args below meth c Q D S cy ad A nL (pc + 3) lv st (put sg c0 j v)) : GG p l e R s m args below meth c Q D S cy ad A nL pc lv (mL v :: .ref (ad c0) :: st) sg := fun H locs ls hP hS hl => put_any X hF hk hn hfit rfl hP hS hdg (fun H1 locs1 hP1 hS1 => k H1 locs1 ls hP1 hS1 hl)
theorem r_putM (X : CX p s m args meth c cc own nL ret D S cy ad A) {idx c0 j ci : Nat} {ty : FieldType} {v : Nat} (hF : FP own idx ci j ty) (hk : fk S c0 j = some (ci, .inl 2)) (hn : narrow ty (.ref (ad v)) = .ref (ad v)) (hfit : fits ty (.ref (ad v)) = true) (hdg : decode cc pc = .ok (.putfield idx, 3)) (k : GG p l e R s m args below meth c Q D S cy ad A nL (pc + 3) lv st (put sg c0 j (v : Int))) : GG p l e R s m args below meth c Q D S cy ad A nL pc lv (.ref (ad v) :: .ref (ad c0) :: st) sg := fun H locs ls hP hS hl => put_any X hF hk hn hfit rfl hP hS hdg (fun H1 locs1 hP1 hS1 => k H1 locs1 ls hP1 hS1 hl)
theorem r_iald (X : CX p s m args meth c cc own nL ret D S cy ad A) {c0 n : Nat} (hq : S[c0]? = some (.inl (0, n, .inl 0))) (hi : inb a n) (hdg : decode cc pc = .ok (.iaload, 1)) (k : GG p l e R s m args below meth c Q D S cy ad A nL (pc + 1) lv (mI (sg c0 (ix a)) :: st) sg) : GG p l e R s m args below meth c Q D S cy ad A nL pc lv (mI a :: .ref (ad c0) :: st) sg := fun H locs ls hP hS hl => va_iald X.1 X.2.1 X.2.2.2.2.2.1 hP c0 0 (wd_at hq) rfl (inb_vp hi) hdg (k H locs ls hP hS hl)
theorem r_zald (X : CX p s m args meth c cc own nL ret D S cy ad A) {c0 n : Nat} (hq : S[c0]? = some (.inl (2, n, .inl 0))) (hi : inb a n) (hdg : decode cc pc = .ok (.baload, 1)) (k : GG p l e R s m args below meth c Q D S cy ad A nL (pc + 1) lv (mI (sg c0 (ix a)) :: st) sg) : GG p l e R s m args below meth c Q D S cy ad A nL pc lv (mI a :: .ref (ad c0) :: st) sg := fun H locs ls hP hS hl => va_zald X.1 X.2.1 X.2.2.2.2.2.1 hP c0 2 (wd_at hq) rfl (inb_vp hi) hdg (k H locs ls hP hS hl)
theorem r_bald (X : CX p s m args meth c cc own nL ret D S cy ad A) {c0 n : Nat} (hq : S[c0]? = some (.inl (3, n, .inl 0))) (hi : inb a n) (hdg : decode cc pc = .ok (.baload, 1)) (k : GG p l e R s m args below meth c Q D S cy ad A nL (pc + 1) lv (mI (sg c0 (ix a)) :: st) sg) : GG p l e R s m args below meth c Q D S cy ad A nL pc lv (mI a :: .ref (ad c0) :: st) sg := fun H locs ls hP hS hl => va_bald X.1 X.2.1 X.2.2.2.2.2.1 hP c0 3 (wd_at hq) rfl (inb_vp hi) hdg (k H locs ls hP hS hl)
theorem r_lald (X : CX p s m args meth c cc own nL ret D S cy ad A) {c0 n : Nat} (hq : S[c0]? = some (.inl (1, n, .inl 1))) (hi : inb a n) (hdg : decode cc pc = .ok (.laload, 1)) (k : GG p l e R s m args below meth c Q D S cy ad A nL (pc + 1) lv (mL (sg c0 (ix a)) :: st) sg) : GG p l e R s m args below meth c Q D S cy ad A nL pc lv (mI a :: .ref (ad c0) :: st) sg := fun H locs ls hP hS hl => va_lald X.1 X.2.1 X.2.2.2.2.2.1 hP c0 1 (wd_at hq) rfl (inb_vp hi) hdg (k H locs ls hP hS hl)
theorem r_iast (X : CX p s m args meth c cc own nL ret D S cy ad A) {c0 n : Nat} {v : Int} (hq : S[c0]? = some (.inl (0, n, .inl 0))) (hi : inb a n) (hdg : decode cc pc = .ok (.iastore, 1)) (k : GG p l e R s m args below meth c Q D S cy ad A nL (pc + 1) lv st (put sg c0 (ix a) v)) : GG p l e R s m args below meth c Q D S cy ad A nL pc lv (mI v :: mI a :: .ref (ad c0) :: st) sg := fun H locs ls hP hS hl => va_iast X.1 X.2.1 X.2.2.2.2.2.1 hP (wd_D sg X.2.2.2.2.2.2.1 X.2.2.2.2.2.2.2.1) hS c0 0 (wd_at hq) rfl (inb_vp hi) hdg (fun H1 locs1 hP1 _ hS1 => k H1 locs1 ls (by rw [← wd_set hq (ce_i _ _ _ _ sg _ _ _) (fun c2 h => put_other sg c0 _ _ h)]; exact hP1) hS1 hl)
theorem r_zast (X : CX p s m args meth c cc own nL ret D S cy ad A) {c0 n : Nat} {v : Int} (hq : S[c0]? = some (.inl (2, n, .inl 0))) (hi : inb a n) (hdg : decode cc pc = .ok (.bastore, 1)) (k : GG p l e R s m args below meth c Q D S cy ad A nL (pc + 1) lv st (put sg c0 (ix a) (nz v))) : GG p l e R s m args below meth c Q D S cy ad A nL pc lv (mI v :: mI a :: .ref (ad c0) :: st) sg := fun H locs ls hP hS hl => va_zast X.1 X.2.1 X.2.2.2.2.2.1 hP (wd_D sg X.2.2.2.2.2.2.1 X.2.2.2.2.2.2.2.1) hS c0 2 (wd_at hq) rfl (inb_vp hi) hdg (fun H1 locs1 hP1 _ hS1 => k H1 locs1 ls (by rw [← wd_set hq (ce_z _ _ _ _ sg _ _ _) (fun c2 h => put_other sg c0 _ _ h)]; exact hP1) hS1 hl)
theorem r_bast (X : CX p s m args meth c cc own nL ret D S cy ad A) {c0 n : Nat} {v : Int} (hq : S[c0]? = some (.inl (3, n, .inl 0))) (hi : inb a n) (hdg : decode cc pc = .ok (.bastore, 1)) (k : GG p l e R s m args below meth c Q D S cy ad A nL (pc + 1) lv st (put sg c0 (ix a) (w8 v))) : GG p l e R s m args below meth c Q D S cy ad A nL pc lv (mI v :: mI a :: .ref (ad c0) :: st) sg := fun H locs ls hP hS hl => va_bast X.1 X.2.1 X.2.2.2.2.2.1 hP (wd_D sg X.2.2.2.2.2.2.1 X.2.2.2.2.2.2.2.1) hS c0 3 (wd_at hq) rfl (inb_vp hi) hdg (fun H1 locs1 hP1 _ hS1 => k H1 locs1 ls (by rw [← wd_set hq (ce_b _ _ _ _ sg _ _ _) (fun c2 h => put_other sg c0 _ _ h)]; exact hP1) hS1 hl)
theorem r_last (X : CX p s m args meth c cc own nL ret D S cy ad A) {c0 n : Nat} {v : Int} (hq : S[c0]? = some (.inl (1, n, .inl 1))) (hi : inb a n) (hdg : decode cc pc = .ok (.lastore, 1)) (k : GG p l e R s m args below meth c Q D S cy ad A nL (pc + 1) lv st (put sg c0 (ix a) v)) : GG p l e R s m args below meth c Q D S cy ad A nL pc lv (mL v :: mI a :: .ref (ad c0) :: st) sg := fun H locs ls hP hS hl => va_last X.1 X.2.1 X.2.2.2.2.2.1 hP (wd_D sg X.2.2.2.2.2.2.1 X.2.2.2.2.2.2.2.1) hS c0 1 (wd_at hq) rfl (inb_vp hi) hdg (fun H1 locs1 hP1 _ hS1 => k H1 locs1 ls (by rw [← wd_set hq (ce_l _ _ _ _ sg _ _ _) (fun c2 h => put_other sg c0 _ _ h)]; exact hP1) hS1 hl)
end RR
end
