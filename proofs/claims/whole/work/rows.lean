section
-- ===== PART A: goes FIRST, ahead of the names: the tables' words, and 'selects' of the private methods out of them =====
/-- a private method of a class that the tables say can be made, by its rows of tables_1 -/
def lw_okq (q : MethodName × Nat) : Prop := (q.1.cls ≠ "java/lang/invoke/MethodHandle" ∧ q.1.cls ≠ "java/lang/invoke/VarHandle") ∧ Cond.instantiable q.1.cls q.2 ∈ tables_1 ∧ Cond.privateMethod q.1 ∈ tables_1 ∧ Cond.instanceMethod q.1 ∈ tables_1
theorem lw_p0 : lw_okq (⟨"PileTricks$Reader", "forget", "()V"⟩, 8) := ⟨⟨by decide +kernel, by decide +kernel⟩, List.mem_of_getElem? (i := 83) (by decide +kernel), List.mem_of_getElem? (i := 140) (by decide +kernel), List.mem_of_getElem? (i := 141) (by decide +kernel)⟩
theorem lw_p1 : lw_okq (⟨"PileTricks", "startAnew", "()V"⟩, 13) := ⟨⟨by decide +kernel, by decide +kernel⟩, List.mem_of_getElem? (i := 27) (by decide +kernel), List.mem_of_getElem? (i := 344) (by decide +kernel), List.mem_of_getElem? (i := 345) (by decide +kernel)⟩
theorem lw_p2 : lw_okq (⟨"PileTricks$Setting", "takeOver", "(LPileTricks$Reader;LPileTricks$Dealer;)V"⟩, 10) := ⟨⟨by decide +kernel, by decide +kernel⟩, List.mem_of_getElem? (i := 218) (by decide +kernel), List.mem_of_getElem? (i := 348) (by decide +kernel), List.mem_of_getElem? (i := 349) (by decide +kernel)⟩
theorem lw_p3 : lw_okq (⟨"PileTricks$Dealer", "fit", "(II)V"⟩, 8) := ⟨⟨by decide +kernel, by decide +kernel⟩, List.mem_of_getElem? (i := 186) (by decide +kernel), List.mem_of_getElem? (i := 355) (by decide +kernel), List.mem_of_getElem? (i := 356) (by decide +kernel)⟩
theorem lw_p4 : lw_okq (⟨"PileTricks$Dealer", "heapBy", "(II)I"⟩, 8) := ⟨⟨by decide +kernel, by decide +kernel⟩, List.mem_of_getElem? (i := 186) (by decide +kernel), List.mem_of_getElem? (i := 362) (by decide +kernel), List.mem_of_getElem? (i := 363) (by decide +kernel)⟩
theorem lw_p5 : lw_okq (⟨"PileTricks$Dealer", "sizeOf", "(II)I"⟩, 8) := ⟨⟨by decide +kernel, by decide +kernel⟩, List.mem_of_getElem? (i := 186) (by decide +kernel), List.mem_of_getElem? (i := 375) (by decide +kernel), List.mem_of_getElem? (i := 376) (by decide +kernel)⟩
theorem lw_p6 : lw_okq (⟨"PileTricks$Setting", "takeDeals", "(LPileTricks$Reader;LPileTricks$Dealer;)V"⟩, 10) := ⟨⟨by decide +kernel, by decide +kernel⟩, List.mem_of_getElem? (i := 218) (by decide +kernel), List.mem_of_getElem? (i := 383) (by decide +kernel), List.mem_of_getElem? (i := 384) (by decide +kernel)⟩
theorem lw_p7 : lw_okq (⟨"PileTricks$Rules", "setValue", "(II)V"⟩, 14) := ⟨⟨by decide +kernel, by decide +kernel⟩, List.mem_of_getElem? (i := 89) (by decide +kernel), List.mem_of_getElem? (i := 388) (by decide +kernel), List.mem_of_getElem? (i := 389) (by decide +kernel)⟩
theorem lw_p8 : lw_okq (⟨"PileTricks$Rules", "workOut", "(I)I"⟩, 14) := ⟨⟨by decide +kernel, by decide +kernel⟩, List.mem_of_getElem? (i := 89) (by decide +kernel), List.mem_of_getElem? (i := 394) (by decide +kernel), List.mem_of_getElem? (i := 395) (by decide +kernel)⟩
theorem lw_p9 : lw_okq (⟨"PileTricks$Setting", "takeDealOfNone", "()V"⟩, 10) := ⟨⟨by decide +kernel, by decide +kernel⟩, List.mem_of_getElem? (i := 218) (by decide +kernel), List.mem_of_getElem? (i := 407) (by decide +kernel), List.mem_of_getElem? (i := 408) (by decide +kernel)⟩
theorem lw_p10 : lw_okq (⟨"PileTricks$Setting", "follow", "(ILPileTricks$Dealer;)V"⟩, 10) := ⟨⟨by decide +kernel, by decide +kernel⟩, List.mem_of_getElem? (i := 218) (by decide +kernel), List.mem_of_getElem? (i := 411) (by decide +kernel), List.mem_of_getElem? (i := 412) (by decide +kernel)⟩
theorem lw_p11 : lw_okq (⟨"PileTricks$Setting", "kindOf", "(I)I"⟩, 10) := ⟨⟨by decide +kernel, by decide +kernel⟩, List.mem_of_getElem? (i := 218) (by decide +kernel), List.mem_of_getElem? (i := 415) (by decide +kernel), List.mem_of_getElem? (i := 416) (by decide +kernel)⟩
theorem lw_p12 : lw_okq (⟨"PileTricks$Setting", "sideOf", "(I)I"⟩, 10) := ⟨⟨by decide +kernel, by decide +kernel⟩, List.mem_of_getElem? (i := 218) (by decide +kernel), List.mem_of_getElem? (i := 419) (by decide +kernel), List.mem_of_getElem? (i := 420) (by decide +kernel)⟩
theorem lw_p13 : lw_okq (⟨"PileTricks$Dealer", "hold", "(II)V"⟩, 8) := ⟨⟨by decide +kernel, by decide +kernel⟩, List.mem_of_getElem? (i := 186) (by decide +kernel), List.mem_of_getElem? (i := 423) (by decide +kernel), List.mem_of_getElem? (i := 424) (by decide +kernel)⟩
theorem lw_p14 : lw_okq (⟨"PileTricks$Setting", "layingOf", "(II)I"⟩, 10) := ⟨⟨by decide +kernel, by decide +kernel⟩, List.mem_of_getElem? (i := 218) (by decide +kernel), List.mem_of_getElem? (i := 427) (by decide +kernel), List.mem_of_getElem? (i := 428) (by decide +kernel)⟩
theorem lw_p15 : lw_okq (⟨"PileTricks$Dealer", "layOwn", "(II)V"⟩, 8) := ⟨⟨by decide +kernel, by decide +kernel⟩, List.mem_of_getElem? (i := 186) (by decide +kernel), List.mem_of_getElem? (i := 431) (by decide +kernel), List.mem_of_getElem? (i := 432) (by decide +kernel)⟩
def lw_privs_1 : List (MethodName × Nat) := [(⟨"PileTricks$Reader", "forget", "()V"⟩, 8), (⟨"PileTricks", "startAnew", "()V"⟩, 13), (⟨"PileTricks$Setting", "takeOver", "(LPileTricks$Reader;LPileTricks$Dealer;)V"⟩, 10), (⟨"PileTricks$Dealer", "fit", "(II)V"⟩, 8), (⟨"PileTricks$Dealer", "heapBy", "(II)I"⟩, 8), (⟨"PileTricks$Dealer", "sizeOf", "(II)I"⟩, 8), (⟨"PileTricks$Setting", "takeDeals", "(LPileTricks$Reader;LPileTricks$Dealer;)V"⟩, 10), (⟨"PileTricks$Rules", "setValue", "(II)V"⟩, 14), (⟨"PileTricks$Rules", "workOut", "(I)I"⟩, 14), (⟨"PileTricks$Setting", "takeDealOfNone", "()V"⟩, 10), (⟨"PileTricks$Setting", "follow", "(ILPileTricks$Dealer;)V"⟩, 10), (⟨"PileTricks$Setting", "kindOf", "(I)I"⟩, 10), (⟨"PileTricks$Setting", "sideOf", "(I)I"⟩, 10), (⟨"PileTricks$Dealer", "hold", "(II)V"⟩, 8), (⟨"PileTricks$Setting", "layingOf", "(II)I"⟩, 10), (⟨"PileTricks$Dealer", "layOwn", "(II)V"⟩, 8)]
theorem lw_r1 : ∀ q ∈ lw_privs_1, lw_okq q := List.forall_mem_cons.mpr ⟨lw_p0, List.forall_mem_cons.mpr ⟨lw_p1, List.forall_mem_cons.mpr ⟨lw_p2, List.forall_mem_cons.mpr ⟨lw_p3, List.forall_mem_cons.mpr ⟨lw_p4, List.forall_mem_cons.mpr ⟨lw_p5, List.forall_mem_cons.mpr ⟨lw_p6, List.forall_mem_cons.mpr ⟨lw_p7, List.forall_mem_cons.mpr ⟨lw_p8, List.forall_mem_cons.mpr ⟨lw_p9, List.forall_mem_cons.mpr ⟨lw_p10, List.forall_mem_cons.mpr ⟨lw_p11, List.forall_mem_cons.mpr ⟨lw_p12, List.forall_mem_cons.mpr ⟨lw_p13, List.forall_mem_cons.mpr ⟨lw_p14, List.forall_mem_cons.mpr ⟨lw_p15, fun _ h => absurd h List.not_mem_nil⟩⟩⟩⟩⟩⟩⟩⟩⟩⟩⟩⟩⟩⟩⟩⟩
theorem lw_p16 : lw_okq (⟨"PileTricks$Dealer", "newPlace", "(I)I"⟩, 8) := ⟨⟨by decide +kernel, by decide +kernel⟩, List.mem_of_getElem? (i := 186) (by decide +kernel), List.mem_of_getElem? (i := 435) (by decide +kernel), List.mem_of_getElem? (i := 436) (by decide +kernel)⟩
theorem lw_p17 : lw_okq (⟨"PileTricks$Dealer", "heapAt", "(I)I"⟩, 8) := ⟨⟨by decide +kernel, by decide +kernel⟩, List.mem_of_getElem? (i := 186) (by decide +kernel), List.mem_of_getElem? (i := 439) (by decide +kernel), List.mem_of_getElem? (i := 440) (by decide +kernel)⟩
theorem lw_p18 : lw_okq (⟨"PileTricks$Table", "layOut", "()V"⟩, 5) := ⟨⟨by decide +kernel, by decide +kernel⟩, List.mem_of_getElem? (i := 318) (by decide +kernel), List.mem_of_getElem? (i := 443) (by decide +kernel), List.mem_of_getElem? (i := 444) (by decide +kernel)⟩
theorem lw_p19 : lw_okq (⟨"PileTricks$Tape", "append", "(I)V"⟩, 9) := ⟨⟨by decide +kernel, by decide +kernel⟩, List.mem_of_getElem? (i := 35) (by decide +kernel), List.mem_of_getElem? (i := 493) (by decide +kernel), List.mem_of_getElem? (i := 494) (by decide +kernel)⟩
theorem lw_p20 : lw_okq (⟨"PileTricks", "startEnds", "()V"⟩, 13) := ⟨⟨by decide +kernel, by decide +kernel⟩, List.mem_of_getElem? (i := 27) (by decide +kernel), List.mem_of_getElem? (i := 505) (by decide +kernel), List.mem_of_getElem? (i := 506) (by decide +kernel)⟩
theorem lw_p21 : lw_okq (⟨"PileTricks", "commonEnd", "()I"⟩, 13) := ⟨⟨by decide +kernel, by decide +kernel⟩, List.mem_of_getElem? (i := 27) (by decide +kernel), List.mem_of_getElem? (i := 509) (by decide +kernel), List.mem_of_getElem? (i := 510) (by decide +kernel)⟩
theorem lw_p22 : lw_okq (⟨"PileTricks", "moveEnds", "(I)V"⟩, 13) := ⟨⟨by decide +kernel, by decide +kernel⟩, List.mem_of_getElem? (i := 27) (by decide +kernel), List.mem_of_getElem? (i := 514) (by decide +kernel), List.mem_of_getElem? (i := 515) (by decide +kernel)⟩
theorem lw_p23 : lw_okq (⟨"PileTricks$Setting", "followedTo", "(II)I"⟩, 10) := ⟨⟨by decide +kernel, by decide +kernel⟩, List.mem_of_getElem? (i := 218) (by decide +kernel), List.mem_of_getElem? (i := 518) (by decide +kernel), List.mem_of_getElem? (i := 519) (by decide +kernel)⟩
theorem lw_p24 : lw_okq (⟨"PileTricks$Setting", "allows", "(IIII)Z"⟩, 10) := ⟨⟨by decide +kernel, by decide +kernel⟩, List.mem_of_getElem? (i := 218) (by decide +kernel), List.mem_of_getElem? (i := 527) (by decide +kernel), List.mem_of_getElem? (i := 528) (by decide +kernel)⟩
theorem lw_p25 : lw_okq (⟨"PileTricks$Setting", "hasHeap", "(I)Z"⟩, 10) := ⟨⟨by decide +kernel, by decide +kernel⟩, List.mem_of_getElem? (i := 218) (by decide +kernel), List.mem_of_getElem? (i := 534) (by decide +kernel), List.mem_of_getElem? (i := 535) (by decide +kernel)⟩
theorem lw_p26 : lw_okq (⟨"PileTricks$Table", "take", "(I)V"⟩, 5) := ⟨⟨by decide +kernel, by decide +kernel⟩, List.mem_of_getElem? (i := 318) (by decide +kernel), List.mem_of_getElem? (i := 541) (by decide +kernel), List.mem_of_getElem? (i := 542) (by decide +kernel)⟩
theorem lw_p27 : lw_okq (⟨"PileTricks$Table", "dealLast", "(LPileTricks$Dealer;[I)V"⟩, 5) := ⟨⟨by decide +kernel, by decide +kernel⟩, List.mem_of_getElem? (i := 318) (by decide +kernel), List.mem_of_getElem? (i := 546) (by decide +kernel), List.mem_of_getElem? (i := 547) (by decide +kernel)⟩
theorem lw_p28 : lw_okq (⟨"PileTricks$Dealer", "lay", "(III)V"⟩, 8) := ⟨⟨by decide +kernel, by decide +kernel⟩, List.mem_of_getElem? (i := 186) (by decide +kernel), List.mem_of_getElem? (i := 558) (by decide +kernel), List.mem_of_getElem? (i := 559) (by decide +kernel)⟩
theorem lw_p29 : lw_okq (⟨"PileTricks$Dealer", "layNamed", "(III)I"⟩, 8) := ⟨⟨by decide +kernel, by decide +kernel⟩, List.mem_of_getElem? (i := 186) (by decide +kernel), List.mem_of_getElem? (i := 562) (by decide +kernel), List.mem_of_getElem? (i := 563) (by decide +kernel)⟩
theorem lw_p30 : lw_okq (⟨"PileTricks$Dealer", "layHeap", "(II)I"⟩, 8) := ⟨⟨by decide +kernel, by decide +kernel⟩, List.mem_of_getElem? (i := 186) (by decide +kernel), List.mem_of_getElem? (i := 566) (by decide +kernel), List.mem_of_getElem? (i := 567) (by decide +kernel)⟩
theorem lw_p31 : lw_okq (⟨"PileTricks$Table", "fitting", "(LPileTricks$Setting;)J"⟩, 5) := ⟨⟨by decide +kernel, by decide +kernel⟩, List.mem_of_getElem? (i := 318) (by decide +kernel), List.mem_of_getElem? (i := 575) (by decide +kernel), List.mem_of_getElem? (i := 576) (by decide +kernel)⟩
def lw_privs_2 : List (MethodName × Nat) := [(⟨"PileTricks$Dealer", "newPlace", "(I)I"⟩, 8), (⟨"PileTricks$Dealer", "heapAt", "(I)I"⟩, 8), (⟨"PileTricks$Table", "layOut", "()V"⟩, 5), (⟨"PileTricks$Tape", "append", "(I)V"⟩, 9), (⟨"PileTricks", "startEnds", "()V"⟩, 13), (⟨"PileTricks", "commonEnd", "()I"⟩, 13), (⟨"PileTricks", "moveEnds", "(I)V"⟩, 13), (⟨"PileTricks$Setting", "followedTo", "(II)I"⟩, 10), (⟨"PileTricks$Setting", "allows", "(IIII)Z"⟩, 10), (⟨"PileTricks$Setting", "hasHeap", "(I)Z"⟩, 10), (⟨"PileTricks$Table", "take", "(I)V"⟩, 5), (⟨"PileTricks$Table", "dealLast", "(LPileTricks$Dealer;[I)V"⟩, 5), (⟨"PileTricks$Dealer", "lay", "(III)V"⟩, 8), (⟨"PileTricks$Dealer", "layNamed", "(III)I"⟩, 8), (⟨"PileTricks$Dealer", "layHeap", "(II)I"⟩, 8), (⟨"PileTricks$Table", "fitting", "(LPileTricks$Setting;)J"⟩, 5)]
theorem lw_r2 : ∀ q ∈ lw_privs_2, lw_okq q := List.forall_mem_cons.mpr ⟨lw_p16, List.forall_mem_cons.mpr ⟨lw_p17, List.forall_mem_cons.mpr ⟨lw_p18, List.forall_mem_cons.mpr ⟨lw_p19, List.forall_mem_cons.mpr ⟨lw_p20, List.forall_mem_cons.mpr ⟨lw_p21, List.forall_mem_cons.mpr ⟨lw_p22, List.forall_mem_cons.mpr ⟨lw_p23, List.forall_mem_cons.mpr ⟨lw_p24, List.forall_mem_cons.mpr ⟨lw_p25, List.forall_mem_cons.mpr ⟨lw_p26, List.forall_mem_cons.mpr ⟨lw_p27, List.forall_mem_cons.mpr ⟨lw_p28, List.forall_mem_cons.mpr ⟨lw_p29, List.forall_mem_cons.mpr ⟨lw_p30, List.forall_mem_cons.mpr ⟨lw_p31, fun _ h => absurd h List.not_mem_nil⟩⟩⟩⟩⟩⟩⟩⟩⟩⟩⟩⟩⟩⟩⟩⟩
theorem lw_p32 : lw_okq (⟨"PileTricks$Table", "gatherLast", "(LPileTricks$Dealer;[I)V"⟩, 5) := ⟨⟨by decide +kernel, by decide +kernel⟩, List.mem_of_getElem? (i := 318) (by decide +kernel), List.mem_of_getElem? (i := 589) (by decide +kernel), List.mem_of_getElem? (i := 590) (by decide +kernel)⟩
theorem lw_p33 : lw_okq (⟨"PileTricks$Table", "copyFrom", "(LPileTricks$Table;)V"⟩, 5) := ⟨⟨by decide +kernel, by decide +kernel⟩, List.mem_of_getElem? (i := 318) (by decide +kernel), List.mem_of_getElem? (i := 606) (by decide +kernel), List.mem_of_getElem? (i := 607) (by decide +kernel)⟩
theorem lw_p34 : lw_okq (⟨"java/lang/Throwable", "fillInStackTrace", "(I)Ljava/lang/Throwable;"⟩, 6) := ⟨⟨by decide +kernel, by decide +kernel⟩, List.mem_of_getElem? (i := 659) (by decide +kernel), List.mem_of_getElem? (i := 657) (by decide +kernel), List.mem_of_getElem? (i := 658) (by decide +kernel)⟩
theorem lw_p35 : lw_okq (⟨"PileTricks$Reader", "read", "(I)I"⟩, 8) := ⟨⟨by decide +kernel, by decide +kernel⟩, List.mem_of_getElem? (i := 83) (by decide +kernel), List.mem_of_getElem? (i := 684) (by decide +kernel), List.mem_of_getElem? (i := 685) (by decide +kernel)⟩
theorem lw_p36 : lw_okq (⟨"PileTricks$Tape", "openText", "(I)V"⟩, 9) := ⟨⟨by decide +kernel, by decide +kernel⟩, List.mem_of_getElem? (i := 35) (by decide +kernel), List.mem_of_getElem? (i := 688) (by decide +kernel), List.mem_of_getElem? (i := 689) (by decide +kernel)⟩
theorem lw_p37 : lw_okq (⟨"PileTricks$Tape", "advance", "()V"⟩, 9) := ⟨⟨by decide +kernel, by decide +kernel⟩, List.mem_of_getElem? (i := 35) (by decide +kernel), List.mem_of_getElem? (i := 693) (by decide +kernel), List.mem_of_getElem? (i := 694) (by decide +kernel)⟩
theorem lw_p38 : lw_okq (⟨"PileTricks$Tape", "byteAt", "(I)I"⟩, 9) := ⟨⟨by decide +kernel, by decide +kernel⟩, List.mem_of_getElem? (i := 35) (by decide +kernel), List.mem_of_getElem? (i := 697) (by decide +kernel), List.mem_of_getElem? (i := 698) (by decide +kernel)⟩
theorem lw_p39 : lw_okq (⟨"PileTricks$Tape", "takeWord", "()V"⟩, 9) := ⟨⟨by decide +kernel, by decide +kernel⟩, List.mem_of_getElem? (i := 35) (by decide +kernel), List.mem_of_getElem? (i := 707) (by decide +kernel), List.mem_of_getElem? (i := 708) (by decide +kernel)⟩
theorem lw_p40 : lw_okq (⟨"PileTricks$Tape", "isSpelled", "(Ljava/lang/String;)Z"⟩, 9) := ⟨⟨by decide +kernel, by decide +kernel⟩, List.mem_of_getElem? (i := 35) (by decide +kernel), List.mem_of_getElem? (i := 713) (by decide +kernel), List.mem_of_getElem? (i := 714) (by decide +kernel)⟩
theorem lw_p41 : lw_okq (⟨"PileTricks$Tape", "takeNumber", "()V"⟩, 9) := ⟨⟨by decide +kernel, by decide +kernel⟩, List.mem_of_getElem? (i := 35) (by decide +kernel), List.mem_of_getElem? (i := 768) (by decide +kernel), List.mem_of_getElem? (i := 769) (by decide +kernel)⟩
theorem lw_p42 : lw_okq (⟨"PileTricks$Reader", "readNumber", "(I)I"⟩, 8) := ⟨⟨by decide +kernel, by decide +kernel⟩, List.mem_of_getElem? (i := 83) (by decide +kernel), List.mem_of_getElem? (i := 783) (by decide +kernel), List.mem_of_getElem? (i := 784) (by decide +kernel)⟩
theorem lw_p43 : lw_okq (⟨"PileTricks$Tape", "isLongNumber", "()Z"⟩, 9) := ⟨⟨by decide +kernel, by decide +kernel⟩, List.mem_of_getElem? (i := 35) (by decide +kernel), List.mem_of_getElem? (i := 788) (by decide +kernel), List.mem_of_getElem? (i := 789) (by decide +kernel)⟩
theorem lw_p44 : lw_okq (⟨"PileTricks$Reader", "readLineEnd", "()I"⟩, 8) := ⟨⟨by decide +kernel, by decide +kernel⟩, List.mem_of_getElem? (i := 83) (by decide +kernel), List.mem_of_getElem? (i := 799) (by decide +kernel), List.mem_of_getElem? (i := 800) (by decide +kernel)⟩
theorem lw_p45 : lw_okq (⟨"PileTricks$Reader", "readDeal", "()I"⟩, 8) := ⟨⟨by decide +kernel, by decide +kernel⟩, List.mem_of_getElem? (i := 83) (by decide +kernel), List.mem_of_getElem? (i := 805) (by decide +kernel), List.mem_of_getElem? (i := 806) (by decide +kernel)⟩
theorem lw_p46 : lw_okq (⟨"PileTricks$Rules", "readRule", "(I)I"⟩, 14) := ⟨⟨by decide +kernel, by decide +kernel⟩, List.mem_of_getElem? (i := 89) (by decide +kernel), List.mem_of_getElem? (i := 827) (by decide +kernel), List.mem_of_getElem? (i := 828) (by decide +kernel)⟩
theorem lw_p47 : lw_okq (⟨"PileTricks$Rules", "openExpr", "()V"⟩, 14) := ⟨⟨by decide +kernel, by decide +kernel⟩, List.mem_of_getElem? (i := 89) (by decide +kernel), List.mem_of_getElem? (i := 831) (by decide +kernel), List.mem_of_getElem? (i := 832) (by decide +kernel)⟩
def lw_privs_3 : List (MethodName × Nat) := [(⟨"PileTricks$Table", "gatherLast", "(LPileTricks$Dealer;[I)V"⟩, 5), (⟨"PileTricks$Table", "copyFrom", "(LPileTricks$Table;)V"⟩, 5), (⟨"java/lang/Throwable", "fillInStackTrace", "(I)Ljava/lang/Throwable;"⟩, 6), (⟨"PileTricks$Reader", "read", "(I)I"⟩, 8), (⟨"PileTricks$Tape", "openText", "(I)V"⟩, 9), (⟨"PileTricks$Tape", "advance", "()V"⟩, 9), (⟨"PileTricks$Tape", "byteAt", "(I)I"⟩, 9), (⟨"PileTricks$Tape", "takeWord", "()V"⟩, 9), (⟨"PileTricks$Tape", "isSpelled", "(Ljava/lang/String;)Z"⟩, 9), (⟨"PileTricks$Tape", "takeNumber", "()V"⟩, 9), (⟨"PileTricks$Reader", "readNumber", "(I)I"⟩, 8), (⟨"PileTricks$Tape", "isLongNumber", "()Z"⟩, 9), (⟨"PileTricks$Reader", "readLineEnd", "()I"⟩, 8), (⟨"PileTricks$Reader", "readDeal", "()I"⟩, 8), (⟨"PileTricks$Rules", "readRule", "(I)I"⟩, 14), (⟨"PileTricks$Rules", "openExpr", "()V"⟩, 14)]
theorem lw_r3 : ∀ q ∈ lw_privs_3, lw_okq q := List.forall_mem_cons.mpr ⟨lw_p32, List.forall_mem_cons.mpr ⟨lw_p33, List.forall_mem_cons.mpr ⟨lw_p34, List.forall_mem_cons.mpr ⟨lw_p35, List.forall_mem_cons.mpr ⟨lw_p36, List.forall_mem_cons.mpr ⟨lw_p37, List.forall_mem_cons.mpr ⟨lw_p38, List.forall_mem_cons.mpr ⟨lw_p39, List.forall_mem_cons.mpr ⟨lw_p40, List.forall_mem_cons.mpr ⟨lw_p41, List.forall_mem_cons.mpr ⟨lw_p42, List.forall_mem_cons.mpr ⟨lw_p43, List.forall_mem_cons.mpr ⟨lw_p44, List.forall_mem_cons.mpr ⟨lw_p45, List.forall_mem_cons.mpr ⟨lw_p46, List.forall_mem_cons.mpr ⟨lw_p47, fun _ h => absurd h List.not_mem_nil⟩⟩⟩⟩⟩⟩⟩⟩⟩⟩⟩⟩⟩⟩⟩⟩
theorem lw_p48 : lw_okq (⟨"PileTricks$Rules", "setCompared", "(Z)V"⟩, 14) := ⟨⟨by decide +kernel, by decide +kernel⟩, List.mem_of_getElem? (i := 89) (by decide +kernel), List.mem_of_getElem? (i := 835) (by decide +kernel), List.mem_of_getElem? (i := 836) (by decide +kernel)⟩
theorem lw_p49 : lw_okq (⟨"PileTricks$Rules", "openNot", "()V"⟩, 14) := ⟨⟨by decide +kernel, by decide +kernel⟩, List.mem_of_getElem? (i := 89) (by decide +kernel), List.mem_of_getElem? (i := 839) (by decide +kernel), List.mem_of_getElem? (i := 840) (by decide +kernel)⟩
theorem lw_p50 : lw_okq (⟨"PileTricks$Rules", "readPart", "()I"⟩, 14) := ⟨⟨by decide +kernel, by decide +kernel⟩, List.mem_of_getElem? (i := 89) (by decide +kernel), List.mem_of_getElem? (i := 843) (by decide +kernel), List.mem_of_getElem? (i := 844) (by decide +kernel)⟩
theorem lw_p51 : lw_okq (⟨"PileTricks$Rules", "await", "(I)V"⟩, 14) := ⟨⟨by decide +kernel, by decide +kernel⟩, List.mem_of_getElem? (i := 89) (by decide +kernel), List.mem_of_getElem? (i := 847) (by decide +kernel), List.mem_of_getElem? (i := 848) (by decide +kernel)⟩
theorem lw_p52 : lw_okq (⟨"PileTricks$Rules", "readNot", "()I"⟩, 14) := ⟨⟨by decide +kernel, by decide +kernel⟩, List.mem_of_getElem? (i := 89) (by decide +kernel), List.mem_of_getElem? (i := 853) (by decide +kernel), List.mem_of_getElem? (i := 854) (by decide +kernel)⟩
theorem lw_p53 : lw_okq (⟨"PileTricks$Rules", "readNumberPart", "()I"⟩, 14) := ⟨⟨by decide +kernel, by decide +kernel⟩, List.mem_of_getElem? (i := 89) (by decide +kernel), List.mem_of_getElem? (i := 857) (by decide +kernel), List.mem_of_getElem? (i := 858) (by decide +kernel)⟩
theorem lw_p54 : lw_okq (⟨"PileTricks$Rules", "write", "(I)V"⟩, 14) := ⟨⟨by decide +kernel, by decide +kernel⟩, List.mem_of_getElem? (i := 89) (by decide +kernel), List.mem_of_getElem? (i := 862) (by decide +kernel), List.mem_of_getElem? (i := 863) (by decide +kernel)⟩
theorem lw_p55 : lw_okq (⟨"PileTricks$Rules", "readValue", "()I"⟩, 14) := ⟨⟨by decide +kernel, by decide +kernel⟩, List.mem_of_getElem? (i := 89) (by decide +kernel), List.mem_of_getElem? (i := 866) (by decide +kernel), List.mem_of_getElem? (i := 867) (by decide +kernel)⟩
theorem lw_p56 : lw_okq (⟨"PileTricks$Rules", "readBehindPart", "()I"⟩, 14) := ⟨⟨by decide +kernel, by decide +kernel⟩, List.mem_of_getElem? (i := 89) (by decide +kernel), List.mem_of_getElem? (i := 870) (by decide +kernel), List.mem_of_getElem? (i := 871) (by decide +kernel)⟩
theorem lw_p57 : lw_okq (⟨"PileTricks$Rules", "closeRule", "()I"⟩, 14) := ⟨⟨by decide +kernel, by decide +kernel⟩, List.mem_of_getElem? (i := 89) (by decide +kernel), List.mem_of_getElem? (i := 874) (by decide +kernel), List.mem_of_getElem? (i := 875) (by decide +kernel)⟩
theorem lw_p58 : lw_okq (⟨"PileTricks$Rules", "writeWaiting", "(I)V"⟩, 14) := ⟨⟨by decide +kernel, by decide +kernel⟩, List.mem_of_getElem? (i := 89) (by decide +kernel), List.mem_of_getElem? (i := 881) (by decide +kernel), List.mem_of_getElem? (i := 882) (by decide +kernel)⟩
theorem lw_p59 : lw_okq (⟨"PileTricks$Rules", "closeExpr", "()I"⟩, 14) := ⟨⟨by decide +kernel, by decide +kernel⟩, List.mem_of_getElem? (i := 89) (by decide +kernel), List.mem_of_getElem? (i := 885) (by decide +kernel), List.mem_of_getElem? (i := 886) (by decide +kernel)⟩
theorem lw_p60 : lw_okq (⟨"PileTricks$Rules", "operatorThere", "()I"⟩, 14) := ⟨⟨by decide +kernel, by decide +kernel⟩, List.mem_of_getElem? (i := 89) (by decide +kernel), List.mem_of_getElem? (i := 892) (by decide +kernel), List.mem_of_getElem? (i := 893) (by decide +kernel)⟩
theorem lw_p61 : lw_okq (⟨"PileTricks$Rules", "isCompared", "()Z"⟩, 14) := ⟨⟨by decide +kernel, by decide +kernel⟩, List.mem_of_getElem? (i := 89) (by decide +kernel), List.mem_of_getElem? (i := 900) (by decide +kernel), List.mem_of_getElem? (i := 901) (by decide +kernel)⟩
theorem lw_p62 : lw_okq (⟨"PileTricks$Setting", "hasPlace", "(I)Z"⟩, 10) := ⟨⟨by decide +kernel, by decide +kernel⟩, List.mem_of_getElem? (i := 218) (by decide +kernel), List.mem_of_getElem? (i := 946) (by decide +kernel), List.mem_of_getElem? (i := 947) (by decide +kernel)⟩
theorem lw_p63 : lw_okq (⟨"PileTricks$Setting", "followedEnd", "(II)I"⟩, 10) := ⟨⟨by decide +kernel, by decide +kernel⟩, List.mem_of_getElem? (i := 218) (by decide +kernel), List.mem_of_getElem? (i := 961) (by decide +kernel), List.mem_of_getElem? (i := 962) (by decide +kernel)⟩
def lw_privs_4 : List (MethodName × Nat) := [(⟨"PileTricks$Rules", "setCompared", "(Z)V"⟩, 14), (⟨"PileTricks$Rules", "openNot", "()V"⟩, 14), (⟨"PileTricks$Rules", "readPart", "()I"⟩, 14), (⟨"PileTricks$Rules", "await", "(I)V"⟩, 14), (⟨"PileTricks$Rules", "readNot", "()I"⟩, 14), (⟨"PileTricks$Rules", "readNumberPart", "()I"⟩, 14), (⟨"PileTricks$Rules", "write", "(I)V"⟩, 14), (⟨"PileTricks$Rules", "readValue", "()I"⟩, 14), (⟨"PileTricks$Rules", "readBehindPart", "()I"⟩, 14), (⟨"PileTricks$Rules", "closeRule", "()I"⟩, 14), (⟨"PileTricks$Rules", "writeWaiting", "(I)V"⟩, 14), (⟨"PileTricks$Rules", "closeExpr", "()I"⟩, 14), (⟨"PileTricks$Rules", "operatorThere", "()I"⟩, 14), (⟨"PileTricks$Rules", "isCompared", "()Z"⟩, 14), (⟨"PileTricks$Setting", "hasPlace", "(I)Z"⟩, 10), (⟨"PileTricks$Setting", "followedEnd", "(II)I"⟩, 10)]
theorem lw_r4 : ∀ q ∈ lw_privs_4, lw_okq q := List.forall_mem_cons.mpr ⟨lw_p48, List.forall_mem_cons.mpr ⟨lw_p49, List.forall_mem_cons.mpr ⟨lw_p50, List.forall_mem_cons.mpr ⟨lw_p51, List.forall_mem_cons.mpr ⟨lw_p52, List.forall_mem_cons.mpr ⟨lw_p53, List.forall_mem_cons.mpr ⟨lw_p54, List.forall_mem_cons.mpr ⟨lw_p55, List.forall_mem_cons.mpr ⟨lw_p56, List.forall_mem_cons.mpr ⟨lw_p57, List.forall_mem_cons.mpr ⟨lw_p58, List.forall_mem_cons.mpr ⟨lw_p59, List.forall_mem_cons.mpr ⟨lw_p60, List.forall_mem_cons.mpr ⟨lw_p61, List.forall_mem_cons.mpr ⟨lw_p62, List.forall_mem_cons.mpr ⟨lw_p63, fun _ h => absurd h List.not_mem_nil⟩⟩⟩⟩⟩⟩⟩⟩⟩⟩⟩⟩⟩⟩⟩⟩
theorem lw_p64 : lw_okq (⟨"PileTricks$Wishes", "rowsFor", "(II)I"⟩, 7) := ⟨⟨by decide +kernel, by decide +kernel⟩, List.mem_of_getElem? (i := 267) (by decide +kernel), List.mem_of_getElem? (i := 980) (by decide +kernel), List.mem_of_getElem? (i := 981) (by decide +kernel)⟩
theorem lw_p65 : lw_okq (⟨"PileTricks$Wishes", "seek", "(IJII)V"⟩, 7) := ⟨⟨by decide +kernel, by decide +kernel⟩, List.mem_of_getElem? (i := 267) (by decide +kernel), List.mem_of_getElem? (i := 984) (by decide +kernel), List.mem_of_getElem? (i := 985) (by decide +kernel)⟩
theorem lw_p66 : lw_okq (⟨"PileTricks$Wishes", "comesFrom", "(IIJ)J"⟩, 7) := ⟨⟨by decide +kernel, by decide +kernel⟩, List.mem_of_getElem? (i := 267) (by decide +kernel), List.mem_of_getElem? (i := 992) (by decide +kernel), List.mem_of_getElem? (i := 993) (by decide +kernel)⟩
theorem lw_p67 : lw_okq (⟨"PileTricks$Wishes", "keepFirst", "()V"⟩, 7) := ⟨⟨by decide +kernel, by decide +kernel⟩, List.mem_of_getElem? (i := 267) (by decide +kernel), List.mem_of_getElem? (i := 1002) (by decide +kernel), List.mem_of_getElem? (i := 1003) (by decide +kernel)⟩
theorem lw_p68 : lw_okq (⟨"PileTricks$Wishes", "keptLaying", "(I)I"⟩, 7) := ⟨⟨by decide +kernel, by decide +kernel⟩, List.mem_of_getElem? (i := 267) (by decide +kernel), List.mem_of_getElem? (i := 1013) (by decide +kernel), List.mem_of_getElem? (i := 1014) (by decide +kernel)⟩
theorem lw_p69 : lw_okq (⟨"PileTricks", "roundFrom", "(I)J"⟩, 13) := ⟨⟨by decide +kernel, by decide +kernel⟩, List.mem_of_getElem? (i := 27) (by decide +kernel), List.mem_of_getElem? (i := 1032) (by decide +kernel), List.mem_of_getElem? (i := 1033) (by decide +kernel)⟩
theorem lw_p70 : lw_okq (⟨"PileTricks$Guesses", "mostLeft", "(I)I"⟩, 5) := ⟨⟨by decide +kernel, by decide +kernel⟩, List.mem_of_getElem? (i := 296) (by decide +kernel), List.mem_of_getElem? (i := 1055) (by decide +kernel), List.mem_of_getElem? (i := 1056) (by decide +kernel)⟩
theorem lw_p71 : lw_okq (⟨"PileTricks$Guesses", "nameAll", "(II)V"⟩, 5) := ⟨⟨by decide +kernel, by decide +kernel⟩, List.mem_of_getElem? (i := 296) (by decide +kernel), List.mem_of_getElem? (i := 1060) (by decide +kernel), List.mem_of_getElem? (i := 1061) (by decide +kernel)⟩
theorem lw_p72 : lw_okq (⟨"PileTricks$Guesses", "leftBehind", "(III)I"⟩, 5) := ⟨⟨by decide +kernel, by decide +kernel⟩, List.mem_of_getElem? (i := 296) (by decide +kernel), List.mem_of_getElem? (i := 1064) (by decide +kernel), List.mem_of_getElem? (i := 1065) (by decide +kernel)⟩
theorem lw_p73 : lw_okq (⟨"PileTricks", "isDeal", "(I)Z"⟩, 13) := ⟨⟨by decide +kernel, by decide +kernel⟩, List.mem_of_getElem? (i := 27) (by decide +kernel), List.mem_of_getElem? (i := 1097) (by decide +kernel), List.mem_of_getElem? (i := 1098) (by decide +kernel)⟩
theorem lw_p74 : lw_okq (⟨"PileTricks$Table", "comesBy", "(ILPileTricks$Dealer;)Z"⟩, 5) := ⟨⟨by decide +kernel, by decide +kernel⟩, List.mem_of_getElem? (i := 318) (by decide +kernel), List.mem_of_getElem? (i := 1102) (by decide +kernel), List.mem_of_getElem? (i := 1103) (by decide +kernel)⟩
theorem lw_p75 : lw_okq (⟨"PileTricksModel", "anew", "()V"⟩, 66) := ⟨⟨by decide +kernel, by decide +kernel⟩, List.mem_of_getElem? (i := 1122) (by decide +kernel), List.mem_of_getElem? (i := 1128) (by decide +kernel), List.mem_of_getElem? (i := 1129) (by decide +kernel)⟩
theorem lw_p76 : lw_okq (⟨"PileTricksModel", "lays", "(I)V"⟩, 66) := ⟨⟨by decide +kernel, by decide +kernel⟩, List.mem_of_getElem? (i := 1122) (by decide +kernel), List.mem_of_getElem? (i := 1339) (by decide +kernel), List.mem_of_getElem? (i := 1340) (by decide +kernel)⟩
theorem lw_p77 : lw_okq (⟨"PileTricksModel", "right", "(ZI)Z"⟩, 66) := ⟨⟨by decide +kernel, by decide +kernel⟩, List.mem_of_getElem? (i := 1122) (by decide +kernel), List.mem_of_getElem? (i := 1347) (by decide +kernel), List.mem_of_getElem? (i := 1348) (by decide +kernel)⟩
theorem lw_p78 : lw_okq (⟨"PileTricksModel", "goes0", "()V"⟩, 66) := ⟨⟨by decide +kernel, by decide +kernel⟩, List.mem_of_getElem? (i := 1122) (by decide +kernel), List.mem_of_getElem? (i := 1351) (by decide +kernel), List.mem_of_getElem? (i := 1352) (by decide +kernel)⟩
theorem lw_p79 : lw_okq (⟨"PileTricksModel", "byteAt", "(I)I"⟩, 66) := ⟨⟨by decide +kernel, by decide +kernel⟩, List.mem_of_getElem? (i := 1122) (by decide +kernel), List.mem_of_getElem? (i := 1355) (by decide +kernel), List.mem_of_getElem? (i := 1356) (by decide +kernel)⟩
def lw_privs_5 : List (MethodName × Nat) := [(⟨"PileTricks$Wishes", "rowsFor", "(II)I"⟩, 7), (⟨"PileTricks$Wishes", "seek", "(IJII)V"⟩, 7), (⟨"PileTricks$Wishes", "comesFrom", "(IIJ)J"⟩, 7), (⟨"PileTricks$Wishes", "keepFirst", "()V"⟩, 7), (⟨"PileTricks$Wishes", "keptLaying", "(I)I"⟩, 7), (⟨"PileTricks", "roundFrom", "(I)J"⟩, 13), (⟨"PileTricks$Guesses", "mostLeft", "(I)I"⟩, 5), (⟨"PileTricks$Guesses", "nameAll", "(II)V"⟩, 5), (⟨"PileTricks$Guesses", "leftBehind", "(III)I"⟩, 5), (⟨"PileTricks", "isDeal", "(I)Z"⟩, 13), (⟨"PileTricks$Table", "comesBy", "(ILPileTricks$Dealer;)Z"⟩, 5), (⟨"PileTricksModel", "anew", "()V"⟩, 66), (⟨"PileTricksModel", "lays", "(I)V"⟩, 66), (⟨"PileTricksModel", "right", "(ZI)Z"⟩, 66), (⟨"PileTricksModel", "goes0", "()V"⟩, 66), (⟨"PileTricksModel", "byteAt", "(I)I"⟩, 66)]
theorem lw_r5 : ∀ q ∈ lw_privs_5, lw_okq q := List.forall_mem_cons.mpr ⟨lw_p64, List.forall_mem_cons.mpr ⟨lw_p65, List.forall_mem_cons.mpr ⟨lw_p66, List.forall_mem_cons.mpr ⟨lw_p67, List.forall_mem_cons.mpr ⟨lw_p68, List.forall_mem_cons.mpr ⟨lw_p69, List.forall_mem_cons.mpr ⟨lw_p70, List.forall_mem_cons.mpr ⟨lw_p71, List.forall_mem_cons.mpr ⟨lw_p72, List.forall_mem_cons.mpr ⟨lw_p73, List.forall_mem_cons.mpr ⟨lw_p74, List.forall_mem_cons.mpr ⟨lw_p75, List.forall_mem_cons.mpr ⟨lw_p76, List.forall_mem_cons.mpr ⟨lw_p77, List.forall_mem_cons.mpr ⟨lw_p78, List.forall_mem_cons.mpr ⟨lw_p79, fun _ h => absurd h List.not_mem_nil⟩⟩⟩⟩⟩⟩⟩⟩⟩⟩⟩⟩⟩⟩⟩⟩
theorem lw_p80 : lw_okq (⟨"PileTricksModel", "isGood", "()Z"⟩, 66) := ⟨⟨by decide +kernel, by decide +kernel⟩, List.mem_of_getElem? (i := 1122) (by decide +kernel), List.mem_of_getElem? (i := 1365) (by decide +kernel), List.mem_of_getElem? (i := 1366) (by decide +kernel)⟩
theorem lw_p81 : lw_okq (⟨"PileTricksModel", "line", "()V"⟩, 66) := ⟨⟨by decide +kernel, by decide +kernel⟩, List.mem_of_getElem? (i := 1122) (by decide +kernel), List.mem_of_getElem? (i := 1369) (by decide +kernel), List.mem_of_getElem? (i := 1370) (by decide +kernel)⟩
theorem lw_p82 : lw_okq (⟨"PileTricksModel", "knownWord", "()I"⟩, 66) := ⟨⟨by decide +kernel, by decide +kernel⟩, List.mem_of_getElem? (i := 1122) (by decide +kernel), List.mem_of_getElem? (i := 1373) (by decide +kernel), List.mem_of_getElem? (i := 1374) (by decide +kernel)⟩
theorem lw_p83 : lw_okq (⟨"PileTricksModel", "begins", "(I)Z"⟩, 66) := ⟨⟨by decide +kernel, by decide +kernel⟩, List.mem_of_getElem? (i := 1122) (by decide +kernel), List.mem_of_getElem? (i := 1384) (by decide +kernel), List.mem_of_getElem? (i := 1385) (by decide +kernel)⟩
theorem lw_p84 : lw_okq (⟨"PileTricksModel", "wrong", "(I)V"⟩, 66) := ⟨⟨by decide +kernel, by decide +kernel⟩, List.mem_of_getElem? (i := 1122) (by decide +kernel), List.mem_of_getElem? (i := 1388) (by decide +kernel), List.mem_of_getElem? (i := 1389) (by decide +kernel)⟩
theorem lw_p85 : lw_okq (⟨"PileTricksModel", "number", "(II)I"⟩, 66) := ⟨⟨by decide +kernel, by decide +kernel⟩, List.mem_of_getElem? (i := 1122) (by decide +kernel), List.mem_of_getElem? (i := 1392) (by decide +kernel), List.mem_of_getElem? (i := 1393) (by decide +kernel)⟩
theorem lw_p86 : lw_okq (⟨"PileTricksModel", "need", "(Z)V"⟩, 66) := ⟨⟨by decide +kernel, by decide +kernel⟩, List.mem_of_getElem? (i := 1122) (by decide +kernel), List.mem_of_getElem? (i := 1396) (by decide +kernel), List.mem_of_getElem? (i := 1397) (by decide +kernel)⟩
theorem lw_p87 : lw_okq (⟨"PileTricksModel", "expression", "()V"⟩, 66) := ⟨⟨by decide +kernel, by decide +kernel⟩, List.mem_of_getElem? (i := 1122) (by decide +kernel), List.mem_of_getElem? (i := 1400) (by decide +kernel), List.mem_of_getElem? (i := 1401) (by decide +kernel)⟩
theorem lw_p88 : lw_okq (⟨"PileTricksModel", "deeper", "()V"⟩, 66) := ⟨⟨by decide +kernel, by decide +kernel⟩, List.mem_of_getElem? (i := 1122) (by decide +kernel), List.mem_of_getElem? (i := 1404) (by decide +kernel), List.mem_of_getElem? (i := 1405) (by decide +kernel)⟩
theorem lw_p89 : lw_okq (⟨"PileTricksModel", "isSign", "(I)Z"⟩, 66) := ⟨⟨by decide +kernel, by decide +kernel⟩, List.mem_of_getElem? (i := 1122) (by decide +kernel), List.mem_of_getElem? (i := 1408) (by decide +kernel), List.mem_of_getElem? (i := 1409) (by decide +kernel)⟩
theorem lw_p90 : lw_okq (⟨"PileTricksModel", "operand", "(Z)V"⟩, 66) := ⟨⟨by decide +kernel, by decide +kernel⟩, List.mem_of_getElem? (i := 1122) (by decide +kernel), List.mem_of_getElem? (i := 1412) (by decide +kernel), List.mem_of_getElem? (i := 1413) (by decide +kernel)⟩
theorem lw_p91 : lw_okq (⟨"PileTricksModel", "waitsFor", "(I)V"⟩, 66) := ⟨⟨by decide +kernel, by decide +kernel⟩, List.mem_of_getElem? (i := 1122) (by decide +kernel), List.mem_of_getElem? (i := 1416) (by decide +kernel), List.mem_of_getElem? (i := 1417) (by decide +kernel)⟩
theorem lw_p92 : lw_okq (⟨"PileTricksModel", "part", "()V"⟩, 66) := ⟨⟨by decide +kernel, by decide +kernel⟩, List.mem_of_getElem? (i := 1122) (by decide +kernel), List.mem_of_getElem? (i := 1420) (by decide +kernel), List.mem_of_getElem? (i := 1421) (by decide +kernel)⟩
theorem lw_p93 : lw_okq (⟨"PileTricksModel", "puts", "(I)V"⟩, 66) := ⟨⟨by decide +kernel, by decide +kernel⟩, List.mem_of_getElem? (i := 1122) (by decide +kernel), List.mem_of_getElem? (i := 1424) (by decide +kernel), List.mem_of_getElem? (i := 1425) (by decide +kernel)⟩
theorem lw_p94 : lw_okq (⟨"PileTricksModel", "drops", "(I)V"⟩, 66) := ⟨⟨by decide +kernel, by decide +kernel⟩, List.mem_of_getElem? (i := 1122) (by decide +kernel), List.mem_of_getElem? (i := 1428) (by decide +kernel), List.mem_of_getElem? (i := 1429) (by decide +kernel)⟩
theorem lw_p95 : lw_okq (⟨"PileTricksModel", "isOpened", "()Z"⟩, 66) := ⟨⟨by decide +kernel, by decide +kernel⟩, List.mem_of_getElem? (i := 1122) (by decide +kernel), List.mem_of_getElem? (i := 1438) (by decide +kernel), List.mem_of_getElem? (i := 1439) (by decide +kernel)⟩
def lw_privs_6 : List (MethodName × Nat) := [(⟨"PileTricksModel", "isGood", "()Z"⟩, 66), (⟨"PileTricksModel", "line", "()V"⟩, 66), (⟨"PileTricksModel", "knownWord", "()I"⟩, 66), (⟨"PileTricksModel", "begins", "(I)Z"⟩, 66), (⟨"PileTricksModel", "wrong", "(I)V"⟩, 66), (⟨"PileTricksModel", "number", "(II)I"⟩, 66), (⟨"PileTricksModel", "need", "(Z)V"⟩, 66), (⟨"PileTricksModel", "expression", "()V"⟩, 66), (⟨"PileTricksModel", "deeper", "()V"⟩, 66), (⟨"PileTricksModel", "isSign", "(I)Z"⟩, 66), (⟨"PileTricksModel", "operand", "(Z)V"⟩, 66), (⟨"PileTricksModel", "waitsFor", "(I)V"⟩, 66), (⟨"PileTricksModel", "part", "()V"⟩, 66), (⟨"PileTricksModel", "puts", "(I)V"⟩, 66), (⟨"PileTricksModel", "drops", "(I)V"⟩, 66), (⟨"PileTricksModel", "isOpened", "()Z"⟩, 66)]
theorem lw_r6 : ∀ q ∈ lw_privs_6, lw_okq q := List.forall_mem_cons.mpr ⟨lw_p80, List.forall_mem_cons.mpr ⟨lw_p81, List.forall_mem_cons.mpr ⟨lw_p82, List.forall_mem_cons.mpr ⟨lw_p83, List.forall_mem_cons.mpr ⟨lw_p84, List.forall_mem_cons.mpr ⟨lw_p85, List.forall_mem_cons.mpr ⟨lw_p86, List.forall_mem_cons.mpr ⟨lw_p87, List.forall_mem_cons.mpr ⟨lw_p88, List.forall_mem_cons.mpr ⟨lw_p89, List.forall_mem_cons.mpr ⟨lw_p90, List.forall_mem_cons.mpr ⟨lw_p91, List.forall_mem_cons.mpr ⟨lw_p92, List.forall_mem_cons.mpr ⟨lw_p93, List.forall_mem_cons.mpr ⟨lw_p94, List.forall_mem_cons.mpr ⟨lw_p95, fun _ h => absurd h List.not_mem_nil⟩⟩⟩⟩⟩⟩⟩⟩⟩⟩⟩⟩⟩⟩⟩⟩
theorem lw_p96 : lw_okq (⟨"PileTricksModel", "closes", "()V"⟩, 66) := ⟨⟨by decide +kernel, by decide +kernel⟩, List.mem_of_getElem? (i := 1122) (by decide +kernel), List.mem_of_getElem? (i := 1442) (by decide +kernel), List.mem_of_getElem? (i := 1443) (by decide +kernel)⟩
theorem lw_p97 : lw_okq (⟨"PileTricksModel", "copies", "([I[I)V"⟩, 66) := ⟨⟨by decide +kernel, by decide +kernel⟩, List.mem_of_getElem? (i := 1122) (by decide +kernel), List.mem_of_getElem? (i := 1446) (by decide +kernel), List.mem_of_getElem? (i := 1447) (by decide +kernel)⟩
theorem lw_p98 : lw_okq (⟨"PileTricksModel", "fitting", "()I"⟩, 66) := ⟨⟨by decide +kernel, by decide +kernel⟩, List.mem_of_getElem? (i := 1122) (by decide +kernel), List.mem_of_getElem? (i := 1461) (by decide +kernel), List.mem_of_getElem? (i := 1462) (by decide +kernel)⟩
theorem lw_p99 : lw_okq (⟨"PileTricksModel", "isHeap", "(II)Z"⟩, 66) := ⟨⟨by decide +kernel, by decide +kernel⟩, List.mem_of_getElem? (i := 1122) (by decide +kernel), List.mem_of_getElem? (i := 1469) (by decide +kernel), List.mem_of_getElem? (i := 1470) (by decide +kernel)⟩
theorem lw_p100 : lw_okq (⟨"PileTricksModel", "deals0", "(II)V"⟩, 66) := ⟨⟨by decide +kernel, by decide +kernel⟩, List.mem_of_getElem? (i := 1122) (by decide +kernel), List.mem_of_getElem? (i := 1473) (by decide +kernel), List.mem_of_getElem? (i := 1474) (by decide +kernel)⟩
theorem lw_p101 : lw_okq (⟨"PileTricksModel", "heapAt", "(II)I"⟩, 66) := ⟨⟨by decide +kernel, by decide +kernel⟩, List.mem_of_getElem? (i := 1122) (by decide +kernel), List.mem_of_getElem? (i := 1477) (by decide +kernel), List.mem_of_getElem? (i := 1478) (by decide +kernel)⟩
theorem lw_p102 : lw_okq (⟨"PileTricksModel", "layingOf", "(II)I"⟩, 66) := ⟨⟨by decide +kernel, by decide +kernel⟩, List.mem_of_getElem? (i := 1122) (by decide +kernel), List.mem_of_getElem? (i := 1481) (by decide +kernel), List.mem_of_getElem? (i := 1482) (by decide +kernel)⟩
theorem lw_p103 : lw_okq (⟨"PileTricksModel", "isPlace", "(I)Z"⟩, 66) := ⟨⟨by decide +kernel, by decide +kernel⟩, List.mem_of_getElem? (i := 1122) (by decide +kernel), List.mem_of_getElem? (i := 1492) (by decide +kernel), List.mem_of_getElem? (i := 1493) (by decide +kernel)⟩
theorem lw_p104 : lw_okq (⟨"PileTricksModel", "kindOf", "(I)I"⟩, 66) := ⟨⟨by decide +kernel, by decide +kernel⟩, List.mem_of_getElem? (i := 1122) (by decide +kernel), List.mem_of_getElem? (i := 1496) (by decide +kernel), List.mem_of_getElem? (i := 1497) (by decide +kernel)⟩
theorem lw_p105 : lw_okq (⟨"PileTricksModel", "sideOf", "(I)I"⟩, 66) := ⟨⟨by decide +kernel, by decide +kernel⟩, List.mem_of_getElem? (i := 1122) (by decide +kernel), List.mem_of_getElem? (i := 1500) (by decide +kernel), List.mem_of_getElem? (i := 1501) (by decide +kernel)⟩
theorem lw_p106 : lw_okq (⟨"PileTricksModel", "numberOf", "(I)I"⟩, 66) := ⟨⟨by decide +kernel, by decide +kernel⟩, List.mem_of_getElem? (i := 1122) (by decide +kernel), List.mem_of_getElem? (i := 1504) (by decide +kernel), List.mem_of_getElem? (i := 1505) (by decide +kernel)⟩
theorem lw_p107 : lw_okq (⟨"PileTricksModel", "orders", "(III)V"⟩, 66) := ⟨⟨by decide +kernel, by decide +kernel⟩, List.mem_of_getElem? (i := 1122) (by decide +kernel), List.mem_of_getElem? (i := 1508) (by decide +kernel), List.mem_of_getElem? (i := 1509) (by decide +kernel)⟩
theorem lw_p108 : lw_okq (⟨"PileTricksModel", "both", "(III)I"⟩, 66) := ⟨⟨by decide +kernel, by decide +kernel⟩, List.mem_of_getElem? (i := 1122) (by decide +kernel), List.mem_of_getElem? (i := 1512) (by decide +kernel), List.mem_of_getElem? (i := 1513) (by decide +kernel)⟩
theorem lw_p109 : lw_okq (⟨"PileTricksModel", "goesTo", "(I)I"⟩, 66) := ⟨⟨by decide +kernel, by decide +kernel⟩, List.mem_of_getElem? (i := 1122) (by decide +kernel), List.mem_of_getElem? (i := 1516) (by decide +kernel), List.mem_of_getElem? (i := 1517) (by decide +kernel)⟩
theorem lw_p110 : lw_okq (⟨"PileTricksModel", "isMany", "(II)Z"⟩, 66) := ⟨⟨by decide +kernel, by decide +kernel⟩, List.mem_of_getElem? (i := 1122) (by decide +kernel), List.mem_of_getElem? (i := 1524) (by decide +kernel), List.mem_of_getElem? (i := 1525) (by decide +kernel)⟩
theorem lw_p111 : lw_okq (⟨"PileTricksModel", "endsBy", "(I)V"⟩, 66) := ⟨⟨by decide +kernel, by decide +kernel⟩, List.mem_of_getElem? (i := 1122) (by decide +kernel), List.mem_of_getElem? (i := 1528) (by decide +kernel), List.mem_of_getElem? (i := 1529) (by decide +kernel)⟩
def lw_privs_7 : List (MethodName × Nat) := [(⟨"PileTricksModel", "closes", "()V"⟩, 66), (⟨"PileTricksModel", "copies", "([I[I)V"⟩, 66), (⟨"PileTricksModel", "fitting", "()I"⟩, 66), (⟨"PileTricksModel", "isHeap", "(II)Z"⟩, 66), (⟨"PileTricksModel", "deals0", "(II)V"⟩, 66), (⟨"PileTricksModel", "heapAt", "(II)I"⟩, 66), (⟨"PileTricksModel", "layingOf", "(II)I"⟩, 66), (⟨"PileTricksModel", "isPlace", "(I)Z"⟩, 66), (⟨"PileTricksModel", "kindOf", "(I)I"⟩, 66), (⟨"PileTricksModel", "sideOf", "(I)I"⟩, 66), (⟨"PileTricksModel", "numberOf", "(I)I"⟩, 66), (⟨"PileTricksModel", "orders", "(III)V"⟩, 66), (⟨"PileTricksModel", "both", "(III)I"⟩, 66), (⟨"PileTricksModel", "goesTo", "(I)I"⟩, 66), (⟨"PileTricksModel", "isMany", "(II)Z"⟩, 66), (⟨"PileTricksModel", "endsBy", "(I)V"⟩, 66)]
theorem lw_r7 : ∀ q ∈ lw_privs_7, lw_okq q := List.forall_mem_cons.mpr ⟨lw_p96, List.forall_mem_cons.mpr ⟨lw_p97, List.forall_mem_cons.mpr ⟨lw_p98, List.forall_mem_cons.mpr ⟨lw_p99, List.forall_mem_cons.mpr ⟨lw_p100, List.forall_mem_cons.mpr ⟨lw_p101, List.forall_mem_cons.mpr ⟨lw_p102, List.forall_mem_cons.mpr ⟨lw_p103, List.forall_mem_cons.mpr ⟨lw_p104, List.forall_mem_cons.mpr ⟨lw_p105, List.forall_mem_cons.mpr ⟨lw_p106, List.forall_mem_cons.mpr ⟨lw_p107, List.forall_mem_cons.mpr ⟨lw_p108, List.forall_mem_cons.mpr ⟨lw_p109, List.forall_mem_cons.mpr ⟨lw_p110, List.forall_mem_cons.mpr ⟨lw_p111, fun _ h => absurd h List.not_mem_nil⟩⟩⟩⟩⟩⟩⟩⟩⟩⟩⟩⟩⟩⟩⟩⟩
theorem lw_p112 : lw_okq (⟨"PileTricksModel", "first", "()V"⟩, 66) := ⟨⟨by decide +kernel, by decide +kernel⟩, List.mem_of_getElem? (i := 1122) (by decide +kernel), List.mem_of_getElem? (i := 1532) (by decide +kernel), List.mem_of_getElem? (i := 1533) (by decide +kernel)⟩
theorem lw_p113 : lw_okq (⟨"PileTricksModel", "follows", "(II)V"⟩, 66) := ⟨⟨by decide +kernel, by decide +kernel⟩, List.mem_of_getElem? (i := 1122) (by decide +kernel), List.mem_of_getElem? (i := 1536) (by decide +kernel), List.mem_of_getElem? (i := 1537) (by decide +kernel)⟩
theorem lw_p114 : lw_okq (⟨"PileTricksModel", "isOne", "()Z"⟩, 66) := ⟨⟨by decide +kernel, by decide +kernel⟩, List.mem_of_getElem? (i := 1122) (by decide +kernel), List.mem_of_getElem? (i := 1544) (by decide +kernel), List.mem_of_getElem? (i := 1545) (by decide +kernel)⟩
theorem lw_p115 : lw_okq (⟨"PileTricksModel", "rowsFor", "(II)I"⟩, 66) := ⟨⟨by decide +kernel, by decide +kernel⟩, List.mem_of_getElem? (i := 1122) (by decide +kernel), List.mem_of_getElem? (i := 1556) (by decide +kernel), List.mem_of_getElem? (i := 1557) (by decide +kernel)⟩
theorem lw_p116 : lw_okq (⟨"PileTricksModel", "isDeal", "(IIII)Z"⟩, 66) := ⟨⟨by decide +kernel, by decide +kernel⟩, List.mem_of_getElem? (i := 1122) (by decide +kernel), List.mem_of_getElem? (i := 1575) (by decide +kernel), List.mem_of_getElem? (i := 1576) (by decide +kernel)⟩
theorem lw_p117 : lw_okq (⟨"PileTricksModel", "isBetween", "(IIII)Z"⟩, 66) := ⟨⟨by decide +kernel, by decide +kernel⟩, List.mem_of_getElem? (i := 1122) (by decide +kernel), List.mem_of_getElem? (i := 1615) (by decide +kernel), List.mem_of_getElem? (i := 1616) (by decide +kernel)⟩
def lw_privs_8 : List (MethodName × Nat) := [(⟨"PileTricksModel", "first", "()V"⟩, 66), (⟨"PileTricksModel", "follows", "(II)V"⟩, 66), (⟨"PileTricksModel", "isOne", "()Z"⟩, 66), (⟨"PileTricksModel", "rowsFor", "(II)I"⟩, 66), (⟨"PileTricksModel", "isDeal", "(IIII)Z"⟩, 66), (⟨"PileTricksModel", "isBetween", "(IIII)Z"⟩, 66)]
theorem lw_r8 : ∀ q ∈ lw_privs_8, lw_okq q := List.forall_mem_cons.mpr ⟨lw_p112, List.forall_mem_cons.mpr ⟨lw_p113, List.forall_mem_cons.mpr ⟨lw_p114, List.forall_mem_cons.mpr ⟨lw_p115, List.forall_mem_cons.mpr ⟨lw_p116, List.forall_mem_cons.mpr ⟨lw_p117, fun _ h => absurd h List.not_mem_nil⟩⟩⟩⟩⟩⟩
def lw_privs : List (MethodName × Nat) := lw_privs_1 ++ (lw_privs_2 ++ (lw_privs_3 ++ (lw_privs_4 ++ (lw_privs_5 ++ (lw_privs_6 ++ (lw_privs_7 ++ (lw_privs_8)))))))
def lw_tbl : List Cond := k2_sels lw_privs ++ tables_1
theorem lw_privs_ok : ∀ q ∈ lw_privs, lw_okq q := by
  show ∀ q ∈ lw_privs_1 ++ (lw_privs_2 ++ (lw_privs_3 ++ (lw_privs_4 ++ (lw_privs_5 ++ (lw_privs_6 ++ (lw_privs_7 ++ (lw_privs_8))))))), lw_okq q
  exact List.forall_mem_append.mpr ⟨lw_r1, List.forall_mem_append.mpr ⟨lw_r2, List.forall_mem_append.mpr ⟨lw_r3, List.forall_mem_append.mpr ⟨lw_r4, List.forall_mem_append.mpr ⟨lw_r5, List.forall_mem_append.mpr ⟨lw_r6, List.forall_mem_append.mpr ⟨lw_r7, lw_r8⟩⟩⟩⟩⟩⟩⟩
end
section
/-! ===== BEGIN words of one list among another's, by their places ===== -/
theorem goodIn_r {big : List Cond} (ws : List Cond) (ps : List Nat) (hp : ws = ps.filterMap (fun i => big[i]?)) (h : ws.all goodWord = true) : GoodIn big ws := by
  intro w hw
  have h1 := List.all_eq_true.mp h w hw
  rw [hp] at hw
  obtain ⟨i, -, hi⟩ := List.mem_filterMap.mp hw
  have hm : w ∈ big := by first | exact List.mem_of_getElem? hi | exact List.getElem?_mem hi
  exact ⟨hm, good_of_word h1⟩
theorem goodIn_app {big a b : List Cond} (ha : GoodIn big a) (hb : GoodIn big b) : GoodIn big (a ++ b) := fun w h => (List.mem_append.mp h).elim (ha w) (hb w)
theorem goodIn_ca {big a b : List Cond} {c : Cond} (ha : GoodIn big (c :: a)) (hb : GoodIn big b) : GoodIn big (c :: (a ++ b)) := fun w h => (List.mem_cons.mp h).elim (fun e => ha w (List.mem_cons.mpr (Or.inl e))) (fun h => (List.mem_append.mp h).elim (fun h => ha w (List.mem_cons.mpr (Or.inr h))) (hb w))
theorem goodIn_sub {big ws : List Cond} (hm : ∀ w ∈ ws, w ∈ big) (h : ws.all goodWord = true) : GoodIn big ws := fun w hw => ⟨hm w hw, good_of_word (List.all_eq_true.mp h w hw)⟩
/-! ===== END ===== -/

/-! ===== BEGIN exceptions that leave a method, and their catching by the caller (launches without stack traces) ===== -/
section VXA
/-! The laws vx_back, vx_callV, vx_callS, vx_callSW, vx_throw0, vx_throwS follow proofs of the library, with one case more: JvmDerived/Free/Laws.lean (Back.of_free), Shelf42/LK1.lean (callV, callS), Shelf/KitTraced.lean (throwNew0V, throwNewS). -/
/-- where a method has thrown q: the class by its name, the cell, what was written, the world -/
def vx_T (XC : String → State → State → Prop) (st : State) (q : Addr) (t : State) (mc ms : Nat) (free : Addr → Prop) : Prop :=
  ∃ (E : String) (ce : Cell) (L : List Loc), XC E st t ∧ t.heap[q]? = some ce ∧ ce.vm = .none ∧ st.vm.findClass E = some ce.cls ∧ st.WarmedH t.vm ∧ st.sameButNew ({ t with vm := st.vm } : State) L mc ms ∧ ∀ z ∈ L, free z.base
def vx_Q (Qc : Array Value → State → Outcome → State → Prop) (XC : String → State → State → Prop) (mc ms : Nat) (free : Addr → Prop) : Array Value → State → Outcome → State → Prop := fun a st o t =>
  (Qc a st o t ∧ ∃ L, FrameEnd st o t L mc ms ∧ ∀ q ∈ L, free q.base) ∨ ∃ q, o = .threw q ∧ vx_T XC st q t mc ms free
/-- a callee that returns or throws -/
def vx_Met (l : Launch) (y : MethodName) (ws : List Cond) (rm : Room) (Pc : Array Value → State → Prop) (Qc : Array Value → State → Outcome → State → Prop) (XC : String → State → State → Prop) (mc ms : Nat) (free : Addr → Prop) : Prop :=
  MetFree l y (headSpec ws rm) Pc (fun _ _ _ _ _ => True) (vx_Q Qc XC mc ms free)
def vx_Post (XC : String → State → State → Prop) (mc ms : Nat) (free : Addr → Prop) : Pt → Array Value → Addr → Pt → Prop := fun A a q B =>
  ∃ (g : JFrame) (mk : MethodId) (t : State) (L : List Loc) (E : String) (ce : Cell), B.U.heap = t.heap ∧ B.U.vm = t.vm ∧ XC E (A.U.calling g mk a) t ∧ t.heap[q]? = some ce ∧ ce.vm = .none ∧ A.U.vm.findClass E = some ce.cls ∧ B.locs = A.locs ++ L ∧ (∀ z ∈ L, free z.base) ∧ B.cells = A.cells + mc ∧ B.slots = A.slots + ms
def vx_Back (l : Launch) (R : Room) (p : Program) (e : Env) (below : List Frame) (s : State) (sargs : Array Value) (y : MethodName) (len W9 : Nat)
    (Pre : Pt → Array Value → Prop) (Post : Pt → Array Value → Option Value → Pt → Prop) (PostX : Pt → Array Value → Addr → Pt → Prop) : Prop :=
  ∀ (m : MethodId) (meth : Method) (c : Code) (A : Pt) (g : JFrame) (ig : Instr) (mk : MethodId) (a : Array Value),
    Stand p l e R s m sargs below meth c A.U A.locs A.cells A.slots → g.method = m → g.locals.size = c.maxLocals → decode c.code g.pc = .ok (ig, len) →
    2 * g.monitorRoom + (g.stack.map fun v => v.category).sum ≤ W9 → A.U.methodNamed? y = some mk → Pre A a →
    (∃ (v : Option Value) (B : Pt), Stand p l e R s m sargs below meth c B.U B.locs B.cells B.slots ∧ Post A a v B ∧
      Steps p.tables e below (doInvoke e (A.U.setTop g) [] mk a).1 (B.U.setTop { g with pc := g.pc + len, stack := v.toList ++ g.stack })) ∨
    (∃ (q : Addr) (B : Pt), Stand p l e R s m sargs below meth c B.U B.locs B.cells B.slots ∧ PostX A a q B ∧
      Steps p.tables e below (doInvoke e (A.U.setTop g) [] mk a).1 ((B.U.setTop g).pushFrame (.throwing q)))
section Payer
variable {l : Launch} {R : Room} {p : Program} {e : Env} {below : List Frame} {s : State} {sargs : Array Value} {y : MethodName} {len W9 : Nat}
theorem vx_back {ws : List Cond} {rm : Room} {Pc : Array Value → State → Prop} {Qc : Array Value → State → Outcome → State → Prop} {XC : String → State → State → Prop} {mc ms : Nat} {free : Addr → Prop} {bytes : ByteArray} {maxL : Nat} {ret : Option FieldType}
    (hM : vx_Met l y ws rm Pc Qc XC mc ms free) (hblind : FrameBlind Pc) (hrc : rm.cells = mc) (hrs : rm.slots = ms)
    (hframes : rm.frames + 1 ≤ R.frames) (hlocals : W9 + (maxL + 11) + rm.locals ≤ R.locals)
    (hws : ∀ w ∈ ws, ∀ a' U, s.WarmedH U.vm → w.before a' U = true) (hcode : Cond.code y bytes maxL ret ∈ ws) (hinit : ∀ a' U, s.WarmedH U.vm → (Cond.initialized y.cls).before a' U = true) :
    vx_Back l R p e below s sargs y len W9 (PreOf R mc ms Pc) (PostOf Qc mc ms free) (vx_Post XC mc ms free) := by
  intro m meth c A g ig mk a X hg hsize hdg hW hn hp
  have h1 : (headSpec ws rm).pre.before a A.U = true := atoms_intro fun w hw => hws w hw _ _ X.warmed
  have h2 : (Cond.code y bytes maxL ret).before a A.U = true := hws _ hcode _ _ X.warmed
  have h3 : (Cond.initialized y.cls).before a A.U = true := hinit _ _ X.warmed
  have h4 : A.cells + (headSpec ws rm).room.cells ≤ R.cells := by rw [show (headSpec ws rm).room.cells = mc from hrc]; exact hp.1
  have h5 : A.slots + (headSpec ws rm).room.slots ≤ R.slots := by rw [show (headSpec ws rm).room.slots = ms from hrs]; exact hp.2.1
  have hPc : Pc a (A.U.calling g mk a) := hblind _ _ _ _ hp.2.2
  obtain ⟨U, Ls, c0, s0⟩ := A
  dsimp only [Pt.U, Pt.locs, Pt.cells, Pt.slots] at h1 h2 h3 h4 h5 X hn hPc ⊢
  obtain ⟨methY, cY, hmY, hcY, -, hlY, -, -, -, -⟩ := Cond.code_spec hn h2
  obtain ⟨kY, hkY, -⟩ := className_of_methodNamed hn
  have hinitY : kY.init = .initialized := Cond.initialized_spec (findClass_of_methodNamed hn) hkY h3
  have h : At U g.method c below := by rw [hg]; exact X.here
  have hlocals9 : W9 + (maxL + 11) + (headSpec ws rm).room.locals ≤ R.locals := hlocals
  have happ : (headSpec ws rm).appliesLoose y e.platform (U.calling g mk a) = true :=
    Spec.appliesLoose_calling (g := g) h hdg hn hkY hinitY
      (X.room_calling (g := g) (R' := (headSpec ws rm).room) hsize hmY hcY hframes (by rw [hlY]; omega) h4 h5) h1
  obtain ⟨mid, hmid⟩ := h.above
  have hfr : (U.setTop g).frames = (.java g :: mid) ++ below := by rw [State.frames_setTop' g h.top, hmid]; rfl
  obtain ⟨o, s₂, hsteps, -, hend, hq⟩ := Steps.callFree hM p X.admits X.cas X.clock (acts := []) hfr happ hPc trivial
  have hq' : vx_Q Qc XC mc ms free a (U.calling g mk a) o s₂ := hq
  rw [State.frames_setTop' g h.top] at hend
  obtain ⟨g₀, hg0⟩ := Option.isSome_iff_exists.mp h.top
  obtain ⟨r, hr⟩ := State.topJava?_eq_some.mp hg0
  have hr' : (({ U with heap := s₂.heap, slotsUsed := s₂.slotsUsed } : State).setVm s₂.vm).frames = .java g₀ :: r := hr
  rcases hq' with ⟨hqc, L, hfe, hL⟩ | ⟨q, rfl, E, ce, L, hx, hce, hcv, hcl, hW₂, hsm, hL⟩
  · obtain ⟨⟨v, rfl⟩, hW₂, e2, q2, q3, q4, q5, q6⟩ := id hfe
    have e3 : s₂ = ({ (U.calling g mk a).setFrames s₂.frames with heap := s₂.heap, slotsUsed := s₂.slotsUsed } : State).setVm s₂.vm := by
      have : s₂ = ({ s₂ with vm := (U.calling g mk a).vm } : State).setVm s₂.vm := rfl
      rw [e2] at this
      exact this
    obtain ⟨c₂, i₂, len₂, hc₂, hd₂, hf₂⟩ := hend
    have hW' : U.WarmedH s₂.vm := hW₂
    have hcc : c₂ = c := by
      have h1 : s₂.code? g.method = U.code? g.method := by
        rw [State.code?_eq, State.code?_eq, hW'.alike.method?]
      exact Option.some.inj (hc₂.symm.trans (h1.trans h.code))
    subst hcc
    have hlen : len₂ = len := by rw [hdg] at hd₂; cases hd₂; rfl
    subst hlen
    have hs₂ : s₂ = (({ U with heap := s₂.heap, slotsUsed := s₂.slotsUsed } : State).setVm s₂.vm).setTop { g with pc := g.pc + len₂, stack := v.toList ++ g.stack } := by
      refine e3.trans ?_
      rw [hf₂, State.calling_eq h.top, State.setFrames_setFrames, State.setTop_of_frames _ hr', hr]
      rfl
    have hsame : U.sameButNew ({ U with heap := s₂.heap, slotsUsed := s₂.slotsUsed } : State) L mc ms := by
      refine ⟨?_, q2, q3, q4, q5, q6⟩
      obtain ⟨t, ht, -⟩ := State.frames_cons hr
      show ({ U with heap := s₂.heap, slotsUsed := s₂.slotsUsed } : State) = { U.setFrames U.frames with heap := s₂.heap, slotsUsed := s₂.slotsUsed }
      rw [State.setFrames_self ht]
    subst hg
    refine Or.inl ⟨v, ⟨(({ U with heap := s₂.heap, slotsUsed := s₂.slotsUsed } : State).setVm s₂.vm), Ls ++ L, c0 + mc, s0 + ms⟩,
      ⟨X.admits, X.cas, X.clock, X.frames, X.room, X.hears, X.method, X.code, (X.here.setHeapUsed s₂.heap s₂.slotsUsed).setVm hW'.alike, X.tail, State.WarmedH.trans X.warmed hW', X.limits, X.bytes, X.same.trans (hsame.setVm s.vm)⟩,
      ⟨g, mk, s₂, L, rfl, rfl, hqc, rfl, hL, rfl, rfl⟩, ?_⟩
    show Steps p.tables e below _ ((({ U with heap := s₂.heap, slotsUsed := s₂.slotsUsed } : State).setVm s₂.vm).setTop { g with pc := g.pc + len₂, stack := v.toList ++ g.stack })
    rw [← hs₂]
    exact hsteps
  · obtain ⟨e2, q2, q3, q4, q5, q6⟩ := id hsm
    have e3 : s₂ = ({ (U.calling g mk a).setFrames s₂.frames with heap := s₂.heap, slotsUsed := s₂.slotsUsed } : State).setVm s₂.vm := by
      have : s₂ = ({ s₂ with vm := (U.calling g mk a).vm } : State).setVm s₂.vm := rfl
      rw [e2] at this
      exact this
    have hf₂ : s₂.frames = .throwing q :: .java g :: U.frames.tail := hend
    have hW' : U.WarmedH s₂.vm := hW₂
    have hs₂ : s₂ = ((({ U with heap := s₂.heap, slotsUsed := s₂.slotsUsed } : State).setVm s₂.vm).setTop g).pushFrame (.throwing q) := by
      refine e3.trans ?_
      rw [hf₂, State.calling_eq h.top, State.setFrames_setFrames, State.pushFrame, State.frames_setTop _ hr', State.setTop_of_frames _ hr', State.setFrames_setFrames, hr]
      rfl
    have hsame : U.sameButNew ({ U with heap := s₂.heap, slotsUsed := s₂.slotsUsed } : State) L mc ms := by
      refine ⟨?_, q2, q3, q4, q5, q6⟩
      obtain ⟨t, ht, -⟩ := State.frames_cons hr
      show ({ U with heap := s₂.heap, slotsUsed := s₂.slotsUsed } : State) = { U.setFrames U.frames with heap := s₂.heap, slotsUsed := s₂.slotsUsed }
      rw [State.setFrames_self ht]
    subst hg
    refine Or.inr ⟨q, ⟨(({ U with heap := s₂.heap, slotsUsed := s₂.slotsUsed } : State).setVm s₂.vm), Ls ++ L, c0 + mc, s0 + ms⟩,
      ⟨X.admits, X.cas, X.clock, X.frames, X.room, X.hears, X.method, X.code, (X.here.setHeapUsed s₂.heap s₂.slotsUsed).setVm hW'.alike, X.tail, State.WarmedH.trans X.warmed hW', X.limits, X.bytes, X.same.trans (hsame.setVm s.vm)⟩,
      ⟨g, mk, s₂, L, E, ce, rfl, rfl, hx, hce, hcv, hcl, rfl, hL, rfl, rfl⟩, ?_⟩
    show Steps p.tables e below _ (((({ U with heap := s₂.heap, slotsUsed := s₂.slotsUsed } : State).setVm s₂.vm).setTop g).pushFrame (.throwing q))
    rw [← hs₂]
    exact hsteps
end Payer
section Calls
variable {p : Program} {l : Launch} {e : Env} {R : Room} {s : State} {m : MethodId} {args : Array Value} {below : List Frame} {meth : Method} {c : Code} {T : State} {locs : List Loc} {cells slots : Nat}
theorem vx_callV (X : Stand p l e R s m args below meth c T locs cells slots) (hexec : p.tables.exec = Jvm.exec) {own C : String} {index : Nat} {y : MethodName} {bytes : ByteArray} {maxL : Nat} {ret : Option FieldType}
    (hown : s.vm.findClass own = some m.cls) (hlink : (Cond.methodLink own index y).before args s = true) (hinst : (Cond.instanceMethod y).before args s = true) (hsel : (Cond.selects C y y).before args s = true)
    (hcode : (Cond.code y bytes maxL ret).before args s = true) (hy : y.cls ≠ "java/lang/invoke/MethodHandle" ∧ y.cls ≠ "java/lang/invoke/VarHandle")
    {W9 : Nat} {Pre : Pt → Array Value → Prop} {Post : Pt → Array Value → Option Value → Pt → Prop} {PostX : Pt → Array Value → Addr → Pt → Prop} (hK : vx_Back l R p e below s args y 3 W9 Pre Post PostX)
    {b : Addr} {cellB : Cell} (hcell : T.heap[b]? = some cellB) (hobj : cellB.vm.isStatics = false) (hcls : s.vm.findClass C = some cellB.cls)
    {g : JFrame} (hg : g.method = m) (hsize : g.locals.size = c.maxLocals) {argsL rest : List Value} (hlen : ∀ sig, parseMethodDescriptor y.desc = some sig → argsL.length = sig.parameters.length)
    (hstack : g.stack = argsL.reverse ++ .ref b :: rest) (hW : 2 * g.monitorRoom + (rest.map fun v => v.category).sum ≤ W9) (hdg : decode c.code g.pc = .ok (.invokevirtual index, 3))
    (hpre : ∀ vm₁, s.WarmedH vm₁ → Pre ⟨T.setVm vm₁, locs, cells, slots⟩ (Value.ref b :: argsL).toArray) :
    (∃ (v : Option Value) (vm₁ : Vm) (B : Pt), s.WarmedH vm₁ ∧ Stand p l e R s m args below meth c B.U B.locs B.cells B.slots ∧ Post ⟨T.setVm vm₁, locs, cells, slots⟩ (Value.ref b :: argsL).toArray v B ∧
      ∀ target, Steps p.tables e below (B.U.setTop { g with pc := g.pc + 3, stack := v.toList ++ rest }) target → Steps p.tables e below (T.setTop g) target) ∨
    (∃ (q : Addr) (vm₁ : Vm) (B : Pt), s.WarmedH vm₁ ∧ Stand p l e R s m args below meth c B.U B.locs B.cells B.slots ∧ PostX ⟨T.setVm vm₁, locs, cells, slots⟩ (Value.ref b :: argsL).toArray q B ∧
      Steps p.tables e below (T.setTop g) ((B.U.setTop { g with stack := rest }).pushFrame (.throwing q))) := by
  obtain ⟨mk, methM, hnamed, hmethM, hstM, habM⟩ := Cond.instanceMethod_spec hinst
  obtain ⟨methM', cM, hmethM', -, -, -, -, -, -, hsigM⟩ := Cond.code_spec hnamed hcode
  cases hmethM.symm.trans hmethM'
  obtain ⟨c2, r2, m2, q1, q2, q3, q4, kP, hkP, hkPi⟩ := Cond.selects_spec hsel
  cases hcls.symm.trans q1
  cases (State.methodFound?_of_named hnamed hy).symm.trans q2
  cases hnamed.symm.trans q3
  have hselP : selectMethod e.platform s.vm cellB.cls mk = .method mk := by rw [Launch.admits_selectMethod X.admits]; exact q4
  obtain ⟨vm₁, X₁, hstep₁⟩ := X.invokevirtual hexec hown hlink hnamed hmethM hstM hkP hkPi hy (a := b) (cell := cellB) hcell
    (fun z h => by rw [h] at hobj; cases hobj) hselP hmethM habM hkP hkPi (g := g) hg (argsL := argsL) (rest := rest) (hlen _ hsigM) hstack hdg
  rcases hK m meth c ⟨T.setVm vm₁, locs, cells, slots⟩ { g with stack := rest } (.invokevirtual index) mk (Value.ref b :: argsL).toArray X₁ hg hsize hdg hW (X₁.named hnamed) (hpre vm₁ X₁.warmed) with ⟨v, B, X', hpost, hsteps⟩ | ⟨q, B, X', hpost, hsteps⟩
  · exact Or.inl ⟨v, vm₁, B, X₁.warmed, X', hpost, fun target h => hstep₁ _ fun acts => by rw [doInvoke_state]; exact hsteps.trans h⟩
  · exact Or.inr ⟨q, vm₁, B, X₁.warmed, X', hpost, hstep₁ _ fun acts => by rw [doInvoke_state]; exact hsteps⟩
theorem vx_callS (X : Stand p l e R s m args below meth c T locs cells slots) (hexec : p.tables.exec = Jvm.exec) {own : String} {index : Nat} {y : MethodName} {bytes : ByteArray} {maxL : Nat} {ret : Option FieldType}
    (hown : s.vm.findClass own = some m.cls) (hlink : (Cond.methodLink own index y).before args s = true) (hstat : (Cond.static y).before args s = true) (hinit : (Cond.initialized y.cls).before args s = true)
    (hcode : (Cond.code y bytes maxL ret).before args s = true) (hy : y.cls ≠ "java/lang/invoke/MethodHandle" ∧ y.cls ≠ "java/lang/invoke/VarHandle")
    {W9 : Nat} {Pre : Pt → Array Value → Prop} {Post : Pt → Array Value → Option Value → Pt → Prop} {PostX : Pt → Array Value → Addr → Pt → Prop} (hK : vx_Back l R p e below s args y 3 W9 Pre Post PostX)
    {g : JFrame} (hg : g.method = m) (hsize : g.locals.size = c.maxLocals) {argsL rest : List Value} (hlen : ∀ sig, parseMethodDescriptor y.desc = some sig → argsL.length = sig.parameters.length)
    (hstack : g.stack = argsL.reverse ++ rest) (hW : 2 * g.monitorRoom + (rest.map fun v => v.category).sum ≤ W9) (hdg : decode c.code g.pc = .ok (.invokestatic index, 3))
    (hpre : ∀ vm₁, s.WarmedH vm₁ → Pre ⟨T.setVm vm₁, locs, cells, slots⟩ argsL.toArray) :
    (∃ (v : Option Value) (vm₁ : Vm) (B : Pt), s.WarmedH vm₁ ∧ Stand p l e R s m args below meth c B.U B.locs B.cells B.slots ∧ Post ⟨T.setVm vm₁, locs, cells, slots⟩ argsL.toArray v B ∧
      ∀ target, Steps p.tables e below (B.U.setTop { g with pc := g.pc + 3, stack := v.toList ++ rest }) target → Steps p.tables e below (T.setTop g) target) ∨
    (∃ (q : Addr) (vm₁ : Vm) (B : Pt), s.WarmedH vm₁ ∧ Stand p l e R s m args below meth c B.U B.locs B.cells B.slots ∧ PostX ⟨T.setVm vm₁, locs, cells, slots⟩ argsL.toArray q B ∧
      Steps p.tables e below (T.setTop g) ((B.U.setTop { g with stack := rest }).pushFrame (.throwing q))) := by
  obtain ⟨mk, hnamed⟩ := Cond.code_named hcode
  obtain ⟨methM, cM, hmethM, -, -, -, -, -, -, hsigM⟩ := Cond.code_spec hnamed hcode
  have hstatic : methM.isStatic = true := Cond.static_spec hnamed hmethM hstat
  obtain ⟨kP, hkP, -⟩ := className_of_methodNamed hnamed
  have hinitP : kP.init = .initialized := Cond.initialized_spec (findClass_of_methodNamed hnamed) hkP hinit
  obtain ⟨vm₁, X₁, hstep₁⟩ := X.invokestatic hexec hown hlink hnamed hmethM hstatic hkP hinitP hy (g := g) hg (argsL := argsL) (rest := rest) (hlen _ hsigM) hstack hdg
  rcases hK m meth c ⟨T.setVm vm₁, locs, cells, slots⟩ { g with stack := rest } (.invokestatic index) mk argsL.toArray X₁ hg hsize hdg hW (X₁.named hnamed) (hpre vm₁ X₁.warmed) with ⟨v, B, X', hpost, hsteps⟩ | ⟨q, B, X', hpost, hsteps⟩
  · exact Or.inl ⟨v, vm₁, B, X₁.warmed, X', hpost, fun target h => hstep₁ _ fun acts => by rw [doInvoke_state]; exact hsteps.trans h⟩
  · exact Or.inr ⟨q, vm₁, B, X₁.warmed, X', hpost, hstep₁ _ fun acts => by rw [doInvoke_state]; exact hsteps⟩
end Calls
theorem vx_cls {s : State} {T : State} {vm₁ : Vm} {E : String} {k : ClassId} (hW : s.WarmedH vm₁) (h : (T.setVm vm₁).vm.findClass E = some k) : s.vm.findClass E = some k := by
  have h1 : vm₁.findClass E = some k := h
  rw [hW.alike.findClass] at h1
  exact h1
/-- the method's frame g, with q thrown over it -/
def vx_W (p : Program) (l : Launch) (e : Env) (R : Room) (s : State) (m : MethodId) (args : Array Value) (below : List Frame) (meth : Method) (c : Code) (H : Heap) (locs : List Loc) (cells slots : Nat) (Q : State → Prop) (g : JFrame) (q : Addr) : Prop :=
  ∀ T : State, T.heap = H → Stand p l e R s m args below meth c T locs cells slots → ∃ t, Steps p.tables e below ((T.setTop g).pushFrame (.throwing q)) t ∧ Q t
def vx_Run (p : Program) (l : Launch) (e : Env) (R : Room) (s : State) (m : MethodId) (args : Array Value) (below : List Frame) (meth : Method) (c : Code) (H : Heap) (locs : List Loc) (cells slots mc ms : Nat) (g : JFrame) (rest : List Value) (Qa : State → Outcome → State → Prop) (XC : String → State → State → Prop) (free : Addr → Prop) : Prop :=
  ∀ T : State, T.heap = H → Stand p l e R s m args below meth c T locs cells slots →
    (∃ (v : Option Value) (st₀ t T' : State) (L : List Loc), st₀.heap = H ∧ Stand p l e R s m args below meth c T' (locs ++ L) (cells + mc) (slots + ms) ∧ (∀ q ∈ L, free q.base) ∧ T'.heap = t.heap ∧ T'.vm = t.vm ∧ Qa st₀ (.returned v) t ∧
      Goes p e below T g T' { g with pc := g.pc + 3, stack := v.toList ++ rest }) ∨
    (∃ (q : Addr) (st₀ t T' : State) (L : List Loc) (E : String) (ce : Cell), st₀.heap = H ∧ Stand p l e R s m args below meth c T' (locs ++ L) (cells + mc) (slots + ms) ∧ (∀ z ∈ L, free z.base) ∧ T'.heap = t.heap ∧ T'.vm = t.vm ∧ XC E st₀ t ∧ t.heap[q]? = some ce ∧ ce.vm = .none ∧ s.vm.findClass E = some ce.cls ∧
      Steps p.tables e below (T.setTop g) ((T'.setTop { g with stack := rest }).pushFrame (.throwing q)))
def vx_X {S : Type} (px : S → Prop) (B : String → S → State → Prop) (A : Nat → Prop) : String → State → State → Prop := fun E st t => ∃ u : S, px u ∧ B E u t ∧ va_F A st t
section Runs
variable {p : Program} {l : Launch} {e : Env} {R : Room} {s : State} {m : MethodId} {args : Array Value} {below : List Frame} {meth : Method} {c : Code} {H : Heap} {locs : List Loc} {cells slots : Nat}
variable {y : MethodName} {bytes cc : ByteArray} {maxL nL mc ms n index : Nat} {ret : Option FieldType} {ws : List Cond} {rm : Room} {Pc : Array Value → State → Prop} {Qc : Array Value → State → Outcome → State → Prop} {XC : String → State → State → Prop} {free : Addr → Prop} {Ts : List Cond} {own C : String} {b : Addr} {As rest : List Value} {g : JFrame}
theorem vx_callBack (cb : CallB R s args own index y bytes maxL ret ws rm mc ms n) (hM : vx_Met l y ws rm Pc Qc XC mc ms free) (hbl : FrameBlind Pc) : vx_Back l R p e below s args y 3 8 (PreOf R mc ms Pc) (PostOf Qc mc ms free) (vx_Post XC mc ms free) := by
  obtain ⟨hrc, hrs, hfr, hlo, hws, hcw, -, hini, -⟩ := cb
  exact vx_back (bytes := bytes) (maxL := maxL) (ret := ret) hM hbl hrc hrs hfr hlo hws hcw (fun a' U hW => word_at hW (Or.inl (by first | rfl | simp [Cond.onTables, Cond.keeps, Cond.steady])) hini)
theorem vx_runV (S : CallFix p m c cc nL s args Ts own) (hM : vx_Met l y ws rm Pc Qc XC mc ms free) (cw : CallW R s args own C index y bytes maxL ret ws rm mc ms n) (hp : PreV s H C b Pc As)
    (hg : g.method = m) (hn : As.length = n) (hsize : g.locals.size = nL) (hstack : g.stack = As.reverse ++ .ref b :: rest) (hW : 2 * g.monitorRoom + (rest.map fun v => v.category).sum ≤ 8) (hdg : decode cc g.pc = .ok (.invokevirtual index, 3)) (hf : cells + mc ≤ R.cells ∧ slots + ms ≤ R.slots) :
    vx_Run p l e R s m args below meth c H locs cells slots mc ms g rest (Qc (Value.ref b :: As).toArray) XC free := by
  have hK : vx_Back l R p e below s args y 3 8 (PreOf R mc ms Pc) (PostOf Qc mc ms free) (vx_Post XC mc ms free) := vx_callBack cw.1 hM hp.1
  obtain ⟨⟨-, -, -, -, -, -, hcode, -, hy, hlen, hl⟩, hin, hse⟩ := cw
  obtain ⟨hx, hb, hml, ho, -⟩ := S
  obtain ⟨-, ⟨cellB, hcB, hoB, hclB⟩, hPc⟩ := hp
  intro T hT X
  rcases vx_callV X hx (C := C) (bytes := bytes) (maxL := maxL) (ret := ret) ho hl hin hse hcode hy hK (by rw [hT]; exact hcB) hoB hclB hg (hsize.trans hml.symm) (argsL := As) (rest := rest) (fun sig h => hn.trans (hlen sig h)) hstack hW (by rw [hb]; exact hdg)
    (fun vm₁ hW₁ => ⟨hf.1, hf.2, hPc (T.setVm vm₁) hT hW₁⟩) with ⟨v, vm₁, ⟨U', l2, c2, s2⟩, hW₁, X', ⟨g', mk, t, L, e1, e2, hq, h1, hL, h2, h3⟩, st⟩ | ⟨q, vm₁, ⟨U', l2, c2, s2⟩, hW₁, X', ⟨g', mk, t, L, E, ce, e1, e2, hq, hce, hcv, hcl, h1, hL, h2, h3⟩, st⟩
  · dsimp only [Pt.U, Pt.locs, Pt.cells, Pt.slots] at X' e1 e2 h1 h2 h3 st
    subst h1; subst h2; subst h3
    exact Or.inl ⟨v, (T.setVm vm₁).calling g' mk (Value.ref b :: As).toArray, t, U', L, hT, X', hL, e1, e2, hq, st⟩
  · dsimp only [Pt.U, Pt.locs, Pt.cells, Pt.slots] at X' e1 e2 h1 h2 h3 st hcl
    subst h1; subst h2; subst h3
    exact Or.inr ⟨q, (T.setVm vm₁).calling g' mk (Value.ref b :: As).toArray, t, U', L, E, ce, hT, X', hL, e1, e2, hq, hce, hcv, vx_cls hW₁ hcl, st⟩
theorem vx_runS (S : CallFix p m c cc nL s args Ts own) (hM : vx_Met l y ws rm Pc Qc XC mc ms free) (cw : CallB R s args own index y bytes maxL ret ws rm mc ms n ∧ (Cond.static y).before args s = true) (hp : PreS s H Pc As)
    (hg : g.method = m) (hn : As.length = n) (hsize : g.locals.size = nL) (hstack : g.stack = As.reverse ++ rest) (hW : 2 * g.monitorRoom + (rest.map fun v => v.category).sum ≤ 8) (hdg : decode cc g.pc = .ok (.invokestatic index, 3)) (hf : cells + mc ≤ R.cells ∧ slots + ms ≤ R.slots) :
    vx_Run p l e R s m args below meth c H locs cells slots mc ms g rest (Qc As.toArray) XC free := by
  have hK : vx_Back l R p e below s args y 3 8 (PreOf R mc ms Pc) (PostOf Qc mc ms free) (vx_Post XC mc ms free) := vx_callBack cw.1 hM hp.1
  obtain ⟨⟨-, -, -, -, -, -, hcode, hini, hy, hlen, hl⟩, hstt⟩ := cw
  obtain ⟨hx, hb, hml, ho, -⟩ := S
  intro T hT X
  rcases vx_callS X hx (bytes := bytes) (maxL := maxL) (ret := ret) ho hl hstt hini hcode hy hK hg (hsize.trans hml.symm) (argsL := As) (rest := rest) (fun sig h => hn.trans (hlen sig h)) hstack hW (by rw [hb]; exact hdg)
    (fun vm₁ hW₁ => ⟨hf.1, hf.2, hp.2 (T.setVm vm₁) hT hW₁⟩) with ⟨v, vm₁, ⟨U', l2, c2, s2⟩, hW₁, X', ⟨g', mk, t, L, e1, e2, hq, h1, hL, h2, h3⟩, st⟩ | ⟨q, vm₁, ⟨U', l2, c2, s2⟩, hW₁, X', ⟨g', mk, t, L, E, ce, e1, e2, hq, hce, hcv, hcl, h1, hL, h2, h3⟩, st⟩
  · dsimp only [Pt.U, Pt.locs, Pt.cells, Pt.slots] at X' e1 e2 h1 h2 h3 st
    subst h1; subst h2; subst h3
    exact Or.inl ⟨v, (T.setVm vm₁).calling g' mk As.toArray, t, U', L, hT, X', hL, e1, e2, hq, st⟩
  · dsimp only [Pt.U, Pt.locs, Pt.cells, Pt.slots] at X' e1 e2 h1 h2 h3 st hcl
    subst h1; subst h2; subst h3
    exact Or.inr ⟨q, (T.setVm vm₁).calling g' mk As.toArray, t, U', L, E, ce, hT, X', hL, e1, e2, hq, hce, hcv, vx_cls hW₁ hcl, st⟩
end Runs
section Rows
variable {p : Program} {l : Launch} {e : Env} {R : Room} {s : State} {m : MethodId} {args : Array Value} {below : List Frame} {meth : Method} {c : Code} {H : Heap} {locs : List Loc} {cells slots : Nat} {Q : State → Prop}
variable {mc ms : Nat} {free : Addr → Prop} {A0 A1 : Nat → Prop} {H0 : Heap} {a : Array Value} {pc : Nat} {ls : Array Slot} {st0 rest : List Value}
theorem vx_keep {st₀ t T' : State} {L : List Loc} (h0 : st₀.heap = H) (e1 : T'.heap = t.heap) (hS : va_S A0 H0 H locs) (hA : ∀ q, q < H.size → A1 q → A0 q) (hf : ∀ q, free q → A0 q) (hL : ∀ q ∈ L, free q.base) (hF : va_F A1 st₀ t) :
    H.size ≤ T'.heap.size ∧ (∀ q : Nat, q < H.size → ¬ A1 q → T'.heap[q]? = H[q]?) ∧ va_S A0 H0 T'.heap (locs ++ L) := by
  obtain ⟨hz, hk⟩ := hF
  rw [h0] at hz hk
  exact ⟨by rw [e1]; exact hz, fun q h1 h2 => by rw [e1]; exact hk q h1 h2,
    ⟨Nat.le_trans hS.1 (by rw [e1]; exact hz), fun q h1 h2 => by rw [e1, hk q (Nat.lt_of_lt_of_le h1 hS.1) (fun z => h2 (hA q (Nat.lt_of_lt_of_le h1 hS.1) z))]; exact hS.2.1 q h1 h2, fun q hq => by
      rcases List.mem_append.mp hq with h | h
      · exact hS.2.2 q h
      · exact hf _ (hL q h)⟩⟩
theorem vx_calli {S SX : Type} {post : Int32 → S → Prop} {px : SX → Prop} {B : S → State → Prop} {BX : String → SX → State → Prop} {AX : Nat → Prop} (hr : vx_Run p l e R s m args below meth c H locs cells slots mc ms (F0 m pc ls st0) rest (va_Qi post B A1 a) (vx_X px BX AX) free) (hS : va_S A0 H0 H locs) (hA : ∀ q, q < H.size → A1 q → A0 q) (hf : ∀ q, free q → A0 q) (hAX : ∀ q, q < H.size → AX q → A0 q)
    (kx : ∀ (E : String) (ce : Cell) (q9 : Addr) (u : SX) (t : State) (H1 : Heap) (locs1 : List Loc), t.heap = H1 → s.vm.Alike t.vm → px u → BX E u t → H.size ≤ H1.size → (∀ q : Nat, q < H.size → ¬ AX q → H1[q]? = H[q]?) → va_S A0 H0 H1 locs1 → H1[q9]? = some ce → ce.vm = .none → s.vm.findClass E = some ce.cls → vx_W p l e R s m args below meth c H1 locs1 (cells + mc) (slots + ms) Q (F0 m pc ls rest) q9)
    (kk : ∀ (r : Int32) (u : S) (t : State) (H1 : Heap) (locs1 : List Loc), t.heap = H1 → s.vm.Alike t.vm → post r u → B u t → H.size ≤ H1.size → (∀ q : Nat, q < H.size → ¬ A1 q → H1[q]? = H[q]?) → va_S A0 H0 H1 locs1 → W p l e R s m args below meth c H1 locs1 (cells + mc) (slots + ms) Q (F0 m (pc + 3) ls (.int r :: rest))) : W p l e R s m args below meth c H locs cells slots Q (F0 m pc ls st0) := by
  intro T hT X
  rcases hr T hT X with ⟨v, st₀, t, T', L, h0, X', hL, e1, e2, ⟨⟨r, u, hv, hp, hb⟩, hF⟩, st⟩ | ⟨q, st₀, t, T', L, E, ce, h0, X', hL, e1, e2, ⟨u, hp, hb, hF⟩, hce, hcv, hcl, st⟩
  · cases hv
    obtain ⟨k1, k2, k3⟩ := vx_keep h0 e1 hS hA hf hL hF
    obtain ⟨t2, a1, b1⟩ := kk r u t T'.heap (locs ++ L) e1.symm (by rw [← e2]; exact X'.warmed.alike) hp hb k1 k2 k3 T' rfl X'
    exact ⟨t2, st t2 a1, b1⟩
  · obtain ⟨k1, k2, k3⟩ := vx_keep h0 e1 hS hAX hf hL hF
    obtain ⟨t2, a1, b1⟩ := kx E ce q u t T'.heap (locs ++ L) e1.symm (by rw [← e2]; exact X'.warmed.alike) hp hb k1 k2 k3 (by rw [e1]; exact hce) hcv hcl T' rfl X'
    exact ⟨t2, st.trans a1, b1⟩
theorem vx_calll {S SX : Type} {post : Int64 → S → Prop} {px : SX → Prop} {B : S → State → Prop} {BX : String → SX → State → Prop} {AX : Nat → Prop} (hr : vx_Run p l e R s m args below meth c H locs cells slots mc ms (F0 m pc ls st0) rest (va_Ql post B A1 a) (vx_X px BX AX) free) (hS : va_S A0 H0 H locs) (hA : ∀ q, q < H.size → A1 q → A0 q) (hf : ∀ q, free q → A0 q) (hAX : ∀ q, q < H.size → AX q → A0 q)
    (kx : ∀ (E : String) (ce : Cell) (q9 : Addr) (u : SX) (t : State) (H1 : Heap) (locs1 : List Loc), t.heap = H1 → s.vm.Alike t.vm → px u → BX E u t → H.size ≤ H1.size → (∀ q : Nat, q < H.size → ¬ AX q → H1[q]? = H[q]?) → va_S A0 H0 H1 locs1 → H1[q9]? = some ce → ce.vm = .none → s.vm.findClass E = some ce.cls → vx_W p l e R s m args below meth c H1 locs1 (cells + mc) (slots + ms) Q (F0 m pc ls rest) q9)
    (kk : ∀ (r : Int64) (u : S) (t : State) (H1 : Heap) (locs1 : List Loc), t.heap = H1 → s.vm.Alike t.vm → post r u → B u t → H.size ≤ H1.size → (∀ q : Nat, q < H.size → ¬ A1 q → H1[q]? = H[q]?) → va_S A0 H0 H1 locs1 → W p l e R s m args below meth c H1 locs1 (cells + mc) (slots + ms) Q (F0 m (pc + 3) ls (.long r :: rest))) : W p l e R s m args below meth c H locs cells slots Q (F0 m pc ls st0) := by
  intro T hT X
  rcases hr T hT X with ⟨v, st₀, t, T', L, h0, X', hL, e1, e2, ⟨⟨r, u, hv, hp, hb⟩, hF⟩, st⟩ | ⟨q, st₀, t, T', L, E, ce, h0, X', hL, e1, e2, ⟨u, hp, hb, hF⟩, hce, hcv, hcl, st⟩
  · cases hv
    obtain ⟨k1, k2, k3⟩ := vx_keep h0 e1 hS hA hf hL hF
    obtain ⟨t2, a1, b1⟩ := kk r u t T'.heap (locs ++ L) e1.symm (by rw [← e2]; exact X'.warmed.alike) hp hb k1 k2 k3 T' rfl X'
    exact ⟨t2, st t2 a1, b1⟩
  · obtain ⟨k1, k2, k3⟩ := vx_keep h0 e1 hS hAX hf hL hF
    obtain ⟨t2, a1, b1⟩ := kx E ce q u t T'.heap (locs ++ L) e1.symm (by rw [← e2]; exact X'.warmed.alike) hp hb k1 k2 k3 (by rw [e1]; exact hce) hcv hcl T' rfl X'
    exact ⟨t2, st.trans a1, b1⟩
theorem vx_callf {S SX : Type} {post : UInt32 → S → Prop} {px : SX → Prop} {B : S → State → Prop} {BX : String → SX → State → Prop} {AX : Nat → Prop} (hr : vx_Run p l e R s m args below meth c H locs cells slots mc ms (F0 m pc ls st0) rest (va_Qf post B A1 a) (vx_X px BX AX) free) (hS : va_S A0 H0 H locs) (hA : ∀ q, q < H.size → A1 q → A0 q) (hf : ∀ q, free q → A0 q) (hAX : ∀ q, q < H.size → AX q → A0 q)
    (kx : ∀ (E : String) (ce : Cell) (q9 : Addr) (u : SX) (t : State) (H1 : Heap) (locs1 : List Loc), t.heap = H1 → s.vm.Alike t.vm → px u → BX E u t → H.size ≤ H1.size → (∀ q : Nat, q < H.size → ¬ AX q → H1[q]? = H[q]?) → va_S A0 H0 H1 locs1 → H1[q9]? = some ce → ce.vm = .none → s.vm.findClass E = some ce.cls → vx_W p l e R s m args below meth c H1 locs1 (cells + mc) (slots + ms) Q (F0 m pc ls rest) q9)
    (kk : ∀ (r : UInt32) (u : S) (t : State) (H1 : Heap) (locs1 : List Loc), t.heap = H1 → s.vm.Alike t.vm → post r u → B u t → H.size ≤ H1.size → (∀ q : Nat, q < H.size → ¬ A1 q → H1[q]? = H[q]?) → va_S A0 H0 H1 locs1 → W p l e R s m args below meth c H1 locs1 (cells + mc) (slots + ms) Q (F0 m (pc + 3) ls (.float r :: rest))) : W p l e R s m args below meth c H locs cells slots Q (F0 m pc ls st0) := by
  intro T hT X
  rcases hr T hT X with ⟨v, st₀, t, T', L, h0, X', hL, e1, e2, ⟨⟨r, u, hv, hp, hb⟩, hF⟩, st⟩ | ⟨q, st₀, t, T', L, E, ce, h0, X', hL, e1, e2, ⟨u, hp, hb, hF⟩, hce, hcv, hcl, st⟩
  · cases hv
    obtain ⟨k1, k2, k3⟩ := vx_keep h0 e1 hS hA hf hL hF
    obtain ⟨t2, a1, b1⟩ := kk r u t T'.heap (locs ++ L) e1.symm (by rw [← e2]; exact X'.warmed.alike) hp hb k1 k2 k3 T' rfl X'
    exact ⟨t2, st t2 a1, b1⟩
  · obtain ⟨k1, k2, k3⟩ := vx_keep h0 e1 hS hAX hf hL hF
    obtain ⟨t2, a1, b1⟩ := kx E ce q u t T'.heap (locs ++ L) e1.symm (by rw [← e2]; exact X'.warmed.alike) hp hb k1 k2 k3 (by rw [e1]; exact hce) hcv hcl T' rfl X'
    exact ⟨t2, st.trans a1, b1⟩
theorem vx_calld {S SX : Type} {post : UInt64 → S → Prop} {px : SX → Prop} {B : S → State → Prop} {BX : String → SX → State → Prop} {AX : Nat → Prop} (hr : vx_Run p l e R s m args below meth c H locs cells slots mc ms (F0 m pc ls st0) rest (va_Qd post B A1 a) (vx_X px BX AX) free) (hS : va_S A0 H0 H locs) (hA : ∀ q, q < H.size → A1 q → A0 q) (hf : ∀ q, free q → A0 q) (hAX : ∀ q, q < H.size → AX q → A0 q)
    (kx : ∀ (E : String) (ce : Cell) (q9 : Addr) (u : SX) (t : State) (H1 : Heap) (locs1 : List Loc), t.heap = H1 → s.vm.Alike t.vm → px u → BX E u t → H.size ≤ H1.size → (∀ q : Nat, q < H.size → ¬ AX q → H1[q]? = H[q]?) → va_S A0 H0 H1 locs1 → H1[q9]? = some ce → ce.vm = .none → s.vm.findClass E = some ce.cls → vx_W p l e R s m args below meth c H1 locs1 (cells + mc) (slots + ms) Q (F0 m pc ls rest) q9)
    (kk : ∀ (r : UInt64) (u : S) (t : State) (H1 : Heap) (locs1 : List Loc), t.heap = H1 → s.vm.Alike t.vm → post r u → B u t → H.size ≤ H1.size → (∀ q : Nat, q < H.size → ¬ A1 q → H1[q]? = H[q]?) → va_S A0 H0 H1 locs1 → W p l e R s m args below meth c H1 locs1 (cells + mc) (slots + ms) Q (F0 m (pc + 3) ls (.double r :: rest))) : W p l e R s m args below meth c H locs cells slots Q (F0 m pc ls st0) := by
  intro T hT X
  rcases hr T hT X with ⟨v, st₀, t, T', L, h0, X', hL, e1, e2, ⟨⟨r, u, hv, hp, hb⟩, hF⟩, st⟩ | ⟨q, st₀, t, T', L, E, ce, h0, X', hL, e1, e2, ⟨u, hp, hb, hF⟩, hce, hcv, hcl, st⟩
  · cases hv
    obtain ⟨k1, k2, k3⟩ := vx_keep h0 e1 hS hA hf hL hF
    obtain ⟨t2, a1, b1⟩ := kk r u t T'.heap (locs ++ L) e1.symm (by rw [← e2]; exact X'.warmed.alike) hp hb k1 k2 k3 T' rfl X'
    exact ⟨t2, st t2 a1, b1⟩
  · obtain ⟨k1, k2, k3⟩ := vx_keep h0 e1 hS hAX hf hL hF
    obtain ⟨t2, a1, b1⟩ := kx E ce q u t T'.heap (locs ++ L) e1.symm (by rw [← e2]; exact X'.warmed.alike) hp hb k1 k2 k3 (by rw [e1]; exact hce) hcv hcl T' rfl X'
    exact ⟨t2, st.trans a1, b1⟩
theorem vx_callv {S SX : Type} {post : S → Prop} {px : SX → Prop} {B : S → State → Prop} {BX : String → SX → State → Prop} {AX : Nat → Prop} (hr : vx_Run p l e R s m args below meth c H locs cells slots mc ms (F0 m pc ls st0) rest (va_Qv post B A1 a) (vx_X px BX AX) free) (hS : va_S A0 H0 H locs) (hA : ∀ q, q < H.size → A1 q → A0 q) (hf : ∀ q, free q → A0 q) (hAX : ∀ q, q < H.size → AX q → A0 q)
    (kx : ∀ (E : String) (ce : Cell) (q9 : Addr) (u : SX) (t : State) (H1 : Heap) (locs1 : List Loc), t.heap = H1 → s.vm.Alike t.vm → px u → BX E u t → H.size ≤ H1.size → (∀ q : Nat, q < H.size → ¬ AX q → H1[q]? = H[q]?) → va_S A0 H0 H1 locs1 → H1[q9]? = some ce → ce.vm = .none → s.vm.findClass E = some ce.cls → vx_W p l e R s m args below meth c H1 locs1 (cells + mc) (slots + ms) Q (F0 m pc ls rest) q9)
    (kk : ∀ (u : S) (t : State) (H1 : Heap) (locs1 : List Loc), t.heap = H1 → s.vm.Alike t.vm → post u → B u t → H.size ≤ H1.size → (∀ q : Nat, q < H.size → ¬ A1 q → H1[q]? = H[q]?) → va_S A0 H0 H1 locs1 → W p l e R s m args below meth c H1 locs1 (cells + mc) (slots + ms) Q (F0 m (pc + 3) ls (rest))) : W p l e R s m args below meth c H locs cells slots Q (F0 m pc ls st0) := by
  intro T hT X
  rcases hr T hT X with ⟨v, st₀, t, T', L, h0, X', hL, e1, e2, ⟨⟨u, hv, hp, hb⟩, hF⟩, st⟩ | ⟨q, st₀, t, T', L, E, ce, h0, X', hL, e1, e2, ⟨u, hp, hb, hF⟩, hce, hcv, hcl, st⟩
  · cases hv
    obtain ⟨k1, k2, k3⟩ := vx_keep h0 e1 hS hA hf hL hF
    obtain ⟨t2, a1, b1⟩ := kk u t T'.heap (locs ++ L) e1.symm (by rw [← e2]; exact X'.warmed.alike) hp hb k1 k2 k3 T' rfl X'
    exact ⟨t2, st t2 a1, b1⟩
  · obtain ⟨k1, k2, k3⟩ := vx_keep h0 e1 hS hAX hf hL hF
    obtain ⟨t2, a1, b1⟩ := kx E ce q u t T'.heap (locs ++ L) e1.symm (by rw [← e2]; exact X'.warmed.alike) hp hb k1 k2 k3 (by rw [e1]; exact hce) hcv hcl T' rfl X'
    exact ⟨t2, st.trans a1, b1⟩
/-- caught by the row x of this method's table; the rows ahead don't take it -/
theorem vx_catch {own name : String} {E : String} {ce : Cell} {q : Addr} (hown : s.vm.findClass own = some m.cls) (pre : List ExceptionTableEntry) (x : ExceptionTableEntry) (suf : List ExceptionTableEntry) (hsplit : c.exceptionTable.toList = pre ++ x :: suf)
    (hpass : ∀ z ∈ pre, covers z pc = false ∨ (z.catchType ≠ 0 ∧ ∃ nm : String, (Cond.classLink own z.catchType nm).before args s = true ∧ va_Nc E nm s)) (hx : covers x pc = true) (h0 : x.catchType ≠ 0)
    (hlink : (Cond.classLink own x.catchType name).before args s = true) (hcast : (Cond.castable E name).before args s = true) (hcell : H[q]? = some ce) (hv : ce.vm = .none) (hcl : s.vm.findClass E = some ce.cls)
    (kk : W p l e R s m args below meth c H locs cells slots Q (F0 m x.handlerPc ls [.ref q])) : vx_W p l e R s m args below meth c H locs cells slots Q (F0 m pc ls rest) q := by
  intro T hT X
  have hpl : e.platform.magicAccessors = ({} : Platform).magicAccessors := by rw [X.admits.platform]
  obtain ⟨c3, c4, hc3, hc4, hasg⟩ := Cond.castable_spec hcast
  cases Option.some.inj (hc3.symm.trans hcl)
  obtain ⟨c5, hc5, hcl5⟩ := Cond.classLink_spec hown hlink e.platform hpl
  cases Option.some.inj (hc4.symm.trans hc5)
  obtain ⟨vm', X', st⟩ := Jvm.Stand.thenCaughtThrough X q (g := F0 m pc ls rest) rfl (Steps.refl _) (by rw [hT]; exact hcell) (by rw [hv]; rfl) (by obtain ⟨k9, h9, -⟩ := Vm.findClass_spec hcl; exact ⟨k9, h9⟩) pre x suf hsplit
    (fun z hz => by
      rcases hpass z hz with h | ⟨hz0, nm, hl1, hn1⟩
      · exact Or.inl h
      · obtain ⟨c6, hc6, hcl6⟩ := Cond.classLink_spec hown hl1 e.platform hpl
        obtain ⟨a8, b8, h1, h2, h3⟩ := hn1
        cases Option.some.inj (h1.symm.trans hcl)
        cases Option.some.inj (h2.symm.trans hc6)
        exact Or.inr ⟨hz0, _, hcl6, h3⟩) hx (Or.inr ⟨h0, c4, hcl5, hasg⟩)
  obtain ⟨t, a1, b1⟩ := kk (T.setVm vm') hT X'
  exact ⟨t, st.trans a1, b1⟩
end Rows
section Ends
variable {p : Program} {l : Launch} {e : Env} {R : Room} {s : State} {m : MethodId} {args : Array Value} {below : List Frame} {meth : Method} {c : Code} {H : Heap} {locs : List Loc} {cells slots : Nat} {Q : State → Prop}
variable {mc ms : Nat} {free : Addr → Prop} {A0 A1 : Nat → Prop} {H0 : Heap} {a : Array Value} {ls : Array Slot} {st0 rest : List Value}
variable {Qc : Array Value → State → Outcome → State → Prop} {XC : String → State → State → Prop}
/-- what a body that may throw owes at its end -/
def vx_MQ (below : List Frame) (Qc : Array Value → State → Outcome → State → Prop) (XC : String → State → State → Prop) (a : Array Value) (s : State) (mc ms : Nat) (free : Addr → Prop) : State → Prop := fun t =>
  ∃ o, t.status = .running ∧ Ended t below o ∧ vx_Q Qc XC mc ms free a s o t
theorem vx_ret {g : JFrame} {mc ms : Nat} (k : W p l e R s m args below meth c H locs cells slots (MQ below Qc args s mc ms free) g) : W p l e R s m args below meth c H locs cells slots (vx_MQ below Qc XC args s mc ms free) g := by
  intro T hT X
  obtain ⟨t, a1, o, b1, b2, b3, b4⟩ := k T hT X
  exact ⟨t, a1, o, b1, b2, Or.inl ⟨b3, b4⟩⟩
/-- not caught here: it goes on to the caller -/
theorem vx_widen {g : JFrame} {q : Addr} {k n : Nat} (h1 : cells ≤ k) (h2 : slots ≤ n) (kk : vx_W p l e R s m args below meth c H locs k n Q g q) : vx_W p l e R s m args below meth c H locs cells slots Q g q := fun T hT X => kk T hT (stand_widen X h1 h2)
theorem vx_out {pc : Nat} {E : String} {ce : Cell} {q : Addr} {mc ms : Nat} (hout : ∀ x ∈ c.exceptionTable.toList, covers x pc = false) (hlocks : meth.locks = false) (hcell : H[q]? = some ce) (hv : ce.vm = .none) (hcl : s.vm.findClass E = some ce.cls)
    (hx : ∀ t : State, t.heap = H → s.vm.Alike t.vm → XC E s t) (hf : ∀ z ∈ locs, free z.base) (hc : cells ≤ mc) (hs : slots ≤ ms) :
    vx_W p l e R s m args below meth c H locs cells slots (vx_MQ below Qc XC args s mc ms free) (F0 m pc ls rest) q := by
  intro T hT X
  obtain ⟨st1, hrun, hend, hW, hsm⟩ := X.leaveThrown q (g := F0 m pc ls rest) rfl rfl rfl hout hlocks
  have hcell9 : (T.setFrames (.throwing q :: below)).heap[q]? = some ce := by
    show T.heap[q]? = some ce
    rw [hT]; exact hcell
  exact ⟨_, st1, .threw q, hrun, hend, Or.inr ⟨q, rfl, E, ce, locs, hx _ hT hW.alike, hcell9, hv, hcl, hW, hsm.mono hc hs, hf⟩⟩
theorem vx_frame {U : State} {k n : Nat} (h : s.sameButNew ({ U with vm := s.vm } : State) locs k n) : s.heap.size ≤ U.heap.size ∧ ∀ q : Nat, q < s.heap.size → (∀ z ∈ locs, z.base ≠ q) → U.heap[q]? = s.heap[q]? := by
  obtain ⟨-, h2, -, -, -, h6⟩ := h
  refine ⟨h2, fun q hq hz => ?_⟩
  obtain ⟨c9, e1, e2, e3, e4⟩ := h6 q _ (Array.getElem?_eq_getElem hq)
  have hs : c9.slots = (s.heap[q]).slots := Array.ext_getElem? fun i => e4 i fun hm => hz _ hm rfl
  have h9 : c9 = s.heap[q] := by
    rw [hs] at e2
    exact e2
  have e5 : U.heap[q]? = some c9 := e1
  rw [e5, h9, Array.getElem?_eq_getElem hq]
/-- the words of a throw but the four that speak of the heap -/
def vx_no (w : Cond) : Bool := decide (w ≠ .isRef (.static Bundle.tN "UNASSIGNED_STACK" Bundle.steD)) && decide (w ≠ .isRef (.static Bundle.tN "SUPPRESSED_SENTINEL" Bundle.listD)) && decide (w ≠ .laysStatic Bundle.tN "UNASSIGNED_STACK" Bundle.steD) && decide (w ≠ .laysStatic Bundle.tN "SUPPRESSED_SENTINEL" Bundle.listD)
def vx_at0 (own : String) (ic : Nat) (X : String) (names : List String) : List Cond := (Bundle.ownAtoms0 own ic X names).filter vx_no
def vx_atS (own : String) (ic : Nat) (X : String) (names : List String) : List Cond := (Bundle.ownAtoms own ic X names).filter vx_no
/-- a word that the tables alone decide, or a good one -/
def vx_ot (w : Cond) : Bool := w.onTables || goodWord w
theorem vx_ot_at {args a' : Array Value} {s U : State} {w : Cond} (hW : s.WarmedH U.vm) (hvm : s.vm = U.vm) (hg : vx_ot w = true) (h : w.before args s = true) : w.before a' U = true := by
  simp only [vx_ot, Bool.or_eq_true] at hg
  rcases hg with hg | hg
  · exact va_tabs hg hvm h
  · exact word_at hW (good_of_word hg) h
/-- a list's words: the good ones out of the method's own list, the others by premises of their own -/
theorem vx_hat {args : Array Value} {s : State} {L B : List Cond} (h1 : ∀ w ∈ L.filter goodWord, w.before args s = true) (h2 : ∀ w ∈ L.filter (fun w => !goodWord w), w ∈ B) (h3 : ∀ w ∈ B, w.before args s = true) : ∀ w ∈ L, w.before args s = true := by
  intro w hw
  by_cases g : goodWord w = true
  · exact h1 w (List.mem_filter.mpr ⟨hw, g⟩)
  · refine h3 w (h2 w (List.mem_filter.mpr ⟨hw, ?_⟩))
    show (!goodWord w) = true
    cases hgw : goodWord w
    · rfl
    · exact absurd hgw g
theorem vx_c {args : Array Value} {s : State} {w : Cond} {B : List Cond} (h : w.before args s = true) (t : ∀ w ∈ B, w.before args s = true) : ∀ w' ∈ w :: B, w'.before args s = true := fun w' h' => (List.mem_cons.mp h').elim (fun e => by rw [e]; exact h) (t w')
theorem vx_n {args : Array Value} {s : State} : ∀ w ∈ ([] : List Cond), w.before args s = true := fun _ h => nomatch h
theorem vx_own {args : Array Value} {s : State} {L : List Cond} (h1 : ∀ w ∈ L.filter vx_no, w.before args s = true)
    (hU : (Cond.isRef (.static Bundle.tN "UNASSIGNED_STACK" Bundle.steD)).before args s = true) (hN : (Cond.isRef (.static Bundle.tN "SUPPRESSED_SENTINEL" Bundle.listD)).before args s = true)
    (lU : (Cond.laysStatic Bundle.tN "UNASSIGNED_STACK" Bundle.steD).before args s = true) (lN : (Cond.laysStatic Bundle.tN "SUPPRESSED_SENTINEL" Bundle.listD).before args s = true) : ∀ w ∈ L, w.before args s = true := by
  intro w hw
  by_cases e1 : w = .isRef (.static Bundle.tN "UNASSIGNED_STACK" Bundle.steD)
  · rw [e1]; exact hU
  · by_cases e2 : w = .isRef (.static Bundle.tN "SUPPRESSED_SENTINEL" Bundle.listD)
    · rw [e2]; exact hN
    · by_cases e3 : w = .laysStatic Bundle.tN "UNASSIGNED_STACK" Bundle.steD
      · rw [e3]; exact lU
      · by_cases e4 : w = .laysStatic Bundle.tN "SUPPRESSED_SENTINEL" Bundle.listD
        · rw [e4]; exact lN
        · exact h1 w (List.mem_filter.mpr ⟨hw, by unfold vx_no; rw [decide_eq_true e1, decide_eq_true e2, decide_eq_true e3, decide_eq_true e4]; rfl⟩)
/-- where a static field lies, its class's statics cell in H -/
def vx_L (C n d : String) (A : Nat → Prop) (U : State) (H : Heap) : Prop := ∃ (c : ClassId) (k : Class) (i : Nat) (f : Field) (a : Nat) (cell : Cell), U.vm.findClass C = some c ∧ U.fieldFound? C n d = some (c, k, i, f) ∧ f.isStatic = true ∧ k.statics = some a ∧ H[a]? = some cell ∧ cell.vm.isStatics = true ∧ cell.cls = c ∧ f.slot < cell.slots.size ∧ k.staticTypes[f.slot]? = some f.type ∧ ¬ A a
theorem vx_L.moved {C n d : String} {A : Nat → Prop} {u U : State} {H : Heap} (hvm : u.vm.Alike U.vm) (h : vx_L C n d A u H) : vx_L C n d A U H := by
  obtain ⟨c, k, i, f, a, cell, h1, h2, h3, h4, h5, h6, h7, h8, h9, h10⟩ := h
  obtain ⟨k', hi', he⟩ := State.fieldFound?_setVm hvm h2
  exact ⟨c, k', i, f, a, cell, by rw [hvm.findClass]; exact h1, hi', h3, by rw [he]; exact h4, h5, h6, h7, h8, by rw [he]; exact h9, h10⟩
theorem vx_L.kept {C n d : String} {A : Nat → Prop} {U : State} {H H1 : Heap} (h : vx_L C n d A U H) (hq : ∀ a : Nat, a < H.size → ¬ A a → H1[a]? = H[a]?) : vx_L C n d A U H1 := by
  obtain ⟨c, k, i, f, a, cell, h1, h2, h3, h4, h5, h6, h7, h8, h9, h10⟩ := h
  exact ⟨c, k, i, f, a, cell, h1, h2, h3, h4, by rw [hq a (Array.getElem?_eq_some_iff.mp h5).1 h10]; exact h5, h6, h7, h8, h9, h10⟩
theorem vx_L.narrow {C n d : String} {A B : Nat → Prop} {U : State} {H : Heap} (h : vx_L C n d A U H) (hAB : ∀ q, B q → A q) : vx_L C n d B U H := by
  obtain ⟨c, k, i, f, a, cell, h1, h2, h3, h4, h5, h6, h7, h8, h9, h10⟩ := h
  exact ⟨c, k, i, f, a, cell, h1, h2, h3, h4, h5, h6, h7, h8, h9, fun z => h10 (hAB _ z)⟩
theorem vx_L.word {C n d : String} {A : Nat → Prop} {s : State} {args : Array Value} (h : vx_L C n d A s s.heap) : (Cond.laysStatic C n d).before args s = true := by
  obtain ⟨c, k, i, f, a, cell, h1, h2, h3, h4, h5, h6, h7, h8, h9, -⟩ := h
  show (Cond.laysStatic C n d).holds args s none s [] = true
  exact Cond.laysStatic_of h1 h2 h3 h4 h5 h6 h7 h8 h9
/-- .. and what it holds: null or some reference -/
def vx_Zq (C n d : String) (A : Nat → Prop) (U : State) (H : Heap) : Prop := va_Zq C n d A U H ∧ vx_L C n d A U H
theorem vx_Zq.moved {C n d : String} {A : Nat → Prop} {u U : State} {H : Heap} (hvm : u.vm.Alike U.vm) (h : vx_Zq C n d A u H) : vx_Zq C n d A U H := ⟨va_Zq.moved hvm h.1, vx_L.moved hvm h.2⟩
theorem vx_Zq.kept {C n d : String} {A : Nat → Prop} {U : State} {H H1 : Heap} (h : vx_Zq C n d A U H) (hq : ∀ a : Nat, a < H.size → ¬ A a → H1[a]? = H[a]?) : vx_Zq C n d A U H1 := ⟨va_Zq.kept h.1 hq, vx_L.kept h.2 hq⟩
theorem vx_Zq.narrow {C n d : String} {A B : Nat → Prop} {U : State} {H : Heap} (h : vx_Zq C n d A U H) (hAB : ∀ q, B q → A q) : vx_Zq C n d B U H := ⟨va_Zq.narrow h.1 hAB, vx_L.narrow h.2 hAB⟩
theorem vx_Zqof {args : Array Value} {s : State} {C n d : String} {A : Nat → Prop} (hl : (Cond.laysStatic C n d).before args s = true) (hini : (Cond.initialized C).before args s = true) (h : (Cond.isRef (.static C n d)).before args s = true) (hA : ∀ a : Nat, a < s.heap.size → ¬ A a) : vx_Zq C n d A s s.heap := by
  refine ⟨va_Zqof hl hini h hA, ?_⟩
  obtain ⟨c, k, i, f, a, cell, h1, h2, h3, h4, h5, h6, h7, h8, h9⟩ := Cond.laysStatic_spec hl
  exact ⟨c, k, i, f, a, cell, h1, h2, h3, h4, h5, h6, h7, h8, h9, hA a (Array.getElem?_eq_some_iff.mp h5).1⟩
theorem vx_isRef {C n d : String} {v : Value} {A : Nat → Prop} {s : State} {args : Array Value} (h : va_Z C n d v A s s.heap) (hv : v.isRef = true) : (Cond.isRef (.static C n d)).before args s = true := by
  obtain ⟨cf, kf, fi, f, a, cell, h1, h2, h3, h4, h5, h6, h7, -⟩ := h
  have he : (Term.static C n d).eval args s none [] s = some v := by
    simp [Term.eval, State.fieldNamed?, h1, h2, h4, h5, h6, h7]
  simp only [Cond.before, Cond.holds, Cond.value, he]
  cases v <;> simp_all [Value.isRef]
theorem vx_isRefq {C n d : String} {A : Nat → Prop} {s : State} {args : Array Value} (h : va_Zq C n d A s s.heap) : (Cond.isRef (.static C n d)).before args s = true := by
  rcases h with h | ⟨t, h⟩
  · exact vx_isRef h rfl
  · exact vx_isRef h rfl
/-- the same frame, seen from here: as if the method were called anew in this heap -/
theorem vx_rebase {T : State} (X : Stand p l e R s m args below meth c T locs cells slots) {R' : Room} (hf : R'.frames ≤ R.frames) (hl : R'.locals ≤ R.locals) (hc : cells + R'.cells ≤ R.cells) (hs : slots + R'.slots ≤ R.slots) :
    Stand p l e R' ((T.setVm s.vm).setFrames (.invoking m args :: below)) m args below meth c T [] 0 0 := by
  have htop : (T.setVm s.vm).topJava?.isSome := X.here.top
  have hF : ((T.setVm s.vm).setFrames (.invoking m args :: below)).frames = .invoking m args :: below := State.frames_setFrames _ (State.cur_lt_of_top htop)
  obtain ⟨g₀, hg0⟩ := Option.isSome_iff_exists.mp htop
  obtain ⟨r, hr⟩ := State.topJava?_eq_some.mp hg0
  have hl9 : e.platform.stackLimits (T.setVm s.vm).me = e.platform.stackLimits s.me := X.limits
  have hb9 : (T.setVm s.vm).me.stackBytes = s.me.stackBytes := X.bytes
  refine ⟨X.admits, X.cas, X.clock, hF, ?_, X.hears, X.method, X.code, X.here, X.tail, X.warmed, ?_, ?_, ?_⟩
  · have h := X.room
    have hU : ((T.setVm s.vm).setFrames (.invoking m args :: below)).localsInUse = s.localsInUse := by
      rw [State.localsInUse_invoking hF (meth := meth) (c := c) X.method X.code, State.localsInUse_invoking X.frames X.method X.code]
    simp only [State.hasRoom, Bool.and_eq_true, decide_eq_true_eq] at h ⊢
    obtain ⟨⟨⟨⟨h1, h2, h3, h4, h5, h6⟩, h7⟩, h8⟩, h9⟩ := h
    rw [X.frames, List.length_cons] at h2 h3
    have q1 := X.heapSize
    have q2 := X.used
    simp only [hF, hU, List.length_cons, State.stackLimits_setFrames, State.stackBytes_setFrames, hl9, hb9]
    refine ⟨⟨⟨⟨by omega, by omega, by omega, by omega, by omega, h6⟩, ?_⟩, ?_⟩, X.book⟩
    · show T.heap.size + R'.cells ≤ e.platform.maxCells
      omega
    · show T.slotsUsed + R'.slots ≤ e.platform.maxSlots
      omega
  · rw [State.stackLimits_setFrames]; rfl
  · rw [State.stackBytes_setFrames]; rfl
  · refine ⟨?_, Nat.le_refl _, Nat.le_refl _, ?_, ?_, fun a c9 h9 => ⟨c9, h9, rfl, rfl, fun _ _ => rfl⟩⟩
    · obtain ⟨t, ht, -⟩ := State.frames_cons hr
      show T.setVm s.vm = { ((T.setVm s.vm).setFrames (.invoking m args :: below)).setFrames (T.setVm s.vm).frames with heap := T.heap, slotsUsed := T.slotsUsed }
      rw [State.setFrames_setFrames, State.setFrames_self ht]
      rfl
    · show T.slotsUsed = T.slotsUsed + ((T.heap.toList.drop T.heap.size).map (·.slots.size)).sum
      rw [List.drop_eq_nil_of_le (Nat.le_of_eq Array.length_toList)]
      rfl
    · show ((T.heap.toList.drop T.heap.size).map (·.slots.size)).sum ≤ 0
      rw [List.drop_eq_nil_of_le (Nat.le_of_eq Array.length_toList)]
      exact Nat.le_refl _
/-- 'throw new E()': new; dup; invokespecial; athrow -/
theorem vx_throw0 {cc : ByteArray} {pc : Nat} (hexec : p.tables.exec = Jvm.exec) (hb : c.code = cc) (hl : l.stackTraces = false) {own cls : String} {names : List String} {ik ic mc ms : Nat} {A : Nat → Prop}
    (hown : s.vm.findClass own = some m.cls) (hcls : Bundle.fit cls = true) (hnames : ∀ n ∈ names, Bundle.fit n = true)
    (hk : (Cond.classLink own ik cls).before args s = true) (hini : (Cond.initialized cls).before args s = true) (hat : ∀ w ∈ vx_at0 own ic cls names, w.before args s = true)
    (hgood : ∀ w ∈ Cond.classLink own ik cls :: Cond.initialized cls :: vx_at0 own ic cls names, vx_ot w = true)
    (hU : vx_Zq Bundle.tN "UNASSIGNED_STACK" Bundle.steD A s s.heap) (hN : vx_Zq Bundle.tN "SUPPRESSED_SENTINEL" Bundle.listD A s s.heap) (hS : va_S A s.heap H locs) (hsize : ls.size = c.maxLocals)
    (d0 : decode cc pc = .ok (.new ik, 3)) (d3 : decode cc (pc + 3) = .ok (.dup, 1)) (d4 : decode cc (pc + 4) = .ok (.invokespecial ic, 3)) (d7 : decode cc (pc + 7) = .ok (.athrow, 1))
    (hout : ∀ x ∈ c.exceptionTable.toList, covers x (pc + 7) = false)
    (hRframes : names.length + 3 < R.frames) (hRlocals : (rest.map fun v => v.category).sum + (13 * (names.length + 1) + 42) ≤ R.locals) (hRcells : cells + 1 ≤ R.cells) (hRslots : slots + 6 ≤ R.slots) (hlocks : meth.locks = false)
    (hx : ∀ t : State, s.vm.Alike t.vm → H.size ≤ t.heap.size → (∀ q : Nat, q < H.size → t.heap[q]? = H[q]?) → XC cls s t)
    (hf : ∀ z ∈ locs, free z.base) (hc : cells + 1 ≤ mc) (hs : slots + 6 ≤ ms) :
    W p l e R s m args below meth c H locs cells slots (vx_MQ below Qc XC args s mc ms free) (F0 m pc ls rest) := by
  intro T hT X
  have htr : e.platform.stackTraces = false := (show e.platform.stackTraces = l.stackTraces by rw [X.admits.platform]).trans hl
  have Y := vx_rebase X (R' := { frames := R.frames, locals := R.locals, cells := 1, slots := 6 }) (Nat.le_refl _) (Nat.le_refl _) hRcells hRslots
  obtain ⟨s', hA⟩ : ∃ z, z = (T.setVm s.vm).setFrames (.invoking m args :: below) := ⟨_, rfl⟩
  rw [← hA] at Y
  have hvm : s'.vm = s.vm := by rw [hA]; rfl
  have hhp : s'.heap = H := by rw [hA]; exact hT
  have hW0 : s.WarmedH s'.vm := by rw [hvm]; exact State.WarmedH.refl s
  have hat' : ∀ w ∈ vx_at0 own ic cls names, w.before args s' = true := fun w hw => vx_ot_at hW0 hvm.symm (hgood w (List.mem_cons_of_mem _ (List.mem_cons_of_mem _ hw))) (hat w hw)
  have hk' : (Cond.classLink own ik cls).before args s' = true := vx_ot_at hW0 hvm.symm (hgood _ List.mem_cons_self) hk
  have hini' : (Cond.initialized cls).before args s' = true := vx_ot_at hW0 hvm.symm (hgood _ (List.mem_cons_of_mem _ List.mem_cons_self)) hini
  have hU' : vx_Zq Bundle.tN "UNASSIGNED_STACK" Bundle.steD A s' s'.heap := by rw [hhp]; exact vx_Zq.moved hW0.alike (hU.kept hS.2.1)
  have hN' : vx_Zq Bundle.tN "SUPPRESSED_SENTINEL" Bundle.listD A s' s'.heap := by rw [hhp]; exact vx_Zq.moved hW0.alike (hN.kept hS.2.1)
  have h : ∀ w ∈ Bundle.ownAtoms0 own ic cls names, w.before args s' = true := vx_own hat' (vx_isRefq hU'.1) (vx_isRefq hN'.1) hU'.2.word hN'.2.word
  have hown' : s'.vm.findClass own = some m.cls := by rw [hvm]; exact hown
  have hins : (Cond.instantiable cls 6).before args s' = true := h _ (by simp [Bundle.ownAtoms0])
  obtain ⟨vm₁, cX, kX, hfX, hkX, -, -, X₁, st1⟩ := Y.newCold hexec (own := own) (C := cls) (index := ik) (n := 6) hown' hk' hins hini'
    (g := F0 m pc ls rest) rfl (by rw [hb]; exact d0) (Nat.le_refl _) (Nat.le_refl _)
  generalize hT1 : (T.setVm vm₁).pushCell { cls := cX, slots := kX.instanceTypes.map defaultValue, vm := .none } = T1 at X₁ st1
  have hcat : (Value.ref T.heap.size).category = 1 := rfl
  have hcellA : T1.heap[T.heap.size]? = some (freshCell cX kX) := by rw [← hT1]; exact State.heap_pushCell_size _ _
  have d3' : decode c.code (pc + 3) = .ok (.dup, 1) := by rw [hb]; exact d3
  obtain ⟨U, hsteps, hrun, hend, hW, hsame, ce, hce, hO⟩ := X₁.ctorThrow0 hexec htr (own := own) (cls := cls) (names := names) (ic := ic) hown' hcls hnames h (fun x hx => nomatch hx) hfX hkX hcellA (by rw [hhp, hT]; exact Nat.le_refl _)
    (g := { method := m, pc := pc + 4, locals := ls, stack := .ref T.heap.size :: .ref T.heap.size :: rest, locked := none }) rfl hsize rfl rfl (rest := rest) rfl
    (by rw [hb]; exact d4) (by rw [hb]; exact d7) hout hRframes (by simp only [List.map_cons, List.sum_cons, hcat]; omega) hlocks
  obtain ⟨f1, f2⟩ := vx_frame hsame
  rw [hhp] at f1 f2
  have hWs : s.WarmedH U.vm := State.WarmedH.trans hW0 hW
  have hcl : s.vm.findClass cls = some ce.cls := by
    have h9 := hO.cls
    rw [hvm] at h9
    exact h9
  have hall : s.sameButNew ({ U with vm := s.vm } : State) locs mc ms := by
    subst hA
    obtain ⟨e1, e2⟩ := hsame
    rw [State.setFrames_setFrames] at e1
    have h2 : (T.setVm s.vm).sameButNew ({ U with vm := s.vm } : State) [] (0 + 1) (0 + 6) := ⟨e1, e2⟩
    have h3 := X.same.trans h2
    rw [List.append_nil] at h3
    exact h3.mono hc hs
  refine ⟨U, ?_, .threw T.heap.size, hrun, hend, Or.inr ⟨T.heap.size, rfl, cls, ce, locs, hx U hWs.alike f1 (fun q hq => f2 q hq (fun z hz => nomatch hz)), hce, hO.vm, hcl, hWs, hall, hf⟩⟩
  refine st1 _ ?_
  show Steps p.tables e below (T1.setTop { method := m, pc := pc + 3, locals := ls, stack := .ref T.heap.size :: rest, locked := none }) _
  jvm_step X₁.here [X₁.here.top, hexec, d3', Value.category]
  exact hsteps
/-- 'throw new E("text")': new; dup; ldc; invokespecial; athrow -/
theorem vx_throwS {cc : ByteArray} {pc : Nat} (hexec : p.tables.exec = Jvm.exec) (hb : c.code = cc) (hl : l.stackTraces = false) {own cls text : String} {names : List String} {ik is ic mc ms sa : Nat} {A : Nat → Prop}
    (hown : s.vm.findClass own = some m.cls) (hcls : Bundle.fit cls = true) (hnames : ∀ n ∈ names, Bundle.fit n = true)
    (hk : (Cond.classLink own ik cls).before args s = true) (hini : (Cond.initialized cls).before args s = true) (hstr : vk_R own is text sa s) (hat : ∀ w ∈ vx_atS own ic cls names, w.before args s = true)
    (hgood : ∀ w ∈ Cond.classLink own ik cls :: Cond.initialized cls :: vx_atS own ic cls names, vx_ot w = true)
    (hU : vx_Zq Bundle.tN "UNASSIGNED_STACK" Bundle.steD A s s.heap) (hN : vx_Zq Bundle.tN "SUPPRESSED_SENTINEL" Bundle.listD A s s.heap) (hS : va_S A s.heap H locs) (hsize : ls.size = c.maxLocals)
    (d0 : decode cc pc = .ok (.new ik, 3)) (d3 : decode cc (pc + 3) = .ok (.dup, 1)) (d4 : decode cc (pc + 4) = .ok (.ldc is, 2)) (d6 : decode cc (pc + 6) = .ok (.invokespecial ic, 3)) (d9 : decode cc (pc + 9) = .ok (.athrow, 1))
    (hout : ∀ x ∈ c.exceptionTable.toList, covers x (pc + 9) = false)
    (hRframes : names.length + 3 < R.frames) (hRlocals : (rest.map fun v => v.category).sum + (13 * (names.length + 1) + 43) ≤ R.locals) (hRcells : cells + 1 ≤ R.cells) (hRslots : slots + 6 ≤ R.slots) (hlocks : meth.locks = false)
    (hx : ∀ t : State, s.vm.Alike t.vm → H.size ≤ t.heap.size → (∀ q : Nat, q < H.size → t.heap[q]? = H[q]?) → XC cls s t)
    (hf : ∀ z ∈ locs, free z.base) (hc : cells + 1 ≤ mc) (hs : slots + 6 ≤ ms) :
    W p l e R s m args below meth c H locs cells slots (vx_MQ below Qc XC args s mc ms free) (F0 m pc ls rest) := by
  intro T hT X
  have htr : e.platform.stackTraces = false := (show e.platform.stackTraces = l.stackTraces by rw [X.admits.platform]).trans hl
  have Y := vx_rebase X (R' := { frames := R.frames, locals := R.locals, cells := 1, slots := 6 }) (Nat.le_refl _) (Nat.le_refl _) hRcells hRslots
  obtain ⟨s', hA⟩ : ∃ z, z = (T.setVm s.vm).setFrames (.invoking m args :: below) := ⟨_, rfl⟩
  rw [← hA] at Y
  have hvm : s'.vm = s.vm := by rw [hA]; rfl
  have hhp : s'.heap = H := by rw [hA]; exact hT
  have hW0 : s.WarmedH s'.vm := by rw [hvm]; exact State.WarmedH.refl s
  have hat' : ∀ w ∈ vx_atS own ic cls names, w.before args s' = true := fun w hw => vx_ot_at hW0 hvm.symm (hgood w (List.mem_cons_of_mem _ (List.mem_cons_of_mem _ hw))) (hat w hw)
  have hk' : (Cond.classLink own ik cls).before args s' = true := vx_ot_at hW0 hvm.symm (hgood _ List.mem_cons_self) hk
  have hini' : (Cond.initialized cls).before args s' = true := vx_ot_at hW0 hvm.symm (hgood _ (List.mem_cons_of_mem _ List.mem_cons_self)) hini
  have hU' : vx_Zq Bundle.tN "UNASSIGNED_STACK" Bundle.steD A s' s'.heap := by rw [hhp]; exact vx_Zq.moved hW0.alike (hU.kept hS.2.1)
  have hN' : vx_Zq Bundle.tN "SUPPRESSED_SENTINEL" Bundle.listD A s' s'.heap := by rw [hhp]; exact vx_Zq.moved hW0.alike (hN.kept hS.2.1)
  have h : ∀ w ∈ Bundle.ownAtoms own ic cls names, w.before args s' = true := vx_own hat' (vx_isRefq hU'.1) (vx_isRefq hN'.1) hU'.2.word hN'.2.word
  have hown' : s'.vm.findClass own = some m.cls := by rw [hvm]; exact hown
  have hins : (Cond.instantiable cls 6).before args s' = true := h _ (by simp [Bundle.ownAtoms])
  obtain ⟨vm₁, cX, kX, hfX, hkX, -, -, X₁, st1⟩ := Y.newCold hexec (own := own) (C := cls) (index := ik) (n := 6) hown' hk' hins hini'
    (g := F0 m pc ls rest) rfl (by rw [hb]; exact d0) (Nat.le_refl _) (Nat.le_refl _)
  generalize hT1 : (T.setVm vm₁).pushCell { cls := cX, slots := kX.instanceTypes.map defaultValue, vm := .none } = T1 at X₁ st1
  have hcat : (Value.ref T.heap.size).category = 1 := rfl
  have hcellA : T1.heap[T.heap.size]? = some (freshCell cX kX) := by rw [← hT1]; exact State.heap_pushCell_size _ _
  have d3' : decode c.code (pc + 3) = .ok (.dup, 1) := by rw [hb]; exact d3
  have d4' : decode c.code (pc + 4) = .ok (.ldc is, 2) := by rw [hb]; exact d4
  have hstr' : vk_R own is text sa s' := vk_R.warm hW0 hstr
  obtain ⟨U, hsteps, hrun, hend, hW, hsame, ce, hce, hO⟩ := X₁.ctorThrowS hexec htr (own := own) (cls := cls) (names := names) (ic := ic) hown' hcls hnames h (fun x hx => nomatch hx) hfX hkX hcellA (by rw [hhp, hT]; exact Nat.le_refl _) (msg := .ref sa) rfl
    (g := { method := m, pc := pc + 6, locals := ls, stack := .ref sa :: .ref T.heap.size :: .ref T.heap.size :: rest, locked := none }) rfl hsize rfl rfl (rest := rest) rfl
    (by rw [hb]; exact d6) (by rw [hb]; exact d9) hout hRframes (by simp only [List.map_cons, List.sum_cons, hcat]; omega) hlocks
  obtain ⟨f1, f2⟩ := vx_frame hsame
  rw [hhp] at f1 f2
  have hWs : s.WarmedH U.vm := State.WarmedH.trans hW0 hW
  have hcl : s.vm.findClass cls = some ce.cls := by
    have h9 := hO.cls
    rw [hvm] at h9
    exact h9
  have hall : s.sameButNew ({ U with vm := s.vm } : State) locs mc ms := by
    subst hA
    obtain ⟨e1, e2⟩ := hsame
    rw [State.setFrames_setFrames] at e1
    have h2 : (T.setVm s.vm).sameButNew ({ U with vm := s.vm } : State) [] (0 + 1) (0 + 6) := ⟨e1, e2⟩
    have h3 := X.same.trans h2
    rw [List.append_nil] at h3
    exact h3.mono hc hs
  refine ⟨U, ?_, .threw T.heap.size, hrun, hend, Or.inr ⟨T.heap.size, rfl, cls, ce, locs, hx U hWs.alike f1 (fun q hq => f2 q hq (fun z hz => nomatch hz)), hce, hO.vm, hcl, hWs, hall, hf⟩⟩
  refine st1 _ ?_
  show Steps p.tables e below (T1.setTop { method := m, pc := pc + 3, locals := ls, stack := .ref T.heap.size :: rest, locked := none }) _
  jvm_step X₁.here [X₁.here.top, hexec, d3', Value.category]
  exact X₁.ldcString hexec (own := own) (text := text) (index := is) (a := sa) hown' hstr'.1 hstr'.2
    (g := { method := m, pc := pc + 4, locals := ls, stack := .ref T.heap.size :: .ref T.heap.size :: rest, locked := none }) rfl d4' _ hsteps
/-- 'throw new E("text")', the text by a wide index -/
theorem vx_throwSW {cc : ByteArray} {pc : Nat} (hexec : p.tables.exec = Jvm.exec) (hb : c.code = cc) (hl : l.stackTraces = false) {own cls text : String} {names : List String} {ik is ic mc ms sa : Nat} {A : Nat → Prop}
    (hown : s.vm.findClass own = some m.cls) (hcls : Bundle.fit cls = true) (hnames : ∀ n ∈ names, Bundle.fit n = true)
    (hk : (Cond.classLink own ik cls).before args s = true) (hini : (Cond.initialized cls).before args s = true) (hstr : vk_R own is text sa s) (hat : ∀ w ∈ vx_atS own ic cls names, w.before args s = true)
    (hgood : ∀ w ∈ Cond.classLink own ik cls :: Cond.initialized cls :: vx_atS own ic cls names, vx_ot w = true)
    (hU : vx_Zq Bundle.tN "UNASSIGNED_STACK" Bundle.steD A s s.heap) (hN : vx_Zq Bundle.tN "SUPPRESSED_SENTINEL" Bundle.listD A s s.heap) (hS : va_S A s.heap H locs) (hsize : ls.size = c.maxLocals)
    (d0 : decode cc pc = .ok (.new ik, 3)) (d3 : decode cc (pc + 3) = .ok (.dup, 1)) (d4 : decode cc (pc + 4) = .ok (.ldc_w is, 3)) (d7 : decode cc (pc + 7) = .ok (.invokespecial ic, 3)) (d10 : decode cc (pc + 10) = .ok (.athrow, 1))
    (hout : ∀ x ∈ c.exceptionTable.toList, covers x (pc + 10) = false)
    (hRframes : names.length + 3 < R.frames) (hRlocals : (rest.map fun v => v.category).sum + (13 * (names.length + 1) + 43) ≤ R.locals) (hRcells : cells + 1 ≤ R.cells) (hRslots : slots + 6 ≤ R.slots) (hlocks : meth.locks = false)
    (hx : ∀ t : State, s.vm.Alike t.vm → H.size ≤ t.heap.size → (∀ q : Nat, q < H.size → t.heap[q]? = H[q]?) → XC cls s t)
    (hf : ∀ z ∈ locs, free z.base) (hc : cells + 1 ≤ mc) (hs : slots + 6 ≤ ms) :
    W p l e R s m args below meth c H locs cells slots (vx_MQ below Qc XC args s mc ms free) (F0 m pc ls rest) := by
  intro T hT X
  have htr : e.platform.stackTraces = false := (show e.platform.stackTraces = l.stackTraces by rw [X.admits.platform]).trans hl
  have Y := vx_rebase X (R' := { frames := R.frames, locals := R.locals, cells := 1, slots := 6 }) (Nat.le_refl _) (Nat.le_refl _) hRcells hRslots
  obtain ⟨s', hA⟩ : ∃ z, z = (T.setVm s.vm).setFrames (.invoking m args :: below) := ⟨_, rfl⟩
  rw [← hA] at Y
  have hvm : s'.vm = s.vm := by rw [hA]; rfl
  have hhp : s'.heap = H := by rw [hA]; exact hT
  have hW0 : s.WarmedH s'.vm := by rw [hvm]; exact State.WarmedH.refl s
  have hat' : ∀ w ∈ vx_atS own ic cls names, w.before args s' = true := fun w hw => vx_ot_at hW0 hvm.symm (hgood w (List.mem_cons_of_mem _ (List.mem_cons_of_mem _ hw))) (hat w hw)
  have hk' : (Cond.classLink own ik cls).before args s' = true := vx_ot_at hW0 hvm.symm (hgood _ List.mem_cons_self) hk
  have hini' : (Cond.initialized cls).before args s' = true := vx_ot_at hW0 hvm.symm (hgood _ (List.mem_cons_of_mem _ List.mem_cons_self)) hini
  have hU' : vx_Zq Bundle.tN "UNASSIGNED_STACK" Bundle.steD A s' s'.heap := by rw [hhp]; exact vx_Zq.moved hW0.alike (hU.kept hS.2.1)
  have hN' : vx_Zq Bundle.tN "SUPPRESSED_SENTINEL" Bundle.listD A s' s'.heap := by rw [hhp]; exact vx_Zq.moved hW0.alike (hN.kept hS.2.1)
  have h : ∀ w ∈ Bundle.ownAtoms own ic cls names, w.before args s' = true := vx_own hat' (vx_isRefq hU'.1) (vx_isRefq hN'.1) hU'.2.word hN'.2.word
  have hown' : s'.vm.findClass own = some m.cls := by rw [hvm]; exact hown
  have hins : (Cond.instantiable cls 6).before args s' = true := h _ (by simp [Bundle.ownAtoms])
  obtain ⟨vm₁, cX, kX, hfX, hkX, -, -, X₁, st1⟩ := Y.newCold hexec (own := own) (C := cls) (index := ik) (n := 6) hown' hk' hins hini'
    (g := F0 m pc ls rest) rfl (by rw [hb]; exact d0) (Nat.le_refl _) (Nat.le_refl _)
  generalize hT1 : (T.setVm vm₁).pushCell { cls := cX, slots := kX.instanceTypes.map defaultValue, vm := .none } = T1 at X₁ st1
  have hcat : (Value.ref T.heap.size).category = 1 := rfl
  have hcellA : T1.heap[T.heap.size]? = some (freshCell cX kX) := by rw [← hT1]; exact State.heap_pushCell_size _ _
  have d3' : decode c.code (pc + 3) = .ok (.dup, 1) := by rw [hb]; exact d3
  have d4' : decode c.code (pc + 4) = .ok (.ldc_w is, 3) := by rw [hb]; exact d4
  have hstr' : vk_R own is text sa s' := vk_R.warm hW0 hstr
  obtain ⟨U, hsteps, hrun, hend, hW, hsame, ce, hce, hO⟩ := X₁.ctorThrowS hexec htr (own := own) (cls := cls) (names := names) (ic := ic) hown' hcls hnames h (fun x hx => nomatch hx) hfX hkX hcellA (by rw [hhp, hT]; exact Nat.le_refl _) (msg := .ref sa) rfl
    (g := { method := m, pc := pc + 7, locals := ls, stack := .ref sa :: .ref T.heap.size :: .ref T.heap.size :: rest, locked := none }) rfl hsize rfl rfl (rest := rest) rfl
    (by rw [hb]; exact d7) (by rw [hb]; exact d10) hout hRframes (by simp only [List.map_cons, List.sum_cons, hcat]; omega) hlocks
  obtain ⟨f1, f2⟩ := vx_frame hsame
  rw [hhp] at f1 f2
  have hWs : s.WarmedH U.vm := State.WarmedH.trans hW0 hW
  have hcl : s.vm.findClass cls = some ce.cls := by
    have h9 := hO.cls
    rw [hvm] at h9
    exact h9
  have hall : s.sameButNew ({ U with vm := s.vm } : State) locs mc ms := by
    subst hA
    obtain ⟨e1, e2⟩ := hsame
    rw [State.setFrames_setFrames] at e1
    have h2 : (T.setVm s.vm).sameButNew ({ U with vm := s.vm } : State) [] (0 + 1) (0 + 6) := ⟨e1, e2⟩
    have h3 := X.same.trans h2
    rw [List.append_nil] at h3
    exact h3.mono hc hs
  refine ⟨U, ?_, .threw T.heap.size, hrun, hend, Or.inr ⟨T.heap.size, rfl, cls, ce, locs, hx U hWs.alike f1 (fun q hq => f2 q hq (fun z hz => nomatch hz)), hce, hO.vm, hcl, hWs, hall, hf⟩⟩
  refine st1 _ ?_
  show Steps p.tables e below (T1.setTop { method := m, pc := pc + 3, locals := ls, stack := .ref T.heap.size :: rest, locked := none }) _
  jvm_step X₁.here [X₁.here.top, hexec, d3', Value.category]
  exact X₁.ldcStringW hexec (own := own) (text := text) (index := is) (a := sa) hown' hstr'.1 hstr'.2
    (g := { method := m, pc := pc + 4, locals := ls, stack := .ref T.heap.size :: .ref T.heap.size :: rest, locked := none }) rfl d4' _ hsteps
end Ends
section Bodies
variable {l : Launch}
theorem vx_ofW {y : MethodName} {ws ws' : List Cond} {rm : Room} {Pc : Array Value → State → Prop} {Qc : Array Value → State → Outcome → State → Prop} {XC : String → State → State → Prop} {mc ms : Nat} {free : Addr → Prop} {cc : ByteArray} {maxL : Nat} {ret : Option FieldType}
    (hy : plainName y.cls = true) (hw : ws = Cond.code y cc maxL ret :: ws')
    (body : ∀ p e s m args below meth c s₁, BodyLoose p l y (headSpec ws rm) cc maxL ret e s m args below meth c s₁ → c.maxLocals = maxL → (∀ x ∈ c.exceptionTable.toList, False) → Pc args s →
      W p l e (headSpec ws rm).room s m args below meth c s.heap [] 0 0 (vx_MQ below Qc XC args s mc ms free) (entryFrame m args maxL)) : vx_Met l y ws rm Pc Qc XC mc ms free := by
  refine MetFree.of_bodyS (code := cc) (maxLocals := maxL) (ret := ret) hy ?_ ?_
  · intro args s m h hn
    obtain ⟨meth, c, h1, h2, h3, h4, h5, h6, -, -⟩ := Cond.code_spec hn (atoms_spec (ws := ws) h _ (by rw [hw]; exact List.mem_cons_self))
    exact ⟨meth, c, h1, h2, h3, h4, h5, h6⟩
  · intro p e s m args below meth c s₁ B hml hP _
    have hh0 : s₁.heap = s.heap := by rw [B.state]; rfl
    have ht : ∀ x ∈ c.exceptionTable.toList, False := by
      obtain ⟨meth9, c9, h1, h2, -, -, -, -, h7, -⟩ := Cond.code_spec B.named (atoms_spec (ws := ws) B.pre _ (by rw [hw]; exact List.mem_cons_self))
      cases Option.some.inj (h1.symm.trans B.method)
      cases Option.some.inj (h2.symm.trans (Stand.of_body B).code)
      intro x hx
      rw [Array.isEmpty_iff.mp h7] at hx
      cases hx
    obtain ⟨t, a1, o, b1, b2, b3⟩ := body p e s m args below meth c s₁ B hml ht hP s₁ hh0 (Stand.of_body B)
    exact ⟨t, o, a1, b1, b2, b3⟩
/-- the table of a body with handlers -/
theorem vx_table {p : Program} {x y : MethodName} {S : Spec} {cc bytes : ByteArray} {maxL maxL' : Nat} {ret ret' : Option FieldType} {e : Env} {s s₁ : State} {m : MethodId} {args : Array Value} {below : List Frame} {meth : Method} {c : Code} {hh : List (Nat × Nat × Nat × Nat)}
    (B : BodyLoose p l y S cc maxL ret e s m args below meth c s₁) (h : (Cond.codeWith y bytes maxL' ret' hh).before args s = true) : c.exceptionTable.toList = tableOf hh := by
  obtain ⟨m9, meth9, c9, hn9, h1, h2, -, -, h6, -⟩ := Cond.codeWith_spec h
  cases Option.some.inj (hn9.symm.trans B.named)
  cases Option.some.inj (h1.symm.trans B.method)
  cases Option.some.inj (h2.symm.trans (Stand.of_body B).code)
  rw [← h6, table_eq]
end Bodies
end VXA
/-! ===== END ===== -/
/-! ===== BEGIN a static call of a method with an exception table ===== -/
section VXS
variable {p : Program} {l : Launch} {e : Env} {R : Room} {s : State} {m : MethodId} {args : Array Value} {below : List Frame} {meth : Method} {c : Code} {T : State} {H : Heap} {locs : List Loc} {cells slots : Nat}
abbrev vx_CSW (R : Room) (s : State) (args : Array Value) (own : String) (index : Nat) (y : MethodName) (bytes : ByteArray) (maxL : Nat) (ret : Option FieldType) (hh : List (Nat × Nat × Nat × Nat)) (ws : List Cond) (rm : Room) (mc ms n : Nat) : Prop :=
  (rm.cells = mc ∧ rm.slots = ms ∧ rm.frames + 1 ≤ R.frames ∧ 8 + (maxL + 11) + rm.locals ≤ R.locals ∧ (∀ w ∈ ws, ∀ (a' : Array Value) (U : State), s.WarmedH U.vm → w.before a' U = true) ∧ Cond.codeWith y bytes maxL ret hh ∈ ws) ∧
  (Cond.codeWith y bytes maxL ret hh).before args s = true ∧ (Cond.initialized y.cls).before args s = true ∧ (y.cls ≠ "java/lang/invoke/MethodHandle" ∧ y.cls ≠ "java/lang/invoke/VarHandle") ∧
  (∀ sig, parseMethodDescriptor y.desc = some sig → n = sig.parameters.length) ∧ (Cond.methodLink own index y).before args s = true ∧ (Cond.static y).before args s = true
theorem vx_cwSW {own : String} {index maxL mc ms : Nat} {y : MethodName} {bytes : ByteArray} {ret : Option FieldType} {hh : List (Nat × Nat × Nat × Nat)} {Ts ws ws' : List Cond} {rm : Room} (n : Nat) (ht : ∀ w ∈ Ts, w.before args s = true) (hT : GoodIn Ts (va_wsS own index y ws)) (hw : ws = Cond.codeWith y bytes maxL ret hh :: ws') (hrc : rm.cells = mc) (hrs : rm.slots = ms)
    (hd : y.cls ≠ "java/lang/invoke/MethodHandle" ∧ y.cls ≠ "java/lang/invoke/VarHandle" ∧ (parseMethodDescriptor y.desc).map (fun d => d.parameters.length) = some n) (hR : rm.frames + 1 ≤ R.frames ∧ 8 + (maxL + 11) + rm.locals ≤ R.locals) :
    vx_CSW R s args own index y bytes maxL ret hh ws rm mc ms n := by
  have ok : ∀ w ∈ va_wsS own index y ws, w.before args s = true := fun w h => ht w (hT w h).1
  have hG : GoodIn Ts ws := fun w h => hT w (by unfold va_wsS; exact List.mem_append_right _ h)
  have hc : Cond.codeWith y bytes maxL ret hh ∈ ws := by rw [hw]; exact List.mem_cons_self
  refine ⟨⟨hrc, hrs, hR.1, hR.2, pay_in ht hG, hc⟩, ht _ (hG _ hc).1, ok _ (by simp [va_wsS]), ⟨hd.1, hd.2.1⟩, fun sig h => ?_, ok _ (by simp [va_wsS]), ok _ (by simp [va_wsS])⟩
  have h2 := hd.2.2
  rw [h] at h2
  exact (Option.some.inj h2).symm
theorem vx_callSW (X : Stand p l e R s m args below meth c T locs cells slots) (hexec : p.tables.exec = Jvm.exec) {own : String} {index : Nat} {y : MethodName} {bytes : ByteArray} {maxL : Nat} {ret : Option FieldType} {hh : List (Nat × Nat × Nat × Nat)}
    (hown : s.vm.findClass own = some m.cls) (hlink : (Cond.methodLink own index y).before args s = true) (hstat : (Cond.static y).before args s = true) (hinit : (Cond.initialized y.cls).before args s = true)
    (hcode : (Cond.codeWith y bytes maxL ret hh).before args s = true) (hy : y.cls ≠ "java/lang/invoke/MethodHandle" ∧ y.cls ≠ "java/lang/invoke/VarHandle")
    {W9 : Nat} {Pre : Pt → Array Value → Prop} {Post : Pt → Array Value → Option Value → Pt → Prop} (hK : Back l R p e below s args y 3 W9 Pre Post)
    {g : JFrame} (hg : g.method = m) (hsize : g.locals.size = c.maxLocals) {argsL rest : List Value} (hlen : ∀ sig, parseMethodDescriptor y.desc = some sig → argsL.length = sig.parameters.length)
    (hstack : g.stack = argsL.reverse ++ rest) (hW : 2 * g.monitorRoom + (rest.map fun v => v.category).sum ≤ W9) (hdg : decode c.code g.pc = .ok (.invokestatic index, 3))
    (hpre : ∀ vm₁, s.WarmedH vm₁ → Pre ⟨T.setVm vm₁, locs, cells, slots⟩ argsL.toArray) :
    ∃ (v : Option Value) (vm₁ : Vm) (B : Pt), s.WarmedH vm₁ ∧ Stand p l e R s m args below meth c B.U B.locs B.cells B.slots ∧ Post ⟨T.setVm vm₁, locs, cells, slots⟩ argsL.toArray v B ∧
      ∀ target, Steps p.tables e below (B.U.setTop { g with pc := g.pc + 3, stack := v.toList ++ rest }) target → Steps p.tables e below (T.setTop g) target := by
  obtain ⟨mk, methM, cM, hnamed, hmethM, -, -, -, -, -, -, hsigM⟩ := Cond.codeWith_spec hcode
  have hstatic : methM.isStatic = true := Cond.static_spec hnamed hmethM hstat
  obtain ⟨kP, hkP, -⟩ := className_of_methodNamed hnamed
  have hinitP : kP.init = .initialized := Cond.initialized_spec (findClass_of_methodNamed hnamed) hkP hinit
  obtain ⟨vm₁, X₁, hstep₁⟩ := X.invokestatic hexec hown hlink hnamed hmethM hstatic hkP hinitP hy (g := g) hg (argsL := argsL) (rest := rest) (hlen _ hsigM) hstack hdg
  obtain ⟨v, B, X', hpost, hsteps⟩ := hK m meth c ⟨T.setVm vm₁, locs, cells, slots⟩ { g with stack := rest } (.invokestatic index) mk argsL.toArray X₁ hg hsize hdg hW (X₁.named hnamed) (hpre vm₁ X₁.warmed)
  exact ⟨v, vm₁, B, X₁.warmed, X', hpost, fun target h => hstep₁ _ fun acts => by rw [doInvoke_state]; exact hsteps.trans h⟩
theorem vx_runSW {y : MethodName} {bytes cc : ByteArray} {maxL nL mc ms n index : Nat} {ret : Option FieldType} {hh : List (Nat × Nat × Nat × Nat)} {ws : List Cond} {rm : Room} {Pc : Array Value → State → Prop} {Qc : Array Value → State → Outcome → State → Prop} {free : Addr → Prop} {Ts : List Cond} {own : String} {As rest : List Value} {g : JFrame}
    (S : CallFix p m c cc nL s args Ts own) (hM : Met l y ws rm Pc Qc mc ms free) (cw : vx_CSW R s args own index y bytes maxL ret hh ws rm mc ms n) (hp : PreS s H Pc As)
    (hg : g.method = m) (hn : As.length = n) (hsize : g.locals.size = nL) (hstack : g.stack = As.reverse ++ rest) (hW : 2 * g.monitorRoom + (rest.map fun v => v.category).sum ≤ 8) (hdg : decode cc g.pc = .ok (.invokestatic index, 3)) (hf : cells + mc ≤ R.cells ∧ slots + ms ≤ R.slots) :
    va_Run p l e R s m args below meth c H locs cells slots mc ms g rest (Qc As.toArray) (free) := by
  obtain ⟨⟨hrc, hrs, hfr, hlo, hws, hcw⟩, hcode, hini, hy, hlen, hl, hstt⟩ := cw
  have hK : Back l R p e below s args y 3 8 (PreOf R mc ms Pc) (PostOf Qc mc ms free) := va_backW (hh := hh) (bytes := bytes) (maxL := maxL) (ret := ret) hM hp.1 hrc hrs hfr hlo hws hcw (fun a' U hW => word_at hW (Or.inl (by first | rfl | simp [Cond.onTables, Cond.keeps, Cond.steady])) hini)
  obtain ⟨hx, hb, hml, ho, -⟩ := S
  intro T hT X
  obtain ⟨v, vm₁, ⟨U', l2, c2, s2⟩, hW₁, X', ⟨g', mk, t, L, e1, e2, hq, h1, hL, h2, h3⟩, st⟩ := vx_callSW X hx (hh := hh) (bytes := bytes) (maxL := maxL) (ret := ret) ho hl hstt hini hcode hy hK hg (hsize.trans hml.symm) (argsL := As) (rest := rest) (fun sig h => hn.trans (hlen sig h)) hstack hW (by rw [hb]; exact hdg)
    (fun vm₁ hW₁ => ⟨hf.1, hf.2, hp.2 (T.setVm vm₁) hT hW₁⟩)
  dsimp only [Pt.U, Pt.locs, Pt.cells, Pt.slots] at X' e1 e2 h1 h2 h3 st
  subst h1; subst h2; subst h3
  exact ⟨v, (T.setVm vm₁).calling g' mk As.toArray, t, U', L, hT, X', hL, e1, e2, hq, st⟩
/-- not caught here, past rows that name other classes: it goes on to the caller -/
theorem vx_outP {p : Program} {l : Launch} {e : Env} {R : Room} {s : State} {m : MethodId} {args : Array Value} {below : List Frame} {meth : Method} {c : Code} {H : Heap} {locs : List Loc} {cells slots : Nat} {free : Addr → Prop} {ls : Array Slot} {rest : List Value} {Qc : Array Value → State → Outcome → State → Prop} {XC : String → State → State → Prop}
    {pc : Nat} {own E : String} {ce : Cell} {q : Addr} {mc ms : Nat} (hown : s.vm.findClass own = some m.cls) (hlocks : meth.locks = false)
    (hpass : ∀ z ∈ c.exceptionTable.toList, covers z pc = false ∨ (z.catchType ≠ 0 ∧ ∃ nm : String, (Cond.classLink own z.catchType nm).before args s = true ∧ va_Nc E nm s)) (hcell : H[q]? = some ce) (hv : ce.vm = .none) (hcl : s.vm.findClass E = some ce.cls)
    (hx : ∀ t : State, t.heap = H → s.vm.Alike t.vm → XC E s t) (hf : ∀ z ∈ locs, free z.base) (hc : cells ≤ mc) (hs : slots ≤ ms) :
    vx_W p l e R s m args below meth c H locs cells slots (vx_MQ below Qc XC args s mc ms free) (F0 m pc ls rest) q := by
  intro T hT X
  have hpl : e.platform.magicAccessors = ({} : Platform).magicAccessors := by rw [X.admits.platform]
  obtain ⟨vm', hW', X', st⟩ := Jvm.Stand.outThrough X hlocks q (g := F0 m pc ls rest) rfl rfl rfl (cell := ce) (by rw [hT]; exact hcell) (by rw [hv]; rfl)
    (by obtain ⟨k9, h9, -⟩ := Vm.findClass_spec hcl; exact ⟨k9, h9⟩) (fun z hz => by
      rcases hpass z hz with h | ⟨hz0, nm, hl1, hn1⟩
      · exact Or.inl h
      · obtain ⟨c6, hc6, hcl6⟩ := Cond.classLink_spec hown hl1 e.platform hpl
        obtain ⟨a8, b8, h1, h2, h3⟩ := hn1
        cases Option.some.inj (h1.symm.trans hcl)
        cases Option.some.inj (h2.symm.trans hc6)
        exact Or.inr ⟨hz0, _, hcl6, h3⟩)
  obtain ⟨g₀, hfr⟩ := X'.frames_eq
  have hcell9 : ((T.setVm vm').setFrames (.throwing q :: below)).heap[q]? = some ce := by
    show T.heap[q]? = some ce
    rw [hT]; exact hcell
  have hend : Ended ((T.setVm vm').setFrames (.throwing q :: below)) below (.threw q) := State.frames_setFrames _ (State.cur_lt_of_frames hfr)
  refine ⟨(T.setVm vm').setFrames (.throwing q :: below), ?_, .threw q, X'.here.running, hend, Or.inr ⟨q, rfl, E, ce, locs, hx _ hT (X'.ends _).1.alike, hcell9, hv, hcl, (X'.ends _).1, (X'.ends _).2.mono hc hs, hf⟩⟩
  rw [X.pushThrowing_eq]
  exact st
/-- a thing of a world lies in the heap -/
theorem vx_lt {D : va_G} {cl : List vw_C} {ws : va_W} {H1 : Heap} (h : va_P D cl ws H1) {k : Nat} {q : Nat × va_E} (hk : ws[k]? = some q) : q.1 < H1.size := (h k q hk).lt
end VXS
/-! ===== END ===== -/
/-! ===== BEGIN methods with a table of their own: called by a name, returning or throwing ===== -/
section VXH
/-! vx_backW, vx_callVX, vx_callSX, vx_callVW, vx_runVW, vx_runVX, vx_runSX, vx_ofWH follow the same proofs as their sisters above (Free/Laws.lean, Shelf42/LK1.lean); vx_outP calls Shelf42/NT130.lean (outThrough). -/
section
variable {l : Launch} {R : Room} {p : Program} {e : Env} {below : List Frame} {s : State} {sargs : Array Value} {y : MethodName} {len W9 : Nat}
theorem vx_backW {ws : List Cond} {rm : Room} {Pc : Array Value → State → Prop} {Qc : Array Value → State → Outcome → State → Prop} {XC : String → State → State → Prop} {mc ms : Nat} {free : Addr → Prop} {bytes : ByteArray} {maxL : Nat} {ret : Option FieldType} {hh : List (Nat × Nat × Nat × Nat)}
    (hM : vx_Met l y ws rm Pc Qc XC mc ms free) (hblind : FrameBlind Pc) (hrc : rm.cells = mc) (hrs : rm.slots = ms)
    (hframes : rm.frames + 1 ≤ R.frames) (hlocals : W9 + (maxL + 11) + rm.locals ≤ R.locals)
    (hws : ∀ w ∈ ws, ∀ a' U, s.WarmedH U.vm → w.before a' U = true) (hcode : Cond.codeWith y bytes maxL ret hh ∈ ws) (hinit : ∀ a' U, s.WarmedH U.vm → (Cond.initialized y.cls).before a' U = true) :
    vx_Back l R p e below s sargs y len W9 (PreOf R mc ms Pc) (PostOf Qc mc ms free) (vx_Post XC mc ms free) := by
  intro m meth c A g ig mk a X hg hsize hdg hW hn hp
  have h1 : (headSpec ws rm).pre.before a A.U = true := atoms_intro fun w hw => hws w hw _ _ X.warmed
  have h2 : (Cond.codeWith y bytes maxL ret hh).before a A.U = true := hws _ hcode _ _ X.warmed
  have h3 : (Cond.initialized y.cls).before a A.U = true := hinit _ _ X.warmed
  have h4 : A.cells + (headSpec ws rm).room.cells ≤ R.cells := by rw [show (headSpec ws rm).room.cells = mc from hrc]; exact hp.1
  have h5 : A.slots + (headSpec ws rm).room.slots ≤ R.slots := by rw [show (headSpec ws rm).room.slots = ms from hrs]; exact hp.2.1
  have hPc : Pc a (A.U.calling g mk a) := hblind _ _ _ _ hp.2.2
  obtain ⟨U, Ls, c0, s0⟩ := A
  dsimp only [Pt.U, Pt.locs, Pt.cells, Pt.slots] at h1 h2 h3 h4 h5 X hn hPc ⊢
  obtain ⟨m9, methY, cY, hn9, hmY, hcY, -, hlY, -⟩ := Cond.codeWith_spec h2
  cases Option.some.inj (hn9.symm.trans hn)
  obtain ⟨kY, hkY, -⟩ := className_of_methodNamed hn
  have hinitY : kY.init = .initialized := Cond.initialized_spec (findClass_of_methodNamed hn) hkY h3
  have h : At U g.method c below := by rw [hg]; exact X.here
  have hlocals9 : W9 + (maxL + 11) + (headSpec ws rm).room.locals ≤ R.locals := hlocals
  have happ : (headSpec ws rm).appliesLoose y e.platform (U.calling g mk a) = true :=
    Spec.appliesLoose_calling (g := g) h hdg hn hkY hinitY
      (X.room_calling (g := g) (R' := (headSpec ws rm).room) hsize hmY hcY hframes (by rw [hlY]; omega) h4 h5) h1
  obtain ⟨mid, hmid⟩ := h.above
  have hfr : (U.setTop g).frames = (.java g :: mid) ++ below := by rw [State.frames_setTop' g h.top, hmid]; rfl
  obtain ⟨o, s₂, hsteps, -, hend, hq⟩ := Steps.callFree hM p X.admits X.cas X.clock (acts := []) hfr happ hPc trivial
  have hq' : vx_Q Qc XC mc ms free a (U.calling g mk a) o s₂ := hq
  rw [State.frames_setTop' g h.top] at hend
  obtain ⟨g₀, hg0⟩ := Option.isSome_iff_exists.mp h.top
  obtain ⟨r, hr⟩ := State.topJava?_eq_some.mp hg0
  have hr' : (({ U with heap := s₂.heap, slotsUsed := s₂.slotsUsed } : State).setVm s₂.vm).frames = .java g₀ :: r := hr
  rcases hq' with ⟨hqc, L, hfe, hL⟩ | ⟨q, rfl, E, ce, L, hx, hce, hcv, hcl, hW₂, hsm, hL⟩
  · obtain ⟨⟨v, rfl⟩, hW₂, e2, q2, q3, q4, q5, q6⟩ := id hfe
    have e3 : s₂ = ({ (U.calling g mk a).setFrames s₂.frames with heap := s₂.heap, slotsUsed := s₂.slotsUsed } : State).setVm s₂.vm := by
      have : s₂ = ({ s₂ with vm := (U.calling g mk a).vm } : State).setVm s₂.vm := rfl
      rw [e2] at this
      exact this
    obtain ⟨c₂, i₂, len₂, hc₂, hd₂, hf₂⟩ := hend
    have hW' : U.WarmedH s₂.vm := hW₂
    have hcc : c₂ = c := by
      have h1 : s₂.code? g.method = U.code? g.method := by
        rw [State.code?_eq, State.code?_eq, hW'.alike.method?]
      exact Option.some.inj (hc₂.symm.trans (h1.trans h.code))
    subst hcc
    have hlen : len₂ = len := by rw [hdg] at hd₂; cases hd₂; rfl
    subst hlen
    have hs₂ : s₂ = (({ U with heap := s₂.heap, slotsUsed := s₂.slotsUsed } : State).setVm s₂.vm).setTop { g with pc := g.pc + len₂, stack := v.toList ++ g.stack } := by
      refine e3.trans ?_
      rw [hf₂, State.calling_eq h.top, State.setFrames_setFrames, State.setTop_of_frames _ hr', hr]
      rfl
    have hsame : U.sameButNew ({ U with heap := s₂.heap, slotsUsed := s₂.slotsUsed } : State) L mc ms := by
      refine ⟨?_, q2, q3, q4, q5, q6⟩
      obtain ⟨t, ht, -⟩ := State.frames_cons hr
      show ({ U with heap := s₂.heap, slotsUsed := s₂.slotsUsed } : State) = { U.setFrames U.frames with heap := s₂.heap, slotsUsed := s₂.slotsUsed }
      rw [State.setFrames_self ht]
    subst hg
    refine Or.inl ⟨v, ⟨(({ U with heap := s₂.heap, slotsUsed := s₂.slotsUsed } : State).setVm s₂.vm), Ls ++ L, c0 + mc, s0 + ms⟩,
      ⟨X.admits, X.cas, X.clock, X.frames, X.room, X.hears, X.method, X.code, (X.here.setHeapUsed s₂.heap s₂.slotsUsed).setVm hW'.alike, X.tail, State.WarmedH.trans X.warmed hW', X.limits, X.bytes, X.same.trans (hsame.setVm s.vm)⟩,
      ⟨g, mk, s₂, L, rfl, rfl, hqc, rfl, hL, rfl, rfl⟩, ?_⟩
    show Steps p.tables e below _ ((({ U with heap := s₂.heap, slotsUsed := s₂.slotsUsed } : State).setVm s₂.vm).setTop { g with pc := g.pc + len₂, stack := v.toList ++ g.stack })
    rw [← hs₂]
    exact hsteps
  · obtain ⟨e2, q2, q3, q4, q5, q6⟩ := id hsm
    have e3 : s₂ = ({ (U.calling g mk a).setFrames s₂.frames with heap := s₂.heap, slotsUsed := s₂.slotsUsed } : State).setVm s₂.vm := by
      have : s₂ = ({ s₂ with vm := (U.calling g mk a).vm } : State).setVm s₂.vm := rfl
      rw [e2] at this
      exact this
    have hf₂ : s₂.frames = .throwing q :: .java g :: U.frames.tail := hend
    have hW' : U.WarmedH s₂.vm := hW₂
    have hs₂ : s₂ = ((({ U with heap := s₂.heap, slotsUsed := s₂.slotsUsed } : State).setVm s₂.vm).setTop g).pushFrame (.throwing q) := by
      refine e3.trans ?_
      rw [hf₂, State.calling_eq h.top, State.setFrames_setFrames, State.pushFrame, State.frames_setTop _ hr', State.setTop_of_frames _ hr', State.setFrames_setFrames, hr]
      rfl
    have hsame : U.sameButNew ({ U with heap := s₂.heap, slotsUsed := s₂.slotsUsed } : State) L mc ms := by
      refine ⟨?_, q2, q3, q4, q5, q6⟩
      obtain ⟨t, ht, -⟩ := State.frames_cons hr
      show ({ U with heap := s₂.heap, slotsUsed := s₂.slotsUsed } : State) = { U.setFrames U.frames with heap := s₂.heap, slotsUsed := s₂.slotsUsed }
      rw [State.setFrames_self ht]
    subst hg
    refine Or.inr ⟨q, ⟨(({ U with heap := s₂.heap, slotsUsed := s₂.slotsUsed } : State).setVm s₂.vm), Ls ++ L, c0 + mc, s0 + ms⟩,
      ⟨X.admits, X.cas, X.clock, X.frames, X.room, X.hears, X.method, X.code, (X.here.setHeapUsed s₂.heap s₂.slotsUsed).setVm hW'.alike, X.tail, State.WarmedH.trans X.warmed hW', X.limits, X.bytes, X.same.trans (hsame.setVm s.vm)⟩,
      ⟨g, mk, s₂, L, E, ce, rfl, rfl, hx, hce, hcv, hcl, rfl, hL, rfl, rfl⟩, ?_⟩
    show Steps p.tables e below _ (((({ U with heap := s₂.heap, slotsUsed := s₂.slotsUsed } : State).setVm s₂.vm).setTop g).pushFrame (.throwing q))
    rw [← hs₂]
    exact hsteps
end
variable {p : Program} {l : Launch} {e : Env} {R : Room} {s : State} {m : MethodId} {args : Array Value} {below : List Frame} {meth : Method} {c : Code} {T : State} {H : Heap} {locs : List Loc} {cells slots : Nat}
theorem vx_callVX (X : Stand p l e R s m args below meth c T locs cells slots) (hexec : p.tables.exec = Jvm.exec) {own C : String} {index : Nat} {y : MethodName} {bytes : ByteArray} {maxL : Nat} {ret : Option FieldType} {hh : List (Nat × Nat × Nat × Nat)}
    (hown : s.vm.findClass own = some m.cls) (hlink : (Cond.methodLink own index y).before args s = true) (hinst : (Cond.instanceMethod y).before args s = true) (hsel : (Cond.selects C y y).before args s = true)
    (hcode : (Cond.codeWith y bytes maxL ret hh).before args s = true) (hy : y.cls ≠ "java/lang/invoke/MethodHandle" ∧ y.cls ≠ "java/lang/invoke/VarHandle")
    {W9 : Nat} {Pre : Pt → Array Value → Prop} {Post : Pt → Array Value → Option Value → Pt → Prop} {PostX : Pt → Array Value → Addr → Pt → Prop} (hK : vx_Back l R p e below s args y 3 W9 Pre Post PostX)
    {b : Addr} {cellB : Cell} (hcell : T.heap[b]? = some cellB) (hobj : cellB.vm.isStatics = false) (hcls : s.vm.findClass C = some cellB.cls)
    {g : JFrame} (hg : g.method = m) (hsize : g.locals.size = c.maxLocals) {argsL rest : List Value} (hlen : ∀ sig, parseMethodDescriptor y.desc = some sig → argsL.length = sig.parameters.length)
    (hstack : g.stack = argsL.reverse ++ .ref b :: rest) (hW : 2 * g.monitorRoom + (rest.map fun v => v.category).sum ≤ W9) (hdg : decode c.code g.pc = .ok (.invokevirtual index, 3))
    (hpre : ∀ vm₁, s.WarmedH vm₁ → Pre ⟨T.setVm vm₁, locs, cells, slots⟩ (Value.ref b :: argsL).toArray) :
    (∃ (v : Option Value) (vm₁ : Vm) (B : Pt), s.WarmedH vm₁ ∧ Stand p l e R s m args below meth c B.U B.locs B.cells B.slots ∧ Post ⟨T.setVm vm₁, locs, cells, slots⟩ (Value.ref b :: argsL).toArray v B ∧
      ∀ target, Steps p.tables e below (B.U.setTop { g with pc := g.pc + 3, stack := v.toList ++ rest }) target → Steps p.tables e below (T.setTop g) target) ∨
    (∃ (q : Addr) (vm₁ : Vm) (B : Pt), s.WarmedH vm₁ ∧ Stand p l e R s m args below meth c B.U B.locs B.cells B.slots ∧ PostX ⟨T.setVm vm₁, locs, cells, slots⟩ (Value.ref b :: argsL).toArray q B ∧
      Steps p.tables e below (T.setTop g) ((B.U.setTop { g with stack := rest }).pushFrame (.throwing q))) := by
  obtain ⟨mk, methM, hnamed, hmethM, hstM, habM⟩ := Cond.instanceMethod_spec hinst
  obtain ⟨m8, methM', cM, hn8, hmethM', -, -, -, -, -, -, hsigM⟩ := Cond.codeWith_spec hcode
  cases Option.some.inj (hn8.symm.trans hnamed)
  cases hmethM.symm.trans hmethM'
  obtain ⟨c2, r2, m2, q1, q2, q3, q4, kP, hkP, hkPi⟩ := Cond.selects_spec hsel
  cases hcls.symm.trans q1
  cases (State.methodFound?_of_named hnamed hy).symm.trans q2
  cases hnamed.symm.trans q3
  have hselP : selectMethod e.platform s.vm cellB.cls mk = .method mk := by rw [Launch.admits_selectMethod X.admits]; exact q4
  obtain ⟨vm₁, X₁, hstep₁⟩ := X.invokevirtual hexec hown hlink hnamed hmethM hstM hkP hkPi hy (a := b) (cell := cellB) hcell
    (fun z h => by rw [h] at hobj; cases hobj) hselP hmethM habM hkP hkPi (g := g) hg (argsL := argsL) (rest := rest) (hlen _ hsigM) hstack hdg
  rcases hK m meth c ⟨T.setVm vm₁, locs, cells, slots⟩ { g with stack := rest } (.invokevirtual index) mk (Value.ref b :: argsL).toArray X₁ hg hsize hdg hW (X₁.named hnamed) (hpre vm₁ X₁.warmed) with ⟨v, B, X', hpost, hsteps⟩ | ⟨q, B, X', hpost, hsteps⟩
  · exact Or.inl ⟨v, vm₁, B, X₁.warmed, X', hpost, fun target h => hstep₁ _ fun acts => by rw [doInvoke_state]; exact hsteps.trans h⟩
  · exact Or.inr ⟨q, vm₁, B, X₁.warmed, X', hpost, hstep₁ _ fun acts => by rw [doInvoke_state]; exact hsteps⟩
theorem vx_callSX (X : Stand p l e R s m args below meth c T locs cells slots) (hexec : p.tables.exec = Jvm.exec) {own : String} {index : Nat} {y : MethodName} {bytes : ByteArray} {maxL : Nat} {ret : Option FieldType} {hh : List (Nat × Nat × Nat × Nat)}
    (hown : s.vm.findClass own = some m.cls) (hlink : (Cond.methodLink own index y).before args s = true) (hstat : (Cond.static y).before args s = true) (hinit : (Cond.initialized y.cls).before args s = true)
    (hcode : (Cond.codeWith y bytes maxL ret hh).before args s = true) (hy : y.cls ≠ "java/lang/invoke/MethodHandle" ∧ y.cls ≠ "java/lang/invoke/VarHandle")
    {W9 : Nat} {Pre : Pt → Array Value → Prop} {Post : Pt → Array Value → Option Value → Pt → Prop} {PostX : Pt → Array Value → Addr → Pt → Prop} (hK : vx_Back l R p e below s args y 3 W9 Pre Post PostX)
    {g : JFrame} (hg : g.method = m) (hsize : g.locals.size = c.maxLocals) {argsL rest : List Value} (hlen : ∀ sig, parseMethodDescriptor y.desc = some sig → argsL.length = sig.parameters.length)
    (hstack : g.stack = argsL.reverse ++ rest) (hW : 2 * g.monitorRoom + (rest.map fun v => v.category).sum ≤ W9) (hdg : decode c.code g.pc = .ok (.invokestatic index, 3))
    (hpre : ∀ vm₁, s.WarmedH vm₁ → Pre ⟨T.setVm vm₁, locs, cells, slots⟩ argsL.toArray) :
    (∃ (v : Option Value) (vm₁ : Vm) (B : Pt), s.WarmedH vm₁ ∧ Stand p l e R s m args below meth c B.U B.locs B.cells B.slots ∧ Post ⟨T.setVm vm₁, locs, cells, slots⟩ argsL.toArray v B ∧
      ∀ target, Steps p.tables e below (B.U.setTop { g with pc := g.pc + 3, stack := v.toList ++ rest }) target → Steps p.tables e below (T.setTop g) target) ∨
    (∃ (q : Addr) (vm₁ : Vm) (B : Pt), s.WarmedH vm₁ ∧ Stand p l e R s m args below meth c B.U B.locs B.cells B.slots ∧ PostX ⟨T.setVm vm₁, locs, cells, slots⟩ argsL.toArray q B ∧
      Steps p.tables e below (T.setTop g) ((B.U.setTop { g with stack := rest }).pushFrame (.throwing q))) := by
  obtain ⟨mk, methM, cM, hnamed, hmethM, -, -, -, -, -, -, hsigM⟩ := Cond.codeWith_spec hcode
  have hstatic : methM.isStatic = true := Cond.static_spec hnamed hmethM hstat
  obtain ⟨kP, hkP, -⟩ := className_of_methodNamed hnamed
  have hinitP : kP.init = .initialized := Cond.initialized_spec (findClass_of_methodNamed hnamed) hkP hinit
  obtain ⟨vm₁, X₁, hstep₁⟩ := X.invokestatic hexec hown hlink hnamed hmethM hstatic hkP hinitP hy (g := g) hg (argsL := argsL) (rest := rest) (hlen _ hsigM) hstack hdg
  rcases hK m meth c ⟨T.setVm vm₁, locs, cells, slots⟩ { g with stack := rest } (.invokestatic index) mk argsL.toArray X₁ hg hsize hdg hW (X₁.named hnamed) (hpre vm₁ X₁.warmed) with ⟨v, B, X', hpost, hsteps⟩ | ⟨q, B, X', hpost, hsteps⟩
  · exact Or.inl ⟨v, vm₁, B, X₁.warmed, X', hpost, fun target h => hstep₁ _ fun acts => by rw [doInvoke_state]; exact hsteps.trans h⟩
  · exact Or.inr ⟨q, vm₁, B, X₁.warmed, X', hpost, hstep₁ _ fun acts => by rw [doInvoke_state]; exact hsteps⟩
theorem vx_callVW (X : Stand p l e R s m args below meth c T locs cells slots) (hexec : p.tables.exec = Jvm.exec) {own C : String} {index : Nat} {y : MethodName} {bytes : ByteArray} {maxL : Nat} {ret : Option FieldType} {hh : List (Nat × Nat × Nat × Nat)}
    (hown : s.vm.findClass own = some m.cls) (hlink : (Cond.methodLink own index y).before args s = true) (hinst : (Cond.instanceMethod y).before args s = true) (hsel : (Cond.selects C y y).before args s = true)
    (hcode : (Cond.codeWith y bytes maxL ret hh).before args s = true) (hy : y.cls ≠ "java/lang/invoke/MethodHandle" ∧ y.cls ≠ "java/lang/invoke/VarHandle")
    {W9 : Nat} {Pre : Pt → Array Value → Prop} {Post : Pt → Array Value → Option Value → Pt → Prop} (hK : Back l R p e below s args y 3 W9 Pre Post)
    {b : Addr} {cellB : Cell} (hcell : T.heap[b]? = some cellB) (hobj : cellB.vm.isStatics = false) (hcls : s.vm.findClass C = some cellB.cls)
    {g : JFrame} (hg : g.method = m) (hsize : g.locals.size = c.maxLocals) {argsL rest : List Value} (hlen : ∀ sig, parseMethodDescriptor y.desc = some sig → argsL.length = sig.parameters.length)
    (hstack : g.stack = argsL.reverse ++ .ref b :: rest) (hW : 2 * g.monitorRoom + (rest.map fun v => v.category).sum ≤ W9) (hdg : decode c.code g.pc = .ok (.invokevirtual index, 3))
    (hpre : ∀ vm₁, s.WarmedH vm₁ → Pre ⟨T.setVm vm₁, locs, cells, slots⟩ (Value.ref b :: argsL).toArray) :
    ∃ (v : Option Value) (vm₁ : Vm) (B : Pt), s.WarmedH vm₁ ∧ Stand p l e R s m args below meth c B.U B.locs B.cells B.slots ∧ Post ⟨T.setVm vm₁, locs, cells, slots⟩ (Value.ref b :: argsL).toArray v B ∧
      ∀ target, Steps p.tables e below (B.U.setTop { g with pc := g.pc + 3, stack := v.toList ++ rest }) target → Steps p.tables e below (T.setTop g) target := by
  obtain ⟨mk, methM, hnamed, hmethM, hstM, habM⟩ := Cond.instanceMethod_spec hinst
  obtain ⟨m8, methM', cM, hn8, hmethM', -, -, -, -, -, -, hsigM⟩ := Cond.codeWith_spec hcode
  cases Option.some.inj (hn8.symm.trans hnamed)
  cases hmethM.symm.trans hmethM'
  obtain ⟨c2, r2, m2, q1, q2, q3, q4, kP, hkP, hkPi⟩ := Cond.selects_spec hsel
  cases hcls.symm.trans q1
  cases (State.methodFound?_of_named hnamed hy).symm.trans q2
  cases hnamed.symm.trans q3
  have hselP : selectMethod e.platform s.vm cellB.cls mk = .method mk := by rw [Launch.admits_selectMethod X.admits]; exact q4
  obtain ⟨vm₁, X₁, hstep₁⟩ := X.invokevirtual hexec hown hlink hnamed hmethM hstM hkP hkPi hy (a := b) (cell := cellB) hcell
    (fun z h => by rw [h] at hobj; cases hobj) hselP hmethM habM hkP hkPi (g := g) hg (argsL := argsL) (rest := rest) (hlen _ hsigM) hstack hdg
  obtain ⟨v, B, X', hpost, hsteps⟩ := hK m meth c ⟨T.setVm vm₁, locs, cells, slots⟩ { g with stack := rest } (.invokevirtual index) mk (Value.ref b :: argsL).toArray X₁ hg hsize hdg hW (X₁.named hnamed) (hpre vm₁ X₁.warmed)
  exact ⟨v, vm₁, B, X₁.warmed, X', hpost, fun target h => hstep₁ _ fun acts => by rw [doInvoke_state]; exact hsteps.trans h⟩
abbrev vx_CVW (R : Room) (s : State) (args : Array Value) (own C : String) (index : Nat) (y : MethodName) (bytes : ByteArray) (maxL : Nat) (ret : Option FieldType) (hh : List (Nat × Nat × Nat × Nat)) (ws : List Cond) (rm : Room) (mc ms n : Nat) : Prop :=
  (rm.cells = mc ∧ rm.slots = ms ∧ rm.frames + 1 ≤ R.frames ∧ 8 + (maxL + 11) + rm.locals ≤ R.locals ∧ (∀ w ∈ ws, ∀ (a' : Array Value) (U : State), s.WarmedH U.vm → w.before a' U = true) ∧ Cond.codeWith y bytes maxL ret hh ∈ ws) ∧
  (Cond.codeWith y bytes maxL ret hh).before args s = true ∧ (Cond.initialized y.cls).before args s = true ∧ (y.cls ≠ "java/lang/invoke/MethodHandle" ∧ y.cls ≠ "java/lang/invoke/VarHandle") ∧
  (∀ sig, parseMethodDescriptor y.desc = some sig → n = sig.parameters.length) ∧ (Cond.methodLink own index y).before args s = true ∧ (Cond.instanceMethod y).before args s = true ∧ (Cond.selects C y y).before args s = true
theorem vx_cwVW {own C : String} {index maxL mc ms : Nat} {y : MethodName} {bytes : ByteArray} {ret : Option FieldType} {hh : List (Nat × Nat × Nat × Nat)} {Ts ws ws' : List Cond} {rm : Room} (n : Nat) (ht : ∀ w ∈ Ts, w.before args s = true) (hT : GoodIn Ts (wsV own index C y ws)) (hw : ws = Cond.codeWith y bytes maxL ret hh :: ws') (hrc : rm.cells = mc) (hrs : rm.slots = ms)
    (hd : y.cls = C ∧ y.cls ≠ "java/lang/invoke/MethodHandle" ∧ y.cls ≠ "java/lang/invoke/VarHandle" ∧ (parseMethodDescriptor y.desc).map (fun d => d.parameters.length) = some n) (hR : rm.frames + 1 ≤ R.frames ∧ 8 + (maxL + 11) + rm.locals ≤ R.locals) :
    vx_CVW R s args own C index y bytes maxL ret hh ws rm mc ms n := by
  obtain ⟨hC, hd⟩ := hd
  subst hC
  have ok : ∀ w ∈ wsV own index y.cls y ws, w.before args s = true := fun w h => ht w (hT w h).1
  have hG : GoodIn Ts ws := fun w h => hT w (by unfold wsV; exact List.mem_append_right _ h)
  have hc : Cond.codeWith y bytes maxL ret hh ∈ ws := by rw [hw]; exact List.mem_cons_self
  refine ⟨⟨hrc, hrs, hR.1, hR.2, pay_in ht hG, hc⟩, ht _ (hG _ hc).1, ok _ (by simp [wsV]), ⟨hd.1, hd.2.1⟩, fun sig h => ?_, ok _ (by simp [wsV]), ok _ (by simp [wsV]), ok _ (by simp [wsV])⟩
  have h2 := hd.2.2
  rw [h] at h2
  exact (Option.some.inj h2).symm
theorem vx_runVW {y : MethodName} {bytes cc : ByteArray} {maxL nL mc ms n index : Nat} {ret : Option FieldType} {hh : List (Nat × Nat × Nat × Nat)} {ws : List Cond} {rm : Room} {Pc : Array Value → State → Prop} {Qc : Array Value → State → Outcome → State → Prop} {free : Addr → Prop} {Ts : List Cond} {own C : String} {b : Addr} {As rest : List Value} {g : JFrame}
    (S : CallFix p m c cc nL s args Ts own) (hM : Met l y ws rm Pc Qc mc ms free) (cw : vx_CVW R s args own C index y bytes maxL ret hh ws rm mc ms n) (hp : PreV s H C b Pc As)
    (hg : g.method = m) (hn : As.length = n) (hsize : g.locals.size = nL) (hstack : g.stack = As.reverse ++ .ref b :: rest) (hW : 2 * g.monitorRoom + (rest.map fun v => v.category).sum ≤ 8) (hdg : decode cc g.pc = .ok (.invokevirtual index, 3)) (hf : cells + mc ≤ R.cells ∧ slots + ms ≤ R.slots) :
    va_Run p l e R s m args below meth c H locs cells slots mc ms g rest (Qc (Value.ref b :: As).toArray) free := by
  obtain ⟨⟨hrc, hrs, hfr, hlo, hws, hcw⟩, hcode, hini, hy, hlen, hl, hin, hse⟩ := cw
  have hK : Back l R p e below s args y 3 8 (PreOf R mc ms Pc) (PostOf Qc mc ms free) := va_backW (hh := hh) (bytes := bytes) (maxL := maxL) (ret := ret) hM hp.1 hrc hrs hfr hlo hws hcw (fun a' U hW => word_at hW (Or.inl (by first | rfl | simp [Cond.onTables, Cond.keeps, Cond.steady])) hini)
  obtain ⟨hx, hb, hml, ho, -⟩ := S
  obtain ⟨-, ⟨cellB, hcB, hoB, hclB⟩, hPc⟩ := hp
  intro T hT X
  obtain ⟨v, vm₁, ⟨U', l2, c2, s2⟩, hW₁, X', ⟨g', mk, t, L, e1, e2, hq, h1, hL, h2, h3⟩, st⟩ := vx_callVW X hx (C := C) (hh := hh) (bytes := bytes) (maxL := maxL) (ret := ret) ho hl hin hse hcode hy hK (by rw [hT]; exact hcB) hoB hclB hg (hsize.trans hml.symm) (argsL := As) (rest := rest) (fun sig h => hn.trans (hlen sig h)) hstack hW (by rw [hb]; exact hdg)
    (fun vm₁ hW₁ => ⟨hf.1, hf.2, hPc (T.setVm vm₁) hT hW₁⟩)
  dsimp only [Pt.U, Pt.locs, Pt.cells, Pt.slots] at X' e1 e2 h1 h2 h3 st
  subst h1; subst h2; subst h3
  exact ⟨v, (T.setVm vm₁).calling g' mk (Value.ref b :: As).toArray, t, U', L, hT, X', hL, e1, e2, hq, st⟩
section
variable {y : MethodName} {bytes cc : ByteArray} {maxL nL mc ms n index : Nat} {ret : Option FieldType} {ws : List Cond} {rm : Room} {Pc : Array Value → State → Prop} {Qc : Array Value → State → Outcome → State → Prop} {XC : String → State → State → Prop} {free : Addr → Prop} {Ts : List Cond} {own C : String} {b : Addr} {As rest : List Value} {g : JFrame}
theorem vx_runVX {hh : List (Nat × Nat × Nat × Nat)} (S : CallFix p m c cc nL s args Ts own) (hM : vx_Met l y ws rm Pc Qc XC mc ms free) (cw : vx_CVW R s args own C index y bytes maxL ret hh ws rm mc ms n) (hp : PreV s H C b Pc As)
    (hg : g.method = m) (hn : As.length = n) (hsize : g.locals.size = nL) (hstack : g.stack = As.reverse ++ .ref b :: rest) (hW : 2 * g.monitorRoom + (rest.map fun v => v.category).sum ≤ 8) (hdg : decode cc g.pc = .ok (.invokevirtual index, 3)) (hf : cells + mc ≤ R.cells ∧ slots + ms ≤ R.slots) :
    vx_Run p l e R s m args below meth c H locs cells slots mc ms g rest (Qc (Value.ref b :: As).toArray) XC free := by
  obtain ⟨⟨hrc, hrs, hfr, hlo, hws, hcw⟩, hcode, hini, hy, hlen, hl, hin, hse⟩ := cw
  have hK : vx_Back l R p e below s args y 3 8 (PreOf R mc ms Pc) (PostOf Qc mc ms free) (vx_Post XC mc ms free) := vx_backW (hh := hh) (bytes := bytes) (maxL := maxL) (ret := ret) hM hp.1 hrc hrs hfr hlo hws hcw (fun a' U hW => word_at hW (Or.inl (by first | rfl | simp [Cond.onTables, Cond.keeps, Cond.steady])) hini)
  obtain ⟨hx, hb, hml, ho, -⟩ := S
  obtain ⟨-, ⟨cellB, hcB, hoB, hclB⟩, hPc⟩ := hp
  intro T hT X
  rcases vx_callVX X hx (C := C) (hh := hh) (bytes := bytes) (maxL := maxL) (ret := ret) ho hl hin hse hcode hy hK (by rw [hT]; exact hcB) hoB hclB hg (hsize.trans hml.symm) (argsL := As) (rest := rest) (fun sig h => hn.trans (hlen sig h)) hstack hW (by rw [hb]; exact hdg)
    (fun vm₁ hW₁ => ⟨hf.1, hf.2, hPc (T.setVm vm₁) hT hW₁⟩) with ⟨v, vm₁, ⟨U', l2, c2, s2⟩, hW₁, X', ⟨g', mk, t, L, e1, e2, hq, h1, hL, h2, h3⟩, st⟩ | ⟨q, vm₁, ⟨U', l2, c2, s2⟩, hW₁, X', ⟨g', mk, t, L, E, ce, e1, e2, hq, hce, hcv, hcl, h1, hL, h2, h3⟩, st⟩
  · dsimp only [Pt.U, Pt.locs, Pt.cells, Pt.slots] at X' e1 e2 h1 h2 h3 st
    subst h1; subst h2; subst h3
    exact Or.inl ⟨v, (T.setVm vm₁).calling g' mk (Value.ref b :: As).toArray, t, U', L, hT, X', hL, e1, e2, hq, st⟩
  · dsimp only [Pt.U, Pt.locs, Pt.cells, Pt.slots] at X' e1 e2 h1 h2 h3 st hcl
    subst h1; subst h2; subst h3
    exact Or.inr ⟨q, (T.setVm vm₁).calling g' mk (Value.ref b :: As).toArray, t, U', L, E, ce, hT, X', hL, e1, e2, hq, hce, hcv, vx_cls hW₁ hcl, st⟩
theorem vx_runSX {hh : List (Nat × Nat × Nat × Nat)} (S : CallFix p m c cc nL s args Ts own) (hM : vx_Met l y ws rm Pc Qc XC mc ms free) (cw : vx_CSW R s args own index y bytes maxL ret hh ws rm mc ms n) (hp : PreS s H Pc As)
    (hg : g.method = m) (hn : As.length = n) (hsize : g.locals.size = nL) (hstack : g.stack = As.reverse ++ rest) (hW : 2 * g.monitorRoom + (rest.map fun v => v.category).sum ≤ 8) (hdg : decode cc g.pc = .ok (.invokestatic index, 3)) (hf : cells + mc ≤ R.cells ∧ slots + ms ≤ R.slots) :
    vx_Run p l e R s m args below meth c H locs cells slots mc ms g rest (Qc As.toArray) XC free := by
  obtain ⟨⟨hrc, hrs, hfr, hlo, hws, hcw⟩, hcode, hini, hy, hlen, hl, hstt⟩ := cw
  have hK : vx_Back l R p e below s args y 3 8 (PreOf R mc ms Pc) (PostOf Qc mc ms free) (vx_Post XC mc ms free) := vx_backW (hh := hh) (bytes := bytes) (maxL := maxL) (ret := ret) hM hp.1 hrc hrs hfr hlo hws hcw (fun a' U hW => word_at hW (Or.inl (by first | rfl | simp [Cond.onTables, Cond.keeps, Cond.steady])) hini)
  obtain ⟨hx, hb, hml, ho, -⟩ := S
  intro T hT X
  rcases vx_callSX X hx (hh := hh) (bytes := bytes) (maxL := maxL) (ret := ret) ho hl hstt hini hcode hy hK hg (hsize.trans hml.symm) (argsL := As) (rest := rest) (fun sig h => hn.trans (hlen sig h)) hstack hW (by rw [hb]; exact hdg)
    (fun vm₁ hW₁ => ⟨hf.1, hf.2, hp.2 (T.setVm vm₁) hT hW₁⟩) with ⟨v, vm₁, ⟨U', l2, c2, s2⟩, hW₁, X', ⟨g', mk, t, L, e1, e2, hq, h1, hL, h2, h3⟩, st⟩ | ⟨q, vm₁, ⟨U', l2, c2, s2⟩, hW₁, X', ⟨g', mk, t, L, E, ce, e1, e2, hq, hce, hcv, hcl, h1, hL, h2, h3⟩, st⟩
  · dsimp only [Pt.U, Pt.locs, Pt.cells, Pt.slots] at X' e1 e2 h1 h2 h3 st
    subst h1; subst h2; subst h3
    exact Or.inl ⟨v, (T.setVm vm₁).calling g' mk As.toArray, t, U', L, hT, X', hL, e1, e2, hq, st⟩
  · dsimp only [Pt.U, Pt.locs, Pt.cells, Pt.slots] at X' e1 e2 h1 h2 h3 st hcl
    subst h1; subst h2; subst h3
    exact Or.inr ⟨q, (T.setVm vm₁).calling g' mk As.toArray, t, U', L, E, ce, hT, X', hL, e1, e2, hq, hce, hcv, vx_cls hW₁ hcl, st⟩
end
end VXH
theorem vx_ofWH {l : Launch} {y : MethodName} {ws ws' : List Cond} {rm : Room} {Pc : Array Value → State → Prop} {Qc : Array Value → State → Outcome → State → Prop} {XC : String → State → State → Prop} {mc ms : Nat} {free : Addr → Prop} {cc : ByteArray} {maxL : Nat} {ret : Option FieldType} {hh : List (Nat × Nat × Nat × Nat)}
    (hy : plainName y.cls = true) (hw : ws = Cond.codeWith y cc maxL ret hh :: ws')
    (body : ∀ p e s m args below meth c s₁, BodyLoose p l y (headSpec ws rm) cc maxL ret e s m args below meth c s₁ → c.maxLocals = maxL → Pc args s →
      W p l e (headSpec ws rm).room s m args below meth c s.heap [] 0 0 (vx_MQ below Qc XC args s mc ms free) (entryFrame m args maxL)) : vx_Met l y ws rm Pc Qc XC mc ms free := by
  refine MetFree.of_bodyS (code := cc) (maxLocals := maxL) (ret := ret) hy ?_ ?_
  · intro args s m h hn
    obtain ⟨m9, meth, c, hn9, h1, h2, h3, h4, -, h5, h6, -⟩ := Cond.codeWith_spec (atoms_spec (ws := ws) h _ (by rw [hw]; exact List.mem_cons_self))
    cases hn.symm.trans hn9
    exact ⟨meth, c, h1, h2, h3, h4, h5, h6⟩
  · intro p e s m args below meth c s₁ B hml hP _
    have hh0 : s₁.heap = s.heap := by rw [B.state]; rfl
    obtain ⟨t, a1, o, b1, b2, b3⟩ := body p e s m args below meth c s₁ B hml hP s₁ hh0 (Stand.of_body B)
    exact ⟨t, o, a1, b1, b2, b3⟩
/-! ===== END ===== -/
end
section
/-! names, fields, codes: as printed -/
def RX0 : String := "PileTricks$Dealer"
def TX0 : u_T := fun k => match k with
  | 0 => ("PileTricks$Dealer", "heapOf", "[I", true)
  | 1 => ("PileTricks$Dealer", "cameAs", "[I", true)
  | 2 => ("PileTricks$Dealer", "sizes", "[I", true)
  | 3 => ("PileTricks$Dealer", "starts", "[I", true)
  | 4 => ("PileTricks$Dealer", "cards", "I", false)
  | 5 => ("PileTricks$Dealer", "heaps", "I", false)
  | 6 => ("PileTricks$Dealer", "kind", "I", false)
  | _ => ("PileTricks$Dealer", "side", "I", false)
def tyX0 : Nat → FieldType := fun k => match k with
  | 0 => .array .int
  | 1 => .array .int
  | 2 => .array .int
  | 3 => .array .int
  | 4 => .int
  | 5 => .int
  | 6 => .int
  | _ => .int
abbrev wsX00 : List Cond := u_ws RX0 TX0 8
theorem nmX0 : ∀ a, a < 8 → ∀ b, b < 8 → a ≠ b → (TX0 a).2.1 ≠ (TX0 b).2.1 := by decide +kernel
theorem tyX0_ok : ∀ k, k < 8 → parseFieldDescriptor (TX0 k).2.2.1 = some (tyX0 k) := by decide +kernel
abbrev cX0_init : ByteArray := prog_2_method_1_code
def yX0_init : MethodName := ⟨RX0, "<init>", "()V"⟩
abbrev cX0_fit : ByteArray := prog_2_method_2_code
def yX0_fit : MethodName := ⟨RX0, "fit", "(II)V"⟩
abbrev cX0_heapBy : ByteArray := prog_2_method_3_code
def yX0_heapBy : MethodName := ⟨RX0, "heapBy", "(II)I"⟩
abbrev cX0_hold : ByteArray := prog_2_method_4_code
def yX0_hold : MethodName := ⟨RX0, "hold", "(II)V"⟩
abbrev cX0_lay : ByteArray := prog_2_method_5_code
def yX0_lay : MethodName := ⟨RX0, "lay", "(III)V"⟩
abbrev cX0_layNamed : ByteArray := prog_2_method_6_code
def yX0_layNamed : MethodName := ⟨RX0, "layNamed", "(III)I"⟩
abbrev cX0_layHeap : ByteArray := prog_2_method_7_code
def yX0_layHeap : MethodName := ⟨RX0, "layHeap", "(II)I"⟩
abbrev cX0_layOwn : ByteArray := prog_2_method_8_code
def yX0_layOwn : MethodName := ⟨RX0, "layOwn", "(II)V"⟩
abbrev cX0_heapAt : ByteArray := prog_2_method_9_code
def yX0_heapAt : MethodName := ⟨RX0, "heapAt", "(I)I"⟩
abbrev cX0_sizeOf : ByteArray := prog_2_method_10_code
def yX0_sizeOf : MethodName := ⟨RX0, "sizeOf", "(II)I"⟩
abbrev cX0_newPlace : ByteArray := prog_2_method_11_code
def yX0_newPlace : MethodName := ⟨RX0, "newPlace", "(I)I"⟩
def RX1 : String := "PileTricks$Guesses"
def TX1 : u_T := fun k => match k with
  | 0 => ("PileTricks$Guesses", "setting", "LPileTricks$Setting;", true)
  | 1 => ("PileTricks$Guesses", "dealer", "LPileTricks$Dealer;", true)
  | 2 => ("PileTricks$Guesses", "left", "[I", true)
  | 3 => ("PileTricks$Guesses", "deals", "I", false)
  | _ => ("PileTricks$Guesses", "most", "I", false)
def tyX1 : Nat → FieldType := fun k => match k with
  | 0 => .object "PileTricks$Setting"
  | 1 => .object "PileTricks$Dealer"
  | 2 => .array .int
  | 3 => .int
  | _ => .int
abbrev wsX10 : List Cond := u_ws RX1 TX1 5
theorem nmX1 : ∀ a, a < 5 → ∀ b, b < 5 → a ≠ b → (TX1 a).2.1 ≠ (TX1 b).2.1 := by decide +kernel
theorem tyX1_ok : ∀ k, k < 5 → parseFieldDescriptor (TX1 k).2.2.1 = some (tyX1 k) := by decide +kernel
abbrev cX1_init : ByteArray := prog_3_method_1_code
def yX1_init : MethodName := ⟨RX1, "<init>", "(LPileTricks$Setting;LPileTricks$Dealer;)V"⟩
abbrev cX1_mostLeft : ByteArray := prog_3_method_2_code
def yX1_mostLeft : MethodName := ⟨RX1, "mostLeft", "(I)I"⟩
abbrev cX1_nameAll : ByteArray := prog_3_method_3_code
def yX1_nameAll : MethodName := ⟨RX1, "nameAll", "(II)V"⟩
abbrev cX1_leftBehind : ByteArray := prog_3_method_4_code
def yX1_leftBehind : MethodName := ⟨RX1, "leftBehind", "(III)I"⟩
def RX2 : String := "PileTricks$Reader"
def TX2 : u_T := fun k => match k with
  | 0 => ("PileTricks$Reader", "tape", "LPileTricks$Tape;", true)
  | 1 => ("PileTricks$Reader", "rules", "LPileTricks$Rules;", true)
  | 2 => ("PileTricks$Reader", "numbers", "[I", true)
  | 3 => ("PileTricks$Reader", "given", "[Z", true)
  | 4 => ("PileTricks$Reader", "kinds", "[I", true)
  | 5 => ("PileTricks$Reader", "sides", "[I", true)
  | 6 => ("PileTricks$Reader", "deals", "I", false)
  | _ => ("PileTricks$Reader", "faultAt", "I", false)
def tyX2 : Nat → FieldType := fun k => match k with
  | 0 => .object "PileTricks$Tape"
  | 1 => .object "PileTricks$Rules"
  | 2 => .array .int
  | 3 => .array .boolean
  | 4 => .array .int
  | 5 => .array .int
  | 6 => .int
  | _ => .int
abbrev wsX20 : List Cond := u_ws RX2 TX2 8
theorem nmX2 : ∀ a, a < 8 → ∀ b, b < 8 → a ≠ b → (TX2 a).2.1 ≠ (TX2 b).2.1 := by decide +kernel
theorem tyX2_ok : ∀ k, k < 8 → parseFieldDescriptor (TX2 k).2.2.1 = some (tyX2 k) := by decide +kernel
abbrev cX2_init : ByteArray := prog_4_method_1_code
def yX2_init : MethodName := ⟨RX2, "<init>", "(LPileTricks$Tape;)V"⟩
abbrev cX2_forget : ByteArray := prog_4_method_2_code
def yX2_forget : MethodName := ⟨RX2, "forget", "()V"⟩
abbrev cX2_read : ByteArray := prog_4_method_3_code
def yX2_read : MethodName := ⟨RX2, "read", "(I)I"⟩
abbrev cX2_readNumber : ByteArray := prog_4_method_4_code
def yX2_readNumber : MethodName := ⟨RX2, "readNumber", "(I)I"⟩
abbrev cX2_readDeal : ByteArray := prog_4_method_5_code
def yX2_readDeal : MethodName := ⟨RX2, "readDeal", "()I"⟩
abbrev cX2_readLineEnd : ByteArray := prog_4_method_6_code
def yX2_readLineEnd : MethodName := ⟨RX2, "readLineEnd", "()I"⟩
abbrev cX2_numberTold : ByteArray := prog_4_method_7_code
def yX2_numberTold : MethodName := ⟨RX2, "numberTold", "(LPileTricks$Word;)I"⟩
abbrev cX2_kindTold : ByteArray := prog_4_method_8_code
def yX2_kindTold : MethodName := ⟨RX2, "kindTold", "(LPileTricks$Word;)I"⟩
abbrev cX2_sideTold : ByteArray := prog_4_method_9_code
def yX2_sideTold : MethodName := ⟨RX2, "sideTold", "(LPileTricks$Word;)I"⟩
def RX3 : String := "PileTricks$Rules"
def TX3 : u_T := fun k => match k with
  | 0 => ("PileTricks$Rules", "tape", "LPileTricks$Tape;", true)
  | 1 => ("PileTricks$Rules", "code", "[I", true)
  | 2 => ("PileTricks$Rules", "codeEnds", "[I", true)
  | 3 => ("PileTricks$Rules", "waiting", "[I", true)
  | 4 => ("PileTricks$Rules", "compared", "[Z", true)
  | 5 => ("PileTricks$Rules", "values", "[I", true)
  | 6 => ("PileTricks$Rules", "pending", "[I", true)
  | 7 => ("PileTricks$Rules", "length", "I", false)
  | 8 => ("PileTricks$Rules", "waits", "I", false)
  | 9 => ("PileTricks$Rules", "depth", "I", false)
  | 10 => ("PileTricks$Rules", "nots", "I", false)
  | 11 => ("PileTricks$Rules", "notMayStand", "Z", false)
  | 12 => ("PileTricks$Rules", "partIsDue", "Z", false)
  | _ => ("PileTricks$Rules", "closed", "Z", false)
def tyX3 : Nat → FieldType := fun k => match k with
  | 0 => .object "PileTricks$Tape"
  | 1 => .array .int
  | 2 => .array .int
  | 3 => .array .int
  | 4 => .array .boolean
  | 5 => .array .int
  | 6 => .array .int
  | 7 => .int
  | 8 => .int
  | 9 => .int
  | 10 => .int
  | 11 => .boolean
  | 12 => .boolean
  | _ => .boolean
abbrev wsX30 : List Cond := u_ws RX3 TX3 14
theorem nmX3 : ∀ a, a < 14 → ∀ b, b < 14 → a ≠ b → (TX3 a).2.1 ≠ (TX3 b).2.1 := by decide +kernel
theorem tyX3_ok : ∀ k, k < 14 → parseFieldDescriptor (TX3 k).2.2.1 = some (tyX3 k) := by decide +kernel
abbrev cX3_init : ByteArray := prog_5_method_1_code
def yX3_init : MethodName := ⟨RX3, "<init>", "(LPileTricks$Tape;)V"⟩
abbrev cX3_readRule : ByteArray := prog_5_method_2_code
def yX3_readRule : MethodName := ⟨RX3, "readRule", "(I)I"⟩
abbrev cX3_openExpr : ByteArray := prog_5_method_3_code
def yX3_openExpr : MethodName := ⟨RX3, "openExpr", "()V"⟩
abbrev cX3_openNot : ByteArray := prog_5_method_4_code
def yX3_openNot : MethodName := ⟨RX3, "openNot", "()V"⟩
abbrev cX3_readPart : ByteArray := prog_5_method_5_code
def yX3_readPart : MethodName := ⟨RX3, "readPart", "()I"⟩
abbrev cX3_readNot : ByteArray := prog_5_method_6_code
def yX3_readNot : MethodName := ⟨RX3, "readNot", "()I"⟩
abbrev cX3_readNumberPart : ByteArray := prog_5_method_7_code
def yX3_readNumberPart : MethodName := ⟨RX3, "readNumberPart", "()I"⟩
abbrev cX3_readValue : ByteArray := prog_5_method_8_code
def yX3_readValue : MethodName := ⟨RX3, "readValue", "()I"⟩
abbrev cX3_readBehindPart : ByteArray := prog_5_method_9_code
def yX3_readBehindPart : MethodName := ⟨RX3, "readBehindPart", "()I"⟩
abbrev cX3_closeRule : ByteArray := prog_5_method_10_code
def yX3_closeRule : MethodName := ⟨RX3, "closeRule", "()I"⟩
abbrev cX3_closeExpr : ByteArray := prog_5_method_11_code
def yX3_closeExpr : MethodName := ⟨RX3, "closeExpr", "()I"⟩
abbrev cX3_operatorThere : ByteArray := prog_5_method_12_code
def yX3_operatorThere : MethodName := ⟨RX3, "operatorThere", "()I"⟩
abbrev cX3_bindingOf : ByteArray := prog_5_method_13_code
def yX3_bindingOf : MethodName := ⟨RX3, "bindingOf", "(I)I"⟩
abbrev cX3_await : ByteArray := prog_5_method_14_code
def yX3_await : MethodName := ⟨RX3, "await", "(I)V"⟩
abbrev cX3_writeWaiting : ByteArray := prog_5_method_15_code
def yX3_writeWaiting : MethodName := ⟨RX3, "writeWaiting", "(I)V"⟩
abbrev cX3_write : ByteArray := prog_5_method_16_code
def yX3_write : MethodName := ⟨RX3, "write", "(I)V"⟩
abbrev cX3_isCompared : ByteArray := prog_5_method_17_code
def yX3_isCompared : MethodName := ⟨RX3, "isCompared", "()Z"⟩
abbrev cX3_setCompared : ByteArray := prog_5_method_18_code
def yX3_setCompared : MethodName := ⟨RX3, "setCompared", "(Z)V"⟩
abbrev cX3_setValue : ByteArray := prog_5_method_19_code
def yX3_setValue : MethodName := ⟨RX3, "setValue", "(II)V"⟩
abbrev cX3_workOut : ByteArray := prog_5_method_20_code
def yX3_workOut : MethodName := ⟨RX3, "workOut", "(I)I"⟩
abbrev cX3_joined : ByteArray := prog_5_method_21_code
def yX3_joined : MethodName := ⟨RX3, "joined", "(III)I"⟩
abbrev cX3_truth : ByteArray := prog_5_method_22_code
def yX3_truth : MethodName := ⟨RX3, "truth", "(Z)I"⟩
def RX4 : String := "PileTricks$Setting"
def TX4 : u_T := fun k => match k with
  | 0 => ("PileTricks$Setting", "kinds", "[I", true)
  | 1 => ("PileTricks$Setting", "sides", "[I", true)
  | 2 => ("PileTricks$Setting", "layings", "[I", true)
  | 3 => ("PileTricks$Setting", "followed", "[I", true)
  | 4 => ("PileTricks$Setting", "cards", "I", false)
  | 5 => ("PileTricks$Setting", "heaps", "I", false)
  | 6 => ("PileTricks$Setting", "lies", "I", false)
  | 7 => ("PileTricks$Setting", "wish", "I", false)
  | 8 => ("PileTricks$Setting", "deals", "I", false)
  | _ => ("PileTricks$Setting", "rounds", "I", false)
def tyX4 : Nat → FieldType := fun k => match k with
  | 0 => .array .int
  | 1 => .array .int
  | 2 => .array .int
  | 3 => .array .int
  | 4 => .int
  | 5 => .int
  | 6 => .int
  | 7 => .int
  | 8 => .int
  | _ => .int
abbrev wsX40 : List Cond := u_ws RX4 TX4 10
theorem nmX4 : ∀ a, a < 10 → ∀ b, b < 10 → a ≠ b → (TX4 a).2.1 ≠ (TX4 b).2.1 := by decide +kernel
theorem tyX4_ok : ∀ k, k < 10 → parseFieldDescriptor (TX4 k).2.2.1 = some (tyX4 k) := by decide +kernel
abbrev cX4_init : ByteArray := prog_6_method_1_code
def yX4_init : MethodName := ⟨RX4, "<init>", "()V"⟩
abbrev cX4_takeOver : ByteArray := prog_6_method_2_code
def yX4_takeOver : MethodName := ⟨RX4, "takeOver", "(LPileTricks$Reader;LPileTricks$Dealer;)V"⟩
abbrev cX4_takeDeals : ByteArray := prog_6_method_3_code
def yX4_takeDeals : MethodName := ⟨RX4, "takeDeals", "(LPileTricks$Reader;LPileTricks$Dealer;)V"⟩
abbrev cX4_takeDealOfNone : ByteArray := prog_6_method_4_code
def yX4_takeDealOfNone : MethodName := ⟨RX4, "takeDealOfNone", "()V"⟩
abbrev cX4_follow : ByteArray := prog_6_method_5_code
def yX4_follow : MethodName := ⟨RX4, "follow", "(ILPileTricks$Dealer;)V"⟩
abbrev cX4_kindOf : ByteArray := prog_6_method_6_code
def yX4_kindOf : MethodName := ⟨RX4, "kindOf", "(I)I"⟩
abbrev cX4_sideOf : ByteArray := prog_6_method_7_code
def yX4_sideOf : MethodName := ⟨RX4, "sideOf", "(I)I"⟩
abbrev cX4_layingOf : ByteArray := prog_6_method_8_code
def yX4_layingOf : MethodName := ⟨RX4, "layingOf", "(II)I"⟩
abbrev cX4_followedTo : ByteArray := prog_6_method_9_code
def yX4_followedTo : MethodName := ⟨RX4, "followedTo", "(II)I"⟩
abbrev cX4_followedEnd : ByteArray := prog_6_method_10_code
def yX4_followedEnd : MethodName := ⟨RX4, "followedEnd", "(II)I"⟩
abbrev cX4_hasPlace : ByteArray := prog_6_method_11_code
def yX4_hasPlace : MethodName := ⟨RX4, "hasPlace", "(I)Z"⟩
abbrev cX4_hasHeap : ByteArray := prog_6_method_12_code
def yX4_hasHeap : MethodName := ⟨RX4, "hasHeap", "(I)Z"⟩
abbrev cX4_allows : ByteArray := prog_6_method_13_code
def yX4_allows : MethodName := ⟨RX4, "allows", "(IIII)Z"⟩
def RX5 : String := "PileTricks$Table"
def TX5 : u_T := fun k => match k with
  | 0 => ("PileTricks$Table", "pack", "[I", true)
  | 1 => ("PileTricks$Table", "seen", "[I", true)
  | 2 => ("PileTricks$Table", "falses", "[I", true)
  | 3 => ("PileTricks$Table", "codes", "[I", true)
  | _ => ("PileTricks$Table", "answers", "I", false)
def tyX5 : Nat → FieldType := fun k => match k with
  | 0 => .array .int
  | 1 => .array .int
  | 2 => .array .int
  | 3 => .array .int
  | _ => .int
abbrev wsX50 : List Cond := u_ws RX5 TX5 5
theorem nmX5 : ∀ a, a < 5 → ∀ b, b < 5 → a ≠ b → (TX5 a).2.1 ≠ (TX5 b).2.1 := by decide +kernel
theorem tyX5_ok : ∀ k, k < 5 → parseFieldDescriptor (TX5 k).2.2.1 = some (tyX5 k) := by decide +kernel
abbrev cX5_init : ByteArray := prog_7_method_1_code
def yX5_init : MethodName := ⟨RX5, "<init>", "()V"⟩
abbrev cX5_layOut : ByteArray := prog_7_method_2_code
def yX5_layOut : MethodName := ⟨RX5, "layOut", "()V"⟩
abbrev cX5_copyFrom : ByteArray := prog_7_method_3_code
def yX5_copyFrom : MethodName := ⟨RX5, "copyFrom", "(LPileTricks$Table;)V"⟩
abbrev cX5_take : ByteArray := prog_7_method_4_code
def yX5_take : MethodName := ⟨RX5, "take", "(I)V"⟩
abbrev cX5_dealLast : ByteArray := prog_7_method_5_code
def yX5_dealLast : MethodName := ⟨RX5, "dealLast", "(LPileTricks$Dealer;[I)V"⟩
abbrev cX5_gatherLast : ByteArray := prog_7_method_6_code
def yX5_gatherLast : MethodName := ⟨RX5, "gatherLast", "(LPileTricks$Dealer;[I)V"⟩
abbrev cX5_comesBy : ByteArray := prog_7_method_7_code
def yX5_comesBy : MethodName := ⟨RX5, "comesBy", "(ILPileTricks$Dealer;)Z"⟩
abbrev cX5_fitting : ByteArray := prog_7_method_8_code
def yX5_fitting : MethodName := ⟨RX5, "fitting", "(LPileTricks$Setting;)J"⟩
abbrev cX5_layBy : ByteArray := prog_7_method_9_code
def yX5_layBy : MethodName := ⟨RX5, "layBy", "(ILPileTricks$Dealer;)V"⟩
abbrev cX5_falseAt : ByteArray := prog_7_method_10_code
def yX5_falseAt : MethodName := ⟨RX5, "falseAt", "(IILPileTricks$Dealer;)I"⟩
def RX6 : String := "PileTricks$Tape"
def TX6 : u_T := fun k => match k with
  | 0 => ("PileTricks$Tape", "bytes", "[B", true)
  | 1 => ("PileTricks$Tape", "length", "I", false)
  | 2 => ("PileTricks$Tape", "textEnd", "I", false)
  | 3 => ("PileTricks$Tape", "next", "I", false)
  | 4 => ("PileTricks$Tape", "start", "I", false)
  | 5 => ("PileTricks$Tape", "type", "I", false)
  | 6 => ("PileTricks$Tape", "word", "LPileTricks$Word;", false)
  | 7 => ("PileTricks$Tape", "number", "I", false)
  | _ => ("PileTricks$Tape", "sign", "I", false)
def tyX6 : Nat → FieldType := fun k => match k with
  | 0 => .array .byte
  | 1 => .int
  | 2 => .int
  | 3 => .int
  | 4 => .int
  | 5 => .int
  | 6 => .object "PileTricks$Word"
  | 7 => .int
  | _ => .int
abbrev wsX60 : List Cond := u_ws RX6 TX6 9
theorem nmX6 : ∀ a, a < 9 → ∀ b, b < 9 → a ≠ b → (TX6 a).2.1 ≠ (TX6 b).2.1 := by decide +kernel
theorem tyX6_ok : ∀ k, k < 9 → parseFieldDescriptor (TX6 k).2.2.1 = some (tyX6 k) := by decide +kernel
abbrev cX6_init : ByteArray := prog_8_method_1_code
def yX6_init : MethodName := ⟨RX6, "<init>", "()V"⟩
abbrev cX6_append : ByteArray := prog_8_method_2_code
def yX6_append : MethodName := ⟨RX6, "append", "(I)V"⟩
abbrev cX6_openText : ByteArray := prog_8_method_3_code
def yX6_openText : MethodName := ⟨RX6, "openText", "(I)V"⟩
abbrev cX6_advance : ByteArray := prog_8_method_4_code
def yX6_advance : MethodName := ⟨RX6, "advance", "()V"⟩
abbrev cX6_takeWord : ByteArray := prog_8_method_5_code
def yX6_takeWord : MethodName := ⟨RX6, "takeWord", "()V"⟩
abbrev cX6_takeNumber : ByteArray := prog_8_method_6_code
def yX6_takeNumber : MethodName := ⟨RX6, "takeNumber", "()V"⟩
abbrev cX6_isLongNumber : ByteArray := prog_8_method_7_code
def yX6_isLongNumber : MethodName := ⟨RX6, "isLongNumber", "()Z"⟩
abbrev cX6_isSpelled : ByteArray := prog_8_method_8_code
def yX6_isSpelled : MethodName := ⟨RX6, "isSpelled", "(Ljava/lang/String;)Z"⟩
abbrev cX6_byteAt : ByteArray := prog_8_method_9_code
def yX6_byteAt : MethodName := ⟨RX6, "byteAt", "(I)I"⟩
abbrev cX6_isBlank : ByteArray := prog_8_method_10_code
def yX6_isBlank : MethodName := ⟨RX6, "isBlank", "(I)Z"⟩
abbrev cX6_isLetter : ByteArray := prog_8_method_11_code
def yX6_isLetter : MethodName := ⟨RX6, "isLetter", "(I)Z"⟩
abbrev cX6_isDigit : ByteArray := prog_8_method_12_code
def yX6_isDigit : MethodName := ⟨RX6, "isDigit", "(I)Z"⟩
def RX7 : String := "PileTricks$Wishes"
def TX7 : u_T := fun k => match k with
  | 0 => ("PileTricks$Wishes", "setting", "LPileTricks$Setting;", true)
  | 1 => ("PileTricks$Wishes", "dealer", "LPileTricks$Dealer;", true)
  | 2 => ("PileTricks$Wishes", "deals", "I", false)
  | 3 => ("PileTricks$Wishes", "rows", "I", false)
  | 4 => ("PileTricks$Wishes", "firstRow", "I", false)
  | 5 => ("PileTricks$Wishes", "keptRow", "I", false)
  | _ => ("PileTricks$Wishes", "keptLength", "I", false)
def tyX7 : Nat → FieldType := fun k => match k with
  | 0 => .object "PileTricks$Setting"
  | 1 => .object "PileTricks$Dealer"
  | 2 => .int
  | 3 => .int
  | 4 => .int
  | 5 => .int
  | _ => .int
abbrev wsX70 : List Cond := u_ws RX7 TX7 7
theorem nmX7 : ∀ a, a < 7 → ∀ b, b < 7 → a ≠ b → (TX7 a).2.1 ≠ (TX7 b).2.1 := by decide +kernel
theorem tyX7_ok : ∀ k, k < 7 → parseFieldDescriptor (TX7 k).2.2.1 = some (tyX7 k) := by decide +kernel
abbrev cX7_init : ByteArray := prog_9_method_1_code
def yX7_init : MethodName := ⟨RX7, "<init>", "(LPileTricks$Setting;LPileTricks$Dealer;)V"⟩
abbrev cX7_rowsFor : ByteArray := prog_9_method_2_code
def yX7_rowsFor : MethodName := ⟨RX7, "rowsFor", "(II)I"⟩
abbrev cX7_keepFirst : ByteArray := prog_9_method_3_code
def yX7_keepFirst : MethodName := ⟨RX7, "keepFirst", "()V"⟩
abbrev cX7_keptLaying : ByteArray := prog_9_method_4_code
def yX7_keptLaying : MethodName := ⟨RX7, "keptLaying", "(I)I"⟩
abbrev cX7_seek : ByteArray := prog_9_method_5_code
def yX7_seek : MethodName := ⟨RX7, "seek", "(IJII)V"⟩
abbrev cX7_comesFrom : ByteArray := prog_9_method_6_code
def yX7_comesFrom : MethodName := ⟨RX7, "comesFrom", "(IIJ)J"⟩
def RX8 : String := "PileTricks$Word"
def TX8 : u_T := fun k => match k with
  | _ => ("", "", "", false)
def tyX8 : Nat → FieldType := fun k => match k with
  | _ => .int
abbrev wsX80 : List Cond := u_ws RX8 TX8 0
theorem nmX8 : ∀ a, a < 0 → ∀ b, b < 0 → a ≠ b → (TX8 a).2.1 ≠ (TX8 b).2.1 := by decide +kernel
theorem tyX8_ok : ∀ k, k < 0 → parseFieldDescriptor (TX8 k).2.2.1 = some (tyX8 k) := by decide +kernel
def RX9 : String := "PileTricks"
def TX9 : u_T := fun k => match k with
  | 0 => ("PileTricks", "tape", "LPileTricks$Tape;", true)
  | 1 => ("PileTricks", "reader", "LPileTricks$Reader;", true)
  | 2 => ("PileTricks", "dealer", "LPileTricks$Dealer;", true)
  | 3 => ("PileTricks", "setting", "LPileTricks$Setting;", true)
  | 4 => ("PileTricks", "wishes", "LPileTricks$Wishes;", true)
  | 5 => ("PileTricks", "guesses", "LPileTricks$Guesses;", true)
  | 6 => ("PileTricks", "table", "LPileTricks$Table;", true)
  | 7 => ("PileTricks", "kept", "LPileTricks$Table;", true)
  | 8 => ("PileTricks", "ends", "[I", true)
  | 9 => ("PileTricks", "imageKept", "Z", false)
  | 10 => ("PileTricks", "faultAt", "I", false)
  | 11 => ("PileTricks", "faultyTexts", "I", false)
  | _ => ("PileTricks", "refusedAnswers", "I", false)
def tyX9 : Nat → FieldType := fun k => match k with
  | 0 => .object "PileTricks$Tape"
  | 1 => .object "PileTricks$Reader"
  | 2 => .object "PileTricks$Dealer"
  | 3 => .object "PileTricks$Setting"
  | 4 => .object "PileTricks$Wishes"
  | 5 => .object "PileTricks$Guesses"
  | 6 => .object "PileTricks$Table"
  | 7 => .object "PileTricks$Table"
  | 8 => .array .int
  | 9 => .boolean
  | 10 => .int
  | 11 => .int
  | _ => .int
abbrev wsX90 : List Cond := u_ws RX9 TX9 13
theorem nmX9 : ∀ a, a < 13 → ∀ b, b < 13 → a ≠ b → (TX9 a).2.1 ≠ (TX9 b).2.1 := by decide +kernel
theorem tyX9_ok : ∀ k, k < 13 → parseFieldDescriptor (TX9 k).2.2.1 = some (tyX9 k) := by decide +kernel
abbrev cX9_init : ByteArray := prog_1_method_1_code
def yX9_init : MethodName := ⟨RX9, "<init>", "()V"⟩
abbrev cX9_feed : ByteArray := prog_1_method_2_code
def yX9_feed : MethodName := ⟨RX9, "feed", "(IIIII)I"⟩
abbrev cX9_trick : ByteArray := prog_1_method_3_code
def yX9_trick : MethodName := ⟨RX9, "trick", "(I)I"⟩
abbrev cX9_fault : ByteArray := prog_1_method_4_code
def yX9_fault : MethodName := ⟨RX9, "fault", "()I"⟩
abbrev cX9_count : ByteArray := prog_1_method_5_code
def yX9_count : MethodName := ⟨RX9, "count", "(I)I"⟩
abbrev cX9_told : ByteArray := prog_1_method_6_code
def yX9_told : MethodName := ⟨RX9, "told", "(III)I"⟩
abbrev cX9_goes : ByteArray := prog_1_method_7_code
def yX9_goes : MethodName := ⟨RX9, "goes", "(III)I"⟩
abbrev cX9_end : ByteArray := prog_1_method_8_code
def yX9_end : MethodName := ⟨RX9, "end", "(II)I"⟩
abbrev cX9_sure : ByteArray := prog_1_method_9_code
def yX9_sure : MethodName := ⟨RX9, "sure", "(I)I"⟩
abbrev cX9_soonest : ByteArray := prog_1_method_10_code
def yX9_soonest : MethodName := ⟨RX9, "soonest", "()I"⟩
abbrev cX9_wished : ByteArray := prog_1_method_11_code
def yX9_wished : MethodName := ⟨RX9, "wished", "(II)I"⟩
abbrev cX9_laying : ByteArray := prog_1_method_12_code
def yX9_laying : MethodName := ⟨RX9, "laying", "(I)I"⟩
abbrev cX9_fewest : ByteArray := prog_1_method_13_code
def yX9_fewest : MethodName := ⟨RX9, "fewest", "(I)I"⟩
abbrev cX9_always : ByteArray := prog_1_method_14_code
def yX9_always : MethodName := ⟨RX9, "always", "(IIII)J"⟩
abbrev cX9_two : ByteArray := prog_1_method_15_code
def yX9_two : MethodName := ⟨RX9, "two", "(III)I"⟩
abbrev cX9_worst : ByteArray := prog_1_method_16_code
def yX9_worst : MethodName := ⟨RX9, "worst", "(I)I"⟩
abbrev cX9_card : ByteArray := prog_1_method_17_code
def yX9_card : MethodName := ⟨RX9, "card", "(I)I"⟩
abbrev cX9_answer : ByteArray := prog_1_method_18_code
def yX9_answer : MethodName := ⟨RX9, "answer", "(IIII)I"⟩
abbrev cX9_undo : ByteArray := prog_1_method_19_code
def yX9_undo : MethodName := ⟨RX9, "undo", "()I"⟩
abbrev cX9_lies : ByteArray := prog_1_method_20_code
def yX9_lies : MethodName := ⟨RX9, "lies", "(I)I"⟩
abbrev cX9_fits : ByteArray := prog_1_method_21_code
def yX9_fits : MethodName := ⟨RX9, "fits", "()J"⟩
abbrev cX9_see : ByteArray := prog_1_method_22_code
def yX9_see : MethodName := ⟨RX9, "see", "()V"⟩
abbrev cX9_between : ByteArray := prog_1_method_23_code
def yX9_between : MethodName := ⟨RX9, "between", "(I)I"⟩
abbrev cX9_evenings : ByteArray := prog_1_method_24_code
def yX9_evenings : MethodName := ⟨RX9, "evenings", "(III)I"⟩
abbrev cX9_weighings : ByteArray := prog_1_method_25_code
def yX9_weighings : MethodName := ⟨RX9, "weighings", "(IZ)I"⟩
abbrev cX9_image : ByteArray := prog_1_method_26_code
def yX9_image : MethodName := ⟨RX9, "image", "()V"⟩
abbrev cX9_restore : ByteArray := prog_1_method_27_code
def yX9_restore : MethodName := ⟨RX9, "restore", "()Z"⟩
abbrev cX9_startAnew : ByteArray := prog_1_method_28_code
def yX9_startAnew : MethodName := ⟨RX9, "startAnew", "()V"⟩
abbrev cX9_startEnds : ByteArray := prog_1_method_29_code
def yX9_startEnds : MethodName := ⟨RX9, "startEnds", "()V"⟩
abbrev cX9_moveEnds : ByteArray := prog_1_method_30_code
def yX9_moveEnds : MethodName := ⟨RX9, "moveEnds", "(I)V"⟩
abbrev cX9_commonEnd : ByteArray := prog_1_method_31_code
def yX9_commonEnd : MethodName := ⟨RX9, "commonEnd", "()I"⟩
abbrev cX9_roundFrom : ByteArray := prog_1_method_32_code
def yX9_roundFrom : MethodName := ⟨RX9, "roundFrom", "(I)J"⟩
abbrev cX9_isDeal : ByteArray := prog_1_method_33_code
def yX9_isDeal : MethodName := ⟨RX9, "isDeal", "(I)Z"⟩
abbrev cX9_dealCode : ByteArray := prog_1_method_34_code
def yX9_dealCode : MethodName := ⟨RX9, "dealCode", "(IIII)I"⟩
abbrev cX9_figure : ByteArray := prog_1_method_35_code
def yX9_figure : MethodName := ⟨RX9, "figure", "(II)I"⟩
abbrev cX9_isWithin : ByteArray := prog_1_method_36_code
def yX9_isWithin : MethodName := ⟨RX9, "isWithin", "(III)Z"⟩
abbrev cX9_power : ByteArray := prog_1_method_37_code
def yX9_power : MethodName := ⟨RX9, "power", "(II)I"⟩
abbrev cX9_leastCommonMultiple : ByteArray := prog_1_method_38_code
def yX9_leastCommonMultiple : MethodName := ⟨RX9, "leastCommonMultiple", "(JJ)J"⟩
abbrev cX9_rest : ByteArray := prog_1_method_39_code
def yX9_rest : MethodName := ⟨RX9, "rest", "(II)I"⟩
abbrev cX9_share : ByteArray := prog_1_method_40_code
def yX9_share : MethodName := ⟨RX9, "share", "(II)I"⟩
abbrev cX9_at : ByteArray := prog_1_method_41_code
def yX9_at : MethodName := ⟨RX9, "at", "([II)I"⟩
abbrev cX9_put : ByteArray := prog_1_method_42_code
def yX9_put : MethodName := ⟨RX9, "put", "([III)V"⟩
abbrev cX9_copy : ByteArray := prog_1_method_43_code
def yX9_copy : MethodName := ⟨RX9, "copy", "([I[I)V"⟩
def RX10 : String := "PileTricksModel"
def TX10 : u_T := fun k => match k with
  | 0 => ("PileTricksModel", "thrown", "I", false)
  | 1 => ("PileTricksModel", "cards", "I", false)
  | 2 => ("PileTricksModel", "heaps", "I", false)
  | 3 => ("PileTricksModel", "deals", "I", false)
  | 4 => ("PileTricksModel", "most", "I", false)
  | 5 => ("PileTricksModel", "wish", "I", false)
  | 6 => ("PileTricksModel", "kind", "[I", true)
  | 7 => ("PileTricksModel", "side", "[I", true)
  | 8 => ("PileTricksModel", "ruleAt", "[I", true)
  | 9 => ("PileTricksModel", "code", "[I", true)
  | 10 => ("PileTricksModel", "tape", "[I", true)
  | 11 => ("PileTricksModel", "taped", "I", false)
  | 12 => ("PileTricksModel", "faultKind", "I", false)
  | 13 => ("PileTricksModel", "faultPlace", "I", false)
  | 14 => ("PileTricksModel", "refused", "[I", true)
  | 15 => ("PileTricksModel", "long1", "I", false)
  | 16 => ("PileTricksModel", "next", "I", false)
  | 17 => ("PileTricksModel", "sort", "I", false)
  | 18 => ("PileTricksModel", "place", "I", false)
  | 19 => ("PileTricksModel", "long0", "I", false)
  | 20 => ("PileTricksModel", "value", "I", false)
  | 21 => ("PileTricksModel", "sign", "I", false)
  | 22 => ("PileTricksModel", "word", "J", false)
  | 23 => ("PileTricksModel", "newCards", "I", false)
  | 24 => ("PileTricksModel", "newHeaps", "I", false)
  | 25 => ("PileTricksModel", "newDeals", "I", false)
  | 26 => ("PileTricksModel", "newMost", "I", false)
  | 27 => ("PileTricksModel", "newWish", "I", false)
  | 28 => ("PileTricksModel", "toldOnce", "I", false)
  | 29 => ("PileTricksModel", "top", "I", false)
  | 30 => ("PileTricksModel", "waiting", "I", false)
  | 31 => ("PileTricksModel", "depth", "I", false)
  | 32 => ("PileTricksModel", "newKind", "[I", true)
  | 33 => ("PileTricksModel", "newSide", "[I", true)
  | 34 => ("PileTricksModel", "newRuleAt", "[I", true)
  | 35 => ("PileTricksModel", "readCode", "[I", true)
  | 36 => ("PileTricksModel", "waits", "[I", true)
  | 37 => ("PileTricksModel", "tested", "[Z", true)
  | 38 => ("PileTricksModel", "heapOf", "[I", true)
  | 39 => ("PileTricksModel", "ahead", "[I", true)
  | 40 => ("PileTricksModel", "sizes", "[I", true)
  | 41 => ("PileTricksModel", "firsts", "[I", true)
  | 42 => ("PileTricksModel", "order", "[I", true)
  | 43 => ("PileTricksModel", "pile", "[I", true)
  | 44 => ("PileTricksModel", "ends", "[I", true)
  | 45 => ("PileTricksModel", "then", "[I", true)
  | 46 => ("PileTricksModel", "rowAt", "[I", true)
  | 47 => ("PileTricksModel", "kept", "[I", true)
  | 48 => ("PileTricksModel", "keptLong", "I", false)
  | 49 => ("PileTricksModel", "found", "I", false)
  | 50 => ("PileTricksModel", "lying", "[I", true)
  | 51 => ("PileTricksModel", "wrongs", "[I", true)
  | 52 => ("PileTricksModel", "answers", "I", false)
  | 53 => ("PileTricksModel", "pack", "[I", true)
  | 54 => ("PileTricksModel", "seen", "[I", true)
  | 55 => ("PileTricksModel", "missed", "[I", true)
  | 56 => ("PileTricksModel", "packs", "[I", true)
  | 57 => ("PileTricksModel", "misses", "[I", true)
  | 58 => ("PileTricksModel", "laid", "[I", true)
  | 59 => ("PileTricksModel", "hasImage", "Z", false)
  | 60 => ("PileTricksModel", "imageAnswers", "I", false)
  | 61 => ("PileTricksModel", "imagePack", "[I", true)
  | 62 => ("PileTricksModel", "imageSeen", "[I", true)
  | 63 => ("PileTricksModel", "imageMissed", "[I", true)
  | 64 => ("PileTricksModel", "imagePacks", "[I", true)
  | _ => ("PileTricksModel", "imageMisses", "[I", true)
def tyX10 : Nat → FieldType := fun k => match k with
  | 0 => .int
  | 1 => .int
  | 2 => .int
  | 3 => .int
  | 4 => .int
  | 5 => .int
  | 6 => .array .int
  | 7 => .array .int
  | 8 => .array .int
  | 9 => .array .int
  | 10 => .array .int
  | 11 => .int
  | 12 => .int
  | 13 => .int
  | 14 => .array .int
  | 15 => .int
  | 16 => .int
  | 17 => .int
  | 18 => .int
  | 19 => .int
  | 20 => .int
  | 21 => .int
  | 22 => .long
  | 23 => .int
  | 24 => .int
  | 25 => .int
  | 26 => .int
  | 27 => .int
  | 28 => .int
  | 29 => .int
  | 30 => .int
  | 31 => .int
  | 32 => .array .int
  | 33 => .array .int
  | 34 => .array .int
  | 35 => .array .int
  | 36 => .array .int
  | 37 => .array .boolean
  | 38 => .array .int
  | 39 => .array .int
  | 40 => .array .int
  | 41 => .array .int
  | 42 => .array .int
  | 43 => .array .int
  | 44 => .array .int
  | 45 => .array .int
  | 46 => .array .int
  | 47 => .array .int
  | 48 => .int
  | 49 => .int
  | 50 => .array .int
  | 51 => .array .int
  | 52 => .int
  | 53 => .array .int
  | 54 => .array .int
  | 55 => .array .int
  | 56 => .array .int
  | 57 => .array .int
  | 58 => .array .int
  | 59 => .boolean
  | 60 => .int
  | 61 => .array .int
  | 62 => .array .int
  | 63 => .array .int
  | 64 => .array .int
  | _ => .array .int
abbrev wsX100 : List Cond := u_ws RX10 TX10 66
theorem nmX10 : ∀ a, a < 66 → ∀ b, b < 66 → a ≠ b → (TX10 a).2.1 ≠ (TX10 b).2.1 := by decide +kernel
theorem tyX10_ok : ∀ k, k < 66 → parseFieldDescriptor (TX10 k).2.2.1 = some (tyX10 k) := by decide +kernel
abbrev cX10_init : ByteArray := prog_12_method_1_code
def yX10_init : MethodName := ⟨RX10, "<init>", "()V"⟩
abbrev cX10_thrown : ByteArray := prog_12_method_2_code
def yX10_thrown : MethodName := ⟨RX10, "thrown", "()I"⟩
abbrev cX10_right : ByteArray := prog_12_method_3_code
def yX10_right : MethodName := ⟨RX10, "right", "(ZI)Z"⟩
abbrev cX10_within : ByteArray := prog_12_method_4_code
def yX10_within : MethodName := ⟨RX10, "within", "(III)Z"⟩
abbrev cX10_copies : ByteArray := prog_12_method_5_code
def yX10_copies : MethodName := ⟨RX10, "copies", "([I[I)V"⟩
abbrev cX10_feed : ByteArray := prog_12_method_6_code
def yX10_feed : MethodName := ⟨RX10, "feed", "(IIIII)I"⟩
abbrev cX10_lays : ByteArray := prog_12_method_7_code
def yX10_lays : MethodName := ⟨RX10, "lays", "(I)V"⟩
abbrev cX10_byteAt : ByteArray := prog_12_method_8_code
def yX10_byteAt : MethodName := ⟨RX10, "byteAt", "(I)I"⟩
abbrev cX10_isLetter : ByteArray := prog_12_method_9_code
def yX10_isLetter : MethodName := ⟨RX10, "isLetter", "(I)Z"⟩
abbrev cX10_isDigit : ByteArray := prog_12_method_10_code
def yX10_isDigit : MethodName := ⟨RX10, "isDigit", "(I)Z"⟩
abbrev cX10_goes0 : ByteArray := prog_12_method_11_code
def yX10_goes0 : MethodName := ⟨RX10, "goes0", "()V"⟩
abbrev cX10_spelled : ByteArray := prog_12_method_12_code
def yX10_spelled : MethodName := ⟨RX10, "spelled", "(IIIII)J"⟩
abbrev cX10_letters : ByteArray := prog_12_method_13_code
def yX10_letters : MethodName := ⟨RX10, "letters", "(I)J"⟩
abbrev cX10_knownWord : ByteArray := prog_12_method_14_code
def yX10_knownWord : MethodName := ⟨RX10, "knownWord", "()I"⟩
abbrev cX10_wrong : ByteArray := prog_12_method_15_code
def yX10_wrong : MethodName := ⟨RX10, "wrong", "(I)V"⟩
abbrev cX10_isGood : ByteArray := prog_12_method_16_code
def yX10_isGood : MethodName := ⟨RX10, "isGood", "()Z"⟩
abbrev cX10_isSign : ByteArray := prog_12_method_17_code
def yX10_isSign : MethodName := ⟨RX10, "isSign", "(I)Z"⟩
abbrev cX10_need : ByteArray := prog_12_method_18_code
def yX10_need : MethodName := ⟨RX10, "need", "(Z)V"⟩
abbrev cX10_number : ByteArray := prog_12_method_19_code
def yX10_number : MethodName := ⟨RX10, "number", "(II)I"⟩
abbrev cX10_puts : ByteArray := prog_12_method_20_code
def yX10_puts : MethodName := ⟨RX10, "puts", "(I)V"⟩
abbrev cX10_isOpen : ByteArray := prog_12_method_21_code
def yX10_isOpen : MethodName := ⟨RX10, "isOpen", "(I)Z"⟩
abbrev cX10_strength : ByteArray := prog_12_method_22_code
def yX10_strength : MethodName := ⟨RX10, "strength", "(I)I"⟩
abbrev cX10_drops : ByteArray := prog_12_method_23_code
def yX10_drops : MethodName := ⟨RX10, "drops", "(I)V"⟩
abbrev cX10_waitsFor : ByteArray := prog_12_method_24_code
def yX10_waitsFor : MethodName := ⟨RX10, "waitsFor", "(I)V"⟩
abbrev cX10_part : ByteArray := prog_12_method_25_code
def yX10_part : MethodName := ⟨RX10, "part", "()V"⟩
abbrev cX10_deeper : ByteArray := prog_12_method_26_code
def yX10_deeper : MethodName := ⟨RX10, "deeper", "()V"⟩
abbrev cX10_operand : ByteArray := prog_12_method_27_code
def yX10_operand : MethodName := ⟨RX10, "operand", "(Z)V"⟩
abbrev cX10_isOpened : ByteArray := prog_12_method_28_code
def yX10_isOpened : MethodName := ⟨RX10, "isOpened", "()Z"⟩
abbrev cX10_closes : ByteArray := prog_12_method_29_code
def yX10_closes : MethodName := ⟨RX10, "closes", "()V"⟩
abbrev cX10_expression : ByteArray := prog_12_method_30_code
def yX10_expression : MethodName := ⟨RX10, "expression", "()V"⟩
abbrev cX10_begins : ByteArray := prog_12_method_31_code
def yX10_begins : MethodName := ⟨RX10, "begins", "(I)Z"⟩
abbrev cX10_line : ByteArray := prog_12_method_32_code
def yX10_line : MethodName := ⟨RX10, "line", "()V"⟩
abbrev cX10_trick : ByteArray := prog_12_method_33_code
def yX10_trick : MethodName := ⟨RX10, "trick", "(I)I"⟩
abbrev cX10_anew : ByteArray := prog_12_method_34_code
def yX10_anew : MethodName := ⟨RX10, "anew", "()V"⟩
abbrev cX10_fault : ByteArray := prog_12_method_35_code
def yX10_fault : MethodName := ⟨RX10, "fault", "()I"⟩
abbrev cX10_count : ByteArray := prog_12_method_36_code
def yX10_count : MethodName := ⟨RX10, "count", "(I)I"⟩
abbrev cX10_heapAt : ByteArray := prog_12_method_37_code
def yX10_heapAt : MethodName := ⟨RX10, "heapAt", "(II)I"⟩
abbrev cX10_deals0 : ByteArray := prog_12_method_38_code
def yX10_deals0 : MethodName := ⟨RX10, "deals0", "(II)V"⟩
abbrev cX10_orders : ByteArray := prog_12_method_39_code
def yX10_orders : MethodName := ⟨RX10, "orders", "(III)V"⟩
abbrev cX10_both : ByteArray := prog_12_method_40_code
def yX10_both : MethodName := ⟨RX10, "both", "(III)I"⟩
abbrev cX10_goesTo : ByteArray := prog_12_method_41_code
def yX10_goesTo : MethodName := ⟨RX10, "goesTo", "(I)I"⟩
abbrev cX10_works : ByteArray := prog_12_method_42_code
def yX10_works : MethodName := ⟨RX10, "works", "(III)I"⟩
abbrev cX10_layingOf : ByteArray := prog_12_method_43_code
def yX10_layingOf : MethodName := ⟨RX10, "layingOf", "(II)I"⟩
abbrev cX10_kindOf : ByteArray := prog_12_method_44_code
def yX10_kindOf : MethodName := ⟨RX10, "kindOf", "(I)I"⟩
abbrev cX10_sideOf : ByteArray := prog_12_method_45_code
def yX10_sideOf : MethodName := ⟨RX10, "sideOf", "(I)I"⟩
abbrev cX10_numberOf : ByteArray := prog_12_method_46_code
def yX10_numberOf : MethodName := ⟨RX10, "numberOf", "(I)I"⟩
abbrev cX10_isPlace : ByteArray := prog_12_method_47_code
def yX10_isPlace : MethodName := ⟨RX10, "isPlace", "(I)Z"⟩
abbrev cX10_isHeap : ByteArray := prog_12_method_48_code
def yX10_isHeap : MethodName := ⟨RX10, "isHeap", "(II)Z"⟩
abbrev cX10_isMany : ByteArray := prog_12_method_49_code
def yX10_isMany : MethodName := ⟨RX10, "isMany", "(II)Z"⟩
abbrev cX10_told : ByteArray := prog_12_method_50_code
def yX10_told : MethodName := ⟨RX10, "told", "(III)I"⟩
abbrev cX10_goes : ByteArray := prog_12_method_51_code
def yX10_goes : MethodName := ⟨RX10, "goes", "(III)I"⟩
abbrev cX10_follows : ByteArray := prog_12_method_52_code
def yX10_follows : MethodName := ⟨RX10, "follows", "(II)V"⟩
abbrev cX10_first : ByteArray := prog_12_method_53_code
def yX10_first : MethodName := ⟨RX10, "first", "()V"⟩
abbrev cX10_endsBy : ByteArray := prog_12_method_54_code
def yX10_endsBy : MethodName := ⟨RX10, "endsBy", "(I)V"⟩
abbrev cX10_isOne : ByteArray := prog_12_method_55_code
def yX10_isOne : MethodName := ⟨RX10, "isOne", "()Z"⟩
abbrev cX10_end : ByteArray := prog_12_method_56_code
def yX10_end : MethodName := ⟨RX10, "end", "(II)I"⟩
abbrev cX10_sure : ByteArray := prog_12_method_57_code
def yX10_sure : MethodName := ⟨RX10, "sure", "(I)I"⟩
abbrev cX10_soonest : ByteArray := prog_12_method_58_code
def yX10_soonest : MethodName := ⟨RX10, "soonest", "()I"⟩
abbrev cX10_power : ByteArray := prog_12_method_59_code
def yX10_power : MethodName := ⟨RX10, "power", "(II)I"⟩
abbrev cX10_rowsFor : ByteArray := prog_12_method_60_code
def yX10_rowsFor : MethodName := ⟨RX10, "rowsFor", "(II)I"⟩
abbrev cX10_wished : ByteArray := prog_12_method_61_code
def yX10_wished : MethodName := ⟨RX10, "wished", "(II)I"⟩
abbrev cX10_laying : ByteArray := prog_12_method_62_code
def yX10_laying : MethodName := ⟨RX10, "laying", "(I)I"⟩
abbrev cX10_fewest : ByteArray := prog_12_method_63_code
def yX10_fewest : MethodName := ⟨RX10, "fewest", "(I)I"⟩
abbrev cX10_isDeal : ByteArray := prog_12_method_64_code
def yX10_isDeal : MethodName := ⟨RX10, "isDeal", "(IIII)Z"⟩
abbrev cX10_always : ByteArray := prog_12_method_65_code
def yX10_always : MethodName := ⟨RX10, "always", "(IIII)J"⟩
abbrev cX10_two : ByteArray := prog_12_method_66_code
def yX10_two : MethodName := ⟨RX10, "two", "(III)I"⟩
abbrev cX10_worst : ByteArray := prog_12_method_67_code
def yX10_worst : MethodName := ⟨RX10, "worst", "(I)I"⟩
abbrev cX10_card : ByteArray := prog_12_method_68_code
def yX10_card : MethodName := ⟨RX10, "card", "(I)I"⟩
abbrev cX10_fitting : ByteArray := prog_12_method_69_code
def yX10_fitting : MethodName := ⟨RX10, "fitting", "()I"⟩
abbrev cX10_answer : ByteArray := prog_12_method_70_code
def yX10_answer : MethodName := ⟨RX10, "answer", "(IIII)I"⟩
abbrev cX10_undo : ByteArray := prog_12_method_71_code
def yX10_undo : MethodName := ⟨RX10, "undo", "()I"⟩
abbrev cX10_lies : ByteArray := prog_12_method_72_code
def yX10_lies : MethodName := ⟨RX10, "lies", "(I)I"⟩
abbrev cX10_fits : ByteArray := prog_12_method_73_code
def yX10_fits : MethodName := ⟨RX10, "fits", "()J"⟩
abbrev cX10_see : ByteArray := prog_12_method_74_code
def yX10_see : MethodName := ⟨RX10, "see", "()V"⟩
abbrev cX10_isBetween : ByteArray := prog_12_method_75_code
def yX10_isBetween : MethodName := ⟨RX10, "isBetween", "(IIII)Z"⟩
abbrev cX10_between : ByteArray := prog_12_method_76_code
def yX10_between : MethodName := ⟨RX10, "between", "(I)I"⟩
abbrev cX10_evenings : ByteArray := prog_12_method_77_code
def yX10_evenings : MethodName := ⟨RX10, "evenings", "(III)I"⟩
abbrev cX10_weighings : ByteArray := prog_12_method_78_code
def yX10_weighings : MethodName := ⟨RX10, "weighings", "(IZ)I"⟩
abbrev cX10_image : ByteArray := prog_12_method_79_code
def yX10_image : MethodName := ⟨RX10, "image", "()V"⟩
abbrev cX10_restore : ByteArray := prog_12_method_80_code
def yX10_restore : MethodName := ⟨RX10, "restore", "()Z"⟩
def RJx145de : String := "java/io/Serializable"
def TJx145de : u_T := fun k => match k with
  | _ => ("", "", "", false)
def tyJx145de : Nat → FieldType := fun k => match k with
  | _ => .int
abbrev wsJx145de0 : List Cond := u_ws RJx145de TJx145de 0
theorem nmJx145de : ∀ a, a < 0 → ∀ b, b < 0 → a ≠ b → (TJx145de a).2.1 ≠ (TJx145de b).2.1 := by decide +kernel
theorem tyJx145de_ok : ∀ k, k < 0 → parseFieldDescriptor (TJx145de k).2.2.1 = some (tyJx145de k) := by decide +kernel
def RJx9f9b0 : String := "java/lang/CharSequence"
def TJx9f9b0 : u_T := fun k => match k with
  | _ => ("", "", "", false)
def tyJx9f9b0 : Nat → FieldType := fun k => match k with
  | _ => .int
abbrev wsJx9f9b00 : List Cond := u_ws RJx9f9b0 TJx9f9b0 0
theorem nmJx9f9b0 : ∀ a, a < 0 → ∀ b, b < 0 → a ≠ b → (TJx9f9b0 a).2.1 ≠ (TJx9f9b0 b).2.1 := by decide +kernel
theorem tyJx9f9b0_ok : ∀ k, k < 0 → parseFieldDescriptor (TJx9f9b0 k).2.2.1 = some (tyJx9f9b0 k) := by decide +kernel
def RJxb160c : String := "java/lang/Comparable"
def TJxb160c : u_T := fun k => match k with
  | _ => ("", "", "", false)
def tyJxb160c : Nat → FieldType := fun k => match k with
  | _ => .int
abbrev wsJxb160c0 : List Cond := u_ws RJxb160c TJxb160c 0
theorem nmJxb160c : ∀ a, a < 0 → ∀ b, b < 0 → a ≠ b → (TJxb160c a).2.1 ≠ (TJxb160c b).2.1 := by decide +kernel
theorem tyJxb160c_ok : ∀ k, k < 0 → parseFieldDescriptor (TJxb160c k).2.2.1 = some (tyJxb160c k) := by decide +kernel
def RJx29ce0 : String := "java/lang/Enum"
def TJx29ce0 : u_T := fun k => match k with
  | _ => ("", "", "", false)
def tyJx29ce0 : Nat → FieldType := fun k => match k with
  | _ => .int
abbrev wsJx29ce00 : List Cond := u_ws RJx29ce0 TJx29ce0 0
theorem nmJx29ce0 : ∀ a, a < 0 → ∀ b, b < 0 → a ≠ b → (TJx29ce0 a).2.1 ≠ (TJx29ce0 b).2.1 := by decide +kernel
theorem tyJx29ce0_ok : ∀ k, k < 0 → parseFieldDescriptor (TJx29ce0 k).2.2.1 = some (tyJx29ce0 k) := by decide +kernel
def RJ13 : String := "java/lang/Long"
def TJ13 : u_T := fun k => match k with
  | _ => ("", "", "", false)
def tyJ13 : Nat → FieldType := fun k => match k with
  | _ => .int
abbrev wsJ130 : List Cond := u_ws RJ13 TJ13 0
theorem nmJ13 : ∀ a, a < 0 → ∀ b, b < 0 → a ≠ b → (TJ13 a).2.1 ≠ (TJ13 b).2.1 := by decide +kernel
theorem tyJ13_ok : ∀ k, k < 0 → parseFieldDescriptor (TJ13 k).2.2.1 = some (tyJ13 k) := by decide +kernel
abbrev cJ13_bitCount_95d88 : ByteArray := prog_19_method_50_code
def yJ13_bitCount_95d88 : MethodName := ⟨RJ13, "bitCount", "(J)I"⟩
def RJ9 : String := "java/lang/Math"
def TJ9 : u_T := fun k => match k with
  | _ => ("", "", "", false)
def tyJ9 : Nat → FieldType := fun k => match k with
  | _ => .int
abbrev wsJ90 : List Cond := u_ws RJ9 TJ9 0
theorem nmJ9 : ∀ a, a < 0 → ∀ b, b < 0 → a ≠ b → (TJ9 a).2.1 ≠ (TJ9 b).2.1 := by decide +kernel
theorem tyJ9_ok : ∀ k, k < 0 → parseFieldDescriptor (TJ9 k).2.2.1 = some (tyJ9 k) := by decide +kernel
abbrev cJ9_floorMod_7cf53 : ByteArray := prog_20_method_50_code
def yJ9_floorMod_7cf53 : MethodName := ⟨RJ9, "floorMod", "(II)I"⟩
abbrev cJ9_max_7cf53 : ByteArray := prog_20_method_65_code
def yJ9_max_7cf53 : MethodName := ⟨RJ9, "max", "(II)I"⟩
abbrev cJ9_min_7cf53 : ByteArray := prog_20_method_69_code
def yJ9_min_7cf53 : MethodName := ⟨RJ9, "min", "(II)I"⟩
def RJ0 : String := "java/lang/String"
def TJ0 : u_T := fun k => match k with
  | _ => ("", "", "", false)
def tyJ0 : Nat → FieldType := fun k => match k with
  | _ => .int
abbrev wsJ00 : List Cond := u_ws RJ0 TJ0 0
theorem nmJ0 : ∀ a, a < 0 → ∀ b, b < 0 → a ≠ b → (TJ0 a).2.1 ≠ (TJ0 b).2.1 := by decide +kernel
theorem tyJ0_ok : ∀ k, k < 0 → parseFieldDescriptor (TJ0 k).2.2.1 = some (tyJ0 k) := by decide +kernel
abbrev cJ0_length_8abf5 : ByteArray := prog_22_method_54_code
def yJ0_length_8abf5 : MethodName := ⟨RJ0, "length", "()I"⟩
abbrev cJ0_charAt_5068e : ByteArray := prog_22_method_56_code
def yJ0_charAt_5068e : MethodName := ⟨RJ0, "charAt", "(I)C"⟩
abbrev cJ0_coder_7d493 : ByteArray := prog_22_method_152_code
def yJ0_coder_7d493 : MethodName := ⟨RJ0, "coder", "()B"⟩
abbrev cJ0_isLatin1_aae02 : ByteArray := prog_22_method_154_code
def yJ0_isLatin1_aae02 : MethodName := ⟨RJ0, "isLatin1", "()Z"⟩
abbrev cJ0_checkIndex_df160 : ByteArray := prog_22_method_155_code
def yJ0_checkIndex_df160 : MethodName := ⟨RJ0, "checkIndex", "(II)V"⟩
def RJ1 : String := "java/lang/StringLatin1"
def TJ1 : u_T := fun k => match k with
  | _ => ("", "", "", false)
def tyJ1 : Nat → FieldType := fun k => match k with
  | _ => .int
abbrev wsJ10 : List Cond := u_ws RJ1 TJ1 0
theorem nmJ1 : ∀ a, a < 0 → ∀ b, b < 0 → a ≠ b → (TJ1 a).2.1 ≠ (TJ1 b).2.1 := by decide +kernel
theorem tyJ1_ok : ∀ k, k < 0 → parseFieldDescriptor (TJ1 k).2.2.1 = some (tyJ1 k) := by decide +kernel
abbrev cJ1_charAt_3b067 : ByteArray := prog_23_method_2_code
def yJ1_charAt_3b067 : MethodName := ⟨RJ1, "charAt", "([BI)C"⟩
def RJ2 : String := "java/lang/StringUTF16"
def TJ2 : u_T := fun k => match k with
  | _ => ("", "", "", false)
def tyJ2 : Nat → FieldType := fun k => match k with
  | _ => .int
abbrev wsJ20 : List Cond := u_ws RJ2 TJ2 0
theorem nmJ2 : ∀ a, a < 0 → ∀ b, b < 0 → a ≠ b → (TJ2 a).2.1 ≠ (TJ2 b).2.1 := by decide +kernel
theorem tyJ2_ok : ∀ k, k < 0 → parseFieldDescriptor (TJ2 k).2.2.1 = some (tyJ2 k) := by decide +kernel
abbrev cJ2_getChar_3b067 : ByteArray := prog_24_method_5_code
def yJ2_getChar_3b067 : MethodName := ⟨RJ2, "getChar", "([BI)C"⟩
abbrev cJ2_length_9d52b : ByteArray := prog_24_method_6_code
def yJ2_length_9d52b : MethodName := ⟨RJ2, "length", "([B)I"⟩
abbrev cJ2_charAt_3b067 : ByteArray := prog_24_method_83_code
def yJ2_charAt_3b067 : MethodName := ⟨RJ2, "charAt", "([BI)C"⟩
abbrev cJ2_checkIndex_2214a : ByteArray := prog_24_method_91_code
def yJ2_checkIndex_2214a : MethodName := ⟨RJ2, "checkIndex", "(I[B)V"⟩
def RJ10 : String := "java/lang/System"
def TJ10 : u_T := fun k => match k with
  | _ => ("", "", "", false)
def tyJ10 : Nat → FieldType := fun k => match k with
  | _ => .int
abbrev wsJ100 : List Cond := u_ws RJ10 TJ10 0
theorem nmJ10 : ∀ a, a < 0 → ∀ b, b < 0 → a ≠ b → (TJ10 a).2.1 ≠ (TJ10 b).2.1 := by decide +kernel
theorem tyJ10_ok : ∀ k, k < 0 → parseFieldDescriptor (TJ10 k).2.2.1 = some (tyJ10 k) := by decide +kernel
def RJxfd54e : String := "java/lang/constant/Constable"
def TJxfd54e : u_T := fun k => match k with
  | _ => ("", "", "", false)
def tyJxfd54e : Nat → FieldType := fun k => match k with
  | _ => .int
abbrev wsJxfd54e0 : List Cond := u_ws RJxfd54e TJxfd54e 0
theorem nmJxfd54e : ∀ a, a < 0 → ∀ b, b < 0 → a ≠ b → (TJxfd54e a).2.1 ≠ (TJxfd54e b).2.1 := by decide +kernel
theorem tyJxfd54e_ok : ∀ k, k < 0 → parseFieldDescriptor (TJxfd54e k).2.2.1 = some (tyJxfd54e k) := by decide +kernel
def RJx3cf43 : String := "java/lang/constant/ConstantDesc"
def TJx3cf43 : u_T := fun k => match k with
  | _ => ("", "", "", false)
def tyJx3cf43 : Nat → FieldType := fun k => match k with
  | _ => .int
abbrev wsJx3cf430 : List Cond := u_ws RJx3cf43 TJx3cf43 0
theorem nmJx3cf43 : ∀ a, a < 0 → ∀ b, b < 0 → a ≠ b → (TJx3cf43 a).2.1 ≠ (TJx3cf43 b).2.1 := by decide +kernel
theorem tyJx3cf43_ok : ∀ k, k < 0 → parseFieldDescriptor (TJx3cf43 k).2.2.1 = some (tyJx3cf43 k) := by decide +kernel
def RJ7 : String := "java/util/Arrays"
def TJ7 : u_T := fun k => match k with
  | _ => ("", "", "", false)
def tyJ7 : Nat → FieldType := fun k => match k with
  | _ => .int
abbrev wsJ70 : List Cond := u_ws RJ7 TJ7 0
theorem nmJ7 : ∀ a, a < 0 → ∀ b, b < 0 → a ≠ b → (TJ7 a).2.1 ≠ (TJ7 b).2.1 := by decide +kernel
theorem tyJ7_ok : ∀ k, k < 0 → parseFieldDescriptor (TJ7 k).2.2.1 = some (tyJ7 k) := by decide +kernel
abbrev cJ7_fill_53178 : ByteArray := prog_29_method_103_code
def yJ7_fill_53178 : MethodName := ⟨RJ7, "fill", "([II)V"⟩
def RJ3 : String := "jdk/internal/util/Preconditions"
def TJ3 : u_T := fun k => match k with
  | _ => ("", "", "", false)
def tyJ3 : Nat → FieldType := fun k => match k with
  | _ => .int
abbrev wsJ30 : List Cond := u_ws RJ3 TJ3 0
theorem nmJ3 : ∀ a, a < 0 → ∀ b, b < 0 → a ≠ b → (TJ3 a).2.1 ≠ (TJ3 b).2.1 := by decide +kernel
theorem tyJ3_ok : ∀ k, k < 0 → parseFieldDescriptor (TJ3 k).2.2.1 = some (tyJ3 k) := by decide +kernel
abbrev cJ3_checkIndex_8e157 : ByteArray := prog_31_method_11_code
def yJ3_checkIndex_8e157 : MethodName := ⟨RJ3, "checkIndex", "(IILjava/util/function/BiFunction;)I"⟩
def RL : String := "PileTricksLaw"
abbrev cL_trick : ByteArray := method_3_code
def yL_trick : MethodName := ⟨RL, "trick", "(LPileTricks;I[J)I"⟩
abbrev cL_count : ByteArray := method_4_code
def yL_count : MethodName := ⟨RL, "count", "(LPileTricks;I[J)I"⟩
abbrev cL_told : ByteArray := method_5_code
def yL_told : MethodName := ⟨RL, "told", "(LPileTricks;III[J)I"⟩
abbrev cL_goes : ByteArray := method_6_code
def yL_goes : MethodName := ⟨RL, "goes", "(LPileTricks;III[J)I"⟩
abbrev cL_end : ByteArray := method_7_code
def yL_end : MethodName := ⟨RL, "end", "(LPileTricks;II[J)I"⟩
abbrev cL_sure : ByteArray := method_8_code
def yL_sure : MethodName := ⟨RL, "sure", "(LPileTricks;I[J)I"⟩
abbrev cL_wished : ByteArray := method_9_code
def yL_wished : MethodName := ⟨RL, "wished", "(LPileTricks;II[J)I"⟩
abbrev cL_laying : ByteArray := method_10_code
def yL_laying : MethodName := ⟨RL, "laying", "(LPileTricks;I[J)I"⟩
abbrev cL_fewest : ByteArray := method_11_code
def yL_fewest : MethodName := ⟨RL, "fewest", "(LPileTricks;I[J)I"⟩
abbrev cL_always : ByteArray := method_12_code
def yL_always : MethodName := ⟨RL, "always", "(LPileTricks;IIII[J)I"⟩
abbrev cL_two : ByteArray := method_13_code
def yL_two : MethodName := ⟨RL, "two", "(LPileTricks;III[J)I"⟩
abbrev cL_worst : ByteArray := method_14_code
def yL_worst : MethodName := ⟨RL, "worst", "(LPileTricks;I[J)I"⟩
abbrev cL_card : ByteArray := method_15_code
def yL_card : MethodName := ⟨RL, "card", "(LPileTricks;I[J)I"⟩
abbrev cL_lies : ByteArray := method_16_code
def yL_lies : MethodName := ⟨RL, "lies", "(LPileTricks;I[J)I"⟩
abbrev cL_between : ByteArray := method_17_code
def yL_between : MethodName := ⟨RL, "between", "(LPileTricks;I[J)I"⟩
abbrev cL_evenings : ByteArray := method_18_code
def yL_evenings : MethodName := ⟨RL, "evenings", "(LPileTricks;III[J)I"⟩
abbrev cL_weighings : ByteArray := method_19_code
def yL_weighings : MethodName := ⟨RL, "weighings", "(LPileTricks;IZ[J)I"⟩
abbrev cL_law : ByteArray := code
def yL_law : MethodName := ⟨RL, "law", "([I)Z"⟩
abbrev vwCl : List vw_C := [(RX0, TX0, 8), (RX1, TX1, 5), (RX2, TX2, 8), (RX3, TX3, 14), (RX4, TX4, 10), (RX5, TX5, 5), (RX6, TX6, 9), (RX7, TX7, 7), (RX9, TX9, 13), (RX10, TX10, 66)]
end
section
/-! A small machine over worlds of numbered things: shapes, ints, longs, references, each by thing and place. What it runs, the JVM runs (parts behind). -/
abbrev ex_Lo : Type := List (Option Value)
/-- a thing: an object of a class by its number, or an array of a type with so many places -/
abbrev ex_Sh : Type := Nat ⊕ (FieldType × Nat)
/-- shapes, cells and slots made so far; ints, longs, references -/
abbrev ex_W : Type := (List ex_Sh × Nat × Nat) × (Nat → Nat → Int32) × (Nat → Nat → Int64) × (Nat → Nat → Option Nat)
/-- an instruction: its place, its length, itself, what it links, a constant -/
abbrev ex_R : Type := Nat × Nat × Instr × List Nat × Int32
/-- where a run of a method stops: rows left, locals, stack, world -/
abbrev ex_E : Type := List ex_R × ex_Lo × List Value × ex_W
/-- a method: name, code, locals, what it returns, its class, blocks, its table of handlers -/
abbrev ex_M : Type := MethodName × ByteArray × Nat × Option FieldType × String × List (List ex_R) × List (Nat × Nat × Nat × Nat)
/-- a method's answer: what it returned, or the number of the class that it threw -/
abbrev ex_A : Type := (Option Value ⊕ Nat) × ex_W
def ex_set {α : Type} (I : Nat → Nat → α) (a : Nat) (g : Nat → α) : Nat → Nat → α := fun x => if x = a then g else I x
def ex_clr (lo : ex_Lo) (i : Nat) : ex_Lo := match i with
  | 0 => lo
  | j + 1 => match lo[j]? with
    | some (some (.long _)) => lo.set j none
    | _ => lo
def ex_st1 (lo : ex_Lo) (i : Nat) (v : Value) : ex_Lo := (ex_clr lo i).set i (some v)
def ex_st2 (lo : ex_Lo) (i : Nat) (v : Value) : ex_Lo := ((ex_clr lo i).set i (some v)).set (i + 1) none
def ex_ldi (lo : ex_Lo) (i : Nat) (st : List Value) : Option (ex_Lo × List Value) := match lo[i]? with
  | some (some (.int x)) => some (lo, .int x :: st)
  | _ => none
def ex_ldl (lo : ex_Lo) (i : Nat) (st : List Value) : Option (ex_Lo × List Value) := match lo[i]? with
  | some (some (.long x)) => some (lo, .long x :: st)
  | _ => none
def ex_lda (lo : ex_Lo) (i : Nat) (st : List Value) : Option (ex_Lo × List Value) := match lo[i]? with
  | some (some (.ref x)) => some (lo, .ref x :: st)
  | _ => none
def ex_sti (lo : ex_Lo) (i : Nat) (st : List Value) : Option (ex_Lo × List Value) := match st with
  | .int x :: st => if i < lo.length then some (ex_st1 lo i (.int x), st) else none
  | _ => none
def ex_stl (lo : ex_Lo) (i : Nat) (st : List Value) : Option (ex_Lo × List Value) := match st with
  | .long x :: st => if i + 1 < lo.length then some (ex_st2 lo i (.long x), st) else none
  | _ => none
def ex_sta (lo : ex_Lo) (i : Nat) (st : List Value) : Option (ex_Lo × List Value) := match st with
  | .ref x :: st => if i < lo.length then some (ex_st1 lo i (.ref x), st) else none
  | _ => none
def ex_ii (f : Int32 → Int32 → Int32) (lo : ex_Lo) (st : List Value) : Option (ex_Lo × List Value) := match st with
  | .int y :: .int x :: st => some (lo, .int (f x y) :: st)
  | _ => none
def ex_ll (f : Int64 → Int64 → Int64) (lo : ex_Lo) (st : List Value) : Option (ex_Lo × List Value) := match st with
  | .long y :: .long x :: st => some (lo, .long (f x y) :: st)
  | _ => none
/-- what needs neither heap nor tables -/
def ex_pure (ins : Instr) (k : Int32) (lo : ex_Lo) (st : List Value) : Option (ex_Lo × List Value) := match ins with
  | .iconst _ => some (lo, .int k :: st)
  | .bipush _ => some (lo, .int k :: st)
  | .sipush _ => some (lo, .int k :: st)
  | .lconst n => some (lo, .long (if n.val = 0 then 0 else 1) :: st)
  | .iload i => ex_ldi lo i st
  | .iload_n i => ex_ldi lo i.val st
  | .lload i => ex_ldl lo i st
  | .lload_n i => ex_ldl lo i.val st
  | .aload i => ex_lda lo i st
  | .aload_n i => ex_lda lo i.val st
  | .istore i => ex_sti lo i st
  | .istore_n i => ex_sti lo i.val st
  | .lstore i => ex_stl lo i st
  | .lstore_n i => ex_stl lo i.val st
  | .astore i => ex_sta lo i st
  | .astore_n i => ex_sta lo i.val st
  | .iinc i _ => match lo[i]? with
    | some (some (.int x)) => if i < lo.length then some (ex_st1 lo i (.int (x + k)), st) else none
    | _ => none
  | .iadd => ex_ii (fun x y => x + y) lo st
  | .isub => ex_ii (fun x y => x - y) lo st
  | .imul => ex_ii (fun x y => x * y) lo st
  | .iand => ex_ii (fun x y => x &&& y) lo st
  | .ior => ex_ii (fun x y => x ||| y) lo st
  | .ixor => ex_ii (fun x y => x ^^^ y) lo st
  | .ishl => ex_ii (fun x y => x <<< (y &&& 31)) lo st
  | .ishr => ex_ii (fun x y => x >>> (y &&& 31)) lo st
  | .iushr => ex_ii (fun x y => (x.toUInt32 >>> (y.toUInt32 &&& Int32.toUInt32 31)).toInt32) lo st
  | .idiv => match st with
    | .int y :: .int x :: st => if y = 0 then none else some (lo, .int (x / y) :: st)
    | _ => none
  | .irem => match st with
    | .int y :: .int x :: st => if y = 0 then none else some (lo, .int (x - x / y * y) :: st)
    | _ => none
  | .ladd => ex_ll (fun x y => x + y) lo st
  | .lsub => ex_ll (fun x y => x - y) lo st
  | .lmul => ex_ll (fun x y => x * y) lo st
  | .land => ex_ll (fun x y => x &&& y) lo st
  | .lor => ex_ll (fun x y => x ||| y) lo st
  | .ldiv => match st with
    | .long y :: .long x :: st => if y = 0 then none else some (lo, .long (x / y) :: st)
    | _ => none
  | .lrem => match st with
    | .long y :: .long x :: st => if y = 0 then none else some (lo, .long (x - x / y * y) :: st)
    | _ => none
  | .lshl => match st with
    | .int y :: .long x :: st => some (lo, .long (x <<< (y.toInt64 &&& 63)) :: st)
    | _ => none
  | .lushr => match st with
    | .int y :: .long x :: st => some (lo, .long (x.toUInt64 >>> (y.toInt64.toUInt64 &&& Int64.toUInt64 63)).toInt64 :: st)
    | _ => none
  | .lcmp => match st with
    | .long y :: .long x :: st => some (lo, .int (lg_cmp x y) :: st)
    | _ => none
  | .i2l => match st with
    | .int x :: st => some (lo, .long x.toInt64 :: st)
    | _ => none
  | .l2i => match st with
    | .long x :: st => some (lo, .int x.toInt32 :: st)
    | _ => none
  | .i2b => match st with
    | .int x :: st => some (lo, .int x.toInt8.toInt32 :: st)
    | _ => none
  | .i2c => match st with
    | .int x :: st => some (lo, .int (x.toUInt32 % 65536).toInt32 :: st)
    | _ => none
  | .dup => match st with
    | v :: st => if v.category = 1 then some (lo, v :: v :: st) else none
    | _ => none
  | .dup2 => match st with
    | v :: u :: st => if v.category = 1 ∧ u.category = 1 then some (lo, v :: u :: v :: u :: st) else none
    | _ => none
  | .pop => match st with
    | v :: st => if v.category = 1 then some (lo, st) else none
    | _ => none
  | _ => none
abbrev ex_in (j : Int32) (n : Nat) : Prop := ¬ j < 0 ∧ j.toNatClampNeg < n
/-- the classes' numbers of slots -/
def ex_N (ci : Nat) : Nat := match vwCl[ci]? with
  | some q => q.2.2
  | none => 0
/-- a static's value: a thing, what a thing holds, a number -/
def ex_stv (w : ex_W) (q : Nat × Nat × Int32) : Value := match q.1 with
  | 0 => .ref q.2.1
  | 2 => va_rf (w.2.2.2 q.2.1 0)
  | _ => .int q.2.2
def ex_pv (w : ex_W) (a k t : Nat) : Value := match t with
  | 1 => .long (w.2.2.1 a k)
  | 2 => va_rf (w.2.2.2 a k)
  | _ => .int (w.2.1 a k)
/-- the arrays that are made -/
def ex_at (ty : FieldType) : Bool := match ty with
  | .int => true
  | .byte => true
  | .boolean => true
  | .long => true
  | _ => false
/-- what needs the world -/
def ex_heap (ro : Nat) (ins : Instr) (r : List Nat) (k : Int32) (st : List Value) (w : ex_W) : Option (List Value × ex_W) := match ins with
  | .getfield _ => match st with
    | .ref a :: st => match w.1.1[a]? with
      | some (.inl ci) => if ci = r.getD 0 0 ∧ (ci < 100 ∧ ro ≤ a ∨ 100 ≤ ci ∧ ¬ ro ≤ a) then some (ex_pv w a (r.getD 1 0) (r.getD 2 0) :: st, w) else none
      | _ => none
    | _ => none
  | .putfield _ => match r.getD 2 0 with
    | 1 => match st with
      | .long x :: .ref a :: st => match w.1.1[a]? with
        | some (.inl ci) => if ci = r.getD 0 0 ∧ ro ≤ a then some (st, (w.1, w.2.1, ex_set w.2.2.1 a (va_up (w.2.2.1 a) (r.getD 1 0) x), w.2.2.2)) else none
        | _ => none
      | _ => none
    | 2 => match st with
      | .ref x :: .ref a :: st => match w.1.1[a]? with
        | some (.inl ci) => if ci = r.getD 0 0 ∧ ro ≤ a then some (st, (w.1, w.2.1, w.2.2.1, ex_set w.2.2.2 a (va_up (w.2.2.2 a) (r.getD 1 0) (some x)))) else none
        | _ => none
      | _ => none
    | 3 => match st with
      | .int x :: .ref a :: st => match w.1.1[a]? with
        | some (.inl ci) => if ci = r.getD 0 0 ∧ ro ≤ a then (if x = 0 ∨ x = 1 then some (st, (w.1, ex_set w.2.1 a (va_up (w.2.1 a) (r.getD 1 0) x), w.2.2.1, w.2.2.2)) else none) else none
        | _ => none
      | _ => none
    | _ => match st with
      | .int x :: .ref a :: st => match w.1.1[a]? with
        | some (.inl ci) => if ci = r.getD 0 0 ∧ ro ≤ a then some (st, (w.1, ex_set w.2.1 a (va_up (w.2.1 a) (r.getD 1 0) x), w.2.2.1, w.2.2.2)) else none
        | _ => none
      | _ => none
  | .arraylength => match st with
    | .ref a :: st => match w.1.1[a]? with
      | some (.inr q) => if ¬ ro ≤ a ∨ ex_at q.1 = true then some (.int (nI q.2) :: st, w) else none
      | _ => none
    | _ => none
  | .iaload => match st with
    | .int j :: .ref a :: st => match w.1.1[a]? with
      | some (.inr (.int, n)) => if ex_in j n then some (.int (w.2.1 a j.toNatClampNeg) :: st, w) else none
      | _ => none
    | _ => none
  | .baload => match st with
    | .int j :: .ref a :: st => match w.1.1[a]? with
      | some (.inr (.byte, n)) => if ex_in j n then some (.int (w.2.1 a j.toNatClampNeg) :: st, w) else none
      | some (.inr (.boolean, n)) => if ex_in j n then some (.int (w.2.1 a j.toNatClampNeg) :: st, w) else none
      | _ => none
    | _ => none
  | .laload => match st with
    | .int j :: .ref a :: st => match w.1.1[a]? with
      | some (.inr (.long, n)) => if ex_in j n then some (.long (w.2.2.1 a j.toNatClampNeg) :: st, w) else none
      | _ => none
    | _ => none
  | .aaload => match st with
    | .int j :: .ref a :: st => match w.1.1[a]? with
      | some (.inr (.object _, n)) => if ex_in j n ∧ ¬ ro ≤ a then some (va_rf (w.2.2.2 a j.toNatClampNeg) :: st, w) else none
      | _ => none
    | _ => none
  | .iastore => match st with
    | .int x :: .int j :: .ref a :: st => match w.1.1[a]? with
      | some (.inr (.int, n)) => if ex_in j n ∧ ro ≤ a then some (st, (w.1, ex_set w.2.1 a (va_up (w.2.1 a) j.toNatClampNeg x), w.2.2.1, w.2.2.2)) else none
      | _ => none
    | _ => none
  | .bastore => match st with
    | .int x :: .int j :: .ref a :: st => match w.1.1[a]? with
      | some (.inr (.byte, n)) => if ex_in j n ∧ ro ≤ a then some (st, (w.1, ex_set w.2.1 a (va_up (w.2.1 a) j.toNatClampNeg (vp_nar .byte x)), w.2.2.1, w.2.2.2)) else none
      | some (.inr (.boolean, n)) => if ex_in j n ∧ ro ≤ a then some (st, (w.1, ex_set w.2.1 a (va_up (w.2.1 a) j.toNatClampNeg (vp_nar .boolean x)), w.2.2.1, w.2.2.2)) else none
      | _ => none
    | _ => none
  | .lastore => match st with
    | .long x :: .int j :: .ref a :: st => match w.1.1[a]? with
      | some (.inr (.long, n)) => if ex_in j n ∧ ro ≤ a then some (st, (w.1, w.2.1, ex_set w.2.2.1 a (va_up (w.2.2.1 a) j.toNatClampNeg x), w.2.2.2)) else none
      | _ => none
    | _ => none
  | .newarray t => match st with
    | .int n :: st => if ¬ n < 0 ∧ n.toNatClampNeg ≤ 65536 then some (.ref w.1.1.length :: st, ((w.1.1 ++ [.inr (newarray.typeOf t, n.toNatClampNeg)], w.1.2.1 + 1, w.1.2.2 + n.toNatClampNeg), ex_set w.2.1 w.1.1.length (fun _ => 0), ex_set w.2.2.1 w.1.1.length (fun _ => 0), w.2.2.2)) else none
    | _ => none
  | .new _ => some (.ref w.1.1.length :: st, ((w.1.1 ++ [.inl (r.getD 1 0)], w.1.2.1 + 1, w.1.2.2 + ex_N (r.getD 1 0)), ex_set w.2.1 w.1.1.length (fun _ => 0), ex_set w.2.2.1 w.1.1.length (fun _ => 0), ex_set w.2.2.2 w.1.1.length (fun _ => none)))
  | .getstatic _ => some (ex_stv w (r.getD 0 0, r.getD 1 0, k) :: st, w)
  | .ldc _ => some (.int k :: st, w)
  | .ldc_w _ => some (.int k :: st, w)
  | .ldc2_w _ => some (.long (lN (r.getD 0 0)) :: st, w)
  | _ => none
def ex_if {α : Type} (c : ClassFile.Cond) (x y : Int32) (jump fall : α) : α := match c with
  | .eq => if x = y then jump else fall
  | .ne => if x = y then fall else jump
  | .lt => if x < y then jump else fall
  | .ge => if x < y then fall else jump
  | .gt => if y < x then jump else fall
  | .le => if y < x then fall else jump
/-- does what is returned fit -/
abbrev ex_fit (ret : Option FieldType) (v : Int32) : Prop := ret = some .int ∨ ((ret = some .boolean ∧ (v = 0 ∨ v = 1)) ∨ (ret = some .byte ∧ v.toInt8.toInt32 = v) ∨ (ret = some .char ∧ (v.toUInt32 % 65536).toInt32 = v))
def ex_fin (ret : Option FieldType) (row : ex_R) (st : List Value) (w : ex_W) : Option ex_A := match row.2.2.1 with
  | .return_ => match st with
    | [] => if ret = none then some (.inl none, w) else none
    | _ => none
  | .ireturn => match st with
    | [.int v] => if ex_fit ret v then some (.inl (some (.int v)), w) else none
    | _ => none
  | .lreturn => match st with
    | [.long v] => if ret = some .long then some (.inl (some (.long v)), w) else none
    | _ => none
  | .new _ => match st with
    | [] => if row.2.2.2.1.getD 0 0 = 1 then some (.inr (row.2.2.2.1.getD 1 0), ((w.1.1, w.1.2.1 + 1, w.1.2.2 + 6), w.2)) else none
    | _ => none
  | _ => none
def ex_end (ret : Option FieldType) (e : Option ex_E) : Option ex_A := match e with
  | some (row :: _, _, st, w) => ex_fin ret row st w
  | _ => none
/-- the locals at a method's entry -/
def ex_sl (args : List Value) : ex_Lo := args.flatMap fun v => if v.category = 2 then [some v, none] else [some v]
def ex_ent (n : Nat) (args : List Value) : ex_Lo := ex_sl args ++ List.replicate (n - (ex_sl args).length) none
abbrev ex_S : Type := Nat → List (List ex_R) → List ex_R → ex_Lo → List Value → ex_W → Option ex_E
/-- a method's run -/
def ex_me (mt : Nat → Option ex_M) (self : ex_S) (d mi : Nat) (args : List Value) (w : ex_W) : Option ex_A := match mt mi with
  | none => none
  | some M => if (ex_sl args).length ≤ M.2.2.1 then ex_end M.2.2.2.1 (self d M.2.2.2.2.2.1 (M.2.2.2.2.2.1.getD 0 []) (ex_ent M.2.2.1 args) [] w) else none
/-- behind a call -/
def ex_ret (self : ex_S) (d : Nat) (cd : List (List ex_R)) (L : List ex_R) (lo : ex_Lo) (rest : List Value) (x : Option ex_A) : Option ex_E := match x with
  | some (.inl none, w) => self d cd L lo rest w
  | some (.inl (some v), w) => self d cd L lo (v :: rest) w
  | _ => none
/-- behind a call in a method that catches: what it throws is looked up in rs, pairs of a class's number and a block -/
def ex_cat (cd : List (List ex_R)) (e : Nat) (w : ex_W) : List Nat → Option ex_E
  | x :: b :: rs => if x = e then (match cd.getD b [] with
      | [_, rc, rr] => some ([rr], [], [.int rc.2.2.2.2], w)
      | _ => none) else ex_cat cd e w rs
  | _ => none
def ex_retC (self : ex_S) (d : Nat) (cd : List (List ex_R)) (L : List ex_R) (lo : ex_Lo) (rest : List Value) (rs : List Nat) (x : Option ex_A) : Option ex_E := match x with
  | some (.inr e, w) => ex_cat cd e w rs
  | y => ex_ret self d cd L lo rest y
/-- is the first argument an object of that class -/
def ex_rcv (ro : Nat) (w : ex_W) (ci : Nat) (args : List Value) : Bool := match args with
  | .ref a :: _ => (match w.1.1[a]? with
    | some (.inl cj) => decide (cj = ci ∧ (ci < 100 ∧ ro ≤ a ∨ 100 ≤ ci ∧ ¬ ro ≤ a))
    | _ => false)
  | _ => false
/-- calls: kind, method, how many are popped, class of the receiver .. -/
def ex_inv (ro : Nat) (mt : Nat → Option ex_M) (self : ex_S) (d : Nat) (cd : List (List ex_R)) (r : List Nat) (L : List ex_R) (lo : ex_Lo) (st : List Value) (w : ex_W) : Option ex_E := match r with
  | 6 :: _ => match st with
    | .ref _ :: st => if (st.map fun v => v.category).sum ≤ 8 then self d cd L lo st w else none
    | _ => none
  | 7 :: _ => match st with
    | .int n :: .int dp :: .ref b :: .int sp :: .ref a :: st => match w.1.1[a]? with
      | some (.inr (.int, n0)) => match w.1.1[b]? with
        | some (.inr (.int, n1)) => if (ro ≤ b ∧ (st.map fun v => v.category).sum ≤ 8) ∧ ¬ sp < 0 ∧ ¬ dp < 0 ∧ ¬ n < 0 ∧ sp.toNatClampNeg + n.toNatClampNeg ≤ n0 ∧ dp.toNatClampNeg + n.toNatClampNeg ≤ n1 then self d cd L lo st (w.1, ex_set w.2.1 b (va_cpy (w.2.1 a) (w.2.1 b) sp.toNatClampNeg dp.toNatClampNeg n.toNatClampNeg), w.2.2.1, w.2.2.2) else none
        | _ => none
      | _ => none
    | _ => none
  | k :: mi :: np :: ci :: rs => match d with
    | 0 => none
    | d' + 1 => if (np ≤ st.length ∧ ((st.drop np).map fun v => v.category).sum ≤ 8) ∧ (k = 2 ∨ k = 3 ∨ k = 8 ∨ ex_rcv ro w ci (st.take np).reverse = true) then
        (if k = 9 then ex_retC self (d' + 1) cd L lo (st.drop np) rs (ex_me mt self d' mi (st.take np).reverse w) else ex_ret self (d' + 1) cd L lo (st.drop np) (ex_me mt self d' mi (st.take np).reverse w)) else none
  | _ => none
/-- one of the enum's constants -/
def ex_isw (ro : Nat) (w : ex_W) (x : Nat) : Bool := decide (¬ ro ≤ x) && (match w.1.1[x]? with
  | some (.inl 100) => true
  | _ => false)
/-- one instruction -/
def ex_body (ro : Nat) (mt : Nat → Option ex_M) (self : ex_S) : ex_S := fun d cd L lo st w => match L with
  | [] => none
  | row :: L => match row.2.2.1 with
    | .goto _ => self d cd (cd.getD (row.2.2.2.1.getD 0 0) []) lo st w
    | .ifCond c _ => match st with
      | .int x :: st => ex_if c x 0 (self d cd (cd.getD (row.2.2.2.1.getD 0 0) []) lo st w) (self d cd L lo st w)
      | _ => none
    | .if_icmp c _ => match st with
      | .int y :: .int x :: st => ex_if c x y (self d cd (cd.getD (row.2.2.2.1.getD 0 0) []) lo st w) (self d cd L lo st w)
      | _ => none
    | .if_acmp c _ => match st with
      | .ref y :: .ref x :: st => if ex_isw ro w x = true ∧ ex_isw ro w y = true then (match c with
        | .eq => if x = y then self d cd (cd.getD (row.2.2.2.1.getD 0 0) []) lo st w else self d cd L lo st w
        | .ne => if x = y then self d cd L lo st w else self d cd (cd.getD (row.2.2.2.1.getD 0 0) []) lo st w) else none
      | _ => none
    | .tableswitch _ l h _ => match st with
      | .int x :: st => if x.toInt < l ∨ h < x.toInt then self d cd (cd.getD (row.2.2.2.1.getD 0 0) []) lo st w else self d cd (cd.getD (row.2.2.2.1.getD (1 + (x.toInt - l).toNat) 0) []) lo st w
      | _ => none
    | .ireturn => some (row :: L, lo, st, w)
    | .lreturn => some (row :: L, lo, st, w)
    | .return_ => some (row :: L, lo, st, w)
    | .invokevirtual _ => ex_inv ro mt self d cd row.2.2.2.1 L lo st w
    | .invokestatic _ => ex_inv ro mt self d cd row.2.2.2.1 L lo st w
    | .invokespecial _ => ex_inv ro mt self d cd row.2.2.2.1 L lo st w
    | .new _ => match row.2.2.2.1.getD 0 0 with
      | 1 => some (row :: L, lo, st, w)
      | _ => match ex_heap ro row.2.2.1 row.2.2.2.1 row.2.2.2.2 st w with
        | some (st, w) => self d cd L lo st w
        | none => none
    | ins => match ex_pure ins row.2.2.2.2 lo st with
      | some (lo, st) => self d cd L lo st w
      | none => match ex_heap ro ins row.2.2.2.1 row.2.2.2.2 st w with
        | some (st, w) => self d cd L lo st w
        | none => none
def ex_run (ro : Nat) (mt : Nat → Option ex_M) : Nat → ex_S
  | 0 => fun _ _ _ _ _ _ => none
  | n + 1 => ex_body ro mt (ex_run ro mt n)
end
section
/-! The small machine's instructions that need neither heap nor tables, held against the JVM -/
def ex_cv (ad : Nat → Nat) (v : Value) : Value := match v with
  | .ref i => .ref (ad i)
  | v => v
/-- a reference of the world (of z things) -/
def ex_okv (z : Nat) (v : Value) : Prop := match v with
  | .ref i => i < z
  | .int _ => True
  | .long _ => True
  | .null => True
  | _ => False
theorem ex_cv_cat (ad : Nat → Nat) (v : Value) : (ex_cv ad v).category = v.category := by cases v <;> rfl
/-- the locals -/
def ex_LR (ad : Nat → Nat) (z nL : Nat) (lo : ex_Lo) (ls : Array Slot) : Prop := lo.length ≤ nL ∧ lv_has ls nL [] ∧ ∀ (i : Nat) (v : Value), lo[i]? = some (some v) → ls[i]? = some (.val (ex_cv ad v)) ∧ ex_okv z v
theorem ex_LR.size {ad : Nat → Nat} {z nL : Nat} {lo : ex_Lo} {ls : Array Slot} (h : ex_LR ad z nL lo ls) : ls.size = nL := h.2.1.1
def ex_asc (ad : Nat → Nat) (lo : ex_Lo) : List (Nat × Value) := (List.range lo.length).filterMap fun i => match lo[i]? with
  | some (some v) => some (i, ex_cv ad v)
  | _ => none
theorem ex_asc_mem {ad : Nat → Nat} {lo : ex_Lo} {i : Nat} {v : Value} (h : lo[i]? = some (some v)) : (i, ex_cv ad v) ∈ ex_asc ad lo := by
  refine List.mem_filterMap.mpr ⟨i, List.mem_range.mpr (List.getElem?_eq_some_iff.mp h).1, ?_⟩
  rw [h]
theorem ex_asc_of {ad : Nat → Nat} {lo : ex_Lo} {q : Nat × Value} (h : q ∈ ex_asc ad lo) : ∃ v, lo[q.1]? = some (some v) ∧ q.2 = ex_cv ad v := by
  obtain ⟨i, -, hi⟩ := List.mem_filterMap.mp h
  split at hi
  · next v hv => cases hi; exact ⟨v, hv, rfl⟩
  · cases hi
theorem ex_LR.has {ad : Nat → Nat} {z nL : Nat} {lo : ex_Lo} {ls : Array Slot} (h : ex_LR ad z nL lo ls) : lv_has ls nL (ex_asc ad lo) :=
  ⟨h.2.1.1, h.2.1.2.1, fun q hq => by
    obtain ⟨v, h1, h2⟩ := ex_asc_of hq
    rw [h2]; exact (h.2.2 _ _ h1).1⟩
theorem ex_clr_len (lo : ex_Lo) (i : Nat) : (ex_clr lo i).length = lo.length := by
  unfold ex_clr
  split
  · rfl
  · split <;> simp
theorem ex_clr_get {lo : ex_Lo} {i j : Nat} {v : Value} (h : (ex_clr lo i)[j]? = some (some v)) : lo[j]? = some (some v) ∧ ¬ (j + 1 = i ∧ v.category = 2) ∨ (lo[j]? = some (some v) ∧ j + 1 = i ∧ v.category ≠ 2) ∨ (lo[j]? = some (some v) ∧ ∀ x, v ≠ .long x) := by
  unfold ex_clr at h
  split at h
  · exact Or.inl ⟨h, fun q => by omega⟩
  · next j0 =>
    split at h
    · next x hx =>
      by_cases hj : j = j0
      · subst hj
        rw [List.getElem?_set_self (List.getElem?_eq_some_iff.mp hx).1] at h
        cases h
      · rw [List.getElem?_set_ne (fun q => hj q.symm)] at h
        exact Or.inl ⟨h, fun q => hj (by omega)⟩
    · next hn =>
      by_cases hj : j = j0
      · subst hj
        exact Or.inr (Or.inr ⟨h, fun x e => hn x (by rw [h, e])⟩)
      · exact Or.inl ⟨h, fun q => hj (by omega)⟩
theorem ex_clr_in {z : Nat} {lo : ex_Lo} {i j : Nat} {v : Value} (ad : Nat → Nat) (hok : v.category = 2 → ∃ x, v = .long x) (h : (ex_clr lo i)[j]? = some (some v)) : lo[j]? = some (some v) ∧ ¬ (j + 1 = i ∧ (ex_cv ad v).category = 2) := by
  rw [ex_cv_cat]
  rcases ex_clr_get h with h | h | h
  · exact h
  · exact ⟨h.1, fun q => h.2.2 q.2⟩
  · exact ⟨h.1, fun q => by obtain ⟨x, e⟩ := hok q.2; exact h.2 x e⟩
/-- only longs take two places -/
def ex_nod (lo : ex_Lo) : Prop := ∀ (i : Nat) (v : Value), lo[i]? = some (some v) → v.category = 2 → ∃ x, v = .long x
section EXP
variable {p : Program} {l : Launch} {e : Env} {R : Room} {s : State} {m : MethodId} {args : Array Value} {below : List Frame} {meth : Method} {c : Code} {H : Heap} {locs : List Loc} {cells slots : Nat} {Q : State → Prop}
variable {cc : ByteArray} {pc : Nat} {ls : Array Slot} {ad : Nat → Nat} {z nL : Nat} {lo : ex_Lo}
theorem ex_LR.st1 {i : Nat} {v : Value} (h : ex_LR ad z nL lo ls) (hn : ex_nod lo) (hi : i < lo.length) (hv : ex_okv z v) {ls' : Array Slot} (h' : lv_has ls' nL ((i, ex_cv ad v) :: (ex_asc ad lo).filter (fun q => !(q.1 == i) && !(q.1 + 1 == i && q.2.category == 2)))) : ex_LR ad z nL (ex_st1 lo i v) ls' := by
  refine ⟨by simp [ex_st1, ex_clr_len, h.1], ⟨h'.1, h'.2.1, fun _ hq => by cases hq⟩, fun j u hj => ?_⟩
  by_cases hji : j = i
  · subst hji
    rw [ex_st1, List.getElem?_set_self (by rw [ex_clr_len]; exact hi)] at hj
    cases hj
    exact ⟨h'.2.2 _ List.mem_cons_self, hv⟩
  · rw [ex_st1, List.getElem?_set_ne (fun q => hji q.symm)] at hj
    have hlo : lo[j]? = some (some u) := by
      rcases ex_clr_get hj with h | h | h <;> exact h.1
    have hc := ex_clr_in (z := z) ad (hn j u hlo) hj
    refine ⟨h'.2.2 (j, ex_cv ad u) (List.mem_cons_of_mem _ (List.mem_filter.mpr ⟨ex_asc_mem hc.1, ?_⟩)), (h.2.2 j u hc.1).2⟩
    simp only [Bool.and_eq_true, Bool.not_eq_true', beq_eq_false_iff_ne, ne_eq, Bool.and_eq_false_iff]
    refine ⟨hji, ?_⟩
    by_cases q : j + 1 = i
    · exact Or.inr (fun q2 => hc.2 ⟨q, q2⟩)
    · exact Or.inl q
theorem ex_LR.st2 {i : Nat} {v : Value} (h : ex_LR ad z nL lo ls) (hn : ex_nod lo) (hi : i + 1 < lo.length) (hv : ex_okv z v) {ls' : Array Slot} (h' : lv_has ls' nL ((i, ex_cv ad v) :: (ex_asc ad lo).filter (fun q => !(q.1 == i) && (!(q.1 == i + 1) && !(q.1 + 1 == i && q.2.category == 2))))) : ex_LR ad z nL (ex_st2 lo i v) ls' := by
  refine ⟨by simp [ex_st2, ex_clr_len, h.1], ⟨h'.1, h'.2.1, fun _ hq => by cases hq⟩, fun j u hj => ?_⟩
  by_cases hji1 : j = i + 1
  · subst hji1
    rw [ex_st2, List.getElem?_set_self (by rw [List.length_set, ex_clr_len]; exact hi)] at hj
    cases hj
  rw [ex_st2, List.getElem?_set_ne (fun q => hji1 q.symm)] at hj
  by_cases hji : j = i
  · subst hji
    rw [List.getElem?_set_self (by rw [ex_clr_len]; omega)] at hj
    cases hj
    exact ⟨h'.2.2 _ List.mem_cons_self, hv⟩
  · rw [List.getElem?_set_ne (fun q => hji q.symm)] at hj
    have hlo : lo[j]? = some (some u) := by
      rcases ex_clr_get hj with h | h | h <;> exact h.1
    have hc := ex_clr_in (z := z) ad (hn j u hlo) hj
    refine ⟨h'.2.2 (j, ex_cv ad u) (List.mem_cons_of_mem _ (List.mem_filter.mpr ⟨ex_asc_mem hc.1, ?_⟩)), (h.2.2 j u hc.1).2⟩
    simp only [Bool.and_eq_true, Bool.not_eq_true', beq_eq_false_iff_ne, ne_eq, Bool.and_eq_false_iff]
    refine ⟨hji, hji1, ?_⟩
    by_cases q : j + 1 = i
    · exact Or.inr (fun q2 => hc.2 ⟨q, q2⟩)
    · exact Or.inl q
theorem ex_nod.clr (hn : ex_nod lo) (i : Nat) : ex_nod (ex_clr lo i) := fun j u hj hc => by
  have hlo : lo[j]? = some (some u) := by
    rcases ex_clr_get hj with h | h | h <;> exact h.1
  exact hn j u hlo hc
theorem ex_nod.set (hn : ex_nod lo) (i : Nat) (o : Option Value) (ho : ∀ v, o = some v → v.category = 2 → ∃ x, v = .long x) : ex_nod (lo.set i o) := fun j u hj hc => by
  by_cases hji : i = j
  · subst hji
    by_cases hl : i < lo.length
    · rw [List.getElem?_set_self hl] at hj
      cases hj
      exact ho u rfl hc
    · rw [List.getElem?_eq_none (by rw [List.length_set]; omega)] at hj
      cases hj
  · rw [List.getElem?_set_ne hji] at hj
    exact hn j u hj hc
def ex_kok (ins : Instr) (k : Int32) (len : Nat) : Bool := match ins with
  | .iconst n => decide (Int32.ofInt n = k) && decide (len = 1)
  | .bipush n => decide ((Int8.ofInt n).toInt32 = k) && decide (len = 2)
  | .sipush n => decide ((Int16.ofInt n).toInt32 = k) && decide (len = 3)
  | .iinc _ n => decide (Int32.ofInt n = k) && decide (len = 3)
  | .iload _ => decide (len = 2)
  | .lload _ => decide (len = 2)
  | .aload _ => decide (len = 2)
  | .istore _ => decide (len = 2)
  | .lstore _ => decide (len = 2)
  | .astore _ => decide (len = 2)
  | _ => decide (len = 1)
theorem ex_ldi_of {i : Nat} {st st' : List Value} {lo' : ex_Lo} (h : ex_ldi lo i st = some (lo', st')) : lo' = lo ∧ ∃ x, lo[i]? = some (some (.int x)) ∧ st' = .int x :: st := by
  unfold ex_ldi at h
  split at h
  · next x hx => cases h; exact ⟨rfl, x, hx, rfl⟩
  · cases h
theorem ex_ldl_of {i : Nat} {st st' : List Value} {lo' : ex_Lo} (h : ex_ldl lo i st = some (lo', st')) : lo' = lo ∧ ∃ x, lo[i]? = some (some (.long x)) ∧ st' = .long x :: st := by
  unfold ex_ldl at h
  split at h
  · next x hx => cases h; exact ⟨rfl, x, hx, rfl⟩
  · cases h
theorem ex_lda_of {i : Nat} {st st' : List Value} {lo' : ex_Lo} (h : ex_lda lo i st = some (lo', st')) : lo' = lo ∧ ∃ x, lo[i]? = some (some (.ref x)) ∧ st' = .ref x :: st := by
  unfold ex_lda at h
  split at h
  · next x hx => cases h; exact ⟨rfl, x, hx, rfl⟩
  · cases h
theorem ex_sti_of {i : Nat} {st st' : List Value} {lo' : ex_Lo} (h : ex_sti lo i st = some (lo', st')) : ∃ x, st = .int x :: st' ∧ i < lo.length ∧ lo' = ex_st1 lo i (.int x) := by
  unfold ex_sti at h
  split at h
  · split at h
    · next x _ hi => cases h; exact ⟨x, rfl, hi, rfl⟩
    · cases h
  · cases h
theorem ex_stl_of {i : Nat} {st st' : List Value} {lo' : ex_Lo} (h : ex_stl lo i st = some (lo', st')) : ∃ x, st = .long x :: st' ∧ i + 1 < lo.length ∧ lo' = ex_st2 lo i (.long x) := by
  unfold ex_stl at h
  split at h
  · split at h
    · next x _ hi => cases h; exact ⟨x, rfl, hi, rfl⟩
    · cases h
  · cases h
theorem ex_sta_of {i : Nat} {st st' : List Value} {lo' : ex_Lo} (h : ex_sta lo i st = some (lo', st')) : ∃ x, st = .ref x :: st' ∧ i < lo.length ∧ lo' = ex_st1 lo i (.ref x) := by
  unfold ex_sta at h
  split at h
  · split at h
    · next x _ hi => cases h; exact ⟨x, rfl, hi, rfl⟩
    · cases h
  · cases h
theorem ex_ii_of {f : Int32 → Int32 → Int32} {st st' : List Value} {lo' : ex_Lo} (h : ex_ii f lo st = some (lo', st')) : lo' = lo ∧ ∃ x y r, st = .int y :: .int x :: r ∧ st' = .int (f x y) :: r := by
  unfold ex_ii at h
  split at h
  · next y x r => cases h; exact ⟨rfl, x, y, r, rfl, rfl⟩
  · cases h
theorem ex_ll_of {f : Int64 → Int64 → Int64} {st st' : List Value} {lo' : ex_Lo} (h : ex_ll f lo st = some (lo', st')) : lo' = lo ∧ ∃ x y r, st = .long y :: .long x :: r ∧ st' = .long (f x y) :: r := by
  unfold ex_ll at h
  split at h
  · next y x r => cases h; exact ⟨rfl, x, y, r, rfl, rfl⟩
  · cases h
theorem ex_tl {z : Nat} {a : Value} {st : List Value} (h : ∀ v ∈ a :: st, ex_okv z v) : ∀ v ∈ st, ex_okv z v := fun v hv => h v (List.mem_cons_of_mem _ hv)
theorem ex_cn {z : Nat} {a : Value} {st : List Value} (ha : ex_okv z a) (h : ∀ v ∈ st, ex_okv z v) : ∀ v ∈ a :: st, ex_okv z v := fun v hv => by
  rcases List.mem_cons.mp hv with rfl | hv
  · exact ha
  · exact h v hv
set_option maxHeartbeats 4000000 in
theorem ex_pure_ok {ins : Instr} {k : Int32} {len : Nat} {st st' : List Value} {lo' : ex_Lo} (hexec : p.tables.exec = Jvm.exec) (hb : c.code = cc) (h : ex_pure ins k lo st = some (lo', st')) (hd : decode cc pc = .ok (ins, len)) (hk : ex_kok ins k len = true)
    (hl : ex_LR ad z nL lo ls) (hn : ex_nod lo) (ho : ∀ v ∈ st, ex_okv z v)
    (kk : ∀ ls' : Array Slot, ex_LR ad z nL lo' ls' → ex_nod lo' → (∀ v ∈ st', ex_okv z v) → W p l e R s m args below meth c H locs cells slots Q (F0 m (pc + len) ls' (st'.map (ex_cv ad)))) :
    W p l e R s m args below meth c H locs cells slots Q (F0 m pc ls (st.map (ex_cv ad))) := by
  cases ins <;> first | (simp only [ex_pure, reduceCtorEq] at h; done) | skip
  case iconst n =>
    cases h
    simp only [ex_kok, Bool.and_eq_true, decide_eq_true_eq] at hk
    obtain ⟨hk, rfl⟩ := hk
    exact lv_iconst hexec hb hd hk (kk ls hl hn (ex_cn trivial ho))
  case bipush n =>
    cases h
    simp only [ex_kok, Bool.and_eq_true, decide_eq_true_eq] at hk
    obtain ⟨hk, rfl⟩ := hk
    exact lv_bipush hexec hb hd hk (kk ls hl hn (ex_cn trivial ho))
  case sipush n =>
    cases h
    simp only [ex_kok, Bool.and_eq_true, decide_eq_true_eq] at hk
    obtain ⟨hk, rfl⟩ := hk
    exact lv_sipush hexec hb hd hk (kk ls hl hn (ex_cn trivial ho))
  case lconst n =>
    cases h
    simp only [ex_kok, decide_eq_true_eq] at hk
    subst hk
    refine lv_lconst hexec hb hd ?_ (kk ls hl hn (ex_cn trivial ho))
    rcases n with ⟨n, hn2⟩
    rcases (show n = 0 ∨ n = 1 by omega) with rfl | rfl <;> rfl
  case iload i =>
    simp only [ex_kok, decide_eq_true_eq] at hk
    subst hk
    obtain ⟨rfl, x, hx, rfl⟩ := ex_ldi_of h
    exact lv_iload hexec hb hd (hl.2.2 _ _ hx).1 (kk ls hl hn (ex_cn trivial ho))
  case iload_n i =>
    simp only [ex_kok, decide_eq_true_eq] at hk
    subst hk
    obtain ⟨rfl, x, hx, rfl⟩ := ex_ldi_of h
    exact lv_iload_n hexec hb hd rfl (hl.2.2 _ _ hx).1 (kk ls hl hn (ex_cn trivial ho))
  case lload i =>
    simp only [ex_kok, decide_eq_true_eq] at hk
    subst hk
    obtain ⟨rfl, x, hx, rfl⟩ := ex_ldl_of h
    exact lv_lload hexec hb hd (hl.2.2 _ _ hx).1 (kk ls hl hn (ex_cn trivial ho))
  case lload_n i =>
    simp only [ex_kok, decide_eq_true_eq] at hk
    subst hk
    obtain ⟨rfl, x, hx, rfl⟩ := ex_ldl_of h
    exact lv_lload_n hexec hb hd rfl (hl.2.2 _ _ hx).1 (kk ls hl hn (ex_cn trivial ho))
  case aload i =>
    simp only [ex_kok, decide_eq_true_eq] at hk
    subst hk
    obtain ⟨rfl, x, hx, rfl⟩ := ex_lda_of h
    exact lv_aload hexec hb hd (hl.2.2 _ _ hx).1 (kk ls hl hn (ex_cn (hl.2.2 _ _ hx).2 ho))
  case aload_n i =>
    simp only [ex_kok, decide_eq_true_eq] at hk
    subst hk
    obtain ⟨rfl, x, hx, rfl⟩ := ex_lda_of h
    exact lv_aload_n hexec hb hd rfl (hl.2.2 _ _ hx).1 (kk ls hl hn (ex_cn (hl.2.2 _ _ hx).2 ho))
  case istore i =>
    simp only [ex_kok, decide_eq_true_eq] at hk
    subst hk
    obtain ⟨x, rfl, hi, rfl⟩ := ex_sti_of h
    exact lv_istore hexec hb hd hl.has (Nat.lt_of_lt_of_le hi hl.1) rfl (fun ls' h' => kk ls' (hl.st1 (v := .int x) hn hi trivial h') ((hn.clr i).set i _ (fun v e hc => by cases e; cases hc)) (ex_tl ho))
  case istore_n i =>
    simp only [ex_kok, decide_eq_true_eq] at hk
    subst hk
    obtain ⟨x, rfl, hi, rfl⟩ := ex_sti_of h
    exact lv_istore_n hexec hb hd rfl hl.has (Nat.lt_of_lt_of_le hi hl.1) rfl (fun ls' h' => kk ls' (hl.st1 (v := .int x) hn hi trivial h') ((hn.clr _).set _ _ (fun v e hc => by cases e; cases hc)) (ex_tl ho))
  case lstore i =>
    simp only [ex_kok, decide_eq_true_eq] at hk
    subst hk
    obtain ⟨x, rfl, hi, rfl⟩ := ex_stl_of h
    exact lv_lstore hexec hb hd hl.has (Nat.lt_of_lt_of_le hi hl.1) rfl (fun ls' h' => kk ls' (hl.st2 (v := .long x) hn hi trivial h') (((hn.clr _).set _ _ (fun v e hc => by cases e; exact ⟨x, rfl⟩)).set _ _ (fun v e hc => by cases e)) (ex_tl ho))
  case lstore_n i =>
    simp only [ex_kok, decide_eq_true_eq] at hk
    subst hk
    obtain ⟨x, rfl, hi, rfl⟩ := ex_stl_of h
    exact lv_lstore_n hexec hb hd rfl hl.has (Nat.lt_of_lt_of_le hi hl.1) rfl (fun ls' h' => kk ls' (hl.st2 (v := .long x) hn hi trivial h') (((hn.clr _).set _ _ (fun v e hc => by cases e; exact ⟨x, rfl⟩)).set _ _ (fun v e hc => by cases e)) (ex_tl ho))
  case astore i =>
    simp only [ex_kok, decide_eq_true_eq] at hk
    subst hk
    obtain ⟨x, rfl, hi, rfl⟩ := ex_sta_of h
    exact lv_astore hexec hb hd hl.has (Nat.lt_of_lt_of_le hi hl.1) rfl (fun ls' h' => kk ls' (hl.st1 (v := .ref x) hn hi (ho _ List.mem_cons_self) h') ((hn.clr i).set i _ (fun v e hc => by cases e; cases hc)) (ex_tl ho))
  case astore_n i =>
    simp only [ex_kok, decide_eq_true_eq] at hk
    subst hk
    obtain ⟨x, rfl, hi, rfl⟩ := ex_sta_of h
    exact lv_astore_n hexec hb hd rfl hl.has (Nat.lt_of_lt_of_le hi hl.1) rfl (fun ls' h' => kk ls' (hl.st1 (v := .ref x) hn hi (ho _ List.mem_cons_self) h') ((hn.clr _).set _ _ (fun v e hc => by cases e; cases hc)) (ex_tl ho))
  case iinc i n =>
    simp only [ex_kok, Bool.and_eq_true, decide_eq_true_eq] at hk
    obtain ⟨hk, rfl⟩ := hk
    simp only [ex_pure] at h
    split at h
    · next x hx =>
      split at h
      · next hi =>
        cases h
        obtain ⟨j, hj⟩ := List.getElem?_of_mem (ex_asc_mem (ad := ad) hx)
        exact lv_iinc hexec hb hd hl.has hj (by rw [hk]) (Nat.lt_of_lt_of_le hi hl.1) rfl (fun ls' h' => kk ls' (hl.st1 (v := .int (x + k)) hn hi trivial h') ((hn.clr i).set i _ (fun v e hc => by cases e; cases hc)) ho)
      · cases h
    · cases h
  case dup =>
    simp only [ex_kok, decide_eq_true_eq] at hk
    subst hk
    simp only [ex_pure] at h
    split at h
    · next v r =>
      split at h
      · next hc =>
        cases h
        exact lv_dup hexec hb hd (by rw [ex_cv_cat]; exact hc) (kk ls hl hn (ex_cn (ho _ List.mem_cons_self) ho))
      · cases h
    · cases h
  case dup2 =>
    simp only [ex_kok, decide_eq_true_eq] at hk
    subst hk
    simp only [ex_pure] at h
    split at h
    · next v u r =>
      split at h
      · next hc =>
        cases h
        exact lv_dup2_11 hexec hb hd (by rw [ex_cv_cat]; exact hc.1) (by rw [ex_cv_cat]; exact hc.2) (kk ls hl hn (ex_cn (ho _ List.mem_cons_self) (ex_cn (ho _ (List.mem_cons_of_mem _ List.mem_cons_self)) ho)))
      · cases h
    · cases h
  case pop =>
    simp only [ex_kok, decide_eq_true_eq] at hk
    subst hk
    simp only [ex_pure] at h
    split at h
    · next v r =>
      split at h
      · next hc =>
        cases h
        exact lv_pop hexec hb hd (by rw [ex_cv_cat]; exact hc) (kk ls hl hn (ex_tl ho))
      · cases h
    · cases h
  all_goals (simp only [ex_kok, decide_eq_true_eq] at hk; subst hk)
  case iadd => obtain ⟨rfl, x, y, r, rfl, rfl⟩ := ex_ii_of h; exact lv_iadd hexec hb hd (kk ls hl hn (ex_cn trivial (ex_tl (ex_tl ho))))
  case isub => obtain ⟨rfl, x, y, r, rfl, rfl⟩ := ex_ii_of h; exact lv_isub hexec hb hd (kk ls hl hn (ex_cn trivial (ex_tl (ex_tl ho))))
  case imul => obtain ⟨rfl, x, y, r, rfl, rfl⟩ := ex_ii_of h; exact lv_imul hexec hb hd (kk ls hl hn (ex_cn trivial (ex_tl (ex_tl ho))))
  case iand => obtain ⟨rfl, x, y, r, rfl, rfl⟩ := ex_ii_of h; exact lv_iand hexec hb hd (kk ls hl hn (ex_cn trivial (ex_tl (ex_tl ho))))
  case ior => obtain ⟨rfl, x, y, r, rfl, rfl⟩ := ex_ii_of h; exact lv_ior hexec hb hd (kk ls hl hn (ex_cn trivial (ex_tl (ex_tl ho))))
  case ixor => obtain ⟨rfl, x, y, r, rfl, rfl⟩ := ex_ii_of h; exact lv_ixor hexec hb hd (kk ls hl hn (ex_cn trivial (ex_tl (ex_tl ho))))
  case ishl => obtain ⟨rfl, x, y, r, rfl, rfl⟩ := ex_ii_of h; exact lv_ishl hexec hb hd (kk ls hl hn (ex_cn trivial (ex_tl (ex_tl ho))))
  case ishr => obtain ⟨rfl, x, y, r, rfl, rfl⟩ := ex_ii_of h; exact lv_ishr hexec hb hd (kk ls hl hn (ex_cn trivial (ex_tl (ex_tl ho))))
  case iushr => obtain ⟨rfl, x, y, r, rfl, rfl⟩ := ex_ii_of h; exact lv_iushr hexec hb hd rfl (kk ls hl hn (ex_cn trivial (ex_tl (ex_tl ho))))
  case ladd => obtain ⟨rfl, x, y, r, rfl, rfl⟩ := ex_ll_of h; exact lv_ladd hexec hb hd (kk ls hl hn (ex_cn trivial (ex_tl (ex_tl ho))))
  case lsub => obtain ⟨rfl, x, y, r, rfl, rfl⟩ := ex_ll_of h; exact lv_lsub hexec hb hd (kk ls hl hn (ex_cn trivial (ex_tl (ex_tl ho))))
  case lmul => obtain ⟨rfl, x, y, r, rfl, rfl⟩ := ex_ll_of h; exact lv_lmul hexec hb hd (kk ls hl hn (ex_cn trivial (ex_tl (ex_tl ho))))
  case land => obtain ⟨rfl, x, y, r, rfl, rfl⟩ := ex_ll_of h; exact lv_land hexec hb hd (kk ls hl hn (ex_cn trivial (ex_tl (ex_tl ho))))
  case lor => obtain ⟨rfl, x, y, r, rfl, rfl⟩ := ex_ll_of h; exact lv_lor hexec hb hd (kk ls hl hn (ex_cn trivial (ex_tl (ex_tl ho))))
  case idiv =>
    simp only [ex_pure] at h
    split at h
    · split at h
      · cases h
      · next hy => cases h; exact lv_idiv hexec hb hd hy (kk ls hl hn (ex_cn trivial (ex_tl (ex_tl ho))))
    · cases h
  case irem =>
    simp only [ex_pure] at h
    split at h
    · split at h
      · cases h
      · next hy => cases h; exact lv_irem hexec hb hd hy (kk ls hl hn (ex_cn trivial (ex_tl (ex_tl ho))))
    · cases h
  case ldiv =>
    simp only [ex_pure] at h
    split at h
    · split at h
      · cases h
      · next hy => cases h; exact lv_ldiv hexec hb hd hy (kk ls hl hn (ex_cn trivial (ex_tl (ex_tl ho))))
    · cases h
  case lrem =>
    simp only [ex_pure] at h
    split at h
    · split at h
      · cases h
      · next hy => cases h; exact lv_lrem hexec hb hd hy (kk ls hl hn (ex_cn trivial (ex_tl (ex_tl ho))))
    · cases h
  case lshl =>
    simp only [ex_pure] at h
    split at h
    · cases h; exact lv_lshl hexec hb hd rfl (kk ls hl hn (ex_cn trivial (ex_tl (ex_tl ho))))
    · cases h
  case lushr =>
    simp only [ex_pure] at h
    split at h
    · cases h; exact lv_lushr hexec hb hd rfl (kk ls hl hn (ex_cn trivial (ex_tl (ex_tl ho))))
    · cases h
  case lcmp =>
    simp only [ex_pure] at h
    split at h
    · cases h; exact W.lcmp hexec hb hd (kk ls hl hn (ex_cn trivial (ex_tl (ex_tl ho))))
    · cases h
  case i2l =>
    simp only [ex_pure] at h
    split at h
    · cases h; exact lv_i2l hexec hb hd rfl (kk ls hl hn (ex_cn trivial (ex_tl ho)))
    · cases h
  case l2i =>
    simp only [ex_pure] at h
    split at h
    · cases h; exact lv_l2i hexec hb hd rfl (kk ls hl hn (ex_cn trivial (ex_tl ho)))
    · cases h
  case i2b =>
    simp only [ex_pure] at h
    split at h
    · cases h; exact lv_i2b hexec hb hd rfl (kk ls hl hn (ex_cn trivial (ex_tl ho)))
    · cases h
  case i2c =>
    simp only [ex_pure] at h
    split at h
    · cases h; exact lv_i2c hexec hb hd rfl (kk ls hl hn (ex_cn trivial (ex_tl ho)))
    · cases h
end EXP
end
section
/-! The worlds, held against the heap -/
def ex_ty (ci k : Nat) : FieldType := match ci with
  | 0 => tyX0 k
  | 1 => tyX1 k
  | 2 => tyX2 k
  | 3 => tyX3 k
  | 4 => tyX4 k
  | 5 => tyX5 k
  | 6 => tyX6 k
  | 7 => tyX7 k
  | 8 => tyX9 k
  | _ => tyX10 k
def ex_val (ad : Nat → Nat) (w : ex_W) (i k : Nat) (ty : FieldType) : Value := match ty with
  | .long => .long (w.2.2.1 i k)
  | .object _ => va_rf ((w.2.2.2 i k).map ad)
  | .array _ => va_rf ((w.2.2.2 i k).map ad)
  | _ => .int (w.2.1 i k)
def ex_fs (ad : Nat → Nat) (w : ex_W) (i ci : Nat) : List Value := (List.range (ex_N ci)).map (fun k => ex_val ad w i k (ex_ty ci k))
def ex_ac (w : ex_W) (i : Nat) (ty : FieldType) : (Nat → Int32) ⊕ (Nat → Int64) ⊕ (Nat → UInt32) ⊕ (Nat → UInt64) ⊕ (Nat → Option Nat) := match ty with
  | .long => .inr (.inl (w.2.2.1 i))
  | _ => .inl (w.2.1 i)
def ex_cell (cA : FieldType → ClassId) (ad : Nat → Nat) (w : ex_W) (i : Nat) (sh : ex_Sh) : va_E := match sh with
  | .inl ci => .inr (ci, ex_fs ad w i ci)
  | .inr q => .inl (cA q.1, q.2, ex_ac w i q.1)
def ex_ce (cA : FieldType → ClassId) (ad : Nat → Nat) (w : ex_W) (i : Nat) : va_E := match w.1.1[i]? with
  | some sh => ex_cell cA ad w i sh
  | none => .inr (0, [])
/-- the things from ro on -/
def ex_ws (cA : FieldType → ClassId) (ro : Nat) (ad : Nat → Nat) (w : ex_W) : va_W := (List.range (w.1.1.length - ro)).map (fun j => (ad (ro + j), ex_ce cA ad w (ro + j)))
theorem ex_ws_get {cA : FieldType → ClassId} {ro : Nat} {ad : Nat → Nat} {w : ex_W} {a : Nat} {sh : ex_Sh} (h : w.1.1[a]? = some sh) (hr : ro ≤ a) : (ex_ws cA ro ad w)[a - ro]? = some (ad a, ex_cell cA ad w a sh) := by
  have hl := (List.getElem?_eq_some_iff.mp h).1
  have e : ro + (a - ro) = a := by omega
  rw [ex_ws, List.getElem?_map, List.getElem?_range (by omega)]
  show some (ad (ro + (a - ro)), ex_ce cA ad w (ro + (a - ro))) = _
  rw [e, ex_ce, h]
theorem ex_ws_len {cA : FieldType → ClassId} {ro : Nat} {ad : Nat → Nat} {w : ex_W} : (ex_ws cA ro ad w).length = w.1.1.length - ro := by simp [ex_ws]
theorem ex_ws_at {cA : FieldType → ClassId} {ro : Nat} {ad : Nat → Nat} {w : ex_W} {j : Nat} (h : j < w.1.1.length - ro) : (ex_ws cA ro ad w)[j]? = some (ad (ro + j), ex_ce cA ad w (ro + j)) := by
  rw [ex_ws, List.getElem?_map, List.getElem?_range h]; rfl
/-- the same thing in two worlds -/
theorem ex_cell_eq {cA : FieldType → ClassId} {ad ad' : Nat → Nat} {w w' : ex_W} {i : Nat} (h1 : w'.2.1 i = w.2.1 i) (h2 : w'.2.2.1 i = w.2.2.1 i) (h3 : w'.2.2.2 i = w.2.2.2 i) (h4 : ∀ k r, w.2.2.2 i k = some r → ad' r = ad r) (sh : ex_Sh) : ex_cell cA ad' w' i sh = ex_cell cA ad w i sh := by
  have hm : ∀ k, ((w'.2.2.2 i k).map ad') = ((w.2.2.2 i k).map ad) := fun k => by
    rw [h3]
    cases hr : w.2.2.2 i k with
    | none => rfl
    | some r => simp [h4 k r hr]
  have hv : ∀ k ty, ex_val ad' w' i k ty = ex_val ad w i k ty := fun k ty => by
    cases ty <;> simp only [ex_val, h1, h2, hm]
  cases sh with
  | inl ci => simp only [ex_cell, ex_fs, hv]
  | inr q =>
    simp only [ex_cell]
    congr 3
    unfold ex_ac
    split
    · rw [h2]
    · rw [h1]
theorem ex_ws_set {cA : FieldType → ClassId} {ro : Nat} {ad : Nat → Nat} {w w' : ex_W} {a : Nat} {sh : ex_Sh} (hs : w'.1.1 = w.1.1) (h : w.1.1[a]? = some sh) (hr : ro ≤ a) (h1 : ∀ i, i ≠ a → w'.2.1 i = w.2.1 i ∧ w'.2.2.1 i = w.2.2.1 i ∧ w'.2.2.2 i = w.2.2.2 i) :
    ex_ws cA ro ad w' = (ex_ws cA ro ad w).set (a - ro) (ad a, ex_cell cA ad w' a sh) := by
  have hl := (List.getElem?_eq_some_iff.mp h).1
  refine List.ext_getElem? fun j => ?_
  by_cases hj : j = a - ro
  · subst hj
    rw [List.getElem?_set_self (by rw [ex_ws_len]; omega)]
    exact ex_ws_get (by rw [hs]; exact h) hr
  · rw [List.getElem?_set_ne (fun q => hj q.symm)]
    by_cases hjl : j < w.1.1.length - ro
    · rw [ex_ws_at hjl, ex_ws_at (by rw [hs]; exact hjl)]
      have e := h1 (ro + j) (by omega)
      have e2 : ex_ce cA ad w' (ro + j) = ex_ce cA ad w (ro + j) := by
        unfold ex_ce
        rw [hs]
        split
        · exact ex_cell_eq e.1 e.2.1 e.2.2 (fun _ _ _ => rfl) _
        · rfl
      rw [e2]
    · rw [List.getElem?_eq_none (by rw [ex_ws_len, hs]; omega), List.getElem?_eq_none (by rw [ex_ws_len]; omega)]
/-- references lie within -/
def ex_rin (w : ex_W) : Prop := ∀ i k r, w.2.2.2 i k = some r → r < w.1.1.length
theorem ex_ws_push {cA : FieldType → ClassId} {ro : Nat} {ad ad' : Nat → Nat} {w w' : ex_W} {sh : ex_Sh} (hs : w'.1.1 = w.1.1 ++ [sh]) (hr : ro ≤ w.1.1.length) (hin : ex_rin w) (had : ∀ i, i < w.1.1.length → ad' i = ad i) (h1 : ∀ i, i < w.1.1.length → w'.2.1 i = w.2.1 i ∧ w'.2.2.1 i = w.2.2.1 i ∧ w'.2.2.2 i = w.2.2.2 i) :
    ex_ws cA ro ad' w' = ex_ws cA ro ad w ++ [(ad' w.1.1.length, ex_cell cA ad' w' w.1.1.length sh)] := by
  refine List.ext_getElem? fun j => ?_
  by_cases hjl : j < w.1.1.length - ro
  · rw [List.getElem?_append_left (by rw [ex_ws_len]; exact hjl), ex_ws_at hjl, ex_ws_at (by rw [hs, List.length_append]; omega), had _ (by omega)]
    have e := h1 (ro + j) (by omega)
    have e2 : ex_ce cA ad' w' (ro + j) = ex_ce cA ad w (ro + j) := by
      unfold ex_ce
      rw [hs, List.getElem?_append_left (by omega)]
      split
      · exact ex_cell_eq e.1 e.2.1 e.2.2 (fun k r hk => had r (hin _ _ _ hk)) _
      · rfl
    rw [e2]
  · by_cases hj : j = w.1.1.length - ro
    · subst hj
      rw [List.getElem?_append_right (by rw [ex_ws_len]; omega), ex_ws_len, Nat.sub_self]
      have := ex_ws_get (cA := cA) (ro := ro) (ad := ad') (w := w') (a := w.1.1.length) (sh := sh) (by rw [hs, List.getElem?_append_right (Nat.le_refl _), Nat.sub_self]; rfl) hr
      rw [this]; rfl
    · rw [List.getElem?_eq_none (by rw [ex_ws_len, hs, List.length_append]; simp; omega), List.getElem?_eq_none (by rw [List.length_append, ex_ws_len]; simp; omega)]
/-- of the things that were there before: their classes' names, fields -/
def ex_rn (ci : Nat) : String := match ci with
  | 100 => "PileTricks$Word"
  | _ => "java/lang/String"
def ex_rq (ci k : Nat) : String × String × String × FieldType := match ci, k with
  | 100, 0 => ("PileTricks$Word", "spelled", "Ljava/lang/String;", .object "java/lang/String")
  | 100, _ => ("PileTricks$Word", "value", "I", .int)
  | _, 0 => ("java/lang/String", "value", "[B", .array .byte)
  | _, _ => ("java/lang/String", "coder", "B", .byte)
def ex_ro1 (ad : Nat → Nat) (A : Nat → Prop) (w : ex_W) (i : Nat) (sh : ex_Sh) (U : State) (H : Heap) : Prop := match sh with
  | .inl ci => ci < 200 → va_O (ex_rn ci) (ad i) A U H ∧ ∀ k, k < 2 → va_OF (ex_rq ci k).1 (ex_rq ci k).2.1 (ex_rq ci k).2.2.1 (ex_val ad w i k (ex_rq ci k).2.2.2) (ad i) A U H
  | .inr q => va_T q.1 (ad i) q.2 (fun j => ex_val ad w i j q.1) A U H
theorem ex_ro1.moved {ad : Nat → Nat} {A : Nat → Prop} {w : ex_W} {i : Nat} {sh : ex_Sh} {u U : State} {H : Heap} (hvm : u.vm.Alike U.vm) (h : ex_ro1 ad A w i sh u H) : ex_ro1 ad A w i sh U H := by
  cases sh with
  | inl ci => exact fun hc => ⟨va_O.moved hvm (h hc).1, fun k hk => va_OF.moved hvm ((h hc).2 k hk)⟩
  | inr q => exact va_T.moved hvm h
theorem ex_ro1.kept {ad : Nat → Nat} {A : Nat → Prop} {w : ex_W} {i : Nat} {sh : ex_Sh} {U : State} {H H1 : Heap} (h : ex_ro1 ad A w i sh U H) (hq : ∀ a : Nat, a < H.size → ¬ A a → H1[a]? = H[a]?) : ex_ro1 ad A w i sh U H1 := by
  cases sh with
  | inl ci => exact fun hc => ⟨(h hc).1.kept hq, fun k hk => ((h hc).2 k hk).kept hq⟩
  | inr q => exact va_T.kept h hq
theorem ex_ro1.same {ad ad' : Nat → Nat} {A : Nat → Prop} {w w' : ex_W} {i : Nat} {sh : ex_Sh} {U : State} {H : Heap} (h : ex_ro1 ad A w i sh U H) (h0 : ad' i = ad i) (h1 : w'.2.1 i = w.2.1 i) (h2 : w'.2.2.1 i = w.2.2.1 i) (h3 : w'.2.2.2 i = w.2.2.2 i) (h4 : ∀ k r, w.2.2.2 i k = some r → ad' r = ad r) : ex_ro1 ad' A w' i sh U H := by
  have hm : ∀ k, ((w'.2.2.2 i k).map ad') = ((w.2.2.2 i k).map ad) := fun k => by
    rw [h3]
    cases hr : w.2.2.2 i k with
    | none => rfl
    | some r => simp [h4 k r hr]
  have hv : ∀ k ty, ex_val ad' w' i k ty = ex_val ad w i k ty := fun k ty => by
    cases ty <;> simp only [ex_val, h1, h2, hm]
  cases sh with
  | inl ci =>
    refine fun hc => ⟨by rw [h0]; exact (h hc).1, fun k hk => ?_⟩
    rw [h0, hv]; exact (h hc).2 k hk
  | inr q =>
    show va_T q.1 (ad' i) q.2 (fun j => ex_val ad' w' i j q.1) A U H
    simp only [h0, hv]
    exact h
/-- what stays through a method: the tables' classes, the old things, the statics, words on nest mates -/
def ex_tys (cA : FieldType → ClassId) : List (ClassId × FieldType) := [(cA .int, .int), (cA .byte, .byte), (cA .boolean, .boolean), (cA .long, .long)]
abbrev ex_St : Type := String × String × String × Nat × Nat × Int32
def ex_Fix (D : va_G) (cA : FieldType → ClassId) (z0 ro : Nat) (sts : List ex_St) (Ns : List Cond) (ad : Nat → Nat) (w : ex_W) (s : State) : Prop :=
  va_K D vwCl (ex_tys cA) s ∧ z0 ≤ s.heap.size ∧
  (∀ (i : Nat) (sh : ex_Sh), i < ro → w.1.1[i]? = some sh → ex_ro1 ad (fun q => z0 ≤ q) w i sh s s.heap) ∧
  (∀ (i : Nat) (q : ex_St), sts[i]? = some q → va_Z q.1 q.2.1 q.2.2.1 (ex_cv ad (ex_stv w q.2.2.2)) (fun q => z0 ≤ q) s s.heap) ∧
  (∀ x ∈ Ns, va_Nw x s) ∧
  vx_Zq Bundle.tN "UNASSIGNED_STACK" Bundle.steD (fun q => z0 ≤ q) s s.heap ∧ vx_Zq Bundle.tN "SUPPRESSED_SENTINEL" Bundle.listD (fun q => z0 ≤ q) s s.heap ∧ va_Nc "java/lang/IllegalArgumentException" "java/util/NoSuchElementException" s ∧
  (∀ i j, i < ro → j < ro → w.1.1[i]? = some (.inl 100) → w.1.1[j]? = some (.inl 100) → ad i = ad j → i = j)
/-- what changes -/
def ex_Rel (D : va_G) (cA : FieldType → ClassId) (z0 ro : Nat) (ad : Nat → Nat) (w : ex_W) (s : State) (H : Heap) (locs : List Loc) : Prop :=
  va_P D vwCl (ex_ws cA ro ad w) H ∧ va_D (fun q => z0 ≤ q) (ex_ws cA ro ad w) ∧ va_S (fun q => z0 ≤ q) s.heap H locs ∧ ex_rin w ∧ ro ≤ w.1.1.length
/-- two worlds that agree on the old things -/
def ex_agr (ro : Nat) (sts : List ex_St) (ad ad' : Nat → Nat) (w w' : ex_W) : Prop :=
  (∀ i, i < w.1.1.length → ad' i = ad i ∧ w'.1.1[i]? = w.1.1[i]?) ∧ (∀ i, i < ro → w'.2.1 i = w.2.1 i ∧ w'.2.2.1 i = w.2.2.1 i ∧ w'.2.2.2 i = w.2.2.2 i) ∧ w.1.1.length ≤ w'.1.1.length
theorem ex_agr.rf {ro : Nat} {sts : List ex_St} {ad : Nat → Nat} {w : ex_W} : ex_agr ro sts ad ad w w := ⟨fun _ _ => ⟨rfl, rfl⟩, fun _ _ => ⟨rfl, rfl, rfl⟩, Nat.le_refl _⟩
theorem ex_agr.tr {ro : Nat} {sts : List ex_St} {ad1 ad2 ad3 : Nat → Nat} {w1 w2 w3 : ex_W} (h : ex_agr ro sts ad1 ad2 w1 w2) (g : ex_agr ro sts ad2 ad3 w2 w3) : ex_agr ro sts ad1 ad3 w1 w3 :=
  ⟨fun i hi => ⟨(g.1 i (Nat.lt_of_lt_of_le hi h.2.2)).1.trans (h.1 i hi).1, (g.1 i (Nat.lt_of_lt_of_le hi h.2.2)).2.trans (h.1 i hi).2⟩, fun i hi => ⟨(g.2.1 i hi).1.trans (h.2.1 i hi).1, (g.2.1 i hi).2.1.trans (h.2.1 i hi).2.1, (g.2.1 i hi).2.2.trans (h.2.1 i hi).2.2⟩, Nat.le_trans h.2.2 g.2.2⟩
theorem ex_okv.mono {z z' : Nat} {v : Value} (h : ex_okv z v) (hz : z ≤ z') : ex_okv z' v := by
  cases v <;> first | exact trivial | exact Nat.lt_of_lt_of_le h hz | exact h.elim
theorem ex_cv_same {ad ad' : Nat → Nat} {z : Nat} {v : Value} (h : ex_okv z v) (had : ∀ i, i < z → ad' i = ad i) : ex_cv ad' v = ex_cv ad v := by
  cases v <;> first | rfl | (show Value.ref _ = Value.ref _; rw [had _ h])
theorem ex_map_same {ad ad' : Nat → Nat} {z : Nat} {st : List Value} (h : ∀ v ∈ st, ex_okv z v) (had : ∀ i, i < z → ad' i = ad i) : st.map (ex_cv ad') = st.map (ex_cv ad) := List.map_congr_left fun v hv => ex_cv_same (h v hv) had
theorem ex_cv_rf (ad : Nat → Nat) (o : Option Nat) : ex_cv ad (va_rf o) = va_rf (o.map ad) := by cases o <;> rfl
theorem ex_okv_rf {z : Nat} {o : Option Nat} (h : ∀ r, o = some r → r < z) : ex_okv z (va_rf o) := by
  cases o with
  | none => exact trivial
  | some r => exact h r rfl
/-- statics' things are old -/
def ex_sok (ro : Nat) (sts : List ex_St) : Prop := ∀ (i : Nat) (q : ex_St), sts[i]? = some q → q.2.2.2.2.1 < ro
theorem ex_Fix.agr {D : va_G} {cA : FieldType → ClassId} {z0 ro : Nat} {sts : List ex_St} {Ns : List Cond} {ad ad' : Nat → Nat} {w w' : ex_W} {s : State} (h : ex_Fix D cA z0 ro sts Ns ad w s) (g : ex_agr ro sts ad ad' w w') (hin : ex_rin w) (hr : ro ≤ w.1.1.length) (hso : ex_sok ro sts) : ex_Fix D cA z0 ro sts Ns ad' w' s := by
  obtain ⟨h1, h2, h3, h4, h5, h6, h7, h8, h9⟩ := h
  refine ⟨h1, h2, fun i sh hi hsh => ?_, fun i q hq => ?_, h5, h6, h7, h8, fun i j hi hj h10 h11 h12 => ?_⟩
  · have e := g.2.1 i hi
    have e2 := g.1 i (Nat.lt_of_lt_of_le hi hr)
    exact (h3 i sh hi (e2.2.symm.trans hsh)).same e2.1 e.1 e.2.1 e.2.2 (fun k r hk => (g.1 r (hin _ _ _ hk)).1)
  · have e := g.2.1 _ (hso i q hq)
    have e0 := (g.1 _ (Nat.lt_of_lt_of_le (hso i q hq) hr)).1
    have e1 : ex_cv ad' (ex_stv w' q.2.2.2) = ex_cv ad (ex_stv w q.2.2.2) := by
      unfold ex_stv
      split
      · show Value.ref _ = Value.ref _; rw [e0]
      · rw [ex_cv_rf, ex_cv_rf, e.2.2]
        cases hr2 : w.2.2.2 q.2.2.2.2.1 0 with
        | none => rfl
        | some r => simp [(g.1 r (hin _ _ _ hr2)).1]
      · rfl
    rw [e1]
    exact h4 i q hq
  · have e1 := g.1 i (Nat.lt_of_lt_of_le hi hr)
    have e2 := g.1 j (Nat.lt_of_lt_of_le hj hr)
    exact h9 i j hi hj (e1.2.symm.trans h10) (e2.2.symm.trans h11) (e1.1.symm.trans (h12.trans e2.1))
/-- .. and at a callee's start -/
theorem ex_Fix.at {D : va_G} {cA : FieldType → ClassId} {z0 ro : Nat} {sts : List ex_St} {Ns : List Cond} {ad : Nat → Nat} {w : ex_W} {s U : State} {H : Heap} {locs : List Loc} (h : ex_Fix D cA z0 ro sts Ns ad w s) (hS : va_S (fun q => z0 ≤ q) s.heap H locs) (hU : U.heap = H) (hvm : s.vm.Alike U.vm) (hN : ∀ x ∈ Ns, va_Nw x U) : ex_Fix D cA z0 ro sts Ns ad w U := by
  obtain ⟨h1, h2, h3, h4, h5, h6, h7, h8, h9⟩ := h
  refine ⟨va_K.moved hvm h1, by rw [hU]; exact Nat.le_trans h2 hS.1, fun i sh hi hsh => ?_, fun i q hq => ?_, hN, ?_, ?_, va_Nc.moved hvm h8, h9⟩
  · rw [hU]; exact ((h3 i sh hi hsh).moved hvm).kept hS.2.1
  · rw [hU]; exact (va_Z.moved hvm (h4 i q hq)).kept hS.2.1
  · rw [hU]; exact (vx_Zq.moved hvm h6).kept hS.2.1
  · rw [hU]; exact (vx_Zq.moved hvm h7).kept hS.2.1
end
section
/-! The small machine's instructions that need the world, held against the JVM -/
def ex_tc (ty : FieldType) : Nat := match ty with
  | .long => 1
  | .object _ => 2
  | .array _ => 2
  | .boolean => 3
  | .int => 0
  | _ => 4
theorem ex_tyok : ∀ (ci : Nat) (q : vw_C), vwCl[ci]? = some q → (∀ k, k < q.2.2 → parseFieldDescriptor (q.2.1 k).2.2.1 = some (ex_ty ci k)) ∧ (∀ a, a < q.2.2 → ∀ b, b < q.2.2 → a ≠ b → (q.2.1 a).2.1 ≠ (q.2.1 b).2.1) := by
  intro ci q h
  match ci, h with
  | 0, h => cases h; exact ⟨tyX0_ok, nmX0⟩
  | 1, h => cases h; exact ⟨tyX1_ok, nmX1⟩
  | 2, h => cases h; exact ⟨tyX2_ok, nmX2⟩
  | 3, h => cases h; exact ⟨tyX3_ok, nmX3⟩
  | 4, h => cases h; exact ⟨tyX4_ok, nmX4⟩
  | 5, h => cases h; exact ⟨tyX5_ok, nmX5⟩
  | 6, h => cases h; exact ⟨tyX6_ok, nmX6⟩
  | 7, h => cases h; exact ⟨tyX7_ok, nmX7⟩
  | 8, h => cases h; exact ⟨tyX9_ok, nmX9⟩
  | 9, h => cases h; exact ⟨tyX10_ok, nmX10⟩
  | n + 10, h => exact absurd h (by simp)
theorem ex_tcs : ∀ ci, ci < 10 → ∀ k, k < 66 → ex_tc (ex_ty ci k) ≤ 3 := by decide +kernel
theorem ex_N_of {ci : Nat} {q : vw_C} (h : vwCl[ci]? = some q) : ex_N ci = q.2.2 := by rw [ex_N, h]
theorem ex_N66 {ci k : Nat} (hk : k < ex_N ci) : ci < 10 ∧ k < 66 := by
  unfold ex_N at hk
  split at hk
  · next q hq =>
    have hl : ci < 10 := (List.getElem?_eq_some_iff.mp hq).1
    refine ⟨hl, ?_⟩
    have : ∀ c, c < 10 → ∀ q : vw_C, vwCl[c]? = some q → q.2.2 ≤ 66 := by
      intro c hc q hq
      rcases (show c = 0 ∨ c = 1 ∨ c = 2 ∨ c = 3 ∨ c = 4 ∨ c = 5 ∨ c = 6 ∨ c = 7 ∨ c = 8 ∨ c = 9 by omega) with rfl | rfl | rfl | rfl | rfl | rfl | rfl | rfl | rfl | rfl <;> cases hq <;> decide
    exact Nat.lt_of_lt_of_le hk (this ci hl q hq)
  · exact absurd hk (Nat.not_lt_zero _)
theorem ex_vpin {j : Int32} {n : Nat} (h : ex_in j n) : vp_in j n := fun q => q.elim h.1 (fun q => Nat.not_le.mpr h.2 q)
theorem ex_fs_get {ad : Nat → Nat} {w : ex_W} {i ci k : Nat} (hk : k < ex_N ci) : (ex_fs ad w i ci)[k]? = some (ex_val ad w i k (ex_ty ci k)) := by
  rw [ex_fs, List.getElem?_map, List.getElem?_range hk]; rfl
theorem ex_vpV {fs : List Value} {j : Nat} {v : Value} (h : fs[j]? = some v) : vp_V fs j = v := by
  rw [vp_V, List.getD_eq_getElem?_getD, h]; rfl
theorem ex_fs_set {ad : Nat → Nat} {w w' : ex_W} {i ci k : Nat} {v : Value} (h1 : ∀ j, j ≠ k → w'.2.1 i j = w.2.1 i j ∧ w'.2.2.1 i j = w.2.2.1 i j ∧ w'.2.2.2 i j = w.2.2.2 i j) (h2 : ex_val ad w' i k (ex_ty ci k) = v) : ex_fs ad w' i ci = (ex_fs ad w i ci).set k v := by
  refine List.ext_getElem? fun j => ?_
  by_cases hj : j < ex_N ci
  · rw [ex_fs_get hj]
    by_cases hjk : k = j
    · subst hjk
      rw [List.getElem?_set_self (by rw [ex_fs, List.length_map, List.length_range]; exact hj), h2]
    · rw [List.getElem?_set_ne hjk, ex_fs_get hj]
      have e := h1 j (fun q => hjk q.symm)
      have : ex_val ad w' i j (ex_ty ci j) = ex_val ad w i j (ex_ty ci j) := by
        cases ex_ty ci j <;> simp only [ex_val, e.1, e.2.1, e.2.2]
      rw [this]
  · rw [List.getElem?_eq_none (by rw [ex_fs, List.length_map, List.length_range]; omega), List.getElem?_eq_none (by rw [List.length_set, ex_fs, List.length_map, List.length_range]; omega)]
theorem ex_pv_ok {w : ex_W} (hin : ex_rin w) (a k t : Nat) : ex_okv w.1.1.length (ex_pv w a k t) := by
  unfold ex_pv
  split
  · exact trivial
  · exact ex_okv_rf (fun r hr => hin _ _ _ hr)
  · exact trivial
theorem ex_pv_val {w : ex_W} {ad : Nat → Nat} {a k : Nat} {ty : FieldType} : ex_cv ad (ex_pv w a k (ex_tc ty)) = ex_val ad w a k ty := by
  cases ty <;> first | rfl | exact ex_cv_rf _ _
/-- what a row of such an instruction must be -/
def ex_hok (Ts Ns : List Cond) (own : String) (ini : Bool) (ro : Nat) (sts : List ex_St) (ins : Instr) (len : Nat) (r : List Nat) (k : Int32) : Bool := match ins with
  | .getfield idx => decide (len = 3) && (if r.getD 0 0 < 100 then (match vwCl[r.getD 0 0]? with
      | some q => decide (r.getD 1 0 < q.2.2) && decide (r.getD 2 0 = ex_tc (ex_ty (r.getD 0 0) (r.getD 1 0))) && (match r.getD 4 0 with
        | 0 => decide (Ts[r.getD 3 0]? = some (.fieldLink own idx (q.2.1 (r.getD 1 0)).1 (q.2.1 (r.getD 1 0)).2.1 (q.2.1 (r.getD 1 0)).2.2.1))
        | _ => decide (Ns[r.getD 3 0]? = some (.fieldLinkNest own idx (q.2.1 (r.getD 1 0)).1 (q.2.1 (r.getD 1 0)).2.1 (q.2.1 (r.getD 1 0)).2.2.1 "PileTricks")))
      | none => false)
    else decide (r.getD 1 0 < 2 ∧ r.getD 0 0 < 200) && decide (r.getD 2 0 = ex_tc (ex_rq (r.getD 0 0) (r.getD 1 0)).2.2.2) && (match r.getD 4 0 with
        | 0 => decide (Ts[r.getD 3 0]? = some (.fieldLink own idx (ex_rq (r.getD 0 0) (r.getD 1 0)).1 (ex_rq (r.getD 0 0) (r.getD 1 0)).2.1 (ex_rq (r.getD 0 0) (r.getD 1 0)).2.2.1))
        | _ => decide (Ns[r.getD 3 0]? = some (.fieldLinkNest own idx (ex_rq (r.getD 0 0) (r.getD 1 0)).1 (ex_rq (r.getD 0 0) (r.getD 1 0)).2.1 (ex_rq (r.getD 0 0) (r.getD 1 0)).2.2.1 "PileTricks"))))
  | .putfield idx => decide (len = 3) && decide (r.getD 2 0 ≤ 3) && (match vwCl[r.getD 0 0]? with
      | some q => decide (r.getD 1 0 < q.2.2) && decide (r.getD 2 0 = ex_tc (ex_ty (r.getD 0 0) (r.getD 1 0))) && (match r.getD 4 0 with
        | 0 => decide (Ts[r.getD 3 0]? = some (.fieldLink own idx (q.2.1 (r.getD 1 0)).1 (q.2.1 (r.getD 1 0)).2.1 (q.2.1 (r.getD 1 0)).2.2.1)) && decide ((q.2.1 (r.getD 1 0)).2.2.2 = false)
        | 1 => decide (Ns[r.getD 3 0]? = some (.fieldLinkNest own idx (q.2.1 (r.getD 1 0)).1 (q.2.1 (r.getD 1 0)).2.1 (q.2.1 (r.getD 1 0)).2.2.1 "PileTricks")) && decide ((q.2.1 (r.getD 1 0)).2.2.2 = false)
        | _ => ini && decide (Ts[r.getD 3 0]? = some (.fieldLink own idx (q.2.1 (r.getD 1 0)).1 (q.2.1 (r.getD 1 0)).2.1 (q.2.1 (r.getD 1 0)).2.2.1)) && decide ((q.2.1 (r.getD 1 0)).2.2.2 = true) && decide ((q.2.1 (r.getD 1 0)).1 = own))
      | none => false)
  | .newarray t => decide (len = 2) && ex_at (newarray.typeOf t) && decide (Ts[r.getD 0 0]? = some (.arrayClass (newarray.typeOf t)))
  | .new idx => decide (len = 3) && (match vwCl[r.getD 1 0]? with
      | some q => decide (Ts[r.getD 2 0]? = some (.classLink own idx q.1)) && decide (Ts[r.getD 3 0]? = some (.instantiable q.1 q.2.2)) && decide (Ts[r.getD 4 0]? = some (.initialized q.1))
      | none => false)
  | .getstatic idx => decide (len = 3) && (match sts[r.getD 2 0]? with
      | some q => decide (q.2.2.2 = (r.getD 0 0, r.getD 1 0, k)) && (match r.getD 4 0 with
        | 0 => decide (Ts[r.getD 3 0]? = some (.fieldLink own idx q.1 q.2.1 q.2.2.1))
        | _ => decide (Ns[r.getD 3 0]? = some (.fieldLinkNest own idx q.1 q.2.1 q.2.2.1 "PileTricks")))
      | none => false)
  | .ldc idx => decide (len = 2) && decide (Ts[r.getD 0 0]? = some (.constant own idx k))
  | .ldc_w idx => decide (len = 3) && decide (Ts[r.getD 0 0]? = some (.constant own idx k))
  | .ldc2_w idx => decide (len = 3) && decide (Ts[r.getD 1 0]? = some (.constantLong own idx (lN (r.getD 0 0))))
  | _ => decide (len = 1)
section EXH
variable {p : Program} {l : Launch} {e : Env} {R : Room} {s : State} {m : MethodId} {args : Array Value} {below : List Frame} {meth : Method} {c : Code} {H : Heap} {locs : List Loc} {Q : State → Prop}
variable {cc : ByteArray} {pc : Nat} {ls : Array Slot} {ad : Nat → Nat} {D : va_G} {cA : FieldType → ClassId} {z0 ro c0 s0 : Nat} {sts : List ex_St} {Ts Ns : List Cond} {own : String} {w : ex_W} {r : List Nat} {k : Int32} {st st' : List Value} {w' : ex_W} {len : Nat} {ini : Bool}
theorem ex_h_getfield {idx : Nat} (hexec : p.tables.exec = Jvm.exec) (hb : c.code = cc) (hown : s.vm.findClass own = some m.cls) (hts : ∀ w ∈ Ts, w.before args s = true) (hU : ∀ (ci : Nat) (q : vw_C), vwCl[ci]? = some q → ∀ w ∈ u_ws q.1 q.2.1 q.2.2, w ∈ Ts)
    (hF : ex_Fix D cA z0 ro sts Ns ad w s) (hR : ex_Rel D cA z0 ro ad w s H locs) (h : ex_heap ro (.getfield idx) r k st w = some (st', w')) (hk : ex_hok Ts Ns own ini ro sts (.getfield idx) len r k = true) (hd : decode cc pc = .ok (.getfield idx, len)) (ho : ∀ v ∈ st, ex_okv w.1.1.length v)
    (kk : w' = w → (∀ v ∈ st', ex_okv w.1.1.length v) → W p l e R s m args below meth c H locs (w.1.2.1 - c0) (w.1.2.2 - s0) Q (F0 m (pc + len) ls (st'.map (ex_cv ad)))) :
    W p l e R s m args below meth c H locs (w.1.2.1 - c0) (w.1.2.2 - s0) Q (F0 m pc ls (st.map (ex_cv ad))) := by
  simp only [ex_heap] at h
  split at h
  · next a st1 =>
    split at h
    · next ci hsh =>
      split at h
      · next hci =>
        cases h
        obtain ⟨hci, hcr⟩ := hci
        have ho' := ex_cn (ex_pv_ok hR.2.2.2.1 a (r.getD 1 0) (r.getD 2 0)) (ex_tl ho)
        have kk := kk rfl ho'
        simp only [ex_hok, Bool.and_eq_true, decide_eq_true_eq] at hk
        obtain ⟨rfl, hk⟩ := hk
        subst hci
        rcases Nat.lt_or_ge a ro with har | har
        · have hro := hF.2.2.1 a _ har hsh
          by_cases hc : r.getD 0 0 < 100
          · rw [if_pos hc] at hk
            split at hk
            · exfalso; omega
            · cases hk
          · rw [if_neg hc] at hk
            simp only [Bool.and_eq_true, decide_eq_true_eq] at hk
            obtain ⟨⟨hk1, hk2⟩, hk3⟩ := hk
            have hOF := (hro hk1.2).2 _ hk1.1
            rw [List.map_cons, hk2, ex_pv_val] at kk
            split at hk3
            · simp only [decide_eq_true_eq] at hk3
              exact vk_getf hexec hb hOF hR.2.2.1 hown (hts _ (List.mem_of_getElem? hk3)) (fun _ h9 => h9) hd kk
            · simp only [decide_eq_true_eq] at hk3
              obtain ⟨cf, kf, fi, f, cell, g1, g2, g3, g4, g5, g6⟩ := hOF.kept hR.2.2.1.2.1
              exact va_Wgetf hexec hb hown (va_Nw.use rfl (hF.2.2.2.2.1 _ (List.mem_of_getElem? hk3))) g1 g2 g3 g4 g5 rfl rfl hd kk
        · have he := ex_ws_get (cA := cA) (ad := ad) hsh har
          by_cases hc : r.getD 0 0 < 100
          · rw [if_pos hc] at hk
            split at hk
            · next q hq =>
              simp only [Bool.and_eq_true, decide_eq_true_eq] at hk
              obtain ⟨⟨hk1, hk2⟩, hk3⟩ := hk
              rw [List.map_cons, hk2, ex_pv_val] at kk
              have hv := ex_fs_get (ad := ad) (w := w) (i := a) (ci := r.getD 0 0) (k := r.getD 1 0) (by rw [ex_N_of hq]; exact hk1)
              split at hk3
              · simp only [decide_eq_true_eq] at hk3
                exact va_get hexec hb hts (hU _ _ hq) hown hF.1 hR.1 _ he hq _ hk1 (hts _ (List.mem_of_getElem? hk3)) (fun _ h9 => h9) hv hd kk
              · simp only [decide_eq_true_eq] at hk3
                exact va_getN hexec hb hts (hU _ _ hq) hown hF.1 hR.1 _ he hq _ hk1 (va_Nw.use rfl (hF.2.2.2.2.1 _ (List.mem_of_getElem? hk3))) (fun _ h9 => h9) hv hd kk
            · cases hk
          · exfalso; omega
      · cases h
    · cases h
  · cases h
/-- a putfield's or a store's end: one thing is another -/
theorem ex_h_upd {H1 : Heap} {locs1 : List Loc} {a : Nat} {sh : ex_Sh} (hR : ex_Rel D cA z0 ro ad w s H locs) (hsh : w.1.1[a]? = some sh) (har : ro ≤ a) (hs : w'.1 = w.1) (h1 : ∀ i, i ≠ a → w'.2.1 i = w.2.1 i ∧ w'.2.2.1 i = w.2.2.1 i ∧ w'.2.2.2 i = w.2.2.2 i) (hin : ∀ k r, w'.2.2.2 a k = some r → r < w.1.1.length)
    (hP : va_P D vwCl ((ex_ws cA ro ad w).set (a - ro) (ad a, ex_cell cA ad w' a sh)) H1) (hD : va_D (fun q => z0 ≤ q) ((ex_ws cA ro ad w).set (a - ro) (ad a, ex_cell cA ad w' a sh))) (hS : va_S (fun q => z0 ≤ q) s.heap H1 locs1) : ex_Rel D cA z0 ro ad w' s H1 locs1 ∧ ex_agr ro sts ad ad w w' := by
  have e := ex_ws_set (cA := cA) (ro := ro) (ad := ad) (w := w) (w' := w') (by rw [hs]) hsh har h1
  rw [← e] at hP hD
  refine ⟨⟨hP, hD, hS, fun i k r hk => ?_, by rw [hs]; exact hR.2.2.2.2⟩, fun i _ => ⟨rfl, by rw [hs]⟩, fun i hi => h1 i (by omega), by rw [hs]; exact Nat.le_refl _⟩
  rw [hs]
  by_cases hi : i = a
  · subst hi; exact hin k r hk
  · exact hR.2.2.2.1 i k r (by rw [← (h1 i hi).2.2]; exact hk)
theorem ex_set_ne {α : Type} {I : Nat → Nat → α} {a i : Nat} {g : Nat → α} (h : i ≠ a) : ex_set I a g i = I i := if_neg h
theorem ex_set_eq {α : Type} {I : Nat → Nat → α} {a : Nat} {g : Nat → α} : ex_set I a g a = g := if_pos rfl
theorem ex_up_ne {α : Type} {f : Nat → α} {k j : Nat} {v : α} (h : j ≠ k) : va_up f k v j = f j := if_neg h
theorem ex_up_eq {α : Type} {f : Nat → α} {k : Nat} {v : α} : va_up f k v k = v := if_pos rfl
/-- one field of an object is another: any kind of field -/
theorem ex_h_put {idx a ci : Nat} {v : Value} {st1 : List Value} (hexec : p.tables.exec = Jvm.exec) (hb : c.code = cc) (hown : s.vm.findClass own = some m.cls) (hini : ini = true → meth.name = "<init>") (hts : ∀ w ∈ Ts, w.before args s = true) (hU : ∀ (ci : Nat) (q : vw_C), vwCl[ci]? = some q → ∀ w ∈ u_ws q.1 q.2.1 q.2.2, w ∈ Ts)
    (hF : ex_Fix D cA z0 ro sts Ns ad w s) (hR : ex_Rel D cA z0 ro ad w s H locs) (hsh : w.1.1[a]? = some (.inl ci)) (hci : ci = r.getD 0 0) (har : ro ≤ a) (hk : ex_hok Ts Ns own ini ro sts (.putfield idx) len r k = true) (hd : decode cc pc = .ok (.putfield idx, len)) (ho : ∀ v ∈ st1, ex_okv w.1.1.length v)
    (hs : w'.1 = w.1) (h1 : ∀ i, i ≠ a → w'.2.1 i = w.2.1 i ∧ w'.2.2.1 i = w.2.2.1 i ∧ w'.2.2.2 i = w.2.2.2 i) (h2 : ∀ j, j ≠ r.getD 1 0 → w'.2.1 a j = w.2.1 a j ∧ w'.2.2.1 a j = w.2.2.1 a j ∧ w'.2.2.2 a j = w.2.2.2 a j) (hin : ∀ k r, w'.2.2.2 a k = some r → r < w.1.1.length)
    (hv : ∀ ty, ex_tc ty = r.getD 2 0 → r.getD 2 0 ≤ 3 → ex_val ad w' a (r.getD 1 0) ty = v ∧ narrow ty v = v ∧ fits ty v = true)
    (kk : ∀ (H1 : Heap) (locs1 : List Loc), ex_Rel D cA z0 ro ad w' s H1 locs1 → ex_agr ro sts ad ad w w' → (∀ v ∈ st1, ex_okv w'.1.1.length v) → W p l e R s m args below meth c H1 locs1 (w'.1.2.1 - c0) (w'.1.2.2 - s0) Q (F0 m (pc + len) ls (st1.map (ex_cv ad)))) :
    W p l e R s m args below meth c H locs (w.1.2.1 - c0) (w.1.2.2 - s0) Q (F0 m pc ls (v :: .ref (ad a) :: st1.map (ex_cv ad))) := by
  have he := ex_ws_get (cA := cA) (ad := ad) hsh har
  simp only [ex_hok, Bool.and_eq_true, decide_eq_true_eq] at hk
  obtain ⟨⟨rfl, ht3⟩, hk⟩ := hk
  split at hk
  · next q hq =>
    simp only [Bool.and_eq_true, decide_eq_true_eq] at hk
    obtain ⟨⟨hk1, hk2⟩, hk3⟩ := hk
    subst hci
    have hkN : r.getD 1 0 < ex_N (r.getD 0 0) := by rw [ex_N_of hq]; exact hk1
    obtain ⟨hv1, hv2, hv3⟩ := hv _ hk2.symm ht3
    have hfs := ex_fs_set (ad := ad) (w := w) (w' := w') (i := a) (ci := r.getD 0 0) (k := r.getD 1 0) (v := v) h2 hv1
    have hty := ex_tyok _ _ hq
    have hl : r.getD 1 0 < (ex_fs ad w a (r.getD 0 0)).length := by rw [ex_fs, List.length_map, List.length_range]; exact hkN
    have fin : ∀ (H1 : Heap) (locs1 : List Loc), va_P D vwCl ((ex_ws cA ro ad w).set (a - ro) (ad a, .inr (r.getD 0 0, (ex_fs ad w a (r.getD 0 0)).set (r.getD 1 0) v))) H1 → va_D (fun q => z0 ≤ q) ((ex_ws cA ro ad w).set (a - ro) (ad a, .inr (r.getD 0 0, (ex_fs ad w a (r.getD 0 0)).set (r.getD 1 0) v))) → va_S (fun q => z0 ≤ q) s.heap H1 locs1 → W p l e R s m args below meth c H1 locs1 (w.1.2.1 - c0) (w.1.2.2 - s0) Q (F0 m (pc + 3) ls (st1.map (ex_cv ad))) := by
      intro H1 locs1 hP hD hS
      rw [← hfs] at hP hD
      obtain ⟨g1, g2⟩ := ex_h_upd (sts := sts) hR hsh har hs h1 hin hP hD hS
      have := kk H1 locs1 g1 g2 (by rw [hs]; exact ho)
      rw [hs] at this
      exact this
    split at hk3
    · simp only [Bool.and_eq_true, decide_eq_true_eq] at hk3
      exact va_put hexec hb hts (hU _ _ hq) (ex_ty (r.getD 0 0)) hty.1 hty.2 hown hF.1 hR.1 hR.2.1 hR.2.2.1 _ he hq _ hk1 (hts _ (List.mem_of_getElem? hk3.1)) (fun _ h9 => h9) hk3.2 (hty.1 _ hk1) hv2 hv3 hl hd fin
    · simp only [Bool.and_eq_true, decide_eq_true_eq] at hk3
      exact va_putN hexec hb hts (hU _ _ hq) (ex_ty (r.getD 0 0)) hty.1 hty.2 hown hF.1 hR.1 hR.2.1 hR.2.2.1 _ he hq _ hk1 (va_Nw.use rfl (hF.2.2.2.2.1 _ (List.mem_of_getElem? hk3.1))) (fun _ h9 => h9) hk3.2 (hty.1 _ hk1) hv2 hv3 hl hd fin
    · simp only [Bool.and_eq_true, decide_eq_true_eq] at hk3
      exact va_putF hexec hb hts (hU _ _ hq) (ex_ty (r.getD 0 0)) hty.1 hty.2 hown hF.1 hR.1 hR.2.1 hR.2.2.1 _ he hq _ hk1 (hts _ (List.mem_of_getElem? hk3.1.1.2)) (fun _ h9 => h9) hk3.1.2 (hini hk3.1.1.1) hk3.2 (hty.1 _ hk1) hv2 hv3 hl hd fin
  · cases hk
theorem ex_nz (x : Int32) (h : x = 0 ∨ x = 1) : narrow .boolean (.int x) = .int x ∧ fits .boolean (.int x) = true := by
  rcases h with rfl | rfl <;> decide +kernel
theorem ex_h_putfield {idx : Nat} (hexec : p.tables.exec = Jvm.exec) (hb : c.code = cc) (hown : s.vm.findClass own = some m.cls) (hini : ini = true → meth.name = "<init>") (hts : ∀ w ∈ Ts, w.before args s = true) (hU : ∀ (ci : Nat) (q : vw_C), vwCl[ci]? = some q → ∀ w ∈ u_ws q.1 q.2.1 q.2.2, w ∈ Ts)
    (hF : ex_Fix D cA z0 ro sts Ns ad w s) (hR : ex_Rel D cA z0 ro ad w s H locs) (h : ex_heap ro (.putfield idx) r k st w = some (st', w')) (hk : ex_hok Ts Ns own ini ro sts (.putfield idx) len r k = true) (hd : decode cc pc = .ok (.putfield idx, len)) (ho : ∀ v ∈ st, ex_okv w.1.1.length v)
    (kk : ∀ (H1 : Heap) (locs1 : List Loc), ex_Rel D cA z0 ro ad w' s H1 locs1 → ex_agr ro sts ad ad w w' → (∀ v ∈ st', ex_okv w'.1.1.length v) → W p l e R s m args below meth c H1 locs1 (w'.1.2.1 - c0) (w'.1.2.2 - s0) Q (F0 m (pc + len) ls (st'.map (ex_cv ad)))) :
    W p l e R s m args below meth c H locs (w.1.2.1 - c0) (w.1.2.2 - s0) Q (F0 m pc ls (st.map (ex_cv ad))) := by
  simp only [ex_heap] at h
  split at h
  · next ht =>
    split at h
    · next x a st1 =>
      split at h
      · next ci hsh =>
        split at h
        · next hc =>
          simp only [Option.some.injEq, Prod.mk.injEq] at h
          obtain ⟨rfl, hw⟩ := h
          have hw := hw.symm
          refine ex_h_put (v := .long x) hexec hb hown hini hts hU hF hR hsh hc.1 hc.2 hk hd (ex_tl (ex_tl ho)) (by rw [hw]) (fun i hi => by rw [hw]; exact ⟨rfl, ex_set_ne hi, rfl⟩) (fun j hj => by rw [hw]; exact ⟨rfl, (congrFun ex_set_eq j).trans (ex_up_ne hj), rfl⟩) (fun k r hk => hR.2.2.2.1 _ _ _ (by rw [hw] at hk; exact hk)) (fun ty h1 h2 => ?_) kk
          · rw [ht] at h1
            cases ty <;> simp [ex_tc] at h1
            refine ⟨?_, rfl, rfl⟩
            rw [hw]
            show Value.long (ex_set _ a _ a _) = _
            rw [ex_set_eq, ex_up_eq]
        · cases h
      · cases h
    · cases h
  · next ht =>
    split at h
    · next x a st1 =>
      split at h
      · next ci hsh =>
        split at h
        · next hc =>
          simp only [Option.some.injEq, Prod.mk.injEq] at h
          obtain ⟨rfl, hw⟩ := h
          have hw := hw.symm
          have hx : x < w.1.1.length := ho _ List.mem_cons_self
          refine ex_h_put (v := .ref (ad x)) hexec hb hown hini hts hU hF hR hsh hc.1 hc.2 hk hd (ex_tl (ex_tl ho)) (by rw [hw]) (fun i hi => by rw [hw]; exact ⟨rfl, rfl, ex_set_ne hi⟩) (fun j hj => by rw [hw]; exact ⟨rfl, rfl, (congrFun ex_set_eq j).trans (ex_up_ne hj)⟩) (fun k r' hk => ?_) (fun ty h1 h2 => ?_) kk
          · rw [hw] at hk
            have hk : ex_set w.2.2.2 a (va_up (w.2.2.2 a) (r.getD 1 0) (some x)) a k = some r' := hk
            rw [ex_set_eq] at hk
            by_cases hkk : k = r.getD 1 0
            · rw [hkk, ex_up_eq] at hk; cases hk; exact hx
            · rw [ex_up_ne hkk] at hk; exact hR.2.2.2.1 _ _ _ hk
          · rw [ht] at h1
            cases ty <;> simp [ex_tc] at h1
            all_goals
              refine ⟨?_, rfl, rfl⟩
              rw [hw]
              show va_rf (Option.map ad (ex_set _ a _ a _)) = _
              rw [ex_set_eq, ex_up_eq]; rfl
        · cases h
      · cases h
    · cases h
  · next ht =>
    split at h
    · next x a st1 =>
      split at h
      · next ci hsh =>
        split at h
        · next hc =>
          split at h
          · next hx =>
            simp only [Option.some.injEq, Prod.mk.injEq] at h
            obtain ⟨rfl, hw⟩ := h
            have hw := hw.symm
            refine ex_h_put (v := .int x) hexec hb hown hini hts hU hF hR hsh hc.1 hc.2 hk hd (ex_tl (ex_tl ho)) (by rw [hw]) (fun i hi => by rw [hw]; exact ⟨ex_set_ne hi, rfl, rfl⟩) (fun j hj => by rw [hw]; exact ⟨(congrFun ex_set_eq j).trans (ex_up_ne hj), rfl, rfl⟩) (fun k r hk => hR.2.2.2.1 _ _ _ (by rw [hw] at hk; exact hk)) (fun ty h1 h2 => ?_) kk
            · rw [ht] at h1
              cases ty <;> simp [ex_tc] at h1
              refine ⟨?_, (ex_nz x hx).1, (ex_nz x hx).2⟩
              rw [hw]
              show Value.int (ex_set _ a _ a _) = _
              rw [ex_set_eq, ex_up_eq]
          · cases h
        · cases h
      · cases h
    · cases h
  · next n1 n2 n3 =>
    split at h
    · next x a st1 =>
      split at h
      · next ci hsh =>
        split at h
        · next hc =>
          simp only [Option.some.injEq, Prod.mk.injEq] at h
          obtain ⟨rfl, hw⟩ := h
          have hw := hw.symm
          refine ex_h_put (v := .int x) hexec hb hown hini hts hU hF hR hsh hc.1 hc.2 hk hd (ex_tl (ex_tl ho)) (by rw [hw]) (fun i hi => by rw [hw]; exact ⟨ex_set_ne hi, rfl, rfl⟩) (fun j hj => by rw [hw]; exact ⟨(congrFun ex_set_eq j).trans (ex_up_ne hj), rfl, rfl⟩) (fun k r hk => hR.2.2.2.1 _ _ _ (by rw [hw] at hk; exact hk)) (fun ty h1 h2 => ?_) kk
          · have hz : r.getD 2 0 = 0 := by
              rcases (show r.getD 2 0 = 0 ∨ r.getD 2 0 = 1 ∨ r.getD 2 0 = 2 ∨ r.getD 2 0 = 3 by omega) with h | h | h | h
              · exact h
              · exact absurd h n1
              · exact absurd h n2
              · exact absurd h n3
            rw [hz] at h1
            cases ty <;> simp [ex_tc] at h1
            refine ⟨?_, rfl, rfl⟩
            rw [hw]
            show Value.int (ex_set _ a _ a _) = _
            rw [ex_set_eq, ex_up_eq]
        · cases h
      · cases h
    · cases h
theorem ex_h_len (hexec : p.tables.exec = Jvm.exec) (hb : c.code = cc) (hF : ex_Fix D cA z0 ro sts Ns ad w s) (hR : ex_Rel D cA z0 ro ad w s H locs) (h : ex_heap ro .arraylength r k st w = some (st', w')) (hd : decode cc pc = .ok (.arraylength, 1)) (ho : ∀ v ∈ st, ex_okv w.1.1.length v)
    (kk : w' = w → (∀ v ∈ st', ex_okv w.1.1.length v) → W p l e R s m args below meth c H locs (w.1.2.1 - c0) (w.1.2.2 - s0) Q (F0 m (pc + 1) ls (st'.map (ex_cv ad)))) :
    W p l e R s m args below meth c H locs (w.1.2.1 - c0) (w.1.2.2 - s0) Q (F0 m pc ls (st.map (ex_cv ad))) := by
  simp only [ex_heap] at h
  split at h
  · next a st1 =>
    split at h
    · next q hsh =>
      split at h
      · next hc =>
        cases h
        have kk := kk rfl (ex_cn trivial (ex_tl ho))
        rcases Nat.lt_or_ge a ro with har | har
        · exact va_tlen hexec hb (hF.2.2.1 a _ har hsh) hR.2.2.1 rfl hd kk
        · have hat : ex_at q.1 = true := hc.resolve_left (fun q => q har)
          have he := ex_ws_get (cA := cA) (ad := ad) hsh har
          have ht : ∃ t0 : Nat, (ex_tys cA)[t0]? = some (cA q.1, q.1) := by
            obtain ⟨ty, n⟩ := q
            cases ty <;> simp [ex_at] at hat
            · exact ⟨1, rfl⟩
            · exact ⟨0, rfl⟩
            · exact ⟨3, rfl⟩
            · exact ⟨2, rfl⟩
          obtain ⟨t0, ht⟩ := ht
          exact va_alen hexec hb hF.1 hR.1 _ t0 he ht rfl hd kk
      · cases h
    · cases h
  · cases h
theorem ex_h_load {ins : Instr} (hi : ins = .iaload ∨ ins = .baload ∨ ins = .laload ∨ ins = .aaload) (hexec : p.tables.exec = Jvm.exec) (hb : c.code = cc) (hF : ex_Fix D cA z0 ro sts Ns ad w s) (hR : ex_Rel D cA z0 ro ad w s H locs) (h : ex_heap ro ins r k st w = some (st', w')) (hd : decode cc pc = .ok (ins, 1)) (ho : ∀ v ∈ st, ex_okv w.1.1.length v)
    (kk : w' = w → (∀ v ∈ st', ex_okv w.1.1.length v) → W p l e R s m args below meth c H locs (w.1.2.1 - c0) (w.1.2.2 - s0) Q (F0 m (pc + 1) ls (st'.map (ex_cv ad)))) :
    W p l e R s m args below meth c H locs (w.1.2.1 - c0) (w.1.2.2 - s0) Q (F0 m pc ls (st.map (ex_cv ad))) := by
  rcases hi with rfl | rfl | rfl | rfl
  · simp only [ex_heap] at h
    split at h
    · next j a st1 =>
      split at h
      · next n hsh =>
        split at h
        · next hc =>
          cases h
          have kk := kk rfl (ex_cn trivial (ex_tl (ex_tl ho)))
          rcases Nat.lt_or_ge a ro with har | har
          · exact va_ti hexec hb (hF.2.2.1 a _ har hsh) hR.2.2.1 (ex_vpin hc) rfl hd kk
          · exact va_iald hexec hb hF.1 hR.1 _ 0 (ex_ws_get (cA := cA) (ad := ad) hsh har) rfl (ex_vpin hc) hd kk
        · cases h
      · cases h
    · cases h
  · simp only [ex_heap] at h
    split at h
    · next j a st1 =>
      split at h
      · next n hsh =>
        split at h
        · next hc =>
          cases h
          have kk := kk rfl (ex_cn trivial (ex_tl (ex_tl ho)))
          rcases Nat.lt_or_ge a ro with har | har
          · exact va_tb hexec hb (hF.2.2.1 a _ har hsh) hR.2.2.1 (ex_vpin hc) rfl hd kk
          · exact va_bald hexec hb hF.1 hR.1 _ 1 (ex_ws_get (cA := cA) (ad := ad) hsh har) rfl (ex_vpin hc) hd kk
        · cases h
      · next n hsh =>
        split at h
        · next hc =>
          cases h
          have kk := kk rfl (ex_cn trivial (ex_tl (ex_tl ho)))
          rcases Nat.lt_or_ge a ro with har | har
          · exact va_tz hexec hb (hF.2.2.1 a _ har hsh) hR.2.2.1 (ex_vpin hc) rfl hd kk
          · exact va_zald hexec hb hF.1 hR.1 _ 2 (ex_ws_get (cA := cA) (ad := ad) hsh har) rfl (ex_vpin hc) hd kk
        · cases h
      · cases h
    · cases h
  · simp only [ex_heap] at h
    split at h
    · next j a st1 =>
      split at h
      · next n hsh =>
        split at h
        · next hc =>
          cases h
          have kk := kk rfl (ex_cn trivial (ex_tl (ex_tl ho)))
          rcases Nat.lt_or_ge a ro with har | har
          · exact va_tl hexec hb (hF.2.2.1 a _ har hsh) hR.2.2.1 (ex_vpin hc) rfl hd kk
          · exact va_lald hexec hb hF.1 hR.1 _ 3 (ex_ws_get (cA := cA) (ad := ad) hsh har) rfl (ex_vpin hc) hd kk
        · cases h
      · cases h
    · cases h
  · simp only [ex_heap] at h
    split at h
    · next j a st1 =>
      split at h
      · next C n hsh =>
        split at h
        · next hc =>
          cases h
          have kk := kk rfl (ex_cn (ex_okv_rf (fun r hr => hR.2.2.2.1 _ _ _ hr)) (ex_tl (ex_tl ho)))
          rw [List.map_cons, ex_cv_rf] at kk
          have har : a < ro := Nat.not_le.mp hc.2
          exact vb_tq hexec hb (hF.2.2.1 a _ har hsh) hR.2.2.1 (ex_vpin hc.1) rfl hd kk
        · cases h
      · cases h
    · cases h
theorem ex_h_store {ins : Instr} (hi : ins = .iastore ∨ ins = .bastore ∨ ins = .lastore) (hexec : p.tables.exec = Jvm.exec) (hb : c.code = cc) (hF : ex_Fix D cA z0 ro sts Ns ad w s) (hR : ex_Rel D cA z0 ro ad w s H locs) (h : ex_heap ro ins r k st w = some (st', w')) (hd : decode cc pc = .ok (ins, 1)) (ho : ∀ v ∈ st, ex_okv w.1.1.length v)
    (kk : ∀ (H1 : Heap) (locs1 : List Loc), ex_Rel D cA z0 ro ad w' s H1 locs1 → ex_agr ro sts ad ad w w' → (∀ v ∈ st', ex_okv w'.1.1.length v) → W p l e R s m args below meth c H1 locs1 (w'.1.2.1 - c0) (w'.1.2.2 - s0) Q (F0 m (pc + 1) ls (st'.map (ex_cv ad)))) :
    W p l e R s m args below meth c H locs (w.1.2.1 - c0) (w.1.2.2 - s0) Q (F0 m pc ls (st.map (ex_cv ad))) := by
  have fin : ∀ (a : Nat) (sh : ex_Sh) (st1 : List Value), w.1.1[a]? = some sh → ro ≤ a → (∀ v ∈ st1, ex_okv w.1.1.length v) → st' = st1 → w'.1 = w.1 → (∀ i, i ≠ a → w'.2.1 i = w.2.1 i ∧ w'.2.2.1 i = w.2.2.1 i ∧ w'.2.2.2 i = w.2.2.2 i) → w'.2.2.2 = w.2.2.2 →
      ∀ (H1 : Heap) (locs1 : List Loc), va_P D vwCl ((ex_ws cA ro ad w).set (a - ro) (ad a, ex_cell cA ad w' a sh)) H1 → va_D (fun q => z0 ≤ q) ((ex_ws cA ro ad w).set (a - ro) (ad a, ex_cell cA ad w' a sh)) → va_S (fun q => z0 ≤ q) s.heap H1 locs1 → W p l e R s m args below meth c H1 locs1 (w.1.2.1 - c0) (w.1.2.2 - s0) Q (F0 m (pc + 1) ls (st1.map (ex_cv ad))) := by
    intro a sh st1 hsh har ho1 he hs h1 h2 H1 locs1 hP hD hS
    obtain ⟨g1, g2⟩ := ex_h_upd (sts := sts) hR hsh har hs h1 (fun k r hk => hR.2.2.2.1 a k r (by rw [← h2]; exact hk)) hP hD hS
    have := kk H1 locs1 g1 g2 (by rw [hs, he]; exact ho1)
    rw [hs, he] at this
    exact this
  rcases hi with rfl | rfl | rfl
  · simp only [ex_heap] at h
    split at h
    · next x j a st1 =>
      split at h
      · next n hsh =>
        split at h
        · next hc =>
          simp only [Option.some.injEq, Prod.mk.injEq] at h
          obtain ⟨h1, hw⟩ := h
          have hw := hw.symm
          have f := fin a _ st1 hsh hc.2 (ex_tl (ex_tl (ex_tl ho))) h1.symm (by rw [hw]) (fun i hi => by rw [hw]; exact ⟨ex_set_ne hi, rfl, rfl⟩) (by rw [hw])
          refine va_iast hexec hb hF.1 hR.1 hR.2.1 hR.2.2.1 _ 0 (ex_ws_get (cA := cA) (ad := ad) hsh hc.2) rfl (ex_vpin hc.1) hd fun H1 locs1 hP hD hS => f H1 locs1 ?_ ?_ hS
          · have e : ex_cell cA ad w' a (.inr (.int, n)) = .inl (cA .int, n, .inl (upd (w.2.1 a) j.toNatClampNeg x)) := by
              rw [hw]; show Sum.inl (cA .int, n, Sum.inl (ex_set _ a _ a)) = _; rw [ex_set_eq]; rfl
            rw [e]; exact hP
          · have e : ex_cell cA ad w' a (.inr (.int, n)) = .inl (cA .int, n, .inl (upd (w.2.1 a) j.toNatClampNeg x)) := by
              rw [hw]; show Sum.inl (cA .int, n, Sum.inl (ex_set _ a _ a)) = _; rw [ex_set_eq]; rfl
            rw [e]; exact hD
        · cases h
      · cases h
    · cases h
  · simp only [ex_heap] at h
    split at h
    · next x j a st1 =>
      split at h
      · next n hsh =>
        split at h
        · next hc =>
          simp only [Option.some.injEq, Prod.mk.injEq] at h
          obtain ⟨h1, hw⟩ := h
          have hw := hw.symm
          have f := fin a _ st1 hsh hc.2 (ex_tl (ex_tl (ex_tl ho))) h1.symm (by rw [hw]) (fun i hi => by rw [hw]; exact ⟨ex_set_ne hi, rfl, rfl⟩) (by rw [hw])
          have e : ex_cell cA ad w' a (.inr (.byte, n)) = .inl (cA .byte, n, .inl (upd (w.2.1 a) j.toNatClampNeg (vp_nar .byte x))) := by
            rw [hw]; show Sum.inl (cA .byte, n, Sum.inl (ex_set _ a _ a)) = _; rw [ex_set_eq]; rfl
          rw [e] at f
          exact va_bast hexec hb hF.1 hR.1 hR.2.1 hR.2.2.1 _ 1 (ex_ws_get (cA := cA) (ad := ad) hsh hc.2) rfl (ex_vpin hc.1) hd f
        · cases h
      · next n hsh =>
        split at h
        · next hc =>
          simp only [Option.some.injEq, Prod.mk.injEq] at h
          obtain ⟨h1, hw⟩ := h
          have hw := hw.symm
          have f := fin a _ st1 hsh hc.2 (ex_tl (ex_tl (ex_tl ho))) h1.symm (by rw [hw]) (fun i hi => by rw [hw]; exact ⟨ex_set_ne hi, rfl, rfl⟩) (by rw [hw])
          have e : ex_cell cA ad w' a (.inr (.boolean, n)) = .inl (cA .boolean, n, .inl (upd (w.2.1 a) j.toNatClampNeg (vp_nar .boolean x))) := by
            rw [hw]; show Sum.inl (cA .boolean, n, Sum.inl (ex_set _ a _ a)) = _; rw [ex_set_eq]; rfl
          rw [e] at f
          exact va_zast hexec hb hF.1 hR.1 hR.2.1 hR.2.2.1 _ 2 (ex_ws_get (cA := cA) (ad := ad) hsh hc.2) rfl (ex_vpin hc.1) hd f
        · cases h
      · cases h
    · cases h
  · simp only [ex_heap] at h
    split at h
    · next x j a st1 =>
      split at h
      · next n hsh =>
        split at h
        · next hc =>
          simp only [Option.some.injEq, Prod.mk.injEq] at h
          obtain ⟨h1, hw⟩ := h
          have hw := hw.symm
          have f := fin a _ st1 hsh hc.2 (ex_tl (ex_tl (ex_tl ho))) h1.symm (by rw [hw]) (fun i hi => by rw [hw]; exact ⟨rfl, ex_set_ne hi, rfl⟩) (by rw [hw])
          have e : ex_cell cA ad w' a (.inr (.long, n)) = .inl (cA .long, n, .inr (.inl (vp_updL (w.2.2.1 a) j.toNatClampNeg x))) := by
            rw [hw]; show Sum.inl (cA .long, n, Sum.inr (Sum.inl (ex_set _ a _ a))) = _; rw [ex_set_eq]; rfl
          rw [e] at f
          exact va_last hexec hb hF.1 hR.1 hR.2.1 hR.2.2.1 _ 3 (ex_ws_get (cA := cA) (ad := ad) hsh hc.2) rfl (ex_vpin hc.1) hd f
        · cases h
      · cases h
    · cases h
theorem ex_val0 {ad : Nat → Nat} {w : ex_W} {a k : Nat} {ty : FieldType} (h1 : w.2.1 a = fun _ => 0) (h2 : w.2.2.1 a = fun _ => 0) (h3 : w.2.2.2 a = fun _ => none) (ht : ex_tc ty ≤ 3) : ex_val ad w a k ty = defaultValue ty := by
  cases ty <;> simp [ex_tc] at ht <;> simp only [ex_val, h1, h2, h3] <;> rfl
theorem ex_h_newarray {t : ArrayType} (hexec : p.tables.exec = Jvm.exec) (hb : c.code = cc) (hts : ∀ w ∈ Ts, w.before args s = true) (hF : ex_Fix D cA z0 ro sts Ns ad w s) (hR : ex_Rel D cA z0 ro ad w s H locs) (h : ex_heap ro (.newarray t) r k st w = some (st', w')) (hk : ex_hok Ts Ns own ini ro sts (.newarray t) len r k = true) (hd : decode cc pc = .ok (.newarray t, len)) (ho : ∀ v ∈ st, ex_okv w.1.1.length v)
    (hc0 : c0 ≤ w.1.2.1) (hs0 : s0 ≤ w.1.2.2) (hRc : w'.1.2.1 - c0 ≤ R.cells) (hRs : w'.1.2.2 - s0 ≤ R.slots)
    (kk : ∀ (ad' : Nat → Nat) (H1 : Heap) (locs1 : List Loc), ex_Rel D cA z0 ro ad' w' s H1 locs1 → ex_agr ro sts ad ad' w w' → (∀ v ∈ st', ex_okv w'.1.1.length v) → W p l e R s m args below meth c H1 locs1 (w'.1.2.1 - c0) (w'.1.2.2 - s0) Q (F0 m (pc + len) ls (st'.map (ex_cv ad')))) :
    W p l e R s m args below meth c H locs (w.1.2.1 - c0) (w.1.2.2 - s0) Q (F0 m pc ls (st.map (ex_cv ad))) := by
  simp only [ex_hok, Bool.and_eq_true, decide_eq_true_eq] at hk
  obtain ⟨⟨rfl, hat⟩, hk⟩ := hk
  simp only [ex_heap] at h
  split at h
  · next n st1 =>
    split at h
    · next hc =>
      simp only [Option.some.injEq, Prod.mk.injEq] at h
      obtain ⟨h1, hw⟩ := h
      have hw := hw.symm
      have ec : w'.1.2.1 = w.1.2.1 + 1 := by rw [hw]
      have es : w'.1.2.2 = w.1.2.2 + n.toNatClampNeg := by rw [hw]
      have hz : ∀ ty : FieldType, ex_at ty = true → ∃ a0 : vp_A, (∀ cA : ClassId, vp_cell cA a0 = arrV cA n.toNatClampNeg (fun _ => defaultValue ty)) ∧ a0 = (n.toNatClampNeg, ex_ac w' w.1.1.length ty) := by
        intro ty h
        have e1 : w'.2.1 w.1.1.length = fun _ => 0 := by rw [hw]; exact ex_set_eq
        have e2 : w'.2.2.1 w.1.1.length = fun _ => 0 := by rw [hw]; exact ex_set_eq
        cases ty <;> simp [ex_at] at h <;> refine ⟨_, fun cA => ?_, rfl⟩ <;> simp only [ex_ac, e1, e2] <;> rfl
      obtain ⟨a0, ha0, ea0⟩ := hz _ hat
      have hbt : n.toNatClampNeg * componentBytes (newarray.typeOf t) ≤ 536870912 := by
        have h8 : componentBytes (newarray.typeOf t) ≤ 8 := by cases t <;> decide
        calc n.toNatClampNeg * componentBytes (newarray.typeOf t) ≤ 65536 * 8 := Nat.mul_le_mul hc.2 h8
          _ ≤ 536870912 := by decide
      refine va_newa (atype := t) hexec hb (hts _ (List.mem_of_getElem? hk)) rfl hF.1 hR.1 hR.2.1 hR.2.2.1 (fun q hq => Nat.le_trans hF.2.1 hq) ha0 hc.1 rfl hbt (by omega) (by omega) hd fun q cA' H1 hK hP hD hS => ?_
      have hcA : cA' = cA (newarray.typeOf t) := by
        have g1 := (hK.2 (ex_tys cA).length (cA', newarray.typeOf t) (by rw [List.getElem?_append_right (Nat.le_refl _), Nat.sub_self]; rfl)).2
        have g2 : ∃ t0 : Nat, (ex_tys cA)[t0]? = some (cA (newarray.typeOf t), newarray.typeOf t) := by
          cases t <;> simp [ex_at, newarray.typeOf] at hat
          · exact ⟨2, rfl⟩
          · exact ⟨1, rfl⟩
          · exact ⟨0, rfl⟩
          · exact ⟨3, rfl⟩
        obtain ⟨t0, g2⟩ := g2
        have g3 := (hF.1.2 t0 _ g2).2
        cases t <;> exact Option.some.inj (g1.symm.trans g3)
      subst hcA
      subst ea0
      have hes : w'.1.1 = w.1.1 ++ [.inr (newarray.typeOf t, n.toNatClampNeg)] := by rw [hw]
      have had : ∀ i, i < w.1.1.length → va_up ad w.1.1.length q i = ad i := fun i hi => ex_up_ne (by omega)
      have hne : ∀ i, i < w.1.1.length → w'.2.1 i = w.2.1 i ∧ w'.2.2.1 i = w.2.2.1 i ∧ w'.2.2.2 i = w.2.2.2 i := fun i hi => by
        rw [hw]; exact ⟨ex_set_ne (by omega), ex_set_ne (by omega), rfl⟩
      have ew := ex_ws_push (cA := cA) (ro := ro) (ad := ad) (ad' := va_up ad w.1.1.length q) hes hR.2.2.2.2 hR.2.2.2.1 had hne
      rw [ex_up_eq] at ew
      have hl : w'.1.1.length = w.1.1.length + 1 := by rw [hes]; simp
      have kk := kk (va_up ad w.1.1.length q) H1 locs ⟨by rw [ew]; exact hP, by rw [ew]; exact hD, hS, fun i k r hk => by
          have : w'.2.2.2 = w.2.2.2 := by rw [hw]
          rw [this] at hk; have := hR.2.2.2.1 i k r hk; omega, by have := hR.2.2.2.2; omega⟩
        ⟨fun i hi => ⟨had i hi, by rw [hes, List.getElem?_append_left hi]⟩, fun i hi => hne i (Nat.lt_of_lt_of_le hi hR.2.2.2.2), by omega⟩
        (by rw [← h1]; exact ex_cn (show w.1.1.length < w'.1.1.length by omega) (fun v hv => (ex_tl ho v hv).mono (by omega)))
      have e3 : st'.map (ex_cv (va_up ad w.1.1.length q)) = .ref q :: st1.map (ex_cv ad) := by
        rw [← h1, List.map_cons, ex_map_same (ex_tl ho) had]
        show Value.ref (va_up ad w.1.1.length q w.1.1.length) :: _ = _
        rw [ex_up_eq]
      rw [e3, ec, es, show w.1.2.1 + 1 - c0 = w.1.2.1 - c0 + 1 by omega, show w.1.2.2 + n.toNatClampNeg - s0 = w.1.2.2 - s0 + n.toNatClampNeg by omega] at kk
      exact kk
    · cases h
  · cases h
theorem ex_h_new {idx : Nat} (hexec : p.tables.exec = Jvm.exec) (hb : c.code = cc) (hown : s.vm.findClass own = some m.cls) (hts : ∀ w ∈ Ts, w.before args s = true) (hU : ∀ (ci : Nat) (q : vw_C), vwCl[ci]? = some q → ∀ w ∈ u_ws q.1 q.2.1 q.2.2, w ∈ Ts) (hF : ex_Fix D cA z0 ro sts Ns ad w s) (hR : ex_Rel D cA z0 ro ad w s H locs) (h : ex_heap ro (.new idx) r k st w = some (st', w')) (hk : ex_hok Ts Ns own ini ro sts (.new idx) len r k = true) (hd : decode cc pc = .ok (.new idx, len)) (ho : ∀ v ∈ st, ex_okv w.1.1.length v)
    (hc0 : c0 ≤ w.1.2.1) (hs0 : s0 ≤ w.1.2.2) (hRc : w'.1.2.1 - c0 ≤ R.cells) (hRs : w'.1.2.2 - s0 ≤ R.slots)
    (kk : ∀ (ad' : Nat → Nat) (H1 : Heap) (locs1 : List Loc), ex_Rel D cA z0 ro ad' w' s H1 locs1 → ex_agr ro sts ad ad' w w' → (∀ v ∈ st', ex_okv w'.1.1.length v) → W p l e R s m args below meth c H1 locs1 (w'.1.2.1 - c0) (w'.1.2.2 - s0) Q (F0 m (pc + len) ls (st'.map (ex_cv ad')))) :
    W p l e R s m args below meth c H locs (w.1.2.1 - c0) (w.1.2.2 - s0) Q (F0 m pc ls (st.map (ex_cv ad))) := by
  simp only [ex_hok, Bool.and_eq_true, decide_eq_true_eq] at hk
  obtain ⟨rfl, hk⟩ := hk
  split at hk
  · next q0 hq =>
    simp only [Bool.and_eq_true, decide_eq_true_eq] at hk
    obtain ⟨⟨hk1, hk2⟩, hk3⟩ := hk
    simp only [ex_heap, Option.some.injEq, Prod.mk.injEq] at h
    obtain ⟨h1, hw⟩ := h
    have hw := hw.symm
    have ec : w'.1.2.1 = w.1.2.1 + 1 := by rw [hw]
    have es : w'.1.2.2 = w.1.2.2 + q0.2.2 := by rw [hw, ← ex_N_of hq]
    have e1 : w'.2.1 w.1.1.length = fun _ => 0 := by rw [hw]; exact ex_set_eq
    have e2 : w'.2.2.1 w.1.1.length = fun _ => 0 := by rw [hw]; exact ex_set_eq
    have e3 : w'.2.2.2 w.1.1.length = fun _ => none := by rw [hw]; exact ex_set_eq
    have hty := ex_tyok _ _ hq
    have hfs : ∀ j, j < q0.2.2 → defaultValue (ex_ty (r.getD 1 0) j) = vp_V (ex_fs ad w' w.1.1.length (r.getD 1 0)) j := by
      intro j hj
      have hjN : j < ex_N (r.getD 1 0) := by rw [ex_N_of hq]; exact hj
      have h66 := ex_N66 hjN
      rw [ex_vpV (ex_fs_get hjN), ex_val0 e1 e2 e3 (ex_tcs _ h66.1 _ h66.2)]
    refine va_new (C := q0.1) (T := q0.2.1) (N := q0.2.2) hexec hb hts (hU _ _ hq) (ex_ty (r.getD 1 0)) hty.1 hown (hts _ (List.mem_of_getElem? hk1)) (hts _ (List.mem_of_getElem? hk2)) (hts _ (List.mem_of_getElem? hk3)) hF.1 hR.1 hR.2.1 hR.2.2.1 (fun q hq => Nat.le_trans hF.2.1 hq) hq hfs (by omega) (by omega) hd fun q H1 hP hD hS => ?_
    have hes : w'.1.1 = w.1.1 ++ [.inl (r.getD 1 0)] := by rw [hw]
    have had : ∀ i, i < w.1.1.length → va_up ad w.1.1.length q i = ad i := fun i hi => ex_up_ne (by omega)
    have hne : ∀ i, i < w.1.1.length → w'.2.1 i = w.2.1 i ∧ w'.2.2.1 i = w.2.2.1 i ∧ w'.2.2.2 i = w.2.2.2 i := fun i hi => by
      rw [hw]; exact ⟨ex_set_ne (by omega), ex_set_ne (by omega), ex_set_ne (by omega)⟩
    have ew := ex_ws_push (cA := cA) (ro := ro) (ad := ad) (ad' := va_up ad w.1.1.length q) hes hR.2.2.2.2 hR.2.2.2.1 had hne
    rw [ex_up_eq] at ew
    have ee : ex_cell cA (va_up ad w.1.1.length q) w' w.1.1.length (.inl (r.getD 1 0)) = .inr (r.getD 1 0, ex_fs ad w' w.1.1.length (r.getD 1 0)) :=
      ex_cell_eq (cA := cA) (ad := ad) rfl rfl rfl (fun k r hk => by rw [e3] at hk; cases hk) (.inl (r.getD 1 0))
    rw [ee] at ew
    have hl : w'.1.1.length = w.1.1.length + 1 := by rw [hes]; simp
    have kk := kk (va_up ad w.1.1.length q) H1 locs ⟨by rw [ew]; exact hP, by rw [ew]; exact hD, hS, fun i k r hk => by
        by_cases hi : i = w.1.1.length
        · rw [hi, e3] at hk; cases hk
        · have : w'.2.2.2 i = w.2.2.2 i := by rw [hw]; exact ex_set_ne hi
          rw [this] at hk; have := hR.2.2.2.1 i k r hk; omega, by have := hR.2.2.2.2; omega⟩
      ⟨fun i hi => ⟨had i hi, by rw [hes, List.getElem?_append_left hi]⟩, fun i hi => hne i (Nat.lt_of_lt_of_le hi hR.2.2.2.2), by omega⟩
      (by rw [← h1]; exact ex_cn (show w.1.1.length < w'.1.1.length by omega) (fun v hv => (ho v hv).mono (by omega)))
    have e4 : st'.map (ex_cv (va_up ad w.1.1.length q)) = .ref q :: st.map (ex_cv ad) := by
      rw [← h1, List.map_cons, ex_map_same ho had]
      show Value.ref (va_up ad w.1.1.length q w.1.1.length) :: _ = _
      rw [ex_up_eq]
    rw [e4, ec, es, show w.1.2.1 + 1 - c0 = w.1.2.1 - c0 + 1 by omega, show w.1.2.2 + q0.2.2 - s0 = w.1.2.2 - s0 + q0.2.2 by omega] at kk
    exact kk
  · cases hk
theorem ex_stv_ok {q : Nat × Nat × Int32} (hin : ex_rin w) (h : q.2.1 < w.1.1.length) : ex_okv w.1.1.length (ex_stv w q) := by
  unfold ex_stv
  split
  · exact h
  · exact ex_okv_rf (fun r hr => hin _ _ _ hr)
  · exact trivial
theorem ex_h_rest {ins : Instr} (hexec : p.tables.exec = Jvm.exec) (hb : c.code = cc) (hown : s.vm.findClass own = some m.cls) (hts : ∀ w ∈ Ts, w.before args s = true) (hso : ex_sok ro sts) (hF : ex_Fix D cA z0 ro sts Ns ad w s) (hR : ex_Rel D cA z0 ro ad w s H locs) (hi : (∃ i, ins = .getstatic i) ∨ (∃ i, ins = .ldc i) ∨ (∃ i, ins = .ldc_w i) ∨ (∃ i, ins = .ldc2_w i)) (h : ex_heap ro ins r k st w = some (st', w')) (hk : ex_hok Ts Ns own ini ro sts ins len r k = true) (hd : decode cc pc = .ok (ins, len)) (ho : ∀ v ∈ st, ex_okv w.1.1.length v)
    (kk : w' = w → (∀ v ∈ st', ex_okv w.1.1.length v) → W p l e R s m args below meth c H locs (w.1.2.1 - c0) (w.1.2.2 - s0) Q (F0 m (pc + len) ls (st'.map (ex_cv ad)))) :
    W p l e R s m args below meth c H locs (w.1.2.1 - c0) (w.1.2.2 - s0) Q (F0 m pc ls (st.map (ex_cv ad))) := by
  rcases hi with ⟨i, rfl⟩ | ⟨i, rfl⟩ | ⟨i, rfl⟩ | ⟨i, rfl⟩
  · cases h
    simp only [ex_hok, Bool.and_eq_true, decide_eq_true_eq] at hk
    obtain ⟨rfl, hk⟩ := hk
    split at hk
    · next q hq =>
      simp only [Bool.and_eq_true, decide_eq_true_eq] at hk
      obtain ⟨hk1, hk2⟩ := hk
      have hZ := hF.2.2.2.1 _ _ hq
      have hz := hso _ _ hq
      rw [hk1] at hZ
      rw [hk1] at hz
      have kk := kk rfl (ex_cn (ex_stv_ok hR.2.2.2.1 (Nat.lt_of_lt_of_le hz hR.2.2.2.2)) ho)
      split at hk2
      · simp only [decide_eq_true_eq] at hk2
        exact va_gets hexec hb hZ hR.2.2.1 hown (hts _ (List.mem_of_getElem? hk2)) (fun _ h9 => h9) hd kk
      · simp only [decide_eq_true_eq] at hk2
        exact va_getsN hexec hb hZ hR.2.2.1 hown (va_Nw.use rfl (hF.2.2.2.2.1 _ (List.mem_of_getElem? hk2))) (fun _ h9 => h9) hd kk
    · cases hk
  · cases h
    simp only [ex_hok, Bool.and_eq_true, decide_eq_true_eq] at hk
    obtain ⟨rfl, hk⟩ := hk
    exact lv_ldc hexec hb hown (hts _ (List.mem_of_getElem? hk)) hd (kk rfl (ex_cn trivial ho))
  · cases h
    simp only [ex_hok, Bool.and_eq_true, decide_eq_true_eq] at hk
    obtain ⟨rfl, hk⟩ := hk
    exact lv_ldcw hexec hb hown (hts _ (List.mem_of_getElem? hk)) hd (kk rfl (ex_cn trivial ho))
  · cases h
    simp only [ex_hok, Bool.and_eq_true, decide_eq_true_eq] at hk
    obtain ⟨rfl, hk⟩ := hk
    exact lv_ldc2 hexec hb hown (hts _ (List.mem_of_getElem? hk)) hd (kk rfl (ex_cn trivial ho))
/-- all of them -/
theorem ex_heap_ok {ins : Instr} (hexec : p.tables.exec = Jvm.exec) (hb : c.code = cc) (hown : s.vm.findClass own = some m.cls) (hini : ini = true → meth.name = "<init>") (hts : ∀ w ∈ Ts, w.before args s = true) (hU : ∀ (ci : Nat) (q : vw_C), vwCl[ci]? = some q → ∀ w ∈ u_ws q.1 q.2.1 q.2.2, w ∈ Ts) (hso : ex_sok ro sts)
    (hF : ex_Fix D cA z0 ro sts Ns ad w s) (hR : ex_Rel D cA z0 ro ad w s H locs) (h : ex_heap ro ins r k st w = some (st', w')) (hk : ex_hok Ts Ns own ini ro sts ins len r k = true) (hd : decode cc pc = .ok (ins, len)) (ho : ∀ v ∈ st, ex_okv w.1.1.length v)
    (hc0 : c0 ≤ w.1.2.1) (hs0 : s0 ≤ w.1.2.2) (hRc : w'.1.2.1 - c0 ≤ R.cells) (hRs : w'.1.2.2 - s0 ≤ R.slots)
    (kk : ∀ (ad' : Nat → Nat) (H1 : Heap) (locs1 : List Loc), ex_Rel D cA z0 ro ad' w' s H1 locs1 → ex_agr ro sts ad ad' w w' → (∀ v ∈ st', ex_okv w'.1.1.length v) → W p l e R s m args below meth c H1 locs1 (w'.1.2.1 - c0) (w'.1.2.2 - s0) Q (F0 m (pc + len) ls (st'.map (ex_cv ad')))) :
    W p l e R s m args below meth c H locs (w.1.2.1 - c0) (w.1.2.2 - s0) Q (F0 m pc ls (st.map (ex_cv ad))) := by
  have k1 : w' = w → (∀ v ∈ st', ex_okv w.1.1.length v) → W p l e R s m args below meth c H locs (w.1.2.1 - c0) (w.1.2.2 - s0) Q (F0 m (pc + len) ls (st'.map (ex_cv ad))) := by
    intro e h9
    subst e
    exact kk ad H locs hR ex_agr.rf h9
  cases ins <;> first | (simp only [ex_heap, reduceCtorEq] at h; done) | skip
  case getfield i => exact ex_h_getfield hexec hb hown hts hU hF hR h hk hd ho k1
  case putfield i => exact ex_h_putfield hexec hb hown hini hts hU hF hR h hk hd ho (kk ad)
  case newarray t => exact ex_h_newarray hexec hb hts hF hR h hk hd ho hc0 hs0 hRc hRs kk
  case new i => exact ex_h_new hexec hb hown hts hU hF hR h hk hd ho hc0 hs0 hRc hRs kk
  case getstatic i => exact ex_h_rest hexec hb hown hts hso hF hR (Or.inl ⟨i, rfl⟩) h hk hd ho k1
  case ldc i => exact ex_h_rest hexec hb hown hts hso hF hR (Or.inr (Or.inl ⟨i, rfl⟩)) h hk hd ho k1
  case ldc_w i => exact ex_h_rest hexec hb hown hts hso hF hR (Or.inr (Or.inr (Or.inl ⟨i, rfl⟩))) h hk hd ho k1
  case ldc2_w i => exact ex_h_rest hexec hb hown hts hso hF hR (Or.inr (Or.inr (Or.inr ⟨i, rfl⟩))) h hk hd ho k1
  all_goals (simp only [ex_hok, decide_eq_true_eq] at hk; subst hk)
  case arraylength => exact ex_h_len hexec hb hF hR h hd ho k1
  case iaload => exact ex_h_load (Or.inl rfl) hexec hb hF hR h hd ho k1
  case baload => exact ex_h_load (Or.inr (Or.inl rfl)) hexec hb hF hR h hd ho k1
  case laload => exact ex_h_load (Or.inr (Or.inr (Or.inl rfl))) hexec hb hF hR h hd ho k1
  case aaload => exact ex_h_load (Or.inr (Or.inr (Or.inr rfl))) hexec hb hF hR h hd ho k1
  case iastore => exact ex_h_store (Or.inl rfl) hexec hb hF hR h hd ho (kk ad)
  case bastore => exact ex_h_store (Or.inr (Or.inl rfl)) hexec hb hF hR h hd ho (kk ad)
  case lastore => exact ex_h_store (Or.inr (Or.inr rfl)) hexec hb hF hR h hd ho (kk ad)
end EXH
end
section
/-! What a program's rows must be, and that cells and slots only grow -/
def ex_isp (ins : Instr) : Bool := match ins with
  | .iconst _ | .bipush _ | .sipush _ | .lconst _ | .iload _ | .iload_n _ | .lload _ | .lload_n _ | .aload _ | .aload_n _ | .istore _ | .istore_n _ | .lstore _ | .lstore_n _ | .astore _ | .astore_n _ | .iinc _ _ => true
  | .iadd | .isub | .imul | .iand | .ior | .ixor | .ishl | .ishr | .iushr | .idiv | .irem | .ladd | .lsub | .lmul | .land | .lor | .ldiv | .lrem | .lshl | .lushr | .lcmp | .i2l | .l2i | .i2b | .i2c | .dup | .dup2 | .pop => true
  | _ => false
theorem ex_isp_of {ins : Instr} {k : Int32} {lo lo' : ex_Lo} {st st' : List Value} (h : ex_pure ins k lo st = some (lo', st')) : ex_isp ins = true := by
  cases ins <;> first | rfl | (simp only [ex_pure, reduceCtorEq] at h; done)
theorem ex_isp_not {ro : Nat} {ins : Instr} {r : List Nat} {k : Int32} {st st' : List Value} {w w' : ex_W} (h : ex_heap ro ins r k st w = some (st', w')) : ex_isp ins = false := by
  cases ins <;> first | rfl | (simp only [ex_heap, reduceCtorEq] at h; done)
def ex_jmp (cd : List (List ex_R)) (pc : Nat) (off : Int) (t : Nat) : Bool := match cd.getD t [] with
  | x :: _ => decide ((pc : Int) + off = (x.1 : Int))
  | [] => false
def ex_ft (pc : Nat) (L : List ex_R) : Bool := match L with
  | x :: _ => decide (x.1 = pc)
  | [] => false
/-- .. or the rows end: the small machine stops there -/
def ex_ftl (pc : Nat) (L : List ex_R) : Bool := match L with
  | x :: _ => decide (x.1 = pc)
  | [] => true
def ex_en (e : Nat) : String := match e with
  | 0 => "java/lang/IllegalArgumentException"
  | _ => "java/util/NoSuchElementException"
def ex_es : List String := ["java/lang/RuntimeException", "java/lang/Exception"]
def ex_cn1 (ci : Nat) : String := if ci < 100 then (match vwCl[ci]? with
  | some q => q.1
  | none => "") else ex_rn ci
/-- a method's code, as a word -/
def ex_cw (M : ex_M) : Cond := if M.2.2.2.2.2.2 = [] then .code M.1 M.2.1 M.2.2.1 M.2.2.2.1 else .codeWith M.1 M.2.1 M.2.2.1 M.2.2.2.1 M.2.2.2.2.2.2
/-- the words of a method, at its places: initialized, then of a static one static, of another instanceMethod, selects -/
def ex_mw (Ts : List Cond) (M : ex_M) (ps : List Nat) : Bool :=
  decide (Ts[ps.getD 1 0]? = some (.initialized M.1.cls)) && (match ps.getD 2 0 with
    | 0 => decide (Ts[ps.getD 3 0]? = some (.static M.1))
    | 1 => decide (Ts[ps.getD 3 0]? = some (.instanceMethod M.1)) && decide (Ts[ps.getD 4 0]? = some (.selects M.1.cls M.1 M.1))
    | 3 => true
    | _ => decide (Ts[ps.getD 3 0]? = some (.instanceMethod M.1)) && decide (M.1.name = "<init>"))
/-- a call of M by that pool index -/
def ex_cl (Ts Ns : List Cond) (own : String) (idx : Nat) (r : List Nat) (k : Int32) (M : ex_M) (ps : List Nat) (kv : Nat) (ks : List Nat) (extra : Nat) : Bool :=
  decide (ps.getD 2 0 = kv) && decide (r.getD 0 0 ∈ ks) && decide ((parseMethodDescriptor M.1.desc).map (fun d => d.parameters.length + extra) = some (r.getD 2 0)) &&
  (if r.getD 0 0 = 1 ∨ r.getD 0 0 = 3 ∨ r.getD 0 0 = 5 then decide (Ns[k.toNatClampNeg]? = some (.methodLinkNest own idx M.1 "PileTricks")) else decide (Ts[k.toNatClampNeg]? = some (.methodLink own idx M.1)))
/-- the law's own pool: where the classes that it catches stand -/
def ex_ct (x : Nat) : Nat := match x with
  | 0 => 13
  | _ => 18
/-- the handlers: each pair of rs, in the table's order -/
def ex_hd (bytes : ByteArray) (nL : Nat) (own : String) (pc : Nat) (cd : List (List ex_R)) : List Nat → List (Nat × Nat × Nat × Nat) → List Nat → Bool
  | x :: b :: rs, q :: hh, seen => (match cd.getD b [] with
      | [ra, rc, rr] => decide (q.1 ≤ pc) && decide (pc < q.2.1) && decide (q.2.2.2 ≠ 0) && decide (own = "PileTricksLaw" ∧ x < 2 ∧ q.2.2.2 = ex_ct x) && decide (ra.1 = q.2.2.1) && decide (decode bytes ra.1 = .ok (ra.2.2.1, ra.2.1)) && decide (decode bytes rc.1 = .ok (rc.2.2.1, rc.2.1)) && decide (decode bytes rr.1 = .ok (.ireturn, 1)) && decide (rr.2.2.1 = .ireturn) && decide (rr.2.1 = 1) && decide (rc.1 = ra.1 + ra.2.1) && decide (rr.1 = rc.1 + rc.2.1) && ex_kok ra.2.2.1 ra.2.2.2.2 ra.2.1 && ex_kok rc.2.2.1 rc.2.2.2.2 rc.2.1 && (match ra.2.2.1 with
          | .astore_n i => decide (i.val < nL)
          | .astore i => decide (i < nL)
          | _ => false) && (match rc.2.2.1 with
          | .iconst _ => true
          | _ => false) && (seen.all fun y => decide (x = 0 ∧ y = 1))
      | _ => false) && ex_hd bytes nL own pc cd rs hh (x :: seen)
  | [], [], _ => true
  | _, _, _ => false
def ex_cok (Ts Ns : List Cond) (mt : Nat → Option ex_M) (mp : Nat → List Nat) (M0 : ex_M) (pc : Nat) (ins : Instr) (r : List Nat) (k : Int32) : Bool := match ins with
  | .invokevirtual idx => (match mt (r.getD 1 0) with
    | some M => ex_cl Ts Ns M0.2.2.2.2.1 idx r k M (mp (r.getD 1 0)) 1 [0, 1, 9] 1 && decide (M.1.cls = ex_cn1 (r.getD 3 0) ∧ (r.getD 3 0 < 10 ∨ 100 ≤ r.getD 3 0 ∧ r.getD 3 0 < 200)) && decide (M.2.2.2.2.2.2 = []) && (if r.getD 0 0 = 9 then decide (plainName M.1.cls = true) && ex_hd M0.2.1 M0.2.2.1 M0.2.2.2.2.1 pc M0.2.2.2.2.2.1 (r.drop 4) M0.2.2.2.2.2.2 [] else true)
    | none => false)
  | .invokestatic idx => if r.getD 0 0 = 7 then decide (Ts[k.toNatClampNeg]? = some (.methodLink M0.2.2.2.2.1 idx arraycopyName)) else (match mt (r.getD 1 0) with
    | some M => ex_cl Ts Ns M0.2.2.2.2.1 idx r k M (mp (r.getD 1 0)) 0 [2, 3, 8] 0 && decide (r.getD 0 0 = 8 ↔ M.2.2.2.2.2.2 ≠ [])
    | none => false)
  | .invokespecial idx => if r.getD 0 0 = 6 then decide (Ts[k.toNatClampNeg]? = some (.methodLink M0.2.2.2.2.1 idx objectInit)) else (match mt (r.getD 1 0) with
    | some M => ex_cl Ts Ns M0.2.2.2.2.1 idx r k M (mp (r.getD 1 0)) 2 [4, 5] 1 && decide (M.2.2.2.1 = none) && decide (M.2.2.2.2.2.2 = [])
    | none => false)
  | _ => false
/-- throw new: class, pool indices -/
def ex_tok (Ts : List Cond) (tsl : List (String × Nat × Nat)) (M0 : ex_M) (pc idx : Nat) (r : List Nat) : Bool := match tsl[r.getD 2 0]? with
  | some q => decide (q.1 = M0.2.2.2.2.1) && decide (q.2.2 = r.getD 1 0) && decide (r.getD 1 0 < 2) && decide (Ts[r.getD 3 0]? = some (.classLink M0.2.2.2.2.1 idx (ex_en (r.getD 1 0)))) && decide (Ts[r.getD 4 0]? = some (.initialized (ex_en (r.getD 1 0)))) && decide (decode M0.2.1 (pc + 3) = .ok (.dup, 1)) && decide (decode M0.2.1 (pc + 4) = .ok (.invokespecial q.2.1, 3)) && decide (decode M0.2.1 (pc + 7) = .ok (.athrow, 1)) && decide (M0.2.2.2.2.2.2 = [])
  | none => false
def ex_rok (Ts Ns : List Cond) (mt : Nat → Option ex_M) (mp : Nat → List Nat) (tsl : List (String × Nat × Nat)) (ro : Nat) (sts : List ex_St) (M0 : ex_M) (row : ex_R) (L : List ex_R) : Bool :=
  decide (decode M0.2.1 row.1 = .ok (row.2.2.1, row.2.1)) && (match row.2.2.1 with
  | .goto off => decide (row.2.1 = 3) && ex_jmp M0.2.2.2.2.2.1 row.1 off (row.2.2.2.1.getD 0 0)
  | .ifCond _ off => decide (row.2.1 = 3) && ex_jmp M0.2.2.2.2.2.1 row.1 off (row.2.2.2.1.getD 0 0) && ex_ft (row.1 + 3) L
  | .if_icmp _ off => decide (row.2.1 = 3) && ex_jmp M0.2.2.2.2.2.1 row.1 off (row.2.2.2.1.getD 0 0) && ex_ft (row.1 + 3) L
  | .if_acmp _ off => decide (row.2.1 = 3) && ex_jmp M0.2.2.2.2.2.1 row.1 off (row.2.2.2.1.getD 0 0) && ex_ft (row.1 + 3) L
  | .tableswitch df l h offs => ex_jmp M0.2.2.2.2.2.1 row.1 df (row.2.2.2.1.getD 0 0) && ((List.range (h - l + 1).toNat).all fun i => match offs[i]? with
    | some off => ex_jmp M0.2.2.2.2.2.1 row.1 off (row.2.2.2.1.getD (1 + i) 0)
    | none => false)
  | .ireturn => decide (row.2.1 = 1)
  | .lreturn => decide (row.2.1 = 1)
  | .return_ => decide (row.2.1 = 1)
  | .invokevirtual i => decide (row.2.1 = 3) && ex_ft (row.1 + 3) L && ex_cok Ts Ns mt mp M0 row.1 (.invokevirtual i) row.2.2.2.1 row.2.2.2.2
  | .invokestatic i => decide (row.2.1 = 3) && ex_ft (row.1 + 3) L && ex_cok Ts Ns mt mp M0 row.1 (.invokestatic i) row.2.2.2.1 row.2.2.2.2
  | .invokespecial i => decide (row.2.1 = 3) && ex_ft (row.1 + 3) L && ex_cok Ts Ns mt mp M0 row.1 (.invokespecial i) row.2.2.2.1 row.2.2.2.2
  | .new i => if row.2.2.2.1.getD 0 0 = 1 then decide (row.2.1 = 3) && ex_tok Ts tsl M0 row.1 i row.2.2.2.1 else ex_hok Ts Ns M0.2.2.2.2.1 (M0.1.name == "<init>") ro sts (.new i) row.2.1 row.2.2.2.1 row.2.2.2.2 && ex_ftl (row.1 + row.2.1) L
  | ins => (if ex_isp ins then ex_kok ins row.2.2.2.2 row.2.1 else ex_hok Ts Ns M0.2.2.2.2.1 (M0.1.name == "<init>") ro sts ins row.2.1 row.2.2.2.1 row.2.2.2.2) && ex_ftl (row.1 + row.2.1) L)
def ex_lok (Ts Ns : List Cond) (mt : Nat → Option ex_M) (mp : Nat → List Nat) (tsl : List (String × Nat × Nat)) (ro : Nat) (sts : List ex_St) (M0 : ex_M) : List ex_R → Bool
  | [] => true
  | row :: L => ex_rok Ts Ns mt mp tsl ro sts M0 row L && ex_lok Ts Ns mt mp tsl ro sts M0 L
/-- a method's rows -/
def ex_mok (Ts Ns : List Cond) (mt : Nat → Option ex_M) (mp : Nat → List Nat) (tsl : List (String × Nat × Nat)) (ro : Nat) (sts : List ex_St) (mi : Nat) (M : ex_M) : Bool :=
  ex_mw Ts M (mp mi) && decide (plainFor M.1 = true ∧ (M.2.2.2.2.2.2 = [] ∨ plainName M.1.cls = true)) && decide (M.1.cls ≠ "java/lang/invoke/MethodHandle") && decide (M.1.cls ≠ "java/lang/invoke/VarHandle") && decide (M.1.cls = M.2.2.2.2.1) && decide (M.2.2.1 ≤ 40) && ex_ft 0 (M.2.2.2.2.2.1.getD 0 []) && M.2.2.2.2.2.1.all (ex_lok Ts Ns mt mp tsl ro sts M)
theorem ex_blk {Ts Ns : List Cond} {mt : Nat → Option ex_M} {mp : Nat → List Nat} {tsl : List (String × Nat × Nat)} {ro : Nat} {sts : List ex_St} {M : ex_M} (h : M.2.2.2.2.2.1.all (ex_lok Ts Ns mt mp tsl ro sts M) = true) (t : Nat) : ex_lok Ts Ns mt mp tsl ro sts M (M.2.2.2.2.2.1.getD t []) = true := by
  rw [List.getD_eq_getElem?_getD]
  cases ht : M.2.2.2.2.2.1[t]? with
  | none => rfl
  | some L => exact List.all_eq_true.mp h L (List.mem_of_getElem? ht)
theorem ex_heap_mono {ro : Nat} {ins : Instr} {r : List Nat} {k : Int32} {st st' : List Value} {w w' : ex_W} (h : ex_heap ro ins r k st w = some (st', w')) : w.1.2.1 ≤ w'.1.2.1 ∧ w.1.2.2 ≤ w'.1.2.2 := by
  have key : ∀ {c : Prop} [Decidable c] {a : Option (List Value × ex_W)}, (if c then a else none) = some (st', w') → a = some (st', w') := fun {c} _ {a} h => by
    by_cases hc : c
    · rw [if_pos hc] at h; exact h
    · rw [if_neg hc] at h; cases h
  have same : w' = w → w.1.2.1 ≤ w'.1.2.1 ∧ w.1.2.2 ≤ w'.1.2.2 := fun e => by rw [e]; exact ⟨Nat.le_refl _, Nat.le_refl _⟩
  cases ins <;> first | (simp only [ex_heap, reduceCtorEq] at h; done) | skip
  case new i => cases h; exact ⟨Nat.le_add_right _ _, Nat.le_add_right _ _⟩
  case getstatic i => cases h; exact ⟨Nat.le_refl _, Nat.le_refl _⟩
  case ldc i => cases h; exact ⟨Nat.le_refl _, Nat.le_refl _⟩
  case ldc_w i => cases h; exact ⟨Nat.le_refl _, Nat.le_refl _⟩
  case ldc2_w i => cases h; exact ⟨Nat.le_refl _, Nat.le_refl _⟩
  case newarray t =>
    simp only [ex_heap] at h
    split at h
    · have h := key h; cases h; exact ⟨Nat.le_add_right _ _, Nat.le_add_right _ _⟩
    · cases h
  case putfield i =>
    simp only [ex_heap] at h
    split at h <;> split at h <;> first | (cases h; done) | (split at h <;> first | (cases h; done) | (have h := key h; first | (cases h; exact ⟨Nat.le_refl _, Nat.le_refl _⟩) | (have h := key h; cases h; exact ⟨Nat.le_refl _, Nat.le_refl _⟩)))
  all_goals
    simp only [ex_heap] at h
    split at h <;> first | (cases h; done) | (split at h <;> first | (cases h; done) | (have h := key h; cases h; exact ⟨Nat.le_refl _, Nat.le_refl _⟩))
abbrev ex_le (w w' : ex_W) : Prop := w.1.2.1 ≤ w'.1.2.1 ∧ w.1.2.2 ≤ w'.1.2.2
theorem ex_le.tr {a b c : ex_W} (h : ex_le a b) (g : ex_le b c) : ex_le a c := ⟨Nat.le_trans h.1 g.1, Nat.le_trans h.2 g.2⟩
theorem ex_fin_mono {ret : Option FieldType} {row : ex_R} {st : List Value} {w : ex_W} {x : Option Value ⊕ Nat} {w' : ex_W} (h : ex_fin ret row st w = some (x, w')) : ex_le w w' := by
  unfold ex_fin at h
  split at h
  · split at h
    · split at h
      · cases h; exact ⟨Nat.le_refl _, Nat.le_refl _⟩
      · cases h
    · cases h
  · split at h
    · split at h
      · cases h; exact ⟨Nat.le_refl _, Nat.le_refl _⟩
      · cases h
    · cases h
  · split at h
    · split at h
      · cases h; exact ⟨Nat.le_refl _, Nat.le_refl _⟩
      · cases h
    · cases h
  · split at h
    · split at h
      · cases h; exact ⟨Nat.le_add_right _ _, Nat.le_add_right _ _⟩
      · cases h
    · cases h
  · cases h
theorem ex_me_of {mt : Nat → Option ex_M} {self : ex_S} {d mi : Nat} {args : List Value} {w : ex_W} {x : ex_A} (h : ex_me mt self d mi args w = some x) : ∃ M, mt mi = some M ∧ (ex_sl args).length ≤ M.2.2.1 ∧ ∃ row L lo st w1, self d M.2.2.2.2.2.1 (M.2.2.2.2.2.1.getD 0 []) (ex_ent M.2.2.1 args) [] w = some (row :: L, lo, st, w1) ∧ ex_fin M.2.2.2.1 row st w1 = some x := by
  unfold ex_me at h
  split at h
  · cases h
  · next M hM =>
    split at h
    · next hl =>
      unfold ex_end at h
      split at h
      · next row L lo st w1 hr => exact ⟨M, hM, hl, row, L, lo, st, w1, hr, h⟩
      · cases h
    · cases h
theorem ex_cat_w {cd : List (List ex_R)} {e : Nat} {w : ex_W} {E : ex_E} : ∀ (rs : List Nat), ex_cat cd e w rs = some E → E.2.2.2 = w
  | x :: b :: rs, h => by
    unfold ex_cat at h
    split at h
    · split at h
      · cases h; rfl
      · cases h
    · exact ex_cat_w rs h
  | [_], h => by cases h
  | [], h => by cases h
theorem ex_mono (ro : Nat) (mt : Nat → Option ex_M) : ∀ (n d : Nat) (cd : List (List ex_R)) (L : List ex_R) (lo : ex_Lo) (st : List Value) (w : ex_W) (E : ex_E), ex_run ro mt n d cd L lo st w = some E → ex_le w E.2.2.2
  | 0, _, _, _, _, _, _, _, h => by cases h
  | n + 1, d, cd, L, lo, st, w, E, h => by
    have ih := ex_mono ro mt n
    have ihm : ∀ (d mi : Nat) (args : List Value) (w : ex_W) (x : Option Value ⊕ Nat) (w' : ex_W), ex_me mt (ex_run ro mt n) d mi args w = some (x, w') → ex_le w w' := by
      intro d mi args w x w' h
      obtain ⟨M, -, -, row, L, lo, st, w1, h1, h2⟩ := ex_me_of h
      exact (ih _ _ _ _ _ _ _ h1).tr (ex_fin_mono h2)
    have ihr : ∀ (d : Nat) (cd : List (List ex_R)) (L : List ex_R) (lo : ex_Lo) (st : List Value) (w : ex_W) (y : Option ex_A), (∀ x w', y = some (x, w') → ex_le w w') → ex_ret (ex_run ro mt n) d cd L lo st y = some E → ex_le w E.2.2.2 := by
      intro d cd L lo st w y hy h
      unfold ex_ret at h
      split at h
      · exact (hy _ _ rfl).tr (ih _ _ _ _ _ _ _ h)
      · exact (hy _ _ rfl).tr (ih _ _ _ _ _ _ _ h)
      · cases h
    have ihi : ∀ (r : List Nat) (L : List ex_R), ex_inv ro mt (ex_run ro mt n) d cd r L lo st w = some E → ex_le w E.2.2.2 := by
      intro r L h
      unfold ex_inv at h
      split at h
      · split at h
        · split at h
          · exact ih _ _ _ _ _ _ _ h
          · cases h
        · cases h
      · split at h
        · split at h
          · split at h
            · split at h
              · have h := ih _ _ _ _ _ _ _ h; exact h
              · cases h
            · cases h
          · cases h
        · cases h
      · split at h
        · cases h
        · next d' =>
          split at h
          · split at h
            · unfold ex_retC at h
              split at h
              · next e w1 he =>
                rw [ex_cat_w _ h]
                exact ihm _ _ _ _ _ _ he
              · exact ihr _ _ _ _ _ _ _ (fun x w' hx => ihm _ _ _ _ _ _ hx) h
            · exact ihr _ _ _ _ _ _ _ (fun x w' hx => ihm _ _ _ _ _ _ hx) h
          · cases h
      · cases h
    have h : ex_body ro mt (ex_run ro mt n) d cd L lo st w = some E := h
    unfold ex_body at h
    split at h
    · cases h
    · next row L =>
      split at h
      · exact ih _ _ _ _ _ _ _ h
      · split at h
        · next c _ x st1 =>
          unfold ex_if at h
          split at h <;> split at h <;> exact ih _ _ _ _ _ _ _ h
        · cases h
      · split at h
        · unfold ex_if at h
          split at h <;> split at h <;> exact ih _ _ _ _ _ _ _ h
        · cases h
      · split at h
        · split at h
          · split at h <;> split at h <;> exact ih _ _ _ _ _ _ _ h
          · cases h
        · cases h
      · split at h
        · split at h <;> exact ih _ _ _ _ _ _ _ h
        · cases h
      · cases h; exact ⟨Nat.le_refl _, Nat.le_refl _⟩
      · cases h; exact ⟨Nat.le_refl _, Nat.le_refl _⟩
      · cases h; exact ⟨Nat.le_refl _, Nat.le_refl _⟩
      · exact ihi _ _ h
      · exact ihi _ _ h
      · exact ihi _ _ h
      · split at h
        · cases h; exact ⟨Nat.le_refl _, Nat.le_refl _⟩
        · split at h
          · next hh => exact ex_le.tr (ex_heap_mono hh) (ih _ _ _ _ _ _ _ h)
          · cases h
      · split at h
        · exact ih _ _ _ _ _ _ _ h
        · split at h
          · next hh => exact ex_le.tr (ex_heap_mono hh) (ih _ _ _ _ _ _ _ h)
          · cases h
end
section
/-! What the small machine runs, the JVM runs: methods by contract, by induction on the small machine's fuel -/
def ex_nok (x : Cond) : Bool := match x with
  | .fieldLinkNest _ _ _ _ _ _ => true
  | .methodLinkNest _ _ _ _ => true
  | .declares _ => true
  | .castable _ _ => true
  | _ => false
theorem ex_nok_on {x : Cond} (h : ex_nok x = true) : x.onTables = true := by
  cases x <;> first | rfl | cases h
theorem ex_nok_warm {x : Cond} {s U : State} (h : ex_nok x = true) (hW : s.WarmedH U.vm) (hZ : va_Nw x s) : va_Nw x U := by
  cases x <;> first | exact va_Nw.warmF hW hZ | exact va_Nw.warmM hW hZ | exact va_Nw.warmD hW hZ | exact va_Nw.warmC hW hZ | cases h
/-- what the program and the tables owe -/
def ex_Hyp (l : Launch) (Ts Ns : List Cond) (mt : Nat → Option ex_M) (mp : Nat → List Nat) (tsl : List (String × Nat × Nat)) (ro : Nat) (sts : List ex_St) : Prop :=
  l.stackTraces = false ∧ (∀ mi M, mt mi = some M → ex_mok Ts Ns mt mp tsl ro sts mi M = true) ∧ (∀ (ci : Nat) (q : vw_C), vwCl[ci]? = some q → ∀ w ∈ u_ws q.1 q.2.1 q.2.2, w ∈ Ts) ∧ ex_sok ro sts ∧ (∀ w ∈ Ts, goodWord w = true) ∧ (∀ x ∈ Ns, ex_nok x = true) ∧
  (∀ q ∈ tsl, ∀ w ∈ vx_at0 q.1 q.2.1 (ex_en q.2.2) ex_es, (w ∈ Ts ∨ w ∈ Ns) ∧ vx_ot w = true) ∧
  (∀ mi M, mt mi = some M → (mp mi).getD 2 0 ≠ 3 → ex_cw M ∈ Ts) ∧ (Cond.instanceMethod objectInit ∈ Ts ∧ Cond.code objectInit ⟨#[0xb1]⟩ 1 none ∈ Ts) ∧ (Cond.native arraycopyName ∈ Ts ∧ Cond.static arraycopyName ∈ Ts ∧ Cond.initialized "java/lang/System" ∈ Ts) ∧ ∀ x, x < 2 → Cond.classLink "PileTricksLaw" (ex_ct x) (ex_en x) ∈ Ts ∧ Cond.castable (ex_en x) (ex_en x) ∈ Ns
def ex_rm (d mc ms : Nat) : Room := { frames := d + 6, cells := mc, slots := ms, locals := 64 * d + 140 }
def ex_wd (Ts : List Cond) (M : ex_M) : List Cond := ex_cw M :: Ts
def ex_pc (L : List ex_R) : Nat := match L with
  | x :: _ => x.1
  | [] => 0
def ex_Pc (D : va_G) (cA : FieldType → ClassId) (z0 ro : Nat) (sts : List ex_St) (Ns : List Cond) (ad : Nat → Nat) (w : ex_W) (as : List Value) : Array Value → State → Prop := fun a U =>
  a = (as.map (ex_cv ad)).toArray ∧ ex_Fix D cA z0 ro sts Ns ad w U ∧ va_P D vwCl (ex_ws cA ro ad w) U.heap
/-- the world behind a call -/
def ex_Wn (D : va_G) (cA : FieldType → ClassId) (z0 ro : Nat) (sts : List ex_St) (ad ad' : Nat → Nat) (w w' : ex_W) (t : State) : Prop :=
  ex_agr ro sts ad ad' w w' ∧ va_P D vwCl (ex_ws cA ro ad' w') t.heap ∧ va_D (fun q => z0 ≤ q) (ex_ws cA ro ad' w') ∧ ex_rin w' ∧ ro ≤ w'.1.1.length
def ex_Qc (D : va_G) (cA : FieldType → ClassId) (z0 ro : Nat) (sts : List ex_St) (ad : Nat → Nat) (w w' : ex_W) (v : Option Value) : Array Value → State → Outcome → State → Prop := fun _ st o t =>
  (∃ ad' : Nat → Nat, o = .returned (v.map (ex_cv ad')) ∧ (∀ x, v = some x → ex_okv w'.1.1.length x) ∧ ex_Wn D cA z0 ro sts ad ad' w w' t) ∧ va_F (fun q => z0 ≤ q) st t
def ex_Xc (D : va_G) (cA : FieldType → ClassId) (z0 ro : Nat) (sts : List ex_St) (ad : Nat → Nat) (w w' : ex_W) (e : Nat) : String → State → State → Prop := fun E st t =>
  E = ex_en e ∧ (∃ ad' : Nat → Nat, ex_Wn D cA z0 ro sts ad ad' w w' t) ∧ va_F (fun q => z0 ≤ q) st t
/-- a frame's surroundings -/
def ex_Cx (p : Program) (l : Launch) (R : Room) (s : State) (m : MethodId) (args : Array Value) (meth : Method) (c : Code) (Ts : List Cond) (M : ex_M) (d : Nat) : Prop :=
  p.tables.exec = Jvm.exec ∧ c.code = M.2.1 ∧ c.maxLocals = M.2.2.1 ∧ s.vm.findClass M.2.2.2.2.1 = some m.cls ∧ (∀ w ∈ Ts, w.before args s = true) ∧ meth.locks = false ∧ ((M.1.name == "<init>") = true → meth.name = "<init>") ∧ c.exceptionTable.toList = tableOf M.2.2.2.2.2.2 ∧ d + 6 ≤ R.frames ∧ 64 * d + 140 ≤ R.locals
/-- the walk of a frame -/
def ex_AA (l : Launch) (Ts Ns : List Cond) (mt : Nat → Option ex_M) (mp : Nat → List Nat) (tsl : List (String × Nat × Nat)) (ro : Nat) (sts : List ex_St) (n : Nat) : Prop :=
  ∀ (d mi : Nat) (M : ex_M) (L : List ex_R) (lo : ex_Lo) (st : List Value) (w : ex_W) (E : ex_E), mt mi = some M → ex_run ro mt n d M.2.2.2.2.2.1 L lo st w = some E → ex_lok Ts Ns mt mp tsl ro sts M L = true →
  ∀ (p : Program) (e : Env) (R : Room) (s : State) (m : MethodId) (args : Array Value) (below : List Frame) (meth : Method) (c : Code) (H : Heap) (locs : List Loc) (ls : Array Slot) (ad : Nat → Nat) (D : va_G) (cA : FieldType → ClassId) (z0 c0 s0 : Nat) (Q : State → Prop),
  ex_Cx p l R s m args meth c Ts M d → ex_Fix D cA z0 ro sts Ns ad w s → ex_Rel D cA z0 ro ad w s H locs → ex_LR ad w.1.1.length M.2.2.1 lo ls → ex_nod lo → (∀ v ∈ st, ex_okv w.1.1.length v) → c0 ≤ w.1.2.1 → s0 ≤ w.1.2.2 → E.2.2.2.1.2.1 - c0 ≤ R.cells → E.2.2.2.1.2.2 - s0 ≤ R.slots →
  (∀ (ad1 : Nat → Nat) (H1 : Heap) (locs1 : List Loc) (ls1 : Array Slot), ex_Rel D cA z0 ro ad1 E.2.2.2 s H1 locs1 → ex_agr ro sts ad ad1 w E.2.2.2 → ex_LR ad1 E.2.2.2.1.1.length M.2.2.1 E.2.1 ls1 → (∀ v ∈ E.2.2.1, ex_okv E.2.2.2.1.1.length v) → ex_lok Ts Ns mt mp tsl ro sts M E.1 = true →
    W p l e R s m args below meth c H1 locs1 (E.2.2.2.1.2.1 - c0) (E.2.2.2.1.2.2 - s0) Q (F0 m (ex_pc E.1) ls1 (E.2.2.1.map (ex_cv ad1)))) →
  W p l e R s m args below meth c H locs (w.1.2.1 - c0) (w.1.2.2 - s0) Q (F0 m (ex_pc L) ls (st.map (ex_cv ad)))
theorem ex_blind {D : va_G} {cA : FieldType → ClassId} {z0 ro : Nat} {sts : List ex_St} {Ns : List Cond} {ad : Nat → Nat} {w : ex_W} {as : List Value} (hN : ∀ x ∈ Ns, ex_nok x = true) : FrameBlind (ex_Pc D cA z0 ro sts Ns ad w as) := by
  intro a U g mk h
  obtain ⟨h1, h2, h3⟩ := h
  exact ⟨h1, h2.at (U := U.calling g mk a) (H := U.heap) (locs := []) va_S.rf rfl (Vm.Alike.refl U.vm) (fun x hx => va_Nw.same (u := U) (ex_nok_on (hN x hx)) rfl (h2.2.2.2.2.1 x hx)), h3⟩
theorem ex_sl_get {ad : Nat → Nat} : ∀ (as : List Value) (i : Nat) (v : Value), (ex_sl as)[i]? = some (some v) → (lg_sl (as.map (ex_cv ad)))[i]? = some (.val (ex_cv ad v)) ∧ v ∈ as
  | [], i, v, h => by simp [ex_sl] at h
  | a :: as, i, v, h => by
    have e1 : ex_sl (a :: as) = (if a.category = 2 then [some a, none] else [some a]) ++ ex_sl as := rfl
    have e2 : lg_sl ((a :: as).map (ex_cv ad)) = (if (ex_cv ad a).category = 2 then [.val (ex_cv ad a), .second] else [.val (ex_cv ad a)]) ++ lg_sl (as.map (ex_cv ad)) := rfl
    rw [e1] at h
    rw [e2, ex_cv_cat]
    by_cases hc : a.category = 2
    · rw [if_pos hc] at h ⊢
      match i, h with
      | 0, h => cases h; exact ⟨rfl, List.mem_cons_self⟩
      | 1, h => cases h
      | i + 2, h =>
        have ih := ex_sl_get (ad := ad) as i v h
        exact ⟨ih.1, List.mem_cons_of_mem _ ih.2⟩
    · rw [if_neg hc] at h ⊢
      match i, h with
      | 0, h => cases h; exact ⟨rfl, List.mem_cons_self⟩
      | i + 1, h =>
        have ih := ex_sl_get (ad := ad) as i v h
        exact ⟨ih.1, List.mem_cons_of_mem _ ih.2⟩
theorem ex_sl_len {ad : Nat → Nat} : ∀ (as : List Value), (lg_sl (as.map (ex_cv ad))).length = (ex_sl as).length
  | [] => rfl
  | a :: as => by
    have e1 : ex_sl (a :: as) = (if a.category = 2 then [some a, none] else [some a]) ++ ex_sl as := rfl
    have e2 : lg_sl ((a :: as).map (ex_cv ad)) = (if (ex_cv ad a).category = 2 then [.val (ex_cv ad a), .second] else [.val (ex_cv ad a)]) ++ lg_sl (as.map (ex_cv ad)) := rfl
    rw [e1, e2, ex_cv_cat, List.length_append, List.length_append, ex_sl_len as]
    by_cases hc : a.category = 2
    · rw [if_pos hc, if_pos hc]; rfl
    · rw [if_neg hc, if_neg hc]; rfl
theorem ex_ent_get {n : Nat} {as : List Value} {i : Nat} {v : Value} (h : (ex_ent n as)[i]? = some (some v)) : (ex_sl as)[i]? = some (some v) := by
  by_cases hi : i < (ex_sl as).length
  · rw [ex_ent, List.getElem?_append_left hi] at h; exact h
  · rw [ex_ent, List.getElem?_append_right (by omega), List.getElem?_replicate] at h
    split at h <;> cases h
theorem ex_ent_LR {ad : Nat → Nat} {z n : Nat} {as : List Value} (hl : (ex_sl as).length ≤ n) (ho : ∀ v ∈ as, ex_okv z v) : ex_LR ad z n (ex_ent n as) ((lg_sl (as.map (ex_cv ad)) ++ List.replicate (n - (lg_sl (as.map (ex_cv ad))).length) Slot.unset).toArray) := by
  have he := lv_entry (as.map (ex_cv ad)) (n := n) (by rw [ex_sl_len]; exact hl)
  refine ⟨by rw [ex_ent, List.length_append, List.length_replicate]; omega, ⟨he.1, he.2.1, fun _ hq => by cases hq⟩, fun i v hv => ?_⟩
  have g := ex_sl_get (ad := ad) as i v (ex_ent_get hv)
  refine ⟨?_, ho v g.2⟩
  rw [List.getElem?_toArray, List.getElem?_append_left (List.getElem?_eq_some_iff.mp g.1).1]
  exact g.1
theorem ex_ent_nod {n : Nat} {as : List Value} (h : ∀ v ∈ as, v.category = 2 → ∃ x, v = .long x) : ex_nod (ex_ent n as) := fun i v hv hc =>
  h v (ex_sl_get (ad := id) as i v (ex_ent_get hv)).2 hc
/-- abstract values are ints, longs, references, null -/
def ex_vok (v : Value) : Prop := v.category = 2 → ∃ x, v = .long x
theorem ex_okv_vok {z : Nat} {v : Value} (h : ex_okv z v) : ex_vok v := by
  cases v <;> first | (intro hc; cases hc; done) | (intro hc; exact ⟨_, rfl⟩) | exact h.elim
section EXW
variable {l : Launch} {Ts Ns : List Cond} {mt : Nat → Option ex_M} {mp : Nat → List Nat} {tsl : List (String × Nat × Nat)} {ro : Nat} {sts : List ex_St}
/-- a body that ends with a return -/
theorem ex_ends {n d mi : Nat} {M : ex_M} {row : ex_R} {L1 : List ex_R} {lo1 : ex_Lo} {st1 : List Value} {w w1 w' : ex_W} {as : List Value} {v : Option Value} {D : va_G} {cA : FieldType → ClassId} {z0 : Nat} {ad : Nat → Nat} (hH : ex_Hyp l Ts Ns mt mp tsl ro sts) (hA : ex_AA l Ts Ns mt mp tsl ro sts n) (hM : mt mi = some M) (hl : (ex_sl as).length ≤ M.2.2.1)
    (hr : ex_run ro mt n d M.2.2.2.2.2.1 (M.2.2.2.2.2.1.getD 0 []) (ex_ent M.2.2.1 as) [] w = some (row :: L1, lo1, st1, w1)) (hf : ex_fin M.2.2.2.1 row st1 w1 = some (.inl v, w')) (ho : ∀ v ∈ as, ex_okv w.1.1.length v) (hin : ex_rin w) (hro : ro ≤ w.1.1.length) (hD : va_D (fun q => z0 ≤ q) (ex_ws cA ro ad w))
    {p : Program} {e : Env} {s : State} {m : MethodId} {below : List Frame} {meth : Method} {c : Code} (hC : ex_Cx p l (ex_rm d (w'.1.2.1 - w.1.2.1) (w'.1.2.2 - w.1.2.2)) s m (as.map (ex_cv ad)).toArray meth c Ts M d) (hret : meth.sig.returnType = M.2.2.2.1) (hP : ex_Pc D cA z0 ro sts Ns ad w as (as.map (ex_cv ad)).toArray s) :
    W p l e (ex_rm d (w'.1.2.1 - w.1.2.1) (w'.1.2.2 - w.1.2.2)) s m (as.map (ex_cv ad)).toArray below meth c s.heap [] 0 0 (MQ below (ex_Qc D cA z0 ro sts ad w w' v) (as.map (ex_cv ad)).toArray s (w'.1.2.1 - w.1.2.1) (w'.1.2.2 - w.1.2.2) (fun q => z0 ≤ q)) (entryFrame m (as.map (ex_cv ad)).toArray M.2.2.1) := by
  have hmok := hH.2.1 mi M hM
  simp only [ex_mok, Bool.and_eq_true, decide_eq_true_eq] at hmok
  obtain ⟨⟨⟨⟨⟨⟨⟨hmw, -⟩, -⟩, -⟩, -⟩, -⟩, hft⟩, hall⟩ := hmok
  have hpc : ex_pc (M.2.2.2.2.2.1.getD 0 []) = 0 := by
    revert hft
    unfold ex_ft ex_pc
    cases M.2.2.2.2.2.1.getD 0 [] with
    | nil => intro h; cases h
    | cons x r => intro h; exact of_decide_eq_true h
  have hfm := ex_fin_mono hf
  have hmm := ex_mono ro mt n _ _ _ _ _ _ _ hr
  have hlocks := hC.2.2.2.2.2.1
  rw [lg_entry_eq]
  have hS0 : va_S (fun q => z0 ≤ q) s.heap s.heap [] := va_S.rf
  have key := hA d mi M _ _ [] w _ hM hr (ex_blk hall 0) p e _ s m _ below meth c s.heap [] _ ad D cA z0 w.1.2.1 w.1.2.2 (MQ below (ex_Qc D cA z0 ro sts ad w w' v) (as.map (ex_cv ad)).toArray s (w'.1.2.1 - w.1.2.1) (w'.1.2.2 - w.1.2.2) (fun q => z0 ≤ q)) hC hP.2.1 ⟨hP.2.2, hD, hS0, hin, hro⟩ (ex_ent_LR hl ho) (ex_ent_nod (fun v h => ex_okv_vok (ho v h))) (fun _ h => by cases h) (Nat.le_refl _) (Nat.le_refl _) (Nat.sub_le_sub_right hfm.1 _) (Nat.sub_le_sub_right hfm.2 _)
  rw [hpc, Nat.sub_self, Nat.sub_self] at key
  refine key fun ad1 H1 locs1 ls1 hR1 hag hL1 hst1 hlok => ?_
  have hq : ∀ t : State, t.heap = H1 → w' = w1 → (∀ x, v = some x → ex_okv w1.1.1.length x) → ex_Qc D cA z0 ro sts ad w w' v (as.map (ex_cv ad)).toArray s (.returned (v.map (ex_cv ad1))) t := fun t ht e hx => by
    subst e
    exact ⟨⟨ad1, rfl, hx, hag, by rw [ht]; exact hR1.1, hR1.2.1, hR1.2.2.2.1, hR1.2.2.2.2⟩, hR1.2.2.1.F ht⟩
  simp only [ex_lok, ex_rok, Bool.and_eq_true, decide_eq_true_eq] at hlok
  obtain ⟨⟨hdec, hlen⟩, -⟩ := hlok
  unfold ex_fin at hf
  split at hf
  · next hins =>
    split at hf
    · split at hf
      · next hrt =>
        cases hf
        rw [hins] at hdec hlen
        simp only [decide_eq_true_eq] at hlen
        rw [hlen] at hdec
        exact W.vret hC.1 hC.2.1 (hret.trans hrt) (fun t ht _ => hq t ht rfl (fun x hx => by cases hx)) hR1.2.2.1.2.2 hdec hlocks
      · cases hf
    · cases hf
  · next hins =>
    split at hf
    · next x =>
      split at hf
      · next hfit =>
        cases hf
        rw [hins] at hdec hlen
        simp only [decide_eq_true_eq] at hlen
        rw [hlen] at hdec
        have hq' := fun t ht (_ : s.WarmedH t.vm) => hq t ht rfl (fun y hy => by cases hy; exact trivial)
        rcases hfit with hr | ⟨hr, hx⟩ | ⟨hr, hx⟩ | ⟨hr, hx⟩
        · exact W.iret hC.1 hC.2.1 (hret.trans hr) hq' hR1.2.2.1.2.2 hdec hlocks
        · exact W.zret (ty := .boolean) hC.1 hC.2.1 (hret.trans hr) (ex_nz x hx).1 hq' hR1.2.2.1.2.2 hdec hlocks
        · exact W.zret (ty := .byte) hC.1 hC.2.1 (hret.trans hr) (by have h9 := pk_nb x; rw [hx] at h9; exact h9) hq' hR1.2.2.1.2.2 hdec hlocks
        · exact W.zret (ty := .char) hC.1 hC.2.1 (hret.trans hr) (by have h9 := pk_nc x; rw [hx] at h9; exact h9) hq' hR1.2.2.1.2.2 hdec hlocks
      · cases hf
    · cases hf
  · next hins =>
    split at hf
    · next x =>
      split at hf
      · next hrt =>
        cases hf
        rw [hins] at hdec hlen
        simp only [decide_eq_true_eq] at hlen
        rw [hlen] at hdec
        exact W.lret hC.1 hC.2.1 (hret.trans hrt) (fun t ht _ => hq t ht rfl (fun y hy => by cases hy; exact trivial)) hR1.2.2.1.2.2 hdec hlocks
      · cases hf
    · cases hf
  · split at hf
    · split at hf <;> cases hf
    · cases hf
  · cases hf
end EXW
end
section
/-! Contracts, calls, throws -/
section EXC
variable {l : Launch} {Ts Ns : List Cond} {mt : Nat → Option ex_M} {mp : Nat → List Nat} {tsl : List (String × Nat × Nat)} {ro : Nat} {sts : List ex_St}
theorem ex_Met {n d mi : Nat} {M : ex_M} {w w' : ex_W} {as : List Value} {v : Option Value} {D : va_G} {cA : FieldType → ClassId} {z0 : Nat} {ad : Nat → Nat} (hH : ex_Hyp l Ts Ns mt mp tsl ro sts) (hA : ex_AA l Ts Ns mt mp tsl ro sts n) (hM : mt mi = some M)
    (h : ex_me mt (ex_run ro mt n) d mi as w = some (.inl v, w')) (ho : ∀ v ∈ as, ex_okv w.1.1.length v) (hin : ex_rin w) (hro : ro ≤ w.1.1.length) (hD : va_D (fun q => z0 ≤ q) (ex_ws cA ro ad w)) :
    Met l M.1 (ex_wd Ts M) (ex_rm d (w'.1.2.1 - w.1.2.1) (w'.1.2.2 - w.1.2.2)) (ex_Pc D cA z0 ro sts Ns ad w as) (ex_Qc D cA z0 ro sts ad w w' v) (w'.1.2.1 - w.1.2.1) (w'.1.2.2 - w.1.2.2) (fun q => z0 ≤ q) := by
  have hmok := hH.2.1 mi M hM
  simp only [ex_mok, Bool.and_eq_true, decide_eq_true_eq] at hmok
  obtain ⟨⟨⟨⟨⟨⟨⟨-, hpl⟩, -⟩, -⟩, hcl⟩, -⟩, -⟩, -⟩ := hmok
  obtain ⟨M', hM', hl, row, L1, lo1, st1, w1, hr, hf⟩ := ex_me_of h
  cases hM.symm.trans hM'
  by_cases hh : M.2.2.2.2.2.2 = []
  · have hw : ex_wd Ts M = .code M.1 M.2.1 M.2.2.1 M.2.2.2.1 :: Ts := by rw [ex_wd, ex_cw, if_pos hh]
    refine va_MetF hpl.1 hw ?_
    intro p e s m args below meth c s₁ B hml hP
    obtain ⟨rfl, hP2⟩ := hP
    have hts := atoms_spec (ws := ex_wd Ts M) B.pre
    rw [hw] at hts
    refine ex_ends hH hA hM hl hr hf ho hin hro hD ⟨B.exec, B.bytes, hml, by rw [← hcl]; exact findClass_of_methodNamed B.named, fun w h => hts w (List.mem_cons_of_mem _ h), B.notSynchronized, fun h => ?_, ?_, Nat.le_refl _, Nat.le_refl _⟩ B.returns ⟨rfl, hP2⟩
    · rw [(name_of_methodNamed B.named B.method).1]; exact eq_of_beq h
    · obtain ⟨meth9, c9, h1, h2, -, -, -, -, h7, -⟩ := Cond.code_spec B.named (hts _ List.mem_cons_self)
      cases Option.some.inj (h1.symm.trans B.method)
      cases Option.some.inj (h2.symm.trans (Stand.of_body B).code)
      rw [Array.isEmpty_iff.mp h7, hh]; rfl
  · have hw : ex_wd Ts M = .codeWith M.1 M.2.1 M.2.2.1 M.2.2.2.1 M.2.2.2.2.2.2 :: Ts := by rw [ex_wd, ex_cw, if_neg hh]
    refine va_MetW (hpl.2.resolve_left hh) hw ?_
    intro p e s m args below meth c s₁ B hml hP
    obtain ⟨rfl, hP2⟩ := hP
    have hts := atoms_spec (ws := ex_wd Ts M) B.pre
    rw [hw] at hts
    refine ex_ends hH hA hM hl hr hf ho hin hro hD ⟨B.exec, B.bytes, hml, by rw [← hcl]; exact findClass_of_methodNamed B.named, fun w h => hts w (List.mem_cons_of_mem _ h), B.notSynchronized, fun h => ?_, vx_table (x := M.1) B (hts _ List.mem_cons_self), Nat.le_refl _, Nat.le_refl _⟩ B.returns ⟨rfl, hP2⟩
    rw [(name_of_methodNamed B.named B.method).1]; exact eq_of_beq h
theorem ex_throws {n d mi : Nat} {M : ex_M} {w w' : ex_W} {as : List Value} {x : Nat} {D : va_G} {cA : FieldType → ClassId} {z0 : Nat} {ad : Nat → Nat} (hH : ex_Hyp l Ts Ns mt mp tsl ro sts) (hA : ex_AA l Ts Ns mt mp tsl ro sts n) (hM : mt mi = some M) (hh : M.2.2.2.2.2.2 = []) (hpl : plainName M.1.cls = true)
    (h : ex_me mt (ex_run ro mt n) d mi as w = some (.inr x, w')) (ho : ∀ v ∈ as, ex_okv w.1.1.length v) (hin : ex_rin w) (hro : ro ≤ w.1.1.length) (hD : va_D (fun q => z0 ≤ q) (ex_ws cA ro ad w)) :
    vx_Met l M.1 (ex_wd Ts M) (ex_rm d (w'.1.2.1 - w.1.2.1) (w'.1.2.2 - w.1.2.2)) (ex_Pc D cA z0 ro sts Ns ad w as) (fun _ _ _ _ => False) (ex_Xc D cA z0 ro sts ad w w' x) (w'.1.2.1 - w.1.2.1) (w'.1.2.2 - w.1.2.2) (fun q => z0 ≤ q) := by
  have hmok := hH.2.1 mi M hM
  simp only [ex_mok, Bool.and_eq_true, decide_eq_true_eq] at hmok
  obtain ⟨⟨⟨⟨⟨⟨⟨hmw, -⟩, -⟩, -⟩, hcl⟩, -⟩, hft⟩, hall⟩ := hmok
  obtain ⟨M', hM', hl, row, L1, lo1, st1, w1, hr, hf⟩ := ex_me_of h
  cases hM.symm.trans hM'
  have hw : ex_wd Ts M = .code M.1 M.2.1 M.2.2.1 M.2.2.2.1 :: Ts := by rw [ex_wd, ex_cw, if_pos hh]
  have hpc : ex_pc (M.2.2.2.2.2.1.getD 0 []) = 0 := by
    revert hft
    unfold ex_ft ex_pc
    cases M.2.2.2.2.2.1.getD 0 [] with
    | nil => intro h; cases h
    | cons x r => intro h; exact of_decide_eq_true h
  refine vx_ofW hpl hw ?_
  intro p e s m args below meth c s₁ B hml hnone hP
  obtain ⟨rfl, hP2⟩ := hP
  have hts := atoms_spec (ws := ex_wd Ts M) B.pre
  rw [hw] at hts
  have hts := fun w h => hts w (List.mem_cons_of_mem _ h)
  have hC : ex_Cx p l (ex_rm d (w'.1.2.1 - w.1.2.1) (w'.1.2.2 - w.1.2.2)) s m (as.map (ex_cv ad)).toArray meth c Ts M d := ⟨B.exec, B.bytes, hml, by rw [← hcl]; exact findClass_of_methodNamed B.named, hts, B.notSynchronized, fun h => by rw [(name_of_methodNamed B.named B.method).1]; exact eq_of_beq h, by
      rw [hh, tableOf, List.map_nil]; exact List.eq_nil_iff_forall_not_mem.mpr (fun x hx => hnone x hx), Nat.le_refl _, Nat.le_refl _⟩
  have hfm := ex_fin_mono hf
  have hS0 : va_S (fun q => z0 ≤ q) s.heap s.heap [] := va_S.rf
  rw [lg_entry_eq]
  have key := hA d mi M _ _ [] w _ hM hr (ex_blk hall 0) p e _ s m _ below meth c s.heap [] _ ad D cA z0 w.1.2.1 w.1.2.2 (vx_MQ below (fun _ _ _ _ => False) (ex_Xc D cA z0 ro sts ad w w' x) (as.map (ex_cv ad)).toArray s (w'.1.2.1 - w.1.2.1) (w'.1.2.2 - w.1.2.2) (fun q => z0 ≤ q)) hC hP2.1 ⟨hP2.2, hD, hS0, hin, hro⟩ (ex_ent_LR hl ho) (ex_ent_nod (fun v h => ex_okv_vok (ho v h))) (fun _ h => by cases h) (Nat.le_refl _) (Nat.le_refl _) (Nat.sub_le_sub_right hfm.1 _) (Nat.sub_le_sub_right hfm.2 _)
  rw [hpc, Nat.sub_self, Nat.sub_self] at key
  refine key fun ad1 H1 locs1 ls1 hR1 hag hL1 hst1 hlok => ?_
  have hmm := ex_mono ro mt n _ _ _ _ _ _ _ hr
  simp only [ex_lok, Bool.and_eq_true] at hlok
  obtain ⟨hlok, -⟩ := hlok
  unfold ex_fin at hf
  split at hf
  · split at hf
    · split at hf <;> cases hf
    · cases hf
  · split at hf
    · split at hf <;> cases hf
    · cases hf
  · split at hf
    · split at hf <;> cases hf
    · cases hf
  · next idx hins =>
    split at hf
    · split at hf
      · next hr1 =>
        simp only [Option.some.injEq, Prod.mk.injEq, Sum.inr.injEq] at hf
        obtain ⟨hx, hw'⟩ := hf
        have hw' := hw'.symm
        have ec : w'.1.2.1 = w1.1.2.1 + 1 := by rw [hw']
        have es : w'.1.2.2 = w1.1.2.2 + 6 := by rw [hw']
        obtain ⟨pc, len, ins, r, k⟩ := row
        cases hins
        simp only [ex_rok, Bool.and_eq_true, decide_eq_true_eq] at hlok
        obtain ⟨hdec, hlok⟩ := hlok
        rw [if_pos hr1] at hlok
        simp only [ex_tok, Bool.and_eq_true, decide_eq_true_eq] at hlok
        obtain ⟨rfl, hlok⟩ := hlok
        split at hlok
        · next q hq =>
          simp only [Bool.and_eq_true, decide_eq_true_eq] at hlok
          obtain ⟨⟨⟨⟨⟨⟨⟨⟨t1, t2⟩, t3⟩, t4⟩, t5⟩, t6⟩, t7⟩, t8⟩, -⟩ := hlok
          have hfit : Bundle.fit (ex_en (r.getD 1 0)) = true := by
            rcases (show r.getD 1 0 = 0 ∨ r.getD 1 0 = 1 by omega) with h | h <;> rw [h] <;> decide +kernel
          have hq9 := hH.2.2.2.2.2.2.1 q (List.mem_of_getElem? hq)
          rw [t1, t2] at hq9
          have hx : r.getD 1 0 = x := hx
          have g1 : Cond.classLink M.2.2.2.2.1 idx (ex_en (r.getD 1 0)) ∈ Ts := List.mem_of_getElem? t4
          have g2 : Cond.initialized (ex_en (r.getD 1 0)) ∈ Ts := List.mem_of_getElem? t5
          have hlz : ls1.size = c.maxLocals := hL1.size.trans hC.2.2.1.symm
          have hm1 := hmm.1
          have hm2 := hmm.2
          dsimp only at hm1 hm2
          refine vx_throw0 (own := M.2.2.2.2.1) (cls := ex_en (r.getD 1 0)) (names := ex_es) (ik := idx) (ic := q.2.1) hC.1 hC.2.1 hH.1 hC.2.2.2.1 hfit (by decide +kernel) (hts _ g1) (hts _ g2) (fun z hz => ?_) (fun z hz => ?_) hP2.1.2.2.2.2.2.1 hP2.1.2.2.2.2.2.2.1 hR1.2.2.1 hlz hdec t6 t7 t8 (fun z hz => (hnone z hz).elim) (show 2 + 3 < d + 6 by omega) (show 0 + (13 * (2 + 1) + 42) ≤ 64 * d + 140 by omega) (show w1.1.2.1 - w.1.2.1 + 1 ≤ w'.1.2.1 - w.1.2.1 by omega) (show w1.1.2.2 - w.1.2.2 + 6 ≤ w'.1.2.2 - w.1.2.2 by omega) B.notSynchronized (fun t ht hz1 hz2 => ?_) hR1.2.2.1.2.2 (by show w1.1.2.1 - w.1.2.1 + 1 ≤ w'.1.2.1 - w.1.2.1; omega) (by show w1.1.2.2 - w.1.2.2 + 6 ≤ w'.1.2.2 - w.1.2.2; omega)
          · rcases (hq9 z hz).1 with h | h
            · exact hts _ h
            · exact va_Nw.use (ex_nok_on (hH.2.2.2.2.2.1 z h)) (hP2.1.2.2.2.2.1 z h)
          · have hgd : ∀ y ∈ Ts, vx_ot y = true := fun y hy => by rw [vx_ot, hH.2.2.2.2.1 y hy, Bool.or_true]
            rcases List.mem_cons.mp hz with rfl | hz
            · exact hgd _ g1
            · rcases List.mem_cons.mp hz with rfl | hz
              · exact hgd _ g2
              · exact (hq9 z hz).2
          · have e2 : ex_ws cA ro ad1 w' = ex_ws cA ro ad1 w1 := by rw [hw']; rfl
            refine ⟨by rw [hx], ⟨ad1, ?_, ?_, by rw [e2]; exact hR1.2.1, ?_, ?_⟩, ?_⟩
            · rw [hw']; exact hag
            · rw [e2]; exact hR1.1.kept (fun k q hk => hz2 q.1 (hR1.1 k q hk).lt)
            · rw [hw']; exact hR1.2.2.2.1
            · rw [hw']; exact hR1.2.2.2.2
            · exact ⟨Nat.le_trans hR1.2.2.1.1 hz1, fun q h1 h2 => by rw [hz2 q (Nat.lt_of_lt_of_le h1 hR1.2.2.1.1)]; exact hR1.2.2.1.2.1 q h1 h2⟩
        · cases hlok
      · cases hf
    · cases hf
  · cases hf
end EXC
end
section
/-! A call as the kit has it, out of the small machine's run of the callee -/
section EXR
variable {l : Launch} {Ts Ns : List Cond} {mt : Nat → Option ex_M} {mp : Nat → List Nat} {tsl : List (String × Nat × Nat)} {ro : Nat} {sts : List ex_St}
variable {p : Program} {e : Env} {R : Room} {s : State} {m : MethodId} {args : Array Value} {below : List Frame} {meth : Method} {c : Code} {H : Heap} {locs : List Loc} {ls : Array Slot} {ad : Nat → Nat} {D : va_G} {cA : FieldType → ClassId} {z0 : Nat} {Q : State → Prop} {cells slots : Nat}
theorem ex_go {mc ms pc : Nat} {st0 rest : List Value} {Qa : State → Outcome → State → Prop} {free : Addr → Prop} (hr : va_Run p l e R s m args below meth c H locs cells slots mc ms (F0 m pc ls st0) rest Qa free)
    (kk : ∀ (v : Option Value) (st₀ t : State) (L : List Loc), st₀.heap = H → s.vm.Alike t.vm → Qa st₀ (.returned v) t → (∀ q ∈ L, free q.base) → W p l e R s m args below meth c t.heap (locs ++ L) (cells + mc) (slots + ms) Q (F0 m (pc + 3) ls (v.toList ++ rest))) :
    W p l e R s m args below meth c H locs cells slots Q (F0 m pc ls st0) := by
  intro T hT X
  obtain ⟨v, st₀, t, T', L, h0, X', hL, e1, e2, hq, st⟩ := hr T hT X
  obtain ⟨t2, a1, b1⟩ := kk v st₀ t L h0 (by rw [← e2]; exact X'.warmed.alike) hq hL T' e1 X'
  exact ⟨t2, st t2 a1, b1⟩
theorem ex_catsum {ad : Nat → Nat} (st : List Value) : ((st.map (ex_cv ad)).map fun v => v.category).sum = (st.map fun v => v.category).sum := by
  rw [List.map_map]
  congr 1
  exact List.map_congr_left fun v _ => ex_cv_cat ad v
theorem ex_rcv_of {w : ex_W} {ci : Nat} {as : List Value} (h : ex_rcv ro w ci as = true) : ∃ (a : Nat) (As : List Value), as = .ref a :: As ∧ w.1.1[a]? = some (.inl ci) ∧ (ci < 100 ∧ ro ≤ a ∨ 100 ≤ ci ∧ ¬ ro ≤ a) := by
  unfold ex_rcv at h
  split at h
  · next a As =>
    split at h
    · next cj hcj =>
      obtain ⟨rfl, h2⟩ := of_decide_eq_true h
      exact ⟨a, As, rfl, hcj, h2⟩
    · cases h
  · cases h
theorem ex_recv {w : ex_W} {ci a : Nat} (hF : ex_Fix D cA z0 ro sts Ns ad w s) (hR : ex_Rel D cA z0 ro ad w s H locs) (hsh : w.1.1[a]? = some (.inl ci)) (h : ci < 100 ∧ ro ≤ a ∨ 100 ≤ ci ∧ ¬ ro ≤ a) (hv : ci < 100 → ∃ q, vwCl[ci]? = some q) (h200 : ci < 200) : ∃ cell : Cell, H[ad a]? = some cell ∧ cell.vm.isStatics = false ∧ s.vm.findClass (ex_cn1 ci) = some cell.cls := by
  rcases h with ⟨h1, h2⟩ | ⟨h1, h2⟩
  · obtain ⟨q, hq⟩ := hv h1
    have e : ex_cn1 ci = q.1 := by rw [ex_cn1, if_pos h1, hq]
    rw [e]
    exact va_recv hF.1 hR.1 hq (ex_ws_get (cA := cA) (ad := ad) hsh h2)
  · have e : ex_cn1 ci = ex_rn ci := by rw [ex_cn1, if_neg (by omega)]
    rw [e]
    obtain ⟨cell, g1, g2, g3, -⟩ := ((hF.2.2.1 a _ (Nat.not_le.mp h2) hsh) h200).1.kept hR.2.2.1.2.1
    exact ⟨cell, g1, g2, g3⟩
/-- what a call's row says, in one place -/
def ex_Lk (Ts Ns : List Cond) (own : String) (idx : Nat) (y : MethodName) (nest : Bool) : Prop := if nest = true then Cond.methodLinkNest own idx y "PileTricks" ∈ Ns else Cond.methodLink own idx y ∈ Ts
theorem ex_cl_of {own : String} {idx : Nat} {r : List Nat} {k : Int32} {M : ex_M} {ps : List Nat} {kv extra : Nat} {ks : List Nat} (h : ex_cl Ts Ns own idx r k M ps kv ks extra = true) :
    ps.getD 2 0 = kv ∧ r.getD 0 0 ∈ ks ∧ (∀ sig, parseMethodDescriptor M.1.desc = some sig → r.getD 2 0 = sig.parameters.length + extra) ∧ ex_Lk Ts Ns own idx M.1 (decide (r.getD 0 0 = 1 ∨ r.getD 0 0 = 3 ∨ r.getD 0 0 = 5)) := by
  simp only [ex_cl, Bool.and_eq_true, decide_eq_true_eq] at h
  obtain ⟨⟨⟨h1, h2⟩, h3⟩, h4⟩ := h
  refine ⟨h1, h2, fun sig hs => ?_, ?_⟩
  · rw [hs] at h3; exact (Option.some.inj h3).symm
  · unfold ex_Lk
    by_cases hc : r.getD 0 0 = 1 ∨ r.getD 0 0 = 3 ∨ r.getD 0 0 = 5
    · rw [if_pos hc] at h4; rw [if_pos (decide_eq_true hc)]; exact List.mem_of_getElem? (of_decide_eq_true h4)
    · rw [if_neg hc] at h4; rw [if_neg (fun q => hc (of_decide_eq_true q))]; exact List.mem_of_getElem? (of_decide_eq_true h4)
theorem ex_wds {M : ex_M} {ps : List Nat} (hG : ∀ w ∈ Ts, goodWord w = true) (hts : ∀ w ∈ Ts, w.before args s = true) (hmw : ex_mw Ts M ps = true) (hcw : ps.getD 2 0 ≠ 3 → ex_cw M ∈ Ts) : ps.getD 2 0 ≠ 3 → (∀ w ∈ ex_wd Ts M, ∀ (a' : Array Value) (U : State), s.WarmedH U.vm → w.before a' U = true) ∧ (Cond.initialized M.1.cls).before args s = true ∧ ex_cw M ∈ Ts := by
  intro h3
  simp only [ex_mw, Bool.and_eq_true, decide_eq_true_eq] at hmw
  obtain ⟨h2, -⟩ := hmw
  have hin := hcw h3
  refine ⟨fun w hw a' U hW => ?_, hts _ (List.mem_of_getElem? h2), hin⟩
  have hw2 : w ∈ Ts := by
    rcases List.mem_cons.mp hw with rfl | hw
    · exact hin
    · exact hw
  exact word_at hW (good_of_word (hG w hw2)) (hts w hw2)
theorem ex_mw_st {M : ex_M} {ps : List Nat} (hmw : ex_mw Ts M ps = true) : (ps.getD 2 0 = 0 → Cond.static M.1 ∈ Ts) ∧ (ps.getD 2 0 = 1 → Cond.instanceMethod M.1 ∈ Ts ∧ Cond.selects M.1.cls M.1 M.1 ∈ Ts) ∧ (ps.getD 2 0 = 2 → Cond.instanceMethod M.1 ∈ Ts ∧ M.1.name = "<init>") := by
  simp only [ex_mw, Bool.and_eq_true, decide_eq_true_eq] at hmw
  obtain ⟨-, h3⟩ := hmw
  refine ⟨fun h => ?_, fun h => ?_, fun h => ?_⟩
  · rw [h] at h3; exact List.mem_of_getElem? (of_decide_eq_true h3)
  · rw [h] at h3
    simp only [Bool.and_eq_true, decide_eq_true_eq] at h3
    exact ⟨List.mem_of_getElem? h3.1, List.mem_of_getElem? h3.2⟩
  · rw [h] at h3
    simp only [Bool.and_eq_true, decide_eq_true_eq] at h3
    exact ⟨List.mem_of_getElem? h3.1, h3.2⟩
/-- the parts that all calls share -/
theorem ex_PreS {w : ex_W} {as : List Value} (hH : ex_Hyp l Ts Ns mt mp tsl ro sts) (hF : ex_Fix D cA z0 ro sts Ns ad w s) (hR : ex_Rel D cA z0 ro ad w s H locs) : PreS s H (ex_Pc D cA z0 ro sts Ns ad w as) (as.map (ex_cv ad)) :=
  ⟨ex_blind hH.2.2.2.2.2.1, fun U hU hW => ⟨rfl, hF.at hR.2.2.1 hU hW.alike (fun x hx => ex_nok_warm (hH.2.2.2.2.2.1 x hx) hW (hF.2.2.2.2.1 x hx)), by rw [hU]; exact hR.1⟩⟩
set_option maxHeartbeats 4000000 in
theorem ex_vrun {n d mi pc idx : Nat} {M0 M : ex_M} {ins : Instr} {r : List Nat} {k : Int32} {w w' : ex_W} {as rest : List Value} {v : Option Value} (hH : ex_Hyp l Ts Ns mt mp tsl ro sts) (hA : ex_AA l Ts Ns mt mp tsl ro sts n) (hM : mt (r.getD 1 0) = some M) (hC : ex_Cx p l R s m args meth c Ts M0 (d + 1))
    (hF : ex_Fix D cA z0 ro sts Ns ad w s) (hR : ex_Rel D cA z0 ro ad w s H locs) (hlz : ls.size = M0.2.2.1) (hi : ins = .invokevirtual idx ∨ ins = .invokestatic idx ∨ ins = .invokespecial idx) (hdec : decode M0.2.1 pc = .ok (ins, 3)) (hk67 : r.getD 0 0 ≠ 6 ∧ r.getD 0 0 ≠ 7) (hk : ex_cok Ts Ns mt mp M0 pc ins r k = true)
    (h : ex_me mt (ex_run ro mt n) d (r.getD 1 0) as w = some (.inl v, w')) (ho : ∀ v ∈ as, ex_okv w.1.1.length v) (has : as.length = r.getD 2 0) (hsum : (rest.map fun v => v.category).sum ≤ 8) (hrcv : r.getD 0 0 = 2 ∨ r.getD 0 0 = 3 ∨ r.getD 0 0 = 8 ∨ ex_rcv ro w (r.getD 3 0) as = true)
    (hcells : cells + (w'.1.2.1 - w.1.2.1) ≤ R.cells) (hslots : slots + (w'.1.2.2 - w.1.2.2) ≤ R.slots) :
    va_Run p l e R s m args below meth c H locs cells slots (w'.1.2.1 - w.1.2.1) (w'.1.2.2 - w.1.2.2) (F0 m pc ls (as.reverse.map (ex_cv ad) ++ rest.map (ex_cv ad))) (rest.map (ex_cv ad)) (ex_Qc D cA z0 ro sts ad w w' v #[]) (fun q => z0 ≤ q) := by
  have hMet := ex_Met (D := D) (cA := cA) (z0 := z0) (ad := ad) hH hA hM h ho hR.2.2.2.1 hR.2.2.2.2 hR.2.1
  have hmok := hH.2.1 _ M hM
  simp only [ex_mok, Bool.and_eq_true, decide_eq_true_eq] at hmok
  obtain ⟨⟨⟨⟨⟨⟨⟨hmw, hpl⟩, hn1⟩, hn2⟩, hcl⟩, hnL⟩, -⟩, -⟩ := hmok
  have hq := ex_wds hH.2.2.2.2.1 hC.2.2.2.2.1 hmw (hH.2.2.2.2.2.2.2.1 _ M hM)
  obtain ⟨u1, u2, u3⟩ := ex_mw_st hmw
  have hS : CallFix p m c M0.2.1 M0.2.2.1 s args Ts M0.2.2.2.2.1 := ⟨hC.1, hC.2.1, hC.2.2.1, hC.2.2.2.1, hC.2.2.2.2.1⟩
  have hfr : (ex_rm d (w'.1.2.1 - w.1.2.1) (w'.1.2.2 - w.1.2.2)).frames + 1 ≤ R.frames := by have := hC.2.2.2.2.2.2.2.2.1; show d + 6 + 1 ≤ _; omega
  have hlo : 8 + (M.2.2.1 + 11) + (ex_rm d (w'.1.2.1 - w.1.2.1) (w'.1.2.2 - w.1.2.2)).locals ≤ R.locals := by have := hC.2.2.2.2.2.2.2.2.2; show 8 + (M.2.2.1 + 11) + (64 * d + 140) ≤ _; omega
  have hroom : ∀ (pc : Nat) (st : List Value), 2 * (F0 m pc ls st).monitorRoom + ((rest.map (ex_cv ad)).map fun v => v.category).sum ≤ 8 := fun pc st => lv_room (by rw [ex_catsum]; exact hsum)
  have hts := hC.2.2.2.2.1
  have hNw : ∀ x ∈ Ns, x.before args s = true := fun x hx => va_Nw.use (ex_nok_on (hH.2.2.2.2.2.1 x hx)) (hF.2.2.2.2.1 x hx)
  rcases hi with rfl | rfl | rfl
  · simp only [ex_cok, hM, Bool.and_eq_true, decide_eq_true_eq] at hk
    obtain ⟨⟨⟨hk1, hk2⟩, hk3⟩, -⟩ := hk
    obtain ⟨g1, g2, g3, g4⟩ := ex_cl_of hk1
    obtain ⟨q1, q2, q3⟩ := hq (by rw [g1]; decide)
    obtain ⟨i1, i2⟩ := u2 g1
    have hcode : Cond.code M.1 M.2.1 M.2.2.1 M.2.2.2.1 ∈ Ts := by rw [ex_cw, if_pos hk3] at q3; exact q3
    have hcw : Cond.code M.1 M.2.1 M.2.2.1 M.2.2.2.1 ∈ ex_wd Ts M := by rw [ex_wd, ex_cw, if_pos hk3]; exact List.mem_cons_self
    have hrv : ex_rcv ro w (r.getD 3 0) as = true := by
      simp only [List.mem_cons, List.not_mem_nil, or_false] at g2
      rcases hrcv with h | h | h | h
      · omega
      · omega
      · omega
      · exact h
    obtain ⟨a, As, rfl, hsh, hca⟩ := ex_rcv_of hrv
    have hcell := ex_recv hF hR hsh hca (fun h => ⟨vwCl[r.getD 3 0]'(show r.getD 3 0 < 10 by omega), List.getElem?_eq_getElem _⟩) (by omega)
    rw [← hk2.1] at hcell
    have hpre : PreV s H M.1.cls (ad a) (ex_Pc D cA z0 ro sts Ns ad w (.ref a :: As)) (As.map (ex_cv ad)) := ⟨ex_blind hH.2.2.2.2.2.1, hcell, (ex_PreS hH hF hR).2⟩
    have hnA : ∀ sig, parseMethodDescriptor M.1.desc = some sig → (As.map (ex_cv ad)).length = sig.parameters.length := fun sig hs => by
      have := g3 sig hs
      rw [List.length_map]
      rw [List.length_cons] at has
      omega
    have hstk : ((Value.ref a :: As).reverse.map (ex_cv ad) ++ rest.map (ex_cv ad)) = (As.map (ex_cv ad)).reverse ++ .ref (ad a) :: rest.map (ex_cv ad) := by
      rw [List.reverse_cons, List.map_append, List.map_reverse, List.append_assoc]; rfl
    rw [hstk]
    unfold ex_Lk at g4
    by_cases hc : r.getD 0 0 = 1 ∨ r.getD 0 0 = 3 ∨ r.getD 0 0 = 5
    · rw [if_pos (decide_eq_true hc)] at g4
      exact va_runVN (n := (As.map (ex_cv ad)).length) (host := "PileTricks") hS hMet ⟨⟨⟨rfl, rfl, hfr, hlo, q1, hcw⟩, hts _ hcode, q2, ⟨hn1, hn2⟩, hnA, hNw _ g4⟩, hts _ i1, hts _ i2⟩ hpre rfl rfl hlz rfl (hroom _ _) hdec ⟨hcells, hslots⟩
    · rw [if_neg (fun q => hc (of_decide_eq_true q))] at g4
      exact va_runV (n := (As.map (ex_cv ad)).length) hS hMet ⟨⟨rfl, rfl, hfr, hlo, q1, hcw, hts _ hcode, q2, ⟨hn1, hn2⟩, hnA, hts _ g4⟩, hts _ i1, hts _ i2⟩ hpre rfl rfl hlz rfl (hroom _ _) hdec ⟨hcells, hslots⟩
  · rw [ex_cok, if_neg hk67.2] at hk
    simp only [hM, Bool.and_eq_true, decide_eq_true_eq] at hk
    obtain ⟨hk1, hk3⟩ := hk
    obtain ⟨g1, g2, g3, g4⟩ := ex_cl_of hk1
    obtain ⟨q1, q2, q3⟩ := hq (by rw [g1]; decide)
    have i1 := u1 g1
    have hnA : ∀ sig, parseMethodDescriptor M.1.desc = some sig → (as.map (ex_cv ad)).length = sig.parameters.length := fun sig hs => by
      have := g3 sig hs
      rw [List.length_map]
      omega
    have hstk : (as.reverse.map (ex_cv ad) ++ rest.map (ex_cv ad)) = (as.map (ex_cv ad)).reverse ++ rest.map (ex_cv ad) := by rw [List.map_reverse]
    rw [hstk]
    unfold ex_Lk at g4
    by_cases h8 : r.getD 0 0 = 8
    · have hne := hk3.mp h8
      rw [if_neg (fun q => by have := of_decide_eq_true q; omega)] at g4
      have hcode : Cond.codeWith M.1 M.2.1 M.2.2.1 M.2.2.2.1 M.2.2.2.2.2.2 ∈ Ts := by rw [ex_cw, if_neg hne] at q3; exact q3
      have hcw : Cond.codeWith M.1 M.2.1 M.2.2.1 M.2.2.2.1 M.2.2.2.2.2.2 ∈ ex_wd Ts M := by rw [ex_wd, ex_cw, if_neg hne]; exact List.mem_cons_self
      exact vx_runSW (As := as.map (ex_cv ad)) (n := (as.map (ex_cv ad)).length) hS hMet ⟨⟨rfl, rfl, hfr, hlo, q1, hcw⟩, hts _ hcode, q2, ⟨hn1, hn2⟩, hnA, hts _ g4, hts _ i1⟩ (ex_PreS hH hF hR) rfl rfl hlz rfl (hroom _ _) hdec ⟨hcells, hslots⟩
    · have hne : M.2.2.2.2.2.2 = [] := Classical.byContradiction (fun q => h8 (hk3.mpr q))
      have hcode : Cond.code M.1 M.2.1 M.2.2.1 M.2.2.2.1 ∈ Ts := by rw [ex_cw, if_pos hne] at q3; exact q3
      have hcw : Cond.code M.1 M.2.1 M.2.2.1 M.2.2.2.1 ∈ ex_wd Ts M := by rw [ex_wd, ex_cw, if_pos hne]; exact List.mem_cons_self
      by_cases hc : r.getD 0 0 = 1 ∨ r.getD 0 0 = 3 ∨ r.getD 0 0 = 5
      · rw [if_pos (decide_eq_true hc)] at g4
        exact va_runSN (As := as.map (ex_cv ad)) (n := (as.map (ex_cv ad)).length) (host := "PileTricks") hS hMet ⟨⟨⟨rfl, rfl, hfr, hlo, q1, hcw⟩, hts _ hcode, q2, ⟨hn1, hn2⟩, hnA, hNw _ g4⟩, hts _ i1, trivial⟩ (ex_PreS hH hF hR) rfl rfl hlz rfl (hroom _ _) hdec ⟨hcells, hslots⟩
      · rw [if_neg (fun q => hc (of_decide_eq_true q))] at g4
        exact va_runS (As := as.map (ex_cv ad)) (n := (as.map (ex_cv ad)).length) hS hMet ⟨⟨rfl, rfl, hfr, hlo, q1, hcw, hts _ hcode, q2, ⟨hn1, hn2⟩, hnA, hts _ g4⟩, hts _ i1⟩ (ex_PreS hH hF hR) rfl rfl hlz rfl (hroom _ _) hdec ⟨hcells, hslots⟩
  · rw [ex_cok, if_neg hk67.1] at hk
    simp only [hM, Bool.and_eq_true, decide_eq_true_eq] at hk
    obtain ⟨⟨hk1, hk2⟩, hk3⟩ := hk
    obtain ⟨g1, g2, g3, g4⟩ := ex_cl_of hk1
    obtain ⟨q1, q2, q3⟩ := hq (by rw [g1]; decide)
    obtain ⟨i1, i2⟩ := u3 g1
    have hcode : Cond.code M.1 M.2.1 M.2.2.1 none ∈ Ts := by rw [ex_cw, if_pos hk3, hk2] at q3; exact q3
    have hcw : Cond.code M.1 M.2.1 M.2.2.1 none ∈ ex_wd Ts M := by rw [ex_wd, ex_cw, if_pos hk3, hk2]; exact List.mem_cons_self
    have hrv : ex_rcv ro w (r.getD 3 0) as = true := by
      simp only [List.mem_cons, List.not_mem_nil, or_false] at g2
      rcases hrcv with h | h | h | h
      · omega
      · omega
      · omega
      · exact h
    obtain ⟨a, As, rfl, hsh, hca⟩ := ex_rcv_of hrv
    have hnA : ∀ sig, parseMethodDescriptor M.1.desc = some sig → (As.map (ex_cv ad)).length = sig.parameters.length := fun sig hs => by
      have := g3 sig hs
      rw [List.length_map]
      rw [List.length_cons] at has
      omega
    have hstk : ((Value.ref a :: As).reverse.map (ex_cv ad) ++ rest.map (ex_cv ad)) = (As.map (ex_cv ad)).reverse ++ .ref (ad a) :: rest.map (ex_cv ad) := by
      rw [List.reverse_cons, List.map_append, List.map_reverse, List.append_assoc]; rfl
    rw [hstk]
    unfold ex_Lk at g4
    by_cases hc : r.getD 0 0 = 1 ∨ r.getD 0 0 = 3 ∨ r.getD 0 0 = 5
    · rw [if_pos (decide_eq_true hc)] at g4
      exact va_runIN (n := (As.map (ex_cv ad)).length) (host := "PileTricks") hS hMet ⟨⟨⟨rfl, rfl, hfr, hlo, q1, hcw⟩, hts _ hcode, q2, ⟨hn1, hn2⟩, hnA, hNw _ g4⟩, i2, hts _ i1⟩ (ex_PreS (as := .ref a :: As) hH hF hR) rfl rfl hlz rfl (hroom _ _) hdec ⟨hcells, hslots⟩
    · rw [if_neg (fun q => hc (of_decide_eq_true q))] at g4
      exact va_runI (n := (As.map (ex_cv ad)).length) hS hMet ⟨⟨rfl, rfl, hfr, hlo, q1, hcw, hts _ hcode, q2, ⟨hn1, hn2⟩, hnA, hts _ g4⟩, i2, hts _ i1⟩ (ex_PreS (as := .ref a :: As) hH hF hR) rfl rfl hlz rfl (hroom _ _) hdec ⟨hcells, hslots⟩
end EXR
end
section
/-! The whole: every run of the small machine is one of the JVM -/
section EXZ
variable {p : Program} {l : Launch} {e : Env} {R : Room} {s : State} {m : MethodId} {args : Array Value} {below : List Frame} {meth : Method} {c : Code} {H : Heap} {locs : List Loc} {cells slots : Nat} {Q : State → Prop} {ls : Array Slot} {rest : List Value} {pc : Nat}
/-- System.arraycopy out of an int array that was there before -/
theorem ex_copyRO {D : va_G} {cl : List vw_C} {tys : List (ClassId × FieldType)} {ws : va_W} {A : Nat → Prop} {a : Nat} {cc : ByteArray} (hexec : p.tables.exec = Jvm.exec) (hb : c.code = cc) (hml : c.maxLocals = ls.size) {own : String} {index : Nat} (hown : s.vm.findClass own = some m.cls) (hlink : (Cond.methodLink own index arraycopyName).before args s = true) (hnat : (Cond.native arraycopyName).before args s = true) (hstat : (Cond.static arraycopyName).before args s = true) (hini : (Cond.initialized "java/lang/System").before args s = true)
    (hK : va_K D cl tys s) (hP : va_P D cl ws H) (hD : va_D A ws) (hS : va_S A s.heap H locs) {b0 n0 : Nat} {f : Nat → Int32} (hX : va_T .int b0 n0 (fun j => .int (f j)) A s s.heap) (q1 t1 : Nat) {c1 : ClassId} {n1 : Nat} {g : Nat → Int32} (ha1 : ws[q1]? = some (a, .inl (c1, n1, .inl g))) (ht1 : tys[t1]? = some (c1, .int))
    {sp dp n : Int32} (h1 : ¬ sp < 0) (h2 : ¬ dp < 0) (h3 : ¬ n < 0) (h4 : sp.toNatClampNeg + n.toNatClampNeg ≤ n0) (h5 : dp.toNatClampNeg + n.toNatClampNeg ≤ n1)
    (hframes : 1 ≤ R.frames) (hlocals : (rest.map fun v => v.category).sum + (nativeFrameWords "java/lang/System" "arraycopy" 5 + 11) ≤ R.locals) (hdg : decode cc pc = .ok (.invokestatic index, 3))
    (kk : ∀ (H1 : Heap) (locs1 : List Loc), va_P D cl (ws.set q1 (a, .inl (c1, n1, .inl (va_cpy f g sp.toNatClampNeg dp.toNatClampNeg n.toNatClampNeg)))) H1 → va_D A (ws.set q1 (a, .inl (c1, n1, .inl (va_cpy f g sp.toNatClampNeg dp.toNatClampNeg n.toNatClampNeg)))) → va_S A s.heap H1 locs1 → W p l e R s m args below meth c H1 locs1 cells slots Q (F0 m (pc + 3) ls rest)) :
    W p l e R s m args below meth c H locs cells slots Q (F0 m pc ls (.int n :: .int dp :: .ref a :: .int sp :: .ref b0 :: rest)) := by
  have toN : ∀ z : Int32, ¬ z < 0 → z.toInt = (z.toNatClampNeg : Int) := fun z hz => by
    have h0 : (0 : Int) ≤ z.toInt := by simpa using Int32.le_iff_toInt_le.mp (Int32.not_lt.mp hz)
    show z.toInt = ((z.toInt.toNat : Nat) : Int)
    omega
  intro T hT X
  obtain ⟨scr, y1, y2, y3, y4, -, y5, y7⟩ := hX
  have old : H[b0]? = some scr := (hS.2.1 b0 (Array.getElem?_eq_some_iff.mp y1).1 y7).trans y1
  have new : H[a]? = some (vp_cell c1 (n1, .inl g)) := hP q1 _ ha1
  obtain ⟨y6, k0, hk0, m0, e0⟩ := y2
  obtain ⟨-, k1, hk1, m1, e1⟩ := (hK.2 t1 _ ht1).1 n1 (fun j => .int (g j))
  obtain ⟨vm', X', go⟩ := X.arraycopy hexec hown hlink hnat hstat hini (src := b0) (dst := a) (cs := scr) (cd := vp_cell c1 (n1, .inl g)) (srcPos := sp) (destPos := dp) (n := n) (by rw [hT]; exact old) (by rw [hT]; exact new)
    y6 (fun _ h => by cases h) y3 (fun h => by cases h) hk0 hk1 e0 e1 (by simp [refKind]) h1 h2 h3 (by rw [toN sp h1, toN n h3]; omega)
    (by rw [toN dp h2, toN n h3]; show ¬ _ > ((arrV c1 n1 (fun j => .int (g j))).slots.size : Int); rw [arrV_size]; omega)
    (fun _ _ i hi => by
      have ev : scr.slots.getD (sp.toNatClampNeg + i) .null = .int (f (sp.toNatClampNeg + i)) := by
        rw [Array.getD_eq_getD_getElem?, y5 _ (by omega)]; rfl
      rw [ev]; exact ⟨rfl, trivial⟩)
    (g := F0 m pc ls (.int n :: .int dp :: .ref a :: .int sp :: .ref b0 :: rest)) rfl (by rw [hml]) (rest := rest) rfl (by rw [hb]; exact hdg) hframes (by show 2 * 0 + _ + _ ≤ _; omega)
  have ecp : copied scr (vp_cell c1 (n1, .inl g)) sp dp n = vp_cell c1 (n1, .inl (va_cpy f g sp.toNatClampNeg dp.toNatClampNeg n.toNatClampNeg)) := va_copiedX (fun z => .int z) scr c1 f g y5 h4
  rw [ecp] at X' go
  have hla : a < H.size := (Array.getElem?_eq_some_iff.mp new).1
  have hh : ((T.setVm vm').setCell a (vp_cell c1 (n1, .inl (va_cpy f g sp.toNatClampNeg dp.toNatClampNeg n.toNatClampNeg)))).heap = H.setIfInBounds a (vp_cell c1 (n1, .inl (va_cpy f g sp.toNatClampNeg dp.toNatClampNeg n.toNatClampNeg))) := by rw [← hT]; rfl
  have other : ∀ q : Nat, q ≠ a → (H.setIfInBounds a (vp_cell c1 (n1, .inl (va_cpy f g sp.toNatClampNeg dp.toNatClampNeg n.toNatClampNeg))))[q]? = H[q]? := fun q hq => by simp [Array.getElem?_setIfInBounds, Ne.symm hq]
  have inA : A a := hD.2 q1 _ ha1
  obtain ⟨t, r1, r2⟩ := kk _ _ (hP.set hD ha1 (show (H.setIfInBounds a _)[a]? = some _ by simp [Array.getElem?_setIfInBounds, hla]) other) (hD.set ha1)
    ⟨by simp; exact hS.1, fun q g1 g2 => (other q (fun eq => g2 (by rw [eq]; exact inA))).trans (hS.2.1 q g1 g2), fun q hq => by
      rcases List.mem_append.mp hq with hq | hq
      · exact hS.2.2 q hq
      · obtain ⟨z, -, rfl⟩ := List.mem_map.mp hq
        exact inA⟩ _ hh X'
  exact ⟨t, go t r1, r2⟩
end EXZ
section EXI
variable {l : Launch} {Ts Ns : List Cond} {mt : Nat → Option ex_M} {mp : Nat → List Nat} {tsl : List (String × Nat × Nat)} {ro : Nat} {sts : List ex_St}
theorem ex_ret_eq (self : ex_S) (d : Nat) (cd : List (List ex_R)) (L : List ex_R) (lo : ex_Lo) (rest : List Value) (v : Option Value) (w : ex_W) : ex_ret self d cd L lo rest (some (.inl v, w)) = self d cd L lo (v.toList ++ rest) w := by cases v <;> rfl
theorem ex_ft_pc {pc : Nat} {L : List ex_R} (h : ex_ft pc L = true) : ex_pc L = pc := by
  unfold ex_ft at h
  unfold ex_pc
  split at h
  · exact of_decide_eq_true h
  · cases h
theorem ex_ftl_pc {n pc d : Nat} {cd : List (List ex_R)} {L : List ex_R} {lo : ex_Lo} {st : List Value} {w : ex_W} {E : ex_E} (h : ex_ftl pc L = true) (hr : ex_run ro mt n d cd L lo st w = some E) : ex_pc L = pc := by
  unfold ex_ftl at h
  unfold ex_pc
  split at h
  · exact of_decide_eq_true h
  · cases n <;> cases hr
theorem ex_jmp_pc {cd : List (List ex_R)} {pc t : Nat} {off : Int} (h : ex_jmp cd pc off t = true) : (pc : Int) + off = (ex_pc (cd.getD t []) : Int) := by
  unfold ex_jmp at h
  unfold ex_pc
  split at h
  · next x r hx => rw [hx]; exact of_decide_eq_true h
  · cases h
theorem ex_LR.same {ad ad' : Nat → Nat} {z z' nL : Nat} {lo : ex_Lo} {ls : Array Slot} (h : ex_LR ad z nL lo ls) (hz : z ≤ z') (had : ∀ i, i < z → ad' i = ad i) : ex_LR ad' z' nL lo ls :=
  ⟨h.1, h.2.1, fun i v hv => ⟨by rw [ex_cv_same (h.2.2 i v hv).2 had]; exact (h.2.2 i v hv).1, (h.2.2 i v hv).2.mono hz⟩⟩
theorem ex_isw_of {w : ex_W} {x : Nat} (h : ex_isw ro w x = true) : x < ro ∧ w.1.1[x]? = some (.inl 100) := by
  rw [ex_isw, Bool.and_eq_true] at h
  refine ⟨Nat.not_le.mp (of_decide_eq_true h.1), ?_⟩
  have h2 := h.2
  split at h2
  · next hx => exact hx
  · cases h2
/-- behind a call that returned -/
theorem ex_after {n d mi : Nat} {M : ex_M} {L : List ex_R} {lo : ex_Lo} {rest : List Value} {v : Option Value} {w w2 : ex_W} {E : ex_E} (hH : ex_Hyp l Ts Ns mt mp tsl ro sts) (hA : ex_AA l Ts Ns mt mp tsl ro sts n) (hM : mt mi = some M) (hrun : ex_run ro mt n d M.2.2.2.2.2.1 L lo (v.toList ++ rest) w2 = some E) (hlok : ex_lok Ts Ns mt mp tsl ro sts M L = true) (hle : ex_le w w2)
    {p : Program} {e : Env} {R : Room} {s : State} {m : MethodId} {args : Array Value} {below : List Frame} {meth : Method} {c : Code} {H : Heap} {locs : List Loc} {ls : Array Slot} {ad : Nat → Nat} {D : va_G} {cA : FieldType → ClassId} {z0 c0 s0 pc : Nat} {Q : State → Prop} {st0 : List Value}
    (hpc : ex_pc L = pc + 3) (hC : ex_Cx p l R s m args meth c Ts M d) (hF : ex_Fix D cA z0 ro sts Ns ad w s) (hR : ex_Rel D cA z0 ro ad w s H locs) (hL : ex_LR ad w.1.1.length M.2.2.1 lo ls) (hn : ex_nod lo) (ho : ∀ v ∈ rest, ex_okv w.1.1.length v) (hc0 : c0 ≤ w.1.2.1) (hs0 : s0 ≤ w.1.2.2) (hRc : E.2.2.2.1.2.1 - c0 ≤ R.cells) (hRs : E.2.2.2.1.2.2 - s0 ≤ R.slots)
    (hvr : va_Run p l e R s m args below meth c H locs (w.1.2.1 - c0) (w.1.2.2 - s0) (w2.1.2.1 - w.1.2.1) (w2.1.2.2 - w.1.2.2) (F0 m pc ls st0) (rest.map (ex_cv ad)) (ex_Qc D cA z0 ro sts ad w w2 v #[]) (fun q => z0 ≤ q))
    (kk : ∀ (ad1 : Nat → Nat) (H1 : Heap) (locs1 : List Loc) (ls1 : Array Slot), ex_Rel D cA z0 ro ad1 E.2.2.2 s H1 locs1 → ex_agr ro sts ad ad1 w E.2.2.2 → ex_LR ad1 E.2.2.2.1.1.length M.2.2.1 E.2.1 ls1 → (∀ v ∈ E.2.2.1, ex_okv E.2.2.2.1.1.length v) → ex_lok Ts Ns mt mp tsl ro sts M E.1 = true →
      W p l e R s m args below meth c H1 locs1 (E.2.2.2.1.2.1 - c0) (E.2.2.2.1.2.2 - s0) Q (F0 m (ex_pc E.1) ls1 (E.2.2.1.map (ex_cv ad1)))) :
    W p l e R s m args below meth c H locs (w.1.2.1 - c0) (w.1.2.2 - s0) Q (F0 m pc ls st0) := by
  refine ex_go hvr fun v9 st₀ t L9 h0 hal hq hL9 => ?_
  obtain ⟨⟨ad', hv, hvo, hag, hP, hD, hin, hro⟩, hFr⟩ := hq
  cases hv
  obtain ⟨g1, g2, g3⟩ := vx_keep (T' := t) h0 rfl hR.2.2.1 (fun _ _ h => h) (fun _ h => h) hL9 hFr
  have hle1 := hle.1
  have hle2 := hle.2
  have e1 : w.1.2.1 - c0 + (w2.1.2.1 - w.1.2.1) = w2.1.2.1 - c0 := by omega
  have e2 : w.1.2.2 - s0 + (w2.1.2.2 - w.1.2.2) = w2.1.2.2 - s0 := by omega
  have hR' : ex_Rel D cA z0 ro ad' w2 s t.heap (locs ++ L9) := ⟨hP, hD, g3, hin, hro⟩
  have had : ∀ i, i < w.1.1.length → ad' i = ad i := fun i hi => (hag.1 i hi).1
  have ho' : ∀ x ∈ v.toList ++ rest, ex_okv w2.1.1.length x := fun x hx => by
    rcases List.mem_append.mp hx with hx | hx
    · exact hvo x (Option.mem_toList.mp hx)
    · exact (ho x hx).mono hag.2.2
  have key := hA d mi M L lo (v.toList ++ rest) w2 E hM hrun hlok p e R s m args below meth c t.heap (locs ++ L9) ls ad' D cA z0 c0 s0 Q hC (hF.agr hag hR.2.2.2.1 hR.2.2.2.2 hH.2.2.2.1) hR' (hL.same hag.2.2 had) hn ho' (by omega) (by omega) hRc hRs (fun ad1 H1 locs1 ls1 k1 k2 k3 k4 k5 => kk ad1 H1 locs1 ls1 k1 (hag.tr k2) k3 k4 k5)
  have e3 : (v.toList ++ rest).map (ex_cv ad') = (v.map (ex_cv ad')).toList ++ rest.map (ex_cv ad) := by
    rw [List.map_append, ex_map_same ho had]
    cases v <;> rfl
  rw [hpc, e3] at key
  rw [e1, e2]
  exact key
/-- the handlers -/
theorem ex_hands {bytes : ByteArray} {nL : Nat} {own : String} {pc : Nat} {cd : List (List ex_R)} {x : Nat} {w : ex_W} {E : ex_E} : ∀ (rs : List Nat) (hh : List (Nat × Nat × Nat × Nat)) (seen : List Nat), ex_cat cd x w rs = some E → ex_hd bytes nL own pc cd rs hh seen = true →
    ∃ (pre : List (Nat × Nat × Nat × Nat)) (q : Nat × Nat × Nat × Nat) (suf : List (Nat × Nat × Nat × Nat)) (ra rc rr : ex_R), hh = pre ++ q :: suf ∧ E = ([rr], [], [.int rc.2.2.2.2], w) ∧ (∀ y ∈ seen, x = 0 ∧ y = 1) ∧ (∀ z ∈ pre, z.2.2.2 ≠ 0 ∧ x = 0 ∧ own = "PileTricksLaw" ∧ z.2.2.2 = ex_ct 1) ∧ q.1 ≤ pc ∧ pc < q.2.1 ∧ q.2.2.2 ≠ 0 ∧ (own = "PileTricksLaw" ∧ x < 2 ∧ q.2.2.2 = ex_ct x) ∧ ra.1 = q.2.2.1 ∧ decode bytes ra.1 = .ok (ra.2.2.1, ra.2.1) ∧ decode bytes rc.1 = .ok (rc.2.2.1, rc.2.1) ∧ decode bytes rr.1 = .ok (.ireturn, 1) ∧ rr.2.2.1 = .ireturn ∧ rr.2.1 = 1 ∧ rc.1 = ra.1 + ra.2.1 ∧ rr.1 = rc.1 + rc.2.1 ∧ ex_kok ra.2.2.1 ra.2.2.2.2 ra.2.1 = true ∧ ex_kok rc.2.2.1 rc.2.2.2.2 rc.2.1 = true ∧ ((∃ i, ra.2.2.1 = .astore_n i ∧ i.val < nL) ∨ (∃ i, ra.2.2.1 = .astore i ∧ i < nL)) ∧ (∃ i, rc.2.2.1 = .iconst i)
  | y :: b :: rs, q :: hh, seen, h, hk => by
    simp only [ex_hd, Bool.and_eq_true] at hk
    obtain ⟨hk1, hk2⟩ := hk
    split at hk1
    · next ra rc rr hb =>
      simp only [Bool.and_eq_true, decide_eq_true_eq] at hk1
      obtain ⟨⟨⟨⟨⟨⟨⟨⟨⟨⟨⟨⟨⟨⟨⟨⟨k1, k2⟩, k3⟩, k4⟩, k6⟩, k7⟩, k8⟩, k9⟩, k10⟩, k11⟩, k12⟩, k13⟩, k14⟩, k15⟩, k16⟩, k17⟩, k18⟩ := hk1
      by_cases hy : y = x
      · subst hy
        rw [ex_cat, if_pos rfl, hb] at h
        cases h
        refine ⟨[], q, hh, ra, rc, rr, rfl, rfl, (fun z hz => of_decide_eq_true (List.all_eq_true.mp k18 z hz)), (fun _ h => by cases h), k1, k2, k3, k4, k6, k7, k8, k9, k10, k11, k12, k13, k14, k15, ?_, ?_⟩
        · split at k16
          · next i hi => exact Or.inl ⟨i, hi, of_decide_eq_true k16⟩
          · next i hi => exact Or.inr ⟨i, hi, of_decide_eq_true k16⟩
          · cases k16
        · split at k17
          · next i hi => exact ⟨i, hi⟩
          · cases k17
      · rw [ex_cat, if_neg hy] at h
        obtain ⟨pre, q', suf, ra', rc', rr', e1, e2, e3, e4, e5⟩ := ex_hands rs hh (y :: seen) h hk2
        refine ⟨q :: pre, q', suf, ra', rc', rr', by rw [e1]; rfl, e2, fun z hz => e3 z (List.mem_cons_of_mem _ hz), fun z hz => ?_, e5⟩
        rcases List.mem_cons.mp hz with rfl | hz
        · obtain ⟨f1, f2⟩ := e3 y List.mem_cons_self
          exact ⟨k3, f1, k4.1, by rw [← f2]; exact k4.2.2⟩
        · exact e4 z hz
    · cases hk1
  | [], _, _, h, _ => by cases h
  | [_], _, _, h, _ => by cases h
  | _ :: _ :: _, [], _, _, hk => by simp [ex_hd] at hk
theorem ex_goX {p : Program} {e : Env} {R : Room} {s : State} {m : MethodId} {args : Array Value} {below : List Frame} {meth : Method} {c : Code} {H : Heap} {locs : List Loc} {ls : Array Slot} {Q : State → Prop} {cells slots mc ms pc : Nat} {st0 rest : List Value} {XC : String → State → State → Prop} {free : Addr → Prop} (hr : vx_Run p l e R s m args below meth c H locs cells slots mc ms (F0 m pc ls st0) rest (fun _ _ _ => False) XC free)
    (kk : ∀ (q9 : Addr) (st₀ t : State) (L9 : List Loc) (E9 : String) (ce : Cell), st₀.heap = H → XC E9 st₀ t → (∀ z ∈ L9, free z.base) → t.heap[q9]? = some ce → ce.vm = .none → s.vm.findClass E9 = some ce.cls → vx_W p l e R s m args below meth c t.heap (locs ++ L9) (cells + mc) (slots + ms) Q (F0 m pc ls rest) q9) :
    W p l e R s m args below meth c H locs cells slots Q (F0 m pc ls st0) := by
  intro T hT X
  rcases hr T hT X with ⟨v, st₀, t, T', L, h0, X', hL, e1, e2, hq, st⟩ | ⟨q, st₀, t, T', L, E, ce, h0, X', hL, e1, e2, hx, hce, hcv, hcl, st⟩
  · exact hq.elim
  · obtain ⟨t2, a1, b1⟩ := kk q st₀ t L E ce h0 hx hL hce hcv hcl T' e1 X'
    exact ⟨t2, st.trans a1, b1⟩
set_option maxHeartbeats 8000000 in
/-- a call that throws, in a method that catches it -/
theorem ex_catch {n d mi mi' pc idx np ci k0 x : Nat} {rs : List Nat} {M M' : ex_M} {lo : ex_Lo} {st as rest : List Value} {w w2 : ex_W} {E : ex_E} {ins : Instr} {k : Int32} (hH : ex_Hyp l Ts Ns mt mp tsl ro sts) (hA : ex_AA l Ts Ns mt mp tsl ro sts n) (hM : mt mi = some M) (hM' : mt mi' = some M') (h : ex_cat M.2.2.2.2.2.1 x w2 rs = some E)
    {p : Program} {e : Env} {R : Room} {s : State} {m : MethodId} {args : Array Value} {below : List Frame} {meth : Method} {c : Code} {H : Heap} {locs : List Loc} {ls : Array Slot} {ad : Nat → Nat} {D : va_G} {cA : FieldType → ClassId} {z0 c0 s0 : Nat} {Q : State → Prop}
    (hi : ins = .invokevirtual idx ∨ ins = .invokestatic idx ∨ ins = .invokespecial idx) (hdec : decode M.2.1 pc = .ok (ins, 3)) (hk9 : k0 = 9) (hk : ex_cok Ts Ns mt mp M pc ins (k0 :: mi' :: np :: ci :: rs) k = true) (hC : ex_Cx p l R s m args meth c Ts M (d + 1)) (hF : ex_Fix D cA z0 ro sts Ns ad w s) (hR : ex_Rel D cA z0 ro ad w s H locs) (hL : ex_LR ad w.1.1.length M.2.2.1 lo ls)
    (hme : ex_me mt (ex_run ro mt n) d mi' as w = some (.inr x, w2)) (hoA : ∀ v ∈ as, ex_okv w.1.1.length v) (has : as.length = np) (hsum : (rest.map fun v => v.category).sum ≤ 8) (hrcv : k0 = 2 ∨ k0 = 3 ∨ k0 = 8 ∨ ex_rcv ro w ci as = true) (hc0 : c0 ≤ w.1.2.1) (hs0 : s0 ≤ w.1.2.2) (hRc : E.2.2.2.1.2.1 - c0 ≤ R.cells) (hRs : E.2.2.2.1.2.2 - s0 ≤ R.slots)
    (hsm : st.map (ex_cv ad) = as.reverse.map (ex_cv ad) ++ rest.map (ex_cv ad))
    (kk : ∀ (ad1 : Nat → Nat) (H1 : Heap) (locs1 : List Loc) (ls1 : Array Slot), ex_Rel D cA z0 ro ad1 E.2.2.2 s H1 locs1 → ex_agr ro sts ad ad1 w E.2.2.2 → ex_LR ad1 E.2.2.2.1.1.length M.2.2.1 E.2.1 ls1 → (∀ v ∈ E.2.2.1, ex_okv E.2.2.2.1.1.length v) → ex_lok Ts Ns mt mp tsl ro sts M E.1 = true →
      W p l e R s m args below meth c H1 locs1 (E.2.2.2.1.2.1 - c0) (E.2.2.2.1.2.2 - s0) Q (F0 m (ex_pc E.1) ls1 (E.2.2.1.map (ex_cv ad1)))) :
    W p l e R s m args below meth c H locs (w.1.2.1 - c0) (w.1.2.2 - s0) Q (F0 m pc ls (st.map (ex_cv ad))) := by
  subst hk9
  have hts := hC.2.2.2.2.1
  have hrv : ex_rcv ro w ci as = true := by
    rcases hrcv with h | h | h | h
    · omega
    · omega
    · omega
    · exact h
  obtain ⟨a, As, rfl, hsh, hca⟩ := ex_rcv_of hrv
  rcases hi with rfl | rfl | rfl
  · have hmok := hH.2.1 _ M' hM'
    simp only [ex_mok, Bool.and_eq_true, decide_eq_true_eq] at hmok
    obtain ⟨⟨⟨⟨⟨⟨⟨hmw, hpl⟩, hn1⟩, hn2⟩, hcl⟩, hnL⟩, -⟩, -⟩ := hmok
    have hq := ex_wds hH.2.2.2.2.1 hts hmw (hH.2.2.2.2.2.2.2.1 _ M' hM')
    obtain ⟨u1, u2, u3⟩ := ex_mw_st hmw
    have hk0 : mt ((9 :: mi' :: np :: ci :: rs).getD 1 0) = some M' := hM'
    simp only [ex_cok, hk0, Bool.and_eq_true, decide_eq_true_eq] at hk
    obtain ⟨⟨⟨hk1, hk2⟩, hk3⟩, hk4⟩ := hk
    obtain ⟨g1, g2, g3, g4⟩ := ex_cl_of hk1
    obtain ⟨q1, q2, q3⟩ := hq (by have g1 : (mp mi').getD 2 0 = 1 := g1; rw [g1]; decide)
    obtain ⟨i1, i2⟩ := u2 g1
    rw [if_pos (by simp), Bool.and_eq_true, decide_eq_true_eq] at hk4
    obtain ⟨hkp, hk4⟩ := hk4
    have hcode : Cond.code M'.1 M'.2.1 M'.2.2.1 M'.2.2.2.1 ∈ Ts := by rw [ex_cw, if_pos hk3] at q3; exact q3
    have hcw : Cond.code M'.1 M'.2.1 M'.2.2.1 M'.2.2.2.1 ∈ ex_wd Ts M' := by rw [ex_wd, ex_cw, if_pos hk3]; exact List.mem_cons_self
    have hci : ci < 10 ∨ 100 ≤ ci ∧ ci < 200 := hk2.2
    have hcell := ex_recv hF hR hsh hca (fun h => ⟨vwCl[ci]'(show ci < 10 by omega), List.getElem?_eq_getElem _⟩) (by omega)
    have hcn : M'.1.cls = ex_cn1 ci := hk2.1
    rw [← hcn] at hcell
    unfold ex_Lk at g4
    rw [if_neg (by simp)] at g4
    have hX := ex_throws (D := D) (cA := cA) (z0 := z0) (ad := ad) hH hA hM' hk3 hkp hme hoA hR.2.2.2.1 hR.2.2.2.2 hR.2.1
    have hpre : PreV s H M'.1.cls (ad a) (ex_Pc D cA z0 ro sts Ns ad w (.ref a :: As)) (As.map (ex_cv ad)) := ⟨ex_blind hH.2.2.2.2.2.1, hcell, (ex_PreS hH hF hR).2⟩
    have hnA : ∀ sig, parseMethodDescriptor M'.1.desc = some sig → (As.map (ex_cv ad)).length = sig.parameters.length := fun sig hs => by
      have h9 : np = sig.parameters.length + 1 := g3 sig hs
      rw [List.length_map]
      rw [List.length_cons] at has
      omega
    have hstk : st.map (ex_cv ad) = (As.map (ex_cv ad)).reverse ++ .ref (ad a) :: rest.map (ex_cv ad) := by
      rw [hsm, List.reverse_cons, List.map_append, List.map_reverse, List.append_assoc]; rfl
    obtain ⟨pre, q, suf, ra, rc, rr, e1, e2, -, e4, p1, p2, p3, p45, p6, p7, p8, p9, p10, p11, p12, p13, p14, p15, p16, p17⟩ := ex_hands _ _ _ h hk4
    have hle : ex_le w w2 := by
      obtain ⟨M9, -, -, row, L9, lo9, st9, w9, x1, x2⟩ := ex_me_of hme
      exact (ex_mono ro mt n _ _ _ _ _ _ _ x1).tr (ex_fin_mono x2)
    have hl1 := hle.1
    have hl2 := hle.2
    subst e2
    dsimp only at hRc hRs kk
    obtain ⟨pl1, pl2, pl3⟩ := p45
    obtain ⟨p4, p5⟩ := hH.2.2.2.2.2.2.2.2.2.2 x pl2
    rw [← pl3, ← pl1] at p4
    have hS : CallFix p m c M.2.1 M.2.2.1 s args Ts M.2.2.2.2.1 := ⟨hC.1, hC.2.1, hC.2.2.1, hC.2.2.2.1, hts⟩
    have hfr : (ex_rm d (w2.1.2.1 - w.1.2.1) (w2.1.2.2 - w.1.2.2)).frames + 1 ≤ R.frames := by have := hC.2.2.2.2.2.2.2.2.1; show d + 6 + 1 ≤ _; omega
    have hlo : 8 + (M'.2.2.1 + 11) + (ex_rm d (w2.1.2.1 - w.1.2.1) (w2.1.2.2 - w.1.2.2)).locals ≤ R.locals := by have := hC.2.2.2.2.2.2.2.2.2; show 8 + (M'.2.2.1 + 11) + (64 * d + 140) ≤ _; omega
    have hroom : ∀ (pc : Nat) (st : List Value), 2 * (F0 m pc ls st).monitorRoom + ((rest.map (ex_cv ad)).map fun v => v.category).sum ≤ 8 := fun pc st => lv_room (by rw [ex_catsum]; exact hsum)
    rw [hstk]
    refine ex_goX (vx_runV (n := (As.map (ex_cv ad)).length) hS hX ⟨⟨rfl, rfl, hfr, hlo, q1, hcw, hts _ hcode, q2, ⟨hn1, hn2⟩, hnA, hts _ g4⟩, hts _ i1, hts _ i2⟩ hpre rfl rfl hL.size rfl (hroom _ _) hdec ⟨by omega, by omega⟩) ?_
    intro q9 st₀ t L9 E9 ce h0 hx hL9 hce hcv hcl9
    obtain ⟨rfl, ⟨ad', hag, hP, hD, hin, hro⟩, hFr⟩ := hx
    obtain ⟨f1, f2, f3⟩ := vx_keep (T' := t) h0 rfl hR.2.2.1 (fun _ _ h => h) (fun _ h => h) hL9 hFr
    have hR' : ex_Rel D cA z0 ro ad' w2 s t.heap (locs ++ L9) := ⟨hP, hD, f3, hin, hro⟩
    have hrr : ex_lok Ts Ns mt mp tsl ro sts M [rr] = true := by
      obtain ⟨rp, rl, ri, rk⟩ := rr
      dsimp only at p9 p10 p11
      subst p10
      subst p11
      simp only [ex_lok, ex_rok, Bool.and_eq_true, decide_eq_true_eq]
      exact ⟨⟨p9, trivial⟩, trivial⟩
    have key : ∀ ls1 : Array Slot, lv_has ls1 M.2.2.1 [] → W p l e R s m args below meth c t.heap (locs ++ L9) (w2.1.2.1 - c0) (w2.1.2.2 - s0) Q (F0 m rr.1 ls1 [.int rc.2.2.2.2]) := fun ls1 hl => kk ad' t.heap (locs ++ L9) ls1 hR' hag ⟨Nat.zero_le _, hl, fun i v hv => by simp at hv⟩ (fun v hv => by
      rcases List.mem_cons.mp hv with rfl | hv
      · exact trivial
      · cases hv) hrr
    have e9 : w.1.2.1 - c0 + (w2.1.2.1 - w.1.2.1) = w2.1.2.1 - c0 := by omega
    have e10 : w.1.2.2 - s0 + (w2.1.2.2 - w.1.2.2) = w2.1.2.2 - s0 := by omega
    rw [e9, e10]
    refine vx_catch (own := M.2.2.2.2.1) (name := ex_en x) (E := ex_en x) hC.2.2.2.1 (tableOf pre) ⟨q.1, q.2.1, q.2.2.1, q.2.2.2⟩ (tableOf suf) (by rw [hC.2.2.2.2.2.2.2.1, e1]; simp [tableOf]) (fun z hz => ?_) (by simp [covers, p1, p2]) p3 (hts _ p4) (va_Nw.use rfl (hF.2.2.2.2.1 _ p5)) hce hcv hcl9 ?_
    · obtain ⟨z', hz', rfl⟩ := List.mem_map.mp hz
      obtain ⟨y1, y2, y3, y4⟩ := e4 z' hz'
      exact Or.inr ⟨y1, ex_en 1, by
        have h9 := (hH.2.2.2.2.2.2.2.2.2.2 1 (by omega)).1
        rw [← y4, ← y3] at h9
        exact hts _ h9, by rw [y2]; exact hF.2.2.2.2.2.2.2.1⟩
    · show W p l e R s m args below meth c t.heap (locs ++ L9) (w2.1.2.1 - c0) (w2.1.2.2 - s0) Q (F0 m q.2.2.1 ls [.ref q9])
      obtain ⟨ic, hic⟩ := p17
      rw [hic] at p8 p15
      simp only [ex_kok, Bool.and_eq_true, decide_eq_true_eq] at p15
      have fin : ∀ ls1 : Array Slot, lv_has ls1 M.2.2.1 [] → W p l e R s m args below meth c t.heap (locs ++ L9) (w2.1.2.1 - c0) (w2.1.2.2 - s0) Q (F0 m rc.1 ls1 []) := fun ls1 hl => by
        have := key ls1 hl
        rw [p13, p15.2] at this
        rw [p15.2] at p8
        exact lv_iconst hC.1 hC.2.1 p8 p15.1 this
      rcases p16 with ⟨ia, hia, hib⟩ | ⟨ia, hia, hib⟩
      · rw [hia] at p7 p14
        simp only [ex_kok, decide_eq_true_eq] at p14
        rw [p14, p6] at p7
        rw [p14, p6] at p12
        rw [p12] at fin
        exact lv_astore_n hC.1 hC.2.1 p7 rfl hL.2.1 hib rfl (fun ls' hl' => fin ls' (lv_sub hl' [] rfl))
      · rw [hia] at p7 p14
        simp only [ex_kok, decide_eq_true_eq] at p14
        rw [p14, p6] at p7
        rw [p14, p6] at p12
        rw [p12] at fin
        exact lv_astore hC.1 hC.2.1 p7 hL.2.1 hib rfl (fun ls' hl' => fin ls' (lv_sub hl' [] rfl))
  · exfalso
    have hk0 : mt ((9 :: mi' :: np :: ci :: rs).getD 1 0) = some M' := hM'
    rw [ex_cok, if_neg (by simp)] at hk
    simp only [hk0, Bool.and_eq_true] at hk
    have := (ex_cl_of hk.1).2.1
    simp at this
  · exfalso
    have hk0 : mt ((9 :: mi' :: np :: ci :: rs).getD 1 0) = some M' := hM'
    rw [ex_cok, if_neg (by simp)] at hk
    simp only [hk0, Bool.and_eq_true] at hk
    have := (ex_cl_of hk.1.1).2.1
    simp at this
set_option maxHeartbeats 8000000 in
/-- a call of any kind -/
theorem ex_inv_ok {n d mi pc idx : Nat} {M : ex_M} {L : List ex_R} {lo : ex_Lo} {st : List Value} {w : ex_W} {E : ex_E} {ins : Instr} {r : List Nat} {k : Int32} (hH : ex_Hyp l Ts Ns mt mp tsl ro sts) (hA : ex_AA l Ts Ns mt mp tsl ro sts n) (hM : mt mi = some M) (h : ex_inv ro mt (ex_run ro mt n) d M.2.2.2.2.2.1 r L lo st w = some E) (hlok : ex_lok Ts Ns mt mp tsl ro sts M L = true)
    {p : Program} {e : Env} {R : Room} {s : State} {m : MethodId} {args : Array Value} {below : List Frame} {meth : Method} {c : Code} {H : Heap} {locs : List Loc} {ls : Array Slot} {ad : Nat → Nat} {D : va_G} {cA : FieldType → ClassId} {z0 c0 s0 : Nat} {Q : State → Prop}
    (hi : ins = .invokevirtual idx ∨ ins = .invokestatic idx ∨ ins = .invokespecial idx) (hdec : decode M.2.1 pc = .ok (ins, 3)) (hpc : ex_pc L = pc + 3) (hk : ex_cok Ts Ns mt mp M pc ins r k = true) (hC : ex_Cx p l R s m args meth c Ts M d) (hF : ex_Fix D cA z0 ro sts Ns ad w s) (hR : ex_Rel D cA z0 ro ad w s H locs) (hL : ex_LR ad w.1.1.length M.2.2.1 lo ls) (hn : ex_nod lo) (ho : ∀ v ∈ st, ex_okv w.1.1.length v) (hc0 : c0 ≤ w.1.2.1) (hs0 : s0 ≤ w.1.2.2) (hRc : E.2.2.2.1.2.1 - c0 ≤ R.cells) (hRs : E.2.2.2.1.2.2 - s0 ≤ R.slots)
    (kk : ∀ (ad1 : Nat → Nat) (H1 : Heap) (locs1 : List Loc) (ls1 : Array Slot), ex_Rel D cA z0 ro ad1 E.2.2.2 s H1 locs1 → ex_agr ro sts ad ad1 w E.2.2.2 → ex_LR ad1 E.2.2.2.1.1.length M.2.2.1 E.2.1 ls1 → (∀ v ∈ E.2.2.1, ex_okv E.2.2.2.1.1.length v) → ex_lok Ts Ns mt mp tsl ro sts M E.1 = true →
      W p l e R s m args below meth c H1 locs1 (E.2.2.2.1.2.1 - c0) (E.2.2.2.1.2.2 - s0) Q (F0 m (ex_pc E.1) ls1 (E.2.2.1.map (ex_cv ad1)))) :
    W p l e R s m args below meth c H locs (w.1.2.1 - c0) (w.1.2.2 - s0) Q (F0 m pc ls (st.map (ex_cv ad))) := by
  have hts := hC.2.2.2.2.1
  unfold ex_inv at h
  split at h
  · next r' =>
    split at h
    · next a st1 =>
      split at h
      · next hsum =>
        rcases hi with rfl | rfl | rfl
        · exfalso
          simp only [ex_cok] at hk
          split at hk
          · simp only [Bool.and_eq_true] at hk
            have := (ex_cl_of hk.1.1.1).2.1
            simp at this
          · cases hk
        · exfalso
          rw [ex_cok, if_neg (by simp)] at hk
          split at hk
          · simp only [Bool.and_eq_true] at hk
            have := (ex_cl_of hk.1).2.1
            simp at this
          · cases hk
        · rw [ex_cok, if_pos (by simp)] at hk
          have hk := of_decide_eq_true hk
          have hob := hH.2.2.2.2.2.2.2.2.1
          refine W.objInit hC.1 hC.2.1 hC.2.2.2.1 (hts _ (List.mem_of_getElem? hk)) (hts _ hob.1) (hts _ hob.2) rfl (hL.size.trans hC.2.2.1.symm) rfl hdec (by have := hC.2.2.2.2.2.2.2.2.1; omega) ?_ ?_
          · have h9 : 2 * (F0 m pc ls ((Value.ref a :: st1).map (ex_cv ad))).monitorRoom + ((st1.map (ex_cv ad)).map fun v => v.category).sum ≤ 8 := lv_room (by rw [ex_catsum]; exact hsum)
            have := hC.2.2.2.2.2.2.2.2.2
            omega
          · have key := hA d mi M L lo st1 w E hM h hlok p e R s m args below meth c H locs ls ad D cA z0 c0 s0 Q hC hF hR hL hn (ex_tl ho) hc0 hs0 hRc hRs kk
            rw [hpc] at key
            exact key
      · cases h
    · cases h
  · next r' =>
    split at h
    · next n' dp b sp a st1 =>
      split at h
      · next n0 hsa =>
        split at h
        · next n1 hsb =>
          split at h
          · next hcd =>
            obtain ⟨⟨hrb, hsum⟩, h1, h2, h3, h4, h5⟩ := hcd
            rcases hi with rfl | rfl | rfl
            · exfalso
              simp only [ex_cok] at hk
              split at hk
              · simp only [Bool.and_eq_true] at hk
                have := (ex_cl_of hk.1.1.1).2.1
                simp at this
              · cases hk
            · rw [ex_cok, if_pos (by simp)] at hk
              have k1 := of_decide_eq_true hk
              obtain ⟨k2, k3, k4⟩ := hH.2.2.2.2.2.2.2.2.2.1
              have fin : ∀ (H1 : Heap) (locs1 : List Loc), va_P D vwCl ((ex_ws cA ro ad w).set (b - ro) (ad b, .inl (cA .int, n1, .inl (va_cpy (w.2.1 a) (w.2.1 b) sp.toNatClampNeg dp.toNatClampNeg n'.toNatClampNeg)))) H1 → va_D (fun q => z0 ≤ q) ((ex_ws cA ro ad w).set (b - ro) (ad b, .inl (cA .int, n1, .inl (va_cpy (w.2.1 a) (w.2.1 b) sp.toNatClampNeg dp.toNatClampNeg n'.toNatClampNeg)))) → va_S (fun q => z0 ≤ q) s.heap H1 locs1 → W p l e R s m args below meth c H1 locs1 (w.1.2.1 - c0) (w.1.2.2 - s0) Q (F0 m (pc + 3) ls (st1.map (ex_cv ad))) := by
                intro H1 locs1 hP hD hS
                obtain ⟨w', hw⟩ : ∃ w', w' = (w.1, ex_set w.2.1 b (va_cpy (w.2.1 a) (w.2.1 b) sp.toNatClampNeg dp.toNatClampNeg n'.toNatClampNeg), w.2.2.1, w.2.2.2) := ⟨_, rfl⟩
                have ec : ex_cell cA ad w' b (.inr (.int, n1)) = .inl (cA .int, n1, .inl (va_cpy (w.2.1 a) (w.2.1 b) sp.toNatClampNeg dp.toNatClampNeg n'.toNatClampNeg)) := by
                  rw [hw]; show Sum.inl (cA .int, n1, Sum.inl (ex_set _ b _ b)) = _; rw [ex_set_eq]
                rw [← ec] at hP hD
                obtain ⟨g1, g2⟩ := ex_h_upd (sts := sts) hR hsb hrb (by rw [hw]) (fun i hi => by rw [hw]; exact ⟨ex_set_ne hi, rfl, rfl⟩) (fun k r hk => hR.2.2.2.1 b k r (by rw [hw] at hk; exact hk)) hP hD hS
                rw [← hw] at h
                have ew : w'.1 = w.1 := by rw [hw]
                have key := hA d mi M L lo st1 w' E hM h hlok p e R s m args below meth c H1 locs1 ls ad D cA z0 c0 s0 Q hC (hF.agr g2 hR.2.2.2.1 hR.2.2.2.2 hH.2.2.2.1) g1 (hL.same g2.2.2 (fun _ _ => rfl)) hn (fun v hv => (ex_tl (ex_tl (ex_tl (ex_tl (ex_tl ho)))) v hv).mono g2.2.2) (by rw [ew]; exact hc0) (by rw [ew]; exact hs0) hRc hRs (fun ad1 H1 locs1 ls1 k1 k2 k3 k4 k5 => kk ad1 H1 locs1 ls1 k1 (g2.tr k2) k3 k4 k5)
                rw [hpc, ew] at key
                exact key
              have hfr : 1 ≤ R.frames := by have := hC.2.2.2.2.2.2.2.2.1; omega
              have hlo : ((st1.map (ex_cv ad)).map fun v => v.category).sum + (nativeFrameWords "java/lang/System" "arraycopy" 5 + 11) ≤ R.locals := by
                have e9 : nativeFrameWords "java/lang/System" "arraycopy" 5 = 7 := by decide
                have := hC.2.2.2.2.2.2.2.2.2
                rw [ex_catsum, e9]; omega
              have hml : c.maxLocals = ls.size := hC.2.2.1.trans hL.size.symm
              rcases Nat.lt_or_ge a ro with har | har
              · exact ex_copyRO hC.1 hC.2.1 hml hC.2.2.2.1 (hts _ (List.mem_of_getElem? k1)) (hts _ k2) (hts _ k3) (hts _ k4) hF.1 hR.1 hR.2.1 hR.2.2.1 (hF.2.2.1 a _ har hsa) _ 0 (ex_ws_get (cA := cA) (ad := ad) hsb hrb) rfl h1 h2 h3 h4 h5 hfr hlo hdec fin
              · exact va_copyi hC.1 hC.2.1 hml hC.2.2.2.1 (hts _ (List.mem_of_getElem? k1)) (hts _ k2) (hts _ k3) (hts _ k4) hF.1 hR.1 hR.2.1 hR.2.2.1 _ _ 0 0 (ex_ws_get (cA := cA) (ad := ad) hsa har) (ex_ws_get (cA := cA) (ad := ad) hsb hrb) rfl rfl rfl h1 h2 h3 h4 h5 (fun _ _ => rfl) hfr hlo hdec fin
            · exfalso
              rw [ex_cok, if_neg (by simp)] at hk
              split at hk
              · simp only [Bool.and_eq_true] at hk
                have := (ex_cl_of hk.1.1).2.1
                simp at this
              · cases hk
          · cases h
        · cases h
      · cases h
    · cases h
  · next k0 mi' np ci rs n6 n7 =>
    split at h
    · cases h
    · next d' =>
      split at h
      · next hcd =>
        obtain ⟨⟨hnp, hsum⟩, hrcv⟩ := hcd
        have hst : st = (st.take np).reverse.reverse ++ st.drop np := by rw [List.reverse_reverse, List.take_append_drop]
        have hsm : st.map (ex_cv ad) = (st.take np).reverse.reverse.map (ex_cv ad) ++ (st.drop np).map (ex_cv ad) := by rw [← List.map_append, ← hst]
        have hoA : ∀ v ∈ (st.take np).reverse, ex_okv w.1.1.length v := fun v hv => ho v (List.mem_of_mem_take (List.mem_reverse.mp hv))
        have hoR : ∀ v ∈ st.drop np, ex_okv w.1.1.length v := fun v hv => ho v (List.mem_of_mem_drop hv)
        have hlen : (st.take np).reverse.length = np := by rw [List.length_reverse, List.length_take]; omega
        have hk6 : (k0 :: mi' :: np :: ci :: rs).getD 0 0 ≠ 6 ∧ (k0 :: mi' :: np :: ci :: rs).getD 0 0 ≠ 7 := ⟨fun q => n6 q, fun q => n7 q⟩
        -- a call that returns
        have good : ∀ (M' : ex_M) (v : Option Value) (w2 : ex_W), mt mi' = some M' → ex_me mt (ex_run ro mt n) d' mi' (st.take np).reverse w = some (.inl v, w2) → ex_ret (ex_run ro mt n) (d' + 1) M.2.2.2.2.2.1 L lo (st.drop np) (some (.inl v, w2)) = some E → W p l e R s m args below meth c H locs (w.1.2.1 - c0) (w.1.2.2 - s0) Q (F0 m pc ls (st.map (ex_cv ad))) := by
          intro M' v w2 hM' hme hret
          rw [ex_ret_eq] at hret
          have hmm := ex_mono ro mt n _ _ _ _ _ _ _ hret
          have hle : ex_le w w2 := by
            obtain ⟨M9, -, -, row, L9, lo9, st9, w9, x1, x2⟩ := ex_me_of hme
            exact (ex_mono ro mt n _ _ _ _ _ _ _ x1).tr (ex_fin_mono x2)
          have hm1 := hmm.1
          have hm2 := hmm.2
          have hl1 := hle.1
          have hl2 := hle.2
          have vr := ex_vrun (mi := 0) (below := below) (e := e) (cells := w.1.2.1 - c0) (slots := w.1.2.2 - s0) (rest := st.drop np) hH hA (r := k0 :: mi' :: np :: ci :: rs) hM' hC hF hR hL.size hi hdec hk6 hk hme hoA hlen hsum hrcv (by omega) (by omega)
          rw [← hsm] at vr
          exact ex_after hH hA hM hret hlok hle hpc hC hF hR hL hn hoR hc0 hs0 hRc hRs vr kk
        have some_M : ∀ x, ex_me mt (ex_run ro mt n) d' mi' (st.take np).reverse w = some x → ∃ M', mt mi' = some M' := fun x hx => by
          obtain ⟨M', h1, -⟩ := ex_me_of hx
          exact ⟨M', h1⟩
        split at h
        · next hk9 =>
          unfold ex_retC at h
          split at h
          · next x w2 hme =>
            obtain ⟨M', hM'⟩ := some_M _ hme
            exact ex_catch hH hA hM hM' h hi hdec hk9 hk hC hF hR hL hme hoA hlen hsum hrcv hc0 hs0 hRc hRs hsm kk
          · next hnx =>
            cases hme : ex_me mt (ex_run ro mt n) d' mi' (st.take np).reverse w with
            | none => rw [hme] at h; cases h
            | some y =>
              obtain ⟨y, w2⟩ := y
              cases y with
              | inr x => exact absurd hme (hnx x w2)
              | inl v =>
                obtain ⟨M', hM'⟩ := some_M _ hme
                rw [hme] at h
                exact good M' v w2 hM' hme h
        · cases hme : ex_me mt (ex_run ro mt n) d' mi' (st.take np).reverse w with
          | none => rw [hme] at h; cases h
          | some y =>
            obtain ⟨y, w2⟩ := y
            cases y with
            | inr x => rw [hme] at h; cases h
            | inl v =>
              obtain ⟨M', hM'⟩ := some_M _ hme
              rw [hme] at h
              exact good M' v w2 hM' hme h
      · cases h
  · cases h
set_option maxHeartbeats 8000000 in
theorem ex_all (hH : ex_Hyp l Ts Ns mt mp tsl ro sts) : ∀ n, ex_AA l Ts Ns mt mp tsl ro sts n
  | 0 => fun d mi M L lo st w E hM h => by cases h
  | n + 1 => by
    have ih := ex_all hH n
    intro d mi M L lo st w E hM h hlok p e R s m args below meth c H locs ls ad D cA z0 c0 s0 Q hC hF hR hL hn ho hc0 hs0 hRc hRs kk
    have hmok := hH.2.1 mi M hM
    simp only [ex_mok, Bool.and_eq_true, decide_eq_true_eq] at hmok
    obtain ⟨-, hall⟩ := hmok
    replace h : ex_body ro mt (ex_run ro mt n) d M.2.2.2.2.2.1 L lo st w = some E := h
    -- going on with the same world
    have goOn : ∀ (L' : List ex_R) (lo' : ex_Lo) (st' : List Value) (ls' : Array Slot), ex_run ro mt n d M.2.2.2.2.2.1 L' lo' st' w = some E → ex_lok Ts Ns mt mp tsl ro sts M L' = true → ex_LR ad w.1.1.length M.2.2.1 lo' ls' → ex_nod lo' → (∀ v ∈ st', ex_okv w.1.1.length v) → W p l e R s m args below meth c H locs (w.1.2.1 - c0) (w.1.2.2 - s0) Q (F0 m (ex_pc L') ls' (st'.map (ex_cv ad))) := fun L' lo' st' ls' h1 h2 h3 h4 h5 =>
      ih d mi M L' lo' st' w E hM h1 h2 p e R s m args below meth c H locs ls' ad D cA z0 c0 s0 Q hC hF hR h3 h4 h5 hc0 hs0 hRc hRs kk
    -- with another world
    have goW : ∀ (L' : List ex_R) (st' : List Value) (w' : ex_W) (ad' : Nat → Nat) (H' : Heap) (locs' : List Loc), ex_run ro mt n d M.2.2.2.2.2.1 L' lo st' w' = some E → ex_lok Ts Ns mt mp tsl ro sts M L' = true → ex_le w w' → ex_Rel D cA z0 ro ad' w' s H' locs' → ex_agr ro sts ad ad' w w' → (∀ v ∈ st', ex_okv w'.1.1.length v) → W p l e R s m args below meth c H' locs' (w'.1.2.1 - c0) (w'.1.2.2 - s0) Q (F0 m (ex_pc L') ls (st'.map (ex_cv ad'))) := fun L' st' w' ad' H' locs' h1 h2 h3 h4 h5 h6 =>
      ih d mi M L' lo st' w' E hM h1 h2 p e R s m args below meth c H' locs' ls ad' D cA z0 c0 s0 Q hC (hF.agr h5 hR.2.2.2.1 hR.2.2.2.2 hH.2.2.2.1) h4 (hL.same h5.2.2 (fun i hi => (h5.1 i hi).1)) hn h6 (Nat.le_trans hc0 h3.1) (Nat.le_trans hs0 h3.2) hRc hRs (fun ad1 H1 locs1 ls1 k1 k2 k3 k4 k5 => kk ad1 H1 locs1 ls1 k1 (h5.tr k2) k3 k4 k5)
    have hblk := ex_blk hall
    cases L with
    | nil => cases h
    | cons row L =>
      obtain ⟨pc, len, ins, r, k⟩ := row
      have hlok0 := hlok
      rw [ex_lok, Bool.and_eq_true] at hlok
      obtain ⟨hrow, hlL⟩ := hlok
      rw [ex_rok, Bool.and_eq_true] at hrow
      obtain ⟨hdec, hrow⟩ := hrow
      replace hdec := of_decide_eq_true hdec
      have heapC : ∀ ins', ex_hok Ts Ns M.2.2.2.2.1 (M.1.name == "<init>") ro sts ins' len r k = true → ex_ftl (pc + len) L = true → decode M.2.1 pc = .ok (ins', len) → (match ex_heap ro ins' r k st w with
          | some (st, w) => ex_run ro mt n d M.2.2.2.2.2.1 L lo st w
          | none => none) = some E → W p l e R s m args below meth c H locs (w.1.2.1 - c0) (w.1.2.2 - s0) Q (F0 m pc ls (st.map (ex_cv ad))) := by
        intro ins' hk hft hd h
        split at h
        · next st' w' hh =>
          have hm := ex_mono ro mt n _ _ _ _ _ _ _ h
          exact ex_heap_ok hC.1 hC.2.1 hC.2.2.2.1 hC.2.2.2.2.2.2.1 hC.2.2.2.2.1 hH.2.2.1 hH.2.2.2.1 hF hR hh hk hd ho hc0 hs0 (Nat.le_trans (Nat.sub_le_sub_right hm.1 _) hRc) (Nat.le_trans (Nat.sub_le_sub_right hm.2 _) hRs) (fun ad' H1 locs1 k1 k2 k3 => by
            rw [← ex_ftl_pc hft h]; exact goW L st' w' ad' H1 locs1 h hlL (ex_heap_mono hh) k1 k2 k3)
        · cases h
      have dflt : ∀ ins', ((if ex_isp ins' then ex_kok ins' k len else ex_hok Ts Ns M.2.2.2.2.1 (M.1.name == "<init>") ro sts ins' len r k) && ex_ftl (pc + len) L) = true → decode M.2.1 pc = .ok (ins', len) → (match ex_pure ins' k lo st with
          | some (lo, st) => ex_run ro mt n d M.2.2.2.2.2.1 L lo st w
          | none => match ex_heap ro ins' r k st w with
            | some (st, w) => ex_run ro mt n d M.2.2.2.2.2.1 L lo st w
            | none => none) = some E → W p l e R s m args below meth c H locs (w.1.2.1 - c0) (w.1.2.2 - s0) Q (F0 m pc ls (st.map (ex_cv ad))) := by
        intro ins' hk hd h
        rw [Bool.and_eq_true] at hk
        obtain ⟨hk, hft⟩ := hk
        split at h
        · next lo' st' hp =>
          rw [if_pos (ex_isp_of hp)] at hk
          exact ex_pure_ok hC.1 hC.2.1 hp hd hk hL hn ho (fun ls' l1 l2 l3 => by rw [← ex_ftl_pc hft h]; exact goOn L lo' st' ls' h hlL l1 l2 l3)
        · by_cases hi : ex_isp ins' = true
          · exfalso
            split at h
            · next hh => rw [ex_isp_not hh] at hi; cases hi
            · cases h
          · rw [if_neg hi] at hk
            exact heapC ins' hk hft hd h
      show W p l e R s m args below meth c H locs (w.1.2.1 - c0) (w.1.2.2 - s0) Q (F0 m pc ls (st.map (ex_cv ad)))
      unfold ex_body at h
      cases ins with
      | goto off =>
        dsimp only at h hrow
        simp only [Bool.and_eq_true, decide_eq_true_eq] at hrow
        obtain ⟨rfl, hj⟩ := hrow
        exact lv_goto hC.1 hC.2.1 hdec (ex_jmp_pc hj) (goOn _ lo st ls h (hblk _) hL hn ho)
      | ifCond cnd off =>
        dsimp only at h hrow
        simp only [Bool.and_eq_true, decide_eq_true_eq] at hrow
        obtain ⟨⟨rfl, hj⟩, hft⟩ := hrow
        have ht := ex_jmp_pc hj
        have hft := ex_ft_pc hft
        split at h
        · next x st1 =>
          have gj : ex_run ro mt n d M.2.2.2.2.2.1 (M.2.2.2.2.2.1.getD (r.getD 0 0) []) lo st1 w = some E → W p l e R s m args below meth c H locs (w.1.2.1 - c0) (w.1.2.2 - s0) Q (F0 m (ex_pc (M.2.2.2.2.2.1.getD (r.getD 0 0) [])) ls (st1.map (ex_cv ad))) := fun h => goOn _ lo st1 ls h (hblk _) hL hn (ex_tl ho)
          have gf : ex_run ro mt n d M.2.2.2.2.2.1 L lo st1 w = some E → W p l e R s m args below meth c H locs (w.1.2.1 - c0) (w.1.2.2 - s0) Q (F0 m (pc + 3) ls (st1.map (ex_cv ad))) := fun h => by rw [← hft]; exact goOn L lo st1 ls h hlL hL hn (ex_tl ho)
          cases cnd with
          | eq => exact lv_if_eq hC.1 hC.2.1 hdec ht (fun q => gj (by rw [ex_if, if_pos q] at h; exact h)) (fun q => gf (by rw [ex_if, if_neg q] at h; exact h))
          | ne => exact lv_if_ne hC.1 hC.2.1 hdec ht (fun q => gj (by rw [ex_if, if_neg q] at h; exact h)) (fun q => gf (by rw [ex_if, if_pos q] at h; exact h))
          | lt => exact lv_if_lt hC.1 hC.2.1 hdec ht (fun q => gj (by rw [ex_if, if_pos q] at h; exact h)) (fun q => gf (by rw [ex_if, if_neg q] at h; exact h))
          | ge => exact lv_if_ge hC.1 hC.2.1 hdec ht (fun q => gj (by rw [ex_if, if_neg (Int32.not_lt.mpr q)] at h; exact h)) (fun q => gf (by rw [ex_if, if_pos (Int32.not_le.mp q)] at h; exact h))
          | gt => exact lv_if_gt hC.1 hC.2.1 hdec ht (fun q => gj (by rw [ex_if, if_pos q] at h; exact h)) (fun q => gf (by rw [ex_if, if_neg q] at h; exact h))
          | le => exact lv_if_le hC.1 hC.2.1 hdec ht (fun q => gj (by rw [ex_if, if_neg (Int32.not_lt.mpr q)] at h; exact h)) (fun q => gf (by rw [ex_if, if_pos (Int32.not_le.mp q)] at h; exact h))
        · cases h
      | if_icmp cnd off =>
        dsimp only at h hrow
        simp only [Bool.and_eq_true, decide_eq_true_eq] at hrow
        obtain ⟨⟨rfl, hj⟩, hft⟩ := hrow
        have ht := ex_jmp_pc hj
        have hft := ex_ft_pc hft
        split at h
        · next y x st1 =>
          have gj : ex_run ro mt n d M.2.2.2.2.2.1 (M.2.2.2.2.2.1.getD (r.getD 0 0) []) lo st1 w = some E → W p l e R s m args below meth c H locs (w.1.2.1 - c0) (w.1.2.2 - s0) Q (F0 m (ex_pc (M.2.2.2.2.2.1.getD (r.getD 0 0) [])) ls (st1.map (ex_cv ad))) := fun h => goOn _ lo st1 ls h (hblk _) hL hn (ex_tl (ex_tl ho))
          have gf : ex_run ro mt n d M.2.2.2.2.2.1 L lo st1 w = some E → W p l e R s m args below meth c H locs (w.1.2.1 - c0) (w.1.2.2 - s0) Q (F0 m (pc + 3) ls (st1.map (ex_cv ad))) := fun h => by rw [← hft]; exact goOn L lo st1 ls h hlL hL hn (ex_tl (ex_tl ho))
          cases cnd with
          | eq => exact lv_icmp_eq hC.1 hC.2.1 hdec ht (fun q => gj (by rw [ex_if, if_pos q] at h; exact h)) (fun q => gf (by rw [ex_if, if_neg q] at h; exact h))
          | ne => exact lv_icmp_ne hC.1 hC.2.1 hdec ht (fun q => gj (by rw [ex_if, if_neg q] at h; exact h)) (fun q => gf (by rw [ex_if, if_pos q] at h; exact h))
          | lt => exact lv_icmp_lt hC.1 hC.2.1 hdec ht (fun q => gj (by rw [ex_if, if_pos q] at h; exact h)) (fun q => gf (by rw [ex_if, if_neg q] at h; exact h))
          | ge => exact lv_icmp_ge hC.1 hC.2.1 hdec ht (fun q => gj (by rw [ex_if, if_neg (Int32.not_lt.mpr q)] at h; exact h)) (fun q => gf (by rw [ex_if, if_pos (Int32.not_le.mp q)] at h; exact h))
          | gt => exact lv_icmp_gt hC.1 hC.2.1 hdec ht (fun q => gj (by rw [ex_if, if_pos q] at h; exact h)) (fun q => gf (by rw [ex_if, if_neg q] at h; exact h))
          | le => exact lv_icmp_le hC.1 hC.2.1 hdec ht (fun q => gj (by rw [ex_if, if_neg (Int32.not_lt.mpr q)] at h; exact h)) (fun q => gf (by rw [ex_if, if_pos (Int32.not_le.mp q)] at h; exact h))
        · cases h
      | if_acmp cnd off =>
        dsimp only at h hrow
        simp only [Bool.and_eq_true, decide_eq_true_eq] at hrow
        obtain ⟨⟨rfl, hj⟩, hft⟩ := hrow
        have ht := ex_jmp_pc hj
        have hft := ex_ft_pc hft
        split at h
        · next y x st1 =>
          have gj : ex_run ro mt n d M.2.2.2.2.2.1 (M.2.2.2.2.2.1.getD (r.getD 0 0) []) lo st1 w = some E → W p l e R s m args below meth c H locs (w.1.2.1 - c0) (w.1.2.2 - s0) Q (F0 m (ex_pc (M.2.2.2.2.2.1.getD (r.getD 0 0) [])) ls (st1.map (ex_cv ad))) := fun h => goOn _ lo st1 ls h (hblk _) hL hn (ex_tl (ex_tl ho))
          have gf : ex_run ro mt n d M.2.2.2.2.2.1 L lo st1 w = some E → W p l e R s m args below meth c H locs (w.1.2.1 - c0) (w.1.2.2 - s0) Q (F0 m (pc + 3) ls (st1.map (ex_cv ad))) := fun h => by rw [← hft]; exact goOn L lo st1 ls h hlL hL hn (ex_tl (ex_tl ho))
          split at h
          case isFalse => cases h
          next hw =>
          have hinj : ∀ q : some (ad x) = some (ad y), x = y := fun q => by
            obtain ⟨a1, a2⟩ := ex_isw_of hw.1
            obtain ⟨b1, b2⟩ := ex_isw_of hw.2
            exact hF.2.2.2.2.2.2.2.2 x y a1 b1 a2 b2 (Option.some.inj q)
          cases cnd with
          | eq => exact lv_acmp_eq (rx := some (ad x)) (ry := some (ad y)) hC.1 hC.2.1 hdec ht (fun q => gj (by dsimp only at h; rw [if_pos (hinj q)] at h; exact h)) (fun q => gf (by dsimp only at h; rw [if_neg (fun z => q (by rw [z]))] at h; exact h))
          | ne => exact lv_acmp_ne (rx := some (ad x)) (ry := some (ad y)) hC.1 hC.2.1 hdec ht (fun q => gj (by dsimp only at h; rw [if_neg (fun z => q (by rw [z]))] at h; exact h)) (fun q => gf (by dsimp only at h; rw [if_pos (hinj q)] at h; exact h))
        · cases h
      | tableswitch df lw hg offs =>
        dsimp only at h hrow
        simp only [Bool.and_eq_true] at hrow
        obtain ⟨hj, hjs⟩ := hrow
        split at h
        · next x st1 =>
          split at h
          · next hx => exact lv_tableOut hC.1 hC.2.1 hdec hx (ex_jmp_pc hj) (goOn _ lo st1 ls h (hblk _) hL hn (ex_tl ho))
          · next hx =>
            have h1 : ¬ x.toInt < lw := fun q => hx (Or.inl q)
            have h2 : ¬ hg < x.toInt := fun q => hx (Or.inr q)
            have hi : (x.toInt - lw).toNat < (hg - lw + 1).toNat := by omega
            have hj2 := List.all_eq_true.mp hjs _ (List.mem_range.mpr hi)
            split at hj2
            · next off hoff => exact lv_tableIn hC.1 hC.2.1 hdec h1 h2 hoff (ex_jmp_pc hj2) (goOn _ lo st1 ls h (hblk _) hL hn (ex_tl ho))
            · cases hj2
        · cases h
      | ireturn => cases h; exact kk ad H locs ls hR ex_agr.rf hL ho hlok0
      | lreturn => cases h; exact kk ad H locs ls hR ex_agr.rf hL ho hlok0
      | return_ => cases h; exact kk ad H locs ls hR ex_agr.rf hL ho hlok0
      | new i =>
        dsimp only at h hrow
        by_cases hr : r.getD 0 0 = 1
        · split at h
          · cases h; exact kk ad H locs ls hR ex_agr.rf hL ho hlok0
          · next hne => exact absurd hr hne
        · rw [if_neg hr, Bool.and_eq_true] at hrow
          split at h
          · next hr1 => exact absurd hr1 hr
          · exact heapC _ hrow.1 hrow.2 hdec h
      | invokevirtual i =>
        dsimp only at h hrow
        simp only [Bool.and_eq_true, decide_eq_true_eq] at hrow
        obtain ⟨⟨rfl, hft⟩, hck⟩ := hrow
        exact ex_inv_ok hH ih hM h hlL (Or.inl rfl) hdec (ex_ft_pc hft) hck hC hF hR hL hn ho hc0 hs0 hRc hRs kk
      | invokestatic i =>
        dsimp only at h hrow
        simp only [Bool.and_eq_true, decide_eq_true_eq] at hrow
        obtain ⟨⟨rfl, hft⟩, hck⟩ := hrow
        exact ex_inv_ok hH ih hM h hlL (Or.inr (Or.inl rfl)) hdec (ex_ft_pc hft) hck hC hF hR hL hn ho hc0 hs0 hRc hRs kk
      | invokespecial i =>
        dsimp only at h hrow
        simp only [Bool.and_eq_true, decide_eq_true_eq] at hrow
        obtain ⟨⟨rfl, hft⟩, hck⟩ := hrow
        exact ex_inv_ok hH ih hM h hlL (Or.inr (Or.inr rfl)) hdec (ex_ft_pc hft) hck hC hF hR hL hn ho hc0 hs0 hRc hRs kk
      | _ => exact dflt _ hrow hdec h
end EXI
end
section
/-! The words that the program uses, as the tables have them (written by wip/whole/gen.py) -/
/-- the one list's words, in their order, among the other's -/
def ex_subl : List Cond → List Cond → Bool
  | [], _ => true
  | _ :: _, [] => false
  | a :: as, b :: bs => if a = b then ex_subl as bs else ex_subl (a :: as) bs
theorem ex_subl_in : ∀ (bs as : List Cond), ex_subl as bs = true → ∀ w ∈ as, w ∈ bs
  | _, [], _, w, hw => by cases hw
  | [], _ :: _, h, _, _ => by simp [ex_subl] at h
  | b :: bs, a :: as, h, w, hw => by
    rw [ex_subl] at h
    split at h
    · next e =>
      rcases List.mem_cons.mp hw with rfl | hw
      · rw [e]; exact List.mem_cons_self
      · exact List.mem_cons_of_mem _ (ex_subl_in bs as h w hw)
    · exact List.mem_cons_of_mem _ (ex_subl_in bs (a :: as) h w hw)
def pg_W0 : List Cond := [.initialized "PileTricksLaw",
  .initialized "PileTricks",
  .initialized "PileTricks$Tape",
  .initialized "java/lang/Enum",
  .initialized "PileTricks$Word",
  .initialized "PileTricks$Reader",
  .initialized "PileTricks$Rules",
  .initialized "java/lang/Math",
  .initialized "java/lang/System",
  .initialized "PileTricks$Dealer",
  .initialized "PileTricks$Setting",
  .initialized "PileTricks$Wishes",
  .initialized "PileTricks$Guesses",
  .initialized "PileTricks$Table",
  .initialized "java/util/Arrays",
  .initialized "PileTricksModel",
  .initialized "java/lang/Throwable",
  .initialized "java/lang/Exception",
  .initialized "java/lang/RuntimeException",
  .initialized "java/lang/IllegalArgumentException",
  .initialized "java/lang/String",
  .initialized "java/lang/StringLatin1",
  .initialized "jdk/internal/util/Preconditions",
  .initialized "java/lang/StringUTF16",
  .initialized "java/lang/Long",
  .initialized "java/util/NoSuchElementException",
  .classLink "PileTricksLaw" 8 "PileTricks",
  .instantiable "PileTricks" 13,
  .methodLink "PileTricksLaw" 69 ⟨"PileTricks", "<init>", "()V"⟩,
  .instanceMethod ⟨"PileTricks", "<init>", "()V"⟩,
  .methodLink "PileTricks" 3 ⟨"java/lang/Object", "<init>", "()V"⟩,
  .instanceMethod ⟨"java/lang/Object", "<init>", "()V"⟩,
  .classLink "PileTricks" 27 "PileTricks$Tape",
  .instantiable "PileTricks$Tape" 9,
  .instanceMethod ⟨"PileTricks$Tape", "<init>", "()V"⟩,
  .methodLink "PileTricks$Tape" 3 ⟨"java/lang/Object", "<init>", "()V"⟩,
  .fieldLink "PileTricks$Tape" 31 "PileTricks$Word" "OTHER" "LPileTricks$Word;",
  .fieldLink "PileTricks$Tape" 9 "PileTricks$Tape" "bytes" "[B",
  .fieldLink "PileTricks$Tape" 15 "PileTricks$Tape" "length" "I",
  .fieldLink "PileTricks$Tape" 19 "PileTricks$Tape" "textEnd" "I",
  .fieldLink "PileTricks$Tape" 22 "PileTricks$Tape" "next" "I",
  .fieldLink "PileTricks$Tape" 25 "PileTricks$Tape" "start" "I",
  .fieldLink "PileTricks$Tape" 28 "PileTricks$Tape" "type" "I",
  .fieldLink "PileTricks$Tape" 37 "PileTricks$Tape" "word" "LPileTricks$Word;",
  .fieldLink "PileTricks$Tape" 40 "PileTricks$Tape" "number" "I",
  .fieldLink "PileTricks$Tape" 43 "PileTricks$Tape" "sign" "I",
  .arrayClass Jvm.ClassFile.FieldType.int,
  .arrayClass Jvm.ClassFile.FieldType.byte,
  .classLink "PileTricks" 34 "PileTricks$Reader",
  .instantiable "PileTricks$Reader" 8,
  .instanceMethod ⟨"PileTricks$Reader", "<init>", "(LPileTricks$Tape;)V"⟩,
  .methodLink "PileTricks$Reader" 3 ⟨"java/lang/Object", "<init>", "()V"⟩,
  .classLink "PileTricks$Reader" 36 "PileTricks$Rules",
  .instantiable "PileTricks$Rules" 14,
  .instanceMethod ⟨"PileTricks$Rules", "<init>", "(LPileTricks$Tape;)V"⟩,
  .methodLink "PileTricks$Rules" 3 ⟨"java/lang/Object", "<init>", "()V"⟩,
  .fieldLink "PileTricks$Rules" 54 "PileTricks$Rules" "tape" "LPileTricks$Tape;",
  .fieldLink "PileTricks$Rules" 9 "PileTricks$Rules" "code" "[I",
  .fieldLink "PileTricks$Rules" 15 "PileTricks$Rules" "codeEnds" "[I",
  .fieldLink "PileTricks$Rules" 18 "PileTricks$Rules" "waiting" "[I",
  .fieldLink "PileTricks$Rules" 21 "PileTricks$Rules" "compared" "[Z",
  .fieldLink "PileTricks$Rules" 25 "PileTricks$Rules" "values" "[I",
  .fieldLink "PileTricks$Rules" 28 "PileTricks$Rules" "pending" "[I",
  .fieldLink "PileTricks$Rules" 31 "PileTricks$Rules" "length" "I",
  .fieldLink "PileTricks$Rules" 35 "PileTricks$Rules" "waits" "I",
  .fieldLink "PileTricks$Rules" 38 "PileTricks$Rules" "depth" "I",
  .fieldLink "PileTricks$Rules" 41 "PileTricks$Rules" "nots" "I",
  .fieldLink "PileTricks$Rules" 44 "PileTricks$Rules" "notMayStand" "Z",
  .fieldLink "PileTricks$Rules" 48 "PileTricks$Rules" "partIsDue" "Z",
  .fieldLink "PileTricks$Rules" 51 "PileTricks$Rules" "closed" "Z",
  .arrayClass Jvm.ClassFile.FieldType.boolean,
  .methodLink "PileTricks$Reader" 45 ⟨"PileTricks$Reader", "forget", "()V"⟩,
  .instanceMethod ⟨"PileTricks$Reader", "forget", "()V"⟩,
  .static ⟨"PileTricks", "copy", "([I[I)V"⟩,
  .methodLink "PileTricks" 278 ⟨"java/lang/Math", "min", "(II)I"⟩,
  .static ⟨"java/lang/Math", "min", "(II)I"⟩,
  .methodLink "PileTricks" 281 ⟨"java/lang/System", "arraycopy", "(Ljava/lang/Object;ILjava/lang/Object;II)V"⟩,
  .static ⟨"java/lang/System", "arraycopy", "(Ljava/lang/Object;ILjava/lang/Object;II)V"⟩,
  .native ⟨"java/lang/System", "arraycopy", "(Ljava/lang/Object;ILjava/lang/Object;II)V"⟩,
  .fieldLink "PileTricks$Reader" 32 "PileTricks$Reader" "tape" "LPileTricks$Tape;",
  .fieldLink "PileTricks$Reader" 41 "PileTricks$Reader" "rules" "LPileTricks$Rules;",
  .fieldLink "PileTricks$Reader" 9 "PileTricks$Reader" "numbers" "[I",
  .fieldLink "PileTricks$Reader" 15 "PileTricks$Reader" "given" "[Z",
  .fieldLink "PileTricks$Reader" 19 "PileTricks$Reader" "kinds" "[I",
  .fieldLink "PileTricks$Reader" 22 "PileTricks$Reader" "sides" "[I",
  .fieldLink "PileTricks$Reader" 25 "PileTricks$Reader" "deals" "I",
  .fieldLink "PileTricks$Reader" 29 "PileTricks$Reader" "faultAt" "I",
  .classLink "PileTricks" 43 "PileTricks$Dealer",
  .instantiable "PileTricks$Dealer" 8,
  .instanceMethod ⟨"PileTricks$Dealer", "<init>", "()V"⟩,
  .methodLink "PileTricks$Dealer" 3 ⟨"java/lang/Object", "<init>", "()V"⟩,
  .fieldLink "PileTricks$Dealer" 9 "PileTricks$Dealer" "heapOf" "[I",
  .fieldLink "PileTricks$Dealer" 15 "PileTricks$Dealer" "cameAs" "[I",
  .fieldLink "PileTricks$Dealer" 18 "PileTricks$Dealer" "sizes" "[I",
  .fieldLink "PileTricks$Dealer" 21 "PileTricks$Dealer" "starts" "[I",
  .fieldLink "PileTricks$Dealer" 24 "PileTricks$Dealer" "cards" "I",
  .fieldLink "PileTricks$Dealer" 28 "PileTricks$Dealer" "heaps" "I",
  .fieldLink "PileTricks$Dealer" 31 "PileTricks$Dealer" "kind" "I",
  .fieldLink "PileTricks$Dealer" 34 "PileTricks$Dealer" "side" "I",
  .classLink "PileTricks" 50 "PileTricks$Setting",
  .instantiable "PileTricks$Setting" 10,
  .instanceMethod ⟨"PileTricks$Setting", "<init>", "()V"⟩,
  .methodLink "PileTricks$Setting" 3 ⟨"java/lang/Object", "<init>", "()V"⟩,
  .fieldLink "PileTricks$Setting" 9 "PileTricks$Setting" "kinds" "[I",
  .fieldLink "PileTricks$Setting" 15 "PileTricks$Setting" "sides" "[I",
  .fieldLink "PileTricks$Setting" 18 "PileTricks$Setting" "layings" "[I",
  .fieldLink "PileTricks$Setting" 21 "PileTricks$Setting" "followed" "[I",
  .fieldLink "PileTricks$Setting" 24 "PileTricks$Setting" "cards" "I",
  .fieldLink "PileTricks$Setting" 28 "PileTricks$Setting" "heaps" "I",
  .fieldLink "PileTricks$Setting" 31 "PileTricks$Setting" "lies" "I",
  .fieldLink "PileTricks$Setting" 34 "PileTricks$Setting" "wish" "I",
  .fieldLink "PileTricks$Setting" 37 "PileTricks$Setting" "deals" "I",
  .fieldLink "PileTricks$Setting" 40 "PileTricks$Setting" "rounds" "I",
  .classLink "PileTricks" 57 "PileTricks$Wishes",
  .instantiable "PileTricks$Wishes" 7,
  .instanceMethod ⟨"PileTricks$Wishes", "<init>", "(LPileTricks$Setting;LPileTricks$Dealer;)V"⟩,
  .methodLink "PileTricks$Wishes" 3 ⟨"java/lang/Object", "<init>", "()V"⟩,
  .fieldLink "PileTricks$Wishes" 27 "PileTricks$Wishes" "setting" "LPileTricks$Setting;",
  .fieldLink "PileTricks$Wishes" 31 "PileTricks$Wishes" "dealer" "LPileTricks$Dealer;",
  .fieldLink "PileTricks$Wishes" 9 "PileTricks$Wishes" "deals" "I"]
def pg_W1 : List Cond := [.fieldLink "PileTricks$Wishes" 15 "PileTricks$Wishes" "rows" "I",
  .fieldLink "PileTricks$Wishes" 18 "PileTricks$Wishes" "firstRow" "I",
  .fieldLink "PileTricks$Wishes" 21 "PileTricks$Wishes" "keptRow" "I",
  .fieldLink "PileTricks$Wishes" 24 "PileTricks$Wishes" "keptLength" "I",
  .classLink "PileTricks" 66 "PileTricks$Guesses",
  .instantiable "PileTricks$Guesses" 5,
  .instanceMethod ⟨"PileTricks$Guesses", "<init>", "(LPileTricks$Setting;LPileTricks$Dealer;)V"⟩,
  .methodLink "PileTricks$Guesses" 3 ⟨"java/lang/Object", "<init>", "()V"⟩,
  .fieldLink "PileTricks$Guesses" 22 "PileTricks$Guesses" "setting" "LPileTricks$Setting;",
  .fieldLink "PileTricks$Guesses" 26 "PileTricks$Guesses" "dealer" "LPileTricks$Dealer;",
  .fieldLink "PileTricks$Guesses" 9 "PileTricks$Guesses" "left" "[I",
  .fieldLink "PileTricks$Guesses" 15 "PileTricks$Guesses" "deals" "I",
  .fieldLink "PileTricks$Guesses" 19 "PileTricks$Guesses" "most" "I",
  .classLink "PileTricks" 73 "PileTricks$Table",
  .instantiable "PileTricks$Table" 5,
  .instanceMethod ⟨"PileTricks$Table", "<init>", "()V"⟩,
  .methodLink "PileTricks$Table" 3 ⟨"java/lang/Object", "<init>", "()V"⟩,
  .fieldLink "PileTricks$Table" 9 "PileTricks$Table" "pack" "[I",
  .fieldLink "PileTricks$Table" 15 "PileTricks$Table" "seen" "[I",
  .fieldLink "PileTricks$Table" 18 "PileTricks$Table" "falses" "[I",
  .fieldLink "PileTricks$Table" 21 "PileTricks$Table" "codes" "[I",
  .fieldLink "PileTricks$Table" 24 "PileTricks$Table" "answers" "I",
  .methodLink "PileTricks" 83 ⟨"PileTricks", "startAnew", "()V"⟩,
  .instanceMethod ⟨"PileTricks", "startAnew", "()V"⟩,
  .instanceMethod ⟨"PileTricks$Setting", "takeOver", "(LPileTricks$Reader;LPileTricks$Dealer;)V"⟩,
  .static ⟨"PileTricks", "at", "([II)I"⟩,
  .instanceMethod ⟨"PileTricks$Dealer", "fit", "(II)V"⟩,
  .methodLink "PileTricks$Dealer" 37 ⟨"java/util/Arrays", "fill", "([II)V"⟩,
  .static ⟨"java/util/Arrays", "fill", "([II)V"⟩,
  .methodLink "PileTricks$Dealer" 43 ⟨"PileTricks$Dealer", "heapBy", "(II)I"⟩,
  .instanceMethod ⟨"PileTricks$Dealer", "heapBy", "(II)I"⟩,
  .static ⟨"PileTricks", "rest", "(II)I"⟩,
  .methodLink "PileTricks" 273 ⟨"java/lang/Math", "floorMod", "(II)I"⟩,
  .static ⟨"java/lang/Math", "floorMod", "(II)I"⟩,
  .static ⟨"PileTricks", "share", "(II)I"⟩,
  .methodLink "PileTricks$Dealer" 47 ⟨"PileTricks$Dealer", "sizeOf", "(II)I"⟩,
  .instanceMethod ⟨"PileTricks$Dealer", "sizeOf", "(II)I"⟩,
  .static ⟨"PileTricks", "put", "([III)V"⟩,
  .methodLink "PileTricks$Setting" 59 ⟨"PileTricks$Setting", "takeDeals", "(LPileTricks$Reader;LPileTricks$Dealer;)V"⟩,
  .instanceMethod ⟨"PileTricks$Setting", "takeDeals", "(LPileTricks$Reader;LPileTricks$Dealer;)V"⟩,
  .instanceMethod ⟨"PileTricks$Rules", "setValue", "(II)V"⟩,
  .instanceMethod ⟨"PileTricks$Rules", "workOut", "(I)I"⟩,
  .methodLink "PileTricks$Rules" 160 ⟨"PileTricks$Rules", "truth", "(Z)I"⟩,
  .static ⟨"PileTricks$Rules", "truth", "(Z)I"⟩,
  .methodLink "PileTricks$Rules" 164 ⟨"PileTricks$Rules", "joined", "(III)I"⟩,
  .static ⟨"PileTricks$Rules", "joined", "(III)I"⟩,
  .methodLink "PileTricks$Setting" 63 ⟨"PileTricks$Setting", "takeDealOfNone", "()V"⟩,
  .instanceMethod ⟨"PileTricks$Setting", "takeDealOfNone", "()V"⟩,
  .methodLink "PileTricks$Setting" 66 ⟨"PileTricks$Setting", "follow", "(ILPileTricks$Dealer;)V"⟩,
  .instanceMethod ⟨"PileTricks$Setting", "follow", "(ILPileTricks$Dealer;)V"⟩,
  .methodLink "PileTricks$Setting" 100 ⟨"PileTricks$Setting", "kindOf", "(I)I"⟩,
  .instanceMethod ⟨"PileTricks$Setting", "kindOf", "(I)I"⟩,
  .methodLink "PileTricks$Setting" 103 ⟨"PileTricks$Setting", "sideOf", "(I)I"⟩,
  .instanceMethod ⟨"PileTricks$Setting", "sideOf", "(I)I"⟩,
  .instanceMethod ⟨"PileTricks$Dealer", "hold", "(II)V"⟩,
  .methodLink "PileTricks$Setting" 109 ⟨"PileTricks$Setting", "layingOf", "(II)I"⟩,
  .instanceMethod ⟨"PileTricks$Setting", "layingOf", "(II)I"⟩,
  .instanceMethod ⟨"PileTricks$Dealer", "layOwn", "(II)V"⟩,
  .instanceMethod ⟨"PileTricks$Dealer", "newPlace", "(I)I"⟩,
  .methodLink "PileTricks$Dealer" 71 ⟨"PileTricks$Dealer", "heapAt", "(I)I"⟩,
  .instanceMethod ⟨"PileTricks$Dealer", "heapAt", "(I)I"⟩,
  .instanceMethod ⟨"PileTricks$Table", "layOut", "()V"⟩,
  .methodLink "PileTricks$Table" 32 ⟨"java/util/Arrays", "fill", "([II)V"⟩,
  .fieldLink "PileTricks" 30 "PileTricks" "tape" "LPileTricks$Tape;",
  .fieldLink "PileTricks" 39 "PileTricks" "reader" "LPileTricks$Reader;",
  .fieldLink "PileTricks" 46 "PileTricks" "dealer" "LPileTricks$Dealer;",
  .fieldLink "PileTricks" 53 "PileTricks" "setting" "LPileTricks$Setting;",
  .fieldLink "PileTricks" 62 "PileTricks" "wishes" "LPileTricks$Wishes;",
  .fieldLink "PileTricks" 69 "PileTricks" "guesses" "LPileTricks$Guesses;",
  .fieldLink "PileTricks" 76 "PileTricks" "table" "LPileTricks$Table;",
  .fieldLink "PileTricks" 80 "PileTricks" "kept" "LPileTricks$Table;",
  .fieldLink "PileTricks" 9 "PileTricks" "ends" "[I",
  .fieldLink "PileTricks" 13 "PileTricks" "imageKept" "Z",
  .fieldLink "PileTricks" 17 "PileTricks" "faultAt" "I",
  .fieldLink "PileTricks" 21 "PileTricks" "faultyTexts" "I",
  .fieldLink "PileTricks" 24 "PileTricks" "refusedAnswers" "I",
  .methodLink "PileTricksLaw" 73 ⟨"PileTricks", "feed", "(IIIII)I"⟩,
  .instanceMethod ⟨"PileTricks", "feed", "(IIIII)I"⟩,
  .selects "PileTricks" ⟨"PileTricks", "feed", "(IIIII)I"⟩ ⟨"PileTricks", "feed", "(IIIII)I"⟩,
  .instanceMethod ⟨"PileTricks$Tape", "append", "(I)V"⟩,
  .methodLink "PileTricksLaw" 88 ⟨"PileTricks", "fault", "()I"⟩,
  .instanceMethod ⟨"PileTricks", "fault", "()I"⟩,
  .selects "PileTricks" ⟨"PileTricks", "fault", "()I"⟩ ⟨"PileTricks", "fault", "()I"⟩,
  .methodLink "PileTricksLaw" 109 ⟨"PileTricks", "soonest", "()I"⟩,
  .instanceMethod ⟨"PileTricks", "soonest", "()I"⟩,
  .selects "PileTricks" ⟨"PileTricks", "soonest", "()I"⟩ ⟨"PileTricks", "soonest", "()I"⟩,
  .methodLink "PileTricks" 167 ⟨"PileTricks", "startEnds", "()V"⟩,
  .instanceMethod ⟨"PileTricks", "startEnds", "()V"⟩,
  .methodLink "PileTricks" 173 ⟨"PileTricks", "commonEnd", "()I"⟩,
  .instanceMethod ⟨"PileTricks", "commonEnd", "()I"⟩,
  .methodLink "PileTricks" 213 ⟨"PileTricks", "at", "([II)I"⟩,
  .methodLink "PileTricks" 170 ⟨"PileTricks", "moveEnds", "(I)V"⟩,
  .instanceMethod ⟨"PileTricks", "moveEnds", "(I)V"⟩,
  .instanceMethod ⟨"PileTricks$Setting", "followedTo", "(II)I"⟩,
  .methodLink "PileTricks" 266 ⟨"PileTricks", "put", "([III)V"⟩,
  .methodLink "PileTricksLaw" 135 ⟨"PileTricks", "answer", "(IIII)I"⟩,
  .instanceMethod ⟨"PileTricks", "answer", "(IIII)I"⟩,
  .selects "PileTricks" ⟨"PileTricks", "answer", "(IIII)I"⟩ ⟨"PileTricks", "answer", "(IIII)I"⟩,
  .instanceMethod ⟨"PileTricks$Setting", "allows", "(IIII)Z"⟩,
  .static ⟨"PileTricks", "isWithin", "(III)Z"⟩,
  .methodLink "PileTricks$Setting" 125 ⟨"PileTricks$Setting", "hasHeap", "(I)Z"⟩,
  .instanceMethod ⟨"PileTricks$Setting", "hasHeap", "(I)Z"⟩,
  .methodLink "PileTricks" 217 ⟨"PileTricks", "dealCode", "(IIII)I"⟩,
  .static ⟨"PileTricks", "dealCode", "(IIII)I"⟩,
  .instanceMethod ⟨"PileTricks$Table", "take", "(I)V"⟩,
  .instanceMethod ⟨"PileTricks$Table", "dealLast", "(LPileTricks$Dealer;[I)V"⟩,
  .methodLink "PileTricks$Table" 46 ⟨"PileTricks$Table", "layBy", "(ILPileTricks$Dealer;)V"⟩,
  .static ⟨"PileTricks$Table", "layBy", "(ILPileTricks$Dealer;)V"⟩,
  .static ⟨"PileTricks", "figure", "(II)I"⟩,
  .instanceMethod ⟨"PileTricks$Dealer", "lay", "(III)V"⟩,
  .methodLink "PileTricks$Dealer" 60 ⟨"PileTricks$Dealer", "layNamed", "(III)I"⟩,
  .instanceMethod ⟨"PileTricks$Dealer", "layNamed", "(III)I"⟩,
  .methodLink "PileTricks$Dealer" 64 ⟨"PileTricks$Dealer", "layHeap", "(II)I"⟩,
  .instanceMethod ⟨"PileTricks$Dealer", "layHeap", "(II)I"⟩,
  .methodLink "PileTricks$Table" 59 ⟨"PileTricks$Table", "falseAt", "(IILPileTricks$Dealer;)I"⟩,
  .static ⟨"PileTricks$Table", "falseAt", "(IILPileTricks$Dealer;)I"⟩,
  .instanceMethod ⟨"PileTricks$Table", "fitting", "(LPileTricks$Setting;)J"⟩,
  .methodLink "PileTricks" 123 ⟨"java/lang/Long", "bitCount", "(J)I"⟩,
  .static ⟨"java/lang/Long", "bitCount", "(J)I"⟩,
  .constantLong "java/lang/Long" 314 (6148914691236517205 : Int64)]
def pg_W2 : List Cond := [.constantLong "java/lang/Long" 316 (3689348814741910323 : Int64),
  .constantLong "java/lang/Long" 318 (1085102592571150095 : Int64),
  .methodLink "PileTricksLaw" 140 ⟨"PileTricks", "undo", "()I"⟩,
  .instanceMethod ⟨"PileTricks", "undo", "()I"⟩,
  .selects "PileTricks" ⟨"PileTricks", "undo", "()I"⟩ ⟨"PileTricks", "undo", "()I"⟩,
  .instanceMethod ⟨"PileTricks$Table", "gatherLast", "(LPileTricks$Dealer;[I)V"⟩,
  .methodLink "PileTricksLaw" 147 ⟨"PileTricks", "fits", "()J"⟩,
  .instanceMethod ⟨"PileTricks", "fits", "()J"⟩,
  .selects "PileTricks" ⟨"PileTricks", "fits", "()J"⟩ ⟨"PileTricks", "fits", "()J"⟩,
  .methodLink "PileTricksLaw" 152 ⟨"PileTricks", "see", "()V"⟩,
  .instanceMethod ⟨"PileTricks", "see", "()V"⟩,
  .selects "PileTricks" ⟨"PileTricks", "see", "()V"⟩ ⟨"PileTricks", "see", "()V"⟩,
  .methodLink "PileTricks" 237 ⟨"PileTricks", "copy", "([I[I)V"⟩,
  .methodLink "PileTricksLaw" 166 ⟨"PileTricks", "image", "()V"⟩,
  .instanceMethod ⟨"PileTricks", "image", "()V"⟩,
  .selects "PileTricks" ⟨"PileTricks", "image", "()V"⟩ ⟨"PileTricks", "image", "()V"⟩,
  .instanceMethod ⟨"PileTricks$Table", "copyFrom", "(LPileTricks$Table;)V"⟩,
  .methodLink "PileTricksLaw" 170 ⟨"PileTricks", "restore", "()Z"⟩,
  .instanceMethod ⟨"PileTricks", "restore", "()Z"⟩,
  .selects "PileTricks" ⟨"PileTricks", "restore", "()Z"⟩ ⟨"PileTricks", "restore", "()Z"⟩,
  .methodLink "PileTricksLaw" 78 ⟨"PileTricksLaw", "trick", "(LPileTricks;I[J)I"⟩,
  .static ⟨"PileTricksLaw", "trick", "(LPileTricks;I[J)I"⟩,
  .classLink "PileTricksLaw" 13 "java/lang/IllegalArgumentException",
  .methodLink "PileTricksLaw" 7 ⟨"PileTricks", "trick", "(I)I"⟩,
  .instanceMethod ⟨"PileTricks", "trick", "(I)I"⟩,
  .selects "PileTricks" ⟨"PileTricks", "trick", "(I)I"⟩ ⟨"PileTricks", "trick", "(I)I"⟩,
  .classLink "PileTricks" 93 "java/lang/IllegalArgumentException",
  .instantiable "java/lang/IllegalArgumentException" 6,
  .selects "java/lang/IllegalArgumentException" ⟨"java/lang/Throwable", "fillInStackTrace", "(I)Ljava/lang/Throwable;"⟩ ⟨"java/lang/Throwable", "fillInStackTrace", "(I)Ljava/lang/Throwable;"⟩,
  .selects "java/lang/IllegalArgumentException" ⟨"java/lang/Throwable", "fillInStackTrace", "()Ljava/lang/Throwable;"⟩ ⟨"java/lang/Throwable", "fillInStackTrace", "()Ljava/lang/Throwable;"⟩,
  .fieldLink "java/lang/Throwable" 198 "java/lang/Throwable" "backtrace" "Ljava/lang/Object;",
  .instanceMethod ⟨"java/lang/Throwable", "<init>", "()V"⟩,
  .methodLink "java/lang/Throwable" 1 ⟨"java/lang/Object", "<init>", "()V"⟩,
  .fieldLink "java/lang/Throwable" 13 "java/lang/Throwable" "UNASSIGNED_STACK" "[Ljava/lang/StackTraceElement;",
  .fieldLink "java/lang/Throwable" 20 "java/lang/Throwable" "SUPPRESSED_SENTINEL" "Ljava/util/List;",
  .methodLink "java/lang/Throwable" 27 ⟨"java/lang/Throwable", "fillInStackTrace", "()Ljava/lang/Throwable;"⟩,
  .instanceMethod ⟨"java/lang/Throwable", "fillInStackTrace", "()Ljava/lang/Throwable;"⟩,
  .selects "java/util/NoSuchElementException" ⟨"java/lang/Throwable", "fillInStackTrace", "()Ljava/lang/Throwable;"⟩ ⟨"java/lang/Throwable", "fillInStackTrace", "()Ljava/lang/Throwable;"⟩,
  .methodLink "java/lang/Throwable" 202 ⟨"java/lang/Throwable", "fillInStackTrace", "(I)Ljava/lang/Throwable;"⟩,
  .instanceMethod ⟨"java/lang/Throwable", "fillInStackTrace", "(I)Ljava/lang/Throwable;"⟩,
  .instantiable "java/lang/Throwable" 6,
  .native ⟨"java/lang/Throwable", "fillInStackTrace", "(I)Ljava/lang/Throwable;"⟩,
  .methodLink "PileTricks" 95 ⟨"java/lang/IllegalArgumentException", "<init>", "()V"⟩,
  .instanceMethod ⟨"java/lang/IllegalArgumentException", "<init>", "()V"⟩,
  .methodLink "java/lang/IllegalArgumentException" 1 ⟨"java/lang/RuntimeException", "<init>", "()V"⟩,
  .instanceMethod ⟨"java/lang/RuntimeException", "<init>", "()V"⟩,
  .methodLink "java/lang/RuntimeException" 1 ⟨"java/lang/Exception", "<init>", "()V"⟩,
  .instanceMethod ⟨"java/lang/Exception", "<init>", "()V"⟩,
  .methodLink "java/lang/Exception" 1 ⟨"java/lang/Throwable", "<init>", "()V"⟩,
  .fieldLink "java/lang/Throwable" 7 "java/lang/Throwable" "cause" "Ljava/lang/Throwable;",
  .fieldLink "java/lang/Throwable" 17 "java/lang/Throwable" "stackTrace" "[Ljava/lang/StackTraceElement;",
  .fieldLink "java/lang/Throwable" 24 "java/lang/Throwable" "suppressedExceptions" "Ljava/util/List;",
  .instanceMethod ⟨"PileTricks$Reader", "read", "(I)I"⟩,
  .instanceMethod ⟨"PileTricks$Tape", "openText", "(I)V"⟩,
  .methodLink "PileTricks$Tape" 46 ⟨"java/lang/Math", "min", "(II)I"⟩,
  .methodLink "PileTricks$Tape" 52 ⟨"PileTricks$Tape", "advance", "()V"⟩,
  .instanceMethod ⟨"PileTricks$Tape", "advance", "()V"⟩,
  .methodLink "PileTricks$Tape" 55 ⟨"PileTricks$Tape", "byteAt", "(I)I"⟩,
  .instanceMethod ⟨"PileTricks$Tape", "byteAt", "(I)I"⟩,
  .methodLink "PileTricks$Tape" 59 ⟨"PileTricks$Tape", "isBlank", "(I)Z"⟩,
  .static ⟨"PileTricks$Tape", "isBlank", "(I)Z"⟩,
  .methodLink "PileTricks$Tape" 63 ⟨"PileTricks$Tape", "isLetter", "(I)Z"⟩,
  .static ⟨"PileTricks$Tape", "isLetter", "(I)Z"⟩,
  .methodLink "PileTricks$Tape" 66 ⟨"PileTricks$Tape", "takeWord", "()V"⟩,
  .instanceMethod ⟨"PileTricks$Tape", "takeWord", "()V"⟩,
  .methodLink "PileTricks$Tape" 83 ⟨"PileTricks$Tape", "isSpelled", "(Ljava/lang/String;)Z"⟩,
  .instanceMethod ⟨"PileTricks$Tape", "isSpelled", "(Ljava/lang/String;)Z"⟩,
  .methodLink "PileTricks$Tape" 87 ⟨"java/lang/String", "length", "()I"⟩,
  .instanceMethod ⟨"java/lang/String", "length", "()I"⟩,
  .selects "java/lang/String" ⟨"java/lang/String", "length", "()I"⟩ ⟨"java/lang/String", "length", "()I"⟩,
  .methodLink "java/lang/String" 335 ⟨"java/lang/String", "coder", "()B"⟩,
  .instanceMethod ⟨"java/lang/String", "coder", "()B"⟩,
  .selects "java/lang/String" ⟨"java/lang/String", "coder", "()B"⟩ ⟨"java/lang/String", "coder", "()B"⟩,
  .fieldLink "java/lang/String" 38 "java/lang/String" "COMPACT_STRINGS" "Z",
  .methodLink "PileTricks$Tape" 92 ⟨"java/lang/String", "charAt", "(I)C"⟩,
  .instanceMethod ⟨"java/lang/String", "charAt", "(I)C"⟩,
  .selects "java/lang/String" ⟨"java/lang/String", "charAt", "(I)C"⟩ ⟨"java/lang/String", "charAt", "(I)C"⟩,
  .methodLink "java/lang/String" 492 ⟨"java/lang/String", "isLatin1", "()Z"⟩,
  .instanceMethod ⟨"java/lang/String", "isLatin1", "()Z"⟩,
  .selects "java/lang/String" ⟨"java/lang/String", "isLatin1", "()Z"⟩ ⟨"java/lang/String", "isLatin1", "()Z"⟩,
  .methodLink "java/lang/String" 495 ⟨"java/lang/StringLatin1", "charAt", "([BI)C"⟩,
  .static ⟨"java/lang/StringLatin1", "charAt", "([BI)C"⟩,
  .methodLink "java/lang/StringLatin1" 9 ⟨"java/lang/String", "checkIndex", "(II)V"⟩,
  .static ⟨"java/lang/String", "checkIndex", "(II)V"⟩,
  .fieldLink "java/lang/String" 1053 "jdk/internal/util/Preconditions" "SIOOBE_FORMATTER" "Ljava/util/function/BiFunction;",
  .methodLink "java/lang/String" 1059 ⟨"jdk/internal/util/Preconditions", "checkIndex", "(IILjava/util/function/BiFunction;)I"⟩,
  .static ⟨"jdk/internal/util/Preconditions", "checkIndex", "(IILjava/util/function/BiFunction;)I"⟩,
  .methodLink "java/lang/String" 498 ⟨"java/lang/StringUTF16", "charAt", "([BI)C"⟩,
  .static ⟨"java/lang/StringUTF16", "charAt", "([BI)C"⟩,
  .methodLink "java/lang/StringUTF16" 67 ⟨"java/lang/StringUTF16", "checkIndex", "(I[B)V"⟩,
  .static ⟨"java/lang/StringUTF16", "checkIndex", "(I[B)V"⟩,
  .methodLink "java/lang/StringUTF16" 48 ⟨"java/lang/StringUTF16", "length", "([B)I"⟩,
  .static ⟨"java/lang/StringUTF16", "length", "([B)I"⟩,
  .methodLink "java/lang/StringUTF16" 414 ⟨"java/lang/String", "checkIndex", "(II)V"⟩,
  .methodLink "java/lang/StringUTF16" 71 ⟨"java/lang/StringUTF16", "getChar", "([BI)C"⟩,
  .static ⟨"java/lang/StringUTF16", "getChar", "([BI)C"⟩,
  .fieldLink "java/lang/StringUTF16" 44 "java/lang/StringUTF16" "$assertionsDisabled" "Z",
  .fieldLink "java/lang/StringUTF16" 59 "java/lang/StringUTF16" "HI_BYTE_SHIFT" "I",
  .fieldLink "java/lang/StringUTF16" 63 "java/lang/StringUTF16" "LO_BYTE_SHIFT" "I",
  .methodLink "PileTricks$Tape" 69 ⟨"PileTricks$Tape", "isDigit", "(I)Z"⟩,
  .static ⟨"PileTricks$Tape", "isDigit", "(I)Z"⟩,
  .methodLink "PileTricks$Tape" 72 ⟨"PileTricks$Tape", "takeNumber", "()V"⟩,
  .instanceMethod ⟨"PileTricks$Tape", "takeNumber", "()V"⟩,
  .methodLink "PileTricks$Reader" 71 ⟨"PileTricks$Reader", "numberTold", "(LPileTricks$Word;)I"⟩,
  .static ⟨"PileTricks$Reader", "numberTold", "(LPileTricks$Word;)I"⟩,
  .fieldLink "PileTricks$Reader" 137 "PileTricks$Word" "CARDS" "LPileTricks$Word;",
  .fieldLink "PileTricks$Reader" 140 "PileTricks$Word" "HEAPS" "LPileTricks$Word;",
  .fieldLink "PileTricks$Reader" 143 "PileTricks$Word" "LIES" "LPileTricks$Word;",
  .fieldLink "PileTricks$Reader" 146 "PileTricks$Word" "WISH" "LPileTricks$Word;",
  .methodLink "PileTricks$Reader" 75 ⟨"PileTricks$Reader", "readNumber", "(I)I"⟩,
  .instanceMethod ⟨"PileTricks$Reader", "readNumber", "(I)I"⟩,
  .instanceMethod ⟨"PileTricks$Tape", "isLongNumber", "()Z"⟩,
  .methodLink "PileTricks$Reader" 119 ⟨"PileTricks$Reader", "readLineEnd", "()I"⟩,
  .instanceMethod ⟨"PileTricks$Reader", "readLineEnd", "()I"⟩,
  .fieldLink "PileTricks$Reader" 79 "PileTricks$Word" "DEAL" "LPileTricks$Word;",
  .methodLink "PileTricks$Reader" 84 ⟨"PileTricks$Reader", "readDeal", "()I"⟩,
  .instanceMethod ⟨"PileTricks$Reader", "readDeal", "()I"⟩,
  .methodLink "PileTricks$Reader" 122 ⟨"PileTricks$Reader", "kindTold", "(LPileTricks$Word;)I"⟩,
  .static ⟨"PileTricks$Reader", "kindTold", "(LPileTricks$Word;)I"⟩,
  .fieldLink "PileTricks$Reader" 149 "PileTricks$Word" "TURN" "LPileTricks$Word;"]
def pg_W3 : List Cond := [.fieldLink "PileTricks$Reader" 152 "PileTricks$Word" "FRO" "LPileTricks$Word;",
  .fieldLink "PileTricks$Reader" 155 "PileTricks$Word" "RUN" "LPileTricks$Word;",
  .methodLink "PileTricks$Reader" 125 ⟨"PileTricks$Reader", "sideTold", "(LPileTricks$Word;)I"⟩,
  .static ⟨"PileTricks$Reader", "sideTold", "(LPileTricks$Word;)I"⟩,
  .fieldLink "PileTricks$Reader" 158 "PileTricks$Word" "UNDER" "LPileTricks$Word;",
  .fieldLink "PileTricks$Reader" 161 "PileTricks$Word" "OVER" "LPileTricks$Word;",
  .fieldLink "PileTricks$Reader" 128 "PileTricks$Word" "AT" "LPileTricks$Word;",
  .instanceMethod ⟨"PileTricks$Rules", "readRule", "(I)I"⟩,
  .methodLink "PileTricks$Rules" 58 ⟨"PileTricks$Rules", "openExpr", "()V"⟩,
  .instanceMethod ⟨"PileTricks$Rules", "openExpr", "()V"⟩,
  .methodLink "PileTricks$Rules" 77 ⟨"PileTricks$Rules", "setCompared", "(Z)V"⟩,
  .instanceMethod ⟨"PileTricks$Rules", "setCompared", "(Z)V"⟩,
  .methodLink "PileTricks$Rules" 81 ⟨"PileTricks$Rules", "openNot", "()V"⟩,
  .instanceMethod ⟨"PileTricks$Rules", "openNot", "()V"⟩,
  .methodLink "PileTricks$Rules" 61 ⟨"PileTricks$Rules", "readPart", "()I"⟩,
  .instanceMethod ⟨"PileTricks$Rules", "readPart", "()I"⟩,
  .methodLink "PileTricks$Rules" 90 ⟨"PileTricks$Rules", "await", "(I)V"⟩,
  .instanceMethod ⟨"PileTricks$Rules", "await", "(I)V"⟩,
  .fieldLink "PileTricks$Rules" 98 "PileTricks$Word" "NOT" "LPileTricks$Word;",
  .methodLink "PileTricks$Rules" 103 ⟨"PileTricks$Rules", "readNot", "()I"⟩,
  .instanceMethod ⟨"PileTricks$Rules", "readNot", "()I"⟩,
  .methodLink "PileTricks$Rules" 106 ⟨"PileTricks$Rules", "readNumberPart", "()I"⟩,
  .instanceMethod ⟨"PileTricks$Rules", "readNumberPart", "()I"⟩,
  .methodLink "PileTricks$Rules" 119 ⟨"PileTricks$Rules", "write", "(I)V"⟩,
  .instanceMethod ⟨"PileTricks$Rules", "write", "(I)V"⟩,
  .methodLink "PileTricks$Rules" 109 ⟨"PileTricks$Rules", "readValue", "()I"⟩,
  .instanceMethod ⟨"PileTricks$Rules", "readValue", "()I"⟩,
  .methodLink "PileTricks$Rules" 65 ⟨"PileTricks$Rules", "readBehindPart", "()I"⟩,
  .instanceMethod ⟨"PileTricks$Rules", "readBehindPart", "()I"⟩,
  .methodLink "PileTricks$Rules" 125 ⟨"PileTricks$Rules", "closeRule", "()I"⟩,
  .instanceMethod ⟨"PileTricks$Rules", "closeRule", "()I"⟩,
  .methodLink "PileTricks$Rules" 137 ⟨"PileTricks$Rules", "bindingOf", "(I)I"⟩,
  .static ⟨"PileTricks$Rules", "bindingOf", "(I)I"⟩,
  .methodLink "PileTricks$Rules" 141 ⟨"PileTricks$Rules", "writeWaiting", "(I)V"⟩,
  .instanceMethod ⟨"PileTricks$Rules", "writeWaiting", "(I)V"⟩,
  .methodLink "PileTricks$Rules" 128 ⟨"PileTricks$Rules", "closeExpr", "()I"⟩,
  .instanceMethod ⟨"PileTricks$Rules", "closeExpr", "()I"⟩,
  .methodLink "PileTricks$Rules" 144 ⟨"java/lang/Math", "max", "(II)I"⟩,
  .static ⟨"java/lang/Math", "max", "(II)I"⟩,
  .methodLink "PileTricks$Rules" 131 ⟨"PileTricks$Rules", "operatorThere", "()I"⟩,
  .instanceMethod ⟨"PileTricks$Rules", "operatorThere", "()I"⟩,
  .fieldLink "PileTricks$Rules" 150 "PileTricks$Word" "OR" "LPileTricks$Word;",
  .fieldLink "PileTricks$Rules" 153 "PileTricks$Word" "AND" "LPileTricks$Word;",
  .methodLink "PileTricks$Rules" 134 ⟨"PileTricks$Rules", "isCompared", "()Z"⟩,
  .instanceMethod ⟨"PileTricks$Rules", "isCompared", "()Z"⟩,
  .methodLink "PileTricksLaw" 92 ⟨"PileTricksLaw", "count", "(LPileTricks;I[J)I"⟩,
  .static ⟨"PileTricksLaw", "count", "(LPileTricks;I[J)I"⟩,
  .classLink "PileTricksLaw" 18 "java/util/NoSuchElementException",
  .methodLink "PileTricksLaw" 15 ⟨"PileTricks", "count", "(I)I"⟩,
  .instanceMethod ⟨"PileTricks", "count", "(I)I"⟩,
  .selects "PileTricks" ⟨"PileTricks", "count", "(I)I"⟩ ⟨"PileTricks", "count", "(I)I"⟩,
  .classLink "PileTricks" 129 "java/util/NoSuchElementException",
  .instantiable "java/util/NoSuchElementException" 6,
  .selects "java/util/NoSuchElementException" ⟨"java/lang/Throwable", "fillInStackTrace", "(I)Ljava/lang/Throwable;"⟩ ⟨"java/lang/Throwable", "fillInStackTrace", "(I)Ljava/lang/Throwable;"⟩,
  .methodLink "PileTricks" 131 ⟨"java/util/NoSuchElementException", "<init>", "()V"⟩,
  .instanceMethod ⟨"java/util/NoSuchElementException", "<init>", "()V"⟩,
  .methodLink "java/util/NoSuchElementException" 1 ⟨"java/lang/RuntimeException", "<init>", "()V"⟩,
  .methodLink "PileTricksLaw" 95 ⟨"PileTricksLaw", "told", "(LPileTricks;III[J)I"⟩,
  .static ⟨"PileTricksLaw", "told", "(LPileTricks;III[J)I"⟩,
  .methodLink "PileTricksLaw" 20 ⟨"PileTricks", "told", "(III)I"⟩,
  .instanceMethod ⟨"PileTricks", "told", "(III)I"⟩,
  .selects "PileTricks" ⟨"PileTricks", "told", "(III)I"⟩ ⟨"PileTricks", "told", "(III)I"⟩,
  .methodLink "PileTricksLaw" 99 ⟨"PileTricksLaw", "goes", "(LPileTricks;III[J)I"⟩,
  .static ⟨"PileTricksLaw", "goes", "(LPileTricks;III[J)I"⟩,
  .methodLink "PileTricksLaw" 24 ⟨"PileTricks", "goes", "(III)I"⟩,
  .instanceMethod ⟨"PileTricks", "goes", "(III)I"⟩,
  .selects "PileTricks" ⟨"PileTricks", "goes", "(III)I"⟩ ⟨"PileTricks", "goes", "(III)I"⟩,
  .instanceMethod ⟨"PileTricks$Setting", "hasPlace", "(I)Z"⟩,
  .methodLink "PileTricksLaw" 102 ⟨"PileTricksLaw", "end", "(LPileTricks;II[J)I"⟩,
  .static ⟨"PileTricksLaw", "end", "(LPileTricks;II[J)I"⟩,
  .methodLink "PileTricksLaw" 27 ⟨"PileTricks", "end", "(II)I"⟩,
  .instanceMethod ⟨"PileTricks", "end", "(II)I"⟩,
  .selects "PileTricks" ⟨"PileTricks", "end", "(II)I"⟩ ⟨"PileTricks", "end", "(II)I"⟩,
  .methodLink "PileTricks" 160 ⟨"PileTricks", "isWithin", "(III)Z"⟩,
  .instanceMethod ⟨"PileTricks$Setting", "followedEnd", "(II)I"⟩,
  .methodLink "PileTricks$Setting" 118 ⟨"PileTricks$Setting", "followedTo", "(II)I"⟩,
  .methodLink "PileTricksLaw" 106 ⟨"PileTricksLaw", "sure", "(LPileTricks;I[J)I"⟩,
  .static ⟨"PileTricksLaw", "sure", "(LPileTricks;I[J)I"⟩,
  .methodLink "PileTricksLaw" 31 ⟨"PileTricks", "sure", "(I)I"⟩,
  .instanceMethod ⟨"PileTricks", "sure", "(I)I"⟩,
  .selects "PileTricks" ⟨"PileTricks", "sure", "(I)I"⟩ ⟨"PileTricks", "sure", "(I)I"⟩,
  .methodLink "PileTricksLaw" 113 ⟨"PileTricksLaw", "wished", "(LPileTricks;II[J)I"⟩,
  .static ⟨"PileTricksLaw", "wished", "(LPileTricks;II[J)I"⟩,
  .methodLink "PileTricksLaw" 34 ⟨"PileTricks", "wished", "(II)I"⟩,
  .instanceMethod ⟨"PileTricks", "wished", "(II)I"⟩,
  .selects "PileTricks" ⟨"PileTricks", "wished", "(II)I"⟩ ⟨"PileTricks", "wished", "(II)I"⟩,
  .instanceMethod ⟨"PileTricks$Wishes", "rowsFor", "(II)I"⟩,
  .methodLink "PileTricks$Wishes" 35 ⟨"PileTricks$Wishes", "seek", "(IJII)V"⟩,
  .instanceMethod ⟨"PileTricks$Wishes", "seek", "(IJII)V"⟩,
  .methodLink "PileTricks$Wishes" 43 ⟨"java/lang/Math", "min", "(II)I"⟩,
  .static ⟨"PileTricks", "power", "(II)I"⟩,
  .methodLink "PileTricks$Wishes" 56 ⟨"PileTricks$Wishes", "comesFrom", "(IIJ)J"⟩,
  .instanceMethod ⟨"PileTricks$Wishes", "comesFrom", "(IIJ)J"⟩,
  .methodLink "PileTricks$Wishes" 60 ⟨"java/lang/Long", "bitCount", "(J)I"⟩,
  .instanceMethod ⟨"PileTricks$Wishes", "keepFirst", "()V"⟩,
  .methodLink "PileTricksLaw" 116 ⟨"PileTricksLaw", "laying", "(LPileTricks;I[J)I"⟩,
  .static ⟨"PileTricksLaw", "laying", "(LPileTricks;I[J)I"⟩,
  .methodLink "PileTricksLaw" 37 ⟨"PileTricks", "laying", "(I)I"⟩,
  .instanceMethod ⟨"PileTricks", "laying", "(I)I"⟩,
  .selects "PileTricks" ⟨"PileTricks", "laying", "(I)I"⟩ ⟨"PileTricks", "laying", "(I)I"⟩,
  .instanceMethod ⟨"PileTricks$Wishes", "keptLaying", "(I)I"⟩,
  .methodLink "PileTricksLaw" 119 ⟨"PileTricksLaw", "fewest", "(LPileTricks;I[J)I"⟩,
  .static ⟨"PileTricksLaw", "fewest", "(LPileTricks;I[J)I"⟩,
  .methodLink "PileTricksLaw" 40 ⟨"PileTricks", "fewest", "(I)I"⟩,
  .instanceMethod ⟨"PileTricks", "fewest", "(I)I"⟩,
  .selects "PileTricks" ⟨"PileTricks", "fewest", "(I)I"⟩ ⟨"PileTricks", "fewest", "(I)I"⟩,
  .methodLink "PileTricksLaw" 122 ⟨"PileTricksLaw", "always", "(LPileTricks;IIII[J)I"⟩,
  .static ⟨"PileTricksLaw", "always", "(LPileTricks;IIII[J)I"⟩,
  .methodLink "PileTricksLaw" 43 ⟨"PileTricks", "always", "(IIII)J"⟩,
  .instanceMethod ⟨"PileTricks", "always", "(IIII)J"⟩,
  .selects "PileTricks" ⟨"PileTricks", "always", "(IIII)J"⟩ ⟨"PileTricks", "always", "(IIII)J"⟩,
  .methodLink "PileTricks" 193 ⟨"PileTricks", "roundFrom", "(I)J"⟩,
  .instanceMethod ⟨"PileTricks", "roundFrom", "(I)J"⟩,
  .methodLink "PileTricks" 197 ⟨"PileTricks", "leastCommonMultiple", "(JJ)J"⟩,
  .static ⟨"PileTricks", "leastCommonMultiple", "(JJ)J"⟩,
  .methodLink "PileTricksLaw" 126 ⟨"PileTricksLaw", "two", "(LPileTricks;III[J)I"⟩,
  .static ⟨"PileTricksLaw", "two", "(LPileTricks;III[J)I"⟩,
  .methodLink "PileTricksLaw" 47 ⟨"PileTricks", "two", "(III)I"⟩,
  .instanceMethod ⟨"PileTricks", "two", "(III)I"⟩,
  .selects "PileTricks" ⟨"PileTricks", "two", "(III)I"⟩ ⟨"PileTricks", "two", "(III)I"⟩]
def pg_W4 : List Cond := [.methodLink "PileTricksLaw" 129 ⟨"PileTricksLaw", "worst", "(LPileTricks;I[J)I"⟩,
  .static ⟨"PileTricksLaw", "worst", "(LPileTricks;I[J)I"⟩,
  .methodLink "PileTricksLaw" 50 ⟨"PileTricks", "worst", "(I)I"⟩,
  .instanceMethod ⟨"PileTricks", "worst", "(I)I"⟩,
  .selects "PileTricks" ⟨"PileTricks", "worst", "(I)I"⟩ ⟨"PileTricks", "worst", "(I)I"⟩,
  .methodLink "PileTricks" 204 ⟨"PileTricks", "power", "(II)I"⟩,
  .instanceMethod ⟨"PileTricks$Guesses", "mostLeft", "(I)I"⟩,
  .methodLink "PileTricks$Guesses" 39 ⟨"PileTricks$Guesses", "nameAll", "(II)V"⟩,
  .instanceMethod ⟨"PileTricks$Guesses", "nameAll", "(II)V"⟩,
  .methodLink "PileTricks$Guesses" 46 ⟨"PileTricks$Guesses", "leftBehind", "(III)I"⟩,
  .instanceMethod ⟨"PileTricks$Guesses", "leftBehind", "(III)I"⟩,
  .methodLink "PileTricksLaw" 132 ⟨"PileTricksLaw", "card", "(LPileTricks;I[J)I"⟩,
  .static ⟨"PileTricksLaw", "card", "(LPileTricks;I[J)I"⟩,
  .methodLink "PileTricksLaw" 53 ⟨"PileTricks", "card", "(I)I"⟩,
  .instanceMethod ⟨"PileTricks", "card", "(I)I"⟩,
  .selects "PileTricks" ⟨"PileTricks", "card", "(I)I"⟩ ⟨"PileTricks", "card", "(I)I"⟩,
  .methodLink "PileTricksLaw" 144 ⟨"PileTricksLaw", "lies", "(LPileTricks;I[J)I"⟩,
  .static ⟨"PileTricksLaw", "lies", "(LPileTricks;I[J)I"⟩,
  .methodLink "PileTricksLaw" 56 ⟨"PileTricks", "lies", "(I)I"⟩,
  .instanceMethod ⟨"PileTricks", "lies", "(I)I"⟩,
  .selects "PileTricks" ⟨"PileTricks", "lies", "(I)I"⟩ ⟨"PileTricks", "lies", "(I)I"⟩,
  .methodLink "PileTricksLaw" 156 ⟨"PileTricksLaw", "between", "(LPileTricks;I[J)I"⟩,
  .static ⟨"PileTricksLaw", "between", "(LPileTricks;I[J)I"⟩,
  .methodLink "PileTricksLaw" 59 ⟨"PileTricks", "between", "(I)I"⟩,
  .instanceMethod ⟨"PileTricks", "between", "(I)I"⟩,
  .selects "PileTricks" ⟨"PileTricks", "between", "(I)I"⟩ ⟨"PileTricks", "between", "(I)I"⟩,
  .methodLink "PileTricks" 241 ⟨"PileTricks", "isDeal", "(I)Z"⟩,
  .instanceMethod ⟨"PileTricks", "isDeal", "(I)Z"⟩,
  .methodLink "PileTricks" 270 ⟨"PileTricks", "figure", "(II)I"⟩,
  .instanceMethod ⟨"PileTricks$Table", "comesBy", "(ILPileTricks$Dealer;)Z"⟩,
  .methodLink "PileTricksLaw" 159 ⟨"PileTricksLaw", "evenings", "(LPileTricks;III[J)I"⟩,
  .static ⟨"PileTricksLaw", "evenings", "(LPileTricks;III[J)I"⟩,
  .methodLink "PileTricksLaw" 62 ⟨"PileTricks", "evenings", "(III)I"⟩,
  .instanceMethod ⟨"PileTricks", "evenings", "(III)I"⟩,
  .selects "PileTricks" ⟨"PileTricks", "evenings", "(III)I"⟩ ⟨"PileTricks", "evenings", "(III)I"⟩,
  .constant "PileTricks" 248 (1103515245 : Int32),
  .methodLink "PileTricks" 249 ⟨"PileTricks", "rest", "(II)I"⟩,
  .methodLink "PileTricksLaw" 162 ⟨"PileTricksLaw", "weighings", "(LPileTricks;IZ[J)I"⟩,
  .static ⟨"PileTricksLaw", "weighings", "(LPileTricks;IZ[J)I"⟩,
  .methodLink "PileTricksLaw" 65 ⟨"PileTricks", "weighings", "(IZ)I"⟩,
  .instanceMethod ⟨"PileTricks", "weighings", "(IZ)I"⟩,
  .selects "PileTricks" ⟨"PileTricks", "weighings", "(IZ)I"⟩ ⟨"PileTricks", "weighings", "(IZ)I"⟩,
  .classLink "PileTricksLaw" 70 "PileTricksModel",
  .instantiable "PileTricksModel" 66,
  .methodLink "PileTricksLaw" 72 ⟨"PileTricksModel", "<init>", "()V"⟩,
  .instanceMethod ⟨"PileTricksModel", "<init>", "()V"⟩,
  .methodLink "PileTricksModel" 1 ⟨"java/lang/Object", "<init>", "()V"⟩,
  .methodLink "PileTricksModel" 129 ⟨"PileTricksModel", "anew", "()V"⟩,
  .instanceMethod ⟨"PileTricksModel", "anew", "()V"⟩,
  .fieldLink "PileTricksModel" 132 "PileTricksModel" "thrown" "I",
  .fieldLink "PileTricksModel" 7 "PileTricksModel" "cards" "I",
  .fieldLink "PileTricksModel" 13 "PileTricksModel" "heaps" "I",
  .fieldLink "PileTricksModel" 286 "PileTricksModel" "deals" "I",
  .fieldLink "PileTricksModel" 289 "PileTricksModel" "most" "I",
  .fieldLink "PileTricksModel" 292 "PileTricksModel" "wish" "I",
  .fieldLink "PileTricksModel" 16 "PileTricksModel" "kind" "[I",
  .fieldLink "PileTricksModel" 20 "PileTricksModel" "side" "[I",
  .fieldLink "PileTricksModel" 23 "PileTricksModel" "ruleAt" "[I",
  .fieldLink "PileTricksModel" 26 "PileTricksModel" "code" "[I",
  .fieldLink "PileTricksModel" 29 "PileTricksModel" "tape" "[I",
  .fieldLink "PileTricksModel" 135 "PileTricksModel" "taped" "I",
  .fieldLink "PileTricksModel" 188 "PileTricksModel" "faultKind" "I",
  .fieldLink "PileTricksModel" 32 "PileTricksModel" "faultPlace" "I",
  .fieldLink "PileTricksModel" 35 "PileTricksModel" "refused" "[I",
  .fieldLink "PileTricksModel" 142 "PileTricksModel" "long1" "I",
  .fieldLink "PileTricksModel" 145 "PileTricksModel" "next" "I",
  .fieldLink "PileTricksModel" 165 "PileTricksModel" "sort" "I",
  .fieldLink "PileTricksModel" 152 "PileTricksModel" "place" "I",
  .fieldLink "PileTricksModel" 175 "PileTricksModel" "long0" "I",
  .fieldLink "PileTricksModel" 159 "PileTricksModel" "value" "I",
  .fieldLink "PileTricksModel" 162 "PileTricksModel" "sign" "I",
  .fieldLink "PileTricksModel" 155 "PileTricksModel" "word" "J",
  .fieldLink "PileTricksModel" 258 "PileTricksModel" "newCards" "I",
  .fieldLink "PileTricksModel" 261 "PileTricksModel" "newHeaps" "I",
  .fieldLink "PileTricksModel" 270 "PileTricksModel" "newDeals" "I",
  .fieldLink "PileTricksModel" 264 "PileTricksModel" "newMost" "I",
  .fieldLink "PileTricksModel" 267 "PileTricksModel" "newWish" "I",
  .fieldLink "PileTricksModel" 248 "PileTricksModel" "toldOnce" "I",
  .fieldLink "PileTricksModel" 201 "PileTricksModel" "top" "I",
  .fieldLink "PileTricksModel" 204 "PileTricksModel" "waiting" "I",
  .fieldLink "PileTricksModel" 220 "PileTricksModel" "depth" "I",
  .fieldLink "PileTricksModel" 38 "PileTricksModel" "newKind" "[I",
  .fieldLink "PileTricksModel" 41 "PileTricksModel" "newSide" "[I",
  .fieldLink "PileTricksModel" 44 "PileTricksModel" "newRuleAt" "[I",
  .fieldLink "PileTricksModel" 47 "PileTricksModel" "readCode" "[I",
  .fieldLink "PileTricksModel" 50 "PileTricksModel" "waits" "[I",
  .fieldLink "PileTricksModel" 53 "PileTricksModel" "tested" "[Z",
  .fieldLink "PileTricksModel" 57 "PileTricksModel" "heapOf" "[I",
  .fieldLink "PileTricksModel" 60 "PileTricksModel" "ahead" "[I",
  .fieldLink "PileTricksModel" 63 "PileTricksModel" "sizes" "[I",
  .fieldLink "PileTricksModel" 66 "PileTricksModel" "firsts" "[I",
  .fieldLink "PileTricksModel" 69 "PileTricksModel" "order" "[I",
  .fieldLink "PileTricksModel" 72 "PileTricksModel" "pile" "[I",
  .fieldLink "PileTricksModel" 75 "PileTricksModel" "ends" "[I",
  .fieldLink "PileTricksModel" 78 "PileTricksModel" "then" "[I",
  .fieldLink "PileTricksModel" 81 "PileTricksModel" "rowAt" "[I",
  .fieldLink "PileTricksModel" 84 "PileTricksModel" "kept" "[I",
  .fieldLink "PileTricksModel" 87 "PileTricksModel" "keptLong" "I",
  .fieldLink "PileTricksModel" 371 "PileTricksModel" "found" "I",
  .fieldLink "PileTricksModel" 90 "PileTricksModel" "lying" "[I",
  .fieldLink "PileTricksModel" 93 "PileTricksModel" "wrongs" "[I",
  .fieldLink "PileTricksModel" 303 "PileTricksModel" "answers" "I",
  .fieldLink "PileTricksModel" 96 "PileTricksModel" "pack" "[I",
  .fieldLink "PileTricksModel" 99 "PileTricksModel" "seen" "[I",
  .fieldLink "PileTricksModel" 102 "PileTricksModel" "missed" "[I",
  .fieldLink "PileTricksModel" 105 "PileTricksModel" "packs" "[I",
  .fieldLink "PileTricksModel" 108 "PileTricksModel" "misses" "[I",
  .fieldLink "PileTricksModel" 111 "PileTricksModel" "laid" "[I",
  .fieldLink "PileTricksModel" 299 "PileTricksModel" "hasImage" "Z",
  .fieldLink "PileTricksModel" 385 "PileTricksModel" "imageAnswers" "I",
  .fieldLink "PileTricksModel" 114 "PileTricksModel" "imagePack" "[I",
  .fieldLink "PileTricksModel" 117 "PileTricksModel" "imageSeen" "[I",
  .fieldLink "PileTricksModel" 120 "PileTricksModel" "imageMissed" "[I",
  .fieldLink "PileTricksModel" 123 "PileTricksModel" "imagePacks" "[I",
  .fieldLink "PileTricksModel" 126 "PileTricksModel" "imageMisses" "[I",
  .methodLink "PileTricksLaw" 84 ⟨"PileTricksModel", "thrown", "()I"⟩,
  .instanceMethod ⟨"PileTricksModel", "thrown", "()I"⟩,
  .selects "PileTricksModel" ⟨"PileTricksModel", "thrown", "()I"⟩ ⟨"PileTricksModel", "thrown", "()I"⟩,
  .methodLink "PileTricksLaw" 77 ⟨"PileTricksModel", "feed", "(IIIII)I"⟩,
  .instanceMethod ⟨"PileTricksModel", "feed", "(IIIII)I"⟩]
def pg_W5 : List Cond := [.selects "PileTricksModel" ⟨"PileTricksModel", "feed", "(IIIII)I"⟩ ⟨"PileTricksModel", "feed", "(IIIII)I"⟩,
  .methodLink "PileTricksModel" 138 ⟨"PileTricksModel", "lays", "(I)V"⟩,
  .instanceMethod ⟨"PileTricksModel", "lays", "(I)V"⟩,
  .methodLink "PileTricksLaw" 83 ⟨"PileTricksModel", "trick", "(I)I"⟩,
  .instanceMethod ⟨"PileTricksModel", "trick", "(I)I"⟩,
  .selects "PileTricksModel" ⟨"PileTricksModel", "trick", "(I)I"⟩ ⟨"PileTricksModel", "trick", "(I)I"⟩,
  .methodLink "PileTricksModel" 279 ⟨"PileTricksModel", "right", "(ZI)Z"⟩,
  .instanceMethod ⟨"PileTricksModel", "right", "(ZI)Z"⟩,
  .methodLink "PileTricksModel" 195 ⟨"PileTricksModel", "goes0", "()V"⟩,
  .instanceMethod ⟨"PileTricksModel", "goes0", "()V"⟩,
  .methodLink "PileTricksModel" 148 ⟨"PileTricksModel", "byteAt", "(I)I"⟩,
  .instanceMethod ⟨"PileTricksModel", "byteAt", "(I)I"⟩,
  .methodLink "PileTricksModel" 168 ⟨"PileTricksModel", "isLetter", "(I)Z"⟩,
  .static ⟨"PileTricksModel", "isLetter", "(I)Z"⟩,
  .methodLink "PileTricksModel" 172 ⟨"PileTricksModel", "isDigit", "(I)Z"⟩,
  .static ⟨"PileTricksModel", "isDigit", "(I)Z"⟩,
  .methodLink "PileTricksModel" 191 ⟨"PileTricksModel", "isGood", "()Z"⟩,
  .instanceMethod ⟨"PileTricksModel", "isGood", "()Z"⟩,
  .methodLink "PileTricksModel" 283 ⟨"PileTricksModel", "line", "()V"⟩,
  .instanceMethod ⟨"PileTricksModel", "line", "()V"⟩,
  .methodLink "PileTricksModel" 216 ⟨"PileTricksModel", "knownWord", "()I"⟩,
  .instanceMethod ⟨"PileTricksModel", "knownWord", "()I"⟩,
  .methodLink "PileTricksModel" 184 ⟨"PileTricksModel", "letters", "(I)J"⟩,
  .static ⟨"PileTricksModel", "letters", "(I)J"⟩,
  .methodLink "PileTricksModel" 180 ⟨"PileTricksModel", "spelled", "(IIIII)J"⟩,
  .static ⟨"PileTricksModel", "spelled", "(IIIII)J"⟩,
  .constantLong "PileTricksModel" 178 (96 : Int64),
  .methodLink "PileTricksModel" 251 ⟨"PileTricksModel", "begins", "(I)Z"⟩,
  .instanceMethod ⟨"PileTricksModel", "begins", "(I)Z"⟩,
  .methodLink "PileTricksModel" 198 ⟨"PileTricksModel", "wrong", "(I)V"⟩,
  .instanceMethod ⟨"PileTricksModel", "wrong", "(I)V"⟩,
  .methodLink "PileTricksModel" 254 ⟨"PileTricksModel", "number", "(II)I"⟩,
  .instanceMethod ⟨"PileTricksModel", "number", "(II)I"⟩,
  .methodLink "PileTricksModel" 273 ⟨"PileTricksModel", "need", "(Z)V"⟩,
  .instanceMethod ⟨"PileTricksModel", "need", "(Z)V"⟩,
  .methodLink "PileTricksModel" 276 ⟨"PileTricksModel", "expression", "()V"⟩,
  .instanceMethod ⟨"PileTricksModel", "expression", "()V"⟩,
  .methodLink "PileTricksModel" 229 ⟨"PileTricksModel", "deeper", "()V"⟩,
  .instanceMethod ⟨"PileTricksModel", "deeper", "()V"⟩,
  .methodLink "PileTricksModel" 223 ⟨"PileTricksModel", "isSign", "(I)Z"⟩,
  .instanceMethod ⟨"PileTricksModel", "isSign", "(I)Z"⟩,
  .methodLink "PileTricksModel" 238 ⟨"PileTricksModel", "operand", "(Z)V"⟩,
  .instanceMethod ⟨"PileTricksModel", "operand", "(Z)V"⟩,
  .methodLink "PileTricksModel" 226 ⟨"PileTricksModel", "waitsFor", "(I)V"⟩,
  .instanceMethod ⟨"PileTricksModel", "waitsFor", "(I)V"⟩,
  .methodLink "PileTricksModel" 232 ⟨"PileTricksModel", "part", "()V"⟩,
  .instanceMethod ⟨"PileTricksModel", "part", "()V"⟩,
  .methodLink "PileTricksModel" 213 ⟨"PileTricksModel", "puts", "(I)V"⟩,
  .instanceMethod ⟨"PileTricksModel", "puts", "(I)V"⟩,
  .methodLink "PileTricksModel" 235 ⟨"PileTricksModel", "drops", "(I)V"⟩,
  .instanceMethod ⟨"PileTricksModel", "drops", "(I)V"⟩,
  .methodLink "PileTricksModel" 207 ⟨"PileTricksModel", "isOpen", "(I)Z"⟩,
  .static ⟨"PileTricksModel", "isOpen", "(I)Z"⟩,
  .methodLink "PileTricksModel" 210 ⟨"PileTricksModel", "strength", "(I)I"⟩,
  .static ⟨"PileTricksModel", "strength", "(I)I"⟩,
  .methodLink "PileTricksModel" 242 ⟨"PileTricksModel", "isOpened", "()Z"⟩,
  .instanceMethod ⟨"PileTricksModel", "isOpened", "()Z"⟩,
  .methodLink "PileTricksModel" 245 ⟨"PileTricksModel", "closes", "()V"⟩,
  .instanceMethod ⟨"PileTricksModel", "closes", "()V"⟩,
  .methodLink "PileTricksModel" 295 ⟨"PileTricksModel", "copies", "([I[I)V"⟩,
  .instanceMethod ⟨"PileTricksModel", "copies", "([I[I)V"⟩,
  .methodLink "PileTricksLaw" 91 ⟨"PileTricksModel", "fault", "()I"⟩,
  .instanceMethod ⟨"PileTricksModel", "fault", "()I"⟩,
  .selects "PileTricksModel" ⟨"PileTricksModel", "fault", "()I"⟩ ⟨"PileTricksModel", "fault", "()I"⟩,
  .methodLink "PileTricksLaw" 94 ⟨"PileTricksModel", "count", "(I)I"⟩,
  .instanceMethod ⟨"PileTricksModel", "count", "(I)I"⟩,
  .selects "PileTricksModel" ⟨"PileTricksModel", "count", "(I)I"⟩ ⟨"PileTricksModel", "count", "(I)I"⟩,
  .methodLink "PileTricksModel" 306 ⟨"PileTricksModel", "within", "(III)Z"⟩,
  .static ⟨"PileTricksModel", "within", "(III)Z"⟩,
  .methodLink "PileTricksModel" 310 ⟨"PileTricksModel", "fitting", "()I"⟩,
  .instanceMethod ⟨"PileTricksModel", "fitting", "()I"⟩,
  .methodLink "PileTricksLaw" 98 ⟨"PileTricksModel", "told", "(III)I"⟩,
  .instanceMethod ⟨"PileTricksModel", "told", "(III)I"⟩,
  .selects "PileTricksModel" ⟨"PileTricksModel", "told", "(III)I"⟩ ⟨"PileTricksModel", "told", "(III)I"⟩,
  .methodLink "PileTricksModel" 323 ⟨"PileTricksModel", "isHeap", "(II)Z"⟩,
  .instanceMethod ⟨"PileTricksModel", "isHeap", "(II)Z"⟩,
  .methodLink "PileTricksModel" 327 ⟨"PileTricksModel", "deals0", "(II)V"⟩,
  .instanceMethod ⟨"PileTricksModel", "deals0", "(II)V"⟩,
  .methodLink "PileTricksModel" 313 ⟨"PileTricksModel", "heapAt", "(II)I"⟩,
  .instanceMethod ⟨"PileTricksModel", "heapAt", "(II)I"⟩,
  .methodLink "PileTricksModel" 331 ⟨"PileTricksModel", "layingOf", "(II)I"⟩,
  .instanceMethod ⟨"PileTricksModel", "layingOf", "(II)I"⟩,
  .methodLink "PileTricksModel" 320 ⟨"PileTricksModel", "works", "(III)I"⟩,
  .static ⟨"PileTricksModel", "works", "(III)I"⟩,
  .methodLink "PileTricksLaw" 101 ⟨"PileTricksModel", "goes", "(III)I"⟩,
  .instanceMethod ⟨"PileTricksModel", "goes", "(III)I"⟩,
  .selects "PileTricksModel" ⟨"PileTricksModel", "goes", "(III)I"⟩ ⟨"PileTricksModel", "goes", "(III)I"⟩,
  .methodLink "PileTricksModel" 334 ⟨"PileTricksModel", "isPlace", "(I)Z"⟩,
  .instanceMethod ⟨"PileTricksModel", "isPlace", "(I)Z"⟩,
  .methodLink "PileTricksModel" 337 ⟨"PileTricksModel", "kindOf", "(I)I"⟩,
  .instanceMethod ⟨"PileTricksModel", "kindOf", "(I)I"⟩,
  .methodLink "PileTricksModel" 340 ⟨"PileTricksModel", "sideOf", "(I)I"⟩,
  .instanceMethod ⟨"PileTricksModel", "sideOf", "(I)I"⟩,
  .methodLink "PileTricksModel" 343 ⟨"PileTricksModel", "numberOf", "(I)I"⟩,
  .instanceMethod ⟨"PileTricksModel", "numberOf", "(I)I"⟩,
  .methodLink "PileTricksModel" 346 ⟨"PileTricksModel", "orders", "(III)V"⟩,
  .instanceMethod ⟨"PileTricksModel", "orders", "(III)V"⟩,
  .methodLink "PileTricksModel" 316 ⟨"PileTricksModel", "both", "(III)I"⟩,
  .instanceMethod ⟨"PileTricksModel", "both", "(III)I"⟩,
  .methodLink "PileTricksModel" 350 ⟨"PileTricksModel", "goesTo", "(I)I"⟩,
  .instanceMethod ⟨"PileTricksModel", "goesTo", "(I)I"⟩,
  .methodLink "PileTricksLaw" 105 ⟨"PileTricksModel", "end", "(II)I"⟩,
  .instanceMethod ⟨"PileTricksModel", "end", "(II)I"⟩,
  .selects "PileTricksModel" ⟨"PileTricksModel", "end", "(II)I"⟩ ⟨"PileTricksModel", "end", "(II)I"⟩,
  .methodLink "PileTricksModel" 359 ⟨"PileTricksModel", "isMany", "(II)Z"⟩,
  .instanceMethod ⟨"PileTricksModel", "isMany", "(II)Z"⟩,
  .methodLink "PileTricksModel" 362 ⟨"PileTricksModel", "endsBy", "(I)V"⟩,
  .instanceMethod ⟨"PileTricksModel", "endsBy", "(I)V"⟩,
  .methodLink "PileTricksModel" 353 ⟨"PileTricksModel", "first", "()V"⟩,
  .instanceMethod ⟨"PileTricksModel", "first", "()V"⟩,
  .methodLink "PileTricksModel" 356 ⟨"PileTricksModel", "follows", "(II)V"⟩,
  .instanceMethod ⟨"PileTricksModel", "follows", "(II)V"⟩,
  .methodLink "PileTricksLaw" 108 ⟨"PileTricksModel", "sure", "(I)I"⟩,
  .instanceMethod ⟨"PileTricksModel", "sure", "(I)I"⟩,
  .selects "PileTricksModel" ⟨"PileTricksModel", "sure", "(I)I"⟩ ⟨"PileTricksModel", "sure", "(I)I"⟩,
  .methodLink "PileTricksModel" 365 ⟨"PileTricksModel", "isOne", "()Z"⟩,
  .instanceMethod ⟨"PileTricksModel", "isOne", "()Z"⟩,
  .methodLink "PileTricksLaw" 112 ⟨"PileTricksModel", "soonest", "()I"⟩,
  .instanceMethod ⟨"PileTricksModel", "soonest", "()I"⟩,
  .selects "PileTricksModel" ⟨"PileTricksModel", "soonest", "()I"⟩ ⟨"PileTricksModel", "soonest", "()I"⟩]
def pg_W6 : List Cond := [.methodLink "PileTricksLaw" 115 ⟨"PileTricksModel", "wished", "(II)I"⟩,
  .instanceMethod ⟨"PileTricksModel", "wished", "(II)I"⟩,
  .selects "PileTricksModel" ⟨"PileTricksModel", "wished", "(II)I"⟩ ⟨"PileTricksModel", "wished", "(II)I"⟩,
  .methodLink "PileTricksModel" 374 ⟨"PileTricksModel", "rowsFor", "(II)I"⟩,
  .instanceMethod ⟨"PileTricksModel", "rowsFor", "(II)I"⟩,
  .methodLink "PileTricksModel" 368 ⟨"PileTricksModel", "power", "(II)I"⟩,
  .static ⟨"PileTricksModel", "power", "(II)I"⟩,
  .methodLink "PileTricksLaw" 118 ⟨"PileTricksModel", "laying", "(I)I"⟩,
  .instanceMethod ⟨"PileTricksModel", "laying", "(I)I"⟩,
  .selects "PileTricksModel" ⟨"PileTricksModel", "laying", "(I)I"⟩ ⟨"PileTricksModel", "laying", "(I)I"⟩,
  .methodLink "PileTricksLaw" 121 ⟨"PileTricksModel", "fewest", "(I)I"⟩,
  .instanceMethod ⟨"PileTricksModel", "fewest", "(I)I"⟩,
  .selects "PileTricksModel" ⟨"PileTricksModel", "fewest", "(I)I"⟩ ⟨"PileTricksModel", "fewest", "(I)I"⟩,
  .methodLink "PileTricksLaw" 125 ⟨"PileTricksModel", "always", "(IIII)J"⟩,
  .instanceMethod ⟨"PileTricksModel", "always", "(IIII)J"⟩,
  .selects "PileTricksModel" ⟨"PileTricksModel", "always", "(IIII)J"⟩ ⟨"PileTricksModel", "always", "(IIII)J"⟩,
  .methodLink "PileTricksModel" 377 ⟨"PileTricksModel", "isDeal", "(IIII)Z"⟩,
  .instanceMethod ⟨"PileTricksModel", "isDeal", "(IIII)Z"⟩,
  .methodLink "PileTricksLaw" 128 ⟨"PileTricksModel", "two", "(III)I"⟩,
  .instanceMethod ⟨"PileTricksModel", "two", "(III)I"⟩,
  .selects "PileTricksModel" ⟨"PileTricksModel", "two", "(III)I"⟩ ⟨"PileTricksModel", "two", "(III)I"⟩,
  .methodLink "PileTricksLaw" 131 ⟨"PileTricksModel", "worst", "(I)I"⟩,
  .instanceMethod ⟨"PileTricksModel", "worst", "(I)I"⟩,
  .selects "PileTricksModel" ⟨"PileTricksModel", "worst", "(I)I"⟩ ⟨"PileTricksModel", "worst", "(I)I"⟩,
  .methodLink "PileTricksLaw" 134 ⟨"PileTricksModel", "card", "(I)I"⟩,
  .instanceMethod ⟨"PileTricksModel", "card", "(I)I"⟩,
  .selects "PileTricksModel" ⟨"PileTricksModel", "card", "(I)I"⟩ ⟨"PileTricksModel", "card", "(I)I"⟩,
  .methodLink "PileTricksLaw" 139 ⟨"PileTricksModel", "answer", "(IIII)I"⟩,
  .instanceMethod ⟨"PileTricksModel", "answer", "(IIII)I"⟩,
  .selects "PileTricksModel" ⟨"PileTricksModel", "answer", "(IIII)I"⟩ ⟨"PileTricksModel", "answer", "(IIII)I"⟩,
  .methodLink "PileTricksLaw" 143 ⟨"PileTricksModel", "undo", "()I"⟩,
  .instanceMethod ⟨"PileTricksModel", "undo", "()I"⟩,
  .selects "PileTricksModel" ⟨"PileTricksModel", "undo", "()I"⟩ ⟨"PileTricksModel", "undo", "()I"⟩,
  .methodLink "PileTricksLaw" 146 ⟨"PileTricksModel", "lies", "(I)I"⟩,
  .instanceMethod ⟨"PileTricksModel", "lies", "(I)I"⟩,
  .selects "PileTricksModel" ⟨"PileTricksModel", "lies", "(I)I"⟩ ⟨"PileTricksModel", "lies", "(I)I"⟩,
  .methodLink "PileTricksLaw" 151 ⟨"PileTricksModel", "fits", "()J"⟩,
  .instanceMethod ⟨"PileTricksModel", "fits", "()J"⟩,
  .selects "PileTricksModel" ⟨"PileTricksModel", "fits", "()J"⟩ ⟨"PileTricksModel", "fits", "()J"⟩,
  .methodLink "PileTricksLaw" 155 ⟨"PileTricksModel", "see", "()V"⟩,
  .instanceMethod ⟨"PileTricksModel", "see", "()V"⟩,
  .selects "PileTricksModel" ⟨"PileTricksModel", "see", "()V"⟩ ⟨"PileTricksModel", "see", "()V"⟩,
  .methodLink "PileTricksLaw" 158 ⟨"PileTricksModel", "between", "(I)I"⟩,
  .instanceMethod ⟨"PileTricksModel", "between", "(I)I"⟩,
  .selects "PileTricksModel" ⟨"PileTricksModel", "between", "(I)I"⟩ ⟨"PileTricksModel", "between", "(I)I"⟩,
  .methodLink "PileTricksModel" 381 ⟨"PileTricksModel", "isBetween", "(IIII)Z"⟩,
  .instanceMethod ⟨"PileTricksModel", "isBetween", "(IIII)Z"⟩,
  .methodLink "PileTricksLaw" 161 ⟨"PileTricksModel", "evenings", "(III)I"⟩,
  .instanceMethod ⟨"PileTricksModel", "evenings", "(III)I"⟩,
  .selects "PileTricksModel" ⟨"PileTricksModel", "evenings", "(III)I"⟩ ⟨"PileTricksModel", "evenings", "(III)I"⟩,
  .constant "PileTricksModel" 384 (1103515245 : Int32),
  .methodLink "PileTricksLaw" 165 ⟨"PileTricksModel", "weighings", "(IZ)I"⟩,
  .instanceMethod ⟨"PileTricksModel", "weighings", "(IZ)I"⟩,
  .selects "PileTricksModel" ⟨"PileTricksModel", "weighings", "(IZ)I"⟩ ⟨"PileTricksModel", "weighings", "(IZ)I"⟩,
  .methodLink "PileTricksLaw" 169 ⟨"PileTricksModel", "image", "()V"⟩,
  .instanceMethod ⟨"PileTricksModel", "image", "()V"⟩,
  .selects "PileTricksModel" ⟨"PileTricksModel", "image", "()V"⟩ ⟨"PileTricksModel", "image", "()V"⟩,
  .methodLink "PileTricksLaw" 174 ⟨"PileTricksModel", "restore", "()Z"⟩,
  .instanceMethod ⟨"PileTricksModel", "restore", "()Z"⟩,
  .selects "PileTricksModel" ⟨"PileTricksModel", "restore", "()Z"⟩ ⟨"PileTricksModel", "restore", "()Z"⟩,
  .arrayClass Jvm.ClassFile.FieldType.long,
  .fieldLink "java/lang/String" 9 "java/lang/String" "value" "[B",
  .fieldLink "java/lang/String" 15 "java/lang/String" "coder" "B"]
def pg_W : List Cond := pg_W0 ++ (pg_W1 ++ (pg_W2 ++ (pg_W3 ++ (pg_W4 ++ (pg_W5 ++ (pg_W6))))))
theorem pg_W_in : ex_subl pg_W tables_1 = true := by decide +kernel
theorem pg_U0_in : ex_subl (u_ws RX0 TX0 8) tables_1 = true := by decide +kernel
theorem pg_U1_in : ex_subl (u_ws RX1 TX1 5) tables_1 = true := by decide +kernel
theorem pg_U2_in : ex_subl (u_ws RX2 TX2 8) tables_1 = true := by decide +kernel
theorem pg_U3_in : ex_subl (u_ws RX3 TX3 14) tables_1 = true := by decide +kernel
theorem pg_U4_in : ex_subl (u_ws RX4 TX4 10) tables_1 = true := by decide +kernel
theorem pg_U5_in : ex_subl (u_ws RX5 TX5 5) tables_1 = true := by decide +kernel
theorem pg_U6_in : ex_subl (u_ws RX6 TX6 9) tables_1 = true := by decide +kernel
theorem pg_U7_in : ex_subl (u_ws RX7 TX7 7) tables_1 = true := by decide +kernel
theorem pg_U9_in : ex_subl (u_ws RX9 TX9 13) tables_1 = true := by decide +kernel
theorem pg_U10_in : ex_subl (u_ws RX10 TX10 66) tables_1 = true := by decide +kernel
def pg_U : List Cond := u_ws RX0 TX0 8 ++ (u_ws RX1 TX1 5 ++ (u_ws RX2 TX2 8 ++ (u_ws RX3 TX3 14 ++ (u_ws RX4 TX4 10 ++ (u_ws RX5 TX5 5 ++ (u_ws RX6 TX6 9 ++ (u_ws RX7 TX7 7 ++ (u_ws RX9 TX9 13 ++ (u_ws RX10 TX10 66)))))))))
def pg_N : List Cond := [.methodLinkNest "PileTricks" 29 ⟨"PileTricks$Tape", "<init>", "()V"⟩ "PileTricks",
  .fieldLinkNest "PileTricks" 86 "PileTricks$Tape" "length" "I" "PileTricks",
  .fieldLinkNest "PileTricks$Reader" 92 "PileTricks$Tape" "start" "I" "PileTricks",
  .fieldLinkNest "PileTricks$Reader" 64 "PileTricks$Tape" "type" "I" "PileTricks",
  .fieldLinkNest "PileTricks$Rules" 87 "PileTricks$Tape" "type" "I" "PileTricks",
  .fieldLinkNest "PileTricks$Reader" 67 "PileTricks$Tape" "word" "LPileTricks$Word;" "PileTricks",
  .fieldLinkNest "PileTricks$Rules" 94 "PileTricks$Tape" "word" "LPileTricks$Word;" "PileTricks",
  .fieldLinkNest "PileTricks$Reader" 102 "PileTricks$Tape" "number" "I" "PileTricks",
  .fieldLinkNest "PileTricks$Rules" 116 "PileTricks$Tape" "number" "I" "PileTricks",
  .fieldLinkNest "PileTricks$Rules" 84 "PileTricks$Tape" "sign" "I" "PileTricks",
  .fieldLinkNest "PileTricks$Reader" 134 "PileTricks$Tape" "sign" "I" "PileTricks",
  .methodLinkNest "PileTricks" 36 ⟨"PileTricks$Reader", "<init>", "(LPileTricks$Tape;)V"⟩ "PileTricks",
  .methodLinkNest "PileTricks$Reader" 38 ⟨"PileTricks$Rules", "<init>", "(LPileTricks$Tape;)V"⟩ "PileTricks",
  .fieldLinkNest "PileTricks$Reader" 55 "PileTricks$Rules" "length" "I" "PileTricks",
  .fieldLinkNest "PileTricks$Reader" 48 "PileTricks" "TOLD_WITHOUT" "[I" "PileTricks",
  .methodLinkNest "PileTricks$Reader" 51 ⟨"PileTricks", "copy", "([I[I)V"⟩ "PileTricks",
  .fieldLinkNest "PileTricks$Setting" 76 "PileTricks$Reader" "rules" "LPileTricks$Rules;" "PileTricks",
  .fieldLinkNest "PileTricks$Setting" 43 "PileTricks$Reader" "numbers" "[I" "PileTricks",
  .fieldLinkNest "PileTricks$Setting" 70 "PileTricks$Reader" "kinds" "[I" "PileTricks",
  .fieldLinkNest "PileTricks$Setting" 75 "PileTricks$Reader" "sides" "[I" "PileTricks",
  .fieldLinkNest "PileTricks$Setting" 52 "PileTricks$Reader" "deals" "I" "PileTricks",
  .fieldLinkNest "PileTricks" 100 "PileTricks$Reader" "faultAt" "I" "PileTricks",
  .methodLinkNest "PileTricks" 45 ⟨"PileTricks$Dealer", "<init>", "()V"⟩ "PileTricks",
  .fieldLinkNest "PileTricks$Table" 50 "PileTricks$Dealer" "cards" "I" "PileTricks",
  .methodLinkNest "PileTricks" 52 ⟨"PileTricks$Setting", "<init>", "()V"⟩ "PileTricks",
  .fieldLinkNest "PileTricks$Guesses" 30 "PileTricks$Setting" "cards" "I" "PileTricks",
  .fieldLinkNest "PileTricks" 101 "PileTricks$Setting" "cards" "I" "PileTricks",
  .fieldLinkNest "PileTricks$Wishes" 66 "PileTricks$Setting" "cards" "I" "PileTricks",
  .fieldLinkNest "PileTricks$Table" 63 "PileTricks$Setting" "cards" "I" "PileTricks",
  .fieldLinkNest "PileTricks$Guesses" 43 "PileTricks$Setting" "heaps" "I" "PileTricks",
  .fieldLinkNest "PileTricks$Wishes" 48 "PileTricks$Setting" "heaps" "I" "PileTricks",
  .fieldLinkNest "PileTricks" 104 "PileTricks$Setting" "heaps" "I" "PileTricks",
  .fieldLinkNest "PileTricks$Guesses" 77 "PileTricks$Setting" "lies" "I" "PileTricks",
  .fieldLinkNest "PileTricks" 110 "PileTricks$Setting" "lies" "I" "PileTricks",
  .fieldLinkNest "PileTricks$Table" 66 "PileTricks$Setting" "lies" "I" "PileTricks",
  .fieldLinkNest "PileTricks" 113 "PileTricks$Setting" "wish" "I" "PileTricks",
  .fieldLinkNest "PileTricks" 107 "PileTricks$Setting" "deals" "I" "PileTricks",
  .methodLinkNest "PileTricks" 59 ⟨"PileTricks$Wishes", "<init>", "(LPileTricks$Setting;LPileTricks$Dealer;)V"⟩ "PileTricks",
  .fieldLinkNest "PileTricks" 183 "PileTricks$Wishes" "keptLength" "I" "PileTricks",
  .methodLinkNest "PileTricks" 68 ⟨"PileTricks$Guesses", "<init>", "(LPileTricks$Setting;LPileTricks$Dealer;)V"⟩ "PileTricks",
  .methodLinkNest "PileTricks" 75 ⟨"PileTricks$Table", "<init>", "()V"⟩ "PileTricks",
  .fieldLinkNest "PileTricks" 210 "PileTricks$Table" "pack" "[I" "PileTricks",
  .fieldLinkNest "PileTricks" 234 "PileTricks$Table" "seen" "[I" "PileTricks",
  .fieldLinkNest "PileTricks" 231 "PileTricks$Table" "falses" "[I" "PileTricks",
  .fieldLinkNest "PileTricks" 116 "PileTricks$Table" "answers" "I" "PileTricks",
  .methodLinkNest "PileTricks" 256 ⟨"PileTricks$Setting", "takeOver", "(LPileTricks$Reader;LPileTricks$Dealer;)V"⟩ "PileTricks",
  .methodLinkNest "PileTricks$Setting" 48 ⟨"PileTricks", "at", "([II)I"⟩ "PileTricks",
  .methodLinkNest "PileTricks$Setting" 53 ⟨"PileTricks$Dealer", "fit", "(II)V"⟩ "PileTricks",
  .methodLinkNest "PileTricks$Dealer" 54 ⟨"PileTricks", "rest", "(II)I"⟩ "PileTricks",
  .methodLinkNest "PileTricks$Dealer" 57 ⟨"PileTricks", "share", "(II)I"⟩ "PileTricks",
  .methodLinkNest "PileTricks$Dealer" 67 ⟨"PileTricks", "at", "([II)I"⟩ "PileTricks",
  .methodLinkNest "PileTricks$Dealer" 50 ⟨"PileTricks", "put", "([III)V"⟩ "PileTricks",
  .methodLinkNest "PileTricks$Setting" 71 ⟨"PileTricks", "copy", "([I[I)V"⟩ "PileTricks",
  .methodLinkNest "PileTricks$Setting" 80 ⟨"PileTricks$Rules", "setValue", "(II)V"⟩ "PileTricks",
  .methodLinkNest "PileTricks$Rules" 73 ⟨"PileTricks", "put", "([III)V"⟩ "PileTricks",
  .methodLinkNest "PileTricks$Setting" 85 ⟨"PileTricks$Dealer", "sizeOf", "(II)I"⟩ "PileTricks",
  .methodLinkNest "PileTricks$Setting" 89 ⟨"PileTricks$Rules", "workOut", "(I)I"⟩ "PileTricks",
  .methodLinkNest "PileTricks$Rules" 156 ⟨"PileTricks", "at", "([II)I"⟩ "PileTricks",
  .methodLinkNest "PileTricks$Setting" 93 ⟨"PileTricks", "rest", "(II)I"⟩ "PileTricks",
  .methodLinkNest "PileTricks$Setting" 96 ⟨"PileTricks", "put", "([III)V"⟩ "PileTricks",
  .methodLinkNest "PileTricks$Setting" 106 ⟨"PileTricks$Dealer", "hold", "(II)V"⟩ "PileTricks",
  .methodLinkNest "PileTricks$Setting" 112 ⟨"PileTricks$Dealer", "layOwn", "(II)V"⟩ "PileTricks",
  .methodLinkNest "PileTricks$Setting" 115 ⟨"PileTricks$Dealer", "newPlace", "(I)I"⟩ "PileTricks",
  .methodLinkNest "PileTricks" 260 ⟨"PileTricks$Table", "layOut", "()V"⟩ "PileTricks",
  .methodLinkNest "PileTricks$Table" 28 ⟨"PileTricks", "copy", "([I[I)V"⟩ "PileTricks",
  .methodLinkNest "PileTricks" 89 ⟨"PileTricks$Tape", "append", "(I)V"⟩ "PileTricks",
  .methodLinkNest "PileTricks" 263 ⟨"PileTricks$Setting", "followedTo", "(II)I"⟩ "PileTricks",
  .methodLinkNest "PileTricks" 189 ⟨"PileTricks$Setting", "allows", "(IIII)Z"⟩ "PileTricks",
  .methodLinkNest "PileTricks$Setting" 121 ⟨"PileTricks", "isWithin", "(III)Z"⟩ "PileTricks",
  .methodLinkNest "PileTricks" 221 ⟨"PileTricks$Table", "take", "(I)V"⟩ "PileTricks",
  .methodLinkNest "PileTricks$Table" 38 ⟨"PileTricks", "put", "([III)V"⟩ "PileTricks",
  .methodLinkNest "PileTricks" 224 ⟨"PileTricks$Table", "dealLast", "(LPileTricks$Dealer;[I)V"⟩ "PileTricks",
  .methodLinkNest "PileTricks$Table" 42 ⟨"PileTricks", "at", "([II)I"⟩ "PileTricks",
  .methodLinkNest "PileTricks$Table" 69 ⟨"PileTricks", "figure", "(II)I"⟩ "PileTricks",
  .methodLinkNest "PileTricks$Table" 73 ⟨"PileTricks$Dealer", "hold", "(II)V"⟩ "PileTricks",
  .methodLinkNest "PileTricks$Table" 77 ⟨"PileTricks$Dealer", "lay", "(III)V"⟩ "PileTricks",
  .methodLinkNest "PileTricks$Table" 55 ⟨"PileTricks$Dealer", "newPlace", "(I)I"⟩ "PileTricks",
  .methodLinkNest "PileTricks$Table" 81 ⟨"PileTricks$Dealer", "heapAt", "(I)I"⟩ "PileTricks",
  .methodLinkNest "PileTricks" 119 ⟨"PileTricks$Table", "fitting", "(LPileTricks$Setting;)J"⟩ "PileTricks",
  .methodLinkNest "PileTricks" 228 ⟨"PileTricks$Table", "gatherLast", "(LPileTricks$Dealer;[I)V"⟩ "PileTricks",
  .methodLinkNest "PileTricks" 252 ⟨"PileTricks$Table", "copyFrom", "(LPileTricks$Table;)V"⟩ "PileTricks",
  .castable "java/lang/IllegalArgumentException" "java/lang/IllegalArgumentException",
  .declares ⟨"java/lang/RuntimeException", "<init>", "()V"⟩,
  .declares ⟨"java/lang/RuntimeException", "<init>", "(Ljava/lang/String;)V"⟩,
  .declares ⟨"java/lang/Exception", "<init>", "()V"⟩,
  .declares ⟨"java/lang/Exception", "<init>", "(Ljava/lang/String;)V"⟩,
  .declares ⟨"java/lang/Throwable", "<init>", "()V"⟩,
  .declares ⟨"java/lang/Throwable", "<init>", "(Ljava/lang/String;)V"⟩,
  .methodLinkNest "PileTricks" 96 ⟨"PileTricks$Reader", "read", "(I)I"⟩ "PileTricks",
  .methodLinkNest "PileTricks$Reader" 58 ⟨"PileTricks$Tape", "openText", "(I)V"⟩ "PileTricks",
  .fieldLinkNest "PileTricks$Tape" 75 "PileTricks$Word" "ALL" "[LPileTricks$Word;" "PileTricks",
  .methodLinkNest "PileTricks$Reader" 95 ⟨"PileTricks$Tape", "advance", "()V"⟩ "PileTricks",
  .methodLinkNest "PileTricks$Reader" 98 ⟨"PileTricks$Tape", "isLongNumber", "()Z"⟩ "PileTricks",
  .fieldLinkNest "PileTricks$Reader" 105 "PileTricks" "LEAST_TOLD" "[I" "PileTricks",
  .methodLinkNest "PileTricks$Reader" 88 ⟨"PileTricks", "at", "([II)I"⟩ "PileTricks",
  .fieldLinkNest "PileTricks$Reader" 108 "PileTricks" "MOST_TOLD" "[I" "PileTricks",
  .methodLinkNest "PileTricks$Reader" 111 ⟨"PileTricks", "isWithin", "(III)Z"⟩ "PileTricks",
  .methodLinkNest "PileTricks$Reader" 115 ⟨"PileTricks", "put", "([III)V"⟩ "PileTricks",
  .methodLinkNest "PileTricks$Reader" 131 ⟨"PileTricks$Rules", "readRule", "(I)I"⟩ "PileTricks",
  .methodLinkNest "PileTricks$Rules" 112 ⟨"PileTricks$Tape", "isLongNumber", "()Z"⟩ "PileTricks",
  .methodLinkNest "PileTricks$Rules" 68 ⟨"PileTricks$Tape", "advance", "()V"⟩ "PileTricks",
  .castable "java/util/NoSuchElementException" "java/util/NoSuchElementException",
  .methodLinkNest "PileTricks" 132 ⟨"PileTricks$Setting", "hasHeap", "(I)Z"⟩ "PileTricks",
  .methodLinkNest "PileTricks" 136 ⟨"PileTricks$Setting", "kindOf", "(I)I"⟩ "PileTricks",
  .methodLinkNest "PileTricks" 139 ⟨"PileTricks$Setting", "sideOf", "(I)I"⟩ "PileTricks",
  .methodLinkNest "PileTricks" 142 ⟨"PileTricks$Setting", "layingOf", "(II)I"⟩ "PileTricks",
  .methodLinkNest "PileTricks" 146 ⟨"PileTricks$Setting", "hasPlace", "(I)Z"⟩ "PileTricks",
  .methodLinkNest "PileTricks" 149 ⟨"PileTricks$Dealer", "hold", "(II)V"⟩ "PileTricks",
  .methodLinkNest "PileTricks" 153 ⟨"PileTricks$Dealer", "lay", "(III)V"⟩ "PileTricks",
  .methodLinkNest "PileTricks" 157 ⟨"PileTricks$Dealer", "newPlace", "(I)I"⟩ "PileTricks",
  .methodLinkNest "PileTricks" 164 ⟨"PileTricks$Setting", "followedEnd", "(II)I"⟩ "PileTricks",
  .methodLinkNest "PileTricks" 177 ⟨"PileTricks$Wishes", "rowsFor", "(II)I"⟩ "PileTricks",
  .methodLinkNest "PileTricks$Wishes" 53 ⟨"PileTricks", "power", "(II)I"⟩ "PileTricks",
  .methodLinkNest "PileTricks$Wishes" 69 ⟨"PileTricks$Setting", "kindOf", "(I)I"⟩ "PileTricks",
  .methodLinkNest "PileTricks$Wishes" 73 ⟨"PileTricks$Setting", "sideOf", "(I)I"⟩ "PileTricks",
  .methodLinkNest "PileTricks$Wishes" 76 ⟨"PileTricks$Dealer", "hold", "(II)V"⟩ "PileTricks",
  .methodLinkNest "PileTricks$Wishes" 82 ⟨"PileTricks$Dealer", "layOwn", "(II)V"⟩ "PileTricks",
  .methodLinkNest "PileTricks$Wishes" 85 ⟨"PileTricks$Dealer", "newPlace", "(I)I"⟩ "PileTricks",
  .methodLinkNest "PileTricks" 180 ⟨"PileTricks$Wishes", "keepFirst", "()V"⟩ "PileTricks",
  .methodLinkNest "PileTricks" 186 ⟨"PileTricks$Wishes", "keptLaying", "(I)I"⟩ "PileTricks",
  .methodLinkNest "PileTricks$Wishes" 39 ⟨"PileTricks", "figure", "(II)I"⟩ "PileTricks",
  .methodLinkNest "PileTricks" 201 ⟨"PileTricks$Dealer", "heapAt", "(I)I"⟩ "PileTricks",
  .methodLinkNest "PileTricks" 207 ⟨"PileTricks$Guesses", "mostLeft", "(I)I"⟩ "PileTricks",
  .methodLinkNest "PileTricks$Guesses" 35 ⟨"PileTricks", "put", "([III)V"⟩ "PileTricks",
  .methodLinkNest "PileTricks$Guesses" 50 ⟨"PileTricks$Setting", "kindOf", "(I)I"⟩ "PileTricks",
  .methodLinkNest "PileTricks$Guesses" 54 ⟨"PileTricks$Setting", "sideOf", "(I)I"⟩ "PileTricks",
  .methodLinkNest "PileTricks$Guesses" 57 ⟨"PileTricks$Dealer", "hold", "(II)V"⟩ "PileTricks",
  .methodLinkNest "PileTricks$Guesses" 62 ⟨"PileTricks$Setting", "layingOf", "(II)I"⟩ "PileTricks",
  .methodLinkNest "PileTricks$Guesses" 66 ⟨"PileTricks$Dealer", "lay", "(III)V"⟩ "PileTricks",
  .methodLinkNest "PileTricks$Guesses" 70 ⟨"PileTricks", "at", "([II)I"⟩ "PileTricks",
  .methodLinkNest "PileTricks$Guesses" 74 ⟨"PileTricks$Dealer", "heapAt", "(I)I"⟩ "PileTricks",
  .methodLinkNest "PileTricks$Guesses" 80 ⟨"PileTricks$Dealer", "newPlace", "(I)I"⟩ "PileTricks",
  .methodLinkNest "PileTricks" 244 ⟨"PileTricks$Table", "comesBy", "(ILPileTricks$Dealer;)Z"⟩ "PileTricks",
  .castable "PileTricks" "java/lang/Object",
  .castable "PileTricks$Tape" "java/lang/Object",
  .castable "PileTricks$Word" "java/lang/Object",
  .castable "PileTricks$Reader" "java/lang/Object",
  .castable "PileTricks$Rules" "java/lang/Object",
  .castable "PileTricks$Dealer" "java/lang/Object",
  .castable "PileTricks$Setting" "java/lang/Object",
  .castable "PileTricks$Wishes" "java/lang/Object",
  .castable "PileTricks$Guesses" "java/lang/Object",
  .castable "PileTricks$Table" "java/lang/Object",
  .castable "PileTricksModel" "java/lang/Object",
  .castable "java/lang/IllegalArgumentException" "java/lang/Object",
  .castable "java/util/NoSuchElementException" "java/lang/Object",
  .castable "java/lang/Throwable" "java/lang/Object",
  .castable "java/lang/String" "java/lang/Object",
  .fieldLinkNest "PileTricks$Tape" 79 "PileTricks$Word" "spelled" "Ljava/lang/String;" "PileTricks",
  .fieldLinkNest "PileTricks$Rules" 122 "PileTricks$Word" "value" "I" "PileTricks"]
theorem pg_N_in : ex_subl pg_N tables_1 = true := by decide +kernel
def pg_ro : Nat := 58
def pg_sts : List ex_St := [("PileTricks$Word", "CARDS", "LPileTricks$Word;", 0, 1, 0), ("PileTricks$Word", "HEAPS", "LPileTricks$Word;", 0, 2, 0), ("PileTricks$Word", "LIES", "LPileTricks$Word;", 0, 3, 0), ("PileTricks$Word", "WISH", "LPileTricks$Word;", 0, 4, 0), ("PileTricks$Word", "DEAL", "LPileTricks$Word;", 0, 5, 0), ("PileTricks$Word", "NAMED", "LPileTricks$Word;", 0, 6, 0), ("PileTricks$Word", "SIZE", "LPileTricks$Word;", 0, 7, 0), ("PileTricks$Word", "TURN", "LPileTricks$Word;", 0, 8, 0), ("PileTricks$Word", "FRO", "LPileTricks$Word;", 0, 9, 0), ("PileTricks$Word", "RUN", "LPileTricks$Word;", 0, 10, 0), ("PileTricks$Word", "UNDER", "LPileTricks$Word;", 0, 11, 0), ("PileTricks$Word", "OVER", "LPileTricks$Word;", 0, 12, 0), ("PileTricks$Word", "AT", "LPileTricks$Word;", 0, 13, 0), ("PileTricks$Word", "OR", "LPileTricks$Word;", 0, 14, 0), ("PileTricks$Word", "AND", "LPileTricks$Word;", 0, 15, 0), ("PileTricks$Word", "NOT", "LPileTricks$Word;", 0, 16, 0), ("PileTricks$Word", "OTHER", "LPileTricks$Word;", 0, 17, 0), ("PileTricks$Word", "ALL", "[LPileTricks$Word;", 0, 52, 0), ("PileTricks", "LEAST_TOLD", "[I", 0, 53, 0), ("PileTricks", "MOST_TOLD", "[I", 0, 54, 0), ("PileTricks", "TOLD_WITHOUT", "[I", 0, 55, 0), ("jdk/internal/util/Preconditions", "SIOOBE_FORMATTER", "Ljava/util/function/BiFunction;", 2, 56, 0), ("java/lang/String", "COMPACT_STRINGS", "Z", 1, 0, 1)]
def pg_tsl : List (String × Nat × Nat) := [("PileTricks", 95, 0), ("PileTricks", 131, 1)]
end
section
/-! The program's rows (written by wip/whole/gen.py) -/
def bk_0_0 : List ex_R := [(0, 1, .aload_n 0, [], 0), (1, 3, .invokespecial 3, [6], 208), (4, 1, .aload_n 0, [], 0), (5, 3, .sipush 180, [], 180), (8, 2, .newarray .int, [164], 0), (10, 3, .putfield 9, [0, 0, 2, 209, 2], 0), (13, 1, .aload_n 0, [], 0), (14, 3, .sipush 180, [], 180), (17, 2, .newarray .int, [164], 0), (19, 3, .putfield 15, [0, 1, 2, 210, 2], 0), (22, 1, .aload_n 0, [], 0), (23, 2, .bipush 18, [], 18), (25, 2, .newarray .int, [164], 0), (27, 3, .putfield 18, [0, 2, 2, 211, 2], 0), (30, 1, .aload_n 0, [], 0), (31, 2, .bipush 6, [], 6), (33, 2, .newarray .int, [164], 0), (35, 3, .putfield 21, [0, 3, 2, 212, 2], 0), (38, 1, .aload_n 0, [], 0), (39, 1, .iconst 0, [], 0), (40, 3, .putfield 24, [0, 4, 0, 213, 0], 0), (43, 1, .aload_n 0, [], 0), (44, 1, .iconst 0, [], 0), (45, 3, .putfield 28, [0, 5, 0, 214, 0], 0), (48, 1, .aload_n 0, [], 0), (49, 1, .iconst 0, [], 0), (50, 3, .putfield 31, [0, 6, 0, 215, 0], 0), (53, 1, .aload_n 0, [], 0), (54, 1, .iconst 0, [], 0), (55, 3, .putfield 34, [0, 7, 0, 216, 0], 0), (58, 1, .return_, [], 0)]
def me_0 : ex_M := (yX0_init, cX0_init, 1, none, RX0, [bk_0_0], [])
def bk_1_4 : List ex_R := [(114, 1, .return_, [], 0)]
def bk_1_3 : List ex_R := [(108, 3, .iinc 3 1, [], 1), (111, 3, .goto (-91), [1], 0)]
def bk_1_2 : List ex_R := [(28, 2, .iload 4, [], 0), (30, 1, .iload_n 1, [], 0), (31, 3, .if_icmp .ge 77, [3], 0), (34, 1, .aload_n 0, [], 0), (35, 1, .iload_n 3, [], 0), (36, 2, .iload 4, [], 0), (38, 3, .invokevirtual 43, [0, 2, 3, 0], 267), (41, 2, .istore 5, [], 0), (43, 1, .aload_n 0, [], 0), (44, 1, .iload_n 3, [], 0), (45, 2, .iload 5, [], 0), (47, 3, .invokevirtual 47, [0, 9, 3, 0], 273), (50, 2, .istore 6, [], 0), (52, 1, .aload_n 0, [], 0), (53, 3, .getfield 9, [0, 0, 2, 209, 0], 0), (56, 1, .iload_n 3, [], 0), (57, 2, .bipush 60, [], 60), (59, 1, .imul, [], 0), (60, 2, .iload 4, [], 0), (62, 1, .iadd, [], 0), (63, 2, .iload 5, [], 0), (65, 3, .invokestatic 50, [3, 128, 3, 0], 51), (68, 1, .aload_n 0, [], 0), (69, 3, .getfield 15, [0, 1, 2, 210, 0], 0), (72, 1, .iload_n 3, [], 0), (73, 2, .bipush 60, [], 60), (75, 1, .imul, [], 0), (76, 2, .iload 4, [], 0), (78, 1, .iadd, [], 0), (79, 2, .iload 6, [], 0), (81, 3, .invokestatic 50, [3, 128, 3, 0], 51), (84, 1, .aload_n 0, [], 0), (85, 3, .getfield 18, [0, 2, 2, 211, 0], 0), (88, 1, .iload_n 3, [], 0), (89, 2, .bipush 6, [], 6), (91, 1, .imul, [], 0), (92, 2, .iload 5, [], 0), (94, 1, .iadd, [], 0), (95, 2, .iload 6, [], 0), (97, 1, .iconst 1, [], 1), (98, 1, .iadd, [], 0), (99, 3, .invokestatic 50, [3, 128, 3, 0], 51), (102, 3, .iinc 4 1, [], 1), (105, 3, .goto (-77), [2], 0)]
def bk_1_1 : List ex_R := (20, 1, .iload_n 3, [], 0) :: (21, 1, .iconst 3, [], 3) :: (22, 3, .if_icmp .ge 92, [4], 0) :: (25, 1, .iconst 0, [], 0) :: (26, 2, .istore 4, [], 0) :: bk_1_2
def bk_1_0 : List ex_R := (0, 1, .aload_n 0, [], 0) :: (1, 1, .iload_n 1, [], 0) :: (2, 3, .putfield 24, [0, 4, 0, 213, 0], 0) :: (5, 1, .aload_n 0, [], 0) :: (6, 1, .iload_n 2, [], 0) :: (7, 3, .putfield 28, [0, 5, 0, 214, 0], 0) :: (10, 1, .aload_n 0, [], 0) :: (11, 3, .getfield 18, [0, 2, 2, 211, 0], 0) :: (14, 1, .iconst 0, [], 0) :: (15, 3, .invokestatic 37, [2, 220, 2, 0], 265) :: (18, 1, .iconst 0, [], 0) :: (19, 1, .istore_n 3, [], 0) :: bk_1_1
def me_1 : ex_M := (yX0_fit, cX0_fit, 7, none, RX0, [bk_1_0, bk_1_1, bk_1_2, bk_1_3, bk_1_4], [])
def bk_2_6 : List ex_R := [(112, 1, .ireturn, [], 0)]
def bk_2_5 : List ex_R := (101, 2, .iload 4, [], 0) :: (103, 1, .iload_n 2, [], 0) :: (104, 2, .iload 5, [], 0) :: (106, 1, .isub, [], 0) :: (107, 1, .iload_n 3, [], 0) :: (108, 3, .invokestatic 57, [3, 126, 2, 0], 49) :: (111, 1, .iadd, [], 0) :: bk_2_6
def bk_2_4 : List ex_R := [(52, 1, .aload_n 0, [], 0), (53, 3, .getfield 24, [0, 4, 0, 213, 0], 0), (56, 1, .aload_n 0, [], 0), (57, 3, .getfield 28, [0, 5, 0, 214, 0], 0), (60, 3, .invokestatic 57, [3, 126, 2, 0], 49), (63, 1, .istore_n 3, [], 0), (64, 1, .aload_n 0, [], 0), (65, 3, .getfield 24, [0, 4, 0, 213, 0], 0), (68, 1, .aload_n 0, [], 0), (69, 3, .getfield 28, [0, 5, 0, 214, 0], 0), (72, 3, .invokestatic 54, [3, 125, 2, 0], 48), (75, 2, .istore 4, [], 0), (77, 2, .iload 4, [], 0), (79, 1, .iload_n 3, [], 0), (80, 1, .iconst 1, [], 1), (81, 1, .iadd, [], 0), (82, 1, .imul, [], 0), (83, 2, .istore 5, [], 0), (85, 1, .iload_n 2, [], 0), (86, 2, .iload 5, [], 0), (88, 3, .if_icmp .ge 13, [5], 0), (91, 1, .iload_n 2, [], 0), (92, 1, .iload_n 3, [], 0), (93, 1, .iconst 1, [], 1), (94, 1, .iadd, [], 0), (95, 3, .invokestatic 57, [3, 126, 2, 0], 49), (98, 3, .goto 14, [6], 0)]
def bk_2_3 : List ex_R := [(51, 1, .ireturn, [], 0)]
def bk_2_2 : List ex_R := (41, 1, .iconst 2, [], 2) :: (42, 1, .aload_n 0, [], 0) :: (43, 3, .getfield 28, [0, 5, 0, 214, 0], 0) :: (46, 1, .imul, [], 0) :: (47, 1, .iconst 1, [], 1) :: (48, 1, .isub, [], 0) :: (49, 1, .iload_n 3, [], 0) :: (50, 1, .isub, [], 0) :: bk_2_3
def bk_2_1 : List ex_R := [(13, 1, .iload_n 1, [], 0), (14, 1, .iconst 1, [], 1), (15, 3, .if_icmp .ne 37, [4], 0), (18, 1, .iload_n 2, [], 0), (19, 1, .iconst 2, [], 2), (20, 1, .aload_n 0, [], 0), (21, 3, .getfield 28, [0, 5, 0, 214, 0], 0), (24, 1, .imul, [], 0), (25, 3, .invokestatic 54, [3, 125, 2, 0], 48), (28, 1, .istore_n 3, [], 0), (29, 1, .iload_n 3, [], 0), (30, 1, .aload_n 0, [], 0), (31, 3, .getfield 28, [0, 5, 0, 214, 0], 0), (34, 3, .if_icmp .ge 7, [2], 0), (37, 1, .iload_n 3, [], 0), (38, 3, .goto 13, [3], 0)]
def bk_2_0 : List ex_R := [(0, 1, .iload_n 1, [], 0), (1, 3, .ifCond .ne 12, [1], 0), (4, 1, .iload_n 2, [], 0), (5, 1, .aload_n 0, [], 0), (6, 3, .getfield 28, [0, 5, 0, 214, 0], 0), (9, 3, .invokestatic 54, [3, 125, 2, 0], 48), (12, 1, .ireturn, [], 0)]
def me_2 : ex_M := (yX0_heapBy, cX0_heapBy, 6, some .int, RX0, [bk_2_0, bk_2_1, bk_2_2, bk_2_3, bk_2_4, bk_2_5, bk_2_6], [])
def bk_3_0 : List ex_R := [(0, 1, .aload_n 0, [], 0), (1, 1, .iload_n 1, [], 0), (2, 3, .putfield 31, [0, 6, 0, 215, 0], 0), (5, 1, .aload_n 0, [], 0), (6, 1, .iload_n 2, [], 0), (7, 3, .putfield 34, [0, 7, 0, 216, 0], 0), (10, 1, .return_, [], 0)]
def me_3 : ex_M := (yX0_hold, cX0_hold, 3, none, RX0, [bk_3_0], [])
def bk_4_5 : List ex_R := [(80, 1, .return_, [], 0)]
def bk_4_4 : List ex_R := (65, 2, .iload 5, [], 0) :: (67, 1, .iload_n 1, [], 0) :: (68, 3, .if_icmp .gt 12, [5], 0) :: (71, 1, .aload_n 0, [], 0) :: (72, 2, .iload 4, [], 0) :: (74, 1, .iload_n 2, [], 0) :: (75, 1, .iload_n 3, [], 0) :: (76, 3, .invokevirtual 60, [0, 5, 4, 0], 348) :: (79, 1, .pop, [], 0) :: bk_4_5
def bk_4_3 : List ex_R := [(59, 3, .iinc 6 1, [], 1), (62, 3, .goto (-53), [1], 0)]
def bk_4_2 : List ex_R := (46, 1, .aload_n 0, [], 0) :: (47, 2, .iload 4, [], 0) :: (49, 2, .iload 6, [], 0) :: (51, 3, .invokevirtual 64, [0, 6, 3, 0], 350) :: (54, 2, .istore 4, [], 0) :: (56, 3, .iinc 5 1, [], 1) :: bk_4_3
def bk_4_1 : List ex_R := (9, 2, .iload 6, [], 0) :: (11, 1, .aload_n 0, [], 0) :: (12, 3, .getfield 28, [0, 5, 0, 214, 0], 0) :: (15, 3, .if_icmp .ge 50, [4], 0) :: (18, 2, .iload 6, [], 0) :: (20, 1, .iload_n 2, [], 0) :: (21, 3, .if_icmp .eq 38, [3], 0) :: (24, 2, .iload 6, [], 0) :: (26, 1, .iload_n 3, [], 0) :: (27, 3, .if_icmp .eq 32, [3], 0) :: (30, 2, .iload 5, [], 0) :: (32, 1, .iload_n 1, [], 0) :: (33, 3, .if_icmp .ne 13, [2], 0) :: (36, 1, .aload_n 0, [], 0) :: (37, 2, .iload 4, [], 0) :: (39, 1, .iload_n 2, [], 0) :: (40, 1, .iload_n 3, [], 0) :: (41, 3, .invokevirtual 60, [0, 5, 4, 0], 348) :: (44, 2, .istore 4, [], 0) :: bk_4_2
def bk_4_0 : List ex_R := (0, 1, .iconst 0, [], 0) :: (1, 2, .istore 4, [], 0) :: (3, 1, .iconst 0, [], 0) :: (4, 2, .istore 5, [], 0) :: (6, 1, .iconst 0, [], 0) :: (7, 2, .istore 6, [], 0) :: bk_4_1
def me_4 : ex_M := (yX0_lay, cX0_lay, 7, none, RX0, [bk_4_0, bk_4_1, bk_4_2, bk_4_3, bk_4_4, bk_4_5], [])
def bk_5_2 : List ex_R := [(25, 1, .ireturn, [], 0)]
def bk_5_1 : List ex_R := (18, 1, .aload_n 0, [], 0) :: (19, 2, .iload 4, [], 0) :: (21, 1, .iload_n 3, [], 0) :: (22, 3, .invokevirtual 64, [0, 6, 3, 0], 350) :: bk_5_2
def bk_5_0 : List ex_R := [(0, 1, .aload_n 0, [], 0), (1, 1, .iload_n 1, [], 0), (2, 1, .iload_n 2, [], 0), (3, 3, .invokevirtual 64, [0, 6, 3, 0], 350), (6, 2, .istore 4, [], 0), (8, 1, .iload_n 2, [], 0), (9, 1, .iload_n 3, [], 0), (10, 3, .if_icmp .ne 8, [1], 0), (13, 2, .iload 4, [], 0), (15, 3, .goto 10, [2], 0)]
def me_5 : ex_M := (yX0_layNamed, cX0_layNamed, 5, some .int, RX0, [bk_5_0, bk_5_1, bk_5_2], [])
def bk_6_0 : List ex_R := [(0, 1, .aload_n 0, [], 0), (1, 3, .getfield 21, [0, 3, 2, 212, 0], 0), (4, 1, .iload_n 2, [], 0), (5, 1, .iload_n 1, [], 0), (6, 3, .invokestatic 50, [3, 128, 3, 0], 51), (9, 1, .iload_n 1, [], 0), (10, 1, .aload_n 0, [], 0), (11, 3, .getfield 18, [0, 2, 2, 211, 0], 0), (14, 1, .aload_n 0, [], 0), (15, 3, .getfield 31, [0, 6, 0, 215, 0], 0), (18, 2, .bipush 6, [], 6), (20, 1, .imul, [], 0), (21, 1, .iload_n 2, [], 0), (22, 1, .iadd, [], 0), (23, 3, .invokestatic 67, [3, 127, 2, 0], 50), (26, 1, .iadd, [], 0), (27, 1, .ireturn, [], 0)]
def me_6 : ex_M := (yX0_layHeap, cX0_layHeap, 3, some .int, RX0, [bk_6_0], [])
def bk_7_3 : List ex_R := [(51, 1, .aload_n 0, [], 0), (52, 3, .getfield 21, [0, 3, 2, 212, 0], 0), (55, 1, .iload_n 1, [], 0), (56, 1, .iload_n 3, [], 0), (57, 3, .invokestatic 50, [3, 128, 3, 0], 51), (60, 1, .return_, [], 0)]
def bk_7_2 : List ex_R := [(45, 3, .iinc 5 1, [], 1), (48, 3, .goto (-40), [1], 0)]
def bk_7_1 : List ex_R := (8, 2, .iload 5, [], 0) :: (10, 1, .aload_n 0, [], 0) :: (11, 3, .getfield 28, [0, 5, 0, 214, 0], 0) :: (14, 3, .if_icmp .ge 37, [3], 0) :: (17, 2, .iload 4, [], 0) :: (19, 1, .iload_n 2, [], 0) :: (20, 3, .if_icmp .ge 31, [3], 0) :: (23, 2, .iload 5, [], 0) :: (25, 1, .iload_n 1, [], 0) :: (26, 3, .if_icmp .eq 19, [2], 0) :: (29, 1, .iload_n 3, [], 0) :: (30, 1, .aload_n 0, [], 0) :: (31, 1, .aload_n 0, [], 0) :: (32, 3, .getfield 31, [0, 6, 0, 215, 0], 0) :: (35, 2, .iload 5, [], 0) :: (37, 3, .invokevirtual 47, [0, 9, 3, 0], 273) :: (40, 1, .iadd, [], 0) :: (41, 1, .istore_n 3, [], 0) :: (42, 3, .iinc 4 1, [], 1) :: bk_7_2
def bk_7_0 : List ex_R := (0, 1, .iconst 0, [], 0) :: (1, 1, .istore_n 3, [], 0) :: (2, 1, .iconst 0, [], 0) :: (3, 2, .istore 4, [], 0) :: (5, 1, .iconst 0, [], 0) :: (6, 2, .istore 5, [], 0) :: bk_7_1
def me_7 : ex_M := (yX0_layOwn, cX0_layOwn, 6, none, RX0, [bk_7_0, bk_7_1, bk_7_2, bk_7_3], [])
def bk_8_0 : List ex_R := [(0, 1, .aload_n 0, [], 0), (1, 3, .getfield 9, [0, 0, 2, 209, 0], 0), (4, 1, .aload_n 0, [], 0), (5, 3, .getfield 31, [0, 6, 0, 215, 0], 0), (8, 2, .bipush 60, [], 60), (10, 1, .imul, [], 0), (11, 1, .iload_n 1, [], 0), (12, 1, .iadd, [], 0), (13, 3, .invokestatic 67, [3, 127, 2, 0], 50), (16, 1, .ireturn, [], 0)]
def me_8 : ex_M := (yX0_heapAt, cX0_heapAt, 2, some .int, RX0, [bk_8_0], [])
def bk_9_0 : List ex_R := [(0, 1, .aload_n 0, [], 0), (1, 3, .getfield 18, [0, 2, 2, 211, 0], 0), (4, 1, .iload_n 1, [], 0), (5, 2, .bipush 6, [], 6), (7, 1, .imul, [], 0), (8, 1, .iload_n 2, [], 0), (9, 1, .iadd, [], 0), (10, 3, .invokestatic 67, [3, 127, 2, 0], 50), (13, 1, .ireturn, [], 0)]
def me_9 : ex_M := (yX0_sizeOf, cX0_sizeOf, 3, some .int, RX0, [bk_9_0], [])
def bk_10_2 : List ex_R := [(47, 2, .istore 4, [], 0), (49, 1, .aload_n 0, [], 0), (50, 3, .getfield 21, [0, 3, 2, 212, 0], 0), (53, 1, .iload_n 2, [], 0), (54, 3, .invokestatic 67, [3, 127, 2, 0], 50), (57, 2, .iload 4, [], 0), (59, 1, .iadd, [], 0), (60, 1, .ireturn, [], 0)]
def bk_10_1 : List ex_R := (34, 1, .aload_n 0, [], 0) :: (35, 1, .aload_n 0, [], 0) :: (36, 3, .getfield 31, [0, 6, 0, 215, 0], 0) :: (39, 1, .iload_n 2, [], 0) :: (40, 3, .invokevirtual 47, [0, 9, 3, 0], 273) :: (43, 1, .iconst 1, [], 1) :: (44, 1, .isub, [], 0) :: (45, 1, .iload_n 3, [], 0) :: (46, 1, .isub, [], 0) :: bk_10_2
def bk_10_0 : List ex_R := [(0, 1, .aload_n 0, [], 0), (1, 1, .iload_n 1, [], 0), (2, 3, .invokevirtual 71, [0, 8, 2, 0], 297), (5, 1, .istore_n 2, [], 0), (6, 1, .aload_n 0, [], 0), (7, 3, .getfield 15, [0, 1, 2, 210, 0], 0), (10, 1, .aload_n 0, [], 0), (11, 3, .getfield 31, [0, 6, 0, 215, 0], 0), (14, 2, .bipush 60, [], 60), (16, 1, .imul, [], 0), (17, 1, .iload_n 1, [], 0), (18, 1, .iadd, [], 0), (19, 3, .invokestatic 67, [3, 127, 2, 0], 50), (22, 1, .istore_n 3, [], 0), (23, 1, .aload_n 0, [], 0), (24, 3, .getfield 34, [0, 7, 0, 216, 0], 0), (27, 3, .ifCond .ne 7, [1], 0), (30, 1, .iload_n 3, [], 0), (31, 3, .goto 16, [2], 0)]
def me_10 : ex_M := (yX0_newPlace, cX0_newPlace, 5, some .int, RX0, [bk_10_0, bk_10_1, bk_10_2], [])
def bk_11_0 : List ex_R := [(0, 1, .aload_n 0, [], 0), (1, 3, .invokespecial 3, [6], 245), (4, 1, .aload_n 0, [], 0), (5, 3, .sipush 420, [], 420), (8, 2, .newarray .int, [164], 0), (10, 3, .putfield 9, [1, 2, 2, 248, 2], 0), (13, 1, .aload_n 0, [], 0), (14, 1, .iconst 0, [], 0), (15, 3, .putfield 15, [1, 3, 0, 249, 0], 0), (18, 1, .aload_n 0, [], 0), (19, 1, .iconst 0, [], 0), (20, 3, .putfield 19, [1, 4, 0, 250, 0], 0), (23, 1, .aload_n 0, [], 0), (24, 1, .aload_n 1, [], 0), (25, 3, .putfield 22, [1, 0, 2, 246, 2], 0), (28, 1, .aload_n 0, [], 0), (29, 1, .aload_n 2, [], 0), (30, 3, .putfield 26, [1, 1, 2, 247, 2], 0), (33, 1, .return_, [], 0)]
def me_11 : ex_M := (yX1_init, cX1_init, 3, none, RX1, [bk_11_0], [])
def bk_12_2 : List ex_R := [(38, 1, .aload_n 0, [], 0), (39, 1, .iconst 0, [], 0), (40, 1, .aload_n 0, [], 0), (41, 3, .getfield 22, [1, 0, 2, 246, 0], 0), (44, 3, .getfield 30, [4, 4, 0, 25, 1], 0), (47, 3, .invokevirtual 39, [0, 13, 3, 1], 605), (50, 1, .aload_n 0, [], 0), (51, 3, .getfield 19, [1, 4, 0, 250, 0], 0), (54, 1, .ireturn, [], 0)]
def bk_12_1 : List ex_R := [(12, 1, .iload_n 2, [], 0), (13, 1, .aload_n 0, [], 0), (14, 3, .getfield 22, [1, 0, 2, 246, 0], 0), (17, 3, .getfield 30, [4, 4, 0, 25, 1], 0), (20, 3, .if_icmp .ge 18, [2], 0), (23, 1, .aload_n 0, [], 0), (24, 3, .getfield 9, [1, 2, 2, 248, 0], 0), (27, 1, .iload_n 2, [], 0), (28, 1, .iload_n 2, [], 0), (29, 3, .invokestatic 35, [3, 128, 3, 0], 123), (32, 3, .iinc 2 1, [], 1), (35, 3, .goto (-23), [1], 0)]
def bk_12_0 : List ex_R := (0, 1, .aload_n 0, [], 0) :: (1, 1, .iload_n 1, [], 0) :: (2, 3, .putfield 15, [1, 3, 0, 249, 0], 0) :: (5, 1, .aload_n 0, [], 0) :: (6, 1, .iconst 0, [], 0) :: (7, 3, .putfield 19, [1, 4, 0, 250, 0], 0) :: (10, 1, .iconst 0, [], 0) :: (11, 1, .istore_n 2, [], 0) :: bk_12_1
def me_12 : ex_M := (yX1_mostLeft, cX1_mostLeft, 3, some .int, RX1, [bk_12_0, bk_12_1, bk_12_2], [])
def bk_13_4 : List ex_R := [(56, 1, .return_, [], 0)]
def bk_13_3 : List ex_R := [(25, 1, .iload_n 3, [], 0), (26, 1, .aload_n 0, [], 0), (27, 3, .getfield 22, [1, 0, 2, 246, 0], 0), (30, 3, .getfield 43, [4, 5, 0, 29, 1], 0), (33, 3, .if_icmp .ge 23, [4], 0), (36, 1, .aload_n 0, [], 0), (37, 1, .iload_n 1, [], 0), (38, 1, .iconst 1, [], 1), (39, 1, .iadd, [], 0), (40, 1, .aload_n 0, [], 0), (41, 1, .iload_n 1, [], 0), (42, 1, .iload_n 2, [], 0), (43, 1, .iload_n 3, [], 0), (44, 3, .invokevirtual 46, [0, 14, 4, 1], 607), (47, 3, .invokevirtual 39, [0, 13, 3, 1], 605), (50, 3, .iinc 3 1, [], 1), (53, 3, .goto (-28), [3], 0)]
def bk_13_2 : List ex_R := (23, 1, .iconst 0, [], 0) :: (24, 1, .istore_n 3, [], 0) :: bk_13_3
def bk_13_1 : List ex_R := [(9, 1, .iload_n 1, [], 0), (10, 1, .aload_n 0, [], 0), (11, 3, .getfield 15, [1, 3, 0, 249, 0], 0), (14, 3, .if_icmp .lt 9, [2], 0), (17, 1, .aload_n 0, [], 0), (18, 1, .iload_n 2, [], 0), (19, 3, .putfield 19, [1, 4, 0, 250, 0], 0), (22, 1, .return_, [], 0)]
def bk_13_0 : List ex_R := [(0, 1, .iload_n 2, [], 0), (1, 1, .aload_n 0, [], 0), (2, 3, .getfield 19, [1, 4, 0, 250, 0], 0), (5, 3, .if_icmp .gt 4, [1], 0), (8, 1, .return_, [], 0)]
def me_13 : ex_M := (yX1_nameAll, cX1_nameAll, 4, none, RX1, [bk_13_0, bk_13_1, bk_13_2, bk_13_3, bk_13_4], [])
def bk_14_5 : List ex_R := [(154, 2, .iload 4, [], 0), (156, 1, .ireturn, [], 0)]
def bk_14_4 : List ex_R := [(148, 3, .iinc 5 1, [], 1), (151, 3, .goto (-104), [1], 0)]
def bk_14_3 : List ex_R := (99, 1, .iadd, [], 0) :: (100, 2, .istore 8, [], 0) :: (102, 2, .iload 8, [], 0) :: (104, 1, .aload_n 0, [], 0) :: (105, 3, .getfield 22, [1, 0, 2, 246, 0], 0) :: (108, 3, .getfield 77, [4, 6, 0, 32, 1], 0) :: (111, 3, .if_icmp .gt 37, [4], 0) :: (114, 1, .aload_n 0, [], 0) :: (115, 3, .getfield 9, [1, 2, 2, 248, 0], 0) :: (118, 1, .iload_n 1, [], 0) :: (119, 1, .iconst 1, [], 1) :: (120, 1, .iadd, [], 0) :: (121, 2, .bipush 60, [], 60) :: (123, 1, .imul, [], 0) :: (124, 2, .iload 4, [], 0) :: (126, 1, .iadd, [], 0) :: (127, 2, .iload 8, [], 0) :: (129, 2, .bipush 64, [], 64) :: (131, 1, .imul, [], 0) :: (132, 1, .aload_n 0, [], 0) :: (133, 3, .getfield 26, [1, 1, 2, 247, 0], 0) :: (136, 2, .iload 7, [], 0) :: (138, 3, .invokevirtual 80, [1, 10, 2, 0], 131) :: (141, 1, .iadd, [], 0) :: (142, 3, .invokestatic 35, [3, 128, 3, 0], 123) :: (145, 3, .iinc 4 1, [], 1) :: bk_14_4
def bk_14_2 : List ex_R := (98, 1, .iconst 1, [], 1) :: bk_14_3
def bk_14_1 : List ex_R := [(47, 2, .iload 5, [], 0), (49, 1, .iload_n 2, [], 0), (50, 3, .if_icmp .ge 104, [5], 0), (53, 1, .aload_n 0, [], 0), (54, 3, .getfield 9, [1, 2, 2, 248, 0], 0), (57, 1, .iload_n 1, [], 0), (58, 2, .bipush 60, [], 60), (60, 1, .imul, [], 0), (61, 2, .iload 5, [], 0), (63, 1, .iadd, [], 0), (64, 3, .invokestatic 70, [3, 127, 2, 0], 129), (67, 2, .istore 6, [], 0), (69, 2, .iload 6, [], 0), (71, 2, .bipush 64, [], 64), (73, 1, .irem, [], 0), (74, 2, .istore 7, [], 0), (76, 2, .iload 6, [], 0), (78, 2, .bipush 64, [], 64), (80, 1, .idiv, [], 0), (81, 1, .aload_n 0, [], 0), (82, 3, .getfield 26, [1, 1, 2, 247, 0], 0), (85, 2, .iload 7, [], 0), (87, 3, .invokevirtual 74, [1, 8, 2, 0], 130), (90, 1, .iload_n 3, [], 0), (91, 3, .if_icmp .ne 7, [2], 0), (94, 1, .iconst 0, [], 0), (95, 3, .goto 4, [3], 0)]
def bk_14_0 : List ex_R := (0, 1, .aload_n 0, [], 0) :: (1, 3, .getfield 26, [1, 1, 2, 247, 0], 0) :: (4, 1, .aload_n 0, [], 0) :: (5, 3, .getfield 22, [1, 0, 2, 246, 0], 0) :: (8, 1, .iload_n 1, [], 0) :: (9, 3, .invokevirtual 50, [1, 51, 2, 4], 124) :: (12, 1, .aload_n 0, [], 0) :: (13, 3, .getfield 22, [1, 0, 2, 246, 0], 0) :: (16, 1, .iload_n 1, [], 0) :: (17, 3, .invokevirtual 54, [1, 52, 2, 4], 125) :: (20, 3, .invokevirtual 57, [1, 3, 3, 0], 126) :: (23, 1, .aload_n 0, [], 0) :: (24, 3, .getfield 26, [1, 1, 2, 247, 0], 0) :: (27, 1, .aload_n 0, [], 0) :: (28, 3, .getfield 22, [1, 0, 2, 246, 0], 0) :: (31, 1, .iload_n 1, [], 0) :: (32, 1, .iload_n 3, [], 0) :: (33, 3, .invokevirtual 62, [1, 53, 3, 4], 127) :: (36, 1, .iload_n 3, [], 0) :: (37, 1, .iload_n 3, [], 0) :: (38, 3, .invokevirtual 66, [1, 4, 4, 0], 128) :: (41, 1, .iconst 0, [], 0) :: (42, 2, .istore 4, [], 0) :: (44, 1, .iconst 0, [], 0) :: (45, 2, .istore 5, [], 0) :: bk_14_1
def me_14 : ex_M := (yX1_leftBehind, cX1_leftBehind, 9, some .int, RX1, [bk_14_0, bk_14_1, bk_14_2, bk_14_3, bk_14_4, bk_14_5], [])
def bk_15_0 : List ex_R := [(0, 1, .aload_n 0, [], 0), (1, 3, .invokespecial 3, [6], 169), (4, 1, .aload_n 0, [], 0), (5, 1, .iconst 4, [], 4), (6, 2, .newarray .int, [164], 0), (8, 3, .putfield 9, [2, 2, 2, 199, 2], 0), (11, 1, .aload_n 0, [], 0), (12, 1, .iconst 4, [], 4), (13, 2, .newarray .boolean, [188], 0), (15, 3, .putfield 15, [2, 3, 2, 200, 2], 0), (18, 1, .aload_n 0, [], 0), (19, 2, .bipush 8, [], 8), (21, 2, .newarray .int, [164], 0), (23, 3, .putfield 19, [2, 4, 2, 201, 2], 0), (26, 1, .aload_n 0, [], 0), (27, 2, .bipush 8, [], 8), (29, 2, .newarray .int, [164], 0), (31, 3, .putfield 22, [2, 5, 2, 202, 2], 0), (34, 1, .aload_n 0, [], 0), (35, 1, .iconst 0, [], 0), (36, 3, .putfield 25, [2, 6, 0, 203, 0], 0), (39, 1, .aload_n 0, [], 0), (40, 1, .iconst (-1), [], (-1)), (41, 3, .putfield 29, [2, 7, 0, 204, 0], 0), (44, 1, .aload_n 0, [], 0), (45, 1, .aload_n 1, [], 0), (46, 3, .putfield 32, [2, 0, 2, 197, 2], 0), (49, 1, .aload_n 0, [], 0), (50, 3, .new 36, [0, 3, 170, 171, 124], 0), (53, 1, .dup, [], 0), (54, 1, .aload_n 1, [], 0), (55, 3, .invokespecial 38, [5, 24, 2, 3], 12), (58, 3, .putfield 41, [2, 1, 2, 198, 2], 0), (61, 1, .aload_n 0, [], 0), (62, 3, .invokevirtual 45, [0, 16, 1, 2], 189), (65, 1, .return_, [], 0)]
def me_15 : ex_M := (yX2_init, cX2_init, 2, none, RX2, [bk_15_0], [])
def bk_16_2 : List ex_R := [(34, 1, .aload_n 0, [], 0), (35, 1, .iconst 0, [], 0), (36, 3, .putfield 25, [2, 6, 0, 203, 0], 0), (39, 1, .aload_n 0, [], 0), (40, 3, .getfield 41, [2, 1, 2, 198, 0], 0), (43, 1, .iconst 0, [], 0), (44, 3, .putfield 55, [3, 7, 0, 13, 1], 0), (47, 1, .return_, [], 0)]
def bk_16_1 : List ex_R := [(12, 1, .iload_n 1, [], 0), (13, 1, .aload_n 0, [], 0), (14, 3, .getfield 15, [2, 3, 2, 200, 0], 0), (17, 1, .arraylength, [], 0), (18, 3, .if_icmp .ge 16, [2], 0), (21, 1, .aload_n 0, [], 0), (22, 3, .getfield 15, [2, 3, 2, 200, 0], 0), (25, 1, .iload_n 1, [], 0), (26, 1, .iconst 0, [], 0), (27, 1, .bastore, [], 0), (28, 3, .iinc 1 1, [], 1), (31, 3, .goto (-19), [1], 0)]
def bk_16_0 : List ex_R := (0, 3, .getstatic 48, [0, 55, 20, 14, 1], 0) :: (3, 1, .aload_n 0, [], 0) :: (4, 3, .getfield 9, [2, 2, 2, 199, 0], 0) :: (7, 3, .invokestatic 51, [3, 129, 2, 0], 15) :: (10, 1, .iconst 0, [], 0) :: (11, 1, .istore_n 1, [], 0) :: bk_16_1
def me_16 : ex_M := (yX2_forget, cX2_forget, 2, none, RX2, [bk_16_0, bk_16_1, bk_16_2], [])
def bk_17_9 : List ex_R := [(134, 3, .putfield 29, [2, 7, 0, 204, 0], 0), (137, 1, .iload_n 2, [], 0), (138, 1, .ireturn, [], 0)]
def bk_17_8 : List ex_R := (127, 1, .aload_n 0, [], 0) :: (128, 3, .getfield 32, [2, 0, 2, 197, 0], 0) :: (131, 3, .getfield 92, [6, 4, 0, 2, 1], 0) :: bk_17_9
def bk_17_7 : List ex_R := [(118, 1, .aload_n 0, [], 0), (119, 1, .iload_n 2, [], 0), (120, 3, .ifCond .ne 7, [8], 0), (123, 1, .iconst (-1), [], (-1)), (124, 3, .goto 10, [9], 0)]
def bk_17_6 : List ex_R := (93, 1, .iload_n 2, [], 0) :: (94, 3, .ifCond .ne 24, [7], 0) :: (97, 1, .aload_n 0, [], 0) :: (98, 3, .getfield 9, [2, 2, 2, 199, 0], 0) :: (101, 1, .iconst 1, [], 1) :: (102, 3, .invokestatic 88, [3, 127, 2, 0], 94) :: (105, 1, .aload_n 0, [], 0) :: (106, 3, .getfield 9, [2, 2, 2, 199, 0], 0) :: (109, 1, .iconst 0, [], 0) :: (110, 3, .invokestatic 88, [3, 127, 2, 0], 94) :: (113, 3, .if_icmp .le 5, [7], 0) :: (116, 1, .iconst 5, [], 5) :: (117, 1, .istore_n 2, [], 0) :: bk_17_7
def bk_17_5 : List ex_R := [(87, 3, .iinc 3 1, [], 1), (90, 3, .goto (-74), [1], 0)]
def bk_17_4 : List ex_R := (86, 1, .istore_n 2, [], 0) :: bk_17_5
def bk_17_3 : List ex_R := (85, 1, .iconst 1, [], 1) :: bk_17_4
def bk_17_2 : List ex_R := [(65, 1, .aload_n 0, [], 0), (66, 3, .getfield 32, [2, 0, 2, 197, 0], 0), (69, 3, .getfield 67, [6, 6, 2, 5, 1], 0), (72, 3, .getstatic 79, [0, 5, 4, 472, 0], 0), (75, 3, .if_acmp .ne 10, [3], 0), (78, 1, .aload_n 0, [], 0), (79, 3, .invokevirtual 84, [0, 19, 1, 2], 473), (82, 3, .goto 4, [4], 0)]
def bk_17_1 : List ex_R := [(16, 1, .iload_n 3, [], 0), (17, 3, .sipush 500, [], 500), (20, 3, .if_icmp .ge 73, [6], 0), (23, 1, .iload_n 2, [], 0), (24, 3, .ifCond .ne 69, [6], 0), (27, 1, .aload_n 0, [], 0), (28, 3, .getfield 32, [2, 0, 2, 197, 0], 0), (31, 3, .getfield 64, [6, 5, 0, 3, 1], 0), (34, 3, .ifCond .eq 59, [6], 0), (37, 1, .aload_n 0, [], 0), (38, 3, .getfield 32, [2, 0, 2, 197, 0], 0), (41, 3, .getfield 67, [6, 6, 2, 5, 1], 0), (44, 3, .invokestatic 71, [2, 21, 1, 0], 461), (47, 2, .istore 4, [], 0), (49, 2, .iload 4, [], 0), (51, 1, .iconst (-1), [], (-1)), (52, 3, .if_icmp .eq 13, [2], 0), (55, 1, .aload_n 0, [], 0), (56, 2, .iload 4, [], 0), (58, 3, .invokevirtual 75, [0, 18, 2, 2], 467), (61, 1, .istore_n 2, [], 0), (62, 3, .goto 25, [5], 0)]
def bk_17_0 : List ex_R := (0, 1, .aload_n 0, [], 0) :: (1, 3, .invokevirtual 45, [0, 16, 1, 2], 189) :: (4, 1, .aload_n 0, [], 0) :: (5, 3, .getfield 32, [2, 0, 2, 197, 0], 0) :: (8, 1, .iload_n 1, [], 0) :: (9, 3, .invokevirtual 58, [1, 71, 2, 6], 89) :: (12, 1, .iconst 0, [], 0) :: (13, 1, .istore_n 2, [], 0) :: (14, 1, .iconst 0, [], 0) :: (15, 1, .istore_n 3, [], 0) :: bk_17_1
def me_17 : ex_M := (yX2_read, cX2_read, 5, some .int, RX2, [bk_17_0, bk_17_1, bk_17_2, bk_17_3, bk_17_4, bk_17_5, bk_17_6, bk_17_7, bk_17_8, bk_17_9], [])
def bk_18_5 : List ex_R := [(90, 1, .aload_n 0, [], 0), (91, 3, .getfield 9, [2, 2, 2, 199, 0], 0), (94, 1, .iload_n 1, [], 0), (95, 1, .aload_n 0, [], 0), (96, 3, .getfield 32, [2, 0, 2, 197, 0], 0), (99, 3, .getfield 102, [6, 7, 0, 7, 1], 0), (102, 3, .invokestatic 115, [3, 128, 3, 0], 97), (105, 1, .aload_n 0, [], 0), (106, 3, .getfield 32, [2, 0, 2, 197, 0], 0), (109, 3, .invokevirtual 95, [1, 72, 1, 6], 91), (112, 1, .aload_n 0, [], 0), (113, 3, .invokevirtual 119, [0, 20, 1, 2], 470), (116, 1, .ireturn, [], 0)]
def bk_18_4 : List ex_R := [(88, 1, .iconst 2, [], 2), (89, 1, .ireturn, [], 0)]
def bk_18_3 : List ex_R := (51, 1, .aload_n 0, [], 0) :: (52, 3, .getfield 32, [2, 0, 2, 197, 0], 0) :: (55, 3, .invokevirtual 98, [1, 75, 1, 6], 92) :: (58, 3, .ifCond .ne 30, [4], 0) :: (61, 1, .aload_n 0, [], 0) :: (62, 3, .getfield 32, [2, 0, 2, 197, 0], 0) :: (65, 3, .getfield 102, [6, 7, 0, 7, 1], 0) :: (68, 3, .getstatic 105, [0, 53, 18, 93, 1], 0) :: (71, 1, .iload_n 1, [], 0) :: (72, 3, .invokestatic 88, [3, 127, 2, 0], 94) :: (75, 3, .getstatic 108, [0, 54, 19, 95, 1], 0) :: (78, 1, .iload_n 1, [], 0) :: (79, 3, .invokestatic 88, [3, 127, 2, 0], 94) :: (82, 3, .invokestatic 111, [3, 122, 3, 0], 96) :: (85, 3, .ifCond .ne 5, [5], 0) :: bk_18_4
def bk_18_2 : List ex_R := [(24, 1, .aload_n 0, [], 0), (25, 3, .getfield 15, [2, 3, 2, 200, 0], 0), (28, 1, .iload_n 1, [], 0), (29, 1, .iconst 1, [], 1), (30, 1, .bastore, [], 0), (31, 1, .aload_n 0, [], 0), (32, 3, .getfield 32, [2, 0, 2, 197, 0], 0), (35, 3, .invokevirtual 95, [1, 72, 1, 6], 91), (38, 1, .aload_n 0, [], 0), (39, 3, .getfield 32, [2, 0, 2, 197, 0], 0), (42, 3, .getfield 64, [6, 5, 0, 3, 1], 0), (45, 1, .iconst 2, [], 2), (46, 3, .if_icmp .eq 5, [3], 0), (49, 1, .iconst 1, [], 1), (50, 1, .ireturn, [], 0)]
def bk_18_1 : List ex_R := [(22, 1, .iconst 4, [], 4), (23, 1, .ireturn, [], 0)]
def bk_18_0 : List ex_R := (0, 1, .iload_n 1, [], 0) :: (1, 3, .ifCond .lt 21, [1], 0) :: (4, 1, .iload_n 1, [], 0) :: (5, 1, .aload_n 0, [], 0) :: (6, 3, .getfield 15, [2, 3, 2, 200, 0], 0) :: (9, 1, .arraylength, [], 0) :: (10, 3, .if_icmp .ge 12, [1], 0) :: (13, 1, .aload_n 0, [], 0) :: (14, 3, .getfield 15, [2, 3, 2, 200, 0], 0) :: (17, 1, .iload_n 1, [], 0) :: (18, 1, .baload, [], 0) :: (19, 3, .ifCond .eq 5, [2], 0) :: bk_18_1
def me_18 : ex_M := (yX2_readNumber, cX2_readNumber, 2, some .int, RX2, [bk_18_0, bk_18_1, bk_18_2, bk_18_3, bk_18_4, bk_18_5], [])
def bk_19_5 : List ex_R := [(108, 1, .aload_n 0, [], 0), (109, 3, .getfield 19, [2, 4, 2, 201, 0], 0), (112, 1, .aload_n 0, [], 0), (113, 3, .getfield 25, [2, 6, 0, 203, 0], 0), (116, 1, .iload_n 1, [], 0), (117, 3, .invokestatic 115, [3, 128, 3, 0], 97), (120, 1, .aload_n 0, [], 0), (121, 3, .getfield 22, [2, 5, 2, 202, 0], 0), (124, 1, .aload_n 0, [], 0), (125, 3, .getfield 25, [2, 6, 0, 203, 0], 0), (128, 1, .iload_n 2, [], 0), (129, 3, .invokestatic 115, [3, 128, 3, 0], 97), (132, 1, .aload_n 0, [], 0), (133, 1, .dup, [], 0), (134, 3, .getfield 25, [2, 6, 0, 203, 0], 0), (137, 1, .iconst 1, [], 1), (138, 1, .iadd, [], 0), (139, 3, .putfield 25, [2, 6, 0, 203, 0], 0), (142, 1, .aload_n 0, [], 0), (143, 3, .invokevirtual 119, [0, 20, 1, 2], 470), (146, 1, .ireturn, [], 0)]
def bk_19_4 : List ex_R := [(83, 1, .aload_n 0, [], 0), (84, 3, .getfield 32, [2, 0, 2, 197, 0], 0), (87, 3, .invokevirtual 95, [1, 72, 1, 6], 91), (90, 1, .aload_n 0, [], 0), (91, 3, .getfield 41, [2, 1, 2, 198, 0], 0), (94, 1, .aload_n 0, [], 0), (95, 3, .getfield 25, [2, 6, 0, 203, 0], 0), (98, 3, .invokevirtual 131, [1, 25, 2, 3], 98), (101, 1, .istore_n 3, [], 0), (102, 1, .iload_n 3, [], 0), (103, 3, .ifCond .eq 5, [5], 0), (106, 1, .iload_n 3, [], 0), (107, 1, .ireturn, [], 0)]
def bk_19_3 : List ex_R := [(61, 1, .aload_n 0, [], 0), (62, 3, .getfield 32, [2, 0, 2, 197, 0], 0), (65, 3, .invokevirtual 95, [1, 72, 1, 6], 91), (68, 1, .aload_n 0, [], 0), (69, 3, .getfield 32, [2, 0, 2, 197, 0], 0), (72, 3, .getfield 67, [6, 6, 2, 5, 1], 0), (75, 3, .getstatic 128, [0, 13, 12, 484, 0], 0), (78, 3, .if_acmp .eq 5, [4], 0), (81, 1, .iconst 1, [], 1), (82, 1, .ireturn, [], 0)]
def bk_19_2 : List ex_R := [(36, 1, .aload_n 0, [], 0), (37, 3, .getfield 32, [2, 0, 2, 197, 0], 0), (40, 3, .invokevirtual 95, [1, 72, 1, 6], 91), (43, 1, .aload_n 0, [], 0), (44, 3, .getfield 32, [2, 0, 2, 197, 0], 0), (47, 3, .getfield 67, [6, 6, 2, 5, 1], 0), (50, 3, .invokestatic 125, [2, 23, 1, 0], 480), (53, 1, .istore_n 2, [], 0), (54, 1, .iload_n 2, [], 0), (55, 1, .iconst (-1), [], (-1)), (56, 3, .if_icmp .ne 5, [3], 0), (59, 1, .iconst 1, [], 1), (60, 1, .ireturn, [], 0)]
def bk_19_1 : List ex_R := [(11, 1, .aload_n 0, [], 0), (12, 3, .getfield 32, [2, 0, 2, 197, 0], 0), (15, 3, .invokevirtual 95, [1, 72, 1, 6], 91), (18, 1, .aload_n 0, [], 0), (19, 3, .getfield 32, [2, 0, 2, 197, 0], 0), (22, 3, .getfield 67, [6, 6, 2, 5, 1], 0), (25, 3, .invokestatic 122, [2, 22, 1, 0], 475), (28, 1, .istore_n 1, [], 0), (29, 1, .iload_n 1, [], 0), (30, 1, .iconst (-1), [], (-1)), (31, 3, .if_icmp .ne 5, [2], 0), (34, 1, .iconst 1, [], 1), (35, 1, .ireturn, [], 0)]
def bk_19_0 : List ex_R := [(0, 1, .aload_n 0, [], 0), (1, 3, .getfield 25, [2, 6, 0, 203, 0], 0), (4, 2, .bipush 8, [], 8), (6, 3, .if_icmp .lt 5, [1], 0), (9, 1, .iconst 2, [], 2), (10, 1, .ireturn, [], 0)]
def me_19 : ex_M := (yX2_readDeal, cX2_readDeal, 4, some .int, RX2, [bk_19_0, bk_19_1, bk_19_2, bk_19_3, bk_19_4, bk_19_5], [])
def bk_20_1 : List ex_R := [(14, 1, .aload_n 0, [], 0), (15, 3, .getfield 32, [2, 0, 2, 197, 0], 0), (18, 3, .invokevirtual 95, [1, 72, 1, 6], 91), (21, 1, .iconst 0, [], 0), (22, 1, .ireturn, [], 0)]
def bk_20_0 : List ex_R := [(0, 1, .aload_n 0, [], 0), (1, 3, .getfield 32, [2, 0, 2, 197, 0], 0), (4, 3, .getfield 134, [6, 8, 0, 10, 1], 0), (7, 2, .bipush 59, [], 59), (9, 3, .if_icmp .eq 5, [1], 0), (12, 1, .iconst 1, [], 1), (13, 1, .ireturn, [], 0)]
def me_20 : ex_M := (yX2_readLineEnd, cX2_readLineEnd, 1, some .int, RX2, [bk_20_0, bk_20_1], [])
def bk_21_5 : List ex_R := [(39, 1, .ireturn, [], 0)]
def bk_21_4 : List ex_R := (38, 1, .iconst (-1), [], (-1)) :: bk_21_5
def bk_21_3 : List ex_R := [(27, 1, .aload_n 0, [], 0), (28, 3, .getstatic 146, [0, 4, 3, 466, 0], 0), (31, 3, .if_acmp .ne 7, [4], 0), (34, 1, .iconst 3, [], 3), (35, 3, .goto 4, [5], 0)]
def bk_21_2 : List ex_R := [(18, 1, .aload_n 0, [], 0), (19, 3, .getstatic 143, [0, 3, 2, 465, 0], 0), (22, 3, .if_acmp .ne 5, [3], 0), (25, 1, .iconst 2, [], 2), (26, 1, .ireturn, [], 0)]
def bk_21_1 : List ex_R := [(9, 1, .aload_n 0, [], 0), (10, 3, .getstatic 140, [0, 2, 1, 464, 0], 0), (13, 3, .if_acmp .ne 5, [2], 0), (16, 1, .iconst 1, [], 1), (17, 1, .ireturn, [], 0)]
def bk_21_0 : List ex_R := [(0, 1, .aload_n 0, [], 0), (1, 3, .getstatic 137, [0, 1, 0, 463, 0], 0), (4, 3, .if_acmp .ne 5, [1], 0), (7, 1, .iconst 0, [], 0), (8, 1, .ireturn, [], 0)]
def me_21 : ex_M := (yX2_numberTold, cX2_numberTold, 1, some .int, RX2, [bk_21_0, bk_21_1, bk_21_2, bk_21_3, bk_21_4, bk_21_5], [])
def bk_22_4 : List ex_R := [(30, 1, .ireturn, [], 0)]
def bk_22_3 : List ex_R := (29, 1, .iconst (-1), [], (-1)) :: bk_22_4
def bk_22_2 : List ex_R := [(18, 1, .aload_n 0, [], 0), (19, 3, .getstatic 155, [0, 10, 9, 479, 0], 0), (22, 3, .if_acmp .ne 7, [3], 0), (25, 1, .iconst 2, [], 2), (26, 3, .goto 4, [4], 0)]
def bk_22_1 : List ex_R := [(9, 1, .aload_n 0, [], 0), (10, 3, .getstatic 152, [0, 9, 8, 478, 0], 0), (13, 3, .if_acmp .ne 5, [2], 0), (16, 1, .iconst 1, [], 1), (17, 1, .ireturn, [], 0)]
def bk_22_0 : List ex_R := [(0, 1, .aload_n 0, [], 0), (1, 3, .getstatic 149, [0, 8, 7, 477, 0], 0), (4, 3, .if_acmp .ne 5, [1], 0), (7, 1, .iconst 0, [], 0), (8, 1, .ireturn, [], 0)]
def me_22 : ex_M := (yX2_kindTold, cX2_kindTold, 1, some .int, RX2, [bk_22_0, bk_22_1, bk_22_2, bk_22_3, bk_22_4], [])
def bk_23_3 : List ex_R := [(21, 1, .ireturn, [], 0)]
def bk_23_2 : List ex_R := (20, 1, .iconst (-1), [], (-1)) :: bk_23_3
def bk_23_1 : List ex_R := [(9, 1, .aload_n 0, [], 0), (10, 3, .getstatic 161, [0, 12, 11, 483, 0], 0), (13, 3, .if_acmp .ne 7, [2], 0), (16, 1, .iconst 1, [], 1), (17, 3, .goto 4, [3], 0)]
def bk_23_0 : List ex_R := [(0, 1, .aload_n 0, [], 0), (1, 3, .getstatic 158, [0, 11, 10, 482, 0], 0), (4, 3, .if_acmp .ne 5, [1], 0), (7, 1, .iconst 0, [], 0), (8, 1, .ireturn, [], 0)]
def me_23 : ex_M := (yX2_sideTold, cX2_sideTold, 1, some .int, RX2, [bk_23_0, bk_23_1, bk_23_2, bk_23_3], [])
def bk_24_0 : List ex_R := [(0, 1, .aload_n 0, [], 0), (1, 3, .invokespecial 3, [6], 173), (4, 1, .aload_n 0, [], 0), (5, 3, .sipush 500, [], 500), (8, 2, .newarray .int, [164], 0), (10, 3, .putfield 9, [3, 1, 2, 175, 2], 0), (13, 1, .aload_n 0, [], 0), (14, 2, .bipush 8, [], 8), (16, 2, .newarray .int, [164], 0), (18, 3, .putfield 15, [3, 2, 2, 176, 2], 0), (21, 1, .aload_n 0, [], 0), (22, 2, .bipush 100, [], 100), (24, 2, .newarray .int, [164], 0), (26, 3, .putfield 18, [3, 3, 2, 177, 2], 0), (29, 1, .aload_n 0, [], 0), (30, 2, .bipush 7, [], 7), (32, 2, .newarray .boolean, [188], 0), (34, 3, .putfield 21, [3, 4, 2, 178, 2], 0), (37, 1, .aload_n 0, [], 0), (38, 2, .bipush 6, [], 6), (40, 2, .newarray .int, [164], 0), (42, 3, .putfield 25, [3, 5, 2, 179, 2], 0), (45, 1, .aload_n 0, [], 0), (46, 2, .bipush 50, [], 50), (48, 2, .newarray .int, [164], 0), (50, 3, .putfield 28, [3, 6, 2, 180, 2], 0), (53, 1, .aload_n 0, [], 0), (54, 1, .iconst 0, [], 0), (55, 3, .putfield 31, [3, 7, 0, 181, 0], 0), (58, 1, .aload_n 0, [], 0), (59, 1, .iconst 0, [], 0), (60, 3, .putfield 35, [3, 8, 0, 182, 0], 0), (63, 1, .aload_n 0, [], 0), (64, 1, .iconst 0, [], 0), (65, 3, .putfield 38, [3, 9, 0, 183, 0], 0), (68, 1, .aload_n 0, [], 0), (69, 1, .iconst 0, [], 0), (70, 3, .putfield 41, [3, 10, 0, 184, 0], 0), (73, 1, .aload_n 0, [], 0), (74, 1, .iconst 1, [], 1), (75, 3, .putfield 44, [3, 11, 3, 185, 0], 0), (78, 1, .aload_n 0, [], 0), (79, 1, .iconst 1, [], 1), (80, 3, .putfield 48, [3, 12, 3, 186, 0], 0), (83, 1, .aload_n 0, [], 0), (84, 1, .iconst 0, [], 0), (85, 3, .putfield 51, [3, 13, 3, 187, 0], 0), (88, 1, .aload_n 0, [], 0), (89, 1, .aload_n 1, [], 0), (90, 3, .putfield 54, [3, 0, 2, 174, 2], 0), (93, 1, .return_, [], 0)]
def me_24 : ex_M := (yX3_init, cX3_init, 2, none, RX3, [bk_24_0], [])
def bk_25_6 : List ex_R := [(80, 1, .aload_n 0, [], 0), (81, 3, .getfield 15, [3, 2, 2, 176, 0], 0), (84, 1, .iload_n 1, [], 0), (85, 1, .aload_n 0, [], 0), (86, 3, .getfield 31, [3, 7, 0, 181, 0], 0), (89, 3, .invokestatic 73, [3, 128, 3, 0], 54), (92, 1, .iconst 0, [], 0), (93, 1, .ireturn, [], 0)]
def bk_25_5 : List ex_R := [(74, 3, .iinc 2 1, [], 1), (77, 3, .goto (-56), [1], 0)]
def bk_25_4 : List ex_R := (60, 1, .aload_n 0, [], 0) :: (61, 3, .getfield 51, [3, 13, 3, 187, 0], 0) :: (64, 3, .ifCond .ne 10, [5], 0) :: (67, 1, .aload_n 0, [], 0) :: (68, 3, .getfield 54, [3, 0, 2, 174, 0], 0) :: (71, 3, .invokevirtual 68, [1, 72, 1, 6], 100) :: bk_25_5
def bk_25_3 : List ex_R := [(53, 1, .istore_n 3, [], 0), (54, 1, .iload_n 3, [], 0), (55, 3, .ifCond .eq 5, [4], 0), (58, 1, .iload_n 3, [], 0), (59, 1, .ireturn, [], 0)]
def bk_25_2 : List ex_R := (49, 1, .aload_n 0, [], 0) :: (50, 3, .invokevirtual 65, [0, 32, 1, 3], 505) :: bk_25_3
def bk_25_1 : List ex_R := [(21, 1, .iload_n 2, [], 0), (22, 3, .sipush 500, [], 500), (25, 3, .if_icmp .gt 55, [6], 0), (28, 1, .aload_n 0, [], 0), (29, 3, .getfield 51, [3, 13, 3, 187, 0], 0), (32, 3, .ifCond .ne 48, [6], 0), (35, 1, .aload_n 0, [], 0), (36, 3, .getfield 48, [3, 12, 3, 186, 0], 0), (39, 3, .ifCond .eq 10, [2], 0), (42, 1, .aload_n 0, [], 0), (43, 3, .invokevirtual 61, [0, 28, 1, 3], 492), (46, 3, .goto 7, [3], 0)]
def bk_25_0 : List ex_R := (0, 1, .aload_n 0, [], 0) :: (1, 1, .iconst 0, [], 0) :: (2, 3, .putfield 35, [3, 8, 0, 182, 0], 0) :: (5, 1, .aload_n 0, [], 0) :: (6, 1, .iconst 0, [], 0) :: (7, 3, .putfield 38, [3, 9, 0, 183, 0], 0) :: (10, 1, .aload_n 0, [], 0) :: (11, 1, .iconst 0, [], 0) :: (12, 3, .putfield 51, [3, 13, 3, 187, 0], 0) :: (15, 1, .aload_n 0, [], 0) :: (16, 3, .invokevirtual 58, [0, 26, 1, 3], 486) :: (19, 1, .iconst 0, [], 0) :: (20, 1, .istore_n 2, [], 0) :: bk_25_1
def me_25 : ex_M := (yX3_readRule, cX3_readRule, 4, some .int, RX3, [bk_25_0, bk_25_1, bk_25_2, bk_25_3, bk_25_4, bk_25_5, bk_25_6], [])
def bk_26_0 : List ex_R := [(0, 1, .aload_n 0, [], 0), (1, 1, .iconst 0, [], 0), (2, 3, .invokevirtual 77, [0, 41, 2, 3], 488), (5, 1, .aload_n 0, [], 0), (6, 3, .invokevirtual 81, [0, 27, 1, 3], 490), (9, 1, .return_, [], 0)]
def me_26 : ex_M := (yX3_openExpr, cX3_openExpr, 1, none, RX3, [bk_26_0], [])
def bk_27_0 : List ex_R := [(0, 1, .aload_n 0, [], 0), (1, 1, .iconst 1, [], 1), (2, 3, .putfield 48, [3, 12, 3, 186, 0], 0), (5, 1, .aload_n 0, [], 0), (6, 1, .iconst 1, [], 1), (7, 3, .putfield 44, [3, 11, 3, 185, 0], 0), (10, 1, .aload_n 0, [], 0), (11, 1, .iconst 0, [], 0), (12, 3, .putfield 41, [3, 10, 0, 184, 0], 0), (15, 1, .return_, [], 0)]
def me_27 : ex_M := (yX3_openNot, cX3_openNot, 1, none, RX3, [bk_27_0], [])
def bk_28_8 : List ex_R := [(130, 1, .ireturn, [], 0)]
def bk_28_7 : List ex_R := (126, 1, .aload_n 0, [], 0) :: (127, 3, .invokevirtual 109, [0, 31, 1, 3], 503) :: bk_28_8
def bk_28_6 : List ex_R := [(108, 1, .aload_n 0, [], 0), (109, 3, .getfield 54, [3, 0, 2, 174, 0], 0), (112, 3, .getfield 87, [6, 5, 0, 4, 1], 0), (115, 1, .iconst 2, [], 2), (116, 3, .if_icmp .ne 10, [7], 0), (119, 1, .aload_n 0, [], 0), (120, 3, .invokevirtual 106, [0, 30, 1, 3], 499), (123, 3, .goto 7, [8], 0)]
def bk_28_5 : List ex_R := [(83, 1, .aload_n 0, [], 0), (84, 3, .getfield 54, [3, 0, 2, 174, 0], 0), (87, 3, .getfield 94, [6, 6, 2, 6, 1], 0), (90, 3, .getstatic 98, [0, 16, 15, 496, 0], 0), (93, 3, .if_acmp .ne 15, [6], 0), (96, 1, .aload_n 0, [], 0), (97, 3, .getfield 44, [3, 11, 3, 185, 0], 0), (100, 3, .ifCond .eq 8, [6], 0), (103, 1, .aload_n 0, [], 0), (104, 3, .invokevirtual 103, [0, 29, 1, 3], 497), (107, 1, .ireturn, [], 0)]
def bk_28_4 : List ex_R := [(57, 1, .iload_n 1, [], 0), (58, 3, .ifCond .eq 25, [5], 0), (61, 1, .aload_n 0, [], 0), (62, 2, .bipush (-16), [], (-16)), (64, 3, .invokevirtual 90, [0, 37, 2, 3], 494), (67, 1, .aload_n 0, [], 0), (68, 1, .dup, [], 0), (69, 3, .getfield 38, [3, 9, 0, 183, 0], 0), (72, 1, .iconst 1, [], 1), (73, 1, .iadd, [], 0), (74, 3, .putfield 38, [3, 9, 0, 183, 0], 0), (77, 1, .aload_n 0, [], 0), (78, 3, .invokevirtual 58, [0, 26, 1, 3], 486), (81, 1, .iconst 0, [], 0), (82, 1, .ireturn, [], 0)]
def bk_28_3 : List ex_R := [(46, 1, .aload_n 0, [], 0), (47, 3, .getfield 38, [3, 9, 0, 183, 0], 0), (50, 2, .bipush 6, [], 6), (52, 3, .if_icmp .lt 5, [4], 0), (55, 1, .iconst 2, [], 2), (56, 1, .ireturn, [], 0)]
def bk_28_2 : List ex_R := [(17, 1, .istore_n 1, [], 0), (18, 1, .iload_n 1, [], 0), (19, 3, .ifCond .ne 27, [3], 0), (22, 1, .aload_n 0, [], 0), (23, 3, .getfield 54, [3, 0, 2, 174, 0], 0), (26, 3, .getfield 87, [6, 5, 0, 4, 1], 0), (29, 1, .iconst 2, [], 2), (30, 3, .if_icmp .eq 16, [3], 0), (33, 1, .aload_n 0, [], 0), (34, 3, .getfield 54, [3, 0, 2, 174, 0], 0), (37, 3, .getfield 87, [6, 5, 0, 4, 1], 0), (40, 1, .iconst 1, [], 1), (41, 3, .if_icmp .eq 5, [3], 0), (44, 1, .iconst 1, [], 1), (45, 1, .ireturn, [], 0)]
def bk_28_1 : List ex_R := (16, 1, .iconst 0, [], 0) :: bk_28_2
def bk_28_0 : List ex_R := [(0, 1, .aload_n 0, [], 0), (1, 3, .getfield 54, [3, 0, 2, 174, 0], 0), (4, 3, .getfield 84, [6, 8, 0, 9, 1], 0), (7, 2, .bipush 40, [], 40), (9, 3, .if_icmp .ne 7, [1], 0), (12, 1, .iconst 1, [], 1), (13, 3, .goto 4, [2], 0)]
def me_28 : ex_M := (yX3_readPart, cX3_readPart, 2, some .int, RX3, [bk_28_0, bk_28_1, bk_28_2, bk_28_3, bk_28_4, bk_28_5, bk_28_6, bk_28_7, bk_28_8], [])
def bk_29_1 : List ex_R := [(11, 1, .aload_n 0, [], 0), (12, 1, .dup, [], 0), (13, 3, .getfield 41, [3, 10, 0, 184, 0], 0), (16, 1, .iconst 1, [], 1), (17, 1, .iadd, [], 0), (18, 3, .putfield 41, [3, 10, 0, 184, 0], 0), (21, 1, .aload_n 0, [], 0), (22, 2, .bipush (-9), [], (-9)), (24, 3, .invokevirtual 90, [0, 37, 2, 3], 494), (27, 1, .iconst 0, [], 0), (28, 1, .ireturn, [], 0)]
def bk_29_0 : List ex_R := [(0, 1, .aload_n 0, [], 0), (1, 3, .getfield 41, [3, 10, 0, 184, 0], 0), (4, 2, .bipush 6, [], 6), (6, 3, .if_icmp .lt 5, [1], 0), (9, 1, .iconst 2, [], 2), (10, 1, .ireturn, [], 0)]
def me_29 : ex_M := (yX3_readNot, cX3_readNot, 1, some .int, RX3, [bk_29_0, bk_29_1], [])
def bk_30_1 : List ex_R := [(12, 1, .aload_n 0, [], 0), (13, 1, .aload_n 0, [], 0), (14, 3, .getfield 54, [3, 0, 2, 174, 0], 0), (17, 3, .getfield 116, [6, 7, 0, 8, 1], 0), (20, 3, .invokevirtual 119, [0, 39, 2, 3], 501), (23, 1, .aload_n 0, [], 0), (24, 1, .iconst 0, [], 0), (25, 3, .putfield 48, [3, 12, 3, 186, 0], 0), (28, 1, .iconst 0, [], 0), (29, 1, .ireturn, [], 0)]
def bk_30_0 : List ex_R := [(0, 1, .aload_n 0, [], 0), (1, 3, .getfield 54, [3, 0, 2, 174, 0], 0), (4, 3, .invokevirtual 112, [1, 75, 1, 6], 99), (7, 3, .ifCond .eq 5, [1], 0), (10, 1, .iconst 2, [], 2), (11, 1, .ireturn, [], 0)]
def me_30 : ex_M := (yX3_readNumberPart, cX3_readNumberPart, 1, some .int, RX3, [bk_30_0, bk_30_1], [])
def bk_31_1 : List ex_R := [(15, 1, .aload_n 0, [], 0), (16, 1, .aload_n 0, [], 0), (17, 3, .getfield 54, [3, 0, 2, 174, 0], 0), (20, 3, .getfield 94, [6, 6, 2, 6, 1], 0), (23, 3, .getfield 122, [100, 1, 0, 149, 1], 0), (26, 3, .invokevirtual 119, [0, 39, 2, 3], 501), (29, 1, .aload_n 0, [], 0), (30, 1, .iconst 0, [], 0), (31, 3, .putfield 48, [3, 12, 3, 186, 0], 0), (34, 1, .iconst 0, [], 0), (35, 1, .ireturn, [], 0)]
def bk_31_0 : List ex_R := [(0, 1, .aload_n 0, [], 0), (1, 3, .getfield 54, [3, 0, 2, 174, 0], 0), (4, 3, .getfield 94, [6, 6, 2, 6, 1], 0), (7, 3, .getfield 122, [100, 1, 0, 149, 1], 0), (10, 3, .ifCond .ne 5, [1], 0), (13, 1, .iconst 3, [], 3), (14, 1, .ireturn, [], 0)]
def me_31 : ex_M := (yX3_readValue, cX3_readValue, 1, some .int, RX3, [bk_31_0, bk_31_1], [])
def bk_32_9 : List ex_R := [(113, 1, .iconst 0, [], 0), (114, 1, .ireturn, [], 0)]
def bk_32_8 : List ex_R := (108, 1, .aload_n 0, [], 0) :: (109, 1, .iconst 0, [], 0) :: (110, 3, .putfield 44, [3, 11, 3, 185, 0], 0) :: bk_32_9
def bk_32_7 : List ex_R := [(100, 1, .aload_n 0, [], 0), (101, 1, .iconst 0, [], 0), (102, 3, .invokevirtual 77, [0, 41, 2, 3], 488), (105, 3, .goto 8, [9], 0)]
def bk_32_6 : List ex_R := (71, 1, .aload_n 0, [], 0) :: (72, 1, .iload_n 1, [], 0) :: (73, 3, .invokestatic 137, [2, 36, 1, 0], 509) :: (76, 3, .invokevirtual 141, [0, 38, 2, 3], 511) :: (79, 1, .aload_n 0, [], 0) :: (80, 1, .iload_n 1, [], 0) :: (81, 3, .invokevirtual 90, [0, 37, 2, 3], 494) :: (84, 1, .aload_n 0, [], 0) :: (85, 3, .invokevirtual 81, [0, 27, 1, 3], 490) :: (88, 1, .iload_n 1, [], 0) :: (89, 2, .bipush (-8), [], (-8)) :: (91, 3, .if_icmp .eq 9, [7], 0) :: (94, 1, .iload_n 1, [], 0) :: (95, 2, .bipush (-7), [], (-7)) :: (97, 3, .if_icmp .ne 11, [8], 0) :: bk_32_7
def bk_32_5 : List ex_R := (66, 1, .aload_n 0, [], 0) :: (67, 1, .iconst 1, [], 1) :: (68, 3, .invokevirtual 77, [0, 41, 2, 3], 488) :: bk_32_6
def bk_32_4 : List ex_R := [(57, 1, .aload_n 0, [], 0), (58, 3, .invokevirtual 134, [0, 40, 1, 3], 521), (61, 3, .ifCond .eq 5, [5], 0), (64, 1, .iconst 1, [], 1), (65, 1, .ireturn, [], 0)]
def bk_32_3 : List ex_R := (45, 1, .iload_n 1, [], 0) :: (46, 2, .bipush (-10), [], (-10)) :: (48, 3, .if_icmp .eq 9, [4], 0) :: (51, 1, .iload_n 1, [], 0) :: (52, 2, .bipush (-11), [], (-11)) :: (54, 3, .if_icmp .ne 17, [6], 0) :: bk_32_4
def bk_32_2 : List ex_R := [(34, 1, .aload_n 0, [], 0), (35, 3, .invokevirtual 131, [0, 35, 1, 3], 517), (38, 1, .istore_n 1, [], 0), (39, 1, .iload_n 1, [], 0), (40, 3, .ifCond .ne 5, [3], 0), (43, 1, .iconst 1, [], 1), (44, 1, .ireturn, [], 0)]
def bk_32_1 : List ex_R := [(17, 1, .aload_n 0, [], 0), (18, 3, .getfield 54, [3, 0, 2, 174, 0], 0), (21, 3, .getfield 84, [6, 8, 0, 9, 1], 0), (24, 2, .bipush 41, [], 41), (26, 3, .if_icmp .ne 8, [2], 0), (29, 1, .aload_n 0, [], 0), (30, 3, .invokevirtual 128, [0, 34, 1, 3], 513), (33, 1, .ireturn, [], 0)]
def bk_32_0 : List ex_R := [(0, 1, .aload_n 0, [], 0), (1, 3, .getfield 54, [3, 0, 2, 174, 0], 0), (4, 3, .getfield 84, [6, 8, 0, 9, 1], 0), (7, 2, .bipush 59, [], 59), (9, 3, .if_icmp .ne 8, [1], 0), (12, 1, .aload_n 0, [], 0), (13, 3, .invokevirtual 125, [0, 33, 1, 3], 507), (16, 1, .ireturn, [], 0)]
def me_32 : ex_M := (yX3_readBehindPart, cX3_readBehindPart, 2, some .int, RX3, [bk_32_0, bk_32_1, bk_32_2, bk_32_3, bk_32_4, bk_32_5, bk_32_6, bk_32_7, bk_32_8, bk_32_9], [])
def bk_33_1 : List ex_R := [(9, 1, .aload_n 0, [], 0), (10, 2, .bipush (-7), [], (-7)), (12, 3, .invokestatic 137, [2, 36, 1, 0], 509), (15, 3, .invokevirtual 141, [0, 38, 2, 3], 511), (18, 1, .aload_n 0, [], 0), (19, 1, .iconst 1, [], 1), (20, 3, .putfield 51, [3, 13, 3, 187, 0], 0), (23, 1, .iconst 0, [], 0), (24, 1, .ireturn, [], 0)]
def bk_33_0 : List ex_R := [(0, 1, .aload_n 0, [], 0), (1, 3, .getfield 38, [3, 9, 0, 183, 0], 0), (4, 3, .ifCond .le 5, [1], 0), (7, 1, .iconst 1, [], 1), (8, 1, .ireturn, [], 0)]
def me_33 : ex_M := (yX3_closeRule, cX3_closeRule, 1, some .int, RX3, [bk_33_0, bk_33_1], [])
def bk_34_1 : List ex_R := [(9, 1, .aload_n 0, [], 0), (10, 2, .bipush (-7), [], (-7)), (12, 3, .invokestatic 137, [2, 36, 1, 0], 509), (15, 3, .invokevirtual 141, [0, 38, 2, 3], 511), (18, 1, .aload_n 0, [], 0), (19, 1, .aload_n 0, [], 0), (20, 3, .getfield 35, [3, 8, 0, 182, 0], 0), (23, 1, .iconst 1, [], 1), (24, 1, .isub, [], 0), (25, 1, .iconst 0, [], 0), (26, 3, .invokestatic 144, [2, 212, 2, 0], 515), (29, 3, .putfield 35, [3, 8, 0, 182, 0], 0), (32, 1, .aload_n 0, [], 0), (33, 1, .dup, [], 0), (34, 3, .getfield 38, [3, 9, 0, 183, 0], 0), (37, 1, .iconst 1, [], 1), (38, 1, .isub, [], 0), (39, 3, .putfield 38, [3, 9, 0, 183, 0], 0), (42, 1, .iconst 0, [], 0), (43, 1, .ireturn, [], 0)]
def bk_34_0 : List ex_R := [(0, 1, .aload_n 0, [], 0), (1, 3, .getfield 38, [3, 9, 0, 183, 0], 0), (4, 3, .ifCond .gt 5, [1], 0), (7, 1, .iconst 1, [], 1), (8, 1, .ireturn, [], 0)]
def me_34 : ex_M := (yX3_closeExpr, cX3_closeExpr, 1, some .int, RX3, [bk_34_0, bk_34_1], [])
def bk_35_9 : List ex_R := [(150, 1, .iconst 0, [], 0), (151, 1, .ireturn, [], 0)]
def bk_35_8 : List ex_R := [(147, 2, .bipush (-15), [], (-15)), (149, 1, .ireturn, [], 0)]
def bk_35_7 : List ex_R := [(144, 2, .bipush (-14), [], (-14)), (146, 1, .ireturn, [], 0)]
def bk_35_6 : List ex_R := [(141, 2, .bipush (-13), [], (-13)), (143, 1, .ireturn, [], 0)]
def bk_35_5 : List ex_R := [(138, 2, .bipush (-12), [], (-12)), (140, 1, .ireturn, [], 0)]
def bk_35_4 : List ex_R := [(135, 2, .bipush (-11), [], (-11)), (137, 1, .ireturn, [], 0)]
def bk_35_3 : List ex_R := [(132, 2, .bipush (-10), [], (-10)), (134, 1, .ireturn, [], 0)]
def bk_35_2 : List ex_R := [(32, 1, .aload_n 0, [], 0), (33, 3, .getfield 54, [3, 0, 2, 174, 0], 0), (36, 3, .getfield 84, [6, 8, 0, 9, 1], 0), (39, 93, .tableswitch 111 42 61 #[105, 99, 111, 102, 111, 108, 111, 111, 111, 111, 111, 111, 111, 111, 111, 111, 111, 111, 93, 96], [9, 7, 5, 9, 6, 9, 8, 9, 9, 9, 9, 9, 9, 9, 9, 9, 9, 9, 9, 3, 4], 0)]
def bk_35_1 : List ex_R := [(16, 1, .aload_n 0, [], 0), (17, 3, .getfield 54, [3, 0, 2, 174, 0], 0), (20, 3, .getfield 94, [6, 6, 2, 6, 1], 0), (23, 3, .getstatic 153, [0, 15, 14, 520, 0], 0), (26, 3, .if_acmp .ne 6, [2], 0), (29, 2, .bipush (-8), [], (-8)), (31, 1, .ireturn, [], 0)]
def bk_35_0 : List ex_R := [(0, 1, .aload_n 0, [], 0), (1, 3, .getfield 54, [3, 0, 2, 174, 0], 0), (4, 3, .getfield 94, [6, 6, 2, 6, 1], 0), (7, 3, .getstatic 150, [0, 14, 13, 519, 0], 0), (10, 3, .if_acmp .ne 6, [1], 0), (13, 2, .bipush (-7), [], (-7)), (15, 1, .ireturn, [], 0)]
def me_35 : ex_M := (yX3_operatorThere, cX3_operatorThere, 1, some .int, RX3, [bk_35_0, bk_35_1, bk_35_2, bk_35_3, bk_35_4, bk_35_5, bk_35_6, bk_35_7, bk_35_8, bk_35_9], [])
def bk_36_7 : List ex_R := [(65, 1, .iconst 0, [], 0), (66, 1, .ireturn, [], 0)]
def bk_36_6 : List ex_R := [(62, 2, .bipush 6, [], 6), (64, 1, .ireturn, [], 0)]
def bk_36_5 : List ex_R := [(60, 1, .iconst 5, [], 5), (61, 1, .ireturn, [], 0)]
def bk_36_4 : List ex_R := [(58, 1, .iconst 4, [], 4), (59, 1, .ireturn, [], 0)]
def bk_36_3 : List ex_R := [(56, 1, .iconst 3, [], 3), (57, 1, .ireturn, [], 0)]
def bk_36_2 : List ex_R := [(54, 1, .iconst 2, [], 2), (55, 1, .ireturn, [], 0)]
def bk_36_1 : List ex_R := [(52, 1, .iconst 1, [], 1), (53, 1, .ireturn, [], 0)]
def bk_36_0 : List ex_R := [(0, 1, .iload_n 0, [], 0), (1, 51, .tableswitch 64 (-15) (-7) #[61, 61, 59, 59, 57, 57, 55, 53, 51], [7, 6, 6, 5, 5, 4, 4, 3, 2, 1], 0)]
def me_36 : ex_M := (yX3_bindingOf, cX3_bindingOf, 1, some .int, RX3, [bk_36_0, bk_36_1, bk_36_2, bk_36_3, bk_36_4, bk_36_5, bk_36_6, bk_36_7], [])
def bk_37_1 : List ex_R := [(32, 1, .return_, [], 0)]
def bk_37_0 : List ex_R := (0, 1, .aload_n 0, [], 0) :: (1, 3, .getfield 35, [3, 8, 0, 182, 0], 0) :: (4, 1, .aload_n 0, [], 0) :: (5, 3, .getfield 18, [3, 3, 2, 177, 0], 0) :: (8, 1, .arraylength, [], 0) :: (9, 3, .if_icmp .ge 23, [1], 0) :: (12, 1, .aload_n 0, [], 0) :: (13, 3, .getfield 18, [3, 3, 2, 177, 0], 0) :: (16, 1, .aload_n 0, [], 0) :: (17, 3, .getfield 35, [3, 8, 0, 182, 0], 0) :: (20, 1, .iload_n 1, [], 0) :: (21, 1, .iastore, [], 0) :: (22, 1, .aload_n 0, [], 0) :: (23, 1, .dup, [], 0) :: (24, 3, .getfield 35, [3, 8, 0, 182, 0], 0) :: (27, 1, .iconst 1, [], 1) :: (28, 1, .iadd, [], 0) :: (29, 3, .putfield 35, [3, 8, 0, 182, 0], 0) :: bk_37_1
def me_37 : ex_M := (yX3_await, cX3_await, 2, none, RX3, [bk_37_0, bk_37_1], [])
def bk_38_1 : List ex_R := [(55, 1, .return_, [], 0)]
def bk_38_0 : List ex_R := [(0, 1, .aload_n 0, [], 0), (1, 3, .getfield 35, [3, 8, 0, 182, 0], 0), (4, 3, .ifCond .le 51, [1], 0), (7, 1, .aload_n 0, [], 0), (8, 3, .getfield 18, [3, 3, 2, 177, 0], 0), (11, 1, .aload_n 0, [], 0), (12, 3, .getfield 35, [3, 8, 0, 182, 0], 0), (15, 1, .iconst 1, [], 1), (16, 1, .isub, [], 0), (17, 3, .invokestatic 156, [3, 127, 2, 0], 57), (20, 3, .invokestatic 137, [2, 36, 1, 0], 509), (23, 1, .iload_n 1, [], 0), (24, 3, .if_icmp .lt 31, [1], 0), (27, 1, .aload_n 0, [], 0), (28, 1, .dup, [], 0), (29, 3, .getfield 35, [3, 8, 0, 182, 0], 0), (32, 1, .iconst 1, [], 1), (33, 1, .isub, [], 0), (34, 3, .putfield 35, [3, 8, 0, 182, 0], 0), (37, 1, .aload_n 0, [], 0), (38, 1, .aload_n 0, [], 0), (39, 3, .getfield 18, [3, 3, 2, 177, 0], 0), (42, 1, .aload_n 0, [], 0), (43, 3, .getfield 35, [3, 8, 0, 182, 0], 0), (46, 3, .invokestatic 156, [3, 127, 2, 0], 57), (49, 3, .invokevirtual 119, [0, 39, 2, 3], 501), (52, 3, .goto (-52), [0], 0)]
def me_38 : ex_M := (yX3_writeWaiting, cX3_writeWaiting, 2, none, RX3, [bk_38_0, bk_38_1], [])
def bk_39_1 : List ex_R := [(32, 1, .return_, [], 0)]
def bk_39_0 : List ex_R := (0, 1, .aload_n 0, [], 0) :: (1, 3, .getfield 31, [3, 7, 0, 181, 0], 0) :: (4, 1, .aload_n 0, [], 0) :: (5, 3, .getfield 9, [3, 1, 2, 175, 0], 0) :: (8, 1, .arraylength, [], 0) :: (9, 3, .if_icmp .ge 23, [1], 0) :: (12, 1, .aload_n 0, [], 0) :: (13, 3, .getfield 9, [3, 1, 2, 175, 0], 0) :: (16, 1, .aload_n 0, [], 0) :: (17, 3, .getfield 31, [3, 7, 0, 181, 0], 0) :: (20, 1, .iload_n 1, [], 0) :: (21, 1, .iastore, [], 0) :: (22, 1, .aload_n 0, [], 0) :: (23, 1, .dup, [], 0) :: (24, 3, .getfield 31, [3, 7, 0, 181, 0], 0) :: (27, 1, .iconst 1, [], 1) :: (28, 1, .iadd, [], 0) :: (29, 3, .putfield 31, [3, 7, 0, 181, 0], 0) :: bk_39_1
def me_39 : ex_M := (yX3_write, cX3_write, 2, none, RX3, [bk_39_0, bk_39_1], [])
def bk_40_2 : List ex_R := [(36, 1, .ireturn, [], 0)]
def bk_40_1 : List ex_R := (35, 1, .iconst 0, [], 0) :: bk_40_2
def bk_40_0 : List ex_R := [(0, 1, .aload_n 0, [], 0), (1, 3, .getfield 38, [3, 9, 0, 183, 0], 0), (4, 3, .ifCond .lt 31, [1], 0), (7, 1, .aload_n 0, [], 0), (8, 3, .getfield 38, [3, 9, 0, 183, 0], 0), (11, 1, .aload_n 0, [], 0), (12, 3, .getfield 21, [3, 4, 2, 178, 0], 0), (15, 1, .arraylength, [], 0), (16, 3, .if_icmp .ge 19, [1], 0), (19, 1, .aload_n 0, [], 0), (20, 3, .getfield 21, [3, 4, 2, 178, 0], 0), (23, 1, .aload_n 0, [], 0), (24, 3, .getfield 38, [3, 9, 0, 183, 0], 0), (27, 1, .baload, [], 0), (28, 3, .ifCond .eq 7, [1], 0), (31, 1, .iconst 1, [], 1), (32, 3, .goto 4, [2], 0)]
def me_40 : ex_M := (yX3_isCompared, cX3_isCompared, 1, some .boolean, RX3, [bk_40_0, bk_40_1, bk_40_2], [])
def bk_41_1 : List ex_R := [(29, 1, .return_, [], 0)]
def bk_41_0 : List ex_R := (0, 1, .aload_n 0, [], 0) :: (1, 3, .getfield 38, [3, 9, 0, 183, 0], 0) :: (4, 3, .ifCond .lt 25, [1], 0) :: (7, 1, .aload_n 0, [], 0) :: (8, 3, .getfield 38, [3, 9, 0, 183, 0], 0) :: (11, 1, .aload_n 0, [], 0) :: (12, 3, .getfield 21, [3, 4, 2, 178, 0], 0) :: (15, 1, .arraylength, [], 0) :: (16, 3, .if_icmp .ge 13, [1], 0) :: (19, 1, .aload_n 0, [], 0) :: (20, 3, .getfield 21, [3, 4, 2, 178, 0], 0) :: (23, 1, .aload_n 0, [], 0) :: (24, 3, .getfield 38, [3, 9, 0, 183, 0], 0) :: (27, 1, .iload_n 1, [], 0) :: (28, 1, .bastore, [], 0) :: bk_41_1
def me_41 : ex_M := (yX3_setCompared, cX3_setCompared, 2, none, RX3, [bk_41_0, bk_41_1], [])
def bk_42_0 : List ex_R := [(0, 1, .aload_n 0, [], 0), (1, 3, .getfield 25, [3, 5, 2, 179, 0], 0), (4, 1, .iconst (-1), [], (-1)), (5, 1, .iload_n 1, [], 0), (6, 1, .isub, [], 0), (7, 1, .iload_n 2, [], 0), (8, 3, .invokestatic 73, [3, 128, 3, 0], 54), (11, 1, .return_, [], 0)]
def me_42 : ex_M := (yX3_setValue, cX3_setValue, 3, none, RX3, [bk_42_0], [])
def bk_43_10 : List ex_R := [(179, 1, .aload_n 0, [], 0), (180, 3, .getfield 28, [3, 6, 2, 180, 0], 0), (183, 1, .iconst 0, [], 0), (184, 3, .invokestatic 156, [3, 127, 2, 0], 57), (187, 1, .ireturn, [], 0)]
def bk_43_9 : List ex_R := [(173, 3, .iinc 3 1, [], 1), (176, 3, .goto (-155), [3], 0)]
def bk_43_8 : List ex_R := (137, 3, .iinc 2 (-1), [], (-1)) :: (140, 1, .aload_n 0, [], 0) :: (141, 3, .getfield 28, [3, 6, 2, 180, 0], 0) :: (144, 1, .iload_n 2, [], 0) :: (145, 1, .iconst 1, [], 1) :: (146, 1, .isub, [], 0) :: (147, 2, .iload 4, [], 0) :: (149, 1, .aload_n 0, [], 0) :: (150, 3, .getfield 28, [3, 6, 2, 180, 0], 0) :: (153, 1, .iload_n 2, [], 0) :: (154, 1, .iconst 1, [], 1) :: (155, 1, .isub, [], 0) :: (156, 3, .invokestatic 156, [3, 127, 2, 0], 57) :: (159, 1, .aload_n 0, [], 0) :: (160, 3, .getfield 28, [3, 6, 2, 180, 0], 0) :: (163, 1, .iload_n 2, [], 0) :: (164, 3, .invokestatic 156, [3, 127, 2, 0], 57) :: (167, 3, .invokestatic 164, [2, 44, 3, 0], 282) :: (170, 3, .invokestatic 73, [3, 128, 3, 0], 54) :: bk_43_9
def bk_43_7 : List ex_R := [(128, 3, .invokestatic 160, [2, 45, 1, 0], 280), (131, 3, .invokestatic 73, [3, 128, 3, 0], 54), (134, 3, .goto 39, [9], 0)]
def bk_43_6 : List ex_R := (127, 1, .iconst 0, [], 0) :: bk_43_7
def bk_43_5 : List ex_R := [(96, 2, .iload 4, [], 0), (98, 2, .bipush (-9), [], (-9)), (100, 3, .if_icmp .ne 37, [8], 0), (103, 1, .aload_n 0, [], 0), (104, 3, .getfield 28, [3, 6, 2, 180, 0], 0), (107, 1, .iload_n 2, [], 0), (108, 1, .iconst 1, [], 1), (109, 1, .isub, [], 0), (110, 1, .aload_n 0, [], 0), (111, 3, .getfield 28, [3, 6, 2, 180, 0], 0), (114, 1, .iload_n 2, [], 0), (115, 1, .iconst 1, [], 1), (116, 1, .isub, [], 0), (117, 3, .invokestatic 156, [3, 127, 2, 0], 57), (120, 3, .ifCond .ne 7, [6], 0), (123, 1, .iconst 1, [], 1), (124, 3, .goto 4, [7], 0)]
def bk_43_4 : List ex_R := [(64, 2, .iload 4, [], 0), (66, 2, .bipush (-6), [], (-6)), (68, 3, .if_icmp .lt 28, [5], 0), (71, 1, .aload_n 0, [], 0), (72, 3, .getfield 28, [3, 6, 2, 180, 0], 0), (75, 1, .iload_n 2, [], 0), (76, 1, .aload_n 0, [], 0), (77, 3, .getfield 25, [3, 5, 2, 179, 0], 0), (80, 1, .iconst (-1), [], (-1)), (81, 2, .iload 4, [], 0), (83, 1, .isub, [], 0), (84, 3, .invokestatic 156, [3, 127, 2, 0], 57), (87, 3, .invokestatic 73, [3, 128, 3, 0], 54), (90, 3, .iinc 2 1, [], 1), (93, 3, .goto 80, [9], 0)]
def bk_43_3 : List ex_R := [(21, 1, .iload_n 3, [], 0), (22, 1, .aload_n 0, [], 0), (23, 3, .getfield 15, [3, 2, 2, 176, 0], 0), (26, 1, .iload_n 1, [], 0), (27, 3, .invokestatic 156, [3, 127, 2, 0], 57), (30, 3, .if_icmp .ge 149, [10], 0), (33, 1, .aload_n 0, [], 0), (34, 3, .getfield 9, [3, 1, 2, 175, 0], 0), (37, 1, .iload_n 3, [], 0), (38, 3, .invokestatic 156, [3, 127, 2, 0], 57), (41, 2, .istore 4, [], 0), (43, 2, .iload 4, [], 0), (45, 3, .ifCond .lt 19, [4], 0), (48, 1, .aload_n 0, [], 0), (49, 3, .getfield 28, [3, 6, 2, 180, 0], 0), (52, 1, .iload_n 2, [], 0), (53, 2, .iload 4, [], 0), (55, 3, .invokestatic 73, [3, 128, 3, 0], 54), (58, 3, .iinc 2 1, [], 1), (61, 3, .goto 112, [9], 0)]
def bk_43_2 : List ex_R := (20, 1, .istore_n 3, [], 0) :: bk_43_3
def bk_43_1 : List ex_R := (19, 1, .iconst 0, [], 0) :: bk_43_2
def bk_43_0 : List ex_R := [(0, 1, .iconst 0, [], 0), (1, 1, .istore_n 2, [], 0), (2, 1, .iload_n 1, [], 0), (3, 3, .ifCond .le 16, [1], 0), (6, 1, .aload_n 0, [], 0), (7, 3, .getfield 15, [3, 2, 2, 176, 0], 0), (10, 1, .iload_n 1, [], 0), (11, 1, .iconst 1, [], 1), (12, 1, .isub, [], 0), (13, 3, .invokestatic 156, [3, 127, 2, 0], 57), (16, 3, .goto 4, [2], 0)]
def me_43 : ex_M := (yX3_workOut, cX3_workOut, 5, some .int, RX3, [bk_43_0, bk_43_1, bk_43_2, bk_43_3, bk_43_4, bk_43_5, bk_43_6, bk_43_7, bk_43_8, bk_43_9, bk_43_10], [])
def bk_44_19 : List ex_R := [(133, 1, .ireturn, [], 0)]
def bk_44_18 : List ex_R := (132, 1, .iconst 0, [], 0) :: bk_44_19
def bk_44_17 : List ex_R := [(122, 1, .iload_n 2, [], 0), (123, 3, .ifCond .eq 9, [18], 0), (126, 1, .iload_n 1, [], 0), (127, 1, .iload_n 2, [], 0), (128, 1, .idiv, [], 0), (129, 3, .goto 4, [19], 0)]
def bk_44_16 : List ex_R := [(118, 1, .iload_n 1, [], 0), (119, 1, .iload_n 2, [], 0), (120, 1, .imul, [], 0), (121, 1, .ireturn, [], 0)]
def bk_44_15 : List ex_R := [(114, 1, .iload_n 1, [], 0), (115, 1, .iload_n 2, [], 0), (116, 1, .isub, [], 0), (117, 1, .ireturn, [], 0)]
def bk_44_14 : List ex_R := [(110, 1, .iload_n 1, [], 0), (111, 1, .iload_n 2, [], 0), (112, 1, .iadd, [], 0), (113, 1, .ireturn, [], 0)]
def bk_44_13 : List ex_R := [(106, 3, .invokestatic 160, [2, 45, 1, 0], 280), (109, 1, .ireturn, [], 0)]
def bk_44_12 : List ex_R := (105, 1, .iconst 0, [], 0) :: bk_44_13
def bk_44_11 : List ex_R := [(96, 1, .iload_n 1, [], 0), (97, 1, .iload_n 2, [], 0), (98, 3, .if_icmp .ne 7, [12], 0), (101, 1, .iconst 1, [], 1), (102, 3, .goto 4, [13], 0)]
def bk_44_10 : List ex_R := [(92, 3, .invokestatic 160, [2, 45, 1, 0], 280), (95, 1, .ireturn, [], 0)]
def bk_44_9 : List ex_R := (91, 1, .iconst 0, [], 0) :: bk_44_10
def bk_44_8 : List ex_R := [(82, 1, .iload_n 1, [], 0), (83, 1, .iload_n 2, [], 0), (84, 3, .if_icmp .ge 7, [9], 0), (87, 1, .iconst 1, [], 1), (88, 3, .goto 4, [10], 0)]
def bk_44_7 : List ex_R := [(78, 3, .invokestatic 160, [2, 45, 1, 0], 280), (81, 1, .ireturn, [], 0)]
def bk_44_6 : List ex_R := (77, 1, .iconst 0, [], 0) :: bk_44_7
def bk_44_5 : List ex_R := [(65, 1, .iload_n 1, [], 0), (66, 3, .ifCond .eq 11, [6], 0), (69, 1, .iload_n 2, [], 0), (70, 3, .ifCond .eq 7, [6], 0), (73, 1, .iconst 1, [], 1), (74, 3, .goto 4, [7], 0)]
def bk_44_4 : List ex_R := [(61, 3, .invokestatic 160, [2, 45, 1, 0], 280), (64, 1, .ireturn, [], 0)]
def bk_44_3 : List ex_R := (60, 1, .iconst 0, [], 0) :: bk_44_4
def bk_44_2 : List ex_R := [(56, 1, .iconst 1, [], 1), (57, 3, .goto 4, [4], 0)]
def bk_44_1 : List ex_R := (48, 1, .iload_n 1, [], 0) :: (49, 3, .ifCond .ne 7, [2], 0) :: (52, 1, .iload_n 2, [], 0) :: (53, 3, .ifCond .eq 7, [3], 0) :: bk_44_2
def bk_44_0 : List ex_R := [(0, 1, .iload_n 0, [], 0), (1, 47, .tableswitch 121 (-14) (-7) #[117, 113, 109, 95, 81, 121, 64, 47], [17, 16, 15, 14, 11, 8, 17, 5, 1], 0)]
def me_44 : ex_M := (yX3_joined, cX3_joined, 3, some .int, RX3, [bk_44_0, bk_44_1, bk_44_2, bk_44_3, bk_44_4, bk_44_5, bk_44_6, bk_44_7, bk_44_8, bk_44_9, bk_44_10, bk_44_11, bk_44_12, bk_44_13, bk_44_14, bk_44_15, bk_44_16, bk_44_17, bk_44_18, bk_44_19], [])
def bk_45_2 : List ex_R := [(9, 1, .ireturn, [], 0)]
def bk_45_1 : List ex_R := (8, 1, .iconst 0, [], 0) :: bk_45_2
def bk_45_0 : List ex_R := [(0, 1, .iload_n 0, [], 0), (1, 3, .ifCond .eq 7, [1], 0), (4, 1, .iconst 1, [], 1), (5, 3, .goto 4, [2], 0)]
def me_45 : ex_M := (yX3_truth, cX3_truth, 1, some .int, RX3, [bk_45_0, bk_45_1, bk_45_2], [])
def bk_46_0 : List ex_R := [(0, 1, .aload_n 0, [], 0), (1, 3, .invokespecial 3, [6], 220), (4, 1, .aload_n 0, [], 0), (5, 2, .bipush 8, [], 8), (7, 2, .newarray .int, [164], 0), (9, 3, .putfield 9, [4, 0, 2, 221, 2], 0), (12, 1, .aload_n 0, [], 0), (13, 2, .bipush 8, [], 8), (15, 2, .newarray .int, [164], 0), (17, 3, .putfield 15, [4, 1, 2, 222, 2], 0), (20, 1, .aload_n 0, [], 0), (21, 2, .bipush 48, [], 48), (23, 2, .newarray .int, [164], 0), (25, 3, .putfield 18, [4, 2, 2, 223, 2], 0), (28, 1, .aload_n 0, [], 0), (29, 3, .sipush 480, [], 480), (32, 2, .newarray .int, [164], 0), (34, 3, .putfield 21, [4, 3, 2, 224, 2], 0), (37, 1, .aload_n 0, [], 0), (38, 1, .iconst 0, [], 0), (39, 3, .putfield 24, [4, 4, 0, 225, 0], 0), (42, 1, .aload_n 0, [], 0), (43, 1, .iconst 0, [], 0), (44, 3, .putfield 28, [4, 5, 0, 226, 0], 0), (47, 1, .aload_n 0, [], 0), (48, 1, .iconst 0, [], 0), (49, 3, .putfield 31, [4, 6, 0, 227, 0], 0), (52, 1, .aload_n 0, [], 0), (53, 1, .iconst 0, [], 0), (54, 3, .putfield 34, [4, 7, 0, 228, 0], 0), (57, 1, .aload_n 0, [], 0), (58, 1, .iconst 0, [], 0), (59, 3, .putfield 37, [4, 8, 0, 229, 0], 0), (62, 1, .aload_n 0, [], 0), (63, 1, .iconst 1, [], 1), (64, 3, .putfield 40, [4, 9, 0, 230, 0], 0), (67, 1, .return_, [], 0)]
def me_46 : ex_M := (yX4_init, cX4_init, 1, none, RX4, [bk_46_0], [])
def bk_47_4 : List ex_R := [(110, 1, .return_, [], 0)]
def bk_47_3 : List ex_R := [(90, 1, .iload_n 3, [], 0), (91, 1, .aload_n 0, [], 0), (92, 3, .getfield 40, [4, 9, 0, 230, 0], 0), (95, 3, .if_icmp .ge 15, [4], 0), (98, 1, .aload_n 0, [], 0), (99, 1, .iload_n 3, [], 0), (100, 1, .aload_n 2, [], 0), (101, 3, .invokevirtual 66, [0, 50, 3, 4], 286), (104, 3, .iinc 3 1, [], 1), (107, 3, .goto (-17), [3], 0)]
def bk_47_2 : List ex_R := (88, 1, .iconst 0, [], 0) :: (89, 1, .istore_n 3, [], 0) :: bk_47_3
def bk_47_1 : List ex_R := (84, 1, .aload_n 0, [], 0) :: (85, 3, .invokevirtual 63, [0, 49, 1, 4], 284) :: bk_47_2
def bk_47_0 : List ex_R := [(0, 1, .aload_n 0, [], 0), (1, 1, .aload_n 1, [], 0), (2, 3, .getfield 43, [2, 2, 2, 17, 1], 0), (5, 1, .iconst 0, [], 0), (6, 3, .invokestatic 48, [3, 127, 2, 0], 46), (9, 3, .putfield 24, [4, 4, 0, 225, 0], 0), (12, 1, .aload_n 0, [], 0), (13, 1, .aload_n 1, [], 0), (14, 3, .getfield 43, [2, 2, 2, 17, 1], 0), (17, 1, .iconst 1, [], 1), (18, 3, .invokestatic 48, [3, 127, 2, 0], 46), (21, 3, .putfield 28, [4, 5, 0, 226, 0], 0), (24, 1, .aload_n 0, [], 0), (25, 1, .aload_n 1, [], 0), (26, 3, .getfield 43, [2, 2, 2, 17, 1], 0), (29, 1, .iconst 2, [], 2), (30, 3, .invokestatic 48, [3, 127, 2, 0], 46), (33, 3, .putfield 31, [4, 6, 0, 227, 0], 0), (36, 1, .aload_n 0, [], 0), (37, 1, .aload_n 1, [], 0), (38, 3, .getfield 43, [2, 2, 2, 17, 1], 0), (41, 1, .iconst 3, [], 3), (42, 3, .invokestatic 48, [3, 127, 2, 0], 46), (45, 3, .putfield 34, [4, 7, 0, 228, 0], 0), (48, 1, .aload_n 0, [], 0), (49, 1, .aload_n 1, [], 0), (50, 3, .getfield 52, [2, 6, 0, 20, 1], 0), (53, 3, .putfield 37, [4, 8, 0, 229, 0], 0), (56, 1, .aload_n 2, [], 0), (57, 1, .aload_n 0, [], 0), (58, 3, .getfield 24, [4, 4, 0, 225, 0], 0), (61, 1, .aload_n 0, [], 0), (62, 3, .getfield 28, [4, 5, 0, 226, 0], 0), (65, 3, .invokevirtual 53, [1, 1, 3, 0], 47), (68, 1, .aload_n 0, [], 0), (69, 3, .getfield 37, [4, 8, 0, 229, 0], 0), (72, 3, .ifCond .le 12, [1], 0), (75, 1, .aload_n 0, [], 0), (76, 1, .aload_n 1, [], 0), (77, 1, .aload_n 2, [], 0), (78, 3, .invokevirtual 59, [0, 48, 3, 4], 276), (81, 3, .goto 7, [2], 0)]
def me_47 : ex_M := (yX4_takeOver, cX4_takeOver, 4, none, RX4, [bk_47_0, bk_47_1, bk_47_2, bk_47_3, bk_47_4], [])
def bk_48_4 : List ex_R := [(165, 1, .return_, [], 0)]
def bk_48_3 : List ex_R := [(159, 3, .iinc 4 1, [], 1), (162, 3, .goto (-94), [1], 0)]
def bk_48_2 : List ex_R := [(87, 2, .iload 5, [], 0), (89, 1, .aload_n 0, [], 0), (90, 3, .getfield 28, [4, 5, 0, 226, 0], 0), (93, 3, .if_icmp .ge 66, [3], 0), (96, 1, .aload_n 3, [], 0), (97, 2, .bipush (-5), [], (-5)), (99, 2, .iload 5, [], 0), (101, 3, .invokevirtual 80, [1, 42, 3, 3], 53), (104, 1, .aload_n 3, [], 0), (105, 2, .bipush (-6), [], (-6)), (107, 1, .aload_n 2, [], 0), (108, 1, .aload_n 0, [], 0), (109, 3, .getfield 9, [4, 0, 2, 221, 0], 0), (112, 2, .iload 4, [], 0), (114, 3, .invokestatic 48, [3, 127, 2, 0], 46), (117, 2, .iload 5, [], 0), (119, 3, .invokevirtual 85, [1, 9, 3, 0], 55), (122, 3, .invokevirtual 80, [1, 42, 3, 3], 53), (125, 1, .aload_n 0, [], 0), (126, 3, .getfield 18, [4, 2, 2, 223, 0], 0), (129, 2, .iload 4, [], 0), (131, 2, .bipush 6, [], 6), (133, 1, .imul, [], 0), (134, 2, .iload 5, [], 0), (136, 1, .iadd, [], 0), (137, 1, .aload_n 3, [], 0), (138, 2, .iload 4, [], 0), (140, 3, .invokevirtual 89, [1, 43, 2, 3], 56), (143, 1, .aload_n 0, [], 0), (144, 3, .getfield 28, [4, 5, 0, 226, 0], 0), (147, 3, .invokestatic 93, [3, 125, 2, 0], 58), (150, 3, .invokestatic 96, [3, 128, 3, 0], 59), (153, 3, .iinc 5 1, [], 1), (156, 3, .goto (-69), [2], 0)]
def bk_48_1 : List ex_R := (68, 2, .iload 4, [], 0) :: (70, 1, .aload_n 0, [], 0) :: (71, 3, .getfield 37, [4, 8, 0, 229, 0], 0) :: (74, 3, .if_icmp .ge 91, [4], 0) :: (77, 1, .aload_n 3, [], 0) :: (78, 1, .iconst (-1), [], (-1)) :: (79, 2, .iload 4, [], 0) :: (81, 3, .invokevirtual 80, [1, 42, 3, 3], 53) :: (84, 1, .iconst 0, [], 0) :: (85, 2, .istore 5, [], 0) :: bk_48_2
def bk_48_0 : List ex_R := (0, 1, .aload_n 0, [], 0) :: (1, 1, .aload_n 0, [], 0) :: (2, 3, .getfield 37, [4, 8, 0, 229, 0], 0) :: (5, 3, .putfield 40, [4, 9, 0, 230, 0], 0) :: (8, 1, .aload_n 1, [], 0) :: (9, 3, .getfield 70, [2, 4, 2, 18, 1], 0) :: (12, 1, .aload_n 0, [], 0) :: (13, 3, .getfield 9, [4, 0, 2, 221, 0], 0) :: (16, 3, .invokestatic 71, [3, 129, 2, 0], 52) :: (19, 1, .aload_n 1, [], 0) :: (20, 3, .getfield 75, [2, 5, 2, 19, 1], 0) :: (23, 1, .aload_n 0, [], 0) :: (24, 3, .getfield 15, [4, 1, 2, 222, 0], 0) :: (27, 3, .invokestatic 71, [3, 129, 2, 0], 52) :: (30, 1, .aload_n 1, [], 0) :: (31, 3, .getfield 76, [2, 1, 2, 16, 1], 0) :: (34, 1, .astore_n 3, [], 0) :: (35, 1, .aload_n 3, [], 0) :: (36, 2, .bipush (-2), [], (-2)) :: (38, 1, .aload_n 0, [], 0) :: (39, 3, .getfield 34, [4, 7, 0, 228, 0], 0) :: (42, 3, .invokevirtual 80, [1, 42, 3, 3], 53) :: (45, 1, .aload_n 3, [], 0) :: (46, 2, .bipush (-3), [], (-3)) :: (48, 1, .aload_n 0, [], 0) :: (49, 3, .getfield 28, [4, 5, 0, 226, 0], 0) :: (52, 3, .invokevirtual 80, [1, 42, 3, 3], 53) :: (55, 1, .aload_n 3, [], 0) :: (56, 2, .bipush (-4), [], (-4)) :: (58, 1, .aload_n 0, [], 0) :: (59, 3, .getfield 24, [4, 4, 0, 225, 0], 0) :: (62, 3, .invokevirtual 80, [1, 42, 3, 3], 53) :: (65, 1, .iconst 0, [], 0) :: (66, 2, .istore 4, [], 0) :: bk_48_1
def me_48 : ex_M := (yX4_takeDeals, cX4_takeDeals, 6, none, RX4, [bk_48_0, bk_48_1, bk_48_2, bk_48_3, bk_48_4], [])
def bk_49_2 : List ex_R := [(53, 1, .return_, [], 0)]
def bk_49_1 : List ex_R := [(25, 1, .iload_n 1, [], 0), (26, 1, .aload_n 0, [], 0), (27, 3, .getfield 28, [4, 5, 0, 226, 0], 0), (30, 3, .if_icmp .ge 23, [2], 0), (33, 1, .aload_n 0, [], 0), (34, 3, .getfield 18, [4, 2, 2, 223, 0], 0), (37, 1, .iload_n 1, [], 0), (38, 1, .aload_n 0, [], 0), (39, 3, .getfield 28, [4, 5, 0, 226, 0], 0), (42, 1, .iconst 2, [], 2), (43, 1, .idiv, [], 0), (44, 3, .invokestatic 96, [3, 128, 3, 0], 59), (47, 3, .iinc 1 1, [], 1), (50, 3, .goto (-25), [1], 0)]
def bk_49_0 : List ex_R := (0, 1, .aload_n 0, [], 0) :: (1, 1, .iconst 1, [], 1) :: (2, 3, .putfield 40, [4, 9, 0, 230, 0], 0) :: (5, 1, .aload_n 0, [], 0) :: (6, 3, .getfield 9, [4, 0, 2, 221, 0], 0) :: (9, 1, .iconst 0, [], 0) :: (10, 1, .iconst 0, [], 0) :: (11, 3, .invokestatic 96, [3, 128, 3, 0], 59) :: (14, 1, .aload_n 0, [], 0) :: (15, 3, .getfield 15, [4, 1, 2, 222, 0], 0) :: (18, 1, .iconst 0, [], 0) :: (19, 1, .iconst 1, [], 1) :: (20, 3, .invokestatic 96, [3, 128, 3, 0], 59) :: (23, 1, .iconst 0, [], 0) :: (24, 1, .istore_n 1, [], 0) :: bk_49_1
def me_49 : ex_M := (yX4_takeDealOfNone, cX4_takeDealOfNone, 2, none, RX4, [bk_49_0, bk_49_1, bk_49_2], [])
def bk_50_4 : List ex_R := [(75, 1, .return_, [], 0)]
def bk_50_3 : List ex_R := [(43, 1, .iload_n 3, [], 0), (44, 1, .aload_n 0, [], 0), (45, 3, .getfield 24, [4, 4, 0, 225, 0], 0), (48, 3, .if_icmp .ge 27, [4], 0), (51, 1, .aload_n 0, [], 0), (52, 3, .getfield 21, [4, 3, 2, 224, 0], 0), (55, 1, .iload_n 1, [], 0), (56, 2, .bipush 60, [], 60), (58, 1, .imul, [], 0), (59, 1, .iload_n 3, [], 0), (60, 1, .iadd, [], 0), (61, 1, .aload_n 2, [], 0), (62, 1, .iload_n 3, [], 0), (63, 3, .invokevirtual 115, [1, 10, 2, 0], 62), (66, 3, .invokestatic 96, [3, 128, 3, 0], 59), (69, 3, .iinc 3 1, [], 1), (72, 3, .goto (-29), [3], 0)]
def bk_50_2 : List ex_R := (41, 1, .iconst 0, [], 0) :: (42, 1, .istore_n 3, [], 0) :: bk_50_3
def bk_50_1 : List ex_R := [(16, 1, .iload_n 3, [], 0), (17, 1, .aload_n 0, [], 0), (18, 3, .getfield 28, [4, 5, 0, 226, 0], 0), (21, 3, .if_icmp .ge 20, [2], 0), (24, 1, .aload_n 2, [], 0), (25, 1, .iload_n 3, [], 0), (26, 1, .aload_n 0, [], 0), (27, 1, .iload_n 1, [], 0), (28, 1, .iload_n 3, [], 0), (29, 3, .invokevirtual 109, [0, 53, 3, 4], 293), (32, 3, .invokevirtual 112, [1, 7, 3, 0], 61), (35, 3, .iinc 3 1, [], 1), (38, 3, .goto (-22), [1], 0)]
def bk_50_0 : List ex_R := (0, 1, .aload_n 2, [], 0) :: (1, 1, .aload_n 0, [], 0) :: (2, 1, .iload_n 1, [], 0) :: (3, 3, .invokevirtual 100, [0, 51, 2, 4], 288) :: (6, 1, .aload_n 0, [], 0) :: (7, 1, .iload_n 1, [], 0) :: (8, 3, .invokevirtual 103, [0, 52, 2, 4], 290) :: (11, 3, .invokevirtual 106, [1, 3, 3, 0], 60) :: (14, 1, .iconst 0, [], 0) :: (15, 1, .istore_n 3, [], 0) :: bk_50_1
def me_50 : ex_M := (yX4_follow, cX4_follow, 4, none, RX4, [bk_50_0, bk_50_1, bk_50_2, bk_50_3, bk_50_4], [])
def bk_51_0 : List ex_R := [(0, 1, .aload_n 0, [], 0), (1, 3, .getfield 9, [4, 0, 2, 221, 0], 0), (4, 1, .iload_n 1, [], 0), (5, 1, .aload_n 0, [], 0), (6, 3, .getfield 40, [4, 9, 0, 230, 0], 0), (9, 3, .invokestatic 93, [3, 125, 2, 0], 58), (12, 3, .invokestatic 48, [3, 127, 2, 0], 46), (15, 1, .ireturn, [], 0)]
def me_51 : ex_M := (yX4_kindOf, cX4_kindOf, 2, some .int, RX4, [bk_51_0], [])
def bk_52_0 : List ex_R := [(0, 1, .aload_n 0, [], 0), (1, 3, .getfield 15, [4, 1, 2, 222, 0], 0), (4, 1, .iload_n 1, [], 0), (5, 1, .aload_n 0, [], 0), (6, 3, .getfield 40, [4, 9, 0, 230, 0], 0), (9, 3, .invokestatic 93, [3, 125, 2, 0], 58), (12, 3, .invokestatic 48, [3, 127, 2, 0], 46), (15, 1, .ireturn, [], 0)]
def me_52 : ex_M := (yX4_sideOf, cX4_sideOf, 2, some .int, RX4, [bk_52_0], [])
def bk_53_0 : List ex_R := [(0, 1, .aload_n 0, [], 0), (1, 3, .getfield 18, [4, 2, 2, 223, 0], 0), (4, 1, .iload_n 1, [], 0), (5, 1, .aload_n 0, [], 0), (6, 3, .getfield 40, [4, 9, 0, 230, 0], 0), (9, 3, .invokestatic 93, [3, 125, 2, 0], 58), (12, 2, .bipush 6, [], 6), (14, 1, .imul, [], 0), (15, 1, .iload_n 2, [], 0), (16, 1, .iadd, [], 0), (17, 3, .invokestatic 48, [3, 127, 2, 0], 46), (20, 1, .ireturn, [], 0)]
def me_53 : ex_M := (yX4_layingOf, cX4_layingOf, 3, some .int, RX4, [bk_53_0], [])
def bk_54_0 : List ex_R := [(0, 1, .aload_n 0, [], 0), (1, 3, .getfield 21, [4, 3, 2, 224, 0], 0), (4, 1, .iload_n 1, [], 0), (5, 1, .aload_n 0, [], 0), (6, 3, .getfield 40, [4, 9, 0, 230, 0], 0), (9, 3, .invokestatic 93, [3, 125, 2, 0], 58), (12, 2, .bipush 60, [], 60), (14, 1, .imul, [], 0), (15, 1, .iload_n 2, [], 0), (16, 1, .iadd, [], 0), (17, 3, .invokestatic 48, [3, 127, 2, 0], 46), (20, 1, .ireturn, [], 0)]
def me_54 : ex_M := (yX4_followedTo, cX4_followedTo, 3, some .int, RX4, [bk_54_0], [])
def bk_55_2 : List ex_R := [(25, 1, .iload_n 3, [], 0), (26, 1, .ireturn, [], 0)]
def bk_55_1 : List ex_R := [(5, 2, .iload 4, [], 0), (7, 1, .iload_n 2, [], 0), (8, 3, .if_icmp .ge 17, [2], 0), (11, 1, .aload_n 0, [], 0), (12, 2, .iload 4, [], 0), (14, 1, .iload_n 3, [], 0), (15, 3, .invokevirtual 118, [0, 54, 3, 4], 553), (18, 1, .istore_n 3, [], 0), (19, 3, .iinc 4 1, [], 1), (22, 3, .goto (-17), [1], 0)]
def bk_55_0 : List ex_R := (0, 1, .iload_n 1, [], 0) :: (1, 1, .istore_n 3, [], 0) :: (2, 1, .iconst 0, [], 0) :: (3, 2, .istore 4, [], 0) :: bk_55_1
def me_55 : ex_M := (yX4_followedEnd, cX4_followedEnd, 5, some .int, RX4, [bk_55_0, bk_55_1, bk_55_2], [])
def bk_56_0 : List ex_R := [(0, 1, .iload_n 1, [], 0), (1, 1, .iconst 0, [], 0), (2, 1, .aload_n 0, [], 0), (3, 3, .getfield 24, [4, 4, 0, 225, 0], 0), (6, 1, .iconst 1, [], 1), (7, 1, .isub, [], 0), (8, 3, .invokestatic 121, [3, 122, 3, 0], 68), (11, 1, .ireturn, [], 0)]
def me_56 : ex_M := (yX4_hasPlace, cX4_hasPlace, 2, some .boolean, RX4, [bk_56_0], [])
def bk_57_0 : List ex_R := [(0, 1, .iload_n 1, [], 0), (1, 1, .iconst 0, [], 0), (2, 1, .aload_n 0, [], 0), (3, 3, .getfield 28, [4, 5, 0, 226, 0], 0), (6, 1, .iconst 1, [], 1), (7, 1, .isub, [], 0), (8, 3, .invokestatic 121, [3, 122, 3, 0], 68), (11, 1, .ireturn, [], 0)]
def me_57 : ex_M := (yX4_hasHeap, cX4_hasHeap, 2, some .boolean, RX4, [bk_57_0], [])
def bk_58_2 : List ex_R := [(40, 1, .ireturn, [], 0)]
def bk_58_1 : List ex_R := (39, 1, .iconst 0, [], 0) :: bk_58_2
def bk_58_0 : List ex_R := [(0, 1, .iload_n 1, [], 0), (1, 1, .iconst 0, [], 0), (2, 1, .iconst 2, [], 2), (3, 3, .invokestatic 121, [3, 122, 3, 0], 68), (6, 3, .ifCond .eq 33, [1], 0), (9, 1, .iload_n 2, [], 0), (10, 1, .iconst 0, [], 0), (11, 1, .iconst 1, [], 1), (12, 3, .invokestatic 121, [3, 122, 3, 0], 68), (15, 3, .ifCond .eq 24, [1], 0), (18, 1, .aload_n 0, [], 0), (19, 1, .iload_n 3, [], 0), (20, 3, .invokevirtual 125, [0, 57, 2, 4], 338), (23, 3, .ifCond .eq 16, [1], 0), (26, 1, .aload_n 0, [], 0), (27, 2, .iload 4, [], 0), (29, 3, .invokevirtual 125, [0, 57, 2, 4], 338), (32, 3, .ifCond .eq 7, [1], 0), (35, 1, .iconst 1, [], 1), (36, 3, .goto 4, [2], 0)]
def me_58 : ex_M := (yX4_allows, cX4_allows, 5, some .boolean, RX4, [bk_58_0, bk_58_1, bk_58_2], [])
def bk_59_0 : List ex_R := [(0, 1, .aload_n 0, [], 0), (1, 3, .invokespecial 3, [6], 254), (4, 1, .aload_n 0, [], 0), (5, 2, .bipush 60, [], 60), (7, 2, .newarray .int, [164], 0), (9, 3, .putfield 9, [5, 0, 2, 255, 2], 0), (12, 1, .aload_n 0, [], 0), (13, 2, .bipush 60, [], 60), (15, 2, .newarray .int, [164], 0), (17, 3, .putfield 15, [5, 1, 2, 256, 2], 0), (20, 1, .aload_n 0, [], 0), (21, 2, .bipush 60, [], 60), (23, 2, .newarray .int, [164], 0), (25, 3, .putfield 18, [5, 2, 2, 257, 2], 0), (28, 1, .aload_n 0, [], 0), (29, 2, .bipush 20, [], 20), (31, 2, .newarray .int, [164], 0), (33, 3, .putfield 21, [5, 3, 2, 258, 2], 0), (36, 1, .aload_n 0, [], 0), (37, 1, .iconst 0, [], 0), (38, 3, .putfield 24, [5, 4, 0, 259, 0], 0), (41, 1, .return_, [], 0)]
def me_59 : ex_M := (yX5_init, cX5_init, 1, none, RX5, [bk_59_0], [])
def bk_60_2 : List ex_R := [(24, 1, .aload_n 0, [], 0), (25, 3, .getfield 9, [5, 0, 2, 255, 0], 0), (28, 1, .aload_n 0, [], 0), (29, 3, .getfield 15, [5, 1, 2, 256, 0], 0), (32, 3, .invokestatic 28, [3, 129, 2, 0], 64), (35, 1, .aload_n 0, [], 0), (36, 3, .getfield 18, [5, 2, 2, 257, 0], 0), (39, 1, .iconst 0, [], 0), (40, 3, .invokestatic 32, [2, 220, 2, 0], 300), (43, 1, .aload_n 0, [], 0), (44, 1, .iconst 0, [], 0), (45, 3, .putfield 24, [5, 4, 0, 259, 0], 0), (48, 1, .return_, [], 0)]
def bk_60_1 : List ex_R := [(2, 1, .iload_n 1, [], 0), (3, 1, .aload_n 0, [], 0), (4, 3, .getfield 9, [5, 0, 2, 255, 0], 0), (7, 1, .arraylength, [], 0), (8, 3, .if_icmp .ge 16, [2], 0), (11, 1, .aload_n 0, [], 0), (12, 3, .getfield 9, [5, 0, 2, 255, 0], 0), (15, 1, .iload_n 1, [], 0), (16, 1, .iload_n 1, [], 0), (17, 1, .iastore, [], 0), (18, 3, .iinc 1 1, [], 1), (21, 3, .goto (-19), [1], 0)]
def bk_60_0 : List ex_R := (0, 1, .iconst 0, [], 0) :: (1, 1, .istore_n 1, [], 0) :: bk_60_1
def me_60 : ex_M := (yX5_layOut, cX5_layOut, 2, none, RX5, [bk_60_0, bk_60_1, bk_60_2], [])
def bk_61_0 : List ex_R := [(0, 1, .aload_n 1, [], 0), (1, 3, .getfield 9, [5, 0, 2, 255, 0], 0), (4, 1, .aload_n 0, [], 0), (5, 3, .getfield 9, [5, 0, 2, 255, 0], 0), (8, 3, .invokestatic 28, [3, 129, 2, 0], 64), (11, 1, .aload_n 1, [], 0), (12, 3, .getfield 15, [5, 1, 2, 256, 0], 0), (15, 1, .aload_n 0, [], 0), (16, 3, .getfield 15, [5, 1, 2, 256, 0], 0), (19, 3, .invokestatic 28, [3, 129, 2, 0], 64), (22, 1, .aload_n 1, [], 0), (23, 3, .getfield 18, [5, 2, 2, 257, 0], 0), (26, 1, .aload_n 0, [], 0), (27, 3, .getfield 18, [5, 2, 2, 257, 0], 0), (30, 3, .invokestatic 28, [3, 129, 2, 0], 64), (33, 1, .aload_n 1, [], 0), (34, 3, .getfield 21, [5, 3, 2, 258, 0], 0), (37, 1, .aload_n 0, [], 0), (38, 3, .getfield 21, [5, 3, 2, 258, 0], 0), (41, 3, .invokestatic 28, [3, 129, 2, 0], 64), (44, 1, .aload_n 0, [], 0), (45, 1, .aload_n 1, [], 0), (46, 3, .getfield 24, [5, 4, 0, 259, 0], 0), (49, 3, .putfield 24, [5, 4, 0, 259, 0], 0), (52, 1, .return_, [], 0)]
def me_61 : ex_M := (yX5_copyFrom, cX5_copyFrom, 2, none, RX5, [bk_61_0], [])
def bk_62_0 : List ex_R := [(0, 1, .aload_n 0, [], 0), (1, 3, .getfield 21, [5, 3, 2, 258, 0], 0), (4, 1, .aload_n 0, [], 0), (5, 3, .getfield 24, [5, 4, 0, 259, 0], 0), (8, 1, .iload_n 1, [], 0), (9, 3, .invokestatic 38, [3, 128, 3, 0], 70), (12, 1, .aload_n 0, [], 0), (13, 1, .dup, [], 0), (14, 3, .getfield 24, [5, 4, 0, 259, 0], 0), (17, 1, .iconst 1, [], 1), (18, 1, .iadd, [], 0), (19, 3, .putfield 24, [5, 4, 0, 259, 0], 0), (22, 1, .return_, [], 0)]
def me_62 : ex_M := (yX5_take, cX5_take, 2, none, RX5, [bk_62_0], [])
def bk_63_2 : List ex_R := [(94, 1, .return_, [], 0)]
def bk_63_1 : List ex_R := [(30, 2, .iload 4, [], 0), (32, 1, .aload_n 1, [], 0), (33, 3, .getfield 50, [0, 4, 0, 23, 1], 0), (36, 3, .if_icmp .ge 58, [2], 0), (39, 1, .aload_n 2, [], 0), (40, 2, .iload 4, [], 0), (42, 3, .invokestatic 42, [3, 127, 2, 0], 72), (45, 2, .istore 5, [], 0), (47, 1, .aload_n 0, [], 0), (48, 3, .getfield 9, [5, 0, 2, 255, 0], 0), (51, 1, .aload_n 1, [], 0), (52, 2, .iload 4, [], 0), (54, 3, .invokevirtual 55, [1, 10, 2, 0], 76), (57, 2, .iload 5, [], 0), (59, 3, .invokestatic 38, [3, 128, 3, 0], 70), (62, 1, .aload_n 0, [], 0), (63, 3, .getfield 18, [5, 2, 2, 257, 0], 0), (66, 2, .iload 5, [], 0), (68, 1, .aload_n 0, [], 0), (69, 3, .getfield 18, [5, 2, 2, 257, 0], 0), (72, 2, .iload 5, [], 0), (74, 3, .invokestatic 42, [3, 127, 2, 0], 72), (77, 2, .iload 4, [], 0), (79, 1, .iload_n 3, [], 0), (80, 1, .aload_n 1, [], 0), (81, 3, .invokestatic 59, [2, 68, 3, 0], 352), (84, 1, .iadd, [], 0), (85, 3, .invokestatic 38, [3, 128, 3, 0], 70), (88, 3, .iinc 4 1, [], 1), (91, 3, .goto (-61), [1], 0)]
def bk_63_0 : List ex_R := (0, 1, .aload_n 0, [], 0) :: (1, 3, .getfield 21, [5, 3, 2, 258, 0], 0) :: (4, 1, .aload_n 0, [], 0) :: (5, 3, .getfield 24, [5, 4, 0, 259, 0], 0) :: (8, 1, .iconst 1, [], 1) :: (9, 1, .isub, [], 0) :: (10, 3, .invokestatic 42, [3, 127, 2, 0], 72) :: (13, 1, .istore_n 3, [], 0) :: (14, 1, .iload_n 3, [], 0) :: (15, 1, .aload_n 1, [], 0) :: (16, 3, .invokestatic 46, [2, 67, 2, 0], 344) :: (19, 1, .aload_n 0, [], 0) :: (20, 3, .getfield 9, [5, 0, 2, 255, 0], 0) :: (23, 1, .aload_n 2, [], 0) :: (24, 3, .invokestatic 28, [3, 129, 2, 0], 64) :: (27, 1, .iconst 0, [], 0) :: (28, 2, .istore 4, [], 0) :: bk_63_1
def me_63 : ex_M := (yX5_dealLast, cX5_dealLast, 6, none, RX5, [bk_63_0, bk_63_1, bk_63_2], [])
def bk_64_2 : List ex_R := [(94, 1, .return_, [], 0)]
def bk_64_1 : List ex_R := [(30, 2, .iload 4, [], 0), (32, 1, .aload_n 1, [], 0), (33, 3, .getfield 50, [0, 4, 0, 23, 1], 0), (36, 3, .if_icmp .ge 58, [2], 0), (39, 1, .aload_n 2, [], 0), (40, 1, .aload_n 1, [], 0), (41, 2, .iload 4, [], 0), (43, 3, .invokevirtual 55, [1, 10, 2, 0], 76), (46, 3, .invokestatic 42, [3, 127, 2, 0], 72), (49, 2, .istore 5, [], 0), (51, 1, .aload_n 0, [], 0), (52, 3, .getfield 9, [5, 0, 2, 255, 0], 0), (55, 2, .iload 4, [], 0), (57, 2, .iload 5, [], 0), (59, 3, .invokestatic 38, [3, 128, 3, 0], 70), (62, 1, .aload_n 0, [], 0), (63, 3, .getfield 18, [5, 2, 2, 257, 0], 0), (66, 2, .iload 5, [], 0), (68, 1, .aload_n 0, [], 0), (69, 3, .getfield 18, [5, 2, 2, 257, 0], 0), (72, 2, .iload 5, [], 0), (74, 3, .invokestatic 42, [3, 127, 2, 0], 72), (77, 2, .iload 4, [], 0), (79, 1, .iload_n 3, [], 0), (80, 1, .aload_n 1, [], 0), (81, 3, .invokestatic 59, [2, 68, 3, 0], 352), (84, 1, .isub, [], 0), (85, 3, .invokestatic 38, [3, 128, 3, 0], 70), (88, 3, .iinc 4 1, [], 1), (91, 3, .goto (-61), [1], 0)]
def bk_64_0 : List ex_R := (0, 1, .aload_n 0, [], 0) :: (1, 3, .getfield 21, [5, 3, 2, 258, 0], 0) :: (4, 1, .aload_n 0, [], 0) :: (5, 3, .getfield 24, [5, 4, 0, 259, 0], 0) :: (8, 1, .iconst 1, [], 1) :: (9, 1, .isub, [], 0) :: (10, 3, .invokestatic 42, [3, 127, 2, 0], 72) :: (13, 1, .istore_n 3, [], 0) :: (14, 1, .iload_n 3, [], 0) :: (15, 1, .aload_n 1, [], 0) :: (16, 3, .invokestatic 46, [2, 67, 2, 0], 344) :: (19, 1, .aload_n 0, [], 0) :: (20, 3, .getfield 9, [5, 0, 2, 255, 0], 0) :: (23, 1, .aload_n 2, [], 0) :: (24, 3, .invokestatic 28, [3, 129, 2, 0], 64) :: (27, 1, .iconst 0, [], 0) :: (28, 2, .istore 4, [], 0) :: bk_64_1
def me_64 : ex_M := (yX5_gatherLast, cX5_gatherLast, 6, none, RX5, [bk_64_0, bk_64_1, bk_64_2], [])
def bk_65_3 : List ex_R := [(46, 1, .iconst 1, [], 1), (47, 1, .ireturn, [], 0)]
def bk_65_2 : List ex_R := [(40, 3, .iinc 3 1, [], 1), (43, 3, .goto (-36), [1], 0)]
def bk_65_1 : List ex_R := [(7, 1, .iload_n 3, [], 0), (8, 1, .aload_n 2, [], 0), (9, 3, .getfield 50, [0, 4, 0, 23, 1], 0), (12, 3, .if_icmp .ge 34, [3], 0), (15, 1, .aload_n 0, [], 0), (16, 3, .getfield 9, [5, 0, 2, 255, 0], 0), (19, 1, .aload_n 2, [], 0), (20, 1, .iload_n 3, [], 0), (21, 3, .invokevirtual 55, [1, 10, 2, 0], 76), (24, 3, .invokestatic 42, [3, 127, 2, 0], 72), (27, 1, .aload_n 0, [], 0), (28, 3, .getfield 15, [5, 1, 2, 256, 0], 0), (31, 1, .iload_n 3, [], 0), (32, 3, .invokestatic 42, [3, 127, 2, 0], 72), (35, 3, .if_icmp .eq 5, [2], 0), (38, 1, .iconst 0, [], 0), (39, 1, .ireturn, [], 0)]
def bk_65_0 : List ex_R := (0, 1, .iload_n 1, [], 0) :: (1, 1, .aload_n 2, [], 0) :: (2, 3, .invokestatic 46, [2, 67, 2, 0], 344) :: (5, 1, .iconst 0, [], 0) :: (6, 1, .istore_n 3, [], 0) :: bk_65_1
def me_65 : ex_M := (yX5_comesBy, cX5_comesBy, 4, some .boolean, RX5, [bk_65_0, bk_65_1, bk_65_2, bk_65_3], [])
def bk_66_3 : List ex_R := [(43, 1, .lload_n 2, [], 0), (44, 1, .lreturn, [], 0)]
def bk_66_2 : List ex_R := [(37, 3, .iinc 4 1, [], 1), (40, 3, .goto (-35), [1], 0)]
def bk_66_1 : List ex_R := (5, 2, .iload 4, [], 0) :: (7, 1, .aload_n 1, [], 0) :: (8, 3, .getfield 63, [4, 4, 0, 28, 1], 0) :: (11, 3, .if_icmp .ge 32, [3], 0) :: (14, 1, .aload_n 0, [], 0) :: (15, 3, .getfield 18, [5, 2, 2, 257, 0], 0) :: (18, 2, .iload 4, [], 0) :: (20, 3, .invokestatic 42, [3, 127, 2, 0], 72) :: (23, 1, .aload_n 1, [], 0) :: (24, 3, .getfield 66, [4, 6, 0, 34, 1], 0) :: (27, 3, .if_icmp .gt 10, [2], 0) :: (30, 1, .lload_n 2, [], 0) :: (31, 1, .lconst 1, [], 0) :: (32, 2, .iload 4, [], 0) :: (34, 1, .lshl, [], 0) :: (35, 1, .lor, [], 0) :: (36, 1, .lstore_n 2, [], 0) :: bk_66_2
def bk_66_0 : List ex_R := (0, 1, .lconst 0, [], 0) :: (1, 1, .lstore_n 2, [], 0) :: (2, 1, .iconst 0, [], 0) :: (3, 2, .istore 4, [], 0) :: bk_66_1
def me_66 : ex_M := (yX5_fitting, cX5_fitting, 5, some .long, RX5, [bk_66_0, bk_66_1, bk_66_2, bk_66_3], [])
def bk_67_0 : List ex_R := [(0, 1, .aload_n 1, [], 0), (1, 1, .iload_n 0, [], 0), (2, 1, .iconst 3, [], 3), (3, 3, .invokestatic 69, [3, 121, 2, 0], 73), (6, 1, .iload_n 0, [], 0), (7, 1, .iconst 2, [], 2), (8, 3, .invokestatic 69, [3, 121, 2, 0], 73), (11, 3, .invokevirtual 73, [1, 3, 3, 0], 74), (14, 1, .aload_n 1, [], 0), (15, 1, .iload_n 0, [], 0), (16, 1, .iconst 1, [], 1), (17, 3, .invokestatic 69, [3, 121, 2, 0], 73), (20, 1, .iload_n 0, [], 0), (21, 1, .iconst 0, [], 0), (22, 3, .invokestatic 69, [3, 121, 2, 0], 73), (25, 1, .iload_n 0, [], 0), (26, 1, .iconst 0, [], 0), (27, 3, .invokestatic 69, [3, 121, 2, 0], 73), (30, 3, .invokevirtual 77, [1, 4, 4, 0], 75), (33, 1, .return_, [], 0)]
def me_67 : ex_M := (yX5_layBy, cX5_layBy, 2, none, RX5, [bk_67_0], [])
def bk_68_2 : List ex_R := [(18, 1, .ireturn, [], 0)]
def bk_68_1 : List ex_R := (17, 1, .iconst 1, [], 1) :: bk_68_2
def bk_68_0 : List ex_R := [(0, 1, .aload_n 2, [], 0), (1, 1, .iload_n 0, [], 0), (2, 3, .invokevirtual 81, [1, 8, 2, 0], 77), (5, 1, .iload_n 1, [], 0), (6, 1, .iconst 0, [], 0), (7, 3, .invokestatic 69, [3, 121, 2, 0], 73), (10, 3, .if_icmp .ne 7, [1], 0), (13, 1, .iconst 0, [], 0), (14, 3, .goto 4, [2], 0)]
def me_68 : ex_M := (yX5_falseAt, cX5_falseAt, 3, some .int, RX5, [bk_68_0, bk_68_1, bk_68_2], [])
def bk_69_0 : List ex_R := [(0, 1, .aload_n 0, [], 0), (1, 3, .invokespecial 3, [6], 153), (4, 1, .aload_n 0, [], 0), (5, 3, .sipush 500, [], 500), (8, 2, .newarray .byte, [165], 0), (10, 3, .putfield 9, [6, 0, 2, 155, 2], 0), (13, 1, .aload_n 0, [], 0), (14, 1, .iconst 0, [], 0), (15, 3, .putfield 15, [6, 1, 0, 156, 0], 0), (18, 1, .aload_n 0, [], 0), (19, 1, .iconst 0, [], 0), (20, 3, .putfield 19, [6, 2, 0, 157, 0], 0), (23, 1, .aload_n 0, [], 0), (24, 1, .iconst 0, [], 0), (25, 3, .putfield 22, [6, 3, 0, 158, 0], 0), (28, 1, .aload_n 0, [], 0), (29, 1, .iconst 0, [], 0), (30, 3, .putfield 25, [6, 4, 0, 159, 0], 0), (33, 1, .aload_n 0, [], 0), (34, 1, .iconst 0, [], 0), (35, 3, .putfield 28, [6, 5, 0, 160, 0], 0), (38, 1, .aload_n 0, [], 0), (39, 3, .getstatic 31, [0, 17, 16, 154, 0], 0), (42, 3, .putfield 37, [6, 6, 2, 161, 0], 0), (45, 1, .aload_n 0, [], 0), (46, 1, .iconst 0, [], 0), (47, 3, .putfield 40, [6, 7, 0, 162, 0], 0), (50, 1, .aload_n 0, [], 0), (51, 1, .iconst 0, [], 0), (52, 3, .putfield 43, [6, 8, 0, 163, 0], 0), (55, 1, .return_, [], 0)]
def me_69 : ex_M := (yX6_init, cX6_init, 1, none, RX6, [bk_69_0], [])
def bk_70_3 : List ex_R := [(48, 1, .return_, [], 0)]
def bk_70_2 : List ex_R := [(42, 3, .iinc 2 (-8), [], (-8)), (45, 3, .goto (-42), [1], 0)]
def bk_70_1 : List ex_R := (3, 1, .iload_n 2, [], 0) :: (4, 3, .ifCond .lt 44, [3], 0) :: (7, 1, .aload_n 0, [], 0) :: (8, 3, .getfield 15, [6, 1, 0, 156, 0], 0) :: (11, 1, .aload_n 0, [], 0) :: (12, 3, .getfield 9, [6, 0, 2, 155, 0], 0) :: (15, 1, .arraylength, [], 0) :: (16, 3, .if_icmp .ge 26, [2], 0) :: (19, 1, .aload_n 0, [], 0) :: (20, 3, .getfield 9, [6, 0, 2, 155, 0], 0) :: (23, 1, .aload_n 0, [], 0) :: (24, 3, .getfield 15, [6, 1, 0, 156, 0], 0) :: (27, 1, .iload_n 1, [], 0) :: (28, 1, .iload_n 2, [], 0) :: (29, 1, .ishr, [], 0) :: (30, 1, .i2b, [], 0) :: (31, 1, .bastore, [], 0) :: (32, 1, .aload_n 0, [], 0) :: (33, 1, .dup, [], 0) :: (34, 3, .getfield 15, [6, 1, 0, 156, 0], 0) :: (37, 1, .iconst 1, [], 1) :: (38, 1, .iadd, [], 0) :: (39, 3, .putfield 15, [6, 1, 0, 156, 0], 0) :: bk_70_2
def bk_70_0 : List ex_R := (0, 2, .bipush 24, [], 24) :: (2, 1, .istore_n 2, [], 0) :: bk_70_1
def me_70 : ex_M := (yX6_append, cX6_append, 3, none, RX6, [bk_70_0, bk_70_1, bk_70_2, bk_70_3], [])
def bk_71_0 : List ex_R := [(0, 1, .aload_n 0, [], 0), (1, 1, .iload_n 1, [], 0), (2, 1, .aload_n 0, [], 0), (3, 3, .getfield 15, [6, 1, 0, 156, 0], 0), (6, 3, .invokestatic 46, [2, 213, 2, 0], 412), (9, 3, .putfield 19, [6, 2, 0, 157, 0], 0), (12, 1, .aload_n 0, [], 0), (13, 1, .iconst 0, [], 0), (14, 3, .putfield 22, [6, 3, 0, 158, 0], 0), (17, 1, .aload_n 0, [], 0), (18, 3, .invokevirtual 52, [0, 72, 1, 6], 413), (21, 1, .return_, [], 0)]
def me_71 : ex_M := (yX6_openText, cX6_openText, 2, none, RX6, [bk_71_0], [])
def bk_72_5 : List ex_R := [(151, 1, .return_, [], 0)]
def bk_72_4 : List ex_R := (124, 1, .aload_n 0, [], 0) :: (125, 1, .iconst 3, [], 3) :: (126, 3, .putfield 28, [6, 5, 0, 160, 0], 0) :: (129, 1, .aload_n 0, [], 0) :: (130, 1, .aload_n 0, [], 0) :: (131, 1, .aload_n 0, [], 0) :: (132, 3, .getfield 25, [6, 4, 0, 159, 0], 0) :: (135, 3, .invokevirtual 55, [0, 77, 2, 6], 415) :: (138, 3, .putfield 43, [6, 8, 0, 163, 0], 0) :: (141, 1, .aload_n 0, [], 0) :: (142, 1, .dup, [], 0) :: (143, 3, .getfield 22, [6, 3, 0, 158, 0], 0) :: (146, 1, .iconst 1, [], 1) :: (147, 1, .iadd, [], 0) :: (148, 3, .putfield 22, [6, 3, 0, 158, 0], 0) :: bk_72_5
def bk_72_3 : List ex_R := [(103, 1, .aload_n 0, [], 0), (104, 1, .aload_n 0, [], 0), (105, 3, .getfield 25, [6, 4, 0, 159, 0], 0), (108, 3, .invokevirtual 55, [0, 77, 2, 6], 415), (111, 3, .invokestatic 69, [2, 80, 1, 0], 457), (114, 3, .ifCond .eq 10, [4], 0), (117, 1, .aload_n 0, [], 0), (118, 3, .invokevirtual 72, [0, 74, 1, 6], 459), (121, 3, .goto 30, [5], 0)]
def bk_72_2 : List ex_R := [(82, 1, .aload_n 0, [], 0), (83, 1, .aload_n 0, [], 0), (84, 3, .getfield 25, [6, 4, 0, 159, 0], 0), (87, 3, .invokevirtual 55, [0, 77, 2, 6], 415), (90, 3, .invokestatic 63, [2, 79, 1, 0], 419), (93, 3, .ifCond .eq 10, [3], 0), (96, 1, .aload_n 0, [], 0), (97, 3, .invokevirtual 66, [0, 73, 1, 6], 421), (100, 3, .goto 51, [5], 0)]
def bk_72_1 : List ex_R := [(38, 1, .aload_n 0, [], 0), (39, 1, .aload_n 0, [], 0), (40, 3, .getfield 22, [6, 3, 0, 158, 0], 0), (43, 3, .putfield 25, [6, 4, 0, 159, 0], 0), (46, 1, .aload_n 0, [], 0), (47, 3, .getstatic 31, [0, 17, 16, 154, 0], 0), (50, 3, .putfield 37, [6, 6, 2, 161, 0], 0), (53, 1, .aload_n 0, [], 0), (54, 1, .iconst 0, [], 0), (55, 3, .putfield 40, [6, 7, 0, 162, 0], 0), (58, 1, .aload_n 0, [], 0), (59, 1, .iconst 0, [], 0), (60, 3, .putfield 43, [6, 8, 0, 163, 0], 0), (63, 1, .aload_n 0, [], 0), (64, 3, .getfield 25, [6, 4, 0, 159, 0], 0), (67, 1, .aload_n 0, [], 0), (68, 3, .getfield 19, [6, 2, 0, 157, 0], 0), (71, 3, .if_icmp .lt 11, [2], 0), (74, 1, .aload_n 0, [], 0), (75, 1, .iconst 0, [], 0), (76, 3, .putfield 28, [6, 5, 0, 160, 0], 0), (79, 3, .goto 72, [5], 0)]
def bk_72_0 : List ex_R := [(0, 1, .aload_n 0, [], 0), (1, 3, .getfield 22, [6, 3, 0, 158, 0], 0), (4, 1, .aload_n 0, [], 0), (5, 3, .getfield 19, [6, 2, 0, 157, 0], 0), (8, 3, .if_icmp .ge 30, [1], 0), (11, 1, .aload_n 0, [], 0), (12, 1, .aload_n 0, [], 0), (13, 3, .getfield 22, [6, 3, 0, 158, 0], 0), (16, 3, .invokevirtual 55, [0, 77, 2, 6], 415), (19, 3, .invokestatic 59, [2, 78, 1, 0], 417), (22, 3, .ifCond .eq 16, [1], 0), (25, 1, .aload_n 0, [], 0), (26, 1, .dup, [], 0), (27, 3, .getfield 22, [6, 3, 0, 158, 0], 0), (30, 1, .iconst 1, [], 1), (31, 1, .iadd, [], 0), (32, 3, .putfield 22, [6, 3, 0, 158, 0], 0), (35, 3, .goto (-35), [0], 0)]
def me_72 : ex_M := (yX6_advance, cX6_advance, 1, none, RX6, [bk_72_0, bk_72_1, bk_72_2, bk_72_3, bk_72_4, bk_72_5], [])
def bk_73_5 : List ex_R := [(93, 1, .return_, [], 0)]
def bk_73_4 : List ex_R := [(87, 3, .iinc 1 1, [], 1), (90, 3, .goto (-45), [3], 0)]
def bk_73_3 : List ex_R := (45, 1, .iload_n 1, [], 0) :: (46, 3, .getstatic 75, [0, 52, 17, 90, 1], 0) :: (49, 1, .arraylength, [], 0) :: (50, 3, .if_icmp .ge 43, [5], 0) :: (53, 1, .aload_n 0, [], 0) :: (54, 3, .getfield 37, [6, 6, 2, 161, 0], 0) :: (57, 3, .getstatic 31, [0, 17, 16, 154, 0], 0) :: (60, 3, .if_acmp .ne 33, [5], 0) :: (63, 1, .aload_n 0, [], 0) :: (64, 3, .getstatic 75, [0, 52, 17, 90, 1], 0) :: (67, 1, .iload_n 1, [], 0) :: (68, 1, .aaload, [], 0) :: (69, 3, .getfield 79, [100, 0, 2, 148, 1], 0) :: (72, 3, .invokevirtual 83, [0, 76, 2, 6], 423) :: (75, 3, .ifCond .eq 12, [4], 0) :: (78, 1, .aload_n 0, [], 0) :: (79, 3, .getstatic 75, [0, 52, 17, 90, 1], 0) :: (82, 1, .iload_n 1, [], 0) :: (83, 1, .aaload, [], 0) :: (84, 3, .putfield 37, [6, 6, 2, 161, 0], 0) :: bk_73_4
def bk_73_2 : List ex_R := (43, 1, .iconst 0, [], 0) :: (44, 1, .istore_n 1, [], 0) :: bk_73_3
def bk_73_1 : List ex_R := [(5, 1, .aload_n 0, [], 0), (6, 3, .getfield 22, [6, 3, 0, 158, 0], 0), (9, 1, .aload_n 0, [], 0), (10, 3, .getfield 19, [6, 2, 0, 157, 0], 0), (13, 3, .if_icmp .ge 30, [2], 0), (16, 1, .aload_n 0, [], 0), (17, 1, .aload_n 0, [], 0), (18, 3, .getfield 22, [6, 3, 0, 158, 0], 0), (21, 3, .invokevirtual 55, [0, 77, 2, 6], 415), (24, 3, .invokestatic 63, [2, 79, 1, 0], 419), (27, 3, .ifCond .eq 16, [2], 0), (30, 1, .aload_n 0, [], 0), (31, 1, .dup, [], 0), (32, 3, .getfield 22, [6, 3, 0, 158, 0], 0), (35, 1, .iconst 1, [], 1), (36, 1, .iadd, [], 0), (37, 3, .putfield 22, [6, 3, 0, 158, 0], 0), (40, 3, .goto (-35), [1], 0)]
def bk_73_0 : List ex_R := (0, 1, .aload_n 0, [], 0) :: (1, 1, .iconst 1, [], 1) :: (2, 3, .putfield 28, [6, 5, 0, 160, 0], 0) :: bk_73_1
def me_73 : ex_M := (yX6_takeWord, cX6_takeWord, 2, none, RX6, [bk_73_0, bk_73_1, bk_73_2, bk_73_3, bk_73_4, bk_73_5], [])
def bk_74_3 : List ex_R := [(79, 1, .return_, [], 0)]
def bk_74_2 : List ex_R := [(66, 1, .aload_n 0, [], 0), (67, 1, .dup, [], 0), (68, 3, .getfield 22, [6, 3, 0, 158, 0], 0), (71, 1, .iconst 1, [], 1), (72, 1, .iadd, [], 0), (73, 3, .putfield 22, [6, 3, 0, 158, 0], 0), (76, 3, .goto (-71), [1], 0)]
def bk_74_1 : List ex_R := (5, 1, .aload_n 0, [], 0) :: (6, 3, .getfield 22, [6, 3, 0, 158, 0], 0) :: (9, 1, .aload_n 0, [], 0) :: (10, 3, .getfield 19, [6, 2, 0, 157, 0], 0) :: (13, 3, .if_icmp .ge 66, [3], 0) :: (16, 1, .aload_n 0, [], 0) :: (17, 1, .aload_n 0, [], 0) :: (18, 3, .getfield 22, [6, 3, 0, 158, 0], 0) :: (21, 3, .invokevirtual 55, [0, 77, 2, 6], 415) :: (24, 3, .invokestatic 69, [2, 80, 1, 0], 457) :: (27, 3, .ifCond .eq 52, [3], 0) :: (30, 1, .aload_n 0, [], 0) :: (31, 3, .getfield 22, [6, 3, 0, 158, 0], 0) :: (34, 1, .aload_n 0, [], 0) :: (35, 3, .getfield 25, [6, 4, 0, 159, 0], 0) :: (38, 1, .isub, [], 0) :: (39, 1, .iconst 4, [], 4) :: (40, 3, .if_icmp .ge 26, [2], 0) :: (43, 1, .aload_n 0, [], 0) :: (44, 2, .bipush 10, [], 10) :: (46, 1, .aload_n 0, [], 0) :: (47, 3, .getfield 40, [6, 7, 0, 162, 0], 0) :: (50, 1, .imul, [], 0) :: (51, 1, .aload_n 0, [], 0) :: (52, 1, .aload_n 0, [], 0) :: (53, 3, .getfield 22, [6, 3, 0, 158, 0], 0) :: (56, 3, .invokevirtual 55, [0, 77, 2, 6], 415) :: (59, 1, .iadd, [], 0) :: (60, 2, .bipush 48, [], 48) :: (62, 1, .isub, [], 0) :: (63, 3, .putfield 40, [6, 7, 0, 162, 0], 0) :: bk_74_2
def bk_74_0 : List ex_R := (0, 1, .aload_n 0, [], 0) :: (1, 1, .iconst 2, [], 2) :: (2, 3, .putfield 28, [6, 5, 0, 160, 0], 0) :: bk_74_1
def me_74 : ex_M := (yX6_takeNumber, cX6_takeNumber, 1, none, RX6, [bk_74_0, bk_74_1, bk_74_2, bk_74_3], [])
def bk_75_2 : List ex_R := [(26, 1, .ireturn, [], 0)]
def bk_75_1 : List ex_R := (25, 1, .iconst 0, [], 0) :: bk_75_2
def bk_75_0 : List ex_R := [(0, 1, .aload_n 0, [], 0), (1, 3, .getfield 28, [6, 5, 0, 160, 0], 0), (4, 1, .iconst 2, [], 2), (5, 3, .if_icmp .ne 20, [1], 0), (8, 1, .aload_n 0, [], 0), (9, 3, .getfield 22, [6, 3, 0, 158, 0], 0), (12, 1, .aload_n 0, [], 0), (13, 3, .getfield 25, [6, 4, 0, 159, 0], 0), (16, 1, .isub, [], 0), (17, 1, .iconst 4, [], 4), (18, 3, .if_icmp .le 7, [1], 0), (21, 1, .iconst 1, [], 1), (22, 3, .goto 4, [2], 0)]
def me_75 : ex_M := (yX6_isLongNumber, cX6_isLongNumber, 1, some .boolean, RX6, [bk_75_0, bk_75_1, bk_75_2], [])
def bk_76_4 : List ex_R := [(54, 1, .iconst 1, [], 1), (55, 1, .ireturn, [], 0)]
def bk_76_3 : List ex_R := [(48, 3, .iinc 2 1, [], 1), (51, 3, .goto (-31), [2], 0)]
def bk_76_2 : List ex_R := [(20, 1, .iload_n 2, [], 0), (21, 1, .aload_n 1, [], 0), (22, 3, .invokevirtual 87, [0, 214, 1, 101], 425), (25, 3, .if_icmp .ge 29, [4], 0), (28, 1, .aload_n 1, [], 0), (29, 1, .iload_n 2, [], 0), (30, 3, .invokevirtual 92, [0, 215, 2, 101], 432), (33, 1, .aload_n 0, [], 0), (34, 1, .aload_n 0, [], 0), (35, 3, .getfield 25, [6, 4, 0, 159, 0], 0), (38, 1, .iload_n 2, [], 0), (39, 1, .iadd, [], 0), (40, 3, .invokevirtual 55, [0, 77, 2, 6], 415), (43, 3, .if_icmp .eq 5, [3], 0), (46, 1, .iconst 0, [], 0), (47, 1, .ireturn, [], 0)]
def bk_76_1 : List ex_R := (18, 1, .iconst 0, [], 0) :: (19, 1, .istore_n 2, [], 0) :: bk_76_2
def bk_76_0 : List ex_R := [(0, 1, .aload_n 1, [], 0), (1, 3, .invokevirtual 87, [0, 214, 1, 101], 425), (4, 1, .aload_n 0, [], 0), (5, 3, .getfield 22, [6, 3, 0, 158, 0], 0), (8, 1, .aload_n 0, [], 0), (9, 3, .getfield 25, [6, 4, 0, 159, 0], 0), (12, 1, .isub, [], 0), (13, 3, .if_icmp .eq 5, [1], 0), (16, 1, .iconst 0, [], 0), (17, 1, .ireturn, [], 0)]
def me_76 : ex_M := (yX6_isSpelled, cX6_isSpelled, 3, some .boolean, RX6, [bk_76_0, bk_76_1, bk_76_2, bk_76_3, bk_76_4], [])
def bk_77_2 : List ex_R := [(35, 1, .ireturn, [], 0)]
def bk_77_1 : List ex_R := (34, 1, .iconst (-1), [], (-1)) :: bk_77_2
def bk_77_0 : List ex_R := [(0, 1, .iload_n 1, [], 0), (1, 3, .ifCond .lt 33, [1], 0), (4, 1, .iload_n 1, [], 0), (5, 1, .aload_n 0, [], 0), (6, 3, .getfield 19, [6, 2, 0, 157, 0], 0), (9, 3, .if_icmp .ge 25, [1], 0), (12, 1, .iload_n 1, [], 0), (13, 1, .aload_n 0, [], 0), (14, 3, .getfield 9, [6, 0, 2, 155, 0], 0), (17, 1, .arraylength, [], 0), (18, 3, .if_icmp .ge 16, [1], 0), (21, 1, .aload_n 0, [], 0), (22, 3, .getfield 9, [6, 0, 2, 155, 0], 0), (25, 1, .iload_n 1, [], 0), (26, 1, .baload, [], 0), (27, 3, .sipush 255, [], 255), (30, 1, .iand, [], 0), (31, 3, .goto 4, [2], 0)]
def me_77 : ex_M := (yX6_byteAt, cX6_byteAt, 2, some .int, RX6, [bk_77_0, bk_77_1, bk_77_2], [])
def bk_78_3 : List ex_R := [(17, 1, .ireturn, [], 0)]
def bk_78_2 : List ex_R := (16, 1, .iconst 0, [], 0) :: bk_78_3
def bk_78_1 : List ex_R := [(12, 1, .iconst 1, [], 1), (13, 3, .goto 4, [3], 0)]
def bk_78_0 : List ex_R := (0, 1, .iload_n 0, [], 0) :: (1, 2, .bipush 32, [], 32) :: (3, 3, .if_icmp .eq 9, [1], 0) :: (6, 1, .iload_n 0, [], 0) :: (7, 2, .bipush 10, [], 10) :: (9, 3, .if_icmp .ne 7, [2], 0) :: bk_78_1
def me_78 : ex_M := (yX6_isBlank, cX6_isBlank, 1, some .boolean, RX6, [bk_78_0, bk_78_1, bk_78_2, bk_78_3], [])
def bk_79_2 : List ex_R := [(17, 1, .ireturn, [], 0)]
def bk_79_1 : List ex_R := (16, 1, .iconst 0, [], 0) :: bk_79_2
def bk_79_0 : List ex_R := [(0, 1, .iload_n 0, [], 0), (1, 2, .bipush 97, [], 97), (3, 3, .if_icmp .lt 13, [1], 0), (6, 1, .iload_n 0, [], 0), (7, 2, .bipush 122, [], 122), (9, 3, .if_icmp .gt 7, [1], 0), (12, 1, .iconst 1, [], 1), (13, 3, .goto 4, [2], 0)]
def me_79 : ex_M := (yX6_isLetter, cX6_isLetter, 1, some .boolean, RX6, [bk_79_0, bk_79_1, bk_79_2], [])
def bk_80_2 : List ex_R := [(17, 1, .ireturn, [], 0)]
def bk_80_1 : List ex_R := (16, 1, .iconst 0, [], 0) :: bk_80_2
def bk_80_0 : List ex_R := [(0, 1, .iload_n 0, [], 0), (1, 2, .bipush 48, [], 48), (3, 3, .if_icmp .lt 13, [1], 0), (6, 1, .iload_n 0, [], 0), (7, 2, .bipush 57, [], 57), (9, 3, .if_icmp .gt 7, [1], 0), (12, 1, .iconst 1, [], 1), (13, 3, .goto 4, [2], 0)]
def me_80 : ex_M := (yX6_isDigit, cX6_isDigit, 1, some .boolean, RX6, [bk_80_0, bk_80_1, bk_80_2], [])
def bk_81_0 : List ex_R := [(0, 1, .aload_n 0, [], 0), (1, 3, .invokespecial 3, [6], 234), (4, 1, .aload_n 0, [], 0), (5, 1, .iconst 0, [], 0), (6, 3, .putfield 9, [7, 2, 0, 237, 0], 0), (9, 1, .aload_n 0, [], 0), (10, 1, .iconst 0, [], 0), (11, 3, .putfield 15, [7, 3, 0, 238, 0], 0), (14, 1, .aload_n 0, [], 0), (15, 1, .iconst 0, [], 0), (16, 3, .putfield 18, [7, 4, 0, 239, 0], 0), (19, 1, .aload_n 0, [], 0), (20, 1, .iconst 0, [], 0), (21, 3, .putfield 21, [7, 5, 0, 240, 0], 0), (24, 1, .aload_n 0, [], 0), (25, 1, .iconst 0, [], 0), (26, 3, .putfield 24, [7, 6, 0, 241, 0], 0), (29, 1, .aload_n 0, [], 0), (30, 1, .aload_n 1, [], 0), (31, 3, .putfield 27, [7, 0, 2, 235, 2], 0), (34, 1, .aload_n 0, [], 0), (35, 1, .aload_n 2, [], 0), (36, 3, .putfield 31, [7, 1, 2, 236, 2], 0), (39, 1, .return_, [], 0)]
def me_81 : ex_M := (yX7_init, cX7_init, 3, none, RX7, [bk_81_0], [])
def bk_82_0 : List ex_R := [(0, 1, .aload_n 0, [], 0), (1, 1, .iload_n 2, [], 0), (2, 3, .putfield 9, [7, 2, 0, 237, 0], 0), (5, 1, .aload_n 0, [], 0), (6, 1, .iconst 0, [], 0), (7, 3, .putfield 15, [7, 3, 0, 238, 0], 0), (10, 1, .aload_n 0, [], 0), (11, 1, .iconst 0, [], 0), (12, 3, .putfield 18, [7, 4, 0, 239, 0], 0), (15, 1, .aload_n 0, [], 0), (16, 1, .iload_n 2, [], 0), (17, 1, .iconst 1, [], 1), (18, 1, .isub, [], 0), (19, 1, .lconst 1, [], 0), (20, 1, .iload_n 1, [], 0), (21, 1, .lshl, [], 0), (22, 1, .iconst 0, [], 0), (23, 1, .iconst 1, [], 1), (24, 3, .invokevirtual 35, [0, 85, 5, 7], 565), (27, 1, .aload_n 0, [], 0), (28, 3, .getfield 15, [7, 3, 0, 238, 0], 0), (31, 1, .ireturn, [], 0)]
def me_82 : ex_M := (yX7_rowsFor, cX7_rowsFor, 3, some .int, RX7, [bk_82_0], [])
def bk_83_0 : List ex_R := [(0, 1, .aload_n 0, [], 0), (1, 1, .aload_n 0, [], 0), (2, 3, .getfield 18, [7, 4, 0, 239, 0], 0), (5, 3, .putfield 21, [7, 5, 0, 240, 0], 0), (8, 1, .aload_n 0, [], 0), (9, 1, .aload_n 0, [], 0), (10, 3, .getfield 9, [7, 2, 0, 237, 0], 0), (13, 3, .putfield 24, [7, 6, 0, 241, 0], 0), (16, 1, .return_, [], 0)]
def me_83 : ex_M := (yX7_keepFirst, cX7_keepFirst, 1, none, RX7, [bk_83_0], [])
def bk_84_0 : List ex_R := [(0, 1, .aload_n 0, [], 0), (1, 3, .getfield 21, [7, 5, 0, 240, 0], 0), (4, 1, .aload_n 0, [], 0), (5, 3, .getfield 24, [7, 6, 0, 241, 0], 0), (8, 1, .iconst 1, [], 1), (9, 1, .isub, [], 0), (10, 1, .iload_n 1, [], 0), (11, 1, .isub, [], 0), (12, 3, .invokestatic 39, [3, 121, 2, 0], 120), (15, 1, .ireturn, [], 0)]
def me_84 : ex_M := (yX7_keptLaying, cX7_keptLaying, 2, some .int, RX7, [bk_84_0], [])
def bk_85_6 : List ex_R := [(124, 1, .return_, [], 0)]
def bk_85_5 : List ex_R := [(118, 3, .iinc 7 1, [], 1), (121, 3, .goto (-65), [4], 0)]
def bk_85_4 : List ex_R := (56, 2, .iload 7, [], 0) :: (58, 1, .aload_n 0, [], 0) :: (59, 3, .getfield 27, [7, 0, 2, 235, 0], 0) :: (62, 3, .getfield 48, [4, 5, 0, 30, 1], 0) :: (65, 3, .if_icmp .ge 59, [6], 0) :: (68, 1, .aload_n 0, [], 0) :: (69, 1, .iload_n 1, [], 0) :: (70, 2, .iload 7, [], 0) :: (72, 1, .lload_n 2, [], 0) :: (73, 3, .invokevirtual 56, [0, 86, 4, 7], 569) :: (76, 2, .lstore 8, [], 0) :: (78, 2, .lload 8, [], 0) :: (80, 3, .invokestatic 60, [2, 210, 1, 0], 571) :: (83, 2, .iload 6, [], 0) :: (85, 1, .imul, [], 0) :: (86, 1, .aload_n 0, [], 0) :: (87, 3, .getfield 27, [7, 0, 2, 235, 0], 0) :: (90, 3, .getfield 66, [4, 4, 0, 27, 1], 0) :: (93, 3, .if_icmp .lt 25, [5], 0) :: (96, 1, .aload_n 0, [], 0) :: (97, 1, .iload_n 1, [], 0) :: (98, 1, .iconst 1, [], 1) :: (99, 1, .isub, [], 0) :: (100, 2, .lload 8, [], 0) :: (102, 2, .iload 4, [], 0) :: (104, 2, .iload 7, [], 0) :: (106, 2, .iload 5, [], 0) :: (108, 1, .imul, [], 0) :: (109, 1, .iadd, [], 0) :: (110, 2, .iload 5, [], 0) :: (112, 2, .bipush 6, [], 6) :: (114, 1, .imul, [], 0) :: (115, 3, .invokevirtual 35, [0, 85, 5, 7], 565) :: bk_85_5
def bk_85_3 : List ex_R := (40, 1, .aload_n 0, [], 0) :: (41, 3, .getfield 27, [7, 0, 2, 235, 0], 0) :: (44, 3, .getfield 48, [4, 5, 0, 30, 1], 0) :: (47, 1, .iload_n 1, [], 0) :: (48, 3, .invokestatic 53, [3, 123, 2, 0], 112) :: (51, 2, .istore 6, [], 0) :: (53, 1, .iconst 0, [], 0) :: (54, 2, .istore 7, [], 0) :: bk_85_4
def bk_85_2 : List ex_R := [(26, 3, .putfield 18, [7, 4, 0, 239, 0], 0), (29, 1, .aload_n 0, [], 0), (30, 1, .dup, [], 0), (31, 3, .getfield 15, [7, 3, 0, 238, 0], 0), (34, 1, .iconst 1, [], 1), (35, 1, .iadd, [], 0), (36, 3, .putfield 15, [7, 3, 0, 238, 0], 0), (39, 1, .return_, [], 0)]
def bk_85_1 : List ex_R := (17, 1, .aload_n 0, [], 0) :: (18, 3, .getfield 18, [7, 4, 0, 239, 0], 0) :: (21, 2, .iload 4, [], 0) :: (23, 3, .invokestatic 43, [2, 213, 2, 0], 567) :: bk_85_2
def bk_85_0 : List ex_R := [(0, 1, .iload_n 1, [], 0), (1, 3, .ifCond .ge 39, [3], 0), (4, 1, .aload_n 0, [], 0), (5, 1, .aload_n 0, [], 0), (6, 3, .getfield 15, [7, 3, 0, 238, 0], 0), (9, 3, .ifCond .ne 8, [1], 0), (12, 2, .iload 4, [], 0), (14, 3, .goto 12, [2], 0)]
def me_85 : ex_M := (yX7_seek, cX7_seek, 10, none, RX7, [bk_85_0, bk_85_1, bk_85_2, bk_85_3, bk_85_4, bk_85_5, bk_85_6], [])
def bk_86_4 : List ex_R := [(99, 2, .lload 5, [], 0), (101, 1, .lreturn, [], 0)]
def bk_86_3 : List ex_R := [(60, 2, .iload 7, [], 0), (62, 1, .aload_n 0, [], 0), (63, 3, .getfield 27, [7, 0, 2, 235, 0], 0), (66, 3, .getfield 66, [4, 4, 0, 27, 1], 0), (69, 3, .if_icmp .ge 30, [4], 0), (72, 2, .lload 5, [], 0), (74, 1, .lload_n 3, [], 0), (75, 1, .aload_n 0, [], 0), (76, 3, .getfield 31, [7, 1, 2, 236, 0], 0), (79, 2, .iload 7, [], 0), (81, 3, .invokevirtual 85, [1, 10, 2, 0], 117), (84, 1, .lushr, [], 0), (85, 1, .lconst 1, [], 0), (86, 1, .land, [], 0), (87, 2, .iload 7, [], 0), (89, 1, .lshl, [], 0), (90, 1, .lor, [], 0), (91, 2, .lstore 5, [], 0), (93, 3, .iinc 7 1, [], 1), (96, 3, .goto (-36), [3], 0)]
def bk_86_2 : List ex_R := (54, 1, .lconst 0, [], 0) :: (55, 2, .lstore 5, [], 0) :: (57, 1, .iconst 0, [], 0) :: (58, 2, .istore 7, [], 0) :: bk_86_3
def bk_86_1 : List ex_R := [(26, 2, .iload 5, [], 0), (28, 1, .aload_n 0, [], 0), (29, 3, .getfield 27, [7, 0, 2, 235, 0], 0), (32, 3, .getfield 48, [4, 5, 0, 30, 1], 0), (35, 3, .if_icmp .ge 19, [2], 0), (38, 1, .aload_n 0, [], 0), (39, 3, .getfield 31, [7, 1, 2, 236, 0], 0), (42, 2, .iload 5, [], 0), (44, 1, .iload_n 2, [], 0), (45, 3, .invokevirtual 82, [1, 7, 3, 0], 116), (48, 3, .iinc 5 1, [], 1), (51, 3, .goto (-25), [1], 0)]
def bk_86_0 : List ex_R := (0, 1, .aload_n 0, [], 0) :: (1, 3, .getfield 31, [7, 1, 2, 236, 0], 0) :: (4, 1, .aload_n 0, [], 0) :: (5, 3, .getfield 27, [7, 0, 2, 235, 0], 0) :: (8, 1, .iload_n 1, [], 0) :: (9, 3, .invokevirtual 69, [1, 51, 2, 4], 113) :: (12, 1, .aload_n 0, [], 0) :: (13, 3, .getfield 27, [7, 0, 2, 235, 0], 0) :: (16, 1, .iload_n 1, [], 0) :: (17, 3, .invokevirtual 73, [1, 52, 2, 4], 114) :: (20, 3, .invokevirtual 76, [1, 3, 3, 0], 115) :: (23, 1, .iconst 0, [], 0) :: (24, 2, .istore 5, [], 0) :: bk_86_1
def me_86 : ex_M := (yX7_comesFrom, cX7_comesFrom, 8, some .long, RX7, [bk_86_0, bk_86_1, bk_86_2, bk_86_3, bk_86_4], [])
def bk_87_0 : List ex_R := [(0, 1, .aload_n 0, [], 0), (1, 3, .invokespecial 3, [6], 148), (4, 1, .aload_n 0, [], 0), (5, 2, .bipush 60, [], 60), (7, 2, .newarray .int, [164], 0), (9, 3, .putfield 9, [8, 8, 2, 309, 2], 0), (12, 1, .aload_n 0, [], 0), (13, 1, .iconst 0, [], 0), (14, 3, .putfield 13, [8, 9, 3, 310, 0], 0), (17, 1, .aload_n 0, [], 0), (18, 1, .iconst (-1), [], (-1)), (19, 3, .putfield 17, [8, 10, 0, 311, 0], 0), (22, 1, .aload_n 0, [], 0), (23, 1, .iconst 0, [], 0), (24, 3, .putfield 21, [8, 11, 0, 312, 0], 0), (27, 1, .aload_n 0, [], 0), (28, 1, .iconst 0, [], 0), (29, 3, .putfield 24, [8, 12, 0, 313, 0], 0), (32, 1, .aload_n 0, [], 0), (33, 3, .new 27, [0, 6, 150, 151, 120], 0), (36, 1, .dup, [], 0), (37, 3, .invokespecial 29, [5, 69, 1, 6], 0), (40, 3, .putfield 30, [8, 0, 2, 301, 2], 0), (43, 1, .aload_n 0, [], 0), (44, 3, .new 34, [0, 2, 166, 167, 123], 0), (47, 1, .dup, [], 0), (48, 1, .aload_n 0, [], 0), (49, 3, .getfield 30, [8, 0, 2, 301, 0], 0), (52, 3, .invokespecial 36, [5, 15, 2, 2], 11), (55, 3, .putfield 39, [8, 1, 2, 302, 2], 0), (58, 1, .aload_n 0, [], 0), (59, 3, .new 43, [0, 0, 205, 206, 127], 0), (62, 1, .dup, [], 0), (63, 3, .invokespecial 45, [5, 0, 1, 0], 22), (66, 3, .putfield 46, [8, 2, 2, 303, 2], 0), (69, 1, .aload_n 0, [], 0), (70, 3, .new 50, [0, 4, 217, 218, 128], 0), (73, 1, .dup, [], 0), (74, 3, .invokespecial 52, [5, 46, 1, 4], 24), (77, 3, .putfield 53, [8, 3, 2, 304, 2], 0), (80, 1, .aload_n 0, [], 0), (81, 3, .new 57, [0, 7, 231, 232, 129], 0), (84, 1, .dup, [], 0), (85, 1, .aload_n 0, [], 0), (86, 3, .getfield 53, [8, 3, 2, 304, 0], 0), (89, 1, .aload_n 0, [], 0), (90, 3, .getfield 46, [8, 2, 2, 303, 0], 0), (93, 3, .invokespecial 59, [5, 81, 3, 7], 37), (96, 3, .putfield 62, [8, 4, 2, 305, 2], 0), (99, 1, .aload_n 0, [], 0), (100, 3, .new 66, [0, 1, 242, 243, 130], 0), (103, 1, .dup, [], 0), (104, 1, .aload_n 0, [], 0), (105, 3, .getfield 53, [8, 3, 2, 304, 0], 0), (108, 1, .aload_n 0, [], 0), (109, 3, .getfield 46, [8, 2, 2, 303, 0], 0), (112, 3, .invokespecial 68, [5, 11, 3, 1], 39), (115, 3, .putfield 69, [8, 5, 2, 306, 2], 0), (118, 1, .aload_n 0, [], 0), (119, 3, .new 73, [0, 5, 251, 252, 131], 0), (122, 1, .dup, [], 0), (123, 3, .invokespecial 75, [5, 59, 1, 5], 40), (126, 3, .putfield 76, [8, 6, 2, 307, 2], 0), (129, 1, .aload_n 0, [], 0), (130, 3, .new 73, [0, 5, 251, 252, 131], 0), (133, 1, .dup, [], 0), (134, 3, .invokespecial 75, [5, 59, 1, 5], 40), (137, 3, .putfield 80, [8, 7, 2, 308, 2], 0), (140, 1, .aload_n 0, [], 0), (141, 3, .invokevirtual 83, [0, 114, 1, 8], 260), (144, 1, .return_, [], 0)]
def me_87 : ex_M := (yX9_init, cX9_init, 1, none, RX9, [bk_87_0], [])
def bk_88_1 : List ex_R := [(18, 1, .aload_n 0, [], 0), (19, 3, .getfield 30, [8, 0, 2, 301, 0], 0), (22, 1, .iload_n 1, [], 0), (23, 3, .invokevirtual 89, [1, 70, 2, 6], 65), (26, 1, .aload_n 0, [], 0), (27, 3, .getfield 30, [8, 0, 2, 301, 0], 0), (30, 1, .iload_n 2, [], 0), (31, 3, .invokevirtual 89, [1, 70, 2, 6], 65), (34, 1, .aload_n 0, [], 0), (35, 3, .getfield 30, [8, 0, 2, 301, 0], 0), (38, 1, .iload_n 3, [], 0), (39, 3, .invokevirtual 89, [1, 70, 2, 6], 65), (42, 1, .aload_n 0, [], 0), (43, 3, .getfield 30, [8, 0, 2, 301, 0], 0), (46, 2, .iload 4, [], 0), (48, 3, .invokevirtual 89, [1, 70, 2, 6], 65), (51, 1, .aload_n 0, [], 0), (52, 3, .getfield 30, [8, 0, 2, 301, 0], 0), (55, 2, .iload 5, [], 0), (57, 3, .invokevirtual 89, [1, 70, 2, 6], 65), (60, 1, .aload_n 0, [], 0), (61, 3, .getfield 30, [8, 0, 2, 301, 0], 0), (64, 3, .getfield 86, [6, 1, 0, 1, 1], 0), (67, 1, .ireturn, [], 0)]
def bk_88_0 : List ex_R := [(0, 1, .aload_n 0, [], 0), (1, 3, .getfield 30, [8, 0, 2, 301, 0], 0), (4, 3, .getfield 86, [6, 1, 0, 1, 1], 0), (7, 2, .bipush 20, [], 20), (9, 1, .iadd, [], 0), (10, 3, .sipush 500, [], 500), (13, 3, .if_icmp .le 5, [1], 0), (16, 1, .iconst (-1), [], (-1)), (17, 1, .ireturn, [], 0)]
def me_88 : ex_M := (yX9_feed, cX9_feed, 6, some .int, RX9, [bk_88_0, bk_88_1], [])
def bk_89_3 : List ex_R := [(67, 1, .aload_n 0, [], 0), (68, 3, .invokevirtual 83, [0, 114, 1, 8], 260), (71, 1, .iconst 0, [], 0), (72, 1, .ireturn, [], 0)]
def bk_89_2 : List ex_R := [(23, 1, .aload_n 0, [], 0), (24, 3, .getfield 39, [8, 1, 2, 302, 0], 0), (27, 1, .iload_n 1, [], 0), (28, 3, .invokevirtual 96, [1, 17, 2, 2], 88), (31, 1, .istore_n 2, [], 0), (32, 1, .aload_n 0, [], 0), (33, 3, .getfield 30, [8, 0, 2, 301, 0], 0), (36, 1, .iconst 0, [], 0), (37, 3, .putfield 86, [6, 1, 0, 1, 1], 0), (40, 1, .aload_n 0, [], 0), (41, 1, .aload_n 0, [], 0), (42, 3, .getfield 39, [8, 1, 2, 302, 0], 0), (45, 3, .getfield 100, [2, 7, 0, 21, 1], 0), (48, 3, .putfield 17, [8, 10, 0, 311, 0], 0), (51, 1, .iload_n 2, [], 0), (52, 3, .ifCond .eq 15, [3], 0), (55, 1, .aload_n 0, [], 0), (56, 1, .dup, [], 0), (57, 3, .getfield 21, [8, 11, 0, 312, 0], 0), (60, 1, .iconst 1, [], 1), (61, 1, .iadd, [], 0), (62, 3, .putfield 21, [8, 11, 0, 312, 0], 0), (65, 1, .iload_n 2, [], 0), (66, 1, .ireturn, [], 0)]
def bk_89_1 : List ex_R := [(15, 3, .new 93, [1, 0, 0, 384, 137], 0)]
def bk_89_0 : List ex_R := (0, 1, .iload_n 1, [], 0) :: (1, 3, .ifCond .lt 14, [1], 0) :: (4, 1, .iload_n 1, [], 0) :: (5, 1, .aload_n 0, [], 0) :: (6, 3, .getfield 30, [8, 0, 2, 301, 0], 0) :: (9, 3, .getfield 86, [6, 1, 0, 1, 1], 0) :: (12, 3, .if_icmp .le 11, [2], 0) :: bk_89_1
def me_89 : ex_M := (yX9_trick, cX9_trick, 3, some .int, RX9, [bk_89_0, bk_89_1, bk_89_2, bk_89_3], [])
def bk_90_0 : List ex_R := [(0, 1, .aload_n 0, [], 0), (1, 3, .getfield 17, [8, 10, 0, 311, 0], 0), (4, 1, .ireturn, [], 0)]
def me_90 : ex_M := (yX9_fault, cX9_fault, 1, some .int, RX9, [bk_90_0], [])
def bk_91_11 : List ex_R := [(137, 3, .new 129, [1, 1, 1, 529, 143], 0)]
def bk_91_10 : List ex_R := [(132, 1, .aload_n 0, [], 0), (133, 3, .getfield 24, [8, 12, 0, 313, 0], 0), (136, 1, .ireturn, [], 0)]
def bk_91_9 : List ex_R := [(127, 1, .aload_n 0, [], 0), (128, 3, .getfield 21, [8, 11, 0, 312, 0], 0), (131, 1, .ireturn, [], 0)]
def bk_91_8 : List ex_R := [(119, 1, .aload_n 0, [], 0), (120, 3, .getfield 30, [8, 0, 2, 301, 0], 0), (123, 3, .getfield 86, [6, 1, 0, 1, 1], 0), (126, 1, .ireturn, [], 0)]
def bk_91_7 : List ex_R := [(104, 1, .aload_n 0, [], 0), (105, 3, .getfield 76, [8, 6, 2, 307, 0], 0), (108, 1, .aload_n 0, [], 0), (109, 3, .getfield 53, [8, 3, 2, 304, 0], 0), (112, 3, .invokevirtual 119, [1, 66, 2, 5], 78), (115, 3, .invokestatic 123, [2, 210, 1, 0], 355), (118, 1, .ireturn, [], 0)]
def bk_91_6 : List ex_R := [(96, 1, .aload_n 0, [], 0), (97, 3, .getfield 76, [8, 6, 2, 307, 0], 0), (100, 3, .getfield 116, [5, 4, 0, 44, 1], 0), (103, 1, .ireturn, [], 0)]
def bk_91_5 : List ex_R := [(88, 1, .aload_n 0, [], 0), (89, 3, .getfield 53, [8, 3, 2, 304, 0], 0), (92, 3, .getfield 113, [4, 7, 0, 35, 1], 0), (95, 1, .ireturn, [], 0)]
def bk_91_4 : List ex_R := [(80, 1, .aload_n 0, [], 0), (81, 3, .getfield 53, [8, 3, 2, 304, 0], 0), (84, 3, .getfield 110, [4, 6, 0, 33, 1], 0), (87, 1, .ireturn, [], 0)]
def bk_91_3 : List ex_R := [(72, 1, .aload_n 0, [], 0), (73, 3, .getfield 53, [8, 3, 2, 304, 0], 0), (76, 3, .getfield 107, [4, 8, 0, 36, 1], 0), (79, 1, .ireturn, [], 0)]
def bk_91_2 : List ex_R := [(64, 1, .aload_n 0, [], 0), (65, 3, .getfield 53, [8, 3, 2, 304, 0], 0), (68, 3, .getfield 104, [4, 5, 0, 31, 1], 0), (71, 1, .ireturn, [], 0)]
def bk_91_1 : List ex_R := [(56, 1, .aload_n 0, [], 0), (57, 3, .getfield 53, [8, 3, 2, 304, 0], 0), (60, 3, .getfield 101, [4, 4, 0, 26, 1], 0), (63, 1, .ireturn, [], 0)]
def bk_91_0 : List ex_R := [(0, 1, .iload_n 1, [], 0), (1, 55, .tableswitch 136 0 9 #[55, 63, 71, 79, 87, 95, 103, 118, 126, 131], [11, 1, 2, 3, 4, 5, 6, 7, 8, 9, 10], 0)]
def me_91 : ex_M := (yX9_count, cX9_count, 2, some .int, RX9, [bk_91_0, bk_91_1, bk_91_2, bk_91_3, bk_91_4, bk_91_5, bk_91_6, bk_91_7, bk_91_8, bk_91_9, bk_91_10, bk_91_11], [])
def bk_92_6 : List ex_R := [(88, 3, .new 129, [1, 1, 1, 529, 143], 0)]
def bk_92_5 : List ex_R := [(78, 1, .aload_n 0, [], 0), (79, 3, .getfield 53, [8, 3, 2, 304, 0], 0), (82, 1, .iload_n 1, [], 0), (83, 1, .iload_n 2, [], 0), (84, 3, .invokevirtual 142, [1, 53, 3, 4], 105), (87, 1, .ireturn, [], 0)]
def bk_92_4 : List ex_R := [(69, 1, .aload_n 0, [], 0), (70, 3, .getfield 53, [8, 3, 2, 304, 0], 0), (73, 1, .iload_n 1, [], 0), (74, 3, .invokevirtual 139, [1, 52, 2, 4], 104), (77, 1, .ireturn, [], 0)]
def bk_92_3 : List ex_R := [(60, 1, .aload_n 0, [], 0), (61, 3, .getfield 53, [8, 3, 2, 304, 0], 0), (64, 1, .iload_n 1, [], 0), (65, 3, .invokevirtual 136, [1, 51, 2, 4], 103), (68, 1, .ireturn, [], 0)]
def bk_92_2 : List ex_R := [(34, 1, .iload_n 3, [], 0), (35, 25, .tableswitch 53 0 2 #[25, 34, 43], [6, 3, 4, 5], 0)]
def bk_92_1 : List ex_R := [(26, 3, .new 129, [1, 1, 1, 529, 143], 0)]
def bk_92_0 : List ex_R := (0, 1, .iload_n 1, [], 0) :: (1, 3, .ifCond .lt 25, [1], 0) :: (4, 1, .iload_n 1, [], 0) :: (5, 1, .aload_n 0, [], 0) :: (6, 3, .getfield 53, [8, 3, 2, 304, 0], 0) :: (9, 3, .getfield 107, [4, 8, 0, 36, 1], 0) :: (12, 3, .if_icmp .ge 14, [1], 0) :: (15, 1, .aload_n 0, [], 0) :: (16, 3, .getfield 53, [8, 3, 2, 304, 0], 0) :: (19, 1, .iload_n 2, [], 0) :: (20, 3, .invokevirtual 132, [1, 57, 2, 4], 102) :: (23, 3, .ifCond .ne 11, [2], 0) :: bk_92_1
def me_92 : ex_M := (yX9_told, cX9_told, 4, some .int, RX9, [bk_92_0, bk_92_1, bk_92_2, bk_92_3, bk_92_4, bk_92_5, bk_92_6], [])
def bk_93_2 : List ex_R := [(34, 1, .aload_n 0, [], 0), (35, 3, .getfield 46, [8, 2, 2, 303, 0], 0), (38, 1, .aload_n 0, [], 0), (39, 3, .getfield 53, [8, 3, 2, 304, 0], 0), (42, 1, .iload_n 2, [], 0), (43, 3, .invokevirtual 136, [1, 51, 2, 4], 103), (46, 1, .aload_n 0, [], 0), (47, 3, .getfield 53, [8, 3, 2, 304, 0], 0), (50, 1, .iload_n 2, [], 0), (51, 3, .invokevirtual 139, [1, 52, 2, 4], 104), (54, 3, .invokevirtual 149, [1, 3, 3, 0], 107), (57, 1, .aload_n 0, [], 0), (58, 3, .getfield 46, [8, 2, 2, 303, 0], 0), (61, 1, .aload_n 0, [], 0), (62, 3, .getfield 53, [8, 3, 2, 304, 0], 0), (65, 1, .iload_n 2, [], 0), (66, 1, .iload_n 3, [], 0), (67, 3, .invokevirtual 142, [1, 53, 3, 4], 105), (70, 1, .iload_n 3, [], 0), (71, 1, .iload_n 3, [], 0), (72, 3, .invokevirtual 153, [1, 4, 4, 0], 108), (75, 1, .aload_n 0, [], 0), (76, 3, .getfield 46, [8, 2, 2, 303, 0], 0), (79, 1, .iload_n 1, [], 0), (80, 3, .invokevirtual 157, [1, 10, 2, 0], 109), (83, 1, .ireturn, [], 0)]
def bk_93_1 : List ex_R := [(26, 3, .new 129, [1, 1, 1, 529, 143], 0)]
def bk_93_0 : List ex_R := (0, 1, .aload_n 0, [], 0) :: (1, 3, .getfield 53, [8, 3, 2, 304, 0], 0) :: (4, 1, .iload_n 1, [], 0) :: (5, 3, .invokevirtual 146, [1, 56, 2, 4], 106) :: (8, 3, .ifCond .eq 18, [1], 0) :: (11, 1, .iload_n 2, [], 0) :: (12, 3, .ifCond .lt 14, [1], 0) :: (15, 1, .aload_n 0, [], 0) :: (16, 3, .getfield 53, [8, 3, 2, 304, 0], 0) :: (19, 1, .iload_n 3, [], 0) :: (20, 3, .invokevirtual 132, [1, 57, 2, 4], 102) :: (23, 3, .ifCond .ne 11, [2], 0) :: bk_93_1
def me_93 : ex_M := (yX9_goes, cX9_goes, 4, some .int, RX9, [bk_93_0, bk_93_1, bk_93_2], [])
def bk_94_2 : List ex_R := [(37, 1, .aload_n 0, [], 0), (38, 3, .getfield 53, [8, 3, 2, 304, 0], 0), (41, 1, .iload_n 1, [], 0), (42, 1, .iload_n 2, [], 0), (43, 3, .invokevirtual 164, [1, 55, 3, 4], 110), (46, 1, .ireturn, [], 0)]
def bk_94_1 : List ex_R := [(19, 1, .iload_n 2, [], 0), (20, 1, .iconst 0, [], 0), (21, 2, .bipush 60, [], 60), (23, 3, .invokestatic 160, [2, 122, 3, 0], 551), (26, 3, .ifCond .ne 11, [2], 0), (29, 3, .new 93, [1, 0, 0, 384, 137], 0)]
def bk_94_0 : List ex_R := [(0, 1, .aload_n 0, [], 0), (1, 3, .getfield 53, [8, 3, 2, 304, 0], 0), (4, 1, .iload_n 1, [], 0), (5, 3, .invokevirtual 146, [1, 56, 2, 4], 106), (8, 3, .ifCond .ne 11, [1], 0), (11, 3, .new 129, [1, 1, 1, 529, 143], 0)]
def me_94 : ex_M := (yX9_end, cX9_end, 3, some .int, RX9, [bk_94_0, bk_94_1, bk_94_2], [])
def bk_95_3 : List ex_R := [(40, 1, .aload_n 0, [], 0), (41, 3, .invokevirtual 173, [0, 117, 1, 8], 326), (44, 1, .ireturn, [], 0)]
def bk_95_2 : List ex_R := [(24, 1, .iload_n 2, [], 0), (25, 1, .iload_n 1, [], 0), (26, 3, .if_icmp .ge 14, [3], 0), (29, 1, .aload_n 0, [], 0), (30, 1, .iload_n 2, [], 0), (31, 3, .invokevirtual 170, [0, 116, 2, 8], 329), (34, 3, .iinc 2 1, [], 1), (37, 3, .goto (-13), [2], 0)]
def bk_95_1 : List ex_R := (18, 1, .aload_n 0, [], 0) :: (19, 3, .invokevirtual 167, [0, 115, 1, 8], 324) :: (22, 1, .iconst 0, [], 0) :: (23, 1, .istore_n 2, [], 0) :: bk_95_2
def bk_95_0 : List ex_R := [(0, 1, .iload_n 1, [], 0), (1, 1, .iconst 0, [], 0), (2, 2, .bipush 60, [], 60), (4, 3, .invokestatic 160, [2, 122, 3, 0], 551), (7, 3, .ifCond .ne 11, [1], 0), (10, 3, .new 93, [1, 0, 0, 384, 137], 0)]
def me_95 : ex_M := (yX9_sure, cX9_sure, 3, some .int, RX9, [bk_95_0, bk_95_1, bk_95_2, bk_95_3], [])
def bk_96_3 : List ex_R := [(33, 1, .iconst (-1), [], (-1)), (34, 1, .ireturn, [], 0)]
def bk_96_2 : List ex_R := [(22, 1, .aload_n 0, [], 0), (23, 1, .iload_n 1, [], 0), (24, 3, .invokevirtual 170, [0, 116, 2, 8], 329), (27, 3, .iinc 1 1, [], 1), (30, 3, .goto (-24), [1], 0)]
def bk_96_1 : List ex_R := [(6, 1, .iload_n 1, [], 0), (7, 2, .bipush 60, [], 60), (9, 3, .if_icmp .gt 24, [3], 0), (12, 1, .aload_n 0, [], 0), (13, 3, .invokevirtual 173, [0, 117, 1, 8], 326), (16, 1, .iconst (-1), [], (-1)), (17, 3, .if_icmp .eq 5, [2], 0), (20, 1, .iload_n 1, [], 0), (21, 1, .ireturn, [], 0)]
def bk_96_0 : List ex_R := (0, 1, .aload_n 0, [], 0) :: (1, 3, .invokevirtual 167, [0, 115, 1, 8], 324) :: (4, 1, .iconst 0, [], 0) :: (5, 1, .istore_n 1, [], 0) :: bk_96_1
def me_96 : ex_M := (yX9_soonest, cX9_soonest, 2, some .int, RX9, [bk_96_0, bk_96_1, bk_96_2, bk_96_3], [])
def bk_97_3 : List ex_R := [(57, 1, .iload_n 3, [], 0), (58, 1, .ireturn, [], 0)]
def bk_97_2 : List ex_R := (36, 1, .aload_n 0, [], 0) :: (37, 3, .getfield 62, [8, 4, 2, 305, 0], 0) :: (40, 1, .iload_n 1, [], 0) :: (41, 1, .iload_n 2, [], 0) :: (42, 3, .invokevirtual 177, [1, 82, 3, 7], 111) :: (45, 1, .istore_n 3, [], 0) :: (46, 1, .iload_n 3, [], 0) :: (47, 3, .ifCond .le 10, [3], 0) :: (50, 1, .aload_n 0, [], 0) :: (51, 3, .getfield 62, [8, 4, 2, 305, 0], 0) :: (54, 3, .invokevirtual 180, [1, 83, 1, 7], 118) :: bk_97_3
def bk_97_1 : List ex_R := [(19, 1, .iload_n 2, [], 0), (20, 1, .iconst 1, [], 1), (21, 1, .iconst 5, [], 5), (22, 3, .invokestatic 160, [2, 122, 3, 0], 551), (25, 3, .ifCond .ne 11, [2], 0), (28, 3, .new 93, [1, 0, 0, 384, 137], 0)]
def bk_97_0 : List ex_R := [(0, 1, .aload_n 0, [], 0), (1, 3, .getfield 53, [8, 3, 2, 304, 0], 0), (4, 1, .iload_n 1, [], 0), (5, 3, .invokevirtual 146, [1, 56, 2, 4], 106), (8, 3, .ifCond .ne 11, [1], 0), (11, 3, .new 129, [1, 1, 1, 529, 143], 0)]
def me_97 : ex_M := (yX9_wished, cX9_wished, 4, some .int, RX9, [bk_97_0, bk_97_1, bk_97_2, bk_97_3], [])
def bk_98_2 : List ex_R := [(23, 1, .aload_n 0, [], 0), (24, 3, .getfield 62, [8, 4, 2, 305, 0], 0), (27, 1, .iload_n 1, [], 0), (28, 3, .invokevirtual 186, [1, 84, 2, 7], 119), (31, 1, .ireturn, [], 0)]
def bk_98_1 : List ex_R := [(15, 3, .new 129, [1, 1, 1, 529, 143], 0)]
def bk_98_0 : List ex_R := (0, 1, .iload_n 1, [], 0) :: (1, 3, .ifCond .lt 14, [1], 0) :: (4, 1, .iload_n 1, [], 0) :: (5, 1, .aload_n 0, [], 0) :: (6, 3, .getfield 62, [8, 4, 2, 305, 0], 0) :: (9, 3, .getfield 183, [7, 6, 0, 38, 1], 0) :: (12, 3, .if_icmp .lt 11, [2], 0) :: bk_98_1
def me_98 : ex_M := (yX9_laying, cX9_laying, 2, some .int, RX9, [bk_98_0, bk_98_1, bk_98_2], [])
def bk_99_4 : List ex_R := [(46, 1, .iconst (-1), [], (-1)), (47, 1, .ireturn, [], 0)]
def bk_99_3 : List ex_R := [(40, 3, .iinc 2 1, [], 1), (43, 3, .goto (-22), [2], 0)]
def bk_99_2 : List ex_R := [(21, 1, .iload_n 2, [], 0), (22, 1, .iconst 5, [], 5), (23, 3, .if_icmp .gt 23, [4], 0), (26, 1, .aload_n 0, [], 0), (27, 3, .getfield 62, [8, 4, 2, 305, 0], 0), (30, 1, .iload_n 1, [], 0), (31, 1, .iload_n 2, [], 0), (32, 3, .invokevirtual 177, [1, 82, 3, 7], 111), (35, 3, .ifCond .le 5, [3], 0), (38, 1, .iload_n 2, [], 0), (39, 1, .ireturn, [], 0)]
def bk_99_1 : List ex_R := (19, 1, .iconst 1, [], 1) :: (20, 1, .istore_n 2, [], 0) :: bk_99_2
def bk_99_0 : List ex_R := [(0, 1, .aload_n 0, [], 0), (1, 3, .getfield 53, [8, 3, 2, 304, 0], 0), (4, 1, .iload_n 1, [], 0), (5, 3, .invokevirtual 146, [1, 56, 2, 4], 106), (8, 3, .ifCond .ne 11, [1], 0), (11, 3, .new 129, [1, 1, 1, 529, 143], 0)]
def me_99 : ex_M := (yX9_fewest, cX9_fewest, 3, some .int, RX9, [bk_99_0, bk_99_1, bk_99_2, bk_99_3, bk_99_4], [])
def bk_100_4 : List ex_R := [(111, 2, .lload 5, [], 0), (113, 1, .lreturn, [], 0)]
def bk_100_3 : List ex_R := [(105, 3, .iinc 9 1, [], 1), (108, 3, .goto (-55), [2], 0)]
def bk_100_2 : List ex_R := (53, 2, .iload 9, [], 0) :: (55, 1, .aload_n 0, [], 0) :: (56, 3, .getfield 53, [8, 3, 2, 304, 0], 0) :: (59, 3, .getfield 101, [4, 4, 0, 26, 1], 0) :: (62, 3, .if_icmp .ge 49, [4], 0) :: (65, 2, .lload 7, [], 0) :: (67, 2, .iload 9, [], 0) :: (69, 1, .lushr, [], 0) :: (70, 1, .lconst 1, [], 0) :: (71, 1, .land, [], 0) :: (72, 1, .lconst 0, [], 0) :: (73, 1, .lcmp, [], 0) :: (74, 3, .ifCond .ne 31, [3], 0) :: (77, 1, .aload_n 0, [], 0) :: (78, 2, .iload 9, [], 0) :: (80, 3, .invokevirtual 193, [0, 118, 2, 8], 589) :: (83, 2, .lstore 10, [], 0) :: (85, 2, .lload 7, [], 0) :: (87, 2, .lload 10, [], 0) :: (89, 1, .lor, [], 0) :: (90, 2, .lstore 7, [], 0) :: (92, 2, .lload 5, [], 0) :: (94, 2, .lload 10, [], 0) :: (96, 3, .invokestatic 123, [2, 210, 1, 0], 355) :: (99, 1, .i2l, [], 0) :: (100, 3, .invokestatic 197, [2, 124, 2, 0], 591) :: (103, 2, .lstore 5, [], 0) :: bk_100_3
def bk_100_1 : List ex_R := (23, 1, .aload_n 0, [], 0) :: (24, 3, .getfield 46, [8, 2, 2, 303, 0], 0) :: (27, 1, .iload_n 1, [], 0) :: (28, 1, .iload_n 2, [], 0) :: (29, 3, .invokevirtual 149, [1, 3, 3, 0], 107) :: (32, 1, .aload_n 0, [], 0) :: (33, 3, .getfield 46, [8, 2, 2, 303, 0], 0) :: (36, 1, .iload_n 3, [], 0) :: (37, 2, .iload 4, [], 0) :: (39, 2, .iload 4, [], 0) :: (41, 3, .invokevirtual 153, [1, 4, 4, 0], 108) :: (44, 1, .lconst 1, [], 0) :: (45, 2, .lstore 5, [], 0) :: (47, 1, .lconst 0, [], 0) :: (48, 2, .lstore 7, [], 0) :: (50, 1, .iconst 0, [], 0) :: (51, 2, .istore 9, [], 0) :: bk_100_2
def bk_100_0 : List ex_R := [(0, 1, .aload_n 0, [], 0), (1, 3, .getfield 53, [8, 3, 2, 304, 0], 0), (4, 1, .iload_n 1, [], 0), (5, 1, .iload_n 2, [], 0), (6, 1, .iload_n 3, [], 0), (7, 2, .iload 4, [], 0), (9, 3, .invokevirtual 189, [1, 58, 5, 4], 67), (12, 3, .ifCond .ne 11, [1], 0), (15, 3, .new 93, [1, 0, 0, 384, 137], 0)]
def me_100 : ex_M := (yX9_always, cX9_always, 12, some .long, RX9, [bk_100_0, bk_100_1, bk_100_2, bk_100_3, bk_100_4], [])
def bk_101_6 : List ex_R := [(161, 2, .bipush 60, [], 60), (163, 2, .iload 4, [], 0), (165, 1, .imul, [], 0), (166, 2, .iload 5, [], 0), (168, 1, .iadd, [], 0), (169, 1, .ireturn, [], 0)]
def bk_101_5 : List ex_R := [(62, 2, .iload 6, [], 0), (64, 1, .iload_n 3, [], 0), (65, 3, .if_icmp .ge 96, [6], 0), (68, 1, .aload_n 0, [], 0), (69, 3, .getfield 46, [8, 2, 2, 303, 0], 0), (72, 1, .aload_n 0, [], 0), (73, 3, .getfield 53, [8, 3, 2, 304, 0], 0), (76, 2, .iload 6, [], 0), (78, 3, .invokevirtual 136, [1, 51, 2, 4], 103), (81, 1, .aload_n 0, [], 0), (82, 3, .getfield 53, [8, 3, 2, 304, 0], 0), (85, 2, .iload 6, [], 0), (87, 3, .invokevirtual 139, [1, 52, 2, 4], 104), (90, 3, .invokevirtual 149, [1, 3, 3, 0], 107), (93, 1, .aload_n 0, [], 0), (94, 3, .getfield 46, [8, 2, 2, 303, 0], 0), (97, 2, .iload 4, [], 0), (99, 3, .invokevirtual 201, [1, 8, 2, 0], 121), (102, 2, .istore 7, [], 0), (104, 1, .aload_n 0, [], 0), (105, 3, .getfield 46, [8, 2, 2, 303, 0], 0), (108, 1, .aload_n 0, [], 0), (109, 3, .getfield 53, [8, 3, 2, 304, 0], 0), (112, 2, .iload 6, [], 0), (114, 2, .iload 7, [], 0), (116, 3, .invokevirtual 142, [1, 53, 3, 4], 105), (119, 2, .iload 7, [], 0), (121, 1, .aload_n 0, [], 0), (122, 3, .getfield 46, [8, 2, 2, 303, 0], 0), (125, 2, .iload 5, [], 0), (127, 3, .invokevirtual 201, [1, 8, 2, 0], 121), (130, 3, .invokevirtual 153, [1, 4, 4, 0], 108), (133, 1, .aload_n 0, [], 0), (134, 3, .getfield 46, [8, 2, 2, 303, 0], 0), (137, 2, .iload 4, [], 0), (139, 3, .invokevirtual 157, [1, 10, 2, 0], 109), (142, 2, .istore 4, [], 0), (144, 1, .aload_n 0, [], 0), (145, 3, .getfield 46, [8, 2, 2, 303, 0], 0), (148, 2, .iload 5, [], 0), (150, 3, .invokevirtual 157, [1, 10, 2, 0], 109), (153, 2, .istore 5, [], 0), (155, 3, .iinc 6 1, [], 1), (158, 3, .goto (-96), [5], 0)]
def bk_101_4 : List ex_R := (53, 1, .iload_n 1, [], 0) :: (54, 2, .istore 4, [], 0) :: (56, 1, .iload_n 2, [], 0) :: (57, 2, .istore 5, [], 0) :: (59, 1, .iconst 0, [], 0) :: (60, 2, .istore 6, [], 0) :: bk_101_5
def bk_101_3 : List ex_R := [(45, 3, .new 93, [1, 0, 0, 384, 137], 0)]
def bk_101_2 : List ex_R := (30, 1, .iload_n 3, [], 0) :: (31, 1, .iconst 0, [], 0) :: (32, 2, .bipush 60, [], 60) :: (34, 3, .invokestatic 160, [2, 122, 3, 0], 551) :: (37, 3, .ifCond .eq 8, [3], 0) :: (40, 1, .iload_n 1, [], 0) :: (41, 1, .iload_n 2, [], 0) :: (42, 3, .if_icmp .ne 11, [4], 0) :: bk_101_3
def bk_101_1 : List ex_R := [(22, 3, .new 129, [1, 1, 1, 529, 143], 0)]
def bk_101_0 : List ex_R := (0, 1, .aload_n 0, [], 0) :: (1, 3, .getfield 53, [8, 3, 2, 304, 0], 0) :: (4, 1, .iload_n 1, [], 0) :: (5, 3, .invokevirtual 146, [1, 56, 2, 4], 106) :: (8, 3, .ifCond .eq 14, [1], 0) :: (11, 1, .aload_n 0, [], 0) :: (12, 3, .getfield 53, [8, 3, 2, 304, 0], 0) :: (15, 1, .iload_n 2, [], 0) :: (16, 3, .invokevirtual 146, [1, 56, 2, 4], 106) :: (19, 3, .ifCond .ne 11, [2], 0) :: bk_101_1
def me_101 : ex_M := (yX9_two, cX9_two, 8, some .int, RX9, [bk_101_0, bk_101_1, bk_101_2, bk_101_3, bk_101_4, bk_101_5, bk_101_6], [])
def bk_102_3 : List ex_R := [(48, 1, .ireturn, [], 0)]
def bk_102_2 : List ex_R := (40, 1, .aload_n 0, [], 0) :: (41, 3, .getfield 69, [8, 5, 2, 306, 0], 0) :: (44, 1, .iload_n 1, [], 0) :: (45, 3, .invokevirtual 207, [1, 12, 2, 1], 122) :: bk_102_3
def bk_102_1 : List ex_R := [(18, 1, .aload_n 0, [], 0), (19, 3, .getfield 53, [8, 3, 2, 304, 0], 0), (22, 3, .getfield 104, [4, 5, 0, 31, 1], 0), (25, 1, .iload_n 1, [], 0), (26, 3, .invokestatic 204, [2, 123, 2, 0], 603), (29, 3, .sipush 5000, [], 5000), (32, 3, .if_icmp .le 8, [2], 0), (35, 2, .bipush (-2), [], (-2)), (37, 3, .goto 11, [3], 0)]
def bk_102_0 : List ex_R := [(0, 1, .iload_n 1, [], 0), (1, 1, .iconst 0, [], 0), (2, 2, .bipush 6, [], 6), (4, 3, .invokestatic 160, [2, 122, 3, 0], 551), (7, 3, .ifCond .ne 11, [1], 0), (10, 3, .new 93, [1, 0, 0, 384, 137], 0)]
def me_102 : ex_M := (yX9_worst, cX9_worst, 2, some .int, RX9, [bk_102_0, bk_102_1, bk_102_2, bk_102_3], [])
def bk_103_1 : List ex_R := [(19, 1, .aload_n 0, [], 0), (20, 3, .getfield 76, [8, 6, 2, 307, 0], 0), (23, 3, .getfield 210, [5, 0, 2, 41, 1], 0), (26, 1, .iload_n 1, [], 0), (27, 3, .invokestatic 213, [2, 127, 2, 0], 328), (30, 1, .ireturn, [], 0)]
def bk_103_0 : List ex_R := [(0, 1, .aload_n 0, [], 0), (1, 3, .getfield 53, [8, 3, 2, 304, 0], 0), (4, 1, .iload_n 1, [], 0), (5, 3, .invokevirtual 146, [1, 56, 2, 4], 106), (8, 3, .ifCond .ne 11, [1], 0), (11, 3, .new 129, [1, 1, 1, 529, 143], 0)]
def me_103 : ex_M := (yX9_card, cX9_card, 2, some .int, RX9, [bk_103_0, bk_103_1], [])
def bk_104_2 : List ex_R := [(39, 1, .aload_n 0, [], 0), (40, 3, .getfield 76, [8, 6, 2, 307, 0], 0), (43, 1, .iload_n 1, [], 0), (44, 1, .iload_n 2, [], 0), (45, 1, .iload_n 3, [], 0), (46, 2, .iload 4, [], 0), (48, 3, .invokestatic 217, [2, 120, 4, 0], 340), (51, 3, .invokevirtual 221, [1, 62, 2, 5], 69), (54, 1, .aload_n 0, [], 0), (55, 3, .getfield 76, [8, 6, 2, 307, 0], 0), (58, 1, .aload_n 0, [], 0), (59, 3, .getfield 46, [8, 2, 2, 303, 0], 0), (62, 1, .aload_n 0, [], 0), (63, 3, .getfield 9, [8, 8, 2, 309, 0], 0), (66, 3, .invokevirtual 224, [1, 63, 3, 5], 71), (69, 1, .aload_n 0, [], 0), (70, 3, .getfield 76, [8, 6, 2, 307, 0], 0), (73, 1, .aload_n 0, [], 0), (74, 3, .getfield 53, [8, 3, 2, 304, 0], 0), (77, 3, .invokevirtual 119, [1, 66, 2, 5], 78), (80, 3, .invokestatic 123, [2, 210, 1, 0], 355), (83, 1, .ireturn, [], 0)]
def bk_104_1 : List ex_R := [(27, 1, .aload_n 0, [], 0), (28, 1, .dup, [], 0), (29, 3, .getfield 24, [8, 12, 0, 313, 0], 0), (32, 1, .iconst 1, [], 1), (33, 1, .iadd, [], 0), (34, 3, .putfield 24, [8, 12, 0, 313, 0], 0), (37, 1, .iconst (-1), [], (-1)), (38, 1, .ireturn, [], 0)]
def bk_104_0 : List ex_R := (0, 1, .aload_n 0, [], 0) :: (1, 3, .getfield 76, [8, 6, 2, 307, 0], 0) :: (4, 3, .getfield 116, [5, 4, 0, 44, 1], 0) :: (7, 2, .bipush 20, [], 20) :: (9, 3, .if_icmp .ge 18, [1], 0) :: (12, 1, .aload_n 0, [], 0) :: (13, 3, .getfield 53, [8, 3, 2, 304, 0], 0) :: (16, 1, .iload_n 1, [], 0) :: (17, 1, .iload_n 2, [], 0) :: (18, 1, .iload_n 3, [], 0) :: (19, 2, .iload 4, [], 0) :: (21, 3, .invokevirtual 189, [1, 58, 5, 4], 67) :: (24, 3, .ifCond .ne 15, [2], 0) :: bk_104_1
def me_104 : ex_M := (yX9_answer, cX9_answer, 5, some .int, RX9, [bk_104_0, bk_104_1, bk_104_2], [])
def bk_105_1 : List ex_R := [(12, 1, .aload_n 0, [], 0), (13, 3, .getfield 76, [8, 6, 2, 307, 0], 0), (16, 1, .aload_n 0, [], 0), (17, 3, .getfield 46, [8, 2, 2, 303, 0], 0), (20, 1, .aload_n 0, [], 0), (21, 3, .getfield 9, [8, 8, 2, 309, 0], 0), (24, 3, .invokevirtual 228, [1, 64, 3, 5], 79), (27, 1, .aload_n 0, [], 0), (28, 3, .getfield 76, [8, 6, 2, 307, 0], 0), (31, 1, .dup, [], 0), (32, 3, .getfield 116, [5, 4, 0, 44, 1], 0), (35, 1, .iconst 1, [], 1), (36, 1, .isub, [], 0), (37, 3, .putfield 116, [5, 4, 0, 44, 1], 0), (40, 1, .aload_n 0, [], 0), (41, 3, .getfield 76, [8, 6, 2, 307, 0], 0), (44, 3, .getfield 116, [5, 4, 0, 44, 1], 0), (47, 1, .ireturn, [], 0)]
def bk_105_0 : List ex_R := [(0, 1, .aload_n 0, [], 0), (1, 3, .getfield 76, [8, 6, 2, 307, 0], 0), (4, 3, .getfield 116, [5, 4, 0, 44, 1], 0), (7, 3, .ifCond .gt 5, [1], 0), (10, 1, .iconst (-1), [], (-1)), (11, 1, .ireturn, [], 0)]
def me_105 : ex_M := (yX9_undo, cX9_undo, 1, some .int, RX9, [bk_105_0, bk_105_1], [])
def bk_106_1 : List ex_R := [(19, 1, .aload_n 0, [], 0), (20, 3, .getfield 76, [8, 6, 2, 307, 0], 0), (23, 3, .getfield 231, [5, 2, 2, 43, 1], 0), (26, 1, .iload_n 1, [], 0), (27, 3, .invokestatic 213, [2, 127, 2, 0], 328), (30, 1, .ireturn, [], 0)]
def bk_106_0 : List ex_R := [(0, 1, .aload_n 0, [], 0), (1, 3, .getfield 53, [8, 3, 2, 304, 0], 0), (4, 1, .iload_n 1, [], 0), (5, 3, .invokevirtual 146, [1, 56, 2, 4], 106), (8, 3, .ifCond .ne 11, [1], 0), (11, 3, .new 129, [1, 1, 1, 529, 143], 0)]
def me_106 : ex_M := (yX9_lies, cX9_lies, 2, some .int, RX9, [bk_106_0, bk_106_1], [])
def bk_107_0 : List ex_R := [(0, 1, .aload_n 0, [], 0), (1, 3, .getfield 76, [8, 6, 2, 307, 0], 0), (4, 1, .aload_n 0, [], 0), (5, 3, .getfield 53, [8, 3, 2, 304, 0], 0), (8, 3, .invokevirtual 119, [1, 66, 2, 5], 78), (11, 1, .lreturn, [], 0)]
def me_107 : ex_M := (yX9_fits, cX9_fits, 1, some .long, RX9, [bk_107_0], [])
def bk_108_0 : List ex_R := [(0, 1, .aload_n 0, [], 0), (1, 3, .getfield 76, [8, 6, 2, 307, 0], 0), (4, 3, .getfield 210, [5, 0, 2, 41, 1], 0), (7, 1, .aload_n 0, [], 0), (8, 3, .getfield 76, [8, 6, 2, 307, 0], 0), (11, 3, .getfield 234, [5, 1, 2, 42, 1], 0), (14, 3, .invokestatic 237, [2, 129, 2, 0], 370), (17, 1, .return_, [], 0)]
def me_108 : ex_M := (yX9_see, cX9_see, 1, none, RX9, [bk_108_0], [])
def bk_109_8 : List ex_R := [(87, 1, .ireturn, [], 0)]
def bk_109_7 : List ex_R := (86, 1, .iload_n 3, [], 0) :: bk_109_8
def bk_109_6 : List ex_R := [(78, 1, .iload_n 1, [], 0), (79, 3, .ifCond .ne 7, [7], 0), (82, 1, .iload_n 2, [], 0), (83, 3, .goto 4, [8], 0)]
def bk_109_5 : List ex_R := [(72, 3, .iinc 4 1, [], 1), (75, 3, .goto (-51), [2], 0)]
def bk_109_4 : List ex_R := (71, 1, .istore_n 3, [], 0) :: bk_109_5
def bk_109_3 : List ex_R := (70, 1, .iload_n 3, [], 0) :: bk_109_4
def bk_109_2 : List ex_R := [(24, 2, .iload 4, [], 0), (26, 3, .sipush 648, [], 648), (29, 3, .if_icmp .ge 49, [6], 0), (32, 1, .aload_n 0, [], 0), (33, 2, .iload 4, [], 0), (35, 3, .invokevirtual 241, [0, 119, 2, 8], 624), (38, 3, .ifCond .eq 34, [5], 0), (41, 1, .aload_n 0, [], 0), (42, 3, .getfield 76, [8, 6, 2, 307, 0], 0), (45, 2, .iload 4, [], 0), (47, 1, .aload_n 0, [], 0), (48, 3, .getfield 46, [8, 2, 2, 303, 0], 0), (51, 3, .invokevirtual 244, [1, 65, 3, 5], 132), (54, 3, .ifCond .eq 18, [5], 0), (57, 3, .iinc 2 1, [], 1), (60, 1, .iload_n 3, [], 0), (61, 1, .iconst (-1), [], (-1)), (62, 3, .if_icmp .ne 8, [3], 0), (65, 2, .iload 4, [], 0), (67, 3, .goto 4, [4], 0)]
def bk_109_1 : List ex_R := (17, 1, .iconst 0, [], 0) :: (18, 1, .istore_n 2, [], 0) :: (19, 1, .iconst (-1), [], (-1)) :: (20, 1, .istore_n 3, [], 0) :: (21, 1, .iconst 0, [], 0) :: (22, 2, .istore 4, [], 0) :: bk_109_2
def bk_109_0 : List ex_R := [(0, 1, .iload_n 1, [], 0), (1, 3, .ifCond .eq 16, [1], 0), (4, 1, .iload_n 1, [], 0), (5, 1, .iconst 1, [], 1), (6, 3, .if_icmp .eq 11, [1], 0), (9, 3, .new 129, [1, 1, 1, 529, 143], 0)]
def me_109 : ex_M := (yX9_between, cX9_between, 5, some .int, RX9, [bk_109_0, bk_109_1, bk_109_2, bk_109_3, bk_109_4, bk_109_5, bk_109_6, bk_109_7, bk_109_8], [])
def bk_110_5 : List ex_R := [(104, 2, .iload 5, [], 0), (106, 1, .ireturn, [], 0)]
def bk_110_4 : List ex_R := [(98, 3, .iinc 6 1, [], 1), (101, 3, .goto (-64), [3], 0)]
def bk_110_3 : List ex_R := (37, 2, .iload 6, [], 0) :: (39, 1, .iload_n 2, [], 0) :: (40, 3, .if_icmp .ge 64, [5], 0) :: (43, 2, .iload 4, [], 0) :: (45, 2, .ldc 248, [633], 1103515245) :: (47, 1, .imul, [], 0) :: (48, 3, .sipush 12345, [], 12345) :: (51, 1, .iadd, [], 0) :: (52, 2, .istore 4, [], 0) :: (54, 2, .iload 4, [], 0) :: (56, 2, .bipush 16, [], 16) :: (58, 1, .iushr, [], 0) :: (59, 3, .sipush 32767, [], 32767) :: (62, 1, .iand, [], 0) :: (63, 1, .aload_n 0, [], 0) :: (64, 3, .getfield 53, [8, 3, 2, 304, 0], 0) :: (67, 3, .getfield 101, [4, 4, 0, 26, 1], 0) :: (70, 3, .invokestatic 249, [2, 125, 2, 0], 634) :: (73, 2, .istore 7, [], 0) :: (75, 1, .aload_n 0, [], 0) :: (76, 3, .getfield 53, [8, 3, 2, 304, 0], 0) :: (79, 2, .iload 7, [], 0) :: (81, 1, .iload_n 3, [], 0) :: (82, 3, .invokevirtual 164, [1, 55, 3, 4], 110) :: (85, 1, .aload_n 0, [], 0) :: (86, 3, .getfield 53, [8, 3, 2, 304, 0], 0) :: (89, 3, .getfield 113, [4, 7, 0, 35, 1], 0) :: (92, 3, .if_icmp .ne 6, [4], 0) :: (95, 3, .iinc 5 1, [], 1) :: bk_110_4
def bk_110_2 : List ex_R := (28, 1, .iload_n 1, [], 0) :: (29, 2, .istore 4, [], 0) :: (31, 1, .iconst 0, [], 0) :: (32, 2, .istore 5, [], 0) :: (34, 1, .iconst 0, [], 0) :: (35, 2, .istore 6, [], 0) :: bk_110_3
def bk_110_1 : List ex_R := [(20, 3, .new 93, [1, 0, 0, 384, 137], 0)]
def bk_110_0 : List ex_R := (0, 1, .iload_n 2, [], 0) :: (1, 1, .iconst 0, [], 0) :: (2, 2, .bipush 60, [], 60) :: (4, 3, .invokestatic 160, [2, 122, 3, 0], 551) :: (7, 3, .ifCond .eq 13, [1], 0) :: (10, 1, .iload_n 3, [], 0) :: (11, 1, .iconst 0, [], 0) :: (12, 2, .bipush 60, [], 60) :: (14, 3, .invokestatic 160, [2, 122, 3, 0], 551) :: (17, 3, .ifCond .ne 11, [2], 0) :: bk_110_1
def me_110 : ex_M := (yX9_evenings, cX9_evenings, 8, some .int, RX9, [bk_110_0, bk_110_1, bk_110_2, bk_110_3, bk_110_4, bk_110_5], [])
def bk_111_7 : List ex_R := [(79, 1, .iconst (-1), [], (-1)), (80, 1, .ireturn, [], 0)]
def bk_111_6 : List ex_R := [(67, 2, .iload 4, [], 0), (69, 1, .iconst 3, [], 3), (70, 1, .imul, [], 0), (71, 2, .istore 4, [], 0), (73, 3, .iinc 5 1, [], 1), (76, 3, .goto (-26), [5], 0)]
def bk_111_5 : List ex_R := [(50, 2, .iload 5, [], 0), (52, 3, .sipush 1000, [], 1000), (55, 3, .if_icmp .ge 24, [7], 0), (58, 2, .iload 4, [], 0), (60, 1, .iload_n 3, [], 0), (61, 3, .if_icmp .lt 6, [6], 0), (64, 2, .iload 5, [], 0), (66, 1, .ireturn, [], 0)]
def bk_111_4 : List ex_R := (43, 1, .istore_n 3, [], 0) :: (44, 1, .iconst 1, [], 1) :: (45, 2, .istore 4, [], 0) :: (47, 1, .iconst 0, [], 0) :: (48, 2, .istore 5, [], 0) :: bk_111_5
def bk_111_3 : List ex_R := (38, 1, .iconst 2, [], 2) :: (39, 1, .iload_n 1, [], 0) :: (40, 1, .imul, [], 0) :: (41, 1, .iconst 3, [], 3) :: (42, 1, .iadd, [], 0) :: bk_111_4
def bk_111_2 : List ex_R := [(30, 1, .iload_n 2, [], 0), (31, 3, .ifCond .eq 7, [3], 0), (34, 1, .iload_n 1, [], 0), (35, 3, .goto 8, [4], 0)]
def bk_111_1 : List ex_R := [(19, 1, .iload_n 2, [], 0), (20, 3, .ifCond .ne 10, [2], 0), (23, 1, .iload_n 1, [], 0), (24, 1, .iconst 3, [], 3), (25, 3, .if_icmp .ge 5, [2], 0), (28, 1, .iconst (-1), [], (-1)), (29, 1, .ireturn, [], 0)]
def bk_111_0 : List ex_R := [(0, 1, .iload_n 1, [], 0), (1, 1, .iconst 1, [], 1), (2, 3, .sipush 1000, [], 1000), (5, 3, .invokestatic 160, [2, 122, 3, 0], 551), (8, 3, .ifCond .ne 11, [1], 0), (11, 3, .new 93, [1, 0, 0, 384, 137], 0)]
def me_111 : ex_M := (yX9_weighings, cX9_weighings, 6, some .int, RX9, [bk_111_0, bk_111_1, bk_111_2, bk_111_3, bk_111_4, bk_111_5, bk_111_6, bk_111_7], [])
def bk_112_0 : List ex_R := [(0, 1, .aload_n 0, [], 0), (1, 3, .getfield 80, [8, 7, 2, 308, 0], 0), (4, 1, .aload_n 0, [], 0), (5, 3, .getfield 76, [8, 6, 2, 307, 0], 0), (8, 3, .invokevirtual 252, [1, 61, 2, 5], 80), (11, 1, .aload_n 0, [], 0), (12, 1, .iconst 1, [], 1), (13, 3, .putfield 13, [8, 9, 3, 310, 0], 0), (16, 1, .return_, [], 0)]
def me_112 : ex_M := (yX9_image, cX9_image, 1, none, RX9, [bk_112_0], [])
def bk_113_1 : List ex_R := [(18, 1, .aload_n 0, [], 0), (19, 3, .getfield 13, [8, 9, 3, 310, 0], 0), (22, 1, .ireturn, [], 0)]
def bk_113_0 : List ex_R := (0, 1, .aload_n 0, [], 0) :: (1, 3, .getfield 13, [8, 9, 3, 310, 0], 0) :: (4, 3, .ifCond .eq 14, [1], 0) :: (7, 1, .aload_n 0, [], 0) :: (8, 3, .getfield 76, [8, 6, 2, 307, 0], 0) :: (11, 1, .aload_n 0, [], 0) :: (12, 3, .getfield 80, [8, 7, 2, 308, 0], 0) :: (15, 3, .invokevirtual 252, [1, 61, 2, 5], 80) :: bk_113_1
def me_113 : ex_M := (yX9_restore, cX9_restore, 1, some .boolean, RX9, [bk_113_0, bk_113_1], [])
def bk_114_0 : List ex_R := [(0, 1, .aload_n 0, [], 0), (1, 3, .getfield 53, [8, 3, 2, 304, 0], 0), (4, 1, .aload_n 0, [], 0), (5, 3, .getfield 39, [8, 1, 2, 302, 0], 0), (8, 1, .aload_n 0, [], 0), (9, 3, .getfield 46, [8, 2, 2, 303, 0], 0), (12, 3, .invokevirtual 256, [1, 47, 3, 4], 45), (15, 1, .aload_n 0, [], 0), (16, 3, .getfield 76, [8, 6, 2, 307, 0], 0), (19, 3, .invokevirtual 260, [1, 60, 1, 5], 63), (22, 1, .aload_n 0, [], 0), (23, 3, .getfield 62, [8, 4, 2, 305, 0], 0), (26, 1, .iconst 0, [], 0), (27, 3, .putfield 183, [7, 6, 0, 38, 1], 0), (30, 1, .aload_n 0, [], 0), (31, 1, .iconst 0, [], 0), (32, 3, .putfield 13, [8, 9, 3, 310, 0], 0), (35, 1, .return_, [], 0)]
def me_114 : ex_M := (yX9_startAnew, cX9_startAnew, 1, none, RX9, [bk_114_0], [])
def bk_115_2 : List ex_R := [(24, 1, .return_, [], 0)]
def bk_115_1 : List ex_R := [(2, 1, .iload_n 1, [], 0), (3, 1, .aload_n 0, [], 0), (4, 3, .getfield 9, [8, 8, 2, 309, 0], 0), (7, 1, .arraylength, [], 0), (8, 3, .if_icmp .ge 16, [2], 0), (11, 1, .aload_n 0, [], 0), (12, 3, .getfield 9, [8, 8, 2, 309, 0], 0), (15, 1, .iload_n 1, [], 0), (16, 1, .iload_n 1, [], 0), (17, 1, .iastore, [], 0), (18, 3, .iinc 1 1, [], 1), (21, 3, .goto (-19), [1], 0)]
def bk_115_0 : List ex_R := (0, 1, .iconst 0, [], 0) :: (1, 1, .istore_n 1, [], 0) :: bk_115_1
def me_115 : ex_M := (yX9_startEnds, cX9_startEnds, 2, none, RX9, [bk_115_0, bk_115_1, bk_115_2], [])
def bk_116_2 : List ex_R := [(43, 1, .return_, [], 0)]
def bk_116_1 : List ex_R := [(2, 1, .iload_n 2, [], 0), (3, 1, .aload_n 0, [], 0), (4, 3, .getfield 53, [8, 3, 2, 304, 0], 0), (7, 3, .getfield 101, [4, 4, 0, 26, 1], 0), (10, 3, .if_icmp .ge 33, [2], 0), (13, 1, .aload_n 0, [], 0), (14, 3, .getfield 9, [8, 8, 2, 309, 0], 0), (17, 1, .iload_n 2, [], 0), (18, 1, .aload_n 0, [], 0), (19, 3, .getfield 53, [8, 3, 2, 304, 0], 0), (22, 1, .iload_n 1, [], 0), (23, 1, .aload_n 0, [], 0), (24, 3, .getfield 9, [8, 8, 2, 309, 0], 0), (27, 1, .iload_n 2, [], 0), (28, 3, .invokestatic 213, [2, 127, 2, 0], 328), (31, 3, .invokevirtual 263, [1, 54, 3, 4], 66), (34, 3, .invokestatic 266, [2, 128, 3, 0], 332), (37, 3, .iinc 2 1, [], 1), (40, 3, .goto (-38), [1], 0)]
def bk_116_0 : List ex_R := (0, 1, .iconst 0, [], 0) :: (1, 1, .istore_n 2, [], 0) :: bk_116_1
def me_116 : ex_M := (yX9_moveEnds, cX9_moveEnds, 3, none, RX9, [bk_116_0, bk_116_1, bk_116_2], [])
def bk_117_3 : List ex_R := [(42, 1, .iload_n 1, [], 0), (43, 1, .ireturn, [], 0)]
def bk_117_2 : List ex_R := [(36, 3, .iinc 2 1, [], 1), (39, 3, .goto (-28), [1], 0)]
def bk_117_1 : List ex_R := [(11, 1, .iload_n 2, [], 0), (12, 1, .aload_n 0, [], 0), (13, 3, .getfield 53, [8, 3, 2, 304, 0], 0), (16, 3, .getfield 101, [4, 4, 0, 26, 1], 0), (19, 3, .if_icmp .ge 23, [3], 0), (22, 1, .aload_n 0, [], 0), (23, 3, .getfield 9, [8, 8, 2, 309, 0], 0), (26, 1, .iload_n 2, [], 0), (27, 3, .invokestatic 213, [2, 127, 2, 0], 328), (30, 1, .iload_n 1, [], 0), (31, 3, .if_icmp .eq 5, [2], 0), (34, 1, .iconst (-1), [], (-1)), (35, 1, .ireturn, [], 0)]
def bk_117_0 : List ex_R := (0, 1, .aload_n 0, [], 0) :: (1, 3, .getfield 9, [8, 8, 2, 309, 0], 0) :: (4, 1, .iconst 0, [], 0) :: (5, 3, .invokestatic 213, [2, 127, 2, 0], 328) :: (8, 1, .istore_n 1, [], 0) :: (9, 1, .iconst 1, [], 1) :: (10, 1, .istore_n 2, [], 0) :: bk_117_1
def me_117 : ex_M := (yX9_commonEnd, cX9_commonEnd, 3, some .int, RX9, [bk_117_0, bk_117_1, bk_117_2, bk_117_3], [])
def bk_118_2 : List ex_R := [(54, 1, .lload_n 2, [], 0), (55, 1, .lreturn, [], 0)]
def bk_118_1 : List ex_R := [(17, 2, .iload 5, [], 0), (19, 2, .bipush 60, [], 60), (21, 3, .if_icmp .ge 33, [2], 0), (24, 2, .iload 4, [], 0), (26, 1, .iload_n 1, [], 0), (27, 3, .if_icmp .eq 27, [2], 0), (30, 1, .lload_n 2, [], 0), (31, 1, .lconst 1, [], 0), (32, 2, .iload 4, [], 0), (34, 1, .lshl, [], 0), (35, 1, .lor, [], 0), (36, 1, .lstore_n 2, [], 0), (37, 1, .aload_n 0, [], 0), (38, 3, .getfield 46, [8, 2, 2, 303, 0], 0), (41, 2, .iload 4, [], 0), (43, 3, .invokevirtual 157, [1, 10, 2, 0], 109), (46, 2, .istore 4, [], 0), (48, 3, .iinc 5 1, [], 1), (51, 3, .goto (-34), [1], 0)]
def bk_118_0 : List ex_R := (0, 1, .lconst 1, [], 0) :: (1, 1, .iload_n 1, [], 0) :: (2, 1, .lshl, [], 0) :: (3, 1, .lstore_n 2, [], 0) :: (4, 1, .aload_n 0, [], 0) :: (5, 3, .getfield 46, [8, 2, 2, 303, 0], 0) :: (8, 1, .iload_n 1, [], 0) :: (9, 3, .invokevirtual 157, [1, 10, 2, 0], 109) :: (12, 2, .istore 4, [], 0) :: (14, 1, .iconst 0, [], 0) :: (15, 2, .istore 5, [], 0) :: bk_118_1
def me_118 : ex_M := (yX9_roundFrom, cX9_roundFrom, 6, some .long, RX9, [bk_118_0, bk_118_1, bk_118_2], [])
def bk_119_0 : List ex_R := [(0, 1, .aload_n 0, [], 0), (1, 3, .getfield 53, [8, 3, 2, 304, 0], 0), (4, 1, .iload_n 1, [], 0), (5, 1, .iconst 3, [], 3), (6, 3, .invokestatic 270, [2, 121, 2, 0], 626), (9, 1, .iload_n 1, [], 0), (10, 1, .iconst 2, [], 2), (11, 3, .invokestatic 270, [2, 121, 2, 0], 626), (14, 1, .iload_n 1, [], 0), (15, 1, .iconst 1, [], 1), (16, 3, .invokestatic 270, [2, 121, 2, 0], 626), (19, 1, .iload_n 1, [], 0), (20, 1, .iconst 0, [], 0), (21, 3, .invokestatic 270, [2, 121, 2, 0], 626), (24, 3, .invokevirtual 189, [1, 58, 5, 4], 67), (27, 1, .ireturn, [], 0)]
def me_119 : ex_M := (yX9_isDeal, cX9_isDeal, 2, some .boolean, RX9, [bk_119_0], [])
def bk_120_0 : List ex_R := [(0, 1, .iload_n 0, [], 0), (1, 2, .bipush 6, [], 6), (3, 1, .imul, [], 0), (4, 1, .iload_n 1, [], 0), (5, 1, .iadd, [], 0), (6, 2, .bipush 6, [], 6), (8, 1, .imul, [], 0), (9, 1, .iload_n 2, [], 0), (10, 1, .iadd, [], 0), (11, 2, .bipush 6, [], 6), (13, 1, .imul, [], 0), (14, 1, .iload_n 3, [], 0), (15, 1, .iadd, [], 0), (16, 1, .ireturn, [], 0)]
def me_120 : ex_M := (yX9_dealCode, cX9_dealCode, 4, some .int, RX9, [bk_120_0], [])
def bk_121_2 : List ex_R := [(20, 1, .iload_n 2, [], 0), (21, 2, .bipush 6, [], 6), (23, 1, .irem, [], 0), (24, 1, .ireturn, [], 0)]
def bk_121_1 : List ex_R := [(4, 1, .iload_n 3, [], 0), (5, 1, .iload_n 1, [], 0), (6, 3, .if_icmp .ge 14, [2], 0), (9, 1, .iload_n 2, [], 0), (10, 2, .bipush 6, [], 6), (12, 1, .idiv, [], 0), (13, 1, .istore_n 2, [], 0), (14, 3, .iinc 3 1, [], 1), (17, 3, .goto (-13), [1], 0)]
def bk_121_0 : List ex_R := (0, 1, .iload_n 0, [], 0) :: (1, 1, .istore_n 2, [], 0) :: (2, 1, .iconst 0, [], 0) :: (3, 1, .istore_n 3, [], 0) :: bk_121_1
def me_121 : ex_M := (yX9_figure, cX9_figure, 4, some .int, RX9, [bk_121_0, bk_121_1, bk_121_2], [])
def bk_122_2 : List ex_R := [(15, 1, .ireturn, [], 0)]
def bk_122_1 : List ex_R := (14, 1, .iconst 0, [], 0) :: bk_122_2
def bk_122_0 : List ex_R := [(0, 1, .iload_n 0, [], 0), (1, 1, .iload_n 1, [], 0), (2, 3, .if_icmp .lt 12, [1], 0), (5, 1, .iload_n 0, [], 0), (6, 1, .iload_n 2, [], 0), (7, 3, .if_icmp .gt 7, [1], 0), (10, 1, .iconst 1, [], 1), (11, 3, .goto 4, [2], 0)]
def me_122 : ex_M := (yX9_isWithin, cX9_isWithin, 3, some .boolean, RX9, [bk_122_0, bk_122_1, bk_122_2], [])
def bk_123_2 : List ex_R := [(19, 1, .iload_n 2, [], 0), (20, 1, .ireturn, [], 0)]
def bk_123_1 : List ex_R := [(4, 1, .iload_n 3, [], 0), (5, 1, .iload_n 1, [], 0), (6, 3, .if_icmp .ge 13, [2], 0), (9, 1, .iload_n 2, [], 0), (10, 1, .iload_n 0, [], 0), (11, 1, .imul, [], 0), (12, 1, .istore_n 2, [], 0), (13, 3, .iinc 3 1, [], 1), (16, 3, .goto (-12), [1], 0)]
def bk_123_0 : List ex_R := (0, 1, .iconst 1, [], 1) :: (1, 1, .istore_n 2, [], 0) :: (2, 1, .iconst 0, [], 0) :: (3, 1, .istore_n 3, [], 0) :: bk_123_1
def me_123 : ex_M := (yX9_power, cX9_power, 4, some .int, RX9, [bk_123_0, bk_123_1, bk_123_2], [])
def bk_124_4 : List ex_R := [(61, 1, .lreturn, [], 0)]
def bk_124_3 : List ex_R := (60, 1, .lload_n 0, [], 0) :: bk_124_4
def bk_124_2 : List ex_R := [(44, 2, .lload 4, [], 0), (46, 1, .lconst 0, [], 0), (47, 1, .lcmp, [], 0), (48, 3, .ifCond .le 12, [3], 0), (51, 1, .lload_n 0, [], 0), (52, 2, .lload 4, [], 0), (54, 1, .ldiv, [], 0), (55, 1, .lload_n 2, [], 0), (56, 1, .lmul, [], 0), (57, 3, .goto 4, [4], 0)]
def bk_124_1 : List ex_R := [(9, 2, .iload 8, [], 0), (11, 2, .bipush 60, [], 60), (13, 3, .if_icmp .ge 31, [2], 0), (16, 2, .lload 6, [], 0), (18, 1, .lconst 0, [], 0), (19, 1, .lcmp, [], 0), (20, 3, .ifCond .le 24, [2], 0), (23, 2, .lload 4, [], 0), (25, 2, .lload 6, [], 0), (27, 1, .lrem, [], 0), (28, 2, .lstore 9, [], 0), (30, 2, .lload 6, [], 0), (32, 2, .lstore 4, [], 0), (34, 2, .lload 9, [], 0), (36, 2, .lstore 6, [], 0), (38, 3, .iinc 8 1, [], 1), (41, 3, .goto (-32), [1], 0)]
def bk_124_0 : List ex_R := (0, 1, .lload_n 0, [], 0) :: (1, 2, .lstore 4, [], 0) :: (3, 1, .lload_n 2, [], 0) :: (4, 2, .lstore 6, [], 0) :: (6, 1, .iconst 0, [], 0) :: (7, 2, .istore 8, [], 0) :: bk_124_1
def me_124 : ex_M := (yX9_leastCommonMultiple, cX9_leastCommonMultiple, 11, some .long, RX9, [bk_124_0, bk_124_1, bk_124_2, bk_124_3, bk_124_4], [])
def bk_125_2 : List ex_R := [(13, 1, .ireturn, [], 0)]
def bk_125_1 : List ex_R := (12, 1, .iconst 0, [], 0) :: bk_125_2
def bk_125_0 : List ex_R := [(0, 1, .iload_n 1, [], 0), (1, 3, .ifCond .le 11, [1], 0), (4, 1, .iload_n 0, [], 0), (5, 1, .iload_n 1, [], 0), (6, 3, .invokestatic 273, [2, 211, 2, 0], 270), (9, 3, .goto 4, [2], 0)]
def me_125 : ex_M := (yX9_rest, cX9_rest, 2, some .int, RX9, [bk_125_0, bk_125_1, bk_125_2], [])
def bk_126_2 : List ex_R := [(11, 1, .ireturn, [], 0)]
def bk_126_1 : List ex_R := (10, 1, .iconst 0, [], 0) :: bk_126_2
def bk_126_0 : List ex_R := [(0, 1, .iload_n 1, [], 0), (1, 3, .ifCond .le 9, [1], 0), (4, 1, .iload_n 0, [], 0), (5, 1, .iload_n 1, [], 0), (6, 1, .idiv, [], 0), (7, 3, .goto 4, [2], 0)]
def me_126 : ex_M := (yX9_share, cX9_share, 2, some .int, RX9, [bk_126_0, bk_126_1, bk_126_2], [])
def bk_127_2 : List ex_R := [(17, 1, .ireturn, [], 0)]
def bk_127_1 : List ex_R := (16, 1, .iconst 0, [], 0) :: bk_127_2
def bk_127_0 : List ex_R := [(0, 1, .iload_n 1, [], 0), (1, 3, .ifCond .lt 15, [1], 0), (4, 1, .iload_n 1, [], 0), (5, 1, .aload_n 0, [], 0), (6, 1, .arraylength, [], 0), (7, 3, .if_icmp .ge 9, [1], 0), (10, 1, .aload_n 0, [], 0), (11, 1, .iload_n 1, [], 0), (12, 1, .iaload, [], 0), (13, 3, .goto 4, [2], 0)]
def me_127 : ex_M := (yX9_at, cX9_at, 2, some .int, RX9, [bk_127_0, bk_127_1, bk_127_2], [])
def bk_128_1 : List ex_R := [(14, 1, .return_, [], 0)]
def bk_128_0 : List ex_R := (0, 1, .iload_n 1, [], 0) :: (1, 3, .ifCond .lt 13, [1], 0) :: (4, 1, .iload_n 1, [], 0) :: (5, 1, .aload_n 0, [], 0) :: (6, 1, .arraylength, [], 0) :: (7, 3, .if_icmp .ge 7, [1], 0) :: (10, 1, .aload_n 0, [], 0) :: (11, 1, .iload_n 1, [], 0) :: (12, 1, .iload_n 2, [], 0) :: (13, 1, .iastore, [], 0) :: bk_128_1
def me_128 : ex_M := (yX9_put, cX9_put, 3, none, RX9, [bk_128_0, bk_128_1], [])
def bk_129_0 : List ex_R := [(0, 1, .aload_n 0, [], 0), (1, 1, .iconst 0, [], 0), (2, 1, .aload_n 1, [], 0), (3, 1, .iconst 0, [], 0), (4, 1, .aload_n 0, [], 0), (5, 1, .arraylength, [], 0), (6, 1, .aload_n 1, [], 0), (7, 1, .arraylength, [], 0), (8, 3, .invokestatic 278, [2, 213, 2, 0], 192), (11, 3, .invokestatic 281, [7], 194), (14, 1, .return_, [], 0)]
def me_129 : ex_M := (yX9_copy, cX9_copy, 2, none, RX9, [bk_129_0], [])
def bk_130_0 : List ex_R := [(0, 1, .aload_n 0, [], 0), (1, 3, .invokespecial 1, [6], 644), (4, 1, .aload_n 0, [], 0), (5, 2, .bipush 27, [], 27), (7, 3, .putfield 7, [9, 1, 0, 648, 0], 0), (10, 1, .aload_n 0, [], 0), (11, 1, .iconst 3, [], 3), (12, 3, .putfield 13, [9, 2, 0, 649, 0], 0), (15, 1, .aload_n 0, [], 0), (16, 2, .bipush 8, [], 8), (18, 2, .newarray .int, [164], 0), (20, 3, .putfield 16, [9, 6, 2, 653, 2], 0), (23, 1, .aload_n 0, [], 0), (24, 2, .bipush 8, [], 8), (26, 2, .newarray .int, [164], 0), (28, 3, .putfield 20, [9, 7, 2, 654, 2], 0), (31, 1, .aload_n 0, [], 0), (32, 2, .bipush 8, [], 8), (34, 2, .newarray .int, [164], 0), (36, 3, .putfield 23, [9, 8, 2, 655, 2], 0), (39, 1, .aload_n 0, [], 0), (40, 3, .sipush 1300, [], 1300), (43, 2, .newarray .int, [164], 0), (45, 3, .putfield 26, [9, 9, 2, 656, 2], 0), (48, 1, .aload_n 0, [], 0), (49, 3, .sipush 500, [], 500), (52, 2, .newarray .int, [164], 0), (54, 3, .putfield 29, [9, 10, 2, 657, 2], 0), (57, 1, .aload_n 0, [], 0), (58, 1, .iconst (-1), [], (-1)), (59, 3, .putfield 32, [9, 13, 0, 660, 0], 0), (62, 1, .aload_n 0, [], 0), (63, 1, .iconst 2, [], 2), (64, 2, .newarray .int, [164], 0), (66, 3, .putfield 35, [9, 14, 2, 661, 2], 0), (69, 1, .aload_n 0, [], 0), (70, 2, .bipush 8, [], 8), (72, 2, .newarray .int, [164], 0), (74, 3, .putfield 38, [9, 32, 2, 679, 2], 0), (77, 1, .aload_n 0, [], 0), (78, 2, .bipush 8, [], 8), (80, 2, .newarray .int, [164], 0), (82, 3, .putfield 41, [9, 33, 2, 680, 2], 0), (85, 1, .aload_n 0, [], 0), (86, 2, .bipush 8, [], 8), (88, 2, .newarray .int, [164], 0), (90, 3, .putfield 44, [9, 34, 2, 681, 2], 0), (93, 1, .aload_n 0, [], 0), (94, 3, .sipush 1300, [], 1300), (97, 2, .newarray .int, [164], 0), (99, 3, .putfield 47, [9, 35, 2, 682, 2], 0), (102, 1, .aload_n 0, [], 0), (103, 3, .sipush 650, [], 650), (106, 2, .newarray .int, [164], 0), (108, 3, .putfield 50, [9, 36, 2, 683, 2], 0), (111, 1, .aload_n 0, [], 0), (112, 2, .bipush 9, [], 9), (114, 2, .newarray .boolean, [188], 0), (116, 3, .putfield 53, [9, 37, 2, 684, 2], 0), (119, 1, .aload_n 0, [], 0), (120, 2, .bipush 60, [], 60), (122, 2, .newarray .int, [164], 0), (124, 3, .putfield 57, [9, 38, 2, 685, 2], 0), (127, 1, .aload_n 0, [], 0), (128, 2, .bipush 60, [], 60), (130, 2, .newarray .int, [164], 0), (132, 3, .putfield 60, [9, 39, 2, 686, 2], 0), (135, 1, .aload_n 0, [], 0), (136, 2, .bipush 6, [], 6), (138, 2, .newarray .int, [164], 0), (140, 3, .putfield 63, [9, 40, 2, 687, 2], 0), (143, 1, .aload_n 0, [], 0), (144, 2, .bipush 6, [], 6), (146, 2, .newarray .int, [164], 0), (148, 3, .putfield 66, [9, 41, 2, 688, 2], 0), (151, 1, .aload_n 0, [], 0), (152, 2, .bipush 6, [], 6), (154, 2, .newarray .int, [164], 0), (156, 3, .putfield 69, [9, 42, 2, 689, 2], 0), (159, 1, .aload_n 0, [], 0), (160, 3, .sipush 650, [], 650), (163, 2, .newarray .int, [164], 0), (165, 3, .putfield 72, [9, 43, 2, 690, 2], 0), (168, 1, .aload_n 0, [], 0), (169, 2, .bipush 60, [], 60), (171, 2, .newarray .int, [164], 0), (173, 3, .putfield 75, [9, 44, 2, 691, 2], 0), (176, 1, .aload_n 0, [], 0), (177, 2, .bipush 60, [], 60), (179, 2, .newarray .int, [164], 0), (181, 3, .putfield 78, [9, 45, 2, 692, 2], 0), (184, 1, .aload_n 0, [], 0), (185, 1, .iconst 5, [], 5), (186, 2, .newarray .int, [164], 0), (188, 3, .putfield 81, [9, 46, 2, 693, 2], 0), (191, 1, .aload_n 0, [], 0), (192, 1, .iconst 5, [], 5), (193, 2, .newarray .int, [164], 0), (195, 3, .putfield 84, [9, 47, 2, 694, 2], 0), (198, 1, .aload_n 0, [], 0), (199, 1, .iconst (-1), [], (-1)), (200, 3, .putfield 87, [9, 48, 0, 695, 0], 0), (203, 1, .aload_n 0, [], 0), (204, 2, .bipush 60, [], 60), (206, 2, .newarray .int, [164], 0), (208, 3, .putfield 90, [9, 50, 2, 697, 2], 0), (211, 1, .aload_n 0, [], 0), (212, 2, .bipush 60, [], 60), (214, 2, .newarray .int, [164], 0), (216, 3, .putfield 93, [9, 51, 2, 698, 2], 0), (219, 1, .aload_n 0, [], 0), (220, 2, .bipush 60, [], 60), (222, 2, .newarray .int, [164], 0), (224, 3, .putfield 96, [9, 53, 2, 700, 2], 0), (227, 1, .aload_n 0, [], 0), (228, 2, .bipush 60, [], 60), (230, 2, .newarray .int, [164], 0), (232, 3, .putfield 99, [9, 54, 2, 701, 2], 0), (235, 1, .aload_n 0, [], 0), (236, 2, .bipush 60, [], 60), (238, 2, .newarray .int, [164], 0), (240, 3, .putfield 102, [9, 55, 2, 702, 2], 0), (243, 1, .aload_n 0, [], 0), (244, 3, .sipush 1200, [], 1200), (247, 2, .newarray .int, [164], 0), (249, 3, .putfield 105, [9, 56, 2, 703, 2], 0), (252, 1, .aload_n 0, [], 0), (253, 3, .sipush 1200, [], 1200), (256, 2, .newarray .int, [164], 0), (258, 3, .putfield 108, [9, 57, 2, 704, 2], 0), (261, 1, .aload_n 0, [], 0), (262, 2, .bipush 60, [], 60), (264, 2, .newarray .int, [164], 0), (266, 3, .putfield 111, [9, 58, 2, 705, 2], 0), (269, 1, .aload_n 0, [], 0), (270, 2, .bipush 60, [], 60), (272, 2, .newarray .int, [164], 0), (274, 3, .putfield 114, [9, 61, 2, 708, 2], 0), (277, 1, .aload_n 0, [], 0), (278, 2, .bipush 60, [], 60), (280, 2, .newarray .int, [164], 0), (282, 3, .putfield 117, [9, 62, 2, 709, 2], 0), (285, 1, .aload_n 0, [], 0), (286, 2, .bipush 60, [], 60), (288, 2, .newarray .int, [164], 0), (290, 3, .putfield 120, [9, 63, 2, 710, 2], 0), (293, 1, .aload_n 0, [], 0), (294, 3, .sipush 1200, [], 1200), (297, 2, .newarray .int, [164], 0), (299, 3, .putfield 123, [9, 64, 2, 711, 2], 0), (302, 1, .aload_n 0, [], 0), (303, 3, .sipush 1200, [], 1200), (306, 2, .newarray .int, [164], 0), (308, 3, .putfield 126, [9, 65, 2, 712, 2], 0), (311, 1, .aload_n 0, [], 0), (312, 3, .invokevirtual 129, [0, 163, 1, 9], 645), (315, 1, .return_, [], 0)]
def me_130 : ex_M := (yX10_init, cX10_init, 1, none, RX10, [bk_130_0], [])
def bk_131_0 : List ex_R := [(0, 1, .aload_n 0, [], 0), (1, 3, .getfield 132, [9, 0, 0, 647, 0], 0), (4, 1, .ireturn, [], 0)]
def me_131 : ex_M := (yX10_thrown, cX10_thrown, 1, some .int, RX10, [bk_131_0], [])
def bk_132_3 : List ex_R := [(28, 1, .ireturn, [], 0)]
def bk_132_2 : List ex_R := (27, 1, .iconst 0, [], 0) :: bk_132_3
def bk_132_1 : List ex_R := [(16, 1, .aload_n 0, [], 0), (17, 3, .getfield 132, [9, 0, 0, 647, 0], 0), (20, 3, .ifCond .ne 7, [2], 0), (23, 1, .iconst 1, [], 1), (24, 3, .goto 4, [3], 0)]
def bk_132_0 : List ex_R := (0, 1, .aload_n 0, [], 0) :: (1, 3, .getfield 132, [9, 0, 0, 647, 0], 0) :: (4, 3, .ifCond .ne 12, [1], 0) :: (7, 1, .iload_n 1, [], 0) :: (8, 3, .ifCond .ne 8, [1], 0) :: (11, 1, .aload_n 0, [], 0) :: (12, 1, .iload_n 2, [], 0) :: (13, 3, .putfield 132, [9, 0, 0, 647, 0], 0) :: bk_132_1
def me_132 : ex_M := (yX10_right, cX10_right, 3, some .boolean, RX10, [bk_132_0, bk_132_1, bk_132_2, bk_132_3], [])
def bk_133_2 : List ex_R := [(15, 1, .ireturn, [], 0)]
def bk_133_1 : List ex_R := (14, 1, .iconst 0, [], 0) :: bk_133_2
def bk_133_0 : List ex_R := [(0, 1, .iload_n 0, [], 0), (1, 1, .iload_n 1, [], 0), (2, 3, .if_icmp .lt 12, [1], 0), (5, 1, .iload_n 0, [], 0), (6, 1, .iload_n 2, [], 0), (7, 3, .if_icmp .gt 7, [1], 0), (10, 1, .iconst 1, [], 1), (11, 3, .goto 4, [2], 0)]
def me_133 : ex_M := (yX10_within, cX10_within, 3, some .boolean, RX10, [bk_133_0, bk_133_1, bk_133_2], [])
def bk_134_2 : List ex_R := [(20, 1, .return_, [], 0)]
def bk_134_1 : List ex_R := [(2, 1, .iload_n 3, [], 0), (3, 1, .aload_n 1, [], 0), (4, 1, .arraylength, [], 0), (5, 3, .if_icmp .ge 15, [2], 0), (8, 1, .aload_n 2, [], 0), (9, 1, .iload_n 3, [], 0), (10, 1, .aload_n 1, [], 0), (11, 1, .iload_n 3, [], 0), (12, 1, .iaload, [], 0), (13, 1, .iastore, [], 0), (14, 3, .iinc 3 1, [], 1), (17, 3, .goto (-15), [1], 0)]
def bk_134_0 : List ex_R := (0, 1, .iconst 0, [], 0) :: (1, 1, .istore_n 3, [], 0) :: bk_134_1
def me_134 : ex_M := (yX10_copies, cX10_copies, 4, none, RX10, [bk_134_0, bk_134_1, bk_134_2], [])
def bk_135_1 : List ex_R := [(20, 1, .aload_n 0, [], 0), (21, 1, .iload_n 1, [], 0), (22, 3, .invokevirtual 138, [0, 136, 2, 9], 719), (25, 1, .aload_n 0, [], 0), (26, 1, .iload_n 2, [], 0), (27, 3, .invokevirtual 138, [0, 136, 2, 9], 719), (30, 1, .aload_n 0, [], 0), (31, 1, .iload_n 3, [], 0), (32, 3, .invokevirtual 138, [0, 136, 2, 9], 719), (35, 1, .aload_n 0, [], 0), (36, 2, .iload 4, [], 0), (38, 3, .invokevirtual 138, [0, 136, 2, 9], 719), (41, 1, .aload_n 0, [], 0), (42, 2, .iload 5, [], 0), (44, 3, .invokevirtual 138, [0, 136, 2, 9], 719), (47, 1, .aload_n 0, [], 0), (48, 3, .getfield 135, [9, 11, 0, 658, 0], 0), (51, 1, .ireturn, [], 0)]
def bk_135_0 : List ex_R := [(0, 1, .aload_n 0, [], 0), (1, 1, .iconst 0, [], 0), (2, 3, .putfield 132, [9, 0, 0, 647, 0], 0), (5, 1, .aload_n 0, [], 0), (6, 3, .getfield 135, [9, 11, 0, 658, 0], 0), (9, 2, .bipush 20, [], 20), (11, 1, .iadd, [], 0), (12, 3, .sipush 500, [], 500), (15, 3, .if_icmp .le 5, [1], 0), (18, 1, .iconst (-1), [], (-1)), (19, 1, .ireturn, [], 0)]
def me_135 : ex_M := (yX10_feed, cX10_feed, 6, some .int, RX10, [bk_135_0, bk_135_1], [])
def bk_136_2 : List ex_R := [(39, 1, .return_, [], 0)]
def bk_136_1 : List ex_R := [(3, 1, .iload_n 2, [], 0), (4, 3, .ifCond .lt 35, [2], 0), (7, 1, .aload_n 0, [], 0), (8, 3, .getfield 29, [9, 10, 2, 657, 0], 0), (11, 1, .aload_n 0, [], 0), (12, 3, .getfield 135, [9, 11, 0, 658, 0], 0), (15, 1, .iload_n 1, [], 0), (16, 1, .iload_n 2, [], 0), (17, 1, .ishr, [], 0), (18, 3, .sipush 255, [], 255), (21, 1, .iand, [], 0), (22, 1, .iastore, [], 0), (23, 1, .aload_n 0, [], 0), (24, 1, .dup, [], 0), (25, 3, .getfield 135, [9, 11, 0, 658, 0], 0), (28, 1, .iconst 1, [], 1), (29, 1, .iadd, [], 0), (30, 3, .putfield 135, [9, 11, 0, 658, 0], 0), (33, 3, .iinc 2 (-8), [], (-8)), (36, 3, .goto (-33), [1], 0)]
def bk_136_0 : List ex_R := (0, 2, .bipush 24, [], 24) :: (2, 1, .istore_n 2, [], 0) :: bk_136_1
def me_136 : ex_M := (yX10_lays, cX10_lays, 3, none, RX10, [bk_136_0, bk_136_1, bk_136_2], [])
def bk_137_2 : List ex_R := [(18, 1, .ireturn, [], 0)]
def bk_137_1 : List ex_R := (17, 1, .iconst 0, [], 0) :: bk_137_2
def bk_137_0 : List ex_R := [(0, 1, .iload_n 1, [], 0), (1, 1, .aload_n 0, [], 0), (2, 3, .getfield 142, [9, 15, 0, 662, 0], 0), (5, 3, .if_icmp .ge 12, [1], 0), (8, 1, .aload_n 0, [], 0), (9, 3, .getfield 29, [9, 10, 2, 657, 0], 0), (12, 1, .iload_n 1, [], 0), (13, 1, .iaload, [], 0), (14, 3, .goto 4, [2], 0)]
def me_137 : ex_M := (yX10_byteAt, cX10_byteAt, 2, some .int, RX10, [bk_137_0, bk_137_1, bk_137_2], [])
def bk_138_2 : List ex_R := [(17, 1, .ireturn, [], 0)]
def bk_138_1 : List ex_R := (16, 1, .iconst 0, [], 0) :: bk_138_2
def bk_138_0 : List ex_R := [(0, 1, .iload_n 0, [], 0), (1, 2, .bipush 97, [], 97), (3, 3, .if_icmp .lt 13, [1], 0), (6, 1, .iload_n 0, [], 0), (7, 2, .bipush 122, [], 122), (9, 3, .if_icmp .gt 7, [1], 0), (12, 1, .iconst 1, [], 1), (13, 3, .goto 4, [2], 0)]
def me_138 : ex_M := (yX10_isLetter, cX10_isLetter, 1, some .boolean, RX10, [bk_138_0, bk_138_1, bk_138_2], [])
def bk_139_2 : List ex_R := [(17, 1, .ireturn, [], 0)]
def bk_139_1 : List ex_R := (16, 1, .iconst 0, [], 0) :: bk_139_2
def bk_139_0 : List ex_R := [(0, 1, .iload_n 0, [], 0), (1, 2, .bipush 48, [], 48), (3, 3, .if_icmp .lt 13, [1], 0), (6, 1, .iload_n 0, [], 0), (7, 2, .bipush 57, [], 57), (9, 3, .if_icmp .gt 7, [1], 0), (12, 1, .iconst 1, [], 1), (13, 3, .goto 4, [2], 0)]
def me_139 : ex_M := (yX10_isDigit, cX10_isDigit, 1, some .boolean, RX10, [bk_139_0, bk_139_1, bk_139_2], [])
def bk_140_15 : List ex_R := [(330, 1, .aload_n 0, [], 0), (331, 1, .aload_n 0, [], 0), (332, 3, .getfield 145, [9, 16, 0, 663, 0], 0), (335, 1, .aload_n 0, [], 0), (336, 3, .getfield 152, [9, 18, 0, 665, 0], 0), (339, 1, .isub, [], 0), (340, 3, .putfield 175, [9, 19, 0, 666, 0], 0), (343, 1, .return_, [], 0)]
def bk_140_14 : List ex_R := (327, 3, .putfield 165, [9, 17, 0, 664, 0], 0) :: bk_140_15
def bk_140_13 : List ex_R := (326, 1, .iconst 4, [], 4) :: bk_140_14
def bk_140_12 : List ex_R := [(322, 1, .iconst 3, [], 3), (323, 3, .goto 4, [14], 0)]
def bk_140_11 : List ex_R := (257, 1, .aload_n 0, [], 0) :: (258, 1, .dup, [], 0) :: (259, 3, .getfield 145, [9, 16, 0, 663, 0], 0) :: (262, 1, .iconst 1, [], 1) :: (263, 1, .iadd, [], 0) :: (264, 3, .putfield 145, [9, 16, 0, 663, 0], 0) :: (267, 1, .aload_n 0, [], 0) :: (268, 1, .iload_n 1, [], 0) :: (269, 2, .bipush 59, [], 59) :: (271, 3, .if_icmp .eq 51, [12], 0) :: (274, 1, .iload_n 1, [], 0) :: (275, 2, .bipush 40, [], 40) :: (277, 3, .if_icmp .eq 45, [12], 0) :: (280, 1, .iload_n 1, [], 0) :: (281, 2, .bipush 41, [], 41) :: (283, 3, .if_icmp .eq 39, [12], 0) :: (286, 1, .iload_n 1, [], 0) :: (287, 2, .bipush 43, [], 43) :: (289, 3, .if_icmp .eq 33, [12], 0) :: (292, 1, .iload_n 1, [], 0) :: (293, 2, .bipush 45, [], 45) :: (295, 3, .if_icmp .eq 27, [12], 0) :: (298, 1, .iload_n 1, [], 0) :: (299, 2, .bipush 42, [], 42) :: (301, 3, .if_icmp .eq 21, [12], 0) :: (304, 1, .iload_n 1, [], 0) :: (305, 2, .bipush 47, [], 47) :: (307, 3, .if_icmp .eq 15, [12], 0) :: (310, 1, .iload_n 1, [], 0) :: (311, 2, .bipush 60, [], 60) :: (313, 3, .if_icmp .eq 9, [12], 0) :: (316, 1, .iload_n 1, [], 0) :: (317, 2, .bipush 61, [], 61) :: (319, 3, .if_icmp .ne 7, [13], 0) :: bk_140_12
def bk_140_10 : List ex_R := [(249, 1, .aload_n 0, [], 0), (250, 1, .iconst 2, [], 2), (251, 3, .putfield 165, [9, 17, 0, 664, 0], 0), (254, 3, .goto 76, [15], 0)]
def bk_140_9 : List ex_R := [(236, 1, .aload_n 0, [], 0), (237, 1, .dup, [], 0), (238, 3, .getfield 145, [9, 16, 0, 663, 0], 0), (241, 1, .iconst 1, [], 1), (242, 1, .iadd, [], 0), (243, 3, .putfield 145, [9, 16, 0, 663, 0], 0), (246, 3, .goto (-60), [8], 0)]
def bk_140_8 : List ex_R := (186, 1, .aload_n 0, [], 0) :: (187, 1, .aload_n 0, [], 0) :: (188, 3, .getfield 145, [9, 16, 0, 663, 0], 0) :: (191, 3, .invokevirtual 148, [0, 137, 2, 9], 728) :: (194, 3, .invokestatic 172, [2, 139, 1, 0], 732) :: (197, 3, .ifCond .eq 52, [10], 0) :: (200, 1, .aload_n 0, [], 0) :: (201, 3, .getfield 145, [9, 16, 0, 663, 0], 0) :: (204, 1, .aload_n 0, [], 0) :: (205, 3, .getfield 152, [9, 18, 0, 665, 0], 0) :: (208, 1, .isub, [], 0) :: (209, 1, .iconst 4, [], 4) :: (210, 3, .if_icmp .ge 26, [9], 0) :: (213, 1, .aload_n 0, [], 0) :: (214, 2, .bipush 10, [], 10) :: (216, 1, .aload_n 0, [], 0) :: (217, 3, .getfield 159, [9, 20, 0, 667, 0], 0) :: (220, 1, .imul, [], 0) :: (221, 1, .aload_n 0, [], 0) :: (222, 1, .aload_n 0, [], 0) :: (223, 3, .getfield 145, [9, 16, 0, 663, 0], 0) :: (226, 3, .invokevirtual 148, [0, 137, 2, 9], 728) :: (229, 1, .iadd, [], 0) :: (230, 2, .bipush 48, [], 48) :: (232, 1, .isub, [], 0) :: (233, 3, .putfield 159, [9, 20, 0, 667, 0], 0) :: bk_140_9
def bk_140_7 : List ex_R := (179, 1, .iload_n 1, [], 0) :: (180, 3, .invokestatic 172, [2, 139, 1, 0], 732) :: (183, 3, .ifCond .eq 74, [11], 0) :: bk_140_8
def bk_140_6 : List ex_R := [(171, 1, .aload_n 0, [], 0), (172, 1, .iconst 1, [], 1), (173, 3, .putfield 165, [9, 17, 0, 664, 0], 0), (176, 3, .goto 154, [15], 0)]
def bk_140_5 : List ex_R := [(158, 1, .aload_n 0, [], 0), (159, 1, .dup, [], 0), (160, 3, .getfield 145, [9, 16, 0, 663, 0], 0), (163, 1, .iconst 1, [], 1), (164, 1, .iadd, [], 0), (165, 3, .putfield 145, [9, 16, 0, 663, 0], 0), (168, 3, .goto (-60), [4], 0)]
def bk_140_4 : List ex_R := (108, 1, .aload_n 0, [], 0) :: (109, 1, .aload_n 0, [], 0) :: (110, 3, .getfield 145, [9, 16, 0, 663, 0], 0) :: (113, 3, .invokevirtual 148, [0, 137, 2, 9], 728) :: (116, 3, .invokestatic 168, [2, 138, 1, 0], 730) :: (119, 3, .ifCond .eq 52, [6], 0) :: (122, 1, .aload_n 0, [], 0) :: (123, 3, .getfield 145, [9, 16, 0, 663, 0], 0) :: (126, 1, .aload_n 0, [], 0) :: (127, 3, .getfield 152, [9, 18, 0, 665, 0], 0) :: (130, 1, .isub, [], 0) :: (131, 1, .iconst 5, [], 5) :: (132, 3, .if_icmp .ge 26, [5], 0) :: (135, 1, .aload_n 0, [], 0) :: (136, 1, .aload_n 0, [], 0) :: (137, 3, .getfield 155, [9, 22, 1, 669, 0], 0) :: (140, 1, .iconst 5, [], 5) :: (141, 1, .lshl, [], 0) :: (142, 1, .aload_n 0, [], 0) :: (143, 1, .aload_n 0, [], 0) :: (144, 3, .getfield 145, [9, 16, 0, 663, 0], 0) :: (147, 3, .invokevirtual 148, [0, 137, 2, 9], 728) :: (150, 2, .bipush 96, [], 96) :: (152, 1, .isub, [], 0) :: (153, 1, .i2l, [], 0) :: (154, 1, .lor, [], 0) :: (155, 3, .putfield 155, [9, 22, 1, 669, 0], 0) :: bk_140_5
def bk_140_3 : List ex_R := (101, 1, .iload_n 1, [], 0) :: (102, 3, .invokestatic 168, [2, 138, 1, 0], 730) :: (105, 3, .ifCond .eq 74, [7], 0) :: bk_140_4
def bk_140_2 : List ex_R := [(50, 1, .aload_n 0, [], 0), (51, 1, .aload_n 0, [], 0), (52, 3, .getfield 145, [9, 16, 0, 663, 0], 0), (55, 3, .putfield 152, [9, 18, 0, 665, 0], 0), (58, 1, .aload_n 0, [], 0), (59, 1, .lconst 0, [], 0), (60, 3, .putfield 155, [9, 22, 1, 669, 0], 0), (63, 1, .aload_n 0, [], 0), (64, 1, .iconst 0, [], 0), (65, 3, .putfield 159, [9, 20, 0, 667, 0], 0), (68, 1, .aload_n 0, [], 0), (69, 1, .aload_n 0, [], 0), (70, 3, .getfield 145, [9, 16, 0, 663, 0], 0), (73, 3, .invokevirtual 148, [0, 137, 2, 9], 728), (76, 1, .istore_n 1, [], 0), (77, 1, .aload_n 0, [], 0), (78, 1, .iload_n 1, [], 0), (79, 3, .putfield 162, [9, 21, 0, 668, 0], 0), (82, 1, .aload_n 0, [], 0), (83, 3, .getfield 145, [9, 16, 0, 663, 0], 0), (86, 1, .aload_n 0, [], 0), (87, 3, .getfield 142, [9, 15, 0, 662, 0], 0), (90, 3, .if_icmp .lt 11, [3], 0), (93, 1, .aload_n 0, [], 0), (94, 1, .iconst 0, [], 0), (95, 3, .putfield 165, [9, 17, 0, 664, 0], 0), (98, 3, .goto 232, [15], 0)]
def bk_140_1 : List ex_R := [(37, 1, .aload_n 0, [], 0), (38, 1, .dup, [], 0), (39, 3, .getfield 145, [9, 16, 0, 663, 0], 0), (42, 1, .iconst 1, [], 1), (43, 1, .iadd, [], 0), (44, 3, .putfield 145, [9, 16, 0, 663, 0], 0), (47, 3, .goto (-47), [0], 0)]
def bk_140_0 : List ex_R := (0, 1, .aload_n 0, [], 0) :: (1, 3, .getfield 145, [9, 16, 0, 663, 0], 0) :: (4, 1, .aload_n 0, [], 0) :: (5, 3, .getfield 142, [9, 15, 0, 662, 0], 0) :: (8, 3, .if_icmp .ge 42, [2], 0) :: (11, 1, .aload_n 0, [], 0) :: (12, 1, .aload_n 0, [], 0) :: (13, 3, .getfield 145, [9, 16, 0, 663, 0], 0) :: (16, 3, .invokevirtual 148, [0, 137, 2, 9], 728) :: (19, 2, .bipush 32, [], 32) :: (21, 3, .if_icmp .eq 16, [1], 0) :: (24, 1, .aload_n 0, [], 0) :: (25, 1, .aload_n 0, [], 0) :: (26, 3, .getfield 145, [9, 16, 0, 663, 0], 0) :: (29, 3, .invokevirtual 148, [0, 137, 2, 9], 728) :: (32, 2, .bipush 10, [], 10) :: (34, 3, .if_icmp .ne 16, [2], 0) :: bk_140_1
def me_140 : ex_M := (yX10_goes0, cX10_goes0, 2, none, RX10, [bk_140_0, bk_140_1, bk_140_2, bk_140_3, bk_140_4, bk_140_5, bk_140_6, bk_140_7, bk_140_8, bk_140_9, bk_140_10, bk_140_11, bk_140_12, bk_140_13, bk_140_14, bk_140_15], [])
def bk_141_3 : List ex_R := [(66, 2, .lload 5, [], 0), (68, 1, .lreturn, [], 0)]
def bk_141_2 : List ex_R := (48, 2, .iload 4, [], 0) :: (50, 3, .ifCond .eq 16, [3], 0) :: (53, 2, .lload 5, [], 0) :: (55, 1, .iconst 5, [], 5) :: (56, 1, .lshl, [], 0) :: (57, 2, .iload 4, [], 0) :: (59, 2, .bipush 96, [], 96) :: (61, 1, .isub, [], 0) :: (62, 1, .i2l, [], 0) :: (63, 1, .lor, [], 0) :: (64, 2, .lstore 5, [], 0) :: bk_141_3
def bk_141_1 : List ex_R := (32, 1, .iload_n 3, [], 0) :: (33, 3, .ifCond .eq 15, [2], 0) :: (36, 2, .lload 5, [], 0) :: (38, 1, .iconst 5, [], 5) :: (39, 1, .lshl, [], 0) :: (40, 1, .iload_n 3, [], 0) :: (41, 2, .bipush 96, [], 96) :: (43, 1, .isub, [], 0) :: (44, 1, .i2l, [], 0) :: (45, 1, .lor, [], 0) :: (46, 2, .lstore 5, [], 0) :: bk_141_2
def bk_141_0 : List ex_R := (0, 1, .iload_n 0, [], 0) :: (1, 1, .i2l, [], 0) :: (2, 3, .ldc2_w 178, [96, 744], 0) :: (5, 1, .lsub, [], 0) :: (6, 1, .iconst 5, [], 5) :: (7, 1, .lshl, [], 0) :: (8, 1, .iload_n 1, [], 0) :: (9, 2, .bipush 96, [], 96) :: (11, 1, .isub, [], 0) :: (12, 1, .i2l, [], 0) :: (13, 1, .lor, [], 0) :: (14, 2, .lstore 5, [], 0) :: (16, 1, .iload_n 2, [], 0) :: (17, 3, .ifCond .eq 15, [1], 0) :: (20, 2, .lload 5, [], 0) :: (22, 1, .iconst 5, [], 5) :: (23, 1, .lshl, [], 0) :: (24, 1, .iload_n 2, [], 0) :: (25, 2, .bipush 96, [], 96) :: (27, 1, .isub, [], 0) :: (28, 1, .i2l, [], 0) :: (29, 1, .lor, [], 0) :: (30, 2, .lstore 5, [], 0) :: bk_141_1
def me_141 : ex_M := (yX10_spelled, cX10_spelled, 7, some .long, RX10, [bk_141_0, bk_141_1, bk_141_2, bk_141_3], [])
def bk_142_16 : List ex_R := [(268, 2, .bipush 110, [], 110), (270, 2, .bipush 111, [], 111), (272, 2, .bipush 116, [], 116), (274, 1, .iconst 0, [], 0), (275, 1, .iconst 0, [], 0), (276, 3, .invokestatic 180, [2, 141, 5, 0], 742), (279, 1, .lreturn, [], 0)]
def bk_142_15 : List ex_R := [(257, 2, .bipush 111, [], 111), (259, 2, .bipush 114, [], 114), (261, 1, .iconst 0, [], 0), (262, 1, .iconst 0, [], 0), (263, 1, .iconst 0, [], 0), (264, 3, .invokestatic 180, [2, 141, 5, 0], 742), (267, 1, .lreturn, [], 0)]
def bk_142_14 : List ex_R := [(245, 2, .bipush 97, [], 97), (247, 2, .bipush 110, [], 110), (249, 2, .bipush 100, [], 100), (251, 1, .iconst 0, [], 0), (252, 1, .iconst 0, [], 0), (253, 3, .invokestatic 180, [2, 141, 5, 0], 742), (256, 1, .lreturn, [], 0)]
def bk_142_13 : List ex_R := [(234, 2, .bipush 97, [], 97), (236, 2, .bipush 116, [], 116), (238, 1, .iconst 0, [], 0), (239, 1, .iconst 0, [], 0), (240, 1, .iconst 0, [], 0), (241, 3, .invokestatic 180, [2, 141, 5, 0], 742), (244, 1, .lreturn, [], 0)]
def bk_142_12 : List ex_R := [(221, 2, .bipush 111, [], 111), (223, 2, .bipush 118, [], 118), (225, 2, .bipush 101, [], 101), (227, 2, .bipush 114, [], 114), (229, 1, .iconst 0, [], 0), (230, 3, .invokestatic 180, [2, 141, 5, 0], 742), (233, 1, .lreturn, [], 0)]
def bk_142_11 : List ex_R := [(207, 2, .bipush 117, [], 117), (209, 2, .bipush 110, [], 110), (211, 2, .bipush 100, [], 100), (213, 2, .bipush 101, [], 101), (215, 2, .bipush 114, [], 114), (217, 3, .invokestatic 180, [2, 141, 5, 0], 742), (220, 1, .lreturn, [], 0)]
def bk_142_10 : List ex_R := [(195, 2, .bipush 114, [], 114), (197, 2, .bipush 117, [], 117), (199, 2, .bipush 110, [], 110), (201, 1, .iconst 0, [], 0), (202, 1, .iconst 0, [], 0), (203, 3, .invokestatic 180, [2, 141, 5, 0], 742), (206, 1, .lreturn, [], 0)]
def bk_142_9 : List ex_R := [(183, 2, .bipush 102, [], 102), (185, 2, .bipush 114, [], 114), (187, 2, .bipush 111, [], 111), (189, 1, .iconst 0, [], 0), (190, 1, .iconst 0, [], 0), (191, 3, .invokestatic 180, [2, 141, 5, 0], 742), (194, 1, .lreturn, [], 0)]
def bk_142_8 : List ex_R := [(170, 2, .bipush 116, [], 116), (172, 2, .bipush 117, [], 117), (174, 2, .bipush 114, [], 114), (176, 2, .bipush 110, [], 110), (178, 1, .iconst 0, [], 0), (179, 3, .invokestatic 180, [2, 141, 5, 0], 742), (182, 1, .lreturn, [], 0)]
def bk_142_7 : List ex_R := [(157, 2, .bipush 108, [], 108), (159, 2, .bipush 105, [], 105), (161, 2, .bipush 101, [], 101), (163, 2, .bipush 115, [], 115), (165, 1, .iconst 0, [], 0), (166, 3, .invokestatic 180, [2, 141, 5, 0], 742), (169, 1, .lreturn, [], 0)]
def bk_142_6 : List ex_R := [(144, 2, .bipush 115, [], 115), (146, 2, .bipush 105, [], 105), (148, 2, .bipush 122, [], 122), (150, 2, .bipush 101, [], 101), (152, 1, .iconst 0, [], 0), (153, 3, .invokestatic 180, [2, 141, 5, 0], 742), (156, 1, .lreturn, [], 0)]
def bk_142_5 : List ex_R := [(130, 2, .bipush 110, [], 110), (132, 2, .bipush 97, [], 97), (134, 2, .bipush 109, [], 109), (136, 2, .bipush 101, [], 101), (138, 2, .bipush 100, [], 100), (140, 3, .invokestatic 180, [2, 141, 5, 0], 742), (143, 1, .lreturn, [], 0)]
def bk_142_4 : List ex_R := [(116, 2, .bipush 99, [], 99), (118, 2, .bipush 97, [], 97), (120, 2, .bipush 114, [], 114), (122, 2, .bipush 100, [], 100), (124, 2, .bipush 115, [], 115), (126, 3, .invokestatic 180, [2, 141, 5, 0], 742), (129, 1, .lreturn, [], 0)]
def bk_142_3 : List ex_R := [(102, 2, .bipush 104, [], 104), (104, 2, .bipush 101, [], 101), (106, 2, .bipush 97, [], 97), (108, 2, .bipush 112, [], 112), (110, 2, .bipush 115, [], 115), (112, 3, .invokestatic 180, [2, 141, 5, 0], 742), (115, 1, .lreturn, [], 0)]
def bk_142_2 : List ex_R := [(89, 2, .bipush 119, [], 119), (91, 2, .bipush 105, [], 105), (93, 2, .bipush 115, [], 115), (95, 2, .bipush 104, [], 104), (97, 1, .iconst 0, [], 0), (98, 3, .invokestatic 180, [2, 141, 5, 0], 742), (101, 1, .lreturn, [], 0)]
def bk_142_1 : List ex_R := [(76, 2, .bipush 100, [], 100), (78, 2, .bipush 101, [], 101), (80, 2, .bipush 97, [], 97), (82, 2, .bipush 108, [], 108), (84, 1, .iconst 0, [], 0), (85, 3, .invokestatic 180, [2, 141, 5, 0], 742), (88, 1, .lreturn, [], 0)]
def bk_142_0 : List ex_R := [(0, 1, .iload_n 0, [], 0), (1, 75, .tableswitch 267 0 14 #[75, 88, 101, 115, 129, 143, 156, 169, 182, 194, 206, 220, 233, 244, 256], [16, 1, 2, 3, 4, 5, 6, 7, 8, 9, 10, 11, 12, 13, 14, 15], 0)]
def me_142 : ex_M := (yX10_letters, cX10_letters, 1, some .long, RX10, [bk_142_0, bk_142_1, bk_142_2, bk_142_3, bk_142_4, bk_142_5, bk_142_6, bk_142_7, bk_142_8, bk_142_9, bk_142_10, bk_142_11, bk_142_12, bk_142_13, bk_142_14, bk_142_15, bk_142_16], [])
def bk_143_5 : List ex_R := [(46, 1, .iconst (-1), [], (-1)), (47, 1, .ireturn, [], 0)]
def bk_143_4 : List ex_R := [(40, 3, .iinc 1 1, [], 1), (43, 3, .goto (-23), [3], 0)]
def bk_143_3 : List ex_R := [(20, 1, .iload_n 1, [], 0), (21, 2, .bipush 16, [], 16), (23, 3, .if_icmp .ge 23, [5], 0), (26, 1, .iload_n 1, [], 0), (27, 3, .invokestatic 184, [2, 142, 1, 0], 740), (30, 1, .aload_n 0, [], 0), (31, 3, .getfield 155, [9, 22, 1, 669, 0], 0), (34, 1, .lcmp, [], 0), (35, 3, .ifCond .ne 5, [4], 0), (38, 1, .iload_n 1, [], 0), (39, 1, .ireturn, [], 0)]
def bk_143_2 : List ex_R := (18, 1, .iconst 0, [], 0) :: (19, 1, .istore_n 1, [], 0) :: bk_143_3
def bk_143_1 : List ex_R := [(16, 1, .iconst (-1), [], (-1)), (17, 1, .ireturn, [], 0)]
def bk_143_0 : List ex_R := (0, 1, .aload_n 0, [], 0) :: (1, 3, .getfield 165, [9, 17, 0, 664, 0], 0) :: (4, 1, .iconst 1, [], 1) :: (5, 3, .if_icmp .ne 11, [1], 0) :: (8, 1, .aload_n 0, [], 0) :: (9, 3, .getfield 175, [9, 19, 0, 666, 0], 0) :: (12, 1, .iconst 5, [], 5) :: (13, 3, .if_icmp .le 5, [2], 0) :: bk_143_1
def me_143 : ex_M := (yX10_knownWord, cX10_knownWord, 2, some .int, RX10, [bk_143_0, bk_143_1, bk_143_2, bk_143_3, bk_143_4, bk_143_5], [])
def bk_144_1 : List ex_R := [(8, 1, .aload_n 0, [], 0), (9, 1, .iload_n 1, [], 0), (10, 3, .putfield 188, [9, 12, 0, 659, 0], 0), (13, 1, .aload_n 0, [], 0), (14, 1, .aload_n 0, [], 0), (15, 3, .getfield 152, [9, 18, 0, 665, 0], 0), (18, 3, .putfield 32, [9, 13, 0, 660, 0], 0), (21, 1, .return_, [], 0)]
def bk_144_0 : List ex_R := [(0, 1, .aload_n 0, [], 0), (1, 3, .getfield 188, [9, 12, 0, 659, 0], 0), (4, 3, .ifCond .eq 4, [1], 0), (7, 1, .return_, [], 0)]
def me_144 : ex_M := (yX10_wrong, cX10_wrong, 2, none, RX10, [bk_144_0, bk_144_1], [])
def bk_145_2 : List ex_R := [(12, 1, .ireturn, [], 0)]
def bk_145_1 : List ex_R := (11, 1, .iconst 0, [], 0) :: bk_145_2
def bk_145_0 : List ex_R := [(0, 1, .aload_n 0, [], 0), (1, 3, .getfield 188, [9, 12, 0, 659, 0], 0), (4, 3, .ifCond .ne 7, [1], 0), (7, 1, .iconst 1, [], 1), (8, 3, .goto 4, [2], 0)]
def me_145 : ex_M := (yX10_isGood, cX10_isGood, 1, some .boolean, RX10, [bk_145_0, bk_145_1, bk_145_2], [])
def bk_146_2 : List ex_R := [(21, 1, .ireturn, [], 0)]
def bk_146_1 : List ex_R := (20, 1, .iconst 0, [], 0) :: bk_146_2
def bk_146_0 : List ex_R := [(0, 1, .aload_n 0, [], 0), (1, 3, .getfield 165, [9, 17, 0, 664, 0], 0), (4, 1, .iconst 3, [], 3), (5, 3, .if_icmp .ne 15, [1], 0), (8, 1, .aload_n 0, [], 0), (9, 3, .getfield 162, [9, 21, 0, 668, 0], 0), (12, 1, .iload_n 1, [], 0), (13, 3, .if_icmp .ne 7, [1], 0), (16, 1, .iconst 1, [], 1), (17, 3, .goto 4, [2], 0)]
def me_146 : ex_M := (yX10_isSign, cX10_isSign, 2, some .boolean, RX10, [bk_146_0, bk_146_1, bk_146_2], [])
def bk_147_3 : List ex_R := [(24, 1, .return_, [], 0)]
def bk_147_2 : List ex_R := (19, 1, .aload_n 0, [], 0) :: (20, 1, .iconst 1, [], 1) :: (21, 3, .invokevirtual 198, [0, 144, 2, 9], 747) :: bk_147_3
def bk_147_1 : List ex_R := [(8, 1, .iload_n 1, [], 0), (9, 3, .ifCond .eq 10, [2], 0), (12, 1, .aload_n 0, [], 0), (13, 3, .invokevirtual 195, [0, 140, 1, 9], 726), (16, 3, .goto 8, [3], 0)]
def bk_147_0 : List ex_R := [(0, 1, .aload_n 0, [], 0), (1, 3, .invokevirtual 191, [0, 145, 1, 9], 734), (4, 3, .ifCond .ne 4, [1], 0), (7, 1, .return_, [], 0)]
def me_147 : ex_M := (yX10_need, cX10_need, 2, none, RX10, [bk_147_0, bk_147_1, bk_147_2, bk_147_3], [])
def bk_148_5 : List ex_R := [(70, 1, .iload_n 3, [], 0), (71, 1, .ireturn, [], 0)]
def bk_148_4 : List ex_R := (54, 1, .aload_n 0, [], 0) :: (55, 3, .getfield 159, [9, 20, 0, 667, 0], 0) :: (58, 1, .istore_n 3, [], 0) :: (59, 1, .aload_n 0, [], 0) :: (60, 3, .invokevirtual 191, [0, 145, 1, 9], 734) :: (63, 3, .ifCond .eq 7, [5], 0) :: (66, 1, .aload_n 0, [], 0) :: (67, 3, .invokevirtual 195, [0, 140, 1, 9], 726) :: bk_148_5
def bk_148_3 : List ex_R := (49, 1, .aload_n 0, [], 0) :: (50, 1, .iconst 2, [], 2) :: (51, 3, .invokevirtual 198, [0, 144, 2, 9], 747) :: bk_148_4
def bk_148_2 : List ex_R := (25, 1, .aload_n 0, [], 0) :: (26, 3, .getfield 175, [9, 19, 0, 666, 0], 0) :: (29, 1, .iconst 4, [], 4) :: (30, 3, .if_icmp .gt 19, [3], 0) :: (33, 1, .aload_n 0, [], 0) :: (34, 3, .getfield 159, [9, 20, 0, 667, 0], 0) :: (37, 1, .iload_n 1, [], 0) :: (38, 3, .if_icmp .lt 11, [3], 0) :: (41, 1, .aload_n 0, [], 0) :: (42, 3, .getfield 159, [9, 20, 0, 667, 0], 0) :: (45, 1, .iload_n 2, [], 0) :: (46, 3, .if_icmp .le 8, [4], 0) :: bk_148_3
def bk_148_1 : List ex_R := [(9, 1, .aload_n 0, [], 0), (10, 3, .getfield 165, [9, 17, 0, 664, 0], 0), (13, 1, .iconst 2, [], 2), (14, 3, .if_icmp .eq 11, [2], 0), (17, 1, .aload_n 0, [], 0), (18, 1, .iconst 1, [], 1), (19, 3, .invokevirtual 198, [0, 144, 2, 9], 747), (22, 3, .goto 32, [4], 0)]
def bk_148_0 : List ex_R := [(0, 1, .aload_n 0, [], 0), (1, 3, .invokevirtual 191, [0, 145, 1, 9], 734), (4, 3, .ifCond .ne 5, [1], 0), (7, 1, .iconst 0, [], 0), (8, 1, .ireturn, [], 0)]
def me_148 : ex_M := (yX10_number, cX10_number, 4, some .int, RX10, [bk_148_0, bk_148_1, bk_148_2, bk_148_3, bk_148_4, bk_148_5], [])
def bk_149_0 : List ex_R := [(0, 1, .aload_n 0, [], 0), (1, 3, .getfield 47, [9, 35, 2, 682, 0], 0), (4, 1, .aload_n 0, [], 0), (5, 3, .getfield 201, [9, 29, 0, 676, 0], 0), (8, 1, .iload_n 1, [], 0), (9, 1, .iastore, [], 0), (10, 1, .aload_n 0, [], 0), (11, 1, .dup, [], 0), (12, 3, .getfield 201, [9, 29, 0, 676, 0], 0), (15, 1, .iconst 1, [], 1), (16, 1, .iadd, [], 0), (17, 3, .putfield 201, [9, 29, 0, 676, 0], 0), (20, 1, .return_, [], 0)]
def me_149 : ex_M := (yX10_puts, cX10_puts, 2, none, RX10, [bk_149_0], [])
def bk_150_2 : List ex_R := [(11, 1, .ireturn, [], 0)]
def bk_150_1 : List ex_R := (10, 1, .iconst 0, [], 0) :: bk_150_2
def bk_150_0 : List ex_R := [(0, 1, .iload_n 0, [], 0), (1, 2, .bipush 14, [], 14), (3, 3, .if_icmp .lt 7, [1], 0), (6, 1, .iconst 1, [], 1), (7, 3, .goto 4, [2], 0)]
def me_150 : ex_M := (yX10_isOpen, cX10_isOpen, 1, some .boolean, RX10, [bk_150_0, bk_150_1, bk_150_2], [])
def bk_151_8 : List ex_R := [(61, 1, .ireturn, [], 0)]
def bk_151_7 : List ex_R := (59, 2, .bipush 6, [], 6) :: bk_151_8
def bk_151_6 : List ex_R := [(55, 1, .iconst 5, [], 5), (56, 3, .goto 5, [8], 0)]
def bk_151_5 : List ex_R := (43, 1, .iload_n 0, [], 0) :: (44, 2, .bipush 8, [], 8) :: (46, 3, .if_icmp .eq 9, [6], 0) :: (49, 1, .iload_n 0, [], 0) :: (50, 2, .bipush 9, [], 9) :: (52, 3, .if_icmp .ne 7, [7], 0) :: bk_151_6
def bk_151_4 : List ex_R := [(39, 1, .iconst 4, [], 4), (40, 3, .goto 21, [8], 0)]
def bk_151_3 : List ex_R := (27, 1, .iload_n 0, [], 0) :: (28, 2, .bipush 6, [], 6) :: (30, 3, .if_icmp .eq 9, [4], 0) :: (33, 1, .iload_n 0, [], 0) :: (34, 2, .bipush 7, [], 7) :: (36, 3, .if_icmp .ne 7, [5], 0) :: bk_151_4
def bk_151_2 : List ex_R := [(18, 1, .iload_n 0, [], 0), (19, 1, .iconst 3, [], 3), (20, 3, .if_icmp .ne 7, [3], 0), (23, 1, .iconst 3, [], 3), (24, 3, .goto 37, [8], 0)]
def bk_151_1 : List ex_R := [(9, 1, .iload_n 0, [], 0), (10, 1, .iconst 4, [], 4), (11, 3, .if_icmp .ne 7, [2], 0), (14, 1, .iconst 2, [], 2), (15, 3, .goto 46, [8], 0)]
def bk_151_0 : List ex_R := [(0, 1, .iload_n 0, [], 0), (1, 1, .iconst 5, [], 5), (2, 3, .if_icmp .ne 7, [1], 0), (5, 1, .iconst 1, [], 1), (6, 3, .goto 55, [8], 0)]
def me_151 : ex_M := (yX10_strength, cX10_strength, 1, some .int, RX10, [bk_151_0, bk_151_1, bk_151_2, bk_151_3, bk_151_4, bk_151_5, bk_151_6, bk_151_7, bk_151_8], [])
def bk_152_1 : List ex_R := [(68, 1, .return_, [], 0)]
def bk_152_0 : List ex_R := [(0, 1, .aload_n 0, [], 0), (1, 3, .getfield 204, [9, 30, 0, 677, 0], 0), (4, 3, .ifCond .le 64, [1], 0), (7, 1, .aload_n 0, [], 0), (8, 3, .getfield 50, [9, 36, 2, 683, 0], 0), (11, 1, .aload_n 0, [], 0), (12, 3, .getfield 204, [9, 30, 0, 677, 0], 0), (15, 1, .iconst 1, [], 1), (16, 1, .isub, [], 0), (17, 1, .iaload, [], 0), (18, 3, .invokestatic 207, [2, 150, 1, 0], 769), (21, 3, .ifCond .ne 47, [1], 0), (24, 1, .aload_n 0, [], 0), (25, 3, .getfield 50, [9, 36, 2, 683, 0], 0), (28, 1, .aload_n 0, [], 0), (29, 3, .getfield 204, [9, 30, 0, 677, 0], 0), (32, 1, .iconst 1, [], 1), (33, 1, .isub, [], 0), (34, 1, .iaload, [], 0), (35, 3, .invokestatic 210, [2, 151, 1, 0], 771), (38, 1, .iload_n 1, [], 0), (39, 3, .if_icmp .lt 29, [1], 0), (42, 1, .aload_n 0, [], 0), (43, 1, .dup, [], 0), (44, 3, .getfield 204, [9, 30, 0, 677, 0], 0), (47, 1, .iconst 1, [], 1), (48, 1, .isub, [], 0), (49, 3, .putfield 204, [9, 30, 0, 677, 0], 0), (52, 1, .aload_n 0, [], 0), (53, 1, .aload_n 0, [], 0), (54, 3, .getfield 50, [9, 36, 2, 683, 0], 0), (57, 1, .aload_n 0, [], 0), (58, 3, .getfield 204, [9, 30, 0, 677, 0], 0), (61, 1, .iaload, [], 0), (62, 3, .invokevirtual 213, [0, 149, 2, 9], 765), (65, 3, .goto (-65), [0], 0)]
def me_152 : ex_M := (yX10_drops, cX10_drops, 2, none, RX10, [bk_152_0, bk_152_1], [])
def bk_153_0 : List ex_R := [(0, 1, .aload_n 0, [], 0), (1, 3, .getfield 50, [9, 36, 2, 683, 0], 0), (4, 1, .aload_n 0, [], 0), (5, 3, .getfield 204, [9, 30, 0, 677, 0], 0), (8, 1, .iload_n 1, [], 0), (9, 1, .iastore, [], 0), (10, 1, .aload_n 0, [], 0), (11, 1, .dup, [], 0), (12, 3, .getfield 204, [9, 30, 0, 677, 0], 0), (15, 1, .iconst 1, [], 1), (16, 1, .iadd, [], 0), (17, 3, .putfield 204, [9, 30, 0, 677, 0], 0), (20, 1, .return_, [], 0)]
def me_153 : ex_M := (yX10_waitsFor, cX10_waitsFor, 2, none, RX10, [bk_153_0], [])
def bk_154_8 : List ex_R := [(101, 1, .return_, [], 0)]
def bk_154_7 : List ex_R := (90, 1, .aload_n 0, [], 0) :: (91, 3, .invokevirtual 191, [0, 145, 1, 9], 734) :: (94, 3, .ifCond .eq 7, [8], 0) :: (97, 1, .aload_n 0, [], 0) :: (98, 3, .invokevirtual 195, [0, 140, 1, 9], 726) :: bk_154_8
def bk_154_6 : List ex_R := (85, 1, .aload_n 0, [], 0) :: (86, 1, .iconst 1, [], 1) :: (87, 3, .invokevirtual 198, [0, 144, 2, 9], 747) :: bk_154_7
def bk_154_5 : List ex_R := [(72, 1, .aload_n 0, [], 0), (73, 1, .iconst 2, [], 2), (74, 3, .invokevirtual 213, [0, 149, 2, 9], 765), (77, 1, .aload_n 0, [], 0), (78, 1, .iload_n 1, [], 0), (79, 3, .invokevirtual 213, [0, 149, 2, 9], 765), (82, 3, .goto 8, [7], 0)]
def bk_154_4 : List ex_R := (67, 1, .aload_n 0, [], 0) :: (68, 1, .iconst 3, [], 3) :: (69, 3, .invokevirtual 198, [0, 144, 2, 9], 747) :: bk_154_5
def bk_154_3 : List ex_R := (45, 1, .aload_n 0, [], 0) :: (46, 3, .getfield 165, [9, 17, 0, 664, 0], 0) :: (49, 1, .iconst 1, [], 1) :: (50, 3, .if_icmp .ne 35, [6], 0) :: (53, 1, .aload_n 0, [], 0) :: (54, 3, .invokevirtual 216, [0, 143, 1, 9], 738) :: (57, 1, .istore_n 1, [], 0) :: (58, 1, .iload_n 1, [], 0) :: (59, 3, .ifCond .lt 8, [4], 0) :: (62, 1, .iload_n 1, [], 0) :: (63, 1, .iconst 5, [], 5) :: (64, 3, .if_icmp .le 8, [5], 0) :: bk_154_4
def bk_154_2 : List ex_R := [(29, 1, .aload_n 0, [], 0), (30, 1, .iconst 1, [], 1), (31, 3, .invokevirtual 213, [0, 149, 2, 9], 765), (34, 1, .aload_n 0, [], 0), (35, 1, .aload_n 0, [], 0), (36, 3, .getfield 159, [9, 20, 0, 667, 0], 0), (39, 3, .invokevirtual 213, [0, 149, 2, 9], 765), (42, 3, .goto 48, [7], 0)]
def bk_154_1 : List ex_R := (8, 1, .aload_n 0, [], 0) :: (9, 3, .getfield 165, [9, 17, 0, 664, 0], 0) :: (12, 1, .iconst 2, [], 2) :: (13, 3, .if_icmp .ne 32, [3], 0) :: (16, 1, .aload_n 0, [], 0) :: (17, 3, .getfield 175, [9, 19, 0, 666, 0], 0) :: (20, 1, .iconst 4, [], 4) :: (21, 3, .if_icmp .le 8, [2], 0) :: (24, 1, .aload_n 0, [], 0) :: (25, 1, .iconst 2, [], 2) :: (26, 3, .invokevirtual 198, [0, 144, 2, 9], 747) :: bk_154_2
def bk_154_0 : List ex_R := [(0, 1, .aload_n 0, [], 0), (1, 3, .invokevirtual 191, [0, 145, 1, 9], 734), (4, 3, .ifCond .ne 4, [1], 0), (7, 1, .return_, [], 0)]
def me_154 : ex_M := (yX10_part, cX10_part, 2, none, RX10, [bk_154_0, bk_154_1, bk_154_2, bk_154_3, bk_154_4, bk_154_5, bk_154_6, bk_154_7, bk_154_8], [])
def bk_155_4 : List ex_R := [(61, 3, .invokevirtual 198, [0, 144, 2, 9], 747), (64, 1, .return_, [], 0)]
def bk_155_3 : List ex_R := (60, 1, .iconst 1, [], 1) :: bk_155_4
def bk_155_2 : List ex_R := [(56, 1, .iconst 2, [], 2), (57, 3, .goto 4, [4], 0)]
def bk_155_1 : List ex_R := (30, 1, .aload_n 0, [], 0) :: (31, 1, .aload_n 0, [], 0) :: (32, 3, .getfield 165, [9, 17, 0, 664, 0], 0) :: (35, 1, .iconst 2, [], 2) :: (36, 3, .if_icmp .eq 20, [2], 0) :: (39, 1, .aload_n 0, [], 0) :: (40, 3, .getfield 165, [9, 17, 0, 664, 0], 0) :: (43, 1, .iconst 1, [], 1) :: (44, 3, .if_icmp .eq 12, [2], 0) :: (47, 1, .aload_n 0, [], 0) :: (48, 2, .bipush 40, [], 40) :: (50, 3, .invokevirtual 223, [0, 146, 2, 9], 757) :: (53, 3, .ifCond .eq 7, [3], 0) :: bk_155_2
def bk_155_0 : List ex_R := [(0, 1, .aload_n 0, [], 0), (1, 3, .getfield 220, [9, 31, 0, 678, 0], 0), (4, 2, .bipush 6, [], 6), (6, 3, .if_icmp .ge 24, [1], 0), (9, 1, .aload_n 0, [], 0), (10, 1, .dup, [], 0), (11, 3, .getfield 220, [9, 31, 0, 678, 0], 0), (14, 1, .iconst 1, [], 1), (15, 1, .iadd, [], 0), (16, 3, .putfield 220, [9, 31, 0, 678, 0], 0), (19, 1, .aload_n 0, [], 0), (20, 3, .getfield 53, [9, 37, 2, 684, 0], 0), (23, 1, .aload_n 0, [], 0), (24, 3, .getfield 220, [9, 31, 0, 678, 0], 0), (27, 1, .iconst 0, [], 0), (28, 1, .bastore, [], 0), (29, 1, .return_, [], 0)]
def me_155 : ex_M := (yX10_deeper, cX10_deeper, 1, none, RX10, [bk_155_0, bk_155_1, bk_155_2, bk_155_3, bk_155_4], [])
def bk_156_9 : List ex_R := [(120, 1, .aload_n 0, [], 0), (121, 3, .invokevirtual 232, [0, 154, 1, 9], 763), (124, 1, .return_, [], 0)]
def bk_156_8 : List ex_R := [(117, 3, .goto (-113), [1], 0)]
def bk_156_7 : List ex_R := (96, 1, .istore_n 3, [], 0) :: (97, 1, .iload_n 3, [], 0) :: (98, 3, .ifCond .eq 19, [8], 0) :: (101, 1, .aload_n 0, [], 0) :: (102, 2, .bipush 14, [], 14) :: (104, 3, .invokevirtual 226, [0, 153, 2, 9], 761) :: (107, 1, .aload_n 0, [], 0) :: (108, 3, .invokevirtual 195, [0, 140, 1, 9], 726) :: (111, 1, .aload_n 0, [], 0) :: (112, 3, .invokevirtual 229, [0, 155, 1, 9], 755) :: (115, 1, .iconst 1, [], 1) :: (116, 1, .istore_n 2, [], 0) :: bk_156_8
def bk_156_6 : List ex_R := (95, 1, .iconst 0, [], 0) :: bk_156_7
def bk_156_5 : List ex_R := [(75, 1, .aload_n 0, [], 0), (76, 3, .invokevirtual 191, [0, 145, 1, 9], 734), (79, 3, .ifCond .eq 16, [6], 0), (82, 1, .aload_n 0, [], 0), (83, 2, .bipush 40, [], 40), (85, 3, .invokevirtual 223, [0, 146, 2, 9], 757), (88, 3, .ifCond .eq 7, [6], 0), (91, 1, .iconst 1, [], 1), (92, 3, .goto 4, [7], 0)]
def bk_156_4 : List ex_R := [(63, 1, .aload_n 0, [], 0), (64, 1, .iconst 3, [], 3), (65, 3, .invokevirtual 226, [0, 153, 2, 9], 761), (68, 1, .aload_n 0, [], 0), (69, 3, .invokevirtual 195, [0, 140, 1, 9], 726), (72, 3, .goto (-54), [2], 0)]
def bk_156_3 : List ex_R := [(50, 3, .iinc 4 1, [], 1), (53, 1, .aload_n 0, [], 0), (54, 3, .invokevirtual 191, [0, 145, 1, 9], 734), (57, 3, .ifCond .ne 6, [4], 0), (60, 3, .goto (-42), [2], 0)]
def bk_156_2 : List ex_R := (18, 1, .aload_n 0, [], 0) :: (19, 3, .invokevirtual 191, [0, 145, 1, 9], 734) :: (22, 3, .ifCond .eq 53, [5], 0) :: (25, 1, .iload_n 2, [], 0) :: (26, 3, .ifCond .eq 49, [5], 0) :: (29, 1, .aload_n 0, [], 0) :: (30, 3, .invokevirtual 216, [0, 143, 1, 9], 738) :: (33, 2, .bipush 15, [], 15) :: (35, 3, .if_icmp .ne 40, [5], 0) :: (38, 2, .iload 4, [], 0) :: (40, 2, .bipush 6, [], 6) :: (42, 3, .if_icmp .ne 8, [3], 0) :: (45, 1, .aload_n 0, [], 0) :: (46, 1, .iconst 2, [], 2) :: (47, 3, .invokevirtual 198, [0, 144, 2, 9], 747) :: bk_156_3
def bk_156_1 : List ex_R := (4, 1, .iload_n 3, [], 0) :: (5, 3, .ifCond .eq 115, [9], 0) :: (8, 1, .aload_n 0, [], 0) :: (9, 3, .invokevirtual 191, [0, 145, 1, 9], 734) :: (12, 3, .ifCond .eq 108, [9], 0) :: (15, 1, .iconst 0, [], 0) :: (16, 2, .istore 4, [], 0) :: bk_156_2
def bk_156_0 : List ex_R := (0, 1, .iload_n 1, [], 0) :: (1, 1, .istore_n 2, [], 0) :: (2, 1, .iconst 1, [], 1) :: (3, 1, .istore_n 3, [], 0) :: bk_156_1
def me_156 : ex_M := (yX10_operand, cX10_operand, 5, none, RX10, [bk_156_0, bk_156_1, bk_156_2, bk_156_3, bk_156_4, bk_156_5, bk_156_6, bk_156_7, bk_156_8, bk_156_9], [])
def bk_157_4 : List ex_R := [(38, 1, .ireturn, [], 0)]
def bk_157_3 : List ex_R := (37, 1, .iconst 0, [], 0) :: bk_157_4
def bk_157_2 : List ex_R := [(29, 1, .iload_n 1, [], 0), (30, 3, .ifCond .lt 7, [3], 0), (33, 1, .iconst 1, [], 1), (34, 3, .goto 4, [4], 0)]
def bk_157_1 : List ex_R := [(7, 1, .iload_n 1, [], 0), (8, 3, .ifCond .lt 21, [2], 0), (11, 1, .aload_n 0, [], 0), (12, 3, .getfield 50, [9, 36, 2, 683, 0], 0), (15, 1, .iload_n 1, [], 0), (16, 1, .iaload, [], 0), (17, 3, .invokestatic 207, [2, 150, 1, 0], 769), (20, 3, .ifCond .ne 9, [2], 0), (23, 3, .iinc 1 (-1), [], (-1)), (26, 3, .goto (-19), [1], 0)]
def bk_157_0 : List ex_R := (0, 1, .aload_n 0, [], 0) :: (1, 3, .getfield 204, [9, 30, 0, 677, 0], 0) :: (4, 1, .iconst 1, [], 1) :: (5, 1, .isub, [], 0) :: (6, 1, .istore_n 1, [], 0) :: bk_157_1
def me_157 : ex_M := (yX10_isOpened, cX10_isOpened, 2, some .boolean, RX10, [bk_157_0, bk_157_1, bk_157_2, bk_157_3, bk_157_4], [])
def bk_158_0 : List ex_R := [(0, 1, .aload_n 0, [], 0), (1, 1, .iconst 0, [], 0), (2, 3, .invokevirtual 235, [0, 152, 2, 9], 767), (5, 1, .aload_n 0, [], 0), (6, 1, .dup, [], 0), (7, 3, .getfield 204, [9, 30, 0, 677, 0], 0), (10, 1, .iconst 1, [], 1), (11, 1, .isub, [], 0), (12, 3, .putfield 204, [9, 30, 0, 677, 0], 0), (15, 1, .aload_n 0, [], 0), (16, 1, .dup, [], 0), (17, 3, .getfield 220, [9, 31, 0, 678, 0], 0), (20, 1, .iconst 1, [], 1), (21, 1, .isub, [], 0), (22, 3, .putfield 220, [9, 31, 0, 678, 0], 0), (25, 1, .aload_n 0, [], 0), (26, 3, .invokevirtual 195, [0, 140, 1, 9], 726), (29, 1, .return_, [], 0)]
def me_158 : ex_M := (yX10_closes, cX10_closes, 1, none, RX10, [bk_158_0], [])
def bk_159_24 : List ex_R := [(345, 1, .aload_n 0, [], 0), (346, 1, .iconst 0, [], 0), (347, 3, .invokevirtual 235, [0, 152, 2, 9], 767), (350, 1, .aload_n 0, [], 0), (351, 1, .iconst 0, [], 0), (352, 3, .invokevirtual 213, [0, 149, 2, 9], 765), (355, 1, .return_, [], 0)]
def bk_159_23 : List ex_R := (325, 1, .aload_n 0, [], 0) :: (326, 3, .invokevirtual 191, [0, 145, 1, 9], 734) :: (329, 3, .ifCond .eq 16, [24], 0) :: (332, 1, .aload_n 0, [], 0) :: (333, 3, .getfield 220, [9, 31, 0, 678, 0], 0) :: (336, 1, .iconst 1, [], 1) :: (337, 3, .if_icmp .le 8, [24], 0) :: (340, 1, .aload_n 0, [], 0) :: (341, 1, .iconst 1, [], 1) :: (342, 3, .invokevirtual 198, [0, 144, 2, 9], 747) :: bk_159_24
def bk_159_22 : List ex_R := [(322, 3, .goto (-293), [2], 0)]
def bk_159_21 : List ex_R := (320, 1, .iconst 0, [], 0) :: (321, 1, .istore_n 1, [], 0) :: bk_159_22
def bk_159_20 : List ex_R := [(297, 1, .aload_n 0, [], 0), (298, 2, .bipush 41, [], 41), (300, 3, .invokevirtual 223, [0, 146, 2, 9], 757), (303, 3, .ifCond .eq 17, [21], 0), (306, 1, .aload_n 0, [], 0), (307, 3, .invokevirtual 242, [0, 157, 1, 9], 773), (310, 3, .ifCond .eq 10, [21], 0), (313, 1, .aload_n 0, [], 0), (314, 3, .invokevirtual 245, [0, 158, 1, 9], 775), (317, 3, .goto 5, [22], 0)]
def bk_159_19 : List ex_R := [(282, 3, .invokevirtual 226, [0, 153, 2, 9], 761), (285, 1, .aload_n 0, [], 0), (286, 3, .invokevirtual 195, [0, 140, 1, 9], 726), (289, 1, .aload_n 0, [], 0), (290, 1, .iconst 0, [], 0), (291, 3, .invokevirtual 238, [0, 156, 2, 9], 759), (294, 3, .goto 28, [22], 0)]
def bk_159_18 : List ex_R := (280, 2, .bipush 11, [], 11) :: bk_159_19
def bk_159_17 : List ex_R := [(259, 1, .aload_n 0, [], 0), (260, 2, .bipush 6, [], 6), (262, 3, .invokevirtual 235, [0, 152, 2, 9], 767), (265, 1, .aload_n 0, [], 0), (266, 1, .aload_n 0, [], 0), (267, 2, .bipush 42, [], 42), (269, 3, .invokevirtual 223, [0, 146, 2, 9], 757), (272, 3, .ifCond .eq 8, [18], 0), (275, 2, .bipush 10, [], 10), (277, 3, .goto 5, [19], 0)]
def bk_159_16 : List ex_R := (241, 1, .aload_n 0, [], 0) :: (242, 2, .bipush 42, [], 42) :: (244, 3, .invokevirtual 223, [0, 146, 2, 9], 757) :: (247, 3, .ifCond .ne 12, [17], 0) :: (250, 1, .aload_n 0, [], 0) :: (251, 2, .bipush 47, [], 47) :: (253, 3, .invokevirtual 223, [0, 146, 2, 9], 757) :: (256, 3, .ifCond .eq 41, [20], 0) :: bk_159_17
def bk_159_15 : List ex_R := [(226, 3, .invokevirtual 226, [0, 153, 2, 9], 761), (229, 1, .aload_n 0, [], 0), (230, 3, .invokevirtual 195, [0, 140, 1, 9], 726), (233, 1, .aload_n 0, [], 0), (234, 1, .iconst 0, [], 0), (235, 3, .invokevirtual 238, [0, 156, 2, 9], 759), (238, 3, .goto 84, [22], 0)]
def bk_159_14 : List ex_R := (224, 2, .bipush 9, [], 9) :: bk_159_15
def bk_159_13 : List ex_R := [(204, 1, .aload_n 0, [], 0), (205, 1, .iconst 5, [], 5), (206, 3, .invokevirtual 235, [0, 152, 2, 9], 767), (209, 1, .aload_n 0, [], 0), (210, 1, .aload_n 0, [], 0), (211, 2, .bipush 43, [], 43), (213, 3, .invokevirtual 223, [0, 146, 2, 9], 757), (216, 3, .ifCond .eq 8, [14], 0), (219, 2, .bipush 8, [], 8), (221, 3, .goto 5, [15], 0)]
def bk_159_12 : List ex_R := (186, 1, .aload_n 0, [], 0) :: (187, 2, .bipush 43, [], 43) :: (189, 3, .invokevirtual 223, [0, 146, 2, 9], 757) :: (192, 3, .ifCond .ne 12, [13], 0) :: (195, 1, .aload_n 0, [], 0) :: (196, 2, .bipush 45, [], 45) :: (198, 3, .invokevirtual 223, [0, 146, 2, 9], 757) :: (201, 3, .ifCond .eq 40, [16], 0) :: bk_159_13
def bk_159_11 : List ex_R := [(161, 3, .invokevirtual 226, [0, 153, 2, 9], 761), (164, 1, .aload_n 0, [], 0), (165, 3, .getfield 53, [9, 37, 2, 684, 0], 0), (168, 1, .aload_n 0, [], 0), (169, 3, .getfield 220, [9, 31, 0, 678, 0], 0), (172, 1, .iconst 1, [], 1), (173, 1, .bastore, [], 0), (174, 1, .aload_n 0, [], 0), (175, 3, .invokevirtual 195, [0, 140, 1, 9], 726), (178, 1, .aload_n 0, [], 0), (179, 1, .iconst 0, [], 0), (180, 3, .invokevirtual 238, [0, 156, 2, 9], 759), (183, 3, .goto 139, [22], 0)]
def bk_159_10 : List ex_R := (159, 2, .bipush 7, [], 7) :: bk_159_11
def bk_159_9 : List ex_R := [(127, 1, .aload_n 0, [], 0), (128, 3, .getfield 53, [9, 37, 2, 684, 0], 0), (131, 1, .aload_n 0, [], 0), (132, 3, .getfield 220, [9, 31, 0, 678, 0], 0), (135, 1, .baload, [], 0), (136, 3, .ifCond .ne 50, [12], 0), (139, 1, .aload_n 0, [], 0), (140, 1, .iconst 4, [], 4), (141, 3, .invokevirtual 235, [0, 152, 2, 9], 767), (144, 1, .aload_n 0, [], 0), (145, 1, .aload_n 0, [], 0), (146, 2, .bipush 60, [], 60), (148, 3, .invokevirtual 223, [0, 146, 2, 9], 757), (151, 3, .ifCond .eq 8, [10], 0), (154, 2, .bipush 6, [], 6), (156, 3, .goto 5, [11], 0)]
def bk_159_8 : List ex_R := (109, 1, .aload_n 0, [], 0) :: (110, 2, .bipush 60, [], 60) :: (112, 3, .invokevirtual 223, [0, 146, 2, 9], 757) :: (115, 3, .ifCond .ne 12, [9], 0) :: (118, 1, .aload_n 0, [], 0) :: (119, 2, .bipush 61, [], 61) :: (121, 3, .invokevirtual 223, [0, 146, 2, 9], 757) :: (124, 3, .ifCond .eq 62, [12], 0) :: bk_159_9
def bk_159_7 : List ex_R := [(84, 3, .invokevirtual 226, [0, 153, 2, 9], 761), (87, 1, .aload_n 0, [], 0), (88, 3, .getfield 53, [9, 37, 2, 684, 0], 0), (91, 1, .aload_n 0, [], 0), (92, 3, .getfield 220, [9, 31, 0, 678, 0], 0), (95, 1, .iconst 0, [], 0), (96, 1, .bastore, [], 0), (97, 1, .aload_n 0, [], 0), (98, 3, .invokevirtual 195, [0, 140, 1, 9], 726), (101, 1, .aload_n 0, [], 0), (102, 1, .iconst 1, [], 1), (103, 3, .invokevirtual 238, [0, 156, 2, 9], 759), (106, 3, .goto 216, [22], 0)]
def bk_159_6 : List ex_R := (83, 1, .iconst 5, [], 5) :: bk_159_7
def bk_159_5 : List ex_R := [(69, 3, .invokevirtual 235, [0, 152, 2, 9], 767), (72, 1, .aload_n 0, [], 0), (73, 1, .iload_n 2, [], 0), (74, 2, .bipush 13, [], 13), (76, 3, .if_icmp .ne 7, [6], 0), (79, 1, .iconst 4, [], 4), (80, 3, .goto 4, [7], 0)]
def bk_159_4 : List ex_R := (68, 1, .iconst 1, [], 1) :: bk_159_5
def bk_159_3 : List ex_R := [(57, 1, .aload_n 0, [], 0), (58, 1, .iload_n 2, [], 0), (59, 2, .bipush 13, [], 13), (61, 3, .if_icmp .ne 7, [4], 0), (64, 1, .iconst 2, [], 2), (65, 3, .goto 4, [5], 0)]
def bk_159_2 : List ex_R := (29, 1, .iload_n 1, [], 0) :: (30, 3, .ifCond .eq 295, [23], 0) :: (33, 1, .aload_n 0, [], 0) :: (34, 3, .invokevirtual 191, [0, 145, 1, 9], 734) :: (37, 3, .ifCond .eq 288, [23], 0) :: (40, 1, .aload_n 0, [], 0) :: (41, 3, .invokevirtual 216, [0, 143, 1, 9], 738) :: (44, 1, .istore_n 2, [], 0) :: (45, 1, .iload_n 2, [], 0) :: (46, 2, .bipush 13, [], 13) :: (48, 3, .if_icmp .eq 9, [3], 0) :: (51, 1, .iload_n 2, [], 0) :: (52, 2, .bipush 14, [], 14) :: (54, 3, .if_icmp .ne 55, [8], 0) :: bk_159_3
def bk_159_1 : List ex_R := (8, 1, .aload_n 0, [], 0) :: (9, 1, .iconst 0, [], 0) :: (10, 3, .putfield 204, [9, 30, 0, 677, 0], 0) :: (13, 1, .aload_n 0, [], 0) :: (14, 1, .iconst 0, [], 0) :: (15, 3, .putfield 220, [9, 31, 0, 678, 0], 0) :: (18, 1, .aload_n 0, [], 0) :: (19, 3, .invokevirtual 229, [0, 155, 1, 9], 755) :: (22, 1, .aload_n 0, [], 0) :: (23, 1, .iconst 1, [], 1) :: (24, 3, .invokevirtual 238, [0, 156, 2, 9], 759) :: (27, 1, .iconst 1, [], 1) :: (28, 1, .istore_n 1, [], 0) :: bk_159_2
def bk_159_0 : List ex_R := [(0, 1, .aload_n 0, [], 0), (1, 3, .invokevirtual 191, [0, 145, 1, 9], 734), (4, 3, .ifCond .ne 4, [1], 0), (7, 1, .return_, [], 0)]
def me_159 : ex_M := (yX10_expression, cX10_expression, 3, none, RX10, [bk_159_0, bk_159_1, bk_159_2, bk_159_3, bk_159_4, bk_159_5, bk_159_6, bk_159_7, bk_159_8, bk_159_9, bk_159_10, bk_159_11, bk_159_12, bk_159_13, bk_159_14, bk_159_15, bk_159_16, bk_159_17, bk_159_18, bk_159_19, bk_159_20, bk_159_21, bk_159_22, bk_159_23, bk_159_24], [])
def bk_160_2 : List ex_R := [(40, 1, .aload_n 0, [], 0), (41, 3, .invokevirtual 191, [0, 145, 1, 9], 734), (44, 1, .ireturn, [], 0)]
def bk_160_1 : List ex_R := (17, 1, .aload_n 0, [], 0) :: (18, 1, .dup, [], 0) :: (19, 3, .getfield 248, [9, 28, 0, 675, 0], 0) :: (22, 1, .iconst 1, [], 1) :: (23, 1, .iload_n 1, [], 0) :: (24, 1, .ishl, [], 0) :: (25, 1, .ior, [], 0) :: (26, 3, .putfield 248, [9, 28, 0, 675, 0], 0) :: (29, 1, .aload_n 0, [], 0) :: (30, 3, .invokevirtual 191, [0, 145, 1, 9], 734) :: (33, 3, .ifCond .eq 7, [2], 0) :: (36, 1, .aload_n 0, [], 0) :: (37, 3, .invokevirtual 195, [0, 140, 1, 9], 726) :: bk_160_2
def bk_160_0 : List ex_R := (0, 1, .aload_n 0, [], 0) :: (1, 3, .getfield 248, [9, 28, 0, 675, 0], 0) :: (4, 1, .iload_n 1, [], 0) :: (5, 1, .ishr, [], 0) :: (6, 1, .iconst 1, [], 1) :: (7, 1, .iand, [], 0) :: (8, 1, .iconst 1, [], 1) :: (9, 3, .if_icmp .ne 8, [1], 0) :: (12, 1, .aload_n 0, [], 0) :: (13, 1, .iconst 4, [], 4) :: (14, 3, .invokevirtual 198, [0, 144, 2, 9], 747) :: bk_160_1
def me_160 : ex_M := (yX10_begins, cX10_begins, 2, some .boolean, RX10, [bk_160_0, bk_160_1, bk_160_2], [])
def bk_161_17 : List ex_R := [(292, 1, .aload_n 0, [], 0), (293, 1, .aload_n 0, [], 0), (294, 2, .bipush 59, [], 59), (296, 3, .invokevirtual 223, [0, 146, 2, 9], 757), (299, 3, .invokevirtual 273, [0, 147, 2, 9], 751), (302, 1, .return_, [], 0)]
def bk_161_16 : List ex_R := (287, 1, .aload_n 0, [], 0) :: (288, 1, .iconst 1, [], 1) :: (289, 3, .invokevirtual 198, [0, 144, 2, 9], 747) :: bk_161_17
def bk_161_15 : List ex_R := [(228, 3, .invokevirtual 273, [0, 147, 2, 9], 751), (231, 1, .aload_n 0, [], 0), (232, 3, .getfield 38, [9, 32, 2, 679, 0], 0), (235, 1, .aload_n 0, [], 0), (236, 3, .getfield 270, [9, 25, 0, 672, 0], 0), (239, 1, .iload_n 2, [], 0), (240, 2, .bipush 7, [], 7), (242, 1, .isub, [], 0), (243, 1, .iastore, [], 0), (244, 1, .aload_n 0, [], 0), (245, 3, .getfield 41, [9, 33, 2, 680, 0], 0), (248, 1, .aload_n 0, [], 0), (249, 3, .getfield 270, [9, 25, 0, 672, 0], 0), (252, 1, .iload_n 3, [], 0), (253, 2, .bipush 10, [], 10), (255, 1, .isub, [], 0), (256, 1, .iastore, [], 0), (257, 1, .aload_n 0, [], 0), (258, 3, .getfield 44, [9, 34, 2, 681, 0], 0), (261, 1, .aload_n 0, [], 0), (262, 3, .getfield 270, [9, 25, 0, 672, 0], 0), (265, 1, .aload_n 0, [], 0), (266, 3, .getfield 201, [9, 29, 0, 676, 0], 0), (269, 1, .iastore, [], 0), (270, 1, .aload_n 0, [], 0), (271, 1, .dup, [], 0), (272, 3, .getfield 270, [9, 25, 0, 672, 0], 0), (275, 1, .iconst 1, [], 1), (276, 1, .iadd, [], 0), (277, 3, .putfield 270, [9, 25, 0, 672, 0], 0), (280, 1, .aload_n 0, [], 0), (281, 3, .invokevirtual 276, [0, 159, 1, 9], 753), (284, 3, .goto 8, [17], 0)]
def bk_161_14 : List ex_R := (227, 1, .iconst 0, [], 0) :: bk_161_15
def bk_161_13 : List ex_R := [(203, 3, .invokevirtual 273, [0, 147, 2, 9], 751), (206, 1, .aload_n 0, [], 0), (207, 1, .aload_n 0, [], 0), (208, 3, .invokevirtual 191, [0, 145, 1, 9], 734), (211, 3, .ifCond .eq 16, [14], 0), (214, 1, .aload_n 0, [], 0), (215, 3, .invokevirtual 216, [0, 143, 1, 9], 738), (218, 2, .bipush 12, [], 12), (220, 3, .if_icmp .ne 7, [14], 0), (223, 1, .iconst 1, [], 1), (224, 3, .goto 4, [15], 0)]
def bk_161_12 : List ex_R := (202, 1, .iconst 0, [], 0) :: bk_161_13
def bk_161_11 : List ex_R := [(198, 1, .iconst 1, [], 1), (199, 3, .goto 4, [13], 0)]
def bk_161_10 : List ex_R := (184, 1, .istore_n 3, [], 0) :: (185, 1, .aload_n 0, [], 0) :: (186, 1, .iload_n 3, [], 0) :: (187, 2, .bipush 10, [], 10) :: (189, 3, .if_icmp .eq 9, [11], 0) :: (192, 1, .iload_n 3, [], 0) :: (193, 2, .bipush 11, [], 11) :: (195, 3, .if_icmp .ne 7, [12], 0) :: bk_161_11
def bk_161_9 : List ex_R := (183, 1, .iconst (-1), [], (-1)) :: bk_161_10
def bk_161_8 : List ex_R := [(166, 3, .invokevirtual 273, [0, 147, 2, 9], 751), (169, 1, .aload_n 0, [], 0), (170, 3, .invokevirtual 191, [0, 145, 1, 9], 734), (173, 3, .ifCond .eq 10, [9], 0), (176, 1, .aload_n 0, [], 0), (177, 3, .invokevirtual 216, [0, 143, 1, 9], 738), (180, 3, .goto 4, [10], 0)]
def bk_161_7 : List ex_R := (165, 1, .iconst 0, [], 0) :: bk_161_8
def bk_161_6 : List ex_R := [(139, 1, .aload_n 0, [], 0), (140, 3, .invokevirtual 195, [0, 140, 1, 9], 726), (143, 1, .aload_n 0, [], 0), (144, 3, .invokevirtual 216, [0, 143, 1, 9], 738), (147, 1, .istore_n 2, [], 0), (148, 1, .aload_n 0, [], 0), (149, 1, .iload_n 2, [], 0), (150, 2, .bipush 7, [], 7), (152, 3, .if_icmp .lt 13, [7], 0), (155, 1, .iload_n 2, [], 0), (156, 2, .bipush 9, [], 9), (158, 3, .if_icmp .gt 7, [7], 0), (161, 1, .iconst 1, [], 1), (162, 3, .goto 4, [8], 0)]
def bk_161_5 : List ex_R := [(131, 1, .aload_n 0, [], 0), (132, 3, .invokevirtual 191, [0, 145, 1, 9], 734), (135, 3, .ifCond .ne 4, [6], 0), (138, 1, .return_, [], 0)]
def bk_161_4 : List ex_R := (113, 1, .iload_n 1, [], 0) :: (114, 3, .ifCond .ne 173, [16], 0) :: (117, 1, .aload_n 0, [], 0) :: (118, 3, .getfield 270, [9, 25, 0, 672, 0], 0) :: (121, 2, .bipush 8, [], 8) :: (123, 3, .if_icmp .ne 8, [5], 0) :: (126, 1, .aload_n 0, [], 0) :: (127, 1, .iconst 2, [], 2) :: (128, 3, .invokevirtual 198, [0, 144, 2, 9], 747) :: bk_161_5
def bk_161_3 : List ex_R := [(86, 1, .iload_n 1, [], 0), (87, 1, .iconst 1, [], 1), (88, 3, .if_icmp .ne 25, [4], 0), (91, 1, .aload_n 0, [], 0), (92, 1, .iload_n 1, [], 0), (93, 3, .invokevirtual 251, [0, 160, 2, 9], 745), (96, 3, .ifCond .eq 196, [17], 0), (99, 1, .aload_n 0, [], 0), (100, 1, .aload_n 0, [], 0), (101, 1, .iconst 0, [], 0), (102, 2, .bipush 59, [], 59), (104, 3, .invokevirtual 254, [0, 148, 3, 9], 749), (107, 3, .putfield 267, [9, 27, 0, 674, 0], 0), (110, 3, .goto 182, [17], 0)]
def bk_161_2 : List ex_R := [(59, 1, .iload_n 1, [], 0), (60, 2, .bipush 6, [], 6), (62, 3, .if_icmp .ne 24, [3], 0), (65, 1, .aload_n 0, [], 0), (66, 1, .iload_n 1, [], 0), (67, 3, .invokevirtual 251, [0, 160, 2, 9], 745), (70, 3, .ifCond .eq 222, [17], 0), (73, 1, .aload_n 0, [], 0), (74, 1, .aload_n 0, [], 0), (75, 1, .iconst 0, [], 0), (76, 1, .iconst 2, [], 2), (77, 3, .invokevirtual 254, [0, 148, 3, 9], 749), (80, 3, .putfield 264, [9, 26, 0, 673, 0], 0), (83, 3, .goto 209, [17], 0)]
def bk_161_1 : List ex_R := [(32, 1, .iload_n 1, [], 0), (33, 1, .iconst 2, [], 2), (34, 3, .if_icmp .ne 25, [2], 0), (37, 1, .aload_n 0, [], 0), (38, 1, .iload_n 1, [], 0), (39, 3, .invokevirtual 251, [0, 160, 2, 9], 745), (42, 3, .ifCond .eq 250, [17], 0), (45, 1, .aload_n 0, [], 0), (46, 1, .aload_n 0, [], 0), (47, 1, .iconst 2, [], 2), (48, 2, .bipush 6, [], 6), (50, 3, .invokevirtual 254, [0, 148, 3, 9], 749), (53, 3, .putfield 261, [9, 24, 0, 671, 0], 0), (56, 3, .goto 236, [17], 0)]
def bk_161_0 : List ex_R := [(0, 1, .aload_n 0, [], 0), (1, 3, .invokevirtual 216, [0, 143, 1, 9], 738), (4, 1, .istore_n 1, [], 0), (5, 1, .iload_n 1, [], 0), (6, 1, .iconst 3, [], 3), (7, 3, .if_icmp .ne 25, [1], 0), (10, 1, .aload_n 0, [], 0), (11, 1, .iload_n 1, [], 0), (12, 3, .invokevirtual 251, [0, 160, 2, 9], 745), (15, 3, .ifCond .eq 277, [17], 0), (18, 1, .aload_n 0, [], 0), (19, 1, .aload_n 0, [], 0), (20, 1, .iconst 2, [], 2), (21, 2, .bipush 60, [], 60), (23, 3, .invokevirtual 254, [0, 148, 3, 9], 749), (26, 3, .putfield 258, [9, 23, 0, 670, 0], 0), (29, 3, .goto 263, [17], 0)]
def me_161 : ex_M := (yX10_line, cX10_line, 4, none, RX10, [bk_161_0, bk_161_1, bk_161_2, bk_161_3, bk_161_4, bk_161_5, bk_161_6, bk_161_7, bk_161_8, bk_161_9, bk_161_10, bk_161_11, bk_161_12, bk_161_13, bk_161_14, bk_161_15, bk_161_16, bk_161_17], [])
def bk_162_7 : List ex_R := [(168, 1, .aload_n 0, [], 0), (169, 1, .aload_n 0, [], 0), (170, 3, .getfield 258, [9, 23, 0, 670, 0], 0), (173, 3, .putfield 7, [9, 1, 0, 648, 0], 0), (176, 1, .aload_n 0, [], 0), (177, 1, .aload_n 0, [], 0), (178, 3, .getfield 261, [9, 24, 0, 671, 0], 0), (181, 3, .putfield 13, [9, 2, 0, 649, 0], 0), (184, 1, .aload_n 0, [], 0), (185, 1, .aload_n 0, [], 0), (186, 3, .getfield 270, [9, 25, 0, 672, 0], 0), (189, 3, .putfield 286, [9, 3, 0, 650, 0], 0), (192, 1, .aload_n 0, [], 0), (193, 1, .aload_n 0, [], 0), (194, 3, .getfield 264, [9, 26, 0, 673, 0], 0), (197, 3, .putfield 289, [9, 4, 0, 651, 0], 0), (200, 1, .aload_n 0, [], 0), (201, 1, .aload_n 0, [], 0), (202, 3, .getfield 267, [9, 27, 0, 674, 0], 0), (205, 3, .putfield 292, [9, 5, 0, 652, 0], 0), (208, 1, .aload_n 0, [], 0), (209, 1, .aload_n 0, [], 0), (210, 3, .getfield 38, [9, 32, 2, 679, 0], 0), (213, 1, .aload_n 0, [], 0), (214, 3, .getfield 16, [9, 6, 2, 653, 0], 0), (217, 3, .invokevirtual 295, [0, 134, 3, 9], 777), (220, 1, .aload_n 0, [], 0), (221, 1, .aload_n 0, [], 0), (222, 3, .getfield 41, [9, 33, 2, 680, 0], 0), (225, 1, .aload_n 0, [], 0), (226, 3, .getfield 20, [9, 7, 2, 654, 0], 0), (229, 3, .invokevirtual 295, [0, 134, 3, 9], 777), (232, 1, .aload_n 0, [], 0), (233, 1, .aload_n 0, [], 0), (234, 3, .getfield 44, [9, 34, 2, 681, 0], 0), (237, 1, .aload_n 0, [], 0), (238, 3, .getfield 23, [9, 8, 2, 655, 0], 0), (241, 3, .invokevirtual 295, [0, 134, 3, 9], 777), (244, 1, .aload_n 0, [], 0), (245, 1, .aload_n 0, [], 0), (246, 3, .getfield 47, [9, 35, 2, 682, 0], 0), (249, 1, .aload_n 0, [], 0), (250, 3, .getfield 26, [9, 9, 2, 656, 0], 0), (253, 3, .invokevirtual 295, [0, 134, 3, 9], 777), (256, 1, .aload_n 0, [], 0), (257, 3, .invokevirtual 129, [0, 163, 1, 9], 645), (260, 1, .aload_n 0, [], 0), (261, 1, .iconst (-1), [], (-1)), (262, 3, .putfield 87, [9, 48, 0, 695, 0], 0), (265, 1, .aload_n 0, [], 0), (266, 1, .iconst 0, [], 0), (267, 3, .putfield 299, [9, 59, 3, 706, 0], 0), (270, 1, .iconst 0, [], 0), (271, 1, .ireturn, [], 0)]
def bk_162_6 : List ex_R := [(146, 1, .aload_n 0, [], 0), (147, 3, .invokevirtual 191, [0, 145, 1, 9], 734), (150, 3, .ifCond .ne 18, [7], 0), (153, 1, .aload_n 0, [], 0), (154, 3, .getfield 35, [9, 14, 2, 661, 0], 0), (157, 1, .iconst 0, [], 0), (158, 1, .dup2, [], 0), (159, 1, .iaload, [], 0), (160, 1, .iconst 1, [], 1), (161, 1, .iadd, [], 0), (162, 1, .iastore, [], 0), (163, 1, .aload_n 0, [], 0), (164, 3, .getfield 188, [9, 12, 0, 659, 0], 0), (167, 1, .ireturn, [], 0)]
def bk_162_5 : List ex_R := (118, 1, .aload_n 0, [], 0) :: (119, 3, .invokevirtual 191, [0, 145, 1, 9], 734) :: (122, 3, .ifCond .eq 24, [6], 0) :: (125, 1, .aload_n 0, [], 0) :: (126, 3, .getfield 261, [9, 24, 0, 671, 0], 0) :: (129, 1, .aload_n 0, [], 0) :: (130, 3, .getfield 258, [9, 23, 0, 670, 0], 0) :: (133, 3, .if_icmp .le 13, [6], 0) :: (136, 1, .aload_n 0, [], 0) :: (137, 1, .iload_n 1, [], 0) :: (138, 3, .putfield 152, [9, 18, 0, 665, 0], 0) :: (141, 1, .aload_n 0, [], 0) :: (142, 1, .iconst 5, [], 5) :: (143, 3, .invokevirtual 198, [0, 144, 2, 9], 747) :: bk_162_6
def bk_162_4 : List ex_R := [(97, 1, .aload_n 0, [], 0), (98, 3, .invokevirtual 191, [0, 145, 1, 9], 734), (101, 3, .ifCond .eq 17, [5], 0), (104, 1, .aload_n 0, [], 0), (105, 3, .getfield 165, [9, 17, 0, 664, 0], 0), (108, 3, .ifCond .eq 10, [5], 0), (111, 1, .aload_n 0, [], 0), (112, 3, .invokevirtual 283, [0, 161, 1, 9], 736), (115, 3, .goto (-18), [4], 0)]
def bk_162_3 : List ex_R := (32, 1, .aload_n 0, [], 0) :: (33, 1, .iconst 0, [], 0) :: (34, 3, .putfield 135, [9, 11, 0, 658, 0], 0) :: (37, 1, .aload_n 0, [], 0) :: (38, 1, .iconst (-1), [], (-1)) :: (39, 3, .putfield 32, [9, 13, 0, 660, 0], 0) :: (42, 1, .aload_n 0, [], 0) :: (43, 1, .iconst 0, [], 0) :: (44, 3, .putfield 188, [9, 12, 0, 659, 0], 0) :: (47, 1, .aload_n 0, [], 0) :: (48, 1, .iload_n 1, [], 0) :: (49, 3, .putfield 142, [9, 15, 0, 662, 0], 0) :: (52, 1, .aload_n 0, [], 0) :: (53, 1, .iconst 0, [], 0) :: (54, 3, .putfield 145, [9, 16, 0, 663, 0], 0) :: (57, 1, .aload_n 0, [], 0) :: (58, 2, .bipush 27, [], 27) :: (60, 3, .putfield 258, [9, 23, 0, 670, 0], 0) :: (63, 1, .aload_n 0, [], 0) :: (64, 1, .iconst 3, [], 3) :: (65, 3, .putfield 261, [9, 24, 0, 671, 0], 0) :: (68, 1, .aload_n 0, [], 0) :: (69, 1, .iconst 0, [], 0) :: (70, 3, .putfield 270, [9, 25, 0, 672, 0], 0) :: (73, 1, .aload_n 0, [], 0) :: (74, 1, .iconst 0, [], 0) :: (75, 3, .putfield 264, [9, 26, 0, 673, 0], 0) :: (78, 1, .aload_n 0, [], 0) :: (79, 1, .iconst 0, [], 0) :: (80, 3, .putfield 267, [9, 27, 0, 674, 0], 0) :: (83, 1, .aload_n 0, [], 0) :: (84, 1, .iconst 0, [], 0) :: (85, 3, .putfield 248, [9, 28, 0, 675, 0], 0) :: (88, 1, .aload_n 0, [], 0) :: (89, 1, .iconst 0, [], 0) :: (90, 3, .putfield 201, [9, 29, 0, 676, 0], 0) :: (93, 1, .aload_n 0, [], 0) :: (94, 3, .invokevirtual 195, [0, 140, 1, 9], 726) :: bk_162_4
def bk_162_2 : List ex_R := [(23, 1, .iconst 1, [], 1), (24, 3, .invokevirtual 279, [0, 132, 3, 9], 724), (27, 3, .ifCond .ne 5, [3], 0), (30, 1, .iconst 0, [], 0), (31, 1, .ireturn, [], 0)]
def bk_162_1 : List ex_R := (22, 1, .iconst 0, [], 0) :: bk_162_2
def bk_162_0 : List ex_R := [(0, 1, .aload_n 0, [], 0), (1, 1, .iconst 0, [], 0), (2, 3, .putfield 132, [9, 0, 0, 647, 0], 0), (5, 1, .aload_n 0, [], 0), (6, 1, .iload_n 1, [], 0), (7, 3, .ifCond .lt 15, [1], 0), (10, 1, .iload_n 1, [], 0), (11, 1, .aload_n 0, [], 0), (12, 3, .getfield 135, [9, 11, 0, 658, 0], 0), (15, 3, .if_icmp .gt 7, [1], 0), (18, 1, .iconst 1, [], 1), (19, 3, .goto 4, [2], 0)]
def me_162 : ex_M := (yX10_trick, cX10_trick, 2, some .int, RX10, [bk_162_0, bk_162_1, bk_162_2, bk_162_3, bk_162_4, bk_162_5, bk_162_6, bk_162_7], [])
def bk_163_2 : List ex_R := [(35, 1, .aload_n 0, [], 0), (36, 1, .iconst 0, [], 0), (37, 3, .putfield 303, [9, 52, 0, 699, 0], 0), (40, 1, .return_, [], 0)]
def bk_163_1 : List ex_R := [(2, 1, .iload_n 1, [], 0), (3, 2, .bipush 60, [], 60), (5, 3, .if_icmp .ge 30, [2], 0), (8, 1, .aload_n 0, [], 0), (9, 3, .getfield 96, [9, 53, 2, 700, 0], 0), (12, 1, .iload_n 1, [], 0), (13, 1, .iload_n 1, [], 0), (14, 1, .iastore, [], 0), (15, 1, .aload_n 0, [], 0), (16, 3, .getfield 99, [9, 54, 2, 701, 0], 0), (19, 1, .iload_n 1, [], 0), (20, 1, .iload_n 1, [], 0), (21, 1, .iastore, [], 0), (22, 1, .aload_n 0, [], 0), (23, 3, .getfield 102, [9, 55, 2, 702, 0], 0), (26, 1, .iload_n 1, [], 0), (27, 1, .iconst 0, [], 0), (28, 1, .iastore, [], 0), (29, 3, .iinc 1 1, [], 1), (32, 3, .goto (-30), [1], 0)]
def bk_163_0 : List ex_R := (0, 1, .iconst 0, [], 0) :: (1, 1, .istore_n 1, [], 0) :: bk_163_1
def me_163 : ex_M := (yX10_anew, cX10_anew, 2, none, RX10, [bk_163_0, bk_163_1, bk_163_2], [])
def bk_164_0 : List ex_R := [(0, 1, .aload_n 0, [], 0), (1, 1, .iconst 0, [], 0), (2, 3, .putfield 132, [9, 0, 0, 647, 0], 0), (5, 1, .aload_n 0, [], 0), (6, 3, .getfield 32, [9, 13, 0, 660, 0], 0), (9, 1, .ireturn, [], 0)]
def me_164 : ex_M := (yX10_fault, cX10_fault, 1, some .int, RX10, [bk_164_0], [])
def bk_165_10 : List ex_R := [(108, 1, .aload_n 0, [], 0), (109, 3, .getfield 35, [9, 14, 2, 661, 0], 0), (112, 1, .iload_n 1, [], 0), (113, 2, .bipush 8, [], 8), (115, 1, .isub, [], 0), (116, 1, .iaload, [], 0), (117, 1, .ireturn, [], 0)]
def bk_165_9 : List ex_R := [(103, 1, .aload_n 0, [], 0), (104, 3, .getfield 135, [9, 11, 0, 658, 0], 0), (107, 1, .ireturn, [], 0)]
def bk_165_8 : List ex_R := [(98, 1, .aload_n 0, [], 0), (99, 3, .invokevirtual 310, [0, 198, 1, 9], 787), (102, 1, .ireturn, [], 0)]
def bk_165_7 : List ex_R := [(93, 1, .aload_n 0, [], 0), (94, 3, .getfield 303, [9, 52, 0, 699, 0], 0), (97, 1, .ireturn, [], 0)]
def bk_165_6 : List ex_R := [(88, 1, .aload_n 0, [], 0), (89, 3, .getfield 292, [9, 5, 0, 652, 0], 0), (92, 1, .ireturn, [], 0)]
def bk_165_5 : List ex_R := [(83, 1, .aload_n 0, [], 0), (84, 3, .getfield 289, [9, 4, 0, 651, 0], 0), (87, 1, .ireturn, [], 0)]
def bk_165_4 : List ex_R := [(78, 1, .aload_n 0, [], 0), (79, 3, .getfield 286, [9, 3, 0, 650, 0], 0), (82, 1, .ireturn, [], 0)]
def bk_165_3 : List ex_R := [(73, 1, .aload_n 0, [], 0), (74, 3, .getfield 13, [9, 2, 0, 649, 0], 0), (77, 1, .ireturn, [], 0)]
def bk_165_2 : List ex_R := [(68, 1, .aload_n 0, [], 0), (69, 3, .getfield 7, [9, 1, 0, 648, 0], 0), (72, 1, .ireturn, [], 0)]
def bk_165_1 : List ex_R := [(22, 1, .iload_n 1, [], 0), (23, 45, .tableswitch 85 0 7 #[45, 50, 55, 60, 65, 70, 75, 80], [10, 2, 3, 4, 5, 6, 7, 8, 9], 0)]
def bk_165_0 : List ex_R := [(0, 1, .aload_n 0, [], 0), (1, 1, .iconst 0, [], 0), (2, 3, .putfield 132, [9, 0, 0, 647, 0], 0), (5, 1, .aload_n 0, [], 0), (6, 1, .iload_n 1, [], 0), (7, 1, .iconst 0, [], 0), (8, 2, .bipush 9, [], 9), (10, 3, .invokestatic 306, [2, 133, 3, 0], 785), (13, 1, .iconst 1, [], 1), (14, 3, .invokevirtual 279, [0, 132, 3, 9], 724), (17, 3, .ifCond .ne 5, [1], 0), (20, 1, .iconst 0, [], 0), (21, 1, .ireturn, [], 0)]
def me_165 : ex_M := (yX10_count, cX10_count, 2, some .int, RX10, [bk_165_0, bk_165_1, bk_165_2, bk_165_3, bk_165_4, bk_165_5, bk_165_6, bk_165_7, bk_165_8, bk_165_9, bk_165_10], [])
def bk_166_6 : List ex_R := [(100, 1, .ireturn, [], 0)]
def bk_166_5 : List ex_R := (87, 2, .iload 4, [], 0) :: (89, 1, .iload_n 2, [], 0) :: (90, 2, .iload 4, [], 0) :: (92, 1, .iload_n 3, [], 0) :: (93, 1, .iconst 1, [], 1) :: (94, 1, .iadd, [], 0) :: (95, 1, .imul, [], 0) :: (96, 1, .isub, [], 0) :: (97, 1, .iload_n 3, [], 0) :: (98, 1, .idiv, [], 0) :: (99, 1, .iadd, [], 0) :: bk_166_6
def bk_166_4 : List ex_R := [(48, 1, .aload_n 0, [], 0), (49, 3, .getfield 7, [9, 1, 0, 648, 0], 0), (52, 1, .aload_n 0, [], 0), (53, 3, .getfield 13, [9, 2, 0, 649, 0], 0), (56, 1, .idiv, [], 0), (57, 1, .istore_n 3, [], 0), (58, 1, .aload_n 0, [], 0), (59, 3, .getfield 7, [9, 1, 0, 648, 0], 0), (62, 1, .aload_n 0, [], 0), (63, 3, .getfield 13, [9, 2, 0, 649, 0], 0), (66, 1, .irem, [], 0), (67, 2, .istore 4, [], 0), (69, 1, .iload_n 2, [], 0), (70, 2, .iload 4, [], 0), (72, 1, .iload_n 3, [], 0), (73, 1, .iconst 1, [], 1), (74, 1, .iadd, [], 0), (75, 1, .imul, [], 0), (76, 3, .if_icmp .ge 11, [5], 0), (79, 1, .iload_n 2, [], 0), (80, 1, .iload_n 3, [], 0), (81, 1, .iconst 1, [], 1), (82, 1, .iadd, [], 0), (83, 1, .idiv, [], 0), (84, 3, .goto 16, [6], 0)]
def bk_166_3 : List ex_R := [(47, 1, .ireturn, [], 0)]
def bk_166_2 : List ex_R := (37, 1, .iconst 2, [], 2) :: (38, 1, .aload_n 0, [], 0) :: (39, 3, .getfield 13, [9, 2, 0, 649, 0], 0) :: (42, 1, .imul, [], 0) :: (43, 1, .iconst 1, [], 1) :: (44, 1, .isub, [], 0) :: (45, 1, .iload_n 3, [], 0) :: (46, 1, .isub, [], 0) :: bk_166_3
def bk_166_1 : List ex_R := [(11, 1, .iload_n 1, [], 0), (12, 1, .iconst 1, [], 1), (13, 3, .if_icmp .ne 35, [4], 0), (16, 1, .iload_n 2, [], 0), (17, 1, .iconst 2, [], 2), (18, 1, .aload_n 0, [], 0), (19, 3, .getfield 13, [9, 2, 0, 649, 0], 0), (22, 1, .imul, [], 0), (23, 1, .irem, [], 0), (24, 1, .istore_n 3, [], 0), (25, 1, .iload_n 3, [], 0), (26, 1, .aload_n 0, [], 0), (27, 3, .getfield 13, [9, 2, 0, 649, 0], 0), (30, 3, .if_icmp .ge 7, [2], 0), (33, 1, .iload_n 3, [], 0), (34, 3, .goto 13, [3], 0)]
def bk_166_0 : List ex_R := [(0, 1, .iload_n 1, [], 0), (1, 3, .ifCond .ne 10, [1], 0), (4, 1, .iload_n 2, [], 0), (5, 1, .aload_n 0, [], 0), (6, 3, .getfield 13, [9, 2, 0, 649, 0], 0), (9, 1, .irem, [], 0), (10, 1, .ireturn, [], 0)]
def me_166 : ex_M := (yX10_heapAt, cX10_heapAt, 5, some .int, RX10, [bk_166_0, bk_166_1, bk_166_2, bk_166_3, bk_166_4, bk_166_5, bk_166_6], [])
def bk_167_6 : List ex_R := [(128, 1, .return_, [], 0)]
def bk_167_5 : List ex_R := [(83, 1, .iload_n 3, [], 0), (84, 1, .aload_n 0, [], 0), (85, 3, .getfield 7, [9, 1, 0, 648, 0], 0), (88, 3, .if_icmp .ge 40, [6], 0), (91, 1, .iload_n 2, [], 0), (92, 1, .iconst 1, [], 1), (93, 3, .if_icmp .ne 35, [6], 0), (96, 1, .aload_n 0, [], 0), (97, 3, .getfield 60, [9, 39, 2, 686, 0], 0), (100, 1, .iload_n 3, [], 0), (101, 1, .aload_n 0, [], 0), (102, 3, .getfield 63, [9, 40, 2, 687, 0], 0), (105, 1, .aload_n 0, [], 0), (106, 3, .getfield 57, [9, 38, 2, 685, 0], 0), (109, 1, .iload_n 3, [], 0), (110, 1, .iaload, [], 0), (111, 1, .iaload, [], 0), (112, 1, .iconst 1, [], 1), (113, 1, .isub, [], 0), (114, 1, .aload_n 0, [], 0), (115, 3, .getfield 60, [9, 39, 2, 686, 0], 0), (118, 1, .iload_n 3, [], 0), (119, 1, .iaload, [], 0), (120, 1, .isub, [], 0), (121, 1, .iastore, [], 0), (122, 3, .iinc 3 1, [], 1), (125, 3, .goto (-42), [5], 0)]
def bk_167_4 : List ex_R := (81, 1, .iconst 0, [], 0) :: (82, 1, .istore_n 3, [], 0) :: bk_167_5
def bk_167_3 : List ex_R := [(23, 1, .iload_n 3, [], 0), (24, 1, .aload_n 0, [], 0), (25, 3, .getfield 7, [9, 1, 0, 648, 0], 0), (28, 3, .if_icmp .ge 53, [4], 0), (31, 1, .aload_n 0, [], 0), (32, 3, .getfield 57, [9, 38, 2, 685, 0], 0), (35, 1, .iload_n 3, [], 0), (36, 1, .aload_n 0, [], 0), (37, 1, .iload_n 1, [], 0), (38, 1, .iload_n 3, [], 0), (39, 3, .invokevirtual 313, [0, 166, 3, 9], 796), (42, 1, .iastore, [], 0), (43, 1, .aload_n 0, [], 0), (44, 3, .getfield 60, [9, 39, 2, 686, 0], 0), (47, 1, .iload_n 3, [], 0), (48, 1, .aload_n 0, [], 0), (49, 3, .getfield 63, [9, 40, 2, 687, 0], 0), (52, 1, .aload_n 0, [], 0), (53, 3, .getfield 57, [9, 38, 2, 685, 0], 0), (56, 1, .iload_n 3, [], 0), (57, 1, .iaload, [], 0), (58, 1, .iaload, [], 0), (59, 1, .iastore, [], 0), (60, 1, .aload_n 0, [], 0), (61, 3, .getfield 63, [9, 40, 2, 687, 0], 0), (64, 1, .aload_n 0, [], 0), (65, 3, .getfield 57, [9, 38, 2, 685, 0], 0), (68, 1, .iload_n 3, [], 0), (69, 1, .iaload, [], 0), (70, 1, .dup2, [], 0), (71, 1, .iaload, [], 0), (72, 1, .iconst 1, [], 1), (73, 1, .iadd, [], 0), (74, 1, .iastore, [], 0), (75, 3, .iinc 3 1, [], 1), (78, 3, .goto (-55), [3], 0)]
def bk_167_2 : List ex_R := (21, 1, .iconst 0, [], 0) :: (22, 1, .istore_n 3, [], 0) :: bk_167_3
def bk_167_1 : List ex_R := [(2, 1, .iload_n 3, [], 0), (3, 2, .bipush 6, [], 6), (5, 3, .if_icmp .ge 16, [2], 0), (8, 1, .aload_n 0, [], 0), (9, 3, .getfield 63, [9, 40, 2, 687, 0], 0), (12, 1, .iload_n 3, [], 0), (13, 1, .iconst 0, [], 0), (14, 1, .iastore, [], 0), (15, 3, .iinc 3 1, [], 1), (18, 3, .goto (-16), [1], 0)]
def bk_167_0 : List ex_R := (0, 1, .iconst 0, [], 0) :: (1, 1, .istore_n 3, [], 0) :: bk_167_1
def me_167 : ex_M := (yX10_deals0, cX10_deals0, 4, none, RX10, [bk_167_0, bk_167_1, bk_167_2, bk_167_3, bk_167_4, bk_167_5, bk_167_6], [])
def bk_168_8 : List ex_R := [(137, 1, .return_, [], 0)]
def bk_168_7 : List ex_R := [(91, 2, .iload 7, [], 0), (93, 1, .aload_n 0, [], 0), (94, 3, .getfield 13, [9, 2, 0, 649, 0], 0), (97, 3, .if_icmp .ge 40, [8], 0), (100, 1, .aload_n 0, [], 0), (101, 3, .getfield 66, [9, 41, 2, 688, 0], 0), (104, 1, .aload_n 0, [], 0), (105, 3, .getfield 69, [9, 42, 2, 689, 0], 0), (108, 2, .iload 7, [], 0), (110, 1, .iaload, [], 0), (111, 2, .iload 6, [], 0), (113, 1, .iastore, [], 0), (114, 2, .iload 6, [], 0), (116, 1, .aload_n 0, [], 0), (117, 3, .getfield 63, [9, 40, 2, 687, 0], 0), (120, 1, .aload_n 0, [], 0), (121, 3, .getfield 69, [9, 42, 2, 689, 0], 0), (124, 2, .iload 7, [], 0), (126, 1, .iaload, [], 0), (127, 1, .iaload, [], 0), (128, 1, .iadd, [], 0), (129, 2, .istore 6, [], 0), (131, 3, .iinc 7 1, [], 1), (134, 3, .goto (-43), [7], 0)]
def bk_168_6 : List ex_R := (85, 1, .iconst 0, [], 0) :: (86, 2, .istore 6, [], 0) :: (88, 1, .iconst 0, [], 0) :: (89, 2, .istore 7, [], 0) :: bk_168_7
def bk_168_5 : List ex_R := (70, 2, .iload 5, [], 0) :: (72, 1, .iload_n 3, [], 0) :: (73, 3, .if_icmp .gt 12, [6], 0) :: (76, 1, .aload_n 0, [], 0) :: (77, 2, .iload 4, [], 0) :: (79, 1, .iload_n 1, [], 0) :: (80, 1, .iload_n 2, [], 0) :: (81, 3, .invokevirtual 316, [0, 169, 4, 9], 815) :: (84, 1, .pop, [], 0) :: bk_168_6
def bk_168_4 : List ex_R := [(64, 3, .iinc 6 1, [], 1), (67, 3, .goto (-58), [1], 0)]
def bk_168_3 : List ex_R := (49, 1, .aload_n 0, [], 0) :: (50, 3, .getfield 69, [9, 42, 2, 689, 0], 0) :: (53, 2, .iload 4, [], 0) :: (55, 2, .iload 6, [], 0) :: (57, 1, .iastore, [], 0) :: (58, 3, .iinc 4 1, [], 1) :: (61, 3, .iinc 5 1, [], 1) :: bk_168_4
def bk_168_2 : List ex_R := (33, 2, .iload 5, [], 0) :: (35, 1, .iload_n 3, [], 0) :: (36, 3, .if_icmp .ne 13, [3], 0) :: (39, 1, .aload_n 0, [], 0) :: (40, 2, .iload 4, [], 0) :: (42, 1, .iload_n 1, [], 0) :: (43, 1, .iload_n 2, [], 0) :: (44, 3, .invokevirtual 316, [0, 169, 4, 9], 815) :: (47, 2, .istore 4, [], 0) :: bk_168_3
def bk_168_1 : List ex_R := [(9, 2, .iload 6, [], 0), (11, 1, .aload_n 0, [], 0), (12, 3, .getfield 13, [9, 2, 0, 649, 0], 0), (15, 3, .if_icmp .ge 55, [5], 0), (18, 2, .iload 6, [], 0), (20, 1, .iload_n 1, [], 0), (21, 3, .if_icmp .eq 43, [4], 0), (24, 2, .iload 6, [], 0), (26, 1, .iload_n 2, [], 0), (27, 3, .if_icmp .ne 6, [2], 0), (30, 3, .goto 34, [4], 0)]
def bk_168_0 : List ex_R := (0, 1, .iconst 0, [], 0) :: (1, 2, .istore 4, [], 0) :: (3, 1, .iconst 0, [], 0) :: (4, 2, .istore 5, [], 0) :: (6, 1, .iconst 0, [], 0) :: (7, 2, .istore 6, [], 0) :: bk_168_1
def me_168 : ex_M := (yX10_orders, cX10_orders, 8, none, RX10, [bk_168_0, bk_168_1, bk_168_2, bk_168_3, bk_168_4, bk_168_5, bk_168_6, bk_168_7, bk_168_8], [])
def bk_169_1 : List ex_R := [(16, 1, .aload_n 0, [], 0), (17, 3, .getfield 69, [9, 42, 2, 689, 0], 0), (20, 1, .iload_n 1, [], 0), (21, 1, .iconst 1, [], 1), (22, 1, .iadd, [], 0), (23, 1, .iload_n 3, [], 0), (24, 1, .iastore, [], 0), (25, 1, .iload_n 1, [], 0), (26, 1, .iconst 2, [], 2), (27, 1, .iadd, [], 0), (28, 1, .ireturn, [], 0)]
def bk_169_0 : List ex_R := [(0, 1, .aload_n 0, [], 0), (1, 3, .getfield 69, [9, 42, 2, 689, 0], 0), (4, 1, .iload_n 1, [], 0), (5, 1, .iload_n 2, [], 0), (6, 1, .iastore, [], 0), (7, 1, .iload_n 3, [], 0), (8, 1, .iload_n 2, [], 0), (9, 3, .if_icmp .ne 7, [1], 0), (12, 1, .iload_n 1, [], 0), (13, 1, .iconst 1, [], 1), (14, 1, .iadd, [], 0), (15, 1, .ireturn, [], 0)]
def me_169 : ex_M := (yX10_both, cX10_both, 4, some .int, RX10, [bk_169_0, bk_169_1], [])
def bk_170_0 : List ex_R := [(0, 1, .aload_n 0, [], 0), (1, 3, .getfield 66, [9, 41, 2, 688, 0], 0), (4, 1, .aload_n 0, [], 0), (5, 3, .getfield 57, [9, 38, 2, 685, 0], 0), (8, 1, .iload_n 1, [], 0), (9, 1, .iaload, [], 0), (10, 1, .iaload, [], 0), (11, 1, .aload_n 0, [], 0), (12, 3, .getfield 60, [9, 39, 2, 686, 0], 0), (15, 1, .iload_n 1, [], 0), (16, 1, .iaload, [], 0), (17, 1, .iadd, [], 0), (18, 1, .ireturn, [], 0)]
def me_170 : ex_M := (yX10_goesTo, cX10_goesTo, 2, some .int, RX10, [bk_170_0], [])
def bk_171_19 : List ex_R := [(117, 1, .ireturn, [], 0)]
def bk_171_18 : List ex_R := (114, 1, .iload_n 1, [], 0) :: (115, 1, .iload_n 2, [], 0) :: (116, 1, .idiv, [], 0) :: bk_171_19
def bk_171_17 : List ex_R := [(106, 1, .iload_n 2, [], 0), (107, 3, .ifCond .ne 7, [18], 0), (110, 1, .iconst 0, [], 0), (111, 3, .goto 6, [19], 0)]
def bk_171_16 : List ex_R := [(102, 1, .iload_n 1, [], 0), (103, 1, .iload_n 2, [], 0), (104, 1, .imul, [], 0), (105, 1, .ireturn, [], 0)]
def bk_171_15 : List ex_R := [(98, 1, .iload_n 1, [], 0), (99, 1, .iload_n 2, [], 0), (100, 1, .isub, [], 0), (101, 1, .ireturn, [], 0)]
def bk_171_14 : List ex_R := [(94, 1, .iload_n 1, [], 0), (95, 1, .iload_n 2, [], 0), (96, 1, .iadd, [], 0), (97, 1, .ireturn, [], 0)]
def bk_171_13 : List ex_R := [(93, 1, .ireturn, [], 0)]
def bk_171_12 : List ex_R := (92, 1, .iconst 0, [], 0) :: bk_171_13
def bk_171_11 : List ex_R := [(83, 1, .iload_n 1, [], 0), (84, 1, .iload_n 2, [], 0), (85, 3, .if_icmp .ne 7, [12], 0), (88, 1, .iconst 1, [], 1), (89, 3, .goto 4, [13], 0)]
def bk_171_10 : List ex_R := [(82, 1, .ireturn, [], 0)]
def bk_171_9 : List ex_R := (81, 1, .iconst 0, [], 0) :: bk_171_10
def bk_171_8 : List ex_R := [(72, 1, .iload_n 1, [], 0), (73, 1, .iload_n 2, [], 0), (74, 3, .if_icmp .ge 7, [9], 0), (77, 1, .iconst 1, [], 1), (78, 3, .goto 4, [10], 0)]
def bk_171_7 : List ex_R := [(71, 1, .ireturn, [], 0)]
def bk_171_6 : List ex_R := (70, 1, .iconst 0, [], 0) :: bk_171_7
def bk_171_5 : List ex_R := [(66, 1, .iconst 1, [], 1), (67, 3, .goto 4, [7], 0)]
def bk_171_4 : List ex_R := (58, 1, .iload_n 1, [], 0) :: (59, 3, .ifCond .ne 7, [5], 0) :: (62, 1, .iload_n 2, [], 0) :: (63, 3, .ifCond .eq 7, [6], 0) :: bk_171_5
def bk_171_3 : List ex_R := [(57, 1, .ireturn, [], 0)]
def bk_171_2 : List ex_R := (56, 1, .iconst 0, [], 0) :: bk_171_3
def bk_171_1 : List ex_R := [(44, 1, .iload_n 1, [], 0), (45, 3, .ifCond .eq 11, [2], 0), (48, 1, .iload_n 2, [], 0), (49, 3, .ifCond .eq 7, [2], 0), (52, 1, .iconst 1, [], 1), (53, 3, .goto 4, [3], 0)]
def bk_171_0 : List ex_R := [(0, 1, .iload_n 0, [], 0), (1, 43, .tableswitch 105 4 10 #[43, 57, 71, 82, 93, 97, 101], [17, 1, 4, 8, 11, 14, 15, 16], 0)]
def me_171 : ex_M := (yX10_works, cX10_works, 3, some .int, RX10, [bk_171_0, bk_171_1, bk_171_2, bk_171_3, bk_171_4, bk_171_5, bk_171_6, bk_171_7, bk_171_8, bk_171_9, bk_171_10, bk_171_11, bk_171_12, bk_171_13, bk_171_14, bk_171_15, bk_171_16, bk_171_17, bk_171_18, bk_171_19], [])
def bk_172_18 : List ex_R := [(258, 1, .ireturn, [], 0)]
def bk_172_17 : List ex_R := (256, 2, .iload 5, [], 0) :: bk_172_18
def bk_172_16 : List ex_R := [(228, 1, .aload_n 0, [], 0), (229, 3, .getfield 72, [9, 43, 2, 690, 0], 0), (232, 1, .iconst 0, [], 0), (233, 1, .iaload, [], 0), (234, 1, .aload_n 0, [], 0), (235, 3, .getfield 13, [9, 2, 0, 649, 0], 0), (238, 1, .irem, [], 0), (239, 2, .istore 5, [], 0), (241, 2, .iload 5, [], 0), (243, 3, .ifCond .ge 13, [17], 0), (246, 2, .iload 5, [], 0), (248, 1, .aload_n 0, [], 0), (249, 3, .getfield 13, [9, 2, 0, 649, 0], 0), (252, 1, .iadd, [], 0), (253, 3, .goto 5, [18], 0)]
def bk_172_15 : List ex_R := [(225, 3, .goto (-196), [2], 0)]
def bk_172_14 : List ex_R := (195, 3, .iinc 3 (-1), [], (-1)) :: (198, 1, .aload_n 0, [], 0) :: (199, 3, .getfield 72, [9, 43, 2, 690, 0], 0) :: (202, 1, .iload_n 3, [], 0) :: (203, 1, .iconst 1, [], 1) :: (204, 1, .isub, [], 0) :: (205, 2, .iload 5, [], 0) :: (207, 1, .aload_n 0, [], 0) :: (208, 3, .getfield 72, [9, 43, 2, 690, 0], 0) :: (211, 1, .iload_n 3, [], 0) :: (212, 1, .iconst 1, [], 1) :: (213, 1, .isub, [], 0) :: (214, 1, .iaload, [], 0) :: (215, 1, .aload_n 0, [], 0) :: (216, 3, .getfield 72, [9, 43, 2, 690, 0], 0) :: (219, 1, .iload_n 3, [], 0) :: (220, 1, .iaload, [], 0) :: (221, 3, .invokestatic 320, [2, 171, 3, 0], 800) :: (224, 1, .iastore, [], 0) :: bk_172_15
def bk_172_13 : List ex_R := [(191, 1, .iastore, [], 0), (192, 3, .goto 33, [15], 0)]
def bk_172_12 : List ex_R := (190, 1, .iconst 0, [], 0) :: bk_172_13
def bk_172_11 : List ex_R := [(162, 2, .iload 5, [], 0), (164, 1, .iconst 3, [], 3), (165, 3, .if_icmp .ne 30, [14], 0), (168, 1, .aload_n 0, [], 0), (169, 3, .getfield 72, [9, 43, 2, 690, 0], 0), (172, 1, .iload_n 3, [], 0), (173, 1, .iconst 1, [], 1), (174, 1, .isub, [], 0), (175, 1, .aload_n 0, [], 0), (176, 3, .getfield 72, [9, 43, 2, 690, 0], 0), (179, 1, .iload_n 3, [], 0), (180, 1, .iconst 1, [], 1), (181, 1, .isub, [], 0), (182, 1, .iaload, [], 0), (183, 3, .ifCond .ne 7, [12], 0), (186, 1, .iconst 1, [], 1), (187, 3, .goto 4, [13], 0)]
def bk_172_10 : List ex_R := [(152, 1, .iastore, [], 0), (153, 3, .iinc 4 1, [], 1), (156, 3, .iinc 3 1, [], 1), (159, 3, .goto 66, [15], 0)]
def bk_172_9 : List ex_R := (146, 1, .aload_n 0, [], 0) :: (147, 3, .getfield 63, [9, 40, 2, 687, 0], 0) :: (150, 1, .iload_n 2, [], 0) :: (151, 1, .iaload, [], 0) :: bk_172_10
def bk_172_8 : List ex_R := [(136, 2, .iload 6, [], 0), (138, 1, .iconst 4, [], 4), (139, 3, .if_icmp .ne 7, [9], 0), (142, 1, .iload_n 2, [], 0), (143, 3, .goto 9, [10], 0)]
def bk_172_7 : List ex_R := [(123, 2, .iload 6, [], 0), (125, 1, .iconst 3, [], 3), (126, 3, .if_icmp .ne 10, [8], 0), (129, 1, .aload_n 0, [], 0), (130, 3, .getfield 7, [9, 1, 0, 648, 0], 0), (133, 3, .goto 19, [10], 0)]
def bk_172_6 : List ex_R := [(110, 2, .iload 6, [], 0), (112, 1, .iconst 2, [], 2), (113, 3, .if_icmp .ne 10, [7], 0), (116, 1, .aload_n 0, [], 0), (117, 3, .getfield 13, [9, 2, 0, 649, 0], 0), (120, 3, .goto 32, [10], 0)]
def bk_172_5 : List ex_R := [(97, 2, .iload 6, [], 0), (99, 1, .iconst 1, [], 1), (100, 3, .if_icmp .ne 10, [6], 0), (103, 1, .aload_n 0, [], 0), (104, 3, .getfield 292, [9, 5, 0, 652, 0], 0), (107, 3, .goto 45, [10], 0)]
def bk_172_4 : List ex_R := [(88, 2, .iload 6, [], 0), (90, 3, .ifCond .ne 7, [5], 0), (93, 1, .iload_n 1, [], 0), (94, 3, .goto 58, [10], 0)]
def bk_172_3 : List ex_R := [(63, 1, .aload_n 0, [], 0), (64, 3, .getfield 26, [9, 9, 2, 656, 0], 0), (67, 2, .iload 4, [], 0), (69, 1, .iaload, [], 0), (70, 2, .istore 6, [], 0), (72, 1, .aload_n 0, [], 0), (73, 3, .getfield 72, [9, 43, 2, 690, 0], 0), (76, 1, .iload_n 3, [], 0), (77, 2, .iload 5, [], 0), (79, 1, .iconst 1, [], 1), (80, 3, .if_icmp .ne 8, [4], 0), (83, 2, .iload 6, [], 0), (85, 3, .goto 67, [10], 0)]
def bk_172_2 : List ex_R := (29, 1, .aload_n 0, [], 0) :: (30, 3, .getfield 26, [9, 9, 2, 656, 0], 0) :: (33, 2, .iload 4, [], 0) :: (35, 1, .iaload, [], 0) :: (36, 3, .ifCond .eq 192, [16], 0) :: (39, 1, .aload_n 0, [], 0) :: (40, 3, .getfield 26, [9, 9, 2, 656, 0], 0) :: (43, 2, .iload 4, [], 0) :: (45, 1, .iaload, [], 0) :: (46, 2, .istore 5, [], 0) :: (48, 3, .iinc 4 1, [], 1) :: (51, 2, .iload 5, [], 0) :: (53, 1, .iconst 1, [], 1) :: (54, 3, .if_icmp .eq 9, [3], 0) :: (57, 2, .iload 5, [], 0) :: (59, 1, .iconst 2, [], 2) :: (60, 3, .if_icmp .ne 102, [11], 0) :: bk_172_3
def bk_172_1 : List ex_R := (19, 1, .iconst 0, [], 0) :: (20, 1, .istore_n 3, [], 0) :: (21, 1, .aload_n 0, [], 0) :: (22, 3, .getfield 23, [9, 8, 2, 655, 0], 0) :: (25, 1, .iload_n 1, [], 0) :: (26, 1, .iaload, [], 0) :: (27, 2, .istore 4, [], 0) :: bk_172_2
def bk_172_0 : List ex_R := [(0, 1, .aload_n 0, [], 0), (1, 3, .getfield 286, [9, 3, 0, 650, 0], 0), (4, 3, .ifCond .ne 15, [1], 0), (7, 1, .aload_n 0, [], 0), (8, 3, .getfield 13, [9, 2, 0, 649, 0], 0), (11, 1, .iconst 2, [], 2), (12, 1, .idiv, [], 0), (13, 1, .aload_n 0, [], 0), (14, 3, .getfield 13, [9, 2, 0, 649, 0], 0), (17, 1, .irem, [], 0), (18, 1, .ireturn, [], 0)]
def me_172 : ex_M := (yX10_layingOf, cX10_layingOf, 7, some .int, RX10, [bk_172_0, bk_172_1, bk_172_2, bk_172_3, bk_172_4, bk_172_5, bk_172_6, bk_172_7, bk_172_8, bk_172_9, bk_172_10, bk_172_11, bk_172_12, bk_172_13, bk_172_14, bk_172_15, bk_172_16, bk_172_17, bk_172_18], [])
def bk_173_2 : List ex_R := [(22, 1, .ireturn, [], 0)]
def bk_173_1 : List ex_R := (11, 1, .aload_n 0, [], 0) :: (12, 3, .getfield 16, [9, 6, 2, 653, 0], 0) :: (15, 1, .iload_n 1, [], 0) :: (16, 1, .aload_n 0, [], 0) :: (17, 3, .getfield 286, [9, 3, 0, 650, 0], 0) :: (20, 1, .irem, [], 0) :: (21, 1, .iaload, [], 0) :: bk_173_2
def bk_173_0 : List ex_R := [(0, 1, .aload_n 0, [], 0), (1, 3, .getfield 286, [9, 3, 0, 650, 0], 0), (4, 3, .ifCond .ne 7, [1], 0), (7, 1, .iconst 0, [], 0), (8, 3, .goto 14, [2], 0)]
def me_173 : ex_M := (yX10_kindOf, cX10_kindOf, 2, some .int, RX10, [bk_173_0, bk_173_1, bk_173_2], [])
def bk_174_2 : List ex_R := [(22, 1, .ireturn, [], 0)]
def bk_174_1 : List ex_R := (11, 1, .aload_n 0, [], 0) :: (12, 3, .getfield 20, [9, 7, 2, 654, 0], 0) :: (15, 1, .iload_n 1, [], 0) :: (16, 1, .aload_n 0, [], 0) :: (17, 3, .getfield 286, [9, 3, 0, 650, 0], 0) :: (20, 1, .irem, [], 0) :: (21, 1, .iaload, [], 0) :: bk_174_2
def bk_174_0 : List ex_R := [(0, 1, .aload_n 0, [], 0), (1, 3, .getfield 286, [9, 3, 0, 650, 0], 0), (4, 3, .ifCond .ne 7, [1], 0), (7, 1, .iconst 1, [], 1), (8, 3, .goto 14, [2], 0)]
def me_174 : ex_M := (yX10_sideOf, cX10_sideOf, 2, some .int, RX10, [bk_174_0, bk_174_1, bk_174_2], [])
def bk_175_2 : List ex_R := [(17, 1, .ireturn, [], 0)]
def bk_175_1 : List ex_R := (11, 1, .iload_n 1, [], 0) :: (12, 1, .aload_n 0, [], 0) :: (13, 3, .getfield 286, [9, 3, 0, 650, 0], 0) :: (16, 1, .irem, [], 0) :: bk_175_2
def bk_175_0 : List ex_R := [(0, 1, .aload_n 0, [], 0), (1, 3, .getfield 286, [9, 3, 0, 650, 0], 0), (4, 3, .ifCond .ne 7, [1], 0), (7, 1, .iconst 0, [], 0), (8, 3, .goto 9, [2], 0)]
def me_175 : ex_M := (yX10_numberOf, cX10_numberOf, 2, some .int, RX10, [bk_175_0, bk_175_1, bk_175_2], [])
def bk_176_2 : List ex_R := [(18, 1, .iconst 1, [], 1), (19, 3, .invokevirtual 279, [0, 132, 3, 9], 724), (22, 1, .ireturn, [], 0)]
def bk_176_1 : List ex_R := (17, 1, .iconst 0, [], 0) :: bk_176_2
def bk_176_0 : List ex_R := [(0, 1, .aload_n 0, [], 0), (1, 1, .iload_n 1, [], 0), (2, 3, .ifCond .lt 15, [1], 0), (5, 1, .iload_n 1, [], 0), (6, 1, .aload_n 0, [], 0), (7, 3, .getfield 7, [9, 1, 0, 648, 0], 0), (10, 3, .if_icmp .ge 7, [1], 0), (13, 1, .iconst 1, [], 1), (14, 3, .goto 4, [2], 0)]
def me_176 : ex_M := (yX10_isPlace, cX10_isPlace, 2, some .boolean, RX10, [bk_176_0, bk_176_1, bk_176_2], [])
def bk_177_2 : List ex_R := [(18, 1, .iload_n 2, [], 0), (19, 3, .invokevirtual 279, [0, 132, 3, 9], 724), (22, 1, .ireturn, [], 0)]
def bk_177_1 : List ex_R := (17, 1, .iconst 0, [], 0) :: bk_177_2
def bk_177_0 : List ex_R := [(0, 1, .aload_n 0, [], 0), (1, 1, .iload_n 1, [], 0), (2, 3, .ifCond .lt 15, [1], 0), (5, 1, .iload_n 1, [], 0), (6, 1, .aload_n 0, [], 0), (7, 3, .getfield 13, [9, 2, 0, 649, 0], 0), (10, 3, .if_icmp .ge 7, [1], 0), (13, 1, .iconst 1, [], 1), (14, 3, .goto 4, [2], 0)]
def me_177 : ex_M := (yX10_isHeap, cX10_isHeap, 3, some .boolean, RX10, [bk_177_0, bk_177_1, bk_177_2], [])
def bk_178_0 : List ex_R := [(0, 1, .aload_n 0, [], 0), (1, 1, .iload_n 1, [], 0), (2, 1, .iconst 0, [], 0), (3, 2, .bipush 60, [], 60), (5, 3, .invokestatic 306, [2, 133, 3, 0], 785), (8, 1, .iload_n 2, [], 0), (9, 3, .invokevirtual 279, [0, 132, 3, 9], 724), (12, 1, .ireturn, [], 0)]
def me_178 : ex_M := (yX10_isMany, cX10_isMany, 3, some .boolean, RX10, [bk_178_0], [])
def bk_179_7 : List ex_R := [(104, 1, .ireturn, [], 0)]
def bk_179_6 : List ex_R := (98, 1, .aload_n 0, [], 0) :: (99, 1, .iload_n 1, [], 0) :: (100, 1, .iload_n 2, [], 0) :: (101, 3, .invokevirtual 331, [0, 172, 3, 9], 798) :: bk_179_7
def bk_179_5 : List ex_R := [(84, 1, .iload_n 3, [], 0), (85, 1, .iconst 1, [], 1), (86, 3, .if_icmp .ne 12, [6], 0), (89, 1, .aload_n 0, [], 0), (90, 3, .getfield 20, [9, 7, 2, 654, 0], 0), (93, 1, .iload_n 1, [], 0), (94, 1, .iaload, [], 0), (95, 3, .goto 9, [7], 0)]
def bk_179_4 : List ex_R := [(55, 1, .aload_n 0, [], 0), (56, 1, .aload_n 0, [], 0), (57, 3, .getfield 16, [9, 6, 2, 653, 0], 0), (60, 1, .iload_n 1, [], 0), (61, 1, .iaload, [], 0), (62, 1, .aload_n 0, [], 0), (63, 3, .getfield 20, [9, 7, 2, 654, 0], 0), (66, 1, .iload_n 1, [], 0), (67, 1, .iaload, [], 0), (68, 3, .invokevirtual 327, [0, 167, 3, 9], 794), (71, 1, .iload_n 3, [], 0), (72, 3, .ifCond .ne 12, [5], 0), (75, 1, .aload_n 0, [], 0), (76, 3, .getfield 16, [9, 6, 2, 653, 0], 0), (79, 1, .iload_n 1, [], 0), (80, 1, .iaload, [], 0), (81, 3, .goto 23, [7], 0)]
def bk_179_3 : List ex_R := [(53, 1, .iconst 0, [], 0), (54, 1, .ireturn, [], 0)]
def bk_179_2 : List ex_R := (23, 1, .iconst 1, [], 1) :: (24, 3, .invokevirtual 279, [0, 132, 3, 9], 724) :: (27, 3, .ifCond .eq 26, [3], 0) :: (30, 1, .aload_n 0, [], 0) :: (31, 1, .iload_n 2, [], 0) :: (32, 1, .iconst 1, [], 1) :: (33, 3, .invokevirtual 323, [0, 177, 3, 9], 792) :: (36, 3, .ifCond .eq 17, [3], 0) :: (39, 1, .aload_n 0, [], 0) :: (40, 1, .iload_n 3, [], 0) :: (41, 1, .iconst 0, [], 0) :: (42, 1, .iconst 2, [], 2) :: (43, 3, .invokestatic 306, [2, 133, 3, 0], 785) :: (46, 1, .iconst 1, [], 1) :: (47, 3, .invokevirtual 279, [0, 132, 3, 9], 724) :: (50, 3, .ifCond .ne 5, [4], 0) :: bk_179_3
def bk_179_1 : List ex_R := (22, 1, .iconst 0, [], 0) :: bk_179_2
def bk_179_0 : List ex_R := [(0, 1, .aload_n 0, [], 0), (1, 1, .iconst 0, [], 0), (2, 3, .putfield 132, [9, 0, 0, 647, 0], 0), (5, 1, .aload_n 0, [], 0), (6, 1, .iload_n 1, [], 0), (7, 3, .ifCond .lt 15, [1], 0), (10, 1, .iload_n 1, [], 0), (11, 1, .aload_n 0, [], 0), (12, 3, .getfield 286, [9, 3, 0, 650, 0], 0), (15, 3, .if_icmp .ge 7, [1], 0), (18, 1, .iconst 1, [], 1), (19, 3, .goto 4, [2], 0)]
def me_179 : ex_M := (yX10_told, cX10_told, 4, some .int, RX10, [bk_179_0, bk_179_1, bk_179_2, bk_179_3, bk_179_4, bk_179_5, bk_179_6, bk_179_7], [])
def bk_180_4 : List ex_R := [(41, 1, .aload_n 0, [], 0), (42, 1, .aload_n 0, [], 0), (43, 1, .iload_n 2, [], 0), (44, 3, .invokevirtual 337, [0, 173, 2, 9], 807), (47, 1, .aload_n 0, [], 0), (48, 1, .iload_n 2, [], 0), (49, 3, .invokevirtual 340, [0, 174, 2, 9], 809), (52, 3, .invokevirtual 327, [0, 167, 3, 9], 794), (55, 1, .aload_n 0, [], 0), (56, 1, .iload_n 3, [], 0), (57, 1, .iload_n 3, [], 0), (58, 1, .aload_n 0, [], 0), (59, 1, .aload_n 0, [], 0), (60, 1, .iload_n 2, [], 0), (61, 3, .invokevirtual 343, [0, 175, 2, 9], 811), (64, 1, .iload_n 3, [], 0), (65, 3, .invokevirtual 331, [0, 172, 3, 9], 798), (68, 3, .invokevirtual 346, [0, 168, 4, 9], 813), (71, 1, .aload_n 0, [], 0), (72, 1, .iload_n 1, [], 0), (73, 3, .invokevirtual 350, [0, 170, 2, 9], 817), (76, 1, .ireturn, [], 0)]
def bk_180_3 : List ex_R := [(39, 1, .iconst 0, [], 0), (40, 1, .ireturn, [], 0)]
def bk_180_2 : List ex_R := (23, 1, .iconst 1, [], 1) :: (24, 3, .invokevirtual 279, [0, 132, 3, 9], 724) :: (27, 3, .ifCond .eq 12, [3], 0) :: (30, 1, .aload_n 0, [], 0) :: (31, 1, .iload_n 3, [], 0) :: (32, 1, .iconst 1, [], 1) :: (33, 3, .invokevirtual 323, [0, 177, 3, 9], 792) :: (36, 3, .ifCond .ne 5, [4], 0) :: bk_180_3
def bk_180_1 : List ex_R := (22, 1, .iconst 0, [], 0) :: bk_180_2
def bk_180_0 : List ex_R := [(0, 1, .aload_n 0, [], 0), (1, 1, .iconst 0, [], 0), (2, 3, .putfield 132, [9, 0, 0, 647, 0], 0), (5, 1, .aload_n 0, [], 0), (6, 1, .iload_n 1, [], 0), (7, 3, .invokevirtual 334, [0, 176, 2, 9], 805), (10, 3, .ifCond .eq 29, [3], 0), (13, 1, .aload_n 0, [], 0), (14, 1, .iload_n 2, [], 0), (15, 3, .ifCond .lt 7, [1], 0), (18, 1, .iconst 1, [], 1), (19, 3, .goto 4, [2], 0)]
def me_180 : ex_M := (yX10_goes, cX10_goes, 4, some .int, RX10, [bk_180_0, bk_180_1, bk_180_2, bk_180_3, bk_180_4], [])
def bk_181_9 : List ex_R := [(130, 1, .return_, [], 0)]
def bk_181_8 : List ex_R := [(99, 1, .iload_n 3, [], 0), (100, 1, .aload_n 0, [], 0), (101, 3, .getfield 7, [9, 1, 0, 648, 0], 0), (104, 3, .if_icmp .ge 26, [9], 0), (107, 1, .aload_n 0, [], 0), (108, 3, .getfield 75, [9, 44, 2, 691, 0], 0), (111, 1, .iload_n 3, [], 0), (112, 1, .aload_n 0, [], 0), (113, 3, .getfield 78, [9, 45, 2, 692, 0], 0), (116, 1, .aload_n 0, [], 0), (117, 3, .getfield 75, [9, 44, 2, 691, 0], 0), (120, 1, .iload_n 3, [], 0), (121, 1, .iaload, [], 0), (122, 1, .iaload, [], 0), (123, 1, .iastore, [], 0), (124, 3, .iinc 3 1, [], 1), (127, 3, .goto (-28), [8], 0)]
def bk_181_7 : List ex_R := (97, 1, .iconst 0, [], 0) :: (98, 1, .istore_n 3, [], 0) :: bk_181_8
def bk_181_6 : List ex_R := [(91, 3, .iinc 3 1, [], 1), (94, 3, .goto (-78), [1], 0)]
def bk_181_5 : List ex_R := [(85, 3, .iinc 4 1, [], 1), (88, 3, .goto (-36), [4], 0)]
def bk_181_4 : List ex_R := (52, 2, .iload 4, [], 0) :: (54, 1, .aload_n 0, [], 0) :: (55, 3, .getfield 7, [9, 1, 0, 648, 0], 0) :: (58, 3, .if_icmp .ge 33, [6], 0) :: (61, 1, .aload_n 0, [], 0) :: (62, 3, .getfield 57, [9, 38, 2, 685, 0], 0) :: (65, 2, .iload 4, [], 0) :: (67, 1, .iaload, [], 0) :: (68, 1, .iload_n 3, [], 0) :: (69, 3, .if_icmp .ne 16, [5], 0) :: (72, 1, .aload_n 0, [], 0) :: (73, 3, .getfield 78, [9, 45, 2, 692, 0], 0) :: (76, 2, .iload 4, [], 0) :: (78, 1, .aload_n 0, [], 0) :: (79, 2, .iload 4, [], 0) :: (81, 3, .invokevirtual 350, [0, 170, 2, 9], 817) :: (84, 1, .iastore, [], 0) :: bk_181_5
def bk_181_3 : List ex_R := (46, 3, .invokevirtual 346, [0, 168, 4, 9], 813) :: (49, 1, .iconst 0, [], 0) :: (50, 2, .istore 4, [], 0) :: bk_181_4
def bk_181_2 : List ex_R := (45, 1, .iload_n 2, [], 0) :: bk_181_3
def bk_181_1 : List ex_R := [(16, 1, .iload_n 3, [], 0), (17, 1, .aload_n 0, [], 0), (18, 3, .getfield 13, [9, 2, 0, 649, 0], 0), (21, 3, .if_icmp .ge 76, [7], 0), (24, 1, .aload_n 0, [], 0), (25, 1, .iload_n 3, [], 0), (26, 1, .iload_n 3, [], 0), (27, 1, .iload_n 2, [], 0), (28, 1, .iconst (-1), [], (-1)), (29, 3, .if_icmp .ne 16, [2], 0), (32, 1, .aload_n 0, [], 0), (33, 1, .aload_n 0, [], 0), (34, 1, .iload_n 1, [], 0), (35, 3, .invokevirtual 343, [0, 175, 2, 9], 811), (38, 1, .iload_n 3, [], 0), (39, 3, .invokevirtual 331, [0, 172, 3, 9], 798), (42, 3, .goto 4, [3], 0)]
def bk_181_0 : List ex_R := (0, 1, .aload_n 0, [], 0) :: (1, 1, .aload_n 0, [], 0) :: (2, 1, .iload_n 1, [], 0) :: (3, 3, .invokevirtual 337, [0, 173, 2, 9], 807) :: (6, 1, .aload_n 0, [], 0) :: (7, 1, .iload_n 1, [], 0) :: (8, 3, .invokevirtual 340, [0, 174, 2, 9], 809) :: (11, 3, .invokevirtual 327, [0, 167, 3, 9], 794) :: (14, 1, .iconst 0, [], 0) :: (15, 1, .istore_n 3, [], 0) :: bk_181_1
def me_181 : ex_M := (yX10_follows, cX10_follows, 5, none, RX10, [bk_181_0, bk_181_1, bk_181_2, bk_181_3, bk_181_4, bk_181_5, bk_181_6, bk_181_7, bk_181_8, bk_181_9], [])
def bk_182_2 : List ex_R := [(21, 1, .return_, [], 0)]
def bk_182_1 : List ex_R := [(2, 1, .iload_n 1, [], 0), (3, 2, .bipush 60, [], 60), (5, 3, .if_icmp .ge 16, [2], 0), (8, 1, .aload_n 0, [], 0), (9, 3, .getfield 75, [9, 44, 2, 691, 0], 0), (12, 1, .iload_n 1, [], 0), (13, 1, .iload_n 1, [], 0), (14, 1, .iastore, [], 0), (15, 3, .iinc 1 1, [], 1), (18, 3, .goto (-16), [1], 0)]
def bk_182_0 : List ex_R := (0, 1, .iconst 0, [], 0) :: (1, 1, .istore_n 1, [], 0) :: bk_182_1
def me_182 : ex_M := (yX10_first, cX10_first, 2, none, RX10, [bk_182_0, bk_182_1, bk_182_2], [])
def bk_183_2 : List ex_R := [(23, 1, .return_, [], 0)]
def bk_183_1 : List ex_R := [(6, 1, .iload_n 2, [], 0), (7, 1, .iload_n 1, [], 0), (8, 3, .if_icmp .ge 15, [2], 0), (11, 1, .aload_n 0, [], 0), (12, 1, .iload_n 2, [], 0), (13, 1, .iconst (-1), [], (-1)), (14, 3, .invokevirtual 356, [0, 181, 3, 9], 828), (17, 3, .iinc 2 1, [], 1), (20, 3, .goto (-14), [1], 0)]
def bk_183_0 : List ex_R := (0, 1, .aload_n 0, [], 0) :: (1, 3, .invokevirtual 353, [0, 182, 1, 9], 826) :: (4, 1, .iconst 0, [], 0) :: (5, 1, .istore_n 2, [], 0) :: bk_183_1
def me_183 : ex_M := (yX10_endsBy, cX10_endsBy, 3, none, RX10, [bk_183_0, bk_183_1, bk_183_2], [])
def bk_184_3 : List ex_R := [(33, 1, .iconst 1, [], 1), (34, 1, .ireturn, [], 0)]
def bk_184_2 : List ex_R := [(27, 3, .iinc 1 1, [], 1), (30, 3, .goto (-28), [1], 0)]
def bk_184_1 : List ex_R := [(2, 1, .iload_n 1, [], 0), (3, 1, .aload_n 0, [], 0), (4, 3, .getfield 7, [9, 1, 0, 648, 0], 0), (7, 3, .if_icmp .ge 26, [3], 0), (10, 1, .aload_n 0, [], 0), (11, 3, .getfield 75, [9, 44, 2, 691, 0], 0), (14, 1, .iload_n 1, [], 0), (15, 1, .iaload, [], 0), (16, 1, .aload_n 0, [], 0), (17, 3, .getfield 75, [9, 44, 2, 691, 0], 0), (20, 1, .iconst 0, [], 0), (21, 1, .iaload, [], 0), (22, 3, .if_icmp .eq 5, [2], 0), (25, 1, .iconst 0, [], 0), (26, 1, .ireturn, [], 0)]
def bk_184_0 : List ex_R := (0, 1, .iconst 1, [], 1) :: (1, 1, .istore_n 1, [], 0) :: bk_184_1
def me_184 : ex_M := (yX10_isOne, cX10_isOne, 2, some .boolean, RX10, [bk_184_0, bk_184_1, bk_184_2, bk_184_3], [])
def bk_185_2 : List ex_R := [(24, 1, .aload_n 0, [], 0), (25, 1, .iload_n 2, [], 0), (26, 3, .invokevirtual 362, [0, 183, 2, 9], 824), (29, 1, .aload_n 0, [], 0), (30, 3, .getfield 75, [9, 44, 2, 691, 0], 0), (33, 1, .iload_n 1, [], 0), (34, 1, .iaload, [], 0), (35, 1, .ireturn, [], 0)]
def bk_185_1 : List ex_R := [(22, 1, .iconst 0, [], 0), (23, 1, .ireturn, [], 0)]
def bk_185_0 : List ex_R := (0, 1, .aload_n 0, [], 0) :: (1, 1, .iconst 0, [], 0) :: (2, 3, .putfield 132, [9, 0, 0, 647, 0], 0) :: (5, 1, .aload_n 0, [], 0) :: (6, 1, .iload_n 1, [], 0) :: (7, 3, .invokevirtual 334, [0, 176, 2, 9], 805) :: (10, 3, .ifCond .eq 12, [1], 0) :: (13, 1, .aload_n 0, [], 0) :: (14, 1, .iload_n 2, [], 0) :: (15, 1, .iconst 2, [], 2) :: (16, 3, .invokevirtual 359, [0, 178, 3, 9], 822) :: (19, 3, .ifCond .ne 5, [2], 0) :: bk_185_1
def me_185 : ex_M := (yX10_end, cX10_end, 3, some .int, RX10, [bk_185_0, bk_185_1, bk_185_2], [])
def bk_186_3 : List ex_R := [(38, 1, .ireturn, [], 0)]
def bk_186_2 : List ex_R := (37, 1, .iconst (-1), [], (-1)) :: bk_186_3
def bk_186_1 : List ex_R := [(16, 1, .aload_n 0, [], 0), (17, 1, .iload_n 1, [], 0), (18, 3, .invokevirtual 362, [0, 183, 2, 9], 824), (21, 1, .aload_n 0, [], 0), (22, 3, .invokevirtual 365, [0, 184, 1, 9], 833), (25, 3, .ifCond .eq 12, [2], 0), (28, 1, .aload_n 0, [], 0), (29, 3, .getfield 75, [9, 44, 2, 691, 0], 0), (32, 1, .iconst 0, [], 0), (33, 1, .iaload, [], 0), (34, 3, .goto 4, [3], 0)]
def bk_186_0 : List ex_R := [(0, 1, .aload_n 0, [], 0), (1, 1, .iconst 0, [], 0), (2, 3, .putfield 132, [9, 0, 0, 647, 0], 0), (5, 1, .aload_n 0, [], 0), (6, 1, .iload_n 1, [], 0), (7, 1, .iconst 1, [], 1), (8, 3, .invokevirtual 359, [0, 178, 3, 9], 822), (11, 3, .ifCond .ne 5, [1], 0), (14, 1, .iconst 0, [], 0), (15, 1, .ireturn, [], 0)]
def me_186 : ex_M := (yX10_sure, cX10_sure, 2, some .int, RX10, [bk_186_0, bk_186_1, bk_186_2, bk_186_3], [])
def bk_187_3 : List ex_R := [(38, 1, .iconst (-1), [], (-1)), (39, 1, .ireturn, [], 0)]
def bk_187_2 : List ex_R := [(26, 1, .aload_n 0, [], 0), (27, 1, .iload_n 1, [], 0), (28, 1, .iconst (-1), [], (-1)), (29, 3, .invokevirtual 356, [0, 181, 3, 9], 828), (32, 3, .iinc 1 1, [], 1), (35, 3, .goto (-24), [1], 0)]
def bk_187_1 : List ex_R := [(11, 1, .iload_n 1, [], 0), (12, 2, .bipush 60, [], 60), (14, 3, .if_icmp .gt 24, [3], 0), (17, 1, .aload_n 0, [], 0), (18, 3, .invokevirtual 365, [0, 184, 1, 9], 833), (21, 3, .ifCond .eq 5, [2], 0), (24, 1, .iload_n 1, [], 0), (25, 1, .ireturn, [], 0)]
def bk_187_0 : List ex_R := (0, 1, .aload_n 0, [], 0) :: (1, 1, .iconst 0, [], 0) :: (2, 3, .putfield 132, [9, 0, 0, 647, 0], 0) :: (5, 1, .aload_n 0, [], 0) :: (6, 3, .invokevirtual 353, [0, 182, 1, 9], 826) :: (9, 1, .iconst 0, [], 0) :: (10, 1, .istore_n 1, [], 0) :: bk_187_1
def me_187 : ex_M := (yX10_soonest, cX10_soonest, 2, some .int, RX10, [bk_187_0, bk_187_1, bk_187_2, bk_187_3], [])
def bk_188_2 : List ex_R := [(19, 1, .iload_n 2, [], 0), (20, 1, .ireturn, [], 0)]
def bk_188_1 : List ex_R := [(4, 1, .iload_n 3, [], 0), (5, 1, .iload_n 1, [], 0), (6, 3, .if_icmp .ge 13, [2], 0), (9, 1, .iload_n 2, [], 0), (10, 1, .iload_n 0, [], 0), (11, 1, .imul, [], 0), (12, 1, .istore_n 2, [], 0), (13, 3, .iinc 3 1, [], 1), (16, 3, .goto (-12), [1], 0)]
def bk_188_0 : List ex_R := (0, 1, .iconst 1, [], 1) :: (1, 1, .istore_n 2, [], 0) :: (2, 1, .iconst 0, [], 0) :: (3, 1, .istore_n 3, [], 0) :: bk_188_1
def me_188 : ex_M := (yX10_power, cX10_power, 4, some .int, RX10, [bk_188_0, bk_188_1, bk_188_2], [])
def bk_189_9 : List ex_R := [(136, 2, .iload 4, [], 0), (138, 1, .ireturn, [], 0)]
def bk_189_8 : List ex_R := [(130, 3, .iinc 5 1, [], 1), (133, 3, .goto (-118), [1], 0)]
def bk_189_7 : List ex_R := (127, 3, .iinc 4 1, [], 1) :: bk_189_8
def bk_189_6 : List ex_R := (116, 2, .iload 4, [], 0) :: (118, 3, .ifCond .ne 9, [7], 0) :: (121, 1, .aload_n 0, [], 0) :: (122, 2, .iload 5, [], 0) :: (124, 3, .putfield 371, [9, 49, 0, 696, 0], 0) :: bk_189_7
def bk_189_5 : List ex_R := [(96, 1, .aload_n 0, [], 0), (97, 3, .invokevirtual 365, [0, 184, 1, 9], 833), (100, 3, .ifCond .eq 30, [8], 0), (103, 1, .aload_n 0, [], 0), (104, 3, .getfield 75, [9, 44, 2, 691, 0], 0), (107, 1, .iconst 0, [], 0), (108, 1, .iaload, [], 0), (109, 1, .iload_n 1, [], 0), (110, 3, .if_icmp .eq 6, [6], 0), (113, 3, .goto 17, [8], 0)]
def bk_189_4 : List ex_R := [(71, 2, .iload 7, [], 0), (73, 1, .iload_n 2, [], 0), (74, 3, .if_icmp .ge 22, [5], 0), (77, 1, .aload_n 0, [], 0), (78, 2, .iload 7, [], 0), (80, 1, .aload_n 0, [], 0), (81, 3, .getfield 81, [9, 46, 2, 693, 0], 0), (84, 2, .iload 7, [], 0), (86, 1, .iaload, [], 0), (87, 3, .invokevirtual 356, [0, 181, 3, 9], 828), (90, 3, .iinc 7 1, [], 1), (93, 3, .goto (-22), [4], 0)]
def bk_189_3 : List ex_R := (64, 1, .aload_n 0, [], 0) :: (65, 3, .invokevirtual 353, [0, 182, 1, 9], 826) :: (68, 1, .iconst 0, [], 0) :: (69, 2, .istore 7, [], 0) :: bk_189_4
def bk_189_2 : List ex_R := [(30, 2, .iload 7, [], 0), (32, 3, .ifCond .lt 32, [3], 0), (35, 1, .aload_n 0, [], 0), (36, 3, .getfield 81, [9, 46, 2, 693, 0], 0), (39, 2, .iload 7, [], 0), (41, 2, .iload 6, [], 0), (43, 1, .aload_n 0, [], 0), (44, 3, .getfield 13, [9, 2, 0, 649, 0], 0), (47, 1, .irem, [], 0), (48, 1, .iastore, [], 0), (49, 2, .iload 6, [], 0), (51, 1, .aload_n 0, [], 0), (52, 3, .getfield 13, [9, 2, 0, 649, 0], 0), (55, 1, .idiv, [], 0), (56, 2, .istore 6, [], 0), (58, 3, .iinc 7 (-1), [], (-1)), (61, 3, .goto (-31), [2], 0)]
def bk_189_1 : List ex_R := (15, 2, .iload 5, [], 0) :: (17, 1, .iload_n 3, [], 0) :: (18, 3, .if_icmp .ge 118, [9], 0) :: (21, 2, .iload 5, [], 0) :: (23, 2, .istore 6, [], 0) :: (25, 1, .iload_n 2, [], 0) :: (26, 1, .iconst 1, [], 1) :: (27, 1, .isub, [], 0) :: (28, 2, .istore 7, [], 0) :: bk_189_2
def bk_189_0 : List ex_R := (0, 1, .aload_n 0, [], 0) :: (1, 3, .getfield 13, [9, 2, 0, 649, 0], 0) :: (4, 1, .iload_n 2, [], 0) :: (5, 3, .invokestatic 368, [2, 188, 2, 0], 843) :: (8, 1, .istore_n 3, [], 0) :: (9, 1, .iconst 0, [], 0) :: (10, 2, .istore 4, [], 0) :: (12, 1, .iconst 0, [], 0) :: (13, 2, .istore 5, [], 0) :: bk_189_1
def me_189 : ex_M := (yX10_rowsFor, cX10_rowsFor, 8, some .int, RX10, [bk_189_0, bk_189_1, bk_189_2, bk_189_3, bk_189_4, bk_189_5, bk_189_6, bk_189_7, bk_189_8, bk_189_9], [])
def bk_190_5 : List ex_R := [(92, 1, .iload_n 3, [], 0), (93, 1, .ireturn, [], 0)]
def bk_190_4 : List ex_R := [(58, 2, .iload 5, [], 0), (60, 3, .ifCond .lt 32, [5], 0), (63, 1, .aload_n 0, [], 0), (64, 3, .getfield 84, [9, 47, 2, 694, 0], 0), (67, 2, .iload 5, [], 0), (69, 2, .iload 4, [], 0), (71, 1, .aload_n 0, [], 0), (72, 3, .getfield 13, [9, 2, 0, 649, 0], 0), (75, 1, .irem, [], 0), (76, 1, .iastore, [], 0), (77, 2, .iload 4, [], 0), (79, 1, .aload_n 0, [], 0), (80, 3, .getfield 13, [9, 2, 0, 649, 0], 0), (83, 1, .idiv, [], 0), (84, 2, .istore 4, [], 0), (86, 3, .iinc 5 (-1), [], (-1)), (89, 3, .goto (-31), [4], 0)]
def bk_190_3 : List ex_R := (42, 1, .aload_n 0, [], 0) :: (43, 1, .iload_n 2, [], 0) :: (44, 3, .putfield 87, [9, 48, 0, 695, 0], 0) :: (47, 1, .aload_n 0, [], 0) :: (48, 3, .getfield 371, [9, 49, 0, 696, 0], 0) :: (51, 2, .istore 4, [], 0) :: (53, 1, .iload_n 2, [], 0) :: (54, 1, .iconst 1, [], 1) :: (55, 1, .isub, [], 0) :: (56, 2, .istore 5, [], 0) :: bk_190_4
def bk_190_2 : List ex_R := [(29, 1, .aload_n 0, [], 0), (30, 1, .iload_n 1, [], 0), (31, 1, .iload_n 2, [], 0), (32, 3, .invokevirtual 374, [0, 189, 3, 9], 841), (35, 1, .istore_n 3, [], 0), (36, 1, .iload_n 3, [], 0), (37, 3, .ifCond .ne 5, [3], 0), (40, 1, .iconst 0, [], 0), (41, 1, .ireturn, [], 0)]
def bk_190_1 : List ex_R := [(27, 1, .iconst 0, [], 0), (28, 1, .ireturn, [], 0)]
def bk_190_0 : List ex_R := (0, 1, .aload_n 0, [], 0) :: (1, 1, .iconst 0, [], 0) :: (2, 3, .putfield 132, [9, 0, 0, 647, 0], 0) :: (5, 1, .aload_n 0, [], 0) :: (6, 1, .iload_n 1, [], 0) :: (7, 3, .invokevirtual 334, [0, 176, 2, 9], 805) :: (10, 3, .ifCond .eq 17, [1], 0) :: (13, 1, .aload_n 0, [], 0) :: (14, 1, .iload_n 2, [], 0) :: (15, 1, .iconst 1, [], 1) :: (16, 1, .iconst 5, [], 5) :: (17, 3, .invokestatic 306, [2, 133, 3, 0], 785) :: (20, 1, .iconst 2, [], 2) :: (21, 3, .invokevirtual 279, [0, 132, 3, 9], 724) :: (24, 3, .ifCond .ne 5, [2], 0) :: bk_190_1
def me_190 : ex_M := (yX10_wished, cX10_wished, 6, some .int, RX10, [bk_190_0, bk_190_1, bk_190_2, bk_190_3, bk_190_4, bk_190_5], [])
def bk_191_4 : List ex_R := [(48, 1, .ireturn, [], 0)]
def bk_191_3 : List ex_R := (47, 1, .iconst 0, [], 0) :: bk_191_4
def bk_191_2 : List ex_R := [(31, 1, .iconst 1, [], 1), (32, 3, .invokevirtual 279, [0, 132, 3, 9], 724), (35, 3, .ifCond .eq 12, [3], 0), (38, 1, .aload_n 0, [], 0), (39, 3, .getfield 84, [9, 47, 2, 694, 0], 0), (42, 1, .iload_n 1, [], 0), (43, 1, .iaload, [], 0), (44, 3, .goto 4, [4], 0)]
def bk_191_1 : List ex_R := (30, 1, .iconst 0, [], 0) :: bk_191_2
def bk_191_0 : List ex_R := [(0, 1, .aload_n 0, [], 0), (1, 1, .iconst 0, [], 0), (2, 3, .putfield 132, [9, 0, 0, 647, 0], 0), (5, 1, .aload_n 0, [], 0), (6, 1, .aload_n 0, [], 0), (7, 3, .getfield 87, [9, 48, 0, 695, 0], 0), (10, 1, .iconst (-1), [], (-1)), (11, 3, .if_icmp .eq 19, [1], 0), (14, 1, .iload_n 1, [], 0), (15, 3, .ifCond .lt 15, [1], 0), (18, 1, .iload_n 1, [], 0), (19, 1, .aload_n 0, [], 0), (20, 3, .getfield 87, [9, 48, 0, 695, 0], 0), (23, 3, .if_icmp .ge 7, [1], 0), (26, 1, .iconst 1, [], 1), (27, 3, .goto 4, [2], 0)]
def me_191 : ex_M := (yX10_laying, cX10_laying, 2, some .int, RX10, [bk_191_0, bk_191_1, bk_191_2, bk_191_3, bk_191_4], [])
def bk_192_4 : List ex_R := [(39, 1, .iconst (-1), [], (-1)), (40, 1, .ireturn, [], 0)]
def bk_192_3 : List ex_R := [(33, 3, .iinc 2 1, [], 1), (36, 3, .goto (-19), [2], 0)]
def bk_192_2 : List ex_R := [(17, 1, .iload_n 2, [], 0), (18, 1, .iconst 5, [], 5), (19, 3, .if_icmp .gt 20, [4], 0), (22, 1, .aload_n 0, [], 0), (23, 1, .iload_n 1, [], 0), (24, 1, .iload_n 2, [], 0), (25, 3, .invokevirtual 374, [0, 189, 3, 9], 841), (28, 3, .ifCond .le 5, [3], 0), (31, 1, .iload_n 2, [], 0), (32, 1, .ireturn, [], 0)]
def bk_192_1 : List ex_R := (15, 1, .iconst 1, [], 1) :: (16, 1, .istore_n 2, [], 0) :: bk_192_2
def bk_192_0 : List ex_R := [(0, 1, .aload_n 0, [], 0), (1, 1, .iconst 0, [], 0), (2, 3, .putfield 132, [9, 0, 0, 647, 0], 0), (5, 1, .aload_n 0, [], 0), (6, 1, .iload_n 1, [], 0), (7, 3, .invokevirtual 334, [0, 176, 2, 9], 805), (10, 3, .ifCond .ne 5, [1], 0), (13, 1, .iconst 0, [], 0), (14, 1, .ireturn, [], 0)]
def me_192 : ex_M := (yX10_fewest, cX10_fewest, 3, some .int, RX10, [bk_192_0, bk_192_1, bk_192_2, bk_192_3, bk_192_4], [])
def bk_193_2 : List ex_R := [(49, 1, .ireturn, [], 0)]
def bk_193_1 : List ex_R := (48, 1, .iconst 0, [], 0) :: bk_193_2
def bk_193_0 : List ex_R := [(0, 1, .iload_n 1, [], 0), (1, 1, .iconst 0, [], 0), (2, 1, .iconst 2, [], 2), (3, 3, .invokestatic 306, [2, 133, 3, 0], 785), (6, 3, .ifCond .eq 42, [1], 0), (9, 1, .iload_n 2, [], 0), (10, 1, .iconst 0, [], 0), (11, 1, .iconst 1, [], 1), (12, 3, .invokestatic 306, [2, 133, 3, 0], 785), (15, 3, .ifCond .eq 33, [1], 0), (18, 1, .iload_n 3, [], 0), (19, 3, .ifCond .lt 29, [1], 0), (22, 1, .iload_n 3, [], 0), (23, 1, .aload_n 0, [], 0), (24, 3, .getfield 13, [9, 2, 0, 649, 0], 0), (27, 3, .if_icmp .ge 21, [1], 0), (30, 2, .iload 4, [], 0), (32, 3, .ifCond .lt 16, [1], 0), (35, 2, .iload 4, [], 0), (37, 1, .aload_n 0, [], 0), (38, 3, .getfield 13, [9, 2, 0, 649, 0], 0), (41, 3, .if_icmp .ge 7, [1], 0), (44, 1, .iconst 1, [], 1), (45, 3, .goto 4, [2], 0)]
def me_193 : ex_M := (yX10_isDeal, cX10_isDeal, 5, some .boolean, RX10, [bk_193_0, bk_193_1, bk_193_2], [])
def bk_194_7 : List ex_R := [(117, 2, .lload 5, [], 0), (119, 1, .lreturn, [], 0)]
def bk_194_6 : List ex_R := [(111, 3, .iinc 7 1, [], 1), (114, 3, .goto (-69), [2], 0)]
def bk_194_5 : List ex_R := [(90, 2, .lload 5, [], 0), (92, 2, .iload 8, [], 0), (94, 1, .i2l, [], 0), (95, 1, .lrem, [], 0), (96, 1, .lconst 0, [], 0), (97, 1, .lcmp, [], 0), (98, 3, .ifCond .eq 13, [6], 0), (101, 2, .lload 5, [], 0), (103, 2, .lload 9, [], 0), (105, 1, .ladd, [], 0), (106, 2, .lstore 5, [], 0), (108, 3, .goto (-18), [5], 0)]
def bk_194_4 : List ex_R := (86, 2, .lload 5, [], 0) :: (88, 2, .lstore 9, [], 0) :: bk_194_5
def bk_194_3 : List ex_R := [(65, 2, .iload 9, [], 0), (67, 2, .iload 7, [], 0), (69, 3, .if_icmp .eq 17, [4], 0), (72, 3, .iinc 8 1, [], 1), (75, 1, .aload_n 0, [], 0), (76, 2, .iload 9, [], 0), (78, 3, .invokevirtual 350, [0, 170, 2, 9], 817), (81, 2, .istore 9, [], 0), (83, 3, .goto (-18), [3], 0)]
def bk_194_2 : List ex_R := (45, 2, .iload 7, [], 0) :: (47, 1, .aload_n 0, [], 0) :: (48, 3, .getfield 7, [9, 1, 0, 648, 0], 0) :: (51, 3, .if_icmp .ge 66, [7], 0) :: (54, 1, .iconst 1, [], 1) :: (55, 2, .istore 8, [], 0) :: (57, 1, .aload_n 0, [], 0) :: (58, 2, .iload 7, [], 0) :: (60, 3, .invokevirtual 350, [0, 170, 2, 9], 817) :: (63, 2, .istore 9, [], 0) :: bk_194_3
def bk_194_1 : List ex_R := (24, 1, .aload_n 0, [], 0) :: (25, 1, .iload_n 1, [], 0) :: (26, 1, .iload_n 2, [], 0) :: (27, 3, .invokevirtual 327, [0, 167, 3, 9], 794) :: (30, 1, .aload_n 0, [], 0) :: (31, 2, .iload 4, [], 0) :: (33, 2, .iload 4, [], 0) :: (35, 1, .iload_n 3, [], 0) :: (36, 3, .invokevirtual 346, [0, 168, 4, 9], 813) :: (39, 1, .lconst 1, [], 0) :: (40, 2, .lstore 5, [], 0) :: (42, 1, .iconst 0, [], 0) :: (43, 2, .istore 7, [], 0) :: bk_194_2
def bk_194_0 : List ex_R := [(0, 1, .aload_n 0, [], 0), (1, 1, .iconst 0, [], 0), (2, 3, .putfield 132, [9, 0, 0, 647, 0], 0), (5, 1, .aload_n 0, [], 0), (6, 1, .aload_n 0, [], 0), (7, 1, .iload_n 1, [], 0), (8, 1, .iload_n 2, [], 0), (9, 1, .iload_n 3, [], 0), (10, 2, .iload 4, [], 0), (12, 3, .invokevirtual 377, [0, 193, 5, 9], 854), (15, 1, .iconst 1, [], 1), (16, 3, .invokevirtual 279, [0, 132, 3, 9], 724), (19, 3, .ifCond .ne 5, [1], 0), (22, 1, .lconst 0, [], 0), (23, 1, .lreturn, [], 0)]
def me_194 : ex_M := (yX10_always, cX10_always, 11, some .long, RX10, [bk_194_0, bk_194_1, bk_194_2, bk_194_3, bk_194_4, bk_194_5, bk_194_6, bk_194_7], [])
def bk_195_6 : List ex_R := [(138, 2, .bipush 60, [], 60), (140, 2, .iload 4, [], 0), (142, 1, .imul, [], 0), (143, 2, .iload 5, [], 0), (145, 1, .iadd, [], 0), (146, 1, .ireturn, [], 0)]
def bk_195_5 : List ex_R := [(59, 2, .iload 6, [], 0), (61, 1, .iload_n 3, [], 0), (62, 3, .if_icmp .ge 76, [6], 0), (65, 1, .aload_n 0, [], 0), (66, 1, .aload_n 0, [], 0), (67, 2, .iload 6, [], 0), (69, 3, .invokevirtual 337, [0, 173, 2, 9], 807), (72, 1, .aload_n 0, [], 0), (73, 2, .iload 6, [], 0), (75, 3, .invokevirtual 340, [0, 174, 2, 9], 809), (78, 3, .invokevirtual 327, [0, 167, 3, 9], 794), (81, 1, .aload_n 0, [], 0), (82, 1, .aload_n 0, [], 0), (83, 3, .getfield 57, [9, 38, 2, 685, 0], 0), (86, 2, .iload 4, [], 0), (88, 1, .iaload, [], 0), (89, 1, .aload_n 0, [], 0), (90, 3, .getfield 57, [9, 38, 2, 685, 0], 0), (93, 2, .iload 5, [], 0), (95, 1, .iaload, [], 0), (96, 1, .aload_n 0, [], 0), (97, 1, .aload_n 0, [], 0), (98, 2, .iload 6, [], 0), (100, 3, .invokevirtual 343, [0, 175, 2, 9], 811), (103, 1, .aload_n 0, [], 0), (104, 3, .getfield 57, [9, 38, 2, 685, 0], 0), (107, 2, .iload 4, [], 0), (109, 1, .iaload, [], 0), (110, 3, .invokevirtual 331, [0, 172, 3, 9], 798), (113, 3, .invokevirtual 346, [0, 168, 4, 9], 813), (116, 1, .aload_n 0, [], 0), (117, 2, .iload 4, [], 0), (119, 3, .invokevirtual 350, [0, 170, 2, 9], 817), (122, 2, .istore 4, [], 0), (124, 1, .aload_n 0, [], 0), (125, 2, .iload 5, [], 0), (127, 3, .invokevirtual 350, [0, 170, 2, 9], 817), (130, 2, .istore 5, [], 0), (132, 3, .iinc 6 1, [], 1), (135, 3, .goto (-76), [5], 0)]
def bk_195_4 : List ex_R := (50, 1, .iload_n 1, [], 0) :: (51, 2, .istore 4, [], 0) :: (53, 1, .iload_n 2, [], 0) :: (54, 2, .istore 5, [], 0) :: (56, 1, .iconst 0, [], 0) :: (57, 2, .istore 6, [], 0) :: bk_195_5
def bk_195_3 : List ex_R := [(48, 1, .iconst 0, [], 0), (49, 1, .ireturn, [], 0)]
def bk_195_2 : List ex_R := (41, 1, .iconst 2, [], 2) :: (42, 3, .invokevirtual 279, [0, 132, 3, 9], 724) :: (45, 3, .ifCond .ne 5, [4], 0) :: bk_195_3
def bk_195_1 : List ex_R := (40, 1, .iconst 0, [], 0) :: bk_195_2
def bk_195_0 : List ex_R := [(0, 1, .aload_n 0, [], 0), (1, 1, .iconst 0, [], 0), (2, 3, .putfield 132, [9, 0, 0, 647, 0], 0), (5, 1, .aload_n 0, [], 0), (6, 1, .iload_n 1, [], 0), (7, 3, .invokevirtual 334, [0, 176, 2, 9], 805), (10, 3, .ifCond .eq 38, [3], 0), (13, 1, .aload_n 0, [], 0), (14, 1, .iload_n 2, [], 0), (15, 3, .invokevirtual 334, [0, 176, 2, 9], 805), (18, 3, .ifCond .eq 30, [3], 0), (21, 1, .aload_n 0, [], 0), (22, 1, .iload_n 3, [], 0), (23, 1, .iconst 2, [], 2), (24, 3, .invokevirtual 359, [0, 178, 3, 9], 822), (27, 3, .ifCond .eq 21, [3], 0), (30, 1, .aload_n 0, [], 0), (31, 1, .iload_n 1, [], 0), (32, 1, .iload_n 2, [], 0), (33, 3, .if_icmp .eq 7, [1], 0), (36, 1, .iconst 1, [], 1), (37, 3, .goto 4, [2], 0)]
def me_195 : ex_M := (yX10_two, cX10_two, 7, some .int, RX10, [bk_195_0, bk_195_1, bk_195_2, bk_195_3, bk_195_4, bk_195_5, bk_195_6], [])
def bk_196_18 : List ex_R := [(292, 1, .iload_n 3, [], 0), (293, 1, .ireturn, [], 0)]
def bk_196_17 : List ex_R := [(285, 1, .istore_n 3, [], 0), (286, 3, .iinc 4 1, [], 1), (289, 3, .goto (-243), [3], 0)]
def bk_196_16 : List ex_R := (284, 1, .iload_n 3, [], 0) :: bk_196_17
def bk_196_15 : List ex_R := [(273, 2, .iload 6, [], 0), (275, 1, .iload_n 3, [], 0), (276, 3, .if_icmp .le 8, [16], 0), (279, 2, .iload 6, [], 0), (281, 3, .goto 4, [17], 0)]
def bk_196_14 : List ex_R := [(264, 1, .iadd, [], 0), (265, 2, .istore 6, [], 0), (267, 3, .iinc 7 1, [], 1), (270, 3, .goto (-36), [12], 0)]
def bk_196_13 : List ex_R := (263, 1, .iconst 0, [], 0) :: bk_196_14
def bk_196_12 : List ex_R := [(234, 2, .iload 7, [], 0), (236, 1, .aload_n 0, [], 0), (237, 3, .getfield 7, [9, 1, 0, 648, 0], 0), (240, 3, .if_icmp .ge 33, [15], 0), (243, 2, .iload 6, [], 0), (245, 1, .aload_n 0, [], 0), (246, 3, .getfield 93, [9, 51, 2, 698, 0], 0), (249, 2, .iload 7, [], 0), (251, 1, .iaload, [], 0), (252, 1, .aload_n 0, [], 0), (253, 3, .getfield 289, [9, 4, 0, 651, 0], 0), (256, 3, .if_icmp .gt 7, [13], 0), (259, 1, .iconst 1, [], 1), (260, 3, .goto 4, [14], 0)]
def bk_196_11 : List ex_R := (228, 1, .iconst 0, [], 0) :: (229, 2, .istore 6, [], 0) :: (231, 1, .iconst 0, [], 0) :: (232, 2, .istore 7, [], 0) :: bk_196_12
def bk_196_10 : List ex_R := [(222, 3, .iinc 6 1, [], 1), (225, 3, .goto (-131), [6], 0)]
def bk_196_9 : List ex_R := [(196, 1, .iadd, [], 0), (197, 1, .iastore, [], 0), (198, 1, .aload_n 0, [], 0), (199, 3, .getfield 90, [9, 50, 2, 697, 0], 0), (202, 2, .iload 8, [], 0), (204, 1, .aload_n 0, [], 0), (205, 1, .aload_n 0, [], 0), (206, 3, .getfield 90, [9, 50, 2, 697, 0], 0), (209, 2, .iload 8, [], 0), (211, 1, .iaload, [], 0), (212, 3, .invokevirtual 350, [0, 170, 2, 9], 817), (215, 1, .iastore, [], 0), (216, 3, .iinc 8 1, [], 1), (219, 3, .goto (-62), [7], 0)]
def bk_196_8 : List ex_R := (195, 1, .iconst 0, [], 0) :: bk_196_9
def bk_196_7 : List ex_R := [(157, 2, .iload 8, [], 0), (159, 1, .aload_n 0, [], 0), (160, 3, .getfield 7, [9, 1, 0, 648, 0], 0), (163, 3, .if_icmp .ge 59, [10], 0), (166, 1, .aload_n 0, [], 0), (167, 3, .getfield 93, [9, 51, 2, 698, 0], 0), (170, 2, .iload 8, [], 0), (172, 1, .dup2, [], 0), (173, 1, .iaload, [], 0), (174, 1, .aload_n 0, [], 0), (175, 3, .getfield 57, [9, 38, 2, 685, 0], 0), (178, 1, .aload_n 0, [], 0), (179, 3, .getfield 90, [9, 50, 2, 697, 0], 0), (182, 2, .iload 8, [], 0), (184, 1, .iaload, [], 0), (185, 1, .iaload, [], 0), (186, 2, .iload 7, [], 0), (188, 3, .if_icmp .eq 7, [8], 0), (191, 1, .iconst 1, [], 1), (192, 3, .goto 4, [9], 0)]
def bk_196_6 : List ex_R := (94, 2, .iload 6, [], 0) :: (96, 1, .iload_n 1, [], 0) :: (97, 3, .if_icmp .ge 131, [11], 0) :: (100, 2, .iload 5, [], 0) :: (102, 1, .aload_n 0, [], 0) :: (103, 3, .getfield 13, [9, 2, 0, 649, 0], 0) :: (106, 1, .irem, [], 0) :: (107, 2, .istore 7, [], 0) :: (109, 2, .iload 5, [], 0) :: (111, 1, .aload_n 0, [], 0) :: (112, 3, .getfield 13, [9, 2, 0, 649, 0], 0) :: (115, 1, .idiv, [], 0) :: (116, 2, .istore 5, [], 0) :: (118, 1, .aload_n 0, [], 0) :: (119, 1, .aload_n 0, [], 0) :: (120, 2, .iload 6, [], 0) :: (122, 3, .invokevirtual 337, [0, 173, 2, 9], 807) :: (125, 1, .aload_n 0, [], 0) :: (126, 2, .iload 6, [], 0) :: (128, 3, .invokevirtual 340, [0, 174, 2, 9], 809) :: (131, 3, .invokevirtual 327, [0, 167, 3, 9], 794) :: (134, 1, .aload_n 0, [], 0) :: (135, 2, .iload 7, [], 0) :: (137, 2, .iload 7, [], 0) :: (139, 1, .aload_n 0, [], 0) :: (140, 1, .aload_n 0, [], 0) :: (141, 2, .iload 6, [], 0) :: (143, 3, .invokevirtual 343, [0, 175, 2, 9], 811) :: (146, 2, .iload 7, [], 0) :: (148, 3, .invokevirtual 331, [0, 172, 3, 9], 798) :: (151, 3, .invokevirtual 346, [0, 168, 4, 9], 813) :: (154, 1, .iconst 0, [], 0) :: (155, 2, .istore 8, [], 0) :: bk_196_7
def bk_196_5 : List ex_R := (87, 2, .iload 4, [], 0) :: (89, 2, .istore 5, [], 0) :: (91, 1, .iconst 0, [], 0) :: (92, 2, .istore 6, [], 0) :: bk_196_6
def bk_196_4 : List ex_R := [(55, 2, .iload 5, [], 0), (57, 1, .aload_n 0, [], 0), (58, 3, .getfield 7, [9, 1, 0, 648, 0], 0), (61, 3, .if_icmp .ge 26, [5], 0), (64, 1, .aload_n 0, [], 0), (65, 3, .getfield 90, [9, 50, 2, 697, 0], 0), (68, 2, .iload 5, [], 0), (70, 2, .iload 5, [], 0), (72, 1, .iastore, [], 0), (73, 1, .aload_n 0, [], 0), (74, 3, .getfield 93, [9, 51, 2, 698, 0], 0), (77, 2, .iload 5, [], 0), (79, 1, .iconst 0, [], 0), (80, 1, .iastore, [], 0), (81, 3, .iinc 5 1, [], 1), (84, 3, .goto (-29), [4], 0)]
def bk_196_3 : List ex_R := (46, 2, .iload 4, [], 0) :: (48, 1, .iload_n 2, [], 0) :: (49, 3, .if_icmp .ge 243, [18], 0) :: (52, 1, .iconst 0, [], 0) :: (53, 2, .istore 5, [], 0) :: bk_196_4
def bk_196_2 : List ex_R := (41, 1, .iconst 0, [], 0) :: (42, 1, .istore_n 3, [], 0) :: (43, 1, .iconst 0, [], 0) :: (44, 2, .istore 4, [], 0) :: bk_196_3
def bk_196_1 : List ex_R := [(22, 1, .aload_n 0, [], 0), (23, 3, .getfield 13, [9, 2, 0, 649, 0], 0), (26, 1, .iload_n 1, [], 0), (27, 3, .invokestatic 368, [2, 188, 2, 0], 843), (30, 1, .istore_n 2, [], 0), (31, 1, .iload_n 2, [], 0), (32, 3, .sipush 5000, [], 5000), (35, 3, .if_icmp .le 6, [2], 0), (38, 2, .bipush (-2), [], (-2)), (40, 1, .ireturn, [], 0)]
def bk_196_0 : List ex_R := [(0, 1, .aload_n 0, [], 0), (1, 1, .iconst 0, [], 0), (2, 3, .putfield 132, [9, 0, 0, 647, 0], 0), (5, 1, .aload_n 0, [], 0), (6, 1, .iload_n 1, [], 0), (7, 1, .iconst 0, [], 0), (8, 2, .bipush 6, [], 6), (10, 3, .invokestatic 306, [2, 133, 3, 0], 785), (13, 1, .iconst 1, [], 1), (14, 3, .invokevirtual 279, [0, 132, 3, 9], 724), (17, 3, .ifCond .ne 5, [1], 0), (20, 1, .iconst 0, [], 0), (21, 1, .ireturn, [], 0)]
def me_196 : ex_M := (yX10_worst, cX10_worst, 9, some .int, RX10, [bk_196_0, bk_196_1, bk_196_2, bk_196_3, bk_196_4, bk_196_5, bk_196_6, bk_196_7, bk_196_8, bk_196_9, bk_196_10, bk_196_11, bk_196_12, bk_196_13, bk_196_14, bk_196_15, bk_196_16, bk_196_17, bk_196_18], [])
def bk_197_2 : List ex_R := [(23, 1, .ireturn, [], 0)]
def bk_197_1 : List ex_R := (22, 1, .iconst 0, [], 0) :: bk_197_2
def bk_197_0 : List ex_R := [(0, 1, .aload_n 0, [], 0), (1, 1, .iconst 0, [], 0), (2, 3, .putfield 132, [9, 0, 0, 647, 0], 0), (5, 1, .aload_n 0, [], 0), (6, 1, .iload_n 1, [], 0), (7, 3, .invokevirtual 334, [0, 176, 2, 9], 805), (10, 3, .ifCond .eq 12, [1], 0), (13, 1, .aload_n 0, [], 0), (14, 3, .getfield 96, [9, 53, 2, 700, 0], 0), (17, 1, .iload_n 1, [], 0), (18, 1, .iaload, [], 0), (19, 3, .goto 4, [2], 0)]
def me_197 : ex_M := (yX10_card, cX10_card, 2, some .int, RX10, [bk_197_0, bk_197_1, bk_197_2], [])
def bk_198_4 : List ex_R := [(39, 1, .iload_n 1, [], 0), (40, 1, .ireturn, [], 0)]
def bk_198_3 : List ex_R := [(31, 1, .iadd, [], 0), (32, 1, .istore_n 1, [], 0), (33, 3, .iinc 2 1, [], 1), (36, 3, .goto (-32), [1], 0)]
def bk_198_2 : List ex_R := (30, 1, .iconst 0, [], 0) :: bk_198_3
def bk_198_1 : List ex_R := [(4, 1, .iload_n 2, [], 0), (5, 1, .aload_n 0, [], 0), (6, 3, .getfield 7, [9, 1, 0, 648, 0], 0), (9, 3, .if_icmp .ge 30, [4], 0), (12, 1, .iload_n 1, [], 0), (13, 1, .aload_n 0, [], 0), (14, 3, .getfield 102, [9, 55, 2, 702, 0], 0), (17, 1, .iload_n 2, [], 0), (18, 1, .iaload, [], 0), (19, 1, .aload_n 0, [], 0), (20, 3, .getfield 289, [9, 4, 0, 651, 0], 0), (23, 3, .if_icmp .gt 7, [2], 0), (26, 1, .iconst 1, [], 1), (27, 3, .goto 4, [3], 0)]
def bk_198_0 : List ex_R := (0, 1, .iconst 0, [], 0) :: (1, 1, .istore_n 1, [], 0) :: (2, 1, .iconst 0, [], 0) :: (3, 1, .istore_n 2, [], 0) :: bk_198_1
def me_198 : ex_M := (yX10_fitting, cX10_fitting, 3, some .int, RX10, [bk_198_0, bk_198_1, bk_198_2, bk_198_3, bk_198_4], [])
def bk_199_10 : List ex_R := [(225, 1, .aload_n 0, [], 0), (226, 3, .invokevirtual 310, [0, 198, 1, 9], 787), (229, 1, .ireturn, [], 0)]
def bk_199_9 : List ex_R := [(196, 2, .iload 5, [], 0), (198, 1, .aload_n 0, [], 0), (199, 3, .getfield 7, [9, 1, 0, 648, 0], 0), (202, 3, .if_icmp .ge 23, [10], 0), (205, 1, .aload_n 0, [], 0), (206, 3, .getfield 96, [9, 53, 2, 700, 0], 0), (209, 2, .iload 5, [], 0), (211, 1, .aload_n 0, [], 0), (212, 3, .getfield 111, [9, 58, 2, 705, 0], 0), (215, 2, .iload 5, [], 0), (217, 1, .iaload, [], 0), (218, 1, .iastore, [], 0), (219, 3, .iinc 5 1, [], 1), (222, 3, .goto (-26), [9], 0)]
def bk_199_8 : List ex_R := (193, 1, .iconst 0, [], 0) :: (194, 2, .istore 5, [], 0) :: bk_199_9
def bk_199_7 : List ex_R := [(167, 1, .iadd, [], 0), (168, 1, .iastore, [], 0), (169, 1, .aload_n 0, [], 0), (170, 3, .getfield 111, [9, 58, 2, 705, 0], 0), (173, 1, .aload_n 0, [], 0), (174, 2, .iload 5, [], 0), (176, 3, .invokevirtual 350, [0, 170, 2, 9], 817), (179, 1, .aload_n 0, [], 0), (180, 3, .getfield 96, [9, 53, 2, 700, 0], 0), (183, 2, .iload 5, [], 0), (185, 1, .iaload, [], 0), (186, 1, .iastore, [], 0), (187, 3, .iinc 5 1, [], 1), (190, 3, .goto (-62), [5], 0)]
def bk_199_6 : List ex_R := (166, 1, .iconst 0, [], 0) :: bk_199_7
def bk_199_5 : List ex_R := [(128, 2, .iload 5, [], 0), (130, 1, .aload_n 0, [], 0), (131, 3, .getfield 7, [9, 1, 0, 648, 0], 0), (134, 3, .if_icmp .ge 59, [8], 0), (137, 1, .aload_n 0, [], 0), (138, 3, .getfield 102, [9, 55, 2, 702, 0], 0), (141, 1, .aload_n 0, [], 0), (142, 3, .getfield 96, [9, 53, 2, 700, 0], 0), (145, 2, .iload 5, [], 0), (147, 1, .iaload, [], 0), (148, 1, .dup2, [], 0), (149, 1, .iaload, [], 0), (150, 1, .aload_n 0, [], 0), (151, 3, .getfield 57, [9, 38, 2, 685, 0], 0), (154, 2, .iload 5, [], 0), (156, 1, .iaload, [], 0), (157, 2, .iload 4, [], 0), (159, 3, .if_icmp .eq 7, [6], 0), (162, 1, .iconst 1, [], 1), (163, 3, .goto 4, [7], 0)]
def bk_199_4 : List ex_R := (100, 1, .aload_n 0, [], 0) :: (101, 1, .dup, [], 0) :: (102, 3, .getfield 303, [9, 52, 0, 699, 0], 0) :: (105, 1, .iconst 1, [], 1) :: (106, 1, .iadd, [], 0) :: (107, 3, .putfield 303, [9, 52, 0, 699, 0], 0) :: (110, 1, .aload_n 0, [], 0) :: (111, 1, .iload_n 1, [], 0) :: (112, 1, .iload_n 2, [], 0) :: (113, 3, .invokevirtual 327, [0, 167, 3, 9], 794) :: (116, 1, .aload_n 0, [], 0) :: (117, 2, .iload 4, [], 0) :: (119, 2, .iload 4, [], 0) :: (121, 1, .iload_n 3, [], 0) :: (122, 3, .invokevirtual 346, [0, 168, 4, 9], 813) :: (125, 1, .iconst 0, [], 0) :: (126, 2, .istore 5, [], 0) :: bk_199_5
def bk_199_3 : List ex_R := [(41, 2, .iload 5, [], 0), (43, 1, .aload_n 0, [], 0), (44, 3, .getfield 7, [9, 1, 0, 648, 0], 0), (47, 3, .if_icmp .ge 53, [4], 0), (50, 1, .aload_n 0, [], 0), (51, 3, .getfield 105, [9, 56, 2, 703, 0], 0), (54, 2, .bipush 60, [], 60), (56, 1, .aload_n 0, [], 0), (57, 3, .getfield 303, [9, 52, 0, 699, 0], 0), (60, 1, .imul, [], 0), (61, 2, .iload 5, [], 0), (63, 1, .iadd, [], 0), (64, 1, .aload_n 0, [], 0), (65, 3, .getfield 96, [9, 53, 2, 700, 0], 0), (68, 2, .iload 5, [], 0), (70, 1, .iaload, [], 0), (71, 1, .iastore, [], 0), (72, 1, .aload_n 0, [], 0), (73, 3, .getfield 108, [9, 57, 2, 704, 0], 0), (76, 2, .bipush 60, [], 60), (78, 1, .aload_n 0, [], 0), (79, 3, .getfield 303, [9, 52, 0, 699, 0], 0), (82, 1, .imul, [], 0), (83, 2, .iload 5, [], 0), (85, 1, .iadd, [], 0), (86, 1, .aload_n 0, [], 0), (87, 3, .getfield 102, [9, 55, 2, 702, 0], 0), (90, 2, .iload 5, [], 0), (92, 1, .iaload, [], 0), (93, 1, .iastore, [], 0), (94, 3, .iinc 5 1, [], 1), (97, 3, .goto (-56), [3], 0)]
def bk_199_2 : List ex_R := (38, 1, .iconst 0, [], 0) :: (39, 2, .istore 5, [], 0) :: bk_199_3
def bk_199_1 : List ex_R := [(26, 1, .aload_n 0, [], 0), (27, 3, .getfield 35, [9, 14, 2, 661, 0], 0), (30, 1, .iconst 1, [], 1), (31, 1, .dup2, [], 0), (32, 1, .iaload, [], 0), (33, 1, .iconst 1, [], 1), (34, 1, .iadd, [], 0), (35, 1, .iastore, [], 0), (36, 1, .iconst (-1), [], (-1)), (37, 1, .ireturn, [], 0)]
def bk_199_0 : List ex_R := (0, 1, .aload_n 0, [], 0) :: (1, 1, .iconst 0, [], 0) :: (2, 3, .putfield 132, [9, 0, 0, 647, 0], 0) :: (5, 1, .aload_n 0, [], 0) :: (6, 3, .getfield 303, [9, 52, 0, 699, 0], 0) :: (9, 2, .bipush 20, [], 20) :: (11, 3, .if_icmp .eq 15, [1], 0) :: (14, 1, .aload_n 0, [], 0) :: (15, 1, .iload_n 1, [], 0) :: (16, 1, .iload_n 2, [], 0) :: (17, 1, .iload_n 3, [], 0) :: (18, 2, .iload 4, [], 0) :: (20, 3, .invokevirtual 377, [0, 193, 5, 9], 854) :: (23, 3, .ifCond .ne 15, [2], 0) :: bk_199_1
def me_199 : ex_M := (yX10_answer, cX10_answer, 6, some .int, RX10, [bk_199_0, bk_199_1, bk_199_2, bk_199_3, bk_199_4, bk_199_5, bk_199_6, bk_199_7, bk_199_8, bk_199_9, bk_199_10], [])
def bk_200_3 : List ex_R := [(80, 1, .aload_n 0, [], 0), (81, 3, .getfield 303, [9, 52, 0, 699, 0], 0), (84, 1, .ireturn, [], 0)]
def bk_200_2 : List ex_R := [(26, 1, .iload_n 1, [], 0), (27, 1, .aload_n 0, [], 0), (28, 3, .getfield 7, [9, 1, 0, 648, 0], 0), (31, 3, .if_icmp .ge 49, [3], 0), (34, 1, .aload_n 0, [], 0), (35, 3, .getfield 96, [9, 53, 2, 700, 0], 0), (38, 1, .iload_n 1, [], 0), (39, 1, .aload_n 0, [], 0), (40, 3, .getfield 105, [9, 56, 2, 703, 0], 0), (43, 2, .bipush 60, [], 60), (45, 1, .aload_n 0, [], 0), (46, 3, .getfield 303, [9, 52, 0, 699, 0], 0), (49, 1, .imul, [], 0), (50, 1, .iload_n 1, [], 0), (51, 1, .iadd, [], 0), (52, 1, .iaload, [], 0), (53, 1, .iastore, [], 0), (54, 1, .aload_n 0, [], 0), (55, 3, .getfield 102, [9, 55, 2, 702, 0], 0), (58, 1, .iload_n 1, [], 0), (59, 1, .aload_n 0, [], 0), (60, 3, .getfield 108, [9, 57, 2, 704, 0], 0), (63, 2, .bipush 60, [], 60), (65, 1, .aload_n 0, [], 0), (66, 3, .getfield 303, [9, 52, 0, 699, 0], 0), (69, 1, .imul, [], 0), (70, 1, .iload_n 1, [], 0), (71, 1, .iadd, [], 0), (72, 1, .iaload, [], 0), (73, 1, .iastore, [], 0), (74, 3, .iinc 1 1, [], 1), (77, 3, .goto (-51), [2], 0)]
def bk_200_1 : List ex_R := (14, 1, .aload_n 0, [], 0) :: (15, 1, .dup, [], 0) :: (16, 3, .getfield 303, [9, 52, 0, 699, 0], 0) :: (19, 1, .iconst 1, [], 1) :: (20, 1, .isub, [], 0) :: (21, 3, .putfield 303, [9, 52, 0, 699, 0], 0) :: (24, 1, .iconst 0, [], 0) :: (25, 1, .istore_n 1, [], 0) :: bk_200_2
def bk_200_0 : List ex_R := [(0, 1, .aload_n 0, [], 0), (1, 1, .iconst 0, [], 0), (2, 3, .putfield 132, [9, 0, 0, 647, 0], 0), (5, 1, .aload_n 0, [], 0), (6, 3, .getfield 303, [9, 52, 0, 699, 0], 0), (9, 3, .ifCond .ne 5, [1], 0), (12, 1, .iconst (-1), [], (-1)), (13, 1, .ireturn, [], 0)]
def me_200 : ex_M := (yX10_undo, cX10_undo, 2, some .int, RX10, [bk_200_0, bk_200_1, bk_200_2, bk_200_3], [])
def bk_201_2 : List ex_R := [(23, 1, .ireturn, [], 0)]
def bk_201_1 : List ex_R := (22, 1, .iconst 0, [], 0) :: bk_201_2
def bk_201_0 : List ex_R := [(0, 1, .aload_n 0, [], 0), (1, 1, .iconst 0, [], 0), (2, 3, .putfield 132, [9, 0, 0, 647, 0], 0), (5, 1, .aload_n 0, [], 0), (6, 1, .iload_n 1, [], 0), (7, 3, .invokevirtual 334, [0, 176, 2, 9], 805), (10, 3, .ifCond .eq 12, [1], 0), (13, 1, .aload_n 0, [], 0), (14, 3, .getfield 102, [9, 55, 2, 702, 0], 0), (17, 1, .iload_n 1, [], 0), (18, 1, .iaload, [], 0), (19, 3, .goto 4, [2], 0)]
def me_201 : ex_M := (yX10_lies, cX10_lies, 2, some .int, RX10, [bk_201_0, bk_201_1, bk_201_2], [])
def bk_202_4 : List ex_R := [(46, 1, .lload_n 1, [], 0), (47, 1, .lreturn, [], 0)]
def bk_202_3 : List ex_R := [(38, 1, .lor, [], 0), (39, 1, .lstore_n 1, [], 0), (40, 3, .iinc 3 1, [], 1), (43, 3, .goto (-34), [1], 0)]
def bk_202_2 : List ex_R := (37, 1, .lconst 0, [], 0) :: bk_202_3
def bk_202_1 : List ex_R := [(9, 1, .iload_n 3, [], 0), (10, 1, .aload_n 0, [], 0), (11, 3, .getfield 7, [9, 1, 0, 648, 0], 0), (14, 3, .if_icmp .ge 32, [4], 0), (17, 1, .lload_n 1, [], 0), (18, 1, .aload_n 0, [], 0), (19, 3, .getfield 102, [9, 55, 2, 702, 0], 0), (22, 1, .iload_n 3, [], 0), (23, 1, .iaload, [], 0), (24, 1, .aload_n 0, [], 0), (25, 3, .getfield 289, [9, 4, 0, 651, 0], 0), (28, 3, .if_icmp .gt 9, [2], 0), (31, 1, .lconst 1, [], 0), (32, 1, .iload_n 3, [], 0), (33, 1, .lshl, [], 0), (34, 3, .goto 4, [3], 0)]
def bk_202_0 : List ex_R := (0, 1, .aload_n 0, [], 0) :: (1, 1, .iconst 0, [], 0) :: (2, 3, .putfield 132, [9, 0, 0, 647, 0], 0) :: (5, 1, .lconst 0, [], 0) :: (6, 1, .lstore_n 1, [], 0) :: (7, 1, .iconst 0, [], 0) :: (8, 1, .istore_n 3, [], 0) :: bk_202_1
def me_202 : ex_M := (yX10_fits, cX10_fits, 4, some .long, RX10, [bk_202_0, bk_202_1, bk_202_2, bk_202_3, bk_202_4], [])
def bk_203_0 : List ex_R := [(0, 1, .aload_n 0, [], 0), (1, 1, .iconst 0, [], 0), (2, 3, .putfield 132, [9, 0, 0, 647, 0], 0), (5, 1, .aload_n 0, [], 0), (6, 1, .aload_n 0, [], 0), (7, 3, .getfield 96, [9, 53, 2, 700, 0], 0), (10, 1, .aload_n 0, [], 0), (11, 3, .getfield 99, [9, 54, 2, 701, 0], 0), (14, 3, .invokevirtual 295, [0, 134, 3, 9], 777), (17, 1, .return_, [], 0)]
def me_203 : ex_M := (yX10_see, cX10_see, 1, none, RX10, [bk_203_0], [])
def bk_204_3 : List ex_R := [(56, 1, .iconst 1, [], 1), (57, 1, .ireturn, [], 0)]
def bk_204_2 : List ex_R := [(50, 3, .iinc 5 1, [], 1), (53, 3, .goto (-35), [1], 0)]
def bk_204_1 : List ex_R := [(18, 2, .iload 5, [], 0), (20, 1, .aload_n 0, [], 0), (21, 3, .getfield 7, [9, 1, 0, 648, 0], 0), (24, 3, .if_icmp .ge 32, [3], 0), (27, 1, .aload_n 0, [], 0), (28, 3, .getfield 96, [9, 53, 2, 700, 0], 0), (31, 1, .aload_n 0, [], 0), (32, 2, .iload 5, [], 0), (34, 3, .invokevirtual 350, [0, 170, 2, 9], 817), (37, 1, .iaload, [], 0), (38, 1, .aload_n 0, [], 0), (39, 3, .getfield 99, [9, 54, 2, 701, 0], 0), (42, 2, .iload 5, [], 0), (44, 1, .iaload, [], 0), (45, 3, .if_icmp .eq 5, [2], 0), (48, 1, .iconst 0, [], 0), (49, 1, .ireturn, [], 0)]
def bk_204_0 : List ex_R := (0, 1, .aload_n 0, [], 0) :: (1, 1, .iload_n 1, [], 0) :: (2, 1, .iload_n 2, [], 0) :: (3, 3, .invokevirtual 327, [0, 167, 3, 9], 794) :: (6, 1, .aload_n 0, [], 0) :: (7, 2, .iload 4, [], 0) :: (9, 2, .iload 4, [], 0) :: (11, 1, .iload_n 3, [], 0) :: (12, 3, .invokevirtual 346, [0, 168, 4, 9], 813) :: (15, 1, .iconst 0, [], 0) :: (16, 2, .istore 5, [], 0) :: bk_204_1
def me_204 : ex_M := (yX10_isBetween, cX10_isBetween, 6, some .boolean, RX10, [bk_204_0, bk_204_1, bk_204_2, bk_204_3], [])
def bk_205_10 : List ex_R := [(141, 1, .ireturn, [], 0)]
def bk_205_9 : List ex_R := (140, 1, .iload_n 3, [], 0) :: bk_205_10
def bk_205_8 : List ex_R := [(132, 1, .iload_n 1, [], 0), (133, 3, .ifCond .ne 7, [9], 0), (136, 1, .iload_n 2, [], 0), (137, 3, .goto 4, [10], 0)]
def bk_205_7 : List ex_R := [(126, 3, .iinc 4 1, [], 1), (129, 3, .goto (-93), [5], 0)]
def bk_205_6 : List ex_R := (115, 3, .iinc 2 1, [], 1) :: (118, 1, .iload_n 3, [], 0) :: (119, 1, .iconst (-1), [], (-1)) :: (120, 3, .if_icmp .ne 6, [7], 0) :: (123, 2, .iload 4, [], 0) :: (125, 1, .istore_n 3, [], 0) :: bk_205_7
def bk_205_5 : List ex_R := [(36, 2, .iload 4, [], 0), (38, 3, .sipush 1296, [], 1296), (41, 3, .if_icmp .ge 91, [8], 0), (44, 1, .aload_n 0, [], 0), (45, 2, .iload 4, [], 0), (47, 3, .sipush 216, [], 216), (50, 1, .idiv, [], 0), (51, 2, .iload 4, [], 0), (53, 2, .bipush 36, [], 36), (55, 1, .idiv, [], 0), (56, 2, .bipush 6, [], 6), (58, 1, .irem, [], 0), (59, 2, .iload 4, [], 0), (61, 2, .bipush 6, [], 6), (63, 1, .idiv, [], 0), (64, 2, .bipush 6, [], 6), (66, 1, .irem, [], 0), (67, 2, .iload 4, [], 0), (69, 2, .bipush 6, [], 6), (71, 1, .irem, [], 0), (72, 3, .invokevirtual 377, [0, 193, 5, 9], 854), (75, 3, .ifCond .eq 51, [7], 0), (78, 1, .aload_n 0, [], 0), (79, 2, .iload 4, [], 0), (81, 3, .sipush 216, [], 216), (84, 1, .idiv, [], 0), (85, 2, .iload 4, [], 0), (87, 2, .bipush 36, [], 36), (89, 1, .idiv, [], 0), (90, 2, .bipush 6, [], 6), (92, 1, .irem, [], 0), (93, 2, .iload 4, [], 0), (95, 2, .bipush 6, [], 6), (97, 1, .idiv, [], 0), (98, 2, .bipush 6, [], 6), (100, 1, .irem, [], 0), (101, 2, .iload 4, [], 0), (103, 2, .bipush 6, [], 6), (105, 1, .irem, [], 0), (106, 3, .invokevirtual 381, [0, 204, 5, 9], 883), (109, 3, .ifCond .ne 6, [6], 0), (112, 3, .goto 14, [7], 0)]
def bk_205_4 : List ex_R := (29, 1, .iconst 0, [], 0) :: (30, 1, .istore_n 2, [], 0) :: (31, 1, .iconst (-1), [], (-1)) :: (32, 1, .istore_n 3, [], 0) :: (33, 1, .iconst 0, [], 0) :: (34, 2, .istore 4, [], 0) :: bk_205_5
def bk_205_3 : List ex_R := [(20, 1, .iconst 1, [], 1), (21, 3, .invokevirtual 279, [0, 132, 3, 9], 724), (24, 3, .ifCond .ne 5, [4], 0), (27, 1, .iconst 0, [], 0), (28, 1, .ireturn, [], 0)]
def bk_205_2 : List ex_R := (19, 1, .iconst 0, [], 0) :: bk_205_3
def bk_205_1 : List ex_R := [(15, 1, .iconst 1, [], 1), (16, 3, .goto 4, [3], 0)]
def bk_205_0 : List ex_R := (0, 1, .aload_n 0, [], 0) :: (1, 1, .iconst 0, [], 0) :: (2, 3, .putfield 132, [9, 0, 0, 647, 0], 0) :: (5, 1, .aload_n 0, [], 0) :: (6, 1, .iload_n 1, [], 0) :: (7, 3, .ifCond .eq 8, [1], 0) :: (10, 1, .iload_n 1, [], 0) :: (11, 1, .iconst 1, [], 1) :: (12, 3, .if_icmp .ne 7, [2], 0) :: bk_205_1
def me_205 : ex_M := (yX10_between, cX10_between, 5, some .int, RX10, [bk_205_0, bk_205_1, bk_205_2, bk_205_3, bk_205_4, bk_205_5, bk_205_6, bk_205_7, bk_205_8, bk_205_9, bk_205_10], [])
def bk_206_6 : List ex_R := [(105, 2, .iload 5, [], 0), (107, 1, .ireturn, [], 0)]
def bk_206_5 : List ex_R := [(96, 1, .iadd, [], 0), (97, 2, .istore 5, [], 0), (99, 3, .iinc 6 1, [], 1), (102, 3, .goto (-57), [3], 0)]
def bk_206_4 : List ex_R := (95, 1, .iconst 0, [], 0) :: bk_206_5
def bk_206_3 : List ex_R := [(45, 2, .iload 6, [], 0), (47, 1, .iload_n 2, [], 0), (48, 3, .if_icmp .ge 57, [6], 0), (51, 2, .iload 4, [], 0), (53, 3, .ldc_w 384, [888], 1103515245), (56, 1, .imul, [], 0), (57, 3, .sipush 12345, [], 12345), (60, 1, .iadd, [], 0), (61, 2, .istore 4, [], 0), (63, 2, .iload 5, [], 0), (65, 1, .aload_n 0, [], 0), (66, 3, .getfield 75, [9, 44, 2, 691, 0], 0), (69, 2, .iload 4, [], 0), (71, 2, .bipush 16, [], 16), (73, 1, .ishr, [], 0), (74, 3, .sipush 32767, [], 32767), (77, 1, .iand, [], 0), (78, 1, .aload_n 0, [], 0), (79, 3, .getfield 7, [9, 1, 0, 648, 0], 0), (82, 1, .irem, [], 0), (83, 1, .iaload, [], 0), (84, 1, .aload_n 0, [], 0), (85, 3, .getfield 292, [9, 5, 0, 652, 0], 0), (88, 3, .if_icmp .ne 7, [4], 0), (91, 1, .iconst 1, [], 1), (92, 3, .goto 4, [5], 0)]
def bk_206_2 : List ex_R := (31, 1, .aload_n 0, [], 0) :: (32, 1, .iload_n 3, [], 0) :: (33, 3, .invokevirtual 362, [0, 183, 2, 9], 824) :: (36, 1, .iload_n 1, [], 0) :: (37, 2, .istore 4, [], 0) :: (39, 1, .iconst 0, [], 0) :: (40, 2, .istore 5, [], 0) :: (42, 1, .iconst 0, [], 0) :: (43, 2, .istore 6, [], 0) :: bk_206_3
def bk_206_1 : List ex_R := [(29, 1, .iconst 0, [], 0), (30, 1, .ireturn, [], 0)]
def bk_206_0 : List ex_R := (0, 1, .aload_n 0, [], 0) :: (1, 1, .iconst 0, [], 0) :: (2, 3, .putfield 132, [9, 0, 0, 647, 0], 0) :: (5, 1, .aload_n 0, [], 0) :: (6, 1, .iload_n 2, [], 0) :: (7, 1, .iconst 0, [], 0) :: (8, 2, .bipush 60, [], 60) :: (10, 3, .invokestatic 306, [2, 133, 3, 0], 785) :: (13, 1, .iconst 1, [], 1) :: (14, 3, .invokevirtual 279, [0, 132, 3, 9], 724) :: (17, 3, .ifCond .eq 12, [1], 0) :: (20, 1, .aload_n 0, [], 0) :: (21, 1, .iload_n 3, [], 0) :: (22, 1, .iconst 1, [], 1) :: (23, 3, .invokevirtual 359, [0, 178, 3, 9], 822) :: (26, 3, .ifCond .ne 5, [2], 0) :: bk_206_1
def me_206 : ex_M := (yX10_evenings, cX10_evenings, 7, some .int, RX10, [bk_206_0, bk_206_1, bk_206_2, bk_206_3, bk_206_4, bk_206_5, bk_206_6], [])
def bk_207_6 : List ex_R := [(74, 1, .iload_n 3, [], 0), (75, 1, .ireturn, [], 0)]
def bk_207_5 : List ex_R := [(62, 2, .iload 4, [], 0), (64, 1, .iconst 3, [], 3), (65, 1, .imul, [], 0), (66, 2, .istore 4, [], 0), (68, 3, .iinc 3 1, [], 1), (71, 3, .goto (-32), [3], 0)]
def bk_207_4 : List ex_R := (52, 2, .iload 4, [], 0) :: (54, 1, .iconst 3, [], 3) :: (55, 1, .isub, [], 0) :: (56, 1, .iconst 2, [], 2) :: (57, 1, .iload_n 1, [], 0) :: (58, 1, .imul, [], 0) :: (59, 3, .if_icmp .ge 15, [6], 0) :: bk_207_5
def bk_207_3 : List ex_R := [(39, 1, .iload_n 2, [], 0), (40, 3, .ifCond .eq 12, [4], 0), (43, 2, .iload 4, [], 0), (45, 1, .iload_n 1, [], 0), (46, 3, .if_icmp .ge 28, [6], 0), (49, 3, .goto 13, [5], 0)]
def bk_207_2 : List ex_R := (34, 1, .iconst 0, [], 0) :: (35, 1, .istore_n 3, [], 0) :: (36, 1, .iconst 1, [], 1) :: (37, 2, .istore 4, [], 0) :: bk_207_3
def bk_207_1 : List ex_R := [(23, 1, .iload_n 2, [], 0), (24, 3, .ifCond .ne 10, [2], 0), (27, 1, .iload_n 1, [], 0), (28, 1, .iconst 3, [], 3), (29, 3, .if_icmp .ge 5, [2], 0), (32, 1, .iconst (-1), [], (-1)), (33, 1, .ireturn, [], 0)]
def bk_207_0 : List ex_R := [(0, 1, .aload_n 0, [], 0), (1, 1, .iconst 0, [], 0), (2, 3, .putfield 132, [9, 0, 0, 647, 0], 0), (5, 1, .aload_n 0, [], 0), (6, 1, .iload_n 1, [], 0), (7, 1, .iconst 1, [], 1), (8, 3, .sipush 1000, [], 1000), (11, 3, .invokestatic 306, [2, 133, 3, 0], 785), (14, 1, .iconst 1, [], 1), (15, 3, .invokevirtual 279, [0, 132, 3, 9], 724), (18, 3, .ifCond .ne 5, [1], 0), (21, 1, .iconst 0, [], 0), (22, 1, .ireturn, [], 0)]
def me_207 : ex_M := (yX10_weighings, cX10_weighings, 5, some .int, RX10, [bk_207_0, bk_207_1, bk_207_2, bk_207_3, bk_207_4, bk_207_5, bk_207_6], [])
def bk_208_0 : List ex_R := [(0, 1, .aload_n 0, [], 0), (1, 1, .iconst 0, [], 0), (2, 3, .putfield 132, [9, 0, 0, 647, 0], 0), (5, 1, .aload_n 0, [], 0), (6, 1, .iconst 1, [], 1), (7, 3, .putfield 299, [9, 59, 3, 706, 0], 0), (10, 1, .aload_n 0, [], 0), (11, 1, .aload_n 0, [], 0), (12, 3, .getfield 303, [9, 52, 0, 699, 0], 0), (15, 3, .putfield 385, [9, 60, 0, 707, 0], 0), (18, 1, .aload_n 0, [], 0), (19, 1, .aload_n 0, [], 0), (20, 3, .getfield 96, [9, 53, 2, 700, 0], 0), (23, 1, .aload_n 0, [], 0), (24, 3, .getfield 114, [9, 61, 2, 708, 0], 0), (27, 3, .invokevirtual 295, [0, 134, 3, 9], 777), (30, 1, .aload_n 0, [], 0), (31, 1, .aload_n 0, [], 0), (32, 3, .getfield 99, [9, 54, 2, 701, 0], 0), (35, 1, .aload_n 0, [], 0), (36, 3, .getfield 117, [9, 62, 2, 709, 0], 0), (39, 3, .invokevirtual 295, [0, 134, 3, 9], 777), (42, 1, .aload_n 0, [], 0), (43, 1, .aload_n 0, [], 0), (44, 3, .getfield 102, [9, 55, 2, 702, 0], 0), (47, 1, .aload_n 0, [], 0), (48, 3, .getfield 120, [9, 63, 2, 710, 0], 0), (51, 3, .invokevirtual 295, [0, 134, 3, 9], 777), (54, 1, .aload_n 0, [], 0), (55, 1, .aload_n 0, [], 0), (56, 3, .getfield 105, [9, 56, 2, 703, 0], 0), (59, 1, .aload_n 0, [], 0), (60, 3, .getfield 123, [9, 64, 2, 711, 0], 0), (63, 3, .invokevirtual 295, [0, 134, 3, 9], 777), (66, 1, .aload_n 0, [], 0), (67, 1, .aload_n 0, [], 0), (68, 3, .getfield 108, [9, 57, 2, 704, 0], 0), (71, 1, .aload_n 0, [], 0), (72, 3, .getfield 126, [9, 65, 2, 712, 0], 0), (75, 3, .invokevirtual 295, [0, 134, 3, 9], 777), (78, 1, .return_, [], 0)]
def me_208 : ex_M := (yX10_image, cX10_image, 1, none, RX10, [bk_208_0], [])
def bk_209_1 : List ex_R := [(14, 1, .aload_n 0, [], 0), (15, 1, .aload_n 0, [], 0), (16, 3, .getfield 385, [9, 60, 0, 707, 0], 0), (19, 3, .putfield 303, [9, 52, 0, 699, 0], 0), (22, 1, .aload_n 0, [], 0), (23, 1, .aload_n 0, [], 0), (24, 3, .getfield 114, [9, 61, 2, 708, 0], 0), (27, 1, .aload_n 0, [], 0), (28, 3, .getfield 96, [9, 53, 2, 700, 0], 0), (31, 3, .invokevirtual 295, [0, 134, 3, 9], 777), (34, 1, .aload_n 0, [], 0), (35, 1, .aload_n 0, [], 0), (36, 3, .getfield 117, [9, 62, 2, 709, 0], 0), (39, 1, .aload_n 0, [], 0), (40, 3, .getfield 99, [9, 54, 2, 701, 0], 0), (43, 3, .invokevirtual 295, [0, 134, 3, 9], 777), (46, 1, .aload_n 0, [], 0), (47, 1, .aload_n 0, [], 0), (48, 3, .getfield 120, [9, 63, 2, 710, 0], 0), (51, 1, .aload_n 0, [], 0), (52, 3, .getfield 102, [9, 55, 2, 702, 0], 0), (55, 3, .invokevirtual 295, [0, 134, 3, 9], 777), (58, 1, .aload_n 0, [], 0), (59, 1, .aload_n 0, [], 0), (60, 3, .getfield 123, [9, 64, 2, 711, 0], 0), (63, 1, .aload_n 0, [], 0), (64, 3, .getfield 105, [9, 56, 2, 703, 0], 0), (67, 3, .invokevirtual 295, [0, 134, 3, 9], 777), (70, 1, .aload_n 0, [], 0), (71, 1, .aload_n 0, [], 0), (72, 3, .getfield 126, [9, 65, 2, 712, 0], 0), (75, 1, .aload_n 0, [], 0), (76, 3, .getfield 108, [9, 57, 2, 704, 0], 0), (79, 3, .invokevirtual 295, [0, 134, 3, 9], 777), (82, 1, .iconst 1, [], 1), (83, 1, .ireturn, [], 0)]
def bk_209_0 : List ex_R := [(0, 1, .aload_n 0, [], 0), (1, 1, .iconst 0, [], 0), (2, 3, .putfield 132, [9, 0, 0, 647, 0], 0), (5, 1, .aload_n 0, [], 0), (6, 3, .getfield 299, [9, 59, 3, 706, 0], 0), (9, 3, .ifCond .ne 5, [1], 0), (12, 1, .iconst 0, [], 0), (13, 1, .ireturn, [], 0)]
def me_209 : ex_M := (yX10_restore, cX10_restore, 1, some .boolean, RX10, [bk_209_0, bk_209_1], [])
def bk_210_0 : List ex_R := [(0, 1, .lload_n 0, [], 0), (1, 1, .lload_n 0, [], 0), (2, 1, .iconst 1, [], 1), (3, 1, .lushr, [], 0), (4, 3, .ldc2_w 314, [6148914691236517205, 357], 0), (7, 1, .land, [], 0), (8, 1, .lsub, [], 0), (9, 1, .lstore_n 0, [], 0), (10, 1, .lload_n 0, [], 0), (11, 3, .ldc2_w 316, [3689348814741910323, 358], 0), (14, 1, .land, [], 0), (15, 1, .lload_n 0, [], 0), (16, 1, .iconst 2, [], 2), (17, 1, .lushr, [], 0), (18, 3, .ldc2_w 316, [3689348814741910323, 358], 0), (21, 1, .land, [], 0), (22, 1, .ladd, [], 0), (23, 1, .lstore_n 0, [], 0), (24, 1, .lload_n 0, [], 0), (25, 1, .lload_n 0, [], 0), (26, 1, .iconst 4, [], 4), (27, 1, .lushr, [], 0), (28, 1, .ladd, [], 0), (29, 3, .ldc2_w 318, [1085102592571150095, 359], 0), (32, 1, .land, [], 0), (33, 1, .lstore_n 0, [], 0), (34, 1, .lload_n 0, [], 0), (35, 1, .lload_n 0, [], 0), (36, 2, .bipush 8, [], 8), (38, 1, .lushr, [], 0), (39, 1, .ladd, [], 0), (40, 1, .lstore_n 0, [], 0), (41, 1, .lload_n 0, [], 0), (42, 1, .lload_n 0, [], 0), (43, 2, .bipush 16, [], 16), (45, 1, .lushr, [], 0), (46, 1, .ladd, [], 0), (47, 1, .lstore_n 0, [], 0), (48, 1, .lload_n 0, [], 0), (49, 1, .lload_n 0, [], 0), (50, 2, .bipush 32, [], 32), (52, 1, .lushr, [], 0), (53, 1, .ladd, [], 0), (54, 1, .lstore_n 0, [], 0), (55, 1, .lload_n 0, [], 0), (56, 1, .l2i, [], 0), (57, 2, .bipush 127, [], 127), (59, 1, .iand, [], 0), (60, 1, .ireturn, [], 0)]
def me_210 : ex_M := (yJ13_bitCount_95d88, cJ13_bitCount_95d88, 2, some .int, RJ13, [bk_210_0], [])
def bk_211_1 : List ex_R := [(18, 1, .iload_n 2, [], 0), (19, 1, .ireturn, [], 0)]
def bk_211_0 : List ex_R := [(0, 1, .iload_n 0, [], 0), (1, 1, .iload_n 1, [], 0), (2, 1, .irem, [], 0), (3, 1, .istore_n 2, [], 0), (4, 1, .iload_n 0, [], 0), (5, 1, .iload_n 1, [], 0), (6, 1, .ixor, [], 0), (7, 3, .ifCond .ge 11, [1], 0), (10, 1, .iload_n 2, [], 0), (11, 3, .ifCond .eq 7, [1], 0), (14, 1, .iload_n 2, [], 0), (15, 1, .iload_n 1, [], 0), (16, 1, .iadd, [], 0), (17, 1, .ireturn, [], 0)]
def me_211 : ex_M := (yJ9_floorMod_7cf53, cJ9_floorMod_7cf53, 3, some .int, RJ9, [bk_211_0, bk_211_1], [])
def bk_212_2 : List ex_R := [(10, 1, .ireturn, [], 0)]
def bk_212_1 : List ex_R := (9, 1, .iload_n 1, [], 0) :: bk_212_2
def bk_212_0 : List ex_R := [(0, 1, .iload_n 0, [], 0), (1, 1, .iload_n 1, [], 0), (2, 3, .if_icmp .lt 7, [1], 0), (5, 1, .iload_n 0, [], 0), (6, 3, .goto 4, [2], 0)]
def me_212 : ex_M := (yJ9_max_7cf53, cJ9_max_7cf53, 2, some .int, RJ9, [bk_212_0, bk_212_1, bk_212_2], [])
def bk_213_2 : List ex_R := [(10, 1, .ireturn, [], 0)]
def bk_213_1 : List ex_R := (9, 1, .iload_n 1, [], 0) :: bk_213_2
def bk_213_0 : List ex_R := [(0, 1, .iload_n 0, [], 0), (1, 1, .iload_n 1, [], 0), (2, 3, .if_icmp .gt 7, [1], 0), (5, 1, .iload_n 0, [], 0), (6, 3, .goto 4, [2], 0)]
def me_213 : ex_M := (yJ9_min_7cf53, cJ9_min_7cf53, 2, some .int, RJ9, [bk_213_0, bk_213_1, bk_213_2], [])
def bk_214_0 : List ex_R := [(0, 1, .aload_n 0, [], 0), (1, 3, .getfield 9, [101, 0, 2, 899, 0], 0), (4, 1, .arraylength, [], 0), (5, 1, .aload_n 0, [], 0), (6, 3, .invokevirtual 335, [0, 216, 1, 101], 428), (9, 1, .ishr, [], 0), (10, 1, .ireturn, [], 0)]
def me_214 : ex_M := (yJ0_length_8abf5, cJ0_length_8abf5, 1, some .int, RJ0, [bk_214_0], [])
def bk_215_1 : List ex_R := [(16, 1, .aload_n 0, [], 0), (17, 3, .getfield 9, [101, 0, 2, 899, 0], 0), (20, 1, .iload_n 1, [], 0)]
def bk_215_0 : List ex_R := [(0, 1, .aload_n 0, [], 0), (1, 3, .invokevirtual 492, [0, 217, 1, 101], 435), (4, 3, .ifCond .eq 12, [1], 0), (7, 1, .aload_n 0, [], 0), (8, 3, .getfield 9, [101, 0, 2, 899, 0], 0), (11, 1, .iload_n 1, [], 0), (12, 3, .invokestatic 495, [2, 219, 2, 0], 438), (15, 1, .ireturn, [], 0)]
def me_215 : ex_M := (yJ0_charAt_5068e, cJ0_charAt_5068e, 2, some .char, RJ0, [bk_215_0, bk_215_1], [])
def bk_216_2 : List ex_R := [(14, 1, .ireturn, [], 0)]
def bk_216_1 : List ex_R := (13, 1, .iconst 1, [], 1) :: bk_216_2
def bk_216_0 : List ex_R := [(0, 3, .getstatic 38, [1, 0, 22, 431, 0], 1), (3, 3, .ifCond .eq 10, [1], 0), (6, 1, .aload_n 0, [], 0), (7, 3, .getfield 15, [101, 1, 4, 900, 0], 0), (10, 3, .goto 4, [2], 0)]
def me_216 : ex_M := (yJ0_coder_7d493, cJ0_coder_7d493, 1, some .byte, RJ0, [bk_216_0, bk_216_1, bk_216_2], [])
def bk_217_2 : List ex_R := [(18, 1, .ireturn, [], 0)]
def bk_217_1 : List ex_R := (17, 1, .iconst 0, [], 0) :: bk_217_2
def bk_217_0 : List ex_R := [(0, 3, .getstatic 38, [1, 0, 22, 431, 0], 1), (3, 3, .ifCond .eq 14, [1], 0), (6, 1, .aload_n 0, [], 0), (7, 3, .getfield 15, [101, 1, 4, 900, 0], 0), (10, 3, .ifCond .ne 7, [1], 0), (13, 1, .iconst 1, [], 1), (14, 3, .goto 4, [2], 0)]
def me_217 : ex_M := (yJ0_isLatin1_aae02, cJ0_isLatin1_aae02, 1, some .boolean, RJ0, [bk_217_0, bk_217_1, bk_217_2], [])
def bk_218_0 : List ex_R := [(0, 1, .iload_n 0, [], 0), (1, 1, .iload_n 1, [], 0), (2, 3, .getstatic 1053, [2, 56, 21, 442, 0], 0), (5, 3, .invokestatic 1059, [2, 221, 3, 0], 443), (8, 1, .pop, [], 0), (9, 1, .return_, [], 0)]
def me_218 : ex_M := (yJ0_checkIndex_df160, cJ0_checkIndex_df160, 2, none, RJ0, [bk_218_0], [])
def bk_219_0 : List ex_R := [(0, 1, .iload_n 1, [], 0), (1, 1, .aload_n 0, [], 0), (2, 1, .arraylength, [], 0), (3, 3, .invokestatic 9, [2, 218, 2, 0], 440), (6, 1, .aload_n 0, [], 0), (7, 1, .iload_n 1, [], 0), (8, 1, .baload, [], 0), (9, 3, .sipush 255, [], 255), (12, 1, .iand, [], 0), (13, 1, .i2c, [], 0), (14, 1, .ireturn, [], 0)]
def me_219 : ex_M := (yJ1_charAt_3b067, cJ1_charAt_3b067, 2, some .char, RJ1, [bk_219_0], [])
def bk_220_2 : List ex_R := [(20, 1, .return_, [], 0)]
def bk_220_1 : List ex_R := [(5, 1, .iload_n 2, [], 0), (6, 1, .iload_n 3, [], 0), (7, 3, .if_icmp .ge 13, [2], 0), (10, 1, .aload_n 0, [], 0), (11, 1, .iload_n 2, [], 0), (12, 1, .iload_n 1, [], 0), (13, 1, .iastore, [], 0), (14, 3, .iinc 2 1, [], 1), (17, 3, .goto (-12), [1], 0)]
def bk_220_0 : List ex_R := (0, 1, .iconst 0, [], 0) :: (1, 1, .istore_n 2, [], 0) :: (2, 1, .aload_n 0, [], 0) :: (3, 1, .arraylength, [], 0) :: (4, 1, .istore_n 3, [], 0) :: bk_220_1
def me_220 : ex_M := (yJ7_fill_53178, cJ7_fill_53178, 4, none, RJ7, [bk_220_0, bk_220_1, bk_220_2], [])
def bk_221_2 : List ex_R := [(16, 1, .iload_n 0, [], 0), (17, 1, .ireturn, [], 0)]
def bk_221_1 : List ex_R := [(9, 1, .aload_n 2, [], 0), (10, 1, .iload_n 0, [], 0), (11, 1, .iload_n 1, [], 0)]
def bk_221_0 : List ex_R := (0, 1, .iload_n 0, [], 0) :: (1, 3, .ifCond .lt 8, [1], 0) :: (4, 1, .iload_n 0, [], 0) :: (5, 1, .iload_n 1, [], 0) :: (6, 3, .if_icmp .lt 10, [2], 0) :: bk_221_1
def me_221 : ex_M := (yJ3_checkIndex_8e157, cJ3_checkIndex_8e157, 3, some .int, RJ3, [bk_221_0, bk_221_1, bk_221_2], [])
def bk_222_2 : List ex_R := [(15, 1, .iconst 0, [], 0), (16, 1, .ireturn, [], 0)]
def bk_222_1 : List ex_R := [(12, 1, .astore_n 3, [], 0), (13, 1, .iconst 1, [], 1), (14, 1, .ireturn, [], 0)]
def bk_222_0 : List ex_R := [(0, 1, .aload_n 2, [], 0), (1, 1, .iconst 0, [], 0), (2, 1, .aload_n 0, [], 0), (3, 1, .iload_n 1, [], 0), (4, 3, .invokevirtual 7, [9, 89, 2, 8, 0, 1], 381), (7, 1, .i2l, [], 0), (8, 1, .lastore, [], 0), (9, 3, .goto 6, [2], 0)]
def me_222 : ex_M := (yL_trick, cL_trick, 4, some .int, RL, [bk_222_0, bk_222_1, bk_222_2], [(0, 9, 12, 13)])
def bk_223_2 : List ex_R := [(15, 1, .iconst 0, [], 0), (16, 1, .ireturn, [], 0)]
def bk_223_1 : List ex_R := [(12, 1, .astore_n 3, [], 0), (13, 1, .iconst 1, [], 1), (14, 1, .ireturn, [], 0)]
def bk_223_0 : List ex_R := [(0, 1, .aload_n 2, [], 0), (1, 1, .iconst 0, [], 0), (2, 1, .aload_n 0, [], 0), (3, 1, .iload_n 1, [], 0), (4, 3, .invokevirtual 15, [9, 91, 2, 8, 1, 1], 526), (7, 1, .i2l, [], 0), (8, 1, .lastore, [], 0), (9, 3, .goto 6, [2], 0)]
def me_223 : ex_M := (yL_count, cL_count, 4, some .int, RL, [bk_223_0, bk_223_1, bk_223_2], [(0, 9, 12, 18)])
def bk_224_2 : List ex_R := [(19, 1, .iconst 0, [], 0), (20, 1, .ireturn, [], 0)]
def bk_224_1 : List ex_R := [(15, 2, .astore 5, [], 0), (17, 1, .iconst 1, [], 1), (18, 1, .ireturn, [], 0)]
def bk_224_0 : List ex_R := [(0, 2, .aload 4, [], 0), (2, 1, .iconst 0, [], 0), (3, 1, .aload_n 0, [], 0), (4, 1, .iload_n 1, [], 0), (5, 1, .iload_n 2, [], 0), (6, 1, .iload_n 3, [], 0), (7, 3, .invokevirtual 20, [9, 92, 4, 8, 1, 1], 537), (10, 1, .i2l, [], 0), (11, 1, .lastore, [], 0), (12, 3, .goto 7, [2], 0)]
def me_224 : ex_M := (yL_told, cL_told, 6, some .int, RL, [bk_224_0, bk_224_1, bk_224_2], [(0, 12, 15, 18)])
def bk_225_2 : List ex_R := [(19, 1, .iconst 0, [], 0), (20, 1, .ireturn, [], 0)]
def bk_225_1 : List ex_R := [(15, 2, .astore 5, [], 0), (17, 1, .iconst 1, [], 1), (18, 1, .ireturn, [], 0)]
def bk_225_0 : List ex_R := [(0, 2, .aload 4, [], 0), (2, 1, .iconst 0, [], 0), (3, 1, .aload_n 0, [], 0), (4, 1, .iload_n 1, [], 0), (5, 1, .iload_n 2, [], 0), (6, 1, .iload_n 3, [], 0), (7, 3, .invokevirtual 24, [9, 93, 4, 8, 1, 1], 542), (10, 1, .i2l, [], 0), (11, 1, .lastore, [], 0), (12, 3, .goto 7, [2], 0)]
def me_225 : ex_M := (yL_goes, cL_goes, 6, some .int, RL, [bk_225_0, bk_225_1, bk_225_2], [(0, 12, 15, 18)])
def bk_226_3 : List ex_R := [(21, 1, .iconst 0, [], 0), (22, 1, .ireturn, [], 0)]
def bk_226_2 : List ex_R := [(17, 2, .astore 4, [], 0), (19, 1, .iconst 2, [], 2), (20, 1, .ireturn, [], 0)]
def bk_226_1 : List ex_R := [(13, 2, .astore 4, [], 0), (15, 1, .iconst 1, [], 1), (16, 1, .ireturn, [], 0)]
def bk_226_0 : List ex_R := [(0, 1, .aload_n 3, [], 0), (1, 1, .iconst 0, [], 0), (2, 1, .aload_n 0, [], 0), (3, 1, .iload_n 1, [], 0), (4, 1, .iload_n 2, [], 0), (5, 3, .invokevirtual 27, [9, 94, 3, 8, 1, 1, 0, 2], 548), (8, 1, .i2l, [], 0), (9, 1, .lastore, [], 0), (10, 3, .goto 11, [3], 0)]
def me_226 : ex_M := (yL_end, cL_end, 5, some .int, RL, [bk_226_0, bk_226_1, bk_226_2, bk_226_3], [(0, 10, 13, 18), (0, 10, 17, 13)])
def bk_227_2 : List ex_R := [(15, 1, .iconst 0, [], 0), (16, 1, .ireturn, [], 0)]
def bk_227_1 : List ex_R := [(12, 1, .astore_n 3, [], 0), (13, 1, .iconst 1, [], 1), (14, 1, .ireturn, [], 0)]
def bk_227_0 : List ex_R := [(0, 1, .aload_n 2, [], 0), (1, 1, .iconst 0, [], 0), (2, 1, .aload_n 0, [], 0), (3, 1, .iload_n 1, [], 0), (4, 3, .invokevirtual 31, [9, 95, 2, 8, 0, 1], 556), (7, 1, .i2l, [], 0), (8, 1, .lastore, [], 0), (9, 3, .goto 6, [2], 0)]
def me_227 : ex_M := (yL_sure, cL_sure, 4, some .int, RL, [bk_227_0, bk_227_1, bk_227_2], [(0, 9, 12, 13)])
def bk_228_3 : List ex_R := [(21, 1, .iconst 0, [], 0), (22, 1, .ireturn, [], 0)]
def bk_228_2 : List ex_R := [(17, 2, .astore 4, [], 0), (19, 1, .iconst 2, [], 2), (20, 1, .ireturn, [], 0)]
def bk_228_1 : List ex_R := [(13, 2, .astore 4, [], 0), (15, 1, .iconst 1, [], 1), (16, 1, .ireturn, [], 0)]
def bk_228_0 : List ex_R := [(0, 1, .aload_n 3, [], 0), (1, 1, .iconst 0, [], 0), (2, 1, .aload_n 0, [], 0), (3, 1, .iload_n 1, [], 0), (4, 1, .iload_n 2, [], 0), (5, 3, .invokevirtual 34, [9, 97, 3, 8, 1, 1, 0, 2], 561), (8, 1, .i2l, [], 0), (9, 1, .lastore, [], 0), (10, 3, .goto 11, [3], 0)]
def me_228 : ex_M := (yL_wished, cL_wished, 5, some .int, RL, [bk_228_0, bk_228_1, bk_228_2, bk_228_3], [(0, 10, 13, 18), (0, 10, 17, 13)])
def bk_229_2 : List ex_R := [(15, 1, .iconst 0, [], 0), (16, 1, .ireturn, [], 0)]
def bk_229_1 : List ex_R := [(12, 1, .astore_n 3, [], 0), (13, 1, .iconst 1, [], 1), (14, 1, .ireturn, [], 0)]
def bk_229_0 : List ex_R := [(0, 1, .aload_n 2, [], 0), (1, 1, .iconst 0, [], 0), (2, 1, .aload_n 0, [], 0), (3, 1, .iload_n 1, [], 0), (4, 3, .invokevirtual 37, [9, 98, 2, 8, 1, 1], 575), (7, 1, .i2l, [], 0), (8, 1, .lastore, [], 0), (9, 3, .goto 6, [2], 0)]
def me_229 : ex_M := (yL_laying, cL_laying, 4, some .int, RL, [bk_229_0, bk_229_1, bk_229_2], [(0, 9, 12, 18)])
def bk_230_2 : List ex_R := [(15, 1, .iconst 0, [], 0), (16, 1, .ireturn, [], 0)]
def bk_230_1 : List ex_R := [(12, 1, .astore_n 3, [], 0), (13, 1, .iconst 1, [], 1), (14, 1, .ireturn, [], 0)]
def bk_230_0 : List ex_R := [(0, 1, .aload_n 2, [], 0), (1, 1, .iconst 0, [], 0), (2, 1, .aload_n 0, [], 0), (3, 1, .iload_n 1, [], 0), (4, 3, .invokevirtual 40, [9, 99, 2, 8, 1, 1], 581), (7, 1, .i2l, [], 0), (8, 1, .lastore, [], 0), (9, 3, .goto 6, [2], 0)]
def me_230 : ex_M := (yL_fewest, cL_fewest, 4, some .int, RL, [bk_230_0, bk_230_1, bk_230_2], [(0, 9, 12, 18)])
def bk_231_2 : List ex_R := [(20, 1, .iconst 0, [], 0), (21, 1, .ireturn, [], 0)]
def bk_231_1 : List ex_R := [(16, 2, .astore 6, [], 0), (18, 1, .iconst 1, [], 1), (19, 1, .ireturn, [], 0)]
def bk_231_0 : List ex_R := [(0, 2, .aload 5, [], 0), (2, 1, .iconst 0, [], 0), (3, 1, .aload_n 0, [], 0), (4, 1, .iload_n 1, [], 0), (5, 1, .iload_n 2, [], 0), (6, 1, .iload_n 3, [], 0), (7, 2, .iload 4, [], 0), (9, 3, .invokevirtual 43, [9, 100, 5, 8, 0, 1], 586), (12, 1, .lastore, [], 0), (13, 3, .goto 7, [2], 0)]
def me_231 : ex_M := (yL_always, cL_always, 7, some .int, RL, [bk_231_0, bk_231_1, bk_231_2], [(0, 13, 16, 13)])
def bk_232_3 : List ex_R := [(23, 1, .iconst 0, [], 0), (24, 1, .ireturn, [], 0)]
def bk_232_2 : List ex_R := [(19, 2, .astore 5, [], 0), (21, 1, .iconst 2, [], 2), (22, 1, .ireturn, [], 0)]
def bk_232_1 : List ex_R := [(15, 2, .astore 5, [], 0), (17, 1, .iconst 1, [], 1), (18, 1, .ireturn, [], 0)]
def bk_232_0 : List ex_R := [(0, 2, .aload 4, [], 0), (2, 1, .iconst 0, [], 0), (3, 1, .aload_n 0, [], 0), (4, 1, .iload_n 1, [], 0), (5, 1, .iload_n 2, [], 0), (6, 1, .iload_n 3, [], 0), (7, 3, .invokevirtual 47, [9, 101, 4, 8, 1, 1, 0, 2], 595), (10, 1, .i2l, [], 0), (11, 1, .lastore, [], 0), (12, 3, .goto 11, [3], 0)]
def me_232 : ex_M := (yL_two, cL_two, 6, some .int, RL, [bk_232_0, bk_232_1, bk_232_2, bk_232_3], [(0, 12, 15, 18), (0, 12, 19, 13)])
def bk_233_2 : List ex_R := [(15, 1, .iconst 0, [], 0), (16, 1, .ireturn, [], 0)]
def bk_233_1 : List ex_R := [(12, 1, .astore_n 3, [], 0), (13, 1, .iconst 1, [], 1), (14, 1, .ireturn, [], 0)]
def bk_233_0 : List ex_R := [(0, 1, .aload_n 2, [], 0), (1, 1, .iconst 0, [], 0), (2, 1, .aload_n 0, [], 0), (3, 1, .iload_n 1, [], 0), (4, 3, .invokevirtual 50, [9, 102, 2, 8, 0, 1], 600), (7, 1, .i2l, [], 0), (8, 1, .lastore, [], 0), (9, 3, .goto 6, [2], 0)]
def me_233 : ex_M := (yL_worst, cL_worst, 4, some .int, RL, [bk_233_0, bk_233_1, bk_233_2], [(0, 9, 12, 13)])
def bk_234_2 : List ex_R := [(15, 1, .iconst 0, [], 0), (16, 1, .ireturn, [], 0)]
def bk_234_1 : List ex_R := [(12, 1, .astore_n 3, [], 0), (13, 1, .iconst 1, [], 1), (14, 1, .ireturn, [], 0)]
def bk_234_0 : List ex_R := [(0, 1, .aload_n 2, [], 0), (1, 1, .iconst 0, [], 0), (2, 1, .aload_n 0, [], 0), (3, 1, .iload_n 1, [], 0), (4, 3, .invokevirtual 53, [9, 103, 2, 8, 1, 1], 611), (7, 1, .i2l, [], 0), (8, 1, .lastore, [], 0), (9, 3, .goto 6, [2], 0)]
def me_234 : ex_M := (yL_card, cL_card, 4, some .int, RL, [bk_234_0, bk_234_1, bk_234_2], [(0, 9, 12, 18)])
def bk_235_2 : List ex_R := [(15, 1, .iconst 0, [], 0), (16, 1, .ireturn, [], 0)]
def bk_235_1 : List ex_R := [(12, 1, .astore_n 3, [], 0), (13, 1, .iconst 1, [], 1), (14, 1, .ireturn, [], 0)]
def bk_235_0 : List ex_R := [(0, 1, .aload_n 2, [], 0), (1, 1, .iconst 0, [], 0), (2, 1, .aload_n 0, [], 0), (3, 1, .iload_n 1, [], 0), (4, 3, .invokevirtual 56, [9, 106, 2, 8, 1, 1], 616), (7, 1, .i2l, [], 0), (8, 1, .lastore, [], 0), (9, 3, .goto 6, [2], 0)]
def me_235 : ex_M := (yL_lies, cL_lies, 4, some .int, RL, [bk_235_0, bk_235_1, bk_235_2], [(0, 9, 12, 18)])
def bk_236_2 : List ex_R := [(15, 1, .iconst 0, [], 0), (16, 1, .ireturn, [], 0)]
def bk_236_1 : List ex_R := [(12, 1, .astore_n 3, [], 0), (13, 1, .iconst 1, [], 1), (14, 1, .ireturn, [], 0)]
def bk_236_0 : List ex_R := [(0, 1, .aload_n 2, [], 0), (1, 1, .iconst 0, [], 0), (2, 1, .aload_n 0, [], 0), (3, 1, .iload_n 1, [], 0), (4, 3, .invokevirtual 59, [9, 109, 2, 8, 1, 1], 621), (7, 1, .i2l, [], 0), (8, 1, .lastore, [], 0), (9, 3, .goto 6, [2], 0)]
def me_236 : ex_M := (yL_between, cL_between, 4, some .int, RL, [bk_236_0, bk_236_1, bk_236_2], [(0, 9, 12, 18)])
def bk_237_2 : List ex_R := [(19, 1, .iconst 0, [], 0), (20, 1, .ireturn, [], 0)]
def bk_237_1 : List ex_R := [(15, 2, .astore 5, [], 0), (17, 1, .iconst 1, [], 1), (18, 1, .ireturn, [], 0)]
def bk_237_0 : List ex_R := [(0, 2, .aload 4, [], 0), (2, 1, .iconst 0, [], 0), (3, 1, .aload_n 0, [], 0), (4, 1, .iload_n 1, [], 0), (5, 1, .iload_n 2, [], 0), (6, 1, .iload_n 3, [], 0), (7, 3, .invokevirtual 62, [9, 110, 4, 8, 0, 1], 630), (10, 1, .i2l, [], 0), (11, 1, .lastore, [], 0), (12, 3, .goto 7, [2], 0)]
def me_237 : ex_M := (yL_evenings, cL_evenings, 6, some .int, RL, [bk_237_0, bk_237_1, bk_237_2], [(0, 12, 15, 13)])
def bk_238_2 : List ex_R := [(17, 1, .iconst 0, [], 0), (18, 1, .ireturn, [], 0)]
def bk_238_1 : List ex_R := [(13, 2, .astore 4, [], 0), (15, 1, .iconst 1, [], 1), (16, 1, .ireturn, [], 0)]
def bk_238_0 : List ex_R := [(0, 1, .aload_n 3, [], 0), (1, 1, .iconst 0, [], 0), (2, 1, .aload_n 0, [], 0), (3, 1, .iload_n 1, [], 0), (4, 1, .iload_n 2, [], 0), (5, 3, .invokevirtual 65, [9, 111, 3, 8, 0, 1], 637), (8, 1, .i2l, [], 0), (9, 1, .lastore, [], 0), (10, 3, .goto 7, [2], 0)]
def me_238 : ex_M := (yL_weighings, cL_weighings, 5, some .int, RL, [bk_238_0, bk_238_1, bk_238_2], [(0, 10, 13, 13)])
def bk_239_67 : List ex_R := [(1523, 1, .iconst 1, [], 1), (1524, 1, .ireturn, [], 0)]
def bk_239_66 : List ex_R := [(1517, 3, .iinc 4 6, [], 6), (1520, 3, .goto (-1497), [1], 0)]
def bk_239_65 : List ex_R := [(1504, 1, .aload_n 1, [], 0), (1505, 3, .invokevirtual 170, [0, 113, 1, 8], 375), (1508, 1, .aload_n 2, [], 0), (1509, 3, .invokevirtual 174, [0, 209, 1, 9], 895), (1512, 3, .if_icmp .eq 5, [66], 0), (1515, 1, .iconst 0, [], 0), (1516, 1, .ireturn, [], 0)]
def bk_239_64 : List ex_R := [(1493, 1, .aload_n 1, [], 0), (1494, 3, .invokevirtual 166, [0, 112, 1, 8], 371), (1497, 1, .aload_n 2, [], 0), (1498, 3, .invokevirtual 169, [0, 208, 1, 9], 892), (1501, 3, .goto 16, [66], 0)]
def bk_239_63 : List ex_R := [(1490, 3, .goto 27, [66], 0)]
def bk_239_62 : List ex_R := [(1473, 2, .iload 5, [], 0), (1475, 3, .ifCond .ne 15, [63], 0), (1478, 1, .aload_n 3, [], 0), (1479, 1, .iconst 0, [], 0), (1480, 1, .laload, [], 0), (1481, 2, .iload 6, [], 0), (1483, 1, .i2l, [], 0), (1484, 1, .lcmp, [], 0), (1485, 3, .ifCond .eq 5, [63], 0), (1488, 1, .iconst 0, [], 0), (1489, 1, .ireturn, [], 0)]
def bk_239_61 : List ex_R := [(1457, 3, .invokevirtual 165, [0, 207, 3, 9], 889), (1460, 2, .istore 6, [], 0), (1462, 1, .aload_n 2, [], 0), (1463, 3, .invokevirtual 84, [0, 131, 1, 9], 713), (1466, 2, .iload 5, [], 0), (1468, 3, .if_icmp .eq 5, [62], 0), (1471, 1, .iconst 0, [], 0), (1472, 1, .ireturn, [], 0)]
def bk_239_60 : List ex_R := (1456, 1, .iconst 0, [], 0) :: bk_239_61
def bk_239_59 : List ex_R := [(1430, 1, .aload_n 3, [], 0), (1431, 3, .invokestatic 162, [8, 238, 4, 0], 635), (1434, 2, .istore 5, [], 0), (1436, 1, .aload_n 2, [], 0), (1437, 1, .aload_n 0, [], 0), (1438, 2, .iload 4, [], 0), (1440, 1, .iconst 1, [], 1), (1441, 1, .iadd, [], 0), (1442, 1, .iaload, [], 0), (1443, 1, .aload_n 0, [], 0), (1444, 2, .iload 4, [], 0), (1446, 1, .iconst 2, [], 2), (1447, 1, .iadd, [], 0), (1448, 1, .iaload, [], 0), (1449, 3, .ifCond .eq 7, [60], 0), (1452, 1, .iconst 1, [], 1), (1453, 3, .goto 4, [61], 0)]
def bk_239_58 : List ex_R := (1429, 1, .iconst 0, [], 0) :: bk_239_59
def bk_239_57 : List ex_R := [(1409, 1, .aload_n 1, [], 0), (1410, 1, .aload_n 0, [], 0), (1411, 2, .iload 4, [], 0), (1413, 1, .iconst 1, [], 1), (1414, 1, .iadd, [], 0), (1415, 1, .iaload, [], 0), (1416, 1, .aload_n 0, [], 0), (1417, 2, .iload 4, [], 0), (1419, 1, .iconst 2, [], 2), (1420, 1, .iadd, [], 0), (1421, 1, .iaload, [], 0), (1422, 3, .ifCond .eq 7, [58], 0), (1425, 1, .iconst 1, [], 1), (1426, 3, .goto 4, [59], 0)]
def bk_239_56 : List ex_R := [(1406, 3, .goto 111, [66], 0)]
def bk_239_55 : List ex_R := [(1389, 2, .iload 5, [], 0), (1391, 3, .ifCond .ne 15, [56], 0), (1394, 1, .aload_n 3, [], 0), (1395, 1, .iconst 0, [], 0), (1396, 1, .laload, [], 0), (1397, 2, .iload 6, [], 0), (1399, 1, .i2l, [], 0), (1400, 1, .lcmp, [], 0), (1401, 3, .ifCond .eq 5, [56], 0), (1404, 1, .iconst 0, [], 0), (1405, 1, .ireturn, [], 0)]
def bk_239_54 : List ex_R := [(1329, 1, .aload_n 1, [], 0), (1330, 1, .aload_n 0, [], 0), (1331, 2, .iload 4, [], 0), (1333, 1, .iconst 1, [], 1), (1334, 1, .iadd, [], 0), (1335, 1, .iaload, [], 0), (1336, 1, .aload_n 0, [], 0), (1337, 2, .iload 4, [], 0), (1339, 1, .iconst 2, [], 2), (1340, 1, .iadd, [], 0), (1341, 1, .iaload, [], 0), (1342, 1, .aload_n 0, [], 0), (1343, 2, .iload 4, [], 0), (1345, 1, .iconst 3, [], 3), (1346, 1, .iadd, [], 0), (1347, 1, .iaload, [], 0), (1348, 1, .aload_n 3, [], 0), (1349, 3, .invokestatic 159, [8, 237, 5, 0], 628), (1352, 2, .istore 5, [], 0), (1354, 1, .aload_n 2, [], 0), (1355, 1, .aload_n 0, [], 0), (1356, 2, .iload 4, [], 0), (1358, 1, .iconst 1, [], 1), (1359, 1, .iadd, [], 0), (1360, 1, .iaload, [], 0), (1361, 1, .aload_n 0, [], 0), (1362, 2, .iload 4, [], 0), (1364, 1, .iconst 2, [], 2), (1365, 1, .iadd, [], 0), (1366, 1, .iaload, [], 0), (1367, 1, .aload_n 0, [], 0), (1368, 2, .iload 4, [], 0), (1370, 1, .iconst 3, [], 3), (1371, 1, .iadd, [], 0), (1372, 1, .iaload, [], 0), (1373, 3, .invokevirtual 161, [0, 206, 4, 9], 885), (1376, 2, .istore 6, [], 0), (1378, 1, .aload_n 2, [], 0), (1379, 3, .invokevirtual 84, [0, 131, 1, 9], 713), (1382, 2, .iload 5, [], 0), (1384, 3, .if_icmp .eq 5, [55], 0), (1387, 1, .iconst 0, [], 0), (1388, 1, .ireturn, [], 0)]
def bk_239_53 : List ex_R := [(1326, 3, .goto 191, [66], 0)]
def bk_239_52 : List ex_R := [(1309, 2, .iload 5, [], 0), (1311, 3, .ifCond .ne 15, [53], 0), (1314, 1, .aload_n 3, [], 0), (1315, 1, .iconst 0, [], 0), (1316, 1, .laload, [], 0), (1317, 2, .iload 6, [], 0), (1319, 1, .i2l, [], 0), (1320, 1, .lcmp, [], 0), (1321, 3, .ifCond .eq 5, [53], 0), (1324, 1, .iconst 0, [], 0), (1325, 1, .ireturn, [], 0)]
def bk_239_51 : List ex_R := [(1273, 1, .aload_n 1, [], 0), (1274, 1, .aload_n 0, [], 0), (1275, 2, .iload 4, [], 0), (1277, 1, .iconst 1, [], 1), (1278, 1, .iadd, [], 0), (1279, 1, .iaload, [], 0), (1280, 1, .aload_n 3, [], 0), (1281, 3, .invokestatic 156, [8, 236, 3, 0], 619), (1284, 2, .istore 5, [], 0), (1286, 1, .aload_n 2, [], 0), (1287, 1, .aload_n 0, [], 0), (1288, 2, .iload 4, [], 0), (1290, 1, .iconst 1, [], 1), (1291, 1, .iadd, [], 0), (1292, 1, .iaload, [], 0), (1293, 3, .invokevirtual 158, [0, 205, 2, 9], 880), (1296, 2, .istore 6, [], 0), (1298, 1, .aload_n 2, [], 0), (1299, 3, .invokevirtual 84, [0, 131, 1, 9], 713), (1302, 2, .iload 5, [], 0), (1304, 3, .if_icmp .eq 5, [52], 0), (1307, 1, .iconst 0, [], 0), (1308, 1, .ireturn, [], 0)]
def bk_239_50 : List ex_R := [(1262, 1, .aload_n 1, [], 0), (1263, 3, .invokevirtual 152, [0, 108, 1, 8], 367), (1266, 1, .aload_n 2, [], 0), (1267, 3, .invokevirtual 155, [0, 203, 1, 9], 877), (1270, 3, .goto 247, [66], 0)]
def bk_239_49 : List ex_R := [(1248, 1, .aload_n 1, [], 0), (1249, 3, .invokevirtual 147, [0, 107, 1, 8], 364), (1252, 1, .aload_n 2, [], 0), (1253, 3, .invokevirtual 151, [0, 202, 1, 9], 874), (1256, 1, .lcmp, [], 0), (1257, 3, .ifCond .eq 260, [66], 0), (1260, 1, .iconst 0, [], 0), (1261, 1, .ireturn, [], 0)]
def bk_239_48 : List ex_R := [(1245, 3, .goto 272, [66], 0)]
def bk_239_47 : List ex_R := [(1228, 2, .iload 5, [], 0), (1230, 3, .ifCond .ne 15, [48], 0), (1233, 1, .aload_n 3, [], 0), (1234, 1, .iconst 0, [], 0), (1235, 1, .laload, [], 0), (1236, 2, .iload 6, [], 0), (1238, 1, .i2l, [], 0), (1239, 1, .lcmp, [], 0), (1240, 3, .ifCond .eq 5, [48], 0), (1243, 1, .iconst 0, [], 0), (1244, 1, .ireturn, [], 0)]
def bk_239_46 : List ex_R := [(1192, 1, .aload_n 1, [], 0), (1193, 1, .aload_n 0, [], 0), (1194, 2, .iload 4, [], 0), (1196, 1, .iconst 1, [], 1), (1197, 1, .iadd, [], 0), (1198, 1, .iaload, [], 0), (1199, 1, .aload_n 3, [], 0), (1200, 3, .invokestatic 144, [8, 235, 3, 0], 614), (1203, 2, .istore 5, [], 0), (1205, 1, .aload_n 2, [], 0), (1206, 1, .aload_n 0, [], 0), (1207, 2, .iload 4, [], 0), (1209, 1, .iconst 1, [], 1), (1210, 1, .iadd, [], 0), (1211, 1, .iaload, [], 0), (1212, 3, .invokevirtual 146, [0, 201, 2, 9], 871), (1215, 2, .istore 6, [], 0), (1217, 1, .aload_n 2, [], 0), (1218, 3, .invokevirtual 84, [0, 131, 1, 9], 713), (1221, 2, .iload 5, [], 0), (1223, 3, .if_icmp .eq 5, [47], 0), (1226, 1, .iconst 0, [], 0), (1227, 1, .ireturn, [], 0)]
def bk_239_45 : List ex_R := [(1179, 1, .aload_n 1, [], 0), (1180, 3, .invokevirtual 140, [0, 105, 1, 8], 360), (1183, 1, .aload_n 2, [], 0), (1184, 3, .invokevirtual 143, [0, 200, 1, 9], 868), (1187, 3, .if_icmp .eq 330, [66], 0), (1190, 1, .iconst 0, [], 0), (1191, 1, .ireturn, [], 0)]
def bk_239_44 : List ex_R := [(1118, 1, .aload_n 1, [], 0), (1119, 1, .aload_n 0, [], 0), (1120, 2, .iload 4, [], 0), (1122, 1, .iconst 1, [], 1), (1123, 1, .iadd, [], 0), (1124, 1, .iaload, [], 0), (1125, 1, .aload_n 0, [], 0), (1126, 2, .iload 4, [], 0), (1128, 1, .iconst 2, [], 2), (1129, 1, .iadd, [], 0), (1130, 1, .iaload, [], 0), (1131, 1, .aload_n 0, [], 0), (1132, 2, .iload 4, [], 0), (1134, 1, .iconst 3, [], 3), (1135, 1, .iadd, [], 0), (1136, 1, .iaload, [], 0), (1137, 1, .aload_n 0, [], 0), (1138, 2, .iload 4, [], 0), (1140, 1, .iconst 4, [], 4), (1141, 1, .iadd, [], 0), (1142, 1, .iaload, [], 0), (1143, 3, .invokevirtual 135, [0, 104, 5, 8], 333), (1146, 1, .aload_n 2, [], 0), (1147, 1, .aload_n 0, [], 0), (1148, 2, .iload 4, [], 0), (1150, 1, .iconst 1, [], 1), (1151, 1, .iadd, [], 0), (1152, 1, .iaload, [], 0), (1153, 1, .aload_n 0, [], 0), (1154, 2, .iload 4, [], 0), (1156, 1, .iconst 2, [], 2), (1157, 1, .iadd, [], 0), (1158, 1, .iaload, [], 0), (1159, 1, .aload_n 0, [], 0), (1160, 2, .iload 4, [], 0), (1162, 1, .iconst 3, [], 3), (1163, 1, .iadd, [], 0), (1164, 1, .iaload, [], 0), (1165, 1, .aload_n 0, [], 0), (1166, 2, .iload 4, [], 0), (1168, 1, .iconst 4, [], 4), (1169, 1, .iadd, [], 0), (1170, 1, .iaload, [], 0), (1171, 3, .invokevirtual 139, [0, 199, 5, 9], 865), (1174, 3, .if_icmp .eq 343, [66], 0), (1177, 1, .iconst 0, [], 0), (1178, 1, .ireturn, [], 0)]
def bk_239_43 : List ex_R := [(1115, 3, .goto 402, [66], 0)]
def bk_239_42 : List ex_R := [(1098, 2, .iload 5, [], 0), (1100, 3, .ifCond .ne 15, [43], 0), (1103, 1, .aload_n 3, [], 0), (1104, 1, .iconst 0, [], 0), (1105, 1, .laload, [], 0), (1106, 2, .iload 6, [], 0), (1108, 1, .i2l, [], 0), (1109, 1, .lcmp, [], 0), (1110, 3, .ifCond .eq 5, [43], 0), (1113, 1, .iconst 0, [], 0), (1114, 1, .ireturn, [], 0)]
def bk_239_41 : List ex_R := [(1062, 1, .aload_n 1, [], 0), (1063, 1, .aload_n 0, [], 0), (1064, 2, .iload 4, [], 0), (1066, 1, .iconst 1, [], 1), (1067, 1, .iadd, [], 0), (1068, 1, .iaload, [], 0), (1069, 1, .aload_n 3, [], 0), (1070, 3, .invokestatic 132, [8, 234, 3, 0], 609), (1073, 2, .istore 5, [], 0), (1075, 1, .aload_n 2, [], 0), (1076, 1, .aload_n 0, [], 0), (1077, 2, .iload 4, [], 0), (1079, 1, .iconst 1, [], 1), (1080, 1, .iadd, [], 0), (1081, 1, .iaload, [], 0), (1082, 3, .invokevirtual 134, [0, 197, 2, 9], 862), (1085, 2, .istore 6, [], 0), (1087, 1, .aload_n 2, [], 0), (1088, 3, .invokevirtual 84, [0, 131, 1, 9], 713), (1091, 2, .iload 5, [], 0), (1093, 3, .if_icmp .eq 5, [42], 0), (1096, 1, .iconst 0, [], 0), (1097, 1, .ireturn, [], 0)]
def bk_239_40 : List ex_R := [(1059, 3, .goto 458, [66], 0)]
def bk_239_39 : List ex_R := [(1042, 2, .iload 5, [], 0), (1044, 3, .ifCond .ne 15, [40], 0), (1047, 1, .aload_n 3, [], 0), (1048, 1, .iconst 0, [], 0), (1049, 1, .laload, [], 0), (1050, 2, .iload 6, [], 0), (1052, 1, .i2l, [], 0), (1053, 1, .lcmp, [], 0), (1054, 3, .ifCond .eq 5, [40], 0), (1057, 1, .iconst 0, [], 0), (1058, 1, .ireturn, [], 0)]
def bk_239_38 : List ex_R := [(1006, 1, .aload_n 1, [], 0), (1007, 1, .aload_n 0, [], 0), (1008, 2, .iload 4, [], 0), (1010, 1, .iconst 1, [], 1), (1011, 1, .iadd, [], 0), (1012, 1, .iaload, [], 0), (1013, 1, .aload_n 3, [], 0), (1014, 3, .invokestatic 129, [8, 233, 3, 0], 598), (1017, 2, .istore 5, [], 0), (1019, 1, .aload_n 2, [], 0), (1020, 1, .aload_n 0, [], 0), (1021, 2, .iload 4, [], 0), (1023, 1, .iconst 1, [], 1), (1024, 1, .iadd, [], 0), (1025, 1, .iaload, [], 0), (1026, 3, .invokevirtual 131, [0, 196, 2, 9], 859), (1029, 2, .istore 6, [], 0), (1031, 1, .aload_n 2, [], 0), (1032, 3, .invokevirtual 84, [0, 131, 1, 9], 713), (1035, 2, .iload 5, [], 0), (1037, 3, .if_icmp .eq 5, [39], 0), (1040, 1, .iconst 0, [], 0), (1041, 1, .ireturn, [], 0)]
def bk_239_37 : List ex_R := [(1003, 3, .goto 514, [66], 0)]
def bk_239_36 : List ex_R := [(986, 2, .iload 5, [], 0), (988, 3, .ifCond .ne 15, [37], 0), (991, 1, .aload_n 3, [], 0), (992, 1, .iconst 0, [], 0), (993, 1, .laload, [], 0), (994, 2, .iload 6, [], 0), (996, 1, .i2l, [], 0), (997, 1, .lcmp, [], 0), (998, 3, .ifCond .eq 5, [37], 0), (1001, 1, .iconst 0, [], 0), (1002, 1, .ireturn, [], 0)]
def bk_239_35 : List ex_R := [(926, 1, .aload_n 1, [], 0), (927, 1, .aload_n 0, [], 0), (928, 2, .iload 4, [], 0), (930, 1, .iconst 1, [], 1), (931, 1, .iadd, [], 0), (932, 1, .iaload, [], 0), (933, 1, .aload_n 0, [], 0), (934, 2, .iload 4, [], 0), (936, 1, .iconst 2, [], 2), (937, 1, .iadd, [], 0), (938, 1, .iaload, [], 0), (939, 1, .aload_n 0, [], 0), (940, 2, .iload 4, [], 0), (942, 1, .iconst 3, [], 3), (943, 1, .iadd, [], 0), (944, 1, .iaload, [], 0), (945, 1, .aload_n 3, [], 0), (946, 3, .invokestatic 126, [8, 232, 5, 0], 593), (949, 2, .istore 5, [], 0), (951, 1, .aload_n 2, [], 0), (952, 1, .aload_n 0, [], 0), (953, 2, .iload 4, [], 0), (955, 1, .iconst 1, [], 1), (956, 1, .iadd, [], 0), (957, 1, .iaload, [], 0), (958, 1, .aload_n 0, [], 0), (959, 2, .iload 4, [], 0), (961, 1, .iconst 2, [], 2), (962, 1, .iadd, [], 0), (963, 1, .iaload, [], 0), (964, 1, .aload_n 0, [], 0), (965, 2, .iload 4, [], 0), (967, 1, .iconst 3, [], 3), (968, 1, .iadd, [], 0), (969, 1, .iaload, [], 0), (970, 3, .invokevirtual 128, [0, 195, 4, 9], 856), (973, 2, .istore 6, [], 0), (975, 1, .aload_n 2, [], 0), (976, 3, .invokevirtual 84, [0, 131, 1, 9], 713), (979, 2, .iload 5, [], 0), (981, 3, .if_icmp .eq 5, [36], 0), (984, 1, .iconst 0, [], 0), (985, 1, .ireturn, [], 0)]
def bk_239_34 : List ex_R := [(923, 3, .goto 594, [66], 0)]
def bk_239_33 : List ex_R := [(907, 2, .iload 5, [], 0), (909, 3, .ifCond .ne 14, [34], 0), (912, 1, .aload_n 3, [], 0), (913, 1, .iconst 0, [], 0), (914, 1, .laload, [], 0), (915, 2, .lload 6, [], 0), (917, 1, .lcmp, [], 0), (918, 3, .ifCond .eq 5, [34], 0), (921, 1, .iconst 0, [], 0), (922, 1, .ireturn, [], 0)]
def bk_239_32 : List ex_R := [(835, 1, .aload_n 1, [], 0), (836, 1, .aload_n 0, [], 0), (837, 2, .iload 4, [], 0), (839, 1, .iconst 1, [], 1), (840, 1, .iadd, [], 0), (841, 1, .iaload, [], 0), (842, 1, .aload_n 0, [], 0), (843, 2, .iload 4, [], 0), (845, 1, .iconst 2, [], 2), (846, 1, .iadd, [], 0), (847, 1, .iaload, [], 0), (848, 1, .aload_n 0, [], 0), (849, 2, .iload 4, [], 0), (851, 1, .iconst 3, [], 3), (852, 1, .iadd, [], 0), (853, 1, .iaload, [], 0), (854, 1, .aload_n 0, [], 0), (855, 2, .iload 4, [], 0), (857, 1, .iconst 4, [], 4), (858, 1, .iadd, [], 0), (859, 1, .iaload, [], 0), (860, 1, .aload_n 3, [], 0), (861, 3, .invokestatic 122, [8, 231, 6, 0], 584), (864, 2, .istore 5, [], 0), (866, 1, .aload_n 2, [], 0), (867, 1, .aload_n 0, [], 0), (868, 2, .iload 4, [], 0), (870, 1, .iconst 1, [], 1), (871, 1, .iadd, [], 0), (872, 1, .iaload, [], 0), (873, 1, .aload_n 0, [], 0), (874, 2, .iload 4, [], 0), (876, 1, .iconst 2, [], 2), (877, 1, .iadd, [], 0), (878, 1, .iaload, [], 0), (879, 1, .aload_n 0, [], 0), (880, 2, .iload 4, [], 0), (882, 1, .iconst 3, [], 3), (883, 1, .iadd, [], 0), (884, 1, .iaload, [], 0), (885, 1, .aload_n 0, [], 0), (886, 2, .iload 4, [], 0), (888, 1, .iconst 4, [], 4), (889, 1, .iadd, [], 0), (890, 1, .iaload, [], 0), (891, 3, .invokevirtual 125, [0, 194, 5, 9], 851), (894, 2, .lstore 6, [], 0), (896, 1, .aload_n 2, [], 0), (897, 3, .invokevirtual 84, [0, 131, 1, 9], 713), (900, 2, .iload 5, [], 0), (902, 3, .if_icmp .eq 5, [33], 0), (905, 1, .iconst 0, [], 0), (906, 1, .ireturn, [], 0)]
def bk_239_31 : List ex_R := [(832, 3, .goto 685, [66], 0)]
def bk_239_30 : List ex_R := [(815, 2, .iload 5, [], 0), (817, 3, .ifCond .ne 15, [31], 0), (820, 1, .aload_n 3, [], 0), (821, 1, .iconst 0, [], 0), (822, 1, .laload, [], 0), (823, 2, .iload 6, [], 0), (825, 1, .i2l, [], 0), (826, 1, .lcmp, [], 0), (827, 3, .ifCond .eq 5, [31], 0), (830, 1, .iconst 0, [], 0), (831, 1, .ireturn, [], 0)]
def bk_239_29 : List ex_R := [(779, 1, .aload_n 1, [], 0), (780, 1, .aload_n 0, [], 0), (781, 2, .iload 4, [], 0), (783, 1, .iconst 1, [], 1), (784, 1, .iadd, [], 0), (785, 1, .iaload, [], 0), (786, 1, .aload_n 3, [], 0), (787, 3, .invokestatic 119, [8, 230, 3, 0], 579), (790, 2, .istore 5, [], 0), (792, 1, .aload_n 2, [], 0), (793, 1, .aload_n 0, [], 0), (794, 2, .iload 4, [], 0), (796, 1, .iconst 1, [], 1), (797, 1, .iadd, [], 0), (798, 1, .iaload, [], 0), (799, 3, .invokevirtual 121, [0, 192, 2, 9], 848), (802, 2, .istore 6, [], 0), (804, 1, .aload_n 2, [], 0), (805, 3, .invokevirtual 84, [0, 131, 1, 9], 713), (808, 2, .iload 5, [], 0), (810, 3, .if_icmp .eq 5, [30], 0), (813, 1, .iconst 0, [], 0), (814, 1, .ireturn, [], 0)]
def bk_239_28 : List ex_R := [(776, 3, .goto 741, [66], 0)]
def bk_239_27 : List ex_R := [(759, 2, .iload 5, [], 0), (761, 3, .ifCond .ne 15, [28], 0), (764, 1, .aload_n 3, [], 0), (765, 1, .iconst 0, [], 0), (766, 1, .laload, [], 0), (767, 2, .iload 6, [], 0), (769, 1, .i2l, [], 0), (770, 1, .lcmp, [], 0), (771, 3, .ifCond .eq 5, [28], 0), (774, 1, .iconst 0, [], 0), (775, 1, .ireturn, [], 0)]
def bk_239_26 : List ex_R := [(723, 1, .aload_n 1, [], 0), (724, 1, .aload_n 0, [], 0), (725, 2, .iload 4, [], 0), (727, 1, .iconst 1, [], 1), (728, 1, .iadd, [], 0), (729, 1, .iaload, [], 0), (730, 1, .aload_n 3, [], 0), (731, 3, .invokestatic 116, [8, 229, 3, 0], 573), (734, 2, .istore 5, [], 0), (736, 1, .aload_n 2, [], 0), (737, 1, .aload_n 0, [], 0), (738, 2, .iload 4, [], 0), (740, 1, .iconst 1, [], 1), (741, 1, .iadd, [], 0), (742, 1, .iaload, [], 0), (743, 3, .invokevirtual 118, [0, 191, 2, 9], 845), (746, 2, .istore 6, [], 0), (748, 1, .aload_n 2, [], 0), (749, 3, .invokevirtual 84, [0, 131, 1, 9], 713), (752, 2, .iload 5, [], 0), (754, 3, .if_icmp .eq 5, [27], 0), (757, 1, .iconst 0, [], 0), (758, 1, .ireturn, [], 0)]
def bk_239_25 : List ex_R := [(720, 3, .goto 797, [66], 0)]
def bk_239_24 : List ex_R := [(703, 2, .iload 5, [], 0), (705, 3, .ifCond .ne 15, [25], 0), (708, 1, .aload_n 3, [], 0), (709, 1, .iconst 0, [], 0), (710, 1, .laload, [], 0), (711, 2, .iload 6, [], 0), (713, 1, .i2l, [], 0), (714, 1, .lcmp, [], 0), (715, 3, .ifCond .eq 5, [25], 0), (718, 1, .iconst 0, [], 0), (719, 1, .ireturn, [], 0)]
def bk_239_23 : List ex_R := [(655, 1, .aload_n 1, [], 0), (656, 1, .aload_n 0, [], 0), (657, 2, .iload 4, [], 0), (659, 1, .iconst 1, [], 1), (660, 1, .iadd, [], 0), (661, 1, .iaload, [], 0), (662, 1, .aload_n 0, [], 0), (663, 2, .iload 4, [], 0), (665, 1, .iconst 2, [], 2), (666, 1, .iadd, [], 0), (667, 1, .iaload, [], 0), (668, 1, .aload_n 3, [], 0), (669, 3, .invokestatic 113, [8, 228, 4, 0], 559), (672, 2, .istore 5, [], 0), (674, 1, .aload_n 2, [], 0), (675, 1, .aload_n 0, [], 0), (676, 2, .iload 4, [], 0), (678, 1, .iconst 1, [], 1), (679, 1, .iadd, [], 0), (680, 1, .iaload, [], 0), (681, 1, .aload_n 0, [], 0), (682, 2, .iload 4, [], 0), (684, 1, .iconst 2, [], 2), (685, 1, .iadd, [], 0), (686, 1, .iaload, [], 0), (687, 3, .invokevirtual 115, [0, 190, 3, 9], 838), (690, 2, .istore 6, [], 0), (692, 1, .aload_n 2, [], 0), (693, 3, .invokevirtual 84, [0, 131, 1, 9], 713), (696, 2, .iload 5, [], 0), (698, 3, .if_icmp .eq 5, [24], 0), (701, 1, .iconst 0, [], 0), (702, 1, .ireturn, [], 0)]
def bk_239_22 : List ex_R := [(642, 1, .aload_n 1, [], 0), (643, 3, .invokevirtual 109, [0, 96, 1, 8], 321), (646, 1, .aload_n 2, [], 0), (647, 3, .invokevirtual 112, [0, 187, 1, 9], 835), (650, 3, .if_icmp .eq 867, [66], 0), (653, 1, .iconst 0, [], 0), (654, 1, .ireturn, [], 0)]
def bk_239_21 : List ex_R := [(639, 3, .goto 878, [66], 0)]
def bk_239_20 : List ex_R := [(622, 2, .iload 5, [], 0), (624, 3, .ifCond .ne 15, [21], 0), (627, 1, .aload_n 3, [], 0), (628, 1, .iconst 0, [], 0), (629, 1, .laload, [], 0), (630, 2, .iload 6, [], 0), (632, 1, .i2l, [], 0), (633, 1, .lcmp, [], 0), (634, 3, .ifCond .eq 5, [21], 0), (637, 1, .iconst 0, [], 0), (638, 1, .ireturn, [], 0)]
def bk_239_19 : List ex_R := [(586, 1, .aload_n 1, [], 0), (587, 1, .aload_n 0, [], 0), (588, 2, .iload 4, [], 0), (590, 1, .iconst 1, [], 1), (591, 1, .iadd, [], 0), (592, 1, .iaload, [], 0), (593, 1, .aload_n 3, [], 0), (594, 3, .invokestatic 106, [8, 227, 3, 0], 554), (597, 2, .istore 5, [], 0), (599, 1, .aload_n 2, [], 0), (600, 1, .aload_n 0, [], 0), (601, 2, .iload 4, [], 0), (603, 1, .iconst 1, [], 1), (604, 1, .iadd, [], 0), (605, 1, .iaload, [], 0), (606, 3, .invokevirtual 108, [0, 186, 2, 9], 830), (609, 2, .istore 6, [], 0), (611, 1, .aload_n 2, [], 0), (612, 3, .invokevirtual 84, [0, 131, 1, 9], 713), (615, 2, .iload 5, [], 0), (617, 3, .if_icmp .eq 5, [20], 0), (620, 1, .iconst 0, [], 0), (621, 1, .ireturn, [], 0)]
def bk_239_18 : List ex_R := [(583, 3, .goto 934, [66], 0)]
def bk_239_17 : List ex_R := [(566, 2, .iload 5, [], 0), (568, 3, .ifCond .ne 15, [18], 0), (571, 1, .aload_n 3, [], 0), (572, 1, .iconst 0, [], 0), (573, 1, .laload, [], 0), (574, 2, .iload 6, [], 0), (576, 1, .i2l, [], 0), (577, 1, .lcmp, [], 0), (578, 3, .ifCond .eq 5, [18], 0), (581, 1, .iconst 0, [], 0), (582, 1, .ireturn, [], 0)]
def bk_239_16 : List ex_R := [(518, 1, .aload_n 1, [], 0), (519, 1, .aload_n 0, [], 0), (520, 2, .iload 4, [], 0), (522, 1, .iconst 1, [], 1), (523, 1, .iadd, [], 0), (524, 1, .iaload, [], 0), (525, 1, .aload_n 0, [], 0), (526, 2, .iload 4, [], 0), (528, 1, .iconst 2, [], 2), (529, 1, .iadd, [], 0), (530, 1, .iaload, [], 0), (531, 1, .aload_n 3, [], 0), (532, 3, .invokestatic 102, [8, 226, 4, 0], 546), (535, 2, .istore 5, [], 0), (537, 1, .aload_n 2, [], 0), (538, 1, .aload_n 0, [], 0), (539, 2, .iload 4, [], 0), (541, 1, .iconst 1, [], 1), (542, 1, .iadd, [], 0), (543, 1, .iaload, [], 0), (544, 1, .aload_n 0, [], 0), (545, 2, .iload 4, [], 0), (547, 1, .iconst 2, [], 2), (548, 1, .iadd, [], 0), (549, 1, .iaload, [], 0), (550, 3, .invokevirtual 105, [0, 185, 3, 9], 819), (553, 2, .istore 6, [], 0), (555, 1, .aload_n 2, [], 0), (556, 3, .invokevirtual 84, [0, 131, 1, 9], 713), (559, 2, .iload 5, [], 0), (561, 3, .if_icmp .eq 5, [17], 0), (564, 1, .iconst 0, [], 0), (565, 1, .ireturn, [], 0)]
def bk_239_15 : List ex_R := [(515, 3, .goto 1002, [66], 0)]
def bk_239_14 : List ex_R := [(498, 2, .iload 5, [], 0), (500, 3, .ifCond .ne 15, [15], 0), (503, 1, .aload_n 3, [], 0), (504, 1, .iconst 0, [], 0), (505, 1, .laload, [], 0), (506, 2, .iload 6, [], 0), (508, 1, .i2l, [], 0), (509, 1, .lcmp, [], 0), (510, 3, .ifCond .eq 5, [15], 0), (513, 1, .iconst 0, [], 0), (514, 1, .ireturn, [], 0)]
def bk_239_13 : List ex_R := [(438, 1, .aload_n 1, [], 0), (439, 1, .aload_n 0, [], 0), (440, 2, .iload 4, [], 0), (442, 1, .iconst 1, [], 1), (443, 1, .iadd, [], 0), (444, 1, .iaload, [], 0), (445, 1, .aload_n 0, [], 0), (446, 2, .iload 4, [], 0), (448, 1, .iconst 2, [], 2), (449, 1, .iadd, [], 0), (450, 1, .iaload, [], 0), (451, 1, .aload_n 0, [], 0), (452, 2, .iload 4, [], 0), (454, 1, .iconst 3, [], 3), (455, 1, .iadd, [], 0), (456, 1, .iaload, [], 0), (457, 1, .aload_n 3, [], 0), (458, 3, .invokestatic 99, [8, 225, 5, 0], 540), (461, 2, .istore 5, [], 0), (463, 1, .aload_n 2, [], 0), (464, 1, .aload_n 0, [], 0), (465, 2, .iload 4, [], 0), (467, 1, .iconst 1, [], 1), (468, 1, .iadd, [], 0), (469, 1, .iaload, [], 0), (470, 1, .aload_n 0, [], 0), (471, 2, .iload 4, [], 0), (473, 1, .iconst 2, [], 2), (474, 1, .iadd, [], 0), (475, 1, .iaload, [], 0), (476, 1, .aload_n 0, [], 0), (477, 2, .iload 4, [], 0), (479, 1, .iconst 3, [], 3), (480, 1, .iadd, [], 0), (481, 1, .iaload, [], 0), (482, 3, .invokevirtual 101, [0, 180, 4, 9], 802), (485, 2, .istore 6, [], 0), (487, 1, .aload_n 2, [], 0), (488, 3, .invokevirtual 84, [0, 131, 1, 9], 713), (491, 2, .iload 5, [], 0), (493, 3, .if_icmp .eq 5, [14], 0), (496, 1, .iconst 0, [], 0), (497, 1, .ireturn, [], 0)]
def bk_239_12 : List ex_R := [(435, 3, .goto 1082, [66], 0)]
def bk_239_11 : List ex_R := [(418, 2, .iload 5, [], 0), (420, 3, .ifCond .ne 15, [12], 0), (423, 1, .aload_n 3, [], 0), (424, 1, .iconst 0, [], 0), (425, 1, .laload, [], 0), (426, 2, .iload 6, [], 0), (428, 1, .i2l, [], 0), (429, 1, .lcmp, [], 0), (430, 3, .ifCond .eq 5, [12], 0), (433, 1, .iconst 0, [], 0), (434, 1, .ireturn, [], 0)]
def bk_239_10 : List ex_R := [(358, 1, .aload_n 1, [], 0), (359, 1, .aload_n 0, [], 0), (360, 2, .iload 4, [], 0), (362, 1, .iconst 1, [], 1), (363, 1, .iadd, [], 0), (364, 1, .iaload, [], 0), (365, 1, .aload_n 0, [], 0), (366, 2, .iload 4, [], 0), (368, 1, .iconst 2, [], 2), (369, 1, .iadd, [], 0), (370, 1, .iaload, [], 0), (371, 1, .aload_n 0, [], 0), (372, 2, .iload 4, [], 0), (374, 1, .iconst 3, [], 3), (375, 1, .iadd, [], 0), (376, 1, .iaload, [], 0), (377, 1, .aload_n 3, [], 0), (378, 3, .invokestatic 95, [8, 224, 5, 0], 535), (381, 2, .istore 5, [], 0), (383, 1, .aload_n 2, [], 0), (384, 1, .aload_n 0, [], 0), (385, 2, .iload 4, [], 0), (387, 1, .iconst 1, [], 1), (388, 1, .iadd, [], 0), (389, 1, .iaload, [], 0), (390, 1, .aload_n 0, [], 0), (391, 2, .iload 4, [], 0), (393, 1, .iconst 2, [], 2), (394, 1, .iadd, [], 0), (395, 1, .iaload, [], 0), (396, 1, .aload_n 0, [], 0), (397, 2, .iload 4, [], 0), (399, 1, .iconst 3, [], 3), (400, 1, .iadd, [], 0), (401, 1, .iaload, [], 0), (402, 3, .invokevirtual 98, [0, 179, 4, 9], 789), (405, 2, .istore 6, [], 0), (407, 1, .aload_n 2, [], 0), (408, 3, .invokevirtual 84, [0, 131, 1, 9], 713), (411, 2, .iload 5, [], 0), (413, 3, .if_icmp .eq 5, [11], 0), (416, 1, .iconst 0, [], 0), (417, 1, .ireturn, [], 0)]
def bk_239_9 : List ex_R := [(355, 3, .goto 1162, [66], 0)]
def bk_239_8 : List ex_R := [(338, 2, .iload 5, [], 0), (340, 3, .ifCond .ne 15, [9], 0), (343, 1, .aload_n 3, [], 0), (344, 1, .iconst 0, [], 0), (345, 1, .laload, [], 0), (346, 2, .iload 6, [], 0), (348, 1, .i2l, [], 0), (349, 1, .lcmp, [], 0), (350, 3, .ifCond .eq 5, [9], 0), (353, 1, .iconst 0, [], 0), (354, 1, .ireturn, [], 0)]
def bk_239_7 : List ex_R := [(302, 1, .aload_n 1, [], 0), (303, 1, .aload_n 0, [], 0), (304, 2, .iload 4, [], 0), (306, 1, .iconst 1, [], 1), (307, 1, .iadd, [], 0), (308, 1, .iaload, [], 0), (309, 1, .aload_n 3, [], 0), (310, 3, .invokestatic 92, [8, 223, 3, 0], 523), (313, 2, .istore 5, [], 0), (315, 1, .aload_n 2, [], 0), (316, 1, .aload_n 0, [], 0), (317, 2, .iload 4, [], 0), (319, 1, .iconst 1, [], 1), (320, 1, .iadd, [], 0), (321, 1, .iaload, [], 0), (322, 3, .invokevirtual 94, [0, 165, 2, 9], 782), (325, 2, .istore 6, [], 0), (327, 1, .aload_n 2, [], 0), (328, 3, .invokevirtual 84, [0, 131, 1, 9], 713), (331, 2, .iload 5, [], 0), (333, 3, .if_icmp .eq 5, [8], 0), (336, 1, .iconst 0, [], 0), (337, 1, .ireturn, [], 0)]
def bk_239_6 : List ex_R := [(289, 1, .aload_n 1, [], 0), (290, 3, .invokevirtual 88, [0, 90, 1, 8], 318), (293, 1, .aload_n 2, [], 0), (294, 3, .invokevirtual 91, [0, 164, 1, 9], 779), (297, 3, .if_icmp .eq 1220, [66], 0), (300, 1, .iconst 0, [], 0), (301, 1, .ireturn, [], 0)]
def bk_239_5 : List ex_R := [(286, 3, .goto 1231, [66], 0)]
def bk_239_4 : List ex_R := [(269, 2, .iload 5, [], 0), (271, 3, .ifCond .ne 15, [5], 0), (274, 1, .aload_n 3, [], 0), (275, 1, .iconst 0, [], 0), (276, 1, .laload, [], 0), (277, 2, .iload 6, [], 0), (279, 1, .i2l, [], 0), (280, 1, .lcmp, [], 0), (281, 3, .ifCond .eq 5, [5], 0), (284, 1, .iconst 0, [], 0), (285, 1, .ireturn, [], 0)]
def bk_239_3 : List ex_R := [(233, 1, .aload_n 1, [], 0), (234, 1, .aload_n 0, [], 0), (235, 2, .iload 4, [], 0), (237, 1, .iconst 1, [], 1), (238, 1, .iadd, [], 0), (239, 1, .iaload, [], 0), (240, 1, .aload_n 3, [], 0), (241, 3, .invokestatic 78, [8, 222, 3, 0], 378), (244, 2, .istore 5, [], 0), (246, 1, .aload_n 2, [], 0), (247, 1, .aload_n 0, [], 0), (248, 2, .iload 4, [], 0), (250, 1, .iconst 1, [], 1), (251, 1, .iadd, [], 0), (252, 1, .iaload, [], 0), (253, 3, .invokevirtual 83, [0, 162, 2, 9], 721), (256, 2, .istore 6, [], 0), (258, 1, .aload_n 2, [], 0), (259, 3, .invokevirtual 84, [0, 131, 1, 9], 713), (262, 2, .iload 5, [], 0), (264, 3, .if_icmp .eq 5, [4], 0), (267, 1, .iconst 0, [], 0), (268, 1, .ireturn, [], 0)]
def bk_239_2 : List ex_R := [(160, 1, .aload_n 1, [], 0), (161, 1, .aload_n 0, [], 0), (162, 2, .iload 4, [], 0), (164, 1, .iconst 1, [], 1), (165, 1, .iadd, [], 0), (166, 1, .iaload, [], 0), (167, 1, .aload_n 0, [], 0), (168, 2, .iload 4, [], 0), (170, 1, .iconst 2, [], 2), (171, 1, .iadd, [], 0), (172, 1, .iaload, [], 0), (173, 1, .aload_n 0, [], 0), (174, 2, .iload 4, [], 0), (176, 1, .iconst 3, [], 3), (177, 1, .iadd, [], 0), (178, 1, .iaload, [], 0), (179, 1, .aload_n 0, [], 0), (180, 2, .iload 4, [], 0), (182, 1, .iconst 4, [], 4), (183, 1, .iadd, [], 0), (184, 1, .iaload, [], 0), (185, 1, .aload_n 0, [], 0), (186, 2, .iload 4, [], 0), (188, 1, .iconst 5, [], 5), (189, 1, .iadd, [], 0), (190, 1, .iaload, [], 0), (191, 3, .invokevirtual 73, [0, 88, 6, 8], 314), (194, 1, .aload_n 2, [], 0), (195, 1, .aload_n 0, [], 0), (196, 2, .iload 4, [], 0), (198, 1, .iconst 1, [], 1), (199, 1, .iadd, [], 0), (200, 1, .iaload, [], 0), (201, 1, .aload_n 0, [], 0), (202, 2, .iload 4, [], 0), (204, 1, .iconst 2, [], 2), (205, 1, .iadd, [], 0), (206, 1, .iaload, [], 0), (207, 1, .aload_n 0, [], 0), (208, 2, .iload 4, [], 0), (210, 1, .iconst 3, [], 3), (211, 1, .iadd, [], 0), (212, 1, .iaload, [], 0), (213, 1, .aload_n 0, [], 0), (214, 2, .iload 4, [], 0), (216, 1, .iconst 4, [], 4), (217, 1, .iadd, [], 0), (218, 1, .iaload, [], 0), (219, 1, .aload_n 0, [], 0), (220, 2, .iload 4, [], 0), (222, 1, .iconst 5, [], 5), (223, 1, .iadd, [], 0), (224, 1, .iaload, [], 0), (225, 3, .invokevirtual 77, [0, 135, 6, 9], 716), (228, 3, .if_icmp .eq 1289, [66], 0), (231, 1, .iconst 0, [], 0), (232, 1, .ireturn, [], 0)]
def bk_239_1 : List ex_R := [(23, 2, .iload 4, [], 0), (25, 1, .aload_n 0, [], 0), (26, 1, .arraylength, [], 0), (27, 2, .bipush 6, [], 6), (29, 1, .isub, [], 0), (30, 3, .if_icmp .gt 1493, [67], 0), (33, 1, .aload_n 0, [], 0), (34, 2, .iload 4, [], 0), (36, 1, .iaload, [], 0), (37, 2, .bipush 31, [], 31), (39, 1, .iand, [], 0), (40, 120, .tableswitch 1477 0 25 #[120, 193, 249, 262, 318, 398, 478, 546, 602, 615, 683, 739, 795, 886, 966, 1022, 1078, 1139, 1152, 1208, 1222, 1233, 1289, 1369, 1453, 1464], [66, 2, 3, 6, 7, 10, 13, 16, 19, 22, 23, 26, 29, 32, 35, 38, 41, 44, 45, 46, 49, 50, 51, 54, 57, 64, 65], 0)]
def bk_239_0 : List ex_R := (0, 3, .new 8, [0, 8, 144, 145, 119], 0) :: (3, 1, .dup, [], 0) :: (4, 3, .invokespecial 69, [4, 87, 1, 8], 146) :: (7, 1, .astore_n 1, [], 0) :: (8, 3, .new 70, [0, 9, 640, 641, 133], 0) :: (11, 1, .dup, [], 0) :: (12, 3, .invokespecial 72, [4, 130, 1, 9], 642) :: (15, 1, .astore_n 2, [], 0) :: (16, 1, .iconst 1, [], 1) :: (17, 2, .newarray .long, [898], 0) :: (19, 1, .astore_n 3, [], 0) :: (20, 1, .iconst 0, [], 0) :: (21, 2, .istore 4, [], 0) :: bk_239_1
def me_239 : ex_M := (yL_law, cL_law, 8, some .boolean, RL, [bk_239_0, bk_239_1, bk_239_2, bk_239_3, bk_239_4, bk_239_5, bk_239_6, bk_239_7, bk_239_8, bk_239_9, bk_239_10, bk_239_11, bk_239_12, bk_239_13, bk_239_14, bk_239_15, bk_239_16, bk_239_17, bk_239_18, bk_239_19, bk_239_20, bk_239_21, bk_239_22, bk_239_23, bk_239_24, bk_239_25, bk_239_26, bk_239_27, bk_239_28, bk_239_29, bk_239_30, bk_239_31, bk_239_32, bk_239_33, bk_239_34, bk_239_35, bk_239_36, bk_239_37, bk_239_38, bk_239_39, bk_239_40, bk_239_41, bk_239_42, bk_239_43, bk_239_44, bk_239_45, bk_239_46, bk_239_47, bk_239_48, bk_239_49, bk_239_50, bk_239_51, bk_239_52, bk_239_53, bk_239_54, bk_239_55, bk_239_56, bk_239_57, bk_239_58, bk_239_59, bk_239_60, bk_239_61, bk_239_62, bk_239_63, bk_239_64, bk_239_65, bk_239_66, bk_239_67], [])
def pg_tab : List (List ex_M) := [[me_0, me_1, me_2, me_3, me_4, me_5, me_6, me_7, me_8, me_9, me_10, me_11, me_12, me_13, me_14, me_15], [me_16, me_17, me_18, me_19, me_20, me_21, me_22, me_23, me_24, me_25, me_26, me_27, me_28, me_29, me_30, me_31], [me_32, me_33, me_34, me_35, me_36, me_37, me_38, me_39, me_40, me_41, me_42, me_43, me_44, me_45, me_46, me_47], [me_48, me_49, me_50, me_51, me_52, me_53, me_54, me_55, me_56, me_57, me_58, me_59, me_60, me_61, me_62, me_63], [me_64, me_65, me_66, me_67, me_68, me_69, me_70, me_71, me_72, me_73, me_74, me_75, me_76, me_77, me_78, me_79], [me_80, me_81, me_82, me_83, me_84, me_85, me_86, me_87, me_88, me_89, me_90, me_91, me_92, me_93, me_94, me_95], [me_96, me_97, me_98, me_99, me_100, me_101, me_102, me_103, me_104, me_105, me_106, me_107, me_108, me_109, me_110, me_111], [me_112, me_113, me_114, me_115, me_116, me_117, me_118, me_119, me_120, me_121, me_122, me_123, me_124, me_125, me_126, me_127], [me_128, me_129, me_130, me_131, me_132, me_133, me_134, me_135, me_136, me_137, me_138, me_139, me_140, me_141, me_142, me_143], [me_144, me_145, me_146, me_147, me_148, me_149, me_150, me_151, me_152, me_153, me_154, me_155, me_156, me_157, me_158, me_159], [me_160, me_161, me_162, me_163, me_164, me_165, me_166, me_167, me_168, me_169, me_170, me_171, me_172, me_173, me_174, me_175], [me_176, me_177, me_178, me_179, me_180, me_181, me_182, me_183, me_184, me_185, me_186, me_187, me_188, me_189, me_190, me_191], [me_192, me_193, me_194, me_195, me_196, me_197, me_198, me_199, me_200, me_201, me_202, me_203, me_204, me_205, me_206, me_207], [me_208, me_209, me_210, me_211, me_212, me_213, me_214, me_215, me_216, me_217, me_218, me_219, me_220, me_221, me_222, me_223], [me_224, me_225, me_226, me_227, me_228, me_229, me_230, me_231, me_232, me_233, me_234, me_235, me_236, me_237, me_238, me_239]]
def pg_mt (mi : Nat) : Option ex_M := (pg_tab.getD (mi / 16) [])[mi % 16]?
def pg_ptab : List (List (List Nat)) := [[[189, 127, 2, 207, 0], [357, 127, 1, 264, 3], [364, 127, 1, 268, 4], [425, 127, 1, 292, 13], [560, 127, 1, 347, 28], [564, 127, 1, 349, 29], [568, 127, 1, 351, 30], [433, 127, 1, 295, 15], [441, 127, 1, 298, 17], [377, 127, 1, 274, 5], [437, 127, 1, 296, 16], [299, 130, 2, 244, 0], [1057, 130, 1, 604, 70], [1062, 130, 1, 606, 71], [1066, 130, 1, 608, 72], [86, 123, 2, 168, 0]], [[142, 123, 1, 190, 0], [686, 123, 1, 410, 35], [785, 123, 1, 468, 42], [807, 123, 1, 474, 45], [801, 123, 1, 471, 44], [773, 123, 0, 462, 0], [810, 123, 0, 476, 0], [819, 123, 0, 481, 0], [92, 124, 2, 172, 0], [829, 124, 1, 485, 46], [833, 124, 1, 487, 47], [841, 124, 1, 491, 49], [845, 124, 1, 493, 50], [855, 124, 1, 498, 52], [859, 124, 1, 500, 53], [868, 124, 1, 504, 55]], [[872, 124, 1, 506, 56], [876, 124, 1, 508, 57], [887, 124, 1, 514, 59], [894, 124, 1, 518, 60], [879, 124, 0, 510, 0], [849, 124, 1, 495, 51], [883, 124, 1, 512, 58], [864, 124, 1, 502, 54], [902, 124, 1, 522, 61], [837, 124, 1, 489, 48], [390, 124, 1, 278, 7], [396, 124, 1, 279, 8], [403, 124, 0, 283, 0], [400, 124, 0, 281, 0], [221, 128, 2, 219, 0], [350, 128, 1, 262, 2]], [[385, 128, 1, 277, 6], [409, 128, 1, 285, 9], [413, 128, 1, 287, 10], [417, 128, 1, 289, 11], [421, 128, 1, 291, 12], [429, 128, 1, 294, 14], [520, 128, 1, 331, 23], [963, 128, 1, 552, 63], [948, 128, 1, 545, 62], [536, 128, 1, 339, 25], [529, 128, 1, 336, 24], [321, 131, 2, 253, 0], [445, 131, 1, 299, 18], [608, 131, 1, 374, 33], [543, 131, 1, 342, 26], [548, 131, 1, 343, 27]], [[591, 131, 1, 363, 32], [1104, 131, 1, 627, 74], [577, 131, 1, 354, 31], [552, 131, 0, 345, 0], [572, 131, 0, 353, 0], [38, 120, 2, 152, 0], [495, 120, 1, 317, 19], [690, 120, 1, 411, 36], [695, 120, 1, 414, 37], [709, 120, 1, 422, 39], [770, 120, 1, 460, 41], [790, 120, 1, 469, 43], [715, 120, 1, 424, 40], [699, 120, 1, 416, 38], [702, 120, 0, 418, 0], [705, 120, 0, 420, 0]], [[766, 120, 0, 458, 0], [270, 129, 2, 233, 0], [982, 129, 1, 564, 64], [1004, 129, 1, 572, 67], [1015, 129, 1, 578, 68], [986, 129, 1, 566, 65], [994, 129, 1, 570, 66], [30, 119, 2, 147, 0], [491, 119, 1, 315, 316], [620, 119, 1, 382, 383], [499, 119, 1, 319, 320], [911, 119, 1, 527, 528], [933, 119, 1, 538, 539], [944, 119, 1, 543, 544], [958, 119, 1, 549, 550], [971, 119, 1, 557, 558]], [[503, 119, 1, 322, 323], [978, 119, 1, 562, 563], [1011, 119, 1, 576, 577], [1023, 119, 1, 582, 583], [1030, 119, 1, 587, 588], [1044, 119, 1, 596, 597], [1052, 119, 1, 601, 602], [1081, 119, 1, 612, 613], [525, 119, 1, 334, 335], [587, 119, 1, 361, 362], [1088, 119, 1, 617, 618], [595, 119, 1, 365, 366], [599, 119, 1, 368, 369], [1095, 119, 1, 622, 623], [1111, 119, 1, 631, 632], [1120, 119, 1, 638, 639]], [[604, 119, 1, 372, 373], [612, 119, 1, 376, 377], [346, 119, 1, 261, 1], [507, 119, 1, 325, 20], [516, 119, 1, 330, 22], [511, 119, 1, 327, 21], [1034, 119, 1, 590, 69], [1099, 119, 1, 625, 73], [539, 119, 0, 341, 0], [555, 119, 0, 346, 0], [532, 119, 0, 337, 0], [990, 119, 0, 568, 0], [1037, 119, 0, 592, 0], [367, 119, 0, 269, 0], [373, 119, 0, 272, 0], [353, 119, 0, 263, 0]], [[381, 119, 0, 275, 0], [147, 119, 0, 191, 0], [1125, 133, 2, 643, 0], [1333, 133, 1, 714, 715], [1349, 133, 1, 725, 77], [1459, 133, 0, 786, 0], [1448, 133, 1, 778, 97], [1337, 133, 1, 717, 718], [1341, 133, 1, 720, 76], [1357, 133, 1, 729, 79], [1360, 133, 0, 731, 0], [1363, 133, 0, 733, 0], [1353, 133, 1, 727, 78], [1381, 133, 0, 743, 0], [1378, 133, 0, 741, 0], [1375, 133, 1, 739, 82]], [[1390, 133, 1, 748, 84], [1367, 133, 1, 735, 80], [1410, 133, 1, 758, 89], [1398, 133, 1, 752, 86], [1394, 133, 1, 750, 85], [1426, 133, 1, 766, 93], [1433, 133, 0, 770, 0], [1436, 133, 0, 772, 0], [1430, 133, 1, 768, 94], [1418, 133, 1, 762, 91], [1422, 133, 1, 764, 92], [1406, 133, 1, 756, 88], [1414, 133, 1, 760, 90], [1440, 133, 1, 774, 95], [1444, 133, 1, 776, 96], [1402, 133, 1, 754, 87]], [[1386, 133, 1, 746, 83], [1371, 133, 1, 737, 81], [1345, 133, 1, 722, 723], [1130, 133, 1, 646, 75], [1452, 133, 1, 780, 781], [1456, 133, 1, 783, 784], [1479, 133, 1, 797, 101], [1475, 133, 1, 795, 100], [1510, 133, 1, 814, 107], [1514, 133, 1, 816, 108], [1518, 133, 1, 818, 109], [1486, 133, 0, 801, 0], [1483, 133, 1, 799, 102], [1498, 133, 1, 808, 104], [1502, 133, 1, 810, 105], [1506, 133, 1, 812, 106]], [[1494, 133, 1, 806, 103], [1471, 133, 1, 793, 99], [1526, 133, 1, 823, 110], [1467, 133, 1, 790, 791], [1490, 133, 1, 803, 804], [1538, 133, 1, 829, 113], [1534, 133, 1, 827, 112], [1530, 133, 1, 825, 111], [1546, 133, 1, 834, 114], [1522, 133, 1, 820, 821], [1542, 133, 1, 831, 832], [1550, 133, 1, 836, 837], [1561, 133, 0, 844, 0], [1558, 133, 1, 842, 115], [1554, 133, 1, 839, 840], [1565, 133, 1, 846, 847]], [[1569, 133, 1, 849, 850], [1577, 133, 1, 855, 116], [1573, 133, 1, 852, 853], [1581, 133, 1, 857, 858], [1585, 133, 1, 860, 861], [1589, 133, 1, 863, 864], [1463, 133, 1, 788, 98], [1593, 133, 1, 866, 867], [1597, 133, 1, 869, 870], [1601, 133, 1, 872, 873], [1605, 133, 1, 875, 876], [1609, 133, 1, 878, 879], [1617, 133, 1, 884, 117], [1613, 133, 1, 881, 882], [1621, 133, 1, 886, 887], [1626, 133, 1, 890, 891]], [[1630, 133, 1, 893, 894], [1634, 133, 1, 896, 897], [580, 142, 0, 356, 0], [370, 125, 0, 271, 0], [890, 125, 0, 516, 0], [150, 125, 0, 193, 0], [719, 138, 1, 426, 427], [729, 138, 1, 433, 434], [723, 138, 1, 429, 430], [733, 138, 1, 436, 437], [739, 138, 0, 441, 0], [736, 139, 0, 439, 0], [360, 132, 0, 266, 0], [744, 140, 0, 444, 0], [615, 118, 0, 379, 0], [906, 118, 0, 524, 0]], [[929, 118, 0, 536, 0], [940, 118, 0, 541, 0], [954, 118, 0, 547, 0], [967, 118, 0, 555, 0], [974, 118, 0, 560, 0], [1007, 118, 0, 574, 0], [1019, 118, 0, 580, 0], [1026, 118, 0, 585, 0], [1040, 118, 0, 594, 0], [1048, 118, 0, 599, 0], [1077, 118, 0, 610, 0], [1084, 118, 0, 615, 0], [1091, 118, 0, 620, 0], [1107, 118, 0, 629, 0], [1116, 118, 0, 636, 0], [0, 118, 3, 0, 0]]]
def pg_mp (mi : Nat) : List Nat := (pg_ptab.getD (mi / 16) []).getD (mi % 16) []
def pg_C : List Cond := [.code objectInit ⟨#[0xb1]⟩ 1 none, ex_cw me_0, ex_cw me_1, ex_cw me_2, ex_cw me_3, ex_cw me_4, ex_cw me_5, ex_cw me_6, ex_cw me_7, ex_cw me_8, ex_cw me_9, ex_cw me_10, ex_cw me_11, ex_cw me_12, ex_cw me_13, ex_cw me_14, ex_cw me_15, ex_cw me_16, ex_cw me_17, ex_cw me_18, ex_cw me_19, ex_cw me_20, ex_cw me_21, ex_cw me_22, ex_cw me_23, ex_cw me_24, ex_cw me_25, ex_cw me_26, ex_cw me_27, ex_cw me_28, ex_cw me_29, ex_cw me_30, ex_cw me_31, ex_cw me_32, ex_cw me_33, ex_cw me_34, ex_cw me_35, ex_cw me_36, ex_cw me_37, ex_cw me_38, ex_cw me_39, ex_cw me_40, ex_cw me_41, ex_cw me_42, ex_cw me_43, ex_cw me_44, ex_cw me_45, ex_cw me_46, ex_cw me_47, ex_cw me_48, ex_cw me_49, ex_cw me_50, ex_cw me_51, ex_cw me_52, ex_cw me_53, ex_cw me_54, ex_cw me_55, ex_cw me_56, ex_cw me_57, ex_cw me_58, ex_cw me_59, ex_cw me_60, ex_cw me_61, ex_cw me_62, ex_cw me_63, ex_cw me_64, ex_cw me_65, ex_cw me_66, ex_cw me_67, ex_cw me_68, ex_cw me_69, ex_cw me_70, ex_cw me_71, ex_cw me_72, ex_cw me_73, ex_cw me_74, ex_cw me_75, ex_cw me_76, ex_cw me_77, ex_cw me_78, ex_cw me_79, ex_cw me_80, ex_cw me_81, ex_cw me_82, ex_cw me_83, ex_cw me_84, ex_cw me_85, ex_cw me_86, ex_cw me_87, ex_cw me_88, ex_cw me_89, ex_cw me_90, ex_cw me_91, ex_cw me_92, ex_cw me_93, ex_cw me_94, ex_cw me_95, ex_cw me_96, ex_cw me_97, ex_cw me_98, ex_cw me_99, ex_cw me_100, ex_cw me_101, ex_cw me_102, ex_cw me_103, ex_cw me_104, ex_cw me_105, ex_cw me_106, ex_cw me_107, ex_cw me_108, ex_cw me_109, ex_cw me_110, ex_cw me_111, ex_cw me_112, ex_cw me_113, ex_cw me_114, ex_cw me_115, ex_cw me_116, ex_cw me_117, ex_cw me_118, ex_cw me_119, ex_cw me_120, ex_cw me_121, ex_cw me_122, ex_cw me_123, ex_cw me_124, ex_cw me_125, ex_cw me_126, ex_cw me_127, ex_cw me_128, ex_cw me_129, ex_cw me_130, ex_cw me_131, ex_cw me_132, ex_cw me_133, ex_cw me_134, ex_cw me_135, ex_cw me_136, ex_cw me_137, ex_cw me_138, ex_cw me_139, ex_cw me_140, ex_cw me_141, ex_cw me_142, ex_cw me_143, ex_cw me_144, ex_cw me_145, ex_cw me_146, ex_cw me_147, ex_cw me_148, ex_cw me_149, ex_cw me_150, ex_cw me_151, ex_cw me_152, ex_cw me_153, ex_cw me_154, ex_cw me_155, ex_cw me_156, ex_cw me_157, ex_cw me_158, ex_cw me_159, ex_cw me_160, ex_cw me_161, ex_cw me_162, ex_cw me_163, ex_cw me_164, ex_cw me_165, ex_cw me_166, ex_cw me_167, ex_cw me_168, ex_cw me_169, ex_cw me_170, ex_cw me_171, ex_cw me_172, ex_cw me_173, ex_cw me_174, ex_cw me_175, ex_cw me_176, ex_cw me_177, ex_cw me_178, ex_cw me_179, ex_cw me_180, ex_cw me_181, ex_cw me_182, ex_cw me_183, ex_cw me_184, ex_cw me_185, ex_cw me_186, ex_cw me_187, ex_cw me_188, ex_cw me_189, ex_cw me_190, ex_cw me_191, ex_cw me_192, ex_cw me_193, ex_cw me_194, ex_cw me_195, ex_cw me_196, ex_cw me_197, ex_cw me_198, ex_cw me_199, ex_cw me_200, ex_cw me_201, ex_cw me_202, ex_cw me_203, ex_cw me_204, ex_cw me_205, ex_cw me_206, ex_cw me_207, ex_cw me_208, ex_cw me_209, ex_cw me_210, ex_cw me_211, ex_cw me_212, ex_cw me_213, ex_cw me_214, ex_cw me_215, ex_cw me_216, ex_cw me_217, ex_cw me_218, ex_cw me_219, ex_cw me_220, ex_cw me_221, ex_cw me_222, ex_cw me_223, ex_cw me_224, ex_cw me_225, ex_cw me_226, ex_cw me_227, ex_cw me_228, ex_cw me_229, ex_cw me_230, ex_cw me_231, ex_cw me_232, ex_cw me_233, ex_cw me_234, ex_cw me_235, ex_cw me_236, ex_cw me_237, ex_cw me_238]
def pg_X : List Cond := (vx_at0 "PileTricks" 95 (ex_en 0) ex_es).filter goodWord ++ (vx_at0 "PileTricks" 131 (ex_en 1) ex_es).filter goodWord
theorem pg_X_in : ∀ w ∈ pg_X, w ∈ lw_tbl := by decide +kernel
def pg_T : List Cond := k2_sels lw_privs ++ (pg_W ++ (pg_U ++ (pg_C ++ pg_X)))
end
section
/-! Judgements over the small machine alone: fewer locals do as well -/
def lo_le (a b : ex_Lo) : Prop := a.length = b.length ∧ ∀ (i : Nat) (v : Value), a[i]? = some (some v) → b[i]? = some (some v)
def lo_leR : ex_Lo → ex_Lo → Prop
  | [], [] => True
  | none :: a, _ :: b => lo_leR a b
  | some v :: a, x :: b => x = some v ∧ lo_leR a b
  | _, _ => False
theorem lo_le_of : ∀ (a b : ex_Lo), lo_leR a b → lo_le a b
  | [], [], _ => ⟨rfl, fun _ _ h => h⟩
  | none :: a, x :: b, h => by
    obtain ⟨h1, h2⟩ := lo_le_of a b h
    refine ⟨by simp [h1], fun i v hv => ?_⟩
    cases i with
    | zero => simp at hv
    | succ i => simpa using h2 i v (by simpa using hv)
  | some u :: a, x :: b, h => by
    obtain ⟨h1, h2⟩ := lo_le_of a b h.2
    refine ⟨by simp [h1], fun i v hv => ?_⟩
    cases i with
    | zero => simpa [h.1] using hv
    | succ i => simpa using h2 i v (by simpa using hv)
  | [], x :: b, h => absurd h (by simp [lo_leR])
  | none :: a, [], h => absurd h (by simp [lo_leR])
  | some u :: a, [], h => absurd h (by simp [lo_leR])
theorem lo_le_set {a b : ex_Lo} (h : lo_le a b) (i : Nat) (x : Option Value) : lo_le (a.set i x) (b.set i x) := by
  refine ⟨by simp [h.1], fun j v hv => ?_⟩
  rw [List.getElem?_set] at hv ⊢
  rw [← h.1]
  split at hv
  · rename_i e
    rw [if_pos e]
    exact hv
  · rename_i e
    rw [if_neg e]
    exact h.2 j v hv
theorem lo_le_setN {a b : ex_Lo} (h : lo_le a b) (i : Nat) (hn : ∀ v, a[i]? ≠ some (some v)) : lo_le a (b.set i none) := by
  refine ⟨by simp [h.1], fun j v hv => ?_⟩
  rw [List.getElem?_set]
  split
  · rename_i e
    subst e
    exact absurd hv (hn v)
  · exact h.2 j v hv
theorem lo_le_clr {a b : ex_Lo} (h : lo_le a b) (i : Nat) : lo_le (ex_clr a i) (ex_clr b i) := by
  cases i with
  | zero => exact h
  | succ j =>
    by_cases hl : ∃ x, a[j]? = some (some (.long x))
    · obtain ⟨x, hx⟩ := hl
      unfold ex_clr
      dsimp only
      rw [hx, h.2 _ _ hx]
      exact lo_le_set h _ _
    · have ha : ex_clr a (j + 1) = a := by
        unfold ex_clr
        dsimp only
        split
        · rename_i x hx
          exact absurd ⟨x, hx⟩ hl
        · rfl
      rw [ha]
      unfold ex_clr
      dsimp only
      split
      · rename_i x hx
        refine lo_le_setN h j fun v hv => ?_
        have := h.2 _ _ hv
        rw [hx] at this
        cases this
        exact hl ⟨x, hv⟩
      · exact h
abbrev ex_pmP (ins : Instr) (k : Int32) (a b : ex_Lo) (st : List Value) : Prop := (∃ (a' b' : ex_Lo) (st' : List Value), ex_pure ins k a st = some (a', st') ∧ ex_pure ins k b st = some (b', st') ∧ lo_le a' b') ∨ (ex_pure ins k a st = none ∧ (ex_pure ins k b st = none ∨ ∀ (ro : Nat) (r : List Nat) (k : Int32) (st : List Value) (w : ex_W), ex_heap ro ins r k st w = none))
abbrev ex_qmP (f : ex_Lo → Option (ex_Lo × List Value)) (a b : ex_Lo) : Prop := (∃ (a' b' : ex_Lo) (st' : List Value), f a = some (a', st') ∧ f b = some (b', st') ∧ lo_le a' b') ∨ f a = none
theorem ex_mldi {a b : ex_Lo} (h : lo_le a b) (i : Nat) (st : List Value) : ex_qmP (fun lo => ex_ldi lo i st) a b := by
  unfold ex_qmP ex_ldi
  dsimp only
  split
  · rename_i x hx
    rw [h.2 _ _ hx]
    exact Or.inl ⟨a, b, _, rfl, rfl, h⟩
  · exact Or.inr rfl
theorem ex_mldl {a b : ex_Lo} (h : lo_le a b) (i : Nat) (st : List Value) : ex_qmP (fun lo => ex_ldl lo i st) a b := by
  unfold ex_qmP ex_ldl
  dsimp only
  split
  · rename_i x hx
    rw [h.2 _ _ hx]
    exact Or.inl ⟨a, b, _, rfl, rfl, h⟩
  · exact Or.inr rfl
theorem ex_mlda {a b : ex_Lo} (h : lo_le a b) (i : Nat) (st : List Value) : ex_qmP (fun lo => ex_lda lo i st) a b := by
  unfold ex_qmP ex_lda
  dsimp only
  split
  · rename_i x hx
    rw [h.2 _ _ hx]
    exact Or.inl ⟨a, b, _, rfl, rfl, h⟩
  · exact Or.inr rfl
theorem ex_mst1 {a b : ex_Lo} (h : lo_le a b) (i : Nat) (v : Value) : lo_le (ex_st1 a i v) (ex_st1 b i v) := lo_le_set (lo_le_clr h i) i _
theorem ex_mst2 {a b : ex_Lo} (h : lo_le a b) (i : Nat) (v : Value) : lo_le (ex_st2 a i v) (ex_st2 b i v) := lo_le_set (lo_le_set (lo_le_clr h i) i _) _ _
theorem ex_msti {a b : ex_Lo} (h : lo_le a b) (i : Nat) (st : List Value) : ex_qmP (fun lo => ex_sti lo i st) a b := by
  unfold ex_qmP ex_sti
  dsimp only
  split
  · rw [h.1]
    split
    · exact Or.inl ⟨_, _, _, rfl, rfl, ex_mst1 h _ _⟩
    · exact Or.inr rfl
  · exact Or.inr rfl
theorem ex_msta {a b : ex_Lo} (h : lo_le a b) (i : Nat) (st : List Value) : ex_qmP (fun lo => ex_sta lo i st) a b := by
  unfold ex_qmP ex_sta
  dsimp only
  split
  · rw [h.1]
    split
    · exact Or.inl ⟨_, _, _, rfl, rfl, ex_mst1 h _ _⟩
    · exact Or.inr rfl
  · exact Or.inr rfl
theorem ex_mstl {a b : ex_Lo} (h : lo_le a b) (i : Nat) (st : List Value) : ex_qmP (fun lo => ex_stl lo i st) a b := by
  unfold ex_qmP ex_stl
  dsimp only
  split
  · rw [h.1]
    split
    · exact Or.inl ⟨_, _, _, rfl, rfl, ex_mst2 h _ _⟩
    · exact Or.inr rfl
  · exact Or.inr rfl
theorem ex_minc {a b : ex_Lo} (h : lo_le a b) (i : Nat) (k : Int32) (st : List Value) : ex_qmP (fun lo => match lo[i]? with
    | some (some (.int x)) => if i < lo.length then some (ex_st1 lo i (.int (x + k)), st) else none
    | _ => none) a b := by
  unfold ex_qmP
  dsimp only
  split
  · rename_i x hx
    rw [h.2 _ _ hx]
    dsimp only
    rw [h.1]
    split
    · exact Or.inl ⟨_, _, _, rfl, rfl, ex_mst1 h _ _⟩
    · exact Or.inr rfl
  · exact Or.inr rfl
theorem ex_qp {ins : Instr} {k : Int32} {a b : ex_Lo} {st : List Value} (hq : ex_qmP (fun lo => ex_pure ins k lo st) a b) (hh : ∀ (ro : Nat) (r : List Nat) (k : Int32) (st : List Value) (w : ex_W), ex_heap ro ins r k st w = none) : ex_pmP ins k a b st := by
  rcases hq with h | h
  · exact Or.inl h
  · exact Or.inr ⟨h, Or.inr hh⟩
theorem ex_qm {ins : Instr} {k : Int32} {st : List Value} (g : Option (List Value)) (hg : ∀ lo, ex_pure ins k lo st = g.map fun s => (lo, s)) {a b : ex_Lo} (h : lo_le a b) : ex_pmP ins k a b st := by
  unfold ex_pmP
  rw [hg, hg]
  cases g with
  | none => exact Or.inr ⟨rfl, Or.inl rfl⟩
  | some s => exact Or.inl ⟨a, b, s, rfl, rfl, h⟩
theorem ex_qs {ins : Instr} {k : Int32} {st : List Value} (hg : ∀ lo, ex_pure ins k lo st = ((ex_pure ins k [] st).map Prod.snd).map fun s => (lo, s)) {a b : ex_Lo} (h : lo_le a b) : ex_pmP ins k a b st := ex_qm _ hg h
theorem ex_pmon (ins : Instr) (k : Int32) (st : List Value) {a b : ex_Lo} (h : lo_le a b) : ex_pmP ins k a b st := by
  cases ins <;> first
    | exact ex_qm none (fun _ => rfl) h
    | exact ex_qp (ex_mldi h _ _) (fun _ _ _ _ _ => rfl)
    | exact ex_qp (ex_mldl h _ _) (fun _ _ _ _ _ => rfl)
    | exact ex_qp (ex_mlda h _ _) (fun _ _ _ _ _ => rfl)
    | exact ex_qp (ex_msti h _ _) (fun _ _ _ _ _ => rfl)
    | exact ex_qp (ex_mstl h _ _) (fun _ _ _ _ _ => rfl)
    | exact ex_qp (ex_msta h _ _) (fun _ _ _ _ _ => rfl)
    | exact ex_qp (ex_minc h _ _ _) (fun _ _ _ _ _ => rfl)
    | (refine ex_qs (fun lo => ?_) h
       rcases st with _ | ⟨v1, _ | ⟨v2, st⟩⟩ <;> (try cases v1) <;> (try cases v2) <;> first | rfl | (simp only [ex_pure]; split <;> rfl))
def lo_mon (e e' : Option ex_E) : Prop := ∀ (L : List ex_R) (lo : ex_Lo) (st : List Value) (w : ex_W), e = some (L, lo, st, w) → ∃ lo', lo_le lo lo' ∧ e' = some (L, lo', st, w)
theorem lo_mon_n {e : Option ex_E} : lo_mon none e := fun _ _ _ _ h => nomatch h
theorem lo_mon_r {e : Option ex_E} : lo_mon e e := fun _ lo _ _ h => ⟨lo, ⟨rfl, fun _ _ h => h⟩, h⟩
abbrev ex_mS (self : ex_S) : Prop := ∀ (d : Nat) (cd : List (List ex_R)) (L : List ex_R) (a b : ex_Lo) (st : List Value) (w : ex_W), lo_le a b → lo_mon (self d cd L a st w) (self d cd L b st w)
theorem ex_mret {self : ex_S} (hS : ex_mS self) (d : Nat) (cd : List (List ex_R)) (L : List ex_R) {a b : ex_Lo} (rest : List Value) (x : Option ex_A) (h : lo_le a b) : lo_mon (ex_ret self d cd L a rest x) (ex_ret self d cd L b rest x) := by
  unfold ex_ret
  split
  · exact hS _ _ _ _ _ _ _ h
  · exact hS _ _ _ _ _ _ _ h
  · exact lo_mon_n
theorem ex_mretC {self : ex_S} (hS : ex_mS self) (d : Nat) (cd : List (List ex_R)) (L : List ex_R) {a b : ex_Lo} (rest : List Value) (rs : List Nat) (x : Option ex_A) (h : lo_le a b) : lo_mon (ex_retC self d cd L a rest rs x) (ex_retC self d cd L b rest rs x) := by
  unfold ex_retC
  split
  · exact lo_mon_r
  · exact ex_mret hS _ _ _ _ _ h
theorem ex_minv {self : ex_S} (hS : ex_mS self) (ro : Nat) (mt : Nat → Option ex_M) (d : Nat) (cd : List (List ex_R)) (r : List Nat) (L : List ex_R) {a b : ex_Lo} (st : List Value) (w : ex_W) (h : lo_le a b) : lo_mon (ex_inv ro mt self d cd r L a st w) (ex_inv ro mt self d cd r L b st w) := by
  unfold ex_inv
  repeat' (first | exact lo_mon_n | exact hS _ _ _ _ _ _ _ h | exact ex_mret hS _ _ _ _ _ h | exact ex_mretC hS _ _ _ _ _ _ h | split)
theorem ex_mdef {self : ex_S} (hS : ex_mS self) (ro : Nat) (d : Nat) (cd : List (List ex_R)) (ins : Instr) (r : List Nat) (k : Int32) (L : List ex_R) {a b : ex_Lo} (st : List Value) (w : ex_W) (h : lo_le a b) : lo_mon (match ex_pure ins k a st with
      | some (lo, st) => self d cd L lo st w
      | none => match ex_heap ro ins r k st w with
        | some (st, w) => self d cd L a st w
        | none => none) (match ex_pure ins k b st with
      | some (lo, st) => self d cd L lo st w
      | none => match ex_heap ro ins r k st w with
        | some (st, w) => self d cd L b st w
        | none => none) := by
  rcases ex_pmon ins k st h with ⟨a', b', st', e1, e2, h'⟩ | ⟨e1, e2⟩
  · rw [e1, e2]
    exact hS _ _ _ _ _ _ _ h'
  · rw [e1]
    rcases e2 with e2 | e2
    · rw [e2]
      dsimp only
      split
      · exact hS _ _ _ _ _ _ _ h
      · exact lo_mon_n
    · dsimp only
      rw [e2]
      exact lo_mon_n
theorem ex_mbody {self : ex_S} (hS : ex_mS self) (ro : Nat) (mt : Nat → Option ex_M) : ex_mS (ex_body ro mt self) := by
  intro d cd L a b st w h
  cases L with
  | nil => exact lo_mon_n
  | cons row L =>
    obtain ⟨pc, len, ins, r, k⟩ := row
    cases ins <;> first
      | exact ex_mdef hS ro d cd _ r k L st w h
      | exact ex_minv hS ro mt d cd r L st w h
      | exact hS _ _ _ _ _ _ _ h
      | exact fun _ _ _ _ e => by cases e; exact ⟨b, h, rfl⟩
      | (unfold ex_body; dsimp only [ex_pure]; split <;> first | exact hS _ _ _ _ _ _ _ h | exact lo_mon_n)
      | (unfold ex_body; dsimp only; repeat' (first | exact lo_mon_n | exact hS _ _ _ _ _ _ _ h | exact (fun _ _ _ _ e => by cases e; exact ⟨b, h, rfl⟩) | split | (unfold ex_if; split)))
theorem ex_mrun (ro : Nat) (mt : Nat → Option ex_M) : ∀ n, ex_mS (ex_run ro mt n)
  | 0 => fun _ _ _ _ _ _ _ _ => lo_mon_n
  | n + 1 => ex_mbody (ex_mrun ro mt n) ro mt
theorem ex_mend {ret : Option FieldType} {e e' : Option ex_E} {y : ex_A} (h : lo_mon e e') (he : ex_end ret e = some y) : ex_end ret e' = some y := by
  cases e with
  | none => cases he
  | some q =>
    obtain ⟨L, lo, st, w⟩ := q
    obtain ⟨lo', -, e9⟩ := h L lo st w rfl
    rw [e9]
    cases L with
    | nil => cases he
    | cons row L => exact he
end
section
/-! The worlds in which the law runs (lists by wip/whole/rules.py), judgements and their rules -/
abbrev KT : Type := Nat × Option Nat × List ex_Sh × (Nat → Nat → Option Nat)
/-- the things behind the script: old ones and the class's (1 to 96) -/
def pg_S : List ex_Sh := [.inl 100, .inl 100, .inl 100, .inl 100, .inl 100, .inl 100, .inl 100, .inl 100, .inl 100, .inl 100, .inl 100, .inl 100, .inl 100, .inl 100, .inl 100, .inl 100, .inl 100, .inl 101, .inl 101, .inl 101, .inl 101, .inl 101, .inl 101, .inl 101, .inl 101, .inl 101, .inl 101, .inl 101, .inl 101, .inl 101, .inl 101, .inl 101, .inl 101, .inl 101, .inr (.byte, 5), .inr (.byte, 5), .inr (.byte, 4), .inr (.byte, 4), .inr (.byte, 4), .inr (.byte, 5), .inr (.byte, 4), .inr (.byte, 4), .inr (.byte, 3), .inr (.byte, 3), .inr (.byte, 5), .inr (.byte, 4), .inr (.byte, 2), .inr (.byte, 2), .inr (.byte, 3), .inr (.byte, 3), .inr (.byte, 0), .inr ((.object "PileTricks$Word"), 17), .inr (.int, 4), .inr (.int, 4), .inr (.int, 4), .inl 999, .inl 999, .inl 8, .inr (.int, 60), .inl 6, .inr (.byte, 500), .inl 2, .inr (.int, 4), .inr (.boolean, 4), .inr (.int, 8), .inr (.int, 8), .inl 3, .inr (.int, 500), .inr (.int, 8), .inr (.int, 100), .inr (.boolean, 7), .inr (.int, 6), .inr (.int, 50), .inl 0, .inr (.int, 180), .inr (.int, 180), .inr (.int, 18), .inr (.int, 6), .inl 4, .inr (.int, 8), .inr (.int, 8), .inr (.int, 48), .inr (.int, 480), .inl 7, .inl 1, .inr (.int, 420), .inl 5, .inr (.int, 60), .inr (.int, 60), .inr (.int, 60), .inr (.int, 20), .inl 5, .inr (.int, 60), .inr (.int, 60), .inr (.int, 60), .inr (.int, 20)]
def pg_RL : List (List (Option Nat)) := [[], [some 18], [some 19], [some 20], [some 21], [some 22], [some 23], [some 24], [some 25], [some 26], [some 27], [some 28], [some 29], [some 30], [some 31], [some 32], [some 33], [some 34], [some 35], [some 36], [some 37], [some 38], [some 39], [some 40], [some 41], [some 42], [some 43], [some 44], [some 45], [some 46], [some 47], [some 48], [some 49], [some 50], [some 51], [], [], [], [], [], [], [], [], [], [], [], [], [], [], [], [], [], [some 1, some 2, some 3, some 4, some 5, some 6, some 7, some 8, some 9, some 10, some 11, some 12, some 13, some 14, some 15, some 16, some 17], [], [], [], [], [], [some 60, some 62, some 74, some 79, some 84, some 85, some 87, some 92, some 59], [], [], [], [some 60, some 67, some 63, some 64, some 65, some 66], [], [], [], [], [some 60, some 68, some 69, some 70, some 71, some 72, some 73], [], [], [], [], [], [], [some 75, some 76, some 77, some 78], [], [], [], [], [some 80, some 81, some 82, some 83], [], [], [], [], [some 79, some 74], [some 79, some 74, some 86], [], [some 88, some 89, some 90, some 91], [], [], [], [], [some 93, some 94, some 95, some 96], [], [], [], []]
/-- the model's things (97 to 132) -/
def pg_S2 : List ex_Sh := [.inl 9, .inr (.int, 8), .inr (.int, 8), .inr (.int, 8), .inr (.int, 1300), .inr (.int, 500), .inr (.int, 2), .inr (.int, 8), .inr (.int, 8), .inr (.int, 8), .inr (.int, 1300), .inr (.int, 650), .inr (.boolean, 9), .inr (.int, 60), .inr (.int, 60), .inr (.int, 6), .inr (.int, 6), .inr (.int, 6), .inr (.int, 650), .inr (.int, 60), .inr (.int, 60), .inr (.int, 5), .inr (.int, 5), .inr (.int, 60), .inr (.int, 60), .inr (.int, 60), .inr (.int, 60), .inr (.int, 60), .inr (.int, 1200), .inr (.int, 1200), .inr (.int, 60), .inr (.int, 60), .inr (.int, 60), .inr (.int, 60), .inr (.int, 1200), .inr (.int, 1200)]
def pg_RM : List (Option Nat) := [none, none, none, none, none, none, some 98, some 99, some 100, some 101, some 102, none, none, none, some 103, none, none, none, none, none, none, none, none, none, none, none, none, none, none, none, none, none, some 104, some 105, some 106, some 107, some 108, some 109, some 110, some 111, some 112, some 113, some 114, some 115, some 116, some 117, some 118, some 119, none, none, some 120, some 121, none, some 122, some 123, some 124, some 125, some 126, some 127, none, none, some 128, some 129, some 130, some 131, some 132]
def pg_R (fm : Option Nat) (T : Nat → Nat → Option Nat) (wd : Nat) : Nat → Nat → Option Nat := fun a k => if a = 60 then (if k = 6 then some wd else if k = 0 then some 61 else none) else if a = 56 then (if k = 0 then fm else none) else if a ≤ 96 then (pg_RL.getD a []).getD k none else T a k
def pg_R2 (T : Nat → Nat → Option Nat) : Nat → Nat → Option Nat := fun a k => if a = 97 then pg_RM.getD k none else T a k
/-- a world: the script's length, the formatter's, what comes behind the class's things; cells and slots made, ints, longs, the tape's word -/
def cw (κ : KT) (cs : Nat × Nat) (I : Nat → Nat → Int32) (J : Nat → Nat → Int64) (wd : Nat) : ex_W := ((.inr (.int, κ.1) :: (pg_S ++ κ.2.2.1), cs), I, J, pg_R κ.2.1 κ.2.2.2 wd)
/-- with the model's things -/
def km (κ : KT) : KT := (κ.1, κ.2.1, pg_S2 ++ κ.2.2.1, pg_R2 κ.2.2.2)
/-- with the law's own row -/
def kl (κ : KT) : KT := (κ.1, κ.2.1, [.inr (.long, 1)], κ.2.2.2)
/-- one number set -/
def up {α : Type} (I : Nat → Nat → α) (a k : Nat) (v : α) : Nat → Nat → α := ex_set I a (va_up (I a) k v)
/-- a loop with so much fuel -/
def fx {α : Type} (z : α) (F : α → α) : Nat → α
  | 0 => z
  | n + 1 => F (fx z F n)
/-- fuel -/
def FU : Nat := 1000000000000
def tt (d : Nat) (M : ex_M) (L : List ex_R) (lo : ex_Lo) (st : List Value) (w : ex_W) (x : Option Value ⊕ Nat) (w' : ex_W) : Prop := ∃ k : Nat, ∀ n : Nat, ex_end M.2.2.2.1 (ex_run pg_ro pg_mt (n + k) d M.2.2.2.2.2.1 L lo st w) = some (x, w')
def tm (d mi : Nat) (as : List Value) (w : ex_W) (x : Option Value ⊕ Nat) (w' : ex_W) : Prop := ∃ k : Nat, ∀ n : Nat, ex_me pg_mt (ex_run pg_ro pg_mt (n + k)) d mi as w = some (x, w')
section TT
variable {d : Nat} {M : ex_M} {L L1 L2 : List ex_R} {lo lo1 lo2 : ex_Lo} {st st1 st2 : List Value} {w w1 w2 w' : ex_W} {x : Option Value ⊕ Nat} {R S : Type} {r : R}
theorem tm_of {mi : Nat} {as : List Value} (M : ex_M) (hM : pg_mt mi = some M) (hl : (ex_sl as).length ≤ M.2.2.1) (h : tt d M (M.2.2.2.2.2.1.getD 0 []) (ex_ent M.2.2.1 as) [] w x w') : tm d mi as w x w' := by
  obtain ⟨k, h⟩ := h
  refine ⟨k, fun n => ?_⟩
  rw [ex_me, hM]
  dsimp only
  rw [if_pos hl]
  exact h n
/-- steps -/
theorem tt_S (k : Nat) (lo1 : ex_Lo) (st1 : List Value) (w1 : ex_W) (h : ∀ n, ex_run pg_ro pg_mt (n + k) d M.2.2.2.2.2.1 L lo st w = ex_run pg_ro pg_mt n d M.2.2.2.2.2.1 L1 lo1 st1 w1) (g : tt d M L1 lo1 st1 w1 x w') : tt d M L lo st w x w' := by
  obtain ⟨k1, g⟩ := g
  refine ⟨k1 + k, fun n => ?_⟩
  rw [← Nat.add_assoc, h]
  exact g n
/-- steps, so that the kernel doesn't compare the two ends before it walks (it compares from the last argument on) -/
theorem tt_J (k : Nat) (lo1 : ex_Lo) (st1 : List Value) (w1 : ex_W) (h : ∀ n, ex_body pg_ro pg_mt (ex_run pg_ro pg_mt (n + k)) d M.2.2.2.2.2.1 L lo st w = ex_run pg_ro pg_mt n d M.2.2.2.2.2.1 L1 lo1 st1 w1) (g : tt d M L1 lo1 st1 w1 x w') : tt d M L lo st w x w' := tt_S (k + 1) lo1 st1 w1 h g
/-- locals that are not needed -/
theorem tt_F (lo1 : ex_Lo) (hl : lo_leR lo1 lo) (g : tt d M L lo1 st w x w') : tt d M L lo st w x w' := by
  obtain ⟨k1, g⟩ := g
  exact ⟨k1, fun n => ex_mend (ex_mrun _ _ _ _ _ _ _ _ _ _ (lo_le_of _ _ hl)) (g n)⟩
/-- a branch -/
theorem tt_I (k : Nat) (lo1 : ex_Lo) (st1 : List Value) (w1 : ex_W) {c : Prop} {ic : Decidable c} {A B : Option R} (h : @ite (Option R) c ic A B = some r) (hs : ∀ n, ex_run pg_ro pg_mt (n + k) d M.2.2.2.2.2.1 L lo st w = @ite _ c ic (ex_run pg_ro pg_mt n d M.2.2.2.2.2.1 L1 lo1 st1 w1) (ex_run pg_ro pg_mt n d M.2.2.2.2.2.1 L2 lo1 st1 w1)) (g1 : A = some r → tt d M L1 lo1 st1 w1 x w') (g2 : B = some r → tt d M L2 lo1 st1 w1 x w') : tt d M L lo st w x w' := by
  by_cases hc : c
  · rw [if_pos hc] at h
    exact tt_S k lo1 st1 w1 (fun n => by rw [hs, if_pos hc]) (g1 h)
  · rw [if_neg hc] at h
    exact tt_S k lo1 st1 w1 (fun n => by rw [hs, if_neg hc]) (g2 h)
/-- a return -/
theorem tt_R (k : Nat) {a : R} (X : R → Option Value ⊕ Nat) (W : R → ex_W) (h : some a = some r) (hs : ∀ n, ex_end M.2.2.2.1 (ex_run pg_ro pg_mt (n + k) d M.2.2.2.2.2.1 L lo st w) = some (X a, W a)) : tt d M L lo st w (X r) (W r) := by
  cases h
  exact ⟨k, hs⟩
/-- a return of a number that must fit -/
theorem tt_B (k : Nat) {a : R} {v : Int32} {c : Prop} {ic : Decidable c} (X : R → Option Value ⊕ Nat) (W : R → ex_W) (h : @ite (Option R) c ic (some a) none = some r) (hf : c → ex_fit M.2.2.2.1 v) (hs : ∀ n, ex_end M.2.2.2.1 (ex_run pg_ro pg_mt (n + k) d M.2.2.2.2.2.1 L lo st w) = if ex_fit M.2.2.2.1 v then some (X a, W a) else none) : tt d M L lo st w (X r) (W r) := by
  by_cases hc : c
  · rw [if_pos hc] at h
    cases h
    exact ⟨k, fun n => by rw [hs, if_pos (hf hc)]⟩
  · rw [if_neg hc] at h
    cases h
/-- a call -/
theorem tt_C (k : Nat) (lo1 : ex_Lo) (rest : List Value) (w1 : ex_W) {mi : Nat} {as : List Value} {F : Option S} {A : S → Option R} {v : S → Option Value} {w2 : S → ex_W} (h : F.bind A = some r) (hs : ∀ n, ex_run pg_ro pg_mt (n + k) (d + 1) M.2.2.2.2.2.1 L lo st w = ex_ret (ex_run pg_ro pg_mt n) (d + 1) M.2.2.2.2.2.1 L1 lo1 rest (ex_me pg_mt (ex_run pg_ro pg_mt n) d mi as w1)) (hm : ∀ s, F = some s → tm d mi as w1 (.inl (v s)) (w2 s)) (g : ∀ s, A s = some r → tt (d + 1) M L1 lo1 ((v s).toList ++ rest) (w2 s) x w') : tt (d + 1) M L lo st w x w' := by
  cases F with
  | none => cases h
  | some s =>
    obtain ⟨k1, hm⟩ := hm s rfl
    obtain ⟨k2, g⟩ := g s h
    refine ⟨k1 + k2 + k, fun n => ?_⟩
    rw [← Nat.add_assoc, hs, show n + (k1 + k2) = n + k2 + k1 by omega, hm, show n + k2 + k1 = n + k1 + k2 by omega]
    have e : ∀ self : ex_S, ex_ret self (d + 1) M.2.2.2.2.2.1 L1 lo1 rest (some (.inl (v s), w2 s)) = self (d + 1) M.2.2.2.2.2.1 L1 lo1 ((v s).toList ++ rest) (w2 s) := by
      intro self
      cases v s with
      | none => rfl
      | some v => rfl
    rw [e]
    exact g (n + k1)
/-- a call of what always answers -/
theorem tt_K (k : Nat) (lo1 : ex_Lo) (rest : List Value) (w1 : ex_W) {mi : Nat} {as : List Value} {v : Option Value} (hs : ∀ n, ex_run pg_ro pg_mt (n + k) (d + 1) M.2.2.2.2.2.1 L lo st w = ex_ret (ex_run pg_ro pg_mt n) (d + 1) M.2.2.2.2.2.1 L1 lo1 rest (ex_me pg_mt (ex_run pg_ro pg_mt n) d mi as w1)) (hm : tm d mi as w1 (.inl v) w2) (g : tt (d + 1) M L1 lo1 (v.toList ++ rest) w2 x w') : tt (d + 1) M L lo st w x w' :=
  tt_C (R := Unit) (r := ()) (F := some ()) (A := fun _ => some ()) (v := fun _ => v) (w2 := fun _ => w2) k lo1 rest w1 rfl hs (fun _ _ => hm) (fun _ _ => g)
end TT
/-- one of the words -/
abbrev isw (x : Nat) : Prop := 1 ≤ x ∧ x ≤ 17
def xi : Int32 ⊕ Nat → Option Value ⊕ Nat
  | .inl v => .inl (some (.int v))
  | .inr e => .inr e
def xl : Int64 ⊕ Nat → Option Value ⊕ Nat
  | .inl v => .inl (some (.long v))
  | .inr e => .inr e
def xn : Unit ⊕ Nat → Option Value ⊕ Nat
  | .inl _ => .inl none
  | .inr e => .inr e
def xc {α : Type} (cs : Nat × Nat) : α ⊕ Nat → Nat × Nat
  | .inl _ => cs
  | .inr _ => (cs.1 + 1, cs.2 + 6)
def atf (f : Nat → Int32) (n : Nat) (i : Int32) : Int32 := if ex_in i n then f i.toNatClampNeg else 0
def putf (I : Nat → Nat → Int32) (a n : Nat) (i v : Int32) : Nat → Nat → Int32 := if ex_in i n then up I a i.toNatClampNeg v else I
def filf (I : Nat → Nat → Int32) (a n : Nat) (v : Int32) : Nat → Nat → Int32 := ex_set I a fun k => if k < n then v else I a k
def cpyf (I : Nat → Nat → Int32) (a b n : Nat) : Nat → Nat → Int32 := ex_set I b (va_cpy (I a) (I b) 0 0 n)
theorem nev {x v : Int32} {z : Int} (h : x ≠ v) (hv : v.toInt = z) : x.toInt ≠ z := fun e => h (Int32.toInt_inj.mp (e.trans hv.symm))
section TR
variable {d : Nat} {M : ex_M} {L L1 L2 : List ex_R} {lo : ex_Lo} {st : List Value} {w w' : ex_W} {x : Option Value ⊕ Nat} {R : Type} {r : R} {κ : KT} {cs : Nat × Nat} {I : Nat → Nat → Int32} {J : Nat → Nat → Int64} {W : Nat}
theorem isw_sh {y : Nat} (h : isw y) : (cw κ cs I J W).1.1[y]? = some (.inl 100) := by
  obtain ⟨h1, h2⟩ := h
  have : y = 1 ∨ y = 2 ∨ y = 3 ∨ y = 4 ∨ y = 5 ∨ y = 6 ∨ y = 7 ∨ y = 8 ∨ y = 9 ∨ y = 10 ∨ y = 11 ∨ y = 12 ∨ y = 13 ∨ y = 14 ∨ y = 15 ∨ y = 16 ∨ y = 17 := by omega
  rcases this with rfl | rfl | rfl | rfl | rfl | rfl | rfl | rfl | rfl | rfl | rfl | rfl | rfl | rfl | rfl | rfl | rfl <;> rfl
theorem isw_ro {y : Nat} (h : isw y) : ¬ pg_ro ≤ y := by
  have : pg_ro = 58 := rfl
  omega
theorem isw_is {y : Nat} (h : isw y) : ex_isw pg_ro (cw κ cs I J W) y = true := by
  unfold ex_isw
  rw [isw_sh h, decide_eq_true (isw_ro h)]
  rfl
/-- a word's number -/
theorem tt_V {pc len j p q y : Nat} {k : Int32} {A : Option R} (h : (if isw y then A else none) = some r) (g : A = some r → tt d M L lo (.int (I y 1) :: st) (cw κ cs I J W) x w') : tt d M ((pc, len, .getfield j, [100, 1, 0, p, q], k) :: L) lo (.ref y :: st) (cw κ cs I J W) x w' := by
  by_cases hc : isw y
  · rw [if_pos hc] at h
    refine tt_S 1 lo _ _ (fun n => ?_) (g h)
    show (match ex_heap pg_ro (.getfield j) [100, 1, 0, p, q] k (.ref y :: st) (cw κ cs I J W) with
        | some (st, w) => ex_run pg_ro pg_mt n d M.2.2.2.2.2.1 L lo st w
        | none => none) = _
    have : ex_heap pg_ro (.getfield j) [100, 1, 0, p, q] k (.ref y :: st) (cw κ cs I J W) = some (.int (I y 1) :: st, cw κ cs I J W) := by
      unfold ex_heap
      dsimp only
      rw [isw_sh hc]
      dsimp only
      rw [if_pos ⟨rfl, Or.inr ⟨by decide, isw_ro hc⟩⟩]
      rfl
    rw [this]
  · rw [if_neg hc] at h
    cases h
/-- the tape's word set -/
theorem tt_P {pc len j p q y : Nat} {k : Int32} (g : tt d M L lo st (cw κ cs I J y) x w') : tt d M ((pc, len, .putfield j, [6, 6, 2, p, q], k) :: L) lo (.ref y :: .ref 60 :: st) (cw κ cs I J W) x w' := by
  refine tt_S 1 lo _ _ (fun n => ?_) g
  have e : ex_set (pg_R κ.2.1 κ.2.2.2 W) 60 (va_up (pg_R κ.2.1 κ.2.2.2 W 60) 6 (some y)) = pg_R κ.2.1 κ.2.2.2 y := by
    funext a b
    unfold ex_set va_up pg_R
    by_cases ha : a = 60
    · by_cases hb : b = 6
      · simp [ha, hb]
      · simp [ha, hb]
    · simp [ha]
  show ex_run pg_ro pg_mt n d M.2.2.2.2.2.1 L lo st ((.inr (.int, κ.1) :: (pg_S ++ κ.2.2.1), cs), I, J, ex_set (pg_R κ.2.1 κ.2.2.2 W) 60 (va_up (pg_R κ.2.1 κ.2.2.2 W 60) 6 (some y))) = _
  rw [e]
  rfl
/-- are two words the same -/
theorem tt_Aeq {pc len y z : Nat} {o : Int} {b : Nat} {k : Int32} {A B : Option R} (h : (if isw y ∧ isw z then (if y = z then A else B) else none) = some r) (g1 : A = some r → tt d M (M.2.2.2.2.2.1.getD b []) lo st (cw κ cs I J W) x w') (g2 : B = some r → tt d M L lo st (cw κ cs I J W) x w') : tt d M ((pc, len, .if_acmp .eq o, [b], k) :: L) lo (.ref z :: .ref y :: st) (cw κ cs I J W) x w' := by
  by_cases hc : isw y ∧ isw z
  · rw [if_pos hc] at h
    by_cases e : y = z
    · rw [if_pos e] at h
      refine tt_S 1 lo _ _ (fun n => ?_) (g1 h)
      exact (if_pos (c := ex_isw pg_ro (cw κ cs I J W) y = true ∧ ex_isw pg_ro (cw κ cs I J W) z = true) ⟨isw_is hc.1, isw_is hc.2⟩).trans (if_pos e)
    · rw [if_neg e] at h
      refine tt_S 1 lo _ _ (fun n => ?_) (g2 h)
      exact (if_pos (c := ex_isw pg_ro (cw κ cs I J W) y = true ∧ ex_isw pg_ro (cw κ cs I J W) z = true) ⟨isw_is hc.1, isw_is hc.2⟩).trans (if_neg e)
  · rw [if_neg hc] at h
    cases h
theorem tt_Ane {pc len y z : Nat} {o : Int} {b : Nat} {k : Int32} {A B : Option R} (h : (if isw y ∧ isw z then (if y = z then A else B) else none) = some r) (g1 : A = some r → tt d M L lo st (cw κ cs I J W) x w') (g2 : B = some r → tt d M (M.2.2.2.2.2.1.getD b []) lo st (cw κ cs I J W) x w') : tt d M ((pc, len, .if_acmp .ne o, [b], k) :: L) lo (.ref z :: .ref y :: st) (cw κ cs I J W) x w' := by
  by_cases hc : isw y ∧ isw z
  · rw [if_pos hc] at h
    by_cases e : y = z
    · rw [if_pos e] at h
      refine tt_S 1 lo _ _ (fun n => ?_) (g1 h)
      exact (if_pos (c := ex_isw pg_ro (cw κ cs I J W) y = true ∧ ex_isw pg_ro (cw κ cs I J W) z = true) ⟨isw_is hc.1, isw_is hc.2⟩).trans (if_pos e)
    · rw [if_neg e] at h
      refine tt_S 1 lo _ _ (fun n => ?_) (g2 h)
      exact (if_pos (c := ex_isw pg_ro (cw κ cs I J W) y = true ∧ ex_isw pg_ro (cw κ cs I J W) z = true) ⟨isw_is hc.1, isw_is hc.2⟩).trans (if_neg e)
  · rw [if_neg hc] at h
    cases h
/-- one row of a switch -/
theorem tt_T {y : Int32} (v : Int32) {A B : Option R} (h : (if y = v then A else B) = some r) (hs : ∀ n, ex_run pg_ro pg_mt (n + 1) d M.2.2.2.2.2.1 L lo (.int v :: st) w = ex_run pg_ro pg_mt n d M.2.2.2.2.2.1 L1 lo st w) (g1 : A = some r → tt d M L1 lo st w x w') (g2 : y ≠ v → B = some r → tt d M L lo (.int y :: st) w x w') : tt d M L lo (.int y :: st) w x w' := by
  by_cases e : y = v
  · rw [if_pos e] at h
    exact tt_S 1 lo st w (fun n => by rw [e]; exact hs n) (g1 h)
  · rw [if_neg e] at h
    exact g2 e h
theorem tt_T0 {pc len : Nat} {df l hi : Int} {os : Array Int} {b : Nat} {bs : List Nat} {k : Int32} {y : Int32} (hy : y.toInt < l ∨ hi < y.toInt) (g : tt d M (M.2.2.2.2.2.1.getD b []) lo st w x w') : tt d M ((pc, len, .tableswitch df l hi os, b :: bs, k) :: L) lo (.int y :: st) w x w' :=
  tt_S 1 lo st w (fun n => if_pos hy) g
/-- an array's length, one of its numbers read, one written -/
theorem tt_L {pc len a n : Nat} {l : List Nat} {k : Int32} (hs : w.1.1[a]? = some (.inr (.int, n))) (g : tt d M L lo (.int (nI n) :: st) w x w') : tt d M ((pc, len, .arraylength, l, k) :: L) lo (.ref a :: st) w x w' := by
  refine tt_S 1 lo _ _ (fun m => ?_) g
  have : ex_heap pg_ro .arraylength l k (.ref a :: st) w = some (.int (nI n) :: st, w) := by
    unfold ex_heap
    dsimp only
    rw [hs]
    exact if_pos (Or.inr rfl)
  show (match ex_heap pg_ro .arraylength l k (.ref a :: st) w with
        | some (st, w) => ex_run pg_ro pg_mt m d M.2.2.2.2.2.1 L lo st w
        | none => none) = _
  rw [this]
theorem tt_La {pc len a n : Nat} {l : List Nat} {k : Int32} {j : Int32} (hs : w.1.1[a]? = some (.inr (.int, n))) (hj : ex_in j n) (g : tt d M L lo (.int (w.2.1 a j.toNatClampNeg) :: st) w x w') : tt d M ((pc, len, .iaload, l, k) :: L) lo (.int j :: .ref a :: st) w x w' := by
  refine tt_S 1 lo _ _ (fun m => ?_) g
  have : ex_heap pg_ro .iaload l k (.int j :: .ref a :: st) w = some (.int (w.2.1 a j.toNatClampNeg) :: st, w) := by
    unfold ex_heap
    dsimp only
    rw [hs]
    exact if_pos hj
  show (match ex_heap pg_ro .iaload l k (.int j :: .ref a :: st) w with
        | some (st, w) => ex_run pg_ro pg_mt m d M.2.2.2.2.2.1 L lo st w
        | none => none) = _
  rw [this]
theorem tt_Ls {pc len a n : Nat} {l : List Nat} {k : Int32} {j v : Int32} (hs : w.1.1[a]? = some (.inr (.int, n))) (hj : ex_in j n) (ha : pg_ro ≤ a) (g : tt d M L lo st (w.1, up w.2.1 a j.toNatClampNeg v, w.2.2.1, w.2.2.2) x w') : tt d M ((pc, len, .iastore, l, k) :: L) lo (.int v :: .int j :: .ref a :: st) w x w' := by
  refine tt_S 1 lo _ _ (fun m => ?_) g
  have : ex_heap pg_ro .iastore l k (.int v :: .int j :: .ref a :: st) w = some (st, (w.1, up w.2.1 a j.toNatClampNeg v, w.2.2.1, w.2.2.2)) := by
    unfold ex_heap
    dsimp only
    rw [hs]
    exact if_pos ⟨hj, ha⟩
  show (match ex_heap pg_ro .iastore l k (.int v :: .int j :: .ref a :: st) w with
        | some (st, w) => ex_run pg_ro pg_mt m d M.2.2.2.2.2.1 L lo st w
        | none => none) = _
  rw [this]
theorem tt_Qi {pc len a n : Nat} {l : List Nat} {k : Int32} {j : Int32} {A : Option R} (hs : (cw κ cs I J W).1.1[a]? = some (.inr (.int, n))) (h : (if ex_in j n then A else none) = some r) (g : A = some r → tt d M L lo (.int (I a j.toNatClampNeg) :: st) (cw κ cs I J W) x w') : tt d M ((pc, len, .iaload, l, k) :: L) lo (.int j :: .ref a :: st) (cw κ cs I J W) x w' := by
  by_cases hc : ex_in j n
  · rw [if_pos hc] at h
    refine tt_S 1 lo _ _ (fun m => ?_) (g h)
    have : ex_heap pg_ro .iaload l k (.int j :: .ref a :: st) (cw κ cs I J W) = some (.int (I a j.toNatClampNeg) :: st, (cw κ cs I J W)) := by
      unfold ex_heap
      dsimp only
      rw [hs]
      exact if_pos hc
    show (match ex_heap pg_ro .iaload l k (.int j :: .ref a :: st) (cw κ cs I J W) with
        | some (st, w) => ex_run pg_ro pg_mt m d M.2.2.2.2.2.1 L lo st w
        | none => none) = _
    rw [this]
  · rw [if_neg hc] at h
    cases h
theorem tt_Qb {pc len a n : Nat} {l : List Nat} {k : Int32} {j : Int32} {A : Option R} (hs : (cw κ cs I J W).1.1[a]? = some (.inr (.byte, n))) (h : (if ex_in j n then A else none) = some r) (g : A = some r → tt d M L lo (.int (I a j.toNatClampNeg) :: st) (cw κ cs I J W) x w') : tt d M ((pc, len, .baload, l, k) :: L) lo (.int j :: .ref a :: st) (cw κ cs I J W) x w' := by
  by_cases hc : ex_in j n
  · rw [if_pos hc] at h
    refine tt_S 1 lo _ _ (fun m => ?_) (g h)
    have : ex_heap pg_ro .baload l k (.int j :: .ref a :: st) (cw κ cs I J W) = some (.int (I a j.toNatClampNeg) :: st, (cw κ cs I J W)) := by
      unfold ex_heap
      dsimp only
      rw [hs]
      exact if_pos hc
    show (match ex_heap pg_ro .baload l k (.int j :: .ref a :: st) (cw κ cs I J W) with
        | some (st, w) => ex_run pg_ro pg_mt m d M.2.2.2.2.2.1 L lo st w
        | none => none) = _
    rw [this]
  · rw [if_neg hc] at h
    cases h
theorem tt_Qz {pc len a n : Nat} {l : List Nat} {k : Int32} {j : Int32} {A : Option R} (hs : (cw κ cs I J W).1.1[a]? = some (.inr (.boolean, n))) (h : (if ex_in j n then A else none) = some r) (g : A = some r → tt d M L lo (.int (I a j.toNatClampNeg) :: st) (cw κ cs I J W) x w') : tt d M ((pc, len, .baload, l, k) :: L) lo (.int j :: .ref a :: st) (cw κ cs I J W) x w' := by
  by_cases hc : ex_in j n
  · rw [if_pos hc] at h
    refine tt_S 1 lo _ _ (fun m => ?_) (g h)
    have : ex_heap pg_ro .baload l k (.int j :: .ref a :: st) (cw κ cs I J W) = some (.int (I a j.toNatClampNeg) :: st, (cw κ cs I J W)) := by
      unfold ex_heap
      dsimp only
      rw [hs]
      exact if_pos hc
    show (match ex_heap pg_ro .baload l k (.int j :: .ref a :: st) (cw κ cs I J W) with
        | some (st, w) => ex_run pg_ro pg_mt m d M.2.2.2.2.2.1 L lo st w
        | none => none) = _
    rw [this]
  · rw [if_neg hc] at h
    cases h
theorem tt_Ql {pc len a n : Nat} {l : List Nat} {k : Int32} {j : Int32} {A : Option R} (hs : (cw κ cs I J W).1.1[a]? = some (.inr (.long, n))) (h : (if ex_in j n then A else none) = some r) (g : A = some r → tt d M L lo (.long (J a j.toNatClampNeg) :: st) (cw κ cs I J W) x w') : tt d M ((pc, len, .laload, l, k) :: L) lo (.int j :: .ref a :: st) (cw κ cs I J W) x w' := by
  by_cases hc : ex_in j n
  · rw [if_pos hc] at h
    refine tt_S 1 lo _ _ (fun m => ?_) (g h)
    have : ex_heap pg_ro .laload l k (.int j :: .ref a :: st) (cw κ cs I J W) = some (.long (J a j.toNatClampNeg) :: st, (cw κ cs I J W)) := by
      unfold ex_heap
      dsimp only
      rw [hs]
      exact if_pos hc
    show (match ex_heap pg_ro .laload l k (.int j :: .ref a :: st) (cw κ cs I J W) with
        | some (st, w) => ex_run pg_ro pg_mt m d M.2.2.2.2.2.1 L lo st w
        | none => none) = _
    rw [this]
  · rw [if_neg hc] at h
    cases h
theorem tt_Wi {pc len a n : Nat} {l : List Nat} {k : Int32} {j : Int32} {v : Int32} {A : Option R} (hs : (cw κ cs I J W).1.1[a]? = some (.inr (.int, n))) (ha : pg_ro ≤ a) (h : (if ex_in j n then A else none) = some r) (g : A = some r → tt d M L lo st (cw κ cs (up I a j.toNatClampNeg v) J W) x w') : tt d M ((pc, len, .iastore, l, k) :: L) lo (.int v :: .int j :: .ref a :: st) (cw κ cs I J W) x w' := by
  by_cases hc : ex_in j n
  · rw [if_pos hc] at h
    refine tt_S 1 lo _ _ (fun m => ?_) (g h)
    have : ex_heap pg_ro .iastore l k (.int v :: .int j :: .ref a :: st) (cw κ cs I J W) = some (st, (cw κ cs (up I a j.toNatClampNeg v) J W)) := by
      unfold ex_heap
      dsimp only
      rw [hs]
      exact if_pos ⟨hc, ha⟩
    show (match ex_heap pg_ro .iastore l k (.int v :: .int j :: .ref a :: st) (cw κ cs I J W) with
        | some (st, w) => ex_run pg_ro pg_mt m d M.2.2.2.2.2.1 L lo st w
        | none => none) = _
    rw [this]
  · rw [if_neg hc] at h
    cases h
theorem tt_Wb {pc len a n : Nat} {l : List Nat} {k : Int32} {j : Int32} {v : Int32} {A : Option R} (hs : (cw κ cs I J W).1.1[a]? = some (.inr (.byte, n))) (ha : pg_ro ≤ a) (h : (if ex_in j n then A else none) = some r) (g : A = some r → tt d M L lo st (cw κ cs (up I a j.toNatClampNeg (vp_nar .byte v)) J W) x w') : tt d M ((pc, len, .bastore, l, k) :: L) lo (.int v :: .int j :: .ref a :: st) (cw κ cs I J W) x w' := by
  by_cases hc : ex_in j n
  · rw [if_pos hc] at h
    refine tt_S 1 lo _ _ (fun m => ?_) (g h)
    have : ex_heap pg_ro .bastore l k (.int v :: .int j :: .ref a :: st) (cw κ cs I J W) = some (st, (cw κ cs (up I a j.toNatClampNeg (vp_nar .byte v)) J W)) := by
      unfold ex_heap
      dsimp only
      rw [hs]
      exact if_pos ⟨hc, ha⟩
    show (match ex_heap pg_ro .bastore l k (.int v :: .int j :: .ref a :: st) (cw κ cs I J W) with
        | some (st, w) => ex_run pg_ro pg_mt m d M.2.2.2.2.2.1 L lo st w
        | none => none) = _
    rw [this]
  · rw [if_neg hc] at h
    cases h
theorem tt_Wz {pc len a n : Nat} {l : List Nat} {k : Int32} {j : Int32} {v : Int32} {A : Option R} (hs : (cw κ cs I J W).1.1[a]? = some (.inr (.boolean, n))) (ha : pg_ro ≤ a) (h : (if ex_in j n then A else none) = some r) (g : A = some r → tt d M L lo st (cw κ cs (up I a j.toNatClampNeg (vp_nar .boolean v)) J W) x w') : tt d M ((pc, len, .bastore, l, k) :: L) lo (.int v :: .int j :: .ref a :: st) (cw κ cs I J W) x w' := by
  by_cases hc : ex_in j n
  · rw [if_pos hc] at h
    refine tt_S 1 lo _ _ (fun m => ?_) (g h)
    have : ex_heap pg_ro .bastore l k (.int v :: .int j :: .ref a :: st) (cw κ cs I J W) = some (st, (cw κ cs (up I a j.toNatClampNeg (vp_nar .boolean v)) J W)) := by
      unfold ex_heap
      dsimp only
      rw [hs]
      exact if_pos ⟨hc, ha⟩
    show (match ex_heap pg_ro .bastore l k (.int v :: .int j :: .ref a :: st) (cw κ cs I J W) with
        | some (st, w) => ex_run pg_ro pg_mt m d M.2.2.2.2.2.1 L lo st w
        | none => none) = _
    rw [this]
  · rw [if_neg hc] at h
    cases h
theorem tt_Wl {pc len a n : Nat} {l : List Nat} {k : Int32} {j : Int32} {v : Int64} {A : Option R} (hs : (cw κ cs I J W).1.1[a]? = some (.inr (.long, n))) (ha : pg_ro ≤ a) (h : (if ex_in j n then A else none) = some r) (g : A = some r → tt d M L lo st (cw κ cs I (up J a j.toNatClampNeg v) W) x w') : tt d M ((pc, len, .lastore, l, k) :: L) lo (.long v :: .int j :: .ref a :: st) (cw κ cs I J W) x w' := by
  by_cases hc : ex_in j n
  · rw [if_pos hc] at h
    refine tt_S 1 lo _ _ (fun m => ?_) (g h)
    have : ex_heap pg_ro .lastore l k (.long v :: .int j :: .ref a :: st) (cw κ cs I J W) = some (st, (cw κ cs I (up J a j.toNatClampNeg v) W)) := by
      unfold ex_heap
      dsimp only
      rw [hs]
      exact if_pos ⟨hc, ha⟩
    show (match ex_heap pg_ro .lastore l k (.long v :: .int j :: .ref a :: st) (cw κ cs I J W) with
        | some (st, w) => ex_run pg_ro pg_mt m d M.2.2.2.2.2.1 L lo st w
        | none => none) = _
    rw [this]
  · rw [if_neg hc] at h
    cases h
theorem tt_Z {pc len jj a f p q ci : Nat} {k v : Int32} {A : Option R} (hs : (cw κ cs I J W).1.1[a]? = some (.inl ci)) (ha : pg_ro ≤ a) (h : (if v = 0 ∨ v = 1 then A else none) = some r) (g : A = some r → tt d M L lo st (cw κ cs (up I a f v) J W) x w') : tt d M ((pc, len, .putfield jj, [ci, f, 3, p, q], k) :: L) lo (.int v :: .ref a :: st) (cw κ cs I J W) x w' := by
  by_cases hc : v = 0 ∨ v = 1
  · rw [if_pos hc] at h
    refine tt_S 1 lo _ _ (fun m => ?_) (g h)
    have : ex_heap pg_ro (.putfield jj) [ci, f, 3, p, q] k (.int v :: .ref a :: st) (cw κ cs I J W) = some (st, (cw κ cs (up I a f v) J W)) := by
      unfold ex_heap
      show (match (cw κ cs I J W).1.1[a]? with
        | some (.inl cj) => if cj = ci ∧ pg_ro ≤ a then (if v = 0 ∨ v = 1 then some (st, (cw κ cs (up I a f v) J W)) else none) else none
        | _ => none) = _
      rw [hs]
      dsimp only
      rw [if_pos ⟨rfl, ha⟩, if_pos hc]
    show (match ex_heap pg_ro (.putfield jj) [ci, f, 3, p, q] k (.int v :: .ref a :: st) (cw κ cs I J W) with
        | some (st, w) => ex_run pg_ro pg_mt m d M.2.2.2.2.2.1 L lo st w
        | none => none) = _
    rw [this]
  · rw [if_neg hc] at h
    cases h
theorem tt_Di {pc len : Nat} {l : List Nat} {k : Int32} {u v : Int32} {A : Option R} (h : (if v = 0 then none else A) = some r) (g : A = some r → tt d M L lo (.int (u / v) :: st) w x w') : tt d M ((pc, len, .idiv, l, k) :: L) lo (.int v :: .int u :: st) w x w' := by
  by_cases hc : v = 0
  · rw [if_pos hc] at h
    cases h
  · rw [if_neg hc] at h
    refine tt_S 1 lo _ _ (fun m => ?_) (g h)
    have : ex_pure .idiv k lo (.int v :: .int u :: st) = some (lo, .int (u / v) :: st) := if_neg hc
    show (match ex_pure .idiv k lo (.int v :: .int u :: st) with
      | some (lo, st) => ex_run pg_ro pg_mt m d M.2.2.2.2.2.1 L lo st w
      | none => match ex_heap pg_ro .idiv l k (.int v :: .int u :: st) w with
        | some (st, w) => ex_run pg_ro pg_mt m d M.2.2.2.2.2.1 L lo st w
        | none => none) = _
    rw [this]
theorem tt_Dr {pc len : Nat} {l : List Nat} {k : Int32} {u v : Int32} {A : Option R} (h : (if v = 0 then none else A) = some r) (g : A = some r → tt d M L lo (.int (u - u / v * v) :: st) w x w') : tt d M ((pc, len, .irem, l, k) :: L) lo (.int v :: .int u :: st) w x w' := by
  by_cases hc : v = 0
  · rw [if_pos hc] at h
    cases h
  · rw [if_neg hc] at h
    refine tt_S 1 lo _ _ (fun m => ?_) (g h)
    have : ex_pure .irem k lo (.int v :: .int u :: st) = some (lo, .int (u - u / v * v) :: st) := if_neg hc
    show (match ex_pure .irem k lo (.int v :: .int u :: st) with
      | some (lo, st) => ex_run pg_ro pg_mt m d M.2.2.2.2.2.1 L lo st w
      | none => match ex_heap pg_ro .irem l k (.int v :: .int u :: st) w with
        | some (st, w) => ex_run pg_ro pg_mt m d M.2.2.2.2.2.1 L lo st w
        | none => none) = _
    rw [this]
theorem tt_Dl {pc len : Nat} {l : List Nat} {k : Int32} {u v : Int64} {A : Option R} (h : (if v = 0 then none else A) = some r) (g : A = some r → tt d M L lo (.long (u / v) :: st) w x w') : tt d M ((pc, len, .ldiv, l, k) :: L) lo (.long v :: .long u :: st) w x w' := by
  by_cases hc : v = 0
  · rw [if_pos hc] at h
    cases h
  · rw [if_neg hc] at h
    refine tt_S 1 lo _ _ (fun m => ?_) (g h)
    have : ex_pure .ldiv k lo (.long v :: .long u :: st) = some (lo, .long (u / v) :: st) := if_neg hc
    show (match ex_pure .ldiv k lo (.long v :: .long u :: st) with
      | some (lo, st) => ex_run pg_ro pg_mt m d M.2.2.2.2.2.1 L lo st w
      | none => match ex_heap pg_ro .ldiv l k (.long v :: .long u :: st) w with
        | some (st, w) => ex_run pg_ro pg_mt m d M.2.2.2.2.2.1 L lo st w
        | none => none) = _
    rw [this]
theorem tt_Dm {pc len : Nat} {l : List Nat} {k : Int32} {u v : Int64} {A : Option R} (h : (if v = 0 then none else A) = some r) (g : A = some r → tt d M L lo (.long (u - u / v * v) :: st) w x w') : tt d M ((pc, len, .lrem, l, k) :: L) lo (.long v :: .long u :: st) w x w' := by
  by_cases hc : v = 0
  · rw [if_pos hc] at h
    cases h
  · rw [if_neg hc] at h
    refine tt_S 1 lo _ _ (fun m => ?_) (g h)
    have : ex_pure .lrem k lo (.long v :: .long u :: st) = some (lo, .long (u - u / v * v) :: st) := if_neg hc
    show (match ex_pure .lrem k lo (.long v :: .long u :: st) with
      | some (lo, st) => ex_run pg_ro pg_mt m d M.2.2.2.2.2.1 L lo st w
      | none => match ex_heap pg_ro .lrem l k (.long v :: .long u :: st) w with
        | some (st, w) => ex_run pg_ro pg_mt m d M.2.2.2.2.2.1 L lo st w
        | none => none) = _
    rw [this]
end TR
theorem in_iff {i : Int32} {n : Nat} (hn : n < 2 ^ 31) (h0 : ¬ i < 0) : i < nI n ↔ ex_in i n := by
  rw [Int32.lt_iff_toInt_lt, nI_toInt hn]
  rw [Int32.lt_iff_toInt_lt] at h0
  have e : (i.toNatClampNeg : Int) = i.toInt := by
    rw [Int32.toNatClampNeg]
    have : (0 : Int32).toInt = 0 := rfl
    omega
  constructor
  · intro h
    exact ⟨by rw [Int32.lt_iff_toInt_lt]; exact h0, by omega⟩
  · intro h
    have := h.2
    omega
section TH
variable {d : Nat} {κ : KT} {cs : Nat × Nat} {I : Nat → Nat → Int32} {J : Nat → Nat → Int64} {W : Nat}
theorem m_at (a n : Nat) (i : Int32) (hn : n < 2 ^ 31) (hs : (cw κ cs I J W).1.1[a]? = some (.inr (.int, n))) : tm d 127 [.ref a, .int i] (cw κ cs I J W) (.inl (some (.int (atf (I a) n i)))) (cw κ cs I J W) := by
  refine tm_of me_127 rfl (Nat.le_of_ble_eq_true rfl) ?_
  unfold atf
  by_cases h0 : i < 0
  · rw [if_neg (fun h => h.1 h0)]
    exact tt_S 2 (L1 := bk_127_1) [some (.ref a), some (.int i)] [] _ (fun _ => if_pos h0) ⟨2, fun _ => rfl⟩
  · refine tt_S 2 [some (.ref a), some (.int i)] [] (cw κ cs I J W) (fun _ => if_neg h0) ?_
    refine tt_S 2 [some (.ref a), some (.int i)] [.ref a, .int i] (cw κ cs I J W) (fun _ => rfl) ?_
    refine tt_L hs ?_
    by_cases h1 : i < nI n
    · have hj := (in_iff hn h0).mp h1
      rw [if_pos hj]
      refine tt_S 1 [some (.ref a), some (.int i)] [] (cw κ cs I J W) (fun _ => if_pos h1) ?_
      refine tt_S 2 [some (.ref a), some (.int i)] [.int i, .ref a] (cw κ cs I J W) (fun _ => rfl) ?_
      refine tt_La hs hj ?_
      exact ⟨2, fun _ => rfl⟩
    · rw [if_neg (fun h => h1 ((in_iff hn h0).mpr h))]
      exact tt_S 1 (L1 := bk_127_1) [some (.ref a), some (.int i)] [] (cw κ cs I J W) (fun _ => if_neg h1) ⟨2, fun _ => rfl⟩
theorem m_put (a n : Nat) (i v : Int32) (hn : n < 2 ^ 31) (hs : (cw κ cs I J W).1.1[a]? = some (.inr (.int, n))) (ha : pg_ro ≤ a) : tm d 128 [.ref a, .int i, .int v] (cw κ cs I J W) (.inl none) (cw κ cs (putf I a n i v) J W) := by
  refine tm_of me_128 rfl (Nat.le_of_ble_eq_true rfl) ?_
  unfold putf
  by_cases h0 : i < 0
  · rw [if_neg (fun h => h.1 h0)]
    exact tt_S 2 (L1 := bk_128_1) [some (.ref a), some (.int i), some (.int v)] [] _ (fun _ => if_pos h0) ⟨1, fun _ => rfl⟩
  · refine tt_S 2 [some (.ref a), some (.int i), some (.int v)] [] (cw κ cs I J W) (fun _ => if_neg h0) ?_
    refine tt_S 2 [some (.ref a), some (.int i), some (.int v)] [.ref a, .int i] (cw κ cs I J W) (fun _ => rfl) ?_
    refine tt_L hs ?_
    by_cases h1 : i < nI n
    · have hj := (in_iff hn h0).mp h1
      rw [if_pos hj]
      refine tt_S 1 [some (.ref a), some (.int i), some (.int v)] [] (cw κ cs I J W) (fun _ => if_pos h1) ?_
      refine tt_S 3 [some (.ref a), some (.int i), some (.int v)] [.int v, .int i, .ref a] (cw κ cs I J W) (fun _ => rfl) ?_
      refine tt_Ls hs hj ha ?_
      exact ⟨1, fun _ => rfl⟩
    · rw [if_neg (fun h => h1 ((in_iff hn h0).mpr h))]
      exact tt_S 1 (L1 := bk_128_1) [some (.ref a), some (.int i), some (.int v)] [] (cw κ cs I J W) (fun _ => if_neg h1) ⟨1, fun _ => rfl⟩
theorem filf_up (a n : Nat) (v : Int32) : up (filf I a n v) a n v = filf I a (n + 1) v := by
  funext x k
  unfold up filf ex_set va_up
  by_cases hx : x = a
  · subst hx
    simp only [if_true]
    by_cases hk : k = n
    · subst hk
      simp
    · rw [if_neg hk]
      by_cases h1 : k < n
      · rw [if_pos h1, if_pos (by omega)]
      · rw [if_neg h1, if_neg (by omega)]
  · simp only [if_neg hx]
theorem filf_0 (a : Nat) (v : Int32) : filf I a 0 v = I := by
  funext x k
  unfold filf ex_set
  by_cases hx : x = a
  · subst hx
    simp
  · simp only [if_neg hx]
theorem m_fillL (a n : Nat) (v : Int32) (hn : n < 2 ^ 31) (hs : ∀ I : Nat → Nat → Int32, (cw κ cs I J W).1.1[a]? = some (.inr (.int, n))) (ha : pg_ro ≤ a) : ∀ (j i : Nat), i + j = n → tt d me_220 bk_220_1 [some (.ref a), some (.int v), some (.int (nI i)), some (.int (nI n))] [] (cw κ cs (filf I a i v) J W) (.inl none) (cw κ cs (filf I a n v) J W)
  | 0, i, h => by
    have e : i = n := by omega
    subst e
    refine tt_S 3 (L1 := bk_220_2) [some (.ref a), some (.int v), some (.int (nI i)), some (.int (nI i))] [] (cw κ cs (filf I a i v) J W) (fun _ => if_neg (nI_nlt (Nat.le_refl i) hn)) ?_
    exact ⟨1, fun _ => rfl⟩
  | j + 1, i, h => by
    refine tt_S 3 [some (.ref a), some (.int v), some (.int (nI i)), some (.int (nI n))] [] (cw κ cs (filf I a i v) J W) (fun _ => if_pos (nI_lt (show i < n by omega) hn)) ?_
    refine tt_S 3 [some (.ref a), some (.int v), some (.int (nI i)), some (.int (nI n))] [.int v, .int (nI i), .ref a] (cw κ cs (filf I a i v) J W) (fun _ => rfl) ?_
    refine tt_Ls (hs _) ⟨nI_pos (by omega), by rw [nI_clamp (by omega)]; omega⟩ ha ?_
    have g := m_fillL a n v hn hs ha j (i + 1) (by omega)
    rw [← filf_up] at g
    rw [nI_clamp (show i < 2 ^ 31 by omega)]
    refine tt_S 2 (L1 := bk_220_1) [some (.ref a), some (.int v), some (.int (nI i + 1)), some (.int (nI n))] [] (cw κ cs (up (filf I a i v) a i v) J W) (fun _ => rfl) ?_
    rw [nI_1]
    exact g
theorem m_fill (a n : Nat) (v : Int32) (hn : n < 2 ^ 31) (hs : ∀ I : Nat → Nat → Int32, (cw κ cs I J W).1.1[a]? = some (.inr (.int, n))) (ha : pg_ro ≤ a) : tm d 220 [.ref a, .int v] (cw κ cs I J W) (.inl none) (cw κ cs (filf I a n v) J W) := by
  refine tm_of me_220 rfl (Nat.le_of_ble_eq_true rfl) ?_
  refine tt_S 3 [some (.ref a), some (.int v), some (.int 0), none] [.ref a] (cw κ cs I J W) (fun _ => rfl) ?_
  refine tt_L (hs I) ?_
  refine tt_S 1 (L1 := bk_220_1) [some (.ref a), some (.int v), some (.int 0), some (.int (nI n))] [] (cw κ cs I J W) (fun _ => rfl) ?_
  have g := m_fillL (d := d) (I := I) a n v hn hs ha n 0 (by omega)
  rw [filf_0] at g
  exact g
theorem m_min (a b : Nat) (ha : a < 2 ^ 31) (hb : b < 2 ^ 31) : tm d 213 [.int (nI a), .int (nI b)] (cw κ cs I J W) (.inl (some (.int (nI (min a b))))) (cw κ cs I J W) := by
  refine tm_of me_213 rfl (Nat.le_of_ble_eq_true rfl) ?_
  by_cases h : b < a
  · rw [Nat.min_eq_right (by omega)]
    exact tt_S 3 (L1 := bk_213_1) [some (.int (nI a)), some (.int (nI b))] [] (cw κ cs I J W) (fun _ => if_pos (nI_lt h ha)) ⟨2, fun _ => rfl⟩
  · rw [Nat.min_eq_left (by omega)]
    exact tt_S 3 [some (.int (nI a)), some (.int (nI b))] [] (cw κ cs I J W) (fun _ => if_neg (nI_nlt (show a ≤ b by omega) hb)) ⟨3, fun _ => rfl⟩
theorem m_copy (a n b m : Nat) (hn : n < 2 ^ 31) (hm : m < 2 ^ 31) (hs : (cw κ cs I J W).1.1[a]? = some (.inr (.int, n))) (ht : (cw κ cs I J W).1.1[b]? = some (.inr (.int, m))) (hb : pg_ro ≤ b) : tm (d + 1) 129 [.ref a, .ref b] (cw κ cs I J W) (.inl none) (cw κ cs (cpyf I a b (min n m)) J W) := by
  refine tm_of me_129 rfl (Nat.le_of_ble_eq_true rfl) ?_
  refine tt_S 5 [some (.ref a), some (.ref b)] [.ref a, .int 0, .ref b, .int 0, .ref a] (cw κ cs I J W) (fun _ => rfl) ?_
  refine tt_L hs ?_
  refine tt_S 1 [some (.ref a), some (.ref b)] [.ref b, .int (nI n), .int 0, .ref b, .int 0, .ref a] (cw κ cs I J W) (fun _ => rfl) ?_
  refine tt_L ht ?_
  refine tt_K 1 [some (.ref a), some (.ref b)] [.int 0, .ref b, .int 0, .ref a] (cw κ cs I J W) (fun _ => rfl) (m_min n m hn hm) ?_
  have h0 : (nI (min n m)).toNatClampNeg = min n m := nI_clamp (by omega)
  have z0 : (0 : Int32).toNatClampNeg = 0 := rfl
  refine tt_S 1 (L1 := [(14, 1, .return_, [], 0)]) [some (.ref a), some (.ref b)] [] (cw κ cs (cpyf I a b (min n m)) J W) (fun k => ?_) ⟨1, fun _ => rfl⟩
  show ex_inv pg_ro pg_mt (ex_run pg_ro pg_mt k) (d + 1) me_129.2.2.2.2.2.1 [7] _ [some (.ref a), some (.ref b)] [.int (nI (min n m)), .int 0, .ref b, .int 0, .ref a] (cw κ cs I J W) = _
  unfold ex_inv
  dsimp only
  rw [hs, ht]
  dsimp only
  rw [if_pos ⟨⟨hb, Nat.le_of_ble_eq_true rfl⟩, by decide, by decide, nI_pos (by omega), by rw [h0, z0]; omega, by rw [h0, z0]; omega⟩, h0]
  rfl
end TH
/-- one of the words' texts, of their bytes -/
abbrev isS (x : Nat) : Prop := 18 ≤ x ∧ x ≤ 34
abbrev isB (x : Nat) : Prop := 35 ≤ x ∧ x ≤ 51
def bl (z : Nat) : Nat := [5, 5, 4, 4, 4, 5, 4, 4, 3, 3, 5, 4, 2, 2, 3, 3, 0].getD (z - 35) 0
/-- how many cells and slots a call that answered so made -/
def xk (cs : Nat × Nat) (k : Int32) : Nat × Nat := if k = 0 then cs else (cs.1 + 1, cs.2 + 6)
section TX
variable {d : Nat} {M : ex_M} {L L1 L2 : List ex_R} {lo : ex_Lo} {st : List Value} {w w' : ex_W} {x : Option Value ⊕ Nat} {R S : Type} {r : R} {κ : KT} {cs : Nat × Nat} {I : Nat → Nat → Int32} {J : Nat → Nat → Int64} {W : Nat}
theorem isS_sh {y : Nat} (h : isS y) : (cw κ cs I J W).1.1[y]? = some (.inl 101) := by
  obtain ⟨h1, h2⟩ := h
  have : y = 18 ∨ y = 19 ∨ y = 20 ∨ y = 21 ∨ y = 22 ∨ y = 23 ∨ y = 24 ∨ y = 25 ∨ y = 26 ∨ y = 27 ∨ y = 28 ∨ y = 29 ∨ y = 30 ∨ y = 31 ∨ y = 32 ∨ y = 33 ∨ y = 34 := by omega
  rcases this with rfl | rfl | rfl | rfl | rfl | rfl | rfl | rfl | rfl | rfl | rfl | rfl | rfl | rfl | rfl | rfl | rfl <;> rfl
theorem isB_sh {y : Nat} (h : isB y) : (cw κ cs I J W).1.1[y]? = some (.inr (.byte, bl y)) := by
  obtain ⟨h1, h2⟩ := h
  have : y = 35 ∨ y = 36 ∨ y = 37 ∨ y = 38 ∨ y = 39 ∨ y = 40 ∨ y = 41 ∨ y = 42 ∨ y = 43 ∨ y = 44 ∨ y = 45 ∨ y = 46 ∨ y = 47 ∨ y = 48 ∨ y = 49 ∨ y = 50 ∨ y = 51 := by omega
  rcases this with rfl | rfl | rfl | rfl | rfl | rfl | rfl | rfl | rfl | rfl | rfl | rfl | rfl | rfl | rfl | rfl | rfl <;> rfl
theorem isw_R {y : Nat} (h : isw y) : (cw κ cs I J W).2.2.2 y 0 = some (y + 17) := by
  obtain ⟨h1, h2⟩ := h
  have : y = 1 ∨ y = 2 ∨ y = 3 ∨ y = 4 ∨ y = 5 ∨ y = 6 ∨ y = 7 ∨ y = 8 ∨ y = 9 ∨ y = 10 ∨ y = 11 ∨ y = 12 ∨ y = 13 ∨ y = 14 ∨ y = 15 ∨ y = 16 ∨ y = 17 := by omega
  rcases this with rfl | rfl | rfl | rfl | rfl | rfl | rfl | rfl | rfl | rfl | rfl | rfl | rfl | rfl | rfl | rfl | rfl <;> rfl
theorem isS_R {y : Nat} (h : isS y) : (cw κ cs I J W).2.2.2 y 0 = some (y + 17) := by
  obtain ⟨h1, h2⟩ := h
  have : y = 18 ∨ y = 19 ∨ y = 20 ∨ y = 21 ∨ y = 22 ∨ y = 23 ∨ y = 24 ∨ y = 25 ∨ y = 26 ∨ y = 27 ∨ y = 28 ∨ y = 29 ∨ y = 30 ∨ y = 31 ∨ y = 32 ∨ y = 33 ∨ y = 34 := by omega
  rcases this with rfl | rfl | rfl | rfl | rfl | rfl | rfl | rfl | rfl | rfl | rfl | rfl | rfl | rfl | rfl | rfl | rfl <;> rfl
theorem all_R {j : Nat} (h : j < 17) : (cw κ cs I J W).2.2.2 52 j = some (1 + j) := by
  have : j = 0 ∨ j = 1 ∨ j = 2 ∨ j = 3 ∨ j = 4 ∨ j = 5 ∨ j = 6 ∨ j = 7 ∨ j = 8 ∨ j = 9 ∨ j = 10 ∨ j = 11 ∨ j = 12 ∨ j = 13 ∨ j = 14 ∨ j = 15 ∨ j = 16 := by omega
  rcases this with rfl | rfl | rfl | rfl | rfl | rfl | rfl | rfl | rfl | rfl | rfl | rfl | rfl | rfl | rfl | rfl | rfl <;> rfl
theorem isS_ro {y : Nat} (h : isS y) : ¬ pg_ro ≤ y := by
  have : pg_ro = 58 := rfl
  omega
theorem isB_ro {y : Nat} (h : isB y) : ¬ pg_ro ≤ y := by
  have : pg_ro = 58 := rfl
  omega
/-- a word's text -/
theorem tt_Vs {pc len j p q y : Nat} {k : Int32} {A : Option R} (h : (if isw y then A else none) = some r) (g : A = some r → tt d M L lo (.ref (y + 17) :: st) (cw κ cs I J W) x w') : tt d M ((pc, len, .getfield j, [100, 0, 2, p, q], k) :: L) lo (.ref y :: st) (cw κ cs I J W) x w' := by
  by_cases hc : isw y
  · rw [if_pos hc] at h
    refine tt_S 1 lo _ _ (fun n => ?_) (g h)
    show (match ex_heap pg_ro (.getfield j) [100, 0, 2, p, q] k (.ref y :: st) (cw κ cs I J W) with
        | some (st, w) => ex_run pg_ro pg_mt n d M.2.2.2.2.2.1 L lo st w
        | none => none) = _
    have : ex_heap pg_ro (.getfield j) [100, 0, 2, p, q] k (.ref y :: st) (cw κ cs I J W) = some (.ref (y + 17) :: st, cw κ cs I J W) := by
      unfold ex_heap
      dsimp only
      rw [isw_sh hc]
      dsimp only
      rw [if_pos ⟨rfl, Or.inr ⟨by decide, isw_ro hc⟩⟩]
      show some (va_rf ((cw κ cs I J W).2.2.2 y 0) :: st, cw κ cs I J W) = _
      rw [isw_R hc]
      rfl
    rw [this]
  · rw [if_neg hc] at h
    cases h
/-- a text's bytes -/
theorem tt_Sv {pc len j p q y : Nat} {k : Int32} {A : Option R} (h : (if isS y then A else none) = some r) (g : A = some r → tt d M L lo (.ref (y + 17) :: st) (cw κ cs I J W) x w') : tt d M ((pc, len, .getfield j, [101, 0, 2, p, q], k) :: L) lo (.ref y :: st) (cw κ cs I J W) x w' := by
  by_cases hc : isS y
  · rw [if_pos hc] at h
    refine tt_S 1 lo _ _ (fun n => ?_) (g h)
    show (match ex_heap pg_ro (.getfield j) [101, 0, 2, p, q] k (.ref y :: st) (cw κ cs I J W) with
        | some (st, w) => ex_run pg_ro pg_mt n d M.2.2.2.2.2.1 L lo st w
        | none => none) = _
    have : ex_heap pg_ro (.getfield j) [101, 0, 2, p, q] k (.ref y :: st) (cw κ cs I J W) = some (.ref (y + 17) :: st, cw κ cs I J W) := by
      unfold ex_heap
      dsimp only
      rw [isS_sh hc]
      dsimp only
      rw [if_pos ⟨rfl, Or.inr ⟨by decide, isS_ro hc⟩⟩]
      show some (va_rf ((cw κ cs I J W).2.2.2 y 0) :: st, cw κ cs I J W) = _
      rw [isS_R hc]
      rfl
    rw [this]
  · rw [if_neg hc] at h
    cases h
/-- a text's coder -/
theorem tt_Sc {pc len j p q y : Nat} {k : Int32} {A : Option R} (h : (if isS y then A else none) = some r) (g : A = some r → tt d M L lo (.int (I y 1) :: st) (cw κ cs I J W) x w') : tt d M ((pc, len, .getfield j, [101, 1, 4, p, q], k) :: L) lo (.ref y :: st) (cw κ cs I J W) x w' := by
  by_cases hc : isS y
  · rw [if_pos hc] at h
    refine tt_S 1 lo _ _ (fun n => ?_) (g h)
    show (match ex_heap pg_ro (.getfield j) [101, 1, 4, p, q] k (.ref y :: st) (cw κ cs I J W) with
        | some (st, w) => ex_run pg_ro pg_mt n d M.2.2.2.2.2.1 L lo st w
        | none => none) = _
    have : ex_heap pg_ro (.getfield j) [101, 1, 4, p, q] k (.ref y :: st) (cw κ cs I J W) = some (.int (I y 1) :: st, cw κ cs I J W) := by
      unfold ex_heap
      dsimp only
      rw [isS_sh hc]
      dsimp only
      rw [if_pos ⟨rfl, Or.inr ⟨by decide, isS_ro hc⟩⟩]
      rfl
    rw [this]
  · rw [if_neg hc] at h
    cases h
theorem tt_Bl {pc len y : Nat} {l : List Nat} {k : Int32} {A : Option R} (h : (if isB y then A else none) = some r) (g : A = some r → tt d M L lo (.int (nI (bl y)) :: st) (cw κ cs I J W) x w') : tt d M ((pc, len, .arraylength, l, k) :: L) lo (.ref y :: st) (cw κ cs I J W) x w' := by
  by_cases hc : isB y
  · rw [if_pos hc] at h
    refine tt_S 1 lo _ _ (fun n => ?_) (g h)
    have : ex_heap pg_ro .arraylength l k (.ref y :: st) (cw κ cs I J W) = some (.int (nI (bl y)) :: st, cw κ cs I J W) := by
      unfold ex_heap
      dsimp only
      rw [isB_sh hc]
      exact if_pos (Or.inl (isB_ro hc))
    show (match ex_heap pg_ro .arraylength l k (.ref y :: st) (cw κ cs I J W) with
        | some (st, w) => ex_run pg_ro pg_mt n d M.2.2.2.2.2.1 L lo st w
        | none => none) = _
    rw [this]
  · rw [if_neg hc] at h
    cases h
theorem tt_Bb {pc len y : Nat} {l : List Nat} {k j : Int32} {A : Option R} (h : (if isB y ∧ ex_in j (bl y) then A else none) = some r) (g : A = some r → tt d M L lo (.int (I y j.toNatClampNeg) :: st) (cw κ cs I J W) x w') : tt d M ((pc, len, .baload, l, k) :: L) lo (.int j :: .ref y :: st) (cw κ cs I J W) x w' := by
  by_cases hc : isB y ∧ ex_in j (bl y)
  · rw [if_pos hc] at h
    refine tt_S 1 lo _ _ (fun n => ?_) (g h)
    have : ex_heap pg_ro .baload l k (.int j :: .ref y :: st) (cw κ cs I J W) = some (.int (I y j.toNatClampNeg) :: st, cw κ cs I J W) := by
      unfold ex_heap
      dsimp only
      rw [isB_sh hc.1]
      exact if_pos hc.2
    show (match ex_heap pg_ro .baload l k (.int j :: .ref y :: st) (cw κ cs I J W) with
        | some (st, w) => ex_run pg_ro pg_mt n d M.2.2.2.2.2.1 L lo st w
        | none => none) = _
    rw [this]
  · rw [if_neg hc] at h
    cases h
theorem tt_Aa {pc len : Nat} {l : List Nat} {k j : Int32} {A : Option R} (h : (if ex_in j 17 then A else none) = some r) (g : A = some r → tt d M L lo (.ref (1 + j.toNatClampNeg) :: st) (cw κ cs I J W) x w') : tt d M ((pc, len, .aaload, l, k) :: L) lo (.int j :: .ref 52 :: st) (cw κ cs I J W) x w' := by
  by_cases hc : ex_in j 17
  · rw [if_pos hc] at h
    refine tt_S 1 lo _ _ (fun n => ?_) (g h)
    have : ex_heap pg_ro .aaload l k (.int j :: .ref 52 :: st) (cw κ cs I J W) = some (.ref (1 + j.toNatClampNeg) :: st, cw κ cs I J W) := by
      unfold ex_heap
      dsimp only
      have e : (cw κ cs I J W).1.1[52]? = some (.inr (.object "PileTricks$Word", 17)) := rfl
      rw [e]
      dsimp only
      rw [if_pos ⟨hc, by decide⟩, all_R hc.2]
      rfl
    show (match ex_heap pg_ro .aaload l k (.int j :: .ref 52 :: st) (cw κ cs I J W) with
        | some (st, w) => ex_run pg_ro pg_mt n d M.2.2.2.2.2.1 L lo st w
        | none => none) = _
    rw [this]
  · rw [if_neg hc] at h
    cases h
theorem isS_rcv {y : Nat} (h : isS y) (as : List Value) : ex_rcv pg_ro (cw κ cs I J W) 101 (.ref y :: as) = true := by
  unfold ex_rcv
  dsimp only
  rw [isS_sh h]
  exact decide_eq_true ⟨rfl, Or.inr ⟨by decide, isS_ro h⟩⟩
/-- calls of a text's methods -/
theorem tt_Cs1 {pc len j mi y : Nat} {k : Int32} {F : Option S} {A : S → Option R} {v : S → Option Value} {w2 : S → ex_W} (hc : (st.map fun v => v.category).sum ≤ 8) (h : (if isS y then F.bind A else none) = some r) (hm : ∀ s, F = some s → tm d mi [.ref y] (cw κ cs I J W) (.inl (v s)) (w2 s)) (g : ∀ s, A s = some r → tt (d + 1) M L lo ((v s).toList ++ st) (w2 s) x w') : tt (d + 1) M ((pc, len, .invokevirtual j, [0, mi, 1, 101], k) :: L) lo (.ref y :: st) (cw κ cs I J W) x w' := by
  by_cases hy : isS y
  · rw [if_pos hy] at h
    refine tt_C 1 lo st (cw κ cs I J W) h (fun n => ?_) hm g
    show ex_inv pg_ro pg_mt (ex_run pg_ro pg_mt n) (d + 1) M.2.2.2.2.2.1 [0, mi, 1, 101] L lo (.ref y :: st) (cw κ cs I J W) = _
    exact (if_pos (c := ((1 : Nat) ≤ (Value.ref y :: st).length ∧ (((Value.ref y :: st).drop 1).map fun v => v.category).sum ≤ 8) ∧ ((0 : Nat) = 2 ∨ (0 : Nat) = 3 ∨ (0 : Nat) = 8 ∨ ex_rcv pg_ro (cw κ cs I J W) 101 ((Value.ref y :: st).take 1).reverse = true)) ⟨⟨Nat.le_add_left 1 st.length, hc⟩, Or.inr (Or.inr (Or.inr (isS_rcv hy [])))⟩).trans rfl
  · rw [if_neg hy] at h
    cases h
theorem tt_Cs2 {pc len j mi y : Nat} {u : Int32} {k : Int32} {F : Option S} {A : S → Option R} {v : S → Option Value} {w2 : S → ex_W} (hc : (st.map fun v => v.category).sum ≤ 8) (h : (if isS y then F.bind A else none) = some r) (hm : ∀ s, F = some s → tm d mi [.ref y, .int u] (cw κ cs I J W) (.inl (v s)) (w2 s)) (g : ∀ s, A s = some r → tt (d + 1) M L lo ((v s).toList ++ st) (w2 s) x w') : tt (d + 1) M ((pc, len, .invokevirtual j, [0, mi, 2, 101], k) :: L) lo (.int u :: .ref y :: st) (cw κ cs I J W) x w' := by
  by_cases hy : isS y
  · rw [if_pos hy] at h
    refine tt_C 1 lo st (cw κ cs I J W) h (fun n => ?_) hm g
    show ex_inv pg_ro pg_mt (ex_run pg_ro pg_mt n) (d + 1) M.2.2.2.2.2.1 [0, mi, 2, 101] L lo (.int u :: .ref y :: st) (cw κ cs I J W) = _
    exact (if_pos (c := ((2 : Nat) ≤ (Value.int u :: Value.ref y :: st).length ∧ (((Value.int u :: Value.ref y :: st).drop 2).map fun v => v.category).sum ≤ 8) ∧ ((0 : Nat) = 2 ∨ (0 : Nat) = 3 ∨ (0 : Nat) = 8 ∨ ex_rcv pg_ro (cw κ cs I J W) 101 ((Value.int u :: Value.ref y :: st).take 2).reverse = true)) ⟨⟨Nat.le_add_left 2 st.length, hc⟩, Or.inr (Or.inr (Or.inr (isS_rcv hy [.int u])))⟩).trans rfl
  · rw [if_neg hy] at h
    cases h
/-- an index that is looked at -/
theorem m_chk (i n : Int32) (h0 : ¬ i < 0) (h1 : i < n) : tm (d + 1) 218 [.int i, .int n] (cw κ cs I J W) (.inl none) (cw κ cs I J W) := by
  refine tm_of me_218 rfl (Nat.le_of_ble_eq_true rfl) ?_
  obtain ⟨k0, fm, tl, T⟩ := κ
  cases fm with
  | none =>
    refine tt_K (v := some (.int i)) 4 [some (.int i), some (.int n)] [] _ (fun _ => rfl) ?_ ⟨2, fun _ => rfl⟩
    refine tm_of me_221 rfl (Nat.le_of_ble_eq_true rfl) ?_
    refine tt_S 2 [some (.int i), some (.int n), some .null] [] _ (fun _ => if_neg h0) ?_
    exact tt_S 3 (L1 := bk_221_2) [some (.int i), some (.int n), some .null] [] _ (fun _ => if_pos h1) ⟨2, fun _ => rfl⟩
  | some z =>
    refine tt_K (v := some (.int i)) 4 [some (.int i), some (.int n)] [] _ (fun _ => rfl) ?_ ⟨2, fun _ => rfl⟩
    refine tm_of me_221 rfl (Nat.le_of_ble_eq_true rfl) ?_
    refine tt_S 2 [some (.int i), some (.int n), some (.ref z)] [] _ (fun _ => if_neg h0) ?_
    exact tt_S 3 (L1 := bk_221_2) [some (.int i), some (.int n), some (.ref z)] [] _ (fun _ => if_pos h1) ⟨2, fun _ => rfl⟩
theorem tt_H (k : Nat) (lo1 : ex_Lo) (rest : List Value) {i n : Int32} {A : Option R} (h : (if ¬ i < 0 ∧ i < n then A else none) = some r) (hs : ∀ m, ex_run pg_ro pg_mt (m + k) (d + 2) M.2.2.2.2.2.1 L lo st w = ex_ret (ex_run pg_ro pg_mt m) (d + 2) M.2.2.2.2.2.1 L1 lo1 rest (ex_me pg_mt (ex_run pg_ro pg_mt m) (d + 1) 218 [.int i, .int n] (cw κ cs I J W))) (g : A = some r → tt (d + 2) M L1 lo1 rest (cw κ cs I J W) x w') : tt (d + 2) M L lo st w x w' := by
  by_cases hc : ¬ i < 0 ∧ i < n
  · rw [if_pos hc] at h
    exact tt_K k lo1 rest (cw κ cs I J W) (v := none) hs (m_chk i n hc.1 hc.2) (g h)
  · rw [if_neg hc] at h
    cases h
/-- by what came -/
def mt2 {α R : Type} (y : α ⊕ Nat) (f : α → Option R) (g : Nat → Option R) : Option R := match y with
  | .inl a => f a
  | .inr e => g e
/-- a call in a method that catches: what is thrown becomes a number that is returned -/
theorem tt_X {α : Type} (k : Nat) (lo1 : ex_Lo) (rest : List Value) (w1 : ex_W) (X : α ⊕ Nat → Option Value ⊕ Nat) (v : α → Option Value) (hX1 : ∀ a, X (.inl a) = .inl (v a)) (hX2 : ∀ e, X (.inr e) = .inr e) {mi : Nat} {as : List Value} {rs : List Nat} {F : Option S} {y : S → α ⊕ Nat} {A : S → α → Option R} {B : S → Nat → Option R} {I2 : S → Nat → Nat → Int32} {J2 : S → Nat → Nat → Int64} {W2 : S → Nat} (h : (F.bind fun s => mt2 (y s) (fun a => A s a) (fun e => B s e)) = some r) (hs : ∀ n, ex_run pg_ro pg_mt (n + k) (d + 1) M.2.2.2.2.2.1 L lo st w = ex_retC (ex_run pg_ro pg_mt n) (d + 1) M.2.2.2.2.2.1 L1 lo1 rest rs (ex_me pg_mt (ex_run pg_ro pg_mt n) d mi as w1)) (hm : ∀ s, F = some s → tm d mi as w1 (X (y s)) (cw κ (xc cs (y s)) (I2 s) (J2 s) (W2 s))) (g : ∀ s a, A s a = some r → tt (d + 1) M L1 lo1 ((v a).toList ++ rest) (cw κ cs (I2 s) (J2 s) (W2 s)) x w') (gc : ∀ s e, B s e = some r → ex_end M.2.2.2.1 (ex_cat M.2.2.2.2.2.1 e (cw κ (cs.1 + 1, cs.2 + 6) (I2 s) (J2 s) (W2 s)) rs) = some (x, w')) : tt (d + 1) M L lo st w x w' := by
  cases F with
  | none => cases h
  | some s =>
    obtain ⟨k1, hm⟩ := hm s rfl
    have h : mt2 (y s) (fun a => A s a) (fun e => B s e) = some r := h
    cases hy : y s with
    | inl a =>
      rw [hy] at hm h
      obtain ⟨k2, g⟩ := g s a h
      refine ⟨k1 + k2 + k, fun n => ?_⟩
      rw [← Nat.add_assoc, hs, show n + (k1 + k2) = n + k2 + k1 by omega, hm, show n + k2 + k1 = n + k1 + k2 by omega, hX1]
      have e : ∀ self : ex_S, ex_retC self (d + 1) M.2.2.2.2.2.1 L1 lo1 rest rs (some (.inl (v a), cw κ cs (I2 s) (J2 s) (W2 s))) = self (d + 1) M.2.2.2.2.2.1 L1 lo1 ((v a).toList ++ rest) (cw κ cs (I2 s) (J2 s) (W2 s)) := by
        intro self
        cases v a with
        | none => rfl
        | some v => rfl
      show ex_end _ (ex_retC _ _ _ _ _ _ _ (some (.inl (v a), cw κ cs (I2 s) (J2 s) (W2 s)))) = _
      rw [e]
      exact g (n + k1)
    | inr e =>
      rw [hy] at hm h
      refine ⟨k1 + k, fun n => ?_⟩
      rw [← Nat.add_assoc, hs, hm, hX2]
      exact gc s e h
end TX
end
