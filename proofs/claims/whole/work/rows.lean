section
-- ===== PART A: goes FIRST, ahead of the names: the tables' words, and 'selects' of the private methods out of them =====
/-- a private method of a class that the tables say can be made, by its rows of tables_1 -/
def lw_okq (q : MethodName × Nat) : Prop := (q.1.cls ≠ "java/lang/invoke/MethodHandle" ∧ q.1.cls ≠ "java/lang/invoke/VarHandle") ∧ Cond.instantiable q.1.cls q.2 ∈ tables_1 ∧ Cond.privateMethod q.1 ∈ tables_1 ∧ Cond.instanceMethod q.1 ∈ tables_1
theorem lw_p0 : lw_okq (⟨"PileTricks$Reader", "forget", "()V"⟩, 8) := ⟨⟨by decide +kernel, by decide +kernel⟩, List.mem_of_getElem? (i := 83) (by decide +kernel), List.mem_of_getElem? (i := 140) (by decide +kernel), List.mem_of_getElem? (i := 141) (by decide +kernel)⟩
theorem lw_p1 : lw_okq (⟨"PileTricks", "startAnew", "()V"⟩, 13) := ⟨⟨by decide +kernel, by decide +kernel⟩, List.mem_of_getElem? (i := 27) (by decide +kernel), List.mem_of_getElem? (i := 344) (by decide +kernel), List.mem_of_getElem? (i := 345) (by decide +kernel)⟩
theorem lw_p2 : lw_okq (⟨"PileTricks$Setting", "takeOver", "(LPileTricks$Reader;LPileTricks$Dealer;)V"⟩, 10) := ⟨⟨by decide +kernel, by decide +kernel⟩, List.mem_of_getElem? (i := 218) (by decide +kernel), List.mem_of_getElem? (i := 348) (by decide +kernel), List.mem_of_getElem? (i := 349) (by decide +kernel)⟩
theorem lw_p3 : lw_okq (⟨"PileTricks$Dealer", "fit", "(II)V"⟩, 8) := ⟨⟨by decide +kernel, by decide +kernel⟩, List.mem_of_getElem? (i := 186) (by decide +kernel), List.mem_of_getElem? (i := 355) (by decide +kernel), List.mem_of_getElem? (i := 356) (by decide +kernel)⟩
theorem lw_p4 : lw_okq (⟨"PileTricks$Dealer", "heapBy", "(II)I"⟩, 8) := ⟨⟨by decide +kernel, by decide +kernel⟩, List.mem_of_getElem? (i := 186) (by decide +kernel), List.mem_of_getElem? (i := 362) (by decide +kernel), List.mem_of_getElem? (i := 363) (by decide +kernel)⟩
theorem lw_p5 : lw_okq (⟨"PileTricks$Dealer", "sizeOf", "(II)I"⟩, 8) := ⟨⟨by decide +kernel, by decide +kernel⟩, List.mem_of_getElem? (i := 186) (by decide +kernel), List.mem_of_getElem? (i := 375) (by decide +kernel), List.mem_of_getElem? (i := 376) (by decide +kernel)⟩
theorem lw_p6 : lw_okq (⟨"PileTricks$Setting", "takeDeals", "(LPileTricks$Reader;LPileTricks$Dealer;)V"⟩, 10) := ⟨⟨by decide +kernel, by decide +kernel⟩, List.mem_of_getElem? (i := 218) (by decide +kernel), List.mem_of_getElem? (i := 383) (by decide +kernel), List.mem_of_getElem? (i := 384) (by decide +kernel)⟩
theorem lw_p7 : lw_okq (⟨"PileTricks$Rules", "setValue", "(II)V"⟩, 14) := ⟨⟨by decide +kernel, by decide +kernel⟩, List.mem_of_getElem? (i := 89) (by decide +kernel), List.mem_of_getElem? (i := 388) (by decide +kernel), List.mem_of_getElem? (i := 389) (by decide +kernel)⟩
theorem lw_p8 : lw_okq (⟨"PileTricks$Rules", "workOut", "(I)I"⟩, 14) := ⟨⟨by decide +kernel, by decide +kernel⟩, List.mem_of_getElem? (i := 89) (by decide +kernel), List.mem_of_getElem? (i := 394) (by decide +kernel), List.mem_of_getElem? (i := 395) (by decide +kernel)⟩
theorem lw_p9 : lw_okq (⟨"PileTricks$Setting", "takeDealOfNone", "()V"⟩, 10) := ⟨⟨by decide +kernel, by decide +kernel⟩, List.mem_of_getElem? (i := 218) (by decide +kernel), List.mem_of_getElem? (i := 407) (by decide +kernel), List.mem_of_getElem? (i := 408) (by decide +kernel)⟩
theorem lw_p10 : lw_okq (⟨"PileTricks$Setting", "follow", "(ILPileTricks$Dealer;)V"⟩, 10) := ⟨⟨by decide +kernel, by decide +kernel⟩, List.mem_of_getElem? (i := 218) (by decide +kernel), List.mem_of_getElem? (i := 411) (by decide +kernel), List.mem_of_getElem? (i := 412) (by decide +kernel)⟩
theorem lw_p11 : lw_okq (⟨"PileTricks$Setting", "kindOf", "(I)I"⟩, 10) := ⟨⟨by decide +kernel, by decide +kernel⟩, List.mem_of_getElem? (i := 218) (by decide +kernel), List.mem_of_getElem? (i := 415) (by decide +kernel), List.mem_of_getElem? (i := 416) (by decide +kernel)⟩
theorem lw_p12 : lw_okq (⟨"PileTricks$Setting", "sideOf", "(I)I"⟩, 10) := ⟨⟨by decide +kernel, by decide +kernel⟩, List.mem_of_getElem? (i := 218) (by decide +kernel), List.mem_of_getElem? (i := 419) (by decide +kernel), List.mem_of_getElem? (i := 420) (by decide +kernel)⟩
theorem lw_p13 : lw_okq (⟨"PileTricks$Dealer", "hold", "(II)V"⟩, 8) := ⟨⟨by decide +kernel, by decide +kernel⟩, List.mem_of_getElem? (i := 186) (by decide +kernel), List.mem_of_getElem? (i := 423) (by decide +kernel), List.mem_of_getElem? (i := 424) (by decide +kernel)⟩
theorem lw_p14 : lw_okq (⟨"PileTricks$Setting", "layingOf", "(II)I"⟩, 10) := ⟨⟨by decide +kernel, by decide +kernel⟩, List.mem_of_getElem? (i := 218) (by decide +kernel), List.mem_of_getElem? (i := 427) (by decide +kernel), List.mem_of_getElem? (i := 428) (by decide +kernel)⟩
theorem lw_p15 : lw_okq (⟨"PileTricks$Dealer", "layOwn", "(II)V"⟩, 8) := ⟨⟨by decide +kernel, by decide +kernel⟩, List.mem_of_getElem? (i := 186) (by decide +kernel), List.mem_of_getElem? (i := 431) (by decide +kernel), List.mem_of_getElem? (i := 432) (by decide +kernel)⟩
def lw_privs_1 : List (MethodName × Nat) := [(⟨"PileTricks$Reader", "forget", "()V"⟩, 8), (⟨"PileTricks", "startAnew", "()V"⟩, 13), (⟨"PileTricks$Setting", "takeOver", "(LPileTricks$Reader;LPileTricks$Dealer;)V"⟩, 10), (⟨"PileTricks$Dealer", "fit", "(II)V"⟩, 8), (⟨"PileTricks$Dealer", "heapBy", "(II)I"⟩, 8), (⟨"PileTricks$Dealer", "sizeOf", "(II)I"⟩, 8), (⟨"PileTricks$Setting", "takeDeals", "(LPileTricks$Reader;LPileTricks$Dealer;)V"⟩, 10), (⟨"PileTricks$Rules", "setValue", "(II)V"⟩, 14), (⟨"PileTricks$Rules", "workOut", "(I)I"⟩, 14), (⟨"PileTricks$Setting", "takeDealOfNone", "()V"⟩, 10), (⟨"PileTricks$Setting", "follow", "(ILPileTricks$Dealer;)V"⟩, 10), (⟨"PileTricks$Setting", "kindOf", "(I)I"⟩, 10), (⟨"PileTricks$Setting", "sideOf", "(I)I"⟩, 10), (⟨"PileTricks$Dealer", "hold", "(II)V"⟩, 8), (⟨"PileTricks$Setting", "layingOf", "(II)I"⟩, 10), (⟨"PileTricks$Dealer", "layOwn", "(II)V"⟩, 8)]
theorem lw_r1 : ∀ q ∈ lw_privs_1, lw_okq q := List.forall_mem_cons.mpr ⟨lw_p0, List.forall_mem_cons.mpr ⟨lw_p1, List.forall_mem_cons.mpr ⟨lw_p2, List.forall_mem_cons.mpr ⟨lw_p3, List.forall_mem_cons.mpr ⟨lw_p4, List.forall_mem_cons.mpr ⟨lw_p5, List.forall_mem_cons.mpr ⟨lw_p6, List.forall_mem_cons.mpr ⟨lw_p7, List.forall_mem_cons.mpr ⟨lw_p8, List.forall_mem_cons.mpr ⟨lw_p9, List.forall_mem_cons.mpr ⟨lw_p10, List.forall_mem_cons.mpr ⟨lw_p11, List.forall_mem_cons.mpr ⟨lw_p12, List.forall_mem_cons.mpr ⟨lw_p13, List.forall_mem_cons.mpr ⟨lw_p14, List.forall_mem_cons.mpr ⟨lw_p15, fun _ h => absurd h List.not_mem_nil⟩⟩⟩⟩⟩⟩⟩⟩⟩⟩⟩⟩⟩⟩⟩⟩
theorem lw_p16 : lw_okq (⟨"PileTricks$Dealer", "newPlace", "(I)I"⟩, 8) := ⟨⟨by decide +kernel, by decide +kernel⟩, List.mem_of_getElem? (i := 186) (by decide +kernel), List.mem_of_getElem? (i := 435) (by decide +kernel), List.mem_of_getElem? (i := 436) (by decide +kernel)⟩
theorem lw_p17 : lw_okq (⟨"PileTricks$Dealer", "heapAt", "(I)I"⟩, 8) := ⟨⟨by decide +kernel, by decide +kernel⟩, List.mem_of_getElem? (i := 186) (by decide +kernel), List.mem_of_getElem? (i := 439) (by decide +kernel), List.mem_of_getElem? (i := 440) (by decide +kernel)⟩
theorem lw_p18 : lw_okq (⟨"PileTricks$Table", "layOut", "()V"⟩, 5) := ⟨⟨by decide +kernel, by decide +kernel⟩, List.mem_of_getElem? (i := 318) (by decide +kernel), List.mem_of_getElem? (i := 443) (by decide +kernel), List.mem_of_getElem? (i := 444) (by decide +kernel)⟩
theorem lw_p19 : lw_okq (⟨"PileTricks$Tape", "append", "(I)V"⟩, 9) := ⟨⟨by decide +kernel, by decide +kernel⟩, List.mem_of_getElem? (i := 35) (by decide +kernel), List.mem_of_getElem? (i := 493) (by decide +kernel), List.mem_of_getElem? (i := 494) (by decide +kernel)⟩
theorem lw_p20 : lw_okq (⟨"PileTricks", "startEnds", "()V"⟩, 13) := ⟨⟨by decide +kernel, by decide +kernel⟩, List.mem_of_getElem? (i := 27) (by decide +kernel), List.mem_of_getElem? (i := 505) (by decide +kernel), List.mem_of_getElem? (i := 506) (by decide +kernel)⟩
theorem lw_p21 : lw_okq (⟨"PileTricks", "commonEnd", "()I"⟩, 13) := ⟨⟨by decide +kernel, by decide +kernel⟩, List.mem_of_getElem? (i := 27) (by decide +kernel), List.mem_of_getElem? (i := 509) (by decide +kernel), List.mem_of_getElem? (i := 510) (by decide +kernel)⟩
theorem lw_p22 : lw_okq (⟨"PileTricks", "moveEnds", "(I)V"⟩, 13) := ⟨⟨by decide +kernel, by decide +kernel⟩, List.mem_of_getElem? (i := 27) (by decide +kernel), List.mem_of_getElem? (i := 514) (by decide +kernel), List.mem_of_getElem? (i := 515) (by decide +kernel)⟩
theorem lw_p23 : lw_okq (⟨"PileTricks$Setting", "followedTo", "(II)I"⟩, 10) := ⟨⟨by decide +kernel, by decide +kernel⟩, List.mem_of_getElem? (i := 218) (by decide +kernel), List.mem_of_getElem? (i := 518) (by decide +kernel), List.mem_of_getElem? (i := 519) (by decide +kernel)⟩
theorem lw_p24 : lw_okq (⟨"PileTricks$Setting", "allows", "(IIII)Z"⟩, 10) := ⟨⟨by decide +kernel, by decide +kernel⟩, List.mem_of_getElem? (i := 218) (by decide +kernel), List.mem_of_getElem? (i := 527) (by decide +kernel), List.mem_of_getElem? (i := 528) (by decide +kernel)⟩
theorem lw_p25 : lw_okq (⟨"PileTricks$Setting", "hasHeap", "(I)Z"⟩, 10) := ⟨⟨by decide +kernel, by decide +kernel⟩, List.mem_of_getElem? (i := 218) (by decide +kernel), List.mem_of_getElem? (i := 534) (by decide +kernel), List.mem_of_getElem? (i := 535) (by decide +kernel)⟩
theorem lw_p26 : lw_okq (⟨"PileTricks$Table", "take", "(I)V"⟩, 5) := ⟨⟨by decide +kernel, by decide +kernel⟩, List.mem_of_getElem? (i := 318) (by decide +kernel), List.mem_of_getElem? (i := 541) (by decide +kernel), List.mem_of_getElem? (i := 542) (by decide +kernel)⟩
theorem lw_p27 : lw_okq (⟨"PileTricks$Table", "dealLast", "(LPileTricks$Dealer;[I)V"⟩, 5) := ⟨⟨by decide +kernel, by decide +kernel⟩, List.mem_of_getElem? (i := 318) (by decide +kernel), List.mem_of_getElem? (i := 546) (by decide +kernel), List.mem_of_getElem? (i := 547) (by decide +kernel)⟩
theorem lw_p28 : lw_okq (⟨"PileTricks$Dealer", "lay", "(III)V"⟩, 8) := ⟨⟨by decide +kernel, by decide +kernel⟩, List.mem_of_getElem? (i := 186) (by decide +kernel), List.mem_of_getElem? (i := 558) (by decide +kernel), List.mem_of_getElem? (i := 559) (by decide +kernel)⟩
theorem lw_p29 : lw_okq (⟨"PileTricks$Dealer", "layNamed", "(III)I"⟩, 8) := ⟨⟨by decide +kernel, by decide +kernel⟩, List.mem_of_getElem? (i := 186) (by decide +kernel), List.mem_of_getElem? (i := 562) (by decide +kernel), List.mem_of_getElem? (i := 563) (by decide +kernel)⟩
theorem lw_p30 : lw_okq (⟨"PileTricks$Dealer", "layHeap", "(II)I"⟩, 8) := ⟨⟨by decide +kernel, by decide +kernel⟩, List.mem_of_getElem? (i := 186) (by decide +kernel), List.mem_of_getElem? (i := 566) (by decide +kernel), List.mem_of_getElem? (i := 567) (by decide +kernel)⟩
theorem lw_p31 : lw_okq (⟨"PileTricks$Table", "fitting", "(LPileTricks$Setting;)J"⟩, 5) := ⟨⟨by decide +kernel, by decide +kernel⟩, List.mem_of_getElem? (i := 318) (by decide +kernel), List.mem_of_getElem? (i := 575) (by decide +kernel), List.mem_of_getElem? (i := 576) (by decide +kernel)⟩
def lw_privs_2 : List (MethodName × Nat) := [(⟨"PileTricks$Dealer", "newPlace", "(I)I"⟩, 8), (⟨"PileTricks$Dealer", "heapAt", "(I)I"⟩, 8), (⟨"PileTricks$Table", "layOut", "()V"⟩, 5), (⟨"PileTricks$Tape", "append", "(I)V"⟩, 9), (⟨"PileTricks", "startEnds", "()V"⟩, 13), (⟨"PileTricks", "commonEnd", "()I"⟩, 13), (⟨"PileTricks", "moveEnds", "(I)V"⟩, 13), (⟨"PileTricks$Setting", "followedTo", "(II)I"⟩, 10), (⟨"PileTricks$Setting", "allows", "(IIII)Z"⟩, 10), (⟨"PileTricks$Setting", "hasHeap", "(I)Z"⟩, 10), (⟨"PileTricks$Table", "take", "(I)V"⟩, 5), (⟨"PileTricks$Table", "dealLast", "(LPileTricks$Dealer;[I)V"⟩, 5), (⟨"PileTricks$Dealer", "lay", "(III)V"⟩, 8), (⟨"PileTricks$Dealer", "layNamed", "(III)I"⟩, 8), (⟨"PileTricks$Dealer", "layHeap", "(II)I"⟩, 8), (⟨"PileTricks$Table", "fitting", "(LPileTricks$Setting;)J"⟩, 5)]
theorem lw_r2 : ∀ q ∈ lw_privs_2, lw_okq q := List.forall_mem_cons.mpr ⟨lw_p16, List.forall_mem_cons.mpr ⟨lw_p17, List.forall_mem_cons.mpr ⟨lw_p18, List.forall_mem_cons.mpr ⟨lw_p19, List.forall_mem_cons.mpr ⟨lw_p20, List.forall_mem_cons.mpr ⟨lw_p21, List.forall_mem_cons.mpr ⟨lw_p22, List.forall_mem_cons.mpr ⟨lw_p23, List.forall_mem_cons.mpr ⟨lw_p24, List.forall_mem_cons.mpr ⟨lw_p25, List.forall_mem_cons.mpr ⟨lw_p26, List.forall_mem_cons.mpr ⟨lw_p27, List.forall_mem_cons.mpr ⟨lw_p28, List.forall_mem_cons.mpr ⟨lw_p29, List.forall_mem_cons.mpr ⟨lw_p30, List.forall_mem_cons.mpr ⟨lw_p31, fun _ h => absurd h List.not_mem_nil⟩⟩⟩⟩⟩⟩⟩⟩⟩⟩⟩⟩⟩⟩⟩⟩
theorem lw_p32 : lw_okq (⟨"PileTricks$Table", "gatherLast", "(LPileTricks$Dealer;[I)V"⟩, 5) := ⟨⟨by decide +kernel, by decide +kernel⟩, List.mem_of_getElem? (i := 318) (by decide +kernel), List.mem_of_getElem? (i := 589) (by decide +kernel), List.mem_of_getElem? (i := 590) (by decide +kernel)⟩
theorem lw_p33 : lw_okq (⟨"PileTricks$Table", "copyFrom", "(LPileTricks$Table;)V"⟩, 5) := ⟨⟨by decide +kernel, by decide +kernel⟩, List.mem_of_getElem? (i := 318) (by decide +kernel), List.mem_of_getElem? (i := 606) (by decide +kernel), List.mem_of_getElem? (i := 607) (by decide +kernel)⟩
theorem lw_p34 : lw_okq (⟨"java/lang/Throwable", "fillInStackTrace", "(I)Ljava/lang/Throwable;"⟩, 6) := ⟨⟨by decide +kernel, by decide +kernel⟩, List.mem_of_getElem? (i := 659) (by decide +kernel), List.mem_of_getElem? (i := 657) (by decide +kernel), List.mem_of_getElem? (i := 658) (by decide +kernel)⟩
theorem lw_p35 : lw_okq (⟨"PileTricks$Reader", "read", "(I)I"⟩, 8) := ⟨⟨by decide +kernel, by decide +kernel⟩, List.mem_of_getElem? (i := 83) (by decide +kernel), List.mem_of_getElem? (i := 684) (by decide +kernel), List.mem_of_getElem? (i := 685) (by decide +kernel)⟩
theorem lw_p36 : lw_okq (⟨"PileTricks$Tape", "openText", "(I)V"⟩, 9) := ⟨⟨by decide +kernel, by decide +kernel⟩, List.mem_of_getElem? (i := 35) (by decide +kernel), List.mem_of_getElem? (i := 688) (by decide +kernel), List.mem_of_getElem? (i := 689) (by decide +kernel)⟩
theorem lw_p37 : lw_okq (⟨"PileTricks$Tape", "advance", "()V"⟩, 9) := ⟨⟨by decide +kernel, by decide +kernel⟩, List.mem_of_getElem? (i := 35) (by decide +kernel), List.mem_of_getElem? (i := 693) (by decide +kernel), List.mem_of_getElem? (i := 694) (by decide +kernel)⟩
theorem lw_p38 : lw_okq (⟨"PileTricks$Tape", "byteAt", "(I)I"⟩, 9) := ⟨⟨by decide +kernel, by decide +kernel⟩, List.mem_of_getElem? (i := 35) (by decide +kernel), List.mem_of_getElem? (i := 697) (by decide +kernel), List.mem_of_getElem? (i := 698) (by decide +kernel)⟩
theorem lw_p39 : lw_okq (⟨"PileTricks$Tape", "takeWord", "()V"⟩, 9) := ⟨⟨by decide +kernel, by decide +kernel⟩, List.mem_of_getElem? (i := 35) (by decide +kernel), List.mem_of_getElem? (i := 707) (by decide +kernel), List.mem_of_getElem? (i := 708) (by decide +kernel)⟩
theorem lw_p40 : lw_okq (⟨"PileTricks$Tape", "isSpelled", "(Ljava/lang/String;)Z"⟩, 9) := ⟨⟨by decide +kernel, by decide +kernel⟩, List.mem_of_getElem? (i := 35) (by decide +kernel), List.mem_of_getElem? (i := 713) (by decide +kernel), List.mem_of_getElem? (i := 714) (by decide +kernel)⟩
theorem lw_p41 : lw_okq (⟨"PileTricks$Tape", "takeNumber", "()V"⟩, 9) := ⟨⟨by decide +kernel, by decide +kernel⟩, List.mem_of_getElem? (i := 35) (by decide +kernel), List.mem_of_getElem? (i := 768) (by decide +kernel), List.mem_of_getElem? (i := 769) (by decide +kernel)⟩
theorem lw_p42 : lw_okq (⟨"PileTricks$Reader", "readNumber", "(I)I"⟩, 8) := ⟨⟨by decide +kernel, by decide +kernel⟩, List.mem_of_getElem? (i := 83) (by decide +kernel), List.mem_of_getElem? (i := 783) (by decide +kernel), List.mem_of_getElem? (i := 784) (by decide +kernel)⟩
theorem lw_p43 : lw_okq (⟨"PileTricks$Tape", "isLongNumber", "()Z"⟩, 9) := ⟨⟨by decide +kernel, by decide +kernel⟩, List.mem_of_getElem? (i := 35) (by decide +kernel), List.mem_of_getElem? (i := 788) (by decide +kernel), List.mem_of_getElem? (i := 789) (by decide +kernel)⟩
theorem lw_p44 : lw_okq (⟨"PileTricks$Reader", "readLineEnd", "()I"⟩, 8) := ⟨⟨by decide +kernel, by decide +kernel⟩, List.mem_of_getElem? (i := 83) (by decide +kernel), List.mem_of_getElem? (i := 799) (by decide +kernel), List.mem_of_getElem? (i := 800) (by decide +kernel)⟩
theorem lw_p45 : lw_okq (⟨"PileTricks$Reader", "readDeal", "()I"⟩, 8) := ⟨⟨by decide +kernel, by decide +kernel⟩, List.mem_of_getElem? (i := 83) (by decide +kernel), List.mem_of_getElem? (i := 805) (by decide +kernel), List.mem_of_getElem? (i := 806) (by decide +kernel)⟩
theorem lw_p46 : lw_okq (⟨"PileTricks$Rules", "readRule", "(I)I"⟩, 14) := ⟨⟨by decide +kernel, by decide +kernel⟩, List.mem_of_getElem? (i := 89) (by decide +kernel), List.mem_of_getElem? (i := 827) (by decide +kernel), List.mem_of_getElem? (i := 828) (by decide +kernel)⟩
theorem lw_p47 : lw_okq (⟨"PileTricks$Rules", "openExpr", "()V"⟩, 14) := ⟨⟨by decide +kernel, by decide +kernel⟩, List.mem_of_getElem? (i := 89) (by decide +kernel), List.mem_of_getElem? (i := 831) (by decide +kernel), List.mem_of_getElem? (i := 832) (by decide +kernel)⟩
def lw_privs_3 : List (MethodName × Nat) := [(⟨"PileTricks$Table", "gatherLast", "(LPileTricks$Dealer;[I)V"⟩, 5), (⟨"PileTricks$Table", "copyFrom", "(LPileTricks$Table;)V"⟩, 5), (⟨"java/lang/Throwable", "fillInStackTrace", "(I)Ljava/lang/Throwable;"⟩, 6), (⟨"PileTricks$Reader", "read", "(I)I"⟩, 8), (⟨"PileTricks$Tape", "openText", "(I)V"⟩, 9), (⟨"PileTricks$Tape", "advance", "()V"⟩, 9), (⟨"PileTricks$Tape", "byteAt", "(I)I"⟩, 9), (⟨"PileTricks$Tape", "takeWord", "()V"⟩, 9), (⟨"PileTricks$Tape", "isSpelled", "(Ljava/lang/String;)Z"⟩, 9), (⟨"PileTricks$Tape", "takeNumber", "()V"⟩, 9), (⟨"PileTricks$Reader", "readNumber", "(I)I"⟩, 8), (⟨"PileTricks$Tape", "isLongNumber", "()Z"⟩, 9), (⟨"PileTricks$Reader", "readLineEnd", "()I"⟩, 8), (⟨"PileTricks$Reader", "readDeal", "()I"⟩, 8), (⟨"PileTricks$Rules", "readRule", "(I)I"⟩, 14), (⟨"PileTricks$Rules", "openExpr", "()V"⟩, 14)]
theorem lw_r3 : ∀ q ∈ lw_privs_3, lw_okq q := List.forall_mem_cons.mpr ⟨lw_p32, List.forall_mem_cons.mpr ⟨lw_p33, List.forall_mem_cons.mpr ⟨lw_p34, List.forall_mem_cons.mpr ⟨lw_p35, List.forall_mem_cons.mpr ⟨lw_p36, List.forall_mem_cons.mpr ⟨lw_p37, List.forall_mem_cons.mpr ⟨lw_p38, List.forall_mem_cons.mpr ⟨lw_p39, List.forall_mem_cons.mpr ⟨lw_p40, List.forall_mem_cons.mpr ⟨lw_p41, List.forall_mem_cons.mpr ⟨lw_p42, List.forall_mem_cons.mpr ⟨lw_p43, List.forall_mem_cons.mpr ⟨lw_p44, List.forall_mem_cons.mpr ⟨lw_p45, List.forall_mem_cons.mpr ⟨lw_p46, List.forall_mem_cons.mpr ⟨lw_p47, fun _ h => absurd h List.not_mem_nil⟩⟩⟩⟩⟩⟩⟩⟩⟩⟩⟩⟩⟩⟩⟩⟩
theorem lw_p48 : lw_okq (⟨"PileTricks$Rules", "setCompared", "(Z)V"⟩, 14) := ⟨⟨by decide +kernel, by decide +kernel⟩, List.mem_of_getElem? (i := 89) (by decide +kernel), List.mem_of_getElem? (i := 835) (by decide +kernel), List.mem_of_getElem? (i := 836) (by decide +kernel)⟩
theorem lw_p49 : lw_okq (⟨"PileTricks$Rules", "openNot", "()V"⟩, 14) := ⟨⟨by decide +kernel, by decide +kernel⟩, List.mem_of_getElem? (i := 89) (by decide +kernel), List.mem_of_getElem? (i := 839) (by decide +kernel), List.mem_of_getElem? (i := 840) (by decide +kernel)⟩
theorem lw_p50 : lw_okq (⟨"PileTricks$Rules", "readPart", "()I"⟩, 14) := ⟨⟨by decide +kernel, by decide +kernel⟩, List.mem_of_getElem? (i := 89) (by decide +kernel), List.mem_of_getElem? (i := 843) (by decide +kernel), List.mem_of_getElem? (i := 844) (by decide +kernel)⟩
theorem lw_p51 : lw_okq (⟨"PileTricks$Rules", "await", "(I)V"⟩, 14) := ⟨⟨by decide +kernel, by decide +kernel⟩, List.mem_of_getElem? (i := 89) (by decide +kernel), List.mem_of_getElem? (i := 847) (by decide +kernel), List.mem_of_getElem? (i := 848) (by decide +kernel)⟩
theorem lw_p52 : lw_okq (⟨"PileTricks$Rules", "readNot", "()I"⟩, 14) := ⟨⟨by decide +kernel, by decide +kernel⟩, List.mem_of_getElem? (i := 89) (by decide +kernel), List.mem_of_getElem? (i := 853) (by decide +kernel), List.mem_of_getElem? (i := 854) (by decide +kernel)⟩
theorem lw_p53 : lw_okq (⟨"PileTricks$Rules", "readNumberPart", "()I"⟩, 14) := ⟨⟨by decide +kernel, by decide +kernel⟩, List.mem_of_getElem? (i := 89) (by decide +kernel), List.mem_of_getElem? (i := 857) (by decide +kernel), List.mem_of_getElem? (i := 858) (by decide +kernel)⟩
theorem lw_p54 : lw_okq (⟨"PileTricks$Rules", "write", "(I)V"⟩, 14) := ⟨⟨by decide +kernel, by decide +kernel⟩, List.mem_of_getElem? (i := 89) (by decide +kernel), List.mem_of_getElem? (i := 862) (by decide +kernel), List.mem_of_getElem? (i := 863) (by decide +kernel)⟩
theorem lw_p55 : lw_okq (⟨"PileTricks$Rules", "readValue", "()I"⟩, 14) := ⟨⟨by decide +kernel, by decide +kernel⟩, List.mem_of_getElem? (i := 89) (by decide +kernel), List.mem_of_getElem? (i := 866) (by decide +kernel), List.mem_of_getElem? (i := 867) (by decide +kernel)⟩
theorem lw_p56 : lw_okq (⟨"PileTricks$Rules", "readBehindPart", "()I"⟩, 14) := ⟨⟨by decide +kernel, by decide +kernel⟩, List.mem_of_getElem? (i := 89) (by decide +kernel), List.mem_of_getElem? (i := 870) (by decide +kernel), List.mem_of_getElem? (i := 871) (by decide +kernel)⟩
theorem lw_p57 : lw_okq (⟨"PileTricks$Rules", "closeRule", "()I"⟩, 14) := ⟨⟨by decide +kernel, by decide +kernel⟩, List.mem_of_getElem? (i := 89) (by decide +kernel), List.mem_of_getElem? (i := 874) (by decide +kernel), List.mem_of_getElem? (i := 875) (by decide +kernel)⟩
theorem lw_p58 : lw_okq (⟨"PileTricks$Rules", "writeWaiting", "(I)V"⟩, 14) := ⟨⟨by decide +kernel, by decide +kernel⟩, List.mem_of_getElem? (i := 89) (by decide +kernel), List.mem_of_getElem? (i := 881) (by decide +kernel), List.mem_of_getElem? (i := 882) (by decide +kernel)⟩
theorem lw_p59 : lw_okq (⟨"PileTricks$Rules", "closeExpr", "()I"⟩, 14) := ⟨⟨by decide +kernel, by decide +kernel⟩, List.mem_of_getElem? (i := 89) (by decide +kernel), List.mem_of_getElem? (i := 885) (by decide +kernel), List.mem_of_getElem? (i := 886) (by decide +kernel)⟩
theorem lw_p60 : lw_okq (⟨"PileTricks$Rules", "operatorThere", "()I"⟩, 14) := ⟨⟨by decide +kernel, by decide +kernel⟩, List.mem_of_getElem? (i := 89) (by decide +kernel), List.mem_of_getElem? (i := 892) (by decide +kernel), List.mem_of_getElem? (i := 893) (by decide +kernel)⟩
theorem lw_p61 : lw_okq (⟨"PileTricks$Rules", "isCompared", "()Z"⟩, 14) := ⟨⟨by decide +kernel, by decide +kernel⟩, List.mem_of_getElem? (i := 89) (by decide +kernel), List.mem_of_getElem? (i := 900) (by decide +kernel), List.mem_of_getElem? (i := 901) (by decide +kernel)⟩
theorem lw_p62 : lw_okq (⟨"PileTricks$Setting", "hasPlace", "(I)Z"⟩, 10) := ⟨⟨by decide +kernel, by decide +kernel⟩, List.mem_of_getElem? (i := 218) (by decide +kernel), List.mem_of_getElem? (i := 946) (by decide +kernel), List.mem_of_getElem? (i := 947) (by decide +kernel)⟩
theorem lw_p63 : lw_okq (⟨"PileTricks$Setting", "followedEnd", "(II)I"⟩, 10) := ⟨⟨by decide +kernel, by decide +kernel⟩, List.mem_of_getElem? (i := 218) (by decide +kernel), List.mem_of_getElem? (i := 961) (by decide +kernel), List.mem_of_getElem? (i := 962) (by decide +kernel)⟩
def lw_privs_4 : List (MethodName × Nat) := [(⟨"PileTricks$Rules", "setCompared", "(Z)V"⟩, 14), (⟨"PileTricks$Rules", "openNot", "()V"⟩, 14), (⟨"PileTricks$Rules", "readPart", "()I"⟩, 14), (⟨"PileTricks$Rules", "await", "(I)V"⟩, 14), (⟨"PileTricks$Rules", "readNot", "()I"⟩, 14), (⟨"PileTricks$Rules", "readNumberPart", "()I"⟩, 14), (⟨"PileTricks$Rules", "write", "(I)V"⟩, 14), (⟨"PileTricks$Rules", "readValue", "()I"⟩, 14), (⟨"PileTricks$Rules", "readBehindPart", "()I"⟩, 14), (⟨"PileTricks$Rules", "closeRule", "()I"⟩, 14), (⟨"PileTricks$Rules", "writeWaiting", "(I)V"⟩, 14), (⟨"PileTricks$Rules", "closeExpr", "()I"⟩, 14), (⟨"PileTricks$Rules", "operatorThere", "()I"⟩, 14), (⟨"PileTricks$Rules", "isCompared", "()Z"⟩, 14), (⟨"PileTricks$Setting", "hasPlace", "(I)Z"⟩, 10), (⟨"PileTricks$Setting", "followedEnd", "(II)I"⟩, 10)]
theorem lw_r4 : ∀ q ∈ lw_privs_4, lw_okq q := List.forall_mem_cons.mpr ⟨lw_p48, List.forall_mem_cons.mpr ⟨lw_p49, List.forall_mem_cons.mpr ⟨lw_p50, List.forall_mem_cons.mpr ⟨lw_p51, List.forall_mem_cons.mpr ⟨lw_p52, List.forall_mem_cons.mpr ⟨lw_p53, List.forall_mem_cons.mpr ⟨lw_p54, List.forall_mem_cons.mpr ⟨lw_p55, List.forall_mem_cons.mpr ⟨lw_p56, List.forall_mem_cons.mpr ⟨lw_p57, List.forall_mem_cons.mpr ⟨lw_p58, List.forall_mem_cons.mpr ⟨lw_p59, List.forall_mem_cons.mpr ⟨lw_p60, List.forall_mem_cons.mpr ⟨lw_p61, List.forall_mem_cons.mpr ⟨lw_p62, List.forall_mem_cons.mpr ⟨lw_p63, fun _ h => absurd h List.not_mem_nil⟩⟩⟩⟩⟩⟩⟩⟩⟩⟩⟩⟩⟩⟩⟩⟩
theorem lw_p64 : lw_okq (⟨"PileTricks$Wishes", "rowsFor", "(II)I"⟩, 7) := ⟨⟨by decide +kernel, by decide +kernel⟩, List.mem_of_getElem? (i := 267) (by decide +kernel), List.mem_of_getElem? (i := 980) (by decide +kernel), List.mem_of_getElem? (i := 981) (by decide +kernel)⟩
theorem lw_p65 : lw_okq (⟨"PileTricks$Wishes", "seek", "(IJII)V"⟩, 7) := ⟨⟨by decide +kernel, by decide +kernel⟩, List.mem_of_getElem? (i := 267) (by decide +kernel), List.mem_of_getElem? (i := 984) (by decide +kernel), List.mem_of_getElem? (i := 985) (by decide +kernel)⟩
theorem lw_p66 : lw_okq (⟨"PileTricks$Wishes", "comesFrom", "(IIJ)J"⟩, 7) := ⟨⟨by decide +kernel, by decide +kernel⟩, List.mem_of_getElem? (i := 267) (by decide +kernel), List.mem_of_getElem? (i := 992) (by decide +kernel), List.mem_of_getElem? (i := 993) (by decide +kernel)⟩
theorem lw_p67 : lw_okq (⟨"PileTricks$Wishes", "keepFirst", "()V"⟩, 7) := ⟨⟨by decide +kernel, by decide +kernel⟩, List.mem_of_getElem? (i := 267) (by decide +kernel), List.mem_of_getElem? (i := 1002) (by decide +kernel), List.mem_of_getElem? (i := 1003) (by decide +kernel)⟩
theorem lw_p68 : lw_okq (⟨"PileTricks$Wishes", "keptLaying", "(I)I"⟩, 7) := ⟨⟨by decide +kernel, by decide +kernel⟩, List.mem_of_getElem? (i := 267) (by decide +kernel), List.mem_of_getElem? (i := 1013) (by decide +kernel), List.mem_of_getElem? (i := 1014) (by decide +kernel)⟩
theorem lw_p69 : lw_okq (⟨"PileTricks", "roundFrom", "(I)J"⟩, 13) := ⟨⟨by decide +kernel, by decide +kernel⟩, List.mem_of_getElem? (i := 27) (by decide +kernel), List.mem_of_getElem? (i := 1032) (by decide +kernel), List.mem_of_getElem? (i := 1033) (by decide +kernel)⟩
theorem lw_p70 : lw_okq (⟨"PileTricks$Guesses", "mostLeft", "(I)I"⟩, 5) := ⟨⟨by decide +kernel, by decide +kernel⟩, List.mem_of_getElem? (i := 296) (by decide +kernel), List.mem_of_getElem? (i := 1055) (by decide +kernel), List.mem_of_getElem? (i := 1056) (by decide +kernel)⟩
theorem lw_p71 : lw_okq (⟨"PileTricks$Guesses", "nameAll", "(II)V"⟩, 5) := ⟨⟨by decide +kernel, by decide +kernel⟩, List.mem_of_getElem? (i := 296) (by decide +kernel), List.mem_of_getElem? (i := 1060) (by decide +kernel), List.mem_of_getElem? (i := 1061) (by decide +kernel)⟩
theorem lw_p72 : lw_okq (⟨"PileTricks$Guesses", "leftBehind", "(III)I"⟩, 5) := ⟨⟨by decide +kernel, by decide +kernel⟩, List.mem_of_getElem? (i := 296) (by decide +kernel), List.mem_of_getElem? (i := 1064) (by decide +kernel), List.mem_of_getElem? (i := 1065) (by decide +kernel)⟩
theorem lw_p73 : lw_okq (⟨"PileTricks", "isDeal", "(I)Z"⟩, 13) := ⟨⟨by decide +kernel, by decide +kernel⟩, List.mem_of_getElem? (i := 27) (by decide +kernel), List.mem_of_getElem? (i := 1097) (by decide +kernel), List.mem_of_getElem? (i := 1098) (by decide +kernel)⟩
theorem lw_p74 : lw_okq (⟨"PileTricks$Table", "comesBy", "(ILPileTricks$Dealer;)Z"⟩, 5) := ⟨⟨by decide +kernel, by decide +kernel⟩, List.mem_of_getElem? (i := 318) (by decide +kernel), List.mem_of_getElem? (i := 1102) (by decide +kernel), List.mem_of_getElem? (i := 1103) (by decide +kernel)⟩
theorem lw_p75 : lw_okq (⟨"PileTricksModel", "anew", "()V"⟩, 66) := ⟨⟨by decide +kernel, by decide +kernel⟩, List.mem_of_getElem? (i := 1122) (by decide +kernel), List.mem_of_getElem? (i := 1128) (by decide +kernel), List.mem_of_getElem? (i := 1129) (by decide +kernel)⟩
theorem lw_p76 : lw_okq (⟨"PileTricksModel", "lays", "(I)V"⟩, 66) := ⟨⟨by decide +kernel, by decide +kernel⟩, List.mem_of_getElem? (i := 1122) (by decide +kernel), List.mem_of_getElem? (i := 1339) (by decide +kernel), List.mem_of_getElem? (i := 1340) (by decide +kernel)⟩
theorem lw_p77 : lw_okq (⟨"PileTricksModel", "right", "(ZI)Z"⟩, 66) := ⟨⟨by decide +kernel, by decide +kernel⟩, List.mem_of_getElem? (i := 1122) (by decide +kernel), List.mem_of_getElem? (i := 1347) (by decide +kernel), List.mem_of_getElem? (i := 1348) (by decide +kernel)⟩
theorem lw_p78 : lw_okq (⟨"PileTricksModel", "goes0", "()V"⟩, 66) := ⟨⟨by decide +kernel, by decide +kernel⟩, List.mem_of_getElem? (i := 1122) (by decide +kernel), List.mem_of_getElem? (i := 1351) (by decide +kernel), List.mem_of_getElem? (i := 1352) (by decide +kernel)⟩
theorem lw_p79 : lw_okq (⟨"PileTricksModel", "byteAt", "(I)I"⟩, 66) := ⟨⟨by decide +kernel, by decide +kernel⟩, List.mem_of_getElem? (i := 1122) (by decide +kernel), List.mem_of_getElem? (i := 1355) (by decide +kernel), List.mem_of_getElem? (i := 1356) (by decide +kernel)⟩
def lw_privs_5 : List (MethodName × Nat) := [(⟨"PileTricks$Wishes", "rowsFor", "(II)I"⟩, 7), (⟨"PileTricks$Wishes", "seek", "(IJII)V"⟩, 7), (⟨"PileTricks$Wishes", "comesFrom", "(IIJ)J"⟩, 7), (⟨"PileTricks$Wishes", "keepFirst", "()V"⟩, 7), (⟨"PileTricks$Wishes", "keptLaying", "(I)I"⟩, 7), (⟨"PileTricks", "roundFrom", "(I)J"⟩, 13), (⟨"PileTricks$Guesses", "mostLeft", "(I)I"⟩, 5), (⟨"PileTricks$Guesses", "nameAll", "(II)V"⟩, 5), (⟨"PileTricks$Guesses", "leftBehind", "(III)I"⟩, 5), (⟨"PileTricks", "isDeal", "(I)Z"⟩, 13), (⟨"PileTricks$Table", "comesBy", "(ILPileTricks$Dealer;)Z"⟩, 5), (⟨"PileTricksModel", "anew", "()V"⟩, 66), (⟨"PileTricksModel", "lays", "(I)V"⟩, 66), (⟨"PileTricksModel", "right", "(ZI)Z"⟩, 66), (⟨"PileTricksModel", "goes0", "()V"⟩, 66), (⟨"PileTricksModel", "byteAt", "(I)I"⟩, 66)]
theorem lw_r5 : ∀ q ∈ lw_privs_5, lw_okq q := List.forall_mem_cons.mpr ⟨lw_p64, List.forall_mem_cons.mpr ⟨lw_p65, List.forall_mem_cons.mpr ⟨lw_p66, List.forall_mem_cons.mpr ⟨lw_p67, List.forall_mem_cons.mpr ⟨lw_p68, List.forall_mem_cons.mpr ⟨lw_p69, List.forall_mem_cons.mpr ⟨lw_p70, List.forall_mem_cons.mpr ⟨lw_p71, List.forall_mem_cons.mpr ⟨lw_p72, List.forall_mem_cons.mpr ⟨lw_p73, List.forall_mem_cons.mpr ⟨lw_p74, List.forall_mem_cons.mpr ⟨lw_p75, List.forall_mem_cons.mpr ⟨lw_p76, List.forall_mem_cons.mpr ⟨lw_p77, List.forall_mem_cons.mpr ⟨lw_p78, List.forall_mem_cons.mpr ⟨lw_p79, fun _ h => absurd h List.not_mem_nil⟩⟩⟩⟩⟩⟩⟩⟩⟩⟩⟩⟩⟩⟩⟩⟩
theorem lw_p80 : lw_okq (⟨"PileTricksModel", "isGood", "()Z"⟩, 66) := ⟨⟨by decide +kernel, by decide +kernel⟩, List.mem_of_getElem? (i := 1122) (by decide +kernel), List.mem_of_getElem? (i := 1365) (by decide +kernel), List.mem_of_getElem? (i := 1366) (by decide +kernel)⟩
theorem lw_p81 : lw_okq (⟨"PileTricksModel", "line", "()V"⟩, 66) := ⟨⟨by decide +kernel, by decide +kernel⟩, List.mem_of_getElem? (i := 1122) (by decide +kernel), List.mem_of_getElem? (i := 1369) (by decide +kernel), List.mem_of_getElem? (i := 1370) (by decide +kernel)⟩
theorem lw_p82 : lw_okq (⟨"PileTricksModel", "knownWord", "()I"⟩, 66) := ⟨⟨by decide +kernel, by decide +kernel⟩, List.mem_of_getElem? (i := 1122) (by decide +kernel), List.mem_of_getElem? (i := 1373) (by decide +kernel), List.mem_of_getElem? (i := 1374) (by decide +kernel)⟩
theorem lw_p83 : lw_okq (⟨"PileTricksModel", "begins", "(I)Z"⟩, 66) := ⟨⟨by decide +kernel, by decide +kernel⟩, List.mem_of_getElem? (i := 1122) (by decide +kernel), List.mem_of_getElem? (i := 1384) (by decide +kernel), List.mem_of_getElem? (i := 1385) (by decide +kernel)⟩
theorem lw_p84 : lw_okq (⟨"PileTricksModel", "wrong", "(I)V"⟩, 66) := ⟨⟨by decide +kernel, by decide +kernel⟩, List.mem_of_getElem? (i := 1122) (by decide +kernel), List.mem_of_getElem? (i := 1388) (by decide +kernel), List.mem_of_getElem? (i := 1389) (by decide +kernel)⟩
theorem lw_p85 : lw_okq (⟨"PileTricksModel", "number", "(II)I"⟩, 66) := ⟨⟨by decide +kernel, by decide +kernel⟩, List.mem_of_getElem? (i := 1122) (by decide +kernel), List.mem_of_getElem? (i := 1392) (by decide +kernel), List.mem_of_getElem? (i := 1393) (by decide +kernel)⟩
theorem lw_p86 : lw_okq (⟨"PileTricksModel", "need", "(Z)V"⟩, 66) := ⟨⟨by decide +kernel, by decide +kernel⟩, List.mem_of_getElem? (i := 1122) (by decide +kernel), List.mem_of_getElem? (i := 1396) (by decide +kernel), List.mem_of_getElem? (i := 1397) (by decide +kernel)⟩
theorem lw_p87 : lw_okq (⟨"PileTricksModel", "expression", "()V"⟩, 66) := ⟨⟨by decide +kernel, by decide +kernel⟩, List.mem_of_getElem? (i := 1122) (by decide +kernel), List.mem_of_getElem? (i := 1400) (by decide +kernel), List.mem_of_getElem? (i := 1401) (by decide +kernel)⟩
theorem lw_p88 : lw_okq (⟨"PileTricksModel", "deeper", "()V"⟩, 66) := ⟨⟨by decide +kernel, by decide +kernel⟩, List.mem_of_getElem? (i := 1122) (by decide +kernel), List.mem_of_getElem? (i := 1404) (by decide +kernel), List.mem_of_getElem? (i := 1405) (by decide +kernel)⟩
theorem lw_p89 : lw_okq (⟨"PileTricksModel", "isSign", "(I)Z"⟩, 66) := ⟨⟨by decide +kernel, by decide +kernel⟩, List.mem_of_getElem? (i := 1122) (by decide +kernel), List.mem_of_getElem? (i := 1408) (by decide +kernel), List.mem_of_getElem? (i := 1409) (by decide +kernel)⟩
theorem lw_p90 : lw_okq (⟨"PileTricksModel", "operand", "(Z)V"⟩, 66) := ⟨⟨by decide +kernel, by decide +kernel⟩, List.mem_of_getElem? (i := 1122) (by decide +kernel), List.mem_of_getElem? (i := 1412) (by decide +kernel), List.mem_of_getElem? (i := 1413) (by decide +kernel)⟩
theorem lw_p91 : lw_okq (⟨"PileTricksModel", "waitsFor", "(I)V"⟩, 66) := ⟨⟨by decide +kernel, by decide +kernel⟩, List.mem_of_getElem? (i := 1122) (by decide +kernel), List.mem_of_getElem? (i := 1416) (by decide +kernel), List.mem_of_getElem? (i := 1417) (by decide +kernel)⟩
theorem lw_p92 : lw_okq (⟨"PileTricksModel", "part", "()V"⟩, 66) := ⟨⟨by decide +kernel, by decide +kernel⟩, List.mem_of_getElem? (i := 1122) (by decide +kernel), List.mem_of_getElem? (i := 1420) (by decide +kernel), List.mem_of_getElem? (i := 1421) (by decide +kernel)⟩
theorem lw_p93 : lw_okq (⟨"PileTricksModel", "puts", "(I)V"⟩, 66) := ⟨⟨by decide +kernel, by decide +kernel⟩, List.mem_of_getElem? (i := 1122) (by decide +kernel), List.mem_of_getElem? (i := 1424) (by decide +kernel), List.mem_of_getElem? (i := 1425) (by decide +kernel)⟩
theorem lw_p94 : lw_okq (⟨"PileTricksModel", "drops", "(I)V"⟩, 66) := ⟨⟨by decide +kernel, by decide +kernel⟩, List.mem_of_getElem? (i := 1122) (by decide +kernel), List.mem_of_getElem? (i := 1428) (by decide +kernel), List.mem_of_getElem? (i := 1429) (by decide +kernel)⟩
theorem lw_p95 : lw_okq (⟨"PileTricksModel", "isOpened", "()Z"⟩, 66) := ⟨⟨by decide +kernel, by decide +kernel⟩, List.mem_of_getElem? (i := 1122) (by decide +kernel), List.mem_of_getElem? (i := 1438) (by decide +kernel), List.mem_of_getElem? (i := 1439) (by decide +kernel)⟩
def lw_privs_6 : List (MethodName × Nat) := [(⟨"PileTricksModel", "isGood", "()Z"⟩, 66), (⟨"PileTricksModel", "line", "()V"⟩, 66), (⟨"PileTricksModel", "knownWord", "()I"⟩, 66), (⟨"PileTricksModel", "begins", "(I)Z"⟩, 66), (⟨"PileTricksModel", "wrong", "(I)V"⟩, 66), (⟨"PileTricksModel", "number", "(II)I"⟩, 66), (⟨"PileTricksModel", "need", "(Z)V"⟩, 66), (⟨"PileTricksModel", "expression", "()V"⟩, 66), (⟨"PileTricksModel", "deeper", "()V"⟩, 66), (⟨"PileTricksModel", "isSign", "(I)Z"⟩, 66), (⟨"PileTricksModel", "operand", "(Z)V"⟩, 66), (⟨"PileTricksModel", "waitsFor", "(I)V"⟩, 66), (⟨"PileTricksModel", "part", "()V"⟩, 66), (⟨"PileTricksModel", "puts", "(I)V"⟩, 66), (⟨"PileTricksModel", "drops", "(I)V"⟩, 66), (⟨"PileTricksModel", "isOpened", "()Z"⟩, 66)]
theorem lw_r6 : ∀ q ∈ lw_privs_6, lw_okq q := List.forall_mem_cons.mpr ⟨lw_p80, List.forall_mem_cons.mpr ⟨lw_p81, List.forall_mem_cons.mpr ⟨lw_p82, List.forall_mem_cons.mpr ⟨lw_p83, List.forall_mem_cons.mpr ⟨lw_p84, List.forall_mem_cons.mpr ⟨lw_p85, List.forall_mem_cons.mpr ⟨lw_p86, List.forall_mem_cons.mpr ⟨lw_p87, List.forall_mem_cons.mpr ⟨lw_p88, List.forall_mem_cons.mpr ⟨lw_p89, List.forall_mem_cons.mpr ⟨lw_p90, List.forall_mem_cons.mpr ⟨lw_p91, List.forall_mem_cons.mpr ⟨lw_p92, List.forall_mem_cons.mpr ⟨lw_p93, List.forall_mem_cons.mpr ⟨lw_p94, List.forall_mem_cons.mpr ⟨lw_p95, fun _ h => absurd h List.not_mem_nil⟩⟩⟩⟩⟩⟩⟩⟩⟩⟩⟩⟩⟩⟩⟩⟩
theorem lw_p96 : lw_okq (⟨"PileTricksModel", "closes", "()V"⟩, 66) := ⟨⟨by decide +kernel, by decide +kernel⟩, List.mem_of_getElem? (i := 1122) (by decide +kernel), List.mem_of_getElem? (i := 1442) (by decide +kernel), List.mem_of_getElem? (i := 1443) (by decide +kernel)⟩
theorem lw_p97 : lw_okq (⟨"PileTricksModel", "copies", "([I[I)V"⟩, 66) := ⟨⟨by decide +kernel, by decide +kernel⟩, List.mem_of_getElem? (i := 1122) (by decide +kernel), List.mem_of_getElem? (i := 1446) (by decide +kernel), List.mem_of_getElem? (i := 1447) (by decide +kernel)⟩
theorem lw_p98 : lw_okq (⟨"PileTricksModel", "fitting", "()I"⟩, 66) := ⟨⟨by decide +kernel, by decide +kernel⟩, List.mem_of_getElem? (i := 1122) (by decide +kernel), List.mem_of_getElem? (i := 1461) (by decide +kernel), List.mem_of_getElem? (i := 1462) (by decide +kernel)⟩
theorem lw_p99 : lw_okq (⟨"PileTricksModel", "isHeap", "(II)Z"⟩, 66) := ⟨⟨by decide +kernel, by decide +kernel⟩, List.mem_of_getElem? (i := 1122) (by decide +kernel), List.mem_of_getElem? (i := 1469) (by decide +kernel), List.mem_of_getElem? (i := 1470) (by decide +kernel)⟩
theorem lw_p100 : lw_okq (⟨"PileTricksModel", "deals0", "(II)V"⟩, 66) := ⟨⟨by decide +kernel, by decide +kernel⟩, List.mem_of_getElem? (i := 1122) (by decide +kernel), List.mem_of_getElem? (i := 1473) (by decide +kernel), List.mem_of_getElem? (i := 1474) (by decide +kernel)⟩
theorem lw_p101 : lw_okq (⟨"PileTricksModel", "heapAt", "(II)I"⟩, 66) := ⟨⟨by decide +kernel, by decide +kernel⟩, List.mem_of_getElem? (i := 1122) (by decide +kernel), List.mem_of_getElem? (i := 1477) (by decide +kernel), List.mem_of_getElem? (i := 1478) (by decide +kernel)⟩
theorem lw_p102 : lw_okq (⟨"PileTricksModel", "layingOf", "(II)I"⟩, 66) := ⟨⟨by decide +kernel, by decide +kernel⟩, List.mem_of_getElem? (i := 1122) (by decide +kernel), List.mem_of_getElem? (i := 1481) (by decide +kernel), List.mem_of_getElem? (i := 1482) (by decide +kernel)⟩
theorem lw_p103 : lw_okq (⟨"PileTricksModel", "isPlace", "(I)Z"⟩, 66) := ⟨⟨by decide +kernel, by decide +kernel⟩, List.mem_of_getElem? (i := 1122) (by decide +kernel), List.mem_of_getElem? (i := 1492) (by decide +kernel), List.mem_of_getElem? (i := 1493) (by decide +kernel)⟩
theorem lw_p104 : lw_okq (⟨"PileTricksModel", "kindOf", "(I)I"⟩, 66) := ⟨⟨by decide +kernel, by decide +kernel⟩, List.mem_of_getElem? (i := 1122) (by decide +kernel), List.mem_of_getElem? (i := 1496) (by decide +kernel), List.mem_of_getElem? (i := 1497) (by decide +kernel)⟩
theorem lw_p105 : lw_okq (⟨"PileTricksModel", "sideOf", "(I)I"⟩, 66) := ⟨⟨by decide +kernel, by decide +kernel⟩, List.mem_of_getElem? (i := 1122) (by decide +kernel), List.mem_of_getElem? (i := 1500) (by decide +kernel), List.mem_of_getElem? (i := 1501) (by decide +kernel)⟩
theorem lw_p106 : lw_okq (⟨"PileTricksModel", "numberOf", "(I)I"⟩, 66) := ⟨⟨by decide +kernel, by decide +kernel⟩, List.mem_of_getElem? (i := 1122) (by decide +kernel), List.mem_of_getElem? (i := 1504) (by decide +kernel), List.mem_of_getElem? (i := 1505) (by decide +kernel)⟩
theorem lw_p107 : lw_okq (⟨"PileTricksModel", "orders", "(III)V"⟩, 66) := ⟨⟨by decide +kernel, by decide +kernel⟩, List.mem_of_getElem? (i := 1122) (by decide +kernel), List.mem_of_getElem? (i := 1508) (by decide +kernel), List.mem_of_getElem? (i := 1509) (by decide +kernel)⟩
theorem lw_p108 : lw_okq (⟨"PileTricksModel", "both", "(III)I"⟩, 66) := ⟨⟨by decide +kernel, by decide +kernel⟩, List.mem_of_getElem? (i := 1122) (by decide +kernel), List.mem_of_getElem? (i := 1512) (by decide +kernel), List.mem_of_getElem? (i := 1513) (by decide +kernel)⟩
theorem lw_p109 : lw_okq (⟨"PileTricksModel", "goesTo", "(I)I"⟩, 66) := ⟨⟨by decide +kernel, by decide +kernel⟩, List.mem_of_getElem? (i := 1122) (by decide +kernel), List.mem_of_getElem? (i := 1516) (by decide +kernel), List.mem_of_getElem? (i := 1517) (by decide +kernel)⟩
theorem lw_p110 : lw_okq (⟨"PileTricksModel", "isMany", "(II)Z"⟩, 66) := ⟨⟨by decide +kernel, by decide +kernel⟩, List.mem_of_getElem? (i := 1122) (by decide +kernel), List.mem_of_getElem? (i := 1524) (by decide +kernel), List.mem_of_getElem? (i := 1525) (by decide +kernel)⟩
theorem lw_p111 : lw_okq (⟨"PileTricksModel", "endsBy", "(I)V"⟩, 66) := ⟨⟨by decide +kernel, by decide +kernel⟩, List.mem_of_getElem? (i := 1122) (by decide +kernel), List.mem_of_getElem? (i := 1528) (by decide +kernel), List.mem_of_getElem? (i := 1529) (by decide +kernel)⟩
def lw_privs_7 : List (MethodName × Nat) := [(⟨"PileTricksModel", "closes", "()V"⟩, 66), (⟨"PileTricksModel", "copies", "([I[I)V"⟩, 66), (⟨"PileTricksModel", "fitting", "()I"⟩, 66), (⟨"PileTricksModel", "isHeap", "(II)Z"⟩, 66), (⟨"PileTricksModel", "deals0", "(II)V"⟩, 66), (⟨"PileTricksModel", "heapAt", "(II)I"⟩, 66), (⟨"PileTricksModel", "layingOf", "(II)I"⟩, 66), (⟨"PileTricksModel", "isPlace", "(I)Z"⟩, 66), (⟨"PileTricksModel", "kindOf", "(I)I"⟩, 66), (⟨"PileTricksModel", "sideOf", "(I)I"⟩, 66), (⟨"PileTricksModel", "numberOf", "(I)I"⟩, 66), (⟨"PileTricksModel", "orders", "(III)V"⟩, 66), (⟨"PileTricksModel", "both", "(III)I"⟩, 66), (⟨"PileTricksModel", "goesTo", "(I)I"⟩, 66), (⟨"PileTricksModel", "isMany", "(II)Z"⟩, 66), (⟨"PileTricksModel", "endsBy", "(I)V"⟩, 66)]
theorem lw_r7 : ∀ q ∈ lw_privs_7, lw_okq q := List.forall_mem_cons.mpr ⟨lw_p96, List.forall_mem_cons.mpr ⟨lw_p97, List.forall_mem_cons.mpr ⟨lw_p98, List.forall_mem_cons.mpr ⟨lw_p99, List.forall_mem_cons.mpr ⟨lw_p100, List.forall_mem_cons.mpr ⟨lw_p101, List.forall_mem_cons.mpr ⟨lw_p102, List.forall_mem_cons.mpr ⟨lw_p103, List.forall_mem_cons.mpr ⟨lw_p104, List.forall_mem_cons.mpr ⟨lw_p105, List.forall_mem_cons.mpr ⟨lw_p106, List.forall_mem_cons.mpr ⟨lw_p107, List.forall_mem_cons.mpr ⟨lw_p108, List.forall_mem_cons.mpr ⟨lw_p109, List.forall_mem_cons.mpr ⟨lw_p110, List.forall_mem_cons.mpr ⟨lw_p111, fun _ h => absurd h List.not_mem_nil⟩⟩⟩⟩⟩⟩⟩⟩⟩⟩⟩⟩⟩⟩⟩⟩
theorem lw_p112 : lw_okq (⟨"PileTricksModel", "first", "()V"⟩, 66) := ⟨⟨by decide +kernel, by decide +kernel⟩, List.mem_of_getElem? (i := 1122) (by decide +kernel), List.mem_of_getElem? (i := 1532) (by decide +kernel), List.mem_of_getElem? (i := 1533) (by decide +kernel)⟩
theorem lw_p113 : lw_okq (⟨"PileTricksModel", "follows", "(II)V"⟩, 66) := ⟨⟨by decide +kernel, by decide +kernel⟩, List.mem_of_getElem? (i := 1122) (by decide +kernel), List.mem_of_getElem? (i := 1536) (by decide +kernel), List.mem_of_getElem? (i := 1537) (by decide +kernel)⟩
theorem lw_p114 : lw_okq (⟨"PileTricksModel", "isOne", "()Z"⟩, 66) := ⟨⟨by decide +kernel, by decide +kernel⟩, List.mem_of_getElem? (i := 1122) (by decide +kernel), List.mem_of_getElem? (i := 1544) (by decide +kernel), List.mem_of_getElem? (i := 1545) (by decide +kernel)⟩
theorem lw_p115 : lw_okq (⟨"PileTricksModel", "rowsFor", "(II)I"⟩, 66) := ⟨⟨by decide +kernel, by decide +kernel⟩, List.mem_of_getElem? (i := 1122) (by decide +kernel), List.mem_of_getElem? (i := 1556) (by decide +kernel), List.mem_of_getElem? (i := 1557) (by decide +kernel)⟩
theorem lw_p116 : lw_okq (⟨"PileTricksModel", "isDeal", "(IIII)Z"⟩, 66) := ⟨⟨by decide +kernel, by decide +kernel⟩, List.mem_of_getElem? (i := 1122) (by decide +kernel), List.mem_of_getElem? (i := 1575) (by decide +kernel), List.mem_of_getElem? (i := 1576) (by decide +kernel)⟩
theorem lw_p117 : lw_okq (⟨"PileTricksModel", "isBetween", "(IIII)Z"⟩, 66) := ⟨⟨by decide +kernel, by decide +kernel⟩, List.mem_of_getElem? (i := 1122) (by decide +kernel), List.mem_of_getElem? (i := 1615) (by decide +kernel), List.mem_of_getElem? (i := 1616) (by decide +kernel)⟩
def lw_privs_8 : List (MethodName × Nat) := [(⟨"PileTricksModel", "first", "()V"⟩, 66), (⟨"PileTricksModel", "follows", "(II)V"⟩, 66), (⟨"PileTricksModel", "isOne", "()Z"⟩, 66), (⟨"PileTricksModel", "rowsFor", "(II)I"⟩, 66), (⟨"PileTricksModel", "isDeal", "(IIII)Z"⟩, 66), (⟨"PileTricksModel", "isBetween", "(IIII)Z"⟩, 66)]
theorem lw_r8 : ∀ q ∈ lw_privs_8, lw_okq q := List.forall_mem_cons.mpr ⟨lw_p112, List.forall_mem_cons.mpr ⟨lw_p113, List.forall_mem_cons.mpr ⟨lw_p114, List.forall_mem_cons.mpr ⟨lw_p115, List.forall_mem_cons.mpr ⟨lw_p116, List.forall_mem_cons.mpr ⟨lw_p117, fun _ h => absurd h List.not_mem_nil⟩⟩⟩⟩⟩⟩
def lw_privs : List (MethodName × Nat) := lw_privs_1 ++ (lw_privs_2 ++ (lw_privs_3 ++ (lw_privs_4 ++ (lw_privs_5 ++ (lw_privs_6 ++ (lw_privs_7 ++ (lw_privs_8)))))))
def lw_tbl : List Cond := k2_sels lw_privs ++ tables_1
theorem lw_privs_ok : ∀ q ∈ lw_privs, lw_okq q := by
  show ∀ q ∈ lw_privs_1 ++ (lw_privs_2 ++ (lw_privs_3 ++ (lw_privs_4 ++ (lw_privs_5 ++ (lw_privs_6 ++ (lw_privs_7 ++ (lw_privs_8))))))), lw_okq q
  exact List.forall_mem_append.mpr ⟨lw_r1, List.forall_mem_append.mpr ⟨lw_r2, List.forall_mem_append.mpr ⟨lw_r3, List.forall_mem_append.mpr ⟨lw_r4, List.forall_mem_append.mpr ⟨lw_r5, List.forall_mem_append.mpr ⟨lw_r6, List.forall_mem_append.mpr ⟨lw_r7, lw_r8⟩⟩⟩⟩⟩⟩⟩
end
section
/-! ===== BEGIN words of one list among another's, by their places ===== -/
theorem goodIn_r {big : List Cond} (ws : List Cond) (ps : List Nat) (hp : ws = ps.filterMap (fun i => big[i]?)) (h : ws.all goodWord = true) : GoodIn big ws := by
  intro w hw
  have h1 := List.all_eq_true.mp h w hw
  rw [hp] at hw
  obtain ⟨i, -, hi⟩ := List.mem_filterMap.mp hw
  have hm : w ∈ big := by first | exact List.mem_of_getElem? hi | exact List.getElem?_mem hi
  exact ⟨hm, good_of_word h1⟩
theorem goodIn_app {big a b : List Cond} (ha : GoodIn big a) (hb : GoodIn big b) : GoodIn big (a ++ b) := fun w h => (List.mem_append.mp h).elim (ha w) (hb w)
theorem goodIn_ca {big a b : List Cond} {c : Cond} (ha : GoodIn big (c :: a)) (hb : GoodIn big b) : GoodIn big (c :: (a ++ b)) := fun w h => (List.mem_cons.mp h).elim (fun e => ha w (List.mem_cons.mpr (Or.inl e))) (fun h => (List.mem_append.mp h).elim (fun h => ha w (List.mem_cons.mpr (Or.inr h))) (hb w))
theorem goodIn_sub {big ws : List Cond} (hm : ∀ w ∈ ws, w ∈ big) (h : ws.all goodWord = true) : GoodIn big ws := fun w hw => ⟨hm w hw, good_of_word (List.all_eq_true.mp h w hw)⟩
/-! ===== END ===== -/

/-! ===== BEGIN exceptions that leave a method, and their catching by the caller (launches without stack traces) ===== -/
section VXA
/-! The laws vx_back, vx_callV, vx_callS, vx_callSW, vx_throw0, vx_throwS follow proofs of the library, with one case more: JvmDerived/Free/Laws.lean (Back.of_free), Shelf42/LK1.lean (callV, callS), Shelf/KitTraced.lean (throwNew0V, throwNewS). -/
/-- where a method has thrown q: the class by its name, the cell, what was written, the world -/
def vx_T (XC : String → State → State → Prop) (st : State) (q : Addr) (t : State) (mc ms : Nat) (free : Addr → Prop) : Prop :=
  ∃ (E : String) (ce : Cell) (L : List Loc), XC E st t ∧ t.heap[q]? = some ce ∧ ce.vm = .none ∧ st.vm.findClass E = some ce.cls ∧ st.WarmedH t.vm ∧ st.sameButNew ({ t with vm := st.vm } : State) L mc ms ∧ ∀ z ∈ L, free z.base
def vx_Q (Qc : Array Value → State → Outcome → State → Prop) (XC : String → State → State → Prop) (mc ms : Nat) (free : Addr → Prop) : Array Value → State → Outcome → State → Prop := fun a st o t =>
  (Qc a st o t ∧ ∃ L, FrameEnd st o t L mc ms ∧ ∀ q ∈ L, free q.base) ∨ ∃ q, o = .threw q ∧ vx_T XC st q t mc ms free
/-- a callee that returns or throws -/
def vx_Met (l : Launch) (y : MethodName) (ws : List Cond) (rm : Room) (Pc : Array Value → State → Prop) (Qc : Array Value → State → Outcome → State → Prop) (XC : String → State → State → Prop) (mc ms : Nat) (free : Addr → Prop) : Prop :=
  MetFree l y (headSpec ws rm) Pc (fun _ _ _ _ _ => True) (vx_Q Qc XC mc ms free)
def vx_Post (XC : String → State → State → Prop) (mc ms : Nat) (free : Addr → Prop) : Pt → Array Value → Addr → Pt → Prop := fun A a q B =>
  ∃ (g : JFrame) (mk : MethodId) (t : State) (L : List Loc) (E : String) (ce : Cell), B.U.heap = t.heap ∧ B.U.vm = t.vm ∧ XC E (A.U.calling g mk a) t ∧ t.heap[q]? = some ce ∧ ce.vm = .none ∧ A.U.vm.findClass E = some ce.cls ∧ B.locs = A.locs ++ L ∧ (∀ z ∈ L, free z.base) ∧ B.cells = A.cells + mc ∧ B.slots = A.slots + ms
def vx_Back (l : Launch) (R : Room) (p : Program) (e : Env) (below : List Frame) (s : State) (sargs : Array Value) (y : MethodName) (len W9 : Nat)
    (Pre : Pt → Array Value → Prop) (Post : Pt → Array Value → Option Value → Pt → Prop) (PostX : Pt → Array Value → Addr → Pt → Prop) : Prop :=
  ∀ (m : MethodId) (meth : Method) (c : Code) (A : Pt) (g : JFrame) (ig : Instr) (mk : MethodId) (a : Array Value),
    Stand p l e R s m sargs below meth c A.U A.locs A.cells A.slots → g.method = m → g.locals.size = c.maxLocals → decode c.code g.pc = .ok (ig, len) →
    2 * g.monitorRoom + (g.stack.map fun v => v.category).sum ≤ W9 → A.U.methodNamed? y = some mk → Pre A a →
    (∃ (v : Option Value) (B : Pt), Stand p l e R s m sargs below meth c B.U B.locs B.cells B.slots ∧ Post A a v B ∧
      Steps p.tables e below (doInvoke e (A.U.setTop g) [] mk a).1 (B.U.setTop { g with pc := g.pc + len, stack := v.toList ++ g.stack })) ∨
    (∃ (q : Addr) (B : Pt), Stand p l e R s m sargs below meth c B.U B.locs B.cells B.slots ∧ PostX A a q B ∧
      Steps p.tables e below (doInvoke e (A.U.setTop g) [] mk a).1 ((B.U.setTop g).pushFrame (.throwing q)))
section Payer
variable {l : Launch} {R : Room} {p : Program} {e : Env} {below : List Frame} {s : State} {sargs : Array Value} {y : MethodName} {len W9 : Nat}
theorem vx_back {ws : List Cond} {rm : Room} {Pc : Array Value → State → Prop} {Qc : Array Value → State → Outcome → State → Prop} {XC : String → State → State → Prop} {mc ms : Nat} {free : Addr → Prop} {bytes : ByteArray} {maxL : Nat} {ret : Option FieldType}
    (hM : vx_Met l y ws rm Pc Qc XC mc ms free) (hblind : FrameBlind Pc) (hrc : rm.cells = mc) (hrs : rm.slots = ms)
    (hframes : rm.frames + 1 ≤ R.frames) (hlocals : W9 + (maxL + 11) + rm.locals ≤ R.locals)
    (hws : ∀ w ∈ ws, ∀ a' U, s.WarmedH U.vm → w.before a' U = true) (hcode : Cond.code y bytes maxL ret ∈ ws) (hinit : ∀ a' U, s.WarmedH U.vm → (Cond.initialized y.cls).before a' U = true) :
    vx_Back l R p e below s sargs y len W9 (PreOf R mc ms Pc) (PostOf Qc mc ms free) (vx_Post XC mc ms free) := by
  intro m meth c A g ig mk a X hg hsize hdg hW hn hp
  have h1 : (headSpec ws rm).pre.before a A.U = true := atoms_intro fun w hw => hws w hw _ _ X.warmed
  have h2 : (Cond.code y bytes maxL ret).before a A.U = true := hws _ hcode _ _ X.warmed
  have h3 : (Cond.initialized y.cls).before a A.U = true := hinit _ _ X.warmed
  have h4 : A.cells + (headSpec ws rm).room.cells ≤ R.cells := by rw [show (headSpec ws rm).room.cells = mc from hrc]; exact hp.1
  have h5 : A.slots + (headSpec ws rm).room.slots ≤ R.slots := by rw [show (headSpec ws rm).room.slots = ms from hrs]; exact hp.2.1
  have hPc : Pc a (A.U.calling g mk a) := hblind _ _ _ _ hp.2.2
  obtain ⟨U, Ls, c0, s0⟩ := A
  dsimp only [Pt.U, Pt.locs, Pt.cells, Pt.slots] at h1 h2 h3 h4 h5 X hn hPc ⊢
  obtain ⟨methY, cY, hmY, hcY, -, hlY, -, -, -, -⟩ := Cond.code_spec hn h2
  obtain ⟨kY, hkY, -⟩ := className_of_methodNamed hn
  have hinitY : kY.init = .initialized := Cond.initialized_spec (findClass_of_methodNamed hn) hkY h3
  have h : At U g.method c below := by rw [hg]; exact X.here
  have hlocals9 : W9 + (maxL + 11) + (headSpec ws rm).room.locals ≤ R.locals := hlocals
  have happ : (headSpec ws rm).appliesLoose y e.platform (U.calling g mk a) = true :=
    Spec.appliesLoose_calling (g := g) h hdg hn hkY hinitY
      (X.room_calling (g := g) (R' := (headSpec ws rm).room) hsize hmY hcY hframes (by rw [hlY]; omega) h4 h5) h1
  obtain ⟨mid, hmid⟩ := h.above
  have hfr : (U.setTop g).frames = (.java g :: mid) ++ below := by rw [State.frames_setTop' g h.top, hmid]; rfl
  obtain ⟨o, s₂, hsteps, -, hend, hq⟩ := Steps.callFree hM p X.admits X.cas X.clock (acts := []) hfr happ hPc trivial
  have hq' : vx_Q Qc XC mc ms free a (U.calling g mk a) o s₂ := hq
  rw [State.frames_setTop' g h.top] at hend
  obtain ⟨g₀, hg0⟩ := Option.isSome_iff_exists.mp h.top
  obtain ⟨r, hr⟩ := State.topJava?_eq_some.mp hg0
  have hr' : (({ U with heap := s₂.heap, slotsUsed := s₂.slotsUsed } : State).setVm s₂.vm).frames = .java g₀ :: r := hr
  rcases hq' with ⟨hqc, L, hfe, hL⟩ | ⟨q, rfl, E, ce, L, hx, hce, hcv, hcl, hW₂, hsm, hL⟩
  · obtain ⟨⟨v, rfl⟩, hW₂, e2, q2, q3, q4, q5, q6⟩ := id hfe
    have e3 : s₂ = ({ (U.calling g mk a).setFrames s₂.frames with heap := s₂.heap, slotsUsed := s₂.slotsUsed } : State).setVm s₂.vm := by
      have : s₂ = ({ s₂ with vm := (U.calling g mk a).vm } : State).setVm s₂.vm := rfl
      rw [e2] at this
      exact this
    obtain ⟨c₂, i₂, len₂, hc₂, hd₂, hf₂⟩ := hend
    have hW' : U.WarmedH s₂.vm := hW₂
    have hcc : c₂ = c := by
      have h1 : s₂.code? g.method = U.code? g.method := by
        rw [State.code?_eq, State.code?_eq, hW'.alike.method?]
      exact Option.some.inj (hc₂.symm.trans (h1.trans h.code))
    subst hcc
    have hlen : len₂ = len := by rw [hdg] at hd₂; cases hd₂; rfl
    subst hlen
    have hs₂ : s₂ = (({ U with heap := s₂.heap, slotsUsed := s₂.slotsUsed } : State).setVm s₂.vm).setTop { g with pc := g.pc + len₂, stack := v.toList ++ g.stack } := by
      refine e3.trans ?_
      rw [hf₂, State.calling_eq h.top, State.setFrames_setFrames, State.setTop_of_frames _ hr', hr]
      rfl
    have hsame : U.sameButNew ({ U with heap := s₂.heap, slotsUsed := s₂.slotsUsed } : State) L mc ms := by
      refine ⟨?_, q2, q3, q4, q5, q6⟩
      obtain ⟨t, ht, -⟩ := State.frames_cons hr
      show ({ U with heap := s₂.heap, slotsUsed := s₂.slotsUsed } : State) = { U.setFrames U.frames with heap := s₂.heap, slotsUsed := s₂.slotsUsed }
      rw [State.setFrames_self ht]
    subst hg
    refine Or.inl ⟨v, ⟨(({ U with heap := s₂.heap, slotsUsed := s₂.slotsUsed } : State).setVm s₂.vm), Ls ++ L, c0 + mc, s0 + ms⟩,
      ⟨X.admits, X.cas, X.clock, X.frames, X.room, X.hears, X.method, X.code, (X.here.setHeapUsed s₂.heap s₂.slotsUsed).setVm hW'.alike, X.tail, State.WarmedH.trans X.warmed hW', X.limits, X.bytes, X.same.trans (hsame.setVm s.vm)⟩,
      ⟨g, mk, s₂, L, rfl, rfl, hqc, rfl, hL, rfl, rfl⟩, ?_⟩
    show Steps p.tables e below _ ((({ U with heap := s₂.heap, slotsUsed := s₂.slotsUsed } : State).setVm s₂.vm).setTop { g with pc := g.pc + len₂, stack := v.toList ++ g.stack })
    rw [← hs₂]
    exact hsteps
  · obtain ⟨e2, q2, q3, q4, q5, q6⟩ := id hsm
    have e3 : s₂ = ({ (U.calling g mk a).setFrames s₂.frames with heap := s₂.heap, slotsUsed := s₂.slotsUsed } : State).setVm s₂.vm := by
      have : s₂ = ({ s₂ with vm := (U.calling g mk a).vm } : State).setVm s₂.vm := rfl
      rw [e2] at this
      exact this
    have hf₂ : s₂.frames = .throwing q :: .java g :: U.frames.tail := hend
    have hW' : U.WarmedH s₂.vm := hW₂
    have hs₂ : s₂ = ((({ U with heap := s₂.heap, slotsUsed := s₂.slotsUsed } : State).setVm s₂.vm).setTop g).pushFrame (.throwing q) := by
      refine e3.trans ?_
      rw [hf₂, State.calling_eq h.top, State.setFrames_setFrames, State.pushFrame, State.frames_setTop _ hr', State.setTop_of_frames _ hr', State.setFrames_setFrames, hr]
      rfl
    have hsame : U.sameButNew ({ U with heap := s₂.heap, slotsUsed := s₂.slotsUsed } : State) L mc ms := by
      refine ⟨?_, q2, q3, q4, q5, q6⟩
      obtain ⟨t, ht, -⟩ := State.frames_cons hr
      show ({ U with heap := s₂.heap, slotsUsed := s₂.slotsUsed } : State) = { U.setFrames U.frames with heap := s₂.heap, slotsUsed := s₂.slotsUsed }
      rw [State.setFrames_self ht]
    subst hg
    refine Or.inr ⟨q, ⟨(({ U with heap := s₂.heap, slotsUsed := s₂.slotsUsed } : State).setVm s₂.vm), Ls ++ L, c0 + mc, s0 + ms⟩,
      ⟨X.admits, X.cas, X.clock, X.frames, X.room, X.hears, X.method, X.code, (X.here.setHeapUsed s₂.heap s₂.slotsUsed).setVm hW'.alike, X.tail, State.WarmedH.trans X.warmed hW', X.limits, X.bytes, X.same.trans (hsame.setVm s.vm)⟩,
      ⟨g, mk, s₂, L, E, ce, rfl, rfl, hx, hce, hcv, hcl, rfl, hL, rfl, rfl⟩, ?_⟩
    show Steps p.tables e below _ (((({ U with heap := s₂.heap, slotsUsed := s₂.slotsUsed } : State).setVm s₂.vm).setTop g).pushFrame (.throwing q))
    rw [← hs₂]
    exact hsteps
end Payer
section Calls
variable {p : Program} {l : Launch} {e : Env} {R : Room} {s : State} {m : MethodId} {args : Array Value} {below : List Frame} {meth : Method} {c : Code} {T : State} {locs : List Loc} {cells slots : Nat}
theorem vx_callV (X : Stand p l e R s m args below meth c T locs cells slots) (hexec : p.tables.exec = Jvm.exec) {own C : String} {index : Nat} {y : MethodName} {bytes : ByteArray} {maxL : Nat} {ret : Option FieldType}
    (hown : s.vm.findClass own = some m.cls) (hlink : (Cond.methodLink own index y).before args s = true) (hinst : (Cond.instanceMethod y).before args s = true) (hsel : (Cond.selects C y y).before args s = true)
    (hcode : (Cond.code y bytes maxL ret).before args s = true) (hy : y.cls ≠ "java/lang/invoke/MethodHandle" ∧ y.cls ≠ "java/lang/invoke/VarHandle")
    {W9 : Nat} {Pre : Pt → Array Value → Prop} {Post : Pt → Array Value → Option Value → Pt → Prop} {PostX : Pt → Array Value → Addr → Pt → Prop} (hK : vx_Back l R p e below s args y 3 W9 Pre Post PostX)
    {b : Addr} {cellB : Cell} (hcell : T.heap[b]? = some cellB) (hobj : cellB.vm.isStatics = false) (hcls : s.vm.findClass C = some cellB.cls)
    {g : JFrame} (hg : g.method = m) (hsize : g.locals.size = c.maxLocals) {argsL rest : List Value} (hlen : ∀ sig, parseMethodDescriptor y.desc = some sig → argsL.length = sig.parameters.length)
    (hstack : g.stack = argsL.reverse ++ .ref b :: rest) (hW : 2 * g.monitorRoom + (rest.map fun v => v.category).sum ≤ W9) (hdg : decode c.code g.pc = .ok (.invokevirtual index, 3))
    (hpre : ∀ vm₁, s.WarmedH vm₁ → Pre ⟨T.setVm vm₁, locs, cells, slots⟩ (Value.ref b :: argsL).toArray) :
    (∃ (v : Option Value) (vm₁ : Vm) (B : Pt), s.WarmedH vm₁ ∧ Stand p l e R s m args below meth c B.U B.locs B.cells B.slots ∧ Post ⟨T.setVm vm₁, locs, cells, slots⟩ (Value.ref b :: argsL).toArray v B ∧
      ∀ target, Steps p.tables e below (B.U.setTop { g with pc := g.pc + 3, stack := v.toList ++ rest }) target → Steps p.tables e below (T.setTop g) target) ∨
    (∃ (q : Addr) (vm₁ : Vm) (B : Pt), s.WarmedH vm₁ ∧ Stand p l e R s m args below meth c B.U B.locs B.cells B.slots ∧ PostX ⟨T.setVm vm₁, locs, cells, slots⟩ (Value.ref b :: argsL).toArray q B ∧
      Steps p.tables e below (T.setTop g) ((B.U.setTop { g with stack := rest }).pushFrame (.throwing q))) := by
  obtain ⟨mk, methM, hnamed, hmethM, hstM, habM⟩ := Cond.instanceMethod_spec hinst
  obtain ⟨methM', cM, hmethM', -, -, -, -, -, -, hsigM⟩ := Cond.code_spec hnamed hcode
  cases hmethM.symm.trans hmethM'
  obtain ⟨c2, r2, m2, q1, q2, q3, q4, kP, hkP, hkPi⟩ := Cond.selects_spec hsel
  cases hcls.symm.trans q1
  cases (State.methodFound?_of_named hnamed hy).symm.trans q2
  cases hnamed.symm.trans q3
  have hselP : selectMethod e.platform s.vm cellB.cls mk = .method mk := by rw [Launch.admits_selectMethod X.admits]; exact q4
  obtain ⟨vm₁, X₁, hstep₁⟩ := X.invokevirtual hexec hown hlink hnamed hmethM hstM hkP hkPi hy (a := b) (cell := cellB) hcell
    (fun z h => by rw [h] at hobj; cases hobj) hselP hmethM habM hkP hkPi (g := g) hg (argsL := argsL) (rest := rest) (hlen _ hsigM) hstack hdg
  rcases hK m meth c ⟨T.setVm vm₁, locs, cells, slots⟩ { g with stack := rest } (.invokevirtual index) mk (Value.ref b :: argsL).toArray X₁ hg hsize hdg hW (X₁.named hnamed) (hpre vm₁ X₁.warmed) with ⟨v, B, X', hpost, hsteps⟩ | ⟨q, B, X', hpost, hsteps⟩
  · exact Or.inl ⟨v, vm₁, B, X₁.warmed, X', hpost, fun target h => hstep₁ _ fun acts => by rw [doInvoke_state]; exact hsteps.trans h⟩
  · exact Or.inr ⟨q, vm₁, B, X₁.warmed, X', hpost, hstep₁ _ fun acts => by rw [doInvoke_state]; exact hsteps⟩
theorem vx_callS (X : Stand p l e R s m args below meth c T locs cells slots) (hexec : p.tables.exec = Jvm.exec) {own : String} {index : Nat} {y : MethodName} {bytes : ByteArray} {maxL : Nat} {ret : Option FieldType}
    (hown : s.vm.findClass own = some m.cls) (hlink : (Cond.methodLink own index y).before args s = true) (hstat : (Cond.static y).before args s = true) (hinit : (Cond.initialized y.cls).before args s = true)
    (hcode : (Cond.code y bytes maxL ret).before args s = true) (hy : y.cls ≠ "java/lang/invoke/MethodHandle" ∧ y.cls ≠ "java/lang/invoke/VarHandle")
    {W9 : Nat} {Pre : Pt → Array Value → Prop} {Post : Pt → Array Value → Option Value → Pt → Prop} {PostX : Pt → Array Value → Addr → Pt → Prop} (hK : vx_Back l R p e below s args y 3 W9 Pre Post PostX)
    {g : JFrame} (hg : g.method = m) (hsize : g.locals.size = c.maxLocals) {argsL rest : List Value} (hlen : ∀ sig, parseMethodDescriptor y.desc = some sig → argsL.length = sig.parameters.length)
    (hstack : g.stack = argsL.reverse ++ rest) (hW : 2 * g.monitorRoom + (rest.map fun v => v.category).sum ≤ W9) (hdg : decode c.code g.pc = .ok (.invokestatic index, 3))
    (hpre : ∀ vm₁, s.WarmedH vm₁ → Pre ⟨T.setVm vm₁, locs, cells, slots⟩ argsL.toArray) :
    (∃ (v : Option Value) (vm₁ : Vm) (B : Pt), s.WarmedH vm₁ ∧ Stand p l e R s m args below meth c B.U B.locs B.cells B.slots ∧ Post ⟨T.setVm vm₁, locs, cells, slots⟩ argsL.toArray v B ∧
      ∀ target, Steps p.tables e below (B.U.setTop { g with pc := g.pc + 3, stack := v.toList ++ rest }) target → Steps p.tables e below (T.setTop g) target) ∨
    (∃ (q : Addr) (vm₁ : Vm) (B : Pt), s.WarmedH vm₁ ∧ Stand p l e R s m args below meth c B.U B.locs B.cells B.slots ∧ PostX ⟨T.setVm vm₁, locs, cells, slots⟩ argsL.toArray q B ∧
      Steps p.tables e below (T.setTop g) ((B.U.setTop { g with stack := rest }).pushFrame (.throwing q))) := by
  obtain ⟨mk, hnamed⟩ := Cond.code_named hcode
  obtain ⟨methM, cM, hmethM, -, -, -, -, -, -, hsigM⟩ := Cond.code_spec hnamed hcode
  have hstatic : methM.isStatic = true := Cond.static_spec hnamed hmethM hstat
  obtain ⟨kP, hkP, -⟩ := className_of_methodNamed hnamed
  have hinitP : kP.init = .initialized := Cond.initialized_spec (findClass_of_methodNamed hnamed) hkP hinit
  obtain ⟨vm₁, X₁, hstep₁⟩ := X.invokestatic hexec hown hlink hnamed hmethM hstatic hkP hinitP hy (g := g) hg (argsL := argsL) (rest := rest) (hlen _ hsigM) hstack hdg
  rcases hK m meth c ⟨T.setVm vm₁, locs, cells, slots⟩ { g with stack := rest } (.invokestatic index) mk argsL.toArray X₁ hg hsize hdg hW (X₁.named hnamed) (hpre vm₁ X₁.warmed) with ⟨v, B, X', hpost, hsteps⟩ | ⟨q, B, X', hpost, hsteps⟩
  · exact Or.inl ⟨v, vm₁, B, X₁.warmed, X', hpost, fun target h => hstep₁ _ fun acts => by rw [doInvoke_state]; exact hsteps.trans h⟩
  · exact Or.inr ⟨q, vm₁, B, X₁.warmed, X', hpost, hstep₁ _ fun acts => by rw [doInvoke_state]; exact hsteps⟩
end Calls
theorem vx_cls {s : State} {T : State} {vm₁ : Vm} {E : String} {k : ClassId} (hW : s.WarmedH vm₁) (h : (T.setVm vm₁).vm.findClass E = some k) : s.vm.findClass E = some k := by
  have h1 : vm₁.findClass E = some k := h
  rw [hW.alike.findClass] at h1
  exact h1
/-- the method's frame g, with q thrown over it -/
def vx_W (p : Program) (l : Launch) (e : Env) (R : Room) (s : State) (m : MethodId) (args : Array Value) (below : List Frame) (meth : Method) (c : Code) (H : Heap) (locs : List Loc) (cells slots : Nat) (Q : State → Prop) (g : JFrame) (q : Addr) : Prop :=
  ∀ T : State, T.heap = H → Stand p l e R s m args below meth c T locs cells slots → ∃ t, Steps p.tables e below ((T.setTop g).pushFrame (.throwing q)) t ∧ Q t
def vx_Run (p : Program) (l : Launch) (e : Env) (R : Room) (s : State) (m : MethodId) (args : Array Value) (below : List Frame) (meth : Method) (c : Code) (H : Heap) (locs : List Loc) (cells slots mc ms : Nat) (g : JFrame) (rest : List Value) (Qa : State → Outcome → State → Prop) (XC : String → State → State → Prop) (free : Addr → Prop) : Prop :=
  ∀ T : State, T.heap = H → Stand p l e R s m args below meth c T locs cells slots →
    (∃ (v : Option Value) (st₀ t T' : State) (L : List Loc), st₀.heap = H ∧ Stand p l e R s m args below meth c T' (locs ++ L) (cells + mc) (slots + ms) ∧ (∀ q ∈ L, free q.base) ∧ T'.heap = t.heap ∧ T'.vm = t.vm ∧ Qa st₀ (.returned v) t ∧
      Goes p e below T g T' { g with pc := g.pc + 3, stack := v.toList ++ rest }) ∨
    (∃ (q : Addr) (st₀ t T' : State) (L : List Loc) (E : String) (ce : Cell), st₀.heap = H ∧ Stand p l e R s m args below meth c T' (locs ++ L) (cells + mc) (slots + ms) ∧ (∀ z ∈ L, free z.base) ∧ T'.heap = t.heap ∧ T'.vm = t.vm ∧ XC E st₀ t ∧ t.heap[q]? = some ce ∧ ce.vm = .none ∧ s.vm.findClass E = some ce.cls ∧
      Steps p.tables e below (T.setTop g) ((T'.setTop { g with stack := rest }).pushFrame (.throwing q)))
def vx_X {S : Type} (px : S → Prop) (B : String → S → State → Prop) (A : Nat → Prop) : String → State → State → Prop := fun E st t => ∃ u : S, px u ∧ B E u t ∧ va_F A st t
section Runs
variable {p : Program} {l : Launch} {e : Env} {R : Room} {s : State} {m : MethodId} {args : Array Value} {below : List Frame} {meth : Method} {c : Code} {H : Heap} {locs : List Loc} {cells slots : Nat}
variable {y : MethodName} {bytes cc : ByteArray} {maxL nL mc ms n index : Nat} {ret : Option FieldType} {ws : List Cond} {rm : Room} {Pc : Array Value → State → Prop} {Qc : Array Value → State → Outcome → State → Prop} {XC : String → State → State → Prop} {free : Addr → Prop} {Ts : List Cond} {own C : String} {b : Addr} {As rest : List Value} {g : JFrame}
theorem vx_callBack (cb : CallB R s args own index y bytes maxL ret ws rm mc ms n) (hM : vx_Met l y ws rm Pc Qc XC mc ms free) (hbl : FrameBlind Pc) : vx_Back l R p e below s args y 3 8 (PreOf R mc ms Pc) (PostOf Qc mc ms free) (vx_Post XC mc ms free) := by
  obtain ⟨hrc, hrs, hfr, hlo, hws, hcw, -, hini, -⟩ := cb
  exact vx_back (bytes := bytes) (maxL := maxL) (ret := ret) hM hbl hrc hrs hfr hlo hws hcw (fun a' U hW => word_at hW (Or.inl (by first | rfl | simp [Cond.onTables, Cond.keeps, Cond.steady])) hini)
theorem vx_runV (S : CallFix p m c cc nL s args Ts own) (hM : vx_Met l y ws rm Pc Qc XC mc ms free) (cw : CallW R s args own C index y bytes maxL ret ws rm mc ms n) (hp : PreV s H C b Pc As)
    (hg : g.method = m) (hn : As.length = n) (hsize : g.locals.size = nL) (hstack : g.stack = As.reverse ++ .ref b :: rest) (hW : 2 * g.monitorRoom + (rest.map fun v => v.category).sum ≤ 8) (hdg : decode cc g.pc = .ok (.invokevirtual index, 3)) (hf : cells + mc ≤ R.cells ∧ slots + ms ≤ R.slots) :
    vx_Run p l e R s m args below meth c H locs cells slots mc ms g rest (Qc (Value.ref b :: As).toArray) XC free := by
  have hK : vx_Back l R p e below s args y 3 8 (PreOf R mc ms Pc) (PostOf Qc mc ms free) (vx_Post XC mc ms free) := vx_callBack cw.1 hM hp.1
  obtain ⟨⟨-, -, -, -, -, -, hcode, -, hy, hlen, hl⟩, hin, hse⟩ := cw
  obtain ⟨hx, hb, hml, ho, -⟩ := S
  obtain ⟨-, ⟨cellB, hcB, hoB, hclB⟩, hPc⟩ := hp
  intro T hT X
  rcases vx_callV X hx (C := C) (bytes := bytes) (maxL := maxL) (ret := ret) ho hl hin hse hcode hy hK (by rw [hT]; exact hcB) hoB hclB hg (hsize.trans hml.symm) (argsL := As) (rest := rest) (fun sig h => hn.trans (hlen sig h)) hstack hW (by rw [hb]; exact hdg)
    (fun vm₁ hW₁ => ⟨hf.1, hf.2, hPc (T.setVm vm₁) hT hW₁⟩) with ⟨v, vm₁, ⟨U', l2, c2, s2⟩, hW₁, X', ⟨g', mk, t, L, e1, e2, hq, h1, hL, h2, h3⟩, st⟩ | ⟨q, vm₁, ⟨U', l2, c2, s2⟩, hW₁, X', ⟨g', mk, t, L, E, ce, e1, e2, hq, hce, hcv, hcl, h1, hL, h2, h3⟩, st⟩
  · dsimp only [Pt.U, Pt.locs, Pt.cells, Pt.slots] at X' e1 e2 h1 h2 h3 st
    subst h1; subst h2; subst h3
    exact Or.inl ⟨v, (T.setVm vm₁).calling g' mk (Value.ref b :: As).toArray, t, U', L, hT, X', hL, e1, e2, hq, st⟩
  · dsimp only [Pt.U, Pt.locs, Pt.cells, Pt.slots] at X' e1 e2 h1 h2 h3 st hcl
    subst h1; subst h2; subst h3
    exact Or.inr ⟨q, (T.setVm vm₁).calling g' mk (Value.ref b :: As).toArray, t, U', L, E, ce, hT, X', hL, e1, e2, hq, hce, hcv, vx_cls hW₁ hcl, st⟩
theorem vx_runS (S : CallFix p m c cc nL s args Ts own) (hM : vx_Met l y ws rm Pc Qc XC mc ms free) (cw : CallB R s args own index y bytes maxL ret ws rm mc ms n ∧ (Cond.static y).before args s = true) (hp : PreS s H Pc As)
    (hg : g.method = m) (hn : As.length = n) (hsize : g.locals.size = nL) (hstack : g.stack = As.reverse ++ rest) (hW : 2 * g.monitorRoom + (rest.map fun v => v.category).sum ≤ 8) (hdg : decode cc g.pc = .ok (.invokestatic index, 3)) (hf : cells + mc ≤ R.cells ∧ slots + ms ≤ R.slots) :
    vx_Run p l e R s m args below meth c H locs cells slots mc ms g rest (Qc As.toArray) XC free := by
  have hK : vx_Back l R p e below s args y 3 8 (PreOf R mc ms Pc) (PostOf Qc mc ms free) (vx_Post XC mc ms free) := vx_callBack cw.1 hM hp.1
  obtain ⟨⟨-, -, -, -, -, -, hcode, hini, hy, hlen, hl⟩, hstt⟩ := cw
  obtain ⟨hx, hb, hml, ho, -⟩ := S
  intro T hT X
  rcases vx_callS X hx (bytes := bytes) (maxL := maxL) (ret := ret) ho hl hstt hini hcode hy hK hg (hsize.trans hml.symm) (argsL := As) (rest := rest) (fun sig h => hn.trans (hlen sig h)) hstack hW (by rw [hb]; exact hdg)
    (fun vm₁ hW₁ => ⟨hf.1, hf.2, hp.2 (T.setVm vm₁) hT hW₁⟩) with ⟨v, vm₁, ⟨U', l2, c2, s2⟩, hW₁, X', ⟨g', mk, t, L, e1, e2, hq, h1, hL, h2, h3⟩, st⟩ | ⟨q, vm₁, ⟨U', l2, c2, s2⟩, hW₁, X', ⟨g', mk, t, L, E, ce, e1, e2, hq, hce, hcv, hcl, h1, hL, h2, h3⟩, st⟩
  · dsimp only [Pt.U, Pt.locs, Pt.cells, Pt.slots] at X' e1 e2 h1 h2 h3 st
    subst h1; subst h2; subst h3
    exact Or.inl ⟨v, (T.setVm vm₁).calling g' mk As.toArray, t, U', L, hT, X', hL, e1, e2, hq, st⟩
  · dsimp only [Pt.U, Pt.locs, Pt.cells, Pt.slots] at X' e1 e2 h1 h2 h3 st hcl
    subst h1; subst h2; subst h3
    exact Or.inr ⟨q, (T.setVm vm₁).calling g' mk As.toArray, t, U', L, E, ce, hT, X', hL, e1, e2, hq, hce, hcv, vx_cls hW₁ hcl, st⟩
end Runs
section Rows
variable {p : Program} {l : Launch} {e : Env} {R : Room} {s : State} {m : MethodId} {args : Array Value} {below : List Frame} {meth : Method} {c : Code} {H : Heap} {locs : List Loc} {cells slots : Nat} {Q : State → Prop}
variable {mc ms : Nat} {free : Addr → Prop} {A0 A1 : Nat → Prop} {H0 : Heap} {a : Array Value} {pc : Nat} {ls : Array Slot} {st0 rest : List Value}
theorem vx_keep {st₀ t T' : State} {L : List Loc} (h0 : st₀.heap = H) (e1 : T'.heap = t.heap) (hS : va_S A0 H0 H locs) (hA : ∀ q, q < H.size → A1 q → A0 q) (hf : ∀ q, free q → A0 q) (hL : ∀ q ∈ L, free q.base) (hF : va_F A1 st₀ t) :
    H.size ≤ T'.heap.size ∧ (∀ q : Nat, q < H.size → ¬ A1 q → T'.heap[q]? = H[q]?) ∧ va_S A0 H0 T'.heap (locs ++ L) := by
  obtain ⟨hz, hk⟩ := hF
  rw [h0] at hz hk
  exact ⟨by rw [e1]; exact hz, fun q h1 h2 => by rw [e1]; exact hk q h1 h2,
    ⟨Nat.le_trans hS.1 (by rw [e1]; exact hz), fun q h1 h2 => by rw [e1, hk q (Nat.lt_of_lt_of_le h1 hS.1) (fun z => h2 (hA q (Nat.lt_of_lt_of_le h1 hS.1) z))]; exact hS.2.1 q h1 h2, fun q hq => by
      rcases List.mem_append.mp hq with h | h
      · exact hS.2.2 q h
      · exact hf _ (hL q h)⟩⟩
theorem vx_calli {S SX : Type} {post : Int32 → S → Prop} {px : SX → Prop} {B : S → State → Prop} {BX : String → SX → State → Prop} {AX : Nat → Prop} (hr : vx_Run p l e R s m args below meth c H locs cells slots mc ms (F0 m pc ls st0) rest (va_Qi post B A1 a) (vx_X px BX AX) free) (hS : va_S A0 H0 H locs) (hA : ∀ q, q < H.size → A1 q → A0 q) (hf : ∀ q, free q → A0 q) (hAX : ∀ q, q < H.size → AX q → A0 q)
    (kx : ∀ (E : String) (ce : Cell) (q9 : Addr) (u : SX) (t : State) (H1 : Heap) (locs1 : List Loc), t.heap = H1 → s.vm.Alike t.vm → px u → BX E u t → H.size ≤ H1.size → (∀ q : Nat, q < H.size → ¬ AX q → H1[q]? = H[q]?) → va_S A0 H0 H1 locs1 → H1[q9]? = some ce → ce.vm = .none → s.vm.findClass E = some ce.cls → vx_W p l e R s m args below meth c H1 locs1 (cells + mc) (slots + ms) Q (F0 m pc ls rest) q9)
    (kk : ∀ (r : Int32) (u : S) (t : State) (H1 : Heap) (locs1 : List Loc), t.heap = H1 → s.vm.Alike t.vm → post r u → B u t → H.size ≤ H1.size → (∀ q : Nat, q < H.size → ¬ A1 q → H1[q]? = H[q]?) → va_S A0 H0 H1 locs1 → W p l e R s m args below meth c H1 locs1 (cells + mc) (slots + ms) Q (F0 m (pc + 3) ls (.int r :: rest))) : W p l e R s m args below meth c H locs cells slots Q (F0 m pc ls st0) := by
  intro T hT X
  rcases hr T hT X with ⟨v, st₀, t, T', L, h0, X', hL, e1, e2, ⟨⟨r, u, hv, hp, hb⟩, hF⟩, st⟩ | ⟨q, st₀, t, T', L, E, ce, h0, X', hL, e1, e2, ⟨u, hp, hb, hF⟩, hce, hcv, hcl, st⟩
  · cases hv
    obtain ⟨k1, k2, k3⟩ := vx_keep h0 e1 hS hA hf hL hF
    obtain ⟨t2, a1, b1⟩ := kk r u t T'.heap (locs ++ L) e1.symm (by rw [← e2]; exact X'.warmed.alike) hp hb k1 k2 k3 T' rfl X'
    exact ⟨t2, st t2 a1, b1⟩
  · obtain ⟨k1, k2, k3⟩ := vx_keep h0 e1 hS hAX hf hL hF
    obtain ⟨t2, a1, b1⟩ := kx E ce q u t T'.heap (locs ++ L) e1.symm (by rw [← e2]; exact X'.warmed.alike) hp hb k1 k2 k3 (by rw [e1]; exact hce) hcv hcl T' rfl X'
    exact ⟨t2, st.trans a1, b1⟩
theorem vx_calll {S SX : Type} {post : Int64 → S → Prop} {px : SX → Prop} {B : S → State → Prop} {BX : String → SX → State → Prop} {AX : Nat → Prop} (hr : vx_Run p l e R s m args below meth c H locs cells slots mc ms (F0 m pc ls st0) rest (va_Ql post B A1 a) (vx_X px BX AX) free) (hS : va_S A0 H0 H locs) (hA : ∀ q, q < H.size → A1 q → A0 q) (hf : ∀ q, free q → A0 q) (hAX : ∀ q, q < H.size → AX q → A0 q)
    (kx : ∀ (E : String) (ce : Cell) (q9 : Addr) (u : SX) (t : State) (H1 : Heap) (locs1 : List Loc), t.heap = H1 → s.vm.Alike t.vm → px u → BX E u t → H.size ≤ H1.size → (∀ q : Nat, q < H.size → ¬ AX q → H1[q]? = H[q]?) → va_S A0 H0 H1 locs1 → H1[q9]? = some ce → ce.vm = .none → s.vm.findClass E = some ce.cls → vx_W p l e R s m args below meth c H1 locs1 (cells + mc) (slots + ms) Q (F0 m pc ls rest) q9)
    (kk : ∀ (r : Int64) (u : S) (t : State) (H1 : Heap) (locs1 : List Loc), t.heap = H1 → s.vm.Alike t.vm → post r u → B u t → H.size ≤ H1.size → (∀ q : Nat, q < H.size → ¬ A1 q → H1[q]? = H[q]?) → va_S A0 H0 H1 locs1 → W p l e R s m args below meth c H1 locs1 (cells + mc) (slots + ms) Q (F0 m (pc + 3) ls (.long r :: rest))) : W p l e R s m args below meth c H locs cells slots Q (F0 m pc ls st0) := by
  intro T hT X
  rcases hr T hT X with ⟨v, st₀, t, T', L, h0, X', hL, e1, e2, ⟨⟨r, u, hv, hp, hb⟩, hF⟩, st⟩ | ⟨q, st₀, t, T', L, E, ce, h0, X', hL, e1, e2, ⟨u, hp, hb, hF⟩, hce, hcv, hcl, st⟩
  · cases hv
    obtain ⟨k1, k2, k3⟩ := vx_keep h0 e1 hS hA hf hL hF
    obtain ⟨t2, a1, b1⟩ := kk r u t T'.heap (locs ++ L) e1.symm (by rw [← e2]; exact X'.warmed.alike) hp hb k1 k2 k3 T' rfl X'
    exact ⟨t2, st t2 a1, b1⟩
  · obtain ⟨k1, k2, k3⟩ := vx_keep h0 e1 hS hAX hf hL hF
    obtain ⟨t2, a1, b1⟩ := kx E ce q u t T'.heap (locs ++ L) e1.symm (by rw [← e2]; exact X'.warmed.alike) hp hb k1 k2 k3 (by rw [e1]; exact hce) hcv hcl T' rfl X'
    exact ⟨t2, st.trans a1, b1⟩
theorem vx_callf {S SX : Type} {post : UInt32 → S → Prop} {px : SX → Prop} {B : S → State → Prop} {BX : String → SX → State → Prop} {AX : Nat → Prop} (hr : vx_Run p l e R s m args below meth c H locs cells slots mc ms (F0 m pc ls st0) rest (va_Qf post B A1 a) (vx_X px BX AX) free) (hS : va_S A0 H0 H locs) (hA : ∀ q, q < H.size → A1 q → A0 q) (hf : ∀ q, free q → A0 q) (hAX : ∀ q, q < H.size → AX q → A0 q)
    (kx : ∀ (E : String) (ce : Cell) (q9 : Addr) (u : SX) (t : State) (H1 : Heap) (locs1 : List Loc), t.heap = H1 → s.vm.Alike t.vm → px u → BX E u t → H.size ≤ H1.size → (∀ q : Nat, q < H.size → ¬ AX q → H1[q]? = H[q]?) → va_S A0 H0 H1 locs1 → H1[q9]? = some ce → ce.vm = .none → s.vm.findClass E = some ce.cls → vx_W p l e R s m args below meth c H1 locs1 (cells + mc) (slots + ms) Q (F0 m pc ls rest) q9)
    (kk : ∀ (r : UInt32) (u : S) (t : State) (H1 : Heap) (locs1 : List Loc), t.heap = H1 → s.vm.Alike t.vm → post r u → B u t → H.size ≤ H1.size → (∀ q : Nat, q < H.size → ¬ A1 q → H1[q]? = H[q]?) → va_S A0 H0 H1 locs1 → W p l e R s m args below meth c H1 locs1 (cells + mc) (slots + ms) Q (F0 m (pc + 3) ls (.float r :: rest))) : W p l e R s m args below meth c H locs cells slots Q (F0 m pc ls st0) := by
  intro T hT X
  rcases hr T hT X with ⟨v, st₀, t, T', L, h0, X', hL, e1, e2, ⟨⟨r, u, hv, hp, hb⟩, hF⟩, st⟩ | ⟨q, st₀, t, T', L, E, ce, h0, X', hL, e1, e2, ⟨u, hp, hb, hF⟩, hce, hcv, hcl, st⟩
  · cases hv
    obtain ⟨k1, k2, k3⟩ := vx_keep h0 e1 hS hA hf hL hF
    obtain ⟨t2, a1, b1⟩ := kk r u t T'.heap (locs ++ L) e1.symm (by rw [← e2]; exact X'.warmed.alike) hp hb k1 k2 k3 T' rfl X'
    exact ⟨t2, st t2 a1, b1⟩
  · obtain ⟨k1, k2, k3⟩ := vx_keep h0 e1 hS hAX hf hL hF
    obtain ⟨t2, a1, b1⟩ := kx E ce q u t T'.heap (locs ++ L) e1.symm (by rw [← e2]; exact X'.warmed.alike) hp hb k1 k2 k3 (by rw [e1]; exact hce) hcv hcl T' rfl X'
    exact ⟨t2, st.trans a1, b1⟩
theorem vx_calld {S SX : Type} {post : UInt64 → S → Prop} {px : SX → Prop} {B : S → State → Prop} {BX : String → SX → State → Prop} {AX : Nat → Prop} (hr : vx_Run p l e R s m args below meth c H locs cells slots mc ms (F0 m pc ls st0) rest (va_Qd post B A1 a) (vx_X px BX AX) free) (hS : va_S A0 H0 H locs) (hA : ∀ q, q < H.size → A1 q → A0 q) (hf : ∀ q, free q → A0 q) (hAX : ∀ q, q < H.size → AX q → A0 q)
    (kx : ∀ (E : String) (ce : Cell) (q9 : Addr) (u : SX) (t : State) (H1 : Heap) (locs1 : List Loc), t.heap = H1 → s.vm.Alike t.vm → px u → BX E u t → H.size ≤ H1.size → (∀ q : Nat, q < H.size → ¬ AX q → H1[q]? = H[q]?) → va_S A0 H0 H1 locs1 → H1[q9]? = some ce → ce.vm = .none → s.vm.findClass E = some ce.cls → vx_W p l e R s m args below meth c H1 locs1 (cells + mc) (slots + ms) Q (F0 m pc ls rest) q9)
    (kk : ∀ (r : UInt64) (u : S) (t : State) (H1 : Heap) (locs1 : List Loc), t.heap = H1 → s.vm.Alike t.vm → post r u → B u t → H.size ≤ H1.size → (∀ q : Nat, q < H.size → ¬ A1 q → H1[q]? = H[q]?) → va_S A0 H0 H1 locs1 → W p l e R s m args below meth c H1 locs1 (cells + mc) (slots + ms) Q (F0 m (pc + 3) ls (.double r :: rest))) : W p l e R s m args below meth c H locs cells slots Q (F0 m pc ls st0) := by
  intro T hT X
  rcases hr T hT X with ⟨v, st₀, t, T', L, h0, X', hL, e1, e2, ⟨⟨r, u, hv, hp, hb⟩, hF⟩, st⟩ | ⟨q, st₀, t, T', L, E, ce, h0, X', hL, e1, e2, ⟨u, hp, hb, hF⟩, hce, hcv, hcl, st⟩
  · cases hv
    obtain ⟨k1, k2, k3⟩ := vx_keep h0 e1 hS hA hf hL hF
    obtain ⟨t2, a1, b1⟩ := kk r u t T'.heap (locs ++ L) e1.symm (by rw [← e2]; exact X'.warmed.alike) hp hb k1 k2 k3 T' rfl X'
    exact ⟨t2, st t2 a1, b1⟩
  · obtain ⟨k1, k2, k3⟩ := vx_keep h0 e1 hS hAX hf hL hF
    obtain ⟨t2, a1, b1⟩ := kx E ce q u t T'.heap (locs ++ L) e1.symm (by rw [← e2]; exact X'.warmed.alike) hp hb k1 k2 k3 (by rw [e1]; exact hce) hcv hcl T' rfl X'
    exact ⟨t2, st.trans a1, b1⟩
theorem vx_callv {S SX : Type} {post : S → Prop} {px : SX → Prop} {B : S → State → Prop} {BX : String → SX → State → Prop} {AX : Nat → Prop} (hr : vx_Run p l e R s m args below meth c H locs cells slots mc ms (F0 m pc ls st0) rest (va_Qv post B A1 a) (vx_X px BX AX) free) (hS : va_S A0 H0 H locs) (hA : ∀ q, q < H.size → A1 q → A0 q) (hf : ∀ q, free q → A0 q) (hAX : ∀ q, q < H.size → AX q → A0 q)
    (kx : ∀ (E : String) (ce : Cell) (q9 : Addr) (u : SX) (t : State) (H1 : Heap) (locs1 : List Loc), t.heap = H1 → s.vm.Alike t.vm → px u → BX E u t → H.size ≤ H1.size → (∀ q : Nat, q < H.size → ¬ AX q → H1[q]? = H[q]?) → va_S A0 H0 H1 locs1 → H1[q9]? = some ce → ce.vm = .none → s.vm.findClass E = some ce.cls → vx_W p l e R s m args below meth c H1 locs1 (cells + mc) (slots + ms) Q (F0 m pc ls rest) q9)
    (kk : ∀ (u : S) (t : State) (H1 : Heap) (locs1 : List Loc), t.heap = H1 → s.vm.Alike t.vm → post u → B u t → H.size ≤ H1.size → (∀ q : Nat, q < H.size → ¬ A1 q → H1[q]? = H[q]?) → va_S A0 H0 H1 locs1 → W p l e R s m args below meth c H1 locs1 (cells + mc) (slots + ms) Q (F0 m (pc + 3) ls (rest))) : W p l e R s m args below meth c H locs cells slots Q (F0 m pc ls st0) := by
  intro T hT X
  rcases hr T hT X with ⟨v, st₀, t, T', L, h0, X', hL, e1, e2, ⟨⟨u, hv, hp, hb⟩, hF⟩, st⟩ | ⟨q, st₀, t, T', L, E, ce, h0, X', hL, e1, e2, ⟨u, hp, hb, hF⟩, hce, hcv, hcl, st⟩
  · cases hv
    obtain ⟨k1, k2, k3⟩ := vx_keep h0 e1 hS hA hf hL hF
    obtain ⟨t2, a1, b1⟩ := kk u t T'.heap (locs ++ L) e1.symm (by rw [← e2]; exact X'.warmed.alike) hp hb k1 k2 k3 T' rfl X'
    exact ⟨t2, st t2 a1, b1⟩
  · obtain ⟨k1, k2, k3⟩ := vx_keep h0 e1 hS hAX hf hL hF
    obtain ⟨t2, a1, b1⟩ := kx E ce q u t T'.heap (locs ++ L) e1.symm (by rw [← e2]; exact X'.warmed.alike) hp hb k1 k2 k3 (by rw [e1]; exact hce) hcv hcl T' rfl X'
    exact ⟨t2, st.trans a1, b1⟩
/-- caught by the row x of this method's table; the rows ahead don't take it -/
theorem vx_catch {own name : String} {E : String} {ce : Cell} {q : Addr} (hown : s.vm.findClass own = some m.cls) (pre : List ExceptionTableEntry) (x : ExceptionTableEntry) (suf : List ExceptionTableEntry) (hsplit : c.exceptionTable.toList = pre ++ x :: suf)
    (hpass : ∀ z ∈ pre, covers z pc = false ∨ (z.catchType ≠ 0 ∧ ∃ nm : String, (Cond.classLink own z.catchType nm).before args s = true ∧ va_Nc E nm s)) (hx : covers x pc = true) (h0 : x.catchType ≠ 0)
    (hlink : (Cond.classLink own x.catchType name).before args s = true) (hcast : (Cond.castable E name).before args s = true) (hcell : H[q]? = some ce) (hv : ce.vm = .none) (hcl : s.vm.findClass E = some ce.cls)
    (kk : W p l e R s m args below meth c H locs cells slots Q (F0 m x.handlerPc ls [.ref q])) : vx_W p l e R s m args below meth c H locs cells slots Q (F0 m pc ls rest) q := by
  intro T hT X
  have hpl : e.platform.magicAccessors = ({} : Platform).magicAccessors := by rw [X.admits.platform]
  obtain ⟨c3, c4, hc3, hc4, hasg⟩ := Cond.castable_spec hcast
  cases Option.some.inj (hc3.symm.trans hcl)
  obtain ⟨c5, hc5, hcl5⟩ := Cond.classLink_spec hown hlink e.platform hpl
  cases Option.some.inj (hc4.symm.trans hc5)
  obtain ⟨vm', X', st⟩ := Jvm.Stand.thenCaughtThrough X q (g := F0 m pc ls rest) rfl (Steps.refl _) (by rw [hT]; exact hcell) (by rw [hv]; rfl) (by obtain ⟨k9, h9, -⟩ := Vm.findClass_spec hcl; exact ⟨k9, h9⟩) pre x suf hsplit
    (fun z hz => by
      rcases hpass z hz with h | ⟨hz0, nm, hl1, hn1⟩
      · exact Or.inl h
      · obtain ⟨c6, hc6, hcl6⟩ := Cond.classLink_spec hown hl1 e.platform hpl
        obtain ⟨a8, b8, h1, h2, h3⟩ := hn1
        cases Option.some.inj (h1.symm.trans hcl)
        cases Option.some.inj (h2.symm.trans hc6)
        exact Or.inr ⟨hz0, _, hcl6, h3⟩) hx (Or.inr ⟨h0, c4, hcl5, hasg⟩)
  obtain ⟨t, a1, b1⟩ := kk (T.setVm vm') hT X'
  exact ⟨t, st.trans a1, b1⟩
end Rows
section Ends
variable {p : Program} {l : Launch} {e : Env} {R : Room} {s : State} {m : MethodId} {args : Array Value} {below : List Frame} {meth : Method} {c : Code} {H : Heap} {locs : List Loc} {cells slots : Nat} {Q : State → Prop}
variable {mc ms : Nat} {free : Addr → Prop} {A0 A1 : Nat → Prop} {H0 : Heap} {a : Array Value} {ls : Array Slot} {st0 rest : List Value}
variable {Qc : Array Value → State → Outcome → State → Prop} {XC : String → State → State → Prop}
/-- what a body that may throw owes at its end -/
def vx_MQ (below : List Frame) (Qc : Array Value → State → Outcome → State → Prop) (XC : String → State → State → Prop) (a : Array Value) (s : State) (mc ms : Nat) (free : Addr → Prop) : State → Prop := fun t =>
  ∃ o, t.status = .running ∧ Ended t below o ∧ vx_Q Qc XC mc ms free a s o t
theorem vx_ret {g : JFrame} {mc ms : Nat} (k : W p l e R s m args below meth c H locs cells slots (MQ below Qc args s mc ms free) g) : W p l e R s m args below meth c H locs cells slots (vx_MQ below Qc XC args s mc ms free) g := by
  intro T hT X
  obtain ⟨t, a1, o, b1, b2, b3, b4⟩ := k T hT X
  exact ⟨t, a1, o, b1, b2, Or.inl ⟨b3, b4⟩⟩
/-- not caught here: it goes on to the caller -/
theorem vx_widen {g : JFrame} {q : Addr} {k n : Nat} (h1 : cells ≤ k) (h2 : slots ≤ n) (kk : vx_W p l e R s m args below meth c H locs k n Q g q) : vx_W p l e R s m args below meth c H locs cells slots Q g q := fun T hT X => kk T hT (stand_widen X h1 h2)
theorem vx_out {pc : Nat} {E : String} {ce : Cell} {q : Addr} {mc ms : Nat} (hout : ∀ x ∈ c.exceptionTable.toList, covers x pc = false) (hlocks : meth.locks = false) (hcell : H[q]? = some ce) (hv : ce.vm = .none) (hcl : s.vm.findClass E = some ce.cls)
    (hx : ∀ t : State, t.heap = H → s.vm.Alike t.vm → XC E s t) (hf : ∀ z ∈ locs, free z.base) (hc : cells ≤ mc) (hs : slots ≤ ms) :
    vx_W p l e R s m args below meth c H locs cells slots (vx_MQ below Qc XC args s mc ms free) (F0 m pc ls rest) q := by
  intro T hT X
  obtain ⟨st1, hrun, hend, hW, hsm⟩ := X.leaveThrown q (g := F0 m pc ls rest) rfl rfl rfl hout hlocks
  have hcell9 : (T.setFrames (.throwing q :: below)).heap[q]? = some ce := by
    show T.heap[q]? = some ce
    rw [hT]; exact hcell
  exact ⟨_, st1, .threw q, hrun, hend, Or.inr ⟨q, rfl, E, ce, locs, hx _ hT hW.alike, hcell9, hv, hcl, hW, hsm.mono hc hs, hf⟩⟩
theorem vx_frame {U : State} {k n : Nat} (h : s.sameButNew ({ U with vm := s.vm } : State) locs k n) : s.heap.size ≤ U.heap.size ∧ ∀ q : Nat, q < s.heap.size → (∀ z ∈ locs, z.base ≠ q) → U.heap[q]? = s.heap[q]? := by
  obtain ⟨-, h2, -, -, -, h6⟩ := h
  refine ⟨h2, fun q hq hz => ?_⟩
  obtain ⟨c9, e1, e2, e3, e4⟩ := h6 q _ (Array.getElem?_eq_getElem hq)
  have hs : c9.slots = (s.heap[q]).slots := Array.ext_getElem? fun i => e4 i fun hm => hz _ hm rfl
  have h9 : c9 = s.heap[q] := by
    rw [hs] at e2
    exact e2
  have e5 : U.heap[q]? = some c9 := e1
  rw [e5, h9, Array.getElem?_eq_getElem hq]
/-- the words of a throw but the four that speak of the heap -/
def vx_no (w : Cond) : Bool := decide (w ≠ .isRef (.static Bundle.tN "UNASSIGNED_STACK" Bundle.steD)) && decide (w ≠ .isRef (.static Bundle.tN "SUPPRESSED_SENTINEL" Bundle.listD)) && decide (w ≠ .laysStatic Bundle.tN "UNASSIGNED_STACK" Bundle.steD) && decide (w ≠ .laysStatic Bundle.tN "SUPPRESSED_SENTINEL" Bundle.listD)
def vx_at0 (own : String) (ic : Nat) (X : String) (names : List String) : List Cond := (Bundle.ownAtoms0 own ic X names).filter vx_no
def vx_atS (own : String) (ic : Nat) (X : String) (names : List String) : List Cond := (Bundle.ownAtoms own ic X names).filter vx_no
/-- a word that the tables alone decide, or a good one -/
def vx_ot (w : Cond) : Bool := w.onTables || goodWord w
theorem vx_ot_at {args a' : Array Value} {s U : State} {w : Cond} (hW : s.WarmedH U.vm) (hvm : s.vm = U.vm) (hg : vx_ot w = true) (h : w.before args s = true) : w.before a' U = true := by
  simp only [vx_ot, Bool.or_eq_true] at hg
  rcases hg with hg | hg
  · exact va_tabs hg hvm h
  · exact word_at hW (good_of_word hg) h
/-- a list's words: the good ones out of the method's own list, the others by premises of their own -/
theorem vx_hat {args : Array Value} {s : State} {L B : List Cond} (h1 : ∀ w ∈ L.filter goodWord, w.before args s = true) (h2 : ∀ w ∈ L.filter (fun w => !goodWord w), w ∈ B) (h3 : ∀ w ∈ B, w.before args s = true) : ∀ w ∈ L, w.before args s = true := by
  intro w hw
  by_cases g : goodWord w = true
  · exact h1 w (List.mem_filter.mpr ⟨hw, g⟩)
  · refine h3 w (h2 w (List.mem_filter.mpr ⟨hw, ?_⟩))
    show (!goodWord w) = true
    cases hgw : goodWord w
    · rfl
    · exact absurd hgw g
theorem vx_c {args : Array Value} {s : State} {w : Cond} {B : List Cond} (h : w.before args s = true) (t : ∀ w ∈ B, w.before args s = true) : ∀ w' ∈ w :: B, w'.before args s = true := fun w' h' => (List.mem_cons.mp h').elim (fun e => by rw [e]; exact h) (t w')
theorem vx_n {args : Array Value} {s : State} : ∀ w ∈ ([] : List Cond), w.before args s = true := fun _ h => nomatch h
theorem vx_own {args : Array Value} {s : State} {L : List Cond} (h1 : ∀ w ∈ L.filter vx_no, w.before args s = true)
    (hU : (Cond.isRef (.static Bundle.tN "UNASSIGNED_STACK" Bundle.steD)).before args s = true) (hN : (Cond.isRef (.static Bundle.tN "SUPPRESSED_SENTINEL" Bundle.listD)).before args s = true)
    (lU : (Cond.laysStatic Bundle.tN "UNASSIGNED_STACK" Bundle.steD).before args s = true) (lN : (Cond.laysStatic Bundle.tN "SUPPRESSED_SENTINEL" Bundle.listD).before args s = true) : ∀ w ∈ L, w.before args s = true := by
  intro w hw
  by_cases e1 : w = .isRef (.static Bundle.tN "UNASSIGNED_STACK" Bundle.steD)
  · rw [e1]; exact hU
  · by_cases e2 : w = .isRef (.static Bundle.tN "SUPPRESSED_SENTINEL" Bundle.listD)
    · rw [e2]; exact hN
    · by_cases e3 : w = .laysStatic Bundle.tN "UNASSIGNED_STACK" Bundle.steD
      · rw [e3]; exact lU
      · by_cases e4 : w = .laysStatic Bundle.tN "SUPPRESSED_SENTINEL" Bundle.listD
        · rw [e4]; exact lN
        · exact h1 w (List.mem_filter.mpr ⟨hw, by unfold vx_no; rw [decide_eq_true e1, decide_eq_true e2, decide_eq_true e3, decide_eq_true e4]; rfl⟩)
/-- where a static field lies, its class's statics cell in H -/
def vx_L (C n d : String) (A : Nat → Prop) (U : State) (H : Heap) : Prop := ∃ (c : ClassId) (k : Class) (i : Nat) (f : Field) (a : Nat) (cell : Cell), U.vm.findClass C = some c ∧ U.fieldFound? C n d = some (c, k, i, f) ∧ f.isStatic = true ∧ k.statics = some a ∧ H[a]? = some cell ∧ cell.vm.isStatics = true ∧ cell.cls = c ∧ f.slot < cell.slots.size ∧ k.staticTypes[f.slot]? = some f.type ∧ ¬ A a
theorem vx_L.moved {C n d : String} {A : Nat → Prop} {u U : State} {H : Heap} (hvm : u.vm.Alike U.vm) (h : vx_L C n d A u H) : vx_L C n d A U H := by
  obtain ⟨c, k, i, f, a, cell, h1, h2, h3, h4, h5, h6, h7, h8, h9, h10⟩ := h
  obtain ⟨k', hi', he⟩ := State.fieldFound?_setVm hvm h2
  exact ⟨c, k', i, f, a, cell, by rw [hvm.findClass]; exact h1, hi', h3, by rw [he]; exact h4, h5, h6, h7, h8, by rw [he]; exact h9, h10⟩
theorem vx_L.kept {C n d : String} {A : Nat → Prop} {U : State} {H H1 : Heap} (h : vx_L C n d A U H) (hq : ∀ a : Nat, a < H.size → ¬ A a → H1[a]? = H[a]?) : vx_L C n d A U H1 := by
  obtain ⟨c, k, i, f, a, cell, h1, h2, h3, h4, h5, h6, h7, h8, h9, h10⟩ := h
  exact ⟨c, k, i, f, a, cell, h1, h2, h3, h4, by rw [hq a (Array.getElem?_eq_some_iff.mp h5).1 h10]; exact h5, h6, h7, h8, h9, h10⟩
theorem vx_L.narrow {C n d : String} {A B : Nat → Prop} {U : State} {H : Heap} (h : vx_L C n d A U H) (hAB : ∀ q, B q → A q) : vx_L C n d B U H := by
  obtain ⟨c, k, i, f, a, cell, h1, h2, h3, h4, h5, h6, h7, h8, h9, h10⟩ := h
  exact ⟨c, k, i, f, a, cell, h1, h2, h3, h4, h5, h6, h7, h8, h9, fun z => h10 (hAB _ z)⟩
theorem vx_L.word {C n d : String} {A : Nat → Prop} {s : State} {args : Array Value} (h : vx_L C n d A s s.heap) : (Cond.laysStatic C n d).before args s = true := by
  obtain ⟨c, k, i, f, a, cell, h1, h2, h3, h4, h5, h6, h7, h8, h9, -⟩ := h
  show (Cond.laysStatic C n d).holds args s none s [] = true
  exact Cond.laysStatic_of h1 h2 h3 h4 h5 h6 h7 h8 h9
/-- .. and what it holds: null or some reference -/
def vx_Zq (C n d : String) (A : Nat → Prop) (U : State) (H : Heap) : Prop := va_Zq C n d A U H ∧ vx_L C n d A U H
theorem vx_Zq.moved {C n d : String} {A : Nat → Prop} {u U : State} {H : Heap} (hvm : u.vm.Alike U.vm) (h : vx_Zq C n d A u H) : vx_Zq C n d A U H := ⟨va_Zq.moved hvm h.1, vx_L.moved hvm h.2⟩
theorem vx_Zq.kept {C n d : String} {A : Nat → Prop} {U : State} {H H1 : Heap} (h : vx_Zq C n d A U H) (hq : ∀ a : Nat, a < H.size → ¬ A a → H1[a]? = H[a]?) : vx_Zq C n d A U H1 := ⟨va_Zq.kept h.1 hq, vx_L.kept h.2 hq⟩
theorem vx_Zq.narrow {C n d : String} {A B : Nat → Prop} {U : State} {H : Heap} (h : vx_Zq C n d A U H) (hAB : ∀ q, B q → A q) : vx_Zq C n d B U H := ⟨va_Zq.narrow h.1 hAB, vx_L.narrow h.2 hAB⟩
theorem vx_Zqof {args : Array Value} {s : State} {C n d : String} {A : Nat → Prop} (hl : (Cond.laysStatic C n d).before args s = true) (hini : (Cond.initialized C).before args s = true) (h : (Cond.isRef (.static C n d)).before args s = true) (hA : ∀ a : Nat, a < s.heap.size → ¬ A a) : vx_Zq C n d A s s.heap := by
  refine ⟨va_Zqof hl hini h hA, ?_⟩
  obtain ⟨c, k, i, f, a, cell, h1, h2, h3, h4, h5, h6, h7, h8, h9⟩ := Cond.laysStatic_spec hl
  exact ⟨c, k, i, f, a, cell, h1, h2, h3, h4, h5, h6, h7, h8, h9, hA a (Array.getElem?_eq_some_iff.mp h5).1⟩
theorem vx_isRef {C n d : String} {v : Value} {A : Nat → Prop} {s : State} {args : Array Value} (h : va_Z C n d v A s s.heap) (hv : v.isRef = true) : (Cond.isRef (.static C n d)).before args s = true := by
  obtain ⟨cf, kf, fi, f, a, cell, h1, h2, h3, h4, h5, h6, h7, -⟩ := h
  have he : (Term.static C n d).eval args s none [] s = some v := by
    simp [Term.eval, State.fieldNamed?, h1, h2, h4, h5, h6, h7]
  simp only [Cond.before, Cond.holds, Cond.value, he]
  cases v <;> simp_all [Value.isRef]
theorem vx_isRefq {C n d : String} {A : Nat → Prop} {s : State} {args : Array Value} (h : va_Zq C n d A s s.heap) : (Cond.isRef (.static C n d)).before args s = true := by
  rcases h with h | ⟨t, h⟩
  · exact vx_isRef h rfl
  · exact vx_isRef h rfl
/-- the same frame, seen from here: as if the method were called anew in this heap -/
theorem vx_rebase {T : State} (X : Stand p l e R s m args below meth c T locs cells slots) {R' : Room} (hf : R'.frames ≤ R.frames) (hl : R'.locals ≤ R.locals) (hc : cells + R'.cells ≤ R.cells) (hs : slots + R'.slots ≤ R.slots) :
    Stand p l e R' ((T.setVm s.vm).setFrames (.invoking m args :: below)) m args below meth c T [] 0 0 := by
  have htop : (T.setVm s.vm).topJava?.isSome := X.here.top
  have hF : ((T.setVm s.vm).setFrames (.invoking m args :: below)).frames = .invoking m args :: below := State.frames_setFrames _ (State.cur_lt_of_top htop)
  obtain ⟨g₀, hg0⟩ := Option.isSome_iff_exists.mp htop
  obtain ⟨r, hr⟩ := State.topJava?_eq_some.mp hg0
  have hl9 : e.platform.stackLimits (T.setVm s.vm).me = e.platform.stackLimits s.me := X.limits
  have hb9 : (T.setVm s.vm).me.stackBytes = s.me.stackBytes := X.bytes
  refine ⟨X.admits, X.cas, X.clock, hF, ?_, X.hears, X.method, X.code, X.here, X.tail, X.warmed, ?_, ?_, ?_⟩
  · have h := X.room
    have hU : ((T.setVm s.vm).setFrames (.invoking m args :: below)).localsInUse = s.localsInUse := by
      rw [State.localsInUse_invoking hF (meth := meth) (c := c) X.method X.code, State.localsInUse_invoking X.frames X.method X.code]
    simp only [State.hasRoom, Bool.and_eq_true, decide_eq_true_eq] at h ⊢
    obtain ⟨⟨⟨⟨h1, h2, h3, h4, h5, h6⟩, h7⟩, h8⟩, h9⟩ := h
    rw [X.frames, List.length_cons] at h2 h3
    have q1 := X.heapSize
    have q2 := X.used
    simp only [hF, hU, List.length_cons, State.stackLimits_setFrames, State.stackBytes_setFrames, hl9, hb9]
    refine ⟨⟨⟨⟨by omega, by omega, by omega, by omega, by omega, h6⟩, ?_⟩, ?_⟩, X.book⟩
    · show T.heap.size + R'.cells ≤ e.platform.maxCells
      omega
    · show T.slotsUsed + R'.slots ≤ e.platform.maxSlots
      omega
  · rw [State.stackLimits_setFrames]; rfl
  · rw [State.stackBytes_setFrames]; rfl
  · refine ⟨?_, Nat.le_refl _, Nat.le_refl _, ?_, ?_, fun a c9 h9 => ⟨c9, h9, rfl, rfl, fun _ _ => rfl⟩⟩
    · obtain ⟨t, ht, -⟩ := State.frames_cons hr
      show T.setVm s.vm = { ((T.setVm s.vm).setFrames (.invoking m args :: below)).setFrames (T.setVm s.vm).frames with heap := T.heap, slotsUsed := T.slotsUsed }
      rw [State.setFrames_setFrames, State.setFrames_self ht]
      rfl
    · show T.slotsUsed = T.slotsUsed + ((T.heap.toList.drop T.heap.size).map (·.slots.size)).sum
      rw [List.drop_eq_nil_of_le (Nat.le_of_eq Array.length_toList)]
      rfl
    · show ((T.heap.toList.drop T.heap.size).map (·.slots.size)).sum ≤ 0
      rw [List.drop_eq_nil_of_le (Nat.le_of_eq Array.length_toList)]
      exact Nat.le_refl _
/-- 'throw new E()': new; dup; invokespecial; athrow -/
theorem vx_throw0 {cc : ByteArray} {pc : Nat} (hexec : p.tables.exec = Jvm.exec) (hb : c.code = cc) (hl : l.stackTraces = false) {own cls : String} {names : List String} {ik ic mc ms : Nat} {A : Nat → Prop}
    (hown : s.vm.findClass own = some m.cls) (hcls : Bundle.fit cls = true) (hnames : ∀ n ∈ names, Bundle.fit n = true)
    (hk : (Cond.classLink own ik cls).before args s = true) (hini : (Cond.initialized cls).before args s = true) (hat : ∀ w ∈ vx_at0 own ic cls names, w.before args s = true)
    (hgood : ∀ w ∈ Cond.classLink own ik cls :: Cond.initialized cls :: vx_at0 own ic cls names, vx_ot w = true)
    (hU : vx_Zq Bundle.tN "UNASSIGNED_STACK" Bundle.steD A s s.heap) (hN : vx_Zq Bundle.tN "SUPPRESSED_SENTINEL" Bundle.listD A s s.heap) (hS : va_S A s.heap H locs) (hsize : ls.size = c.maxLocals)
    (d0 : decode cc pc = .ok (.new ik, 3)) (d3 : decode cc (pc + 3) = .ok (.dup, 1)) (d4 : decode cc (pc + 4) = .ok (.invokespecial ic, 3)) (d7 : decode cc (pc + 7) = .ok (.athrow, 1))
    (hout : ∀ x ∈ c.exceptionTable.toList, covers x (pc + 7) = false)
    (hRframes : names.length + 3 < R.frames) (hRlocals : (rest.map fun v => v.category).sum + (13 * (names.length + 1) + 42) ≤ R.locals) (hRcells : cells + 1 ≤ R.cells) (hRslots : slots + 6 ≤ R.slots) (hlocks : meth.locks = false)
    (hx : ∀ t : State, s.vm.Alike t.vm → H.size ≤ t.heap.size → (∀ q : Nat, q < H.size → t.heap[q]? = H[q]?) → XC cls s t)
    (hf : ∀ z ∈ locs, free z.base) (hc : cells + 1 ≤ mc) (hs : slots + 6 ≤ ms) :
    W p l e R s m args below meth c H locs cells slots (vx_MQ below Qc XC args s mc ms free) (F0 m pc ls rest) := by
  intro T hT X
  have htr : e.platform.stackTraces = false := (show e.platform.stackTraces = l.stackTraces by rw [X.admits.platform]).trans hl
  have Y := vx_rebase X (R' := { frames := R.frames, locals := R.locals, cells := 1, slots := 6 }) (Nat.le_refl _) (Nat.le_refl _) hRcells hRslots
  obtain ⟨s', hA⟩ : ∃ z, z = (T.setVm s.vm).setFrames (.invoking m args :: below) := ⟨_, rfl⟩
  rw [← hA] at Y
  have hvm : s'.vm = s.vm := by rw [hA]; rfl
  have hhp : s'.heap = H := by rw [hA]; exact hT
  have hW0 : s.WarmedH s'.vm := by rw [hvm]; exact State.WarmedH.refl s
  have hat' : ∀ w ∈ vx_at0 own ic cls names, w.before args s' = true := fun w hw => vx_ot_at hW0 hvm.symm (hgood w (List.mem_cons_of_mem _ (List.mem_cons_of_mem _ hw))) (hat w hw)
  have hk' : (Cond.classLink own ik cls).before args s' = true := vx_ot_at hW0 hvm.symm (hgood _ List.mem_cons_self) hk
  have hini' : (Cond.initialized cls).before args s' = true := vx_ot_at hW0 hvm.symm (hgood _ (List.mem_cons_of_mem _ List.mem_cons_self)) hini
  have hU' : vx_Zq Bundle.tN "UNASSIGNED_STACK" Bundle.steD A s' s'.heap := by rw [hhp]; exact vx_Zq.moved hW0.alike (hU.kept hS.2.1)
  have hN' : vx_Zq Bundle.tN "SUPPRESSED_SENTINEL" Bundle.listD A s' s'.heap := by rw [hhp]; exact vx_Zq.moved hW0.alike (hN.kept hS.2.1)
  have h : ∀ w ∈ Bundle.ownAtoms0 own ic cls names, w.before args s' = true := vx_own hat' (vx_isRefq hU'.1) (vx_isRefq hN'.1) hU'.2.word hN'.2.word
  have hown' : s'.vm.findClass own = some m.cls := by rw [hvm]; exact hown
  have hins : (Cond.instantiable cls 6).before args s' = true := h _ (by simp [Bundle.ownAtoms0])
  obtain ⟨vm₁, cX, kX, hfX, hkX, -, -, X₁, st1⟩ := Y.newCold hexec (own := own) (C := cls) (index := ik) (n := 6) hown' hk' hins hini'
    (g := F0 m pc ls rest) rfl (by rw [hb]; exact d0) (Nat.le_refl _) (Nat.le_refl _)
  generalize hT1 : (T.setVm vm₁).pushCell { cls := cX, slots := kX.instanceTypes.map defaultValue, vm := .none } = T1 at X₁ st1
  have hcat : (Value.ref T.heap.size).category = 1 := rfl
  have hcellA : T1.heap[T.heap.size]? = some (freshCell cX kX) := by rw [← hT1]; exact State.heap_pushCell_size _ _
  have d3' : decode c.code (pc + 3) = .ok (.dup, 1) := by rw [hb]; exact d3
  obtain ⟨U, hsteps, hrun, hend, hW, hsame, ce, hce, hO⟩ := X₁.ctorThrow0 hexec htr (own := own) (cls := cls) (names := names) (ic := ic) hown' hcls hnames h (fun x hx => nomatch hx) hfX hkX hcellA (by rw [hhp, hT]; exact Nat.le_refl _)
    (g := { method := m, pc := pc + 4, locals := ls, stack := .ref T.heap.size :: .ref T.heap.size :: rest, locked := none }) rfl hsize rfl rfl (rest := rest) rfl
    (by rw [hb]; exact d4) (by rw [hb]; exact d7) hout hRframes (by simp only [List.map_cons, List.sum_cons, hcat]; omega) hlocks
  obtain ⟨f1, f2⟩ := vx_frame hsame
  rw [hhp] at f1 f2
  have hWs : s.WarmedH U.vm := State.WarmedH.trans hW0 hW
  have hcl : s.vm.findClass cls = some ce.cls := by
    have h9 := hO.cls
    rw [hvm] at h9
    exact h9
  have hall : s.sameButNew ({ U with vm := s.vm } : State) locs mc ms := by
    subst hA
    obtain ⟨e1, e2⟩ := hsame
    rw [State.setFrames_setFrames] at e1
    have h2 : (T.setVm s.vm).sameButNew ({ U with vm := s.vm } : State) [] (0 + 1) (0 + 6) := ⟨e1, e2⟩
    have h3 := X.same.trans h2
    rw [List.append_nil] at h3
    exact h3.mono hc hs
  refine ⟨U, ?_, .threw T.heap.size, hrun, hend, Or.inr ⟨T.heap.size, rfl, cls, ce, locs, hx U hWs.alike f1 (fun q hq => f2 q hq (fun z hz => nomatch hz)), hce, hO.vm, hcl, hWs, hall, hf⟩⟩
  refine st1 _ ?_
  show Steps p.tables e below (T1.setTop { method := m, pc := pc + 3, locals := ls, stack := .ref T.heap.size :: rest, locked := none }) _
  jvm_step X₁.here [X₁.here.top, hexec, d3', Value.category]
  exact hsteps
/-- 'throw new E("text")': new; dup; ldc; invokespecial; athrow -/
theorem vx_throwS {cc : ByteArray} {pc : Nat} (hexec : p.tables.exec = Jvm.exec) (hb : c.code = cc) (hl : l.stackTraces = false) {own cls text : String} {names : List String} {ik is ic mc ms sa : Nat} {A : Nat → Prop}
    (hown : s.vm.findClass own = some m.cls) (hcls : Bundle.fit cls = true) (hnames : ∀ n ∈ names, Bundle.fit n = true)
    (hk : (Cond.classLink own ik cls).before args s = true) (hini : (Cond.initialized cls).before args s = true) (hstr : vk_R own is text sa s) (hat : ∀ w ∈ vx_atS own ic cls names, w.before args s = true)
    (hgood : ∀ w ∈ Cond.classLink own ik cls :: Cond.initialized cls :: vx_atS own ic cls names, vx_ot w = true)
    (hU : vx_Zq Bundle.tN "UNASSIGNED_STACK" Bundle.steD A s s.heap) (hN : vx_Zq Bundle.tN "SUPPRESSED_SENTINEL" Bundle.listD A s s.heap) (hS : va_S A s.heap H locs) (hsize : ls.size = c.maxLocals)
    (d0 : decode cc pc = .ok (.new ik, 3)) (d3 : decode cc (pc + 3) = .ok (.dup, 1)) (d4 : decode cc (pc + 4) = .ok (.ldc is, 2)) (d6 : decode cc (pc + 6) = .ok (.invokespecial ic, 3)) (d9 : decode cc (pc + 9) = .ok (.athrow, 1))
    (hout : ∀ x ∈ c.exceptionTable.toList, covers x (pc + 9) = false)
    (hRframes : names.length + 3 < R.frames) (hRlocals : (rest.map fun v => v.category).sum + (13 * (names.length + 1) + 43) ≤ R.locals) (hRcells : cells + 1 ≤ R.cells) (hRslots : slots + 6 ≤ R.slots) (hlocks : meth.locks = false)
    (hx : ∀ t : State, s.vm.Alike t.vm → H.size ≤ t.heap.size → (∀ q : Nat, q < H.size → t.heap[q]? = H[q]?) → XC cls s t)
    (hf : ∀ z ∈ locs, free z.base) (hc : cells + 1 ≤ mc) (hs : slots + 6 ≤ ms) :
    W p l e R s m args below meth c H locs cells slots (vx_MQ below Qc XC args s mc ms free) (F0 m pc ls rest) := by
  intro T hT X
  have htr : e.platform.stackTraces = false := (show e.platform.stackTraces = l.stackTraces by rw [X.admits.platform]).trans hl
  have Y := vx_rebase X (R' := { frames := R.frames, locals := R.locals, cells := 1, slots := 6 }) (Nat.le_refl _) (Nat.le_refl _) hRcells hRslots
  obtain ⟨s', hA⟩ : ∃ z, z = (T.setVm s.vm).setFrames (.invoking m args :: below) := ⟨_, rfl⟩
  rw [← hA] at Y
  have hvm : s'.vm = s.vm := by rw [hA]; rfl
  have hhp : s'.heap = H := by rw [hA]; exact hT
  have hW0 : s.WarmedH s'.vm := by rw [hvm]; exact State.WarmedH.refl s
  have hat' : ∀ w ∈ vx_atS own ic cls names, w.before args s' = true := fun w hw => vx_ot_at hW0 hvm.symm (hgood w (List.mem_cons_of_mem _ (List.mem_cons_of_mem _ hw))) (hat w hw)
  have hk' : (Cond.classLink own ik cls).before args s' = true := vx_ot_at hW0 hvm.symm (hgood _ List.mem_cons_self) hk
  have hini' : (Cond.initialized cls).before args s' = true := vx_ot_at hW0 hvm.symm (hgood _ (List.mem_cons_of_mem _ List.mem_cons_self)) hini
  have hU' : vx_Zq Bundle.tN "UNASSIGNED_STACK" Bundle.steD A s' s'.heap := by rw [hhp]; exact vx_Zq.moved hW0.alike (hU.kept hS.2.1)
  have hN' : vx_Zq Bundle.tN "SUPPRESSED_SENTINEL" Bundle.listD A s' s'.heap := by rw [hhp]; exact vx_Zq.moved hW0.alike (hN.kept hS.2.1)
  have h : ∀ w ∈ Bundle.ownAtoms own ic cls names, w.before args s' = true := vx_own hat' (vx_isRefq hU'.1) (vx_isRefq hN'.1) hU'.2.word hN'.2.word
  have hown' : s'.vm.findClass own = some m.cls := by rw [hvm]; exact hown
  have hins : (Cond.instantiable cls 6).before args s' = true := h _ (by simp [Bundle.ownAtoms])
  obtain ⟨vm₁, cX, kX, hfX, hkX, -, -, X₁, st1⟩ := Y.newCold hexec (own := own) (C := cls) (index := ik) (n := 6) hown' hk' hins hini'
    (g := F0 m pc ls rest) rfl (by rw [hb]; exact d0) (Nat.le_refl _) (Nat.le_refl _)
  generalize hT1 : (T.setVm vm₁).pushCell { cls := cX, slots := kX.instanceTypes.map defaultValue, vm := .none } = T1 at X₁ st1
  have hcat : (Value.ref T.heap.size).category = 1 := rfl
  have hcellA : T1.heap[T.heap.size]? = some (freshCell cX kX) := by rw [← hT1]; exact State.heap_pushCell_size _ _
  have d3' : decode c.code (pc + 3) = .ok (.dup, 1) := by rw [hb]; exact d3
  have d4' : decode c.code (pc + 4) = .ok (.ldc is, 2) := by rw [hb]; exact d4
  have hstr' : vk_R own is text sa s' := vk_R.warm hW0 hstr
  obtain ⟨U, hsteps, hrun, hend, hW, hsame, ce, hce, hO⟩ := X₁.ctorThrowS hexec htr (own := own) (cls := cls) (names := names) (ic := ic) hown' hcls hnames h (fun x hx => nomatch hx) hfX hkX hcellA (by rw [hhp, hT]; exact Nat.le_refl _) (msg := .ref sa) rfl
    (g := { method := m, pc := pc + 6, locals := ls, stack := .ref sa :: .ref T.heap.size :: .ref T.heap.size :: rest, locked := none }) rfl hsize rfl rfl (rest := rest) rfl
    (by rw [hb]; exact d6) (by rw [hb]; exact d9) hout hRframes (by simp only [List.map_cons, List.sum_cons, hcat]; omega) hlocks
  obtain ⟨f1, f2⟩ := vx_frame hsame
  rw [hhp] at f1 f2
  have hWs : s.WarmedH U.vm := State.WarmedH.trans hW0 hW
  have hcl : s.vm.findClass cls = some ce.cls := by
    have h9 := hO.cls
    rw [hvm] at h9
    exact h9
  have hall : s.sameButNew ({ U with vm := s.vm } : State) locs mc ms := by
    subst hA
    obtain ⟨e1, e2⟩ := hsame
    rw [State.setFrames_setFrames] at e1
    have h2 : (T.setVm s.vm).sameButNew ({ U with vm := s.vm } : State) [] (0 + 1) (0 + 6) := ⟨e1, e2⟩
    have h3 := X.same.trans h2
    rw [List.append_nil] at h3
    exact h3.mono hc hs
  refine ⟨U, ?_, .threw T.heap.size, hrun, hend, Or.inr ⟨T.heap.size, rfl, cls, ce, locs, hx U hWs.alike f1 (fun q hq => f2 q hq (fun z hz => nomatch hz)), hce, hO.vm, hcl, hWs, hall, hf⟩⟩
  refine st1 _ ?_
  show Steps p.tables e below (T1.setTop { method := m, pc := pc + 3, locals := ls, stack := .ref T.heap.size :: rest, locked := none }) _
  jvm_step X₁.here [X₁.here.top, hexec, d3', Value.category]
  exact X₁.ldcString hexec (own := own) (text := text) (index := is) (a := sa) hown' hstr'.1 hstr'.2
    (g := { method := m, pc := pc + 4, locals := ls, stack := .ref T.heap.size :: .ref T.heap.size :: rest, locked := none }) rfl d4' _ hsteps
/-- 'throw new E("text")', the text by a wide index -/
theorem vx_throwSW {cc : ByteArray} {pc : Nat} (hexec : p.tables.exec = Jvm.exec) (hb : c.code = cc) (hl : l.stackTraces = false) {own cls text : String} {names : List String} {ik is ic mc ms sa : Nat} {A : Nat → Prop}
    (hown : s.vm.findClass own = some m.cls) (hcls : Bundle.fit cls = true) (hnames : ∀ n ∈ names, Bundle.fit n = true)
    (hk : (Cond.classLink own ik cls).before args s = true) (hini : (Cond.initialized cls).before args s = true) (hstr : vk_R own is text sa s) (hat : ∀ w ∈ vx_atS own ic cls names, w.before args s = true)
    (hgood : ∀ w ∈ Cond.classLink own ik cls :: Cond.initialized cls :: vx_atS own ic cls names, vx_ot w = true)
    (hU : vx_Zq Bundle.tN "UNASSIGNED_STACK" Bundle.steD A s s.heap) (hN : vx_Zq Bundle.tN "SUPPRESSED_SENTINEL" Bundle.listD A s s.heap) (hS : va_S A s.heap H locs) (hsize : ls.size = c.maxLocals)
    (d0 : decode cc pc = .ok (.new ik, 3)) (d3 : decode cc (pc + 3) = .ok (.dup, 1)) (d4 : decode cc (pc + 4) = .ok (.ldc_w is, 3)) (d7 : decode cc (pc + 7) = .ok (.invokespecial ic, 3)) (d10 : decode cc (pc + 10) = .ok (.athrow, 1))
    (hout : ∀ x ∈ c.exceptionTable.toList, covers x (pc + 10) = false)
    (hRframes : names.length + 3 < R.frames) (hRlocals : (rest.map fun v => v.category).sum + (13 * (names.length + 1) + 43) ≤ R.locals) (hRcells : cells + 1 ≤ R.cells) (hRslots : slots + 6 ≤ R.slots) (hlocks : meth.locks = false)
    (hx : ∀ t : State, s.vm.Alike t.vm → H.size ≤ t.heap.size → (∀ q : Nat, q < H.size → t.heap[q]? = H[q]?) → XC cls s t)
    (hf : ∀ z ∈ locs, free z.base) (hc : cells + 1 ≤ mc) (hs : slots + 6 ≤ ms) :
    W p l e R s m args below meth c H locs cells slots (vx_MQ below Qc XC args s mc ms free) (F0 m pc ls rest) := by
  intro T hT X
  have htr : e.platform.stackTraces = false := (show e.platform.stackTraces = l.stackTraces by rw [X.admits.platform]).trans hl
  have Y := vx_rebase X (R' := { frames := R.frames, locals := R.locals, cells := 1, slots := 6 }) (Nat.le_refl _) (Nat.le_refl _) hRcells hRslots
  obtain ⟨s', hA⟩ : ∃ z, z = (T.setVm s.vm).setFrames (.invoking m args :: below) := ⟨_, rfl⟩
  rw [← hA] at Y
  have hvm : s'.vm = s.vm := by rw [hA]; rfl
  have hhp : s'.heap = H := by rw [hA]; exact hT
  have hW0 : s.WarmedH s'.vm := by rw [hvm]; exact State.WarmedH.refl s
  have hat' : ∀ w ∈ vx_atS own ic cls names, w.before args s' = true := fun w hw => vx_ot_at hW0 hvm.symm (hgood w (List.mem_cons_of_mem _ (List.mem_cons_of_mem _ hw))) (hat w hw)
  have hk' : (Cond.classLink own ik cls).before args s' = true := vx_ot_at hW0 hvm.symm (hgood _ List.mem_cons_self) hk
  have hini' : (Cond.initialized cls).before args s' = true := vx_ot_at hW0 hvm.symm (hgood _ (List.mem_cons_of_mem _ List.mem_cons_self)) hini
  have hU' : vx_Zq Bundle.tN "UNASSIGNED_STACK" Bundle.steD A s' s'.heap := by rw [hhp]; exact vx_Zq.moved hW0.alike (hU.kept hS.2.1)
  have hN' : vx_Zq Bundle.tN "SUPPRESSED_SENTINEL" Bundle.listD A s' s'.heap := by rw [hhp]; exact vx_Zq.moved hW0.alike (hN.kept hS.2.1)
  have h : ∀ w ∈ Bundle.ownAtoms own ic cls names, w.before args s' = true := vx_own hat' (vx_isRefq hU'.1) (vx_isRefq hN'.1) hU'.2.word hN'.2.word
  have hown' : s'.vm.findClass own = some m.cls := by rw [hvm]; exact hown
  have hins : (Cond.instantiable cls 6).before args s' = true := h _ (by simp [Bundle.ownAtoms])
  obtain ⟨vm₁, cX, kX, hfX, hkX, -, -, X₁, st1⟩ := Y.newCold hexec (own := own) (C := cls) (index := ik) (n := 6) hown' hk' hins hini'
    (g := F0 m pc ls rest) rfl (by rw [hb]; exact d0) (Nat.le_refl _) (Nat.le_refl _)
  generalize hT1 : (T.setVm vm₁).pushCell { cls := cX, slots := kX.instanceTypes.map defaultValue, vm := .none } = T1 at X₁ st1
  have hcat : (Value.ref T.heap.size).category = 1 := rfl
  have hcellA : T1.heap[T.heap.size]? = some (freshCell cX kX) := by rw [← hT1]; exact State.heap_pushCell_size _ _
  have d3' : decode c.code (pc + 3) = .ok (.dup, 1) := by rw [hb]; exact d3
  have d4' : decode c.code (pc + 4) = .ok (.ldc_w is, 3) := by rw [hb]; exact d4
  have hstr' : vk_R own is text sa s' := vk_R.warm hW0 hstr
  obtain ⟨U, hsteps, hrun, hend, hW, hsame, ce, hce, hO⟩ := X₁.ctorThrowS hexec htr (own := own) (cls := cls) (names := names) (ic := ic) hown' hcls hnames h (fun x hx => nomatch hx) hfX hkX hcellA (by rw [hhp, hT]; exact Nat.le_refl _) (msg := .ref sa) rfl
    (g := { method := m, pc := pc + 7, locals := ls, stack := .ref sa :: .ref T.heap.size :: .ref T.heap.size :: rest, locked := none }) rfl hsize rfl rfl (rest := rest) rfl
    (by rw [hb]; exact d7) (by rw [hb]; exact d10) hout hRframes (by simp only [List.map_cons, List.sum_cons, hcat]; omega) hlocks
  obtain ⟨f1, f2⟩ := vx_frame hsame
  rw [hhp] at f1 f2
  have hWs : s.WarmedH U.vm := State.WarmedH.trans hW0 hW
  have hcl : s.vm.findClass cls = some ce.cls := by
    have h9 := hO.cls
    rw [hvm] at h9
    exact h9
  have hall : s.sameButNew ({ U with vm := s.vm } : State) locs mc ms := by
    subst hA
    obtain ⟨e1, e2⟩ := hsame
    rw [State.setFrames_setFrames] at e1
    have h2 : (T.setVm s.vm).sameButNew ({ U with vm := s.vm } : State) [] (0 + 1) (0 + 6) := ⟨e1, e2⟩
    have h3 := X.same.trans h2
    rw [List.append_nil] at h3
    exact h3.mono hc hs
  refine ⟨U, ?_, .threw T.heap.size, hrun, hend, Or.inr ⟨T.heap.size, rfl, cls, ce, locs, hx U hWs.alike f1 (fun q hq => f2 q hq (fun z hz => nomatch hz)), hce, hO.vm, hcl, hWs, hall, hf⟩⟩
  refine st1 _ ?_
  show Steps p.tables e below (T1.setTop { method := m, pc := pc + 3, locals := ls, stack := .ref T.heap.size :: rest, locked := none }) _
  jvm_step X₁.here [X₁.here.top, hexec, d3', Value.category]
  exact X₁.ldcStringW hexec (own := own) (text := text) (index := is) (a := sa) hown' hstr'.1 hstr'.2
    (g := { method := m, pc := pc + 4, locals := ls, stack := .ref T.heap.size :: .ref T.heap.size :: rest, locked := none }) rfl d4' _ hsteps
end Ends
section Bodies
variable {l : Launch}
theorem vx_ofW {y : MethodName} {ws ws' : List Cond} {rm : Room} {Pc : Array Value → State → Prop} {Qc : Array Value → State → Outcome → State → Prop} {XC : String → State → State → Prop} {mc ms : Nat} {free : Addr → Prop} {cc : ByteArray} {maxL : Nat} {ret : Option FieldType}
    (hy : plainName y.cls = true) (hw : ws = Cond.code y cc maxL ret :: ws')
    (body : ∀ p e s m args below meth c s₁, BodyLoose p l y (headSpec ws rm) cc maxL ret e s m args below meth c s₁ → c.maxLocals = maxL → (∀ x ∈ c.exceptionTable.toList, False) → Pc args s →
      W p l e (headSpec ws rm).room s m args below meth c s.heap [] 0 0 (vx_MQ below Qc XC args s mc ms free) (entryFrame m args maxL)) : vx_Met l y ws rm Pc Qc XC mc ms free := by
  refine MetFree.of_bodyS (code := cc) (maxLocals := maxL) (ret := ret) hy ?_ ?_
  · intro args s m h hn
    obtain ⟨meth, c, h1, h2, h3, h4, h5, h6, -, -⟩ := Cond.code_spec hn (atoms_spec (ws := ws) h _ (by rw [hw]; exact List.mem_cons_self))
    exact ⟨meth, c, h1, h2, h3, h4, h5, h6⟩
  · intro p e s m args below meth c s₁ B hml hP _
    have hh0 : s₁.heap = s.heap := by rw [B.state]; rfl
    have ht : ∀ x ∈ c.exceptionTable.toList, False := by
      obtain ⟨meth9, c9, h1, h2, -, -, -, -, h7, -⟩ := Cond.code_spec B.named (atoms_spec (ws := ws) B.pre _ (by rw [hw]; exact List.mem_cons_self))
      cases Option.some.inj (h1.symm.trans B.method)
      cases Option.some.inj (h2.symm.trans (Stand.of_body B).code)
      intro x hx
      rw [Array.isEmpty_iff.mp h7] at hx
      cases hx
    obtain ⟨t, a1, o, b1, b2, b3⟩ := body p e s m args below meth c s₁ B hml ht hP s₁ hh0 (Stand.of_body B)
    exact ⟨t, o, a1, b1, b2, b3⟩
/-- the table of a body with handlers -/
theorem vx_table {p : Program} {x y : MethodName} {S : Spec} {cc bytes : ByteArray} {maxL maxL' : Nat} {ret ret' : Option FieldType} {e : Env} {s s₁ : State} {m : MethodId} {args : Array Value} {below : List Frame} {meth : Method} {c : Code} {hh : List (Nat × Nat × Nat × Nat)}
    (B : BodyLoose p l y S cc maxL ret e s m args below meth c s₁) (h : (Cond.codeWith y bytes maxL' ret' hh).before args s = true) : c.exceptionTable.toList = tableOf hh := by
  obtain ⟨m9, meth9, c9, hn9, h1, h2, -, -, h6, -⟩ := Cond.codeWith_spec h
  cases Option.some.inj (hn9.symm.trans B.named)
  cases Option.some.inj (h1.symm.trans B.method)
  cases Option.some.inj (h2.symm.trans (Stand.of_body B).code)
  rw [← h6, table_eq]
end Bodies
end VXA
/-! ===== END ===== -/
/-! ===== BEGIN a static call of a method with an exception table ===== -/
section VXS
variable {p : Program} {l : Launch} {e : Env} {R : Room} {s : State} {m : MethodId} {args : Array Value} {below : List Frame} {meth : Method} {c : Code} {T : State} {H : Heap} {locs : List Loc} {cells slots : Nat}
abbrev vx_CSW (R : Room) (s : State) (args : Array Value) (own : String) (index : Nat) (y : MethodName) (bytes : ByteArray) (maxL : Nat) (ret : Option FieldType) (hh : List (Nat × Nat × Nat × Nat)) (ws : List Cond) (rm : Room) (mc ms n : Nat) : Prop :=
  (rm.cells = mc ∧ rm.slots = ms ∧ rm.frames + 1 ≤ R.frames ∧ 8 + (maxL + 11) + rm.locals ≤ R.locals ∧ (∀ w ∈ ws, ∀ (a' : Array Value) (U : State), s.WarmedH U.vm → w.before a' U = true) ∧ Cond.codeWith y bytes maxL ret hh ∈ ws) ∧
  (Cond.codeWith y bytes maxL ret hh).before args s = true ∧ (Cond.initialized y.cls).before args s = true ∧ (y.cls ≠ "java/lang/invoke/MethodHandle" ∧ y.cls ≠ "java/lang/invoke/VarHandle") ∧
  (∀ sig, parseMethodDescriptor y.desc = some sig → n = sig.parameters.length) ∧ (Cond.methodLink own index y).before args s = true ∧ (Cond.static y).before args s = true
theorem vx_cwSW {own : String} {index maxL mc ms : Nat} {y : MethodName} {bytes : ByteArray} {ret : Option FieldType} {hh : List (Nat × Nat × Nat × Nat)} {Ts ws ws' : List Cond} {rm : Room} (n : Nat) (ht : ∀ w ∈ Ts, w.before args s = true) (hT : GoodIn Ts (va_wsS own index y ws)) (hw : ws = Cond.codeWith y bytes maxL ret hh :: ws') (hrc : rm.cells = mc) (hrs : rm.slots = ms)
    (hd : y.cls ≠ "java/lang/invoke/MethodHandle" ∧ y.cls ≠ "java/lang/invoke/VarHandle" ∧ (parseMethodDescriptor y.desc).map (fun d => d.parameters.length) = some n) (hR : rm.frames + 1 ≤ R.frames ∧ 8 + (maxL + 11) + rm.locals ≤ R.locals) :
    vx_CSW R s args own index y bytes maxL ret hh ws rm mc ms n := by
  have ok : ∀ w ∈ va_wsS own index y ws, w.before args s = true := fun w h => ht w (hT w h).1
  have hG : GoodIn Ts ws := fun w h => hT w (by unfold va_wsS; exact List.mem_append_right _ h)
  have hc : Cond.codeWith y bytes maxL ret hh ∈ ws := by rw [hw]; exact List.mem_cons_self
  refine ⟨⟨hrc, hrs, hR.1, hR.2, pay_in ht hG, hc⟩, ht _ (hG _ hc).1, ok _ (by simp [va_wsS]), ⟨hd.1, hd.2.1⟩, fun sig h => ?_, ok _ (by simp [va_wsS]), ok _ (by simp [va_wsS])⟩
  have h2 := hd.2.2
  rw [h] at h2
  exact (Option.some.inj h2).symm
theorem vx_callSW (X : Stand p l e R s m args below meth c T locs cells slots) (hexec : p.tables.exec = Jvm.exec) {own : String} {index : Nat} {y : MethodName} {bytes : ByteArray} {maxL : Nat} {ret : Option FieldType} {hh : List (Nat × Nat × Nat × Nat)}
    (hown : s.vm.findClass own = some m.cls) (hlink : (Cond.methodLink own index y).before args s = true) (hstat : (Cond.static y).before args s = true) (hinit : (Cond.initialized y.cls).before args s = true)
    (hcode : (Cond.codeWith y bytes maxL ret hh).before args s = true) (hy : y.cls ≠ "java/lang/invoke/MethodHandle" ∧ y.cls ≠ "java/lang/invoke/VarHandle")
    {W9 : Nat} {Pre : Pt → Array Value → Prop} {Post : Pt → Array Value → Option Value → Pt → Prop} (hK : Back l R p e below s args y 3 W9 Pre Post)
    {g : JFrame} (hg : g.method = m) (hsize : g.locals.size = c.maxLocals) {argsL rest : List Value} (hlen : ∀ sig, parseMethodDescriptor y.desc = some sig → argsL.length = sig.parameters.length)
    (hstack : g.stack = argsL.reverse ++ rest) (hW : 2 * g.monitorRoom + (rest.map fun v => v.category).sum ≤ W9) (hdg : decode c.code g.pc = .ok (.invokestatic index, 3))
    (hpre : ∀ vm₁, s.WarmedH vm₁ → Pre ⟨T.setVm vm₁, locs, cells, slots⟩ argsL.toArray) :
    ∃ (v : Option Value) (vm₁ : Vm) (B : Pt), s.WarmedH vm₁ ∧ Stand p l e R s m args below meth c B.U B.locs B.cells B.slots ∧ Post ⟨T.setVm vm₁, locs, cells, slots⟩ argsL.toArray v B ∧
      ∀ target, Steps p.tables e below (B.U.setTop { g with pc := g.pc + 3, stack := v.toList ++ rest }) target → Steps p.tables e below (T.setTop g) target := by
  obtain ⟨mk, methM, cM, hnamed, hmethM, -, -, -, -, -, -, hsigM⟩ := Cond.codeWith_spec hcode
  have hstatic : methM.isStatic = true := Cond.static_spec hnamed hmethM hstat
  obtain ⟨kP, hkP, -⟩ := className_of_methodNamed hnamed
  have hinitP : kP.init = .initialized := Cond.initialized_spec (findClass_of_methodNamed hnamed) hkP hinit
  obtain ⟨vm₁, X₁, hstep₁⟩ := X.invokestatic hexec hown hlink hnamed hmethM hstatic hkP hinitP hy (g := g) hg (argsL := argsL) (rest := rest) (hlen _ hsigM) hstack hdg
  obtain ⟨v, B, X', hpost, hsteps⟩ := hK m meth c ⟨T.setVm vm₁, locs, cells, slots⟩ { g with stack := rest } (.invokestatic index) mk argsL.toArray X₁ hg hsize hdg hW (X₁.named hnamed) (hpre vm₁ X₁.warmed)
  exact ⟨v, vm₁, B, X₁.warmed, X', hpost, fun target h => hstep₁ _ fun acts => by rw [doInvoke_state]; exact hsteps.trans h⟩
theorem vx_runSW {y : MethodName} {bytes cc : ByteArray} {maxL nL mc ms n index : Nat} {ret : Option FieldType} {hh : List (Nat × Nat × Nat × Nat)} {ws : List Cond} {rm : Room} {Pc : Array Value → State → Prop} {Qc : Array Value → State → Outcome → State → Prop} {free : Addr → Prop} {Ts : List Cond} {own : String} {As rest : List Value} {g : JFrame}
    (S : CallFix p m c cc nL s args Ts own) (hM : Met l y ws rm Pc Qc mc ms free) (cw : vx_CSW R s args own index y bytes maxL ret hh ws rm mc ms n) (hp : PreS s H Pc As)
    (hg : g.method = m) (hn : As.length = n) (hsize : g.locals.size = nL) (hstack : g.stack = As.reverse ++ rest) (hW : 2 * g.monitorRoom + (rest.map fun v => v.category).sum ≤ 8) (hdg : decode cc g.pc = .ok (.invokestatic index, 3)) (hf : cells + mc ≤ R.cells ∧ slots + ms ≤ R.slots) :
    va_Run p l e R s m args below meth c H locs cells slots mc ms g rest (Qc As.toArray) (free) := by
  obtain ⟨⟨hrc, hrs, hfr, hlo, hws, hcw⟩, hcode, hini, hy, hlen, hl, hstt⟩ := cw
  have hK : Back l R p e below s args y 3 8 (PreOf R mc ms Pc) (PostOf Qc mc ms free) := va_backW (hh := hh) (bytes := bytes) (maxL := maxL) (ret := ret) hM hp.1 hrc hrs hfr hlo hws hcw (fun a' U hW => word_at hW (Or.inl (by first | rfl | simp [Cond.onTables, Cond.keeps, Cond.steady])) hini)
  obtain ⟨hx, hb, hml, ho, -⟩ := S
  intro T hT X
  obtain ⟨v, vm₁, ⟨U', l2, c2, s2⟩, hW₁, X', ⟨g', mk, t, L, e1, e2, hq, h1, hL, h2, h3⟩, st⟩ := vx_callSW X hx (hh := hh) (bytes := bytes) (maxL := maxL) (ret := ret) ho hl hstt hini hcode hy hK hg (hsize.trans hml.symm) (argsL := As) (rest := rest) (fun sig h => hn.trans (hlen sig h)) hstack hW (by rw [hb]; exact hdg)
    (fun vm₁ hW₁ => ⟨hf.1, hf.2, hp.2 (T.setVm vm₁) hT hW₁⟩)
  dsimp only [Pt.U, Pt.locs, Pt.cells, Pt.slots] at X' e1 e2 h1 h2 h3 st
  subst h1; subst h2; subst h3
  exact ⟨v, (T.setVm vm₁).calling g' mk As.toArray, t, U', L, hT, X', hL, e1, e2, hq, st⟩
/-- not caught here, past rows that name other classes: it goes on to the caller -/
theorem vx_outP {p : Program} {l : Launch} {e : Env} {R : Room} {s : State} {m : MethodId} {args : Array Value} {below : List Frame} {meth : Method} {c : Code} {H : Heap} {locs : List Loc} {cells slots : Nat} {free : Addr → Prop} {ls : Array Slot} {rest : List Value} {Qc : Array Value → State → Outcome → State → Prop} {XC : String → State → State → Prop}
    {pc : Nat} {own E : String} {ce : Cell} {q : Addr} {mc ms : Nat} (hown : s.vm.findClass own = some m.cls) (hlocks : meth.locks = false)
    (hpass : ∀ z ∈ c.exceptionTable.toList, covers z pc = false ∨ (z.catchType ≠ 0 ∧ ∃ nm : String, (Cond.classLink own z.catchType nm).before args s = true ∧ va_Nc E nm s)) (hcell : H[q]? = some ce) (hv : ce.vm = .none) (hcl : s.vm.findClass E = some ce.cls)
    (hx : ∀ t : State, t.heap = H → s.vm.Alike t.vm → XC E s t) (hf : ∀ z ∈ locs, free z.base) (hc : cells ≤ mc) (hs : slots ≤ ms) :
    vx_W p l e R s m args below meth c H locs cells slots (vx_MQ below Qc XC args s mc ms free) (F0 m pc ls rest) q := by
  intro T hT X
  have hpl : e.platform.magicAccessors = ({} : Platform).magicAccessors := by rw [X.admits.platform]
  obtain ⟨vm', hW', X', st⟩ := Jvm.Stand.outThrough X hlocks q (g := F0 m pc ls rest) rfl rfl rfl (cell := ce) (by rw [hT]; exact hcell) (by rw [hv]; rfl)
    (by obtain ⟨k9, h9, -⟩ := Vm.findClass_spec hcl; exact ⟨k9, h9⟩) (fun z hz => by
      rcases hpass z hz with h | ⟨hz0, nm, hl1, hn1⟩
      · exact Or.inl h
      · obtain ⟨c6, hc6, hcl6⟩ := Cond.classLink_spec hown hl1 e.platform hpl
        obtain ⟨a8, b8, h1, h2, h3⟩ := hn1
        cases Option.some.inj (h1.symm.trans hcl)
        cases Option.some.inj (h2.symm.trans hc6)
        exact Or.inr ⟨hz0, _, hcl6, h3⟩)
  obtain ⟨g₀, hfr⟩ := X'.frames_eq
  have hcell9 : ((T.setVm vm').setFrames (.throwing q :: below)).heap[q]? = some ce := by
    show T.heap[q]? = some ce
    rw [hT]; exact hcell
  have hend : Ended ((T.setVm vm').setFrames (.throwing q :: below)) below (.threw q) := State.frames_setFrames _ (State.cur_lt_of_frames hfr)
  refine ⟨(T.setVm vm').setFrames (.throwing q :: below), ?_, .threw q, X'.here.running, hend, Or.inr ⟨q, rfl, E, ce, locs, hx _ hT (X'.ends _).1.alike, hcell9, hv, hcl, (X'.ends _).1, (X'.ends _).2.mono hc hs, hf⟩⟩
  rw [X.pushThrowing_eq]
  exact st
/-- a thing of a world lies in the heap -/
theorem vx_lt {D : va_G} {cl : List vw_C} {ws : va_W} {H1 : Heap} (h : va_P D cl ws H1) {k : Nat} {q : Nat × va_E} (hk : ws[k]? = some q) : q.1 < H1.size := (h k q hk).lt
end VXS
/-! ===== END ===== -/
/-! ===== BEGIN methods with a table of their own: called by a name, returning or throwing ===== -/
section VXH
/-! vx_backW, vx_callVX, vx_callSX, vx_callVW, vx_runVW, vx_runVX, vx_runSX, vx_ofWH follow the same proofs as their sisters above (Free/Laws.lean, Shelf42/LK1.lean); vx_outP calls Shelf42/NT130.lean (outThrough). -/
section
variable {l : Launch} {R : Room} {p : Program} {e : Env} {below : List Frame} {s : State} {sargs : Array Value} {y : MethodName} {len W9 : Nat}
theorem vx_backW {ws : List Cond} {rm : Room} {Pc : Array Value → State → Prop} {Qc : Array Value → State → Outcome → State → Prop} {XC : String → State → State → Prop} {mc ms : Nat} {free : Addr → Prop} {bytes : ByteArray} {maxL : Nat} {ret : Option FieldType} {hh : List (Nat × Nat × Nat × Nat)}
    (hM : vx_Met l y ws rm Pc Qc XC mc ms free) (hblind : FrameBlind Pc) (hrc : rm.cells = mc) (hrs : rm.slots = ms)
    (hframes : rm.frames + 1 ≤ R.frames) (hlocals : W9 + (maxL + 11) + rm.locals ≤ R.locals)
    (hws : ∀ w ∈ ws, ∀ a' U, s.WarmedH U.vm → w.before a' U = true) (hcode : Cond.codeWith y bytes maxL ret hh ∈ ws) (hinit : ∀ a' U, s.WarmedH U.vm → (Cond.initialized y.cls).before a' U = true) :
    vx_Back l R p e below s sargs y len W9 (PreOf R mc ms Pc) (PostOf Qc mc ms free) (vx_Post XC mc ms free) := by
  intro m meth c A g ig mk a X hg hsize hdg hW hn hp
  have h1 : (headSpec ws rm).pre.before a A.U = true := atoms_intro fun w hw => hws w hw _ _ X.warmed
  have h2 : (Cond.codeWith y bytes maxL ret hh).before a A.U = true := hws _ hcode _ _ X.warmed
  have h3 : (Cond.initialized y.cls).before a A.U = true := hinit _ _ X.warmed
  have h4 : A.cells + (headSpec ws rm).room.cells ≤ R.cells := by rw [show (headSpec ws rm).room.cells = mc from hrc]; exact hp.1
  have h5 : A.slots + (headSpec ws rm).room.slots ≤ R.slots := by rw [show (headSpec ws rm).room.slots = ms from hrs]; exact hp.2.1
  have hPc : Pc a (A.U.calling g mk a) := hblind _ _ _ _ hp.2.2
  obtain ⟨U, Ls, c0, s0⟩ := A
  dsimp only [Pt.U, Pt.locs, Pt.cells, Pt.slots] at h1 h2 h3 h4 h5 X hn hPc ⊢
  obtain ⟨m9, methY, cY, hn9, hmY, hcY, -, hlY, -⟩ := Cond.codeWith_spec h2
  cases Option.some.inj (hn9.symm.trans hn)
  obtain ⟨kY, hkY, -⟩ := className_of_methodNamed hn
  have hinitY : kY.init = .initialized := Cond.initialized_spec (findClass_of_methodNamed hn) hkY h3
  have h : At U g.method c below := by rw [hg]; exact X.here
  have hlocals9 : W9 + (maxL + 11) + (headSpec ws rm).room.locals ≤ R.locals := hlocals
  have happ : (headSpec ws rm).appliesLoose y e.platform (U.calling g mk a) = true :=
    Spec.appliesLoose_calling (g := g) h hdg hn hkY hinitY
      (X.room_calling (g := g) (R' := (headSpec ws rm).room) hsize hmY hcY hframes (by rw [hlY]; omega) h4 h5) h1
  obtain ⟨mid, hmid⟩ := h.above
  have hfr : (U.setTop g).frames = (.java g :: mid) ++ below := by rw [State.frames_setTop' g h.top, hmid]; rfl
  obtain ⟨o, s₂, hsteps, -, hend, hq⟩ := Steps.callFree hM p X.admits X.cas X.clock (acts := []) hfr happ hPc trivial
  have hq' : vx_Q Qc XC mc ms free a (U.calling g mk a) o s₂ := hq
  rw [State.frames_setTop' g h.top] at hend
  obtain ⟨g₀, hg0⟩ := Option.isSome_iff_exists.mp h.top
  obtain ⟨r, hr⟩ := State.topJava?_eq_some.mp hg0
  have hr' : (({ U with heap := s₂.heap, slotsUsed := s₂.slotsUsed } : State).setVm s₂.vm).frames = .java g₀ :: r := hr
  rcases hq' with ⟨hqc, L, hfe, hL⟩ | ⟨q, rfl, E, ce, L, hx, hce, hcv, hcl, hW₂, hsm, hL⟩
  · obtain ⟨⟨v, rfl⟩, hW₂, e2, q2, q3, q4, q5, q6⟩ := id hfe
    have e3 : s₂ = ({ (U.calling g mk a).setFrames s₂.frames with heap := s₂.heap, slotsUsed := s₂.slotsUsed } : State).setVm s₂.vm := by
      have : s₂ = ({ s₂ with vm := (U.calling g mk a).vm } : State).setVm s₂.vm := rfl
      rw [e2] at this
      exact this
    obtain ⟨c₂, i₂, len₂, hc₂, hd₂, hf₂⟩ := hend
    have hW' : U.WarmedH s₂.vm := hW₂
    have hcc : c₂ = c := by
      have h1 : s₂.code? g.method = U.code? g.method := by
        rw [State.code?_eq, State.code?_eq, hW'.alike.method?]
      exact Option.some.inj (hc₂.symm.trans (h1.trans h.code))
    subst hcc
    have hlen : len₂ = len := by rw [hdg] at hd₂; cases hd₂; rfl
    subst hlen
    have hs₂ : s₂ = (({ U with heap := s₂.heap, slotsUsed := s₂.slotsUsed } : State).setVm s₂.vm).setTop { g with pc := g.pc + len₂, stack := v.toList ++ g.stack } := by
      refine e3.trans ?_
      rw [hf₂, State.calling_eq h.top, State.setFrames_setFrames, State.setTop_of_frames _ hr', hr]
      rfl
    have hsame : U.sameButNew ({ U with heap := s₂.heap, slotsUsed := s₂.slotsUsed } : State) L mc ms := by
      refine ⟨?_, q2, q3, q4, q5, q6⟩
      obtain ⟨t, ht, -⟩ := State.frames_cons hr
      show ({ U with heap := s₂.heap, slotsUsed := s₂.slotsUsed } : State) = { U.setFrames U.frames with heap := s₂.heap, slotsUsed := s₂.slotsUsed }
      rw [State.setFrames_self ht]
    subst hg
    refine Or.inl ⟨v, ⟨(({ U with heap := s₂.heap, slotsUsed := s₂.slotsUsed } : State).setVm s₂.vm), Ls ++ L, c0 + mc, s0 + ms⟩,
      ⟨X.admits, X.cas, X.clock, X.frames, X.room, X.hears, X.method, X.code, (X.here.setHeapUsed s₂.heap s₂.slotsUsed).setVm hW'.alike, X.tail, State.WarmedH.trans X.warmed hW', X.limits, X.bytes, X.same.trans (hsame.setVm s.vm)⟩,
      ⟨g, mk, s₂, L, rfl, rfl, hqc, rfl, hL, rfl, rfl⟩, ?_⟩
    show Steps p.tables e below _ ((({ U with heap := s₂.heap, slotsUsed := s₂.slotsUsed } : State).setVm s₂.vm).setTop { g with pc := g.pc + len₂, stack := v.toList ++ g.stack })
    rw [← hs₂]
    exact hsteps
  · obtain ⟨e2, q2, q3, q4, q5, q6⟩ := id hsm
    have e3 : s₂ = ({ (U.calling g mk a).setFrames s₂.frames with heap := s₂.heap, slotsUsed := s₂.slotsUsed } : State).setVm s₂.vm := by
      have : s₂ = ({ s₂ with vm := (U.calling g mk a).vm } : State).setVm s₂.vm := rfl
      rw [e2] at this
      exact this
    have hf₂ : s₂.frames = .throwing q :: .java g :: U.frames.tail := hend
    have hW' : U.WarmedH s₂.vm := hW₂
    have hs₂ : s₂ = ((({ U with heap := s₂.heap, slotsUsed := s₂.slotsUsed } : State).setVm s₂.vm).setTop g).pushFrame (.throwing q) := by
      refine e3.trans ?_
      rw [hf₂, State.calling_eq h.top, State.setFrames_setFrames, State.pushFrame, State.frames_setTop _ hr', State.setTop_of_frames _ hr', State.setFrames_setFrames, hr]
      rfl
    have hsame : U.sameButNew ({ U with heap := s₂.heap, slotsUsed := s₂.slotsUsed } : State) L mc ms := by
      refine ⟨?_, q2, q3, q4, q5, q6⟩
      obtain ⟨t, ht, -⟩ := State.frames_cons hr
      show ({ U with heap := s₂.heap, slotsUsed := s₂.slotsUsed } : State) = { U.setFrames U.frames with heap := s₂.heap, slotsUsed := s₂.slotsUsed }
      rw [State.setFrames_self ht]
    subst hg
    refine Or.inr ⟨q, ⟨(({ U with heap := s₂.heap, slotsUsed := s₂.slotsUsed } : State).setVm s₂.vm), Ls ++ L, c0 + mc, s0 + ms⟩,
      ⟨X.admits, X.cas, X.clock, X.frames, X.room, X.hears, X.method, X.code, (X.here.setHeapUsed s₂.heap s₂.slotsUsed).setVm hW'.alike, X.tail, State.WarmedH.trans X.warmed hW', X.limits, X.bytes, X.same.trans (hsame.setVm s.vm)⟩,
      ⟨g, mk, s₂, L, E, ce, rfl, rfl, hx, hce, hcv, hcl, rfl, hL, rfl, rfl⟩, ?_⟩
    show Steps p.tables e below _ (((({ U with heap := s₂.heap, slotsUsed := s₂.slotsUsed } : State).setVm s₂.vm).setTop g).pushFrame (.throwing q))
    rw [← hs₂]
    exact hsteps
end
variable {p : Program} {l : Launch} {e : Env} {R : Room} {s : State} {m : MethodId} {args : Array Value} {below : List Frame} {meth : Method} {c : Code} {T : State} {H : Heap} {locs : List Loc} {cells slots : Nat}
theorem vx_callVX (X : Stand p l e R s m args below meth c T locs cells slots) (hexec : p.tables.exec = Jvm.exec) {own C : String} {index : Nat} {y : MethodName} {bytes : ByteArray} {maxL : Nat} {ret : Option FieldType} {hh : List (Nat × Nat × Nat × Nat)}
    (hown : s.vm.findClass own = some m.cls) (hlink : (Cond.methodLink own index y).before args s = true) (hinst : (Cond.instanceMethod y).before args s = true) (hsel : (Cond.selects C y y).before args s = true)
    (hcode : (Cond.codeWith y bytes maxL ret hh).before args s = true) (hy : y.cls ≠ "java/lang/invoke/MethodHandle" ∧ y.cls ≠ "java/lang/invoke/VarHandle")
    {W9 : Nat} {Pre : Pt → Array Value → Prop} {Post : Pt → Array Value → Option Value → Pt → Prop} {PostX : Pt → Array Value → Addr → Pt → Prop} (hK : vx_Back l R p e below s args y 3 W9 Pre Post PostX)
    {b : Addr} {cellB : Cell} (hcell : T.heap[b]? = some cellB) (hobj : cellB.vm.isStatics = false) (hcls : s.vm.findClass C = some cellB.cls)
    {g : JFrame} (hg : g.method = m) (hsize : g.locals.size = c.maxLocals) {argsL rest : List Value} (hlen : ∀ sig, parseMethodDescriptor y.desc = some sig → argsL.length = sig.parameters.length)
    (hstack : g.stack = argsL.reverse ++ .ref b :: rest) (hW : 2 * g.monitorRoom + (rest.map fun v => v.category).sum ≤ W9) (hdg : decode c.code g.pc = .ok (.invokevirtual index, 3))
    (hpre : ∀ vm₁, s.WarmedH vm₁ → Pre ⟨T.setVm vm₁, locs, cells, slots⟩ (Value.ref b :: argsL).toArray) :
    (∃ (v : Option Value) (vm₁ : Vm) (B : Pt), s.WarmedH vm₁ ∧ Stand p l e R s m args below meth c B.U B.locs B.cells B.slots ∧ Post ⟨T.setVm vm₁, locs, cells, slots⟩ (Value.ref b :: argsL).toArray v B ∧
      ∀ target, Steps p.tables e below (B.U.setTop { g with pc := g.pc + 3, stack := v.toList ++ rest }) target → Steps p.tables e below (T.setTop g) target) ∨
    (∃ (q : Addr) (vm₁ : Vm) (B : Pt), s.WarmedH vm₁ ∧ Stand p l e R s m args below meth c B.U B.locs B.cells B.slots ∧ PostX ⟨T.setVm vm₁, locs, cells, slots⟩ (Value.ref b :: argsL).toArray q B ∧
      Steps p.tables e below (T.setTop g) ((B.U.setTop { g with stack := rest }).pushFrame (.throwing q))) := by
  obtain ⟨mk, methM, hnamed, hmethM, hstM, habM⟩ := Cond.instanceMethod_spec hinst
  obtain ⟨m8, methM', cM, hn8, hmethM', -, -, -, -, -, -, hsigM⟩ := Cond.codeWith_spec hcode
  cases Option.some.inj (hn8.symm.trans hnamed)
  cases hmethM.symm.trans hmethM'
  obtain ⟨c2, r2, m2, q1, q2, q3, q4, kP, hkP, hkPi⟩ := Cond.selects_spec hsel
  cases hcls.symm.trans q1
  cases (State.methodFound?_of_named hnamed hy).symm.trans q2
  cases hnamed.symm.trans q3
  have hselP : selectMethod e.platform s.vm cellB.cls mk = .method mk := by rw [Launch.admits_selectMethod X.admits]; exact q4
  obtain ⟨vm₁, X₁, hstep₁⟩ := X.invokevirtual hexec hown hlink hnamed hmethM hstM hkP hkPi hy (a := b) (cell := cellB) hcell
    (fun z h => by rw [h] at hobj; cases hobj) hselP hmethM habM hkP hkPi (g := g) hg (argsL := argsL) (rest := rest) (hlen _ hsigM) hstack hdg
  rcases hK m meth c ⟨T.setVm vm₁, locs, cells, slots⟩ { g with stack := rest } (.invokevirtual index) mk (Value.ref b :: argsL).toArray X₁ hg hsize hdg hW (X₁.named hnamed) (hpre vm₁ X₁.warmed) with ⟨v, B, X', hpost, hsteps⟩ | ⟨q, B, X', hpost, hsteps⟩
  · exact Or.inl ⟨v, vm₁, B, X₁.warmed, X', hpost, fun target h => hstep₁ _ fun acts => by rw [doInvoke_state]; exact hsteps.trans h⟩
  · exact Or.inr ⟨q, vm₁, B, X₁.warmed, X', hpost, hstep₁ _ fun acts => by rw [doInvoke_state]; exact hsteps⟩
theorem vx_callSX (X : Stand p l e R s m args below meth c T locs cells slots) (hexec : p.tables.exec = Jvm.exec) {own : String} {index : Nat} {y : MethodName} {bytes : ByteArray} {maxL : Nat} {ret : Option FieldType} {hh : List (Nat × Nat × Nat × Nat)}
    (hown : s.vm.findClass own = some m.cls) (hlink : (Cond.methodLink own index y).before args s = true) (hstat : (Cond.static y).before args s = true) (hinit : (Cond.initialized y.cls).before args s = true)
    (hcode : (Cond.codeWith y bytes maxL ret hh).before args s = true) (hy : y.cls ≠ "java/lang/invoke/MethodHandle" ∧ y.cls ≠ "java/lang/invoke/VarHandle")
    {W9 : Nat} {Pre : Pt → Array Value → Prop} {Post : Pt → Array Value → Option Value → Pt → Prop} {PostX : Pt → Array Value → Addr → Pt → Prop} (hK : vx_Back l R p e below s args y 3 W9 Pre Post PostX)
    {g : JFrame} (hg : g.method = m) (hsize : g.locals.size = c.maxLocals) {argsL rest : List Value} (hlen : ∀ sig, parseMethodDescriptor y.desc = some sig → argsL.length = sig.parameters.length)
    (hstack : g.stack = argsL.reverse ++ rest) (hW : 2 * g.monitorRoom + (rest.map fun v => v.category).sum ≤ W9) (hdg : decode c.code g.pc = .ok (.invokestatic index, 3))
    (hpre : ∀ vm₁, s.WarmedH vm₁ → Pre ⟨T.setVm vm₁, locs, cells, slots⟩ argsL.toArray) :
    (∃ (v : Option Value) (vm₁ : Vm) (B : Pt), s.WarmedH vm₁ ∧ Stand p l e R s m args below meth c B.U B.locs B.cells B.slots ∧ Post ⟨T.setVm vm₁, locs, cells, slots⟩ argsL.toArray v B ∧
      ∀ target, Steps p.tables e below (B.U.setTop { g with pc := g.pc + 3, stack := v.toList ++ rest }) target → Steps p.tables e below (T.setTop g) target) ∨
    (∃ (q : Addr) (vm₁ : Vm) (B : Pt), s.WarmedH vm₁ ∧ Stand p l e R s m args below meth c B.U B.locs B.cells B.slots ∧ PostX ⟨T.setVm vm₁, locs, cells, slots⟩ argsL.toArray q B ∧
      Steps p.tables e below (T.setTop g) ((B.U.setTop { g with stack := rest }).pushFrame (.throwing q))) := by
  obtain ⟨mk, methM, cM, hnamed, hmethM, -, -, -, -, -, -, hsigM⟩ := Cond.codeWith_spec hcode
  have hstatic : methM.isStatic = true := Cond.static_spec hnamed hmethM hstat
  obtain ⟨kP, hkP, -⟩ := className_of_methodNamed hnamed
  have hinitP : kP.init = .initialized := Cond.initialized_spec (findClass_of_methodNamed hnamed) hkP hinit
  obtain ⟨vm₁, X₁, hstep₁⟩ := X.invokestatic hexec hown hlink hnamed hmethM hstatic hkP hinitP hy (g := g) hg (argsL := argsL) (rest := rest) (hlen _ hsigM) hstack hdg
  rcases hK m meth c ⟨T.setVm vm₁, locs, cells, slots⟩ { g with stack := rest } (.invokestatic index) mk argsL.toArray X₁ hg hsize hdg hW (X₁.named hnamed) (hpre vm₁ X₁.warmed) with ⟨v, B, X', hpost, hsteps⟩ | ⟨q, B, X', hpost, hsteps⟩
  · exact Or.inl ⟨v, vm₁, B, X₁.warmed, X', hpost, fun target h => hstep₁ _ fun acts => by rw [doInvoke_state]; exact hsteps.trans h⟩
  · exact Or.inr ⟨q, vm₁, B, X₁.warmed, X', hpost, hstep₁ _ fun acts => by rw [doInvoke_state]; exact hsteps⟩
theorem vx_callVW (X : Stand p l e R s m args below meth c T locs cells slots) (hexec : p.tables.exec = Jvm.exec) {own C : String} {index : Nat} {y : MethodName} {bytes : ByteArray} {maxL : Nat} {ret : Option FieldType} {hh : List (Nat × Nat × Nat × Nat)}
    (hown : s.vm.findClass own = some m.cls) (hlink : (Cond.methodLink own index y).before args s = true) (hinst : (Cond.instanceMethod y).before args s = true) (hsel : (Cond.selects C y y).before args s = true)
    (hcode : (Cond.codeWith y bytes maxL ret hh).before args s = true) (hy : y.cls ≠ "java/lang/invoke/MethodHandle" ∧ y.cls ≠ "java/lang/invoke/VarHandle")
    {W9 : Nat} {Pre : Pt → Array Value → Prop} {Post : Pt → Array Value → Option Value → Pt → Prop} (hK : Back l R p e below s args y 3 W9 Pre Post)
    {b : Addr} {cellB : Cell} (hcell : T.heap[b]? = some cellB) (hobj : cellB.vm.isStatics = false) (hcls : s.vm.findClass C = some cellB.cls)
    {g : JFrame} (hg : g.method = m) (hsize : g.locals.size = c.maxLocals) {argsL rest : List Value} (hlen : ∀ sig, parseMethodDescriptor y.desc = some sig → argsL.length = sig.parameters.length)
    (hstack : g.stack = argsL.reverse ++ .ref b :: rest) (hW : 2 * g.monitorRoom + (rest.map fun v => v.category).sum ≤ W9) (hdg : decode c.code g.pc = .ok (.invokevirtual index, 3))
    (hpre : ∀ vm₁, s.WarmedH vm₁ → Pre ⟨T.setVm vm₁, locs, cells, slots⟩ (Value.ref b :: argsL).toArray) :
    ∃ (v : Option Value) (vm₁ : Vm) (B : Pt), s.WarmedH vm₁ ∧ Stand p l e R s m args below meth c B.U B.locs B.cells B.slots ∧ Post ⟨T.setVm vm₁, locs, cells, slots⟩ (Value.ref b :: argsL).toArray v B ∧
      ∀ target, Steps p.tables e below (B.U.setTop { g with pc := g.pc + 3, stack := v.toList ++ rest }) target → Steps p.tables e below (T.setTop g) target := by
  obtain ⟨mk, methM, hnamed, hmethM, hstM, habM⟩ := Cond.instanceMethod_spec hinst
  obtain ⟨m8, methM', cM, hn8, hmethM', -, -, -, -, -, -, hsigM⟩ := Cond.codeWith_spec hcode
  cases Option.some.inj (hn8.symm.trans hnamed)
  cases hmethM.symm.trans hmethM'
  obtain ⟨c2, r2, m2, q1, q2, q3, q4, kP, hkP, hkPi⟩ := Cond.selects_spec hsel
  cases hcls.symm.trans q1
  cases (State.methodFound?_of_named hnamed hy).symm.trans q2
  cases hnamed.symm.trans q3
  have hselP : selectMethod e.platform s.vm cellB.cls mk = .method mk := by rw [Launch.admits_selectMethod X.admits]; exact q4
  obtain ⟨vm₁, X₁, hstep₁⟩ := X.invokevirtual hexec hown hlink hnamed hmethM hstM hkP hkPi hy (a := b) (cell := cellB) hcell
    (fun z h => by rw [h] at hobj; cases hobj) hselP hmethM habM hkP hkPi (g := g) hg (argsL := argsL) (rest := rest) (hlen _ hsigM) hstack hdg
  obtain ⟨v, B, X', hpost, hsteps⟩ := hK m meth c ⟨T.setVm vm₁, locs, cells, slots⟩ { g with stack := rest } (.invokevirtual index) mk (Value.ref b :: argsL).toArray X₁ hg hsize hdg hW (X₁.named hnamed) (hpre vm₁ X₁.warmed)
  exact ⟨v, vm₁, B, X₁.warmed, X', hpost, fun target h => hstep₁ _ fun acts => by rw [doInvoke_state]; exact hsteps.trans h⟩
abbrev vx_CVW (R : Room) (s : State) (args : Array Value) (own C : String) (index : Nat) (y : MethodName) (bytes : ByteArray) (maxL : Nat) (ret : Option FieldType) (hh : List (Nat × Nat × Nat × Nat)) (ws : List Cond) (rm : Room) (mc ms n : Nat) : Prop :=
  (rm.cells = mc ∧ rm.slots = ms ∧ rm.frames + 1 ≤ R.frames ∧ 8 + (maxL + 11) + rm.locals ≤ R.locals ∧ (∀ w ∈ ws, ∀ (a' : Array Value) (U : State), s.WarmedH U.vm → w.before a' U = true) ∧ Cond.codeWith y bytes maxL ret hh ∈ ws) ∧
  (Cond.codeWith y bytes maxL ret hh).before args s = true ∧ (Cond.initialized y.cls).before args s = true ∧ (y.cls ≠ "java/lang/invoke/MethodHandle" ∧ y.cls ≠ "java/lang/invoke/VarHandle") ∧
  (∀ sig, parseMethodDescriptor y.desc = some sig → n = sig.parameters.length) ∧ (Cond.methodLink own index y).before args s = true ∧ (Cond.instanceMethod y).before args s = true ∧ (Cond.selects C y y).before args s = true
theorem vx_cwVW {own C : String} {index maxL mc ms : Nat} {y : MethodName} {bytes : ByteArray} {ret : Option FieldType} {hh : List (Nat × Nat × Nat × Nat)} {Ts ws ws' : List Cond} {rm : Room} (n : Nat) (ht : ∀ w ∈ Ts, w.before args s = true) (hT : GoodIn Ts (wsV own index C y ws)) (hw : ws = Cond.codeWith y bytes maxL ret hh :: ws') (hrc : rm.cells = mc) (hrs : rm.slots = ms)
    (hd : y.cls = C ∧ y.cls ≠ "java/lang/invoke/MethodHandle" ∧ y.cls ≠ "java/lang/invoke/VarHandle" ∧ (parseMethodDescriptor y.desc).map (fun d => d.parameters.length) = some n) (hR : rm.frames + 1 ≤ R.frames ∧ 8 + (maxL + 11) + rm.locals ≤ R.locals) :
    vx_CVW R s args own C index y bytes maxL ret hh ws rm mc ms n := by
  obtain ⟨hC, hd⟩ := hd
  subst hC
  have ok : ∀ w ∈ wsV own index y.cls y ws, w.before args s = true := fun w h => ht w (hT w h).1
  have hG : GoodIn Ts ws := fun w h => hT w (by unfold wsV; exact List.mem_append_right _ h)
  have hc : Cond.codeWith y bytes maxL ret hh ∈ ws := by rw [hw]; exact List.mem_cons_self
  refine ⟨⟨hrc, hrs, hR.1, hR.2, pay_in ht hG, hc⟩, ht _ (hG _ hc).1, ok _ (by simp [wsV]), ⟨hd.1, hd.2.1⟩, fun sig h => ?_, ok _ (by simp [wsV]), ok _ (by simp [wsV]), ok _ (by simp [wsV])⟩
  have h2 := hd.2.2
  rw [h] at h2
  exact (Option.some.inj h2).symm
theorem vx_runVW {y : MethodName} {bytes cc : ByteArray} {maxL nL mc ms n index : Nat} {ret : Option FieldType} {hh : List (Nat × Nat × Nat × Nat)} {ws : List Cond} {rm : Room} {Pc : Array Value → State → Prop} {Qc : Array Value → State → Outcome → State → Prop} {free : Addr → Prop} {Ts : List Cond} {own C : String} {b : Addr} {As rest : List Value} {g : JFrame}
    (S : CallFix p m c cc nL s args Ts own) (hM : Met l y ws rm Pc Qc mc ms free) (cw : vx_CVW R s args own C index y bytes maxL ret hh ws rm mc ms n) (hp : PreV s H C b Pc As)
    (hg : g.method = m) (hn : As.length = n) (hsize : g.locals.size = nL) (hstack : g.stack = As.reverse ++ .ref b :: rest) (hW : 2 * g.monitorRoom + (rest.map fun v => v.category).sum ≤ 8) (hdg : decode cc g.pc = .ok (.invokevirtual index, 3)) (hf : cells + mc ≤ R.cells ∧ slots + ms ≤ R.slots) :
    va_Run p l e R s m args below meth c H locs cells slots mc ms g rest (Qc (Value.ref b :: As).toArray) free := by
  obtain ⟨⟨hrc, hrs, hfr, hlo, hws, hcw⟩, hcode, hini, hy, hlen, hl, hin, hse⟩ := cw
  have hK : Back l R p e below s args y 3 8 (PreOf R mc ms Pc) (PostOf Qc mc ms free) := va_backW (hh := hh) (bytes := bytes) (maxL := maxL) (ret := ret) hM hp.1 hrc hrs hfr hlo hws hcw (fun a' U hW => word_at hW (Or.inl (by first | rfl | simp [Cond.onTables, Cond.keeps, Cond.steady])) hini)
  obtain ⟨hx, hb, hml, ho, -⟩ := S
  obtain ⟨-, ⟨cellB, hcB, hoB, hclB⟩, hPc⟩ := hp
  intro T hT X
  obtain ⟨v, vm₁, ⟨U', l2, c2, s2⟩, hW₁, X', ⟨g', mk, t, L, e1, e2, hq, h1, hL, h2, h3⟩, st⟩ := vx_callVW X hx (C := C) (hh := hh) (bytes := bytes) (maxL := maxL) (ret := ret) ho hl hin hse hcode hy hK (by rw [hT]; exact hcB) hoB hclB hg (hsize.trans hml.symm) (argsL := As) (rest := rest) (fun sig h => hn.trans (hlen sig h)) hstack hW (by rw [hb]; exact hdg)
    (fun vm₁ hW₁ => ⟨hf.1, hf.2, hPc (T.setVm vm₁) hT hW₁⟩)
  dsimp only [Pt.U, Pt.locs, Pt.cells, Pt.slots] at X' e1 e2 h1 h2 h3 st
  subst h1; subst h2; subst h3
  exact ⟨v, (T.setVm vm₁).calling g' mk (Value.ref b :: As).toArray, t, U', L, hT, X', hL, e1, e2, hq, st⟩
section
variable {y : MethodName} {bytes cc : ByteArray} {maxL nL mc ms n index : Nat} {ret : Option FieldType} {ws : List Cond} {rm : Room} {Pc : Array Value → State → Prop} {Qc : Array Value → State → Outcome → State → Prop} {XC : String → State → State → Prop} {free : Addr → Prop} {Ts : List Cond} {own C : String} {b : Addr} {As rest : List Value} {g : JFrame}
theorem vx_runVX {hh : List (Nat × Nat × Nat × Nat)} (S : CallFix p m c cc nL s args Ts own) (hM : vx_Met l y ws rm Pc Qc XC mc ms free) (cw : vx_CVW R s args own C index y bytes maxL ret hh ws rm mc ms n) (hp : PreV s H C b Pc As)
    (hg : g.method = m) (hn : As.length = n) (hsize : g.locals.size = nL) (hstack : g.stack = As.reverse ++ .ref b :: rest) (hW : 2 * g.monitorRoom + (rest.map fun v => v.category).sum ≤ 8) (hdg : decode cc g.pc = .ok (.invokevirtual index, 3)) (hf : cells + mc ≤ R.cells ∧ slots + ms ≤ R.slots) :
    vx_Run p l e R s m args below meth c H locs cells slots mc ms g rest (Qc (Value.ref b :: As).toArray) XC free := by
  obtain ⟨⟨hrc, hrs, hfr, hlo, hws, hcw⟩, hcode, hini, hy, hlen, hl, hin, hse⟩ := cw
  have hK : vx_Back l R p e below s args y 3 8 (PreOf R mc ms Pc) (PostOf Qc mc ms free) (vx_Post XC mc ms free) := vx_backW (hh := hh) (bytes := bytes) (maxL := maxL) (ret := ret) hM hp.1 hrc hrs hfr hlo hws hcw (fun a' U hW => word_at hW (Or.inl (by first | rfl | simp [Cond.onTables, Cond.keeps, Cond.steady])) hini)
  obtain ⟨hx, hb, hml, ho, -⟩ := S
  obtain ⟨-, ⟨cellB, hcB, hoB, hclB⟩, hPc⟩ := hp
  intro T hT X
  rcases vx_callVX X hx (C := C) (hh := hh) (bytes := bytes) (maxL := maxL) (ret := ret) ho hl hin hse hcode hy hK (by rw [hT]; exact hcB) hoB hclB hg (hsize.trans hml.symm) (argsL := As) (rest := rest) (fun sig h => hn.trans (hlen sig h)) hstack hW (by rw [hb]; exact hdg)
    (fun vm₁ hW₁ => ⟨hf.1, hf.2, hPc (T.setVm vm₁) hT hW₁⟩) with ⟨v, vm₁, ⟨U', l2, c2, s2⟩, hW₁, X', ⟨g', mk, t, L, e1, e2, hq, h1, hL, h2, h3⟩, st⟩ | ⟨q, vm₁, ⟨U', l2, c2, s2⟩, hW₁, X', ⟨g', mk, t, L, E, ce, e1, e2, hq, hce, hcv, hcl, h1, hL, h2, h3⟩, st⟩
  · dsimp only [Pt.U, Pt.locs, Pt.cells, Pt.slots] at X' e1 e2 h1 h2 h3 st
    subst h1; subst h2; subst h3
    exact Or.inl ⟨v, (T.setVm vm₁).calling g' mk (Value.ref b :: As).toArray, t, U', L, hT, X', hL, e1, e2, hq, st⟩
  · dsimp only [Pt.U, Pt.locs, Pt.cells, Pt.slots] at X' e1 e2 h1 h2 h3 st hcl
    subst h1; subst h2; subst h3
    exact Or.inr ⟨q, (T.setVm vm₁).calling g' mk (Value.ref b :: As).toArray, t, U', L, E, ce, hT, X', hL, e1, e2, hq, hce, hcv, vx_cls hW₁ hcl, st⟩
theorem vx_runSX {hh : List (Nat × Nat × Nat × Nat)} (S : CallFix p m c cc nL s args Ts own) (hM : vx_Met l y ws rm Pc Qc XC mc ms free) (cw : vx_CSW R s args own index y bytes maxL ret hh ws rm mc ms n) (hp : PreS s H Pc As)
    (hg : g.method = m) (hn : As.length = n) (hsize : g.locals.size = nL) (hstack : g.stack = As.reverse ++ rest) (hW : 2 * g.monitorRoom + (rest.map fun v => v.category).sum ≤ 8) (hdg : decode cc g.pc = .ok (.invokestatic index, 3)) (hf : cells + mc ≤ R.cells ∧ slots + ms ≤ R.slots) :
    vx_Run p l e R s m args below meth c H locs cells slots mc ms g rest (Qc As.toArray) XC free := by
  obtain ⟨⟨hrc, hrs, hfr, hlo, hws, hcw⟩, hcode, hini, hy, hlen, hl, hstt⟩ := cw
  have hK : vx_Back l R p e below s args y 3 8 (PreOf R mc ms Pc) (PostOf Qc mc ms free) (vx_Post XC mc ms free) := vx_backW (hh := hh) (bytes := bytes) (maxL := maxL) (ret := ret) hM hp.1 hrc hrs hfr hlo hws hcw (fun a' U hW => word_at hW (Or.inl (by first | rfl | simp [Cond.onTables, Cond.keeps, Cond.steady])) hini)
  obtain ⟨hx, hb, hml, ho, -⟩ := S
  intro T hT X
  rcases vx_callSX X hx (hh := hh) (bytes := bytes) (maxL := maxL) (ret := ret) ho hl hstt hini hcode hy hK hg (hsize.trans hml.symm) (argsL := As) (rest := rest) (fun sig h => hn.trans (hlen sig h)) hstack hW (by rw [hb]; exact hdg)
    (fun vm₁ hW₁ => ⟨hf.1, hf.2, hp.2 (T.setVm vm₁) hT hW₁⟩) with ⟨v, vm₁, ⟨U', l2, c2, s2⟩, hW₁, X', ⟨g', mk, t, L, e1, e2, hq, h1, hL, h2, h3⟩, st⟩ | ⟨q, vm₁, ⟨U', l2, c2, s2⟩, hW₁, X', ⟨g', mk, t, L, E, ce, e1, e2, hq, hce, hcv, hcl, h1, hL, h2, h3⟩, st⟩
  · dsimp only [Pt.U, Pt.locs, Pt.cells, Pt.slots] at X' e1 e2 h1 h2 h3 st
    subst h1; subst h2; subst h3
    exact Or.inl ⟨v, (T.setVm vm₁).calling g' mk As.toArray, t, U', L, hT, X', hL, e1, e2, hq, st⟩
  · dsimp only [Pt.U, Pt.locs, Pt.cells, Pt.slots] at X' e1 e2 h1 h2 h3 st hcl
    subst h1; subst h2; subst h3
    exact Or.inr ⟨q, (T.setVm vm₁).calling g' mk As.toArray, t, U', L, E, ce, hT, X', hL, e1, e2, hq, hce, hcv, vx_cls hW₁ hcl, st⟩
end
end VXH
theorem vx_ofWH {l : Launch} {y : MethodName} {ws ws' : List Cond} {rm : Room} {Pc : Array Value → State → Prop} {Qc : Array Value → State → Outcome → State → Prop} {XC : String → State → State → Prop} {mc ms : Nat} {free : Addr → Prop} {cc : ByteArray} {maxL : Nat} {ret : Option FieldType} {hh : List (Nat × Nat × Nat × Nat)}
    (hy : plainName y.cls = true) (hw : ws = Cond.codeWith y cc maxL ret hh :: ws')
    (body : ∀ p e s m args below meth c s₁, BodyLoose p l y (headSpec ws rm) cc maxL ret e s m args below meth c s₁ → c.maxLocals = maxL → Pc args s →
      W p l e (headSpec ws rm).room s m args below meth c s.heap [] 0 0 (vx_MQ below Qc XC args s mc ms free) (entryFrame m args maxL)) : vx_Met l y ws rm Pc Qc XC mc ms free := by
  refine MetFree.of_bodyS (code := cc) (maxLocals := maxL) (ret := ret) hy ?_ ?_
  · intro args s m h hn
    obtain ⟨m9, meth, c, hn9, h1, h2, h3, h4, -, h5, h6, -⟩ := Cond.codeWith_spec (atoms_spec (ws := ws) h _ (by rw [hw]; exact List.mem_cons_self))
    cases hn.symm.trans hn9
    exact ⟨meth, c, h1, h2, h3, h4, h5, h6⟩
  · intro p e s m args below meth c s₁ B hml hP _
    have hh0 : s₁.heap = s.heap := by rw [B.state]; rfl
    obtain ⟨t, a1, o, b1, b2, b3⟩ := body p e s m args below meth c s₁ B hml hP s₁ hh0 (Stand.of_body B)
    exact ⟨t, o, a1, b1, b2, b3⟩
/-! ===== END ===== -/
end
section
/-! names, fields, codes: as printed -/
def RX0 : String := "PileTricks$Dealer"
def TX0 : u_T := fun k => match k with
  | 0 => ("PileTricks$Dealer", "heapOf", "[I", true)
  | 1 => ("PileTricks$Dealer", "cameAs", "[I", true)
  | 2 => ("PileTricks$Dealer", "sizes", "[I", true)
  | 3 => ("PileTricks$Dealer", "starts", "[I", true)
  | 4 => ("PileTricks$Dealer", "cards", "I", false)
  | 5 => ("PileTricks$Dealer", "heaps", "I", false)
  | 6 => ("PileTricks$Dealer", "kind", "I", false)
  | _ => ("PileTricks$Dealer", "side", "I", false)
def tyX0 : Nat → FieldType := fun k => match k with
  | 0 => .array .int
  | 1 => .array .int
  | 2 => .array .int
  | 3 => .array .int
  | 4 => .int
  | 5 => .int
  | 6 => .int
  | _ => .int
abbrev wsX00 : List Cond := u_ws RX0 TX0 8
theorem nmX0 : ∀ a, a < 8 → ∀ b, b < 8 → a ≠ b → (TX0 a).2.1 ≠ (TX0 b).2.1 := by decide +kernel
theorem tyX0_ok : ∀ k, k < 8 → parseFieldDescriptor (TX0 k).2.2.1 = some (tyX0 k) := by decide +kernel
abbrev cX0_init : ByteArray := prog_2_method_1_code
def yX0_init : MethodName := ⟨RX0, "<init>", "()V"⟩
abbrev cX0_fit : ByteArray := prog_2_method_2_code
def yX0_fit : MethodName := ⟨RX0, "fit", "(II)V"⟩
abbrev cX0_heapBy : ByteArray := prog_2_method_3_code
def yX0_heapBy : MethodName := ⟨RX0, "heapBy", "(II)I"⟩
abbrev cX0_hold : ByteArray := prog_2_method_4_code
def yX0_hold : MethodName := ⟨RX0, "hold", "(II)V"⟩
abbrev cX0_lay : ByteArray := prog_2_method_5_code
def yX0_lay : MethodName := ⟨RX0, "lay", "(III)V"⟩
abbrev cX0_layNamed : ByteArray := prog_2_method_6_code
def yX0_layNamed : MethodName := ⟨RX0, "layNamed", "(III)I"⟩
abbrev cX0_layHeap : ByteArray := prog_2_method_7_code
def yX0_layHeap : MethodName := ⟨RX0, "layHeap", "(II)I"⟩
abbrev cX0_layOwn : ByteArray := prog_2_method_8_code
def yX0_layOwn : MethodName := ⟨RX0, "layOwn", "(II)V"⟩
abbrev cX0_heapAt : ByteArray := prog_2_method_9_code
def yX0_heapAt : MethodName := ⟨RX0, "heapAt", "(I)I"⟩
abbrev cX0_sizeOf : ByteArray := prog_2_method_10_code
def yX0_sizeOf : MethodName := ⟨RX0, "sizeOf", "(II)I"⟩
abbrev cX0_newPlace : ByteArray := prog_2_method_11_code
def yX0_newPlace : MethodName := ⟨RX0, "newPlace", "(I)I"⟩
def RX1 : String := "PileTricks$Guesses"
def TX1 : u_T := fun k => match k with
  | 0 => ("PileTricks$Guesses", "setting", "LPileTricks$Setting;", true)
  | 1 => ("PileTricks$Guesses", "dealer", "LPileTricks$Dealer;", true)
  | 2 => ("PileTricks$Guesses", "left", "[I", true)
  | 3 => ("PileTricks$Guesses", "deals", "I", false)
  | _ => ("PileTricks$Guesses", "most", "I", false)
def tyX1 : Nat → FieldType := fun k => match k with
  | 0 => .object "PileTricks$Setting"
  | 1 => .object "PileTricks$Dealer"
  | 2 => .array .int
  | 3 => .int
  | _ => .int
abbrev wsX10 : List Cond := u_ws RX1 TX1 5
theorem nmX1 : ∀ a, a < 5 → ∀ b, b < 5 → a ≠ b → (TX1 a).2.1 ≠ (TX1 b).2.1 := by decide +kernel
theorem tyX1_ok : ∀ k, k < 5 → parseFieldDescriptor (TX1 k).2.2.1 = some (tyX1 k) := by decide +kernel
abbrev cX1_init : ByteArray := prog_3_method_1_code
def yX1_init : MethodName := ⟨RX1, "<init>", "(LPileTricks$Setting;LPileTricks$Dealer;)V"⟩
abbrev cX1_mostLeft : ByteArray := prog_3_method_2_code
def yX1_mostLeft : MethodName := ⟨RX1, "mostLeft", "(I)I"⟩
abbrev cX1_nameAll : ByteArray := prog_3_method_3_code
def yX1_nameAll : MethodName := ⟨RX1, "nameAll", "(II)V"⟩
abbrev cX1_leftBehind : ByteArray := prog_3_method_4_code
def yX1_leftBehind : MethodName := ⟨RX1, "leftBehind", "(III)I"⟩
def RX2 : String := "PileTricks$Reader"
def TX2 : u_T := fun k => match k with
  | 0 => ("PileTricks$Reader", "tape", "LPileTricks$Tape;", true)
  | 1 => ("PileTricks$Reader", "rules", "LPileTricks$Rules;", true)
  | 2 => ("PileTricks$Reader", "numbers", "[I", true)
  | 3 => ("PileTricks$Reader", "given", "[Z", true)
  | 4 => ("PileTricks$Reader", "kinds", "[I", true)
  | 5 => ("PileTricks$Reader", "sides", "[I", true)
  | 6 => ("PileTricks$Reader", "deals", "I", false)
  | _ => ("PileTricks$Reader", "faultAt", "I", false)
def tyX2 : Nat → FieldType := fun k => match k with
  | 0 => .object "PileTricks$Tape"
  | 1 => .object "PileTricks$Rules"
  | 2 => .array .int
  | 3 => .array .boolean
  | 4 => .array .int
  | 5 => .array .int
  | 6 => .int
  | _ => .int
abbrev wsX20 : List Cond := u_ws RX2 TX2 8
theorem nmX2 : ∀ a, a < 8 → ∀ b, b < 8 → a ≠ b → (TX2 a).2.1 ≠ (TX2 b).2.1 := by decide +kernel
theorem tyX2_ok : ∀ k, k < 8 → parseFieldDescriptor (TX2 k).2.2.1 = some (tyX2 k) := by decide +kernel
abbrev cX2_init : ByteArray := prog_4_method_1_code
def yX2_init : MethodName := ⟨RX2, "<init>", "(LPileTricks$Tape;)V"⟩
abbrev cX2_forget : ByteArray := prog_4_method_2_code
def yX2_forget : MethodName := ⟨RX2, "forget", "()V"⟩
abbrev cX2_read : ByteArray := prog_4_method_3_code
def yX2_read : MethodName := ⟨RX2, "read", "(I)I"⟩
abbrev cX2_readNumber : ByteArray := prog_4_method_4_code
def yX2_readNumber : MethodName := ⟨RX2, "readNumber", "(I)I"⟩
abbrev cX2_readDeal : ByteArray := prog_4_method_5_code
def yX2_readDeal : MethodName := ⟨RX2, "readDeal", "()I"⟩
abbrev cX2_readLineEnd : ByteArray := prog_4_method_6_code
def yX2_readLineEnd : MethodName := ⟨RX2, "readLineEnd", "()I"⟩
abbrev cX2_numberTold : ByteArray := prog_4_method_7_code
def yX2_numberTold : MethodName := ⟨RX2, "numberTold", "(LPileTricks$Word;)I"⟩
abbrev cX2_kindTold : ByteArray := prog_4_method_8_code
def yX2_kindTold : MethodName := ⟨RX2, "kindTold", "(LPileTricks$Word;)I"⟩
abbrev cX2_sideTold : ByteArray := prog_4_method_9_code
def yX2_sideTold : MethodName := ⟨RX2, "sideTold", "(LPileTricks$Word;)I"⟩
def RX3 : String := "PileTricks$Rules"
def TX3 : u_T := fun k => match k with
  | 0 => ("PileTricks$Rules", "tape", "LPileTricks$Tape;", true)
  | 1 => ("PileTricks$Rules", "code", "[I", true)
  | 2 => ("PileTricks$Rules", "codeEnds", "[I", true)
  | 3 => ("PileTricks$Rules", "waiting", "[I", true)
  | 4 => ("PileTricks$Rules", "compared", "[Z", true)
  | 5 => ("PileTricks$Rules", "values", "[I", true)
  | 6 => ("PileTricks$Rules", "pending", "[I", true)
  | 7 => ("PileTricks$Rules", "length", "I", false)
  | 8 => ("PileTricks$Rules", "waits", "I", false)
  | 9 => ("PileTricks$Rules", "depth", "I", false)
  | 10 => ("PileTricks$Rules", "nots", "I", false)
  | 11 => ("PileTricks$Rules", "notMayStand", "Z", false)
  | 12 => ("PileTricks$Rules", "partIsDue", "Z", false)
  | _ => ("PileTricks$Rules", "closed", "Z", false)
def tyX3 : Nat → FieldType := fun k => match k with
  | 0 => .object "PileTricks$Tape"
  | 1 => .array .int
  | 2 => .array .int
  | 3 => .array .int
  | 4 => .array .boolean
  | 5 => .array .int
  | 6 => .array .int
  | 7 => .int
  | 8 => .int
  | 9 => .int
  | 10 => .int
  | 11 => .boolean
  | 12 => .boolean
  | _ => .boolean
abbrev wsX30 : List Cond := u_ws RX3 TX3 14
theorem nmX3 : ∀ a, a < 14 → ∀ b, b < 14 → a ≠ b → (TX3 a).2.1 ≠ (TX3 b).2.1 := by decide +kernel
theorem tyX3_ok : ∀ k, k < 14 → parseFieldDescriptor (TX3 k).2.2.1 = some (tyX3 k) := by decide +kernel
abbrev cX3_init : ByteArray := prog_5_method_1_code
def yX3_init : MethodName := ⟨RX3, "<init>", "(LPileTricks$Tape;)V"⟩
abbrev cX3_readRule : ByteArray := prog_5_method_2_code
def yX3_readRule : MethodName := ⟨RX3, "readRule", "(I)I"⟩
abbrev cX3_openExpr : ByteArray := prog_5_method_3_code
def yX3_openExpr : MethodName := ⟨RX3, "openExpr", "()V"⟩
abbrev cX3_openNot : ByteArray := prog_5_method_4_code
def yX3_openNot : MethodName := ⟨RX3, "openNot", "()V"⟩
abbrev cX3_readPart : ByteArray := prog_5_method_5_code
def yX3_readPart : MethodName := ⟨RX3, "readPart", "()I"⟩
abbrev cX3_readNot : ByteArray := prog_5_method_6_code
def yX3_readNot : MethodName := ⟨RX3, "readNot", "()I"⟩
abbrev cX3_readNumberPart : ByteArray := prog_5_method_7_code
def yX3_readNumberPart : MethodName := ⟨RX3, "readNumberPart", "()I"⟩
abbrev cX3_readValue : ByteArray := prog_5_method_8_code
def yX3_readValue : MethodName := ⟨RX3, "readValue", "()I"⟩
abbrev cX3_readBehindPart : ByteArray := prog_5_method_9_code
def yX3_readBehindPart : MethodName := ⟨RX3, "readBehindPart", "()I"⟩
abbrev cX3_closeRule : ByteArray := prog_5_method_10_code
def yX3_closeRule : MethodName := ⟨RX3, "closeRule", "()I"⟩
abbrev cX3_closeExpr : ByteArray := prog_5_method_11_code
def yX3_closeExpr : MethodName := ⟨RX3, "closeExpr", "()I"⟩
abbrev cX3_operatorThere : ByteArray := prog_5_method_12_code
def yX3_operatorThere : MethodName := ⟨RX3, "operatorThere", "()I"⟩
abbrev cX3_bindingOf : ByteArray := prog_5_method_13_code
def yX3_bindingOf : MethodName := ⟨RX3, "bindingOf", "(I)I"⟩
abbrev cX3_await : ByteArray := prog_5_method_14_code
def yX3_await : MethodName := ⟨RX3, "await", "(I)V"⟩
abbrev cX3_writeWaiting : ByteArray := prog_5_method_15_code
def yX3_writeWaiting : MethodName := ⟨RX3, "writeWaiting", "(I)V"⟩
abbrev cX3_write : ByteArray := prog_5_method_16_code
def yX3_write : MethodName := ⟨RX3, "write", "(I)V"⟩
abbrev cX3_isCompared : ByteArray := prog_5_method_17_code
def yX3_isCompared : MethodName := ⟨RX3, "isCompared", "()Z"⟩
abbrev cX3_setCompared : ByteArray := prog_5_method_18_code
def yX3_setCompared : MethodName := ⟨RX3, "setCompared", "(Z)V"⟩
abbrev cX3_setValue : ByteArray := prog_5_method_19_code
def yX3_setValue : MethodName := ⟨RX3, "setValue", "(II)V"⟩
abbrev cX3_workOut : ByteArray := prog_5_method_20_code
def yX3_workOut : MethodName := ⟨RX3, "workOut", "(I)I"⟩
abbrev cX3_joined : ByteArray := prog_5_method_21_code
def yX3_joined : MethodName := ⟨RX3, "joined", "(III)I"⟩
abbrev cX3_truth : ByteArray := prog_5_method_22_code
def yX3_truth : MethodName := ⟨RX3, "truth", "(Z)I"⟩
def RX4 : String := "PileTricks$Setting"
def TX4 : u_T := fun k => match k with
  | 0 => ("PileTricks$Setting", "kinds", "[I", true)
  | 1 => ("PileTricks$Setting", "sides", "[I", true)
  | 2 => ("PileTricks$Setting", "layings", "[I", true)
  | 3 => ("PileTricks$Setting", "followed", "[I", true)
  | 4 => ("PileTricks$Setting", "cards", "I", false)
  | 5 => ("PileTricks$Setting", "heaps", "I", false)
  | 6 => ("PileTricks$Setting", "lies", "I", false)
  | 7 => ("PileTricks$Setting", "wish", "I", false)
  | 8 => ("PileTricks$Setting", "deals", "I", false)
  | _ => ("PileTricks$Setting", "rounds", "I", false)
def tyX4 : Nat → FieldType := fun k => match k with
  | 0 => .array .int
  | 1 => .array .int
  | 2 => .array .int
  | 3 => .array .int
  | 4 => .int
  | 5 => .int
  | 6 => .int
  | 7 => .int
  | 8 => .int
  | _ => .int
abbrev wsX40 : List Cond := u_ws RX4 TX4 10
theorem nmX4 : ∀ a, a < 10 → ∀ b, b < 10 → a ≠ b → (TX4 a).2.1 ≠ (TX4 b).2.1 := by decide +kernel
theorem tyX4_ok : ∀ k, k < 10 → parseFieldDescriptor (TX4 k).2.2.1 = some (tyX4 k) := by decide +kernel
abbrev cX4_init : ByteArray := prog_6_method_1_code
def yX4_init : MethodName := ⟨RX4, "<init>", "()V"⟩
abbrev cX4_takeOver : ByteArray := prog_6_method_2_code
def yX4_takeOver : MethodName := ⟨RX4, "takeOver", "(LPileTricks$Reader;LPileTricks$Dealer;)V"⟩
abbrev cX4_takeDeals : ByteArray := prog_6_method_3_code
def yX4_takeDeals : MethodName := ⟨RX4, "takeDeals", "(LPileTricks$Reader;LPileTricks$Dealer;)V"⟩
abbrev cX4_takeDealOfNone : ByteArray := prog_6_method_4_code
def yX4_takeDealOfNone : MethodName := ⟨RX4, "takeDealOfNone", "()V"⟩
abbrev cX4_follow : ByteArray := prog_6_method_5_code
def yX4_follow : MethodName := ⟨RX4, "follow", "(ILPileTricks$Dealer;)V"⟩
abbrev cX4_kindOf : ByteArray := prog_6_method_6_code
def yX4_kindOf : MethodName := ⟨RX4, "kindOf", "(I)I"⟩
abbrev cX4_sideOf : ByteArray := prog_6_method_7_code
def yX4_sideOf : MethodName := ⟨RX4, "sideOf", "(I)I"⟩
abbrev cX4_layingOf : ByteArray := prog_6_method_8_code
def yX4_layingOf : MethodName := ⟨RX4, "layingOf", "(II)I"⟩
abbrev cX4_followedTo : ByteArray := prog_6_method_9_code
def yX4_followedTo : MethodName := ⟨RX4, "followedTo", "(II)I"⟩
abbrev cX4_followedEnd : ByteArray := prog_6_method_10_code
def yX4_followedEnd : MethodName := ⟨RX4, "followedEnd", "(II)I"⟩
abbrev cX4_hasPlace : ByteArray := prog_6_method_11_code
def yX4_hasPlace : MethodName := ⟨RX4, "hasPlace", "(I)Z"⟩
abbrev cX4_hasHeap : ByteArray := prog_6_method_12_code
def yX4_hasHeap : MethodName := ⟨RX4, "hasHeap", "(I)Z"⟩
abbrev cX4_allows : ByteArray := prog_6_method_13_code
def yX4_allows : MethodName := ⟨RX4, "allows", "(IIII)Z"⟩
def RX5 : String := "PileTricks$Table"
def TX5 : u_T := fun k => match k with
  | 0 => ("PileTricks$Table", "pack", "[I", true)
  | 1 => ("PileTricks$Table", "seen", "[I", true)
  | 2 => ("PileTricks$Table", "falses", "[I", true)
  | 3 => ("PileTricks$Table", "codes", "[I", true)
  | _ => ("PileTricks$Table", "answers", "I", false)
def tyX5 : Nat → FieldType := fun k => match k with
  | 0 => .array .int
  | 1 => .array .int
  | 2 => .array .int
  | 3 => .array .int
  | _ => .int
abbrev wsX50 : List Cond := u_ws RX5 TX5 5
theorem nmX5 : ∀ a, a < 5 → ∀ b, b < 5 → a ≠ b → (TX5 a).2.1 ≠ (TX5 b).2.1 := by decide +kernel
theorem tyX5_ok : ∀ k, k < 5 → parseFieldDescriptor (TX5 k).2.2.1 = some (tyX5 k) := by decide +kernel
abbrev cX5_init : ByteArray := prog_7_method_1_code
def yX5_init : MethodName := ⟨RX5, "<init>", "()V"⟩
abbrev cX5_layOut : ByteArray := prog_7_method_2_code
def yX5_layOut : MethodName := ⟨RX5, "layOut", "()V"⟩
abbrev cX5_copyFrom : ByteArray := prog_7_method_3_code
def yX5_copyFrom : MethodName := ⟨RX5, "copyFrom", "(LPileTricks$Table;)V"⟩
abbrev cX5_take : ByteArray := prog_7_method_4_code
def yX5_take : MethodName := ⟨RX5, "take", "(I)V"⟩
abbrev cX5_dealLast : ByteArray := prog_7_method_5_code
def yX5_dealLast : MethodName := ⟨RX5, "dealLast", "(LPileTricks$Dealer;[I)V"⟩
abbrev cX5_gatherLast : ByteArray := prog_7_method_6_code
def yX5_gatherLast : MethodName := ⟨RX5, "gatherLast", "(LPileTricks$Dealer;[I)V"⟩
abbrev cX5_comesBy : ByteArray := prog_7_method_7_code
def yX5_comesBy : MethodName := ⟨RX5, "comesBy", "(ILPileTricks$Dealer;)Z"⟩
abbrev cX5_fitting : ByteArray := prog_7_method_8_code
def yX5_fitting : MethodName := ⟨RX5, "fitting", "(LPileTricks$Setting;)J"⟩
abbrev cX5_layBy : ByteArray := prog_7_method_9_code
def yX5_layBy : MethodName := ⟨RX5, "layBy", "(ILPileTricks$Dealer;)V"⟩
abbrev cX5_falseAt : ByteArray := prog_7_method_10_code
def yX5_falseAt : MethodName := ⟨RX5, "falseAt", "(IILPileTricks$Dealer;)I"⟩
def RX6 : String := "PileTricks$Tape"
def TX6 : u_T := fun k => match k with
  | 0 => ("PileTricks$Tape", "bytes", "[B", true)
  | 1 => ("PileTricks$Tape", "length", "I", false)
  | 2 => ("PileTricks$Tape", "textEnd", "I", false)
  | 3 => ("PileTricks$Tape", "next", "I", false)
  | 4 => ("PileTricks$Tape", "start", "I", false)
  | 5 => ("PileTricks$Tape", "type", "I", false)
  | 6 => ("PileTricks$Tape", "word", "LPileTricks$Word;", false)
  | 7 => ("PileTricks$Tape", "number", "I", false)
  | _ => ("PileTricks$Tape", "sign", "I", false)
def tyX6 : Nat → FieldType := fun k => match k with
  | 0 => .array .byte
  | 1 => .int
  | 2 => .int
  | 3 => .int
  | 4 => .int
  | 5 => .int
  | 6 => .object "PileTricks$Word"
  | 7 => .int
  | _ => .int
abbrev wsX60 : List Cond := u_ws RX6 TX6 9
theorem nmX6 : ∀ a, a < 9 → ∀ b, b < 9 → a ≠ b → (TX6 a).2.1 ≠ (TX6 b).2.1 := by decide +kernel
theorem tyX6_ok : ∀ k, k < 9 → parseFieldDescriptor (TX6 k).2.2.1 = some (tyX6 k) := by decide +kernel
abbrev cX6_init : ByteArray := prog_8_method_1_code
def yX6_init : MethodName := ⟨RX6, "<init>", "()V"⟩
abbrev cX6_append : ByteArray := prog_8_method_2_code
def yX6_append : MethodName := ⟨RX6, "append", "(I)V"⟩
abbrev cX6_openText : ByteArray := prog_8_method_3_code
def yX6_openText : MethodName := ⟨RX6, "openText", "(I)V"⟩
abbrev cX6_advance : ByteArray := prog_8_method_4_code
def yX6_advance : MethodName := ⟨RX6, "advance", "()V"⟩
abbrev cX6_takeWord : ByteArray := prog_8_method_5_code
def yX6_takeWord : MethodName := ⟨RX6, "takeWord", "()V"⟩
abbrev cX6_takeNumber : ByteArray := prog_8_method_6_code
def yX6_takeNumber : MethodName := ⟨RX6, "takeNumber", "()V"⟩
abbrev cX6_isLongNumber : ByteArray := prog_8_method_7_code
def yX6_isLongNumber : MethodName := ⟨RX6, "isLongNumber", "()Z"⟩
abbrev cX6_isSpelled : ByteArray := prog_8_method_8_code
def yX6_isSpelled : MethodName := ⟨RX6, "isSpelled", "(Ljava/lang/String;)Z"⟩
abbrev cX6_byteAt : ByteArray := prog_8_method_9_code
def yX6_byteAt : MethodName := ⟨RX6, "byteAt", "(I)I"⟩
abbrev cX6_isBlank : ByteArray := prog_8_method_10_code
def yX6_isBlank : MethodName := ⟨RX6, "isBlank", "(I)Z"⟩
abbrev cX6_isLetter : ByteArray := prog_8_method_11_code
def yX6_isLetter : MethodName := ⟨RX6, "isLetter", "(I)Z"⟩
abbrev cX6_isDigit : ByteArray := prog_8_method_12_code
def yX6_isDigit : MethodName := ⟨RX6, "isDigit", "(I)Z"⟩
def RX7 : String := "PileTricks$Wishes"
def TX7 : u_T := fun k => match k with
  | 0 => ("PileTricks$Wishes", "setting", "LPileTricks$Setting;", true)
  | 1 => ("PileTricks$Wishes", "dealer", "LPileTricks$Dealer;", true)
  | 2 => ("PileTricks$Wishes", "deals", "I", false)
  | 3 => ("PileTricks$Wishes", "rows", "I", false)
  | 4 => ("PileTricks$Wishes", "firstRow", "I", false)
  | 5 => ("PileTricks$Wishes", "keptRow", "I", false)
  | _ => ("PileTricks$Wishes", "keptLength", "I", false)
def tyX7 : Nat → FieldType := fun k => match k with
  | 0 => .object "PileTricks$Setting"
  | 1 => .object "PileTricks$Dealer"
  | 2 => .int
  | 3 => .int
  | 4 => .int
  | 5 => .int
  | _ => .int
abbrev wsX70 : List Cond := u_ws RX7 TX7 7
theorem nmX7 : ∀ a, a < 7 → ∀ b, b < 7 → a ≠ b → (TX7 a).2.1 ≠ (TX7 b).2.1 := by decide +kernel
theorem tyX7_ok : ∀ k, k < 7 → parseFieldDescriptor (TX7 k).2.2.1 = some (tyX7 k) := by decide +kernel
abbrev cX7_init : ByteArray := prog_9_method_1_code
def yX7_init : MethodName := ⟨RX7, "<init>", "(LPileTricks$Setting;LPileTricks$Dealer;)V"⟩
abbrev cX7_rowsFor : ByteArray := prog_9_method_2_code
def yX7_rowsFor : MethodName := ⟨RX7, "rowsFor", "(II)I"⟩
abbrev cX7_keepFirst : ByteArray := prog_9_method_3_code
def yX7_keepFirst : MethodName := ⟨RX7, "keepFirst", "()V"⟩
abbrev cX7_keptLaying : ByteArray := prog_9_method_4_code
def yX7_keptLaying : MethodName := ⟨RX7, "keptLaying", "(I)I"⟩
abbrev cX7_seek : ByteArray := prog_9_method_5_code
def yX7_seek : MethodName := ⟨RX7, "seek", "(IJII)V"⟩
abbrev cX7_comesFrom : ByteArray := prog_9_method_6_code
def yX7_comesFrom : MethodName := ⟨RX7, "comesFrom", "(IIJ)J"⟩
def RX8 : String := "PileTricks$Word"
def TX8 : u_T := fun k => match k with
  | _ => ("", "", "", false)
def tyX8 : Nat → FieldType := fun k => match k with
  | _ => .int
abbrev wsX80 : List Cond := u_ws RX8 TX8 0
theorem nmX8 : ∀ a, a < 0 → ∀ b, b < 0 → a ≠ b → (TX8 a).2.1 ≠ (TX8 b).2.1 := by decide +kernel
theorem tyX8_ok : ∀ k, k < 0 → parseFieldDescriptor (TX8 k).2.2.1 = some (tyX8 k) := by decide +kernel
def RX9 : String := "PileTricks"
def TX9 : u_T := fun k => match k with
  | 0 => ("PileTricks", "tape", "LPileTricks$Tape;", true)
  | 1 => ("PileTricks", "reader", "LPileTricks$Reader;", true)
  | 2 => ("PileTricks", "dealer", "LPileTricks$Dealer;", true)
  | 3 => ("PileTricks", "setting", "LPileTricks$Setting;", true)
  | 4 => ("PileTricks", "wishes", "LPileTricks$Wishes;", true)
  | 5 => ("PileTricks", "guesses", "LPileTricks$Guesses;", true)
  | 6 => ("PileTricks", "table", "LPileTricks$Table;", true)
  | 7 => ("PileTricks", "kept", "LPileTricks$Table;", true)
  | 8 => ("PileTricks", "ends", "[I", true)
  | 9 => ("PileTricks", "imageKept", "Z", false)
  | 10 => ("PileTricks", "faultAt", "I", false)
  | 11 => ("PileTricks", "faultyTexts", "I", false)
  | _ => ("PileTricks", "refusedAnswers", "I", false)
def tyX9 : Nat → FieldType := fun k => match k with
  | 0 => .object "PileTricks$Tape"
  | 1 => .object "PileTricks$Reader"
  | 2 => .object "PileTricks$Dealer"
  | 3 => .object "PileTricks$Setting"
  | 4 => .object "PileTricks$Wishes"
  | 5 => .object "PileTricks$Guesses"
  | 6 => .object "PileTricks$Table"
  | 7 => .object "PileTricks$Table"
  | 8 => .array .int
  | 9 => .boolean
  | 10 => .int
  | 11 => .int
  | _ => .int
abbrev wsX90 : List Cond := u_ws RX9 TX9 13
theorem nmX9 : ∀ a, a < 13 → ∀ b, b < 13 → a ≠ b → (TX9 a).2.1 ≠ (TX9 b).2.1 := by decide +kernel
theorem tyX9_ok : ∀ k, k < 13 → parseFieldDescriptor (TX9 k).2.2.1 = some (tyX9 k) := by decide +kernel
abbrev cX9_init : ByteArray := prog_1_method_1_code
def yX9_init : MethodName := ⟨RX9, "<init>", "()V"⟩
abbrev cX9_feed : ByteArray := prog_1_method_2_code
def yX9_feed : MethodName := ⟨RX9, "feed", "(IIIII)I"⟩
abbrev cX9_trick : ByteArray := prog_1_method_3_code
def yX9_trick : MethodName := ⟨RX9, "trick", "(I)I"⟩
abbrev cX9_fault : ByteArray := prog_1_method_4_code
def yX9_fault : MethodName := ⟨RX9, "fault", "()I"⟩
abbrev cX9_count : ByteArray := prog_1_method_5_code
def yX9_count : MethodName := ⟨RX9, "count", "(I)I"⟩
abbrev cX9_told : ByteArray := prog_1_method_6_code
def yX9_told : MethodName := ⟨RX9, "told", "(III)I"⟩
abbrev cX9_goes : ByteArray := prog_1_method_7_code
def yX9_goes : MethodName := ⟨RX9, "goes", "(III)I"⟩
abbrev cX9_end : ByteArray := prog_1_method_8_code
def yX9_end : MethodName := ⟨RX9, "end", "(II)I"⟩
abbrev cX9_sure : ByteArray := prog_1_method_9_code
def yX9_sure : MethodName := ⟨RX9, "sure", "(I)I"⟩
abbrev cX9_soonest : ByteArray := prog_1_method_10_code
def yX9_soonest : MethodName := ⟨RX9, "soonest", "()I"⟩
abbrev cX9_wished : ByteArray := prog_1_method_11_code
def yX9_wished : MethodName := ⟨RX9, "wished", "(II)I"⟩
abbrev cX9_laying : ByteArray := prog_1_method_12_code
def yX9_laying : MethodName := ⟨RX9, "laying", "(I)I"⟩
abbrev cX9_fewest : ByteArray := prog_1_method_13_code
def yX9_fewest : MethodName := ⟨RX9, "fewest", "(I)I"⟩
abbrev cX9_always : ByteArray := prog_1_method_14_code
def yX9_always : MethodName := ⟨RX9, "always", "(IIII)J"⟩
abbrev cX9_two : ByteArray := prog_1_method_15_code
def yX9_two : MethodName := ⟨RX9, "two", "(III)I"⟩
abbrev cX9_worst : ByteArray := prog_1_method_16_code
def yX9_worst : MethodName := ⟨RX9, "worst", "(I)I"⟩
abbrev cX9_card : ByteArray := prog_1_method_17_code
def yX9_card : MethodName := ⟨RX9, "card", "(I)I"⟩
abbrev cX9_answer : ByteArray := prog_1_method_18_code
def yX9_answer : MethodName := ⟨RX9, "answer", "(IIII)I"⟩
abbrev cX9_undo : ByteArray := prog_1_method_19_code
def yX9_undo : MethodName := ⟨RX9, "undo", "()I"⟩
abbrev cX9_lies : ByteArray := prog_1_method_20_code
def yX9_lies : MethodName := ⟨RX9, "lies", "(I)I"⟩
abbrev cX9_fits : ByteArray := prog_1_method_21_code
def yX9_fits : MethodName := ⟨RX9, "fits", "()J"⟩
abbrev cX9_see : ByteArray := prog_1_method_22_code
def yX9_see : MethodName := ⟨RX9, "see", "()V"⟩
abbrev cX9_between : ByteArray := prog_1_method_23_code
def yX9_between : MethodName := ⟨RX9, "between", "(I)I"⟩
abbrev cX9_evenings : ByteArray := prog_1_method_24_code
def yX9_evenings : MethodName := ⟨RX9, "evenings", "(III)I"⟩
abbrev cX9_weighings : ByteArray := prog_1_method_25_code
def yX9_weighings : MethodName := ⟨RX9, "weighings", "(IZ)I"⟩
abbrev cX9_image : ByteArray := prog_1_method_26_code
def yX9_image : MethodName := ⟨RX9, "image", "()V"⟩
abbrev cX9_restore : ByteArray := prog_1_method_27_code
def yX9_restore : MethodName := ⟨RX9, "restore", "()Z"⟩
abbrev cX9_startAnew : ByteArray := prog_1_method_28_code
def yX9_startAnew : MethodName := ⟨RX9, "startAnew", "()V"⟩
abbrev cX9_startEnds : ByteArray := prog_1_method_29_code
def yX9_startEnds : MethodName := ⟨RX9, "startEnds", "()V"⟩
abbrev cX9_moveEnds : ByteArray := prog_1_method_30_code
def yX9_moveEnds : MethodName := ⟨RX9, "moveEnds", "(I)V"⟩
abbrev cX9_commonEnd : ByteArray := prog_1_method_31_code
def yX9_commonEnd : MethodName := ⟨RX9, "commonEnd", "()I"⟩
abbrev cX9_roundFrom : ByteArray := prog_1_method_32_code
def yX9_roundFrom : MethodName := ⟨RX9, "roundFrom", "(I)J"⟩
abbrev cX9_isDeal : ByteArray := prog_1_method_33_code
def yX9_isDeal : MethodName := ⟨RX9, "isDeal", "(I)Z"⟩
abbrev cX9_dealCode : ByteArray := prog_1_method_34_code
def yX9_dealCode : MethodName := ⟨RX9, "dealCode", "(IIII)I"⟩
abbrev cX9_figure : ByteArray := prog_1_method_35_code
def yX9_figure : MethodName := ⟨RX9, "figure", "(II)I"⟩
abbrev cX9_isWithin : ByteArray := prog_1_method_36_code
def yX9_isWithin : MethodName := ⟨RX9, "isWithin", "(III)Z"⟩
abbrev cX9_power : ByteArray := prog_1_method_37_code
def yX9_power : MethodName := ⟨RX9, "power", "(II)I"⟩
abbrev cX9_leastCommonMultiple : ByteArray := prog_1_method_38_code
def yX9_leastCommonMultiple : MethodName := ⟨RX9, "leastCommonMultiple", "(JJ)J"⟩
abbrev cX9_rest : ByteArray := prog_1_method_39_code
def yX9_rest : MethodName := ⟨RX9, "rest", "(II)I"⟩
abbrev cX9_share : ByteArray := prog_1_method_40_code
def yX9_share : MethodName := ⟨RX9, "share", "(II)I"⟩
abbrev cX9_at : ByteArray := prog_1_method_41_code
def yX9_at : MethodName := ⟨RX9, "at", "([II)I"⟩
abbrev cX9_put : ByteArray := prog_1_method_42_code
def yX9_put : MethodName := ⟨RX9, "put", "([III)V"⟩
abbrev cX9_copy : ByteArray := prog_1_method_43_code
def yX9_copy : MethodName := ⟨RX9, "copy", "([I[I)V"⟩
def RX10 : String := "PileTricksModel"
def TX10 : u_T := fun k => match k with
  | 0 => ("PileTricksModel", "thrown", "I", false)
  | 1 => ("PileTricksModel", "cards", "I", false)
  | 2 => ("PileTricksModel", "heaps", "I", false)
  | 3 => ("PileTricksModel", "deals", "I", false)
  | 4 => ("PileTricksModel", "most", "I", false)
  | 5 => ("PileTricksModel", "wish", "I", false)
  | 6 => ("PileTricksModel", "kind", "[I", true)
  | 7 => ("PileTricksModel", "side", "[I", true)
  | 8 => ("PileTricksModel", "ruleAt", "[I", true)
  | 9 => ("PileTricksModel", "code", "[I", true)
  | 10 => ("PileTricksModel", "tape", "[I", true)
  | 11 => ("PileTricksModel", "taped", "I", false)
  | 12 => ("PileTricksModel", "faultKind", "I", false)
  | 13 => ("PileTricksModel", "faultPlace", "I", false)
  | 14 => ("PileTricksModel", "refused", "[I", true)
  | 15 => ("PileTricksModel", "long1", "I", false)
  | 16 => ("PileTricksModel", "next", "I", false)
  | 17 => ("PileTricksModel", "sort", "I", false)
  | 18 => ("PileTricksModel", "place", "I", false)
  | 19 => ("PileTricksModel", "long0", "I", false)
  | 20 => ("PileTricksModel", "value", "I", false)
  | 21 => ("PileTricksModel", "sign", "I", false)
  | 22 => ("PileTricksModel", "word", "J", false)
  | 23 => ("PileTricksModel", "newCards", "I", false)
  | 24 => ("PileTricksModel", "newHeaps", "I", false)
  | 25 => ("PileTricksModel", "newDeals", "I", false)
  | 26 => ("PileTricksModel", "newMost", "I", false)
  | 27 => ("PileTricksModel", "newWish", "I", false)
  | 28 => ("PileTricksModel", "toldOnce", "I", false)
  | 29 => ("PileTricksModel", "top", "I", false)
  | 30 => ("PileTricksModel", "waiting", "I", false)
  | 31 => ("PileTricksModel", "depth", "I", false)
  | 32 => ("PileTricksModel", "newKind", "[I", true)
  | 33 => ("PileTricksModel", "newSide", "[I", true)
  | 34 => ("PileTricksModel", "newRuleAt", "[I", true)
  | 35 => ("PileTricksModel", "readCode", "[I", true)
  | 36 => ("PileTricksModel", "waits", "[I", true)
  | 37 => ("PileTricksModel", "tested", "[Z", true)
  | 38 => ("PileTricksModel", "heapOf", "[I", true)
  | 39 => ("PileTricksModel", "ahead", "[I", true)
  | 40 => ("PileTricksModel", "sizes", "[I", true)
  | 41 => ("PileTricksModel", "firsts", "[I", true)
  | 42 => ("PileTricksModel", "order", "[I", true)
  | 43 => ("PileTricksModel", "pile", "[I", true)
  | 44 => ("PileTricksModel", "ends", "[I", true)
  | 45 => ("PileTricksModel", "then", "[I", true)
  | 46 => ("PileTricksModel", "rowAt", "[I", true)
  | 47 => ("PileTricksModel", "kept", "[I", true)
  | 48 => ("PileTricksModel", "keptLong", "I", false)
  | 49 => ("PileTricksModel", "found", "I", false)
  | 50 => ("PileTricksModel", "lying", "[I", true)
  | 51 => ("PileTricksModel", "wrongs", "[I", true)
  | 52 => ("PileTricksModel", "answers", "I", false)
  | 53 => ("PileTricksModel", "pack", "[I", true)
  | 54 => ("PileTricksModel", "seen", "[I", true)
  | 55 => ("PileTricksModel", "missed", "[I", true)
  | 56 => ("PileTricksModel", "packs", "[I", true)
  | 57 => ("PileTricksModel", "misses", "[I", true)
  | 58 => ("PileTricksModel", "laid", "[I", true)
  | 59 => ("PileTricksModel", "hasImage", "Z", false)
  | 60 => ("PileTricksModel", "imageAnswers", "I", false)
  | 61 => ("PileTricksModel", "imagePack", "[I", true)
  | 62 => ("PileTricksModel", "imageSeen", "[I", true)
  | 63 => ("PileTricksModel", "imageMissed", "[I", true)
  | 64 => ("PileTricksModel", "imagePacks", "[I", true)
  | _ => ("PileTricksModel", "imageMisses", "[I", true)
def tyX10 : Nat → FieldType := fun k => match k with
  | 0 => .int
  | 1 => .int
  | 2 => .int
  | 3 => .int
  | 4 => .int
  | 5 => .int
  | 6 => .array .int
  | 7 => .array .int
  | 8 => .array .int
  | 9 => .array .int
  | 10 => .array .int
  | 11 => .int
  | 12 => .int
  | 13 => .int
  | 14 => .array .int
  | 15 => .int
  | 16 => .int
  | 17 => .int
  | 18 => .int
  | 19 => .int
  | 20 => .int
  | 21 => .int
  | 22 => .long
  | 23 => .int
  | 24 => .int
  | 25 => .int
  | 26 => .int
  | 27 => .int
  | 28 => .int
  | 29 => .int
  | 30 => .int
  | 31 => .int
  | 32 => .array .int
  | 33 => .array .int
  | 34 => .array .int
  | 35 => .array .int
  | 36 => .array .int
  | 37 => .array .boolean
  | 38 => .array .int
  | 39 => .array .int
  | 40 => .array .int
  | 41 => .array .int
  | 42 => .array .int
  | 43 => .array .int
  | 44 => .array .int
  | 45 => .array .int
  | 46 => .array .int
  | 47 => .array .int
  | 48 => .int
  | 49 => .int
  | 50 => .array .int
  | 51 => .array .int
  | 52 => .int
  | 53 => .array .int
  | 54 => .array .int
  | 55 => .array .int
  | 56 => .array .int
  | 57 => .array .int
  | 58 => .array .int
  | 59 => .boolean
  | 60 => .int
  | 61 => .array .int
  | 62 => .array .int
  | 63 => .array .int
  | 64 => .array .int
  | _ => .array .int
abbrev wsX100 : List Cond := u_ws RX10 TX10 66
theorem nmX10 : ∀ a, a < 66 → ∀ b, b < 66 → a ≠ b → (TX10 a).2.1 ≠ (TX10 b).2.1 := by decide +kernel
theorem tyX10_ok : ∀ k, k < 66 → parseFieldDescriptor (TX10 k).2.2.1 = some (tyX10 k) := by decide +kernel
abbrev cX10_init : ByteArray := prog_12_method_1_code
def yX10_init : MethodName := ⟨RX10, "<init>", "()V"⟩
abbrev cX10_thrown : ByteArray := prog_12_method_2_code
def yX10_thrown : MethodName := ⟨RX10, "thrown", "()I"⟩
abbrev cX10_right : ByteArray := prog_12_method_3_code
def yX10_right : MethodName := ⟨RX10, "right", "(ZI)Z"⟩
abbrev cX10_within : ByteArray := prog_12_method_4_code
def yX10_within : MethodName := ⟨RX10, "within", "(III)Z"⟩
abbrev cX10_copies : ByteArray := prog_12_method_5_code
def yX10_copies : MethodName := ⟨RX10, "copies", "([I[I)V"⟩
abbrev cX10_feed : ByteArray := prog_12_method_6_code
def yX10_feed : MethodName := ⟨RX10, "feed", "(IIIII)I"⟩
abbrev cX10_lays : ByteArray := prog_12_method_7_code
def yX10_lays : MethodName := ⟨RX10, "lays", "(I)V"⟩
abbrev cX10_byteAt : ByteArray := prog_12_method_8_code
def yX10_byteAt : MethodName := ⟨RX10, "byteAt", "(I)I"⟩
abbrev cX10_isLetter : ByteArray := prog_12_method_9_code
def yX10_isLetter : MethodName := ⟨RX10, "isLetter", "(I)Z"⟩
abbrev cX10_isDigit : ByteArray := prog_12_method_10_code
def yX10_isDigit : MethodName := ⟨RX10, "isDigit", "(I)Z"⟩
abbrev cX10_goes0 : ByteArray := prog_12_method_11_code
def yX10_goes0 : MethodName := ⟨RX10, "goes0", "()V"⟩
abbrev cX10_spelled : ByteArray := prog_12_method_12_code
def yX10_spelled : MethodName := ⟨RX10, "spelled", "(IIIII)J"⟩
abbrev cX10_letters : ByteArray := prog_12_method_13_code
def yX10_letters : MethodName := ⟨RX10, "letters", "(I)J"⟩
abbrev cX10_knownWord : ByteArray := prog_12_method_14_code
def yX10_knownWord : MethodName := ⟨RX10, "knownWord", "()I"⟩
abbrev cX10_wrong : ByteArray := prog_12_method_15_code
def yX10_wrong : MethodName := ⟨RX10, "wrong", "(I)V"⟩
abbrev cX10_isGood : ByteArray := prog_12_method_16_code
def yX10_isGood : MethodName := ⟨RX10, "isGood", "()Z"⟩
abbrev cX10_isSign : ByteArray := prog_12_method_17_code
def yX10_isSign : MethodName := ⟨RX10, "isSign", "(I)Z"⟩
abbrev cX10_need : ByteArray := prog_12_method_18_code
def yX10_need : MethodName := ⟨RX10, "need", "(Z)V"⟩
abbrev cX10_number : ByteArray := prog_12_method_19_code
def yX10_number : MethodName := ⟨RX10, "number", "(II)I"⟩
abbrev cX10_puts : ByteArray := prog_12_method_20_code
def yX10_puts : MethodName := ⟨RX10, "puts", "(I)V"⟩
abbrev cX10_isOpen : ByteArray := prog_12_method_21_code
def yX10_isOpen : MethodName := ⟨RX10, "isOpen", "(I)Z"⟩
abbrev cX10_strength : ByteArray := prog_12_method_22_code
def yX10_strength : MethodName := ⟨RX10, "strength", "(I)I"⟩
abbrev cX10_drops : ByteArray := prog_12_method_23_code
def yX10_drops : MethodName := ⟨RX10, "drops", "(I)V"⟩
abbrev cX10_waitsFor : ByteArray := prog_12_method_24_code
def yX10_waitsFor : MethodName := ⟨RX10, "waitsFor", "(I)V"⟩
abbrev cX10_part : ByteArray := prog_12_method_25_code
def yX10_part : MethodName := ⟨RX10, "part", "()V"⟩
abbrev cX10_deeper : ByteArray := prog_12_method_26_code
def yX10_deeper : MethodName := ⟨RX10, "deeper", "()V"⟩
abbrev cX10_operand : ByteArray := prog_12_method_27_code
def yX10_operand : MethodName := ⟨RX10, "operand", "(Z)V"⟩
abbrev cX10_isOpened : ByteArray := prog_12_method_28_code
def yX10_isOpened : MethodName := ⟨RX10, "isOpened", "()Z"⟩
abbrev cX10_closes : ByteArray := prog_12_method_29_code
def yX10_closes : MethodName := ⟨RX10, "closes", "()V"⟩
abbrev cX10_expression : ByteArray := prog_12_method_30_code
def yX10_expression : MethodName := ⟨RX10, "expression", "()V"⟩
abbrev cX10_begins : ByteArray := prog_12_method_31_code
def yX10_begins : MethodName := ⟨RX10, "begins", "(I)Z"⟩
abbrev cX10_line : ByteArray := prog_12_method_32_code
def yX10_line : MethodName := ⟨RX10, "line", "()V"⟩
abbrev cX10_trick : ByteArray := prog_12_method_33_code
def yX10_trick : MethodName := ⟨RX10, "trick", "(I)I"⟩
abbrev cX10_anew : ByteArray := prog_12_method_34_code
def yX10_anew : MethodName := ⟨RX10, "anew", "()V"⟩
abbrev cX10_fault : ByteArray := prog_12_method_35_code
def yX10_fault : MethodName := ⟨RX10, "fault", "()I"⟩
abbrev cX10_count : ByteArray := prog_12_method_36_code
def yX10_count : MethodName := ⟨RX10, "count", "(I)I"⟩
abbrev cX10_heapAt : ByteArray := prog_12_method_37_code
def yX10_heapAt : MethodName := ⟨RX10, "heapAt", "(II)I"⟩
abbrev cX10_deals0 : ByteArray := prog_12_method_38_code
def yX10_deals0 : MethodName := ⟨RX10, "deals0", "(II)V"⟩
abbrev cX10_orders : ByteArray := prog_12_method_39_code
def yX10_orders : MethodName := ⟨RX10, "orders", "(III)V"⟩
abbrev cX10_both : ByteArray := prog_12_method_40_code
def yX10_both : MethodName := ⟨RX10, "both", "(III)I"⟩
abbrev cX10_goesTo : ByteArray := prog_12_method_41_code
def yX10_goesTo : MethodName := ⟨RX10, "goesTo", "(I)I"⟩
abbrev cX10_works : ByteArray := prog_12_method_42_code
def yX10_works : MethodName := ⟨RX10, "works", "(III)I"⟩
abbrev cX10_layingOf : ByteArray := prog_12_method_43_code
def yX10_layingOf : MethodName := ⟨RX10, "layingOf", "(II)I"⟩
abbrev cX10_kindOf : ByteArray := prog_12_method_44_code
def yX10_kindOf : MethodName := ⟨RX10, "kindOf", "(I)I"⟩
abbrev cX10_sideOf : ByteArray := prog_12_method_45_code
def yX10_sideOf : MethodName := ⟨RX10, "sideOf", "(I)I"⟩
abbrev cX10_numberOf : ByteArray := prog_12_method_46_code
def yX10_numberOf : MethodName := ⟨RX10, "numberOf", "(I)I"⟩
abbrev cX10_isPlace : ByteArray := prog_12_method_47_code
def yX10_isPlace : MethodName := ⟨RX10, "isPlace", "(I)Z"⟩
abbrev cX10_isHeap : ByteArray := prog_12_method_48_code
def yX10_isHeap : MethodName := ⟨RX10, "isHeap", "(II)Z"⟩
abbrev cX10_isMany : ByteArray := prog_12_method_49_code
def yX10_isMany : MethodName := ⟨RX10, "isMany", "(II)Z"⟩
abbrev cX10_told : ByteArray := prog_12_method_50_code
def yX10_told : MethodName := ⟨RX10, "told", "(III)I"⟩
abbrev cX10_goes : ByteArray := prog_12_method_51_code
def yX10_goes : MethodName := ⟨RX10, "goes", "(III)I"⟩
abbrev cX10_follows : ByteArray := prog_12_method_52_code
def yX10_follows : MethodName := ⟨RX10, "follows", "(II)V"⟩
abbrev cX10_first : ByteArray := prog_12_method_53_code
def yX10_first : MethodName := ⟨RX10, "first", "()V"⟩
abbrev cX10_endsBy : ByteArray := prog_12_method_54_code
def yX10_endsBy : MethodName := ⟨RX10, "endsBy", "(I)V"⟩
abbrev cX10_isOne : ByteArray := prog_12_method_55_code
def yX10_isOne : MethodName := ⟨RX10, "isOne", "()Z"⟩
abbrev cX10_end : ByteArray := prog_12_method_56_code
def yX10_end : MethodName := ⟨RX10, "end", "(II)I"⟩
abbrev cX10_sure : ByteArray := prog_12_method_57_code
def yX10_sure : MethodName := ⟨RX10, "sure", "(I)I"⟩
abbrev cX10_soonest : ByteArray := prog_12_method_58_code
def yX10_soonest : MethodName := ⟨RX10, "soonest", "()I"⟩
abbrev cX10_power : ByteArray := prog_12_method_59_code
def yX10_power : MethodName := ⟨RX10, "power", "(II)I"⟩
abbrev cX10_rowsFor : ByteArray := prog_12_method_60_code
def yX10_rowsFor : MethodName := ⟨RX10, "rowsFor", "(II)I"⟩
abbrev cX10_wished : ByteArray := prog_12_method_61_code
def yX10_wished : MethodName := ⟨RX10, "wished", "(II)I"⟩
abbrev cX10_laying : ByteArray := prog_12_method_62_code
def yX10_laying : MethodName := ⟨RX10, "laying", "(I)I"⟩
abbrev cX10_fewest : ByteArray := prog_12_method_63_code
def yX10_fewest : MethodName := ⟨RX10, "fewest", "(I)I"⟩
abbrev cX10_isDeal : ByteArray := prog_12_method_64_code
def yX10_isDeal : MethodName := ⟨RX10, "isDeal", "(IIII)Z"⟩
abbrev cX10_always : ByteArray := prog_12_method_65_code
def yX10_always : MethodName := ⟨RX10, "always", "(IIII)J"⟩
abbrev cX10_two : ByteArray := prog_12_method_66_code
def yX10_two : MethodName := ⟨RX10, "two", "(III)I"⟩
abbrev cX10_worst : ByteArray := prog_12_method_67_code
def yX10_worst : MethodName := ⟨RX10, "worst", "(I)I"⟩
abbrev cX10_card : ByteArray := prog_12_method_68_code
def yX10_card : MethodName := ⟨RX10, "card", "(I)I"⟩
abbrev cX10_fitting : ByteArray := prog_12_method_69_code
def yX10_fitting : MethodName := ⟨RX10, "fitting", "()I"⟩
abbrev cX10_answer : ByteArray := prog_12_method_70_code
def yX10_answer : MethodName := ⟨RX10, "answer", "(IIII)I"⟩
abbrev cX10_undo : ByteArray := prog_12_method_71_code
def yX10_undo : MethodName := ⟨RX10, "undo", "()I"⟩
abbrev cX10_lies : ByteArray := prog_12_method_72_code
def yX10_lies : MethodName := ⟨RX10, "lies", "(I)I"⟩
abbrev cX10_fits : ByteArray := prog_12_method_73_code
def yX10_fits : MethodName := ⟨RX10, "fits", "()J"⟩
abbrev cX10_see : ByteArray := prog_12_method_74_code
def yX10_see : MethodName := ⟨RX10, "see", "()V"⟩
abbrev cX10_isBetween : ByteArray := prog_12_method_75_code
def yX10_isBetween : MethodName := ⟨RX10, "isBetween", "(IIII)Z"⟩
abbrev cX10_between : ByteArray := prog_12_method_76_code
def yX10_between : MethodName := ⟨RX10, "between", "(I)I"⟩
abbrev cX10_evenings : ByteArray := prog_12_method_77_code
def yX10_evenings : MethodName := ⟨RX10, "evenings", "(III)I"⟩
abbrev cX10_weighings : ByteArray := prog_12_method_78_code
def yX10_weighings : MethodName := ⟨RX10, "weighings", "(IZ)I"⟩
abbrev cX10_image : ByteArray := prog_12_method_79_code
def yX10_image : MethodName := ⟨RX10, "image", "()V"⟩
abbrev cX10_restore : ByteArray := prog_12_method_80_code
def yX10_restore : MethodName := ⟨RX10, "restore", "()Z"⟩
def RJx145de : String := "java/io/Serializable"
def TJx145de : u_T := fun k => match k with
  | _ => ("", "", "", false)
def tyJx145de : Nat → FieldType := fun k => match k with
  | _ => .int
abbrev wsJx145de0 : List Cond := u_ws RJx145de TJx145de 0
theorem nmJx145de : ∀ a, a < 0 → ∀ b, b < 0 → a ≠ b → (TJx145de a).2.1 ≠ (TJx145de b).2.1 := by decide +kernel
theorem tyJx145de_ok : ∀ k, k < 0 → parseFieldDescriptor (TJx145de k).2.2.1 = some (tyJx145de k) := by decide +kernel
def RJx9f9b0 : String := "java/lang/CharSequence"
def TJx9f9b0 : u_T := fun k => match k with
  | _ => ("", "", "", false)
def tyJx9f9b0 : Nat → FieldType := fun k => match k with
  | _ => .int
abbrev wsJx9f9b00 : List Cond := u_ws RJx9f9b0 TJx9f9b0 0
theorem nmJx9f9b0 : ∀ a, a < 0 → ∀ b, b < 0 → a ≠ b → (TJx9f9b0 a).2.1 ≠ (TJx9f9b0 b).2.1 := by decide +kernel
theorem tyJx9f9b0_ok : ∀ k, k < 0 → parseFieldDescriptor (TJx9f9b0 k).2.2.1 = some (tyJx9f9b0 k) := by decide +kernel
def RJxb160c : String := "java/lang/Comparable"
def TJxb160c : u_T := fun k => match k with
  | _ => ("", "", "", false)
def tyJxb160c : Nat → FieldType := fun k => match k with
  | _ => .int
abbrev wsJxb160c0 : List Cond := u_ws RJxb160c TJxb160c 0
theorem nmJxb160c : ∀ a, a < 0 → ∀ b, b < 0 → a ≠ b → (TJxb160c a).2.1 ≠ (TJxb160c b).2.1 := by decide +kernel
theorem tyJxb160c_ok : ∀ k, k < 0 → parseFieldDescriptor (TJxb160c k).2.2.1 = some (tyJxb160c k) := by decide +kernel
def RJx29ce0 : String := "java/lang/Enum"
def TJx29ce0 : u_T := fun k => match k with
  | _ => ("", "", "", false)
def tyJx29ce0 : Nat → FieldType := fun k => match k with
  | _ => .int
abbrev wsJx29ce00 : List Cond := u_ws RJx29ce0 TJx29ce0 0
theorem nmJx29ce0 : ∀ a, a < 0 → ∀ b, b < 0 → a ≠ b → (TJx29ce0 a).2.1 ≠ (TJx29ce0 b).2.1 := by decide +kernel
theorem tyJx29ce0_ok : ∀ k, k < 0 → parseFieldDescriptor (TJx29ce0 k).2.2.1 = some (tyJx29ce0 k) := by decide +kernel
def RJ13 : String := "java/lang/Long"
def TJ13 : u_T := fun k => match k with
  | _ => ("", "", "", false)
def tyJ13 : Nat → FieldType := fun k => match k with
  | _ => .int
abbrev wsJ130 : List Cond := u_ws RJ13 TJ13 0
theorem nmJ13 : ∀ a, a < 0 → ∀ b, b < 0 → a ≠ b → (TJ13 a).2.1 ≠ (TJ13 b).2.1 := by decide +kernel
theorem tyJ13_ok : ∀ k, k < 0 → parseFieldDescriptor (TJ13 k).2.2.1 = some (tyJ13 k) := by decide +kernel
abbrev cJ13_bitCount_95d88 : ByteArray := prog_19_method_50_code
def yJ13_bitCount_95d88 : MethodName := ⟨RJ13, "bitCount", "(J)I"⟩
def RJ9 : String := "java/lang/Math"
def TJ9 : u_T := fun k => match k with
  | _ => ("", "", "", false)
def tyJ9 : Nat → FieldType := fun k => match k with
  | _ => .int
abbrev wsJ90 : List Cond := u_ws RJ9 TJ9 0
theorem nmJ9 : ∀ a, a < 0 → ∀ b, b < 0 → a ≠ b → (TJ9 a).2.1 ≠ (TJ9 b).2.1 := by decide +kernel
theorem tyJ9_ok : ∀ k, k < 0 → parseFieldDescriptor (TJ9 k).2.2.1 = some (tyJ9 k) := by decide +kernel
abbrev cJ9_floorMod_7cf53 : ByteArray := prog_20_method_50_code
def yJ9_floorMod_7cf53 : MethodName := ⟨RJ9, "floorMod", "(II)I"⟩
abbrev cJ9_max_7cf53 : ByteArray := prog_20_method_65_code
def yJ9_max_7cf53 : MethodName := ⟨RJ9, "max", "(II)I"⟩
abbrev cJ9_min_7cf53 : ByteArray := prog_20_method_69_code
def yJ9_min_7cf53 : MethodName := ⟨RJ9, "min", "(II)I"⟩
def RJ0 : String := "java/lang/String"
def TJ0 : u_T := fun k => match k with
  | _ => ("", "", "", false)
def tyJ0 : Nat → FieldType := fun k => match k with
  | _ => .int
abbrev wsJ00 : List Cond := u_ws RJ0 TJ0 0
theorem nmJ0 : ∀ a, a < 0 → ∀ b, b < 0 → a ≠ b → (TJ0 a).2.1 ≠ (TJ0 b).2.1 := by decide +kernel
theorem tyJ0_ok : ∀ k, k < 0 → parseFieldDescriptor (TJ0 k).2.2.1 = some (tyJ0 k) := by decide +kernel
abbrev cJ0_length_8abf5 : ByteArray := prog_22_method_54_code
def yJ0_length_8abf5 : MethodName := ⟨RJ0, "length", "()I"⟩
abbrev cJ0_charAt_5068e : ByteArray := prog_22_method_56_code
def yJ0_charAt_5068e : MethodName := ⟨RJ0, "charAt", "(I)C"⟩
abbrev cJ0_coder_7d493 : ByteArray := prog_22_method_152_code
def yJ0_coder_7d493 : MethodName := ⟨RJ0, "coder", "()B"⟩
abbrev cJ0_isLatin1_aae02 : ByteArray := prog_22_method_154_code
def yJ0_isLatin1_aae02 : MethodName := ⟨RJ0, "isLatin1", "()Z"⟩
abbrev cJ0_checkIndex_df160 : ByteArray := prog_22_method_155_code
def yJ0_checkIndex_df160 : MethodName := ⟨RJ0, "checkIndex", "(II)V"⟩
def RJ1 : String := "java/lang/StringLatin1"
def TJ1 : u_T := fun k => match k with
  | _ => ("", "", "", false)
def tyJ1 : Nat → FieldType := fun k => match k with
  | _ => .int
abbrev wsJ10 : List Cond := u_ws RJ1 TJ1 0
theorem nmJ1 : ∀ a, a < 0 → ∀ b, b < 0 → a ≠ b → (TJ1 a).2.1 ≠ (TJ1 b).2.1 := by decide +kernel
theorem tyJ1_ok : ∀ k, k < 0 → parseFieldDescriptor (TJ1 k).2.2.1 = some (tyJ1 k) := by decide +kernel
abbrev cJ1_charAt_3b067 : ByteArray := prog_23_method_2_code
def yJ1_charAt_3b067 : MethodName := ⟨RJ1, "charAt", "([BI)C"⟩
def RJ2 : String := "java/lang/StringUTF16"
def TJ2 : u_T := fun k => match k with
  | _ => ("", "", "", false)
def tyJ2 : Nat → FieldType := fun k => match k with
  | _ => .int
abbrev wsJ20 : List Cond := u_ws RJ2 TJ2 0
theorem nmJ2 : ∀ a, a < 0 → ∀ b, b < 0 → a ≠ b → (TJ2 a).2.1 ≠ (TJ2 b).2.1 := by decide +kernel
theorem tyJ2_ok : ∀ k, k < 0 → parseFieldDescriptor (TJ2 k).2.2.1 = some (tyJ2 k) := by decide +kernel
abbrev cJ2_getChar_3b067 : ByteArray := prog_24_method_5_code
def yJ2_getChar_3b067 : MethodName := ⟨RJ2, "getChar", "([BI)C"⟩
abbrev cJ2_length_9d52b : ByteArray := prog_24_method_6_code
def yJ2_length_9d52b : MethodName := ⟨RJ2, "length", "([B)I"⟩
abbrev cJ2_charAt_3b067 : ByteArray := prog_24_method_83_code
def yJ2_charAt_3b067 : MethodName := ⟨RJ2, "charAt", "([BI)C"⟩
abbrev cJ2_checkIndex_2214a : ByteArray := prog_24_method_91_code
def yJ2_checkIndex_2214a : MethodName := ⟨RJ2, "checkIndex", "(I[B)V"⟩
def RJ10 : String := "java/lang/System"
def TJ10 : u_T := fun k => match k with
  | _ => ("", "", "", false)
def tyJ10 : Nat → FieldType := fun k => match k with
  | _ => .int
abbrev wsJ100 : List Cond := u_ws RJ10 TJ10 0
theorem nmJ10 : ∀ a, a < 0 → ∀ b, b < 0 → a ≠ b → (TJ10 a).2.1 ≠ (TJ10 b).2.1 := by decide +kernel
theorem tyJ10_ok : ∀ k, k < 0 → parseFieldDescriptor (TJ10 k).2.2.1 = some (tyJ10 k) := by decide +kernel
def RJxfd54e : String := "java/lang/constant/Constable"
def TJxfd54e : u_T := fun k => match k with
  | _ => ("", "", "", false)
def tyJxfd54e : Nat → FieldType := fun k => match k with
  | _ => .int
abbrev wsJxfd54e0 : List Cond := u_ws RJxfd54e TJxfd54e 0
theorem nmJxfd54e : ∀ a, a < 0 → ∀ b, b < 0 → a ≠ b → (TJxfd54e a).2.1 ≠ (TJxfd54e b).2.1 := by decide +kernel
theorem tyJxfd54e_ok : ∀ k, k < 0 → parseFieldDescriptor (TJxfd54e k).2.2.1 = some (tyJxfd54e k) := by decide +kernel
def RJx3cf43 : String := "java/lang/constant/ConstantDesc"
def TJx3cf43 : u_T := fun k => match k with
  | _ => ("", "", "", false)
def tyJx3cf43 : Nat → FieldType := fun k => match k with
  | _ => .int
abbrev wsJx3cf430 : List Cond := u_ws RJx3cf43 TJx3cf43 0
theorem nmJx3cf43 : ∀ a, a < 0 → ∀ b, b < 0 → a ≠ b → (TJx3cf43 a).2.1 ≠ (TJx3cf43 b).2.1 := by decide +kernel
theorem tyJx3cf43_ok : ∀ k, k < 0 → parseFieldDescriptor (TJx3cf43 k).2.2.1 = some (tyJx3cf43 k) := by decide +kernel
def RJ7 : String := "java/util/Arrays"
def TJ7 : u_T := fun k => match k with
  | _ => ("", "", "", false)
def tyJ7 : Nat → FieldType := fun k => match k with
  | _ => .int
abbrev wsJ70 : List Cond := u_ws RJ7 TJ7 0
theorem nmJ7 : ∀ a, a < 0 → ∀ b, b < 0 → a ≠ b → (TJ7 a).2.1 ≠ (TJ7 b).2.1 := by decide +kernel
theorem tyJ7_ok : ∀ k, k < 0 → parseFieldDescriptor (TJ7 k).2.2.1 = some (tyJ7 k) := by decide +kernel
abbrev cJ7_fill_53178 : ByteArray := prog_29_method_103_code
def yJ7_fill_53178 : MethodName := ⟨RJ7, "fill", "([II)V"⟩
def RJ3 : String := "jdk/internal/util/Preconditions"
def TJ3 : u_T := fun k => match k with
  | _ => ("", "", "", false)
def tyJ3 : Nat → FieldType := fun k => match k with
  | _ => .int
abbrev wsJ30 : List Cond := u_ws RJ3 TJ3 0
theorem nmJ3 : ∀ a, a < 0 → ∀ b, b < 0 → a ≠ b → (TJ3 a).2.1 ≠ (TJ3 b).2.1 := by decide +kernel
theorem tyJ3_ok : ∀ k, k < 0 → parseFieldDescriptor (TJ3 k).2.2.1 = some (tyJ3 k) := by decide +kernel
abbrev cJ3_checkIndex_8e157 : ByteArray := prog_31_method_11_code
def yJ3_checkIndex_8e157 : MethodName := ⟨RJ3, "checkIndex", "(IILjava/util/function/BiFunction;)I"⟩
def RL : String := "PileTricksLaw"
abbrev cL_trick : ByteArray := method_3_code
def yL_trick : MethodName := ⟨RL, "trick", "(LPileTricks;I[J)I"⟩
abbrev cL_count : ByteArray := method_4_code
def yL_count : MethodName := ⟨RL, "count", "(LPileTricks;I[J)I"⟩
abbrev cL_told : ByteArray := method_5_code
def yL_told : MethodName := ⟨RL, "told", "(LPileTricks;III[J)I"⟩
abbrev cL_goes : ByteArray := method_6_code
def yL_goes : MethodName := ⟨RL, "goes", "(LPileTricks;III[J)I"⟩
abbrev cL_end : ByteArray := method_7_code
def yL_end : MethodName := ⟨RL, "end", "(LPileTricks;II[J)I"⟩
abbrev cL_sure : ByteArray := method_8_code
def yL_sure : MethodName := ⟨RL, "sure", "(LPileTricks;I[J)I"⟩
abbrev cL_wished : ByteArray := method_9_code
def yL_wished : MethodName := ⟨RL, "wished", "(LPileTricks;II[J)I"⟩
abbrev cL_laying : ByteArray := method_10_code
def yL_laying : MethodName := ⟨RL, "laying", "(LPileTricks;I[J)I"⟩
abbrev cL_fewest : ByteArray := method_11_code
def yL_fewest : MethodName := ⟨RL, "fewest", "(LPileTricks;I[J)I"⟩
abbrev cL_always : ByteArray := method_12_code
def yL_always : MethodName := ⟨RL, "always", "(LPileTricks;IIII[J)I"⟩
abbrev cL_two : ByteArray := method_13_code
def yL_two : MethodName := ⟨RL, "two", "(LPileTricks;III[J)I"⟩
abbrev cL_worst : ByteArray := method_14_code
def yL_worst : MethodName := ⟨RL, "worst", "(LPileTricks;I[J)I"⟩
abbrev cL_card : ByteArray := method_15_code
def yL_card : MethodName := ⟨RL, "card", "(LPileTricks;I[J)I"⟩
abbrev cL_lies : ByteArray := method_16_code
def yL_lies : MethodName := ⟨RL, "lies", "(LPileTricks;I[J)I"⟩
abbrev cL_between : ByteArray := method_17_code
def yL_between : MethodName := ⟨RL, "between", "(LPileTricks;I[J)I"⟩
abbrev cL_evenings : ByteArray := method_18_code
def yL_evenings : MethodName := ⟨RL, "evenings", "(LPileTricks;III[J)I"⟩
abbrev cL_weighings : ByteArray := method_19_code
def yL_weighings : MethodName := ⟨RL, "weighings", "(LPileTricks;IZ[J)I"⟩
abbrev cL_law : ByteArray := code
def yL_law : MethodName := ⟨RL, "law", "([I)Z"⟩
abbrev vwCl : List vw_C := [(RX0, TX0, 8), (RX1, TX1, 5), (RX2, TX2, 8), (RX3, TX3, 14), (RX4, TX4, 10), (RX5, TX5, 5), (RX6, TX6, 9), (RX7, TX7, 7), (RX9, TX9, 13), (RX10, TX10, 66)]
end
section
/-! A small machine over worlds of numbered things: shapes, ints, longs, references, each by thing and place. What it runs, the JVM runs (parts behind). -/
abbrev ex_Lo : Type := List (Option Value)
/-- a thing: an object of a class by its number, or an array of a type with so many places -/
abbrev ex_Sh : Type := Nat ⊕ (FieldType × Nat)
/-- shapes, cells and slots made so far; ints, longs, references -/
abbrev ex_W : Type := (List ex_Sh × Nat × Nat) × (Nat → Nat → Int32) × (Nat → Nat → Int64) × (Nat → Nat → Option Nat)
/-- an instruction: its place, its length, itself, what it links, a constant -/
abbrev ex_R : Type := Nat × Nat × Instr × List Nat × Int32
/-- where a run of a method stops: rows left, locals, stack, world -/
abbrev ex_E : Type := List ex_R × ex_Lo × List Value × ex_W
/-- a method: name, code, locals, what it returns, its class, blocks, its table of handlers -/
abbrev ex_M : Type := MethodName × ByteArray × Nat × Option FieldType × String × List (List ex_R) × List (Nat × Nat × Nat × Nat)
/-- a method's answer: what it returned, or the number of the class that it threw -/
abbrev ex_A : Type := (Option Value ⊕ Nat) × ex_W
def ex_set {α : Type} (I : Nat → Nat → α) (a : Nat) (g : Nat → α) : Nat → Nat → α := fun x => if x = a then g else I x
def ex_clr (lo : ex_Lo) (i : Nat) : ex_Lo := match i with
  | 0 => lo
  | j + 1 => match lo[j]? with
    | some (some (.long _)) => lo.set j none
    | _ => lo
def ex_st1 (lo : ex_Lo) (i : Nat) (v : Value) : ex_Lo := (ex_clr lo i).set i (some v)
def ex_st2 (lo : ex_Lo) (i : Nat) (v : Value) : ex_Lo := ((ex_clr lo i).set i (some v)).set (i + 1) none
def ex_ldi (lo : ex_Lo) (i : Nat) (st : List Value) : Option (ex_Lo × List Value) := match lo[i]? with
  | some (some (.int x)) => some (lo, .int x :: st)
  | _ => none
def ex_ldl (lo : ex_Lo) (i : Nat) (st : List Value) : Option (ex_Lo × List Value) := match lo[i]? with
  | some (some (.long x)) => some (lo, .long x :: st)
  | _ => none
def ex_lda (lo : ex_Lo) (i : Nat) (st : List Value) : Option (ex_Lo × List Value) := match lo[i]? with
  | some (some (.ref x)) => some (lo, .ref x :: st)
  | _ => none
def ex_sti (lo : ex_Lo) (i : Nat) (st : List Value) : Option (ex_Lo × List Value) := match st with
  | .int x :: st => if i < lo.length then some (ex_st1 lo i (.int x), st) else none
  | _ => none
def ex_stl (lo : ex_Lo) (i : Nat) (st : List Value) : Option (ex_Lo × List Value) := match st with
  | .long x :: st => if i + 1 < lo.length then some (ex_st2 lo i (.long x), st) else none
  | _ => none
def ex_sta (lo : ex_Lo) (i : Nat) (st : List Value) : Option (ex_Lo × List Value) := match st with
  | .ref x :: st => if i < lo.length then some (ex_st1 lo i (.ref x), st) else none
  | _ => none
def ex_ii (f : Int32 → Int32 → Int32) (lo : ex_Lo) (st : List Value) : Option (ex_Lo × List Value) := match st with
  | .int y :: .int x :: st => some (lo, .int (f x y) :: st)
  | _ => none
def ex_ll (f : Int64 → Int64 → Int64) (lo : ex_Lo) (st : List Value) : Option (ex_Lo × List Value) := match st with
  | .long y :: .long x :: st => some (lo, .long (f x y) :: st)
  | _ => none
/-- what needs neither heap nor tables -/
def ex_pure (ins : Instr) (k : Int32) (lo : ex_Lo) (st : List Value) : Option (ex_Lo × List Value) := match ins with
  | .iconst _ => some (lo, .int k :: st)
  | .bipush _ => some (lo, .int k :: st)
  | .sipush _ => some (lo, .int k :: st)
  | .lconst n => some (lo, .long (if n.val = 0 then 0 else 1) :: st)
  | .iload i => ex_ldi lo i st
  | .iload_n i => ex_ldi lo i.val st
  | .lload i => ex_ldl lo i st
  | .lload_n i => ex_ldl lo i.val st
  | .aload i => ex_lda lo i st
  | .aload_n i => ex_lda lo i.val st
  | .istore i => ex_sti lo i st
  | .istore_n i => ex_sti lo i.val st
  | .lstore i => ex_stl lo i st
  | .lstore_n i => ex_stl lo i.val st
  | .astore i => ex_sta lo i st
  | .astore_n i => ex_sta lo i.val st
  | .iinc i _ => match lo[i]? with
    | some (some (.int x)) => if i < lo.length then some (ex_st1 lo i (.int (x + k)), st) else none
    | _ => none
  | .iadd => ex_ii (fun x y => x + y) lo st
  | .isub => ex_ii (fun x y => x - y) lo st
  | .imul => ex_ii (fun x y => x * y) lo st
  | .iand => ex_ii (fun x y => x &&& y) lo st
  | .ior => ex_ii (fun x y => x ||| y) lo st
  | .ixor => ex_ii (fun x y => x ^^^ y) lo st
  | .ishl => ex_ii (fun x y => x <<< (y &&& 31)) lo st
  | .ishr => ex_ii (fun x y => x >>> (y &&& 31)) lo st
  | .iushr => ex_ii (fun x y => (x.toUInt32 >>> (y.toUInt32 &&& Int32.toUInt32 31)).toInt32) lo st
  | .idiv => match st with
    | .int y :: .int x :: st => if y = 0 then none else some (lo, .int (x / y) :: st)
    | _ => none
  | .irem => match st with
    | .int y :: .int x :: st => if y = 0 then none else some (lo, .int (x - x / y * y) :: st)
    | _ => none
  | .ladd => ex_ll (fun x y => x + y) lo st
  | .lsub => ex_ll (fun x y => x - y) lo st
  | .lmul => ex_ll (fun x y => x * y) lo st
  | .land => ex_ll (fun x y => x &&& y) lo st
  | .lor => ex_ll (fun x y => x ||| y) lo st
  | .ldiv => match st with
    | .long y :: .long x :: st => if y = 0 then none else some (lo, .long (x / y) :: st)
    | _ => none
  | .lrem => match st with
    | .long y :: .long x :: st => if y = 0 then none else some (lo, .long (x - x / y * y) :: st)
    | _ => none
  | .lshl => match st with
    | .int y :: .long x :: st => some (lo, .long (x <<< (y.toInt64 &&& 63)) :: st)
    | _ => none
  | .lushr => match st with
    | .int y :: .long x :: st => some (lo, .long (x.toUInt64 >>> (y.toInt64.toUInt64 &&& Int64.toUInt64 63)).toInt64 :: st)
    | _ => none
  | .lcmp => match st with
    | .long y :: .long x :: st => some (lo, .int (lg_cmp x y) :: st)
    | _ => none
  | .i2l => match st with
    | .int x :: st => some (lo, .long x.toInt64 :: st)
    | _ => none
  | .l2i => match st with
    | .long x :: st => some (lo, .int x.toInt32 :: st)
    | _ => none
  | .i2b => match st with
    | .int x :: st => some (lo, .int x.toInt8.toInt32 :: st)
    | _ => none
  | .i2c => match st with
    | .int x :: st => some (lo, .int (x.toUInt32 % 65536).toInt32 :: st)
    | _ => none
  | .dup => match st with
    | v :: st => if v.category = 1 then some (lo, v :: v :: st) else none
    | _ => none
  | .dup2 => match st with
    | v :: u :: st => if v.category = 1 ∧ u.category = 1 then some (lo, v :: u :: v :: u :: st) else none
    | _ => none
  | .pop => match st with
    | v :: st => if v.category = 1 then some (lo, st) else none
    | _ => none
  | _ => none
abbrev ex_in (j : Int32) (n : Nat) : Prop := ¬ j < 0 ∧ j.toNatClampNeg < n
/-- the classes' numbers of slots -/
def ex_N (ci : Nat) : Nat := match vwCl[ci]? with
  | some q => q.2.2
  | none => 0
/-- a static's value: a thing, what a thing holds, a number -/
def ex_stv (w : ex_W) (q : Nat × Nat × Int32) : Value := match q.1 with
  | 0 => .ref q.2.1
  | 2 => va_rf (w.2.2.2 q.2.1 0)
  | _ => .int q.2.2
def ex_pv (w : ex_W) (a k t : Nat) : Value := match t with
  | 1 => .long (w.2.2.1 a k)
  | 2 => va_rf (w.2.2.2 a k)
  | _ => .int (w.2.1 a k)
/-- the arrays that are made -/
def ex_at (ty : FieldType) : Bool := match ty with
  | .int => true
  | .byte => true
  | .boolean => true
  | .long => true
  | _ => false
/-- what needs the world -/
def ex_heap (ro : Nat) (ins : Instr) (r : List Nat) (k : Int32) (st : List Value) (w : ex_W) : Option (List Value × ex_W) := match ins with
  | .getfield _ => match st with
    | .ref a :: st => match w.1.1[a]? with
      | some (.inl ci) => if ci = r.getD 0 0 ∧ (ci < 100 ∧ ro ≤ a ∨ 100 ≤ ci ∧ ¬ ro ≤ a) then some (ex_pv w a (r.getD 1 0) (r.getD 2 0) :: st, w) else none
      | _ => none
    | _ => none
  | .putfield _ => match r.getD 2 0 with
    | 1 => match st with
      | .long x :: .ref a :: st => match w.1.1[a]? with
        | some (.inl ci) => if ci = r.getD 0 0 ∧ ro ≤ a then some (st, (w.1, w.2.1, ex_set w.2.2.1 a (va_up (w.2.2.1 a) (r.getD 1 0) x), w.2.2.2)) else none
        | _ => none
      | _ => none
    | 2 => match st with
      | .ref x :: .ref a :: st => match w.1.1[a]? with
        | some (.inl ci) => if ci = r.getD 0 0 ∧ ro ≤ a then some (st, (w.1, w.2.1, w.2.2.1, ex_set w.2.2.2 a (va_up (w.2.2.2 a) (r.getD 1 0) (some x)))) else none
        | _ => none
      | _ => none
    | 3 => match st with
      | .int x :: .ref a :: st => match w.1.1[a]? with
        | some (.inl ci) => if ci = r.getD 0 0 ∧ ro ≤ a then (if x = 0 ∨ x = 1 then some (st, (w.1, ex_set w.2.1 a (va_up (w.2.1 a) (r.getD 1 0) x), w.2.2.1, w.2.2.2)) else none) else none
        | _ => none
      | _ => none
    | _ => match st with
      | .int x :: .ref a :: st => match w.1.1[a]? with
        | some (.inl ci) => if ci = r.getD 0 0 ∧ ro ≤ a then some (st, (w.1, ex_set w.2.1 a (va_up (w.2.1 a) (r.getD 1 0) x), w.2.2.1, w.2.2.2)) else none
        | _ => none
      | _ => none
  | .arraylength => match st with
    | .ref a :: st => match w.1.1[a]? with
      | some (.inr q) => if ¬ ro ≤ a ∨ ex_at q.1 = true then some (.int (nI q.2) :: st, w) else none
      | _ => none
    | _ => none
  | .iaload => match st with
    | .int j :: .ref a :: st => match w.1.1[a]? with
      | some (.inr (.int, n)) => if ex_in j n then some (.int (w.2.1 a j.toNatClampNeg) :: st, w) else none
      | _ => none
    | _ => none
  | .baload => match st with
    | .int j :: .ref a :: st => match w.1.1[a]? with
      | some (.inr (.byte, n)) => if ex_in j n then some (.int (w.2.1 a j.toNatClampNeg) :: st, w) else none
      | some (.inr (.boolean, n)) => if ex_in j n then some (.int (w.2.1 a j.toNatClampNeg) :: st, w) else none
      | _ => none
    | _ => none
  | .laload => match st with
    | .int j :: .ref a :: st => match w.1.1[a]? with
      | some (.inr (.long, n)) => if ex_in j n then some (.long (w.2.2.1 a j.toNatClampNeg) :: st, w) else none
      | _ => none
    | _ => none
  | .aaload => match st with
    | .int j :: .ref a :: st => match w.1.1[a]? with
      | some (.inr (.object _, n)) => if ex_in j n ∧ ¬ ro ≤ a then some (va_rf (w.2.2.2 a j.toNatClampNeg) :: st, w) else none
      | _ => none
    | _ => none
  | .iastore => match st with
    | .int x :: .int j :: .ref a :: st => match w.1.1[a]? with
      | some (.inr (.int, n)) => if ex_in j n ∧ ro ≤ a then some (st, (w.1, ex_set w.2.1 a (va_up (w.2.1 a) j.toNatClampNeg x), w.2.2.1, w.2.2.2)) else none
      | _ => none
    | _ => none
  | .bastore => match st with
    | .int x :: .int j :: .ref a :: st => match w.1.1[a]? with
      | some (.inr (.byte, n)) => if ex_in j n ∧ ro ≤ a then some (st, (w.1, ex_set w.2.1 a (va_up (w.2.1 a) j.toNatClampNeg (vp_nar .byte x)), w.2.2.1, w.2.2.2)) else none
      | some (.inr (.boolean, n)) => if ex_in j n ∧ ro ≤ a then some (st, (w.1, ex_set w.2.1 a (va_up (w.2.1 a) j.toNatClampNeg (vp_nar .boolean x)), w.2.2.1, w.2.2.2)) else none
      | _ => none
    | _ => none
  | .lastore => match st with
    | .long x :: .int j :: .ref a :: st => match w.1.1[a]? with
      | some (.inr (.long, n)) => if ex_in j n ∧ ro ≤ a then some (st, (w.1, w.2.1, ex_set w.2.2.1 a (va_up (w.2.2.1 a) j.toNatClampNeg x), w.2.2.2)) else none
      | _ => none
    | _ => none
  | .newarray t => match st with
    | .int n :: st => if ¬ n < 0 ∧ n.toNatClampNeg ≤ 65536 then some (.ref w.1.1.length :: st, ((w.1.1 ++ [.inr (newarray.typeOf t, n.toNatClampNeg)], w.1.2.1 + 1, w.1.2.2 + n.toNatClampNeg), ex_set w.2.1 w.1.1.length (fun _ => 0), ex_set w.2.2.1 w.1.1.length (fun _ => 0), w.2.2.2)) else none
    | _ => none
  | .new _ => some (.ref w.1.1.length :: st, ((w.1.1 ++ [.inl (r.getD 1 0)], w.1.2.1 + 1, w.1.2.2 + ex_N (r.getD 1 0)), ex_set w.2.1 w.1.1.length (fun _ => 0), ex_set w.2.2.1 w.1.1.length (fun _ => 0), ex_set w.2.2.2 w.1.1.length (fun _ => none)))
  | .getstatic _ => some (ex_stv w (r.getD 0 0, r.getD 1 0, k) :: st, w)
  | .ldc _ => some (.int k :: st, w)
  | .ldc_w _ => some (.int k :: st, w)
  | .ldc2_w _ => some (.long (lN (r.getD 0 0)) :: st, w)
  | _ => none
def ex_if {α : Type} (c : ClassFile.Cond) (x y : Int32) (jump fall : α) : α := match c with
  | .eq => if x = y then jump else fall
  | .ne => if x = y then fall else jump
  | .lt => if x < y then jump else fall
  | .ge => if x < y then fall else jump
  | .gt => if y < x then jump else fall
  | .le => if y < x then fall else jump
/-- does what is returned fit -/
abbrev ex_fit (ret : Option FieldType) (v : Int32) : Prop := ret = some .int ∨ ((ret = some .boolean ∧ (v = 0 ∨ v = 1)) ∨ (ret = some .byte ∧ v.toInt8.toInt32 = v) ∨ (ret = some .char ∧ (v.toUInt32 % 65536).toInt32 = v))
def ex_fin (ret : Option FieldType) (row : ex_R) (st : List Value) (w : ex_W) : Option ex_A := match row.2.2.1 with
  | .return_ => match st with
    | [] => if ret = none then some (.inl none, w) else none
    | _ => none
  | .ireturn => match st with
    | [.int v] => if ex_fit ret v then some (.inl (some (.int v)), w) else none
    | _ => none
  | .lreturn => match st with
    | [.long v] => if ret = some .long then some (.inl (some (.long v)), w) else none
    | _ => none
  | .new _ => match st with
    | [] => if row.2.2.2.1.getD 0 0 = 1 then some (.inr (row.2.2.2.1.getD 1 0), ((w.1.1, w.1.2.1 + 1, w.1.2.2 + 6), w.2)) else none
    | _ => none
  | _ => none
def ex_end (ret : Option FieldType) (e : Option ex_E) : Option ex_A := match e with
  | some (row :: _, _, st, w) => ex_fin ret row st w
  | _ => none
/-- the locals at a method's entry -/
def ex_sl (args : List Value) : ex_Lo := args.flatMap fun v => if v.category = 2 then [some v, none] else [some v]
def ex_ent (n : Nat) (args : List Value) : ex_Lo := ex_sl args ++ List.replicate (n - (ex_sl args).length) none
abbrev ex_S : Type := Nat → List (List ex_R) → List ex_R → ex_Lo → List Value → ex_W → Option ex_E
/-- a method's run -/
def ex_me (mt : Nat → Option ex_M) (self : ex_S) (d mi : Nat) (args : List Value) (w : ex_W) : Option ex_A := match mt mi with
  | none => none
  | some M => if (ex_sl args).length ≤ M.2.2.1 then ex_end M.2.2.2.1 (self d M.2.2.2.2.2.1 (M.2.2.2.2.2.1.getD 0 []) (ex_ent M.2.2.1 args) [] w) else none
/-- behind a call -/
def ex_ret (self : ex_S) (d : Nat) (cd : List (List ex_R)) (L : List ex_R) (lo : ex_Lo) (rest : List Value) (x : Option ex_A) : Option ex_E := match x with
  | some (.inl none, w) => self d cd L lo rest w
  | some (.inl (some v), w) => self d cd L lo (v :: rest) w
  | _ => none
/-- behind a call in a method that catches: what it throws is looked up in rs, pairs of a class's number and a block -/
def ex_cat (cd : List (List ex_R)) (e : Nat) (w : ex_W) : List Nat → Option ex_E
  | x :: b :: rs => if x = e then (match cd.getD b [] with
      | [_, rc, rr] => some ([rr], [], [.int rc.2.2.2.2], w)
      | _ => none) else ex_cat cd e w rs
  | _ => none
def ex_retC (self : ex_S) (d : Nat) (cd : List (List ex_R)) (L : List ex_R) (lo : ex_Lo) (rest : List Value) (rs : List Nat) (x : Option ex_A) : Option ex_E := match x with
  | some (.inr e, w) => ex_cat cd e w rs
  | y => ex_ret self d cd L lo rest y
/-- is the first argument an object of that class -/
def ex_rcv (ro : Nat) (w : ex_W) (ci : Nat) (args : List Value) : Bool := match args with
  | .ref a :: _ => (match w.1.1[a]? with
    | some (.inl cj) => decide (cj = ci ∧ (ci < 100 ∧ ro ≤ a ∨ 100 ≤ ci ∧ ¬ ro ≤ a))
    | _ => false)
  | _ => false
/-- calls: kind, method, how many are popped, class of the receiver .. -/
def ex_inv (ro : Nat) (mt : Nat → Option ex_M) (self : ex_S) (d : Nat) (cd : List (List ex_R)) (r : List Nat) (L : List ex_R) (lo : ex_Lo) (st : List Value) (w : ex_W) : Option ex_E := match r with
  | 6 :: _ => match st with
    | .ref _ :: st => if (st.map fun v => v.category).sum ≤ 8 then self d cd L lo st w else none
    | _ => none
  | 7 :: _ => match st with
    | .int n :: .int dp :: .ref b :: .int sp :: .ref a :: st => match w.1.1[a]? with
      | some (.inr (.int, n0)) => match w.1.1[b]? with
        | some (.inr (.int, n1)) => if (ro ≤ b ∧ (st.map fun v => v.category).sum ≤ 8) ∧ ¬ sp < 0 ∧ ¬ dp < 0 ∧ ¬ n < 0 ∧ sp.toNatClampNeg + n.toNatClampNeg ≤ n0 ∧ dp.toNatClampNeg + n.toNatClampNeg ≤ n1 then self d cd L lo st (w.1, ex_set w.2.1 b (va_cpy (w.2.1 a) (w.2.1 b) sp.toNatClampNeg dp.toNatClampNeg n.toNatClampNeg), w.2.2.1, w.2.2.2) else none
        | _ => none
      | _ => none
    | _ => none
  | k :: mi :: np :: ci :: rs => match d with
    | 0 => none
    | d' + 1 => if (np ≤ st.length ∧ ((st.drop np).map fun v => v.category).sum ≤ 8) ∧ (k = 2 ∨ k = 3 ∨ k = 8 ∨ ex_rcv ro w ci (st.take np).reverse = true) then
        (if k = 9 then ex_retC self (d' + 1) cd L lo (st.drop np) rs (ex_me mt self d' mi (st.take np).reverse w) else ex_ret self (d' + 1) cd L lo (st.drop np) (ex_me mt self d' mi (st.take np).reverse w)) else none
  | _ => none
/-- one of the enum's constants -/
def ex_isw (ro : Nat) (w : ex_W) (x : Nat) : Bool := decide (¬ ro ≤ x) && (match w.1.1[x]? with
  | some (.inl 100) => true
  | _ => false)
/-- one instruction -/
def ex_body (ro : Nat) (mt : Nat → Option ex_M) (self : ex_S) : ex_S := fun d cd L lo st w => match L with
  | [] => none
  | row :: L => match row.2.2.1 with
    | .goto _ => self d cd (cd.getD (row.2.2.2.1.getD 0 0) []) lo st w
    | .ifCond c _ => match st with
      | .int x :: st => ex_if c x 0 (self d cd (cd.getD (row.2.2.2.1.getD 0 0) []) lo st w) (self d cd L lo st w)
      | _ => none
    | .if_icmp c _ => match st with
      | .int y :: .int x :: st => ex_if c x y (self d cd (cd.getD (row.2.2.2.1.getD 0 0) []) lo st w) (self d cd L lo st w)
      | _ => none
    | .if_acmp c _ => match st with
      | .ref y :: .ref x :: st => if ex_isw ro w x = true ∧ ex_isw ro w y = true then (match c with
        | .eq => if x = y then self d cd (cd.getD (row.2.2.2.1.getD 0 0) []) lo st w else self d cd L lo st w
        | .ne => if x = y then self d cd L lo st w else self d cd (cd.getD (row.2.2.2.1.getD 0 0) []) lo st w) else none
      | _ => none
    | .tableswitch _ l h _ => match st with
      | .int x :: st => if x.toInt < l ∨ h < x.toInt then self d cd (cd.getD (row.2.2.2.1.getD 0 0) []) lo st w else self d cd (cd.getD (row.2.2.2.1.getD (1 + (x.toInt - l).toNat) 0) []) lo st w
      | _ => none
    | .ireturn => some (row :: L, lo, st, w)
    | .lreturn => some (row :: L, lo, st, w)
    | .return_ => some (row :: L, lo, st, w)
    | .invokevirtual _ => ex_inv ro mt self d cd row.2.2.2.1 L lo st w
    | .invokestatic _ => ex_inv ro mt self d cd row.2.2.2.1 L lo st w
    | .invokespecial _ => ex_inv ro mt self d cd row.2.2.2.1 L lo st w
    | .new _ => match row.2.2.2.1.getD 0 0 with
      | 1 => some (row :: L, lo, st, w)
      | _ => match ex_heap ro row.2.2.1 row.2.2.2.1 row.2.2.2.2 st w with
        | some (st, w) => self d cd L lo st w
        | none => none
    | ins => match ex_pure ins row.2.2.2.2 lo st with
      | some (lo, st) => self d cd L lo st w
      | none => match ex_heap ro ins row.2.2.2.1 row.2.2.2.2 st w with
        | some (st, w) => self d cd L lo st w
        | none => none
def ex_run (ro : Nat) (mt : Nat → Option ex_M) : Nat → ex_S
  | 0 => fun _ _ _ _ _ _ => none
  | n + 1 => ex_body ro mt (ex_run ro mt n)
end
section
/-! The small machine's instructions that need neither heap nor tables, held against the JVM -/
def ex_cv (ad : Nat → Nat) (v : Value) : Value := match v with
  | .ref i => .ref (ad i)
  | v => v
/-- a reference of the world (of z things) -/
def ex_okv (z : Nat) (v : Value) : Prop := match v with
  | .ref i => i < z
  | .int _ => True
  | .long _ => True
  | .null => True
  | _ => False
theorem ex_cv_cat (ad : Nat → Nat) (v : Value) : (ex_cv ad v).category = v.category := by cases v <;> rfl
/-- the locals -/
def ex_LR (ad : Nat → Nat) (z nL : Nat) (lo : ex_Lo) (ls : Array Slot) : Prop := lo.length ≤ nL ∧ lv_has ls nL [] ∧ ∀ (i : Nat) (v : Value), lo[i]? = some (some v) → ls[i]? = some (.val (ex_cv ad v)) ∧ ex_okv z v
theorem ex_LR.size {ad : Nat → Nat} {z nL : Nat} {lo : ex_Lo} {ls : Array Slot} (h : ex_LR ad z nL lo ls) : ls.size = nL := h.2.1.1
def ex_asc (ad : Nat → Nat) (lo : ex_Lo) : List (Nat × Value) := (List.range lo.length).filterMap fun i => match lo[i]? with
  | some (some v) => some (i, ex_cv ad v)
  | _ => none
theorem ex_asc_mem {ad : Nat → Nat} {lo : ex_Lo} {i : Nat} {v : Value} (h : lo[i]? = some (some v)) : (i, ex_cv ad v) ∈ ex_asc ad lo := by
  refine List.mem_filterMap.mpr ⟨i, List.mem_range.mpr (List.getElem?_eq_some_iff.mp h).1, ?_⟩
  rw [h]
theorem ex_asc_of {ad : Nat → Nat} {lo : ex_Lo} {q : Nat × Value} (h : q ∈ ex_asc ad lo) : ∃ v, lo[q.1]? = some (some v) ∧ q.2 = ex_cv ad v := by
  obtain ⟨i, -, hi⟩ := List.mem_filterMap.mp h
  split at hi
  · next v hv => cases hi; exact ⟨v, hv, rfl⟩
  · cases hi
theorem ex_LR.has {ad : Nat → Nat} {z nL : Nat} {lo : ex_Lo} {ls : Array Slot} (h : ex_LR ad z nL lo ls) : lv_has ls nL (ex_asc ad lo) :=
  ⟨h.2.1.1, h.2.1.2.1, fun q hq => by
    obtain ⟨v, h1, h2⟩ := ex_asc_of hq
    rw [h2]; exact (h.2.2 _ _ h1).1⟩
theorem ex_clr_len (lo : ex_Lo) (i : Nat) : (ex_clr lo i).length = lo.length := by
  unfold ex_clr
  split
  · rfl
  · split <;> simp
theorem ex_clr_get {lo : ex_Lo} {i j : Nat} {v : Value} (h : (ex_clr lo i)[j]? = some (some v)) : lo[j]? = some (some v) ∧ ¬ (j + 1 = i ∧ v.category = 2) ∨ (lo[j]? = some (some v) ∧ j + 1 = i ∧ v.category ≠ 2) ∨ (lo[j]? = some (some v) ∧ ∀ x, v ≠ .long x) := by
  unfold ex_clr at h
  split at h
  · exact Or.inl ⟨h, fun q => by omega⟩
  · next j0 =>
    split at h
    · next x hx =>
      by_cases hj : j = j0
      · subst hj
        rw [List.getElem?_set_self (List.getElem?_eq_some_iff.mp hx).1] at h
        cases h
      · rw [List.getElem?_set_ne (fun q => hj q.symm)] at h
        exact Or.inl ⟨h, fun q => hj (by omega)⟩
    · next hn =>
      by_cases hj : j = j0
      · subst hj
        exact Or.inr (Or.inr ⟨h, fun x e => hn x (by rw [h, e])⟩)
      · exact Or.inl ⟨h, fun q => hj (by omega)⟩
theorem ex_clr_in {z : Nat} {lo : ex_Lo} {i j : Nat} {v : Value} (ad : Nat → Nat) (hok : v.category = 2 → ∃ x, v = .long x) (h : (ex_clr lo i)[j]? = some (some v)) : lo[j]? = some (some v) ∧ ¬ (j + 1 = i ∧ (ex_cv ad v).category = 2) := by
  rw [ex_cv_cat]
  rcases ex_clr_get h with h | h | h
  · exact h
  · exact ⟨h.1, fun q => h.2.2 q.2⟩
  · exact ⟨h.1, fun q => by obtain ⟨x, e⟩ := hok q.2; exact h.2 x e⟩
/-- only longs take two places -/
def ex_nod (lo : ex_Lo) : Prop := ∀ (i : Nat) (v : Value), lo[i]? = some (some v) → v.category = 2 → ∃ x, v = .long x
section EXP
variable {p : Program} {l : Launch} {e : Env} {R : Room} {s : State} {m : MethodId} {args : Array Value} {below : List Frame} {meth : Method} {c : Code} {H : Heap} {locs : List Loc} {cells slots : Nat} {Q : State → Prop}
variable {cc : ByteArray} {pc : Nat} {ls : Array Slot} {ad : Nat → Nat} {z nL : Nat} {lo : ex_Lo}
theorem ex_LR.st1 {i : Nat} {v : Value} (h : ex_LR ad z nL lo ls) (hn : ex_nod lo) (hi : i < lo.length) (hv : ex_okv z v) {ls' : Array Slot} (h' : lv_has ls' nL ((i, ex_cv ad v) :: (ex_asc ad lo).filter (fun q => !(q.1 == i) && !(q.1 + 1 == i && q.2.category == 2)))) : ex_LR ad z nL (ex_st1 lo i v) ls' := by
  refine ⟨by simp [ex_st1, ex_clr_len, h.1], ⟨h'.1, h'.2.1, fun _ hq => by cases hq⟩, fun j u hj => ?_⟩
  by_cases hji : j = i
  · subst hji
    rw [ex_st1, List.getElem?_set_self (by rw [ex_clr_len]; exact hi)] at hj
    cases hj
    exact ⟨h'.2.2 _ List.mem_cons_self, hv⟩
  · rw [ex_st1, List.getElem?_set_ne (fun q => hji q.symm)] at hj
    have hlo : lo[j]? = some (some u) := by
      rcases ex_clr_get hj with h | h | h <;> exact h.1
    have hc := ex_clr_in (z := z) ad (hn j u hlo) hj
    refine ⟨h'.2.2 (j, ex_cv ad u) (List.mem_cons_of_mem _ (List.mem_filter.mpr ⟨ex_asc_mem hc.1, ?_⟩)), (h.2.2 j u hc.1).2⟩
    simp only [Bool.and_eq_true, Bool.not_eq_true', beq_eq_false_iff_ne, ne_eq, Bool.and_eq_false_iff]
    refine ⟨hji, ?_⟩
    by_cases q : j + 1 = i
    · exact Or.inr (fun q2 => hc.2 ⟨q, q2⟩)
    · exact Or.inl q
theorem ex_LR.st2 {i : Nat} {v : Value} (h : ex_LR ad z nL lo ls) (hn : ex_nod lo) (hi : i + 1 < lo.length) (hv : ex_okv z v) {ls' : Array Slot} (h' : lv_has ls' nL ((i, ex_cv ad v) :: (ex_asc ad lo).filter (fun q => !(q.1 == i) && (!(q.1 == i + 1) && !(q.1 + 1 == i && q.2.category == 2))))) : ex_LR ad z nL (ex_st2 lo i v) ls' := by
  refine ⟨by simp [ex_st2, ex_clr_len, h.1], ⟨h'.1, h'.2.1, fun _ hq => by cases hq⟩, fun j u hj => ?_⟩
  by_cases hji1 : j = i + 1
  · subst hji1
    rw [ex_st2, List.getElem?_set_self (by rw [List.length_set, ex_clr_len]; exact hi)] at hj
    cases hj
  rw [ex_st2, List.getElem?_set_ne (fun q => hji1 q.symm)] at hj
  by_cases hji : j = i
  · subst hji
    rw [List.getElem?_set_self (by rw [ex_clr_len]; omega)] at hj
    cases hj
    exact ⟨h'.2.2 _ List.mem_cons_self, hv⟩
  · rw [List.getElem?_set_ne (fun q => hji q.symm)] at hj
    have hlo : lo[j]? = some (some u) := by
      rcases ex_clr_get hj with h | h | h <;> exact h.1
    have hc := ex_clr_in (z := z) ad (hn j u hlo) hj
    refine ⟨h'.2.2 (j, ex_cv ad u) (List.mem_cons_of_mem _ (List.mem_filter.mpr ⟨ex_asc_mem hc.1, ?_⟩)), (h.2.2 j u hc.1).2⟩
    simp only [Bool.and_eq_true, Bool.not_eq_true', beq_eq_false_iff_ne, ne_eq, Bool.and_eq_false_iff]
    refine ⟨hji, hji1, ?_⟩
    by_cases q : j + 1 = i
    · exact Or.inr (fun q2 => hc.2 ⟨q, q2⟩)
    · exact Or.inl q
theorem ex_nod.clr (hn : ex_nod lo) (i : Nat) : ex_nod (ex_clr lo i) := fun j u hj hc => by
  have hlo : lo[j]? = some (some u) := by
    rcases ex_clr_get hj with h | h | h <;> exact h.1
  exact hn j u hlo hc
theorem ex_nod.set (hn : ex_nod lo) (i : Nat) (o : Option Value) (ho : ∀ v, o = some v → v.category = 2 → ∃ x, v = .long x) : ex_nod (lo.set i o) := fun j u hj hc => by
  by_cases hji : i = j
  · subst hji
    by_cases hl : i < lo.length
    · rw [List.getElem?_set_self hl] at hj
      cases hj
      exact ho u rfl hc
    · rw [List.getElem?_eq_none (by rw [List.length_set]; omega)] at hj
      cases hj
  · rw [List.getElem?_set_ne hji] at hj
    exact hn j u hj hc
def ex_kok (ins : Instr) (k : Int32) (len : Nat) : Bool := match ins with
  | .iconst n => decide (Int32.ofInt n = k) && decide (len = 1)
  | .bipush n => decide ((Int8.ofInt n).toInt32 = k) && decide (len = 2)
  | .sipush n => decide ((Int16.ofInt n).toInt32 = k) && decide (len = 3)
  | .iinc _ n => decide (Int32.ofInt n = k) && decide (len = 3)
  | .iload _ => decide (len = 2)
  | .lload _ => decide (len = 2)
  | .aload _ => decide (len = 2)
  | .istore _ => decide (len = 2)
  | .lstore _ => decide (len = 2)
  | .astore _ => decide (len = 2)
  | _ => decide (len = 1)
theorem ex_ldi_of {i : Nat} {st st' : List Value} {lo' : ex_Lo} (h : ex_ldi lo i st = some (lo', st')) : lo' = lo ∧ ∃ x, lo[i]? = some (some (.int x)) ∧ st' = .int x :: st := by
  unfold ex_ldi at h
  split at h
  · next x hx => cases h; exact ⟨rfl, x, hx, rfl⟩
  · cases h
theorem ex_ldl_of {i : Nat} {st st' : List Value} {lo' : ex_Lo} (h : ex_ldl lo i st = some (lo', st')) : lo' = lo ∧ ∃ x, lo[i]? = some (some (.long x)) ∧ st' = .long x :: st := by
  unfold ex_ldl at h
  split at h
  · next x hx => cases h; exact ⟨rfl, x, hx, rfl⟩
  · cases h
theorem ex_lda_of {i : Nat} {st st' : List Value} {lo' : ex_Lo} (h : ex_lda lo i st = some (lo', st')) : lo' = lo ∧ ∃ x, lo[i]? = some (some (.ref x)) ∧ st' = .ref x :: st := by
  unfold ex_lda at h
  split at h
  · next x hx => cases h; exact ⟨rfl, x, hx, rfl⟩
  · cases h
theorem ex_sti_of {i : Nat} {st st' : List Value} {lo' : ex_Lo} (h : ex_sti lo i st = some (lo', st')) : ∃ x, st = .int x :: st' ∧ i < lo.length ∧ lo' = ex_st1 lo i (.int x) := by
  unfold ex_sti at h
  split at h
  · split at h
    · next x _ hi => cases h; exact ⟨x, rfl, hi, rfl⟩
    · cases h
  · cases h
theorem ex_stl_of {i : Nat} {st st' : List Value} {lo' : ex_Lo} (h : ex_stl lo i st = some (lo', st')) : ∃ x, st = .long x :: st' ∧ i + 1 < lo.length ∧ lo' = ex_st2 lo i (.long x) := by
  unfold ex_stl at h
  split at h
  · split at h
    · next x _ hi => cases h; exact ⟨x, rfl, hi, rfl⟩
    · cases h
  · cases h
theorem ex_sta_of {i : Nat} {st st' : List Value} {lo' : ex_Lo} (h : ex_sta lo i st = some (lo', st')) : ∃ x, st = .ref x :: st' ∧ i < lo.length ∧ lo' = ex_st1 lo i (.ref x) := by
  unfold ex_sta at h
  split at h
  · split at h
    · next x _ hi => cases h; exact ⟨x, rfl, hi, rfl⟩
    · cases h
  · cases h
theorem ex_ii_of {f : Int32 → Int32 → Int32} {st st' : List Value} {lo' : ex_Lo} (h : ex_ii f lo st = some (lo', st')) : lo' = lo ∧ ∃ x y r, st = .int y :: .int x :: r ∧ st' = .int (f x y) :: r := by
  unfold ex_ii at h
  split at h
  · next y x r => cases h; exact ⟨rfl, x, y, r, rfl, rfl⟩
  · cases h
theorem ex_ll_of {f : Int64 → Int64 → Int64} {st st' : List Value} {lo' : ex_Lo} (h : ex_ll f lo st = some (lo', st')) : lo' = lo ∧ ∃ x y r, st = .long y :: .long x :: r ∧ st' = .long (f x y) :: r := by
  unfold ex_ll at h
  split at h
  · next y x r => cases h; exact ⟨rfl, x, y, r, rfl, rfl⟩
  · cases h
theorem ex_tl {z : Nat} {a : Value} {st : List Value} (h : ∀ v ∈ a :: st, ex_okv z v) : ∀ v ∈ st, ex_okv z v := fun v hv => h v (List.mem_cons_of_mem _ hv)
theorem ex_cn {z : Nat} {a : Value} {st : List Value} (ha : ex_okv z a) (h : ∀ v ∈ st, ex_okv z v) : ∀ v ∈ a :: st, ex_okv z v := fun v hv => by
  rcases List.mem_cons.mp hv with rfl | hv
  · exact ha
  · exact h v hv
set_option maxHeartbeats 4000000 in
theorem ex_pure_ok {ins : Instr} {k : Int32} {len : Nat} {st st' : List Value} {lo' : ex_Lo} (hexec : p.tables.exec = Jvm.exec) (hb : c.code = cc) (h : ex_pure ins k lo st = some (lo', st')) (hd : decode cc pc = .ok (ins, len)) (hk : ex_kok ins k len = true)
    (hl : ex_LR ad z nL lo ls) (hn : ex_nod lo) (ho : ∀ v ∈ st, ex_okv z v)
    (kk : ∀ ls' : Array Slot, ex_LR ad z nL lo' ls' → ex_nod lo' → (∀ v ∈ st', ex_okv z v) → W p l e R s m args below meth c H locs cells slots Q (F0 m (pc + len) ls' (st'.map (ex_cv ad)))) :
    W p l e R s m args below meth c H locs cells slots Q (F0 m pc ls (st.map (ex_cv ad))) := by
  cases ins <;> first | (simp only [ex_pure, reduceCtorEq] at h; done) | skip
  case iconst n =>
    cases h
    simp only [ex_kok, Bool.and_eq_true, decide_eq_true_eq] at hk
    obtain ⟨hk, rfl⟩ := hk
    exact lv_iconst hexec hb hd hk (kk ls hl hn (ex_cn trivial ho))
  case bipush n =>
    cases h
    simp only [ex_kok, Bool.and_eq_true, decide_eq_true_eq] at hk
    obtain ⟨hk, rfl⟩ := hk
    exact lv_bipush hexec hb hd hk (kk ls hl hn (ex_cn trivial ho))
  case sipush n =>
    cases h
    simp only [ex_kok, Bool.and_eq_true, decide_eq_true_eq] at hk
    obtain ⟨hk, rfl⟩ := hk
    exact lv_sipush hexec hb hd hk (kk ls hl hn (ex_cn trivial ho))
  case lconst n =>
    cases h
    simp only [ex_kok, decide_eq_true_eq] at hk
    subst hk
    refine lv_lconst hexec hb hd ?_ (kk ls hl hn (ex_cn trivial ho))
    rcases n with ⟨n, hn2⟩
    rcases (show n = 0 ∨ n = 1 by omega) with rfl | rfl <;> rfl
  case iload i =>
    simp only [ex_kok, decide_eq_true_eq] at hk
    subst hk
    obtain ⟨rfl, x, hx, rfl⟩ := ex_ldi_of h
    exact lv_iload hexec hb hd (hl.2.2 _ _ hx).1 (kk ls hl hn (ex_cn trivial ho))
  case iload_n i =>
    simp only [ex_kok, decide_eq_true_eq] at hk
    subst hk
    obtain ⟨rfl, x, hx, rfl⟩ := ex_ldi_of h
    exact lv_iload_n hexec hb hd rfl (hl.2.2 _ _ hx).1 (kk ls hl hn (ex_cn trivial ho))
  case lload i =>
    simp only [ex_kok, decide_eq_true_eq] at hk
    subst hk
    obtain ⟨rfl, x, hx, rfl⟩ := ex_ldl_of h
    exact lv_lload hexec hb hd (hl.2.2 _ _ hx).1 (kk ls hl hn (ex_cn trivial ho))
  case lload_n i =>
    simp only [ex_kok, decide_eq_true_eq] at hk
    subst hk
    obtain ⟨rfl, x, hx, rfl⟩ := ex_ldl_of h
    exact lv_lload_n hexec hb hd rfl (hl.2.2 _ _ hx).1 (kk ls hl hn (ex_cn trivial ho))
  case aload i =>
    simp only [ex_kok, decide_eq_true_eq] at hk
    subst hk
    obtain ⟨rfl, x, hx, rfl⟩ := ex_lda_of h
    exact lv_aload hexec hb hd (hl.2.2 _ _ hx).1 (kk ls hl hn (ex_cn (hl.2.2 _ _ hx).2 ho))
  case aload_n i =>
    simp only [ex_kok, decide_eq_true_eq] at hk
    subst hk
    obtain ⟨rfl, x, hx, rfl⟩ := ex_lda_of h
    exact lv_aload_n hexec hb hd rfl (hl.2.2 _ _ hx).1 (kk ls hl hn (ex_cn (hl.2.2 _ _ hx).2 ho))
  case istore i =>
    simp only [ex_kok, decide_eq_true_eq] at hk
    subst hk
    obtain ⟨x, rfl, hi, rfl⟩ := ex_sti_of h
    exact lv_istore hexec hb hd hl.has (Nat.lt_of_lt_of_le hi hl.1) rfl (fun ls' h' => kk ls' (hl.st1 (v := .int x) hn hi trivial h') ((hn.clr i).set i _ (fun v e hc => by cases e; cases hc)) (ex_tl ho))
  case istore_n i =>
    simp only [ex_kok, decide_eq_true_eq] at hk
    subst hk
    obtain ⟨x, rfl, hi, rfl⟩ := ex_sti_of h
    exact lv_istore_n hexec hb hd rfl hl.has (Nat.lt_of_lt_of_le hi hl.1) rfl (fun ls' h' => kk ls' (hl.st1 (v := .int x) hn hi trivial h') ((hn.clr _).set _ _ (fun v e hc => by cases e; cases hc)) (ex_tl ho))
  case lstore i =>
    simp only [ex_kok, decide_eq_true_eq] at hk
    subst hk
    obtain ⟨x, rfl, hi, rfl⟩ := ex_stl_of h
    exact lv_lstore hexec hb hd hl.has (Nat.lt_of_lt_of_le hi hl.1) rfl (fun ls' h' => kk ls' (hl.st2 (v := .long x) hn hi trivial h') (((hn.clr _).set _ _ (fun v e hc => by cases e; exact ⟨x, rfl⟩)).set _ _ (fun v e hc => by cases e)) (ex_tl ho))
  case lstore_n i =>
    simp only [ex_kok, decide_eq_true_eq] at hk
    subst hk
    obtain ⟨x, rfl, hi, rfl⟩ := ex_stl_of h
    exact lv_lstore_n hexec hb hd rfl hl.has (Nat.lt_of_lt_of_le hi hl.1) rfl (fun ls' h' => kk ls' (hl.st2 (v := .long x) hn hi trivial h') (((hn.clr _).set _ _ (fun v e hc => by cases e; exact ⟨x, rfl⟩)).set _ _ (fun v e hc => by cases e)) (ex_tl ho))
  case astore i =>
    simp only [ex_kok, decide_eq_true_eq] at hk
    subst hk
    obtain ⟨x, rfl, hi, rfl⟩ := ex_sta_of h
    exact lv_astore hexec hb hd hl.has (Nat.lt_of_lt_of_le hi hl.1) rfl (fun ls' h' => kk ls' (hl.st1 (v := .ref x) hn hi (ho _ List.mem_cons_self) h') ((hn.clr i).set i _ (fun v e hc => by cases e; cases hc)) (ex_tl ho))
  case astore_n i =>
    simp only [ex_kok, decide_eq_true_eq] at hk
    subst hk
    obtain ⟨x, rfl, hi, rfl⟩ := ex_sta_of h
    exact lv_astore_n hexec hb hd rfl hl.has (Nat.lt_of_lt_of_le hi hl.1) rfl (fun ls' h' => kk ls' (hl.st1 (v := .ref x) hn hi (ho _ List.mem_cons_self) h') ((hn.clr _).set _ _ (fun v e hc => by cases e; cases hc)) (ex_tl ho))
  case iinc i n =>
    simp only [ex_kok, Bool.and_eq_true, decide_eq_true_eq] at hk
    obtain ⟨hk, rfl⟩ := hk
    simp only [ex_pure] at h
    split at h
    · next x hx =>
      split at h
      · next hi =>
        cases h
        obtain ⟨j, hj⟩ := List.getElem?_of_mem (ex_asc_mem (ad := ad) hx)
        exact lv_iinc hexec hb hd hl.has hj (by rw [hk]) (Nat.lt_of_lt_of_le hi hl.1) rfl (fun ls' h' => kk ls' (hl.st1 (v := .int (x + k)) hn hi trivial h') ((hn.clr i).set i _ (fun v e hc => by cases e; cases hc)) ho)
      · cases h
    · cases h
  case dup =>
    simp only [ex_kok, decide_eq_true_eq] at hk
    subst hk
    simp only [ex_pure] at h
    split at h
    · next v r =>
      split at h
      · next hc =>
        cases h
        exact lv_dup hexec hb hd (by rw [ex_cv_cat]; exact hc) (kk ls hl hn (ex_cn (ho _ List.mem_cons_self) ho))
      · cases h
    · cases h
  case dup2 =>
    simp only [ex_kok, decide_eq_true_eq] at hk
    subst hk
    simp only [ex_pure] at h
    split at h
    · next v u r =>
      split at h
      · next hc =>
        cases h
        exact lv_dup2_11 hexec hb hd (by rw [ex_cv_cat]; exact hc.1) (by rw [ex_cv_cat]; exact hc.2) (kk ls hl hn (ex_cn (ho _ List.mem_cons_self) (ex_cn (ho _ (List.mem_cons_of_mem _ List.mem_cons_self)) ho)))
      · cases h
    · cases h
  case pop =>
    simp only [ex_kok, decide_eq_true_eq] at hk
    subst hk
    simp only [ex_pure] at h
    split at h
    · next v r =>
      split at h
      · next hc =>
        cases h
        exact lv_pop hexec hb hd (by rw [ex_cv_cat]; exact hc) (kk ls hl hn (ex_tl ho))
      · cases h
    · cases h
  all_goals (simp only [ex_kok, decide_eq_true_eq] at hk; subst hk)
  case iadd => obtain ⟨rfl, x, y, r, rfl, rfl⟩ := ex_ii_of h; exact lv_iadd hexec hb hd (kk ls hl hn (ex_cn trivial (ex_tl (ex_tl ho))))
  case isub => obtain ⟨rfl, x, y, r, rfl, rfl⟩ := ex_ii_of h; exact lv_isub hexec hb hd (kk ls hl hn (ex_cn trivial (ex_tl (ex_tl ho))))
  case imul => obtain ⟨rfl, x, y, r, rfl, rfl⟩ := ex_ii_of h; exact lv_imul hexec hb hd (kk ls hl hn (ex_cn trivial (ex_tl (ex_tl ho))))
  case iand => obtain ⟨rfl, x, y, r, rfl, rfl⟩ := ex_ii_of h; exact lv_iand hexec hb hd (kk ls hl hn (ex_cn trivial (ex_tl (ex_tl ho))))
  case ior => obtain ⟨rfl, x, y, r, rfl, rfl⟩ := ex_ii_of h; exact lv_ior hexec hb hd (kk ls hl hn (ex_cn trivial (ex_tl (ex_tl ho))))
  case ixor => obtain ⟨rfl, x, y, r, rfl, rfl⟩ := ex_ii_of h; exact lv_ixor hexec hb hd (kk ls hl hn (ex_cn trivial (ex_tl (ex_tl ho))))
  case ishl => obtain ⟨rfl, x, y, r, rfl, rfl⟩ := ex_ii_of h; exact lv_ishl hexec hb hd (kk ls hl hn (ex_cn trivial (ex_tl (ex_tl ho))))
  case ishr => obtain ⟨rfl, x, y, r, rfl, rfl⟩ := ex_ii_of h; exact lv_ishr hexec hb hd (kk ls hl hn (ex_cn trivial (ex_tl (ex_tl ho))))
  case iushr => obtain ⟨rfl, x, y, r, rfl, rfl⟩ := ex_ii_of h; exact lv_iushr hexec hb hd rfl (kk ls hl hn (ex_cn trivial (ex_tl (ex_tl ho))))
  case ladd => obtain ⟨rfl, x, y, r, rfl, rfl⟩ := ex_ll_of h; exact lv_ladd hexec hb hd (kk ls hl hn (ex_cn trivial (ex_tl (ex_tl ho))))
  case lsub => obtain ⟨rfl, x, y, r, rfl, rfl⟩ := ex_ll_of h; exact lv_lsub hexec hb hd (kk ls hl hn (ex_cn trivial (ex_tl (ex_tl ho))))
  case lmul => obtain ⟨rfl, x, y, r, rfl, rfl⟩ := ex_ll_of h; exact lv_lmul hexec hb hd (kk ls hl hn (ex_cn trivial (ex_tl (ex_tl ho))))
  case land => obtain ⟨rfl, x, y, r, rfl, rfl⟩ := ex_ll_of h; exact lv_land hexec hb hd (kk ls hl hn (ex_cn trivial (ex_tl (ex_tl ho))))
  case lor => obtain ⟨rfl, x, y, r, rfl, rfl⟩ := ex_ll_of h; exact lv_lor hexec hb hd (kk ls hl hn (ex_cn trivial (ex_tl (ex_tl ho))))
  case idiv =>
    simp only [ex_pure] at h
    split at h
    · split at h
      · cases h
      · next hy => cases h; exact lv_idiv hexec hb hd hy (kk ls hl hn (ex_cn trivial (ex_tl (ex_tl ho))))
    · cases h
  case irem =>
    simp only [ex_pure] at h
    split at h
    · split at h
      · cases h
      · next hy => cases h; exact lv_irem hexec hb hd hy (kk ls hl hn (ex_cn trivial (ex_tl (ex_tl ho))))
    · cases h
  case ldiv =>
    simp only [ex_pure] at h
    split at h
    · split at h
      · cases h
      · next hy => cases h; exact lv_ldiv hexec hb hd hy (kk ls hl hn (ex_cn trivial (ex_tl (ex_tl ho))))
    · cases h
  case lrem =>
    simp only [ex_pure] at h
    split at h
    · split at h
      · cases h
      · next hy => cases h; exact lv_lrem hexec hb hd hy (kk ls hl hn (ex_cn trivial (ex_tl (ex_tl ho))))
    · cases h
  case lshl =>
    simp only [ex_pure] at h
    split at h
    · cases h; exact lv_lshl hexec hb hd rfl (kk ls hl hn (ex_cn trivial (ex_tl (ex_tl ho))))
    · cases h
  case lushr =>
    simp only [ex_pure] at h
    split at h
    · cases h; exact lv_lushr hexec hb hd rfl (kk ls hl hn (ex_cn trivial (ex_tl (ex_tl ho))))
    · cases h
  case lcmp =>
    simp only [ex_pure] at h
    split at h
    · cases h; exact W.lcmp hexec hb hd (kk ls hl hn (ex_cn trivial (ex_tl (ex_tl ho))))
    · cases h
  case i2l =>
    simp only [ex_pure] at h
    split at h
    · cases h; exact lv_i2l hexec hb hd rfl (kk ls hl hn (ex_cn trivial (ex_tl ho)))
    · cases h
  case l2i =>
    simp only [ex_pure] at h
    split at h
    · cases h; exact lv_l2i hexec hb hd rfl (kk ls hl hn (ex_cn trivial (ex_tl ho)))
    · cases h
  case i2b =>
    simp only [ex_pure] at h
    split at h
    · cases h; exact lv_i2b hexec hb hd rfl (kk ls hl hn (ex_cn trivial (ex_tl ho)))
    · cases h
  case i2c =>
    simp only [ex_pure] at h
    split at h
    · cases h; exact lv_i2c hexec hb hd rfl (kk ls hl hn (ex_cn trivial (ex_tl ho)))
    · cases h
end EXP
end
section
/-! The worlds, held against the heap -/
def ex_ty (ci k : Nat) : FieldType := match ci with
  | 0 => tyX0 k
  | 1 => tyX1 k
  | 2 => tyX2 k
  | 3 => tyX3 k
  | 4 => tyX4 k
  | 5 => tyX5 k
  | 6 => tyX6 k
  | 7 => tyX7 k
  | 8 => tyX9 k
  | _ => tyX10 k
def ex_val (ad : Nat → Nat) (w : ex_W) (i k : Nat) (ty : FieldType) : Value := match ty with
  | .long => .long (w.2.2.1 i k)
  | .object _ => va_rf ((w.2.2.2 i k).map ad)
  | .array _ => va_rf ((w.2.2.2 i k).map ad)
  | _ => .int (w.2.1 i k)
def ex_fs (ad : Nat → Nat) (w : ex_W) (i ci : Nat) : List Value := (List.range (ex_N ci)).map (fun k => ex_val ad w i k (ex_ty ci k))
def ex_ac (w : ex_W) (i : Nat) (ty : FieldType) : (Nat → Int32) ⊕ (Nat → Int64) ⊕ (Nat → UInt32) ⊕ (Nat → UInt64) ⊕ (Nat → Option Nat) := match ty with
  | .long => .inr (.inl (w.2.2.1 i))
  | _ => .inl (w.2.1 i)
def ex_cell (cA : FieldType → ClassId) (ad : Nat → Nat) (w : ex_W) (i : Nat) (sh : ex_Sh) : va_E := match sh with
  | .inl ci => .inr (ci, ex_fs ad w i ci)
  | .inr q => .inl (cA q.1, q.2, ex_ac w i q.1)
def ex_ce (cA : FieldType → ClassId) (ad : Nat → Nat) (w : ex_W) (i : Nat) : va_E := match w.1.1[i]? with
  | some sh => ex_cell cA ad w i sh
  | none => .inr (0, [])
/-- the things from ro on -/
def ex_ws (cA : FieldType → ClassId) (ro : Nat) (ad : Nat → Nat) (w : ex_W) : va_W := (List.range (w.1.1.length - ro)).map (fun j => (ad (ro + j), ex_ce cA ad w (ro + j)))
theorem ex_ws_get {cA : FieldType → ClassId} {ro : Nat} {ad : Nat → Nat} {w : ex_W} {a : Nat} {sh : ex_Sh} (h : w.1.1[a]? = some sh) (hr : ro ≤ a) : (ex_ws cA ro ad w)[a - ro]? = some (ad a, ex_cell cA ad w a sh) := by
  have hl := (List.getElem?_eq_some_iff.mp h).1
  have e : ro + (a - ro) = a := by omega
  rw [ex_ws, List.getElem?_map, List.getElem?_range (by omega)]
  show some (ad (ro + (a - ro)), ex_ce cA ad w (ro + (a - ro))) = _
  rw [e, ex_ce, h]
theorem ex_ws_len {cA : FieldType → ClassId} {ro : Nat} {ad : Nat → Nat} {w : ex_W} : (ex_ws cA ro ad w).length = w.1.1.length - ro := by simp [ex_ws]
theorem ex_ws_at {cA : FieldType → ClassId} {ro : Nat} {ad : Nat → Nat} {w : ex_W} {j : Nat} (h : j < w.1.1.length - ro) : (ex_ws cA ro ad w)[j]? = some (ad (ro + j), ex_ce cA ad w (ro + j)) := by
  rw [ex_ws, List.getElem?_map, List.getElem?_range h]; rfl
/-- the same thing in two worlds -/
theorem ex_cell_eq {cA : FieldType → ClassId} {ad ad' : Nat → Nat} {w w' : ex_W} {i : Nat} (h1 : w'.2.1 i = w.2.1 i) (h2 : w'.2.2.1 i = w.2.2.1 i) (h3 : w'.2.2.2 i = w.2.2.2 i) (h4 : ∀ k r, w.2.2.2 i k = some r → ad' r = ad r) (sh : ex_Sh) : ex_cell cA ad' w' i sh = ex_cell cA ad w i sh := by
  have hm : ∀ k, ((w'.2.2.2 i k).map ad') = ((w.2.2.2 i k).map ad) := fun k => by
    rw [h3]
    cases hr : w.2.2.2 i k with
    | none => rfl
    | some r => simp [h4 k r hr]
  have hv : ∀ k ty, ex_val ad' w' i k ty = ex_val ad w i k ty := fun k ty => by
    cases ty <;> simp only [ex_val, h1, h2, hm]
  cases sh with
  | inl ci => simp only [ex_cell, ex_fs, hv]
  | inr q =>
    simp only [ex_cell]
    congr 3
    unfold ex_ac
    split
    · rw [h2]
    · rw [h1]
theorem ex_ws_set {cA : FieldType → ClassId} {ro : Nat} {ad : Nat → Nat} {w w' : ex_W} {a : Nat} {sh : ex_Sh} (hs : w'.1.1 = w.1.1) (h : w.1.1[a]? = some sh) (hr : ro ≤ a) (h1 : ∀ i, i ≠ a → w'.2.1 i = w.2.1 i ∧ w'.2.2.1 i = w.2.2.1 i ∧ w'.2.2.2 i = w.2.2.2 i) :
    ex_ws cA ro ad w' = (ex_ws cA ro ad w).set (a - ro) (ad a, ex_cell cA ad w' a sh) := by
  have hl := (List.getElem?_eq_some_iff.mp h).1
  refine List.ext_getElem? fun j => ?_
  by_cases hj : j = a - ro
  · subst hj
    rw [List.getElem?_set_self (by rw [ex_ws_len]; omega)]
    exact ex_ws_get (by rw [hs]; exact h) hr
  · rw [List.getElem?_set_ne (fun q => hj q.symm)]
    by_cases hjl : j < w.1.1.length - ro
    · rw [ex_ws_at hjl, ex_ws_at (by rw [hs]; exact hjl)]
      have e := h1 (ro + j) (by omega)
      have e2 : ex_ce cA ad w' (ro + j) = ex_ce cA ad w (ro + j) := by
        unfold ex_ce
        rw [hs]
        split
        · exact ex_cell_eq e.1 e.2.1 e.2.2 (fun _ _ _ => rfl) _
        · rfl
      rw [e2]
    · rw [List.getElem?_eq_none (by rw [ex_ws_len, hs]; omega), List.getElem?_eq_none (by rw [ex_ws_len]; omega)]
/-- references lie within -/
def ex_rin (w : ex_W) : Prop := ∀ i k r, w.2.2.2 i k = some r → r < w.1.1.length
theorem ex_ws_push {cA : FieldType → ClassId} {ro : Nat} {ad ad' : Nat → Nat} {w w' : ex_W} {sh : ex_Sh} (hs : w'.1.1 = w.1.1 ++ [sh]) (hr : ro ≤ w.1.1.length) (hin : ex_rin w) (had : ∀ i, i < w.1.1.length → ad' i = ad i) (h1 : ∀ i, i < w.1.1.length → w'.2.1 i = w.2.1 i ∧ w'.2.2.1 i = w.2.2.1 i ∧ w'.2.2.2 i = w.2.2.2 i) :
    ex_ws cA ro ad' w' = ex_ws cA ro ad w ++ [(ad' w.1.1.length, ex_cell cA ad' w' w.1.1.length sh)] := by
  refine List.ext_getElem? fun j => ?_
  by_cases hjl : j < w.1.1.length - ro
  · rw [List.getElem?_append_left (by rw [ex_ws_len]; exact hjl), ex_ws_at hjl, ex_ws_at (by rw [hs, List.length_append]; omega), had _ (by omega)]
    have e := h1 (ro + j) (by omega)
    have e2 : ex_ce cA ad' w' (ro + j) = ex_ce cA ad w (ro + j) := by
      unfold ex_ce
      rw [hs, List.getElem?_append_left (by omega)]
      split
      · exact ex_cell_eq e.1 e.2.1 e.2.2 (fun k r hk => had r (hin _ _ _ hk)) _
      · rfl
    rw [e2]
  · by_cases hj : j = w.1.1.length - ro
    · subst hj
      rw [List.getElem?_append_right (by rw [ex_ws_len]; omega), ex_ws_len, Nat.sub_self]
      have := ex_ws_get (cA := cA) (ro := ro) (ad := ad') (w := w') (a := w.1.1.length) (sh := sh) (by rw [hs, List.getElem?_append_right (Nat.le_refl _), Nat.sub_self]; rfl) hr
      rw [this]; rfl
    · rw [List.getElem?_eq_none (by rw [ex_ws_len, hs, List.length_append]; simp; omega), List.getElem?_eq_none (by rw [List.length_append, ex_ws_len]; simp; omega)]
/-- of the things that were there before: their classes' names, fields -/
def ex_rn (ci : Nat) : String := match ci with
  | 100 => "PileTricks$Word"
  | _ => "java/lang/String"
def ex_rq (ci k : Nat) : String × String × String × FieldType := match ci, k with
  | 100, 0 => ("PileTricks$Word", "spelled", "Ljava/lang/String;", .object "java/lang/String")
  | 100, _ => ("PileTricks$Word", "value", "I", .int)
  | _, 0 => ("java/lang/String", "value", "[B", .array .byte)
  | _, _ => ("java/lang/String", "coder", "B", .byte)
def ex_ro1 (ad : Nat → Nat) (A : Nat → Prop) (w : ex_W) (i : Nat) (sh : ex_Sh) (U : State) (H : Heap) : Prop := match sh with
  | .inl ci => ci < 200 → va_O (ex_rn ci) (ad i) A U H ∧ ∀ k, k < 2 → va_OF (ex_rq ci k).1 (ex_rq ci k).2.1 (ex_rq ci k).2.2.1 (ex_val ad w i k (ex_rq ci k).2.2.2) (ad i) A U H
  | .inr q => va_T q.1 (ad i) q.2 (fun j => ex_val ad w i j q.1) A U H
theorem ex_ro1.moved {ad : Nat → Nat} {A : Nat → Prop} {w : ex_W} {i : Nat} {sh : ex_Sh} {u U : State} {H : Heap} (hvm : u.vm.Alike U.vm) (h : ex_ro1 ad A w i sh u H) : ex_ro1 ad A w i sh U H := by
  cases sh with
  | inl ci => exact fun hc => ⟨va_O.moved hvm (h hc).1, fun k hk => va_OF.moved hvm ((h hc).2 k hk)⟩
  | inr q => exact va_T.moved hvm h
theorem ex_ro1.kept {ad : Nat → Nat} {A : Nat → Prop} {w : ex_W} {i : Nat} {sh : ex_Sh} {U : State} {H H1 : Heap} (h : ex_ro1 ad A w i sh U H) (hq : ∀ a : Nat, a < H.size → ¬ A a → H1[a]? = H[a]?) : ex_ro1 ad A w i sh U H1 := by
  cases sh with
  | inl ci => exact fun hc => ⟨(h hc).1.kept hq, fun k hk => ((h hc).2 k hk).kept hq⟩
  | inr q => exact va_T.kept h hq
theorem ex_ro1.same {ad ad' : Nat → Nat} {A : Nat → Prop} {w w' : ex_W} {i : Nat} {sh : ex_Sh} {U : State} {H : Heap} (h : ex_ro1 ad A w i sh U H) (h0 : ad' i = ad i) (h1 : w'.2.1 i = w.2.1 i) (h2 : w'.2.2.1 i = w.2.2.1 i) (h3 : w'.2.2.2 i = w.2.2.2 i) (h4 : ∀ k r, w.2.2.2 i k = some r → ad' r = ad r) : ex_ro1 ad' A w' i sh U H := by
  have hm : ∀ k, ((w'.2.2.2 i k).map ad') = ((w.2.2.2 i k).map ad) := fun k => by
    rw [h3]
    cases hr : w.2.2.2 i k with
    | none => rfl
    | some r => simp [h4 k r hr]
  have hv : ∀ k ty, ex_val ad' w' i k ty = ex_val ad w i k ty := fun k ty => by
    cases ty <;> simp only [ex_val, h1, h2, hm]
  cases sh with
  | inl ci =>
    refine fun hc => ⟨by rw [h0]; exact (h hc).1, fun k hk => ?_⟩
    rw [h0, hv]; exact (h hc).2 k hk
  | inr q =>
    show va_T q.1 (ad' i) q.2 (fun j => ex_val ad' w' i j q.1) A U H
    simp only [h0, hv]
    exact h
/-- what stays through a method: the tables' classes, the old things, the statics, words on nest mates -/
def ex_tys (cA : FieldType → ClassId) : List (ClassId × FieldType) := [(cA .int, .int), (cA .byte, .byte), (cA .boolean, .boolean), (cA .long, .long)]
abbrev ex_St : Type := String × String × String × Nat × Nat × Int32
def ex_Fix (D : va_G) (cA : FieldType → ClassId) (z0 ro : Nat) (sts : List ex_St) (Ns : List Cond) (ad : Nat → Nat) (w : ex_W) (s : State) : Prop :=
  va_K D vwCl (ex_tys cA) s ∧ z0 ≤ s.heap.size ∧
  (∀ (i : Nat) (sh : ex_Sh), i < ro → w.1.1[i]? = some sh → ex_ro1 ad (fun q => z0 ≤ q) w i sh s s.heap) ∧
  (∀ (i : Nat) (q : ex_St), sts[i]? = some q → va_Z q.1 q.2.1 q.2.2.1 (ex_cv ad (ex_stv w q.2.2.2)) (fun q => z0 ≤ q) s s.heap) ∧
  (∀ x ∈ Ns, va_Nw x s) ∧
  vx_Zq Bundle.tN "UNASSIGNED_STACK" Bundle.steD (fun q => z0 ≤ q) s s.heap ∧ vx_Zq Bundle.tN "SUPPRESSED_SENTINEL" Bundle.listD (fun q => z0 ≤ q) s s.heap ∧ va_Nc "java/lang/IllegalArgumentException" "java/util/NoSuchElementException" s ∧
  (∀ i j, i < ro → j < ro → w.1.1[i]? = some (.inl 100) → w.1.1[j]? = some (.inl 100) → ad i = ad j → i = j)
/-- what changes -/
def ex_Rel (D : va_G) (cA : FieldType → ClassId) (z0 ro : Nat) (ad : Nat → Nat) (w : ex_W) (s : State) (H : Heap) (locs : List Loc) : Prop :=
  va_P D vwCl (ex_ws cA ro ad w) H ∧ va_D (fun q => z0 ≤ q) (ex_ws cA ro ad w) ∧ va_S (fun q => z0 ≤ q) s.heap H locs ∧ ex_rin w ∧ ro ≤ w.1.1.length
/-- two worlds that agree on the old things -/
def ex_agr (ro : Nat) (sts : List ex_St) (ad ad' : Nat → Nat) (w w' : ex_W) : Prop :=
  (∀ i, i < w.1.1.length → ad' i = ad i ∧ w'.1.1[i]? = w.1.1[i]?) ∧ (∀ i, i < ro → w'.2.1 i = w.2.1 i ∧ w'.2.2.1 i = w.2.2.1 i ∧ w'.2.2.2 i = w.2.2.2 i) ∧ w.1.1.length ≤ w'.1.1.length
theorem ex_agr.rf {ro : Nat} {sts : List ex_St} {ad : Nat → Nat} {w : ex_W} : ex_agr ro sts ad ad w w := ⟨fun _ _ => ⟨rfl, rfl⟩, fun _ _ => ⟨rfl, rfl, rfl⟩, Nat.le_refl _⟩
theorem ex_agr.tr {ro : Nat} {sts : List ex_St} {ad1 ad2 ad3 : Nat → Nat} {w1 w2 w3 : ex_W} (h : ex_agr ro sts ad1 ad2 w1 w2) (g : ex_agr ro sts ad2 ad3 w2 w3) : ex_agr ro sts ad1 ad3 w1 w3 :=
  ⟨fun i hi => ⟨(g.1 i (Nat.lt_of_lt_of_le hi h.2.2)).1.trans (h.1 i hi).1, (g.1 i (Nat.lt_of_lt_of_le hi h.2.2)).2.trans (h.1 i hi).2⟩, fun i hi => ⟨(g.2.1 i hi).1.trans (h.2.1 i hi).1, (g.2.1 i hi).2.1.trans (h.2.1 i hi).2.1, (g.2.1 i hi).2.2.trans (h.2.1 i hi).2.2⟩, Nat.le_trans h.2.2 g.2.2⟩
theorem ex_okv.mono {z z' : Nat} {v : Value} (h : ex_okv z v) (hz : z ≤ z') : ex_okv z' v := by
  cases v <;> first | exact trivial | exact Nat.lt_of_lt_of_le h hz | exact h.elim
theorem ex_cv_same {ad ad' : Nat → Nat} {z : Nat} {v : Value} (h : ex_okv z v) (had : ∀ i, i < z → ad' i = ad i) : ex_cv ad' v = ex_cv ad v := by
  cases v <;> first | rfl | (show Value.ref _ = Value.ref _; rw [had _ h])
theorem ex_map_same {ad ad' : Nat → Nat} {z : Nat} {st : List Value} (h : ∀ v ∈ st, ex_okv z v) (had : ∀ i, i < z → ad' i = ad i) : st.map (ex_cv ad') = st.map (ex_cv ad) := List.map_congr_left fun v hv => ex_cv_same (h v hv) had
theorem ex_cv_rf (ad : Nat → Nat) (o : Option Nat) : ex_cv ad (va_rf o) = va_rf (o.map ad) := by cases o <;> rfl
theorem ex_okv_rf {z : Nat} {o : Option Nat} (h : ∀ r, o = some r → r < z) : ex_okv z (va_rf o) := by
  cases o with
  | none => exact trivial
  | some r => exact h r rfl
/-- statics' things are old -/
def ex_sok (ro : Nat) (sts : List ex_St) : Prop := ∀ (i : Nat) (q : ex_St), sts[i]? = some q → q.2.2.2.2.1 < ro
theorem ex_Fix.agr {D : va_G} {cA : FieldType → ClassId} {z0 ro : Nat} {sts : List ex_St} {Ns : List Cond} {ad ad' : Nat → Nat} {w w' : ex_W} {s : State} (h : ex_Fix D cA z0 ro sts Ns ad w s) (g : ex_agr ro sts ad ad' w w') (hin : ex_rin w) (hr : ro ≤ w.1.1.length) (hso : ex_sok ro sts) : ex_Fix D cA z0 ro sts Ns ad' w' s := by
  obtain ⟨h1, h2, h3, h4, h5, h6, h7, h8, h9⟩ := h
  refine ⟨h1, h2, fun i sh hi hsh => ?_, fun i q hq => ?_, h5, h6, h7, h8, fun i j hi hj h10 h11 h12 => ?_⟩
  · have e := g.2.1 i hi
    have e2 := g.1 i (Nat.lt_of_lt_of_le hi hr)
    exact (h3 i sh hi (e2.2.symm.trans hsh)).same e2.1 e.1 e.2.1 e.2.2 (fun k r hk => (g.1 r (hin _ _ _ hk)).1)
  · have e := g.2.1 _ (hso i q hq)
    have e0 := (g.1 _ (Nat.lt_of_lt_of_le (hso i q hq) hr)).1
    have e1 : ex_cv ad' (ex_stv w' q.2.2.2) = ex_cv ad (ex_stv w q.2.2.2) := by
      unfold ex_stv
      split
      · show Value.ref _ = Value.ref _; rw [e0]
      · rw [ex_cv_rf, ex_cv_rf, e.2.2]
        cases hr2 : w.2.2.2 q.2.2.2.2.1 0 with
        | none => rfl
        | some r => simp [(g.1 r (hin _ _ _ hr2)).1]
      · rfl
    rw [e1]
    exact h4 i q hq
  · have e1 := g.1 i (Nat.lt_of_lt_of_le hi hr)
    have e2 := g.1 j (Nat.lt_of_lt_of_le hj hr)
    exact h9 i j hi hj (e1.2.symm.trans h10) (e2.2.symm.trans h11) (e1.1.symm.trans (h12.trans e2.1))
/-- .. and at a callee's start -/
theorem ex_Fix.at {D : va_G} {cA : FieldType → ClassId} {z0 ro : Nat} {sts : List ex_St} {Ns : List Cond} {ad : Nat → Nat} {w : ex_W} {s U : State} {H : Heap} {locs : List Loc} (h : ex_Fix D cA z0 ro sts Ns ad w s) (hS : va_S (fun q => z0 ≤ q) s.heap H locs) (hU : U.heap = H) (hvm : s.vm.Alike U.vm) (hN : ∀ x ∈ Ns, va_Nw x U) : ex_Fix D cA z0 ro sts Ns ad w U := by
  obtain ⟨h1, h2, h3, h4, h5, h6, h7, h8, h9⟩ := h
  refine ⟨va_K.moved hvm h1, by rw [hU]; exact Nat.le_trans h2 hS.1, fun i sh hi hsh => ?_, fun i q hq => ?_, hN, ?_, ?_, va_Nc.moved hvm h8, h9⟩
  · rw [hU]; exact ((h3 i sh hi hsh).moved hvm).kept hS.2.1
  · rw [hU]; exact (va_Z.moved hvm (h4 i q hq)).kept hS.2.1
  · rw [hU]; exact (vx_Zq.moved hvm h6).kept hS.2.1
  · rw [hU]; exact (vx_Zq.moved hvm h7).kept hS.2.1
end
section
/-! The small machine's instructions that need the world, held against the JVM -/
def ex_tc (ty : FieldType) : Nat := match ty with
  | .long => 1
  | .object _ => 2
  | .array _ => 2
  | .boolean => 3
  | .int => 0
  | _ => 4
theorem ex_tyok : ∀ (ci : Nat) (q : vw_C), vwCl[ci]? = some q → (∀ k, k < q.2.2 → parseFieldDescriptor (q.2.1 k).2.2.1 = some (ex_ty ci k)) ∧ (∀ a, a < q.2.2 → ∀ b, b < q.2.2 → a ≠ b → (q.2.1 a).2.1 ≠ (q.2.1 b).2.1) := by
  intro ci q h
  match ci, h with
  | 0, h => cases h; exact ⟨tyX0_ok, nmX0⟩
  | 1, h => cases h; exact ⟨tyX1_ok, nmX1⟩
  | 2, h => cases h; exact ⟨tyX2_ok, nmX2⟩
  | 3, h => cases h; exact ⟨tyX3_ok, nmX3⟩
  | 4, h => cases h; exact ⟨tyX4_ok, nmX4⟩
  | 5, h => cases h; exact ⟨tyX5_ok, nmX5⟩
  | 6, h => cases h; exact ⟨tyX6_ok, nmX6⟩
  | 7, h => cases h; exact ⟨tyX7_ok, nmX7⟩
  | 8, h => cases h; exact ⟨tyX9_ok, nmX9⟩
  | 9, h => cases h; exact ⟨tyX10_ok, nmX10⟩
  | n + 10, h => exact absurd h (by simp)
theorem ex_tcs : ∀ ci, ci < 10 → ∀ k, k < 66 → ex_tc (ex_ty ci k) ≤ 3 := by decide +kernel
theorem ex_N_of {ci : Nat} {q : vw_C} (h : vwCl[ci]? = some q) : ex_N ci = q.2.2 := by rw [ex_N, h]
theorem ex_N66 {ci k : Nat} (hk : k < ex_N ci) : ci < 10 ∧ k < 66 := by
  unfold ex_N at hk
  split at hk
  · next q hq =>
    have hl : ci < 10 := (List.getElem?_eq_some_iff.mp hq).1
    refine ⟨hl, ?_⟩
    have : ∀ c, c < 10 → ∀ q : vw_C, vwCl[c]? = some q → q.2.2 ≤ 66 := by
      intro c hc q hq
      rcases (show c = 0 ∨ c = 1 ∨ c = 2 ∨ c = 3 ∨ c = 4 ∨ c = 5 ∨ c = 6 ∨ c = 7 ∨ c = 8 ∨ c = 9 by omega) with rfl | rfl | rfl | rfl | rfl | rfl | rfl | rfl | rfl | rfl <;> cases hq <;> decide
    exact Nat.lt_of_lt_of_le hk (this ci hl q hq)
  · exact absurd hk (Nat.not_lt_zero _)
theorem ex_vpin {j : Int32} {n : Nat} (h : ex_in j n) : vp_in j n := fun q => q.elim h.1 (fun q => Nat.not_le.mpr h.2 q)
theorem ex_fs_get {ad : Nat → Nat} {w : ex_W} {i ci k : Nat} (hk : k < ex_N ci) : (ex_fs ad w i ci)[k]? = some (ex_val ad w i k (ex_ty ci k)) := by
  rw [ex_fs, List.getElem?_map, List.getElem?_range hk]; rfl
theorem ex_vpV {fs : List Value} {j : Nat} {v : Value} (h : fs[j]? = some v) : vp_V fs j = v := by
  rw [vp_V, List.getD_eq_getElem?_getD, h]; rfl
theorem ex_fs_set {ad : Nat → Nat} {w w' : ex_W} {i ci k : Nat} {v : Value} (h1 : ∀ j, j ≠ k → w'.2.1 i j = w.2.1 i j ∧ w'.2.2.1 i j = w.2.2.1 i j ∧ w'.2.2.2 i j = w.2.2.2 i j) (h2 : ex_val ad w' i k (ex_ty ci k) = v) : ex_fs ad w' i ci = (ex_fs ad w i ci).set k v := by
  refine List.ext_getElem? fun j => ?_
  by_cases hj : j < ex_N ci
  · rw [ex_fs_get hj]
    by_cases hjk : k = j
    · subst hjk
      rw [List.getElem?_set_self (by rw [ex_fs, List.length_map, List.length_range]; exact hj), h2]
    · rw [List.getElem?_set_ne hjk, ex_fs_get hj]
      have e := h1 j (fun q => hjk q.symm)
      have : ex_val ad w' i j (ex_ty ci j) = ex_val ad w i j (ex_ty ci j) := by
        cases ex_ty ci j <;> simp only [ex_val, e.1, e.2.1, e.2.2]
      rw [this]
  · rw [List.getElem?_eq_none (by rw [ex_fs, List.length_map, List.length_range]; omega), List.getElem?_eq_none (by rw [List.length_set, ex_fs, List.length_map, List.length_range]; omega)]
theorem ex_pv_ok {w : ex_W} (hin : ex_rin w) (a k t : Nat) : ex_okv w.1.1.length (ex_pv w a k t) := by
  unfold ex_pv
  split
  · exact trivial
  · exact ex_okv_rf (fun r hr => hin _ _ _ hr)
  · exact trivial
theorem ex_pv_val {w : ex_W} {ad : Nat → Nat} {a k : Nat} {ty : FieldType} : ex_cv ad (ex_pv w a k (ex_tc ty)) = ex_val ad w a k ty := by
  cases ty <;> first | rfl | exact ex_cv_rf _ _
/-- what a row of such an instruction must be -/
def ex_hok (Ts Ns : List Cond) (own : String) (ini : Bool) (ro : Nat) (sts : List ex_St) (ins : Instr) (len : Nat) (r : List Nat) (k : Int32) : Bool := match ins with
  | .getfield idx => decide (len = 3) && (if r.getD 0 0 < 100 then (match vwCl[r.getD 0 0]? with
      | some q => decide (r.getD 1 0 < q.2.2) && decide (r.getD 2 0 = ex_tc (ex_ty (r.getD 0 0) (r.getD 1 0))) && (match r.getD 4 0 with
        | 0 => decide (Ts[r.getD 3 0]? = some (.fieldLink own idx (q.2.1 (r.getD 1 0)).1 (q.2.1 (r.getD 1 0)).2.1 (q.2.1 (r.getD 1 0)).2.2.1))
        | _ => decide (Ns[r.getD 3 0]? = some (.fieldLinkNest own idx (q.2.1 (r.getD 1 0)).1 (q.2.1 (r.getD 1 0)).2.1 (q.2.1 (r.getD 1 0)).2.2.1 "PileTricks")))
      | none => false)
    else decide (r.getD 1 0 < 2 ∧ r.getD 0 0 < 200) && decide (r.getD 2 0 = ex_tc (ex_rq (r.getD 0 0) (r.getD 1 0)).2.2.2) && (match r.getD 4 0 with
        | 0 => decide (Ts[r.getD 3 0]? = some (.fieldLink own idx (ex_rq (r.getD 0 0) (r.getD 1 0)).1 (ex_rq (r.getD 0 0) (r.getD 1 0)).2.1 (ex_rq (r.getD 0 0) (r.getD 1 0)).2.2.1))
        | _ => decide (Ns[r.getD 3 0]? = some (.fieldLinkNest own idx (ex_rq (r.getD 0 0) (r.getD 1 0)).1 (ex_rq (r.getD 0 0) (r.getD 1 0)).2.1 (ex_rq (r.getD 0 0) (r.getD 1 0)).2.2.1 "PileTricks"))))
  | .putfield idx => decide (len = 3) && decide (r.getD 2 0 ≤ 3) && (match vwCl[r.getD 0 0]? with
      | some q => decide (r.getD 1 0 < q.2.2) && decide (r.getD 2 0 = ex_tc (ex_ty (r.getD 0 0) (r.getD 1 0))) && (match r.getD 4 0 with
        | 0 => decide (Ts[r.getD 3 0]? = some (.fieldLink own idx (q.2.1 (r.getD 1 0)).1 (q.2.1 (r.getD 1 0)).2.1 (q.2.1 (r.getD 1 0)).2.2.1)) && decide ((q.2.1 (r.getD 1 0)).2.2.2 = false)
        | 1 => decide (Ns[r.getD 3 0]? = some (.fieldLinkNest own idx (q.2.1 (r.getD 1 0)).1 (q.2.1 (r.getD 1 0)).2.1 (q.2.1 (r.getD 1 0)).2.2.1 "PileTricks")) && decide ((q.2.1 (r.getD 1 0)).2.2.2 = false)
        | _ => ini && decide (Ts[r.getD 3 0]? = some (.fieldLink own idx (q.2.1 (r.getD 1 0)).1 (q.2.1 (r.getD 1 0)).2.1 (q.2.1 (r.getD 1 0)).2.2.1)) && decide ((q.2.1 (r.getD 1 0)).2.2.2 = true) && decide ((q.2.1 (r.getD 1 0)).1 = own))
      | none => false)
  | .newarray t => decide (len = 2) && ex_at (newarray.typeOf t) && decide (Ts[r.getD 0 0]? = some (.arrayClass (newarray.typeOf t)))
  | .new idx => decide (len = 3) && (match vwCl[r.getD 1 0]? with
      | some q => decide (Ts[r.getD 2 0]? = some (.classLink own idx q.1)) && decide (Ts[r.getD 3 0]? = some (.instantiable q.1 q.2.2)) && decide (Ts[r.getD 4 0]? = some (.initialized q.1))
      | none => false)
  | .getstatic idx => decide (len = 3) && (match sts[r.getD 2 0]? with
      | some q => decide (q.2.2.2 = (r.getD 0 0, r.getD 1 0, k)) && (match r.getD 4 0 with
        | 0 => decide (Ts[r.getD 3 0]? = some (.fieldLink own idx q.1 q.2.1 q.2.2.1))
        | _ => decide (Ns[r.getD 3 0]? = some (.fieldLinkNest own idx q.1 q.2.1 q.2.2.1 "PileTricks")))
      | none => false)
  | .ldc idx => decide (len = 2) && decide (Ts[r.getD 0 0]? = some (.constant own idx k))
  | .ldc_w idx => decide (len = 3) && decide (Ts[r.getD 0 0]? = some (.constant own idx k))
  | .ldc2_w idx => decide (len = 3) && decide (Ts[r.getD 1 0]? = some (.constantLong own idx (lN (r.getD 0 0))))
  | _ => decide (len = 1)
section EXH
variable {p : Program} {l : Launch} {e : Env} {R : Room} {s : State} {m : MethodId} {args : Array Value} {below : List Frame} {meth : Method} {c : Code} {H : Heap} {locs : List Loc} {Q : State → Prop}
variable {cc : ByteArray} {pc : Nat} {ls : Array Slot} {ad : Nat → Nat} {D : va_G} {cA : FieldType → ClassId} {z0 ro c0 s0 : Nat} {sts : List ex_St} {Ts Ns : List Cond} {own : String} {w : ex_W} {r : List Nat} {k : Int32} {st st' : List Value} {w' : ex_W} {len : Nat} {ini : Bool}
theorem ex_h_getfield {idx : Nat} (hexec : p.tables.exec = Jvm.exec) (hb : c.code = cc) (hown : s.vm.findClass own = some m.cls) (hts : ∀ w ∈ Ts, w.before args s = true) (hU : ∀ (ci : Nat) (q : vw_C), vwCl[ci]? = some q → ∀ w ∈ u_ws q.1 q.2.1 q.2.2, w ∈ Ts)
    (hF : ex_Fix D cA z0 ro sts Ns ad w s) (hR : ex_Rel D cA z0 ro ad w s H locs) (h : ex_heap ro (.getfield idx) r k st w = some (st', w')) (hk : ex_hok Ts Ns own ini ro sts (.getfield idx) len r k = true) (hd : decode cc pc = .ok (.getfield idx, len)) (ho : ∀ v ∈ st, ex_okv w.1.1.length v)
    (kk : w' = w → (∀ v ∈ st', ex_okv w.1.1.length v) → W p l e R s m args below meth c H locs (w.1.2.1 - c0) (w.1.2.2 - s0) Q (F0 m (pc + len) ls (st'.map (ex_cv ad)))) :
    W p l e R s m args below meth c H locs (w.1.2.1 - c0) (w.1.2.2 - s0) Q (F0 m pc ls (st.map (ex_cv ad))) := by
  simp only [ex_heap] at h
  split at h
  · next a st1 =>
    split at h
    · next ci hsh =>
      split at h
      · next hci =>
        cases h
        obtain ⟨hci, hcr⟩ := hci
        have ho' := ex_cn (ex_pv_ok hR.2.2.2.1 a (r.getD 1 0) (r.getD 2 0)) (ex_tl ho)
        have kk := kk rfl ho'
        simp only [ex_hok, Bool.and_eq_true, decide_eq_true_eq] at hk
        obtain ⟨rfl, hk⟩ := hk
        subst hci
        rcases Nat.lt_or_ge a ro with har | har
        · have hro := hF.2.2.1 a _ har hsh
          by_cases hc : r.getD 0 0 < 100
          · rw [if_pos hc] at hk
            split at hk
            · exfalso; omega
            · cases hk
          · rw [if_neg hc] at hk
            simp only [Bool.and_eq_true, decide_eq_true_eq] at hk
            obtain ⟨⟨hk1, hk2⟩, hk3⟩ := hk
            have hOF := (hro hk1.2).2 _ hk1.1
            rw [List.map_cons, hk2, ex_pv_val] at kk
            split at hk3
            · simp only [decide_eq_true_eq] at hk3
              exact vk_getf hexec hb hOF hR.2.2.1 hown (hts _ (List.mem_of_getElem? hk3)) (fun _ h9 => h9) hd kk
            · simp only [decide_eq_true_eq] at hk3
              obtain ⟨cf, kf, fi, f, cell, g1, g2, g3, g4, g5, g6⟩ := hOF.kept hR.2.2.1.2.1
              exact va_Wgetf hexec hb hown (va_Nw.use rfl (hF.2.2.2.2.1 _ (List.mem_of_getElem? hk3))) g1 g2 g3 g4 g5 rfl rfl hd kk
        · have he := ex_ws_get (cA := cA) (ad := ad) hsh har
          by_cases hc : r.getD 0 0 < 100
          · rw [if_pos hc] at hk
            split at hk
            · next q hq =>
              simp only [Bool.and_eq_true, decide_eq_true_eq] at hk
              obtain ⟨⟨hk1, hk2⟩, hk3⟩ := hk
              rw [List.map_cons, hk2, ex_pv_val] at kk
              have hv := ex_fs_get (ad := ad) (w := w) (i := a) (ci := r.getD 0 0) (k := r.getD 1 0) (by rw [ex_N_of hq]; exact hk1)
              split at hk3
              · simp only [decide_eq_true_eq] at hk3
                exact va_get hexec hb hts (hU _ _ hq) hown hF.1 hR.1 _ he hq _ hk1 (hts _ (List.mem_of_getElem? hk3)) (fun _ h9 => h9) hv hd kk
              · simp only [decide_eq_true_eq] at hk3
                exact va_getN hexec hb hts (hU _ _ hq) hown hF.1 hR.1 _ he hq _ hk1 (va_Nw.use rfl (hF.2.2.2.2.1 _ (List.mem_of_getElem? hk3))) (fun _ h9 => h9) hv hd kk
            · cases hk
          · exfalso; omega
      · cases h
    · cases h
  · cases h
/-- a putfield's or a store's end: one thing is another -/
theorem ex_h_upd {H1 : Heap} {locs1 : List Loc} {a : Nat} {sh : ex_Sh} (hR : ex_Rel D cA z0 ro ad w s H locs) (hsh : w.1.1[a]? = some sh) (har : ro ≤ a) (hs : w'.1 = w.1) (h1 : ∀ i, i ≠ a → w'.2.1 i = w.2.1 i ∧ w'.2.2.1 i = w.2.2.1 i ∧ w'.2.2.2 i = w.2.2.2 i) (hin : ∀ k r, w'.2.2.2 a k = some r → r < w.1.1.length)
    (hP : va_P D vwCl ((ex_ws cA ro ad w).set (a - ro) (ad a, ex_cell cA ad w' a sh)) H1) (hD : va_D (fun q => z0 ≤ q) ((ex_ws cA ro ad w).set (a - ro) (ad a, ex_cell cA ad w' a sh))) (hS : va_S (fun q => z0 ≤ q) s.heap H1 locs1) : ex_Rel D cA z0 ro ad w' s H1 locs1 ∧ ex_agr ro sts ad ad w w' := by
  have e := ex_ws_set (cA := cA) (ro := ro) (ad := ad) (w := w) (w' := w') (by rw [hs]) hsh har h1
  rw [← e] at hP hD
  refine ⟨⟨hP, hD, hS, fun i k r hk => ?_, by rw [hs]; exact hR.2.2.2.2⟩, fun i _ => ⟨rfl, by rw [hs]⟩, fun i hi => h1 i (by omega), by rw [hs]; exact Nat.le_refl _⟩
  rw [hs]
  by_cases hi : i = a
  · subst hi; exact hin k r hk
  · exact hR.2.2.2.1 i k r (by rw [← (h1 i hi).2.2]; exact hk)
theorem ex_set_ne {α : Type} {I : Nat → Nat → α} {a i : Nat} {g : Nat → α} (h : i ≠ a) : ex_set I a g i = I i := if_neg h
theorem ex_set_eq {α : Type} {I : Nat → Nat → α} {a : Nat} {g : Nat → α} : ex_set I a g a = g := if_pos rfl
theorem ex_up_ne {α : Type} {f : Nat → α} {k j : Nat} {v : α} (h : j ≠ k) : va_up f k v j = f j := if_neg h
theorem ex_up_eq {α : Type} {f : Nat → α} {k : Nat} {v : α} : va_up f k v k = v := if_pos rfl
/-- one field of an object is another: any kind of field -/
theorem ex_h_put {idx a ci : Nat} {v : Value} {st1 : List Value} (hexec : p.tables.exec = Jvm.exec) (hb : c.code = cc) (hown : s.vm.findClass own = some m.cls) (hini : ini = true → meth.name = "<init>") (hts : ∀ w ∈ Ts, w.before args s = true) (hU : ∀ (ci : Nat) (q : vw_C), vwCl[ci]? = some q → ∀ w ∈ u_ws q.1 q.2.1 q.2.2, w ∈ Ts)
    (hF : ex_Fix D cA z0 ro sts Ns ad w s) (hR : ex_Rel D cA z0 ro ad w s H locs) (hsh : w.1.1[a]? = some (.inl ci)) (hci : ci = r.getD 0 0) (har : ro ≤ a) (hk : ex_hok Ts Ns own ini ro sts (.putfield idx) len r k = true) (hd : decode cc pc = .ok (.putfield idx, len)) (ho : ∀ v ∈ st1, ex_okv w.1.1.length v)
    (hs : w'.1 = w.1) (h1 : ∀ i, i ≠ a → w'.2.1 i = w.2.1 i ∧ w'.2.2.1 i = w.2.2.1 i ∧ w'.2.2.2 i = w.2.2.2 i) (h2 : ∀ j, j ≠ r.getD 1 0 → w'.2.1 a j = w.2.1 a j ∧ w'.2.2.1 a j = w.2.2.1 a j ∧ w'.2.2.2 a j = w.2.2.2 a j) (hin : ∀ k r, w'.2.2.2 a k = some r → r < w.1.1.length)
    (hv : ∀ ty, ex_tc ty = r.getD 2 0 → r.getD 2 0 ≤ 3 → ex_val ad w' a (r.getD 1 0) ty = v ∧ narrow ty v = v ∧ fits ty v = true)
    (kk : ∀ (H1 : Heap) (locs1 : List Loc), ex_Rel D cA z0 ro ad w' s H1 locs1 → ex_agr ro sts ad ad w w' → (∀ v ∈ st1, ex_okv w'.1.1.length v) → W p l e R s m args below meth c H1 locs1 (w'.1.2.1 - c0) (w'.1.2.2 - s0) Q (F0 m (pc + len) ls (st1.map (ex_cv ad)))) :
    W p l e R s m args below meth c H locs (w.1.2.1 - c0) (w.1.2.2 - s0) Q (F0 m pc ls (v :: .ref (ad a) :: st1.map (ex_cv ad))) := by
  have he := ex_ws_get (cA := cA) (ad := ad) hsh har
  simp only [ex_hok, Bool.and_eq_true, decide_eq_true_eq] at hk
  obtain ⟨⟨rfl, ht3⟩, hk⟩ := hk
  split at hk
  · next q hq =>
    simp only [Bool.and_eq_true, decide_eq_true_eq] at hk
    obtain ⟨⟨hk1, hk2⟩, hk3⟩ := hk
    subst hci
    have hkN : r.getD 1 0 < ex_N (r.getD 0 0) := by rw [ex_N_of hq]; exact hk1
    obtain ⟨hv1, hv2, hv3⟩ := hv _ hk2.symm ht3
    have hfs := ex_fs_set (ad := ad) (w := w) (w' := w') (i := a) (ci := r.getD 0 0) (k := r.getD 1 0) (v := v) h2 hv1
    have hty := ex_tyok _ _ hq
    have hl : r.getD 1 0 < (ex_fs ad w a (r.getD 0 0)).length := by rw [ex_fs, List.length_map, List.length_range]; exact hkN
    have fin : ∀ (H1 : Heap) (locs1 : List Loc), va_P D vwCl ((ex_ws cA ro ad w).set (a - ro) (ad a, .inr (r.getD 0 0, (ex_fs ad w a (r.getD 0 0)).set (r.getD 1 0) v))) H1 → va_D (fun q => z0 ≤ q) ((ex_ws cA ro ad w).set (a - ro) (ad a, .inr (r.getD 0 0, (ex_fs ad w a (r.getD 0 0)).set (r.getD 1 0) v))) → va_S (fun q => z0 ≤ q) s.heap H1 locs1 → W p l e R s m args below meth c H1 locs1 (w.1.2.1 - c0) (w.1.2.2 - s0) Q (F0 m (pc + 3) ls (st1.map (ex_cv ad))) := by
      intro H1 locs1 hP hD hS
      rw [← hfs] at hP hD
      obtain ⟨g1, g2⟩ := ex_h_upd (sts := sts) hR hsh har hs h1 hin hP hD hS
      have := kk H1 locs1 g1 g2 (by rw [hs]; exact ho)
      rw [hs] at this
      exact this
    split at hk3
    · simp only [Bool.and_eq_true, decide_eq_true_eq] at hk3
      exact va_put hexec hb hts (hU _ _ hq) (ex_ty (r.getD 0 0)) hty.1 hty.2 hown hF.1 hR.1 hR.2.1 hR.2.2.1 _ he hq _ hk1 (hts _ (List.mem_of_getElem? hk3.1)) (fun _ h9 => h9) hk3.2 (hty.1 _ hk1) hv2 hv3 hl hd fin
    · simp only [Bool.and_eq_true, decide_eq_true_eq] at hk3
      exact va_putN hexec hb hts (hU _ _ hq) (ex_ty (r.getD 0 0)) hty.1 hty.2 hown hF.1 hR.1 hR.2.1 hR.2.2.1 _ he hq _ hk1 (va_Nw.use rfl (hF.2.2.2.2.1 _ (List.mem_of_getElem? hk3.1))) (fun _ h9 => h9) hk3.2 (hty.1 _ hk1) hv2 hv3 hl hd fin
    · simp only [Bool.and_eq_true, decide_eq_true_eq] at hk3
      exact va_putF hexec hb hts (hU _ _ hq) (ex_ty (r.getD 0 0)) hty.1 hty.2 hown hF.1 hR.1 hR.2.1 hR.2.2.1 _ he hq _ hk1 (hts _ (List.mem_of_getElem? hk3.1.1.2)) (fun _ h9 => h9) hk3.1.2 (hini hk3.1.1.1) hk3.2 (hty.1 _ hk1) hv2 hv3 hl hd fin
  · cases hk
theorem ex_nz (x : Int32) (h : x = 0 ∨ x = 1) : narrow .boolean (.int x) = .int x ∧ fits .boolean (.int x) = true := by
  rcases h with rfl | rfl <;> decide +kernel
theorem ex_h_putfield {idx : Nat} (hexec : p.tables.exec = Jvm.exec) (hb : c.code = cc) (hown : s.vm.findClass own = some m.cls) (hini : ini = true → meth.name = "<init>") (hts : ∀ w ∈ Ts, w.before args s = true) (hU : ∀ (ci : Nat) (q : vw_C), vwCl[ci]? = some q → ∀ w ∈ u_ws q.1 q.2.1 q.2.2, w ∈ Ts)
    (hF : ex_Fix D cA z0 ro sts Ns ad w s) (hR : ex_Rel D cA z0 ro ad w s H locs) (h : ex_heap ro (.putfield idx) r k st w = some (st', w')) (hk : ex_hok Ts Ns own ini ro sts (.putfield idx) len r k = true) (hd : decode cc pc = .ok (.putfield idx, len)) (ho : ∀ v ∈ st, ex_okv w.1.1.length v)
    (kk : ∀ (H1 : Heap) (locs1 : List Loc), ex_Rel D cA z0 ro ad w' s H1 locs1 → ex_agr ro sts ad ad w w' → (∀ v ∈ st', ex_okv w'.1.1.length v) → W p l e R s m args below meth c H1 locs1 (w'.1.2.1 - c0) (w'.1.2.2 - s0) Q (F0 m (pc + len) ls (st'.map (ex_cv ad)))) :
    W p l e R s m args below meth c H locs (w.1.2.1 - c0) (w.1.2.2 - s0) Q (F0 m pc ls (st.map (ex_cv ad))) := by
  simp only [ex_heap] at h
  split at h
  · next ht =>
    split at h
    · next x a st1 =>
      split at h
      · next ci hsh =>
        split at h
        · next hc =>
          simp only [Option.some.injEq, Prod.mk.injEq] at h
          obtain ⟨rfl, hw⟩ := h
          have hw := hw.symm
          refine ex_h_put (v := .long x) hexec hb hown hini hts hU hF hR hsh hc.1 hc.2 hk hd (ex_tl (ex_tl ho)) (by rw [hw]) (fun i hi => by rw [hw]; exact ⟨rfl, ex_set_ne hi, rfl⟩) (fun j hj => by rw [hw]; exact ⟨rfl, (congrFun ex_set_eq j).trans (ex_up_ne hj), rfl⟩) (fun k r hk => hR.2.2.2.1 _ _ _ (by rw [hw] at hk; exact hk)) (fun ty h1 h2 => ?_) kk
          · rw [ht] at h1
            cases ty <;> simp [ex_tc] at h1
            refine ⟨?_, rfl, rfl⟩
            rw [hw]
            show Value.long (ex_set _ a _ a _) = _
            rw [ex_set_eq, ex_up_eq]
        · cases h
      · cases h
    · cases h
  · next ht =>
    split at h
    · next x a st1 =>
      split at h
      · next ci hsh =>
        split at h
        · next hc =>
          simp only [Option.some.injEq, Prod.mk.injEq] at h
          obtain ⟨rfl, hw⟩ := h
          have hw := hw.symm
          have hx : x < w.1.1.length := ho _ List.mem_cons_self
          refine ex_h_put (v := .ref (ad x)) hexec hb hown hini hts hU hF hR hsh hc.1 hc.2 hk hd (ex_tl (ex_tl ho)) (by rw [hw]) (fun i hi => by rw [hw]; exact ⟨rfl, rfl, ex_set_ne hi⟩) (fun j hj => by rw [hw]; exact ⟨rfl, rfl, (congrFun ex_set_eq j).trans (ex_up_ne hj)⟩) (fun k r' hk => ?_) (fun ty h1 h2 => ?_) kk
          · rw [hw] at hk
            have hk : ex_set w.2.2.2 a (va_up (w.2.2.2 a) (r.getD 1 0) (some x)) a k = some r' := hk
            rw [ex_set_eq] at hk
            by_cases hkk : k = r.getD 1 0
            · rw [hkk, ex_up_eq] at hk; cases hk; exact hx
            · rw [ex_up_ne hkk] at hk; exact hR.2.2.2.1 _ _ _ hk
          · rw [ht] at h1
            cases ty <;> simp [ex_tc] at h1
            all_goals
              refine ⟨?_, rfl, rfl⟩
              rw [hw]
              show va_rf (Option.map ad (ex_set _ a _ a _)) = _
              rw [ex_set_eq, ex_up_eq]; rfl
        · cases h
      · cases h
    · cases h
  · next ht =>
    split at h
    · next x a st1 =>
      split at h
      · next ci hsh =>
        split at h
        · next hc =>
          split at h
          · next hx =>
            simp only [Option.some.injEq, Prod.mk.injEq] at h
            obtain ⟨rfl, hw⟩ := h
            have hw := hw.symm
            refine ex_h_put (v := .int x) hexec hb hown hini hts hU hF hR hsh hc.1 hc.2 hk hd (ex_tl (ex_tl ho)) (by rw [hw]) (fun i hi => by rw [hw]; exact ⟨ex_set_ne hi, rfl, rfl⟩) (fun j hj => by rw [hw]; exact ⟨(congrFun ex_set_eq j).trans (ex_up_ne hj), rfl, rfl⟩) (fun k r hk => hR.2.2.2.1 _ _ _ (by rw [hw] at hk; exact hk)) (fun ty h1 h2 => ?_) kk
            · rw [ht] at h1
              cases ty <;> simp [ex_tc] at h1
              refine ⟨?_, (ex_nz x hx).1, (ex_nz x hx).2⟩
              rw [hw]
              show Value.int (ex_set _ a _ a _) = _
              rw [ex_set_eq, ex_up_eq]
          · cases h
        · cases h
      · cases h
    · cases h
  · next n1 n2 n3 =>
    split at h
    · next x a st1 =>
      split at h
      · next ci hsh =>
        split at h
        · next hc =>
          simp only [Option.some.injEq, Prod.mk.injEq] at h
          obtain ⟨rfl, hw⟩ := h
          have hw := hw.symm
          refine ex_h_put (v := .int x) hexec hb hown hini hts hU hF hR hsh hc.1 hc.2 hk hd (ex_tl (ex_tl ho)) (by rw [hw]) (fun i hi => by rw [hw]; exact ⟨ex_set_ne hi, rfl, rfl⟩) (fun j hj => by rw [hw]; exact ⟨(congrFun ex_set_eq j).trans (ex_up_ne hj), rfl, rfl⟩) (fun k r hk => hR.2.2.2.1 _ _ _ (by rw [hw] at hk; exact hk)) (fun ty h1 h2 => ?_) kk
          · have hz : r.getD 2 0 = 0 := by
              rcases (show r.getD 2 0 = 0 ∨ r.getD 2 0 = 1 ∨ r.getD 2 0 = 2 ∨ r.getD 2 0 = 3 by omega) with h | h | h | h
              · exact h
              · exact absurd h n1
              · exact absurd h n2
              · exact absurd h n3
            rw [hz] at h1
            cases ty <;> simp [ex_tc] at h1
            refine ⟨?_, rfl, rfl⟩
            rw [hw]
            show Value.int (ex_set _ a _ a _) = _
            rw [ex_set_eq, ex_up_eq]
        · cases h
      · cases h
    · cases h
theorem ex_h_len (hexec : p.tables.exec = Jvm.exec) (hb : c.code = cc) (hF : ex_Fix D cA z0 ro sts Ns ad w s) (hR : ex_Rel D cA z0 ro ad w s H locs) (h : ex_heap ro .arraylength r k st w = some (st', w')) (hd : decode cc pc = .ok (.arraylength, 1)) (ho : ∀ v ∈ st, ex_okv w.1.1.length v)
    (kk : w' = w → (∀ v ∈ st', ex_okv w.1.1.length v) → W p l e R s m args below meth c H locs (w.1.2.1 - c0) (w.1.2.2 - s0) Q (F0 m (pc + 1) ls (st'.map (ex_cv ad)))) :
    W p l e R s m args below meth c H locs (w.1.2.1 - c0) (w.1.2.2 - s0) Q (F0 m pc ls (st.map (ex_cv ad))) := by
  simp only [ex_heap] at h
  split at h
  · next a st1 =>
    split at h
    · next q hsh =>
      split at h
      · next hc =>
        cases h
        have kk := kk rfl (ex_cn trivial (ex_tl ho))
        rcases Nat.lt_or_ge a ro with har | har
        · exact va_tlen hexec hb (hF.2.2.1 a _ har hsh) hR.2.2.1 rfl hd kk
        · have hat : ex_at q.1 = true := hc.resolve_left (fun q => q har)
          have he := ex_ws_get (cA := cA) (ad := ad) hsh har
          have ht : ∃ t0 : Nat, (ex_tys cA)[t0]? = some (cA q.1, q.1) := by
            obtain ⟨ty, n⟩ := q
            cases ty <;> simp [ex_at] at hat
            · exact ⟨1, rfl⟩
            · exact ⟨0, rfl⟩
            · exact ⟨3, rfl⟩
            · exact ⟨2, rfl⟩
          obtain ⟨t0, ht⟩ := ht
          exact va_alen hexec hb hF.1 hR.1 _ t0 he ht rfl hd kk
      · cases h
    · cases h
  · cases h
theorem ex_h_load {ins : Instr} (hi : ins = .iaload ∨ ins = .baload ∨ ins = .laload ∨ ins = .aaload) (hexec : p.tables.exec = Jvm.exec) (hb : c.code = cc) (hF : ex_Fix D cA z0 ro sts Ns ad w s) (hR : ex_Rel D cA z0 ro ad w s H locs) (h : ex_heap ro ins r k st w = some (st', w')) (hd : decode cc pc = .ok (ins, 1)) (ho : ∀ v ∈ st, ex_okv w.1.1.length v)
    (kk : w' = w → (∀ v ∈ st', ex_okv w.1.1.length v) → W p l e R s m args below meth c H locs (w.1.2.1 - c0) (w.1.2.2 - s0) Q (F0 m (pc + 1) ls (st'.map (ex_cv ad)))) :
    W p l e R s m args below meth c H locs (w.1.2.1 - c0) (w.1.2.2 - s0) Q (F0 m pc ls (st.map (ex_cv ad))) := by
  rcases hi with rfl | rfl | rfl | rfl
  · simp only [ex_heap] at h
    split at h
    · next j a st1 =>
      split at h
      · next n hsh =>
        split at h
        · next hc =>
          cases h
          have kk := kk rfl (ex_cn trivial (ex_tl (ex_tl ho)))
          rcases Nat.lt_or_ge a ro with har | har
          · exact va_ti hexec hb (hF.2.2.1 a _ har hsh) hR.2.2.1 (ex_vpin hc) rfl hd kk
          · exact va_iald hexec hb hF.1 hR.1 _ 0 (ex_ws_get (cA := cA) (ad := ad) hsh har) rfl (ex_vpin hc) hd kk
        · cases h
      · cases h
    · cases h
  · simp only [ex_heap] at h
    split at h
    · next j a st1 =>
      split at h
      · next n hsh =>
        split at h
        · next hc =>
          cases h
          have kk := kk rfl (ex_cn trivial (ex_tl (ex_tl ho)))
          rcases Nat.lt_or_ge a ro with har | har
          · exact va_tb hexec hb (hF.2.2.1 a _ har hsh) hR.2.2.1 (ex_vpin hc) rfl hd kk
          · exact va_bald hexec hb hF.1 hR.1 _ 1 (ex_ws_get (cA := cA) (ad := ad) hsh har) rfl (ex_vpin hc) hd kk
        · cases h
      · next n hsh =>
        split at h
        · next hc =>
          cases h
          have kk := kk rfl (ex_cn trivial (ex_tl (ex_tl ho)))
          rcases Nat.lt_or_ge a ro with har | har
          · exact va_tz hexec hb (hF.2.2.1 a _ har hsh) hR.2.2.1 (ex_vpin hc) rfl hd kk
          · exact va_zald hexec hb hF.1 hR.1 _ 2 (ex_ws_get (cA := cA) (ad := ad) hsh har) rfl (ex_vpin hc) hd kk
        · cases h
      · cases h
    · cases h
  · simp only [ex_heap] at h
    split at h
    · next j a st1 =>
      split at h
      · next n hsh =>
        split at h
        · next hc =>
          cases h
          have kk := kk rfl (ex_cn trivial (ex_tl (ex_tl ho)))
          rcases Nat.lt_or_ge a ro with har | har
          · exact va_tl hexec hb (hF.2.2.1 a _ har hsh) hR.2.2.1 (ex_vpin hc) rfl hd kk
          · exact va_lald hexec hb hF.1 hR.1 _ 3 (ex_ws_get (cA := cA) (ad := ad) hsh har) rfl (ex_vpin hc) hd kk
        · cases h
      · cases h
    · cases h
  · simp only [ex_heap] at h
    split at h
    · next j a st1 =>
      split at h
      · next C n hsh =>
        split at h
        · next hc =>
          cases h
          have kk := kk rfl (ex_cn (ex_okv_rf (fun r hr => hR.2.2.2.1 _ _ _ hr)) (ex_tl (ex_tl ho)))
          rw [List.map_cons, ex_cv_rf] at kk
          have har : a < ro := Nat.not_le.mp hc.2
          exact vb_tq hexec hb (hF.2.2.1 a _ har hsh) hR.2.2.1 (ex_vpin hc.1) rfl hd kk
        · cases h
      · cases h
    · cases h
theorem ex_h_store {ins : Instr} (hi : ins = .iastore ∨ ins = .bastore ∨ ins = .lastore) (hexec : p.tables.exec = Jvm.exec) (hb : c.code = cc) (hF : ex_Fix D cA z0 ro sts Ns ad w s) (hR : ex_Rel D cA z0 ro ad w s H locs) (h : ex_heap ro ins r k st w = some (st', w')) (hd : decode cc pc = .ok (ins, 1)) (ho : ∀ v ∈ st, ex_okv w.1.1.length v)
    (kk : ∀ (H1 : Heap) (locs1 : List Loc), ex_Rel D cA z0 ro ad w' s H1 locs1 → ex_agr ro sts ad ad w w' → (∀ v ∈ st', ex_okv w'.1.1.length v) → W p l e R s m args below meth c H1 locs1 (w'.1.2.1 - c0) (w'.1.2.2 - s0) Q (F0 m (pc + 1) ls (st'.map (ex_cv ad)))) :
    W p l e R s m args below meth c H locs (w.1.2.1 - c0) (w.1.2.2 - s0) Q (F0 m pc ls (st.map (ex_cv ad))) := by
  have fin : ∀ (a : Nat) (sh : ex_Sh) (st1 : List Value), w.1.1[a]? = some sh → ro ≤ a → (∀ v ∈ st1, ex_okv w.1.1.length v) → st' = st1 → w'.1 = w.1 → (∀ i, i ≠ a → w'.2.1 i = w.2.1 i ∧ w'.2.2.1 i = w.2.2.1 i ∧ w'.2.2.2 i = w.2.2.2 i) → w'.2.2.2 = w.2.2.2 →
      ∀ (H1 : Heap) (locs1 : List Loc), va_P D vwCl ((ex_ws cA ro ad w).set (a - ro) (ad a, ex_cell cA ad w' a sh)) H1 → va_D (fun q => z0 ≤ q) ((ex_ws cA ro ad w).set (a - ro) (ad a, ex_cell cA ad w' a sh)) → va_S (fun q => z0 ≤ q) s.heap H1 locs1 → W p l e R s m args below meth c H1 locs1 (w.1.2.1 - c0) (w.1.2.2 - s0) Q (F0 m (pc + 1) ls (st1.map (ex_cv ad))) := by
    intro a sh st1 hsh har ho1 he hs h1 h2 H1 locs1 hP hD hS
    obtain ⟨g1, g2⟩ := ex_h_upd (sts := sts) hR hsh har hs h1 (fun k r hk => hR.2.2.2.1 a k r (by rw [← h2]; exact hk)) hP hD hS
    have := kk H1 locs1 g1 g2 (by rw [hs, he]; exact ho1)
    rw [hs, he] at this
    exact this
  rcases hi with rfl | rfl | rfl
  · simp only [ex_heap] at h
    split at h
    · next x j a st1 =>
      split at h
      · next n hsh =>
        split at h
        · next hc =>
          simp only [Option.some.injEq, Prod.mk.injEq] at h
          obtain ⟨h1, hw⟩ := h
          have hw := hw.symm
          have f := fin a _ st1 hsh hc.2 (ex_tl (ex_tl (ex_tl ho))) h1.symm (by rw [hw]) (fun i hi => by rw [hw]; exact ⟨ex_set_ne hi, rfl, rfl⟩) (by rw [hw])
          refine va_iast hexec hb hF.1 hR.1 hR.2.1 hR.2.2.1 _ 0 (ex_ws_get (cA := cA) (ad := ad) hsh hc.2) rfl (ex_vpin hc.1) hd fun H1 locs1 hP hD hS => f H1 locs1 ?_ ?_ hS
          · have e : ex_cell cA ad w' a (.inr (.int, n)) = .inl (cA .int, n, .inl (upd (w.2.1 a) j.toNatClampNeg x)) := by
              rw [hw]; show Sum.inl (cA .int, n, Sum.inl (ex_set _ a _ a)) = _; rw [ex_set_eq]; rfl
            rw [e]; exact hP
          · have e : ex_cell cA ad w' a (.inr (.int, n)) = .inl (cA .int, n, .inl (upd (w.2.1 a) j.toNatClampNeg x)) := by
              rw [hw]; show Sum.inl (cA .int, n, Sum.inl (ex_set _ a _ a)) = _; rw [ex_set_eq]; rfl
            rw [e]; exact hD
        · cases h
      · cases h
    · cases h
  · simp only [ex_heap] at h
    split at h
    · next x j a st1 =>
      split at h
      · next n hsh =>
        split at h
        · next hc =>
          simp only [Option.some.injEq, Prod.mk.injEq] at h
          obtain ⟨h1, hw⟩ := h
          have hw := hw.symm
          have f := fin a _ st1 hsh hc.2 (ex_tl (ex_tl (ex_tl ho))) h1.symm (by rw [hw]) (fun i hi => by rw [hw]; exact ⟨ex_set_ne hi, rfl, rfl⟩) (by rw [hw])
          have e : ex_cell cA ad w' a (.inr (.byte, n)) = .inl (cA .byte, n, .inl (upd (w.2.1 a) j.toNatClampNeg (vp_nar .byte x))) := by
            rw [hw]; show Sum.inl (cA .byte, n, Sum.inl (ex_set _ a _ a)) = _; rw [ex_set_eq]; rfl
          rw [e] at f
          exact va_bast hexec hb hF.1 hR.1 hR.2.1 hR.2.2.1 _ 1 (ex_ws_get (cA := cA) (ad := ad) hsh hc.2) rfl (ex_vpin hc.1) hd f
        · cases h
      · next n hsh =>
        split at h
        · next hc =>
          simp only [Option.some.injEq, Prod.mk.injEq] at h
          obtain ⟨h1, hw⟩ := h
          have hw := hw.symm
          have f := fin a _ st1 hsh hc.2 (ex_tl (ex_tl (ex_tl ho))) h1.symm (by rw [hw]) (fun i hi => by rw [hw]; exact ⟨ex_set_ne hi, rfl, rfl⟩) (by rw [hw])
          have e : ex_cell cA ad w' a (.inr (.boolean, n)) = .inl (cA .boolean, n, .inl (upd (w.2.1 a) j.toNatClampNeg (vp_nar .boolean x))) := by
            rw [hw]; show Sum.inl (cA .boolean, n, Sum.inl (ex_set _ a _ a)) = _; rw [ex_set_eq]; rfl
          rw [e] at f
          exact va_zast hexec hb hF.1 hR.1 hR.2.1 hR.2.2.1 _ 2 (ex_ws_get (cA := cA) (ad := ad) hsh hc.2) rfl (ex_vpin hc.1) hd f
        · cases h
      · cases h
    · cases h
  · simp only [ex_heap] at h
    split at h
    · next x j a st1 =>
      split at h
      · next n hsh =>
        split at h
        · next hc =>
          simp only [Option.some.injEq, Prod.mk.injEq] at h
          obtain ⟨h1, hw⟩ := h
          have hw := hw.symm
          have f := fin a _ st1 hsh hc.2 (ex_tl (ex_tl (ex_tl ho))) h1.symm (by rw [hw]) (fun i hi => by rw [hw]; exact ⟨rfl, ex_set_ne hi, rfl⟩) (by rw [hw])
          have e : ex_cell cA ad w' a (.inr (.long, n)) = .inl (cA .long, n, .inr (.inl (vp_updL (w.2.2.1 a) j.toNatClampNeg x))) := by
            rw [hw]; show Sum.inl (cA .long, n, Sum.inr (Sum.inl (ex_set _ a _ a))) = _; rw [ex_set_eq]; rfl
          rw [e] at f
          exact va_last hexec hb hF.1 hR.1 hR.2.1 hR.2.2.1 _ 3 (ex_ws_get (cA := cA) (ad := ad) hsh hc.2) rfl (ex_vpin hc.1) hd f
        · cases h
      · cases h
    · cases h
theorem ex_val0 {ad : Nat → Nat} {w : ex_W} {a k : Nat} {ty : FieldType} (h1 : w.2.1 a = fun _ => 0) (h2 : w.2.2.1 a = fun _ => 0) (h3 : w.2.2.2 a = fun _ => none) (ht : ex_tc ty ≤ 3) : ex_val ad w a k ty = defaultValue ty := by
  cases ty <;> simp [ex_tc] at ht <;> simp only [ex_val, h1, h2, h3] <;> rfl
theorem ex_h_newarray {t : ArrayType} (hexec : p.tables.exec = Jvm.exec) (hb : c.code = cc) (hts : ∀ w ∈ Ts, w.before args s = true) (hF : ex_Fix D cA z0 ro sts Ns ad w s) (hR : ex_Rel D cA z0 ro ad w s H locs) (h : ex_heap ro (.newarray t) r k st w = some (st', w')) (hk : ex_hok Ts Ns own ini ro sts (.newarray t) len r k = true) (hd : decode cc pc = .ok (.newarray t, len)) (ho : ∀ v ∈ st, ex_okv w.1.1.length v)
    (hc0 : c0 ≤ w.1.2.1) (hs0 : s0 ≤ w.1.2.2) (hRc : w'.1.2.1 - c0 ≤ R.cells) (hRs : w'.1.2.2 - s0 ≤ R.slots)
    (kk : ∀ (ad' : Nat → Nat) (H1 : Heap) (locs1 : List Loc), ex_Rel D cA z0 ro ad' w' s H1 locs1 → ex_agr ro sts ad ad' w w' → (∀ v ∈ st', ex_okv w'.1.1.length v) → W p l e R s m args below meth c H1 locs1 (w'.1.2.1 - c0) (w'.1.2.2 - s0) Q (F0 m (pc + len) ls (st'.map (ex_cv ad')))) :
    W p l e R s m args below meth c H locs (w.1.2.1 - c0) (w.1.2.2 - s0) Q (F0 m pc ls (st.map (ex_cv ad))) := by
  simp only [ex_hok, Bool.and_eq_true, decide_eq_true_eq] at hk
  obtain ⟨⟨rfl, hat⟩, hk⟩ := hk
  simp only [ex_heap] at h
  split at h
  · next n st1 =>
    split at h
    · next hc =>
      simp only [Option.some.injEq, Prod.mk.injEq] at h
      obtain ⟨h1, hw⟩ := h
      have hw := hw.symm
      have ec : w'.1.2.1 = w.1.2.1 + 1 := by rw [hw]
      have es : w'.1.2.2 = w.1.2.2 + n.toNatClampNeg := by rw [hw]
      have hz : ∀ ty : FieldType, ex_at ty = true → ∃ a0 : vp_A, (∀ cA : ClassId, vp_cell cA a0 = arrV cA n.toNatClampNeg (fun _ => defaultValue ty)) ∧ a0 = (n.toNatClampNeg, ex_ac w' w.1.1.length ty) := by
        intro ty h
        have e1 : w'.2.1 w.1.1.length = fun _ => 0 := by rw [hw]; exact ex_set_eq
        have e2 : w'.2.2.1 w.1.1.length = fun _ => 0 := by rw [hw]; exact ex_set_eq
        cases ty <;> simp [ex_at] at h <;> refine ⟨_, fun cA => ?_, rfl⟩ <;> simp only [ex_ac, e1, e2] <;> rfl
      obtain ⟨a0, ha0, ea0⟩ := hz _ hat
      have hbt : n.toNatClampNeg * componentBytes (newarray.typeOf t) ≤ 536870912 := by
        have h8 : componentBytes (newarray.typeOf t) ≤ 8 := by cases t <;> decide
        calc n.toNatClampNeg * componentBytes (newarray.typeOf t) ≤ 65536 * 8 := Nat.mul_le_mul hc.2 h8
          _ ≤ 536870912 := by decide
      refine va_newa (atype := t) hexec hb (hts _ (List.mem_of_getElem? hk)) rfl hF.1 hR.1 hR.2.1 hR.2.2.1 (fun q hq => Nat.le_trans hF.2.1 hq) ha0 hc.1 rfl hbt (by omega) (by omega) hd fun q cA' H1 hK hP hD hS => ?_
      have hcA : cA' = cA (newarray.typeOf t) := by
        have g1 := (hK.2 (ex_tys cA).length (cA', newarray.typeOf t) (by rw [List.getElem?_append_right (Nat.le_refl _), Nat.sub_self]; rfl)).2
        have g2 : ∃ t0 : Nat, (ex_tys cA)[t0]? = some (cA (newarray.typeOf t), newarray.typeOf t) := by
          cases t <;> simp [ex_at, newarray.typeOf] at hat
          · exact ⟨2, rfl⟩
          · exact ⟨1, rfl⟩
          · exact ⟨0, rfl⟩
          · exact ⟨3, rfl⟩
        obtain ⟨t0, g2⟩ := g2
        have g3 := (hF.1.2 t0 _ g2).2
        cases t <;> exact Option.some.inj (g1.symm.trans g3)
      subst hcA
      subst ea0
      have hes : w'.1.1 = w.1.1 ++ [.inr (newarray.typeOf t, n.toNatClampNeg)] := by rw [hw]
      have had : ∀ i, i < w.1.1.length → va_up ad w.1.1.length q i = ad i := fun i hi => ex_up_ne (by omega)
      have hne : ∀ i, i < w.1.1.length → w'.2.1 i = w.2.1 i ∧ w'.2.2.1 i = w.2.2.1 i ∧ w'.2.2.2 i = w.2.2.2 i := fun i hi => by
        rw [hw]; exact ⟨ex_set_ne (by omega), ex_set_ne (by omega), rfl⟩
      have ew := ex_ws_push (cA := cA) (ro := ro) (ad := ad) (ad' := va_up ad w.1.1.length q) hes hR.2.2.2.2 hR.2.2.2.1 had hne
      rw [ex_up_eq] at ew
      have hl : w'.1.1.length = w.1.1.length + 1 := by rw [hes]; simp
      have kk := kk (va_up ad w.1.1.length q) H1 locs ⟨by rw [ew]; exact hP, by rw [ew]; exact hD, hS, fun i k r hk => by
          have : w'.2.2.2 = w.2.2.2 := by rw [hw]
          rw [this] at hk; have := hR.2.2.2.1 i k r hk; omega, by have := hR.2.2.2.2; omega⟩
        ⟨fun i hi => ⟨had i hi, by rw [hes, List.getElem?_append_left hi]⟩, fun i hi => hne i (Nat.lt_of_lt_of_le hi hR.2.2.2.2), by omega⟩
        (by rw [← h1]; exact ex_cn (show w.1.1.length < w'.1.1.length by omega) (fun v hv => (ex_tl ho v hv).mono (by omega)))
      have e3 : st'.map (ex_cv (va_up ad w.1.1.length q)) = .ref q :: st1.map (ex_cv ad) := by
        rw [← h1, List.map_cons, ex_map_same (ex_tl ho) had]
        show Value.ref (va_up ad w.1.1.length q w.1.1.length) :: _ = _
        rw [ex_up_eq]
      rw [e3, ec, es, show w.1.2.1 + 1 - c0 = w.1.2.1 - c0 + 1 by omega, show w.1.2.2 + n.toNatClampNeg - s0 = w.1.2.2 - s0 + n.toNatClampNeg by omega] at kk
      exact kk
    · cases h
  · cases h
theorem ex_h_new {idx : Nat} (hexec : p.tables.exec = Jvm.exec) (hb : c.code = cc) (hown : s.vm.findClass own = some m.cls) (hts : ∀ w ∈ Ts, w.before args s = true) (hU : ∀ (ci : Nat) (q : vw_C), vwCl[ci]? = some q → ∀ w ∈ u_ws q.1 q.2.1 q.2.2, w ∈ Ts) (hF : ex_Fix D cA z0 ro sts Ns ad w s) (hR : ex_Rel D cA z0 ro ad w s H locs) (h : ex_heap ro (.new idx) r k st w = some (st', w')) (hk : ex_hok Ts Ns own ini ro sts (.new idx) len r k = true) (hd : decode cc pc = .ok (.new idx, len)) (ho : ∀ v ∈ st, ex_okv w.1.1.length v)
    (hc0 : c0 ≤ w.1.2.1) (hs0 : s0 ≤ w.1.2.2) (hRc : w'.1.2.1 - c0 ≤ R.cells) (hRs : w'.1.2.2 - s0 ≤ R.slots)
    (kk : ∀ (ad' : Nat → Nat) (H1 : Heap) (locs1 : List Loc), ex_Rel D cA z0 ro ad' w' s H1 locs1 → ex_agr ro sts ad ad' w w' → (∀ v ∈ st', ex_okv w'.1.1.length v) → W p l e R s m args below meth c H1 locs1 (w'.1.2.1 - c0) (w'.1.2.2 - s0) Q (F0 m (pc + len) ls (st'.map (ex_cv ad')))) :
    W p l e R s m args below meth c H locs (w.1.2.1 - c0) (w.1.2.2 - s0) Q (F0 m pc ls (st.map (ex_cv ad))) := by
  simp only [ex_hok, Bool.and_eq_true, decide_eq_true_eq] at hk
  obtain ⟨rfl, hk⟩ := hk
  split at hk
  · next q0 hq =>
    simp only [Bool.and_eq_true, decide_eq_true_eq] at hk
    obtain ⟨⟨hk1, hk2⟩, hk3⟩ := hk
    simp only [ex_heap, Option.some.injEq, Prod.mk.injEq] at h
    obtain ⟨h1, hw⟩ := h
    have hw := hw.symm
    have ec : w'.1.2.1 = w.1.2.1 + 1 := by rw [hw]
    have es : w'.1.2.2 = w.1.2.2 + q0.2.2 := by rw [hw, ← ex_N_of hq]
    have e1 : w'.2.1 w.1.1.length = fun _ => 0 := by rw [hw]; exact ex_set_eq
    have e2 : w'.2.2.1 w.1.1.length = fun _ => 0 := by rw [hw]; exact ex_set_eq
    have e3 : w'.2.2.2 w.1.1.length = fun _ => none := by rw [hw]; exact ex_set_eq
    have hty := ex_tyok _ _ hq
    have hfs : ∀ j, j < q0.2.2 → defaultValue (ex_ty (r.getD 1 0) j) = vp_V (ex_fs ad w' w.1.1.length (r.getD 1 0)) j := by
      intro j hj
      have hjN : j < ex_N (r.getD 1 0) := by rw [ex_N_of hq]; exact hj
      have h66 := ex_N66 hjN
      rw [ex_vpV (ex_fs_get hjN), ex_val0 e1 e2 e3 (ex_tcs _ h66.1 _ h66.2)]
    refine va_new (C := q0.1) (T := q0.2.1) (N := q0.2.2) hexec hb hts (hU _ _ hq) (ex_ty (r.getD 1 0)) hty.1 hown (hts _ (List.mem_of_getElem? hk1)) (hts _ (List.mem_of_getElem? hk2)) (hts _ (List.mem_of_getElem? hk3)) hF.1 hR.1 hR.2.1 hR.2.2.1 (fun q hq => Nat.le_trans hF.2.1 hq) hq hfs (by omega) (by omega) hd fun q H1 hP hD hS => ?_
    have hes : w'.1.1 = w.1.1 ++ [.inl (r.getD 1 0)] := by rw [hw]
    have had : ∀ i, i < w.1.1.length → va_up ad w.1.1.length q i = ad i := fun i hi => ex_up_ne (by omega)
    have hne : ∀ i, i < w.1.1.length → w'.2.1 i = w.2.1 i ∧ w'.2.2.1 i = w.2.2.1 i ∧ w'.2.2.2 i = w.2.2.2 i := fun i hi => by
      rw [hw]; exact ⟨ex_set_ne (by omega), ex_set_ne (by omega), ex_set_ne (by omega)⟩
    have ew := ex_ws_push (cA := cA) (ro := ro) (ad := ad) (ad' := va_up ad w.1.1.length q) hes hR.2.2.2.2 hR.2.2.2.1 had hne
    rw [ex_up_eq] at ew
    have ee : ex_cell cA (va_up ad w.1.1.length q) w' w.1.1.length (.inl (r.getD 1 0)) = .inr (r.getD 1 0, ex_fs ad w' w.1.1.length (r.getD 1 0)) :=
      ex_cell_eq (cA := cA) (ad := ad) rfl rfl rfl (fun k r hk => by rw [e3] at hk; cases hk) (.inl (r.getD 1 0))
    rw [ee] at ew
    have hl : w'.1.1.length = w.1.1.length + 1 := by rw [hes]; simp
    have kk := kk (va_up ad w.1.1.length q) H1 locs ⟨by rw [ew]; exact hP, by rw [ew]; exact hD, hS, fun i k r hk => by
        by_cases hi : i = w.1.1.length
        · rw [hi, e3] at hk; cases hk
        · have : w'.2.2.2 i = w.2.2.2 i := by rw [hw]; exact ex_set_ne hi
          rw [this] at hk; have := hR.2.2.2.1 i k r hk; omega, by have := hR.2.2.2.2; omega⟩
      ⟨fun i hi => ⟨had i hi, by rw [hes, List.getElem?_append_left hi]⟩, fun i hi => hne i (Nat.lt_of_lt_of_le hi hR.2.2.2.2), by omega⟩
      (by rw [← h1]; exact ex_cn (show w.1.1.length < w'.1.1.length by omega) (fun v hv => (ho v hv).mono (by omega)))
    have e4 : st'.map (ex_cv (va_up ad w.1.1.length q)) = .ref q :: st.map (ex_cv ad) := by
      rw [← h1, List.map_cons, ex_map_same ho had]
      show Value.ref (va_up ad w.1.1.length q w.1.1.length) :: _ = _
      rw [ex_up_eq]
    rw [e4, ec, es, show w.1.2.1 + 1 - c0 = w.1.2.1 - c0 + 1 by omega, show w.1.2.2 + q0.2.2 - s0 = w.1.2.2 - s0 + q0.2.2 by omega] at kk
    exact kk
  · cases hk
theorem ex_stv_ok {q : Nat × Nat × Int32} (hin : ex_rin w) (h : q.2.1 < w.1.1.length) : ex_okv w.1.1.length (ex_stv w q) := by
  unfold ex_stv
  split
  · exact h
  · exact ex_okv_rf (fun r hr => hin _ _ _ hr)
  · exact trivial
theorem ex_h_rest {ins : Instr} (hexec : p.tables.exec = Jvm.exec) (hb : c.code = cc) (hown : s.vm.findClass own = some m.cls) (hts : ∀ w ∈ Ts, w.before args s = true) (hso : ex_sok ro sts) (hF : ex_Fix D cA z0 ro sts Ns ad w s) (hR : ex_Rel D cA z0 ro ad w s H locs) (hi : (∃ i, ins = .getstatic i) ∨ (∃ i, ins = .ldc i) ∨ (∃ i, ins = .ldc_w i) ∨ (∃ i, ins = .ldc2_w i)) (h : ex_heap ro ins r k st w = some (st', w')) (hk : ex_hok Ts Ns own ini ro sts ins len r k = true) (hd : decode cc pc = .ok (ins, len)) (ho : ∀ v ∈ st, ex_okv w.1.1.length v)
    (kk : w' = w → (∀ v ∈ st', ex_okv w.1.1.length v) → W p l e R s m args below meth c H locs (w.1.2.1 - c0) (w.1.2.2 - s0) Q (F0 m (pc + len) ls (st'.map (ex_cv ad)))) :
    W p l e R s m args below meth c H locs (w.1.2.1 - c0) (w.1.2.2 - s0) Q (F0 m pc ls (st.map (ex_cv ad))) := by
  rcases hi with ⟨i, rfl⟩ | ⟨i, rfl⟩ | ⟨i, rfl⟩ | ⟨i, rfl⟩
  · cases h
    simp only [ex_hok, Bool.and_eq_true, decide_eq_true_eq] at hk
    obtain ⟨rfl, hk⟩ := hk
    split at hk
    · next q hq =>
      simp only [Bool.and_eq_true, decide_eq_true_eq] at hk
      obtain ⟨hk1, hk2⟩ := hk
      have hZ := hF.2.2.2.1 _ _ hq
      have hz := hso _ _ hq
      rw [hk1] at hZ
      rw [hk1] at hz
      have kk := kk rfl (ex_cn (ex_stv_ok hR.2.2.2.1 (Nat.lt_of_lt_of_le hz hR.2.2.2.2)) ho)
      split at hk2
      · simp only [decide_eq_true_eq] at hk2
        exact va_gets hexec hb hZ hR.2.2.1 hown (hts _ (List.mem_of_getElem? hk2)) (fun _ h9 => h9) hd kk
      · simp only [decide_eq_true_eq] at hk2
        exact va_getsN hexec hb hZ hR.2.2.1 hown (va_Nw.use rfl (hF.2.2.2.2.1 _ (List.mem_of_getElem? hk2))) (fun _ h9 => h9) hd kk
    · cases hk
  · cases h
    simp only [ex_hok, Bool.and_eq_true, decide_eq_true_eq] at hk
    obtain ⟨rfl, hk⟩ := hk
    exact lv_ldc hexec hb hown (hts _ (List.mem_of_getElem? hk)) hd (kk rfl (ex_cn trivial ho))
  · cases h
    simp only [ex_hok, Bool.and_eq_true, decide_eq_true_eq] at hk
    obtain ⟨rfl, hk⟩ := hk
    exact lv_ldcw hexec hb hown (hts _ (List.mem_of_getElem? hk)) hd (kk rfl (ex_cn trivial ho))
  · cases h
    simp only [ex_hok, Bool.and_eq_true, decide_eq_true_eq] at hk
    obtain ⟨rfl, hk⟩ := hk
    exact lv_ldc2 hexec hb hown (hts _ (List.mem_of_getElem? hk)) hd (kk rfl (ex_cn trivial ho))
/-- all of them -/
theorem ex_heap_ok {ins : Instr} (hexec : p.tables.exec = Jvm.exec) (hb : c.code = cc) (hown : s.vm.findClass own = some m.cls) (hini : ini = true → meth.name = "<init>") (hts : ∀ w ∈ Ts, w.before args s = true) (hU : ∀ (ci : Nat) (q : vw_C), vwCl[ci]? = some q → ∀ w ∈ u_ws q.1 q.2.1 q.2.2, w ∈ Ts) (hso : ex_sok ro sts)
    (hF : ex_Fix D cA z0 ro sts Ns ad w s) (hR : ex_Rel D cA z0 ro ad w s H locs) (h : ex_heap ro ins r k st w = some (st', w')) (hk : ex_hok Ts Ns own ini ro sts ins len r k = true) (hd : decode cc pc = .ok (ins, len)) (ho : ∀ v ∈ st, ex_okv w.1.1.length v)
    (hc0 : c0 ≤ w.1.2.1) (hs0 : s0 ≤ w.1.2.2) (hRc : w'.1.2.1 - c0 ≤ R.cells) (hRs : w'.1.2.2 - s0 ≤ R.slots)
    (kk : ∀ (ad' : Nat → Nat) (H1 : Heap) (locs1 : List Loc), ex_Rel D cA z0 ro ad' w' s H1 locs1 → ex_agr ro sts ad ad' w w' → (∀ v ∈ st', ex_okv w'.1.1.length v) → W p l e R s m args below meth c H1 locs1 (w'.1.2.1 - c0) (w'.1.2.2 - s0) Q (F0 m (pc + len) ls (st'.map (ex_cv ad')))) :
    W p l e R s m args below meth c H locs (w.1.2.1 - c0) (w.1.2.2 - s0) Q (F0 m pc ls (st.map (ex_cv ad))) := by
  have k1 : w' = w → (∀ v ∈ st', ex_okv w.1.1.length v) → W p l e R s m args below meth c H locs (w.1.2.1 - c0) (w.1.2.2 - s0) Q (F0 m (pc + len) ls (st'.map (ex_cv ad))) := by
    intro e h9
    subst e
    exact kk ad H locs hR ex_agr.rf h9
  cases ins <;> first | (simp only [ex_heap, reduceCtorEq] at h; done) | skip
  case getfield i => exact ex_h_getfield hexec hb hown hts hU hF hR h hk hd ho k1
  case putfield i => exact ex_h_putfield hexec hb hown hini hts hU hF hR h hk hd ho (kk ad)
  case newarray t => exact ex_h_newarray hexec hb hts hF hR h hk hd ho hc0 hs0 hRc hRs kk
  case new i => exact ex_h_new hexec hb hown hts hU hF hR h hk hd ho hc0 hs0 hRc hRs kk
  case getstatic i => exact ex_h_rest hexec hb hown hts hso hF hR (Or.inl ⟨i, rfl⟩) h hk hd ho k1
  case ldc i => exact ex_h_rest hexec hb hown hts hso hF hR (Or.inr (Or.inl ⟨i, rfl⟩)) h hk hd ho k1
  case ldc_w i => exact ex_h_rest hexec hb hown hts hso hF hR (Or.inr (Or.inr (Or.inl ⟨i, rfl⟩))) h hk hd ho k1
  case ldc2_w i => exact ex_h_rest hexec hb hown hts hso hF hR (Or.inr (Or.inr (Or.inr ⟨i, rfl⟩))) h hk hd ho k1
  all_goals (simp only [ex_hok, decide_eq_true_eq] at hk; subst hk)
  case arraylength => exact ex_h_len hexec hb hF hR h hd ho k1
  case iaload => exact ex_h_load (Or.inl rfl) hexec hb hF hR h hd ho k1
  case baload => exact ex_h_load (Or.inr (Or.inl rfl)) hexec hb hF hR h hd ho k1
  case laload => exact ex_h_load (Or.inr (Or.inr (Or.inl rfl))) hexec hb hF hR h hd ho k1
  case aaload => exact ex_h_load (Or.inr (Or.inr (Or.inr rfl))) hexec hb hF hR h hd ho k1
  case iastore => exact ex_h_store (Or.inl rfl) hexec hb hF hR h hd ho (kk ad)
  case bastore => exact ex_h_store (Or.inr (Or.inl rfl)) hexec hb hF hR h hd ho (kk ad)
  case lastore => exact ex_h_store (Or.inr (Or.inr rfl)) hexec hb hF hR h hd ho (kk ad)
end EXH
end
section
/-! What a program's rows must be, and that cells and slots only grow -/
def ex_isp (ins : Instr) : Bool := match ins with
  | .iconst _ | .bipush _ | .sipush _ | .lconst _ | .iload _ | .iload_n _ | .lload _ | .lload_n _ | .aload _ | .aload_n _ | .istore _ | .istore_n _ | .lstore _ | .lstore_n _ | .astore _ | .astore_n _ | .iinc _ _ => true
  | .iadd | .isub | .imul | .iand | .ior | .ixor | .ishl | .ishr | .iushr | .idiv | .irem | .ladd | .lsub | .lmul | .land | .lor | .ldiv | .lrem | .lshl | .lushr | .lcmp | .i2l | .l2i | .i2b | .i2c | .dup | .dup2 | .pop => true
  | _ => false
theorem ex_isp_of {ins : Instr} {k : Int32} {lo lo' : ex_Lo} {st st' : List Value} (h : ex_pure ins k lo st = some (lo', st')) : ex_isp ins = true := by
  cases ins <;> first | rfl | (simp only [ex_pure, reduceCtorEq] at h; done)
theorem ex_isp_not {ro : Nat} {ins : Instr} {r : List Nat} {k : Int32} {st st' : List Value} {w w' : ex_W} (h : ex_heap ro ins r k st w = some (st', w')) : ex_isp ins = false := by
  cases ins <;> first | rfl | (simp only [ex_heap, reduceCtorEq] at h; done)
def ex_jmp (cd : List (List ex_R)) (pc : Nat) (off : Int) (t : Nat) : Bool := match cd.getD t [] with
  | x :: _ => decide ((pc : Int) + off = (x.1 : Int))
  | [] => false
def ex_ft (pc : Nat) (L : List ex_R) : Bool := match L with
  | x :: _ => decide (x.1 = pc)
  | [] => false
/-- .. or the rows end: the small machine stops there -/
def ex_ftl (pc : Nat) (L : List ex_R) : Bool := match L with
  | x :: _ => decide (x.1 = pc)
  | [] => true
def ex_en (e : Nat) : String := match e with
  | 0 => "java/lang/IllegalArgumentException"
  | _ => "java/util/NoSuchElementException"
def ex_es : List String := ["java/lang/RuntimeException", "java/lang/Exception"]
def ex_cn1 (ci : Nat) : String := if ci < 100 then (match vwCl[ci]? with
  | some q => q.1
  | none => "") else ex_rn ci
/-- a method's code, as a word -/
def ex_cw (M : ex_M) : Cond := if M.2.2.2.2.2.2 = [] then .code M.1 M.2.1 M.2.2.1 M.2.2.2.1 else .codeWith M.1 M.2.1 M.2.2.1 M.2.2.2.1 M.2.2.2.2.2.2
/-- the words of a method, at its places: initialized, then of a static one static, of another instanceMethod, selects -/
def ex_mw (Ts : List Cond) (M : ex_M) (ps : List Nat) : Bool :=
  decide (Ts[ps.getD 1 0]? = some (.initialized M.1.cls)) && (match ps.getD 2 0 with
    | 0 => decide (Ts[ps.getD 3 0]? = some (.static M.1))
    | 1 => decide (Ts[ps.getD 3 0]? = some (.instanceMethod M.1)) && decide (Ts[ps.getD 4 0]? = some (.selects M.1.cls M.1 M.1))
    | 3 => true
    | _ => decide (Ts[ps.getD 3 0]? = some (.instanceMethod M.1)) && decide (M.1.name = "<init>"))
/-- a call of M by that pool index -/
def ex_cl (Ts Ns : List Cond) (own : String) (idx : Nat) (r : List Nat) (k : Int32) (M : ex_M) (ps : List Nat) (kv : Nat) (ks : List Nat) (extra : Nat) : Bool :=
  decide (ps.getD 2 0 = kv) && decide (r.getD 0 0 ∈ ks) && decide ((parseMethodDescriptor M.1.desc).map (fun d => d.parameters.length + extra) = some (r.getD 2 0)) &&
  (if r.getD 0 0 = 1 ∨ r.getD 0 0 = 3 ∨ r.getD 0 0 = 5 then decide (Ns[k.toNatClampNeg]? = some (.methodLinkNest own idx M.1 "PileTricks")) else decide (Ts[k.toNatClampNeg]? = some (.methodLink own idx M.1)))
/-- the law's own pool: where the classes that it catches stand -/
def ex_ct (x : Nat) : Nat := match x with
  | 0 => 13
  | _ => 18
/-- the handlers: each pair of rs, in the table's order -/
def ex_hd (bytes : ByteArray) (nL : Nat) (own : String) (pc : Nat) (cd : List (List ex_R)) : List Nat → List (Nat × Nat × Nat × Nat) → List Nat → Bool
  | x :: b :: rs, q :: hh, seen => (match cd.getD b [] with
      | [ra, rc, rr] => decide (q.1 ≤ pc) && decide (pc < q.2.1) && decide (q.2.2.2 ≠ 0) && decide (own = "PileTricksLaw" ∧ x < 2 ∧ q.2.2.2 = ex_ct x) && decide (ra.1 = q.2.2.1) && decide (decode bytes ra.1 = .ok (ra.2.2.1, ra.2.1)) && decide (decode bytes rc.1 = .ok (rc.2.2.1, rc.2.1)) && decide (decode bytes rr.1 = .ok (.ireturn, 1)) && decide (rr.2.2.1 = .ireturn) && decide (rr.2.1 = 1) && decide (rc.1 = ra.1 + ra.2.1) && decide (rr.1 = rc.1 + rc.2.1) && ex_kok ra.2.2.1 ra.2.2.2.2 ra.2.1 && ex_kok rc.2.2.1 rc.2.2.2.2 rc.2.1 && (match ra.2.2.1 with
          | .astore_n i => decide (i.val < nL)
          | .astore i => decide (i < nL)
          | _ => false) && (match rc.2.2.1 with
          | .iconst _ => true
          | _ => false) && (seen.all fun y => decide (x = 0 ∧ y = 1))
      | _ => false) && ex_hd bytes nL own pc cd rs hh (x :: seen)
  | [], [], _ => true
  | _, _, _ => false
def ex_cok (Ts Ns : List Cond) (mt : Nat → Option ex_M) (mp : Nat → List Nat) (M0 : ex_M) (pc : Nat) (ins : Instr) (r : List Nat) (k : Int32) : Bool := match ins with
  | .invokevirtual idx => (match mt (r.getD 1 0) with
    | some M => ex_cl Ts Ns M0.2.2.2.2.1 idx r k M (mp (r.getD 1 0)) 1 [0, 1, 9] 1 && decide (M.1.cls = ex_cn1 (r.getD 3 0) ∧ (r.getD 3 0 < 10 ∨ 100 ≤ r.getD 3 0 ∧ r.getD 3 0 < 200)) && decide (M.2.2.2.2.2.2 = []) && (if r.getD 0 0 = 9 then decide (plainName M.1.cls = true) && ex_hd M0.2.1 M0.2.2.1 M0.2.2.2.2.1 pc M0.2.2.2.2.2.1 (r.drop 4) M0.2.2.2.2.2.2 [] else true)
    | none => false)
  | .invokestatic idx => if r.getD 0 0 = 7 then decide (Ts[k.toNatClampNeg]? = some (.methodLink M0.2.2.2.2.1 idx arraycopyName)) else (match mt (r.getD 1 0) with
    | some M => ex_cl Ts Ns M0.2.2.2.2.1 idx r k M (mp (r.getD 1 0)) 0 [2, 3, 8] 0 && decide (r.getD 0 0 = 8 ↔ M.2.2.2.2.2.2 ≠ [])
    | none => false)
  | .invokespecial idx => if r.getD 0 0 = 6 then decide (Ts[k.toNatClampNeg]? = some (.methodLink M0.2.2.2.2.1 idx objectInit)) else (match mt (r.getD 1 0) with
    | some M => ex_cl Ts Ns M0.2.2.2.2.1 idx r k M (mp (r.getD 1 0)) 2 [4, 5] 1 && decide (M.2.2.2.1 = none) && decide (M.2.2.2.2.2.2 = [])
    | none => false)
  | _ => false
/-- throw new: class, pool indices -/
def ex_tok (Ts : List Cond) (tsl : List (String × Nat × Nat)) (M0 : ex_M) (pc idx : Nat) (r : List Nat) : Bool := match tsl[r.getD 2 0]? with
  | some q => decide (q.1 = M0.2.2.2.2.1) && decide (q.2.2 = r.getD 1 0) && decide (r.getD 1 0 < 2) && decide (Ts[r.getD 3 0]? = some (.classLink M0.2.2.2.2.1 idx (ex_en (r.getD 1 0)))) && decide (Ts[r.getD 4 0]? = some (.initialized (ex_en (r.getD 1 0)))) && decide (decode M0.2.1 (pc + 3) = .ok (.dup, 1)) && decide (decode M0.2.1 (pc + 4) = .ok (.invokespecial q.2.1, 3)) && decide (decode M0.2.1 (pc + 7) = .ok (.athrow, 1)) && decide (M0.2.2.2.2.2.2 = [])
  | none => false
def ex_rok (Ts Ns : List Cond) (mt : Nat → Option ex_M) (mp : Nat → List Nat) (tsl : List (String × Nat × Nat)) (ro : Nat) (sts : List ex_St) (M0 : ex_M) (row : ex_R) (L : List ex_R) : Bool :=
  decide (decode M0.2.1 row.1 = .ok (row.2.2.1, row.2.1)) && (match row.2.2.1 with
  | .goto off => decide (row.2.1 = 3) && ex_jmp M0.2.2.2.2.2.1 row.1 off (row.2.2.2.1.getD 0 0)
  | .ifCond _ off => decide (row.2.1 = 3) && ex_jmp M0.2.2.2.2.2.1 row.1 off (row.2.2.2.1.getD 0 0) && ex_ft (row.1 + 3) L
  | .if_icmp _ off => decide (row.2.1 = 3) && ex_jmp M0.2.2.2.2.2.1 row.1 off (row.2.2.2.1.getD 0 0) && ex_ft (row.1 + 3) L
  | .if_acmp _ off => decide (row.2.1 = 3) && ex_jmp M0.2.2.2.2.2.1 row.1 off (row.2.2.2.1.getD 0 0) && ex_ft (row.1 + 3) L
  | .tableswitch df l h offs => ex_jmp M0.2.2.2.2.2.1 row.1 df (row.2.2.2.1.getD 0 0) && ((List.range (h - l + 1).toNat).all fun i => match offs[i]? with
    | some off => ex_jmp M0.2.2.2.2.2.1 row.1 off (row.2.2.2.1.getD (1 + i) 0)
    | none => false)
  | .ireturn => decide (row.2.1 = 1)
  | .lreturn => decide (row.2.1 = 1)
  | .return_ => decide (row.2.1 = 1)
  | .invokevirtual i => decide (row.2.1 = 3) && ex_ft (row.1 + 3) L && ex_cok Ts Ns mt mp M0 row.1 (.invokevirtual i) row.2.2.2.1 row.2.2.2.2
  | .invokestatic i => decide (row.2.1 = 3) && ex_ft (row.1 + 3) L && ex_cok Ts Ns mt mp M0 row.1 (.invokestatic i) row.2.2.2.1 row.2.2.2.2
  | .invokespecial i => decide (row.2.1 = 3) && ex_ft (row.1 + 3) L && ex_cok Ts Ns mt mp M0 row.1 (.invokespecial i) row.2.2.2.1 row.2.2.2.2
  | .new i => if row.2.2.2.1.getD 0 0 = 1 then decide (row.2.1 = 3) && ex_tok Ts tsl M0 row.1 i row.2.2.2.1 else ex_hok Ts Ns M0.2.2.2.2.1 (M0.1.name == "<init>") ro sts (.new i) row.2.1 row.2.2.2.1 row.2.2.2.2 && ex_ftl (row.1 + row.2.1) L
  | ins => (if ex_isp ins then ex_kok ins row.2.2.2.2 row.2.1 else ex_hok Ts Ns M0.2.2.2.2.1 (M0.1.name == "<init>") ro sts ins row.2.1 row.2.2.2.1 row.2.2.2.2) && ex_ftl (row.1 + row.2.1) L)
def ex_lok (Ts Ns : List Cond) (mt : Nat → Option ex_M) (mp : Nat → List Nat) (tsl : List (String × Nat × Nat)) (ro : Nat) (sts : List ex_St) (M0 : ex_M) : List ex_R → Bool
  | [] => true
  | row :: L => ex_rok Ts Ns mt mp tsl ro sts M0 row L && ex_lok Ts Ns mt mp tsl ro sts M0 L
/-- a method's rows -/
def ex_mok (Ts Ns : List Cond) (mt : Nat → Option ex_M) (mp : Nat → List Nat) (tsl : List (String × Nat × Nat)) (ro : Nat) (sts : List ex_St) (mi : Nat) (M : ex_M) : Bool :=
  ex_mw Ts M (mp mi) && decide (plainFor M.1 = true ∧ (M.2.2.2.2.2.2 = [] ∨ plainName M.1.cls = true)) && decide (M.1.cls ≠ "java/lang/invoke/MethodHandle") && decide (M.1.cls ≠ "java/lang/invoke/VarHandle") && decide (M.1.cls = M.2.2.2.2.1) && decide (M.2.2.1 ≤ 40) && ex_ft 0 (M.2.2.2.2.2.1.getD 0 []) && M.2.2.2.2.2.1.all (ex_lok Ts Ns mt mp tsl ro sts M)
theorem ex_blk {Ts Ns : List Cond} {mt : Nat → Option ex_M} {mp : Nat → List Nat} {tsl : List (String × Nat × Nat)} {ro : Nat} {sts : List ex_St} {M : ex_M} (h : M.2.2.2.2.2.1.all (ex_lok Ts Ns mt mp tsl ro sts M) = true) (t : Nat) : ex_lok Ts Ns mt mp tsl ro sts M (M.2.2.2.2.2.1.getD t []) = true := by
  rw [List.getD_eq_getElem?_getD]
  cases ht : M.2.2.2.2.2.1[t]? with
  | none => rfl
  | some L => exact List.all_eq_true.mp h L (List.mem_of_getElem? ht)
theorem ex_heap_mono {ro : Nat} {ins : Instr} {r : List Nat} {k : Int32} {st st' : List Value} {w w' : ex_W} (h : ex_heap ro ins r k st w = some (st', w')) : w.1.2.1 ≤ w'.1.2.1 ∧ w.1.2.2 ≤ w'.1.2.2 := by
  have key : ∀ {c : Prop} [Decidable c] {a : Option (List Value × ex_W)}, (if c then a else none) = some (st', w') → a = some (st', w') := fun {c} _ {a} h => by
    by_cases hc : c
    · rw [if_pos hc] at h; exact h
    · rw [if_neg hc] at h; cases h
  have same : w' = w → w.1.2.1 ≤ w'.1.2.1 ∧ w.1.2.2 ≤ w'.1.2.2 := fun e => by rw [e]; exact ⟨Nat.le_refl _, Nat.le_refl _⟩
  cases ins <;> first | (simp only [ex_heap, reduceCtorEq] at h; done) | skip
  case new i => cases h; exact ⟨Nat.le_add_right _ _, Nat.le_add_right _ _⟩
  case getstatic i => cases h; exact ⟨Nat.le_refl _, Nat.le_refl _⟩
  case ldc i => cases h; exact ⟨Nat.le_refl _, Nat.le_refl _⟩
  case ldc_w i => cases h; exact ⟨Nat.le_refl _, Nat.le_refl _⟩
  case ldc2_w i => cases h; exact ⟨Nat.le_refl _, Nat.le_refl _⟩
  case newarray t =>
    simp only [ex_heap] at h
    split at h
    · have h := key h; cases h; exact ⟨Nat.le_add_right _ _, Nat.le_add_right _ _⟩
    · cases h
  case putfield i =>
    simp only [ex_heap] at h
    split at h <;> split at h <;> first | (cases h; done) | (split at h <;> first | (cases h; done) | (have h := key h; first | (cases h; exact ⟨Nat.le_refl _, Nat.le_refl _⟩) | (have h := key h; cases h; exact ⟨Nat.le_refl _, Nat.le_refl _⟩)))
  all_goals
    simp only [ex_heap] at h
    split at h <;> first | (cases h; done) | (split at h <;> first | (cases h; done) | (have h := key h; cases h; exact ⟨Nat.le_refl _, Nat.le_refl _⟩))
abbrev ex_le (w w' : ex_W) : Prop := w.1.2.1 ≤ w'.1.2.1 ∧ w.1.2.2 ≤ w'.1.2.2
theorem ex_le.tr {a b c : ex_W} (h : ex_le a b) (g : ex_le b c) : ex_le a c := ⟨Nat.le_trans h.1 g.1, Nat.le_trans h.2 g.2⟩
theorem ex_fin_mono {ret : Option FieldType} {row : ex_R} {st : List Value} {w : ex_W} {x : Option Value ⊕ Nat} {w' : ex_W} (h : ex_fin ret row st w = some (x, w')) : ex_le w w' := by
  unfold ex_fin at h
  split at h
  · split at h
    · split at h
      · cases h; exact ⟨Nat.le_refl _, Nat.le_refl _⟩
      · cases h
    · cases h
  · split at h
    · split at h
      · cases h; exact ⟨Nat.le_refl _, Nat.le_refl _⟩
      · cases h
    · cases h
  · split at h
    · split at h
      · cases h; exact ⟨Nat.le_refl _, Nat.le_refl _⟩
      · cases h
    · cases h
  · split at h
    · split at h
      · cases h; exact ⟨Nat.le_add_right _ _, Nat.le_add_right _ _⟩
      · cases h
    · cases h
  · cases h
theorem ex_me_of {mt : Nat → Option ex_M} {self : ex_S} {d mi : Nat} {args : List Value} {w : ex_W} {x : ex_A} (h : ex_me mt self d mi args w = some x) : ∃ M, mt mi = some M ∧ (ex_sl args).length ≤ M.2.2.1 ∧ ∃ row L lo st w1, self d M.2.2.2.2.2.1 (M.2.2.2.2.2.1.getD 0 []) (ex_ent M.2.2.1 args) [] w = some (row :: L, lo, st, w1) ∧ ex_fin M.2.2.2.1 row st w1 = some x := by
  unfold ex_me at h
  split at h
  · cases h
  · next M hM =>
    split at h
    · next hl =>
      unfold ex_end at h
      split at h
      · next row L lo st w1 hr => exact ⟨M, hM, hl, row, L, lo, st, w1, hr, h⟩
      · cases h
    · cases h
theorem ex_cat_w {cd : List (List ex_R)} {e : Nat} {w : ex_W} {E : ex_E} : ∀ (rs : List Nat), ex_cat cd e w rs = some E → E.2.2.2 = w
  | x :: b :: rs, h => by
    unfold ex_cat at h
    split at h
    · split at h
      · cases h; rfl
      · cases h
    · exact ex_cat_w rs h
  | [_], h => by cases h
  | [], h => by cases h
theorem ex_mono (ro : Nat) (mt : Nat → Option ex_M) : ∀ (n d : Nat) (cd : List (List ex_R)) (L : List ex_R) (lo : ex_Lo) (st : List Value) (w : ex_W) (E : ex_E), ex_run ro mt n d cd L lo st w = some E → ex_le w E.2.2.2
  | 0, _, _, _, _, _, _, _, h => by cases h
  | n + 1, d, cd, L, lo, st, w, E, h => by
    have ih := ex_mono ro mt n
    have ihm : ∀ (d mi : Nat) (args : List Value) (w : ex_W) (x : Option Value ⊕ Nat) (w' : ex_W), ex_me mt (ex_run ro mt n) d mi args w = some (x, w') → ex_le w w' := by
      intro d mi args w x w' h
      obtain ⟨M, -, -, row, L, lo, st, w1, h1, h2⟩ := ex_me_of h
      exact (ih _ _ _ _ _ _ _ h1).tr (ex_fin_mono h2)
    have ihr : ∀ (d : Nat) (cd : List (List ex_R)) (L : List ex_R) (lo : ex_Lo) (st : List Value) (w : ex_W) (y : Option ex_A), (∀ x w', y = some (x, w') → ex_le w w') → ex_ret (ex_run ro mt n) d cd L lo st y = some E → ex_le w E.2.2.2 := by
      intro d cd L lo st w y hy h
      unfold ex_ret at h
      split at h
      · exact (hy _ _ rfl).tr (ih _ _ _ _ _ _ _ h)
      · exact (hy _ _ rfl).tr (ih _ _ _ _ _ _ _ h)
      · cases h
    have ihi : ∀ (r : List Nat) (L : List ex_R), ex_inv ro mt (ex_run ro mt n) d cd r L lo st w = some E → ex_le w E.2.2.2 := by
      intro r L h
      unfold ex_inv at h
      split at h
      · split at h
        · split at h
          · exact ih _ _ _ _ _ _ _ h
          · cases h
        · cases h
      · split at h
        · split at h
          · split at h
            · split at h
              · have h := ih _ _ _ _ _ _ _ h; exact h
              · cases h
            · cases h
          · cases h
        · cases h
      · split at h
        · cases h
        · next d' =>
          split at h
          · split at h
            · unfold ex_retC at h
              split at h
              · next e w1 he =>
                rw [ex_cat_w _ h]
                exact ihm _ _ _ _ _ _ he
              · exact ihr _ _ _ _ _ _ _ (fun x w' hx => ihm _ _ _ _ _ _ hx) h
            · exact ihr _ _ _ _ _ _ _ (fun x w' hx => ihm _ _ _ _ _ _ hx) h
          · cases h
      · cases h
    have h : ex_body ro mt (ex_run ro mt n) d cd L lo st w = some E := h
    unfold ex_body at h
    split at h
    · cases h
    · next row L =>
      split at h
      · exact ih _ _ _ _ _ _ _ h
      · split at h
        · next c _ x st1 =>
          unfold ex_if at h
          split at h <;> split at h <;> exact ih _ _ _ _ _ _ _ h
        · cases h
      · split at h
        · unfold ex_if at h
          split at h <;> split at h <;> exact ih _ _ _ _ _ _ _ h
        · cases h
      · split at h
        · split at h
          · split at h <;> split at h <;> exact ih _ _ _ _ _ _ _ h
          · cases h
        · cases h
      · split at h
        · split at h <;> exact ih _ _ _ _ _ _ _ h
        · cases h
      · cases h; exact ⟨Nat.le_refl _, Nat.le_refl _⟩
      · cases h; exact ⟨Nat.le_refl _, Nat.le_refl _⟩
      · cases h; exact ⟨Nat.le_refl _, Nat.le_refl _⟩
      · exact ihi _ _ h
      · exact ihi _ _ h
      · exact ihi _ _ h
      · split at h
        · cases h; exact ⟨Nat.le_refl _, Nat.le_refl _⟩
        · split at h
          · next hh => exact ex_le.tr (ex_heap_mono hh) (ih _ _ _ _ _ _ _ h)
          · cases h
      · split at h
        · exact ih _ _ _ _ _ _ _ h
        · split at h
          · next hh => exact ex_le.tr (ex_heap_mono hh) (ih _ _ _ _ _ _ _ h)
          · cases h
end
section
/-! What the small machine runs, the JVM runs: methods by contract, by induction on the small machine's fuel -/
def ex_nok (x : Cond) : Bool := match x with
  | .fieldLinkNest _ _ _ _ _ _ => true
  | .methodLinkNest _ _ _ _ => true
  | .declares _ => true
  | .castable _ _ => true
  | _ => false
theorem ex_nok_on {x : Cond} (h : ex_nok x = true) : x.onTables = true := by
  cases x <;> first | rfl | cases h
theorem ex_nok_warm {x : Cond} {s U : State} (h : ex_nok x = true) (hW : s.WarmedH U.vm) (hZ : va_Nw x s) : va_Nw x U := by
  cases x <;> first | exact va_Nw.warmF hW hZ | exact va_Nw.warmM hW hZ | exact va_Nw.warmD hW hZ | exact va_Nw.warmC hW hZ | cases h
/-- what the program and the tables owe -/
def ex_Hyp (l : Launch) (Ts Ns : List Cond) (mt : Nat → Option ex_M) (mp : Nat → List Nat) (tsl : List (String × Nat × Nat)) (ro : Nat) (sts : List ex_St) : Prop :=
  l.stackTraces = false ∧ (∀ mi M, mt mi = some M → ex_mok Ts Ns mt mp tsl ro sts mi M = true) ∧ (∀ (ci : Nat) (q : vw_C), vwCl[ci]? = some q → ∀ w ∈ u_ws q.1 q.2.1 q.2.2, w ∈ Ts) ∧ ex_sok ro sts ∧ (∀ w ∈ Ts, goodWord w = true) ∧ (∀ x ∈ Ns, ex_nok x = true) ∧
  (∀ q ∈ tsl, ∀ w ∈ vx_at0 q.1 q.2.1 (ex_en q.2.2) ex_es, (w ∈ Ts ∨ w ∈ Ns) ∧ vx_ot w = true) ∧
  (∀ mi M, mt mi = some M → (mp mi).getD 2 0 ≠ 3 → ex_cw M ∈ Ts) ∧ (Cond.instanceMethod objectInit ∈ Ts ∧ Cond.code objectInit ⟨#[0xb1]⟩ 1 none ∈ Ts) ∧ (Cond.native arraycopyName ∈ Ts ∧ Cond.static arraycopyName ∈ Ts ∧ Cond.initialized "java/lang/System" ∈ Ts) ∧ ∀ x, x < 2 → Cond.classLink "PileTricksLaw" (ex_ct x) (ex_en x) ∈ Ts ∧ Cond.castable (ex_en x) (ex_en x) ∈ Ns
def ex_rm (d mc ms : Nat) : Room := { frames := d + 6, cells := mc, slots := ms, locals := 64 * d + 140 }
def ex_wd (Ts : List Cond) (M : ex_M) : List Cond := ex_cw M :: Ts
def ex_pc (L : List ex_R) : Nat := match L with
  | x :: _ => x.1
  | [] => 0
def ex_Pc (D : va_G) (cA : FieldType → ClassId) (z0 ro : Nat) (sts : List ex_St) (Ns : List Cond) (ad : Nat → Nat) (w : ex_W) (as : List Value) : Array Value → State → Prop := fun a U =>
  a = (as.map (ex_cv ad)).toArray ∧ ex_Fix D cA z0 ro sts Ns ad w U ∧ va_P D vwCl (ex_ws cA ro ad w) U.heap
/-- the world behind a call -/
def ex_Wn (D : va_G) (cA : FieldType → ClassId) (z0 ro : Nat) (sts : List ex_St) (ad ad' : Nat → Nat) (w w' : ex_W) (t : State) : Prop :=
  ex_agr ro sts ad ad' w w' ∧ va_P D vwCl (ex_ws cA ro ad' w') t.heap ∧ va_D (fun q => z0 ≤ q) (ex_ws cA ro ad' w') ∧ ex_rin w' ∧ ro ≤ w'.1.1.length
def ex_Qc (D : va_G) (cA : FieldType → ClassId) (z0 ro : Nat) (sts : List ex_St) (ad : Nat → Nat) (w w' : ex_W) (v : Option Value) : Array Value → State → Outcome → State → Prop := fun _ st o t =>
  (∃ ad' : Nat → Nat, o = .returned (v.map (ex_cv ad')) ∧ (∀ x, v = some x → ex_okv w'.1.1.length x) ∧ ex_Wn D cA z0 ro sts ad ad' w w' t) ∧ va_F (fun q => z0 ≤ q) st t
def ex_Xc (D : va_G) (cA : FieldType → ClassId) (z0 ro : Nat) (sts : List ex_St) (ad : Nat → Nat) (w w' : ex_W) (e : Nat) : String → State → State → Prop := fun E st t =>
  E = ex_en e ∧ (∃ ad' : Nat → Nat, ex_Wn D cA z0 ro sts ad ad' w w' t) ∧ va_F (fun q => z0 ≤ q) st t
/-- a frame's surroundings -/
def ex_Cx (p : Program) (l : Launch) (R : Room) (s : State) (m : MethodId) (args : Array Value) (meth : Method) (c : Code) (Ts : List Cond) (M : ex_M) (d : Nat) : Prop :=
  p.tables.exec = Jvm.exec ∧ c.code = M.2.1 ∧ c.maxLocals = M.2.2.1 ∧ s.vm.findClass M.2.2.2.2.1 = some m.cls ∧ (∀ w ∈ Ts, w.before args s = true) ∧ meth.locks = false ∧ ((M.1.name == "<init>") = true → meth.name = "<init>") ∧ c.exceptionTable.toList = tableOf M.2.2.2.2.2.2 ∧ d + 6 ≤ R.frames ∧ 64 * d + 140 ≤ R.locals
/-- the walk of a frame -/
def ex_AA (l : Launch) (Ts Ns : List Cond) (mt : Nat → Option ex_M) (mp : Nat → List Nat) (tsl : List (String × Nat × Nat)) (ro : Nat) (sts : List ex_St) (n : Nat) : Prop :=
  ∀ (d mi : Nat) (M : ex_M) (L : List ex_R) (lo : ex_Lo) (st : List Value) (w : ex_W) (E : ex_E), mt mi = some M → ex_run ro mt n d M.2.2.2.2.2.1 L lo st w = some E → ex_lok Ts Ns mt mp tsl ro sts M L = true →
  ∀ (p : Program) (e : Env) (R : Room) (s : State) (m : MethodId) (args : Array Value) (below : List Frame) (meth : Method) (c : Code) (H : Heap) (locs : List Loc) (ls : Array Slot) (ad : Nat → Nat) (D : va_G) (cA : FieldType → ClassId) (z0 c0 s0 : Nat) (Q : State → Prop),
  ex_Cx p l R s m args meth c Ts M d → ex_Fix D cA z0 ro sts Ns ad w s → ex_Rel D cA z0 ro ad w s H locs → ex_LR ad w.1.1.length M.2.2.1 lo ls → ex_nod lo → (∀ v ∈ st, ex_okv w.1.1.length v) → c0 ≤ w.1.2.1 → s0 ≤ w.1.2.2 → E.2.2.2.1.2.1 - c0 ≤ R.cells → E.2.2.2.1.2.2 - s0 ≤ R.slots →
  (∀ (ad1 : Nat → Nat) (H1 : Heap) (locs1 : List Loc) (ls1 : Array Slot), ex_Rel D cA z0 ro ad1 E.2.2.2 s H1 locs1 → ex_agr ro sts ad ad1 w E.2.2.2 → ex_LR ad1 E.2.2.2.1.1.length M.2.2.1 E.2.1 ls1 → (∀ v ∈ E.2.2.1, ex_okv E.2.2.2.1.1.length v) → ex_lok Ts Ns mt mp tsl ro sts M E.1 = true →
    W p l e R s m args below meth c H1 locs1 (E.2.2.2.1.2.1 - c0) (E.2.2.2.1.2.2 - s0) Q (F0 m (ex_pc E.1) ls1 (E.2.2.1.map (ex_cv ad1)))) →
  W p l e R s m args below meth c H locs (w.1.2.1 - c0) (w.1.2.2 - s0) Q (F0 m (ex_pc L) ls (st.map (ex_cv ad)))
theorem ex_blind {D : va_G} {cA : FieldType → ClassId} {z0 ro : Nat} {sts : List ex_St} {Ns : List Cond} {ad : Nat → Nat} {w : ex_W} {as : List Value} (hN : ∀ x ∈ Ns, ex_nok x = true) : FrameBlind (ex_Pc D cA z0 ro sts Ns ad w as) := by
  intro a U g mk h
  obtain ⟨h1, h2, h3⟩ := h
  exact ⟨h1, h2.at (U := U.calling g mk a) (H := U.heap) (locs := []) va_S.rf rfl (Vm.Alike.refl U.vm) (fun x hx => va_Nw.same (u := U) (ex_nok_on (hN x hx)) rfl (h2.2.2.2.2.1 x hx)), h3⟩
theorem ex_sl_get {ad : Nat → Nat} : ∀ (as : List Value) (i : Nat) (v : Value), (ex_sl as)[i]? = some (some v) → (lg_sl (as.map (ex_cv ad)))[i]? = some (.val (ex_cv ad v)) ∧ v ∈ as
  | [], i, v, h => by simp [ex_sl] at h
  | a :: as, i, v, h => by
    have e1 : ex_sl (a :: as) = (if a.category = 2 then [some a, none] else [some a]) ++ ex_sl as := rfl
    have e2 : lg_sl ((a :: as).map (ex_cv ad)) = (if (ex_cv ad a).category = 2 then [.val (ex_cv ad a), .second] else [.val (ex_cv ad a)]) ++ lg_sl (as.map (ex_cv ad)) := rfl
    rw [e1] at h
    rw [e2, ex_cv_cat]
    by_cases hc : a.category = 2
    · rw [if_pos hc] at h ⊢
      match i, h with
      | 0, h => cases h; exact ⟨rfl, List.mem_cons_self⟩
      | 1, h => cases h
      | i + 2, h =>
        have ih := ex_sl_get (ad := ad) as i v h
        exact ⟨ih.1, List.mem_cons_of_mem _ ih.2⟩
    · rw [if_neg hc] at h ⊢
      match i, h with
      | 0, h => cases h; exact ⟨rfl, List.mem_cons_self⟩
      | i + 1, h =>
        have ih := ex_sl_get (ad := ad) as i v h
        exact ⟨ih.1, List.mem_cons_of_mem _ ih.2⟩
theorem ex_sl_len {ad : Nat → Nat} : ∀ (as : List Value), (lg_sl (as.map (ex_cv ad))).length = (ex_sl as).length
  | [] => rfl
  | a :: as => by
    have e1 : ex_sl (a :: as) = (if a.category = 2 then [some a, none] else [some a]) ++ ex_sl as := rfl
    have e2 : lg_sl ((a :: as).map (ex_cv ad)) = (if (ex_cv ad a).category = 2 then [.val (ex_cv ad a), .second] else [.val (ex_cv ad a)]) ++ lg_sl (as.map (ex_cv ad)) := rfl
    rw [e1, e2, ex_cv_cat, List.length_append, List.length_append, ex_sl_len as]
    by_cases hc : a.category = 2
    · rw [if_pos hc, if_pos hc]; rfl
    · rw [if_neg hc, if_neg hc]; rfl
theorem ex_ent_get {n : Nat} {as : List Value} {i : Nat} {v : Value} (h : (ex_ent n as)[i]? = some (some v)) : (ex_sl as)[i]? = some (some v) := by
  by_cases hi : i < (ex_sl as).length
  · rw [ex_ent, List.getElem?_append_left hi] at h; exact h
  · rw [ex_ent, List.getElem?_append_right (by omega), List.getElem?_replicate] at h
    split at h <;> cases h
theorem ex_ent_LR {ad : Nat → Nat} {z n : Nat} {as : List Value} (hl : (ex_sl as).length ≤ n) (ho : ∀ v ∈ as, ex_okv z v) : ex_LR ad z n (ex_ent n as) ((lg_sl (as.map (ex_cv ad)) ++ List.replicate (n - (lg_sl (as.map (ex_cv ad))).length) Slot.unset).toArray) := by
  have he := lv_entry (as.map (ex_cv ad)) (n := n) (by rw [ex_sl_len]; exact hl)
  refine ⟨by rw [ex_ent, List.length_append, List.length_replicate]; omega, ⟨he.1, he.2.1, fun _ hq => by cases hq⟩, fun i v hv => ?_⟩
  have g := ex_sl_get (ad := ad) as i v (ex_ent_get hv)
  refine ⟨?_, ho v g.2⟩
  rw [List.getElem?_toArray, List.getElem?_append_left (List.getElem?_eq_some_iff.mp g.1).1]
  exact g.1
theorem ex_ent_nod {n : Nat} {as : List Value} (h : ∀ v ∈ as, v.category = 2 → ∃ x, v = .long x) : ex_nod (ex_ent n as) := fun i v hv hc =>
  h v (ex_sl_get (ad := id) as i v (ex_ent_get hv)).2 hc
/-- abstract values are ints, longs, references, null -/
def ex_vok (v : Value) : Prop := v.category = 2 → ∃ x, v = .long x
theorem ex_okv_vok {z : Nat} {v : Value} (h : ex_okv z v) : ex_vok v := by
  cases v <;> first | (intro hc; cases hc; done) | (intro hc; exact ⟨_, rfl⟩) | exact h.elim
section EXW
variable {l : Launch} {Ts Ns : List Cond} {mt : Nat → Option ex_M} {mp : Nat → List Nat} {tsl : List (String × Nat × Nat)} {ro : Nat} {sts : List ex_St}
/-- a body that ends with a return -/
theorem ex_ends {n d mi : Nat} {M : ex_M} {row : ex_R} {L1 : List ex_R} {lo1 : ex_Lo} {st1 : List Value} {w w1 w' : ex_W} {as : List Value} {v : Option Value} {D : va_G} {cA : FieldType → ClassId} {z0 : Nat} {ad : Nat → Nat} (hH : ex_Hyp l Ts Ns mt mp tsl ro sts) (hA : ex_AA l Ts Ns mt mp tsl ro sts n) (hM : mt mi = some M) (hl : (ex_sl as).length ≤ M.2.2.1)
    (hr : ex_run ro mt n d M.2.2.2.2.2.1 (M.2.2.2.2.2.1.getD 0 []) (ex_ent M.2.2.1 as) [] w = some (row :: L1, lo1, st1, w1)) (hf : ex_fin M.2.2.2.1 row st1 w1 = some (.inl v, w')) (ho : ∀ v ∈ as, ex_okv w.1.1.length v) (hin : ex_rin w) (hro : ro ≤ w.1.1.length) (hD : va_D (fun q => z0 ≤ q) (ex_ws cA ro ad w))
    {p : Program} {e : Env} {s : State} {m : MethodId} {below : List Frame} {meth : Method} {c : Code} (hC : ex_Cx p l (ex_rm d (w'.1.2.1 - w.1.2.1) (w'.1.2.2 - w.1.2.2)) s m (as.map (ex_cv ad)).toArray meth c Ts M d) (hret : meth.sig.returnType = M.2.2.2.1) (hP : ex_Pc D cA z0 ro sts Ns ad w as (as.map (ex_cv ad)).toArray s) :
    W p l e (ex_rm d (w'.1.2.1 - w.1.2.1) (w'.1.2.2 - w.1.2.2)) s m (as.map (ex_cv ad)).toArray below meth c s.heap [] 0 0 (MQ below (ex_Qc D cA z0 ro sts ad w w' v) (as.map (ex_cv ad)).toArray s (w'.1.2.1 - w.1.2.1) (w'.1.2.2 - w.1.2.2) (fun q => z0 ≤ q)) (entryFrame m (as.map (ex_cv ad)).toArray M.2.2.1) := by
  have hmok := hH.2.1 mi M hM
  simp only [ex_mok, Bool.and_eq_true, decide_eq_true_eq] at hmok
  obtain ⟨⟨⟨⟨⟨⟨⟨hmw, -⟩, -⟩, -⟩, -⟩, -⟩, hft⟩, hall⟩ := hmok
  have hpc : ex_pc (M.2.2.2.2.2.1.getD 0 []) = 0 := by
    revert hft
    unfold ex_ft ex_pc
    cases M.2.2.2.2.2.1.getD 0 [] with
    | nil => intro h; cases h
    | cons x r => intro h; exact of_decide_eq_true h
  have hfm := ex_fin_mono hf
  have hmm := ex_mono ro mt n _ _ _ _ _ _ _ hr
  have hlocks := hC.2.2.2.2.2.1
  rw [lg_entry_eq]
  have hS0 : va_S (fun q => z0 ≤ q) s.heap s.heap [] := va_S.rf
  have key := hA d mi M _ _ [] w _ hM hr (ex_blk hall 0) p e _ s m _ below meth c s.heap [] _ ad D cA z0 w.1.2.1 w.1.2.2 (MQ below (ex_Qc D cA z0 ro sts ad w w' v) (as.map (ex_cv ad)).toArray s (w'.1.2.1 - w.1.2.1) (w'.1.2.2 - w.1.2.2) (fun q => z0 ≤ q)) hC hP.2.1 ⟨hP.2.2, hD, hS0, hin, hro⟩ (ex_ent_LR hl ho) (ex_ent_nod (fun v h => ex_okv_vok (ho v h))) (fun _ h => by cases h) (Nat.le_refl _) (Nat.le_refl _) (Nat.sub_le_sub_right hfm.1 _) (Nat.sub_le_sub_right hfm.2 _)
  rw [hpc, Nat.sub_self, Nat.sub_self] at key
  refine key fun ad1 H1 locs1 ls1 hR1 hag hL1 hst1 hlok => ?_
  have hq : ∀ t : State, t.heap = H1 → w' = w1 → (∀ x, v = some x → ex_okv w1.1.1.length x) → ex_Qc D cA z0 ro sts ad w w' v (as.map (ex_cv ad)).toArray s (.returned (v.map (ex_cv ad1))) t := fun t ht e hx => by
    subst e
    exact ⟨⟨ad1, rfl, hx, hag, by rw [ht]; exact hR1.1, hR1.2.1, hR1.2.2.2.1, hR1.2.2.2.2⟩, hR1.2.2.1.F ht⟩
  simp only [ex_lok, ex_rok, Bool.and_eq_true, decide_eq_true_eq] at hlok
  obtain ⟨⟨hdec, hlen⟩, -⟩ := hlok
  unfold ex_fin at hf
  split at hf
  · next hins =>
    split at hf
    · split at hf
      · next hrt =>
        cases hf
        rw [hins] at hdec hlen
        simp only [decide_eq_true_eq] at hlen
        rw [hlen] at hdec
        exact W.vret hC.1 hC.2.1 (hret.trans hrt) (fun t ht _ => hq t ht rfl (fun x hx => by cases hx)) hR1.2.2.1.2.2 hdec hlocks
      · cases hf
    · cases hf
  · next hins =>
    split at hf
    · next x =>
      split at hf
      · next hfit =>
        cases hf
        rw [hins] at hdec hlen
        simp only [decide_eq_true_eq] at hlen
        rw [hlen] at hdec
        have hq' := fun t ht (_ : s.WarmedH t.vm) => hq t ht rfl (fun y hy => by cases hy; exact trivial)
        rcases hfit with hr | ⟨hr, hx⟩ | ⟨hr, hx⟩ | ⟨hr, hx⟩
        · exact W.iret hC.1 hC.2.1 (hret.trans hr) hq' hR1.2.2.1.2.2 hdec hlocks
        · exact W.zret (ty := .boolean) hC.1 hC.2.1 (hret.trans hr) (ex_nz x hx).1 hq' hR1.2.2.1.2.2 hdec hlocks
        · exact W.zret (ty := .byte) hC.1 hC.2.1 (hret.trans hr) (by have h9 := pk_nb x; rw [hx] at h9; exact h9) hq' hR1.2.2.1.2.2 hdec hlocks
        · exact W.zret (ty := .char) hC.1 hC.2.1 (hret.trans hr) (by have h9 := pk_nc x; rw [hx] at h9; exact h9) hq' hR1.2.2.1.2.2 hdec hlocks
      · cases hf
    · cases hf
  · next hins =>
    split at hf
    · next x =>
      split at hf
      · next hrt =>
        cases hf
        rw [hins] at hdec hlen
        simp only [decide_eq_true_eq] at hlen
        rw [hlen] at hdec
        exact W.lret hC.1 hC.2.1 (hret.trans hrt) (fun t ht _ => hq t ht rfl (fun y hy => by cases hy; exact trivial)) hR1.2.2.1.2.2 hdec hlocks
      · cases hf
    · cases hf
  · split at hf
    · split at hf <;> cases hf
    · cases hf
  · cases hf
end EXW
end
section
/-! Contracts, calls, throws -/
section EXC
variable {l : Launch} {Ts Ns : List Cond} {mt : Nat → Option ex_M} {mp : Nat → List Nat} {tsl : List (String × Nat × Nat)} {ro : Nat} {sts : List ex_St}
theorem ex_Met {n d mi : Nat} {M : ex_M} {w w' : ex_W} {as : List Value} {v : Option Value} {D : va_G} {cA : FieldType → ClassId} {z0 : Nat} {ad : Nat → Nat} (hH : ex_Hyp l Ts Ns mt mp tsl ro sts) (hA : ex_AA l Ts Ns mt mp tsl ro sts n) (hM : mt mi = some M)
    (h : ex_me mt (ex_run ro mt n) d mi as w = some (.inl v, w')) (ho : ∀ v ∈ as, ex_okv w.1.1.length v) (hin : ex_rin w) (hro : ro ≤ w.1.1.length) (hD : va_D (fun q => z0 ≤ q) (ex_ws cA ro ad w)) :
    Met l M.1 (ex_wd Ts M) (ex_rm d (w'.1.2.1 - w.1.2.1) (w'.1.2.2 - w.1.2.2)) (ex_Pc D cA z0 ro sts Ns ad w as) (ex_Qc D cA z0 ro sts ad w w' v) (w'.1.2.1 - w.1.2.1) (w'.1.2.2 - w.1.2.2) (fun q => z0 ≤ q) := by
  have hmok := hH.2.1 mi M hM
  simp only [ex_mok, Bool.and_eq_true, decide_eq_true_eq] at hmok
  obtain ⟨⟨⟨⟨⟨⟨⟨-, hpl⟩, -⟩, -⟩, hcl⟩, -⟩, -⟩, -⟩ := hmok
  obtain ⟨M', hM', hl, row, L1, lo1, st1, w1, hr, hf⟩ := ex_me_of h
  cases hM.symm.trans hM'
  by_cases hh : M.2.2.2.2.2.2 = []
  · have hw : ex_wd Ts M = .code M.1 M.2.1 M.2.2.1 M.2.2.2.1 :: Ts := by rw [ex_wd, ex_cw, if_pos hh]
    refine va_MetF hpl.1 hw ?_
    intro p e s m args below meth c s₁ B hml hP
    obtain ⟨rfl, hP2⟩ := hP
    have hts := atoms_spec (ws := ex_wd Ts M) B.pre
    rw [hw] at hts
    refine ex_ends hH hA hM hl hr hf ho hin hro hD ⟨B.exec, B.bytes, hml, by rw [← hcl]; exact findClass_of_methodNamed B.named, fun w h => hts w (List.mem_cons_of_mem _ h), B.notSynchronized, fun h => ?_, ?_, Nat.le_refl _, Nat.le_refl _⟩ B.returns ⟨rfl, hP2⟩
    · rw [(name_of_methodNamed B.named B.method).1]; exact eq_of_beq h
    · obtain ⟨meth9, c9, h1, h2, -, -, -, -, h7, -⟩ := Cond.code_spec B.named (hts _ List.mem_cons_self)
      cases Option.some.inj (h1.symm.trans B.method)
      cases Option.some.inj (h2.symm.trans (Stand.of_body B).code)
      rw [Array.isEmpty_iff.mp h7, hh]; rfl
  · have hw : ex_wd Ts M = .codeWith M.1 M.2.1 M.2.2.1 M.2.2.2.1 M.2.2.2.2.2.2 :: Ts := by rw [ex_wd, ex_cw, if_neg hh]
    refine va_MetW (hpl.2.resolve_left hh) hw ?_
    intro p e s m args below meth c s₁ B hml hP
    obtain ⟨rfl, hP2⟩ := hP
    have hts := atoms_spec (ws := ex_wd Ts M) B.pre
    rw [hw] at hts
    refine ex_ends hH hA hM hl hr hf ho hin hro hD ⟨B.exec, B.bytes, hml, by rw [← hcl]; exact findClass_of_methodNamed B.named, fun w h => hts w (List.mem_cons_of_mem _ h), B.notSynchronized, fun h => ?_, vx_table (x := M.1) B (hts _ List.mem_cons_self), Nat.le_refl _, Nat.le_refl _⟩ B.returns ⟨rfl, hP2⟩
    rw [(name_of_methodNamed B.named B.method).1]; exact eq_of_beq h
theorem ex_throws {n d mi : Nat} {M : ex_M} {w w' : ex_W} {as : List Value} {x : Nat} {D : va_G} {cA : FieldType → ClassId} {z0 : Nat} {ad : Nat → Nat} (hH : ex_Hyp l Ts Ns mt mp tsl ro sts) (hA : ex_AA l Ts Ns mt mp tsl ro sts n) (hM : mt mi = some M) (hh : M.2.2.2.2.2.2 = []) (hpl : plainName M.1.cls = true)
    (h : ex_me mt (ex_run ro mt n) d mi as w = some (.inr x, w')) (ho : ∀ v ∈ as, ex_okv w.1.1.length v) (hin : ex_rin w) (hro : ro ≤ w.1.1.length) (hD : va_D (fun q => z0 ≤ q) (ex_ws cA ro ad w)) :
    vx_Met l M.1 (ex_wd Ts M) (ex_rm d (w'.1.2.1 - w.1.2.1) (w'.1.2.2 - w.1.2.2)) (ex_Pc D cA z0 ro sts Ns ad w as) (fun _ _ _ _ => False) (ex_Xc D cA z0 ro sts ad w w' x) (w'.1.2.1 - w.1.2.1) (w'.1.2.2 - w.1.2.2) (fun q => z0 ≤ q) := by
  have hmok := hH.2.1 mi M hM
  simp only [ex_mok, Bool.and_eq_true, decide_eq_true_eq] at hmok
  obtain ⟨⟨⟨⟨⟨⟨⟨hmw, -⟩, -⟩, -⟩, hcl⟩, -⟩, hft⟩, hall⟩ := hmok
  obtain ⟨M', hM', hl, row, L1, lo1, st1, w1, hr, hf⟩ := ex_me_of h
  cases hM.symm.trans hM'
  have hw : ex_wd Ts M = .code M.1 M.2.1 M.2.2.1 M.2.2.2.1 :: Ts := by rw [ex_wd, ex_cw, if_pos hh]
  have hpc : ex_pc (M.2.2.2.2.2.1.getD 0 []) = 0 := by
    revert hft
    unfold ex_ft ex_pc
    cases M.2.2.2.2.2.1.getD 0 [] with
    | nil => intro h; cases h
    | cons x r => intro h; exact of_decide_eq_true h
  refine vx_ofW hpl hw ?_
  intro p e s m args below meth c s₁ B hml hnone hP
  obtain ⟨rfl, hP2⟩ := hP
  have hts := atoms_spec (ws := ex_wd Ts M) B.pre
  rw [hw] at hts
  have hts := fun w h => hts w (List.mem_cons_of_mem _ h)
  have hC : ex_Cx p l (ex_rm d (w'.1.2.1 - w.1.2.1) (w'.1.2.2 - w.1.2.2)) s m (as.map (ex_cv ad)).toArray meth c Ts M d := ⟨B.exec, B.bytes, hml, by rw [← hcl]; exact findClass_of_methodNamed B.named, hts, B.notSynchronized, fun h => by rw [(name_of_methodNamed B.named B.method).1]; exact eq_of_beq h, by
      rw [hh, tableOf, List.map_nil]; exact List.eq_nil_iff_forall_not_mem.mpr (fun x hx => hnone x hx), Nat.le_refl _, Nat.le_refl _⟩
  have hfm := ex_fin_mono hf
  have hS0 : va_S (fun q => z0 ≤ q) s.heap s.heap [] := va_S.rf
  rw [lg_entry_eq]
  have key := hA d mi M _ _ [] w _ hM hr (ex_blk hall 0) p e _ s m _ below meth c s.heap [] _ ad D cA z0 w.1.2.1 w.1.2.2 (vx_MQ below (fun _ _ _ _ => False) (ex_Xc D cA z0 ro sts ad w w' x) (as.map (ex_cv ad)).toArray s (w'.1.2.1 - w.1.2.1) (w'.1.2.2 - w.1.2.2) (fun q => z0 ≤ q)) hC hP2.1 ⟨hP2.2, hD, hS0, hin, hro⟩ (ex_ent_LR hl ho) (ex_ent_nod (fun v h => ex_okv_vok (ho v h))) (fun _ h => by cases h) (Nat.le_refl _) (Nat.le_refl _) (Nat.sub_le_sub_right hfm.1 _) (Nat.sub_le_sub_right hfm.2 _)
  rw [hpc, Nat.sub_self, Nat.sub_self] at key
  refine key fun ad1 H1 locs1 ls1 hR1 hag hL1 hst1 hlok => ?_
  have hmm := ex_mono ro mt n _ _ _ _ _ _ _ hr
  simp only [ex_lok, Bool.and_eq_true] at hlok
  obtain ⟨hlok, -⟩ := hlok
  unfold ex_fin at hf
  split at hf
  · split at hf
    · split at hf <;> cases hf
    · cases hf
  · split at hf
    · split at hf <;> cases hf
    · cases hf
  · split at hf
    · split at hf <;> cases hf
    · cases hf
  · next idx hins =>
    split at hf
    · split at hf
      · next hr1 =>
        simp only [Option.some.injEq, Prod.mk.injEq, Sum.inr.injEq] at hf
        obtain ⟨hx, hw'⟩ := hf
        have hw' := hw'.symm
        have ec : w'.1.2.1 = w1.1.2.1 + 1 := by rw [hw']
        have es : w'.1.2.2 = w1.1.2.2 + 6 := by rw [hw']
        obtain ⟨pc, len, ins, r, k⟩ := row
        cases hins
        simp only [ex_rok, Bool.and_eq_true, decide_eq_true_eq] at hlok
        obtain ⟨hdec, hlok⟩ := hlok
        rw [if_pos hr1] at hlok
        simp only [ex_tok, Bool.and_eq_true, decide_eq_true_eq] at hlok
        obtain ⟨rfl, hlok⟩ := hlok
        split at hlok
        · next q hq =>
          simp only [Bool.and_eq_true, decide_eq_true_eq] at hlok
          obtain ⟨⟨⟨⟨⟨⟨⟨⟨t1, t2⟩, t3⟩, t4⟩, t5⟩, t6⟩, t7⟩, t8⟩, -⟩ := hlok
          have hfit : Bundle.fit (ex_en (r.getD 1 0)) = true := by
            rcases (show r.getD 1 0 = 0 ∨ r.getD 1 0 = 1 by omega) with h | h <;> rw [h] <;> decide +kernel
          have hq9 := hH.2.2.2.2.2.2.1 q (List.mem_of_getElem? hq)
          rw [t1, t2] at hq9
          have hx : r.getD 1 0 = x := hx
          have g1 : Cond.classLink M.2.2.2.2.1 idx (ex_en (r.getD 1 0)) ∈ Ts := List.mem_of_getElem? t4
          have g2 : Cond.initialized (ex_en (r.getD 1 0)) ∈ Ts := List.mem_of_getElem? t5
          have hlz : ls1.size = c.maxLocals := hL1.size.trans hC.2.2.1.symm
          have hm1 := hmm.1
          have hm2 := hmm.2
          dsimp only at hm1 hm2
          refine vx_throw0 (own := M.2.2.2.2.1) (cls := ex_en (r.getD 1 0)) (names := ex_es) (ik := idx) (ic := q.2.1) hC.1 hC.2.1 hH.1 hC.2.2.2.1 hfit (by decide +kernel) (hts _ g1) (hts _ g2) (fun z hz => ?_) (fun z hz => ?_) hP2.1.2.2.2.2.2.1 hP2.1.2.2.2.2.2.2.1 hR1.2.2.1 hlz hdec t6 t7 t8 (fun z hz => (hnone z hz).elim) (show 2 + 3 < d + 6 by omega) (show 0 + (13 * (2 + 1) + 42) ≤ 64 * d + 140 by omega) (show w1.1.2.1 - w.1.2.1 + 1 ≤ w'.1.2.1 - w.1.2.1 by omega) (show w1.1.2.2 - w.1.2.2 + 6 ≤ w'.1.2.2 - w.1.2.2 by omega) B.notSynchronized (fun t ht hz1 hz2 => ?_) hR1.2.2.1.2.2 (by show w1.1.2.1 - w.1.2.1 + 1 ≤ w'.1.2.1 - w.1.2.1; omega) (by show w1.1.2.2 - w.1.2.2 + 6 ≤ w'.1.2.2 - w.1.2.2; omega)
          · rcases (hq9 z hz).1 with h | h
            · exact hts _ h
            · exact va_Nw.use (ex_nok_on (hH.2.2.2.2.2.1 z h)) (hP2.1.2.2.2.2.1 z h)
          · have hgd : ∀ y ∈ Ts, vx_ot y = true := fun y hy => by rw [vx_ot, hH.2.2.2.2.1 y hy, Bool.or_true]
            rcases List.mem_cons.mp hz with rfl | hz
            · exact hgd _ g1
            · rcases List.mem_cons.mp hz with rfl | hz
              · exact hgd _ g2
              · exact (hq9 z hz).2
          · have e2 : ex_ws cA ro ad1 w' = ex_ws cA ro ad1 w1 := by rw [hw']; rfl
            refine ⟨by rw [hx], ⟨ad1, ?_, ?_, by rw [e2]; exact hR1.2.1, ?_, ?_⟩, ?_⟩
            · rw [hw']; exact hag
            · rw [e2]; exact hR1.1.kept (fun k q hk => hz2 q.1 (hR1.1 k q hk).lt)
            · rw [hw']; exact hR1.2.2.2.1
            · rw [hw']; exact hR1.2.2.2.2
            · exact ⟨Nat.le_trans hR1.2.2.1.1 hz1, fun q h1 h2 => by rw [hz2 q (Nat.lt_of_lt_of_le h1 hR1.2.2.1.1)]; exact hR1.2.2.1.2.1 q h1 h2⟩
        · cases hlok
      · cases hf
    · cases hf
  · cases hf
end EXC
end
section
/-! A call as the kit has it, out of the small machine's run of the callee -/
section EXR
variable {l : Launch} {Ts Ns : List Cond} {mt : Nat → Option ex_M} {mp : Nat → List Nat} {tsl : List (String × Nat × Nat)} {ro : Nat} {sts : List ex_St}
variable {p : Program} {e : Env} {R : Room} {s : State} {m : MethodId} {args : Array Value} {below : List Frame} {meth : Method} {c : Code} {H : Heap} {locs : List Loc} {ls : Array Slot} {ad : Nat → Nat} {D : va_G} {cA : FieldType → ClassId} {z0 : Nat} {Q : State → Prop} {cells slots : Nat}
theorem ex_go {mc ms pc : Nat} {st0 rest : List Value} {Qa : State → Outcome → State → Prop} {free : Addr → Prop} (hr : va_Run p l e R s m args below meth c H locs cells slots mc ms (F0 m pc ls st0) rest Qa free)
    (kk : ∀ (v : Option Value) (st₀ t : State) (L : List Loc), st₀.heap = H → s.vm.Alike t.vm → Qa st₀ (.returned v) t → (∀ q ∈ L, free q.base) → W p l e R s m args below meth c t.heap (locs ++ L) (cells + mc) (slots + ms) Q (F0 m (pc + 3) ls (v.toList ++ rest))) :
    W p l e R s m args below meth c H locs cells slots Q (F0 m pc ls st0) := by
  intro T hT X
  obtain ⟨v, st₀, t, T', L, h0, X', hL, e1, e2, hq, st⟩ := hr T hT X
  obtain ⟨t2, a1, b1⟩ := kk v st₀ t L h0 (by rw [← e2]; exact X'.warmed.alike) hq hL T' e1 X'
  exact ⟨t2, st t2 a1, b1⟩
theorem ex_catsum {ad : Nat → Nat} (st : List Value) : ((st.map (ex_cv ad)).map fun v => v.category).sum = (st.map fun v => v.category).sum := by
  rw [List.map_map]
  congr 1
  exact List.map_congr_left fun v _ => ex_cv_cat ad v
theorem ex_rcv_of {w : ex_W} {ci : Nat} {as : List Value} (h : ex_rcv ro w ci as = true) : ∃ (a : Nat) (As : List Value), as = .ref a :: As ∧ w.1.1[a]? = some (.inl ci) ∧ (ci < 100 ∧ ro ≤ a ∨ 100 ≤ ci ∧ ¬ ro ≤ a) := by
  unfold ex_rcv at h
  split at h
  · next a As =>
    split at h
    · next cj hcj =>
      obtain ⟨rfl, h2⟩ := of_decide_eq_true h
      exact ⟨a, As, rfl, hcj, h2⟩
    · cases h
  · cases h
theorem ex_recv {w : ex_W} {ci a : Nat} (hF : ex_Fix D cA z0 ro sts Ns ad w s) (hR : ex_Rel D cA z0 ro ad w s H locs) (hsh : w.1.1[a]? = some (.inl ci)) (h : ci < 100 ∧ ro ≤ a ∨ 100 ≤ ci ∧ ¬ ro ≤ a) (hv : ci < 100 → ∃ q, vwCl[ci]? = some q) (h200 : ci < 200) : ∃ cell : Cell, H[ad a]? = some cell ∧ cell.vm.isStatics = false ∧ s.vm.findClass (ex_cn1 ci) = some cell.cls := by
  rcases h with ⟨h1, h2⟩ | ⟨h1, h2⟩
  · obtain ⟨q, hq⟩ := hv h1
    have e : ex_cn1 ci = q.1 := by rw [ex_cn1, if_pos h1, hq]
    rw [e]
    exact va_recv hF.1 hR.1 hq (ex_ws_get (cA := cA) (ad := ad) hsh h2)
  · have e : ex_cn1 ci = ex_rn ci := by rw [ex_cn1, if_neg (by omega)]
    rw [e]
    obtain ⟨cell, g1, g2, g3, -⟩ := ((hF.2.2.1 a _ (Nat.not_le.mp h2) hsh) h200).1.kept hR.2.2.1.2.1
    exact ⟨cell, g1, g2, g3⟩
/-- what a call's row says, in one place -/
def ex_Lk (Ts Ns : List Cond) (own : String) (idx : Nat) (y : MethodName) (nest : Bool) : Prop := if nest = true then Cond.methodLinkNest own idx y "PileTricks" ∈ Ns else Cond.methodLink own idx y ∈ Ts
theorem ex_cl_of {own : String} {idx : Nat} {r : List Nat} {k : Int32} {M : ex_M} {ps : List Nat} {kv extra : Nat} {ks : List Nat} (h : ex_cl Ts Ns own idx r k M ps kv ks extra = true) :
    ps.getD 2 0 = kv ∧ r.getD 0 0 ∈ ks ∧ (∀ sig, parseMethodDescriptor M.1.desc = some sig → r.getD 2 0 = sig.parameters.length + extra) ∧ ex_Lk Ts Ns own idx M.1 (decide (r.getD 0 0 = 1 ∨ r.getD 0 0 = 3 ∨ r.getD 0 0 = 5)) := by
  simp only [ex_cl, Bool.and_eq_true, decide_eq_true_eq] at h
  obtain ⟨⟨⟨h1, h2⟩, h3⟩, h4⟩ := h
  refine ⟨h1, h2, fun sig hs => ?_, ?_⟩
  · rw [hs] at h3; exact (Option.some.inj h3).symm
  · unfold ex_Lk
    by_cases hc : r.getD 0 0 = 1 ∨ r.getD 0 0 = 3 ∨ r.getD 0 0 = 5
    · rw [if_pos hc] at h4; rw [if_pos (decide_eq_true hc)]; exact List.mem_of_getElem? (of_decide_eq_true h4)
    · rw [if_neg hc] at h4; rw [if_neg (fun q => hc (of_decide_eq_true q))]; exact List.mem_of_getElem? (of_decide_eq_true h4)
theorem ex_wds {M : ex_M} {ps : List Nat} (hG : ∀ w ∈ Ts, goodWord w = true) (hts : ∀ w ∈ Ts, w.before args s = true) (hmw : ex_mw Ts M ps = true) (hcw : ps.getD 2 0 ≠ 3 → ex_cw M ∈ Ts) : ps.getD 2 0 ≠ 3 → (∀ w ∈ ex_wd Ts M, ∀ (a' : Array Value) (U : State), s.WarmedH U.vm → w.before a' U = true) ∧ (Cond.initialized M.1.cls).before args s = true ∧ ex_cw M ∈ Ts := by
  intro h3
  simp only [ex_mw, Bool.and_eq_true, decide_eq_true_eq] at hmw
  obtain ⟨h2, -⟩ := hmw
  have hin := hcw h3
  refine ⟨fun w hw a' U hW => ?_, hts _ (List.mem_of_getElem? h2), hin⟩
  have hw2 : w ∈ Ts := by
    rcases List.mem_cons.mp hw with rfl | hw
    · exact hin
    · exact hw
  exact word_at hW (good_of_word (hG w hw2)) (hts w hw2)
theorem ex_mw_st {M : ex_M} {ps : List Nat} (hmw : ex_mw Ts M ps = true) : (ps.getD 2 0 = 0 → Cond.static M.1 ∈ Ts) ∧ (ps.getD 2 0 = 1 → Cond.instanceMethod M.1 ∈ Ts ∧ Cond.selects M.1.cls M.1 M.1 ∈ Ts) ∧ (ps.getD 2 0 = 2 → Cond.instanceMethod M.1 ∈ Ts ∧ M.1.name = "<init>") := by
  simp only [ex_mw, Bool.and_eq_true, decide_eq_true_eq] at hmw
  obtain ⟨-, h3⟩ := hmw
  refine ⟨fun h => ?_, fun h => ?_, fun h => ?_⟩
  · rw [h] at h3; exact List.mem_of_getElem? (of_decide_eq_true h3)
  · rw [h] at h3
    simp only [Bool.and_eq_true, decide_eq_true_eq] at h3
    exact ⟨List.mem_of_getElem? h3.1, List.mem_of_getElem? h3.2⟩
  · rw [h] at h3
    simp only [Bool.and_eq_true, decide_eq_true_eq] at h3
    exact ⟨List.mem_of_getElem? h3.1, h3.2⟩
/-- the parts that all calls share -/
theorem ex_PreS {w : ex_W} {as : List Value} (hH : ex_Hyp l Ts Ns mt mp tsl ro sts) (hF : ex_Fix D cA z0 ro sts Ns ad w s) (hR : ex_Rel D cA z0 ro ad w s H locs) : PreS s H (ex_Pc D cA z0 ro sts Ns ad w as) (as.map (ex_cv ad)) :=
  ⟨ex_blind hH.2.2.2.2.2.1, fun U hU hW => ⟨rfl, hF.at hR.2.2.1 hU hW.alike (fun x hx => ex_nok_warm (hH.2.2.2.2.2.1 x hx) hW (hF.2.2.2.2.1 x hx)), by rw [hU]; exact hR.1⟩⟩
set_option maxHeartbeats 4000000 in
theorem ex_vrun {n d mi pc idx : Nat} {M0 M : ex_M} {ins : Instr} {r : List Nat} {k : Int32} {w w' : ex_W} {as rest : List Value} {v : Option Value} (hH : ex_Hyp l Ts Ns mt mp tsl ro sts) (hA : ex_AA l Ts Ns mt mp tsl ro sts n) (hM : mt (r.getD 1 0) = some M) (hC : ex_Cx p l R s m args meth c Ts M0 (d + 1))
    (hF : ex_Fix D cA z0 ro sts Ns ad w s) (hR : ex_Rel D cA z0 ro ad w s H locs) (hlz : ls.size = M0.2.2.1) (hi : ins = .invokevirtual idx ∨ ins = .invokestatic idx ∨ ins = .invokespecial idx) (hdec : decode M0.2.1 pc = .ok (ins, 3)) (hk67 : r.getD 0 0 ≠ 6 ∧ r.getD 0 0 ≠ 7) (hk : ex_cok Ts Ns mt mp M0 pc ins r k = true)
    (h : ex_me mt (ex_run ro mt n) d (r.getD 1 0) as w = some (.inl v, w')) (ho : ∀ v ∈ as, ex_okv w.1.1.length v) (has : as.length = r.getD 2 0) (hsum : (rest.map fun v => v.category).sum ≤ 8) (hrcv : r.getD 0 0 = 2 ∨ r.getD 0 0 = 3 ∨ r.getD 0 0 = 8 ∨ ex_rcv ro w (r.getD 3 0) as = true)
    (hcells : cells + (w'.1.2.1 - w.1.2.1) ≤ R.cells) (hslots : slots + (w'.1.2.2 - w.1.2.2) ≤ R.slots) :
    va_Run p l e R s m args below meth c H locs cells slots (w'.1.2.1 - w.1.2.1) (w'.1.2.2 - w.1.2.2) (F0 m pc ls (as.reverse.map (ex_cv ad) ++ rest.map (ex_cv ad))) (rest.map (ex_cv ad)) (ex_Qc D cA z0 ro sts ad w w' v #[]) (fun q => z0 ≤ q) := by
  have hMet := ex_Met (D := D) (cA := cA) (z0 := z0) (ad := ad) hH hA hM h ho hR.2.2.2.1 hR.2.2.2.2 hR.2.1
  have hmok := hH.2.1 _ M hM
  simp only [ex_mok, Bool.and_eq_true, decide_eq_true_eq] at hmok
  obtain ⟨⟨⟨⟨⟨⟨⟨hmw, hpl⟩, hn1⟩, hn2⟩, hcl⟩, hnL⟩, -⟩, -⟩ := hmok
  have hq := ex_wds hH.2.2.2.2.1 hC.2.2.2.2.1 hmw (hH.2.2.2.2.2.2.2.1 _ M hM)
  obtain ⟨u1, u2, u3⟩ := ex_mw_st hmw
  have hS : CallFix p m c M0.2.1 M0.2.2.1 s args Ts M0.2.2.2.2.1 := ⟨hC.1, hC.2.1, hC.2.2.1, hC.2.2.2.1, hC.2.2.2.2.1⟩
  have hfr : (ex_rm d (w'.1.2.1 - w.1.2.1) (w'.1.2.2 - w.1.2.2)).frames + 1 ≤ R.frames := by have := hC.2.2.2.2.2.2.2.2.1; show d + 6 + 1 ≤ _; omega
  have hlo : 8 + (M.2.2.1 + 11) + (ex_rm d (w'.1.2.1 - w.1.2.1) (w'.1.2.2 - w.1.2.2)).locals ≤ R.locals := by have := hC.2.2.2.2.2.2.2.2.2; show 8 + (M.2.2.1 + 11) + (64 * d + 140) ≤ _; omega
  have hroom : ∀ (pc : Nat) (st : List Value), 2 * (F0 m pc ls st).monitorRoom + ((rest.map (ex_cv ad)).map fun v => v.category).sum ≤ 8 := fun pc st => lv_room (by rw [ex_catsum]; exact hsum)
  have hts := hC.2.2.2.2.1
  have hNw : ∀ x ∈ Ns, x.before args s = true := fun x hx => va_Nw.use (ex_nok_on (hH.2.2.2.2.2.1 x hx)) (hF.2.2.2.2.1 x hx)
  rcases hi with rfl | rfl | rfl
  · simp only [ex_cok, hM, Bool.and_eq_true, decide_eq_true_eq] at hk
    obtain ⟨⟨⟨hk1, hk2⟩, hk3⟩, -⟩ := hk
    obtain ⟨g1, g2, g3, g4⟩ := ex_cl_of hk1
    obtain ⟨q1, q2, q3⟩ := hq (by rw [g1]; decide)
    obtain ⟨i1, i2⟩ := u2 g1
    have hcode : Cond.code M.1 M.2.1 M.2.2.1 M.2.2.2.1 ∈ Ts := by rw [ex_cw, if_pos hk3] at q3; exact q3
    have hcw : Cond.code M.1 M.2.1 M.2.2.1 M.2.2.2.1 ∈ ex_wd Ts M := by rw [ex_wd, ex_cw, if_pos hk3]; exact List.mem_cons_self
    have hrv : ex_rcv ro w (r.getD 3 0) as = true := by
      simp only [List.mem_cons, List.not_mem_nil, or_false] at g2
      rcases hrcv with h | h | h | h
      · omega
      · omega
      · omega
      · exact h
    obtain ⟨a, As, rfl, hsh, hca⟩ := ex_rcv_of hrv
    have hcell := ex_recv hF hR hsh hca (fun h => ⟨vwCl[r.getD 3 0]'(show r.getD 3 0 < 10 by omega), List.getElem?_eq_getElem _⟩) (by omega)
    rw [← hk2.1] at hcell
    have hpre : PreV s H M.1.cls (ad a) (ex_Pc D cA z0 ro sts Ns ad w (.ref a :: As)) (As.map (ex_cv ad)) := ⟨ex_blind hH.2.2.2.2.2.1, hcell, (ex_PreS hH hF hR).2⟩
    have hnA : ∀ sig, parseMethodDescriptor M.1.desc = some sig → (As.map (ex_cv ad)).length = sig.parameters.length := fun sig hs => by
      have := g3 sig hs
      rw [List.length_map]
      rw [List.length_cons] at has
      omega
    have hstk : ((Value.ref a :: As).reverse.map (ex_cv ad) ++ rest.map (ex_cv ad)) = (As.map (ex_cv ad)).reverse ++ .ref (ad a) :: rest.map (ex_cv ad) := by
      rw [List.reverse_cons, List.map_append, List.map_reverse, List.append_assoc]; rfl
    rw [hstk]
    unfold ex_Lk at g4
    by_cases hc : r.getD 0 0 = 1 ∨ r.getD 0 0 = 3 ∨ r.getD 0 0 = 5
    · rw [if_pos (decide_eq_true hc)] at g4
      exact va_runVN (n := (As.map (ex_cv ad)).length) (host := "PileTricks") hS hMet ⟨⟨⟨rfl, rfl, hfr, hlo, q1, hcw⟩, hts _ hcode, q2, ⟨hn1, hn2⟩, hnA, hNw _ g4⟩, hts _ i1, hts _ i2⟩ hpre rfl rfl hlz rfl (hroom _ _) hdec ⟨hcells, hslots⟩
    · rw [if_neg (fun q => hc (of_decide_eq_true q))] at g4
      exact va_runV (n := (As.map (ex_cv ad)).length) hS hMet ⟨⟨rfl, rfl, hfr, hlo, q1, hcw, hts _ hcode, q2, ⟨hn1, hn2⟩, hnA, hts _ g4⟩, hts _ i1, hts _ i2⟩ hpre rfl rfl hlz rfl (hroom _ _) hdec ⟨hcells, hslots⟩
  · rw [ex_cok, if_neg hk67.2] at hk
    simp only [hM, Bool.and_eq_true, decide_eq_true_eq] at hk
    obtain ⟨hk1, hk3⟩ := hk
    obtain ⟨g1, g2, g3, g4⟩ := ex_cl_of hk1
    obtain ⟨q1, q2, q3⟩ := hq (by rw [g1]; decide)
    have i1 := u1 g1
    have hnA : ∀ sig, parseMethodDescriptor M.1.desc = some sig → (as.map (ex_cv ad)).length = sig.parameters.length := fun sig hs => by
      have := g3 sig hs
      rw [List.length_map]
      omega
    have hstk : (as.reverse.map (ex_cv ad) ++ rest.map (ex_cv ad)) = (as.map (ex_cv ad)).reverse ++ rest.map (ex_cv ad) := by rw [List.map_reverse]
    rw [hstk]
    unfold ex_Lk at g4
    by_cases h8 : r.getD 0 0 = 8
    · have hne := hk3.mp h8
      rw [if_neg (fun q => by have := of_decide_eq_true q; omega)] at g4
      have hcode : Cond.codeWith M.1 M.2.1 M.2.2.1 M.2.2.2.1 M.2.2.2.2.2.2 ∈ Ts := by rw [ex_cw, if_neg hne] at q3; exact q3
      have hcw : Cond.codeWith M.1 M.2.1 M.2.2.1 M.2.2.2.1 M.2.2.2.2.2.2 ∈ ex_wd Ts M := by rw [ex_wd, ex_cw, if_neg hne]; exact List.mem_cons_self
      exact vx_runSW (As := as.map (ex_cv ad)) (n := (as.map (ex_cv ad)).length) hS hMet ⟨⟨rfl, rfl, hfr, hlo, q1, hcw⟩, hts _ hcode, q2, ⟨hn1, hn2⟩, hnA, hts _ g4, hts _ i1⟩ (ex_PreS hH hF hR) rfl rfl hlz rfl (hroom _ _) hdec ⟨hcells, hslots⟩
    · have hne : M.2.2.2.2.2.2 = [] := Classical.byContradiction (fun q => h8 (hk3.mpr q))
      have hcode : Cond.code M.1 M.2.1 M.2.2.1 M.2.2.2.1 ∈ Ts := by rw [ex_cw, if_pos hne] at q3; exact q3
      have hcw : Cond.code M.1 M.2.1 M.2.2.1 M.2.2.2.1 ∈ ex_wd Ts M := by rw [ex_wd, ex_cw, if_pos hne]; exact List.mem_cons_self
      by_cases hc : r.getD 0 0 = 1 ∨ r.getD 0 0 = 3 ∨ r.getD 0 0 = 5
      · rw [if_pos (decide_eq_true hc)] at g4
        exact va_runSN (As := as.map (ex_cv ad)) (n := (as.map (ex_cv ad)).length) (host := "PileTricks") hS hMet ⟨⟨⟨rfl, rfl, hfr, hlo, q1, hcw⟩, hts _ hcode, q2, ⟨hn1, hn2⟩, hnA, hNw _ g4⟩, hts _ i1, trivial⟩ (ex_PreS hH hF hR) rfl rfl hlz rfl (hroom _ _) hdec ⟨hcells, hslots⟩
      · rw [if_neg (fun q => hc (of_decide_eq_true q))] at g4
        exact va_runS (As := as.map (ex_cv ad)) (n := (as.map (ex_cv ad)).length) hS hMet ⟨⟨rfl, rfl, hfr, hlo, q1, hcw, hts _ hcode, q2, ⟨hn1, hn2⟩, hnA, hts _ g4⟩, hts _ i1⟩ (ex_PreS hH hF hR) rfl rfl hlz rfl (hroom _ _) hdec ⟨hcells, hslots⟩
  · rw [ex_cok, if_neg hk67.1] at hk
    simp only [hM, Bool.and_eq_true, decide_eq_true_eq] at hk
    obtain ⟨⟨hk1, hk2⟩, hk3⟩ := hk
    obtain ⟨g1, g2, g3, g4⟩ := ex_cl_of hk1
    obtain ⟨q1, q2, q3⟩ := hq (by rw [g1]; decide)
    obtain ⟨i1, i2⟩ := u3 g1
    have hcode : Cond.code M.1 M.2.1 M.2.2.1 none ∈ Ts := by rw [ex_cw, if_pos hk3, hk2] at q3; exact q3
    have hcw : Cond.code M.1 M.2.1 M.2.2.1 none ∈ ex_wd Ts M := by rw [ex_wd, ex_cw, if_pos hk3, hk2]; exact List.mem_cons_self
    have hrv : ex_rcv ro w (r.getD 3 0) as = true := by
      simp only [List.mem_cons, List.not_mem_nil, or_false] at g2
      rcases hrcv with h | h | h | h
      · omega
      · omega
      · omega
      · exact h
    obtain ⟨a, As, rfl, hsh, hca⟩ := ex_rcv_of hrv
    have hnA : ∀ sig, parseMethodDescriptor M.1.desc = some sig → (As.map (ex_cv ad)).length = sig.parameters.length := fun sig hs => by
      have := g3 sig hs
      rw [List.length_map]
      rw [List.length_cons] at has
      omega
    have hstk : ((Value.ref a :: As).reverse.map (ex_cv ad) ++ rest.map (ex_cv ad)) = (As.map (ex_cv ad)).reverse ++ .ref (ad a) :: rest.map (ex_cv ad) := by
      rw [List.reverse_cons, List.map_append, List.map_reverse, List.append_assoc]; rfl
    rw [hstk]
    unfold ex_Lk at g4
    by_cases hc : r.getD 0 0 = 1 ∨ r.getD 0 0 = 3 ∨ r.getD 0 0 = 5
    · rw [if_pos (decide_eq_true hc)] at g4
      exact va_runIN (n := (As.map (ex_cv ad)).length) (host := "PileTricks") hS hMet ⟨⟨⟨rfl, rfl, hfr, hlo, q1, hcw⟩, hts _ hcode, q2, ⟨hn1, hn2⟩, hnA, hNw _ g4⟩, i2, hts _ i1⟩ (ex_PreS (as := .ref a :: As) hH hF hR) rfl rfl hlz rfl (hroom _ _) hdec ⟨hcells, hslots⟩
    · rw [if_neg (fun q => hc (of_decide_eq_true q))] at g4
      exact va_runI (n := (As.map (ex_cv ad)).length) hS hMet ⟨⟨rfl, rfl, hfr, hlo, q1, hcw, hts _ hcode, q2, ⟨hn1, hn2⟩, hnA, hts _ g4⟩, i2, hts _ i1⟩ (ex_PreS (as := .ref a :: As) hH hF hR) rfl rfl hlz rfl (hroom _ _) hdec ⟨hcells, hslots⟩
end EXR
end
section
/-! The whole: every run of the small machine is one of the JVM -/
section EXZ
variable {p : Program} {l : Launch} {e : Env} {R : Room} {s : State} {m : MethodId} {args : Array Value} {below : List Frame} {meth : Method} {c : Code} {H : Heap} {locs : List Loc} {cells slots : Nat} {Q : State → Prop} {ls : Array Slot} {rest : List Value} {pc : Nat}
/-- System.arraycopy out of an int array that was there before -/
theorem ex_copyRO {D : va_G} {cl : List vw_C} {tys : List (ClassId × FieldType)} {ws : va_W} {A : Nat → Prop} {a : Nat} {cc : ByteArray} (hexec : p.tables.exec = Jvm.exec) (hb : c.code = cc) (hml : c.maxLocals = ls.size) {own : String} {index : Nat} (hown : s.vm.findClass own = some m.cls) (hlink : (Cond.methodLink own index arraycopyName).before args s = true) (hnat : (Cond.native arraycopyName).before args s = true) (hstat : (Cond.static arraycopyName).before args s = true) (hini : (Cond.initialized "java/lang/System").before args s = true)
    (hK : va_K D cl tys s) (hP : va_P D cl ws H) (hD : va_D A ws) (hS : va_S A s.heap H locs) {b0 n0 : Nat} {f : Nat → Int32} (hX : va_T .int b0 n0 (fun j => .int (f j)) A s s.heap) (q1 t1 : Nat) {c1 : ClassId} {n1 : Nat} {g : Nat → Int32} (ha1 : ws[q1]? = some (a, .inl (c1, n1, .inl g))) (ht1 : tys[t1]? = some (c1, .int))
    {sp dp n : Int32} (h1 : ¬ sp < 0) (h2 : ¬ dp < 0) (h3 : ¬ n < 0) (h4 : sp.toNatClampNeg + n.toNatClampNeg ≤ n0) (h5 : dp.toNatClampNeg + n.toNatClampNeg ≤ n1)
    (hframes : 1 ≤ R.frames) (hlocals : (rest.map fun v => v.category).sum + (nativeFrameWords "java/lang/System" "arraycopy" 5 + 11) ≤ R.locals) (hdg : decode cc pc = .ok (.invokestatic index, 3))
    (kk : ∀ (H1 : Heap) (locs1 : List Loc), va_P D cl (ws.set q1 (a, .inl (c1, n1, .inl (va_cpy f g sp.toNatClampNeg dp.toNatClampNeg n.toNatClampNeg)))) H1 → va_D A (ws.set q1 (a, .inl (c1, n1, .inl (va_cpy f g sp.toNatClampNeg dp.toNatClampNeg n.toNatClampNeg)))) → va_S A s.heap H1 locs1 → W p l e R s m args below meth c H1 locs1 cells slots Q (F0 m (pc + 3) ls rest)) :
    W p l e R s m args below meth c H locs cells slots Q (F0 m pc ls (.int n :: .int dp :: .ref a :: .int sp :: .ref b0 :: rest)) := by
  have toN : ∀ z : Int32, ¬ z < 0 → z.toInt = (z.toNatClampNeg : Int) := fun z hz => by
    have h0 : (0 : Int) ≤ z.toInt := by simpa using Int32.le_iff_toInt_le.mp (Int32.not_lt.mp hz)
    show z.toInt = ((z.toInt.toNat : Nat) : Int)
    omega
  intro T hT X
  obtain ⟨scr, y1, y2, y3, y4, -, y5, y7⟩ := hX
  have old : H[b0]? = some scr := (hS.2.1 b0 (Array.getElem?_eq_some_iff.mp y1).1 y7).trans y1
  have new : H[a]? = some (vp_cell c1 (n1, .inl g)) := hP q1 _ ha1
  obtain ⟨y6, k0, hk0, m0, e0⟩ := y2
  obtain ⟨-, k1, hk1, m1, e1⟩ := (hK.2 t1 _ ht1).1 n1 (fun j => .int (g j))
  obtain ⟨vm', X', go⟩ := X.arraycopy hexec hown hlink hnat hstat hini (src := b0) (dst := a) (cs := scr) (cd := vp_cell c1 (n1, .inl g)) (srcPos := sp) (destPos := dp) (n := n) (by rw [hT]; exact old) (by rw [hT]; exact new)
    y6 (fun _ h => by cases h) y3 (fun h => by cases h) hk0 hk1 e0 e1 (by simp [refKind]) h1 h2 h3 (by rw [toN sp h1, toN n h3]; omega)
    (by rw [toN dp h2, toN n h3]; show ¬ _ > ((arrV c1 n1 (fun j => .int (g j))).slots.size : Int); rw [arrV_size]; omega)
    (fun _ _ i hi => by
      have ev : scr.slots.getD (sp.toNatClampNeg + i) .null = .int (f (sp.toNatClampNeg + i)) := by
        rw [Array.getD_eq_getD_getElem?, y5 _ (by omega)]; rfl
      rw [ev]; exact ⟨rfl, trivial⟩)
    (g := F0 m pc ls (.int n :: .int dp :: .ref a :: .int sp :: .ref b0 :: rest)) rfl (by rw [hml]) (rest := rest) rfl (by rw [hb]; exact hdg) hframes (by show 2 * 0 + _ + _ ≤ _; omega)
  have ecp : copied scr (vp_cell c1 (n1, .inl g)) sp dp n = vp_cell c1 (n1, .inl (va_cpy f g sp.toNatClampNeg dp.toNatClampNeg n.toNatClampNeg)) := va_copiedX (fun z => .int z) scr c1 f g y5 h4
  rw [ecp] at X' go
  have hla : a < H.size := (Array.getElem?_eq_some_iff.mp new).1
  have hh : ((T.setVm vm').setCell a (vp_cell c1 (n1, .inl (va_cpy f g sp.toNatClampNeg dp.toNatClampNeg n.toNatClampNeg)))).heap = H.setIfInBounds a (vp_cell c1 (n1, .inl (va_cpy f g sp.toNatClampNeg dp.toNatClampNeg n.toNatClampNeg))) := by rw [← hT]; rfl
  have other : ∀ q : Nat, q ≠ a → (H.setIfInBounds a (vp_cell c1 (n1, .inl (va_cpy f g sp.toNatClampNeg dp.toNatClampNeg n.toNatClampNeg))))[q]? = H[q]? := fun q hq => by simp [Array.getElem?_setIfInBounds, Ne.symm hq]
  have inA : A a := hD.2 q1 _ ha1
  obtain ⟨t, r1, r2⟩ := kk _ _ (hP.set hD ha1 (show (H.setIfInBounds a _)[a]? = some _ by simp [Array.getElem?_setIfInBounds, hla]) other) (hD.set ha1)
    ⟨by simp; exact hS.1, fun q g1 g2 => (other q (fun eq => g2 (by rw [eq]; exact inA))).trans (hS.2.1 q g1 g2), fun q hq => by
      rcases List.mem_append.mp hq with hq | hq
      · exact hS.2.2 q hq
      · obtain ⟨z, -, rfl⟩ := List.mem_map.mp hq
        exact inA⟩ _ hh X'
  exact ⟨t, go t r1, r2⟩
end EXZ
section EXI
variable {l : Launch} {Ts Ns : List Cond} {mt : Nat → Option ex_M} {mp : Nat → List Nat} {tsl : List (String × Nat × Nat)} {ro : Nat} {sts : List ex_St}
theorem ex_ret_eq (self : ex_S) (d : Nat) (cd : List (List ex_R)) (L : List ex_R) (lo : ex_Lo) (rest : List Value) (v : Option Value) (w : ex_W) : ex_ret self d cd L lo rest (some (.inl v, w)) = self d cd L lo (v.toList ++ rest) w := by cases v <;> rfl
theorem ex_ft_pc {pc : Nat} {L : List ex_R} (h : ex_ft pc L = true) : ex_pc L = pc := by
  unfold ex_ft at h
  unfold ex_pc
  split at h
  · exact of_decide_eq_true h
  · cases h
theorem ex_ftl_pc {n pc d : Nat} {cd : List (List ex_R)} {L : List ex_R} {lo : ex_Lo} {st : List Value} {w : ex_W} {E : ex_E} (h : ex_ftl pc L = true) (hr : ex_run ro mt n d cd L lo st w = some E) : ex_pc L = pc := by
  unfold ex_ftl at h
  unfold ex_pc
  split at h
  · exact of_decide_eq_true h
  · cases n <;> cases hr
theorem ex_jmp_pc {cd : List (List ex_R)} {pc t : Nat} {off : Int} (h : ex_jmp cd pc off t = true) : (pc : Int) + off = (ex_pc (cd.getD t []) : Int) := by
  unfold ex_jmp at h
  unfold ex_pc
  split at h
  · next x r hx => rw [hx]; exact of_decide_eq_true h
  · cases h
theorem ex_LR.same {ad ad' : Nat → Nat} {z z' nL : Nat} {lo : ex_Lo} {ls : Array Slot} (h : ex_LR ad z nL lo ls) (hz : z ≤ z') (had : ∀ i, i < z → ad' i = ad i) : ex_LR ad' z' nL lo ls :=
  ⟨h.1, h.2.1, fun i v hv => ⟨by rw [ex_cv_same (h.2.2 i v hv).2 had]; exact (h.2.2 i v hv).1, (h.2.2 i v hv).2.mono hz⟩⟩
theorem ex_isw_of {w : ex_W} {x : Nat} (h : ex_isw ro w x = true) : x < ro ∧ w.1.1[x]? = some (.inl 100) := by
  rw [ex_isw, Bool.and_eq_true] at h
  refine ⟨Nat.not_le.mp (of_decide_eq_true h.1), ?_⟩
  have h2 := h.2
  split at h2
  · next hx => exact hx
  · cases h2
/-- behind a call that returned -/
theorem ex_after {n d mi : Nat} {M : ex_M} {L : List ex_R} {lo : ex_Lo} {rest : List Value} {v : Option Value} {w w2 : ex_W} {E : ex_E} (hH : ex_Hyp l Ts Ns mt mp tsl ro sts) (hA : ex_AA l Ts Ns mt mp tsl ro sts n) (hM : mt mi = some M) (hrun : ex_run ro mt n d M.2.2.2.2.2.1 L lo (v.toList ++ rest) w2 = some E) (hlok : ex_lok Ts Ns mt mp tsl ro sts M L = true) (hle : ex_le w w2)
    {p : Program} {e : Env} {R : Room} {s : State} {m : MethodId} {args : Array Value} {below : List Frame} {meth : Method} {c : Code} {H : Heap} {locs : List Loc} {ls : Array Slot} {ad : Nat → Nat} {D : va_G} {cA : FieldType → ClassId} {z0 c0 s0 pc : Nat} {Q : State → Prop} {st0 : List Value}
    (hpc : ex_pc L = pc + 3) (hC : ex_Cx p l R s m args meth c Ts M d) (hF : ex_Fix D cA z0 ro sts Ns ad w s) (hR : ex_Rel D cA z0 ro ad w s H locs) (hL : ex_LR ad w.1.1.length M.2.2.1 lo ls) (hn : ex_nod lo) (ho : ∀ v ∈ rest, ex_okv w.1.1.length v) (hc0 : c0 ≤ w.1.2.1) (hs0 : s0 ≤ w.1.2.2) (hRc : E.2.2.2.1.2.1 - c0 ≤ R.cells) (hRs : E.2.2.2.1.2.2 - s0 ≤ R.slots)
    (hvr : va_Run p l e R s m args below meth c H locs (w.1.2.1 - c0) (w.1.2.2 - s0) (w2.1.2.1 - w.1.2.1) (w2.1.2.2 - w.1.2.2) (F0 m pc ls st0) (rest.map (ex_cv ad)) (ex_Qc D cA z0 ro sts ad w w2 v #[]) (fun q => z0 ≤ q))
    (kk : ∀ (ad1 : Nat → Nat) (H1 : Heap) (locs1 : List Loc) (ls1 : Array Slot), ex_Rel D cA z0 ro ad1 E.2.2.2 s H1 locs1 → ex_agr ro sts ad ad1 w E.2.2.2 → ex_LR ad1 E.2.2.2.1.1.length M.2.2.1 E.2.1 ls1 → (∀ v ∈ E.2.2.1, ex_okv E.2.2.2.1.1.length v) → ex_lok Ts Ns mt mp tsl ro sts M E.1 = true →
      W p l e R s m args below meth c H1 locs1 (E.2.2.2.1.2.1 - c0) (E.2.2.2.1.2.2 - s0) Q (F0 m (ex_pc E.1) ls1 (E.2.2.1.map (ex_cv ad1)))) :
    W p l e R s m args below meth c H locs (w.1.2.1 - c0) (w.1.2.2 - s0) Q (F0 m pc ls st0) := by
  refine ex_go hvr fun v9 st₀ t L9 h0 hal hq hL9 => ?_
  obtain ⟨⟨ad', hv, hvo, hag, hP, hD, hin, hro⟩, hFr⟩ := hq
  cases hv
  obtain ⟨g1, g2, g3⟩ := vx_keep (T' := t) h0 rfl hR.2.2.1 (fun _ _ h => h) (fun _ h => h) hL9 hFr
  have hle1 := hle.1
  have hle2 := hle.2
  have e1 : w.1.2.1 - c0 + (w2.1.2.1 - w.1.2.1) = w2.1.2.1 - c0 := by omega
  have e2 : w.1.2.2 - s0 + (w2.1.2.2 - w.1.2.2) = w2.1.2.2 - s0 := by omega
  have hR' : ex_Rel D cA z0 ro ad' w2 s t.heap (locs ++ L9) := ⟨hP, hD, g3, hin, hro⟩
  have had : ∀ i, i < w.1.1.length → ad' i = ad i := fun i hi => (hag.1 i hi).1
  have ho' : ∀ x ∈ v.toList ++ rest, ex_okv w2.1.1.length x := fun x hx => by
    rcases List.mem_append.mp hx with hx | hx
    · exact hvo x (Option.mem_toList.mp hx)
    · exact (ho x hx).mono hag.2.2
  have key := hA d mi M L lo (v.toList ++ rest) w2 E hM hrun hlok p e R s m args below meth c t.heap (locs ++ L9) ls ad' D cA z0 c0 s0 Q hC (hF.agr hag hR.2.2.2.1 hR.2.2.2.2 hH.2.2.2.1) hR' (hL.same hag.2.2 had) hn ho' (by omega) (by omega) hRc hRs (fun ad1 H1 locs1 ls1 k1 k2 k3 k4 k5 => kk ad1 H1 locs1 ls1 k1 (hag.tr k2) k3 k4 k5)
  have e3 : (v.toList ++ rest).map (ex_cv ad') = (v.map (ex_cv ad')).toList ++ rest.map (ex_cv ad) := by
    rw [List.map_append, ex_map_same ho had]
    cases v <;> rfl
  rw [hpc, e3] at key
  rw [e1, e2]
  exact key
/-- the handlers -/
theorem ex_hands {bytes : ByteArray} {nL : Nat} {own : String} {pc : Nat} {cd : List (List ex_R)} {x : Nat} {w : ex_W} {E : ex_E} : ∀ (rs : List Nat) (hh : List (Nat × Nat × Nat × Nat)) (seen : List Nat), ex_cat cd x w rs = some E → ex_hd bytes nL own pc cd rs hh seen = true →
    ∃ (pre : List (Nat × Nat × Nat × Nat)) (q : Nat × Nat × Nat × Nat) (suf : List (Nat × Nat × Nat × Nat)) (ra rc rr : ex_R), hh = pre ++ q :: suf ∧ E = ([rr], [], [.int rc.2.2.2.2], w) ∧ (∀ y ∈ seen, x = 0 ∧ y = 1) ∧ (∀ z ∈ pre, z.2.2.2 ≠ 0 ∧ x = 0 ∧ own = "PileTricksLaw" ∧ z.2.2.2 = ex_ct 1) ∧ q.1 ≤ pc ∧ pc < q.2.1 ∧ q.2.2.2 ≠ 0 ∧ (own = "PileTricksLaw" ∧ x < 2 ∧ q.2.2.2 = ex_ct x) ∧ ra.1 = q.2.2.1 ∧ decode bytes ra.1 = .ok (ra.2.2.1, ra.2.1) ∧ decode bytes rc.1 = .ok (rc.2.2.1, rc.2.1) ∧ decode bytes rr.1 = .ok (.ireturn, 1) ∧ rr.2.2.1 = .ireturn ∧ rr.2.1 = 1 ∧ rc.1 = ra.1 + ra.2.1 ∧ rr.1 = rc.1 + rc.2.1 ∧ ex_kok ra.2.2.1 ra.2.2.2.2 ra.2.1 = true ∧ ex_kok rc.2.2.1 rc.2.2.2.2 rc.2.1 = true ∧ ((∃ i, ra.2.2.1 = .astore_n i ∧ i.val < nL) ∨ (∃ i, ra.2.2.1 = .astore i ∧ i < nL)) ∧ (∃ i, rc.2.2.1 = .iconst i)
  | y :: b :: rs, q :: hh, seen, h, hk => by
    simp only [ex_hd, Bool.and_eq_true] at hk
    obtain ⟨hk1, hk2⟩ := hk
    split at hk1
    · next ra rc rr hb =>
      simp only [Bool.and_eq_true, decide_eq_true_eq] at hk1
      obtain ⟨⟨⟨⟨⟨⟨⟨⟨⟨⟨⟨⟨⟨⟨⟨⟨k1, k2⟩, k3⟩, k4⟩, k6⟩, k7⟩, k8⟩, k9⟩, k10⟩, k11⟩, k12⟩, k13⟩, k14⟩, k15⟩, k16⟩, k17⟩, k18⟩ := hk1
      by_cases hy : y = x
      · subst hy
        rw [ex_cat, if_pos rfl, hb] at h
        cases h
        refine ⟨[], q, hh, ra, rc, rr, rfl, rfl, (fun z hz => of_decide_eq_true (List.all_eq_true.mp k18 z hz)), (fun _ h => by cases h), k1, k2, k3, k4, k6, k7, k8, k9, k10, k11, k12, k13, k14, k15, ?_, ?_⟩
        · split at k16
          · next i hi => exact Or.inl ⟨i, hi, of_decide_eq_true k16⟩
          · next i hi => exact Or.inr ⟨i, hi, of_decide_eq_true k16⟩
          · cases k16
        · split at k17
          · next i hi => exact ⟨i, hi⟩
          · cases k17
      · rw [ex_cat, if_neg hy] at h
        obtain ⟨pre, q', suf, ra', rc', rr', e1, e2, e3, e4, e5⟩ := ex_hands rs hh (y :: seen) h hk2
        refine ⟨q :: pre, q', suf, ra', rc', rr', by rw [e1]; rfl, e2, fun z hz => e3 z (List.mem_cons_of_mem _ hz), fun z hz => ?_, e5⟩
        rcases List.mem_cons.mp hz with rfl | hz
        · obtain ⟨f1, f2⟩ := e3 y List.mem_cons_self
          exact ⟨k3, f1, k4.1, by rw [← f2]; exact k4.2.2⟩
        · exact e4 z hz
    · cases hk1
  | [], _, _, h, _ => by cases h
  | [_], _, _, h, _ => by cases h
  | _ :: _ :: _, [], _, _, hk => by simp [ex_hd] at hk
theorem ex_goX {p : Program} {e : Env} {R : Room} {s : State} {m : MethodId} {args : Array Value} {below : List Frame} {meth : Method} {c : Code} {H : Heap} {locs : List Loc} {ls : Array Slot} {Q : State → Prop} {cells slots mc ms pc : Nat} {st0 rest : List Value} {XC : String → State → State → Prop} {free : Addr → Prop} (hr : vx_Run p l e R s m args below meth c H locs cells slots mc ms (F0 m pc ls st0) rest (fun _ _ _ => False) XC free)
    (kk : ∀ (q9 : Addr) (st₀ t : State) (L9 : List Loc) (E9 : String) (ce : Cell), st₀.heap = H → XC E9 st₀ t → (∀ z ∈ L9, free z.base) → t.heap[q9]? = some ce → ce.vm = .none → s.vm.findClass E9 = some ce.cls → vx_W p l e R s m args below meth c t.heap (locs ++ L9) (cells + mc) (slots + ms) Q (F0 m pc ls rest) q9) :
    W p l e R s m args below meth c H locs cells slots Q (F0 m pc ls st0) := by
  intro T hT X
  rcases hr T hT X with ⟨v, st₀, t, T', L, h0, X', hL, e1, e2, hq, st⟩ | ⟨q, st₀, t, T', L, E, ce, h0, X', hL, e1, e2, hx, hce, hcv, hcl, st⟩
  · exact hq.elim
  · obtain ⟨t2, a1, b1⟩ := kk q st₀ t L E ce h0 hx hL hce hcv hcl T' e1 X'
    exact ⟨t2, st.trans a1, b1⟩
set_option maxHeartbeats 8000000 in
/-- a call that throws, in a method that catches it -/
theorem ex_catch {n d mi mi' pc idx np ci k0 x : Nat} {rs : List Nat} {M M' : ex_M} {lo : ex_Lo} {st as rest : List Value} {w w2 : ex_W} {E : ex_E} {ins : Instr} {k : Int32} (hH : ex_Hyp l Ts Ns mt mp tsl ro sts) (hA : ex_AA l Ts Ns mt mp tsl ro sts n) (hM : mt mi = some M) (hM' : mt mi' = some M') (h : ex_cat M.2.2.2.2.2.1 x w2 rs = some E)
    {p : Program} {e : Env} {R : Room} {s : State} {m : MethodId} {args : Array Value} {below : List Frame} {meth : Method} {c : Code} {H : Heap} {locs : List Loc} {ls : Array Slot} {ad : Nat → Nat} {D : va_G} {cA : FieldType → ClassId} {z0 c0 s0 : Nat} {Q : State → Prop}
    (hi : ins = .invokevirtual idx ∨ ins = .invokestatic idx ∨ ins = .invokespecial idx) (hdec : decode M.2.1 pc = .ok (ins, 3)) (hk9 : k0 = 9) (hk : ex_cok Ts Ns mt mp M pc ins (k0 :: mi' :: np :: ci :: rs) k = true) (hC : ex_Cx p l R s m args meth c Ts M (d + 1)) (hF : ex_Fix D cA z0 ro sts Ns ad w s) (hR : ex_Rel D cA z0 ro ad w s H locs) (hL : ex_LR ad w.1.1.length M.2.2.1 lo ls)
    (hme : ex_me mt (ex_run ro mt n) d mi' as w = some (.inr x, w2)) (hoA : ∀ v ∈ as, ex_okv w.1.1.length v) (has : as.length = np) (hsum : (rest.map fun v => v.category).sum ≤ 8) (hrcv : k0 = 2 ∨ k0 = 3 ∨ k0 = 8 ∨ ex_rcv ro w ci as = true) (hc0 : c0 ≤ w.1.2.1) (hs0 : s0 ≤ w.1.2.2) (hRc : E.2.2.2.1.2.1 - c0 ≤ R.cells) (hRs : E.2.2.2.1.2.2 - s0 ≤ R.slots)
    (hsm : st.map (ex_cv ad) = as.reverse.map (ex_cv ad) ++ rest.map (ex_cv ad))
    (kk : ∀ (ad1 : Nat → Nat) (H1 : Heap) (locs1 : List Loc) (ls1 : Array Slot), ex_Rel D cA z0 ro ad1 E.2.2.2 s H1 locs1 → ex_agr ro sts ad ad1 w E.2.2.2 → ex_LR ad1 E.2.2.2.1.1.length M.2.2.1 E.2.1 ls1 → (∀ v ∈ E.2.2.1, ex_okv E.2.2.2.1.1.length v) → ex_lok Ts Ns mt mp tsl ro sts M E.1 = true →
      W p l e R s m args below meth c H1 locs1 (E.2.2.2.1.2.1 - c0) (E.2.2.2.1.2.2 - s0) Q (F0 m (ex_pc E.1) ls1 (E.2.2.1.map (ex_cv ad1)))) :
    W p l e R s m args below meth c H locs (w.1.2.1 - c0) (w.1.2.2 - s0) Q (F0 m pc ls (st.map (ex_cv ad))) := by
  subst hk9
  have hts := hC.2.2.2.2.1
  have hrv : ex_rcv ro w ci as = true := by
    rcases hrcv with h | h | h | h
    · omega
    · omega
    · omega
    · exact h
  obtain ⟨a, As, rfl, hsh, hca⟩ := ex_rcv_of hrv
  rcases hi with rfl | rfl | rfl
  · have hmok := hH.2.1 _ M' hM'
    simp only [ex_mok, Bool.and_eq_true, decide_eq_true_eq] at hmok
    obtain ⟨⟨⟨⟨⟨⟨⟨hmw, hpl⟩, hn1⟩, hn2⟩, hcl⟩, hnL⟩, -⟩, -⟩ := hmok
    have hq := ex_wds hH.2.2.2.2.1 hts hmw (hH.2.2.2.2.2.2.2.1 _ M' hM')
    obtain ⟨u1, u2, u3⟩ := ex_mw_st hmw
    have hk0 : mt ((9 :: mi' :: np :: ci :: rs).getD 1 0) = some M' := hM'
    simp only [ex_cok, hk0, Bool.and_eq_true, decide_eq_true_eq] at hk
    obtain ⟨⟨⟨hk1, hk2⟩, hk3⟩, hk4⟩ := hk
    obtain ⟨g1, g2, g3, g4⟩ := ex_cl_of hk1
    obtain ⟨q1, q2, q3⟩ := hq (by have g1 : (mp mi').getD 2 0 = 1 := g1; rw [g1]; decide)
    obtain ⟨i1, i2⟩ := u2 g1
    rw [if_pos (by simp), Bool.and_eq_true, decide_eq_true_eq] at hk4
    obtain ⟨hkp, hk4⟩ := hk4
    have hcode : Cond.code M'.1 M'.2.1 M'.2.2.1 M'.2.2.2.1 ∈ Ts := by rw [ex_cw, if_pos hk3] at q3; exact q3
    have hcw : Cond.code M'.1 M'.2.1 M'.2.2.1 M'.2.2.2.1 ∈ ex_wd Ts M' := by rw [ex_wd, ex_cw, if_pos hk3]; exact List.mem_cons_self
    have hci : ci < 10 ∨ 100 ≤ ci ∧ ci < 200 := hk2.2
    have hcell := ex_recv hF hR hsh hca (fun h => ⟨vwCl[ci]'(show ci < 10 by omega), List.getElem?_eq_getElem _⟩) (by omega)
    have hcn : M'.1.cls = ex_cn1 ci := hk2.1
    rw [← hcn] at hcell
    unfold ex_Lk at g4
    rw [if_neg (by simp)] at g4
    have hX := ex_throws (D := D) (cA := cA) (z0 := z0) (ad := ad) hH hA hM' hk3 hkp hme hoA hR.2.2.2.1 hR.2.2.2.2 hR.2.1
    have hpre : PreV s H M'.1.cls (ad a) (ex_Pc D cA z0 ro sts Ns ad w (.ref a :: As)) (As.map (ex_cv ad)) := ⟨ex_blind hH.2.2.2.2.2.1, hcell, (ex_PreS hH hF hR).2⟩
    have hnA : ∀ sig, parseMethodDescriptor M'.1.desc = some sig → (As.map (ex_cv ad)).length = sig.parameters.length := fun sig hs => by
      have h9 : np = sig.parameters.length + 1 := g3 sig hs
      rw [List.length_map]
      rw [List.length_cons] at has
      omega
    have hstk : st.map (ex_cv ad) = (As.map (ex_cv ad)).reverse ++ .ref (ad a) :: rest.map (ex_cv ad) := by
      rw [hsm, List.reverse_cons, List.map_append, List.map_reverse, List.append_assoc]; rfl
    obtain ⟨pre, q, suf, ra, rc, rr, e1, e2, -, e4, p1, p2, p3, p45, p6, p7, p8, p9, p10, p11, p12, p13, p14, p15, p16, p17⟩ := ex_hands _ _ _ h hk4
    have hle : ex_le w w2 := by
      obtain ⟨M9, -, -, row, L9, lo9, st9, w9, x1, x2⟩ := ex_me_of hme
      exact (ex_mono ro mt n _ _ _ _ _ _ _ x1).tr (ex_fin_mono x2)
    have hl1 := hle.1
    have hl2 := hle.2
    subst e2
    dsimp only at hRc hRs kk
    obtain ⟨pl1, pl2, pl3⟩ := p45
    obtain ⟨p4, p5⟩ := hH.2.2.2.2.2.2.2.2.2.2 x pl2
    rw [← pl3, ← pl1] at p4
    have hS : CallFix p m c M.2.1 M.2.2.1 s args Ts M.2.2.2.2.1 := ⟨hC.1, hC.2.1, hC.2.2.1, hC.2.2.2.1, hts⟩
    have hfr : (ex_rm d (w2.1.2.1 - w.1.2.1) (w2.1.2.2 - w.1.2.2)).frames + 1 ≤ R.frames := by have := hC.2.2.2.2.2.2.2.2.1; show d + 6 + 1 ≤ _; omega
    have hlo : 8 + (M'.2.2.1 + 11) + (ex_rm d (w2.1.2.1 - w.1.2.1) (w2.1.2.2 - w.1.2.2)).locals ≤ R.locals := by have := hC.2.2.2.2.2.2.2.2.2; show 8 + (M'.2.2.1 + 11) + (64 * d + 140) ≤ _; omega
    have hroom : ∀ (pc : Nat) (st : List Value), 2 * (F0 m pc ls st).monitorRoom + ((rest.map (ex_cv ad)).map fun v => v.category).sum ≤ 8 := fun pc st => lv_room (by rw [ex_catsum]; exact hsum)
    rw [hstk]
    refine ex_goX (vx_runV (n := (As.map (ex_cv ad)).length) hS hX ⟨⟨rfl, rfl, hfr, hlo, q1, hcw, hts _ hcode, q2, ⟨hn1, hn2⟩, hnA, hts _ g4⟩, hts _ i1, hts _ i2⟩ hpre rfl rfl hL.size rfl (hroom _ _) hdec ⟨by omega, by omega⟩) ?_
    intro q9 st₀ t L9 E9 ce h0 hx hL9 hce hcv hcl9
    obtain ⟨rfl, ⟨ad', hag, hP, hD, hin, hro⟩, hFr⟩ := hx
    obtain ⟨f1, f2, f3⟩ := vx_keep (T' := t) h0 rfl hR.2.2.1 (fun _ _ h => h) (fun _ h => h) hL9 hFr
    have hR' : ex_Rel D cA z0 ro ad' w2 s t.heap (locs ++ L9) := ⟨hP, hD, f3, hin, hro⟩
    have hrr : ex_lok Ts Ns mt mp tsl ro sts M [rr] = true := by
      obtain ⟨rp, rl, ri, rk⟩ := rr
      dsimp only at p9 p10 p11
      subst p10
      subst p11
      simp only [ex_lok, ex_rok, Bool.and_eq_true, decide_eq_true_eq]
      exact ⟨⟨p9, trivial⟩, trivial⟩
    have key : ∀ ls1 : Array Slot, lv_has ls1 M.2.2.1 [] → W p l e R s m args below meth c t.heap (locs ++ L9) (w2.1.2.1 - c0) (w2.1.2.2 - s0) Q (F0 m rr.1 ls1 [.int rc.2.2.2.2]) := fun ls1 hl => kk ad' t.heap (locs ++ L9) ls1 hR' hag ⟨Nat.zero_le _, hl, fun i v hv => by simp at hv⟩ (fun v hv => by
      rcases List.mem_cons.mp hv with rfl | hv
      · exact trivial
      · cases hv) hrr
    have e9 : w.1.2.1 - c0 + (w2.1.2.1 - w.1.2.1) = w2.1.2.1 - c0 := by omega
    have e10 : w.1.2.2 - s0 + (w2.1.2.2 - w.1.2.2) = w2.1.2.2 - s0 := by omega
    rw [e9, e10]
    refine vx_catch (own := M.2.2.2.2.1) (name := ex_en x) (E := ex_en x) hC.2.2.2.1 (tableOf pre) ⟨q.1, q.2.1, q.2.2.1, q.2.2.2⟩ (tableOf suf) (by rw [hC.2.2.2.2.2.2.2.1, e1]; simp [tableOf]) (fun z hz => ?_) (by simp [covers, p1, p2]) p3 (hts _ p4) (va_Nw.use rfl (hF.2.2.2.2.1 _ p5)) hce hcv hcl9 ?_
    · obtain ⟨z', hz', rfl⟩ := List.mem_map.mp hz
      obtain ⟨y1, y2, y3, y4⟩ := e4 z' hz'
      exact Or.inr ⟨y1, ex_en 1, by
        have h9 := (hH.2.2.2.2.2.2.2.2.2.2 1 (by omega)).1
        rw [← y4, ← y3] at h9
        exact hts _ h9, by rw [y2]; exact hF.2.2.2.2.2.2.2.1⟩
    · show W p l e R s m args below meth c t.heap (locs ++ L9) (w2.1.2.1 - c0) (w2.1.2.2 - s0) Q (F0 m q.2.2.1 ls [.ref q9])
      obtain ⟨ic, hic⟩ := p17
      rw [hic] at p8 p15
      simp only [ex_kok, Bool.and_eq_true, decide_eq_true_eq] at p15
      have fin : ∀ ls1 : Array Slot, lv_has ls1 M.2.2.1 [] → W p l e R s m args below meth c t.heap (locs ++ L9) (w2.1.2.1 - c0) (w2.1.2.2 - s0) Q (F0 m rc.1 ls1 []) := fun ls1 hl => by
        have := key ls1 hl
        rw [p13, p15.2] at this
        rw [p15.2] at p8
        exact lv_iconst hC.1 hC.2.1 p8 p15.1 this
      rcases p16 with ⟨ia, hia, hib⟩ | ⟨ia, hia, hib⟩
      · rw [hia] at p7 p14
        simp only [ex_kok, decide_eq_true_eq] at p14
        rw [p14, p6] at p7
        rw [p14, p6] at p12
        rw [p12] at fin
        exact lv_astore_n hC.1 hC.2.1 p7 rfl hL.2.1 hib rfl (fun ls' hl' => fin ls' (lv_sub hl' [] rfl))
      · rw [hia] at p7 p14
        simp only [ex_kok, decide_eq_true_eq] at p14
        rw [p14, p6] at p7
        rw [p14, p6] at p12
        rw [p12] at fin
        exact lv_astore hC.1 hC.2.1 p7 hL.2.1 hib rfl (fun ls' hl' => fin ls' (lv_sub hl' [] rfl))
  · exfalso
    have hk0 : mt ((9 :: mi' :: np :: ci :: rs).getD 1 0) = some M' := hM'
    rw [ex_cok, if_neg (by simp)] at hk
    simp only [hk0, Bool.and_eq_true] at hk
    have := (ex_cl_of hk.1).2.1
    simp at this
  · exfalso
    have hk0 : mt ((9 :: mi' :: np :: ci :: rs).getD 1 0) = some M' := hM'
    rw [ex_cok, if_neg (by simp)] at hk
    simp only [hk0, Bool.and_eq_true] at hk
    have := (ex_cl_of hk.1.1).2.1
    simp at this
set_option maxHeartbeats 8000000 in
/-- a call of any kind -/
theorem ex_inv_ok {n d mi pc idx : Nat} {M : ex_M} {L : List ex_R} {lo : ex_Lo} {st : List Value} {w : ex_W} {E : ex_E} {ins : Instr} {r : List Nat} {k : Int32} (hH : ex_Hyp l Ts Ns mt mp tsl ro sts) (hA : ex_AA l Ts Ns mt mp tsl ro sts n) (hM : mt mi = some M) (h : ex_inv ro mt (ex_run ro mt n) d M.2.2.2.2.2.1 r L lo st w = some E) (hlok : ex_lok Ts Ns mt mp tsl ro sts M L = true)
    {p : Program} {e : Env} {R : Room} {s : State} {m : MethodId} {args : Array Value} {below : List Frame} {meth : Method} {c : Code} {H : Heap} {locs : List Loc} {ls : Array Slot} {ad : Nat → Nat} {D : va_G} {cA : FieldType → ClassId} {z0 c0 s0 : Nat} {Q : State → Prop}
    (hi : ins = .invokevirtual idx ∨ ins = .invokestatic idx ∨ ins = .invokespecial idx) (hdec : decode M.2.1 pc = .ok (ins, 3)) (hpc : ex_pc L = pc + 3) (hk : ex_cok Ts Ns mt mp M pc ins r k = true) (hC : ex_Cx p l R s m args meth c Ts M d) (hF : ex_Fix D cA z0 ro sts Ns ad w s) (hR : ex_Rel D cA z0 ro ad w s H locs) (hL : ex_LR ad w.1.1.length M.2.2.1 lo ls) (hn : ex_nod lo) (ho : ∀ v ∈ st, ex_okv w.1.1.length v) (hc0 : c0 ≤ w.1.2.1) (hs0 : s0 ≤ w.1.2.2) (hRc : E.2.2.2.1.2.1 - c0 ≤ R.cells) (hRs : E.2.2.2.1.2.2 - s0 ≤ R.slots)
    (kk : ∀ (ad1 : Nat → Nat) (H1 : Heap) (locs1 : List Loc) (ls1 : Array Slot), ex_Rel D cA z0 ro ad1 E.2.2.2 s H1 locs1 → ex_agr ro sts ad ad1 w E.2.2.2 → ex_LR ad1 E.2.2.2.1.1.length M.2.2.1 E.2.1 ls1 → (∀ v ∈ E.2.2.1, ex_okv E.2.2.2.1.1.length v) → ex_lok Ts Ns mt mp tsl ro sts M E.1 = true →
      W p l e R s m args below meth c H1 locs1 (E.2.2.2.1.2.1 - c0) (E.2.2.2.1.2.2 - s0) Q (F0 m (ex_pc E.1) ls1 (E.2.2.1.map (ex_cv ad1)))) :
    W p l e R s m args below meth c H locs (w.1.2.1 - c0) (w.1.2.2 - s0) Q (F0 m pc ls (st.map (ex_cv ad))) := by
  have hts := hC.2.2.2.2.1
  unfold ex_inv at h
  split at h
  · next r' =>
    split at h
    · next a st1 =>
      split at h
      · next hsum =>
        rcases hi with rfl | rfl | rfl
        · exfalso
          simp only [ex_cok] at hk
          split at hk
          · simp only [Bool.and_eq_true] at hk
            have := (ex_cl_of hk.1.1.1).2.1
            simp at this
          · cases hk
        · exfalso
          rw [ex_cok, if_neg (by simp)] at hk
          split at hk
          · simp only [Bool.and_eq_true] at hk
            have := (ex_cl_of hk.1).2.1
            simp at this
          · cases hk
        · rw [ex_cok, if_pos (by simp)] at hk
          have hk := of_decide_eq_true hk
          have hob := hH.2.2.2.2.2.2.2.2.1
          refine W.objInit hC.1 hC.2.1 hC.2.2.2.1 (hts _ (List.mem_of_getElem? hk)) (hts _ hob.1) (hts _ hob.2) rfl (hL.size.trans hC.2.2.1.symm) rfl hdec (by have := hC.2.2.2.2.2.2.2.2.1; omega) ?_ ?_
          · have h9 : 2 * (F0 m pc ls ((Value.ref a :: st1).map (ex_cv ad))).monitorRoom + ((st1.map (ex_cv ad)).map fun v => v.category).sum ≤ 8 := lv_room (by rw [ex_catsum]; exact hsum)
            have := hC.2.2.2.2.2.2.2.2.2
            omega
          · have key := hA d mi M L lo st1 w E hM h hlok p e R s m args below meth c H locs ls ad D cA z0 c0 s0 Q hC hF hR hL hn (ex_tl ho) hc0 hs0 hRc hRs kk
            rw [hpc] at key
            exact key
      · cases h
    · cases h
  · next r' =>
    split at h
    · next n' dp b sp a st1 =>
      split at h
      · next n0 hsa =>
        split at h
        · next n1 hsb =>
          split at h
          · next hcd =>
            obtain ⟨⟨hrb, hsum⟩, h1, h2, h3, h4, h5⟩ := hcd
            rcases hi with rfl | rfl | rfl
            · exfalso
              simp only [ex_cok] at hk
              split at hk
              · simp only [Bool.and_eq_true] at hk
                have := (ex_cl_of hk.1.1.1).2.1
                simp at this
              · cases hk
            · rw [ex_cok, if_pos (by simp)] at hk
              have k1 := of_decide_eq_true hk
              obtain ⟨k2, k3, k4⟩ := hH.2.2.2.2.2.2.2.2.2.1
              have fin : ∀ (H1 : Heap) (locs1 : List Loc), va_P D vwCl ((ex_ws cA ro ad w).set (b - ro) (ad b, .inl (cA .int, n1, .inl (va_cpy (w.2.1 a) (w.2.1 b) sp.toNatClampNeg dp.toNatClampNeg n'.toNatClampNeg)))) H1 → va_D (fun q => z0 ≤ q) ((ex_ws cA ro ad w).set (b - ro) (ad b, .inl (cA .int, n1, .inl (va_cpy (w.2.1 a) (w.2.1 b) sp.toNatClampNeg dp.toNatClampNeg n'.toNatClampNeg)))) → va_S (fun q => z0 ≤ q) s.heap H1 locs1 → W p l e R s m args below meth c H1 locs1 (w.1.2.1 - c0) (w.1.2.2 - s0) Q (F0 m (pc + 3) ls (st1.map (ex_cv ad))) := by
                intro H1 locs1 hP hD hS
                obtain ⟨w', hw⟩ : ∃ w', w' = (w.1, ex_set w.2.1 b (va_cpy (w.2.1 a) (w.2.1 b) sp.toNatClampNeg dp.toNatClampNeg n'.toNatClampNeg), w.2.2.1, w.2.2.2) := ⟨_, rfl⟩
                have ec : ex_cell cA ad w' b (.inr (.int, n1)) = .inl (cA .int, n1, .inl (va_cpy (w.2.1 a) (w.2.1 b) sp.toNatClampNeg dp.toNatClampNeg n'.toNatClampNeg)) := by
                  rw [hw]; show Sum.inl (cA .int, n1, Sum.inl (ex_set _ b _ b)) = _; rw [ex_set_eq]
                rw [← ec] at hP hD
                obtain ⟨g1, g2⟩ := ex_h_upd (sts := sts) hR hsb hrb (by rw [hw]) (fun i hi => by rw [hw]; exact ⟨ex_set_ne hi, rfl, rfl⟩) (fun k r hk => hR.2.2.2.1 b k r (by rw [hw] at hk; exact hk)) hP hD hS
                rw [← hw] at h
                have ew : w'.1 = w.1 := by rw [hw]
                have key := hA d mi M L lo st1 w' E hM h hlok p e R s m args below meth c H1 locs1 ls ad D cA z0 c0 s0 Q hC (hF.agr g2 hR.2.2.2.1 hR.2.2.2.2 hH.2.2.2.1) g1 (hL.same g2.2.2 (fun _ _ => rfl)) hn (fun v hv => (ex_tl (ex_tl (ex_tl (ex_tl (ex_tl ho)))) v hv).mono g2.2.2) (by rw [ew]; exact hc0) (by rw [ew]; exact hs0) hRc hRs (fun ad1 H1 locs1 ls1 k1 k2 k3 k4 k5 => kk ad1 H1 locs1 ls1 k1 (g2.tr k2) k3 k4 k5)
                rw [hpc, ew] at key
                exact key
              have hfr : 1 ≤ R.frames := by have := hC.2.2.2.2.2.2.2.2.1; omega
              have hlo : ((st1.map (ex_cv ad)).map fun v => v.category).sum + (nativeFrameWords "java/lang/System" "arraycopy" 5 + 11) ≤ R.locals := by
                have e9 : nativeFrameWords "java/lang/System" "arraycopy" 5 = 7 := by decide
                have := hC.2.2.2.2.2.2.2.2.2
                rw [ex_catsum, e9]; omega
              have hml : c.maxLocals = ls.size := hC.2.2.1.trans hL.size.symm
              rcases Nat.lt_or_ge a ro with har | har
              · exact ex_copyRO hC.1 hC.2.1 hml hC.2.2.2.1 (hts _ (List.mem_of_getElem? k1)) (hts _ k2) (hts _ k3) (hts _ k4) hF.1 hR.1 hR.2.1 hR.2.2.1 (hF.2.2.1 a _ har hsa) _ 0 (ex_ws_get (cA := cA) (ad := ad) hsb hrb) rfl h1 h2 h3 h4 h5 hfr hlo hdec fin
              · exact va_copyi hC.1 hC.2.1 hml hC.2.2.2.1 (hts _ (List.mem_of_getElem? k1)) (hts _ k2) (hts _ k3) (hts _ k4) hF.1 hR.1 hR.2.1 hR.2.2.1 _ _ 0 0 (ex_ws_get (cA := cA) (ad := ad) hsa har) (ex_ws_get (cA := cA) (ad := ad) hsb hrb) rfl rfl rfl h1 h2 h3 h4 h5 (fun _ _ => rfl) hfr hlo hdec fin
            · exfalso
              rw [ex_cok, if_neg (by simp)] at hk
              split at hk
              · simp only [Bool.and_eq_true] at hk
                have := (ex_cl_of hk.1.1).2.1
                simp at this
              · cases hk
          · cases h
        · cases h
      · cases h
    · cases h
  · next k0 mi' np ci rs n6 n7 =>
    split at h
    · cases h
    · next d' =>
      split at h
      · next hcd =>
        obtain ⟨⟨hnp, hsum⟩, hrcv⟩ := hcd
        have hst : st = (st.take np).reverse.reverse ++ st.drop np := by rw [List.reverse_reverse, List.take_append_drop]
        have hsm : st.map (ex_cv ad) = (st.take np).reverse.reverse.map (ex_cv ad) ++ (st.drop np).map (ex_cv ad) := by rw [← List.map_append, ← hst]
        have hoA : ∀ v ∈ (st.take np).reverse, ex_okv w.1.1.length v := fun v hv => ho v (List.mem_of_mem_take (List.mem_reverse.mp hv))
        have hoR : ∀ v ∈ st.drop np, ex_okv w.1.1.length v := fun v hv => ho v (List.mem_of_mem_drop hv)
        have hlen : (st.take np).reverse.length = np := by rw [List.length_reverse, List.length_take]; omega
        have hk6 : (k0 :: mi' :: np :: ci :: rs).getD 0 0 ≠ 6 ∧ (k0 :: mi' :: np :: ci :: rs).getD 0 0 ≠ 7 := ⟨fun q => n6 q, fun q => n7 q⟩
        -- a call that returns
        have good : ∀ (M' : ex_M) (v : Option Value) (w2 : ex_W), mt mi' = some M' → ex_me mt (ex_run ro mt n) d' mi' (st.take np).reverse w = some (.inl v, w2) → ex_ret (ex_run ro mt n) (d' + 1) M.2.2.2.2.2.1 L lo (st.drop np) (some (.inl v, w2)) = some E → W p l e R s m args below meth c H locs (w.1.2.1 - c0) (w.1.2.2 - s0) Q (F0 m pc ls (st.map (ex_cv ad))) := by
          intro M' v w2 hM' hme hret
          rw [ex_ret_eq] at hret
          have hmm := ex_mono ro mt n _ _ _ _ _ _ _ hret
          have hle : ex_le w w2 := by
            obtain ⟨M9, -, -, row, L9, lo9, st9, w9, x1, x2⟩ := ex_me_of hme
            exact (ex_mono ro mt n _ _ _ _ _ _ _ x1).tr (ex_fin_mono x2)
          have hm1 := hmm.1
          have hm2 := hmm.2
          have hl1 := hle.1
          have hl2 := hle.2
          have vr := ex_vrun (mi := 0) (below := below) (e := e) (cells := w.1.2.1 - c0) (slots := w.1.2.2 - s0) (rest := st.drop np) hH hA (r := k0 :: mi' :: np :: ci :: rs) hM' hC hF hR hL.size hi hdec hk6 hk hme hoA hlen hsum hrcv (by omega) (by omega)
          rw [← hsm] at vr
          exact ex_after hH hA hM hret hlok hle hpc hC hF hR hL hn hoR hc0 hs0 hRc hRs vr kk
        have some_M : ∀ x, ex_me mt (ex_run ro mt n) d' mi' (st.take np).reverse w = some x → ∃ M', mt mi' = some M' := fun x hx => by
          obtain ⟨M', h1, -⟩ := ex_me_of hx
          exact ⟨M', h1⟩
        split at h
        · next hk9 =>
          unfold ex_retC at h
          split at h
          · next x w2 hme =>
            obtain ⟨M', hM'⟩ := some_M _ hme
            exact ex_catch hH hA hM hM' h hi hdec hk9 hk hC hF hR hL hme hoA hlen hsum hrcv hc0 hs0 hRc hRs hsm kk
          · next hnx =>
            cases hme : ex_me mt (ex_run ro mt n) d' mi' (st.take np).reverse w with
            | none => rw [hme] at h; cases h
            | some y =>
              obtain ⟨y, w2⟩ := y
              cases y with
              | inr x => exact absurd hme (hnx x w2)
              | inl v =>
                obtain ⟨M', hM'⟩ := some_M _ hme
                rw [hme] at h
                exact good M' v w2 hM' hme h
        · cases hme : ex_me mt (ex_run ro mt n) d' mi' (st.take np).reverse w with
          | none => rw [hme] at h; cases h
          | some y =>
            obtain ⟨y, w2⟩ := y
            cases y with
            | inr x => rw [hme] at h; cases h
            | inl v =>
              obtain ⟨M', hM'⟩ := some_M _ hme
              rw [hme] at h
              exact good M' v w2 hM' hme h
      · cases h
  · cases h
set_option maxHeartbeats 8000000 in
theorem ex_all (hH : ex_Hyp l Ts Ns mt mp tsl ro sts) : ∀ n, ex_AA l Ts Ns mt mp tsl ro sts n
  | 0 => fun d mi M L lo st w E hM h => by cases h
  | n + 1 => by
    have ih := ex_all hH n
    intro d mi M L lo st w E hM h hlok p e R s m args below meth c H locs ls ad D cA z0 c0 s0 Q hC hF hR hL hn ho hc0 hs0 hRc hRs kk
    have hmok := hH.2.1 mi M hM
    simp only [ex_mok, Bool.and_eq_true, decide_eq_true_eq] at hmok
    obtain ⟨-, hall⟩ := hmok
    replace h : ex_body ro mt (ex_run ro mt n) d M.2.2.2.2.2.1 L lo st w = some E := h
    -- going on with the same world
    have goOn : ∀ (L' : List ex_R) (lo' : ex_Lo) (st' : List Value) (ls' : Array Slot), ex_run ro mt n d M.2.2.2.2.2.1 L' lo' st' w = some E → ex_lok Ts Ns mt mp tsl ro sts M L' = true → ex_LR ad w.1.1.length M.2.2.1 lo' ls' → ex_nod lo' → (∀ v ∈ st', ex_okv w.1.1.length v) → W p l e R s m args below meth c H locs (w.1.2.1 - c0) (w.1.2.2 - s0) Q (F0 m (ex_pc L') ls' (st'.map (ex_cv ad))) := fun L' lo' st' ls' h1 h2 h3 h4 h5 =>
      ih d mi M L' lo' st' w E hM h1 h2 p e R s m args below meth c H locs ls' ad D cA z0 c0 s0 Q hC hF hR h3 h4 h5 hc0 hs0 hRc hRs kk
    -- with another world
    have goW : ∀ (L' : List ex_R) (st' : List Value) (w' : ex_W) (ad' : Nat → Nat) (H' : Heap) (locs' : List Loc), ex_run ro mt n d M.2.2.2.2.2.1 L' lo st' w' = some E → ex_lok Ts Ns mt mp tsl ro sts M L' = true → ex_le w w' → ex_Rel D cA z0 ro ad' w' s H' locs' → ex_agr ro sts ad ad' w w' → (∀ v ∈ st', ex_okv w'.1.1.length v) → W p l e R s m args below meth c H' locs' (w'.1.2.1 - c0) (w'.1.2.2 - s0) Q (F0 m (ex_pc L') ls (st'.map (ex_cv ad'))) := fun L' st' w' ad' H' locs' h1 h2 h3 h4 h5 h6 =>
      ih d mi M L' lo st' w' E hM h1 h2 p e R s m args below meth c H' locs' ls ad' D cA z0 c0 s0 Q hC (hF.agr h5 hR.2.2.2.1 hR.2.2.2.2 hH.2.2.2.1) h4 (hL.same h5.2.2 (fun i hi => (h5.1 i hi).1)) hn h6 (Nat.le_trans hc0 h3.1) (Nat.le_trans hs0 h3.2) hRc hRs (fun ad1 H1 locs1 ls1 k1 k2 k3 k4 k5 => kk ad1 H1 locs1 ls1 k1 (h5.tr k2) k3 k4 k5)
    have hblk := ex_blk hall
    cases L with
    | nil => cases h
    | cons row L =>
      obtain ⟨pc, len, ins, r, k⟩ := row
      have hlok0 := hlok
      rw [ex_lok, Bool.and_eq_true] at hlok
      obtain ⟨hrow, hlL⟩ := hlok
      rw [ex_rok, Bool.and_eq_true] at hrow
      obtain ⟨hdec, hrow⟩ := hrow
      replace hdec := of_decide_eq_true hdec
      have heapC : ∀ ins', ex_hok Ts Ns M.2.2.2.2.1 (M.1.name == "<init>") ro sts ins' len r k = true → ex_ftl (pc + len) L = true → decode M.2.1 pc = .ok (ins', len) → (match ex_heap ro ins' r k st w with
          | some (st, w) => ex_run ro mt n d M.2.2.2.2.2.1 L lo st w
          | none => none) = some E → W p l e R s m args below meth c H locs (w.1.2.1 - c0) (w.1.2.2 - s0) Q (F0 m pc ls (st.map (ex_cv ad))) := by
        intro ins' hk hft hd h
        split at h
        · next st' w' hh =>
          have hm := ex_mono ro mt n _ _ _ _ _ _ _ h
          exact ex_heap_ok hC.1 hC.2.1 hC.2.2.2.1 hC.2.2.2.2.2.2.1 hC.2.2.2.2.1 hH.2.2.1 hH.2.2.2.1 hF hR hh hk hd ho hc0 hs0 (Nat.le_trans (Nat.sub_le_sub_right hm.1 _) hRc) (Nat.le_trans (Nat.sub_le_sub_right hm.2 _) hRs) (fun ad' H1 locs1 k1 k2 k3 => by
            rw [← ex_ftl_pc hft h]; exact goW L st' w' ad' H1 locs1 h hlL (ex_heap_mono hh) k1 k2 k3)
        · cases h
      have dflt : ∀ ins', ((if ex_isp ins' then ex_kok ins' k len else ex_hok Ts Ns M.2.2.2.2.1 (M.1.name == "<init>") ro sts ins' len r k) && ex_ftl (pc + len) L) = true → decode M.2.1 pc = .ok (ins', len) → (match ex_pure ins' k lo st with
          | some (lo, st) => ex_run ro mt n d M.2.2.2.2.2.1 L lo st w
          | none => match ex_heap ro ins' r k st w with
            | some (st, w) => ex_run ro mt n d M.2.2.2.2.2.1 L lo st w
            | none => none) = some E → W p l e R s m args below meth c H locs (w.1.2.1 - c0) (w.1.2.2 - s0) Q (F0 m pc ls (st.map (ex_cv ad))) := by
        intro ins' hk hd h
        rw [Bool.and_eq_true] at hk
        obtain ⟨hk, hft⟩ := hk
        split at h
        · next lo' st' hp =>
          rw [if_pos (ex_isp_of hp)] at hk
          exact ex_pure_ok hC.1 hC.2.1 hp hd hk hL hn ho (fun ls' l1 l2 l3 => by rw [← ex_ftl_pc hft h]; exact goOn L lo' st' ls' h hlL l1 l2 l3)
        · by_cases hi : ex_isp ins' = true
          · exfalso
            split at h
            · next hh => rw [ex_isp_not hh] at hi; cases hi
            · cases h
          · rw [if_neg hi] at hk
            exact heapC ins' hk hft hd h
      show W p l e R s m args below meth c H locs (w.1.2.1 - c0) (w.1.2.2 - s0) Q (F0 m pc ls (st.map (ex_cv ad)))
      unfold ex_body at h
      cases ins with
      | goto off =>
        dsimp only at h hrow
        simp only [Bool.and_eq_true, decide_eq_true_eq] at hrow
        obtain ⟨rfl, hj⟩ := hrow
        exact lv_goto hC.1 hC.2.1 hdec (ex_jmp_pc hj) (goOn _ lo st ls h (hblk _) hL hn ho)
      | ifCond cnd off =>
        dsimp only at h hrow
        simp only [Bool.and_eq_true, decide_eq_true_eq] at hrow
        obtain ⟨⟨rfl, hj⟩, hft⟩ := hrow
        have ht := ex_jmp_pc hj
        have hft := ex_ft_pc hft
        split at h
        · next x st1 =>
          have gj : ex_run ro mt n d M.2.2.2.2.2.1 (M.2.2.2.2.2.1.getD (r.getD 0 0) []) lo st1 w = some E → W p l e R s m args below meth c H locs (w.1.2.1 - c0) (w.1.2.2 - s0) Q (F0 m (ex_pc (M.2.2.2.2.2.1.getD (r.getD 0 0) [])) ls (st1.map (ex_cv ad))) := fun h => goOn _ lo st1 ls h (hblk _) hL hn (ex_tl ho)
          have gf : ex_run ro mt n d M.2.2.2.2.2.1 L lo st1 w = some E → W p l e R s m args below meth c H locs (w.1.2.1 - c0) (w.1.2.2 - s0) Q (F0 m (pc + 3) ls (st1.map (ex_cv ad))) := fun h => by rw [← hft]; exact goOn L lo st1 ls h hlL hL hn (ex_tl ho)
          cases cnd with
          | eq => exact lv_if_eq hC.1 hC.2.1 hdec ht (fun q => gj (by rw [ex_if, if_pos q] at h; exact h)) (fun q => gf (by rw [ex_if, if_neg q] at h; exact h))
          | ne => exact lv_if_ne hC.1 hC.2.1 hdec ht (fun q => gj (by rw [ex_if, if_neg q] at h; exact h)) (fun q => gf (by rw [ex_if, if_pos q] at h; exact h))
          | lt => exact lv_if_lt hC.1 hC.2.1 hdec ht (fun q => gj (by rw [ex_if, if_pos q] at h; exact h)) (fun q => gf (by rw [ex_if, if_neg q] at h; exact h))
          | ge => exact lv_if_ge hC.1 hC.2.1 hdec ht (fun q => gj (by rw [ex_if, if_neg (Int32.not_lt.mpr q)] at h; exact h)) (fun q => gf (by rw [ex_if, if_pos (Int32.not_le.mp q)] at h; exact h))
          | gt => exact lv_if_gt hC.1 hC.2.1 hdec ht (fun q => gj (by rw [ex_if, if_pos q] at h; exact h)) (fun q => gf (by rw [ex_if, if_neg q] at h; exact h))
          | le => exact lv_if_le hC.1 hC.2.1 hdec ht (fun q => gj (by rw [ex_if, if_neg (Int32.not_lt.mpr q)] at h; exact h)) (fun q => gf (by rw [ex_if, if_pos (Int32.not_le.mp q)] at h; exact h))
        · cases h
      | if_icmp cnd off =>
        dsimp only at h hrow
        simp only [Bool.and_eq_true, decide_eq_true_eq] at hrow
        obtain ⟨⟨rfl, hj⟩, hft⟩ := hrow
        have ht := ex_jmp_pc hj
        have hft := ex_ft_pc hft
        split at h
        · next y x st1 =>
          have gj : ex_run ro mt n d M.2.2.2.2.2.1 (M.2.2.2.2.2.1.getD (r.getD 0 0) []) lo st1 w = some E → W p l e R s m args below meth c H locs (w.1.2.1 - c0) (w.1.2.2 - s0) Q (F0 m (ex_pc (M.2.2.2.2.2.1.getD (r.getD 0 0) [])) ls (st1.map (ex_cv ad))) := fun h => goOn _ lo st1 ls h (hblk _) hL hn (ex_tl (ex_tl ho))
          have gf : ex_run ro mt n d M.2.2.2.2.2.1 L lo st1 w = some E → W p l e R s m args below meth c H locs (w.1.2.1 - c0) (w.1.2.2 - s0) Q (F0 m (pc + 3) ls (st1.map (ex_cv ad))) := fun h => by rw [← hft]; exact goOn L lo st1 ls h hlL hL hn (ex_tl (ex_tl ho))
          cases cnd with
          | eq => exact lv_icmp_eq hC.1 hC.2.1 hdec ht (fun q => gj (by rw [ex_if, if_pos q] at h; exact h)) (fun q => gf (by rw [ex_if, if_neg q] at h; exact h))
          | ne => exact lv_icmp_ne hC.1 hC.2.1 hdec ht (fun q => gj (by rw [ex_if, if_neg q] at h; exact h)) (fun q => gf (by rw [ex_if, if_pos q] at h; exact h))
          | lt => exact lv_icmp_lt hC.1 hC.2.1 hdec ht (fun q => gj (by rw [ex_if, if_pos q] at h; exact h)) (fun q => gf (by rw [ex_if, if_neg q] at h; exact h))
          | ge => exact lv_icmp_ge hC.1 hC.2.1 hdec ht (fun q => gj (by rw [ex_if, if_neg (Int32.not_lt.mpr q)] at h; exact h)) (fun q => gf (by rw [ex_if, if_pos (Int32.not_le.mp q)] at h; exact h))
          | gt => exact lv_icmp_gt hC.1 hC.2.1 hdec ht (fun q => gj (by rw [ex_if, if_pos q] at h; exact h)) (fun q => gf (by rw [ex_if, if_neg q] at h; exact h))
          | le => exact lv_icmp_le hC.1 hC.2.1 hdec ht (fun q => gj (by rw [ex_if, if_neg (Int32.not_lt.mpr q)] at h; exact h)) (fun q => gf (by rw [ex_if, if_pos (Int32.not_le.mp q)] at h; exact h))
        · cases h
      | if_acmp cnd off =>
        dsimp only at h hrow
        simp only [Bool.and_eq_true, decide_eq_true_eq] at hrow
        obtain ⟨⟨rfl, hj⟩, hft⟩ := hrow
        have ht := ex_jmp_pc hj
        have hft := ex_ft_pc hft
        split at h
        · next y x st1 =>
          have gj : ex_run ro mt n d M.2.2.2.2.2.1 (M.2.2.2.2.2.1.getD (r.getD 0 0) []) lo st1 w = some E → W p l e R s m args below meth c H locs (w.1.2.1 - c0) (w.1.2.2 - s0) Q (F0 m (ex_pc (M.2.2.2.2.2.1.getD (r.getD 0 0) [])) ls (st1.map (ex_cv ad))) := fun h => goOn _ lo st1 ls h (hblk _) hL hn (ex_tl (ex_tl ho))
          have gf : ex_run ro mt n d M.2.2.2.2.2.1 L lo st1 w = some E → W p l e R s m args below meth c H locs (w.1.2.1 - c0) (w.1.2.2 - s0) Q (F0 m (pc + 3) ls (st1.map (ex_cv ad))) := fun h => by rw [← hft]; exact goOn L lo st1 ls h hlL hL hn (ex_tl (ex_tl ho))
          split at h
          case isFalse => cases h
          next hw =>
          have hinj : ∀ q : some (ad x) = some (ad y), x = y := fun q => by
            obtain ⟨a1, a2⟩ := ex_isw_of hw.1
            obtain ⟨b1, b2⟩ := ex_isw_of hw.2
            exact hF.2.2.2.2.2.2.2.2 x y a1 b1 a2 b2 (Option.some.inj q)
          cases cnd with
          | eq => exact lv_acmp_eq (rx := some (ad x)) (ry := some (ad y)) hC.1 hC.2.1 hdec ht (fun q => gj (by dsimp only at h; rw [if_pos (hinj q)] at h; exact h)) (fun q => gf (by dsimp only at h; rw [if_neg (fun z => q (by rw [z]))] at h; exact h))
          | ne => exact lv_acmp_ne (rx := some (ad x)) (ry := some (ad y)) hC.1 hC.2.1 hdec ht (fun q => gj (by dsimp only at h; rw [if_neg (fun z => q (by rw [z]))] at h; exact h)) (fun q => gf (by dsimp only at h; rw [if_pos (hinj q)] at h; exact h))
        · cases h
      | tableswitch df lw hg offs =>
        dsimp only at h hrow
        simp only [Bool.and_eq_true] at hrow
        obtain ⟨hj, hjs⟩ := hrow
        split at h
        · next x st1 =>
          split at h
          · next hx => exact lv_tableOut hC.1 hC.2.1 hdec hx (ex_jmp_pc hj) (goOn _ lo st1 ls h (hblk _) hL hn (ex_tl ho))
          · next hx =>
            have h1 : ¬ x.toInt < lw := fun q => hx (Or.inl q)
            have h2 : ¬ hg < x.toInt := fun q => hx (Or.inr q)
            have hi : (x.toInt - lw).toNat < (hg - lw + 1).toNat := by omega
            have hj2 := List.all_eq_true.mp hjs _ (List.mem_range.mpr hi)
            split at hj2
            · next off hoff => exact lv_tableIn hC.1 hC.2.1 hdec h1 h2 hoff (ex_jmp_pc hj2) (goOn _ lo st1 ls h (hblk _) hL hn (ex_tl ho))
            · cases hj2
        · cases h
      | ireturn => cases h; exact kk ad H locs ls hR ex_agr.rf hL ho hlok0
      | lreturn => cases h; exact kk ad H locs ls hR ex_agr.rf hL ho hlok0
      | return_ => cases h; exact kk ad H locs ls hR ex_agr.rf hL ho hlok0
      | new i =>
        dsimp only at h hrow
        by_cases hr : r.getD 0 0 = 1
        · split at h
          · cases h; exact kk ad H locs ls hR ex_agr.rf hL ho hlok0
          · next hne => exact absurd hr hne
        · rw [if_neg hr, Bool.and_eq_true] at hrow
          split at h
          · next hr1 => exact absurd hr1 hr
          · exact heapC _ hrow.1 hrow.2 hdec h
      | invokevirtual i =>
        dsimp only at h hrow
        simp only [Bool.and_eq_true, decide_eq_true_eq] at hrow
        obtain ⟨⟨rfl, hft⟩, hck⟩ := hrow
        exact ex_inv_ok hH ih hM h hlL (Or.inl rfl) hdec (ex_ft_pc hft) hck hC hF hR hL hn ho hc0 hs0 hRc hRs kk
      | invokestatic i =>
        dsimp only at h hrow
        simp only [Bool.and_eq_true, decide_eq_true_eq] at hrow
        obtain ⟨⟨rfl, hft⟩, hck⟩ := hrow
        exact ex_inv_ok hH ih hM h hlL (Or.inr (Or.inl rfl)) hdec (ex_ft_pc hft) hck hC hF hR hL hn ho hc0 hs0 hRc hRs kk
      | invokespecial i =>
        dsimp only at h hrow
        simp only [Bool.and_eq_true, decide_eq_true_eq] at hrow
        obtain ⟨⟨rfl, hft⟩, hck⟩ := hrow
        exact ex_inv_ok hH ih hM h hlL (Or.inr (Or.inr rfl)) hdec (ex_ft_pc hft) hck hC hF hR hL hn ho hc0 hs0 hRc hRs kk
      | _ => exact dflt _ hrow hdec h
end EXI
end
