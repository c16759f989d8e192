section
-- ===== PART A: goes FIRST, ahead of the names: the tables' words, and 'selects' of the private methods out of them =====
/-- a private method of a class that the tables say can be made, by its rows of tables_1 -/
def lw_okq (q : MethodName × Nat) : Prop := (q.1.cls ≠ "java/lang/invoke/MethodHandle" ∧ q.1.cls ≠ "java/lang/invoke/VarHandle") ∧ Cond.instantiable q.1.cls q.2 ∈ tables_1 ∧ Cond.privateMethod q.1 ∈ tables_1 ∧ Cond.instanceMethod q.1 ∈ tables_1
theorem lw_p0 : lw_okq (⟨"WhyNotJoin", "settle", "(I)I"⟩, 6) := ⟨⟨by decide +kernel, by decide +kernel⟩, List.mem_of_getElem? (i := 15) (by decide +kernel), List.mem_of_getElem? (i := 239) (by decide +kernel), List.mem_of_getElem? (i := 240) (by decide +kernel)⟩
theorem lw_p1 : lw_okq (⟨"WhyNotJoin", "report", "(I)I"⟩, 6) := ⟨⟨by decide +kernel, by decide +kernel⟩, List.mem_of_getElem? (i := 15) (by decide +kernel), List.mem_of_getElem? (i := 251) (by decide +kernel), List.mem_of_getElem? (i := 252) (by decide +kernel)⟩
theorem lw_p2 : lw_okq (⟨"WhyNotJoin$Query", "countAcceptedLeft", "(I)I"⟩, 3) := ⟨⟨by decide +kernel, by decide +kernel⟩, List.mem_of_getElem? (i := 23) (by decide +kernel), List.mem_of_getElem? (i := 343) (by decide +kernel), List.mem_of_getElem? (i := 344) (by decide +kernel)⟩
theorem lw_p3 : lw_okq (⟨"WhyNotJoin$FilterList", "valueOf", "(IIII)I"⟩, 5) := ⟨⟨by decide +kernel, by decide +kernel⟩, List.mem_of_getElem? (i := 57) (by decide +kernel), List.mem_of_getElem? (i := 360) (by decide +kernel), List.mem_of_getElem? (i := 361) (by decide +kernel)⟩
theorem lw_p4 : lw_okq (⟨"WhyNotJoin$Query", "countAcceptedRight", "(I)I"⟩, 3) := ⟨⟨by decide +kernel, by decide +kernel⟩, List.mem_of_getElem? (i := 23) (by decide +kernel), List.mem_of_getElem? (i := 367) (by decide +kernel), List.mem_of_getElem? (i := 368) (by decide +kernel)⟩
theorem lw_p5 : lw_okq (⟨"WhyNotJoin$Query", "countAcceptedJoined", "(I)I"⟩, 3) := ⟨⟨by decide +kernel, by decide +kernel⟩, List.mem_of_getElem? (i := 23) (by decide +kernel), List.mem_of_getElem? (i := 371) (by decide +kernel), List.mem_of_getElem? (i := 372) (by decide +kernel)⟩
theorem lw_p6 : lw_okq (⟨"WhyNotJoin$Query", "tallyMatches", "()V"⟩, 3) := ⟨⟨by decide +kernel, by decide +kernel⟩, List.mem_of_getElem? (i := 23) (by decide +kernel), List.mem_of_getElem? (i := 383) (by decide +kernel), List.mem_of_getElem? (i := 384) (by decide +kernel)⟩
theorem lw_p7 : lw_okq (⟨"WhyNotJoin$Query", "joinedBs", "(II)I"⟩, 3) := ⟨⟨by decide +kernel, by decide +kernel⟩, List.mem_of_getElem? (i := 23) (by decide +kernel), List.mem_of_getElem? (i := 413) (by decide +kernel), List.mem_of_getElem? (i := 414) (by decide +kernel)⟩
theorem lw_p8 : lw_okq (⟨"WhyNotJoin$Query", "emptyingFilter", "(IIII)I"⟩, 3) := ⟨⟨by decide +kernel, by decide +kernel⟩, List.mem_of_getElem? (i := 23) (by decide +kernel), List.mem_of_getElem? (i := 438) (by decide +kernel), List.mem_of_getElem? (i := 439) (by decide +kernel)⟩
theorem lw_p9 : lw_okq (⟨"WhyNotJoin$Query", "acceptedBs", "(IIII)I"⟩, 3) := ⟨⟨by decide +kernel, by decide +kernel⟩, List.mem_of_getElem? (i := 23) (by decide +kernel), List.mem_of_getElem? (i := 442) (by decide +kernel), List.mem_of_getElem? (i := 443) (by decide +kernel)⟩
theorem lw_p10 : lw_okq (⟨"WhyNotJoin$Query", "survivors", "(IIII)I"⟩, 3) := ⟨⟨by decide +kernel, by decide +kernel⟩, List.mem_of_getElem? (i := 23) (by decide +kernel), List.mem_of_getElem? (i := 446) (by decide +kernel), List.mem_of_getElem? (i := 447) (by decide +kernel)⟩
theorem lw_p11 : lw_okq (⟨"WhyNotJoin$Query", "bsAcceptedByOthers", "(III)I"⟩, 3) := ⟨⟨by decide +kernel, by decide +kernel⟩, List.mem_of_getElem? (i := 23) (by decide +kernel), List.mem_of_getElem? (i := 476) (by decide +kernel), List.mem_of_getElem? (i := 477) (by decide +kernel)⟩
theorem lw_p12 : lw_okq (⟨"WhyNotJoin$Query", "isRepair", "(IIIII)Z"⟩, 3) := ⟨⟨by decide +kernel, by decide +kernel⟩, List.mem_of_getElem? (i := 23) (by decide +kernel), List.mem_of_getElem? (i := 480) (by decide +kernel), List.mem_of_getElem? (i := 481) (by decide +kernel)⟩
theorem lw_p13 : lw_okq (⟨"WhyNotJoin$Query", "costOf", "(III)I"⟩, 3) := ⟨⟨by decide +kernel, by decide +kernel⟩, List.mem_of_getElem? (i := 23) (by decide +kernel), List.mem_of_getElem? (i := 504) (by decide +kernel), List.mem_of_getElem? (i := 505) (by decide +kernel)⟩
theorem lw_p14 : lw_okq (⟨"WhyNotJoin", "insertRowsOf", "(II)I"⟩, 6) := ⟨⟨by decide +kernel, by decide +kernel⟩, List.mem_of_getElem? (i := 15) (by decide +kernel), List.mem_of_getElem? (i := 521) (by decide +kernel), List.mem_of_getElem? (i := 522) (by decide +kernel)⟩
theorem lw_p15 : lw_okq (⟨"WhyNotJoin", "dropFiltersAgainst", "(II)I"⟩, 6) := ⟨⟨by decide +kernel, by decide +kernel⟩, List.mem_of_getElem? (i := 15) (by decide +kernel), List.mem_of_getElem? (i := 532) (by decide +kernel), List.mem_of_getElem? (i := 533) (by decide +kernel)⟩
def lw_privs_1 : List (MethodName × Nat) := [(⟨"WhyNotJoin", "settle", "(I)I"⟩, 6), (⟨"WhyNotJoin", "report", "(I)I"⟩, 6), (⟨"WhyNotJoin$Query", "countAcceptedLeft", "(I)I"⟩, 3), (⟨"WhyNotJoin$FilterList", "valueOf", "(IIII)I"⟩, 5), (⟨"WhyNotJoin$Query", "countAcceptedRight", "(I)I"⟩, 3), (⟨"WhyNotJoin$Query", "countAcceptedJoined", "(I)I"⟩, 3), (⟨"WhyNotJoin$Query", "tallyMatches", "()V"⟩, 3), (⟨"WhyNotJoin$Query", "joinedBs", "(II)I"⟩, 3), (⟨"WhyNotJoin$Query", "emptyingFilter", "(IIII)I"⟩, 3), (⟨"WhyNotJoin$Query", "acceptedBs", "(IIII)I"⟩, 3), (⟨"WhyNotJoin$Query", "survivors", "(IIII)I"⟩, 3), (⟨"WhyNotJoin$Query", "bsAcceptedByOthers", "(III)I"⟩, 3), (⟨"WhyNotJoin$Query", "isRepair", "(IIIII)Z"⟩, 3), (⟨"WhyNotJoin$Query", "costOf", "(III)I"⟩, 3), (⟨"WhyNotJoin", "insertRowsOf", "(II)I"⟩, 6), (⟨"WhyNotJoin", "dropFiltersAgainst", "(II)I"⟩, 6)]
theorem lw_r1 : ∀ q ∈ lw_privs_1, lw_okq q := List.forall_mem_cons.mpr ⟨lw_p0, List.forall_mem_cons.mpr ⟨lw_p1, List.forall_mem_cons.mpr ⟨lw_p2, List.forall_mem_cons.mpr ⟨lw_p3, List.forall_mem_cons.mpr ⟨lw_p4, List.forall_mem_cons.mpr ⟨lw_p5, List.forall_mem_cons.mpr ⟨lw_p6, List.forall_mem_cons.mpr ⟨lw_p7, List.forall_mem_cons.mpr ⟨lw_p8, List.forall_mem_cons.mpr ⟨lw_p9, List.forall_mem_cons.mpr ⟨lw_p10, List.forall_mem_cons.mpr ⟨lw_p11, List.forall_mem_cons.mpr ⟨lw_p12, List.forall_mem_cons.mpr ⟨lw_p13, List.forall_mem_cons.mpr ⟨lw_p14, List.forall_mem_cons.mpr ⟨lw_p15, fun _ h => absurd h List.not_mem_nil⟩⟩⟩⟩⟩⟩⟩⟩⟩⟩⟩⟩⟩⟩⟩⟩
theorem lw_p16 : lw_okq (⟨"WhyNotJoin$Query", "listWishRejecters", "()V"⟩, 3) := ⟨⟨by decide +kernel, by decide +kernel⟩, List.mem_of_getElem? (i := 23) (by decide +kernel), List.mem_of_getElem? (i := 566) (by decide +kernel), List.mem_of_getElem? (i := 567) (by decide +kernel)⟩
theorem lw_p17 : lw_okq (⟨"WhyNotJoin$Query", "grantsWishes", "(I)Z"⟩, 3) := ⟨⟨by decide +kernel, by decide +kernel⟩, List.mem_of_getElem? (i := 23) (by decide +kernel), List.mem_of_getElem? (i := 571) (by decide +kernel), List.mem_of_getElem? (i := 572) (by decide +kernel)⟩
theorem lw_p18 : lw_okq (⟨"WhyNotJoin$Query", "grantsWish", "(II)Z"⟩, 3) := ⟨⟨by decide +kernel, by decide +kernel⟩, List.mem_of_getElem? (i := 23) (by decide +kernel), List.mem_of_getElem? (i := 575) (by decide +kernel), List.mem_of_getElem? (i := 576) (by decide +kernel)⟩
theorem lw_p19 : lw_okq (⟨"WhyNotJoin$Script", "skipSpaces", "()V"⟩, 5) := ⟨⟨by decide +kernel, by decide +kernel⟩, List.mem_of_getElem? (i := 138) (by decide +kernel), List.mem_of_getElem? (i := 603) (by decide +kernel), List.mem_of_getElem? (i := 604) (by decide +kernel)⟩
theorem lw_p20 : lw_okq (⟨"WhyNotJoin$Script", "readCommand", "()Z"⟩, 5) := ⟨⟨by decide +kernel, by decide +kernel⟩, List.mem_of_getElem? (i := 138) (by decide +kernel), List.mem_of_getElem? (i := 611) (by decide +kernel), List.mem_of_getElem? (i := 612) (by decide +kernel)⟩
theorem lw_p21 : lw_okq (⟨"WhyNotJoin$Script", "readNumber", "(IZ)Z"⟩, 5) := ⟨⟨by decide +kernel, by decide +kernel⟩, List.mem_of_getElem? (i := 138) (by decide +kernel), List.mem_of_getElem? (i := 618) (by decide +kernel), List.mem_of_getElem? (i := 619) (by decide +kernel)⟩
theorem lw_p22 : lw_okq (⟨"WhyNotJoin", "perform", "(I)I"⟩, 6) := ⟨⟨by decide +kernel, by decide +kernel⟩, List.mem_of_getElem? (i := 15) (by decide +kernel), List.mem_of_getElem? (i := 625) (by decide +kernel), List.mem_of_getElem? (i := 626) (by decide +kernel)⟩
theorem lw_p23 : lw_okq (⟨"WhyNotJoin", "mixFilters", "(J)J"⟩, 6) := ⟨⟨by decide +kernel, by decide +kernel⟩, List.mem_of_getElem? (i := 15) (by decide +kernel), List.mem_of_getElem? (i := 666) (by decide +kernel), List.mem_of_getElem? (i := 667) (by decide +kernel)⟩
theorem lw_p24 : lw_okq (⟨"WhyNotJoin", "mixAnswers", "(J)J"⟩, 6) := ⟨⟨by decide +kernel, by decide +kernel⟩, List.mem_of_getElem? (i := 15) (by decide +kernel), List.mem_of_getElem? (i := 670) (by decide +kernel), List.mem_of_getElem? (i := 671) (by decide +kernel)⟩
theorem lw_p25 : lw_okq (⟨"WhyNotJoin", "mixWishes", "(J)J"⟩, 6) := ⟨⟨by decide +kernel, by decide +kernel⟩, List.mem_of_getElem? (i := 15) (by decide +kernel), List.mem_of_getElem? (i := 674) (by decide +kernel), List.mem_of_getElem? (i := 675) (by decide +kernel)⟩
theorem lw_p26 : lw_okq (⟨"WhyNotJoinModel", "adds", "(III)I"⟩, 14) := ⟨⟨by decide +kernel, by decide +kernel⟩, List.mem_of_getElem? (i := 678) (by decide +kernel), List.mem_of_getElem? (i := 732) (by decide +kernel), List.mem_of_getElem? (i := 733) (by decide +kernel)⟩
theorem lw_p27 : lw_okq (⟨"WhyNotJoinModel", "fail", "(I)I"⟩, 14) := ⟨⟨by decide +kernel, by decide +kernel⟩, List.mem_of_getElem? (i := 678) (by decide +kernel), List.mem_of_getElem? (i := 742) (by decide +kernel), List.mem_of_getElem? (i := 743) (by decide +kernel)⟩
theorem lw_p28 : lw_okq (⟨"WhyNotJoinModel", "placeOf", "(II)I"⟩, 14) := ⟨⟨by decide +kernel, by decide +kernel⟩, List.mem_of_getElem? (i := 678) (by decide +kernel), List.mem_of_getElem? (i := 746) (by decide +kernel), List.mem_of_getElem? (i := 747) (by decide +kernel)⟩
theorem lw_p29 : lw_okq (⟨"WhyNotJoinModel", "note", "()V"⟩, 14) := ⟨⟨by decide +kernel, by decide +kernel⟩, List.mem_of_getElem? (i := 678) (by decide +kernel), List.mem_of_getElem? (i := 750) (by decide +kernel), List.mem_of_getElem? (i := 751) (by decide +kernel)⟩
theorem lw_p30 : lw_okq (⟨"WhyNotJoinModel", "putBehind", "(II)V"⟩, 14) := ⟨⟨by decide +kernel, by decide +kernel⟩, List.mem_of_getElem? (i := 678) (by decide +kernel), List.mem_of_getElem? (i := 754) (by decide +kernel), List.mem_of_getElem? (i := 755) (by decide +kernel)⟩
theorem lw_p31 : lw_okq (⟨"WhyNotJoinModel", "removes", "(II)I"⟩, 14) := ⟨⟨by decide +kernel, by decide +kernel⟩, List.mem_of_getElem? (i := 678) (by decide +kernel), List.mem_of_getElem? (i := 766) (by decide +kernel), List.mem_of_getElem? (i := 767) (by decide +kernel)⟩
def lw_privs_2 : List (MethodName × Nat) := [(⟨"WhyNotJoin$Query", "listWishRejecters", "()V"⟩, 3), (⟨"WhyNotJoin$Query", "grantsWishes", "(I)Z"⟩, 3), (⟨"WhyNotJoin$Query", "grantsWish", "(II)Z"⟩, 3), (⟨"WhyNotJoin$Script", "skipSpaces", "()V"⟩, 5), (⟨"WhyNotJoin$Script", "readCommand", "()Z"⟩, 5), (⟨"WhyNotJoin$Script", "readNumber", "(IZ)Z"⟩, 5), (⟨"WhyNotJoin", "perform", "(I)I"⟩, 6), (⟨"WhyNotJoin", "mixFilters", "(J)J"⟩, 6), (⟨"WhyNotJoin", "mixAnswers", "(J)J"⟩, 6), (⟨"WhyNotJoin", "mixWishes", "(J)J"⟩, 6), (⟨"WhyNotJoinModel", "adds", "(III)I"⟩, 14), (⟨"WhyNotJoinModel", "fail", "(I)I"⟩, 14), (⟨"WhyNotJoinModel", "placeOf", "(II)I"⟩, 14), (⟨"WhyNotJoinModel", "note", "()V"⟩, 14), (⟨"WhyNotJoinModel", "putBehind", "(II)V"⟩, 14), (⟨"WhyNotJoinModel", "removes", "(II)I"⟩, 14)]
theorem lw_r2 : ∀ q ∈ lw_privs_2, lw_okq q := List.forall_mem_cons.mpr ⟨lw_p16, List.forall_mem_cons.mpr ⟨lw_p17, List.forall_mem_cons.mpr ⟨lw_p18, List.forall_mem_cons.mpr ⟨lw_p19, List.forall_mem_cons.mpr ⟨lw_p20, List.forall_mem_cons.mpr ⟨lw_p21, List.forall_mem_cons.mpr ⟨lw_p22, List.forall_mem_cons.mpr ⟨lw_p23, List.forall_mem_cons.mpr ⟨lw_p24, List.forall_mem_cons.mpr ⟨lw_p25, List.forall_mem_cons.mpr ⟨lw_p26, List.forall_mem_cons.mpr ⟨lw_p27, List.forall_mem_cons.mpr ⟨lw_p28, List.forall_mem_cons.mpr ⟨lw_p29, List.forall_mem_cons.mpr ⟨lw_p30, List.forall_mem_cons.mpr ⟨lw_p31, fun _ h => absurd h List.not_mem_nil⟩⟩⟩⟩⟩⟩⟩⟩⟩⟩⟩⟩⟩⟩⟩⟩
theorem lw_p32 : lw_okq (⟨"WhyNotJoinModel", "rowAt", "(II)I"⟩, 14) := ⟨⟨by decide +kernel, by decide +kernel⟩, List.mem_of_getElem? (i := 678) (by decide +kernel), List.mem_of_getElem? (i := 778) (by decide +kernel), List.mem_of_getElem? (i := 779) (by decide +kernel)⟩
theorem lw_p33 : lw_okq (⟨"WhyNotJoinModel", "isFilter", "(I)Z"⟩, 14) := ⟨⟨by decide +kernel, by decide +kernel⟩, List.mem_of_getElem? (i := 678) (by decide +kernel), List.mem_of_getElem? (i := 797) (by decide +kernel), List.mem_of_getElem? (i := 798) (by decide +kernel)⟩
theorem lw_p34 : lw_okq (⟨"WhyNotJoinModel", "dropFilter", "(I)V"⟩, 14) := ⟨⟨by decide +kernel, by decide +kernel⟩, List.mem_of_getElem? (i := 678) (by decide +kernel), List.mem_of_getElem? (i := 801) (by decide +kernel), List.mem_of_getElem? (i := 802) (by decide +kernel)⟩
theorem lw_p35 : lw_okq (⟨"WhyNotJoinModel", "of", "(II)I"⟩, 14) := ⟨⟨by decide +kernel, by decide +kernel⟩, List.mem_of_getElem? (i := 678) (by decide +kernel), List.mem_of_getElem? (i := 809) (by decide +kernel), List.mem_of_getElem? (i := 810) (by decide +kernel)⟩
theorem lw_p36 : lw_okq (⟨"WhyNotJoinModel", "accepted", "(I)I"⟩, 14) := ⟨⟨by decide +kernel, by decide +kernel⟩, List.mem_of_getElem? (i := 678) (by decide +kernel), List.mem_of_getElem? (i := 825) (by decide +kernel), List.mem_of_getElem? (i := 826) (by decide +kernel)⟩
theorem lw_p37 : lw_okq (⟨"WhyNotJoinModel", "accepts", "(IIII)Z"⟩, 14) := ⟨⟨by decide +kernel, by decide +kernel⟩, List.mem_of_getElem? (i := 678) (by decide +kernel), List.mem_of_getElem? (i := 829) (by decide +kernel), List.mem_of_getElem? (i := 830) (by decide +kernel)⟩
theorem lw_p38 : lw_okq (⟨"WhyNotJoinModel", "answers", "()I"⟩, 14) := ⟨⟨by decide +kernel, by decide +kernel⟩, List.mem_of_getElem? (i := 678) (by decide +kernel), List.mem_of_getElem? (i := 843) (by decide +kernel), List.mem_of_getElem? (i := 844) (by decide +kernel)⟩
theorem lw_p39 : lw_okq (⟨"WhyNotJoinModel", "isAnswer", "(II)Z"⟩, 14) := ⟨⟨by decide +kernel, by decide +kernel⟩, List.mem_of_getElem? (i := 678) (by decide +kernel), List.mem_of_getElem? (i := 847) (by decide +kernel), List.mem_of_getElem? (i := 848) (by decide +kernel)⟩
theorem lw_p40 : lw_okq (⟨"WhyNotJoinModel", "matches", "(III)I"⟩, 14) := ⟨⟨by decide +kernel, by decide +kernel⟩, List.mem_of_getElem? (i := 678) (by decide +kernel), List.mem_of_getElem? (i := 851) (by decide +kernel), List.mem_of_getElem? (i := 852) (by decide +kernel)⟩
theorem lw_p41 : lw_okq (⟨"WhyNotJoinModel", "hasLeft", "(II)Z"⟩, 14) := ⟨⟨by decide +kernel, by decide +kernel⟩, List.mem_of_getElem? (i := 678) (by decide +kernel), List.mem_of_getElem? (i := 855) (by decide +kernel), List.mem_of_getElem? (i := 856) (by decide +kernel)⟩
theorem lw_p42 : lw_okq (⟨"WhyNotJoinModel", "hasRight", "(II)Z"⟩, 14) := ⟨⟨by decide +kernel, by decide +kernel⟩, List.mem_of_getElem? (i := 678) (by decide +kernel), List.mem_of_getElem? (i := 859) (by decide +kernel), List.mem_of_getElem? (i := 860) (by decide +kernel)⟩
theorem lw_p43 : lw_okq (⟨"WhyNotJoinModel", "passesAll", "(IIII)Z"⟩, 14) := ⟨⟨by decide +kernel, by decide +kernel⟩, List.mem_of_getElem? (i := 678) (by decide +kernel), List.mem_of_getElem? (i := 863) (by decide +kernel), List.mem_of_getElem? (i := 864) (by decide +kernel)⟩
theorem lw_p44 : lw_okq (⟨"WhyNotJoinModel", "passes", "(IIIII)Z"⟩, 14) := ⟨⟨by decide +kernel, by decide +kernel⟩, List.mem_of_getElem? (i := 678) (by decide +kernel), List.mem_of_getElem? (i := 867) (by decide +kernel), List.mem_of_getElem? (i := 868) (by decide +kernel)⟩
theorem lw_p45 : lw_okq (⟨"WhyNotJoinModel", "answerAt", "(I)I"⟩, 14) := ⟨⟨by decide +kernel, by decide +kernel⟩, List.mem_of_getElem? (i := 678) (by decide +kernel), List.mem_of_getElem? (i := 875) (by decide +kernel), List.mem_of_getElem? (i := 876) (by decide +kernel)⟩
theorem lw_p46 : lw_okq (⟨"WhyNotJoinModel", "cause", "(II)I"⟩, 14) := ⟨⟨by decide +kernel, by decide +kernel⟩, List.mem_of_getElem? (i := 678) (by decide +kernel), List.mem_of_getElem? (i := 887) (by decide +kernel), List.mem_of_getElem? (i := 888) (by decide +kernel)⟩
theorem lw_p47 : lw_okq (⟨"WhyNotJoinModel", "dropper", "(III)I"⟩, 14) := ⟨⟨by decide +kernel, by decide +kernel⟩, List.mem_of_getElem? (i := 678) (by decide +kernel), List.mem_of_getElem? (i := 891) (by decide +kernel), List.mem_of_getElem? (i := 892) (by decide +kernel)⟩
def lw_privs_3 : List (MethodName × Nat) := [(⟨"WhyNotJoinModel", "rowAt", "(II)I"⟩, 14), (⟨"WhyNotJoinModel", "isFilter", "(I)Z"⟩, 14), (⟨"WhyNotJoinModel", "dropFilter", "(I)V"⟩, 14), (⟨"WhyNotJoinModel", "of", "(II)I"⟩, 14), (⟨"WhyNotJoinModel", "accepted", "(I)I"⟩, 14), (⟨"WhyNotJoinModel", "accepts", "(IIII)Z"⟩, 14), (⟨"WhyNotJoinModel", "answers", "()I"⟩, 14), (⟨"WhyNotJoinModel", "isAnswer", "(II)Z"⟩, 14), (⟨"WhyNotJoinModel", "matches", "(III)I"⟩, 14), (⟨"WhyNotJoinModel", "hasLeft", "(II)Z"⟩, 14), (⟨"WhyNotJoinModel", "hasRight", "(II)Z"⟩, 14), (⟨"WhyNotJoinModel", "passesAll", "(IIII)Z"⟩, 14), (⟨"WhyNotJoinModel", "passes", "(IIIII)Z"⟩, 14), (⟨"WhyNotJoinModel", "answerAt", "(I)I"⟩, 14), (⟨"WhyNotJoinModel", "cause", "(II)I"⟩, 14), (⟨"WhyNotJoinModel", "dropper", "(III)I"⟩, 14)]
theorem lw_r3 : ∀ q ∈ lw_privs_3, lw_okq q := List.forall_mem_cons.mpr ⟨lw_p32, List.forall_mem_cons.mpr ⟨lw_p33, List.forall_mem_cons.mpr ⟨lw_p34, List.forall_mem_cons.mpr ⟨lw_p35, List.forall_mem_cons.mpr ⟨lw_p36, List.forall_mem_cons.mpr ⟨lw_p37, List.forall_mem_cons.mpr ⟨lw_p38, List.forall_mem_cons.mpr ⟨lw_p39, List.forall_mem_cons.mpr ⟨lw_p40, List.forall_mem_cons.mpr ⟨lw_p41, List.forall_mem_cons.mpr ⟨lw_p42, List.forall_mem_cons.mpr ⟨lw_p43, List.forall_mem_cons.mpr ⟨lw_p44, List.forall_mem_cons.mpr ⟨lw_p45, List.forall_mem_cons.mpr ⟨lw_p46, List.forall_mem_cons.mpr ⟨lw_p47, fun _ h => absurd h List.not_mem_nil⟩⟩⟩⟩⟩⟩⟩⟩⟩⟩⟩⟩⟩⟩⟩⟩
theorem lw_p48 : lw_okq (⟨"WhyNotJoinModel", "removal", "(II)I"⟩, 14) := ⟨⟨by decide +kernel, by decide +kernel⟩, List.mem_of_getElem? (i := 678) (by decide +kernel), List.mem_of_getElem? (i := 899) (by decide +kernel), List.mem_of_getElem? (i := 900) (by decide +kernel)⟩
theorem lw_p49 : lw_okq (⟨"WhyNotJoinModel", "missing", "(II)I"⟩, 14) := ⟨⟨by decide +kernel, by decide +kernel⟩, List.mem_of_getElem? (i := 678) (by decide +kernel), List.mem_of_getElem? (i := 914) (by decide +kernel), List.mem_of_getElem? (i := 915) (by decide +kernel)⟩
theorem lw_p50 : lw_okq (⟨"WhyNotJoinModel", "bestB", "(II)I"⟩, 14) := ⟨⟨by decide +kernel, by decide +kernel⟩, List.mem_of_getElem? (i := 678) (by decide +kernel), List.mem_of_getElem? (i := 918) (by decide +kernel), List.mem_of_getElem? (i := 919) (by decide +kernel)⟩
theorem lw_p51 : lw_okq (⟨"WhyNotJoinModel", "costOf", "(III)I"⟩, 14) := ⟨⟨by decide +kernel, by decide +kernel⟩, List.mem_of_getElem? (i := 678) (by decide +kernel), List.mem_of_getElem? (i := 922) (by decide +kernel), List.mem_of_getElem? (i := 923) (by decide +kernel)⟩
theorem lw_p52 : lw_okq (⟨"WhyNotJoinModel", "missingAt", "(II)I"⟩, 14) := ⟨⟨by decide +kernel, by decide +kernel⟩, List.mem_of_getElem? (i := 678) (by decide +kernel), List.mem_of_getElem? (i := 930) (by decide +kernel), List.mem_of_getElem? (i := 931) (by decide +kernel)⟩
theorem lw_p53 : lw_okq (⟨"WhyNotJoinModel", "satisfied", "(I)I"⟩, 14) := ⟨⟨by decide +kernel, by decide +kernel⟩, List.mem_of_getElem? (i := 678) (by decide +kernel), List.mem_of_getElem? (i := 954) (by decide +kernel), List.mem_of_getElem? (i := 955) (by decide +kernel)⟩
theorem lw_p54 : lw_okq (⟨"WhyNotJoinModel", "removalForWishes", "()I"⟩, 14) := ⟨⟨by decide +kernel, by decide +kernel⟩, List.mem_of_getElem? (i := 678) (by decide +kernel), List.mem_of_getElem? (i := 962) (by decide +kernel), List.mem_of_getElem? (i := 963) (by decide +kernel)⟩
theorem lw_p55 : lw_okq (⟨"WhyNotJoinModel", "readCommand", "()V"⟩, 14) := ⟨⟨by decide +kernel, by decide +kernel⟩, List.mem_of_getElem? (i := 678) (by decide +kernel), List.mem_of_getElem? (i := 978) (by decide +kernel), List.mem_of_getElem? (i := 979) (by decide +kernel)⟩
theorem lw_p56 : lw_okq (⟨"WhyNotJoinModel", "skip", "()V"⟩, 14) := ⟨⟨by decide +kernel, by decide +kernel⟩, List.mem_of_getElem? (i := 678) (by decide +kernel), List.mem_of_getElem? (i := 982) (by decide +kernel), List.mem_of_getElem? (i := 983) (by decide +kernel)⟩
theorem lw_p57 : lw_okq (⟨"WhyNotJoinModel", "here", "()I"⟩, 14) := ⟨⟨by decide +kernel, by decide +kernel⟩, List.mem_of_getElem? (i := 678) (by decide +kernel), List.mem_of_getElem? (i := 986) (by decide +kernel), List.mem_of_getElem? (i := 987) (by decide +kernel)⟩
theorem lw_p58 : lw_okq (⟨"WhyNotJoinModel", "readNumber", "(Z)I"⟩, 14) := ⟨⟨by decide +kernel, by decide +kernel⟩, List.mem_of_getElem? (i := 678) (by decide +kernel), List.mem_of_getElem? (i := 993) (by decide +kernel), List.mem_of_getElem? (i := 994) (by decide +kernel)⟩
theorem lw_p59 : lw_okq (⟨"WhyNotJoinModel", "execute", "(I)I"⟩, 14) := ⟨⟨by decide +kernel, by decide +kernel⟩, List.mem_of_getElem? (i := 678) (by decide +kernel), List.mem_of_getElem? (i := 997) (by decide +kernel), List.mem_of_getElem? (i := 998) (by decide +kernel)⟩
theorem lw_p60 : lw_okq (⟨"WhyNotJoinModel", "ends", "(I)I"⟩, 14) := ⟨⟨by decide +kernel, by decide +kernel⟩, List.mem_of_getElem? (i := 678) (by decide +kernel), List.mem_of_getElem? (i := 1007) (by decide +kernel), List.mem_of_getElem? (i := 1008) (by decide +kernel)⟩
theorem lw_p61 : lw_okq (⟨"WhyNotJoinModel", "add", "(I)V"⟩, 14) := ⟨⟨by decide +kernel, by decide +kernel⟩, List.mem_of_getElem? (i := 678) (by decide +kernel), List.mem_of_getElem? (i := 1024) (by decide +kernel), List.mem_of_getElem? (i := 1025) (by decide +kernel)⟩
theorem lw_p62 : lw_okq (⟨"WhyNotJoinModel", "addRows", "(I)V"⟩, 14) := ⟨⟨by decide +kernel, by decide +kernel⟩, List.mem_of_getElem? (i := 678) (by decide +kernel), List.mem_of_getElem? (i := 1029) (by decide +kernel), List.mem_of_getElem? (i := 1030) (by decide +kernel)⟩
theorem lw_p63 : lw_okq (⟨"WhyNotJoinModel", "addFilters", "()V"⟩, 14) := ⟨⟨by decide +kernel, by decide +kernel⟩, List.mem_of_getElem? (i := 678) (by decide +kernel), List.mem_of_getElem? (i := 1033) (by decide +kernel), List.mem_of_getElem? (i := 1034) (by decide +kernel)⟩
def lw_privs_4 : List (MethodName × Nat) := [(⟨"WhyNotJoinModel", "removal", "(II)I"⟩, 14), (⟨"WhyNotJoinModel", "missing", "(II)I"⟩, 14), (⟨"WhyNotJoinModel", "bestB", "(II)I"⟩, 14), (⟨"WhyNotJoinModel", "costOf", "(III)I"⟩, 14), (⟨"WhyNotJoinModel", "missingAt", "(II)I"⟩, 14), (⟨"WhyNotJoinModel", "satisfied", "(I)I"⟩, 14), (⟨"WhyNotJoinModel", "removalForWishes", "()I"⟩, 14), (⟨"WhyNotJoinModel", "readCommand", "()V"⟩, 14), (⟨"WhyNotJoinModel", "skip", "()V"⟩, 14), (⟨"WhyNotJoinModel", "here", "()I"⟩, 14), (⟨"WhyNotJoinModel", "readNumber", "(Z)I"⟩, 14), (⟨"WhyNotJoinModel", "execute", "(I)I"⟩, 14), (⟨"WhyNotJoinModel", "ends", "(I)I"⟩, 14), (⟨"WhyNotJoinModel", "add", "(I)V"⟩, 14), (⟨"WhyNotJoinModel", "addRows", "(I)V"⟩, 14), (⟨"WhyNotJoinModel", "addFilters", "()V"⟩, 14)]
theorem lw_r4 : ∀ q ∈ lw_privs_4, lw_okq q := List.forall_mem_cons.mpr ⟨lw_p48, List.forall_mem_cons.mpr ⟨lw_p49, List.forall_mem_cons.mpr ⟨lw_p50, List.forall_mem_cons.mpr ⟨lw_p51, List.forall_mem_cons.mpr ⟨lw_p52, List.forall_mem_cons.mpr ⟨lw_p53, List.forall_mem_cons.mpr ⟨lw_p54, List.forall_mem_cons.mpr ⟨lw_p55, List.forall_mem_cons.mpr ⟨lw_p56, List.forall_mem_cons.mpr ⟨lw_p57, List.forall_mem_cons.mpr ⟨lw_p58, List.forall_mem_cons.mpr ⟨lw_p59, List.forall_mem_cons.mpr ⟨lw_p60, List.forall_mem_cons.mpr ⟨lw_p61, List.forall_mem_cons.mpr ⟨lw_p62, List.forall_mem_cons.mpr ⟨lw_p63, fun _ h => absurd h List.not_mem_nil⟩⟩⟩⟩⟩⟩⟩⟩⟩⟩⟩⟩⟩⟩⟩⟩
theorem lw_p64 : lw_okq (⟨"WhyNotJoinModel", "addWishes", "()V"⟩, 14) := ⟨⟨by decide +kernel, by decide +kernel⟩, List.mem_of_getElem? (i := 678) (by decide +kernel), List.mem_of_getElem? (i := 1037) (by decide +kernel), List.mem_of_getElem? (i := 1038) (by decide +kernel)⟩
def lw_privs_5 : List (MethodName × Nat) := [(⟨"WhyNotJoinModel", "addWishes", "()V"⟩, 14)]
theorem lw_r5 : ∀ q ∈ lw_privs_5, lw_okq q := List.forall_mem_cons.mpr ⟨lw_p64, fun _ h => absurd h List.not_mem_nil⟩
def lw_privs : List (MethodName × Nat) := lw_privs_1 ++ (lw_privs_2 ++ (lw_privs_3 ++ (lw_privs_4 ++ (lw_privs_5))))
def lw_tbl : List Cond := k2_sels lw_privs ++ tables_1
theorem lw_privs_ok : ∀ q ∈ lw_privs, lw_okq q := by
  show ∀ q ∈ lw_privs_1 ++ (lw_privs_2 ++ (lw_privs_3 ++ (lw_privs_4 ++ (lw_privs_5)))), lw_okq q
  exact List.forall_mem_append.mpr ⟨lw_r1, List.forall_mem_append.mpr ⟨lw_r2, List.forall_mem_append.mpr ⟨lw_r3, List.forall_mem_append.mpr ⟨lw_r4, lw_r5⟩⟩⟩⟩
-- ===== end of PART A; then your names; then what follows =====
end
section
def RX0 : String := "WhyNotJoin$FilterList"
def TX0 : u_T := fun k => match k with
  | 0 => ("WhyNotJoin$FilterList", "stages", "[I", true)
  | 1 => ("WhyNotJoin$FilterList", "columns", "[I", true)
  | 2 => ("WhyNotJoin$FilterList", "operators", "[I", true)
  | 3 => ("WhyNotJoin$FilterList", "constants", "[I", true)
  | _ => ("WhyNotJoin$FilterList", "size", "I", false)
def tyX0 : Nat → FieldType := fun k => match k with
  | 0 => .array .int
  | 1 => .array .int
  | 2 => .array .int
  | 3 => .array .int
  | _ => .int
abbrev wsX00 : List Cond := u_ws RX0 TX0 5
theorem nmX0 : ∀ a, a < 5 → ∀ b, b < 5 → a ≠ b → (TX0 a).2.1 ≠ (TX0 b).2.1 := by decide +kernel
theorem tyX0_ok : ∀ k, k < 5 → parseFieldDescriptor (TX0 k).2.2.1 = some (tyX0 k) := by decide +kernel
abbrev cX0_init : ByteArray := prog_2_method_1_code
def yX0_init : MethodName := ⟨RX0, "<init>", "()V"⟩
abbrev cX0_copyFrom : ByteArray := prog_2_method_2_code
def yX0_copyFrom : MethodName := ⟨RX0, "copyFrom", "(LWhyNotJoin$FilterList;)V"⟩
abbrev cX0_holds : ByteArray := prog_2_method_3_code
def yX0_holds : MethodName := ⟨RX0, "holds", "(I)Z"⟩
abbrev cX0_insert : ByteArray := prog_2_method_4_code
def yX0_insert : MethodName := ⟨RX0, "insert", "(IIII)I"⟩
abbrev cX0_drop : ByteArray := prog_2_method_5_code
def yX0_drop : MethodName := ⟨RX0, "drop", "(I)I"⟩
abbrev cX0_constantAt : ByteArray := prog_2_method_6_code
def yX0_constantAt : MethodName := ⟨RX0, "constantAt", "(I)I"⟩
abbrev cX0_replaceConstant : ByteArray := prog_2_method_7_code
def yX0_replaceConstant : MethodName := ⟨RX0, "replaceConstant", "(II)I"⟩
abbrev cX0_isAtStage : ByteArray := prog_2_method_8_code
def yX0_isAtStage : MethodName := ⟨RX0, "isAtStage", "(II)Z"⟩
abbrev cX0_mayHaveConstant : ByteArray := prog_2_method_9_code
def yX0_mayHaveConstant : MethodName := ⟨RX0, "mayHaveConstant", "(II)Z"⟩
abbrev cX0_accepts : ByteArray := prog_2_method_10_code
def yX0_accepts : MethodName := ⟨RX0, "accepts", "(IIII)Z"⟩
abbrev cX0_acceptsWith : ByteArray := prog_2_method_11_code
def yX0_acceptsWith : MethodName := ⟨RX0, "acceptsWith", "(IIIII)Z"⟩
abbrev cX0_rejecters : ByteArray := prog_2_method_12_code
def yX0_rejecters : MethodName := ⟨RX0, "rejecters", "(III)I"⟩
abbrev cX0_isColumn : ByteArray := prog_2_method_13_code
def yX0_isColumn : MethodName := ⟨RX0, "isColumn", "(II)Z"⟩
abbrev cX0_isConstant : ByteArray := prog_2_method_14_code
def yX0_isConstant : MethodName := ⟨RX0, "isConstant", "(II)Z"⟩
abbrev cX0_compare : ByteArray := prog_2_method_15_code
def yX0_compare : MethodName := ⟨RX0, "compare", "(III)Z"⟩
abbrev cX0_valueOf : ByteArray := prog_2_method_16_code
def yX0_valueOf : MethodName := ⟨RX0, "valueOf", "(IIII)I"⟩
def RX1 : String := "WhyNotJoin$History"
def TX1 : u_T := fun k => match k with
  | 0 => ("WhyNotJoin$History", "slots", "[LWhyNotJoin$State;", true)
  | 1 => ("WhyNotJoin$History", "draftSlot", "I", false)
  | _ => ("WhyNotJoin$History", "depth", "I", false)
def tyX1 : Nat → FieldType := fun k => match k with
  | 0 => .array (.object "WhyNotJoin$State")
  | 1 => .int
  | _ => .int
abbrev wsX10 : List Cond := u_ws RX1 TX1 3
theorem nmX1 : ∀ a, a < 3 → ∀ b, b < 3 → a ≠ b → (TX1 a).2.1 ≠ (TX1 b).2.1 := by decide +kernel
theorem tyX1_ok : ∀ k, k < 3 → parseFieldDescriptor (TX1 k).2.2.1 = some (tyX1 k) := by decide +kernel
abbrev cX1_init : ByteArray := prog_3_method_1_code
def yX1_init : MethodName := ⟨RX1, "<init>", "()V"⟩
abbrev cX1_draft : ByteArray := prog_3_method_2_code
def yX1_draft : MethodName := ⟨RX1, "draft", "(LWhyNotJoin$State;)V"⟩
abbrev cX1_keepDraft : ByteArray := prog_3_method_3_code
def yX1_keepDraft : MethodName := ⟨RX1, "keepDraft", "()V"⟩
abbrev cX1_returnToDraft : ByteArray := prog_3_method_4_code
def yX1_returnToDraft : MethodName := ⟨RX1, "returnToDraft", "(LWhyNotJoin$State;)V"⟩
abbrev cX1_stepBack : ByteArray := prog_3_method_5_code
def yX1_stepBack : MethodName := ⟨RX1, "stepBack", "(LWhyNotJoin$State;)I"⟩
def RX2 : String := "WhyNotJoin$PairList"
def TX2 : u_T := fun k => match k with
  | 0 => ("WhyNotJoin$PairList", "pairs", "[I", true)
  | 1 => ("WhyNotJoin$PairList", "limit", "I", true)
  | _ => ("WhyNotJoin$PairList", "size", "I", false)
def tyX2 : Nat → FieldType := fun k => match k with
  | 0 => .array .int
  | 1 => .int
  | _ => .int
abbrev wsX20 : List Cond := u_ws RX2 TX2 3
theorem nmX2 : ∀ a, a < 3 → ∀ b, b < 3 → a ≠ b → (TX2 a).2.1 ≠ (TX2 b).2.1 := by decide +kernel
theorem tyX2_ok : ∀ k, k < 3 → parseFieldDescriptor (TX2 k).2.2.1 = some (tyX2 k) := by decide +kernel
abbrev cX2_init : ByteArray := prog_4_method_1_code
def yX2_init : MethodName := ⟨RX2, "<init>", "(I)V"⟩
abbrev cX2_copyFrom : ByteArray := prog_4_method_2_code
def yX2_copyFrom : MethodName := ⟨RX2, "copyFrom", "(LWhyNotJoin$PairList;)V"⟩
abbrev cX2_isFull : ByteArray := prog_4_method_3_code
def yX2_isFull : MethodName := ⟨RX2, "isFull", "()Z"⟩
abbrev cX2_holds : ByteArray := prog_4_method_4_code
def yX2_holds : MethodName := ⟨RX2, "holds", "(II)Z"⟩
abbrev cX2_insert : ByteArray := prog_4_method_5_code
def yX2_insert : MethodName := ⟨RX2, "insert", "(II)I"⟩
abbrev cX2_drop : ByteArray := prog_4_method_6_code
def yX2_drop : MethodName := ⟨RX2, "drop", "(I)I"⟩
abbrev cX2_dropAll : ByteArray := prog_4_method_7_code
def yX2_dropAll : MethodName := ⟨RX2, "dropAll", "()I"⟩
abbrev cX2_pairAt : ByteArray := prog_4_method_8_code
def yX2_pairAt : MethodName := ⟨RX2, "pairAt", "(I)I"⟩
abbrev cX2_firstAt : ByteArray := prog_4_method_9_code
def yX2_firstAt : MethodName := ⟨RX2, "firstAt", "(I)I"⟩
abbrev cX2_secondAt : ByteArray := prog_4_method_10_code
def yX2_secondAt : MethodName := ⟨RX2, "secondAt", "(I)I"⟩
abbrev cX2_secondsOf : ByteArray := prog_4_method_11_code
def yX2_secondsOf : MethodName := ⟨RX2, "secondsOf", "(I)I"⟩
abbrev cX2_firstsOf : ByteArray := prog_4_method_12_code
def yX2_firstsOf : MethodName := ⟨RX2, "firstsOf", "(I)I"⟩
def RX3 : String := "WhyNotJoin$Query"
def TX3 : u_T := fun k => match k with
  | 0 => ("WhyNotJoin$Query", "state", "LWhyNotJoin$State;", true)
  | 1 => ("WhyNotJoin$Query", "matches", "[I", true)
  | _ => ("WhyNotJoin$Query", "wishRejecters", "[I", true)
def tyX3 : Nat → FieldType := fun k => match k with
  | 0 => .object "WhyNotJoin$State"
  | 1 => .array .int
  | _ => .array .int
abbrev wsX30 : List Cond := u_ws RX3 TX3 3
theorem nmX3 : ∀ a, a < 3 → ∀ b, b < 3 → a ≠ b → (TX3 a).2.1 ≠ (TX3 b).2.1 := by decide +kernel
theorem tyX3_ok : ∀ k, k < 3 → parseFieldDescriptor (TX3 k).2.2.1 = some (tyX3 k) := by decide +kernel
abbrev cX3_init : ByteArray := prog_5_method_1_code
def yX3_init : MethodName := ⟨RX3, "<init>", "()V"⟩
abbrev cX3_countAccepted : ByteArray := prog_5_method_2_code
def yX3_countAccepted : MethodName := ⟨RX3, "countAccepted", "(I)I"⟩
abbrev cX3_countAcceptedLeft : ByteArray := prog_5_method_3_code
def yX3_countAcceptedLeft : MethodName := ⟨RX3, "countAcceptedLeft", "(I)I"⟩
abbrev cX3_countAcceptedRight : ByteArray := prog_5_method_4_code
def yX3_countAcceptedRight : MethodName := ⟨RX3, "countAcceptedRight", "(I)I"⟩
abbrev cX3_countAcceptedJoined : ByteArray := prog_5_method_5_code
def yX3_countAcceptedJoined : MethodName := ⟨RX3, "countAcceptedJoined", "(I)I"⟩
abbrev cX3_tallyMatches : ByteArray := prog_5_method_6_code
def yX3_tallyMatches : MethodName := ⟨RX3, "tallyMatches", "()V"⟩
abbrev cX3_countAnswers : ByteArray := prog_5_method_7_code
def yX3_countAnswers : MethodName := ⟨RX3, "countAnswers", "()I"⟩
abbrev cX3_answerAt : ByteArray := prog_5_method_8_code
def yX3_answerAt : MethodName := ⟨RX3, "answerAt", "(I)I"⟩
abbrev cX3_joinedBs : ByteArray := prog_5_method_9_code
def yX3_joinedBs : MethodName := ⟨RX3, "joinedBs", "(II)I"⟩
abbrev cX3_countMatches : ByteArray := prog_5_method_10_code
def yX3_countMatches : MethodName := ⟨RX3, "countMatches", "(II)I"⟩
abbrev cX3_firstCause : ByteArray := prog_5_method_11_code
def yX3_firstCause : MethodName := ⟨RX3, "firstCause", "(II)I"⟩
abbrev cX3_emptyingFilter : ByteArray := prog_5_method_12_code
def yX3_emptyingFilter : MethodName := ⟨RX3, "emptyingFilter", "(IIII)I"⟩
abbrev cX3_survivors : ByteArray := prog_5_method_13_code
def yX3_survivors : MethodName := ⟨RX3, "survivors", "(IIII)I"⟩
abbrev cX3_acceptedBs : ByteArray := prog_5_method_14_code
def yX3_acceptedBs : MethodName := ⟨RX3, "acceptedBs", "(IIII)I"⟩
abbrev cX3_smallestRemoval : ByteArray := prog_5_method_15_code
def yX3_smallestRemoval : MethodName := ⟨RX3, "smallestRemoval", "(II)I"⟩
abbrev cX3_isSmallerSet : ByteArray := prog_5_method_16_code
def yX3_isSmallerSet : MethodName := ⟨RX3, "isSmallerSet", "(II)Z"⟩
abbrev cX3_nearestConstant : ByteArray := prog_5_method_17_code
def yX3_nearestConstant : MethodName := ⟨RX3, "nearestConstant", "(III)I"⟩
abbrev cX3_bsAcceptedByOthers : ByteArray := prog_5_method_18_code
def yX3_bsAcceptedByOthers : MethodName := ⟨RX3, "bsAcceptedByOthers", "(III)I"⟩
abbrev cX3_isRepair : ByteArray := prog_5_method_19_code
def yX3_isRepair : MethodName := ⟨RX3, "isRepair", "(IIIII)Z"⟩
abbrev cX3_cheapestB : ByteArray := prog_5_method_20_code
def yX3_cheapestB : MethodName := ⟨RX3, "cheapestB", "(II)I"⟩
abbrev cX3_costOf : ByteArray := prog_5_method_21_code
def yX3_costOf : MethodName := ⟨RX3, "costOf", "(III)I"⟩
abbrev cX3_lowestCost : ByteArray := prog_5_method_22_code
def yX3_lowestCost : MethodName := ⟨RX3, "lowestCost", "(II)I"⟩
abbrev cX3_bToInsert : ByteArray := prog_5_method_23_code
def yX3_bToInsert : MethodName := ⟨RX3, "bToInsert", "(II)I"⟩
abbrev cX3_countSatisfiedWishes : ByteArray := prog_5_method_24_code
def yX3_countSatisfiedWishes : MethodName := ⟨RX3, "countSatisfiedWishes", "()I"⟩
abbrev cX3_smallestRemovalForWishes : ByteArray := prog_5_method_25_code
def yX3_smallestRemovalForWishes : MethodName := ⟨RX3, "smallestRemovalForWishes", "()I"⟩
abbrev cX3_listWishRejecters : ByteArray := prog_5_method_26_code
def yX3_listWishRejecters : MethodName := ⟨RX3, "listWishRejecters", "()V"⟩
abbrev cX3_grantsWishes : ByteArray := prog_5_method_27_code
def yX3_grantsWishes : MethodName := ⟨RX3, "grantsWishes", "(I)Z"⟩
abbrev cX3_grantsWish : ByteArray := prog_5_method_28_code
def yX3_grantsWish : MethodName := ⟨RX3, "grantsWish", "(II)Z"⟩
def RX4 : String := "WhyNotJoin$Script"
def TX4 : u_T := fun k => match k with
  | 0 => ("WhyNotJoin$Script", "text", "LWhyNotJoin$Text;", true)
  | 1 => ("WhyNotJoin$Script", "letters", "[I", true)
  | 2 => ("WhyNotJoin$Script", "numbers", "[I", true)
  | 3 => ("WhyNotJoin$Script", "size", "I", false)
  | _ => ("WhyNotJoin$Script", "position", "I", false)
def tyX4 : Nat → FieldType := fun k => match k with
  | 0 => .object "WhyNotJoin$Text"
  | 1 => .array .int
  | 2 => .array .int
  | 3 => .int
  | _ => .int
abbrev wsX40 : List Cond := u_ws RX4 TX4 5
theorem nmX4 : ∀ a, a < 5 → ∀ b, b < 5 → a ≠ b → (TX4 a).2.1 ≠ (TX4 b).2.1 := by decide +kernel
theorem tyX4_ok : ∀ k, k < 5 → parseFieldDescriptor (TX4 k).2.2.1 = some (tyX4 k) := by decide +kernel
abbrev cX4_init : ByteArray := prog_6_method_1_code
def yX4_init : MethodName := ⟨RX4, "<init>", "()V"⟩
abbrev cX4_letter : ByteArray := prog_6_method_2_code
def yX4_letter : MethodName := ⟨RX4, "letter", "(I)I"⟩
abbrev cX4_number : ByteArray := prog_6_method_3_code
def yX4_number : MethodName := ⟨RX4, "number", "(II)I"⟩
abbrev cX4_parse : ByteArray := prog_6_method_4_code
def yX4_parse : MethodName := ⟨RX4, "parse", "()Z"⟩
abbrev cX4_skipSpaces : ByteArray := prog_6_method_5_code
def yX4_skipSpaces : MethodName := ⟨RX4, "skipSpaces", "()V"⟩
abbrev cX4_readCommand : ByteArray := prog_6_method_6_code
def yX4_readCommand : MethodName := ⟨RX4, "readCommand", "()Z"⟩
abbrev cX4_numbersBehind : ByteArray := prog_6_method_7_code
def yX4_numbersBehind : MethodName := ⟨RX4, "numbersBehind", "(I)I"⟩
abbrev cX4_readNumber : ByteArray := prog_6_method_8_code
def yX4_readNumber : MethodName := ⟨RX4, "readNumber", "(IZ)Z"⟩
abbrev cX4_isDigit : ByteArray := prog_6_method_9_code
def yX4_isDigit : MethodName := ⟨RX4, "isDigit", "(I)Z"⟩
def RX5 : String := "WhyNotJoin$State"
def TX5 : u_T := fun k => match k with
  | 0 => ("WhyNotJoin$State", "left", "LWhyNotJoin$PairList;", true)
  | 1 => ("WhyNotJoin$State", "right", "LWhyNotJoin$PairList;", true)
  | 2 => ("WhyNotJoin$State", "filters", "LWhyNotJoin$FilterList;", true)
  | _ => ("WhyNotJoin$State", "wishes", "LWhyNotJoin$PairList;", true)
def tyX5 : Nat → FieldType := fun k => match k with
  | 0 => .object "WhyNotJoin$PairList"
  | 1 => .object "WhyNotJoin$PairList"
  | 2 => .object "WhyNotJoin$FilterList"
  | _ => .object "WhyNotJoin$PairList"
abbrev wsX50 : List Cond := u_ws RX5 TX5 4
theorem nmX5 : ∀ a, a < 4 → ∀ b, b < 4 → a ≠ b → (TX5 a).2.1 ≠ (TX5 b).2.1 := by decide +kernel
theorem tyX5_ok : ∀ k, k < 4 → parseFieldDescriptor (TX5 k).2.2.1 = some (tyX5 k) := by decide +kernel
abbrev cX5_init : ByteArray := prog_7_method_1_code
def yX5_init : MethodName := ⟨RX5, "<init>", "()V"⟩
abbrev cX5_copyFrom : ByteArray := prog_7_method_2_code
def yX5_copyFrom : MethodName := ⟨RX5, "copyFrom", "(LWhyNotJoin$State;)V"⟩
def RX6 : String := "WhyNotJoin$Text"
def TX6 : u_T := fun k => match k with
  | 0 => ("WhyNotJoin$Text", "bytes", "[I", true)
  | _ => ("WhyNotJoin$Text", "length", "I", false)
def tyX6 : Nat → FieldType := fun k => match k with
  | 0 => .array .int
  | _ => .int
abbrev wsX60 : List Cond := u_ws RX6 TX6 2
theorem nmX6 : ∀ a, a < 2 → ∀ b, b < 2 → a ≠ b → (TX6 a).2.1 ≠ (TX6 b).2.1 := by decide +kernel
theorem tyX6_ok : ∀ k, k < 2 → parseFieldDescriptor (TX6 k).2.2.1 = some (tyX6 k) := by decide +kernel
abbrev cX6_init : ByteArray := prog_8_method_1_code
def yX6_init : MethodName := ⟨RX6, "<init>", "()V"⟩
abbrev cX6_put : ByteArray := prog_8_method_2_code
def yX6_put : MethodName := ⟨RX6, "put", "(I)I"⟩
abbrev cX6_empty : ByteArray := prog_8_method_3_code
def yX6_empty : MethodName := ⟨RX6, "empty", "()I"⟩
abbrev cX6_byteAt : ByteArray := prog_8_method_4_code
def yX6_byteAt : MethodName := ⟨RX6, "byteAt", "(I)I"⟩
def RX7 : String := "WhyNotJoin"
def TX7 : u_T := fun k => match k with
  | 0 => ("WhyNotJoin", "query", "LWhyNotJoin$Query;", true)
  | 1 => ("WhyNotJoin", "state", "LWhyNotJoin$State;", true)
  | 2 => ("WhyNotJoin", "history", "LWhyNotJoin$History;", true)
  | 3 => ("WhyNotJoin", "script", "LWhyNotJoin$Script;", true)
  | 4 => ("WhyNotJoin", "text", "LWhyNotJoin$Text;", true)
  | _ => ("WhyNotJoin", "errors", "[I", true)
def tyX7 : Nat → FieldType := fun k => match k with
  | 0 => .object "WhyNotJoin$Query"
  | 1 => .object "WhyNotJoin$State"
  | 2 => .object "WhyNotJoin$History"
  | 3 => .object "WhyNotJoin$Script"
  | 4 => .object "WhyNotJoin$Text"
  | _ => .array .int
abbrev wsX70 : List Cond := u_ws RX7 TX7 6
theorem nmX7 : ∀ a, a < 6 → ∀ b, b < 6 → a ≠ b → (TX7 a).2.1 ≠ (TX7 b).2.1 := by decide +kernel
theorem tyX7_ok : ∀ k, k < 6 → parseFieldDescriptor (TX7 k).2.2.1 = some (tyX7 k) := by decide +kernel
abbrev cX7_init : ByteArray := prog_1_method_1_code
def yX7_init : MethodName := ⟨RX7, "<init>", "()V"⟩
abbrev cX7_addLeft : ByteArray := prog_1_method_2_code
def yX7_addLeft : MethodName := ⟨RX7, "addLeft", "(II)I"⟩
abbrev cX7_addRight : ByteArray := prog_1_method_3_code
def yX7_addRight : MethodName := ⟨RX7, "addRight", "(II)I"⟩
abbrev cX7_removeLeft : ByteArray := prog_1_method_4_code
def yX7_removeLeft : MethodName := ⟨RX7, "removeLeft", "(I)I"⟩
abbrev cX7_removeRight : ByteArray := prog_1_method_5_code
def yX7_removeRight : MethodName := ⟨RX7, "removeRight", "(I)I"⟩
abbrev cX7_leftRow : ByteArray := prog_1_method_6_code
def yX7_leftRow : MethodName := ⟨RX7, "leftRow", "(I)I"⟩
abbrev cX7_rightRow : ByteArray := prog_1_method_7_code
def yX7_rightRow : MethodName := ⟨RX7, "rightRow", "(I)I"⟩
abbrev cX7_addFilter : ByteArray := prog_1_method_8_code
def yX7_addFilter : MethodName := ⟨RX7, "addFilter", "(IIII)I"⟩
abbrev cX7_removeFilter : ByteArray := prog_1_method_9_code
def yX7_removeFilter : MethodName := ⟨RX7, "removeFilter", "(I)I"⟩
abbrev cX7_setConstant : ByteArray := prog_1_method_10_code
def yX7_setConstant : MethodName := ⟨RX7, "setConstant", "(II)I"⟩
abbrev cX7_filterCount : ByteArray := prog_1_method_11_code
def yX7_filterCount : MethodName := ⟨RX7, "filterCount", "()I"⟩
abbrev cX7_constant : ByteArray := prog_1_method_12_code
def yX7_constant : MethodName := ⟨RX7, "constant", "(I)I"⟩
abbrev cX7_acceptedBy : ByteArray := prog_1_method_13_code
def yX7_acceptedBy : MethodName := ⟨RX7, "acceptedBy", "(I)I"⟩
abbrev cX7_answerCount : ByteArray := prog_1_method_14_code
def yX7_answerCount : MethodName := ⟨RX7, "answerCount", "()I"⟩
abbrev cX7_answer : ByteArray := prog_1_method_15_code
def yX7_answer : MethodName := ⟨RX7, "answer", "(I)I"⟩
abbrev cX7_matchCount : ByteArray := prog_1_method_16_code
def yX7_matchCount : MethodName := ⟨RX7, "matchCount", "(II)I"⟩
abbrev cX7_blame : ByteArray := prog_1_method_17_code
def yX7_blame : MethodName := ⟨RX7, "blame", "(II)I"⟩
abbrev cX7_filtersToRemove : ByteArray := prog_1_method_18_code
def yX7_filtersToRemove : MethodName := ⟨RX7, "filtersToRemove", "(II)I"⟩
abbrev cX7_repairedConstant : ByteArray := prog_1_method_19_code
def yX7_repairedConstant : MethodName := ⟨RX7, "repairedConstant", "(III)I"⟩
abbrev cX7_missingRows : ByteArray := prog_1_method_20_code
def yX7_missingRows : MethodName := ⟨RX7, "missingRows", "(II)I"⟩
abbrev cX7_missingB : ByteArray := prog_1_method_21_code
def yX7_missingB : MethodName := ⟨RX7, "missingB", "(II)I"⟩
abbrev cX7_insertMissing : ByteArray := prog_1_method_22_code
def yX7_insertMissing : MethodName := ⟨RX7, "insertMissing", "(II)I"⟩
abbrev cX7_loosen : ByteArray := prog_1_method_23_code
def yX7_loosen : MethodName := ⟨RX7, "loosen", "(II)I"⟩
abbrev cX7_addWish : ByteArray := prog_1_method_24_code
def yX7_addWish : MethodName := ⟨RX7, "addWish", "(II)I"⟩
abbrev cX7_clearWishes : ByteArray := prog_1_method_25_code
def yX7_clearWishes : MethodName := ⟨RX7, "clearWishes", "()I"⟩
abbrev cX7_satisfiedWishes : ByteArray := prog_1_method_26_code
def yX7_satisfiedWishes : MethodName := ⟨RX7, "satisfiedWishes", "()I"⟩
abbrev cX7_filtersToRemoveForWishes : ByteArray := prog_1_method_27_code
def yX7_filtersToRemoveForWishes : MethodName := ⟨RX7, "filtersToRemoveForWishes", "()I"⟩
abbrev cX7_append : ByteArray := prog_1_method_28_code
def yX7_append : MethodName := ⟨RX7, "append", "(I)I"⟩
abbrev cX7_clearText : ByteArray := prog_1_method_29_code
def yX7_clearText : MethodName := ⟨RX7, "clearText", "()I"⟩
abbrev cX7_runScript : ByteArray := prog_1_method_30_code
def yX7_runScript : MethodName := ⟨RX7, "runScript", "()I"⟩
abbrev cX7_undo : ByteArray := prog_1_method_31_code
def yX7_undo : MethodName := ⟨RX7, "undo", "()I"⟩
abbrev cX7_errorCount : ByteArray := prog_1_method_32_code
def yX7_errorCount : MethodName := ⟨RX7, "errorCount", "(I)I"⟩
abbrev cX7_digest : ByteArray := prog_1_method_33_code
def yX7_digest : MethodName := ⟨RX7, "digest", "()J"⟩
abbrev cX7_mix : ByteArray := prog_1_method_34_code
def yX7_mix : MethodName := ⟨RX7, "mix", "(JJ)J"⟩
abbrev cX7_mixPairs : ByteArray := prog_1_method_35_code
def yX7_mixPairs : MethodName := ⟨RX7, "mixPairs", "(JLWhyNotJoin$PairList;)J"⟩
abbrev cX7_mixFilters : ByteArray := prog_1_method_36_code
def yX7_mixFilters : MethodName := ⟨RX7, "mixFilters", "(J)J"⟩
abbrev cX7_mixAnswers : ByteArray := prog_1_method_37_code
def yX7_mixAnswers : MethodName := ⟨RX7, "mixAnswers", "(J)J"⟩
abbrev cX7_mixWishes : ByteArray := prog_1_method_38_code
def yX7_mixWishes : MethodName := ⟨RX7, "mixWishes", "(J)J"⟩
abbrev cX7_settle : ByteArray := prog_1_method_39_code
def yX7_settle : MethodName := ⟨RX7, "settle", "(I)I"⟩
abbrev cX7_report : ByteArray := prog_1_method_40_code
def yX7_report : MethodName := ⟨RX7, "report", "(I)I"⟩
abbrev cX7_insertRowsOf : ByteArray := prog_1_method_41_code
def yX7_insertRowsOf : MethodName := ⟨RX7, "insertRowsOf", "(II)I"⟩
abbrev cX7_dropFiltersAgainst : ByteArray := prog_1_method_42_code
def yX7_dropFiltersAgainst : MethodName := ⟨RX7, "dropFiltersAgainst", "(II)I"⟩
abbrev cX7_perform : ByteArray := prog_1_method_43_code
def yX7_perform : MethodName := ⟨RX7, "perform", "(I)I"⟩
abbrev cX7_isError : ByteArray := prog_1_method_44_code
def yX7_isError : MethodName := ⟨RX7, "isError", "(I)Z"⟩
abbrev cX7_isValue : ByteArray := prog_1_method_45_code
def yX7_isValue : MethodName := ⟨RX7, "isValue", "(I)Z"⟩
abbrev cX7_isPair : ByteArray := prog_1_method_46_code
def yX7_isPair : MethodName := ⟨RX7, "isPair", "(II)Z"⟩
abbrev cX7_isIn : ByteArray := prog_1_method_47_code
def yX7_isIn : MethodName := ⟨RX7, "isIn", "(II)Z"⟩
def RX8 : String := "WhyNotJoinModel"
def TX8 : u_T := fun k => match k with
  | 0 => ("WhyNotJoinModel", "s", "[I", true)
  | 1 => ("WhyNotJoinModel", "ahead", "[I", true)
  | 2 => ("WhyNotJoinModel", "past", "[I", true)
  | 3 => ("WhyNotJoinModel", "pasts", "I", false)
  | 4 => ("WhyNotJoinModel", "errors", "[I", true)
  | 5 => ("WhyNotJoinModel", "isScript", "Z", false)
  | 6 => ("WhyNotJoinModel", "text", "[B", true)
  | 7 => ("WhyNotJoinModel", "typed", "I", false)
  | 8 => ("WhyNotJoinModel", "remaining", "I", false)
  | 9 => ("WhyNotJoinModel", "commands", "[I", true)
  | 10 => ("WhyNotJoinModel", "commandCount", "I", false)
  | 11 => ("WhyNotJoinModel", "at", "I", false)
  | 12 => ("WhyNotJoinModel", "isWrong", "Z", false)
  | _ => ("WhyNotJoinModel", "hash", "J", false)
def tyX8 : Nat → FieldType := fun k => match k with
  | 0 => .array .int
  | 1 => .array .int
  | 2 => .array .int
  | 3 => .int
  | 4 => .array .int
  | 5 => .boolean
  | 6 => .array .byte
  | 7 => .int
  | 8 => .int
  | 9 => .array .int
  | 10 => .int
  | 11 => .int
  | 12 => .boolean
  | _ => .long
abbrev wsX80 : List Cond := u_ws RX8 TX8 14
theorem nmX8 : ∀ a, a < 14 → ∀ b, b < 14 → a ≠ b → (TX8 a).2.1 ≠ (TX8 b).2.1 := by decide +kernel
theorem tyX8_ok : ∀ k, k < 14 → parseFieldDescriptor (TX8 k).2.2.1 = some (tyX8 k) := by decide +kernel
abbrev cX8_init : ByteArray := prog_10_method_1_code
def yX8_init : MethodName := ⟨RX8, "<init>", "()V"⟩
abbrev cX8_in : ByteArray := prog_10_method_3_code
def yX8_in : MethodName := ⟨RX8, "in", "(III)Z"⟩
abbrev cX8_fail : ByteArray := prog_10_method_4_code
def yX8_fail : MethodName := ⟨RX8, "fail", "(I)I"⟩
abbrev cX8_note : ByteArray := prog_10_method_5_code
def yX8_note : MethodName := ⟨RX8, "note", "()V"⟩
abbrev cX8_isDigitPair : ByteArray := prog_10_method_6_code
def yX8_isDigitPair : MethodName := ⟨RX8, "isDigitPair", "(II)Z"⟩
abbrev cX8_placeOf : ByteArray := prog_10_method_7_code
def yX8_placeOf : MethodName := ⟨RX8, "placeOf", "(II)I"⟩
abbrev cX8_adds : ByteArray := prog_10_method_8_code
def yX8_adds : MethodName := ⟨RX8, "adds", "(III)I"⟩
abbrev cX8_putBehind : ByteArray := prog_10_method_9_code
def yX8_putBehind : MethodName := ⟨RX8, "putBehind", "(II)V"⟩
abbrev cX8_removes : ByteArray := prog_10_method_10_code
def yX8_removes : MethodName := ⟨RX8, "removes", "(II)I"⟩
abbrev cX8_rowAt : ByteArray := prog_10_method_11_code
def yX8_rowAt : MethodName := ⟨RX8, "rowAt", "(II)I"⟩
abbrev cX8_addLeft : ByteArray := prog_10_method_12_code
def yX8_addLeft : MethodName := ⟨RX8, "addLeft", "(II)I"⟩
abbrev cX8_addRight : ByteArray := prog_10_method_13_code
def yX8_addRight : MethodName := ⟨RX8, "addRight", "(II)I"⟩
abbrev cX8_removeLeft : ByteArray := prog_10_method_14_code
def yX8_removeLeft : MethodName := ⟨RX8, "removeLeft", "(I)I"⟩
abbrev cX8_removeRight : ByteArray := prog_10_method_15_code
def yX8_removeRight : MethodName := ⟨RX8, "removeRight", "(I)I"⟩
abbrev cX8_leftRow : ByteArray := prog_10_method_16_code
def yX8_leftRow : MethodName := ⟨RX8, "leftRow", "(I)I"⟩
abbrev cX8_rightRow : ByteArray := prog_10_method_17_code
def yX8_rightRow : MethodName := ⟨RX8, "rightRow", "(I)I"⟩
abbrev cX8_of : ByteArray := prog_10_method_18_code
def yX8_of : MethodName := ⟨RX8, "of", "(II)I"⟩
abbrev cX8_isFilter : ByteArray := prog_10_method_19_code
def yX8_isFilter : MethodName := ⟨RX8, "isFilter", "(I)Z"⟩
abbrev cX8_isConstant : ByteArray := prog_10_method_20_code
def yX8_isConstant : MethodName := ⟨RX8, "isConstant", "(II)Z"⟩
abbrev cX8_addFilter : ByteArray := prog_10_method_21_code
def yX8_addFilter : MethodName := ⟨RX8, "addFilter", "(IIII)I"⟩
abbrev cX8_dropFilter : ByteArray := prog_10_method_22_code
def yX8_dropFilter : MethodName := ⟨RX8, "dropFilter", "(I)V"⟩
abbrev cX8_removeFilter : ByteArray := prog_10_method_23_code
def yX8_removeFilter : MethodName := ⟨RX8, "removeFilter", "(I)I"⟩
abbrev cX8_setConstant : ByteArray := prog_10_method_24_code
def yX8_setConstant : MethodName := ⟨RX8, "setConstant", "(II)I"⟩
abbrev cX8_filterCount : ByteArray := prog_10_method_25_code
def yX8_filterCount : MethodName := ⟨RX8, "filterCount", "()I"⟩
abbrev cX8_constant : ByteArray := prog_10_method_26_code
def yX8_constant : MethodName := ⟨RX8, "constant", "(I)I"⟩
abbrev cX8_holds : ByteArray := prog_10_method_27_code
def yX8_holds : MethodName := ⟨RX8, "holds", "(III)Z"⟩
abbrev cX8_columnOf : ByteArray := prog_10_method_28_code
def yX8_columnOf : MethodName := ⟨RX8, "columnOf", "(IIIII)I"⟩
abbrev cX8_accepts : ByteArray := prog_10_method_29_code
def yX8_accepts : MethodName := ⟨RX8, "accepts", "(IIII)Z"⟩
abbrev cX8_passes : ByteArray := prog_10_method_30_code
def yX8_passes : MethodName := ⟨RX8, "passes", "(IIIII)Z"⟩
abbrev cX8_passesAll : ByteArray := prog_10_method_31_code
def yX8_passesAll : MethodName := ⟨RX8, "passesAll", "(IIII)Z"⟩
abbrev cX8_hasLeft : ByteArray := prog_10_method_32_code
def yX8_hasLeft : MethodName := ⟨RX8, "hasLeft", "(II)Z"⟩
abbrev cX8_hasRight : ByteArray := prog_10_method_33_code
def yX8_hasRight : MethodName := ⟨RX8, "hasRight", "(II)Z"⟩
abbrev cX8_acceptedBy : ByteArray := prog_10_method_34_code
def yX8_acceptedBy : MethodName := ⟨RX8, "acceptedBy", "(I)I"⟩
abbrev cX8_accepted : ByteArray := prog_10_method_35_code
def yX8_accepted : MethodName := ⟨RX8, "accepted", "(I)I"⟩
abbrev cX8_matches : ByteArray := prog_10_method_36_code
def yX8_matches : MethodName := ⟨RX8, "matches", "(III)I"⟩
abbrev cX8_isAnswer : ByteArray := prog_10_method_37_code
def yX8_isAnswer : MethodName := ⟨RX8, "isAnswer", "(II)Z"⟩
abbrev cX8_answers : ByteArray := prog_10_method_38_code
def yX8_answers : MethodName := ⟨RX8, "answers", "()I"⟩
abbrev cX8_answerCount : ByteArray := prog_10_method_39_code
def yX8_answerCount : MethodName := ⟨RX8, "answerCount", "()I"⟩
abbrev cX8_answerAt : ByteArray := prog_10_method_40_code
def yX8_answerAt : MethodName := ⟨RX8, "answerAt", "(I)I"⟩
abbrev cX8_answer : ByteArray := prog_10_method_41_code
def yX8_answer : MethodName := ⟨RX8, "answer", "(I)I"⟩
abbrev cX8_matchCount : ByteArray := prog_10_method_42_code
def yX8_matchCount : MethodName := ⟨RX8, "matchCount", "(II)I"⟩
abbrev cX8_dropper : ByteArray := prog_10_method_43_code
def yX8_dropper : MethodName := ⟨RX8, "dropper", "(III)I"⟩
abbrev cX8_cause : ByteArray := prog_10_method_44_code
def yX8_cause : MethodName := ⟨RX8, "cause", "(II)I"⟩
abbrev cX8_blame : ByteArray := prog_10_method_45_code
def yX8_blame : MethodName := ⟨RX8, "blame", "(II)I"⟩
abbrev cX8_ones : ByteArray := prog_10_method_46_code
def yX8_ones : MethodName := ⟨RX8, "ones", "(I)I"⟩
abbrev cX8_removal : ByteArray := prog_10_method_47_code
def yX8_removal : MethodName := ⟨RX8, "removal", "(II)I"⟩
abbrev cX8_filtersToRemove : ByteArray := prog_10_method_48_code
def yX8_filtersToRemove : MethodName := ⟨RX8, "filtersToRemove", "(II)I"⟩
abbrev cX8_repairedConstant : ByteArray := prog_10_method_49_code
def yX8_repairedConstant : MethodName := ⟨RX8, "repairedConstant", "(III)I"⟩
abbrev cX8_costOf : ByteArray := prog_10_method_50_code
def yX8_costOf : MethodName := ⟨RX8, "costOf", "(III)I"⟩
abbrev cX8_bestB : ByteArray := prog_10_method_51_code
def yX8_bestB : MethodName := ⟨RX8, "bestB", "(II)I"⟩
abbrev cX8_missing : ByteArray := prog_10_method_52_code
def yX8_missing : MethodName := ⟨RX8, "missing", "(II)I"⟩
abbrev cX8_missingRows : ByteArray := prog_10_method_53_code
def yX8_missingRows : MethodName := ⟨RX8, "missingRows", "(II)I"⟩
abbrev cX8_missingAt : ByteArray := prog_10_method_54_code
def yX8_missingAt : MethodName := ⟨RX8, "missingAt", "(II)I"⟩
abbrev cX8_missingB : ByteArray := prog_10_method_55_code
def yX8_missingB : MethodName := ⟨RX8, "missingB", "(II)I"⟩
abbrev cX8_insertMissing : ByteArray := prog_10_method_56_code
def yX8_insertMissing : MethodName := ⟨RX8, "insertMissing", "(II)I"⟩
abbrev cX8_loosen : ByteArray := prog_10_method_57_code
def yX8_loosen : MethodName := ⟨RX8, "loosen", "(II)I"⟩
abbrev cX8_addWish : ByteArray := prog_10_method_58_code
def yX8_addWish : MethodName := ⟨RX8, "addWish", "(II)I"⟩
abbrev cX8_clearWishes : ByteArray := prog_10_method_59_code
def yX8_clearWishes : MethodName := ⟨RX8, "clearWishes", "()I"⟩
abbrev cX8_satisfied : ByteArray := prog_10_method_60_code
def yX8_satisfied : MethodName := ⟨RX8, "satisfied", "(I)I"⟩
abbrev cX8_satisfiedWishes : ByteArray := prog_10_method_61_code
def yX8_satisfiedWishes : MethodName := ⟨RX8, "satisfiedWishes", "()I"⟩
abbrev cX8_removalForWishes : ByteArray := prog_10_method_62_code
def yX8_removalForWishes : MethodName := ⟨RX8, "removalForWishes", "()I"⟩
abbrev cX8_filtersToRemoveForWishes : ByteArray := prog_10_method_63_code
def yX8_filtersToRemoveForWishes : MethodName := ⟨RX8, "filtersToRemoveForWishes", "()I"⟩
abbrev cX8_append : ByteArray := prog_10_method_64_code
def yX8_append : MethodName := ⟨RX8, "append", "(I)I"⟩
abbrev cX8_clearText : ByteArray := prog_10_method_65_code
def yX8_clearText : MethodName := ⟨RX8, "clearText", "()I"⟩
abbrev cX8_here : ByteArray := prog_10_method_66_code
def yX8_here : MethodName := ⟨RX8, "here", "()I"⟩
abbrev cX8_skip : ByteArray := prog_10_method_67_code
def yX8_skip : MethodName := ⟨RX8, "skip", "()V"⟩
abbrev cX8_numbersOf : ByteArray := prog_10_method_68_code
def yX8_numbersOf : MethodName := ⟨RX8, "numbersOf", "(I)I"⟩
abbrev cX8_readNumber : ByteArray := prog_10_method_69_code
def yX8_readNumber : MethodName := ⟨RX8, "readNumber", "(Z)I"⟩
abbrev cX8_readCommand : ByteArray := prog_10_method_70_code
def yX8_readCommand : MethodName := ⟨RX8, "readCommand", "()V"⟩
abbrev cX8_execute : ByteArray := prog_10_method_71_code
def yX8_execute : MethodName := ⟨RX8, "execute", "(I)I"⟩
abbrev cX8_runScript : ByteArray := prog_10_method_72_code
def yX8_runScript : MethodName := ⟨RX8, "runScript", "()I"⟩
abbrev cX8_ends : ByteArray := prog_10_method_73_code
def yX8_ends : MethodName := ⟨RX8, "ends", "(I)I"⟩
abbrev cX8_undo : ByteArray := prog_10_method_74_code
def yX8_undo : MethodName := ⟨RX8, "undo", "()I"⟩
abbrev cX8_errorCount : ByteArray := prog_10_method_75_code
def yX8_errorCount : MethodName := ⟨RX8, "errorCount", "(I)I"⟩
abbrev cX8_add : ByteArray := prog_10_method_76_code
def yX8_add : MethodName := ⟨RX8, "add", "(I)V"⟩
abbrev cX8_addRows : ByteArray := prog_10_method_77_code
def yX8_addRows : MethodName := ⟨RX8, "addRows", "(I)V"⟩
abbrev cX8_addFilters : ByteArray := prog_10_method_78_code
def yX8_addFilters : MethodName := ⟨RX8, "addFilters", "()V"⟩
abbrev cX8_addWishes : ByteArray := prog_10_method_79_code
def yX8_addWishes : MethodName := ⟨RX8, "addWishes", "()V"⟩
abbrev cX8_digest : ByteArray := prog_10_method_80_code
def yX8_digest : MethodName := ⟨RX8, "digest", "()J"⟩
def RJ6 : String := "java/lang/Integer"
def TJ6 : u_T := fun k => match k with
  | _ => ("", "", "", false)
def tyJ6 : Nat → FieldType := fun k => match k with
  | _ => .int
abbrev wsJ60 : List Cond := u_ws RJ6 TJ6 0
theorem nmJ6 : ∀ a, a < 0 → ∀ b, b < 0 → a ≠ b → (TJ6 a).2.1 ≠ (TJ6 b).2.1 := by decide +kernel
theorem tyJ6_ok : ∀ k, k < 0 → parseFieldDescriptor (TJ6 k).2.2.1 = some (tyJ6 k) := by decide +kernel
abbrev cJ6_bitCount_0f7a4 : ByteArray := prog_11_method_49_code
def yJ6_bitCount_0f7a4 : MethodName := ⟨RJ6, "bitCount", "(I)I"⟩
def RJ9 : String := "java/lang/Math"
def TJ9 : u_T := fun k => match k with
  | _ => ("", "", "", false)
def tyJ9 : Nat → FieldType := fun k => match k with
  | _ => .int
abbrev wsJ90 : List Cond := u_ws RJ9 TJ9 0
theorem nmJ9 : ∀ a, a < 0 → ∀ b, b < 0 → a ≠ b → (TJ9 a).2.1 ≠ (TJ9 b).2.1 := by decide +kernel
theorem tyJ9_ok : ∀ k, k < 0 → parseFieldDescriptor (TJ9 k).2.2.1 = some (tyJ9 k) := by decide +kernel
abbrev cJ9_min_7cf53 : ByteArray := prog_12_method_69_code
def yJ9_min_7cf53 : MethodName := ⟨RJ9, "min", "(II)I"⟩
def RJ10 : String := "java/lang/System"
def TJ10 : u_T := fun k => match k with
  | _ => ("", "", "", false)
def tyJ10 : Nat → FieldType := fun k => match k with
  | _ => .int
abbrev wsJ100 : List Cond := u_ws RJ10 TJ10 0
theorem nmJ10 : ∀ a, a < 0 → ∀ b, b < 0 → a ≠ b → (TJ10 a).2.1 ≠ (TJ10 b).2.1 := by decide +kernel
theorem tyJ10_ok : ∀ k, k < 0 → parseFieldDescriptor (TJ10 k).2.2.1 = some (tyJ10 k) := by decide +kernel
def RJ7 : String := "java/util/Arrays"
def TJ7 : u_T := fun k => match k with
  | _ => ("", "", "", false)
def tyJ7 : Nat → FieldType := fun k => match k with
  | _ => .int
abbrev wsJ70 : List Cond := u_ws RJ7 TJ7 0
theorem nmJ7 : ∀ a, a < 0 → ∀ b, b < 0 → a ≠ b → (TJ7 a).2.1 ≠ (TJ7 b).2.1 := by decide +kernel
theorem tyJ7_ok : ∀ k, k < 0 → parseFieldDescriptor (TJ7 k).2.2.1 = some (tyJ7 k) := by decide +kernel
abbrev cJ7_fill_53178 : ByteArray := prog_14_method_103_code
def yJ7_fill_53178 : MethodName := ⟨RJ7, "fill", "([II)V"⟩
def RL : String := "WhyNotJoinLaw"
abbrev cL_law : ByteArray := code
def yL_law : MethodName := ⟨RL, "law", "([I)Z"⟩
abbrev vwCl : List vw_C := [(RX0, TX0, 5), (RX1, TX1, 3), (RX2, TX2, 3), (RX3, TX3, 3), (RX4, TX4, 5), (RX5, TX5, 4), (RX6, TX6, 2), (RX7, TX7, 6), (RX8, TX8, 14)]
end
section
def lwT : List Cond := lw_tbl.filter goodWord
theorem tw_in {w : Cond} (h : w ∈ lw_tbl) (hg : goodWord w = true) : w ∈ lwT := List.mem_filter.mpr ⟨h, hg⟩
theorem tw_out {w : Cond} (h : w ∈ lwT) : w ∈ lw_tbl ∧ ((w.onTables && w.keeps) = true ∨ ∃ ty, w = .arrayClass ty) := ⟨(List.mem_filter.mp h).1, good_of_word (List.mem_filter.mp h).2⟩
theorem tw_c0 {w : Cond} (h : w ∈ k2_sels lw_privs) : w ∈ lw_tbl := List.mem_append_left _ h
theorem tw_c1 {w : Cond} (h : w ∈ tables_1_1) : w ∈ lw_tbl := List.mem_append_right _ (show w ∈ tables_1 from List.mem_append_left _ h)
theorem tw_c2 {w : Cond} (h : w ∈ tables_1_2) : w ∈ lw_tbl := List.mem_append_right _ (show w ∈ tables_1 from List.mem_append_right _ (List.mem_append_left _ h))
theorem tw_c3 {w : Cond} (h : w ∈ tables_1_3) : w ∈ lw_tbl := List.mem_append_right _ (show w ∈ tables_1 from List.mem_append_right _ (List.mem_append_right _ (List.mem_append_left _ h)))
theorem tw_c4 {w : Cond} (h : w ∈ tables_1_4) : w ∈ lw_tbl := List.mem_append_right _ (show w ∈ tables_1 from List.mem_append_right _ (List.mem_append_right _ (List.mem_append_right _ (List.mem_append_left _ h))))
theorem tw_c5 {w : Cond} (h : w ∈ tables_1_5) : w ∈ lw_tbl := List.mem_append_right _ (show w ∈ tables_1 from List.mem_append_right _ (List.mem_append_right _ (List.mem_append_right _ (List.mem_append_right _ (h)))))
theorem tv_X7_settle : Cond.selects RX7 yX7_settle yX7_settle ∈ lwT := tw_in (tw_c0 (List.mem_of_getElem? (i := 0) rfl)) rfl
theorem tv_X7_report : Cond.selects RX7 yX7_report yX7_report ∈ lwT := tw_in (tw_c0 (List.mem_of_getElem? (i := 1) rfl)) rfl
theorem tv_X3_countAcceptedLeft : Cond.selects RX3 yX3_countAcceptedLeft yX3_countAcceptedLeft ∈ lwT := tw_in (tw_c0 (List.mem_of_getElem? (i := 2) rfl)) rfl
theorem tv_X0_valueOf : Cond.selects RX0 yX0_valueOf yX0_valueOf ∈ lwT := tw_in (tw_c0 (List.mem_of_getElem? (i := 3) rfl)) rfl
theorem tv_X3_countAcceptedRight : Cond.selects RX3 yX3_countAcceptedRight yX3_countAcceptedRight ∈ lwT := tw_in (tw_c0 (List.mem_of_getElem? (i := 4) rfl)) rfl
theorem tv_X3_countAcceptedJoined : Cond.selects RX3 yX3_countAcceptedJoined yX3_countAcceptedJoined ∈ lwT := tw_in (tw_c0 (List.mem_of_getElem? (i := 5) rfl)) rfl
theorem tv_X3_tallyMatches : Cond.selects RX3 yX3_tallyMatches yX3_tallyMatches ∈ lwT := tw_in (tw_c0 (List.mem_of_getElem? (i := 6) rfl)) rfl
theorem tv_X3_joinedBs : Cond.selects RX3 yX3_joinedBs yX3_joinedBs ∈ lwT := tw_in (tw_c0 (List.mem_of_getElem? (i := 7) rfl)) rfl
theorem tv_X3_emptyingFilter : Cond.selects RX3 yX3_emptyingFilter yX3_emptyingFilter ∈ lwT := tw_in (tw_c0 (List.mem_of_getElem? (i := 8) rfl)) rfl
theorem tv_X3_acceptedBs : Cond.selects RX3 yX3_acceptedBs yX3_acceptedBs ∈ lwT := tw_in (tw_c0 (List.mem_of_getElem? (i := 9) rfl)) rfl
theorem tv_X3_survivors : Cond.selects RX3 yX3_survivors yX3_survivors ∈ lwT := tw_in (tw_c0 (List.mem_of_getElem? (i := 10) rfl)) rfl
theorem tv_X3_bsAcceptedByOthers : Cond.selects RX3 yX3_bsAcceptedByOthers yX3_bsAcceptedByOthers ∈ lwT := tw_in (tw_c0 (List.mem_of_getElem? (i := 11) rfl)) rfl
theorem tv_X3_isRepair : Cond.selects RX3 yX3_isRepair yX3_isRepair ∈ lwT := tw_in (tw_c0 (List.mem_of_getElem? (i := 12) rfl)) rfl
theorem tv_X3_costOf : Cond.selects RX3 yX3_costOf yX3_costOf ∈ lwT := tw_in (tw_c0 (List.mem_of_getElem? (i := 13) rfl)) rfl
theorem tv_X7_insertRowsOf : Cond.selects RX7 yX7_insertRowsOf yX7_insertRowsOf ∈ lwT := tw_in (tw_c0 (List.mem_of_getElem? (i := 14) rfl)) rfl
theorem tv_X7_dropFiltersAgainst : Cond.selects RX7 yX7_dropFiltersAgainst yX7_dropFiltersAgainst ∈ lwT := tw_in (tw_c0 (List.mem_of_getElem? (i := 15) rfl)) rfl
theorem tv_X3_listWishRejecters : Cond.selects RX3 yX3_listWishRejecters yX3_listWishRejecters ∈ lwT := tw_in (tw_c0 (List.mem_of_getElem? (i := 16) rfl)) rfl
theorem tv_X3_grantsWishes : Cond.selects RX3 yX3_grantsWishes yX3_grantsWishes ∈ lwT := tw_in (tw_c0 (List.mem_of_getElem? (i := 17) rfl)) rfl
theorem tv_X3_grantsWish : Cond.selects RX3 yX3_grantsWish yX3_grantsWish ∈ lwT := tw_in (tw_c0 (List.mem_of_getElem? (i := 18) rfl)) rfl
theorem tv_X4_skipSpaces : Cond.selects RX4 yX4_skipSpaces yX4_skipSpaces ∈ lwT := tw_in (tw_c0 (List.mem_of_getElem? (i := 19) rfl)) rfl
theorem tv_X4_readCommand : Cond.selects RX4 yX4_readCommand yX4_readCommand ∈ lwT := tw_in (tw_c0 (List.mem_of_getElem? (i := 20) rfl)) rfl
theorem tv_X4_readNumber : Cond.selects RX4 yX4_readNumber yX4_readNumber ∈ lwT := tw_in (tw_c0 (List.mem_of_getElem? (i := 21) rfl)) rfl
theorem tv_X7_perform : Cond.selects RX7 yX7_perform yX7_perform ∈ lwT := tw_in (tw_c0 (List.mem_of_getElem? (i := 22) rfl)) rfl
theorem tv_X7_mixFilters : Cond.selects RX7 yX7_mixFilters yX7_mixFilters ∈ lwT := tw_in (tw_c0 (List.mem_of_getElem? (i := 23) rfl)) rfl
theorem tv_X7_mixAnswers : Cond.selects RX7 yX7_mixAnswers yX7_mixAnswers ∈ lwT := tw_in (tw_c0 (List.mem_of_getElem? (i := 24) rfl)) rfl
theorem tv_X7_mixWishes : Cond.selects RX7 yX7_mixWishes yX7_mixWishes ∈ lwT := tw_in (tw_c0 (List.mem_of_getElem? (i := 25) rfl)) rfl
theorem tv_X8_adds : Cond.selects RX8 yX8_adds yX8_adds ∈ lwT := tw_in (tw_c0 (List.mem_of_getElem? (i := 26) rfl)) rfl
theorem tv_X8_fail : Cond.selects RX8 yX8_fail yX8_fail ∈ lwT := tw_in (tw_c0 (List.mem_of_getElem? (i := 27) rfl)) rfl
theorem tv_X8_placeOf : Cond.selects RX8 yX8_placeOf yX8_placeOf ∈ lwT := tw_in (tw_c0 (List.mem_of_getElem? (i := 28) rfl)) rfl
theorem tv_X8_note : Cond.selects RX8 yX8_note yX8_note ∈ lwT := tw_in (tw_c0 (List.mem_of_getElem? (i := 29) rfl)) rfl
theorem tv_X8_putBehind : Cond.selects RX8 yX8_putBehind yX8_putBehind ∈ lwT := tw_in (tw_c0 (List.mem_of_getElem? (i := 30) rfl)) rfl
theorem tv_X8_removes : Cond.selects RX8 yX8_removes yX8_removes ∈ lwT := tw_in (tw_c0 (List.mem_of_getElem? (i := 31) rfl)) rfl
theorem tv_X8_rowAt : Cond.selects RX8 yX8_rowAt yX8_rowAt ∈ lwT := tw_in (tw_c0 (List.mem_of_getElem? (i := 32) rfl)) rfl
theorem tv_X8_isFilter : Cond.selects RX8 yX8_isFilter yX8_isFilter ∈ lwT := tw_in (tw_c0 (List.mem_of_getElem? (i := 33) rfl)) rfl
theorem tv_X8_dropFilter : Cond.selects RX8 yX8_dropFilter yX8_dropFilter ∈ lwT := tw_in (tw_c0 (List.mem_of_getElem? (i := 34) rfl)) rfl
theorem tv_X8_of : Cond.selects RX8 yX8_of yX8_of ∈ lwT := tw_in (tw_c0 (List.mem_of_getElem? (i := 35) rfl)) rfl
theorem tv_X8_accepted : Cond.selects RX8 yX8_accepted yX8_accepted ∈ lwT := tw_in (tw_c0 (List.mem_of_getElem? (i := 36) rfl)) rfl
theorem tv_X8_accepts : Cond.selects RX8 yX8_accepts yX8_accepts ∈ lwT := tw_in (tw_c0 (List.mem_of_getElem? (i := 37) rfl)) rfl
theorem tv_X8_answers : Cond.selects RX8 yX8_answers yX8_answers ∈ lwT := tw_in (tw_c0 (List.mem_of_getElem? (i := 38) rfl)) rfl
theorem tv_X8_isAnswer : Cond.selects RX8 yX8_isAnswer yX8_isAnswer ∈ lwT := tw_in (tw_c0 (List.mem_of_getElem? (i := 39) rfl)) rfl
theorem tv_X8_matches : Cond.selects RX8 yX8_matches yX8_matches ∈ lwT := tw_in (tw_c0 (List.mem_of_getElem? (i := 40) rfl)) rfl
theorem tv_X8_hasLeft : Cond.selects RX8 yX8_hasLeft yX8_hasLeft ∈ lwT := tw_in (tw_c0 (List.mem_of_getElem? (i := 41) rfl)) rfl
theorem tv_X8_hasRight : Cond.selects RX8 yX8_hasRight yX8_hasRight ∈ lwT := tw_in (tw_c0 (List.mem_of_getElem? (i := 42) rfl)) rfl
theorem tv_X8_passesAll : Cond.selects RX8 yX8_passesAll yX8_passesAll ∈ lwT := tw_in (tw_c0 (List.mem_of_getElem? (i := 43) rfl)) rfl
theorem tv_X8_passes : Cond.selects RX8 yX8_passes yX8_passes ∈ lwT := tw_in (tw_c0 (List.mem_of_getElem? (i := 44) rfl)) rfl
theorem tv_X8_answerAt : Cond.selects RX8 yX8_answerAt yX8_answerAt ∈ lwT := tw_in (tw_c0 (List.mem_of_getElem? (i := 45) rfl)) rfl
theorem tv_X8_cause : Cond.selects RX8 yX8_cause yX8_cause ∈ lwT := tw_in (tw_c0 (List.mem_of_getElem? (i := 46) rfl)) rfl
theorem tv_X8_dropper : Cond.selects RX8 yX8_dropper yX8_dropper ∈ lwT := tw_in (tw_c0 (List.mem_of_getElem? (i := 47) rfl)) rfl
theorem tv_X8_removal : Cond.selects RX8 yX8_removal yX8_removal ∈ lwT := tw_in (tw_c0 (List.mem_of_getElem? (i := 48) rfl)) rfl
theorem tv_X8_missing : Cond.selects RX8 yX8_missing yX8_missing ∈ lwT := tw_in (tw_c0 (List.mem_of_getElem? (i := 49) rfl)) rfl
theorem tv_X8_bestB : Cond.selects RX8 yX8_bestB yX8_bestB ∈ lwT := tw_in (tw_c0 (List.mem_of_getElem? (i := 50) rfl)) rfl
theorem tv_X8_costOf : Cond.selects RX8 yX8_costOf yX8_costOf ∈ lwT := tw_in (tw_c0 (List.mem_of_getElem? (i := 51) rfl)) rfl
theorem tv_X8_missingAt : Cond.selects RX8 yX8_missingAt yX8_missingAt ∈ lwT := tw_in (tw_c0 (List.mem_of_getElem? (i := 52) rfl)) rfl
theorem tv_X8_satisfied : Cond.selects RX8 yX8_satisfied yX8_satisfied ∈ lwT := tw_in (tw_c0 (List.mem_of_getElem? (i := 53) rfl)) rfl
theorem tv_X8_removalForWishes : Cond.selects RX8 yX8_removalForWishes yX8_removalForWishes ∈ lwT := tw_in (tw_c0 (List.mem_of_getElem? (i := 54) rfl)) rfl
theorem tv_X8_readCommand : Cond.selects RX8 yX8_readCommand yX8_readCommand ∈ lwT := tw_in (tw_c0 (List.mem_of_getElem? (i := 55) rfl)) rfl
theorem tv_X8_skip : Cond.selects RX8 yX8_skip yX8_skip ∈ lwT := tw_in (tw_c0 (List.mem_of_getElem? (i := 56) rfl)) rfl
theorem tv_X8_here : Cond.selects RX8 yX8_here yX8_here ∈ lwT := tw_in (tw_c0 (List.mem_of_getElem? (i := 57) rfl)) rfl
theorem tv_X8_readNumber : Cond.selects RX8 yX8_readNumber yX8_readNumber ∈ lwT := tw_in (tw_c0 (List.mem_of_getElem? (i := 58) rfl)) rfl
theorem tv_X8_execute : Cond.selects RX8 yX8_execute yX8_execute ∈ lwT := tw_in (tw_c0 (List.mem_of_getElem? (i := 59) rfl)) rfl
theorem tv_X8_ends : Cond.selects RX8 yX8_ends yX8_ends ∈ lwT := tw_in (tw_c0 (List.mem_of_getElem? (i := 60) rfl)) rfl
theorem tv_X8_add : Cond.selects RX8 yX8_add yX8_add ∈ lwT := tw_in (tw_c0 (List.mem_of_getElem? (i := 61) rfl)) rfl
theorem tv_X8_addRows : Cond.selects RX8 yX8_addRows yX8_addRows ∈ lwT := tw_in (tw_c0 (List.mem_of_getElem? (i := 62) rfl)) rfl
theorem tv_X8_addFilters : Cond.selects RX8 yX8_addFilters yX8_addFilters ∈ lwT := tw_in (tw_c0 (List.mem_of_getElem? (i := 63) rfl)) rfl
theorem tv_X8_addWishes : Cond.selects RX8 yX8_addWishes yX8_addWishes ∈ lwT := tw_in (tw_c0 (List.mem_of_getElem? (i := 64) rfl)) rfl
theorem tw_1_0 : Cond.initialized RL ∈ lwT := tw_in (tw_c1 (List.mem_of_getElem? (i := 0) rfl)) rfl
theorem tw_1_1 : Cond.initialized RX7 ∈ lwT := tw_in (tw_c1 (List.mem_of_getElem? (i := 1) rfl)) rfl
theorem tw_1_2 : Cond.initialized RX3 ∈ lwT := tw_in (tw_c1 (List.mem_of_getElem? (i := 2) rfl)) rfl
theorem tw_1_3 : Cond.initialized RX5 ∈ lwT := tw_in (tw_c1 (List.mem_of_getElem? (i := 3) rfl)) rfl
theorem tw_1_4 : Cond.initialized RX2 ∈ lwT := tw_in (tw_c1 (List.mem_of_getElem? (i := 4) rfl)) rfl
theorem tw_1_5 : Cond.initialized RJ9 ∈ lwT := tw_in (tw_c1 (List.mem_of_getElem? (i := 5) rfl)) rfl
theorem tw_1_6 : Cond.initialized RX0 ∈ lwT := tw_in (tw_c1 (List.mem_of_getElem? (i := 6) rfl)) rfl
theorem tw_1_7 : Cond.initialized RX1 ∈ lwT := tw_in (tw_c1 (List.mem_of_getElem? (i := 7) rfl)) rfl
theorem tw_1_8 : Cond.initialized RX4 ∈ lwT := tw_in (tw_c1 (List.mem_of_getElem? (i := 8) rfl)) rfl
theorem tw_1_9 : Cond.initialized RX6 ∈ lwT := tw_in (tw_c1 (List.mem_of_getElem? (i := 9) rfl)) rfl
theorem tw_1_10 : Cond.initialized RX8 ∈ lwT := tw_in (tw_c1 (List.mem_of_getElem? (i := 10) rfl)) rfl
theorem tw_1_11 : Cond.initialized RJ10 ∈ lwT := tw_in (tw_c1 (List.mem_of_getElem? (i := 11) rfl)) rfl
theorem tw_1_12 : Cond.initialized RJ7 ∈ lwT := tw_in (tw_c1 (List.mem_of_getElem? (i := 12) rfl)) rfl
theorem tw_1_13 : Cond.initialized RJ6 ∈ lwT := tw_in (tw_c1 (List.mem_of_getElem? (i := 13) rfl)) rfl
theorem tw_1_14 : Cond.classLink RL 7 "WhyNotJoin" ∈ lwT := tw_in (tw_c1 (List.mem_of_getElem? (i := 14) rfl)) rfl
theorem tw_1_15 : Cond.instantiable RX7 6 ∈ lwT := tw_in (tw_c1 (List.mem_of_getElem? (i := 15) rfl)) rfl
theorem tw_1_16 : Cond.methodLink RL 9 yX7_init ∈ lwT := tw_in (tw_c1 (List.mem_of_getElem? (i := 16) rfl)) rfl
theorem tw_1_17 : Cond.instanceMethod yX7_init ∈ lwT := tw_in (tw_c1 (List.mem_of_getElem? (i := 17) rfl)) rfl
theorem tw_1_18 : Cond.code yX7_init cX7_init 1 (none : Option ClassFile.FieldType) ∈ lwT := tw_in (tw_c1 (List.mem_of_getElem? (i := 18) rfl)) rfl
theorem tw_1_19 : Cond.methodLink RX7 3 ⟨"java/lang/Object", "<init>", "()V"⟩ ∈ lwT := tw_in (tw_c1 (List.mem_of_getElem? (i := 19) rfl)) rfl
theorem tw_1_20 : Cond.instanceMethod ⟨"java/lang/Object", "<init>", "()V"⟩ ∈ lwT := tw_in (tw_c1 (List.mem_of_getElem? (i := 20) rfl)) rfl
theorem tw_1_21 : Cond.code ⟨"java/lang/Object", "<init>", "()V"⟩ object_method_1_code 1 (none : Option ClassFile.FieldType) ∈ lwT := tw_in (tw_c1 (List.mem_of_getElem? (i := 21) rfl)) rfl
theorem tw_1_22 : Cond.classLink RX7 9 "WhyNotJoin$Query" ∈ lwT := tw_in (tw_c1 (List.mem_of_getElem? (i := 22) rfl)) rfl
theorem tw_1_23 : Cond.instantiable RX3 3 ∈ lwT := tw_in (tw_c1 (List.mem_of_getElem? (i := 23) rfl)) rfl
theorem tw_1_25 : Cond.instanceMethod yX3_init ∈ lwT := tw_in (tw_c1 (List.mem_of_getElem? (i := 25) rfl)) rfl
theorem tw_1_26 : Cond.code yX3_init cX3_init 1 (none : Option ClassFile.FieldType) ∈ lwT := tw_in (tw_c1 (List.mem_of_getElem? (i := 26) rfl)) rfl
theorem tw_1_27 : Cond.methodLink RX3 3 ⟨"java/lang/Object", "<init>", "()V"⟩ ∈ lwT := tw_in (tw_c1 (List.mem_of_getElem? (i := 27) rfl)) rfl
theorem tw_1_28 : Cond.classLink RX3 9 "WhyNotJoin$State" ∈ lwT := tw_in (tw_c1 (List.mem_of_getElem? (i := 28) rfl)) rfl
theorem tw_1_29 : Cond.instantiable RX5 4 ∈ lwT := tw_in (tw_c1 (List.mem_of_getElem? (i := 29) rfl)) rfl
theorem tw_1_31 : Cond.instanceMethod yX5_init ∈ lwT := tw_in (tw_c1 (List.mem_of_getElem? (i := 31) rfl)) rfl
theorem tw_1_32 : Cond.code yX5_init cX5_init 1 (none : Option ClassFile.FieldType) ∈ lwT := tw_in (tw_c1 (List.mem_of_getElem? (i := 32) rfl)) rfl
theorem tw_1_33 : Cond.methodLink RX5 3 ⟨"java/lang/Object", "<init>", "()V"⟩ ∈ lwT := tw_in (tw_c1 (List.mem_of_getElem? (i := 33) rfl)) rfl
theorem tw_1_34 : Cond.classLink RX5 9 "WhyNotJoin$PairList" ∈ lwT := tw_in (tw_c1 (List.mem_of_getElem? (i := 34) rfl)) rfl
theorem tw_1_35 : Cond.instantiable RX2 3 ∈ lwT := tw_in (tw_c1 (List.mem_of_getElem? (i := 35) rfl)) rfl
theorem tw_1_36 : Cond.methodLink RX5 11 yX2_init ∈ lwT := tw_in (tw_c1 (List.mem_of_getElem? (i := 36) rfl)) rfl
theorem tw_1_37 : Cond.instanceMethod yX2_init ∈ lwT := tw_in (tw_c1 (List.mem_of_getElem? (i := 37) rfl)) rfl
theorem tw_1_38 : Cond.code yX2_init cX2_init 2 (none : Option ClassFile.FieldType) ∈ lwT := tw_in (tw_c1 (List.mem_of_getElem? (i := 38) rfl)) rfl
theorem tw_1_39 : Cond.methodLink RX2 3 ⟨"java/lang/Object", "<init>", "()V"⟩ ∈ lwT := tw_in (tw_c1 (List.mem_of_getElem? (i := 39) rfl)) rfl
theorem tw_1_40 : Cond.methodLink RX2 15 yJ9_min_7cf53 ∈ lwT := tw_in (tw_c1 (List.mem_of_getElem? (i := 40) rfl)) rfl
theorem tw_1_41 : Cond.static yJ9_min_7cf53 ∈ lwT := tw_in (tw_c1 (List.mem_of_getElem? (i := 41) rfl)) rfl
theorem tw_1_42 : Cond.code yJ9_min_7cf53 cJ9_min_7cf53 2 (some .int) ∈ lwT := tw_in (tw_c1 (List.mem_of_getElem? (i := 42) rfl)) rfl
theorem tw_1_43 : Cond.fieldLink RX2 9 "WhyNotJoin$PairList" "pairs" "[I" ∈ lwT := tw_in (tw_c1 (List.mem_of_getElem? (i := 43) rfl)) rfl
theorem tw_1_44 : Cond.fieldLink RX2 21 "WhyNotJoin$PairList" "limit" "I" ∈ lwT := tw_in (tw_c1 (List.mem_of_getElem? (i := 44) rfl)) rfl
theorem tw_1_45 : Cond.fieldLink RX2 31 "WhyNotJoin$PairList" "size" "I" ∈ lwT := tw_in (tw_c1 (List.mem_of_getElem? (i := 45) rfl)) rfl
theorem tw_1_48 : Cond.laysFinal RX2 "WhyNotJoin$PairList" "pairs" "[I" ∈ lwT := tw_in (tw_c1 (List.mem_of_getElem? (i := 48) rfl)) rfl
theorem tw_1_50 : Cond.laysFinal RX2 "WhyNotJoin$PairList" "limit" "I" ∈ lwT := tw_in (tw_c1 (List.mem_of_getElem? (i := 50) rfl)) rfl
theorem tw_1_52 : Cond.lays RX2 "WhyNotJoin$PairList" "size" "I" ∈ lwT := tw_in (tw_c1 (List.mem_of_getElem? (i := 52) rfl)) rfl
theorem tw_1_55 : Cond.arrayClass .int ∈ lwT := tw_in (tw_c1 (List.mem_of_getElem? (i := 55) rfl)) rfl
theorem tw_1_56 : Cond.classLink RX5 23 "WhyNotJoin$FilterList" ∈ lwT := tw_in (tw_c1 (List.mem_of_getElem? (i := 56) rfl)) rfl
theorem tw_1_57 : Cond.instantiable RX0 5 ∈ lwT := tw_in (tw_c1 (List.mem_of_getElem? (i := 57) rfl)) rfl
theorem tw_1_59 : Cond.instanceMethod yX0_init ∈ lwT := tw_in (tw_c1 (List.mem_of_getElem? (i := 59) rfl)) rfl
theorem tw_1_60 : Cond.code yX0_init cX0_init 1 (none : Option ClassFile.FieldType) ∈ lwT := tw_in (tw_c1 (List.mem_of_getElem? (i := 60) rfl)) rfl
theorem tw_1_61 : Cond.methodLink RX0 3 ⟨"java/lang/Object", "<init>", "()V"⟩ ∈ lwT := tw_in (tw_c1 (List.mem_of_getElem? (i := 61) rfl)) rfl
theorem tw_1_62 : Cond.fieldLink RX0 9 "WhyNotJoin$FilterList" "stages" "[I" ∈ lwT := tw_in (tw_c1 (List.mem_of_getElem? (i := 62) rfl)) rfl
theorem tw_1_64 : Cond.fieldLink RX0 15 "WhyNotJoin$FilterList" "columns" "[I" ∈ lwT := tw_in (tw_c1 (List.mem_of_getElem? (i := 64) rfl)) rfl
theorem tw_1_66 : Cond.fieldLink RX0 18 "WhyNotJoin$FilterList" "operators" "[I" ∈ lwT := tw_in (tw_c1 (List.mem_of_getElem? (i := 66) rfl)) rfl
theorem tw_1_68 : Cond.fieldLink RX0 21 "WhyNotJoin$FilterList" "constants" "[I" ∈ lwT := tw_in (tw_c1 (List.mem_of_getElem? (i := 68) rfl)) rfl
theorem tw_1_70 : Cond.fieldLink RX0 30 "WhyNotJoin$FilterList" "size" "I" ∈ lwT := tw_in (tw_c1 (List.mem_of_getElem? (i := 70) rfl)) rfl
theorem tw_1_73 : Cond.laysFinal RX0 "WhyNotJoin$FilterList" "stages" "[I" ∈ lwT := tw_in (tw_c1 (List.mem_of_getElem? (i := 73) rfl)) rfl
theorem tw_1_75 : Cond.laysFinal RX0 "WhyNotJoin$FilterList" "columns" "[I" ∈ lwT := tw_in (tw_c1 (List.mem_of_getElem? (i := 75) rfl)) rfl
theorem tw_1_77 : Cond.laysFinal RX0 "WhyNotJoin$FilterList" "operators" "[I" ∈ lwT := tw_in (tw_c1 (List.mem_of_getElem? (i := 77) rfl)) rfl
theorem tw_1_79 : Cond.laysFinal RX0 "WhyNotJoin$FilterList" "constants" "[I" ∈ lwT := tw_in (tw_c1 (List.mem_of_getElem? (i := 79) rfl)) rfl
theorem tw_1_81 : Cond.lays RX0 "WhyNotJoin$FilterList" "size" "I" ∈ lwT := tw_in (tw_c1 (List.mem_of_getElem? (i := 81) rfl)) rfl
theorem tw_1_84 : Cond.fieldLink RX5 14 "WhyNotJoin$State" "left" "LWhyNotJoin$PairList;" ∈ lwT := tw_in (tw_c1 (List.mem_of_getElem? (i := 84) rfl)) rfl
theorem tw_1_87 : Cond.fieldLink RX5 20 "WhyNotJoin$State" "right" "LWhyNotJoin$PairList;" ∈ lwT := tw_in (tw_c1 (List.mem_of_getElem? (i := 87) rfl)) rfl
theorem tw_1_90 : Cond.fieldLink RX5 26 "WhyNotJoin$State" "filters" "LWhyNotJoin$FilterList;" ∈ lwT := tw_in (tw_c1 (List.mem_of_getElem? (i := 90) rfl)) rfl
theorem tw_1_93 : Cond.fieldLink RX5 30 "WhyNotJoin$State" "wishes" "LWhyNotJoin$PairList;" ∈ lwT := tw_in (tw_c1 (List.mem_of_getElem? (i := 93) rfl)) rfl
theorem tw_1_96 : Cond.laysFinal RX5 "WhyNotJoin$State" "left" "LWhyNotJoin$PairList;" ∈ lwT := tw_in (tw_c1 (List.mem_of_getElem? (i := 96) rfl)) rfl
theorem tw_1_98 : Cond.laysFinal RX5 "WhyNotJoin$State" "right" "LWhyNotJoin$PairList;" ∈ lwT := tw_in (tw_c1 (List.mem_of_getElem? (i := 98) rfl)) rfl
theorem tw_1_100 : Cond.laysFinal RX5 "WhyNotJoin$State" "filters" "LWhyNotJoin$FilterList;" ∈ lwT := tw_in (tw_c1 (List.mem_of_getElem? (i := 100) rfl)) rfl
theorem tw_1_102 : Cond.laysFinal RX5 "WhyNotJoin$State" "wishes" "LWhyNotJoin$PairList;" ∈ lwT := tw_in (tw_c1 (List.mem_of_getElem? (i := 102) rfl)) rfl
theorem tw_1_105 : Cond.fieldLink RX3 12 "WhyNotJoin$Query" "state" "LWhyNotJoin$State;" ∈ lwT := tw_in (tw_c1 (List.mem_of_getElem? (i := 105) rfl)) rfl
theorem tw_1_107 : Cond.fieldLink RX3 18 "WhyNotJoin$Query" "matches" "[I" ∈ lwT := tw_in (tw_c1 (List.mem_of_getElem? (i := 107) rfl)) rfl
theorem tw_1_109 : Cond.fieldLink RX3 22 "WhyNotJoin$Query" "wishRejecters" "[I" ∈ lwT := tw_in (tw_c1 (List.mem_of_getElem? (i := 109) rfl)) rfl
theorem tw_1_110 : Cond.laysFinal RX3 "WhyNotJoin$Query" "state" "LWhyNotJoin$State;" ∈ lwT := tw_in (tw_c1 (List.mem_of_getElem? (i := 110) rfl)) rfl
theorem tw_1_112 : Cond.laysFinal RX3 "WhyNotJoin$Query" "matches" "[I" ∈ lwT := tw_in (tw_c1 (List.mem_of_getElem? (i := 112) rfl)) rfl
theorem tw_1_114 : Cond.laysFinal RX3 "WhyNotJoin$Query" "wishRejecters" "[I" ∈ lwT := tw_in (tw_c1 (List.mem_of_getElem? (i := 114) rfl)) rfl
theorem tw_1_117 : Cond.classLink RX7 21 "WhyNotJoin$History" ∈ lwT := tw_in (tw_c1 (List.mem_of_getElem? (i := 117) rfl)) rfl
theorem tw_1_118 : Cond.instantiable RX1 3 ∈ lwT := tw_in (tw_c1 (List.mem_of_getElem? (i := 118) rfl)) rfl
theorem tw_1_119 : Cond.methodLink RX7 23 yX1_init ∈ lwT := tw_in (tw_c1 (List.mem_of_getElem? (i := 119) rfl)) rfl
theorem tw_1_120 : Cond.instanceMethod yX1_init ∈ lwT := tw_in (tw_c1 (List.mem_of_getElem? (i := 120) rfl)) rfl
theorem tw_1_121 : Cond.code yX1_init cX1_init 2 (none : Option ClassFile.FieldType) ∈ lwT := tw_in (tw_c1 (List.mem_of_getElem? (i := 121) rfl)) rfl
theorem tw_1_122 : Cond.methodLink RX1 3 ⟨"java/lang/Object", "<init>", "()V"⟩ ∈ lwT := tw_in (tw_c1 (List.mem_of_getElem? (i := 122) rfl)) rfl
theorem tw_1_123 : Cond.classLink RX1 11 "WhyNotJoin$State" ∈ lwT := tw_in (tw_c1 (List.mem_of_getElem? (i := 123) rfl)) rfl
theorem tw_1_126 : Cond.fieldLink RX1 13 "WhyNotJoin$History" "slots" "[LWhyNotJoin$State;" ∈ lwT := tw_in (tw_c1 (List.mem_of_getElem? (i := 126) rfl)) rfl
theorem tw_1_127 : Cond.fieldLink RX1 18 "WhyNotJoin$History" "draftSlot" "I" ∈ lwT := tw_in (tw_c1 (List.mem_of_getElem? (i := 127) rfl)) rfl
theorem tw_1_128 : Cond.fieldLink RX1 26 "WhyNotJoin$History" "depth" "I" ∈ lwT := tw_in (tw_c1 (List.mem_of_getElem? (i := 128) rfl)) rfl
theorem tw_1_130 : Cond.laysFinal RX1 "WhyNotJoin$History" "slots" "[LWhyNotJoin$State;" ∈ lwT := tw_in (tw_c1 (List.mem_of_getElem? (i := 130) rfl)) rfl
theorem tw_1_132 : Cond.lays RX1 "WhyNotJoin$History" "draftSlot" "I" ∈ lwT := tw_in (tw_c1 (List.mem_of_getElem? (i := 132) rfl)) rfl
theorem tw_1_134 : Cond.lays RX1 "WhyNotJoin$History" "depth" "I" ∈ lwT := tw_in (tw_c1 (List.mem_of_getElem? (i := 134) rfl)) rfl
theorem tw_1_137 : Cond.classLink RX7 28 "WhyNotJoin$Script" ∈ lwT := tw_in (tw_c1 (List.mem_of_getElem? (i := 137) rfl)) rfl
theorem tw_1_138 : Cond.instantiable RX4 5 ∈ lwT := tw_in (tw_c1 (List.mem_of_getElem? (i := 138) rfl)) rfl
theorem tw_1_140 : Cond.instanceMethod yX4_init ∈ lwT := tw_in (tw_c1 (List.mem_of_getElem? (i := 140) rfl)) rfl
theorem tw_1_141 : Cond.code yX4_init cX4_init 1 (none : Option ClassFile.FieldType) ∈ lwT := tw_in (tw_c1 (List.mem_of_getElem? (i := 141) rfl)) rfl
theorem tw_1_142 : Cond.methodLink RX4 3 ⟨"java/lang/Object", "<init>", "()V"⟩ ∈ lwT := tw_in (tw_c1 (List.mem_of_getElem? (i := 142) rfl)) rfl
theorem tw_1_143 : Cond.classLink RX4 9 "WhyNotJoin$Text" ∈ lwT := tw_in (tw_c1 (List.mem_of_getElem? (i := 143) rfl)) rfl
theorem tw_1_144 : Cond.instantiable RX6 2 ∈ lwT := tw_in (tw_c1 (List.mem_of_getElem? (i := 144) rfl)) rfl
theorem tw_1_146 : Cond.instanceMethod yX6_init ∈ lwT := tw_in (tw_c1 (List.mem_of_getElem? (i := 146) rfl)) rfl
theorem tw_1_147 : Cond.code yX6_init cX6_init 1 (none : Option ClassFile.FieldType) ∈ lwT := tw_in (tw_c1 (List.mem_of_getElem? (i := 147) rfl)) rfl
theorem tw_1_148 : Cond.methodLink RX6 3 ⟨"java/lang/Object", "<init>", "()V"⟩ ∈ lwT := tw_in (tw_c1 (List.mem_of_getElem? (i := 148) rfl)) rfl
theorem tw_1_149 : Cond.fieldLink RX6 9 "WhyNotJoin$Text" "bytes" "[I" ∈ lwT := tw_in (tw_c1 (List.mem_of_getElem? (i := 149) rfl)) rfl
theorem tw_1_150 : Cond.fieldLink RX6 15 "WhyNotJoin$Text" "length" "I" ∈ lwT := tw_in (tw_c1 (List.mem_of_getElem? (i := 150) rfl)) rfl
theorem tw_1_153 : Cond.laysFinal RX6 "WhyNotJoin$Text" "bytes" "[I" ∈ lwT := tw_in (tw_c1 (List.mem_of_getElem? (i := 153) rfl)) rfl
theorem tw_1_155 : Cond.lays RX6 "WhyNotJoin$Text" "length" "I" ∈ lwT := tw_in (tw_c1 (List.mem_of_getElem? (i := 155) rfl)) rfl
theorem tw_1_158 : Cond.fieldLink RX4 12 "WhyNotJoin$Script" "text" "LWhyNotJoin$Text;" ∈ lwT := tw_in (tw_c1 (List.mem_of_getElem? (i := 158) rfl)) rfl
theorem tw_1_160 : Cond.fieldLink RX4 18 "WhyNotJoin$Script" "letters" "[I" ∈ lwT := tw_in (tw_c1 (List.mem_of_getElem? (i := 160) rfl)) rfl
theorem tw_1_161 : Cond.fieldLink RX4 22 "WhyNotJoin$Script" "numbers" "[I" ∈ lwT := tw_in (tw_c1 (List.mem_of_getElem? (i := 161) rfl)) rfl
theorem tw_1_162 : Cond.fieldLink RX4 25 "WhyNotJoin$Script" "size" "I" ∈ lwT := tw_in (tw_c1 (List.mem_of_getElem? (i := 162) rfl)) rfl
theorem tw_1_164 : Cond.fieldLink RX4 29 "WhyNotJoin$Script" "position" "I" ∈ lwT := tw_in (tw_c1 (List.mem_of_getElem? (i := 164) rfl)) rfl
theorem tw_1_166 : Cond.laysFinal RX4 "WhyNotJoin$Script" "text" "LWhyNotJoin$Text;" ∈ lwT := tw_in (tw_c1 (List.mem_of_getElem? (i := 166) rfl)) rfl
theorem tw_1_168 : Cond.laysFinal RX4 "WhyNotJoin$Script" "letters" "[I" ∈ lwT := tw_in (tw_c1 (List.mem_of_getElem? (i := 168) rfl)) rfl
theorem tw_1_170 : Cond.laysFinal RX4 "WhyNotJoin$Script" "numbers" "[I" ∈ lwT := tw_in (tw_c1 (List.mem_of_getElem? (i := 170) rfl)) rfl
theorem tw_1_172 : Cond.lays RX4 "WhyNotJoin$Script" "size" "I" ∈ lwT := tw_in (tw_c1 (List.mem_of_getElem? (i := 172) rfl)) rfl
theorem tw_1_174 : Cond.lays RX4 "WhyNotJoin$Script" "position" "I" ∈ lwT := tw_in (tw_c1 (List.mem_of_getElem? (i := 174) rfl)) rfl
theorem tw_1_177 : Cond.fieldLink RX7 12 "WhyNotJoin" "query" "LWhyNotJoin$Query;" ∈ lwT := tw_in (tw_c1 (List.mem_of_getElem? (i := 177) rfl)) rfl
theorem tw_1_178 : Cond.fieldLink RX7 20 "WhyNotJoin" "state" "LWhyNotJoin$State;" ∈ lwT := tw_in (tw_c1 (List.mem_of_getElem? (i := 178) rfl)) rfl
theorem tw_1_179 : Cond.fieldLink RX7 24 "WhyNotJoin" "history" "LWhyNotJoin$History;" ∈ lwT := tw_in (tw_c1 (List.mem_of_getElem? (i := 179) rfl)) rfl
theorem tw_1_180 : Cond.fieldLink RX7 31 "WhyNotJoin" "script" "LWhyNotJoin$Script;" ∈ lwT := tw_in (tw_c1 (List.mem_of_getElem? (i := 180) rfl)) rfl
theorem tw_1_181 : Cond.fieldLink RX7 39 "WhyNotJoin" "text" "LWhyNotJoin$Text;" ∈ lwT := tw_in (tw_c1 (List.mem_of_getElem? (i := 181) rfl)) rfl
theorem tw_1_182 : Cond.fieldLink RX7 40 "WhyNotJoin" "errors" "[I" ∈ lwT := tw_in (tw_c1 (List.mem_of_getElem? (i := 182) rfl)) rfl
theorem tw_1_183 : Cond.laysFinal RX7 "WhyNotJoin" "query" "LWhyNotJoin$Query;" ∈ lwT := tw_in (tw_c1 (List.mem_of_getElem? (i := 183) rfl)) rfl
theorem tw_1_185 : Cond.laysFinal RX7 "WhyNotJoin" "state" "LWhyNotJoin$State;" ∈ lwT := tw_in (tw_c1 (List.mem_of_getElem? (i := 185) rfl)) rfl
theorem tw_1_187 : Cond.laysFinal RX7 "WhyNotJoin" "history" "LWhyNotJoin$History;" ∈ lwT := tw_in (tw_c1 (List.mem_of_getElem? (i := 187) rfl)) rfl
theorem tw_1_189 : Cond.laysFinal RX7 "WhyNotJoin" "script" "LWhyNotJoin$Script;" ∈ lwT := tw_in (tw_c1 (List.mem_of_getElem? (i := 189) rfl)) rfl
theorem tw_1_191 : Cond.laysFinal RX7 "WhyNotJoin" "text" "LWhyNotJoin$Text;" ∈ lwT := tw_in (tw_c1 (List.mem_of_getElem? (i := 191) rfl)) rfl
theorem tw_1_193 : Cond.laysFinal RX7 "WhyNotJoin" "errors" "[I" ∈ lwT := tw_in (tw_c1 (List.mem_of_getElem? (i := 193) rfl)) rfl
theorem tw_1_196 : Cond.methodLink RL 13 yX7_addLeft ∈ lwT := tw_in (tw_c1 (List.mem_of_getElem? (i := 196) rfl)) rfl
theorem tw_1_197 : Cond.instanceMethod yX7_addLeft ∈ lwT := tw_in (tw_c1 (List.mem_of_getElem? (i := 197) rfl)) rfl
theorem tw_1_198 : Cond.selects RX7 yX7_addLeft yX7_addLeft ∈ lwT := tw_in (tw_c1 (List.mem_of_getElem? (i := 198) rfl)) rfl
theorem tw_1_199 : Cond.code yX7_addLeft cX7_addLeft 3 (some .int) ∈ lwT := tw_in (tw_c1 (List.mem_of_getElem? (i := 199) rfl)) rfl
theorem tw_1_200 : Cond.methodLink RX7 44 yX1_draft ∈ lwT := tw_in (tw_c1 (List.mem_of_getElem? (i := 200) rfl)) rfl
theorem tw_1_201 : Cond.instanceMethod yX1_draft ∈ lwT := tw_in (tw_c1 (List.mem_of_getElem? (i := 201) rfl)) rfl
theorem tw_1_202 : Cond.selects RX1 yX1_draft yX1_draft ∈ lwT := tw_in (tw_c1 (List.mem_of_getElem? (i := 202) rfl)) rfl
theorem tw_1_203 : Cond.code yX1_draft cX1_draft 2 (none : Option ClassFile.FieldType) ∈ lwT := tw_in (tw_c1 (List.mem_of_getElem? (i := 203) rfl)) rfl
theorem tw_1_204 : Cond.methodLink RX1 22 yX5_copyFrom ∈ lwT := tw_in (tw_c1 (List.mem_of_getElem? (i := 204) rfl)) rfl
theorem tw_1_205 : Cond.instanceMethod yX5_copyFrom ∈ lwT := tw_in (tw_c1 (List.mem_of_getElem? (i := 205) rfl)) rfl
theorem tw_1_206 : Cond.selects RX5 yX5_copyFrom yX5_copyFrom ∈ lwT := tw_in (tw_c1 (List.mem_of_getElem? (i := 206) rfl)) rfl
theorem tw_1_207 : Cond.code yX5_copyFrom cX5_copyFrom 2 (none : Option ClassFile.FieldType) ∈ lwT := tw_in (tw_c1 (List.mem_of_getElem? (i := 207) rfl)) rfl
theorem tw_1_208 : Cond.methodLink RX5 33 yX2_copyFrom ∈ lwT := tw_in (tw_c1 (List.mem_of_getElem? (i := 208) rfl)) rfl
theorem tw_1_209 : Cond.instanceMethod yX2_copyFrom ∈ lwT := tw_in (tw_c1 (List.mem_of_getElem? (i := 209) rfl)) rfl
theorem tw_1_210 : Cond.selects RX2 yX2_copyFrom yX2_copyFrom ∈ lwT := tw_in (tw_c1 (List.mem_of_getElem? (i := 210) rfl)) rfl
theorem tw_1_211 : Cond.code yX2_copyFrom cX2_copyFrom 2 (none : Option ClassFile.FieldType) ∈ lwT := tw_in (tw_c1 (List.mem_of_getElem? (i := 211) rfl)) rfl
theorem tw_1_212 : Cond.methodLink RX2 25 ⟨"java/lang/System", "arraycopy", "(Ljava/lang/Object;ILjava/lang/Object;II)V"⟩ ∈ lwT := tw_in (tw_c1 (List.mem_of_getElem? (i := 212) rfl)) rfl
theorem tw_1_213 : Cond.static ⟨"java/lang/System", "arraycopy", "(Ljava/lang/Object;ILjava/lang/Object;II)V"⟩ ∈ lwT := tw_in (tw_c1 (List.mem_of_getElem? (i := 213) rfl)) rfl
theorem tw_1_214 : Cond.native ⟨"java/lang/System", "arraycopy", "(Ljava/lang/Object;ILjava/lang/Object;II)V"⟩ ∈ lwT := tw_in (tw_c1 (List.mem_of_getElem? (i := 214) rfl)) rfl
theorem tw_1_215 : Cond.methodLink RX5 37 yX0_copyFrom ∈ lwT := tw_in (tw_c1 (List.mem_of_getElem? (i := 215) rfl)) rfl
theorem tw_1_216 : Cond.instanceMethod yX0_copyFrom ∈ lwT := tw_in (tw_c1 (List.mem_of_getElem? (i := 216) rfl)) rfl
theorem tw_1_217 : Cond.selects RX0 yX0_copyFrom yX0_copyFrom ∈ lwT := tw_in (tw_c1 (List.mem_of_getElem? (i := 217) rfl)) rfl
theorem tw_1_218 : Cond.code yX0_copyFrom cX0_copyFrom 2 (none : Option ClassFile.FieldType) ∈ lwT := tw_in (tw_c1 (List.mem_of_getElem? (i := 218) rfl)) rfl
theorem tw_1_219 : Cond.methodLink RX0 24 ⟨"java/lang/System", "arraycopy", "(Ljava/lang/Object;ILjava/lang/Object;II)V"⟩ ∈ lwT := tw_in (tw_c1 (List.mem_of_getElem? (i := 219) rfl)) rfl
theorem tw_1_220 : Cond.methodLink RX7 54 yX2_insert ∈ lwT := tw_in (tw_c1 (List.mem_of_getElem? (i := 220) rfl)) rfl
theorem tw_1_221 : Cond.instanceMethod yX2_insert ∈ lwT := tw_in (tw_c1 (List.mem_of_getElem? (i := 221) rfl)) rfl
theorem tw_1_222 : Cond.selects RX2 yX2_insert yX2_insert ∈ lwT := tw_in (tw_c1 (List.mem_of_getElem? (i := 222) rfl)) rfl
theorem tw_1_223 : Cond.code yX2_insert cX2_insert 3 (some .int) ∈ lwT := tw_in (tw_c1 (List.mem_of_getElem? (i := 223) rfl)) rfl
theorem tw_1_225 : Cond.static yX7_isPair ∈ lwT := tw_in (tw_c1 (List.mem_of_getElem? (i := 225) rfl)) rfl
theorem tw_1_226 : Cond.code yX7_isPair cX7_isPair 2 (some .boolean) ∈ lwT := tw_in (tw_c1 (List.mem_of_getElem? (i := 226) rfl)) rfl
theorem tw_1_227 : Cond.methodLink RX7 246 yX7_isValue ∈ lwT := tw_in (tw_c1 (List.mem_of_getElem? (i := 227) rfl)) rfl
theorem tw_1_228 : Cond.static yX7_isValue ∈ lwT := tw_in (tw_c1 (List.mem_of_getElem? (i := 228) rfl)) rfl
theorem tw_1_229 : Cond.code yX7_isValue cX7_isValue 1 (some .boolean) ∈ lwT := tw_in (tw_c1 (List.mem_of_getElem? (i := 229) rfl)) rfl
theorem tw_1_230 : Cond.methodLink RX2 38 yX2_holds ∈ lwT := tw_in (tw_c1 (List.mem_of_getElem? (i := 230) rfl)) rfl
theorem tw_1_231 : Cond.instanceMethod yX2_holds ∈ lwT := tw_in (tw_c1 (List.mem_of_getElem? (i := 231) rfl)) rfl
theorem tw_1_232 : Cond.selects RX2 yX2_holds yX2_holds ∈ lwT := tw_in (tw_c1 (List.mem_of_getElem? (i := 232) rfl)) rfl
theorem tw_1_233 : Cond.code yX2_holds cX2_holds 5 (some .boolean) ∈ lwT := tw_in (tw_c1 (List.mem_of_getElem? (i := 233) rfl)) rfl
theorem tw_1_234 : Cond.methodLink RX2 41 yX2_isFull ∈ lwT := tw_in (tw_c1 (List.mem_of_getElem? (i := 234) rfl)) rfl
theorem tw_1_235 : Cond.instanceMethod yX2_isFull ∈ lwT := tw_in (tw_c1 (List.mem_of_getElem? (i := 235) rfl)) rfl
theorem tw_1_236 : Cond.selects RX2 yX2_isFull yX2_isFull ∈ lwT := tw_in (tw_c1 (List.mem_of_getElem? (i := 236) rfl)) rfl
theorem tw_1_237 : Cond.code yX2_isFull cX2_isFull 1 (some .boolean) ∈ lwT := tw_in (tw_c1 (List.mem_of_getElem? (i := 237) rfl)) rfl
theorem tw_1_238 : Cond.methodLink RX7 60 yX7_settle ∈ lwT := tw_in (tw_c1 (List.mem_of_getElem? (i := 238) rfl)) rfl
theorem tw_2_0 : Cond.instanceMethod yX7_settle ∈ lwT := tw_in (tw_c2 (List.mem_of_getElem? (i := 0) rfl)) rfl
theorem tw_2_1 : Cond.code yX7_settle cX7_settle 2 (some .int) ∈ lwT := tw_in (tw_c2 (List.mem_of_getElem? (i := 1) rfl)) rfl
theorem tw_2_2 : Cond.methodLink RX7 170 yX7_isError ∈ lwT := tw_in (tw_c2 (List.mem_of_getElem? (i := 2) rfl)) rfl
theorem tw_2_3 : Cond.static yX7_isError ∈ lwT := tw_in (tw_c2 (List.mem_of_getElem? (i := 3) rfl)) rfl
theorem tw_2_4 : Cond.code yX7_isError cX7_isError 1 (some .boolean) ∈ lwT := tw_in (tw_c2 (List.mem_of_getElem? (i := 4) rfl)) rfl
theorem tw_2_5 : Cond.methodLink RX7 176 yX1_keepDraft ∈ lwT := tw_in (tw_c2 (List.mem_of_getElem? (i := 5) rfl)) rfl
theorem tw_2_6 : Cond.instanceMethod yX1_keepDraft ∈ lwT := tw_in (tw_c2 (List.mem_of_getElem? (i := 6) rfl)) rfl
theorem tw_2_7 : Cond.selects RX1 yX1_keepDraft yX1_keepDraft ∈ lwT := tw_in (tw_c2 (List.mem_of_getElem? (i := 7) rfl)) rfl
theorem tw_2_8 : Cond.code yX1_keepDraft cX1_keepDraft 1 (none : Option ClassFile.FieldType) ∈ lwT := tw_in (tw_c2 (List.mem_of_getElem? (i := 8) rfl)) rfl
theorem tw_2_9 : Cond.methodLink RX1 29 yJ9_min_7cf53 ∈ lwT := tw_in (tw_c2 (List.mem_of_getElem? (i := 9) rfl)) rfl
theorem tw_2_10 : Cond.methodLink RX7 73 yX7_report ∈ lwT := tw_in (tw_c2 (List.mem_of_getElem? (i := 10) rfl)) rfl
theorem tw_2_12 : Cond.instanceMethod yX7_report ∈ lwT := tw_in (tw_c2 (List.mem_of_getElem? (i := 12) rfl)) rfl
theorem tw_2_13 : Cond.code yX7_report cX7_report 2 (some .int) ∈ lwT := tw_in (tw_c2 (List.mem_of_getElem? (i := 13) rfl)) rfl
theorem tw_2_14 : Cond.methodLink RL 18 yX7_addRight ∈ lwT := tw_in (tw_c2 (List.mem_of_getElem? (i := 14) rfl)) rfl
theorem tw_2_15 : Cond.instanceMethod yX7_addRight ∈ lwT := tw_in (tw_c2 (List.mem_of_getElem? (i := 15) rfl)) rfl
theorem tw_2_16 : Cond.selects RX7 yX7_addRight yX7_addRight ∈ lwT := tw_in (tw_c2 (List.mem_of_getElem? (i := 16) rfl)) rfl
theorem tw_2_17 : Cond.code yX7_addRight cX7_addRight 3 (some .int) ∈ lwT := tw_in (tw_c2 (List.mem_of_getElem? (i := 17) rfl)) rfl
theorem tw_2_18 : Cond.methodLink RL 22 yX7_removeLeft ∈ lwT := tw_in (tw_c2 (List.mem_of_getElem? (i := 18) rfl)) rfl
theorem tw_2_19 : Cond.instanceMethod yX7_removeLeft ∈ lwT := tw_in (tw_c2 (List.mem_of_getElem? (i := 19) rfl)) rfl
theorem tw_2_20 : Cond.selects RX7 yX7_removeLeft yX7_removeLeft ∈ lwT := tw_in (tw_c2 (List.mem_of_getElem? (i := 20) rfl)) rfl
theorem tw_2_21 : Cond.code yX7_removeLeft cX7_removeLeft 2 (some .int) ∈ lwT := tw_in (tw_c2 (List.mem_of_getElem? (i := 21) rfl)) rfl
theorem tw_2_22 : Cond.methodLink RX7 67 yX2_drop ∈ lwT := tw_in (tw_c2 (List.mem_of_getElem? (i := 22) rfl)) rfl
theorem tw_2_23 : Cond.instanceMethod yX2_drop ∈ lwT := tw_in (tw_c2 (List.mem_of_getElem? (i := 23) rfl)) rfl
theorem tw_2_24 : Cond.selects RX2 yX2_drop yX2_drop ∈ lwT := tw_in (tw_c2 (List.mem_of_getElem? (i := 24) rfl)) rfl
theorem tw_2_25 : Cond.code yX2_drop cX2_drop 3 (some .int) ∈ lwT := tw_in (tw_c2 (List.mem_of_getElem? (i := 25) rfl)) rfl
theorem tw_2_26 : Cond.methodLink RL 27 yX7_removeRight ∈ lwT := tw_in (tw_c2 (List.mem_of_getElem? (i := 26) rfl)) rfl
theorem tw_2_27 : Cond.instanceMethod yX7_removeRight ∈ lwT := tw_in (tw_c2 (List.mem_of_getElem? (i := 27) rfl)) rfl
theorem tw_2_28 : Cond.selects RX7 yX7_removeRight yX7_removeRight ∈ lwT := tw_in (tw_c2 (List.mem_of_getElem? (i := 28) rfl)) rfl
theorem tw_2_29 : Cond.code yX7_removeRight cX7_removeRight 2 (some .int) ∈ lwT := tw_in (tw_c2 (List.mem_of_getElem? (i := 29) rfl)) rfl
theorem tw_2_30 : Cond.methodLink RL 31 yX7_leftRow ∈ lwT := tw_in (tw_c2 (List.mem_of_getElem? (i := 30) rfl)) rfl
theorem tw_2_31 : Cond.instanceMethod yX7_leftRow ∈ lwT := tw_in (tw_c2 (List.mem_of_getElem? (i := 31) rfl)) rfl
theorem tw_2_32 : Cond.selects RX7 yX7_leftRow yX7_leftRow ∈ lwT := tw_in (tw_c2 (List.mem_of_getElem? (i := 32) rfl)) rfl
theorem tw_2_33 : Cond.code yX7_leftRow cX7_leftRow 2 (some .int) ∈ lwT := tw_in (tw_c2 (List.mem_of_getElem? (i := 33) rfl)) rfl
theorem tw_2_34 : Cond.methodLink RX7 70 yX2_pairAt ∈ lwT := tw_in (tw_c2 (List.mem_of_getElem? (i := 34) rfl)) rfl
theorem tw_2_35 : Cond.instanceMethod yX2_pairAt ∈ lwT := tw_in (tw_c2 (List.mem_of_getElem? (i := 35) rfl)) rfl
theorem tw_2_36 : Cond.selects RX2 yX2_pairAt yX2_pairAt ∈ lwT := tw_in (tw_c2 (List.mem_of_getElem? (i := 36) rfl)) rfl
theorem tw_2_37 : Cond.code yX2_pairAt cX2_pairAt 2 (some .int) ∈ lwT := tw_in (tw_c2 (List.mem_of_getElem? (i := 37) rfl)) rfl
theorem tw_2_38 : Cond.methodLink RL 35 yX7_rightRow ∈ lwT := tw_in (tw_c2 (List.mem_of_getElem? (i := 38) rfl)) rfl
theorem tw_2_39 : Cond.instanceMethod yX7_rightRow ∈ lwT := tw_in (tw_c2 (List.mem_of_getElem? (i := 39) rfl)) rfl
theorem tw_2_40 : Cond.selects RX7 yX7_rightRow yX7_rightRow ∈ lwT := tw_in (tw_c2 (List.mem_of_getElem? (i := 40) rfl)) rfl
theorem tw_2_41 : Cond.code yX7_rightRow cX7_rightRow 2 (some .int) ∈ lwT := tw_in (tw_c2 (List.mem_of_getElem? (i := 41) rfl)) rfl
theorem tw_2_42 : Cond.methodLink RL 39 yX7_addFilter ∈ lwT := tw_in (tw_c2 (List.mem_of_getElem? (i := 42) rfl)) rfl
theorem tw_2_43 : Cond.instanceMethod yX7_addFilter ∈ lwT := tw_in (tw_c2 (List.mem_of_getElem? (i := 43) rfl)) rfl
theorem tw_2_44 : Cond.selects RX7 yX7_addFilter yX7_addFilter ∈ lwT := tw_in (tw_c2 (List.mem_of_getElem? (i := 44) rfl)) rfl
theorem tw_2_45 : Cond.code yX7_addFilter cX7_addFilter 5 (some .int) ∈ lwT := tw_in (tw_c2 (List.mem_of_getElem? (i := 45) rfl)) rfl
theorem tw_2_46 : Cond.methodLink RX7 80 yX0_insert ∈ lwT := tw_in (tw_c2 (List.mem_of_getElem? (i := 46) rfl)) rfl
theorem tw_2_47 : Cond.instanceMethod yX0_insert ∈ lwT := tw_in (tw_c2 (List.mem_of_getElem? (i := 47) rfl)) rfl
theorem tw_2_48 : Cond.selects RX0 yX0_insert yX0_insert ∈ lwT := tw_in (tw_c2 (List.mem_of_getElem? (i := 48) rfl)) rfl
theorem tw_2_49 : Cond.code yX0_insert cX0_insert 5 (some .int) ∈ lwT := tw_in (tw_c2 (List.mem_of_getElem? (i := 49) rfl)) rfl
theorem tw_2_50 : Cond.methodLink RX0 34 yX0_isColumn ∈ lwT := tw_in (tw_c2 (List.mem_of_getElem? (i := 50) rfl)) rfl
theorem tw_2_51 : Cond.static yX0_isColumn ∈ lwT := tw_in (tw_c2 (List.mem_of_getElem? (i := 51) rfl)) rfl
theorem tw_2_52 : Cond.code yX0_isColumn cX0_isColumn 2 (some .boolean) ∈ lwT := tw_in (tw_c2 (List.mem_of_getElem? (i := 52) rfl)) rfl
theorem tw_2_53 : Cond.methodLink RX0 38 yX0_isConstant ∈ lwT := tw_in (tw_c2 (List.mem_of_getElem? (i := 53) rfl)) rfl
theorem tw_2_54 : Cond.static yX0_isConstant ∈ lwT := tw_in (tw_c2 (List.mem_of_getElem? (i := 54) rfl)) rfl
theorem tw_2_55 : Cond.code yX0_isConstant cX0_isConstant 2 (some .boolean) ∈ lwT := tw_in (tw_c2 (List.mem_of_getElem? (i := 55) rfl)) rfl
theorem tw_2_57 : Cond.methodLink RL 44 yX7_removeFilter ∈ lwT := tw_in (tw_c2 (List.mem_of_getElem? (i := 57) rfl)) rfl
theorem tw_2_58 : Cond.instanceMethod yX7_removeFilter ∈ lwT := tw_in (tw_c2 (List.mem_of_getElem? (i := 58) rfl)) rfl
theorem tw_2_59 : Cond.selects RX7 yX7_removeFilter yX7_removeFilter ∈ lwT := tw_in (tw_c2 (List.mem_of_getElem? (i := 59) rfl)) rfl
theorem tw_2_60 : Cond.code yX7_removeFilter cX7_removeFilter 2 (some .int) ∈ lwT := tw_in (tw_c2 (List.mem_of_getElem? (i := 60) rfl)) rfl
theorem tw_2_61 : Cond.methodLink RX7 85 yX0_drop ∈ lwT := tw_in (tw_c2 (List.mem_of_getElem? (i := 61) rfl)) rfl
theorem tw_2_62 : Cond.instanceMethod yX0_drop ∈ lwT := tw_in (tw_c2 (List.mem_of_getElem? (i := 62) rfl)) rfl
theorem tw_2_63 : Cond.selects RX0 yX0_drop yX0_drop ∈ lwT := tw_in (tw_c2 (List.mem_of_getElem? (i := 63) rfl)) rfl
theorem tw_2_64 : Cond.code yX0_drop cX0_drop 3 (some .int) ∈ lwT := tw_in (tw_c2 (List.mem_of_getElem? (i := 64) rfl)) rfl
theorem tw_2_65 : Cond.methodLink RX0 41 yX0_holds ∈ lwT := tw_in (tw_c2 (List.mem_of_getElem? (i := 65) rfl)) rfl
theorem tw_2_66 : Cond.instanceMethod yX0_holds ∈ lwT := tw_in (tw_c2 (List.mem_of_getElem? (i := 66) rfl)) rfl
theorem tw_2_67 : Cond.selects RX0 yX0_holds yX0_holds ∈ lwT := tw_in (tw_c2 (List.mem_of_getElem? (i := 67) rfl)) rfl
theorem tw_2_68 : Cond.code yX0_holds cX0_holds 2 (some .boolean) ∈ lwT := tw_in (tw_c2 (List.mem_of_getElem? (i := 68) rfl)) rfl
theorem tw_2_69 : Cond.methodLink RL 48 yX7_setConstant ∈ lwT := tw_in (tw_c2 (List.mem_of_getElem? (i := 69) rfl)) rfl
theorem tw_2_70 : Cond.instanceMethod yX7_setConstant ∈ lwT := tw_in (tw_c2 (List.mem_of_getElem? (i := 70) rfl)) rfl
theorem tw_2_71 : Cond.selects RX7 yX7_setConstant yX7_setConstant ∈ lwT := tw_in (tw_c2 (List.mem_of_getElem? (i := 71) rfl)) rfl
theorem tw_2_72 : Cond.code yX7_setConstant cX7_setConstant 3 (some .int) ∈ lwT := tw_in (tw_c2 (List.mem_of_getElem? (i := 72) rfl)) rfl
theorem tw_2_73 : Cond.methodLink RX7 86 yX0_replaceConstant ∈ lwT := tw_in (tw_c2 (List.mem_of_getElem? (i := 73) rfl)) rfl
theorem tw_2_74 : Cond.instanceMethod yX0_replaceConstant ∈ lwT := tw_in (tw_c2 (List.mem_of_getElem? (i := 74) rfl)) rfl
theorem tw_2_75 : Cond.selects RX0 yX0_replaceConstant yX0_replaceConstant ∈ lwT := tw_in (tw_c2 (List.mem_of_getElem? (i := 75) rfl)) rfl
theorem tw_2_76 : Cond.code yX0_replaceConstant cX0_replaceConstant 4 (some .int) ∈ lwT := tw_in (tw_c2 (List.mem_of_getElem? (i := 76) rfl)) rfl
theorem tw_2_77 : Cond.methodLink RL 52 yX7_filterCount ∈ lwT := tw_in (tw_c2 (List.mem_of_getElem? (i := 77) rfl)) rfl
theorem tw_2_78 : Cond.instanceMethod yX7_filterCount ∈ lwT := tw_in (tw_c2 (List.mem_of_getElem? (i := 78) rfl)) rfl
theorem tw_2_79 : Cond.selects RX7 yX7_filterCount yX7_filterCount ∈ lwT := tw_in (tw_c2 (List.mem_of_getElem? (i := 79) rfl)) rfl
theorem tw_2_80 : Cond.code yX7_filterCount cX7_filterCount 1 (some .int) ∈ lwT := tw_in (tw_c2 (List.mem_of_getElem? (i := 80) rfl)) rfl
theorem tw_2_81 : Cond.methodLink RL 57 yX7_constant ∈ lwT := tw_in (tw_c2 (List.mem_of_getElem? (i := 81) rfl)) rfl
theorem tw_2_82 : Cond.instanceMethod yX7_constant ∈ lwT := tw_in (tw_c2 (List.mem_of_getElem? (i := 82) rfl)) rfl
theorem tw_2_83 : Cond.selects RX7 yX7_constant yX7_constant ∈ lwT := tw_in (tw_c2 (List.mem_of_getElem? (i := 83) rfl)) rfl
theorem tw_2_84 : Cond.code yX7_constant cX7_constant 2 (some .int) ∈ lwT := tw_in (tw_c2 (List.mem_of_getElem? (i := 84) rfl)) rfl
theorem tw_2_85 : Cond.methodLink RX7 93 yX0_constantAt ∈ lwT := tw_in (tw_c2 (List.mem_of_getElem? (i := 85) rfl)) rfl
theorem tw_2_86 : Cond.instanceMethod yX0_constantAt ∈ lwT := tw_in (tw_c2 (List.mem_of_getElem? (i := 86) rfl)) rfl
theorem tw_2_87 : Cond.selects RX0 yX0_constantAt yX0_constantAt ∈ lwT := tw_in (tw_c2 (List.mem_of_getElem? (i := 87) rfl)) rfl
theorem tw_2_88 : Cond.code yX0_constantAt cX0_constantAt 2 (some .int) ∈ lwT := tw_in (tw_c2 (List.mem_of_getElem? (i := 88) rfl)) rfl
theorem tw_2_89 : Cond.methodLink RL 61 yX7_acceptedBy ∈ lwT := tw_in (tw_c2 (List.mem_of_getElem? (i := 89) rfl)) rfl
theorem tw_2_90 : Cond.instanceMethod yX7_acceptedBy ∈ lwT := tw_in (tw_c2 (List.mem_of_getElem? (i := 90) rfl)) rfl
theorem tw_2_91 : Cond.selects RX7 yX7_acceptedBy yX7_acceptedBy ∈ lwT := tw_in (tw_c2 (List.mem_of_getElem? (i := 91) rfl)) rfl
theorem tw_2_92 : Cond.code yX7_acceptedBy cX7_acceptedBy 2 (some .int) ∈ lwT := tw_in (tw_c2 (List.mem_of_getElem? (i := 92) rfl)) rfl
theorem tw_2_93 : Cond.methodLink RX7 96 yX0_holds ∈ lwT := tw_in (tw_c2 (List.mem_of_getElem? (i := 93) rfl)) rfl
theorem tw_2_94 : Cond.methodLink RX7 100 yX3_countAccepted ∈ lwT := tw_in (tw_c2 (List.mem_of_getElem? (i := 94) rfl)) rfl
theorem tw_2_95 : Cond.instanceMethod yX3_countAccepted ∈ lwT := tw_in (tw_c2 (List.mem_of_getElem? (i := 95) rfl)) rfl
theorem tw_2_96 : Cond.selects RX3 yX3_countAccepted yX3_countAccepted ∈ lwT := tw_in (tw_c2 (List.mem_of_getElem? (i := 96) rfl)) rfl
theorem tw_2_97 : Cond.code yX3_countAccepted cX3_countAccepted 2 (some .int) ∈ lwT := tw_in (tw_c2 (List.mem_of_getElem? (i := 97) rfl)) rfl
theorem tw_2_98 : Cond.methodLink RX3 29 yX0_isAtStage ∈ lwT := tw_in (tw_c2 (List.mem_of_getElem? (i := 98) rfl)) rfl
theorem tw_2_99 : Cond.instanceMethod yX0_isAtStage ∈ lwT := tw_in (tw_c2 (List.mem_of_getElem? (i := 99) rfl)) rfl
theorem tw_2_100 : Cond.selects RX0 yX0_isAtStage yX0_isAtStage ∈ lwT := tw_in (tw_c2 (List.mem_of_getElem? (i := 100) rfl)) rfl
theorem tw_2_101 : Cond.code yX0_isAtStage cX0_isAtStage 3 (some .boolean) ∈ lwT := tw_in (tw_c2 (List.mem_of_getElem? (i := 101) rfl)) rfl
theorem tw_2_102 : Cond.methodLink RX3 35 yX3_countAcceptedLeft ∈ lwT := tw_in (tw_c2 (List.mem_of_getElem? (i := 102) rfl)) rfl
theorem tw_2_104 : Cond.instanceMethod yX3_countAcceptedLeft ∈ lwT := tw_in (tw_c2 (List.mem_of_getElem? (i := 104) rfl)) rfl
theorem tw_2_105 : Cond.code yX3_countAcceptedLeft cX3_countAcceptedLeft 4 (some .int) ∈ lwT := tw_in (tw_c2 (List.mem_of_getElem? (i := 105) rfl)) rfl
theorem tw_2_106 : Cond.methodLink RX3 55 yX2_firstAt ∈ lwT := tw_in (tw_c2 (List.mem_of_getElem? (i := 106) rfl)) rfl
theorem tw_2_107 : Cond.instanceMethod yX2_firstAt ∈ lwT := tw_in (tw_c2 (List.mem_of_getElem? (i := 107) rfl)) rfl
theorem tw_2_108 : Cond.selects RX2 yX2_firstAt yX2_firstAt ∈ lwT := tw_in (tw_c2 (List.mem_of_getElem? (i := 108) rfl)) rfl
theorem tw_2_109 : Cond.code yX2_firstAt cX2_firstAt 2 (some .int) ∈ lwT := tw_in (tw_c2 (List.mem_of_getElem? (i := 109) rfl)) rfl
theorem tw_2_110 : Cond.methodLink RX2 45 yX2_pairAt ∈ lwT := tw_in (tw_c2 (List.mem_of_getElem? (i := 110) rfl)) rfl
theorem tw_2_111 : Cond.methodLink RX3 58 yX2_secondAt ∈ lwT := tw_in (tw_c2 (List.mem_of_getElem? (i := 111) rfl)) rfl
theorem tw_2_112 : Cond.instanceMethod yX2_secondAt ∈ lwT := tw_in (tw_c2 (List.mem_of_getElem? (i := 112) rfl)) rfl
theorem tw_2_113 : Cond.selects RX2 yX2_secondAt yX2_secondAt ∈ lwT := tw_in (tw_c2 (List.mem_of_getElem? (i := 113) rfl)) rfl
theorem tw_2_114 : Cond.code yX2_secondAt cX2_secondAt 2 (some .int) ∈ lwT := tw_in (tw_c2 (List.mem_of_getElem? (i := 114) rfl)) rfl
theorem tw_2_115 : Cond.methodLink RX3 61 yX0_accepts ∈ lwT := tw_in (tw_c2 (List.mem_of_getElem? (i := 115) rfl)) rfl
theorem tw_2_116 : Cond.instanceMethod yX0_accepts ∈ lwT := tw_in (tw_c2 (List.mem_of_getElem? (i := 116) rfl)) rfl
theorem tw_2_117 : Cond.selects RX0 yX0_accepts yX0_accepts ∈ lwT := tw_in (tw_c2 (List.mem_of_getElem? (i := 117) rfl)) rfl
theorem tw_2_118 : Cond.code yX0_accepts cX0_accepts 5 (some .boolean) ∈ lwT := tw_in (tw_c2 (List.mem_of_getElem? (i := 118) rfl)) rfl
theorem tw_2_119 : Cond.methodLink RX0 45 yX0_valueOf ∈ lwT := tw_in (tw_c2 (List.mem_of_getElem? (i := 119) rfl)) rfl
theorem tw_2_121 : Cond.instanceMethod yX0_valueOf ∈ lwT := tw_in (tw_c2 (List.mem_of_getElem? (i := 121) rfl)) rfl
theorem tw_2_122 : Cond.code yX0_valueOf cX0_valueOf 6 (some .int) ∈ lwT := tw_in (tw_c2 (List.mem_of_getElem? (i := 122) rfl)) rfl
theorem tw_2_123 : Cond.methodLink RX0 49 yX0_compare ∈ lwT := tw_in (tw_c2 (List.mem_of_getElem? (i := 123) rfl)) rfl
theorem tw_2_124 : Cond.static yX0_compare ∈ lwT := tw_in (tw_c2 (List.mem_of_getElem? (i := 124) rfl)) rfl
theorem tw_2_125 : Cond.code yX0_compare cX0_compare 3 (some .boolean) ∈ lwT := tw_in (tw_c2 (List.mem_of_getElem? (i := 125) rfl)) rfl
theorem tw_2_126 : Cond.methodLink RX3 39 yX3_countAcceptedRight ∈ lwT := tw_in (tw_c2 (List.mem_of_getElem? (i := 126) rfl)) rfl
theorem tw_2_128 : Cond.instanceMethod yX3_countAcceptedRight ∈ lwT := tw_in (tw_c2 (List.mem_of_getElem? (i := 128) rfl)) rfl
theorem tw_2_129 : Cond.code yX3_countAcceptedRight cX3_countAcceptedRight 4 (some .int) ∈ lwT := tw_in (tw_c2 (List.mem_of_getElem? (i := 129) rfl)) rfl
theorem tw_2_130 : Cond.methodLink RX3 42 yX3_countAcceptedJoined ∈ lwT := tw_in (tw_c2 (List.mem_of_getElem? (i := 130) rfl)) rfl
theorem tw_2_132 : Cond.instanceMethod yX3_countAcceptedJoined ∈ lwT := tw_in (tw_c2 (List.mem_of_getElem? (i := 132) rfl)) rfl
theorem tw_2_133 : Cond.code yX3_countAcceptedJoined cX3_countAcceptedJoined 7 (some .int) ∈ lwT := tw_in (tw_c2 (List.mem_of_getElem? (i := 133) rfl)) rfl
theorem tw_2_134 : Cond.methodLink RL 65 yX7_answerCount ∈ lwT := tw_in (tw_c2 (List.mem_of_getElem? (i := 134) rfl)) rfl
theorem tw_2_135 : Cond.instanceMethod yX7_answerCount ∈ lwT := tw_in (tw_c2 (List.mem_of_getElem? (i := 135) rfl)) rfl
theorem tw_2_136 : Cond.selects RX7 yX7_answerCount yX7_answerCount ∈ lwT := tw_in (tw_c2 (List.mem_of_getElem? (i := 136) rfl)) rfl
theorem tw_2_137 : Cond.code yX7_answerCount cX7_answerCount 1 (some .int) ∈ lwT := tw_in (tw_c2 (List.mem_of_getElem? (i := 137) rfl)) rfl
theorem tw_2_138 : Cond.methodLink RX7 103 yX3_countAnswers ∈ lwT := tw_in (tw_c2 (List.mem_of_getElem? (i := 138) rfl)) rfl
theorem tw_2_139 : Cond.instanceMethod yX3_countAnswers ∈ lwT := tw_in (tw_c2 (List.mem_of_getElem? (i := 139) rfl)) rfl
theorem tw_2_140 : Cond.selects RX3 yX3_countAnswers yX3_countAnswers ∈ lwT := tw_in (tw_c2 (List.mem_of_getElem? (i := 140) rfl)) rfl
theorem tw_2_141 : Cond.code yX3_countAnswers cX3_countAnswers 3 (some .int) ∈ lwT := tw_in (tw_c2 (List.mem_of_getElem? (i := 141) rfl)) rfl
theorem tw_2_142 : Cond.methodLink RX3 81 yX3_tallyMatches ∈ lwT := tw_in (tw_c2 (List.mem_of_getElem? (i := 142) rfl)) rfl
theorem tw_2_144 : Cond.instanceMethod yX3_tallyMatches ∈ lwT := tw_in (tw_c2 (List.mem_of_getElem? (i := 144) rfl)) rfl
theorem tw_2_145 : Cond.code yX3_tallyMatches cX3_tallyMatches 6 (none : Option ClassFile.FieldType) ∈ lwT := tw_in (tw_c2 (List.mem_of_getElem? (i := 145) rfl)) rfl
theorem tw_2_146 : Cond.methodLink RX3 68 yJ7_fill_53178 ∈ lwT := tw_in (tw_c2 (List.mem_of_getElem? (i := 146) rfl)) rfl
theorem tw_2_147 : Cond.static yJ7_fill_53178 ∈ lwT := tw_in (tw_c2 (List.mem_of_getElem? (i := 147) rfl)) rfl
theorem tw_2_148 : Cond.code yJ7_fill_53178 cJ7_fill_53178 4 (none : Option ClassFile.FieldType) ∈ lwT := tw_in (tw_c2 (List.mem_of_getElem? (i := 148) rfl)) rfl
theorem tw_2_150 : Cond.methodLink RX3 77 yX0_rejecters ∈ lwT := tw_in (tw_c2 (List.mem_of_getElem? (i := 150) rfl)) rfl
theorem tw_2_151 : Cond.instanceMethod yX0_rejecters ∈ lwT := tw_in (tw_c2 (List.mem_of_getElem? (i := 151) rfl)) rfl
theorem tw_2_152 : Cond.selects RX0 yX0_rejecters yX0_rejecters ∈ lwT := tw_in (tw_c2 (List.mem_of_getElem? (i := 152) rfl)) rfl
theorem tw_2_153 : Cond.code yX0_rejecters cX0_rejecters 6 (some .int) ∈ lwT := tw_in (tw_c2 (List.mem_of_getElem? (i := 153) rfl)) rfl
theorem tw_2_154 : Cond.methodLink RX0 53 yX0_accepts ∈ lwT := tw_in (tw_c2 (List.mem_of_getElem? (i := 154) rfl)) rfl
theorem tw_2_155 : Cond.methodLink RL 69 yX7_answer ∈ lwT := tw_in (tw_c2 (List.mem_of_getElem? (i := 155) rfl)) rfl
theorem tw_2_156 : Cond.instanceMethod yX7_answer ∈ lwT := tw_in (tw_c2 (List.mem_of_getElem? (i := 156) rfl)) rfl
theorem tw_2_157 : Cond.selects RX7 yX7_answer yX7_answer ∈ lwT := tw_in (tw_c2 (List.mem_of_getElem? (i := 157) rfl)) rfl
theorem tw_2_158 : Cond.code yX7_answer cX7_answer 2 (some .int) ∈ lwT := tw_in (tw_c2 (List.mem_of_getElem? (i := 158) rfl)) rfl
theorem tw_2_159 : Cond.methodLink RX7 107 yX3_answerAt ∈ lwT := tw_in (tw_c2 (List.mem_of_getElem? (i := 159) rfl)) rfl
theorem tw_2_160 : Cond.instanceMethod yX3_answerAt ∈ lwT := tw_in (tw_c2 (List.mem_of_getElem? (i := 160) rfl)) rfl
theorem tw_2_161 : Cond.selects RX3 yX3_answerAt yX3_answerAt ∈ lwT := tw_in (tw_c2 (List.mem_of_getElem? (i := 161) rfl)) rfl
theorem tw_2_162 : Cond.code yX3_answerAt cX3_answerAt 4 (some .int) ∈ lwT := tw_in (tw_c2 (List.mem_of_getElem? (i := 162) rfl)) rfl
theorem tw_2_163 : Cond.methodLink RL 73 yX7_matchCount ∈ lwT := tw_in (tw_c2 (List.mem_of_getElem? (i := 163) rfl)) rfl
theorem tw_2_164 : Cond.instanceMethod yX7_matchCount ∈ lwT := tw_in (tw_c2 (List.mem_of_getElem? (i := 164) rfl)) rfl
theorem tw_2_165 : Cond.selects RX7 yX7_matchCount yX7_matchCount ∈ lwT := tw_in (tw_c2 (List.mem_of_getElem? (i := 165) rfl)) rfl
theorem tw_2_166 : Cond.code yX7_matchCount cX7_matchCount 3 (some .int) ∈ lwT := tw_in (tw_c2 (List.mem_of_getElem? (i := 166) rfl)) rfl
theorem tw_2_167 : Cond.methodLink RX7 110 yX7_isPair ∈ lwT := tw_in (tw_c2 (List.mem_of_getElem? (i := 167) rfl)) rfl
theorem tw_2_168 : Cond.methodLink RX7 114 yX3_countMatches ∈ lwT := tw_in (tw_c2 (List.mem_of_getElem? (i := 168) rfl)) rfl
theorem tw_2_169 : Cond.instanceMethod yX3_countMatches ∈ lwT := tw_in (tw_c2 (List.mem_of_getElem? (i := 169) rfl)) rfl
theorem tw_2_170 : Cond.selects RX3 yX3_countMatches yX3_countMatches ∈ lwT := tw_in (tw_c2 (List.mem_of_getElem? (i := 170) rfl)) rfl
theorem tw_2_171 : Cond.code yX3_countMatches cX3_countMatches 6 (some .int) ∈ lwT := tw_in (tw_c2 (List.mem_of_getElem? (i := 171) rfl)) rfl
theorem tw_2_172 : Cond.methodLink RX3 90 yX3_joinedBs ∈ lwT := tw_in (tw_c2 (List.mem_of_getElem? (i := 172) rfl)) rfl
theorem tw_2_174 : Cond.instanceMethod yX3_joinedBs ∈ lwT := tw_in (tw_c2 (List.mem_of_getElem? (i := 174) rfl)) rfl
theorem tw_2_175 : Cond.code yX3_joinedBs cX3_joinedBs 3 (some .int) ∈ lwT := tw_in (tw_c2 (List.mem_of_getElem? (i := 175) rfl)) rfl
theorem tw_2_176 : Cond.methodLink RX3 84 yX2_secondsOf ∈ lwT := tw_in (tw_c2 (List.mem_of_getElem? (i := 176) rfl)) rfl
theorem tw_2_177 : Cond.instanceMethod yX2_secondsOf ∈ lwT := tw_in (tw_c2 (List.mem_of_getElem? (i := 177) rfl)) rfl
theorem tw_2_178 : Cond.selects RX2 yX2_secondsOf yX2_secondsOf ∈ lwT := tw_in (tw_c2 (List.mem_of_getElem? (i := 178) rfl)) rfl
theorem tw_2_179 : Cond.code yX2_secondsOf cX2_secondsOf 4 (some .int) ∈ lwT := tw_in (tw_c2 (List.mem_of_getElem? (i := 179) rfl)) rfl
theorem tw_2_180 : Cond.methodLink RX2 49 yX2_firstAt ∈ lwT := tw_in (tw_c2 (List.mem_of_getElem? (i := 180) rfl)) rfl
theorem tw_2_181 : Cond.methodLink RX2 52 yX2_secondAt ∈ lwT := tw_in (tw_c2 (List.mem_of_getElem? (i := 181) rfl)) rfl
theorem tw_2_182 : Cond.methodLink RX3 87 yX2_firstsOf ∈ lwT := tw_in (tw_c2 (List.mem_of_getElem? (i := 182) rfl)) rfl
theorem tw_2_183 : Cond.instanceMethod yX2_firstsOf ∈ lwT := tw_in (tw_c2 (List.mem_of_getElem? (i := 183) rfl)) rfl
theorem tw_2_184 : Cond.selects RX2 yX2_firstsOf yX2_firstsOf ∈ lwT := tw_in (tw_c2 (List.mem_of_getElem? (i := 184) rfl)) rfl
theorem tw_2_185 : Cond.code yX2_firstsOf cX2_firstsOf 4 (some .int) ∈ lwT := tw_in (tw_c2 (List.mem_of_getElem? (i := 185) rfl)) rfl
theorem tw_2_187 : Cond.static yX7_isIn ∈ lwT := tw_in (tw_c2 (List.mem_of_getElem? (i := 187) rfl)) rfl
theorem tw_2_188 : Cond.code yX7_isIn cX7_isIn 2 (some .boolean) ∈ lwT := tw_in (tw_c2 (List.mem_of_getElem? (i := 188) rfl)) rfl
theorem tw_2_189 : Cond.methodLink RL 77 yX7_blame ∈ lwT := tw_in (tw_c2 (List.mem_of_getElem? (i := 189) rfl)) rfl
theorem tw_2_190 : Cond.instanceMethod yX7_blame ∈ lwT := tw_in (tw_c2 (List.mem_of_getElem? (i := 190) rfl)) rfl
theorem tw_2_191 : Cond.selects RX7 yX7_blame yX7_blame ∈ lwT := tw_in (tw_c2 (List.mem_of_getElem? (i := 191) rfl)) rfl
theorem tw_2_192 : Cond.code yX7_blame cX7_blame 3 (some .int) ∈ lwT := tw_in (tw_c2 (List.mem_of_getElem? (i := 192) rfl)) rfl
theorem tw_2_193 : Cond.methodLink RX7 117 yX3_firstCause ∈ lwT := tw_in (tw_c2 (List.mem_of_getElem? (i := 193) rfl)) rfl
theorem tw_2_194 : Cond.instanceMethod yX3_firstCause ∈ lwT := tw_in (tw_c2 (List.mem_of_getElem? (i := 194) rfl)) rfl
theorem tw_2_195 : Cond.selects RX3 yX3_firstCause yX3_firstCause ∈ lwT := tw_in (tw_c2 (List.mem_of_getElem? (i := 195) rfl)) rfl
theorem tw_2_196 : Cond.code yX3_firstCause cX3_firstCause 7 (some .int) ∈ lwT := tw_in (tw_c2 (List.mem_of_getElem? (i := 196) rfl)) rfl
theorem tw_2_197 : Cond.methodLink RX3 97 yX3_emptyingFilter ∈ lwT := tw_in (tw_c2 (List.mem_of_getElem? (i := 197) rfl)) rfl
theorem tw_2_199 : Cond.instanceMethod yX3_emptyingFilter ∈ lwT := tw_in (tw_c2 (List.mem_of_getElem? (i := 199) rfl)) rfl
theorem tw_2_200 : Cond.code yX3_emptyingFilter cX3_emptyingFilter 7 (some .int) ∈ lwT := tw_in (tw_c2 (List.mem_of_getElem? (i := 200) rfl)) rfl
theorem tw_2_201 : Cond.methodLink RX3 105 yX3_acceptedBs ∈ lwT := tw_in (tw_c2 (List.mem_of_getElem? (i := 201) rfl)) rfl
theorem tw_2_203 : Cond.instanceMethod yX3_acceptedBs ∈ lwT := tw_in (tw_c2 (List.mem_of_getElem? (i := 203) rfl)) rfl
theorem tw_2_204 : Cond.code yX3_acceptedBs cX3_acceptedBs 7 (some .int) ∈ lwT := tw_in (tw_c2 (List.mem_of_getElem? (i := 204) rfl)) rfl
theorem tw_2_205 : Cond.methodLink RX3 101 yX3_survivors ∈ lwT := tw_in (tw_c2 (List.mem_of_getElem? (i := 205) rfl)) rfl
theorem tw_2_207 : Cond.instanceMethod yX3_survivors ∈ lwT := tw_in (tw_c2 (List.mem_of_getElem? (i := 207) rfl)) rfl
theorem tw_2_208 : Cond.code yX3_survivors cX3_survivors 7 (some .int) ∈ lwT := tw_in (tw_c2 (List.mem_of_getElem? (i := 208) rfl)) rfl
theorem tw_2_209 : Cond.methodLink RL 81 yX7_filtersToRemove ∈ lwT := tw_in (tw_c2 (List.mem_of_getElem? (i := 209) rfl)) rfl
theorem tw_2_210 : Cond.instanceMethod yX7_filtersToRemove ∈ lwT := tw_in (tw_c2 (List.mem_of_getElem? (i := 210) rfl)) rfl
theorem tw_2_211 : Cond.selects RX7 yX7_filtersToRemove yX7_filtersToRemove ∈ lwT := tw_in (tw_c2 (List.mem_of_getElem? (i := 211) rfl)) rfl
theorem tw_2_212 : Cond.code yX7_filtersToRemove cX7_filtersToRemove 3 (some .int) ∈ lwT := tw_in (tw_c2 (List.mem_of_getElem? (i := 212) rfl)) rfl
theorem tw_2_213 : Cond.methodLink RX7 120 yX3_smallestRemoval ∈ lwT := tw_in (tw_c2 (List.mem_of_getElem? (i := 213) rfl)) rfl
theorem tw_2_214 : Cond.instanceMethod yX3_smallestRemoval ∈ lwT := tw_in (tw_c2 (List.mem_of_getElem? (i := 214) rfl)) rfl
theorem tw_2_215 : Cond.selects RX3 yX3_smallestRemoval yX3_smallestRemoval ∈ lwT := tw_in (tw_c2 (List.mem_of_getElem? (i := 215) rfl)) rfl
theorem tw_2_216 : Cond.code yX3_smallestRemoval cX3_smallestRemoval 7 (some .int) ∈ lwT := tw_in (tw_c2 (List.mem_of_getElem? (i := 216) rfl)) rfl
theorem tw_2_217 : Cond.methodLink RX3 108 yX3_isSmallerSet ∈ lwT := tw_in (tw_c2 (List.mem_of_getElem? (i := 217) rfl)) rfl
theorem tw_2_218 : Cond.static yX3_isSmallerSet ∈ lwT := tw_in (tw_c2 (List.mem_of_getElem? (i := 218) rfl)) rfl
theorem tw_2_219 : Cond.code yX3_isSmallerSet cX3_isSmallerSet 3 (some .boolean) ∈ lwT := tw_in (tw_c2 (List.mem_of_getElem? (i := 219) rfl)) rfl
theorem tw_2_220 : Cond.methodLink RX3 111 yJ6_bitCount_0f7a4 ∈ lwT := tw_in (tw_c2 (List.mem_of_getElem? (i := 220) rfl)) rfl
theorem tw_2_221 : Cond.static yJ6_bitCount_0f7a4 ∈ lwT := tw_in (tw_c2 (List.mem_of_getElem? (i := 221) rfl)) rfl
theorem tw_2_222 : Cond.code yJ6_bitCount_0f7a4 cJ6_bitCount_0f7a4 1 (some .int) ∈ lwT := tw_in (tw_c2 (List.mem_of_getElem? (i := 222) rfl)) rfl
theorem tw_2_223 : Cond.constant RJ6 265 (1431655765 : Int32) ∈ lwT := tw_in (tw_c2 (List.mem_of_getElem? (i := 223) rfl)) rfl
theorem tw_2_224 : Cond.constant RJ6 266 (858993459 : Int32) ∈ lwT := tw_in (tw_c2 (List.mem_of_getElem? (i := 224) rfl)) rfl
theorem tw_2_225 : Cond.constant RJ6 267 (252645135 : Int32) ∈ lwT := tw_in (tw_c2 (List.mem_of_getElem? (i := 225) rfl)) rfl
theorem tw_2_226 : Cond.methodLink RL 85 yX7_repairedConstant ∈ lwT := tw_in (tw_c2 (List.mem_of_getElem? (i := 226) rfl)) rfl
theorem tw_2_227 : Cond.instanceMethod yX7_repairedConstant ∈ lwT := tw_in (tw_c2 (List.mem_of_getElem? (i := 227) rfl)) rfl
theorem tw_2_228 : Cond.selects RX7 yX7_repairedConstant yX7_repairedConstant ∈ lwT := tw_in (tw_c2 (List.mem_of_getElem? (i := 228) rfl)) rfl
theorem tw_2_229 : Cond.code yX7_repairedConstant cX7_repairedConstant 4 (some .int) ∈ lwT := tw_in (tw_c2 (List.mem_of_getElem? (i := 229) rfl)) rfl
theorem tw_2_230 : Cond.methodLink RX7 123 yX3_nearestConstant ∈ lwT := tw_in (tw_c2 (List.mem_of_getElem? (i := 230) rfl)) rfl
theorem tw_2_231 : Cond.instanceMethod yX3_nearestConstant ∈ lwT := tw_in (tw_c2 (List.mem_of_getElem? (i := 231) rfl)) rfl
theorem tw_2_232 : Cond.selects RX3 yX3_nearestConstant yX3_nearestConstant ∈ lwT := tw_in (tw_c2 (List.mem_of_getElem? (i := 232) rfl)) rfl
theorem tw_2_233 : Cond.code yX3_nearestConstant cX3_nearestConstant 8 (some .int) ∈ lwT := tw_in (tw_c2 (List.mem_of_getElem? (i := 233) rfl)) rfl
theorem tw_2_234 : Cond.methodLink RX3 116 yX0_constantAt ∈ lwT := tw_in (tw_c2 (List.mem_of_getElem? (i := 234) rfl)) rfl
theorem tw_2_235 : Cond.methodLink RX3 119 yX3_bsAcceptedByOthers ∈ lwT := tw_in (tw_c2 (List.mem_of_getElem? (i := 235) rfl)) rfl
theorem tw_2_237 : Cond.instanceMethod yX3_bsAcceptedByOthers ∈ lwT := tw_in (tw_c2 (List.mem_of_getElem? (i := 237) rfl)) rfl
theorem tw_2_238 : Cond.code yX3_bsAcceptedByOthers cX3_bsAcceptedByOthers 7 (some .int) ∈ lwT := tw_in (tw_c2 (List.mem_of_getElem? (i := 238) rfl)) rfl
theorem tw_2_239 : Cond.methodLink RX3 122 yX3_isRepair ∈ lwT := tw_in (tw_c2 (List.mem_of_getElem? (i := 239) rfl)) rfl
theorem tw_3_1 : Cond.instanceMethod yX3_isRepair ∈ lwT := tw_in (tw_c3 (List.mem_of_getElem? (i := 1) rfl)) rfl
theorem tw_3_2 : Cond.code yX3_isRepair cX3_isRepair 7 (some .boolean) ∈ lwT := tw_in (tw_c3 (List.mem_of_getElem? (i := 2) rfl)) rfl
theorem tw_3_3 : Cond.methodLink RX3 126 yX0_mayHaveConstant ∈ lwT := tw_in (tw_c3 (List.mem_of_getElem? (i := 3) rfl)) rfl
theorem tw_3_4 : Cond.instanceMethod yX0_mayHaveConstant ∈ lwT := tw_in (tw_c3 (List.mem_of_getElem? (i := 4) rfl)) rfl
theorem tw_3_5 : Cond.selects RX0 yX0_mayHaveConstant yX0_mayHaveConstant ∈ lwT := tw_in (tw_c3 (List.mem_of_getElem? (i := 5) rfl)) rfl
theorem tw_3_6 : Cond.code yX0_mayHaveConstant cX0_mayHaveConstant 3 (some .boolean) ∈ lwT := tw_in (tw_c3 (List.mem_of_getElem? (i := 6) rfl)) rfl
theorem tw_3_7 : Cond.methodLink RX3 129 yX0_acceptsWith ∈ lwT := tw_in (tw_c3 (List.mem_of_getElem? (i := 7) rfl)) rfl
theorem tw_3_8 : Cond.instanceMethod yX0_acceptsWith ∈ lwT := tw_in (tw_c3 (List.mem_of_getElem? (i := 8) rfl)) rfl
theorem tw_3_9 : Cond.selects RX0 yX0_acceptsWith yX0_acceptsWith ∈ lwT := tw_in (tw_c3 (List.mem_of_getElem? (i := 9) rfl)) rfl
theorem tw_3_10 : Cond.code yX0_acceptsWith cX0_acceptsWith 6 (some .boolean) ∈ lwT := tw_in (tw_c3 (List.mem_of_getElem? (i := 10) rfl)) rfl
theorem tw_3_11 : Cond.methodLink RL 90 yX7_missingRows ∈ lwT := tw_in (tw_c3 (List.mem_of_getElem? (i := 11) rfl)) rfl
theorem tw_3_12 : Cond.instanceMethod yX7_missingRows ∈ lwT := tw_in (tw_c3 (List.mem_of_getElem? (i := 12) rfl)) rfl
theorem tw_3_13 : Cond.selects RX7 yX7_missingRows yX7_missingRows ∈ lwT := tw_in (tw_c3 (List.mem_of_getElem? (i := 13) rfl)) rfl
theorem tw_3_14 : Cond.code yX7_missingRows cX7_missingRows 3 (some .int) ∈ lwT := tw_in (tw_c3 (List.mem_of_getElem? (i := 14) rfl)) rfl
theorem tw_3_15 : Cond.methodLink RX7 127 yX3_lowestCost ∈ lwT := tw_in (tw_c3 (List.mem_of_getElem? (i := 15) rfl)) rfl
theorem tw_3_16 : Cond.instanceMethod yX3_lowestCost ∈ lwT := tw_in (tw_c3 (List.mem_of_getElem? (i := 16) rfl)) rfl
theorem tw_3_17 : Cond.selects RX3 yX3_lowestCost yX3_lowestCost ∈ lwT := tw_in (tw_c3 (List.mem_of_getElem? (i := 17) rfl)) rfl
theorem tw_3_18 : Cond.code yX3_lowestCost cX3_lowestCost 4 (some .int) ∈ lwT := tw_in (tw_c3 (List.mem_of_getElem? (i := 18) rfl)) rfl
theorem tw_3_19 : Cond.methodLink RX3 138 yX3_cheapestB ∈ lwT := tw_in (tw_c3 (List.mem_of_getElem? (i := 19) rfl)) rfl
theorem tw_3_20 : Cond.instanceMethod yX3_cheapestB ∈ lwT := tw_in (tw_c3 (List.mem_of_getElem? (i := 20) rfl)) rfl
theorem tw_3_21 : Cond.selects RX3 yX3_cheapestB yX3_cheapestB ∈ lwT := tw_in (tw_c3 (List.mem_of_getElem? (i := 21) rfl)) rfl
theorem tw_3_22 : Cond.code yX3_cheapestB cX3_cheapestB 7 (some .int) ∈ lwT := tw_in (tw_c3 (List.mem_of_getElem? (i := 22) rfl)) rfl
theorem tw_3_23 : Cond.methodLink RX3 132 yX3_costOf ∈ lwT := tw_in (tw_c3 (List.mem_of_getElem? (i := 23) rfl)) rfl
theorem tw_3_25 : Cond.instanceMethod yX3_costOf ∈ lwT := tw_in (tw_c3 (List.mem_of_getElem? (i := 25) rfl)) rfl
theorem tw_3_26 : Cond.code yX3_costOf cX3_costOf 4 (some .int) ∈ lwT := tw_in (tw_c3 (List.mem_of_getElem? (i := 26) rfl)) rfl
theorem tw_3_27 : Cond.methodLink RX3 135 yX2_holds ∈ lwT := tw_in (tw_c3 (List.mem_of_getElem? (i := 27) rfl)) rfl
theorem tw_3_28 : Cond.methodLink RL 94 yX7_missingB ∈ lwT := tw_in (tw_c3 (List.mem_of_getElem? (i := 28) rfl)) rfl
theorem tw_3_29 : Cond.instanceMethod yX7_missingB ∈ lwT := tw_in (tw_c3 (List.mem_of_getElem? (i := 29) rfl)) rfl
theorem tw_3_30 : Cond.selects RX7 yX7_missingB yX7_missingB ∈ lwT := tw_in (tw_c3 (List.mem_of_getElem? (i := 30) rfl)) rfl
theorem tw_3_31 : Cond.code yX7_missingB cX7_missingB 3 (some .int) ∈ lwT := tw_in (tw_c3 (List.mem_of_getElem? (i := 31) rfl)) rfl
theorem tw_3_32 : Cond.methodLink RX7 130 yX3_bToInsert ∈ lwT := tw_in (tw_c3 (List.mem_of_getElem? (i := 32) rfl)) rfl
theorem tw_3_33 : Cond.instanceMethod yX3_bToInsert ∈ lwT := tw_in (tw_c3 (List.mem_of_getElem? (i := 33) rfl)) rfl
theorem tw_3_34 : Cond.selects RX3 yX3_bToInsert yX3_bToInsert ∈ lwT := tw_in (tw_c3 (List.mem_of_getElem? (i := 34) rfl)) rfl
theorem tw_3_35 : Cond.code yX3_bToInsert cX3_bToInsert 4 (some .int) ∈ lwT := tw_in (tw_c3 (List.mem_of_getElem? (i := 35) rfl)) rfl
theorem tw_3_36 : Cond.methodLink RL 98 yX7_insertMissing ∈ lwT := tw_in (tw_c3 (List.mem_of_getElem? (i := 36) rfl)) rfl
theorem tw_3_37 : Cond.instanceMethod yX7_insertMissing ∈ lwT := tw_in (tw_c3 (List.mem_of_getElem? (i := 37) rfl)) rfl
theorem tw_3_38 : Cond.selects RX7 yX7_insertMissing yX7_insertMissing ∈ lwT := tw_in (tw_c3 (List.mem_of_getElem? (i := 38) rfl)) rfl
theorem tw_3_39 : Cond.code yX7_insertMissing cX7_insertMissing 3 (some .int) ∈ lwT := tw_in (tw_c3 (List.mem_of_getElem? (i := 39) rfl)) rfl
theorem tw_3_40 : Cond.methodLink RX7 133 yX7_insertRowsOf ∈ lwT := tw_in (tw_c3 (List.mem_of_getElem? (i := 40) rfl)) rfl
theorem tw_3_42 : Cond.instanceMethod yX7_insertRowsOf ∈ lwT := tw_in (tw_c3 (List.mem_of_getElem? (i := 42) rfl)) rfl
theorem tw_3_43 : Cond.code yX7_insertRowsOf cX7_insertRowsOf 7 (some .int) ∈ lwT := tw_in (tw_c3 (List.mem_of_getElem? (i := 43) rfl)) rfl
theorem tw_3_44 : Cond.methodLink RX7 227 yX3_cheapestB ∈ lwT := tw_in (tw_c3 (List.mem_of_getElem? (i := 44) rfl)) rfl
theorem tw_3_45 : Cond.methodLink RX7 230 yX2_holds ∈ lwT := tw_in (tw_c3 (List.mem_of_getElem? (i := 45) rfl)) rfl
theorem tw_3_46 : Cond.methodLink RX7 232 yX2_isFull ∈ lwT := tw_in (tw_c3 (List.mem_of_getElem? (i := 46) rfl)) rfl
theorem tw_3_47 : Cond.methodLink RL 102 yX7_loosen ∈ lwT := tw_in (tw_c3 (List.mem_of_getElem? (i := 47) rfl)) rfl
theorem tw_3_48 : Cond.instanceMethod yX7_loosen ∈ lwT := tw_in (tw_c3 (List.mem_of_getElem? (i := 48) rfl)) rfl
theorem tw_3_49 : Cond.selects RX7 yX7_loosen yX7_loosen ∈ lwT := tw_in (tw_c3 (List.mem_of_getElem? (i := 49) rfl)) rfl
theorem tw_3_50 : Cond.code yX7_loosen cX7_loosen 3 (some .int) ∈ lwT := tw_in (tw_c3 (List.mem_of_getElem? (i := 50) rfl)) rfl
theorem tw_3_51 : Cond.methodLink RX7 136 yX7_dropFiltersAgainst ∈ lwT := tw_in (tw_c3 (List.mem_of_getElem? (i := 51) rfl)) rfl
theorem tw_3_53 : Cond.instanceMethod yX7_dropFiltersAgainst ∈ lwT := tw_in (tw_c3 (List.mem_of_getElem? (i := 53) rfl)) rfl
theorem tw_3_54 : Cond.code yX7_dropFiltersAgainst cX7_dropFiltersAgainst 5 (some .int) ∈ lwT := tw_in (tw_c3 (List.mem_of_getElem? (i := 54) rfl)) rfl
theorem tw_3_55 : Cond.methodLink RX7 235 yJ6_bitCount_0f7a4 ∈ lwT := tw_in (tw_c3 (List.mem_of_getElem? (i := 55) rfl)) rfl
theorem tw_3_56 : Cond.methodLink RL 106 yX7_addWish ∈ lwT := tw_in (tw_c3 (List.mem_of_getElem? (i := 56) rfl)) rfl
theorem tw_3_57 : Cond.instanceMethod yX7_addWish ∈ lwT := tw_in (tw_c3 (List.mem_of_getElem? (i := 57) rfl)) rfl
theorem tw_3_58 : Cond.selects RX7 yX7_addWish yX7_addWish ∈ lwT := tw_in (tw_c3 (List.mem_of_getElem? (i := 58) rfl)) rfl
theorem tw_3_59 : Cond.code yX7_addWish cX7_addWish 3 (some .int) ∈ lwT := tw_in (tw_c3 (List.mem_of_getElem? (i := 59) rfl)) rfl
theorem tw_3_60 : Cond.methodLink RL 110 yX7_clearWishes ∈ lwT := tw_in (tw_c3 (List.mem_of_getElem? (i := 60) rfl)) rfl
theorem tw_3_61 : Cond.instanceMethod yX7_clearWishes ∈ lwT := tw_in (tw_c3 (List.mem_of_getElem? (i := 61) rfl)) rfl
theorem tw_3_62 : Cond.selects RX7 yX7_clearWishes yX7_clearWishes ∈ lwT := tw_in (tw_c3 (List.mem_of_getElem? (i := 62) rfl)) rfl
theorem tw_3_63 : Cond.code yX7_clearWishes cX7_clearWishes 1 (some .int) ∈ lwT := tw_in (tw_c3 (List.mem_of_getElem? (i := 63) rfl)) rfl
theorem tw_3_64 : Cond.methodLink RX7 142 yX2_dropAll ∈ lwT := tw_in (tw_c3 (List.mem_of_getElem? (i := 64) rfl)) rfl
theorem tw_3_65 : Cond.instanceMethod yX2_dropAll ∈ lwT := tw_in (tw_c3 (List.mem_of_getElem? (i := 65) rfl)) rfl
theorem tw_3_66 : Cond.selects RX2 yX2_dropAll yX2_dropAll ∈ lwT := tw_in (tw_c3 (List.mem_of_getElem? (i := 66) rfl)) rfl
theorem tw_3_67 : Cond.code yX2_dropAll cX2_dropAll 2 (some .int) ∈ lwT := tw_in (tw_c3 (List.mem_of_getElem? (i := 67) rfl)) rfl
theorem tw_3_68 : Cond.methodLink RL 114 yX7_satisfiedWishes ∈ lwT := tw_in (tw_c3 (List.mem_of_getElem? (i := 68) rfl)) rfl
theorem tw_3_69 : Cond.instanceMethod yX7_satisfiedWishes ∈ lwT := tw_in (tw_c3 (List.mem_of_getElem? (i := 69) rfl)) rfl
theorem tw_3_70 : Cond.selects RX7 yX7_satisfiedWishes yX7_satisfiedWishes ∈ lwT := tw_in (tw_c3 (List.mem_of_getElem? (i := 70) rfl)) rfl
theorem tw_3_71 : Cond.code yX7_satisfiedWishes cX7_satisfiedWishes 1 (some .int) ∈ lwT := tw_in (tw_c3 (List.mem_of_getElem? (i := 71) rfl)) rfl
theorem tw_3_72 : Cond.methodLink RX7 145 yX3_countSatisfiedWishes ∈ lwT := tw_in (tw_c3 (List.mem_of_getElem? (i := 72) rfl)) rfl
theorem tw_3_73 : Cond.instanceMethod yX3_countSatisfiedWishes ∈ lwT := tw_in (tw_c3 (List.mem_of_getElem? (i := 73) rfl)) rfl
theorem tw_3_74 : Cond.selects RX3 yX3_countSatisfiedWishes yX3_countSatisfiedWishes ∈ lwT := tw_in (tw_c3 (List.mem_of_getElem? (i := 74) rfl)) rfl
theorem tw_3_75 : Cond.code yX3_countSatisfiedWishes cX3_countSatisfiedWishes 3 (some .int) ∈ lwT := tw_in (tw_c3 (List.mem_of_getElem? (i := 75) rfl)) rfl
theorem tw_3_76 : Cond.methodLink RX3 144 yX3_countMatches ∈ lwT := tw_in (tw_c3 (List.mem_of_getElem? (i := 76) rfl)) rfl
theorem tw_3_77 : Cond.methodLink RL 118 yX7_filtersToRemoveForWishes ∈ lwT := tw_in (tw_c3 (List.mem_of_getElem? (i := 77) rfl)) rfl
theorem tw_3_78 : Cond.instanceMethod yX7_filtersToRemoveForWishes ∈ lwT := tw_in (tw_c3 (List.mem_of_getElem? (i := 78) rfl)) rfl
theorem tw_3_79 : Cond.selects RX7 yX7_filtersToRemoveForWishes yX7_filtersToRemoveForWishes ∈ lwT := tw_in (tw_c3 (List.mem_of_getElem? (i := 79) rfl)) rfl
theorem tw_3_80 : Cond.code yX7_filtersToRemoveForWishes cX7_filtersToRemoveForWishes 1 (some .int) ∈ lwT := tw_in (tw_c3 (List.mem_of_getElem? (i := 80) rfl)) rfl
theorem tw_3_81 : Cond.methodLink RX7 148 yX3_smallestRemovalForWishes ∈ lwT := tw_in (tw_c3 (List.mem_of_getElem? (i := 81) rfl)) rfl
theorem tw_3_82 : Cond.instanceMethod yX3_smallestRemovalForWishes ∈ lwT := tw_in (tw_c3 (List.mem_of_getElem? (i := 82) rfl)) rfl
theorem tw_3_83 : Cond.selects RX3 yX3_smallestRemovalForWishes yX3_smallestRemovalForWishes ∈ lwT := tw_in (tw_c3 (List.mem_of_getElem? (i := 83) rfl)) rfl
theorem tw_3_84 : Cond.code yX3_smallestRemovalForWishes cX3_smallestRemovalForWishes 4 (some .int) ∈ lwT := tw_in (tw_c3 (List.mem_of_getElem? (i := 84) rfl)) rfl
theorem tw_3_85 : Cond.methodLink RX3 147 yX3_listWishRejecters ∈ lwT := tw_in (tw_c3 (List.mem_of_getElem? (i := 85) rfl)) rfl
theorem tw_3_87 : Cond.instanceMethod yX3_listWishRejecters ∈ lwT := tw_in (tw_c3 (List.mem_of_getElem? (i := 87) rfl)) rfl
theorem tw_3_88 : Cond.code yX3_listWishRejecters cX3_listWishRejecters 6 (none : Option ClassFile.FieldType) ∈ lwT := tw_in (tw_c3 (List.mem_of_getElem? (i := 88) rfl)) rfl
theorem tw_3_89 : Cond.methodLink RX3 150 yJ9_min_7cf53 ∈ lwT := tw_in (tw_c3 (List.mem_of_getElem? (i := 89) rfl)) rfl
theorem tw_3_90 : Cond.methodLink RX3 155 yX3_grantsWishes ∈ lwT := tw_in (tw_c3 (List.mem_of_getElem? (i := 90) rfl)) rfl
theorem tw_3_92 : Cond.instanceMethod yX3_grantsWishes ∈ lwT := tw_in (tw_c3 (List.mem_of_getElem? (i := 92) rfl)) rfl
theorem tw_3_93 : Cond.code yX3_grantsWishes cX3_grantsWishes 3 (some .boolean) ∈ lwT := tw_in (tw_c3 (List.mem_of_getElem? (i := 93) rfl)) rfl
theorem tw_3_94 : Cond.methodLink RX3 159 yX3_grantsWish ∈ lwT := tw_in (tw_c3 (List.mem_of_getElem? (i := 94) rfl)) rfl
theorem tw_3_96 : Cond.instanceMethod yX3_grantsWish ∈ lwT := tw_in (tw_c3 (List.mem_of_getElem? (i := 96) rfl)) rfl
theorem tw_3_97 : Cond.code yX3_grantsWish cX3_grantsWish 5 (some .boolean) ∈ lwT := tw_in (tw_c3 (List.mem_of_getElem? (i := 97) rfl)) rfl
theorem tw_3_98 : Cond.methodLink RL 122 yX7_append ∈ lwT := tw_in (tw_c3 (List.mem_of_getElem? (i := 98) rfl)) rfl
theorem tw_3_99 : Cond.instanceMethod yX7_append ∈ lwT := tw_in (tw_c3 (List.mem_of_getElem? (i := 99) rfl)) rfl
theorem tw_3_100 : Cond.selects RX7 yX7_append yX7_append ∈ lwT := tw_in (tw_c3 (List.mem_of_getElem? (i := 100) rfl)) rfl
theorem tw_3_101 : Cond.code yX7_append cX7_append 2 (some .int) ∈ lwT := tw_in (tw_c3 (List.mem_of_getElem? (i := 101) rfl)) rfl
theorem tw_3_102 : Cond.methodLink RX7 151 yX6_put ∈ lwT := tw_in (tw_c3 (List.mem_of_getElem? (i := 102) rfl)) rfl
theorem tw_3_103 : Cond.instanceMethod yX6_put ∈ lwT := tw_in (tw_c3 (List.mem_of_getElem? (i := 103) rfl)) rfl
theorem tw_3_104 : Cond.selects RX6 yX6_put yX6_put ∈ lwT := tw_in (tw_c3 (List.mem_of_getElem? (i := 104) rfl)) rfl
theorem tw_3_105 : Cond.code yX6_put cX6_put 2 (some .int) ∈ lwT := tw_in (tw_c3 (List.mem_of_getElem? (i := 105) rfl)) rfl
theorem tw_3_106 : Cond.methodLink RL 126 yX7_clearText ∈ lwT := tw_in (tw_c3 (List.mem_of_getElem? (i := 106) rfl)) rfl
theorem tw_3_107 : Cond.instanceMethod yX7_clearText ∈ lwT := tw_in (tw_c3 (List.mem_of_getElem? (i := 107) rfl)) rfl
theorem tw_3_108 : Cond.selects RX7 yX7_clearText yX7_clearText ∈ lwT := tw_in (tw_c3 (List.mem_of_getElem? (i := 108) rfl)) rfl
theorem tw_3_109 : Cond.code yX7_clearText cX7_clearText 1 (some .int) ∈ lwT := tw_in (tw_c3 (List.mem_of_getElem? (i := 109) rfl)) rfl
theorem tw_3_110 : Cond.methodLink RX7 156 yX6_empty ∈ lwT := tw_in (tw_c3 (List.mem_of_getElem? (i := 110) rfl)) rfl
theorem tw_3_111 : Cond.instanceMethod yX6_empty ∈ lwT := tw_in (tw_c3 (List.mem_of_getElem? (i := 111) rfl)) rfl
theorem tw_3_112 : Cond.selects RX6 yX6_empty yX6_empty ∈ lwT := tw_in (tw_c3 (List.mem_of_getElem? (i := 112) rfl)) rfl
theorem tw_3_113 : Cond.code yX6_empty cX6_empty 2 (some .int) ∈ lwT := tw_in (tw_c3 (List.mem_of_getElem? (i := 113) rfl)) rfl
theorem tw_3_114 : Cond.methodLink RL 130 yX7_runScript ∈ lwT := tw_in (tw_c3 (List.mem_of_getElem? (i := 114) rfl)) rfl
theorem tw_3_115 : Cond.instanceMethod yX7_runScript ∈ lwT := tw_in (tw_c3 (List.mem_of_getElem? (i := 115) rfl)) rfl
theorem tw_3_116 : Cond.selects RX7 yX7_runScript yX7_runScript ∈ lwT := tw_in (tw_c3 (List.mem_of_getElem? (i := 116) rfl)) rfl
theorem tw_3_117 : Cond.code yX7_runScript cX7_runScript 2 (some .int) ∈ lwT := tw_in (tw_c3 (List.mem_of_getElem? (i := 117) rfl)) rfl
theorem tw_3_118 : Cond.methodLink RX7 159 yX4_parse ∈ lwT := tw_in (tw_c3 (List.mem_of_getElem? (i := 118) rfl)) rfl
theorem tw_3_119 : Cond.instanceMethod yX4_parse ∈ lwT := tw_in (tw_c3 (List.mem_of_getElem? (i := 119) rfl)) rfl
theorem tw_3_120 : Cond.selects RX4 yX4_parse yX4_parse ∈ lwT := tw_in (tw_c3 (List.mem_of_getElem? (i := 120) rfl)) rfl
theorem tw_3_121 : Cond.code yX4_parse cX4_parse 1 (some .boolean) ∈ lwT := tw_in (tw_c3 (List.mem_of_getElem? (i := 121) rfl)) rfl
theorem tw_3_122 : Cond.methodLink RX4 32 yX4_skipSpaces ∈ lwT := tw_in (tw_c3 (List.mem_of_getElem? (i := 122) rfl)) rfl
theorem tw_3_124 : Cond.instanceMethod yX4_skipSpaces ∈ lwT := tw_in (tw_c3 (List.mem_of_getElem? (i := 124) rfl)) rfl
theorem tw_3_125 : Cond.code yX4_skipSpaces cX4_skipSpaces 1 (none : Option ClassFile.FieldType) ∈ lwT := tw_in (tw_c3 (List.mem_of_getElem? (i := 125) rfl)) rfl
theorem tw_3_126 : Cond.methodLink RX4 42 yX6_byteAt ∈ lwT := tw_in (tw_c3 (List.mem_of_getElem? (i := 126) rfl)) rfl
theorem tw_3_127 : Cond.instanceMethod yX6_byteAt ∈ lwT := tw_in (tw_c3 (List.mem_of_getElem? (i := 127) rfl)) rfl
theorem tw_3_128 : Cond.selects RX6 yX6_byteAt yX6_byteAt ∈ lwT := tw_in (tw_c3 (List.mem_of_getElem? (i := 128) rfl)) rfl
theorem tw_3_129 : Cond.code yX6_byteAt cX6_byteAt 2 (some .int) ∈ lwT := tw_in (tw_c3 (List.mem_of_getElem? (i := 129) rfl)) rfl
theorem tw_3_130 : Cond.methodLink RX4 35 yX4_readCommand ∈ lwT := tw_in (tw_c3 (List.mem_of_getElem? (i := 130) rfl)) rfl
theorem tw_3_132 : Cond.instanceMethod yX4_readCommand ∈ lwT := tw_in (tw_c3 (List.mem_of_getElem? (i := 132) rfl)) rfl
theorem tw_3_133 : Cond.code yX4_readCommand cX4_readCommand 5 (some .boolean) ∈ lwT := tw_in (tw_c3 (List.mem_of_getElem? (i := 133) rfl)) rfl
theorem tw_3_134 : Cond.methodLink RX4 46 yX4_numbersBehind ∈ lwT := tw_in (tw_c3 (List.mem_of_getElem? (i := 134) rfl)) rfl
theorem tw_3_135 : Cond.static yX4_numbersBehind ∈ lwT := tw_in (tw_c3 (List.mem_of_getElem? (i := 135) rfl)) rfl
theorem tw_3_136 : Cond.code yX4_numbersBehind cX4_numbersBehind 1 (some .int) ∈ lwT := tw_in (tw_c3 (List.mem_of_getElem? (i := 136) rfl)) rfl
theorem tw_3_137 : Cond.methodLink RX4 49 yX4_readNumber ∈ lwT := tw_in (tw_c3 (List.mem_of_getElem? (i := 137) rfl)) rfl
theorem tw_3_139 : Cond.instanceMethod yX4_readNumber ∈ lwT := tw_in (tw_c3 (List.mem_of_getElem? (i := 139) rfl)) rfl
theorem tw_3_140 : Cond.code yX4_readNumber cX4_readNumber 5 (some .boolean) ∈ lwT := tw_in (tw_c3 (List.mem_of_getElem? (i := 140) rfl)) rfl
theorem tw_3_141 : Cond.methodLink RX4 53 yX4_isDigit ∈ lwT := tw_in (tw_c3 (List.mem_of_getElem? (i := 141) rfl)) rfl
theorem tw_3_142 : Cond.static yX4_isDigit ∈ lwT := tw_in (tw_c3 (List.mem_of_getElem? (i := 142) rfl)) rfl
theorem tw_3_143 : Cond.code yX4_isDigit cX4_isDigit 1 (some .boolean) ∈ lwT := tw_in (tw_c3 (List.mem_of_getElem? (i := 143) rfl)) rfl
theorem tw_3_144 : Cond.methodLink RX7 167 yX7_perform ∈ lwT := tw_in (tw_c3 (List.mem_of_getElem? (i := 144) rfl)) rfl
theorem tw_3_146 : Cond.instanceMethod yX7_perform ∈ lwT := tw_in (tw_c3 (List.mem_of_getElem? (i := 146) rfl)) rfl
theorem tw_3_147 : Cond.code yX7_perform cX7_perform 4 (some .int) ∈ lwT := tw_in (tw_c3 (List.mem_of_getElem? (i := 147) rfl)) rfl
theorem tw_3_148 : Cond.methodLink RX7 240 yX4_number ∈ lwT := tw_in (tw_c3 (List.mem_of_getElem? (i := 148) rfl)) rfl
theorem tw_3_149 : Cond.instanceMethod yX4_number ∈ lwT := tw_in (tw_c3 (List.mem_of_getElem? (i := 149) rfl)) rfl
theorem tw_3_150 : Cond.selects RX4 yX4_number yX4_number ∈ lwT := tw_in (tw_c3 (List.mem_of_getElem? (i := 150) rfl)) rfl
theorem tw_3_151 : Cond.code yX4_number cX4_number 3 (some .int) ∈ lwT := tw_in (tw_c3 (List.mem_of_getElem? (i := 151) rfl)) rfl
theorem tw_3_152 : Cond.methodLink RX7 243 yX4_letter ∈ lwT := tw_in (tw_c3 (List.mem_of_getElem? (i := 152) rfl)) rfl
theorem tw_3_153 : Cond.instanceMethod yX4_letter ∈ lwT := tw_in (tw_c3 (List.mem_of_getElem? (i := 153) rfl)) rfl
theorem tw_3_154 : Cond.selects RX4 yX4_letter yX4_letter ∈ lwT := tw_in (tw_c3 (List.mem_of_getElem? (i := 154) rfl)) rfl
theorem tw_3_155 : Cond.code yX4_letter cX4_letter 2 (some .int) ∈ lwT := tw_in (tw_c3 (List.mem_of_getElem? (i := 155) rfl)) rfl
theorem tw_3_156 : Cond.methodLink RX7 173 yX1_returnToDraft ∈ lwT := tw_in (tw_c3 (List.mem_of_getElem? (i := 156) rfl)) rfl
theorem tw_3_157 : Cond.instanceMethod yX1_returnToDraft ∈ lwT := tw_in (tw_c3 (List.mem_of_getElem? (i := 157) rfl)) rfl
theorem tw_3_158 : Cond.selects RX1 yX1_returnToDraft yX1_returnToDraft ∈ lwT := tw_in (tw_c3 (List.mem_of_getElem? (i := 158) rfl)) rfl
theorem tw_3_159 : Cond.code yX1_returnToDraft cX1_returnToDraft 2 (none : Option ClassFile.FieldType) ∈ lwT := tw_in (tw_c3 (List.mem_of_getElem? (i := 159) rfl)) rfl
theorem tw_3_160 : Cond.methodLink RL 134 yX7_undo ∈ lwT := tw_in (tw_c3 (List.mem_of_getElem? (i := 160) rfl)) rfl
theorem tw_3_161 : Cond.instanceMethod yX7_undo ∈ lwT := tw_in (tw_c3 (List.mem_of_getElem? (i := 161) rfl)) rfl
theorem tw_3_162 : Cond.selects RX7 yX7_undo yX7_undo ∈ lwT := tw_in (tw_c3 (List.mem_of_getElem? (i := 162) rfl)) rfl
theorem tw_3_163 : Cond.code yX7_undo cX7_undo 1 (some .int) ∈ lwT := tw_in (tw_c3 (List.mem_of_getElem? (i := 163) rfl)) rfl
theorem tw_3_164 : Cond.methodLink RX7 179 yX1_stepBack ∈ lwT := tw_in (tw_c3 (List.mem_of_getElem? (i := 164) rfl)) rfl
theorem tw_3_165 : Cond.instanceMethod yX1_stepBack ∈ lwT := tw_in (tw_c3 (List.mem_of_getElem? (i := 165) rfl)) rfl
theorem tw_3_166 : Cond.selects RX1 yX1_stepBack yX1_stepBack ∈ lwT := tw_in (tw_c3 (List.mem_of_getElem? (i := 166) rfl)) rfl
theorem tw_3_167 : Cond.code yX1_stepBack cX1_stepBack 2 (some .int) ∈ lwT := tw_in (tw_c3 (List.mem_of_getElem? (i := 167) rfl)) rfl
theorem tw_3_168 : Cond.methodLink RX1 35 yX1_returnToDraft ∈ lwT := tw_in (tw_c3 (List.mem_of_getElem? (i := 168) rfl)) rfl
theorem tw_3_169 : Cond.methodLink RL 138 yX7_errorCount ∈ lwT := tw_in (tw_c3 (List.mem_of_getElem? (i := 169) rfl)) rfl
theorem tw_3_170 : Cond.instanceMethod yX7_errorCount ∈ lwT := tw_in (tw_c3 (List.mem_of_getElem? (i := 170) rfl)) rfl
theorem tw_3_171 : Cond.selects RX7 yX7_errorCount yX7_errorCount ∈ lwT := tw_in (tw_c3 (List.mem_of_getElem? (i := 171) rfl)) rfl
theorem tw_3_172 : Cond.code yX7_errorCount cX7_errorCount 2 (some .int) ∈ lwT := tw_in (tw_c3 (List.mem_of_getElem? (i := 172) rfl)) rfl
theorem tw_3_173 : Cond.methodLink RL 142 yX7_digest ∈ lwT := tw_in (tw_c3 (List.mem_of_getElem? (i := 173) rfl)) rfl
theorem tw_3_174 : Cond.instanceMethod yX7_digest ∈ lwT := tw_in (tw_c3 (List.mem_of_getElem? (i := 174) rfl)) rfl
theorem tw_3_175 : Cond.selects RX7 yX7_digest yX7_digest ∈ lwT := tw_in (tw_c3 (List.mem_of_getElem? (i := 175) rfl)) rfl
theorem tw_3_176 : Cond.code yX7_digest cX7_digest 4 (some .long) ∈ lwT := tw_in (tw_c3 (List.mem_of_getElem? (i := 176) rfl)) rfl
theorem tw_3_177 : Cond.constantLong RX7 183 (18084 : Int64) ∈ lwT := tw_in (tw_c3 (List.mem_of_getElem? (i := 177) rfl)) rfl
theorem tw_3_178 : Cond.methodLink RX7 185 yX7_mix ∈ lwT := tw_in (tw_c3 (List.mem_of_getElem? (i := 178) rfl)) rfl
theorem tw_3_179 : Cond.static yX7_mix ∈ lwT := tw_in (tw_c3 (List.mem_of_getElem? (i := 179) rfl)) rfl
theorem tw_3_180 : Cond.code yX7_mix cX7_mix 4 (some .long) ∈ lwT := tw_in (tw_c3 (List.mem_of_getElem? (i := 180) rfl)) rfl
theorem tw_3_181 : Cond.constantLong RX7 209 (31 : Int64) ∈ lwT := tw_in (tw_c3 (List.mem_of_getElem? (i := 181) rfl)) rfl
theorem tw_3_182 : Cond.methodLink RX7 195 yX7_mixPairs ∈ lwT := tw_in (tw_c3 (List.mem_of_getElem? (i := 182) rfl)) rfl
theorem tw_3_183 : Cond.static yX7_mixPairs ∈ lwT := tw_in (tw_c3 (List.mem_of_getElem? (i := 183) rfl)) rfl
theorem tw_3_184 : Cond.code yX7_mixPairs cX7_mixPairs 6 (some .long) ∈ lwT := tw_in (tw_c3 (List.mem_of_getElem? (i := 184) rfl)) rfl
theorem tw_3_185 : Cond.methodLink RX7 199 yX7_mixFilters ∈ lwT := tw_in (tw_c3 (List.mem_of_getElem? (i := 185) rfl)) rfl
theorem tw_3_187 : Cond.instanceMethod yX7_mixFilters ∈ lwT := tw_in (tw_c3 (List.mem_of_getElem? (i := 187) rfl)) rfl
theorem tw_3_188 : Cond.code yX7_mixFilters cX7_mixFilters 7 (some .long) ∈ lwT := tw_in (tw_c3 (List.mem_of_getElem? (i := 188) rfl)) rfl
theorem tw_3_189 : Cond.methodLink RX7 203 yX7_mixAnswers ∈ lwT := tw_in (tw_c3 (List.mem_of_getElem? (i := 189) rfl)) rfl
theorem tw_3_191 : Cond.instanceMethod yX7_mixAnswers ∈ lwT := tw_in (tw_c3 (List.mem_of_getElem? (i := 191) rfl)) rfl
theorem tw_3_192 : Cond.code yX7_mixAnswers cX7_mixAnswers 6 (some .long) ∈ lwT := tw_in (tw_c3 (List.mem_of_getElem? (i := 192) rfl)) rfl
theorem tw_3_193 : Cond.methodLink RX7 206 yX7_mixWishes ∈ lwT := tw_in (tw_c3 (List.mem_of_getElem? (i := 193) rfl)) rfl
theorem tw_3_195 : Cond.instanceMethod yX7_mixWishes ∈ lwT := tw_in (tw_c3 (List.mem_of_getElem? (i := 195) rfl)) rfl
theorem tw_3_196 : Cond.code yX7_mixWishes cX7_mixWishes 10 (some .long) ∈ lwT := tw_in (tw_c3 (List.mem_of_getElem? (i := 196) rfl)) rfl
theorem tw_3_197 : Cond.classLink RL 10 "WhyNotJoinModel" ∈ lwT := tw_in (tw_c3 (List.mem_of_getElem? (i := 197) rfl)) rfl
theorem tw_3_198 : Cond.instantiable RX8 14 ∈ lwT := tw_in (tw_c3 (List.mem_of_getElem? (i := 198) rfl)) rfl
theorem tw_3_199 : Cond.methodLink RL 12 yX8_init ∈ lwT := tw_in (tw_c3 (List.mem_of_getElem? (i := 199) rfl)) rfl
theorem tw_3_200 : Cond.instanceMethod yX8_init ∈ lwT := tw_in (tw_c3 (List.mem_of_getElem? (i := 200) rfl)) rfl
theorem tw_3_201 : Cond.code yX8_init cX8_init 1 (none : Option ClassFile.FieldType) ∈ lwT := tw_in (tw_c3 (List.mem_of_getElem? (i := 201) rfl)) rfl
theorem tw_3_202 : Cond.methodLink RX8 1 ⟨"java/lang/Object", "<init>", "()V"⟩ ∈ lwT := tw_in (tw_c3 (List.mem_of_getElem? (i := 202) rfl)) rfl
theorem tw_3_203 : Cond.fieldLink RX8 7 "WhyNotJoinModel" "s" "[I" ∈ lwT := tw_in (tw_c3 (List.mem_of_getElem? (i := 203) rfl)) rfl
theorem tw_3_204 : Cond.fieldLink RX8 13 "WhyNotJoinModel" "ahead" "[I" ∈ lwT := tw_in (tw_c3 (List.mem_of_getElem? (i := 204) rfl)) rfl
theorem tw_3_205 : Cond.fieldLink RX8 16 "WhyNotJoinModel" "past" "[I" ∈ lwT := tw_in (tw_c3 (List.mem_of_getElem? (i := 205) rfl)) rfl
theorem tw_3_206 : Cond.fieldLink RX8 33 "WhyNotJoinModel" "pasts" "I" ∈ lwT := tw_in (tw_c3 (List.mem_of_getElem? (i := 206) rfl)) rfl
theorem tw_3_207 : Cond.fieldLink RX8 19 "WhyNotJoinModel" "errors" "[I" ∈ lwT := tw_in (tw_c3 (List.mem_of_getElem? (i := 207) rfl)) rfl
theorem tw_3_208 : Cond.fieldLink RX8 29 "WhyNotJoinModel" "isScript" "Z" ∈ lwT := tw_in (tw_c3 (List.mem_of_getElem? (i := 208) rfl)) rfl
theorem tw_3_209 : Cond.fieldLink RX8 22 "WhyNotJoinModel" "text" "[B" ∈ lwT := tw_in (tw_c3 (List.mem_of_getElem? (i := 209) rfl)) rfl
theorem tw_3_210 : Cond.fieldLink RX8 157 "WhyNotJoinModel" "typed" "I" ∈ lwT := tw_in (tw_c3 (List.mem_of_getElem? (i := 210) rfl)) rfl
theorem tw_3_211 : Cond.fieldLink RX8 124 "WhyNotJoinModel" "remaining" "I" ∈ lwT := tw_in (tw_c3 (List.mem_of_getElem? (i := 211) rfl)) rfl
theorem tw_3_212 : Cond.fieldLink RX8 26 "WhyNotJoinModel" "commands" "[I" ∈ lwT := tw_in (tw_c3 (List.mem_of_getElem? (i := 212) rfl)) rfl
theorem tw_3_213 : Cond.fieldLink RX8 175 "WhyNotJoinModel" "commandCount" "I" ∈ lwT := tw_in (tw_c3 (List.mem_of_getElem? (i := 213) rfl)) rfl
theorem tw_3_214 : Cond.fieldLink RX8 160 "WhyNotJoinModel" "at" "I" ∈ lwT := tw_in (tw_c3 (List.mem_of_getElem? (i := 214) rfl)) rfl
theorem tw_3_215 : Cond.fieldLink RX8 169 "WhyNotJoinModel" "isWrong" "Z" ∈ lwT := tw_in (tw_c3 (List.mem_of_getElem? (i := 215) rfl)) rfl
theorem tw_3_216 : Cond.fieldLink RX8 212 "WhyNotJoinModel" "hash" "J" ∈ lwT := tw_in (tw_c3 (List.mem_of_getElem? (i := 216) rfl)) rfl
theorem tw_3_217 : Cond.laysFinal RX8 "WhyNotJoinModel" "s" "[I" ∈ lwT := tw_in (tw_c3 (List.mem_of_getElem? (i := 217) rfl)) rfl
theorem tw_3_219 : Cond.laysFinal RX8 "WhyNotJoinModel" "ahead" "[I" ∈ lwT := tw_in (tw_c3 (List.mem_of_getElem? (i := 219) rfl)) rfl
theorem tw_3_221 : Cond.laysFinal RX8 "WhyNotJoinModel" "past" "[I" ∈ lwT := tw_in (tw_c3 (List.mem_of_getElem? (i := 221) rfl)) rfl
theorem tw_3_223 : Cond.lays RX8 "WhyNotJoinModel" "pasts" "I" ∈ lwT := tw_in (tw_c3 (List.mem_of_getElem? (i := 223) rfl)) rfl
theorem tw_3_225 : Cond.laysFinal RX8 "WhyNotJoinModel" "errors" "[I" ∈ lwT := tw_in (tw_c3 (List.mem_of_getElem? (i := 225) rfl)) rfl
theorem tw_3_227 : Cond.lays RX8 "WhyNotJoinModel" "isScript" "Z" ∈ lwT := tw_in (tw_c3 (List.mem_of_getElem? (i := 227) rfl)) rfl
theorem tw_3_229 : Cond.laysFinal RX8 "WhyNotJoinModel" "text" "[B" ∈ lwT := tw_in (tw_c3 (List.mem_of_getElem? (i := 229) rfl)) rfl
theorem tw_3_231 : Cond.lays RX8 "WhyNotJoinModel" "typed" "I" ∈ lwT := tw_in (tw_c3 (List.mem_of_getElem? (i := 231) rfl)) rfl
theorem tw_3_233 : Cond.lays RX8 "WhyNotJoinModel" "remaining" "I" ∈ lwT := tw_in (tw_c3 (List.mem_of_getElem? (i := 233) rfl)) rfl
theorem tw_3_235 : Cond.laysFinal RX8 "WhyNotJoinModel" "commands" "[I" ∈ lwT := tw_in (tw_c3 (List.mem_of_getElem? (i := 235) rfl)) rfl
theorem tw_3_237 : Cond.lays RX8 "WhyNotJoinModel" "commandCount" "I" ∈ lwT := tw_in (tw_c3 (List.mem_of_getElem? (i := 237) rfl)) rfl
theorem tw_3_239 : Cond.lays RX8 "WhyNotJoinModel" "at" "I" ∈ lwT := tw_in (tw_c3 (List.mem_of_getElem? (i := 239) rfl)) rfl
theorem tw_4_1 : Cond.lays RX8 "WhyNotJoinModel" "isWrong" "Z" ∈ lwT := tw_in (tw_c4 (List.mem_of_getElem? (i := 1) rfl)) rfl
theorem tw_4_3 : Cond.lays RX8 "WhyNotJoinModel" "hash" "J" ∈ lwT := tw_in (tw_c4 (List.mem_of_getElem? (i := 3) rfl)) rfl
theorem tw_4_6 : Cond.arrayClass .byte ∈ lwT := tw_in (tw_c4 (List.mem_of_getElem? (i := 6) rfl)) rfl
theorem tw_4_7 : Cond.methodLink RL 17 yX8_addLeft ∈ lwT := tw_in (tw_c4 (List.mem_of_getElem? (i := 7) rfl)) rfl
theorem tw_4_8 : Cond.instanceMethod yX8_addLeft ∈ lwT := tw_in (tw_c4 (List.mem_of_getElem? (i := 8) rfl)) rfl
theorem tw_4_9 : Cond.selects RX8 yX8_addLeft yX8_addLeft ∈ lwT := tw_in (tw_c4 (List.mem_of_getElem? (i := 9) rfl)) rfl
theorem tw_4_10 : Cond.code yX8_addLeft cX8_addLeft 3 (some .int) ∈ lwT := tw_in (tw_c4 (List.mem_of_getElem? (i := 10) rfl)) rfl
theorem tw_4_11 : Cond.methodLink RX8 60 yX8_adds ∈ lwT := tw_in (tw_c4 (List.mem_of_getElem? (i := 11) rfl)) rfl
theorem tw_4_13 : Cond.instanceMethod yX8_adds ∈ lwT := tw_in (tw_c4 (List.mem_of_getElem? (i := 13) rfl)) rfl
theorem tw_4_14 : Cond.code yX8_adds cX8_adds 4 (some .int) ∈ lwT := tw_in (tw_c4 (List.mem_of_getElem? (i := 14) rfl)) rfl
theorem tw_4_15 : Cond.methodLink RX8 41 yX8_isDigitPair ∈ lwT := tw_in (tw_c4 (List.mem_of_getElem? (i := 15) rfl)) rfl
theorem tw_4_16 : Cond.static yX8_isDigitPair ∈ lwT := tw_in (tw_c4 (List.mem_of_getElem? (i := 16) rfl)) rfl
theorem tw_4_17 : Cond.code yX8_isDigitPair cX8_isDigitPair 2 (some .boolean) ∈ lwT := tw_in (tw_c4 (List.mem_of_getElem? (i := 17) rfl)) rfl
theorem tw_4_18 : Cond.methodLink RX8 37 yX8_in ∈ lwT := tw_in (tw_c4 (List.mem_of_getElem? (i := 18) rfl)) rfl
theorem tw_4_19 : Cond.static yX8_in ∈ lwT := tw_in (tw_c4 (List.mem_of_getElem? (i := 19) rfl)) rfl
theorem tw_4_20 : Cond.code yX8_in cX8_in 3 (some .boolean) ∈ lwT := tw_in (tw_c4 (List.mem_of_getElem? (i := 20) rfl)) rfl
theorem tw_4_21 : Cond.methodLink RX8 45 yX8_fail ∈ lwT := tw_in (tw_c4 (List.mem_of_getElem? (i := 21) rfl)) rfl
theorem tw_4_23 : Cond.instanceMethod yX8_fail ∈ lwT := tw_in (tw_c4 (List.mem_of_getElem? (i := 23) rfl)) rfl
theorem tw_4_24 : Cond.code yX8_fail cX8_fail 2 (some .int) ∈ lwT := tw_in (tw_c4 (List.mem_of_getElem? (i := 24) rfl)) rfl
theorem tw_4_25 : Cond.methodLink RX8 49 yX8_placeOf ∈ lwT := tw_in (tw_c4 (List.mem_of_getElem? (i := 25) rfl)) rfl
theorem tw_4_27 : Cond.instanceMethod yX8_placeOf ∈ lwT := tw_in (tw_c4 (List.mem_of_getElem? (i := 27) rfl)) rfl
theorem tw_4_28 : Cond.code yX8_placeOf cX8_placeOf 4 (some .int) ∈ lwT := tw_in (tw_c4 (List.mem_of_getElem? (i := 28) rfl)) rfl
theorem tw_4_29 : Cond.methodLink RX8 53 yX8_note ∈ lwT := tw_in (tw_c4 (List.mem_of_getElem? (i := 29) rfl)) rfl
theorem tw_4_31 : Cond.instanceMethod yX8_note ∈ lwT := tw_in (tw_c4 (List.mem_of_getElem? (i := 31) rfl)) rfl
theorem tw_4_32 : Cond.code yX8_note cX8_note 2 (none : Option ClassFile.FieldType) ∈ lwT := tw_in (tw_c4 (List.mem_of_getElem? (i := 32) rfl)) rfl
theorem tw_4_33 : Cond.methodLink RX8 56 yX8_putBehind ∈ lwT := tw_in (tw_c4 (List.mem_of_getElem? (i := 33) rfl)) rfl
theorem tw_4_35 : Cond.instanceMethod yX8_putBehind ∈ lwT := tw_in (tw_c4 (List.mem_of_getElem? (i := 35) rfl)) rfl
theorem tw_4_36 : Cond.code yX8_putBehind cX8_putBehind 3 (none : Option ClassFile.FieldType) ∈ lwT := tw_in (tw_c4 (List.mem_of_getElem? (i := 36) rfl)) rfl
theorem tw_4_37 : Cond.methodLink RL 21 yX8_addRight ∈ lwT := tw_in (tw_c4 (List.mem_of_getElem? (i := 37) rfl)) rfl
theorem tw_4_38 : Cond.instanceMethod yX8_addRight ∈ lwT := tw_in (tw_c4 (List.mem_of_getElem? (i := 38) rfl)) rfl
theorem tw_4_39 : Cond.selects RX8 yX8_addRight yX8_addRight ∈ lwT := tw_in (tw_c4 (List.mem_of_getElem? (i := 39) rfl)) rfl
theorem tw_4_40 : Cond.code yX8_addRight cX8_addRight 3 (some .int) ∈ lwT := tw_in (tw_c4 (List.mem_of_getElem? (i := 40) rfl)) rfl
theorem tw_4_41 : Cond.methodLink RL 26 yX8_removeLeft ∈ lwT := tw_in (tw_c4 (List.mem_of_getElem? (i := 41) rfl)) rfl
theorem tw_4_42 : Cond.instanceMethod yX8_removeLeft ∈ lwT := tw_in (tw_c4 (List.mem_of_getElem? (i := 42) rfl)) rfl
theorem tw_4_43 : Cond.selects RX8 yX8_removeLeft yX8_removeLeft ∈ lwT := tw_in (tw_c4 (List.mem_of_getElem? (i := 43) rfl)) rfl
theorem tw_4_44 : Cond.code yX8_removeLeft cX8_removeLeft 2 (some .int) ∈ lwT := tw_in (tw_c4 (List.mem_of_getElem? (i := 44) rfl)) rfl
theorem tw_4_45 : Cond.methodLink RX8 64 yX8_removes ∈ lwT := tw_in (tw_c4 (List.mem_of_getElem? (i := 45) rfl)) rfl
theorem tw_4_47 : Cond.instanceMethod yX8_removes ∈ lwT := tw_in (tw_c4 (List.mem_of_getElem? (i := 47) rfl)) rfl
theorem tw_4_48 : Cond.code yX8_removes cX8_removes 4 (some .int) ∈ lwT := tw_in (tw_c4 (List.mem_of_getElem? (i := 48) rfl)) rfl
theorem tw_4_49 : Cond.methodLink RL 30 yX8_removeRight ∈ lwT := tw_in (tw_c4 (List.mem_of_getElem? (i := 49) rfl)) rfl
theorem tw_4_50 : Cond.instanceMethod yX8_removeRight ∈ lwT := tw_in (tw_c4 (List.mem_of_getElem? (i := 50) rfl)) rfl
theorem tw_4_51 : Cond.selects RX8 yX8_removeRight yX8_removeRight ∈ lwT := tw_in (tw_c4 (List.mem_of_getElem? (i := 51) rfl)) rfl
theorem tw_4_52 : Cond.code yX8_removeRight cX8_removeRight 2 (some .int) ∈ lwT := tw_in (tw_c4 (List.mem_of_getElem? (i := 52) rfl)) rfl
theorem tw_4_53 : Cond.methodLink RL 34 yX8_leftRow ∈ lwT := tw_in (tw_c4 (List.mem_of_getElem? (i := 53) rfl)) rfl
theorem tw_4_54 : Cond.instanceMethod yX8_leftRow ∈ lwT := tw_in (tw_c4 (List.mem_of_getElem? (i := 54) rfl)) rfl
theorem tw_4_55 : Cond.selects RX8 yX8_leftRow yX8_leftRow ∈ lwT := tw_in (tw_c4 (List.mem_of_getElem? (i := 55) rfl)) rfl
theorem tw_4_56 : Cond.code yX8_leftRow cX8_leftRow 2 (some .int) ∈ lwT := tw_in (tw_c4 (List.mem_of_getElem? (i := 56) rfl)) rfl
theorem tw_4_57 : Cond.methodLink RX8 67 yX8_rowAt ∈ lwT := tw_in (tw_c4 (List.mem_of_getElem? (i := 57) rfl)) rfl
theorem tw_4_59 : Cond.instanceMethod yX8_rowAt ∈ lwT := tw_in (tw_c4 (List.mem_of_getElem? (i := 59) rfl)) rfl
theorem tw_4_60 : Cond.code yX8_rowAt cX8_rowAt 3 (some .int) ∈ lwT := tw_in (tw_c4 (List.mem_of_getElem? (i := 60) rfl)) rfl
theorem tw_4_61 : Cond.methodLink RL 38 yX8_rightRow ∈ lwT := tw_in (tw_c4 (List.mem_of_getElem? (i := 61) rfl)) rfl
theorem tw_4_62 : Cond.instanceMethod yX8_rightRow ∈ lwT := tw_in (tw_c4 (List.mem_of_getElem? (i := 62) rfl)) rfl
theorem tw_4_63 : Cond.selects RX8 yX8_rightRow yX8_rightRow ∈ lwT := tw_in (tw_c4 (List.mem_of_getElem? (i := 63) rfl)) rfl
theorem tw_4_64 : Cond.code yX8_rightRow cX8_rightRow 2 (some .int) ∈ lwT := tw_in (tw_c4 (List.mem_of_getElem? (i := 64) rfl)) rfl
theorem tw_4_65 : Cond.methodLink RL 43 yX8_addFilter ∈ lwT := tw_in (tw_c4 (List.mem_of_getElem? (i := 65) rfl)) rfl
theorem tw_4_66 : Cond.instanceMethod yX8_addFilter ∈ lwT := tw_in (tw_c4 (List.mem_of_getElem? (i := 66) rfl)) rfl
theorem tw_4_67 : Cond.selects RX8 yX8_addFilter yX8_addFilter ∈ lwT := tw_in (tw_c4 (List.mem_of_getElem? (i := 67) rfl)) rfl
theorem tw_4_68 : Cond.code yX8_addFilter cX8_addFilter 6 (some .int) ∈ lwT := tw_in (tw_c4 (List.mem_of_getElem? (i := 68) rfl)) rfl
theorem tw_4_69 : Cond.methodLink RX8 70 yX8_isConstant ∈ lwT := tw_in (tw_c4 (List.mem_of_getElem? (i := 69) rfl)) rfl
theorem tw_4_70 : Cond.static yX8_isConstant ∈ lwT := tw_in (tw_c4 (List.mem_of_getElem? (i := 70) rfl)) rfl
theorem tw_4_71 : Cond.code yX8_isConstant cX8_isConstant 2 (some .boolean) ∈ lwT := tw_in (tw_c4 (List.mem_of_getElem? (i := 71) rfl)) rfl
theorem tw_4_72 : Cond.methodLink RL 47 yX8_removeFilter ∈ lwT := tw_in (tw_c4 (List.mem_of_getElem? (i := 72) rfl)) rfl
theorem tw_4_73 : Cond.instanceMethod yX8_removeFilter ∈ lwT := tw_in (tw_c4 (List.mem_of_getElem? (i := 73) rfl)) rfl
theorem tw_4_74 : Cond.selects RX8 yX8_removeFilter yX8_removeFilter ∈ lwT := tw_in (tw_c4 (List.mem_of_getElem? (i := 74) rfl)) rfl
theorem tw_4_75 : Cond.code yX8_removeFilter cX8_removeFilter 2 (some .int) ∈ lwT := tw_in (tw_c4 (List.mem_of_getElem? (i := 75) rfl)) rfl
theorem tw_4_76 : Cond.methodLink RX8 73 yX8_isFilter ∈ lwT := tw_in (tw_c4 (List.mem_of_getElem? (i := 76) rfl)) rfl
theorem tw_4_78 : Cond.instanceMethod yX8_isFilter ∈ lwT := tw_in (tw_c4 (List.mem_of_getElem? (i := 78) rfl)) rfl
theorem tw_4_79 : Cond.code yX8_isFilter cX8_isFilter 2 (some .boolean) ∈ lwT := tw_in (tw_c4 (List.mem_of_getElem? (i := 79) rfl)) rfl
theorem tw_4_80 : Cond.methodLink RX8 77 yX8_dropFilter ∈ lwT := tw_in (tw_c4 (List.mem_of_getElem? (i := 80) rfl)) rfl
theorem tw_4_82 : Cond.instanceMethod yX8_dropFilter ∈ lwT := tw_in (tw_c4 (List.mem_of_getElem? (i := 82) rfl)) rfl
theorem tw_4_83 : Cond.code yX8_dropFilter cX8_dropFilter 3 (none : Option ClassFile.FieldType) ∈ lwT := tw_in (tw_c4 (List.mem_of_getElem? (i := 83) rfl)) rfl
theorem tw_4_84 : Cond.methodLink RL 51 yX8_setConstant ∈ lwT := tw_in (tw_c4 (List.mem_of_getElem? (i := 84) rfl)) rfl
theorem tw_4_85 : Cond.instanceMethod yX8_setConstant ∈ lwT := tw_in (tw_c4 (List.mem_of_getElem? (i := 85) rfl)) rfl
theorem tw_4_86 : Cond.selects RX8 yX8_setConstant yX8_setConstant ∈ lwT := tw_in (tw_c4 (List.mem_of_getElem? (i := 86) rfl)) rfl
theorem tw_4_87 : Cond.code yX8_setConstant cX8_setConstant 4 (some .int) ∈ lwT := tw_in (tw_c4 (List.mem_of_getElem? (i := 87) rfl)) rfl
theorem tw_4_88 : Cond.methodLink RX8 81 yX8_of ∈ lwT := tw_in (tw_c4 (List.mem_of_getElem? (i := 88) rfl)) rfl
theorem tw_4_90 : Cond.instanceMethod yX8_of ∈ lwT := tw_in (tw_c4 (List.mem_of_getElem? (i := 90) rfl)) rfl
theorem tw_4_91 : Cond.code yX8_of cX8_of 3 (some .int) ∈ lwT := tw_in (tw_c4 (List.mem_of_getElem? (i := 91) rfl)) rfl
theorem tw_4_92 : Cond.methodLink RL 56 yX8_filterCount ∈ lwT := tw_in (tw_c4 (List.mem_of_getElem? (i := 92) rfl)) rfl
theorem tw_4_93 : Cond.instanceMethod yX8_filterCount ∈ lwT := tw_in (tw_c4 (List.mem_of_getElem? (i := 93) rfl)) rfl
theorem tw_4_94 : Cond.selects RX8 yX8_filterCount yX8_filterCount ∈ lwT := tw_in (tw_c4 (List.mem_of_getElem? (i := 94) rfl)) rfl
theorem tw_4_95 : Cond.code yX8_filterCount cX8_filterCount 1 (some .int) ∈ lwT := tw_in (tw_c4 (List.mem_of_getElem? (i := 95) rfl)) rfl
theorem tw_4_96 : Cond.methodLink RL 60 yX8_constant ∈ lwT := tw_in (tw_c4 (List.mem_of_getElem? (i := 96) rfl)) rfl
theorem tw_4_97 : Cond.instanceMethod yX8_constant ∈ lwT := tw_in (tw_c4 (List.mem_of_getElem? (i := 97) rfl)) rfl
theorem tw_4_98 : Cond.selects RX8 yX8_constant yX8_constant ∈ lwT := tw_in (tw_c4 (List.mem_of_getElem? (i := 98) rfl)) rfl
theorem tw_4_99 : Cond.code yX8_constant cX8_constant 2 (some .int) ∈ lwT := tw_in (tw_c4 (List.mem_of_getElem? (i := 99) rfl)) rfl
theorem tw_4_100 : Cond.methodLink RL 64 yX8_acceptedBy ∈ lwT := tw_in (tw_c4 (List.mem_of_getElem? (i := 100) rfl)) rfl
theorem tw_4_101 : Cond.instanceMethod yX8_acceptedBy ∈ lwT := tw_in (tw_c4 (List.mem_of_getElem? (i := 101) rfl)) rfl
theorem tw_4_102 : Cond.selects RX8 yX8_acceptedBy yX8_acceptedBy ∈ lwT := tw_in (tw_c4 (List.mem_of_getElem? (i := 102) rfl)) rfl
theorem tw_4_103 : Cond.code yX8_acceptedBy cX8_acceptedBy 2 (some .int) ∈ lwT := tw_in (tw_c4 (List.mem_of_getElem? (i := 103) rfl)) rfl
theorem tw_4_104 : Cond.methodLink RX8 99 yX8_accepted ∈ lwT := tw_in (tw_c4 (List.mem_of_getElem? (i := 104) rfl)) rfl
theorem tw_4_106 : Cond.instanceMethod yX8_accepted ∈ lwT := tw_in (tw_c4 (List.mem_of_getElem? (i := 106) rfl)) rfl
theorem tw_4_107 : Cond.code yX8_accepted cX8_accepted 9 (some .int) ∈ lwT := tw_in (tw_c4 (List.mem_of_getElem? (i := 107) rfl)) rfl
theorem tw_4_108 : Cond.methodLink RX8 91 yX8_accepts ∈ lwT := tw_in (tw_c4 (List.mem_of_getElem? (i := 108) rfl)) rfl
theorem tw_4_110 : Cond.instanceMethod yX8_accepts ∈ lwT := tw_in (tw_c4 (List.mem_of_getElem? (i := 110) rfl)) rfl
theorem tw_4_111 : Cond.code yX8_accepts cX8_accepts 5 (some .boolean) ∈ lwT := tw_in (tw_c4 (List.mem_of_getElem? (i := 111) rfl)) rfl
theorem tw_4_112 : Cond.methodLink RX8 84 yX8_columnOf ∈ lwT := tw_in (tw_c4 (List.mem_of_getElem? (i := 112) rfl)) rfl
theorem tw_4_113 : Cond.static yX8_columnOf ∈ lwT := tw_in (tw_c4 (List.mem_of_getElem? (i := 113) rfl)) rfl
theorem tw_4_114 : Cond.code yX8_columnOf cX8_columnOf 5 (some .int) ∈ lwT := tw_in (tw_c4 (List.mem_of_getElem? (i := 114) rfl)) rfl
theorem tw_4_115 : Cond.methodLink RX8 88 yX8_holds ∈ lwT := tw_in (tw_c4 (List.mem_of_getElem? (i := 115) rfl)) rfl
theorem tw_4_116 : Cond.static yX8_holds ∈ lwT := tw_in (tw_c4 (List.mem_of_getElem? (i := 116) rfl)) rfl
theorem tw_4_117 : Cond.code yX8_holds cX8_holds 3 (some .boolean) ∈ lwT := tw_in (tw_c4 (List.mem_of_getElem? (i := 117) rfl)) rfl
theorem tw_4_118 : Cond.methodLink RL 68 yX8_answerCount ∈ lwT := tw_in (tw_c4 (List.mem_of_getElem? (i := 118) rfl)) rfl
theorem tw_4_119 : Cond.instanceMethod yX8_answerCount ∈ lwT := tw_in (tw_c4 (List.mem_of_getElem? (i := 119) rfl)) rfl
theorem tw_4_120 : Cond.selects RX8 yX8_answerCount yX8_answerCount ∈ lwT := tw_in (tw_c4 (List.mem_of_getElem? (i := 120) rfl)) rfl
theorem tw_4_121 : Cond.code yX8_answerCount cX8_answerCount 1 (some .int) ∈ lwT := tw_in (tw_c4 (List.mem_of_getElem? (i := 121) rfl)) rfl
theorem tw_4_122 : Cond.methodLink RX8 117 yX8_answers ∈ lwT := tw_in (tw_c4 (List.mem_of_getElem? (i := 122) rfl)) rfl
theorem tw_4_124 : Cond.instanceMethod yX8_answers ∈ lwT := tw_in (tw_c4 (List.mem_of_getElem? (i := 124) rfl)) rfl
theorem tw_4_125 : Cond.code yX8_answers cX8_answers 3 (some .int) ∈ lwT := tw_in (tw_c4 (List.mem_of_getElem? (i := 125) rfl)) rfl
theorem tw_4_126 : Cond.methodLink RX8 114 yX8_isAnswer ∈ lwT := tw_in (tw_c4 (List.mem_of_getElem? (i := 126) rfl)) rfl
theorem tw_4_128 : Cond.instanceMethod yX8_isAnswer ∈ lwT := tw_in (tw_c4 (List.mem_of_getElem? (i := 128) rfl)) rfl
theorem tw_4_129 : Cond.code yX8_isAnswer cX8_isAnswer 3 (some .boolean) ∈ lwT := tw_in (tw_c4 (List.mem_of_getElem? (i := 129) rfl)) rfl
theorem tw_4_130 : Cond.methodLink RX8 111 yX8_matches ∈ lwT := tw_in (tw_c4 (List.mem_of_getElem? (i := 130) rfl)) rfl
theorem tw_4_132 : Cond.instanceMethod yX8_matches ∈ lwT := tw_in (tw_c4 (List.mem_of_getElem? (i := 132) rfl)) rfl
theorem tw_4_133 : Cond.code yX8_matches cX8_matches 6 (some .int) ∈ lwT := tw_in (tw_c4 (List.mem_of_getElem? (i := 133) rfl)) rfl
theorem tw_4_134 : Cond.methodLink RX8 102 yX8_hasLeft ∈ lwT := tw_in (tw_c4 (List.mem_of_getElem? (i := 134) rfl)) rfl
theorem tw_4_136 : Cond.instanceMethod yX8_hasLeft ∈ lwT := tw_in (tw_c4 (List.mem_of_getElem? (i := 136) rfl)) rfl
theorem tw_4_137 : Cond.code yX8_hasLeft cX8_hasLeft 3 (some .boolean) ∈ lwT := tw_in (tw_c4 (List.mem_of_getElem? (i := 137) rfl)) rfl
theorem tw_4_138 : Cond.methodLink RX8 105 yX8_hasRight ∈ lwT := tw_in (tw_c4 (List.mem_of_getElem? (i := 138) rfl)) rfl
theorem tw_4_140 : Cond.instanceMethod yX8_hasRight ∈ lwT := tw_in (tw_c4 (List.mem_of_getElem? (i := 140) rfl)) rfl
theorem tw_4_141 : Cond.code yX8_hasRight cX8_hasRight 3 (some .boolean) ∈ lwT := tw_in (tw_c4 (List.mem_of_getElem? (i := 141) rfl)) rfl
theorem tw_4_142 : Cond.methodLink RX8 108 yX8_passesAll ∈ lwT := tw_in (tw_c4 (List.mem_of_getElem? (i := 142) rfl)) rfl
theorem tw_4_144 : Cond.instanceMethod yX8_passesAll ∈ lwT := tw_in (tw_c4 (List.mem_of_getElem? (i := 144) rfl)) rfl
theorem tw_4_145 : Cond.code yX8_passesAll cX8_passesAll 5 (some .boolean) ∈ lwT := tw_in (tw_c4 (List.mem_of_getElem? (i := 145) rfl)) rfl
theorem tw_4_146 : Cond.methodLink RX8 95 yX8_passes ∈ lwT := tw_in (tw_c4 (List.mem_of_getElem? (i := 146) rfl)) rfl
theorem tw_4_148 : Cond.instanceMethod yX8_passes ∈ lwT := tw_in (tw_c4 (List.mem_of_getElem? (i := 148) rfl)) rfl
theorem tw_4_149 : Cond.code yX8_passes cX8_passes 8 (some .boolean) ∈ lwT := tw_in (tw_c4 (List.mem_of_getElem? (i := 149) rfl)) rfl
theorem tw_4_150 : Cond.methodLink RL 72 yX8_answer ∈ lwT := tw_in (tw_c4 (List.mem_of_getElem? (i := 150) rfl)) rfl
theorem tw_4_151 : Cond.instanceMethod yX8_answer ∈ lwT := tw_in (tw_c4 (List.mem_of_getElem? (i := 151) rfl)) rfl
theorem tw_4_152 : Cond.selects RX8 yX8_answer yX8_answer ∈ lwT := tw_in (tw_c4 (List.mem_of_getElem? (i := 152) rfl)) rfl
theorem tw_4_153 : Cond.code yX8_answer cX8_answer 2 (some .int) ∈ lwT := tw_in (tw_c4 (List.mem_of_getElem? (i := 153) rfl)) rfl
theorem tw_4_154 : Cond.methodLink RX8 121 yX8_answerAt ∈ lwT := tw_in (tw_c4 (List.mem_of_getElem? (i := 154) rfl)) rfl
theorem tw_4_156 : Cond.instanceMethod yX8_answerAt ∈ lwT := tw_in (tw_c4 (List.mem_of_getElem? (i := 156) rfl)) rfl
theorem tw_4_157 : Cond.code yX8_answerAt cX8_answerAt 4 (some .int) ∈ lwT := tw_in (tw_c4 (List.mem_of_getElem? (i := 157) rfl)) rfl
theorem tw_4_158 : Cond.methodLink RL 76 yX8_matchCount ∈ lwT := tw_in (tw_c4 (List.mem_of_getElem? (i := 158) rfl)) rfl
theorem tw_4_159 : Cond.instanceMethod yX8_matchCount ∈ lwT := tw_in (tw_c4 (List.mem_of_getElem? (i := 159) rfl)) rfl
theorem tw_4_160 : Cond.selects RX8 yX8_matchCount yX8_matchCount ∈ lwT := tw_in (tw_c4 (List.mem_of_getElem? (i := 160) rfl)) rfl
theorem tw_4_161 : Cond.code yX8_matchCount cX8_matchCount 3 (some .int) ∈ lwT := tw_in (tw_c4 (List.mem_of_getElem? (i := 161) rfl)) rfl
theorem tw_4_162 : Cond.methodLink RL 80 yX8_blame ∈ lwT := tw_in (tw_c4 (List.mem_of_getElem? (i := 162) rfl)) rfl
theorem tw_4_163 : Cond.instanceMethod yX8_blame ∈ lwT := tw_in (tw_c4 (List.mem_of_getElem? (i := 163) rfl)) rfl
theorem tw_4_164 : Cond.selects RX8 yX8_blame yX8_blame ∈ lwT := tw_in (tw_c4 (List.mem_of_getElem? (i := 164) rfl)) rfl
theorem tw_4_165 : Cond.code yX8_blame cX8_blame 3 (some .int) ∈ lwT := tw_in (tw_c4 (List.mem_of_getElem? (i := 165) rfl)) rfl
theorem tw_4_166 : Cond.methodLink RX8 130 yX8_cause ∈ lwT := tw_in (tw_c4 (List.mem_of_getElem? (i := 166) rfl)) rfl
theorem tw_4_168 : Cond.instanceMethod yX8_cause ∈ lwT := tw_in (tw_c4 (List.mem_of_getElem? (i := 168) rfl)) rfl
theorem tw_4_169 : Cond.code yX8_cause cX8_cause 6 (some .int) ∈ lwT := tw_in (tw_c4 (List.mem_of_getElem? (i := 169) rfl)) rfl
theorem tw_4_170 : Cond.methodLink RX8 127 yX8_dropper ∈ lwT := tw_in (tw_c4 (List.mem_of_getElem? (i := 170) rfl)) rfl
theorem tw_4_172 : Cond.instanceMethod yX8_dropper ∈ lwT := tw_in (tw_c4 (List.mem_of_getElem? (i := 172) rfl)) rfl
theorem tw_4_173 : Cond.code yX8_dropper cX8_dropper 6 (some .int) ∈ lwT := tw_in (tw_c4 (List.mem_of_getElem? (i := 173) rfl)) rfl
theorem tw_4_174 : Cond.methodLink RL 84 yX8_filtersToRemove ∈ lwT := tw_in (tw_c4 (List.mem_of_getElem? (i := 174) rfl)) rfl
theorem tw_4_175 : Cond.instanceMethod yX8_filtersToRemove ∈ lwT := tw_in (tw_c4 (List.mem_of_getElem? (i := 175) rfl)) rfl
theorem tw_4_176 : Cond.selects RX8 yX8_filtersToRemove yX8_filtersToRemove ∈ lwT := tw_in (tw_c4 (List.mem_of_getElem? (i := 176) rfl)) rfl
theorem tw_4_177 : Cond.code yX8_filtersToRemove cX8_filtersToRemove 3 (some .int) ∈ lwT := tw_in (tw_c4 (List.mem_of_getElem? (i := 177) rfl)) rfl
theorem tw_4_178 : Cond.methodLink RX8 136 yX8_removal ∈ lwT := tw_in (tw_c4 (List.mem_of_getElem? (i := 178) rfl)) rfl
theorem tw_4_180 : Cond.instanceMethod yX8_removal ∈ lwT := tw_in (tw_c4 (List.mem_of_getElem? (i := 180) rfl)) rfl
theorem tw_4_181 : Cond.code yX8_removal cX8_removal 6 (some .int) ∈ lwT := tw_in (tw_c4 (List.mem_of_getElem? (i := 181) rfl)) rfl
theorem tw_4_182 : Cond.methodLink RX8 133 yX8_ones ∈ lwT := tw_in (tw_c4 (List.mem_of_getElem? (i := 182) rfl)) rfl
theorem tw_4_183 : Cond.static yX8_ones ∈ lwT := tw_in (tw_c4 (List.mem_of_getElem? (i := 183) rfl)) rfl
theorem tw_4_184 : Cond.code yX8_ones cX8_ones 3 (some .int) ∈ lwT := tw_in (tw_c4 (List.mem_of_getElem? (i := 184) rfl)) rfl
theorem tw_4_185 : Cond.methodLink RL 89 yX8_repairedConstant ∈ lwT := tw_in (tw_c4 (List.mem_of_getElem? (i := 185) rfl)) rfl
theorem tw_4_186 : Cond.instanceMethod yX8_repairedConstant ∈ lwT := tw_in (tw_c4 (List.mem_of_getElem? (i := 186) rfl)) rfl
theorem tw_4_187 : Cond.selects RX8 yX8_repairedConstant yX8_repairedConstant ∈ lwT := tw_in (tw_c4 (List.mem_of_getElem? (i := 187) rfl)) rfl
theorem tw_4_188 : Cond.code yX8_repairedConstant cX8_repairedConstant 11 (some .int) ∈ lwT := tw_in (tw_c4 (List.mem_of_getElem? (i := 188) rfl)) rfl
theorem tw_4_189 : Cond.methodLink RL 93 yX8_missingRows ∈ lwT := tw_in (tw_c4 (List.mem_of_getElem? (i := 189) rfl)) rfl
theorem tw_4_190 : Cond.instanceMethod yX8_missingRows ∈ lwT := tw_in (tw_c4 (List.mem_of_getElem? (i := 190) rfl)) rfl
theorem tw_4_191 : Cond.selects RX8 yX8_missingRows yX8_missingRows ∈ lwT := tw_in (tw_c4 (List.mem_of_getElem? (i := 191) rfl)) rfl
theorem tw_4_192 : Cond.code yX8_missingRows cX8_missingRows 3 (some .int) ∈ lwT := tw_in (tw_c4 (List.mem_of_getElem? (i := 192) rfl)) rfl
theorem tw_4_193 : Cond.methodLink RX8 145 yX8_missing ∈ lwT := tw_in (tw_c4 (List.mem_of_getElem? (i := 193) rfl)) rfl
theorem tw_4_195 : Cond.instanceMethod yX8_missing ∈ lwT := tw_in (tw_c4 (List.mem_of_getElem? (i := 195) rfl)) rfl
theorem tw_4_196 : Cond.code yX8_missing cX8_missing 4 (some .int) ∈ lwT := tw_in (tw_c4 (List.mem_of_getElem? (i := 196) rfl)) rfl
theorem tw_4_197 : Cond.methodLink RX8 142 yX8_bestB ∈ lwT := tw_in (tw_c4 (List.mem_of_getElem? (i := 197) rfl)) rfl
theorem tw_4_199 : Cond.instanceMethod yX8_bestB ∈ lwT := tw_in (tw_c4 (List.mem_of_getElem? (i := 199) rfl)) rfl
theorem tw_4_200 : Cond.code yX8_bestB cX8_bestB 7 (some .int) ∈ lwT := tw_in (tw_c4 (List.mem_of_getElem? (i := 200) rfl)) rfl
theorem tw_4_201 : Cond.methodLink RX8 139 yX8_costOf ∈ lwT := tw_in (tw_c4 (List.mem_of_getElem? (i := 201) rfl)) rfl
theorem tw_4_203 : Cond.instanceMethod yX8_costOf ∈ lwT := tw_in (tw_c4 (List.mem_of_getElem? (i := 203) rfl)) rfl
theorem tw_4_204 : Cond.code yX8_costOf cX8_costOf 4 (some .int) ∈ lwT := tw_in (tw_c4 (List.mem_of_getElem? (i := 204) rfl)) rfl
theorem tw_4_205 : Cond.methodLink RL 97 yX8_missingB ∈ lwT := tw_in (tw_c4 (List.mem_of_getElem? (i := 205) rfl)) rfl
theorem tw_4_206 : Cond.instanceMethod yX8_missingB ∈ lwT := tw_in (tw_c4 (List.mem_of_getElem? (i := 206) rfl)) rfl
theorem tw_4_207 : Cond.selects RX8 yX8_missingB yX8_missingB ∈ lwT := tw_in (tw_c4 (List.mem_of_getElem? (i := 207) rfl)) rfl
theorem tw_4_208 : Cond.code yX8_missingB cX8_missingB 3 (some .int) ∈ lwT := tw_in (tw_c4 (List.mem_of_getElem? (i := 208) rfl)) rfl
theorem tw_4_209 : Cond.methodLink RX8 148 yX8_missingAt ∈ lwT := tw_in (tw_c4 (List.mem_of_getElem? (i := 209) rfl)) rfl
theorem tw_4_211 : Cond.instanceMethod yX8_missingAt ∈ lwT := tw_in (tw_c4 (List.mem_of_getElem? (i := 211) rfl)) rfl
theorem tw_4_212 : Cond.code yX8_missingAt cX8_missingAt 3 (some .int) ∈ lwT := tw_in (tw_c4 (List.mem_of_getElem? (i := 212) rfl)) rfl
theorem tw_4_213 : Cond.methodLink RL 101 yX8_insertMissing ∈ lwT := tw_in (tw_c4 (List.mem_of_getElem? (i := 213) rfl)) rfl
theorem tw_4_214 : Cond.instanceMethod yX8_insertMissing ∈ lwT := tw_in (tw_c4 (List.mem_of_getElem? (i := 214) rfl)) rfl
theorem tw_4_215 : Cond.selects RX8 yX8_insertMissing yX8_insertMissing ∈ lwT := tw_in (tw_c4 (List.mem_of_getElem? (i := 215) rfl)) rfl
theorem tw_4_216 : Cond.code yX8_insertMissing cX8_insertMissing 6 (some .int) ∈ lwT := tw_in (tw_c4 (List.mem_of_getElem? (i := 216) rfl)) rfl
theorem tw_4_217 : Cond.methodLink RL 105 yX8_loosen ∈ lwT := tw_in (tw_c4 (List.mem_of_getElem? (i := 217) rfl)) rfl
theorem tw_4_218 : Cond.instanceMethod yX8_loosen ∈ lwT := tw_in (tw_c4 (List.mem_of_getElem? (i := 218) rfl)) rfl
theorem tw_4_219 : Cond.selects RX8 yX8_loosen yX8_loosen ∈ lwT := tw_in (tw_c4 (List.mem_of_getElem? (i := 219) rfl)) rfl
theorem tw_4_220 : Cond.code yX8_loosen cX8_loosen 5 (some .int) ∈ lwT := tw_in (tw_c4 (List.mem_of_getElem? (i := 220) rfl)) rfl
theorem tw_4_221 : Cond.methodLink RL 109 yX8_addWish ∈ lwT := tw_in (tw_c4 (List.mem_of_getElem? (i := 221) rfl)) rfl
theorem tw_4_222 : Cond.instanceMethod yX8_addWish ∈ lwT := tw_in (tw_c4 (List.mem_of_getElem? (i := 222) rfl)) rfl
theorem tw_4_223 : Cond.selects RX8 yX8_addWish yX8_addWish ∈ lwT := tw_in (tw_c4 (List.mem_of_getElem? (i := 223) rfl)) rfl
theorem tw_4_224 : Cond.code yX8_addWish cX8_addWish 3 (some .int) ∈ lwT := tw_in (tw_c4 (List.mem_of_getElem? (i := 224) rfl)) rfl
theorem tw_4_225 : Cond.methodLink RL 113 yX8_clearWishes ∈ lwT := tw_in (tw_c4 (List.mem_of_getElem? (i := 225) rfl)) rfl
theorem tw_4_226 : Cond.instanceMethod yX8_clearWishes ∈ lwT := tw_in (tw_c4 (List.mem_of_getElem? (i := 226) rfl)) rfl
theorem tw_4_227 : Cond.selects RX8 yX8_clearWishes yX8_clearWishes ∈ lwT := tw_in (tw_c4 (List.mem_of_getElem? (i := 227) rfl)) rfl
theorem tw_4_228 : Cond.code yX8_clearWishes cX8_clearWishes 2 (some .int) ∈ lwT := tw_in (tw_c4 (List.mem_of_getElem? (i := 228) rfl)) rfl
theorem tw_4_229 : Cond.methodLink RL 117 yX8_satisfiedWishes ∈ lwT := tw_in (tw_c4 (List.mem_of_getElem? (i := 229) rfl)) rfl
theorem tw_4_230 : Cond.instanceMethod yX8_satisfiedWishes ∈ lwT := tw_in (tw_c4 (List.mem_of_getElem? (i := 230) rfl)) rfl
theorem tw_4_231 : Cond.selects RX8 yX8_satisfiedWishes yX8_satisfiedWishes ∈ lwT := tw_in (tw_c4 (List.mem_of_getElem? (i := 231) rfl)) rfl
theorem tw_4_232 : Cond.code yX8_satisfiedWishes cX8_satisfiedWishes 1 (some .int) ∈ lwT := tw_in (tw_c4 (List.mem_of_getElem? (i := 232) rfl)) rfl
theorem tw_4_233 : Cond.methodLink RX8 151 yX8_satisfied ∈ lwT := tw_in (tw_c4 (List.mem_of_getElem? (i := 233) rfl)) rfl
theorem tw_4_235 : Cond.instanceMethod yX8_satisfied ∈ lwT := tw_in (tw_c4 (List.mem_of_getElem? (i := 235) rfl)) rfl
theorem tw_4_236 : Cond.code yX8_satisfied cX8_satisfied 4 (some .int) ∈ lwT := tw_in (tw_c4 (List.mem_of_getElem? (i := 236) rfl)) rfl
theorem tw_4_237 : Cond.methodLink RL 121 yX8_filtersToRemoveForWishes ∈ lwT := tw_in (tw_c4 (List.mem_of_getElem? (i := 237) rfl)) rfl
theorem tw_4_238 : Cond.instanceMethod yX8_filtersToRemoveForWishes ∈ lwT := tw_in (tw_c4 (List.mem_of_getElem? (i := 238) rfl)) rfl
theorem tw_4_239 : Cond.selects RX8 yX8_filtersToRemoveForWishes yX8_filtersToRemoveForWishes ∈ lwT := tw_in (tw_c4 (List.mem_of_getElem? (i := 239) rfl)) rfl
theorem tw_5_0 : Cond.code yX8_filtersToRemoveForWishes cX8_filtersToRemoveForWishes 1 (some .int) ∈ lwT := tw_in (tw_c5 (List.mem_of_getElem? (i := 0) rfl)) rfl
theorem tw_5_1 : Cond.methodLink RX8 154 yX8_removalForWishes ∈ lwT := tw_in (tw_c5 (List.mem_of_getElem? (i := 1) rfl)) rfl
theorem tw_5_3 : Cond.instanceMethod yX8_removalForWishes ∈ lwT := tw_in (tw_c5 (List.mem_of_getElem? (i := 3) rfl)) rfl
theorem tw_5_4 : Cond.code yX8_removalForWishes cX8_removalForWishes 4 (some .int) ∈ lwT := tw_in (tw_c5 (List.mem_of_getElem? (i := 4) rfl)) rfl
theorem tw_5_5 : Cond.methodLink RL 125 yX8_append ∈ lwT := tw_in (tw_c5 (List.mem_of_getElem? (i := 5) rfl)) rfl
theorem tw_5_6 : Cond.instanceMethod yX8_append ∈ lwT := tw_in (tw_c5 (List.mem_of_getElem? (i := 6) rfl)) rfl
theorem tw_5_7 : Cond.selects RX8 yX8_append yX8_append ∈ lwT := tw_in (tw_c5 (List.mem_of_getElem? (i := 7) rfl)) rfl
theorem tw_5_8 : Cond.code yX8_append cX8_append 2 (some .int) ∈ lwT := tw_in (tw_c5 (List.mem_of_getElem? (i := 8) rfl)) rfl
theorem tw_5_9 : Cond.methodLink RL 129 yX8_clearText ∈ lwT := tw_in (tw_c5 (List.mem_of_getElem? (i := 9) rfl)) rfl
theorem tw_5_10 : Cond.instanceMethod yX8_clearText ∈ lwT := tw_in (tw_c5 (List.mem_of_getElem? (i := 10) rfl)) rfl
theorem tw_5_11 : Cond.selects RX8 yX8_clearText yX8_clearText ∈ lwT := tw_in (tw_c5 (List.mem_of_getElem? (i := 11) rfl)) rfl
theorem tw_5_12 : Cond.code yX8_clearText cX8_clearText 2 (some .int) ∈ lwT := tw_in (tw_c5 (List.mem_of_getElem? (i := 12) rfl)) rfl
theorem tw_5_13 : Cond.methodLink RL 133 yX8_runScript ∈ lwT := tw_in (tw_c5 (List.mem_of_getElem? (i := 13) rfl)) rfl
theorem tw_5_14 : Cond.instanceMethod yX8_runScript ∈ lwT := tw_in (tw_c5 (List.mem_of_getElem? (i := 14) rfl)) rfl
theorem tw_5_15 : Cond.selects RX8 yX8_runScript yX8_runScript ∈ lwT := tw_in (tw_c5 (List.mem_of_getElem? (i := 15) rfl)) rfl
theorem tw_5_16 : Cond.code yX8_runScript cX8_runScript 2 (some .int) ∈ lwT := tw_in (tw_c5 (List.mem_of_getElem? (i := 16) rfl)) rfl
theorem tw_5_17 : Cond.methodLink RX8 201 yX8_readCommand ∈ lwT := tw_in (tw_c5 (List.mem_of_getElem? (i := 17) rfl)) rfl
theorem tw_5_19 : Cond.instanceMethod yX8_readCommand ∈ lwT := tw_in (tw_c5 (List.mem_of_getElem? (i := 19) rfl)) rfl
theorem tw_5_20 : Cond.code yX8_readCommand cX8_readCommand 5 (none : Option ClassFile.FieldType) ∈ lwT := tw_in (tw_c5 (List.mem_of_getElem? (i := 20) rfl)) rfl
theorem tw_5_21 : Cond.methodLink RX8 166 yX8_skip ∈ lwT := tw_in (tw_c5 (List.mem_of_getElem? (i := 21) rfl)) rfl
theorem tw_5_23 : Cond.instanceMethod yX8_skip ∈ lwT := tw_in (tw_c5 (List.mem_of_getElem? (i := 23) rfl)) rfl
theorem tw_5_24 : Cond.code yX8_skip cX8_skip 1 (none : Option ClassFile.FieldType) ∈ lwT := tw_in (tw_c5 (List.mem_of_getElem? (i := 24) rfl)) rfl
theorem tw_5_25 : Cond.methodLink RX8 163 yX8_here ∈ lwT := tw_in (tw_c5 (List.mem_of_getElem? (i := 25) rfl)) rfl
theorem tw_5_27 : Cond.instanceMethod yX8_here ∈ lwT := tw_in (tw_c5 (List.mem_of_getElem? (i := 27) rfl)) rfl
theorem tw_5_28 : Cond.code yX8_here cX8_here 1 (some .int) ∈ lwT := tw_in (tw_c5 (List.mem_of_getElem? (i := 28) rfl)) rfl
theorem tw_5_29 : Cond.methodLink RX8 172 yX8_numbersOf ∈ lwT := tw_in (tw_c5 (List.mem_of_getElem? (i := 29) rfl)) rfl
theorem tw_5_30 : Cond.static yX8_numbersOf ∈ lwT := tw_in (tw_c5 (List.mem_of_getElem? (i := 30) rfl)) rfl
theorem tw_5_31 : Cond.code yX8_numbersOf cX8_numbersOf 1 (some .int) ∈ lwT := tw_in (tw_c5 (List.mem_of_getElem? (i := 31) rfl)) rfl
theorem tw_5_32 : Cond.methodLink RX8 178 yX8_readNumber ∈ lwT := tw_in (tw_c5 (List.mem_of_getElem? (i := 32) rfl)) rfl
theorem tw_5_34 : Cond.instanceMethod yX8_readNumber ∈ lwT := tw_in (tw_c5 (List.mem_of_getElem? (i := 34) rfl)) rfl
theorem tw_5_35 : Cond.code yX8_readNumber cX8_readNumber 5 (some .int) ∈ lwT := tw_in (tw_c5 (List.mem_of_getElem? (i := 35) rfl)) rfl
theorem tw_5_36 : Cond.methodLink RX8 204 yX8_execute ∈ lwT := tw_in (tw_c5 (List.mem_of_getElem? (i := 36) rfl)) rfl
theorem tw_5_38 : Cond.instanceMethod yX8_execute ∈ lwT := tw_in (tw_c5 (List.mem_of_getElem? (i := 38) rfl)) rfl
theorem tw_5_39 : Cond.code yX8_execute cX8_execute 4 (some .int) ∈ lwT := tw_in (tw_c5 (List.mem_of_getElem? (i := 39) rfl)) rfl
theorem tw_5_40 : Cond.methodLink RX8 182 yX8_addLeft ∈ lwT := tw_in (tw_c5 (List.mem_of_getElem? (i := 40) rfl)) rfl
theorem tw_5_41 : Cond.methodLink RX8 185 yX8_addRight ∈ lwT := tw_in (tw_c5 (List.mem_of_getElem? (i := 41) rfl)) rfl
theorem tw_5_42 : Cond.methodLink RX8 188 yX8_addFilter ∈ lwT := tw_in (tw_c5 (List.mem_of_getElem? (i := 42) rfl)) rfl
theorem tw_5_43 : Cond.methodLink RX8 192 yX8_removeFilter ∈ lwT := tw_in (tw_c5 (List.mem_of_getElem? (i := 43) rfl)) rfl
theorem tw_5_44 : Cond.methodLink RX8 195 yX8_addWish ∈ lwT := tw_in (tw_c5 (List.mem_of_getElem? (i := 44) rfl)) rfl
theorem tw_5_45 : Cond.methodLink RX8 198 yX8_clearWishes ∈ lwT := tw_in (tw_c5 (List.mem_of_getElem? (i := 45) rfl)) rfl
theorem tw_5_46 : Cond.methodLink RX8 207 yX8_ends ∈ lwT := tw_in (tw_c5 (List.mem_of_getElem? (i := 46) rfl)) rfl
theorem tw_5_48 : Cond.instanceMethod yX8_ends ∈ lwT := tw_in (tw_c5 (List.mem_of_getElem? (i := 48) rfl)) rfl
theorem tw_5_49 : Cond.code yX8_ends cX8_ends 5 (some .int) ∈ lwT := tw_in (tw_c5 (List.mem_of_getElem? (i := 49) rfl)) rfl
theorem tw_5_50 : Cond.methodLink RL 137 yX8_undo ∈ lwT := tw_in (tw_c5 (List.mem_of_getElem? (i := 50) rfl)) rfl
theorem tw_5_51 : Cond.instanceMethod yX8_undo ∈ lwT := tw_in (tw_c5 (List.mem_of_getElem? (i := 51) rfl)) rfl
theorem tw_5_52 : Cond.selects RX8 yX8_undo yX8_undo ∈ lwT := tw_in (tw_c5 (List.mem_of_getElem? (i := 52) rfl)) rfl
theorem tw_5_53 : Cond.code yX8_undo cX8_undo 2 (some .int) ∈ lwT := tw_in (tw_c5 (List.mem_of_getElem? (i := 53) rfl)) rfl
theorem tw_5_54 : Cond.methodLink RL 141 yX8_errorCount ∈ lwT := tw_in (tw_c5 (List.mem_of_getElem? (i := 54) rfl)) rfl
theorem tw_5_55 : Cond.instanceMethod yX8_errorCount ∈ lwT := tw_in (tw_c5 (List.mem_of_getElem? (i := 55) rfl)) rfl
theorem tw_5_56 : Cond.selects RX8 yX8_errorCount yX8_errorCount ∈ lwT := tw_in (tw_c5 (List.mem_of_getElem? (i := 56) rfl)) rfl
theorem tw_5_57 : Cond.code yX8_errorCount cX8_errorCount 2 (some .int) ∈ lwT := tw_in (tw_c5 (List.mem_of_getElem? (i := 57) rfl)) rfl
theorem tw_5_58 : Cond.methodLink RL 146 yX8_digest ∈ lwT := tw_in (tw_c5 (List.mem_of_getElem? (i := 58) rfl)) rfl
theorem tw_5_59 : Cond.instanceMethod yX8_digest ∈ lwT := tw_in (tw_c5 (List.mem_of_getElem? (i := 59) rfl)) rfl
theorem tw_5_60 : Cond.selects RX8 yX8_digest yX8_digest ∈ lwT := tw_in (tw_c5 (List.mem_of_getElem? (i := 60) rfl)) rfl
theorem tw_5_61 : Cond.code yX8_digest cX8_digest 3 (some .long) ∈ lwT := tw_in (tw_c5 (List.mem_of_getElem? (i := 61) rfl)) rfl
theorem tw_5_62 : Cond.constantLong RX8 219 (18084 : Int64) ∈ lwT := tw_in (tw_c5 (List.mem_of_getElem? (i := 62) rfl)) rfl
theorem tw_5_63 : Cond.methodLink RX8 216 yX8_add ∈ lwT := tw_in (tw_c5 (List.mem_of_getElem? (i := 63) rfl)) rfl
theorem tw_5_65 : Cond.instanceMethod yX8_add ∈ lwT := tw_in (tw_c5 (List.mem_of_getElem? (i := 65) rfl)) rfl
theorem tw_5_66 : Cond.code yX8_add cX8_add 2 (none : Option ClassFile.FieldType) ∈ lwT := tw_in (tw_c5 (List.mem_of_getElem? (i := 66) rfl)) rfl
theorem tw_5_67 : Cond.constantLong RX8 210 (31 : Int64) ∈ lwT := tw_in (tw_c5 (List.mem_of_getElem? (i := 67) rfl)) rfl
theorem tw_5_68 : Cond.methodLink RX8 221 yX8_addRows ∈ lwT := tw_in (tw_c5 (List.mem_of_getElem? (i := 68) rfl)) rfl
theorem tw_5_70 : Cond.instanceMethod yX8_addRows ∈ lwT := tw_in (tw_c5 (List.mem_of_getElem? (i := 70) rfl)) rfl
theorem tw_5_71 : Cond.code yX8_addRows cX8_addRows 3 (none : Option ClassFile.FieldType) ∈ lwT := tw_in (tw_c5 (List.mem_of_getElem? (i := 71) rfl)) rfl
theorem tw_5_72 : Cond.methodLink RX8 224 yX8_addFilters ∈ lwT := tw_in (tw_c5 (List.mem_of_getElem? (i := 72) rfl)) rfl
theorem tw_5_74 : Cond.instanceMethod yX8_addFilters ∈ lwT := tw_in (tw_c5 (List.mem_of_getElem? (i := 74) rfl)) rfl
theorem tw_5_75 : Cond.code yX8_addFilters cX8_addFilters 3 (none : Option ClassFile.FieldType) ∈ lwT := tw_in (tw_c5 (List.mem_of_getElem? (i := 75) rfl)) rfl
theorem tw_5_76 : Cond.methodLink RX8 227 yX8_addWishes ∈ lwT := tw_in (tw_c5 (List.mem_of_getElem? (i := 76) rfl)) rfl
theorem tw_5_78 : Cond.instanceMethod yX8_addWishes ∈ lwT := tw_in (tw_c5 (List.mem_of_getElem? (i := 78) rfl)) rfl
theorem tw_5_79 : Cond.code yX8_addWishes cX8_addWishes 4 (none : Option ClassFile.FieldType) ∈ lwT := tw_in (tw_c5 (List.mem_of_getElem? (i := 79) rfl)) rfl
def nwC : List Cond := [Cond.methodLinkNest RX7 11 yX3_init "WhyNotJoin", Cond.methodLinkNest RX3 11 yX5_init "WhyNotJoin", Cond.fieldLinkNest RX3 49 "WhyNotJoin$PairList" "size" "I" "WhyNotJoin", Cond.fieldLinkNest RX7 211 "WhyNotJoin$PairList" "size" "I" "WhyNotJoin", Cond.methodLinkNest RX5 25 yX0_init "WhyNotJoin", Cond.fieldLinkNest RX7 212 "WhyNotJoin$FilterList" "stages" "[I" "WhyNotJoin", Cond.fieldLinkNest RX7 215 "WhyNotJoin$FilterList" "columns" "[I" "WhyNotJoin", Cond.fieldLinkNest RX7 218 "WhyNotJoin$FilterList" "operators" "[I" "WhyNotJoin", Cond.fieldLinkNest RX7 221 "WhyNotJoin$FilterList" "constants" "[I" "WhyNotJoin", Cond.fieldLinkNest RX7 89 "WhyNotJoin$FilterList" "size" "I" "WhyNotJoin", Cond.fieldLinkNest RX3 104 "WhyNotJoin$FilterList" "size" "I" "WhyNotJoin", Cond.fieldLinkNest RX7 48 "WhyNotJoin$State" "left" "LWhyNotJoin$PairList;" "WhyNotJoin", Cond.fieldLinkNest RX3 45 "WhyNotJoin$State" "left" "LWhyNotJoin$PairList;" "WhyNotJoin", Cond.fieldLinkNest RX7 64 "WhyNotJoin$State" "right" "LWhyNotJoin$PairList;" "WhyNotJoin", Cond.fieldLinkNest RX3 65 "WhyNotJoin$State" "right" "LWhyNotJoin$PairList;" "WhyNotJoin", Cond.fieldLinkNest RX3 25 "WhyNotJoin$State" "filters" "LWhyNotJoin$FilterList;" "WhyNotJoin", Cond.fieldLinkNest RX7 76 "WhyNotJoin$State" "filters" "LWhyNotJoin$FilterList;" "WhyNotJoin", Cond.fieldLinkNest RX3 141 "WhyNotJoin$State" "wishes" "LWhyNotJoin$PairList;" "WhyNotJoin", Cond.fieldLinkNest RX7 139 "WhyNotJoin$State" "wishes" "LWhyNotJoin$PairList;" "WhyNotJoin", Cond.fieldLinkNest RX7 16 "WhyNotJoin$Query" "state" "LWhyNotJoin$State;" "WhyNotJoin", Cond.fieldLinkNest RX7 224 "WhyNotJoin$Query" "matches" "[I" "WhyNotJoin", Cond.methodLinkNest RX1 17 yX5_init "WhyNotJoin", Cond.fieldLinkNest RX7 192 "WhyNotJoin$History" "depth" "I" "WhyNotJoin", Cond.methodLinkNest RX7 30 yX4_init "WhyNotJoin", Cond.methodLinkNest RX4 11 yX6_init "WhyNotJoin", Cond.fieldLinkNest RX4 39 "WhyNotJoin$Text" "length" "I" "WhyNotJoin", Cond.fieldLinkNest RX7 189 "WhyNotJoin$Text" "length" "I" "WhyNotJoin", Cond.fieldLinkNest RX7 35 "WhyNotJoin$Script" "text" "LWhyNotJoin$Text;" "WhyNotJoin", Cond.fieldLinkNest RX7 166 "WhyNotJoin$Script" "size" "I" "WhyNotJoin", Cond.fieldLinkNest RX7 163 "WhyNotJoin$Script" "position" "I" "WhyNotJoin", Cond.methodLinkNest RX2 34 yX7_isPair "WhyNotJoin", Cond.methodLinkNest RX0 57 yX7_isValue "WhyNotJoin", Cond.methodLinkNest RX3 74 yX7_isPair "WhyNotJoin", Cond.methodLinkNest RX3 94 yX7_isIn "WhyNotJoin"]
theorem nwC_in : ∀ w ∈ nwC, w ∈ lw_tbl := List.forall_mem_cons.mpr ⟨tw_c1 (List.mem_of_getElem? (i := 24) rfl), List.forall_mem_cons.mpr ⟨tw_c1 (List.mem_of_getElem? (i := 30) rfl), List.forall_mem_cons.mpr ⟨tw_c1 (List.mem_of_getElem? (i := 46) rfl), List.forall_mem_cons.mpr ⟨tw_c1 (List.mem_of_getElem? (i := 47) rfl), List.forall_mem_cons.mpr ⟨tw_c1 (List.mem_of_getElem? (i := 58) rfl), List.forall_mem_cons.mpr ⟨tw_c1 (List.mem_of_getElem? (i := 63) rfl), List.forall_mem_cons.mpr ⟨tw_c1 (List.mem_of_getElem? (i := 65) rfl), List.forall_mem_cons.mpr ⟨tw_c1 (List.mem_of_getElem? (i := 67) rfl), List.forall_mem_cons.mpr ⟨tw_c1 (List.mem_of_getElem? (i := 69) rfl), List.forall_mem_cons.mpr ⟨tw_c1 (List.mem_of_getElem? (i := 71) rfl), List.forall_mem_cons.mpr ⟨tw_c1 (List.mem_of_getElem? (i := 72) rfl), List.forall_mem_cons.mpr ⟨tw_c1 (List.mem_of_getElem? (i := 85) rfl), List.forall_mem_cons.mpr ⟨tw_c1 (List.mem_of_getElem? (i := 86) rfl), List.forall_mem_cons.mpr ⟨tw_c1 (List.mem_of_getElem? (i := 88) rfl), List.forall_mem_cons.mpr ⟨tw_c1 (List.mem_of_getElem? (i := 89) rfl), List.forall_mem_cons.mpr ⟨tw_c1 (List.mem_of_getElem? (i := 91) rfl), List.forall_mem_cons.mpr ⟨tw_c1 (List.mem_of_getElem? (i := 92) rfl), List.forall_mem_cons.mpr ⟨tw_c1 (List.mem_of_getElem? (i := 94) rfl), List.forall_mem_cons.mpr ⟨tw_c1 (List.mem_of_getElem? (i := 95) rfl), List.forall_mem_cons.mpr ⟨tw_c1 (List.mem_of_getElem? (i := 106) rfl), List.forall_mem_cons.mpr ⟨tw_c1 (List.mem_of_getElem? (i := 108) rfl), List.forall_mem_cons.mpr ⟨tw_c1 (List.mem_of_getElem? (i := 125) rfl), List.forall_mem_cons.mpr ⟨tw_c1 (List.mem_of_getElem? (i := 129) rfl), List.forall_mem_cons.mpr ⟨tw_c1 (List.mem_of_getElem? (i := 139) rfl), List.forall_mem_cons.mpr ⟨tw_c1 (List.mem_of_getElem? (i := 145) rfl), List.forall_mem_cons.mpr ⟨tw_c1 (List.mem_of_getElem? (i := 151) rfl), List.forall_mem_cons.mpr ⟨tw_c1 (List.mem_of_getElem? (i := 152) rfl), List.forall_mem_cons.mpr ⟨tw_c1 (List.mem_of_getElem? (i := 159) rfl), List.forall_mem_cons.mpr ⟨tw_c1 (List.mem_of_getElem? (i := 163) rfl), List.forall_mem_cons.mpr ⟨tw_c1 (List.mem_of_getElem? (i := 165) rfl), List.forall_mem_cons.mpr ⟨tw_c1 (List.mem_of_getElem? (i := 224) rfl), List.forall_mem_cons.mpr ⟨tw_c2 (List.mem_of_getElem? (i := 56) rfl), List.forall_mem_cons.mpr ⟨tw_c2 (List.mem_of_getElem? (i := 149) rfl), List.forall_mem_cons.mpr ⟨tw_c2 (List.mem_of_getElem? (i := 186) rfl), fun _ h => absurd h List.not_mem_nil⟩⟩⟩⟩⟩⟩⟩⟩⟩⟩⟩⟩⟩⟩⟩⟩⟩⟩⟩⟩⟩⟩⟩⟩⟩⟩⟩⟩⟩⟩⟩⟩⟩⟩
theorem nw_1_24 : Cond.methodLinkNest RX7 11 yX3_init "WhyNotJoin" ∈ nwC := List.mem_of_getElem? (i := 0) rfl
theorem nw_1_30 : Cond.methodLinkNest RX3 11 yX5_init "WhyNotJoin" ∈ nwC := List.mem_of_getElem? (i := 1) rfl
theorem nw_1_46 : Cond.fieldLinkNest RX3 49 "WhyNotJoin$PairList" "size" "I" "WhyNotJoin" ∈ nwC := List.mem_of_getElem? (i := 2) rfl
theorem nw_1_47 : Cond.fieldLinkNest RX7 211 "WhyNotJoin$PairList" "size" "I" "WhyNotJoin" ∈ nwC := List.mem_of_getElem? (i := 3) rfl
theorem nw_1_58 : Cond.methodLinkNest RX5 25 yX0_init "WhyNotJoin" ∈ nwC := List.mem_of_getElem? (i := 4) rfl
theorem nw_1_63 : Cond.fieldLinkNest RX7 212 "WhyNotJoin$FilterList" "stages" "[I" "WhyNotJoin" ∈ nwC := List.mem_of_getElem? (i := 5) rfl
theorem nw_1_65 : Cond.fieldLinkNest RX7 215 "WhyNotJoin$FilterList" "columns" "[I" "WhyNotJoin" ∈ nwC := List.mem_of_getElem? (i := 6) rfl
theorem nw_1_67 : Cond.fieldLinkNest RX7 218 "WhyNotJoin$FilterList" "operators" "[I" "WhyNotJoin" ∈ nwC := List.mem_of_getElem? (i := 7) rfl
theorem nw_1_69 : Cond.fieldLinkNest RX7 221 "WhyNotJoin$FilterList" "constants" "[I" "WhyNotJoin" ∈ nwC := List.mem_of_getElem? (i := 8) rfl
theorem nw_1_71 : Cond.fieldLinkNest RX7 89 "WhyNotJoin$FilterList" "size" "I" "WhyNotJoin" ∈ nwC := List.mem_of_getElem? (i := 9) rfl
theorem nw_1_72 : Cond.fieldLinkNest RX3 104 "WhyNotJoin$FilterList" "size" "I" "WhyNotJoin" ∈ nwC := List.mem_of_getElem? (i := 10) rfl
theorem nw_1_85 : Cond.fieldLinkNest RX7 48 "WhyNotJoin$State" "left" "LWhyNotJoin$PairList;" "WhyNotJoin" ∈ nwC := List.mem_of_getElem? (i := 11) rfl
theorem nw_1_86 : Cond.fieldLinkNest RX3 45 "WhyNotJoin$State" "left" "LWhyNotJoin$PairList;" "WhyNotJoin" ∈ nwC := List.mem_of_getElem? (i := 12) rfl
theorem nw_1_88 : Cond.fieldLinkNest RX7 64 "WhyNotJoin$State" "right" "LWhyNotJoin$PairList;" "WhyNotJoin" ∈ nwC := List.mem_of_getElem? (i := 13) rfl
theorem nw_1_89 : Cond.fieldLinkNest RX3 65 "WhyNotJoin$State" "right" "LWhyNotJoin$PairList;" "WhyNotJoin" ∈ nwC := List.mem_of_getElem? (i := 14) rfl
theorem nw_1_91 : Cond.fieldLinkNest RX3 25 "WhyNotJoin$State" "filters" "LWhyNotJoin$FilterList;" "WhyNotJoin" ∈ nwC := List.mem_of_getElem? (i := 15) rfl
theorem nw_1_92 : Cond.fieldLinkNest RX7 76 "WhyNotJoin$State" "filters" "LWhyNotJoin$FilterList;" "WhyNotJoin" ∈ nwC := List.mem_of_getElem? (i := 16) rfl
theorem nw_1_94 : Cond.fieldLinkNest RX3 141 "WhyNotJoin$State" "wishes" "LWhyNotJoin$PairList;" "WhyNotJoin" ∈ nwC := List.mem_of_getElem? (i := 17) rfl
theorem nw_1_95 : Cond.fieldLinkNest RX7 139 "WhyNotJoin$State" "wishes" "LWhyNotJoin$PairList;" "WhyNotJoin" ∈ nwC := List.mem_of_getElem? (i := 18) rfl
theorem nw_1_106 : Cond.fieldLinkNest RX7 16 "WhyNotJoin$Query" "state" "LWhyNotJoin$State;" "WhyNotJoin" ∈ nwC := List.mem_of_getElem? (i := 19) rfl
theorem nw_1_108 : Cond.fieldLinkNest RX7 224 "WhyNotJoin$Query" "matches" "[I" "WhyNotJoin" ∈ nwC := List.mem_of_getElem? (i := 20) rfl
theorem nw_1_125 : Cond.methodLinkNest RX1 17 yX5_init "WhyNotJoin" ∈ nwC := List.mem_of_getElem? (i := 21) rfl
theorem nw_1_129 : Cond.fieldLinkNest RX7 192 "WhyNotJoin$History" "depth" "I" "WhyNotJoin" ∈ nwC := List.mem_of_getElem? (i := 22) rfl
theorem nw_1_139 : Cond.methodLinkNest RX7 30 yX4_init "WhyNotJoin" ∈ nwC := List.mem_of_getElem? (i := 23) rfl
theorem nw_1_145 : Cond.methodLinkNest RX4 11 yX6_init "WhyNotJoin" ∈ nwC := List.mem_of_getElem? (i := 24) rfl
theorem nw_1_151 : Cond.fieldLinkNest RX4 39 "WhyNotJoin$Text" "length" "I" "WhyNotJoin" ∈ nwC := List.mem_of_getElem? (i := 25) rfl
theorem nw_1_152 : Cond.fieldLinkNest RX7 189 "WhyNotJoin$Text" "length" "I" "WhyNotJoin" ∈ nwC := List.mem_of_getElem? (i := 26) rfl
theorem nw_1_159 : Cond.fieldLinkNest RX7 35 "WhyNotJoin$Script" "text" "LWhyNotJoin$Text;" "WhyNotJoin" ∈ nwC := List.mem_of_getElem? (i := 27) rfl
theorem nw_1_163 : Cond.fieldLinkNest RX7 166 "WhyNotJoin$Script" "size" "I" "WhyNotJoin" ∈ nwC := List.mem_of_getElem? (i := 28) rfl
theorem nw_1_165 : Cond.fieldLinkNest RX7 163 "WhyNotJoin$Script" "position" "I" "WhyNotJoin" ∈ nwC := List.mem_of_getElem? (i := 29) rfl
theorem nw_1_224 : Cond.methodLinkNest RX2 34 yX7_isPair "WhyNotJoin" ∈ nwC := List.mem_of_getElem? (i := 30) rfl
theorem nw_2_56 : Cond.methodLinkNest RX0 57 yX7_isValue "WhyNotJoin" ∈ nwC := List.mem_of_getElem? (i := 31) rfl
theorem nw_2_149 : Cond.methodLinkNest RX3 74 yX7_isPair "WhyNotJoin" ∈ nwC := List.mem_of_getElem? (i := 32) rfl
theorem nw_2_186 : Cond.methodLinkNest RX3 94 yX7_isIn "WhyNotJoin" ∈ nwC := List.mem_of_getElem? (i := 33) rfl
theorem inX0 : ∀ w ∈ u_ws RX0 TX0 5, w ∈ lwT := (List.forall_mem_cons.mpr ⟨tw_1_73, List.forall_mem_cons.mpr ⟨tw_1_75, List.forall_mem_cons.mpr ⟨tw_1_77, List.forall_mem_cons.mpr ⟨tw_1_79, List.forall_mem_cons.mpr ⟨tw_1_81, fun _ h => absurd h List.not_mem_nil⟩⟩⟩⟩⟩ : ∀ w ∈ [Cond.laysFinal RX0 "WhyNotJoin$FilterList" "stages" "[I", Cond.laysFinal RX0 "WhyNotJoin$FilterList" "columns" "[I", Cond.laysFinal RX0 "WhyNotJoin$FilterList" "operators" "[I", Cond.laysFinal RX0 "WhyNotJoin$FilterList" "constants" "[I", Cond.lays RX0 "WhyNotJoin$FilterList" "size" "I"], w ∈ lwT)
theorem inX1 : ∀ w ∈ u_ws RX1 TX1 3, w ∈ lwT := (List.forall_mem_cons.mpr ⟨tw_1_130, List.forall_mem_cons.mpr ⟨tw_1_132, List.forall_mem_cons.mpr ⟨tw_1_134, fun _ h => absurd h List.not_mem_nil⟩⟩⟩ : ∀ w ∈ [Cond.laysFinal RX1 "WhyNotJoin$History" "slots" "[LWhyNotJoin$State;", Cond.lays RX1 "WhyNotJoin$History" "draftSlot" "I", Cond.lays RX1 "WhyNotJoin$History" "depth" "I"], w ∈ lwT)
theorem inX2 : ∀ w ∈ u_ws RX2 TX2 3, w ∈ lwT := (List.forall_mem_cons.mpr ⟨tw_1_48, List.forall_mem_cons.mpr ⟨tw_1_50, List.forall_mem_cons.mpr ⟨tw_1_52, fun _ h => absurd h List.not_mem_nil⟩⟩⟩ : ∀ w ∈ [Cond.laysFinal RX2 "WhyNotJoin$PairList" "pairs" "[I", Cond.laysFinal RX2 "WhyNotJoin$PairList" "limit" "I", Cond.lays RX2 "WhyNotJoin$PairList" "size" "I"], w ∈ lwT)
theorem inX3 : ∀ w ∈ u_ws RX3 TX3 3, w ∈ lwT := (List.forall_mem_cons.mpr ⟨tw_1_110, List.forall_mem_cons.mpr ⟨tw_1_112, List.forall_mem_cons.mpr ⟨tw_1_114, fun _ h => absurd h List.not_mem_nil⟩⟩⟩ : ∀ w ∈ [Cond.laysFinal RX3 "WhyNotJoin$Query" "state" "LWhyNotJoin$State;", Cond.laysFinal RX3 "WhyNotJoin$Query" "matches" "[I", Cond.laysFinal RX3 "WhyNotJoin$Query" "wishRejecters" "[I"], w ∈ lwT)
theorem inX4 : ∀ w ∈ u_ws RX4 TX4 5, w ∈ lwT := (List.forall_mem_cons.mpr ⟨tw_1_166, List.forall_mem_cons.mpr ⟨tw_1_168, List.forall_mem_cons.mpr ⟨tw_1_170, List.forall_mem_cons.mpr ⟨tw_1_172, List.forall_mem_cons.mpr ⟨tw_1_174, fun _ h => absurd h List.not_mem_nil⟩⟩⟩⟩⟩ : ∀ w ∈ [Cond.laysFinal RX4 "WhyNotJoin$Script" "text" "LWhyNotJoin$Text;", Cond.laysFinal RX4 "WhyNotJoin$Script" "letters" "[I", Cond.laysFinal RX4 "WhyNotJoin$Script" "numbers" "[I", Cond.lays RX4 "WhyNotJoin$Script" "size" "I", Cond.lays RX4 "WhyNotJoin$Script" "position" "I"], w ∈ lwT)
theorem inX5 : ∀ w ∈ u_ws RX5 TX5 4, w ∈ lwT := (List.forall_mem_cons.mpr ⟨tw_1_96, List.forall_mem_cons.mpr ⟨tw_1_98, List.forall_mem_cons.mpr ⟨tw_1_100, List.forall_mem_cons.mpr ⟨tw_1_102, fun _ h => absurd h List.not_mem_nil⟩⟩⟩⟩ : ∀ w ∈ [Cond.laysFinal RX5 "WhyNotJoin$State" "left" "LWhyNotJoin$PairList;", Cond.laysFinal RX5 "WhyNotJoin$State" "right" "LWhyNotJoin$PairList;", Cond.laysFinal RX5 "WhyNotJoin$State" "filters" "LWhyNotJoin$FilterList;", Cond.laysFinal RX5 "WhyNotJoin$State" "wishes" "LWhyNotJoin$PairList;"], w ∈ lwT)
theorem inX6 : ∀ w ∈ u_ws RX6 TX6 2, w ∈ lwT := (List.forall_mem_cons.mpr ⟨tw_1_153, List.forall_mem_cons.mpr ⟨tw_1_155, fun _ h => absurd h List.not_mem_nil⟩⟩ : ∀ w ∈ [Cond.laysFinal RX6 "WhyNotJoin$Text" "bytes" "[I", Cond.lays RX6 "WhyNotJoin$Text" "length" "I"], w ∈ lwT)
theorem inX7 : ∀ w ∈ u_ws RX7 TX7 6, w ∈ lwT := (List.forall_mem_cons.mpr ⟨tw_1_183, List.forall_mem_cons.mpr ⟨tw_1_185, List.forall_mem_cons.mpr ⟨tw_1_187, List.forall_mem_cons.mpr ⟨tw_1_189, List.forall_mem_cons.mpr ⟨tw_1_191, List.forall_mem_cons.mpr ⟨tw_1_193, fun _ h => absurd h List.not_mem_nil⟩⟩⟩⟩⟩⟩ : ∀ w ∈ [Cond.laysFinal RX7 "WhyNotJoin" "query" "LWhyNotJoin$Query;", Cond.laysFinal RX7 "WhyNotJoin" "state" "LWhyNotJoin$State;", Cond.laysFinal RX7 "WhyNotJoin" "history" "LWhyNotJoin$History;", Cond.laysFinal RX7 "WhyNotJoin" "script" "LWhyNotJoin$Script;", Cond.laysFinal RX7 "WhyNotJoin" "text" "LWhyNotJoin$Text;", Cond.laysFinal RX7 "WhyNotJoin" "errors" "[I"], w ∈ lwT)
theorem inX8 : ∀ w ∈ u_ws RX8 TX8 14, w ∈ lwT := (List.forall_mem_cons.mpr ⟨tw_3_217, List.forall_mem_cons.mpr ⟨tw_3_219, List.forall_mem_cons.mpr ⟨tw_3_221, List.forall_mem_cons.mpr ⟨tw_3_223, List.forall_mem_cons.mpr ⟨tw_3_225, List.forall_mem_cons.mpr ⟨tw_3_227, List.forall_mem_cons.mpr ⟨tw_3_229, List.forall_mem_cons.mpr ⟨tw_3_231, List.forall_mem_cons.mpr ⟨tw_3_233, List.forall_mem_cons.mpr ⟨tw_3_235, List.forall_mem_cons.mpr ⟨tw_3_237, List.forall_mem_cons.mpr ⟨tw_3_239, List.forall_mem_cons.mpr ⟨tw_4_1, List.forall_mem_cons.mpr ⟨tw_4_3, fun _ h => absurd h List.not_mem_nil⟩⟩⟩⟩⟩⟩⟩⟩⟩⟩⟩⟩⟩⟩ : ∀ w ∈ [Cond.laysFinal RX8 "WhyNotJoinModel" "s" "[I", Cond.laysFinal RX8 "WhyNotJoinModel" "ahead" "[I", Cond.laysFinal RX8 "WhyNotJoinModel" "past" "[I", Cond.lays RX8 "WhyNotJoinModel" "pasts" "I", Cond.laysFinal RX8 "WhyNotJoinModel" "errors" "[I", Cond.lays RX8 "WhyNotJoinModel" "isScript" "Z", Cond.laysFinal RX8 "WhyNotJoinModel" "text" "[B", Cond.lays RX8 "WhyNotJoinModel" "typed" "I", Cond.lays RX8 "WhyNotJoinModel" "remaining" "I", Cond.laysFinal RX8 "WhyNotJoinModel" "commands" "[I", Cond.lays RX8 "WhyNotJoinModel" "commandCount" "I", Cond.lays RX8 "WhyNotJoinModel" "at" "I", Cond.lays RX8 "WhyNotJoinModel" "isWrong" "Z", Cond.lays RX8 "WhyNotJoinModel" "hash" "J"], w ∈ lwT)
end
section
/-! ===== the flat world: cells 0 .. N-1 at the addresses adr 0 .. adr (N-1); what they hold is read off one store ===== -/
abbrev fw_T : Type := (Nat → Nat → Int32) × Int64
def fw_g (σ : fw_T) (i k : Nat) : Int32 := σ.1 i k
def fw_h (σ : fw_T) : Int64 := σ.2
def fw_u (σ : fw_T) (i k : Nat) (v : Int32) : fw_T := (fun j l => if j = i ∧ l = k then v else σ.1 j l, σ.2)
def fw_uh (σ : fw_T) (h : Int64) : fw_T := (σ.1, h)
def fw_cp (σ : fw_T) (src dst n : Nat) : fw_T := (fun j l => if j = dst ∧ l < n then σ.1 src l else σ.1 j l, σ.2)
def fw_rd (σ : fw_T) (id n : Nat) (i : Int32) : Option Int32 := if i < 0 ∨ n ≤ i.toNatClampNeg then none else some (fw_g σ id i.toNatClampNeg)
def fw_wr (σ : fw_T) (id n : Nat) (i x : Int32) : Option fw_T := if i < 0 ∨ n ≤ i.toNatClampNeg then none else some (fw_u σ id i.toNatClampNeg x)
def fw_ix (i : Int32) (n : Nat) : Option Nat := if i < 0 ∨ n ≤ i.toNatClampNeg then none else some i.toNatClampNeg
def fw_z (v : Int32) : Option Int32 := if v = 0 ∨ v = 1 then some v else none
def fw_rz (v : Int32) (σ : fw_T) : Option (Int32 × fw_T) := if v = 0 ∨ v = 1 then some (v, σ) else none
def fw_b2 {α β : Type} (o : Option (α × fw_T)) (k : α → fw_T → Option β) : Option β := match o with
  | none => none
  | some q => k q.1 q.2
theorem fw_bd {α β : Type} {o : Option α} {k : α → Option β} {z : β} (h : o.bind k = some z) : ∃ v, o = some v ∧ k v = some z := by
  cases o with
  | none => cases h
  | some v => exact ⟨v, rfl, h⟩
theorem fw_b2s {α β : Type} {o : Option (α × fw_T)} {k : α → fw_T → Option β} {z : β} (h : fw_b2 o k = some z) : ∃ v σ, o = some (v, σ) ∧ k v σ = some z := by
  cases o with
  | none => cases h
  | some q => exact ⟨q.1, q.2, rfl, h⟩
theorem fw_rzs {v r : Int32} {σ σ' : fw_T} (h : fw_rz v σ = some (r, σ')) : v = r ∧ σ = σ' ∧ (v = 0 ∨ v = 1) := by
  unfold fw_rz at h
  split at h
  · rename_i hz
    cases h
    exact ⟨rfl, rfl, hz⟩
  · cases h
theorem fw_zs {v w : Int32} (h : fw_z v = some w) : v = w ∧ (v = 0 ∨ v = 1) := by
  unfold fw_z at h
  split at h
  · rename_i hz
    cases h
    exact ⟨rfl, hz⟩
  · cases h
theorem fw_rds {σ : fw_T} {id n : Nat} {i v : Int32} (h : fw_rd σ id n i = some v) : vp_in i n ∧ fw_g σ id i.toNatClampNeg = v := by
  unfold fw_rd at h
  split at h
  · cases h
  · rename_i hz
    cases h
    exact ⟨hz, rfl⟩
theorem fw_wrs {σ σ' : fw_T} {id n : Nat} {i x : Int32} (h : fw_wr σ id n i x = some σ') : vp_in i n ∧ fw_u σ id i.toNatClampNeg x = σ' := by
  unfold fw_wr at h
  split at h
  · cases h
  · rename_i hz
    cases h
    exact ⟨hz, rfl⟩
theorem fw_ixs {n k : Nat} {i : Int32} (h : fw_ix i n = some k) : vp_in i n ∧ i.toNatClampNeg = k ∧ k < n := by
  unfold fw_ix at h
  split at h
  · cases h
  · rename_i hz
    cases h
    exact ⟨hz, rfl, Nat.not_le.mp fun q => hz (Or.inr q)⟩
theorem fw_gu (σ : fw_T) (i k : Nat) (v : Int32) : fw_g (fw_u σ i k v) i = upd (fw_g σ i) k v := by
  funext l
  simp [fw_g, fw_u, upd]
theorem fw_gn (σ : fw_T) {i k j : Nat} {v : Int32} (h : j ≠ i) : fw_g (fw_u σ i k v) j = fw_g σ j := by
  funext l
  simp [fw_g, fw_u, h]
theorem fw_guh (σ : fw_T) (h : Int64) (j : Nat) : fw_g (fw_uh σ h) j = fw_g σ j := rfl
theorem fw_hu (σ : fw_T) (i k : Nat) (v : Int32) : fw_h (fw_u σ i k v) = fw_h σ := rfl
theorem fw_huh (σ : fw_T) (h : Int64) : fw_h (fw_uh σ h) = h := rfl
theorem fw_gcp (σ : fw_T) (a b n : Nat) : fw_g (fw_cp σ a b n) b = va_cpy (fw_g σ a) (fw_g σ b) 0 0 n := by
  funext l
  simp [fw_g, fw_cp, va_cpy]
theorem fw_gcn (σ : fw_T) {a b n j : Nat} (h : j ≠ b) : fw_g (fw_cp σ a b n) j = fw_g σ j := by
  funext l
  simp [fw_g, fw_cp, h]
def fw_ws (N : Nat) (adr : Nat → Nat) (cf : Nat → va_E) : va_W := (List.range N).map (fun i => (adr i, cf i))
theorem fw_at {N : Nat} {adr : Nat → Nat} {cf : Nat → va_E} {i : Nat} (h : i < N) {e : va_E} (he : cf i = e) : (fw_ws N adr cf)[i]? = some (adr i, e) := by
  subst he
  simp [fw_ws, List.getElem?_range, h]
theorem fw_inv {N : Nat} {adr : Nat → Nat} {cf : Nat → va_E} {k : Nat} {q : Nat × va_E} (h : (fw_ws N adr cf)[k]? = some q) : k < N ∧ q = (adr k, cf k) := by
  have hk : k < (fw_ws N adr cf).length := (List.getElem?_eq_some_iff.mp h).1
  have hk : k < N := by simpa [fw_ws] using hk
  rw [fw_at hk rfl] at h
  cases h
  exact ⟨hk, rfl⟩
theorem fw_set {N : Nat} {adr : Nat → Nat} {cf cf' : Nat → va_E} {i : Nat} (h : i < N) {e : va_E} (he : cf' i = e) (hn : ∀ j, j ≠ i → cf' j = cf j) : (fw_ws N adr cf).set i (adr i, e) = fw_ws N adr cf' := by
  apply List.ext_getElem?
  intro k
  by_cases hk : k = i
  · subst hk
    rw [List.getElem?_set_self (by simpa [fw_ws] using h), fw_at h he]
  · rw [List.getElem?_set_ne (Ne.symm hk)]
    by_cases hN : k < N
    · rw [fw_at hN rfl, fw_at hN (hn k hk)]
    · rw [List.getElem?_eq_none (by simpa [fw_ws] using Nat.not_lt.mp hN), List.getElem?_eq_none (by simpa [fw_ws] using Nat.not_lt.mp hN)]
theorem fw_D {N : Nat} {adr : Nat → Nat} {cf cf' : Nat → va_E} {A : Nat → Prop} (h : va_D A (fw_ws N adr cf)) : va_D A (fw_ws N adr cf') := by
  refine ⟨fun i j x y hi hj hxy => ?_, fun k q hk => ?_⟩
  · obtain ⟨h1, rfl⟩ := fw_inv hi
    obtain ⟨h2, rfl⟩ := fw_inv hj
    exact h.1 i j _ _ (fw_at h1 rfl) (fw_at h2 rfl) hxy
  · obtain ⟨h1, rfl⟩ := fw_inv hk
    exact h.2 k (adr k, cf k) (fw_at h1 rfl)
theorem fw_A {N : Nat} {adr : Nat → Nat} {cf cf' : Nat → va_E} {sz q : Nat} (h : va_A (fw_ws N adr cf) sz q) : va_A (fw_ws N adr cf') sz q := by
  rcases h with ⟨k, e, h⟩ | h
  · obtain ⟨h1, h2⟩ := fw_inv h
    cases h2
    exact Or.inl ⟨k, _, fw_at h1 rfl⟩
  · exact Or.inr h
def fw_nest : Cond → Bool
  | .fieldLinkNest _ _ _ _ _ _ => true
  | .methodLinkNest _ _ _ _ => true
  | _ => false
theorem fw_nw {w : Cond} (h : fw_nest w = true) {s U : State} (hW : s.WarmedH U.vm) (hZ : va_Nw w s) : va_Nw w U := by
  cases w <;> first | (exfalso; revert h; simp [fw_nest]; done) | exact va_Nw.warmF hW hZ | exact va_Nw.warmM hW hZ
theorem fw_nt {w : Cond} (h : fw_nest w = true) : w.onTables = true := by
  cases w <;> first | rfl | (exfalso; revert h; simp [fw_nest]; done)
/-- a method's own words -/
def fw_QV (C : String) (y : MethodName) (bytes : ByteArray) (maxL : Nat) (ret : Option FieldType) (n : Nat) : Prop :=
  (Cond.instanceMethod y ∈ lwT ∧ Cond.selects C y y ∈ lwT ∧ Cond.initialized C ∈ lwT ∧ Cond.code y bytes maxL ret ∈ lwT) ∧ (y.cls = C ∧ y.cls ≠ "java/lang/invoke/MethodHandle" ∧ y.cls ≠ "java/lang/invoke/VarHandle" ∧ (parseMethodDescriptor y.desc).map (fun d => d.parameters.length) = some n)
def fw_QS (y : MethodName) (bytes : ByteArray) (maxL : Nat) (ret : Option FieldType) (n : Nat) : Prop :=
  (Cond.static y ∈ lwT ∧ Cond.initialized y.cls ∈ lwT ∧ Cond.code y bytes maxL ret ∈ lwT) ∧ (y.cls ≠ "java/lang/invoke/MethodHandle" ∧ y.cls ≠ "java/lang/invoke/VarHandle" ∧ (parseMethodDescriptor y.desc).map (fun d => d.parameters.length) = some n)
theorem fw_good {w : Cond} (h : w ∈ lwT) : w ∈ lwT ∧ ((w.onTables && w.keeps) = true ∨ ∃ ty, w = .arrayClass ty) := ⟨h, (tw_out h).2⟩
theorem fw_gC {y : MethodName} {bytes : ByteArray} {maxL : Nat} {ret : Option FieldType} (h : Cond.code y bytes maxL ret ∈ lwT) : GoodIn lwT (Cond.code y bytes maxL ret :: lwT) := by
  intro w hw
  rcases List.mem_cons.mp hw with rfl | hw
  · exact fw_good h
  · exact fw_good hw
theorem fw_gV {own C : String} {index maxL : Nat} {y : MethodName} {bytes : ByteArray} {ret : Option FieldType} (h0 : Cond.methodLink own index y ∈ lwT) (h : Cond.instanceMethod y ∈ lwT ∧ Cond.selects C y y ∈ lwT ∧ Cond.initialized C ∈ lwT ∧ Cond.code y bytes maxL ret ∈ lwT) : GoodIn lwT (wsV own index C y (Cond.code y bytes maxL ret :: lwT)) := by
  intro w hw
  unfold wsV at hw
  rcases List.mem_append.mp hw with hw | hw
  · rcases List.mem_cons.mp hw with rfl | hw
    · exact fw_good h0
    · rcases List.mem_cons.mp hw with rfl | hw
      · exact fw_good h.1
      · rcases List.mem_cons.mp hw with rfl | hw
        · exact fw_good h.2.1
        · rcases List.mem_cons.mp hw with rfl | hw
          · exact fw_good h.2.2.1
          · exact absurd hw List.not_mem_nil
  · exact fw_gC h.2.2.2 w hw
theorem fw_gS {own : String} {index maxL : Nat} {y : MethodName} {bytes : ByteArray} {ret : Option FieldType} (h0 : Cond.methodLink own index y ∈ lwT) (h : Cond.static y ∈ lwT ∧ Cond.initialized y.cls ∈ lwT ∧ Cond.code y bytes maxL ret ∈ lwT) : GoodIn lwT (va_wsS own index y (Cond.code y bytes maxL ret :: lwT)) := by
  intro w hw
  unfold va_wsS at hw
  rcases List.mem_append.mp hw with hw | hw
  · rcases List.mem_cons.mp hw with rfl | hw
    · exact fw_good h0
    · rcases List.mem_cons.mp hw with rfl | hw
      · exact fw_good h.1
      · rcases List.mem_cons.mp hw with rfl | hw
        · exact fw_good h.2.1
        · exact absurd hw List.not_mem_nil
  · exact fw_gC h.2.2 w hw
theorem fw_pos {c : Prop} [Decidable c] {α : Type} {a b z : α} (h : c) (hf : (if c then a else b) = z) : a = z := by rw [if_pos h] at hf; exact hf
theorem fw_neg {c : Prop} [Decidable c] {α : Type} {a b z : α} (h : ¬ c) (hf : (if c then a else b) = z) : b = z := by rw [if_neg h] at hf; exact hf
theorem fw_nz {v : Int32} (h : v = 0 ∨ v = 1) : narrow .boolean (.int v) = .int v := by rcases h with rfl | rfl <;> decide
theorem fw_fz {v : Int32} (h : v = 0 ∨ v = 1) : fits .boolean (.int v) = true := by rcases h with rfl | rfl <;> decide
/-- a method's start: the heap holds the store; the tables' words of nest mates -/
def fw_B (D : va_G) (N : Nat) (adr : Nat → Nat) (F : fw_T → Nat → va_E) (tys : List (ClassId × FieldType)) (nw : List Cond) (σ : fw_T) (sz : Nat) (U : State) : Prop :=
  U.heap.size = sz ∧ va_P D vwCl (fw_ws N adr (F σ)) U.heap ∧ va_K D vwCl tys U ∧ va_D (fun _ => True) (fw_ws N adr (F σ)) ∧ ∀ w ∈ nw, fw_nest w = true ∧ va_Nw w U
theorem fw_blind {D : va_G} {N : Nat} {adr : Nat → Nat} {F : fw_T → Nat → va_E} {tys : List (ClassId × FieldType)} {nw : List Cond} {σ : fw_T} {sz : Nat} {av : List Value} : FrameBlind (va_Pc av (fw_B D N adr F tys nw σ sz)) := by
  intro a U g mk q
  obtain ⟨q0, q1, qP, qK, qD, qN⟩ := q
  exact ⟨q0, q1, qP, va_K.moved (u := U) (U := U.calling g mk a) (Vm.Alike.refl U.vm) qK, qD, fun w hw => ⟨(qN w hw).1, va_Nw.same (fw_nt (qN w hw).1) (u := U) (U := U.calling g mk a) rfl (qN w hw).2⟩⟩
/-- what stands fixed through a method's body -/
def fw_X (D : va_G) (tys : List (ClassId × FieldType)) (nw : List Cond) (p : Program) (m : MethodId) (c : Code) (cc : ByteArray) (nL : Nat) (s : State) (args : Array Value) (own : String) (meth : Method) (ret : Option FieldType) : Prop :=
  CallFix p m c cc nL s args lwT own ∧ va_K D vwCl tys s ∧ (∀ w ∈ nw, fw_nest w = true ∧ va_Nw w s) ∧ meth.sig.returnType = ret ∧ meth.locks = false
/-- the heap now holds the store -/
def fw_H (D : va_G) (N : Nat) (adr : Nat → Nat) (F : fw_T → Nat → va_E) (A : Nat → Prop) (H0 H : Heap) (locs : List Loc) (σ : fw_T) : Prop :=
  va_P D vwCl (fw_ws N adr (F σ)) H ∧ va_D A (fw_ws N adr (F σ)) ∧ va_S A H0 H locs ∧ ∀ q, H0.size ≤ q → A q
abbrev fw_Ci (l : Launch) (y : MethodName) (ws : List Cond) (rm : Room) (av : List Value) (D : va_G) (N : Nat) (adr : Nat → Nat) (F : fw_T → Nat → va_E) (tys : List (ClassId × FieldType)) (nw : List Cond) (σ : fw_T) (r : Int32) (σ' : fw_T) : Prop :=
  ∀ sz : Nat, Met l y ws rm (va_Pc av (fw_B D N adr F tys nw σ sz)) (va_Qi (fun r' (_ : Unit) => r' = r) (fun _ t => va_P D vwCl (fw_ws N adr (F σ')) t.heap) (va_A (fw_ws N adr (F σ)) sz)) 0 0 (va_A (fw_ws N adr (F σ)) sz)
abbrev fw_Cl (l : Launch) (y : MethodName) (ws : List Cond) (rm : Room) (av : List Value) (D : va_G) (N : Nat) (adr : Nat → Nat) (F : fw_T → Nat → va_E) (tys : List (ClassId × FieldType)) (nw : List Cond) (σ : fw_T) (r : Int64) (σ' : fw_T) : Prop :=
  ∀ sz : Nat, Met l y ws rm (va_Pc av (fw_B D N adr F tys nw σ sz)) (va_Ql (fun r' (_ : Unit) => r' = r) (fun _ t => va_P D vwCl (fw_ws N adr (F σ')) t.heap) (va_A (fw_ws N adr (F σ)) sz)) 0 0 (va_A (fw_ws N adr (F σ)) sz)
abbrev fw_Cv (l : Launch) (y : MethodName) (ws : List Cond) (rm : Room) (av : List Value) (D : va_G) (N : Nat) (adr : Nat → Nat) (F : fw_T → Nat → va_E) (tys : List (ClassId × FieldType)) (nw : List Cond) (σ : fw_T) (σ' : fw_T) : Prop :=
  ∀ sz : Nat, Met l y ws rm (va_Pc av (fw_B D N adr F tys nw σ sz)) (va_Qv (fun (_ : Unit) => True) (fun _ t => va_P D vwCl (fw_ws N adr (F σ')) t.heap) (va_A (fw_ws N adr (F σ)) sz)) 0 0 (va_A (fw_ws N adr (F σ)) sz)
abbrev fw_Qi (D : va_G) (N : Nat) (adr : Nat → Nat) (F : fw_T → Nat → va_E) (A : Nat → Prop) (below : List Frame) (args : Array Value) (s : State) (r : Int32) (σ' : fw_T) : State → Prop :=
  MQ below (va_Qi (fun r' (_ : Unit) => r' = r) (fun _ t => va_P D vwCl (fw_ws N adr (F σ')) t.heap) A) args s 0 0 A
abbrev fw_Ql (D : va_G) (N : Nat) (adr : Nat → Nat) (F : fw_T → Nat → va_E) (A : Nat → Prop) (below : List Frame) (args : Array Value) (s : State) (r : Int64) (σ' : fw_T) : State → Prop :=
  MQ below (va_Ql (fun r' (_ : Unit) => r' = r) (fun _ t => va_P D vwCl (fw_ws N adr (F σ')) t.heap) A) args s 0 0 A
abbrev fw_Qv (D : va_G) (N : Nat) (adr : Nat → Nat) (F : fw_T → Nat → va_E) (A : Nat → Prop) (below : List Frame) (args : Array Value) (s : State) (σ' : fw_T) : State → Prop :=
  MQ below (va_Qv (fun (_ : Unit) => True) (fun _ t => va_P D vwCl (fw_ws N adr (F σ')) t.heap) A) args s 0 0 A
section FW
variable {p : Program} {l : Launch} {e : Env} {R : Room} {s : State} {m : MethodId} {args : Array Value} {below : List Frame} {meth : Method} {c : Code} {H : Heap} {locs : List Loc} {Q : State → Prop}
variable {D : va_G} {N : Nat} {adr : Nat → Nat} {F : fw_T → Nat → va_E} {tys : List (ClassId × FieldType)} {nw : List Cond} {A : Nat → Prop} {σ σ' : fw_T}
variable {cc : ByteArray} {nL : Nat} {own : String} {ret : Option FieldType}
variable {pc : Nat} {ls : Array Slot} {rest : List Value}
theorem fw_start {y : MethodName} {rm : Room} {av : List Value} {maxL : Nat} {Qc : (Nat → Prop) → Array Value → State → Outcome → State → Prop} (hy : plainName y.cls = true) (hle : (lg_sl av).length ≤ maxL) (ho : y.cls = own)
    (body : ∀ (p : Program) (e : Env) (s : State) (m : MethodId) (below : List Frame) (meth : Method) (c : Code) (A : Nat → Prop), fw_X D tys nw p m c cc maxL s av.toArray own meth ret → fw_H D N adr F A s.heap s.heap [] σ → ∀ ls : Array Slot, lv_has ls maxL (lv_args 0 av) →
      W p l e rm s m av.toArray below meth c s.heap [] 0 0 (MQ below (Qc A) av.toArray s 0 0 A) (F0 m 0 ls [])) : ∀ sz : Nat, Met l y (Cond.code y cc maxL ret :: lwT) rm (va_Pc av (fw_B D N adr F tys nw σ sz)) (Qc (va_A (fw_ws N adr (F σ)) sz)) 0 0 (va_A (fw_ws N adr (F σ)) sz) := by
  intro sz
  refine Met.ofW (cc := cc) (maxL := maxL) (ret := ret) hy rfl ?_
  intro p e s m args below meth c s₁ B hml hv
  obtain ⟨rfl, hsz, hP, hK, hD0, hN⟩ := hv
  subst hsz
  rw [lg_entry_eq]
  have hts := atoms_spec (ws := Cond.code y cc maxL ret :: lwT) B.pre
  exact body p e s m below meth c _ ⟨⟨B.exec, B.bytes, hml, ho ▸ findClass_of_methodNamed B.named, fun w h => hts w (List.mem_cons_of_mem _ h)⟩, hK, hN, B.returns, B.notSynchronized⟩ ⟨hP, hD0.self, va_S.rf, fun q h => Or.inr h⟩ _ (lv_entry av hle)
theorem fw_sub (hH : fw_H D N adr F A s.heap H locs σ) : ∀ q, va_A (fw_ws N adr (F σ)) H.size q → A q := by
  intro q h
  rcases h with ⟨k, e, h⟩ | h
  · exact hH.2.1.2 k (q, e) h
  · exact hH.2.2.2 q (Nat.le_trans hH.2.2.1.1 h)
section CALL
variable {y : MethodName} {bytes : ByteArray} {maxL n index : Nat} {rt : Option FieldType} {ws : List Cond} {rm : Room} {Qc : Array Value → State → Outcome → State → Prop} {free : Addr → Prop} {As : List Value} {st : List Value}
theorem fw_pre (X : fw_X D tys nw p m c cc nL s args own meth ret) (hH : fw_H D N adr F A s.heap H locs σ) (av : List Value) : ∀ U : State, U.heap = H → s.WarmedH U.vm → va_Pc av (fw_B D N adr F tys nw σ H.size) av.toArray U := by
  intro U hU hW
  exact ⟨rfl, by rw [hU], by rw [hU]; exact hH.1, va_K.moved hW.alike X.2.1, hH.2.1.weaken (fun _ _ _ _ => trivial), fun w hw => ⟨(X.2.2.1 w hw).1, fw_nw (X.2.2.1 w hw).1 hW (X.2.2.1 w hw).2⟩⟩
theorem fw_rV (X : fw_X D tys nw p m c cc nL s args own meth ret) (hH : fw_H D N adr F A s.heap H locs σ) {id ci : Nat} {fs : List Value} {C : String} {T : u_T} {Nf : Nat} (hM : Met l y (Cond.code y bytes maxL rt :: lwT) rm (va_Pc (.ref (adr id) :: As) (fw_B D N adr F tys nw σ H.size)) Qc 0 0 free) (q : fw_QV C y bytes maxL rt n) (hml : Cond.methodLink own index y ∈ lwT) (hR : rm.frames + 1 ≤ R.frames ∧ 8 + (maxL + 11) + rm.locals ≤ R.locals) (hrc : rm.cells = 0) (hrs : rm.slots = 0)
    (hid : id < N) (hF : F σ id = .inr (ci, fs)) (hc : vwCl[ci]? = some (C, T, Nf)) (hn : As.length = n) (hl : ls.size = nL) (hst : st = As.reverse ++ .ref (adr id) :: rest) (hr : (rest.map fun v => v.category).sum ≤ 8) (hdg : decode cc pc = .ok (.invokevirtual index, 3)) :
    va_Run p l e R s m args below meth c H locs 0 0 0 0 (F0 m pc ls st) rest (Qc (Value.ref (adr id) :: As).toArray) free :=
  va_runV X.1 hM (cwV n X.1.2.2.2.2 (fw_gV hml q.1) rfl hrc hrs q.2 hR) ⟨fw_blind, va_recv (q := (C, T, Nf)) X.2.1 hH.1 hc (fw_at hid hF), fw_pre X hH _⟩ rfl hn hl hst (lv_room hr) hdg ⟨Nat.zero_le _, Nat.zero_le _⟩
theorem fw_rS (X : fw_X D tys nw p m c cc nL s args own meth ret) (hH : fw_H D N adr F A s.heap H locs σ) (hM : Met l y (Cond.code y bytes maxL rt :: lwT) rm (va_Pc As (fw_B D N adr F tys nw σ H.size)) Qc 0 0 free) (q : fw_QS y bytes maxL rt n) (hml : Cond.methodLink own index y ∈ lwT) (hR : rm.frames + 1 ≤ R.frames ∧ 8 + (maxL + 11) + rm.locals ≤ R.locals) (hrc : rm.cells = 0) (hrs : rm.slots = 0)
    (hn : As.length = n) (hl : ls.size = nL) (hst : st = As.reverse ++ rest) (hr : (rest.map fun v => v.category).sum ≤ 8) (hdg : decode cc pc = .ok (.invokestatic index, 3)) :
    va_Run p l e R s m args below meth c H locs 0 0 0 0 (F0 m pc ls st) rest (Qc As.toArray) free :=
  va_runS X.1 hM (va_cwS n X.1.2.2.2.2 (fw_gS hml q.1) rfl hrc hrs q.2 hR) ⟨fw_blind, fw_pre X hH _⟩ rfl hn hl hst (lv_room hr) hdg ⟨Nat.zero_le _, Nat.zero_le _⟩
theorem fw_rN (X : fw_X D tys nw p m c cc nL s args own meth ret) (hH : fw_H D N adr F A s.heap H locs σ) {host : String} (hM : Met l y (Cond.code y bytes maxL rt :: lwT) rm (va_Pc As (fw_B D N adr F tys nw σ H.size)) Qc 0 0 free) (q : fw_QS y bytes maxL rt n) (hml : Cond.methodLinkNest own index y host ∈ nw) (hR : rm.frames + 1 ≤ R.frames ∧ 8 + (maxL + 11) + rm.locals ≤ R.locals) (hrc : rm.cells = 0) (hrs : rm.slots = 0)
    (hn : As.length = n) (hl : ls.size = nL) (hst : st = As.reverse ++ rest) (hr : (rest.map fun v => v.category).sum ≤ 8) (hdg : decode cc pc = .ok (.invokestatic index, 3)) :
    va_Run p l e R s m args below meth c H locs 0 0 0 0 (F0 m pc ls st) rest (Qc As.toArray) free :=
  va_runSN X.1 hM ⟨va_cnB n X.1.2.2.2.2 (fw_gC q.1.2.2) rfl hrc hrs (X.2.2.1 _ hml).2 (X.1.2.2.2.2 _ q.1.2.1) q.2 hR, X.1.2.2.2.2 _ q.1.1, trivial⟩ ⟨fw_blind, fw_pre X hH _⟩ rfl hn hl hst (lv_room hr) hdg ⟨Nat.zero_le _, Nat.zero_le _⟩
theorem fw_ci {r : Int32} {a : Array Value} (hH : fw_H D N adr F A s.heap H locs σ) (hR : va_Run p l e R s m args below meth c H locs 0 0 0 0 (F0 m pc ls st) rest (va_Qi (fun r' (_ : Unit) => r' = r) (fun _ t => va_P D vwCl (fw_ws N adr (F σ')) t.heap) (va_A (fw_ws N adr (F σ)) H.size) a) (va_A (fw_ws N adr (F σ)) H.size))
    (kk : ∀ (H1 : Heap) (locs1 : List Loc), fw_H D N adr F A s.heap H1 locs1 σ' → W p l e R s m args below meth c H1 locs1 0 0 Q (F0 m (pc + 3) ls (.int r :: rest))) : W p l e R s m args below meth c H locs 0 0 Q (F0 m pc ls st) := by
  refine va_calli hR hH.2.2.1 (fun q _ h => fw_sub hH q h) (fw_sub hH) (fun r' u t H1 locs1 ht hvm hw hB hz hk hS => ?_)
  subst hw
  exact kk H1 locs1 ⟨by rw [← ht]; exact hB, fw_D hH.2.1, hS, hH.2.2.2⟩
theorem fw_cl {r : Int64} {a : Array Value} (hH : fw_H D N adr F A s.heap H locs σ) (hR : va_Run p l e R s m args below meth c H locs 0 0 0 0 (F0 m pc ls st) rest (va_Ql (fun r' (_ : Unit) => r' = r) (fun _ t => va_P D vwCl (fw_ws N adr (F σ')) t.heap) (va_A (fw_ws N adr (F σ)) H.size) a) (va_A (fw_ws N adr (F σ)) H.size))
    (kk : ∀ (H1 : Heap) (locs1 : List Loc), fw_H D N adr F A s.heap H1 locs1 σ' → W p l e R s m args below meth c H1 locs1 0 0 Q (F0 m (pc + 3) ls (.long r :: rest))) : W p l e R s m args below meth c H locs 0 0 Q (F0 m pc ls st) := by
  refine va_calll hR hH.2.2.1 (fun q _ h => fw_sub hH q h) (fw_sub hH) (fun r' u t H1 locs1 ht hvm hw hB hz hk hS => ?_)
  subst hw
  exact kk H1 locs1 ⟨by rw [← ht]; exact hB, fw_D hH.2.1, hS, hH.2.2.2⟩
theorem fw_cv {a : Array Value} (hH : fw_H D N adr F A s.heap H locs σ) (hR : va_Run p l e R s m args below meth c H locs 0 0 0 0 (F0 m pc ls st) rest (va_Qv (fun (_ : Unit) => True) (fun _ t => va_P D vwCl (fw_ws N adr (F σ')) t.heap) (va_A (fw_ws N adr (F σ)) H.size) a) (va_A (fw_ws N adr (F σ)) H.size))
    (kk : ∀ (H1 : Heap) (locs1 : List Loc), fw_H D N adr F A s.heap H1 locs1 σ' → W p l e R s m args below meth c H1 locs1 0 0 Q (F0 m (pc + 3) ls rest)) : W p l e R s m args below meth c H locs 0 0 Q (F0 m pc ls st) := by
  refine va_callv hR hH.2.2.1 (fun q _ h => fw_sub hH q h) (fw_sub hH) (fun u t H1 locs1 ht hvm hw hB hz hk hS => ?_)
  exact kk H1 locs1 ⟨by rw [← ht]; exact hB, fw_D hH.2.1, hS, hH.2.2.2⟩
end CALL
theorem fw_reti {r : Int32} (X : fw_X D tys nw p m c cc nL s args own meth (some .int)) (hH : fw_H D N adr F A s.heap H locs σ) (hdg : decode cc pc = .ok (.ireturn, 1)) : W p l e R s m args below meth c H locs 0 0 (fw_Qi D N adr F A below args s r σ) (F0 m pc ls [.int r]) :=
  W.iret (v := r) X.1.1 X.1.2.1 X.2.2.2.1 (fun t ht hW => ⟨⟨r, (), rfl, rfl, by show va_P D vwCl _ t.heap; rw [ht]; exact hH.1⟩, hH.2.2.1.F ht⟩) hH.2.2.1.2.2 hdg X.2.2.2.2
theorem fw_retz {r : Int32} (X : fw_X D tys nw p m c cc nL s args own meth (some .boolean)) (hH : fw_H D N adr F A s.heap H locs σ) (hz : r = 0 ∨ r = 1) (hdg : decode cc pc = .ok (.ireturn, 1)) : W p l e R s m args below meth c H locs 0 0 (fw_Qi D N adr F A below args s r σ) (F0 m pc ls [.int r]) :=
  W.zret (v := r) (ty := .boolean) X.1.1 X.1.2.1 X.2.2.2.1 (by rcases hz with rfl | rfl <;> decide) (fun t ht hW => ⟨⟨r, (), rfl, rfl, by show va_P D vwCl _ t.heap; rw [ht]; exact hH.1⟩, hH.2.2.1.F ht⟩) hH.2.2.1.2.2 hdg X.2.2.2.2
theorem fw_retl {r : Int64} (X : fw_X D tys nw p m c cc nL s args own meth (some .long)) (hH : fw_H D N adr F A s.heap H locs σ) (hdg : decode cc pc = .ok (.lreturn, 1)) : W p l e R s m args below meth c H locs 0 0 (fw_Ql D N adr F A below args s r σ) (F0 m pc ls [.long r]) :=
  W.lret (v := r) X.1.1 X.1.2.1 X.2.2.2.1 (fun t ht hW => ⟨⟨r, (), rfl, rfl, by show va_P D vwCl _ t.heap; rw [ht]; exact hH.1⟩, hH.2.2.1.F ht⟩) hH.2.2.1.2.2 hdg X.2.2.2.2
theorem fw_retv (X : fw_X D tys nw p m c cc nL s args own meth none) (hH : fw_H D N adr F A s.heap H locs σ) (hdg : decode cc pc = .ok (.return_, 1)) : W p l e R s m args below meth c H locs 0 0 (fw_Qv D N adr F A below args s σ) (F0 m pc ls []) :=
  W.vret X.1.1 X.1.2.1 X.2.2.2.1 (fun t ht hW => ⟨⟨(), rfl, trivial, by show va_P D vwCl _ t.heap; rw [ht]; exact hH.1⟩, hH.2.2.1.F ht⟩) hH.2.2.1.2.2 hdg X.2.2.2.2
theorem fw_get {id ci Nf k index : Nat} {fs : List Value} {C : String} {T : u_T} {v : Value} (X : fw_X D tys nw p m c cc nL s args own meth ret) (hH : fw_H D N adr F A s.heap H locs σ) (hid : id < N) (hF : F σ id = .inr (ci, fs)) (hc : vwCl[ci]? = some (C, T, Nf)) (hin : ∀ w ∈ u_ws C T Nf, w ∈ lwT) (hk : k < Nf) (hv : fs[k]? = some v)
    (hl : Cond.fieldLink own index (T k).1 (T k).2.1 (T k).2.2.1 ∈ lwT) (hdg : decode cc pc = .ok (.getfield index, 3)) (kk : W p l e R s m args below meth c H locs 0 0 Q (F0 m (pc + 3) ls (v :: rest))) : W p l e R s m args below meth c H locs 0 0 Q (F0 m pc ls (.ref (adr id) :: rest)) :=
  va_get (D := D) X.1.1 X.1.2.1 X.1.2.2.2.2 hin X.1.2.2.2.1 X.2.1 hH.1 id (fw_at hid hF) hc k hk (X.1.2.2.2.2 _ hl) (fun _ h => h) hv hdg kk
theorem fw_getN {id ci Nf k index : Nat} {fs : List Value} {C host : String} {T : u_T} {v : Value} (X : fw_X D tys nw p m c cc nL s args own meth ret) (hH : fw_H D N adr F A s.heap H locs σ) (hid : id < N) (hF : F σ id = .inr (ci, fs)) (hc : vwCl[ci]? = some (C, T, Nf)) (hin : ∀ w ∈ u_ws C T Nf, w ∈ lwT) (hk : k < Nf) (hv : fs[k]? = some v)
    (hl : Cond.fieldLinkNest own index (T k).1 (T k).2.1 (T k).2.2.1 host ∈ nw) (hdg : decode cc pc = .ok (.getfield index, 3)) (kk : W p l e R s m args below meth c H locs 0 0 Q (F0 m (pc + 3) ls (v :: rest))) : W p l e R s m args below meth c H locs 0 0 Q (F0 m pc ls (.ref (adr id) :: rest)) :=
  va_getN (D := D) X.1.1 X.1.2.1 X.1.2.2.2.2 hin X.1.2.2.2.1 X.2.1 hH.1 id (fw_at hid hF) hc k hk (va_Nw.use rfl (X.2.2.1 _ hl).2) (fun _ h => h) hv hdg kk
theorem fw_put {id ci Nf k index : Nat} {fs : List Value} {C : String} {T : u_T} {v : Value} {ty : FieldType} (X : fw_X D tys nw p m c cc nL s args own meth ret) (hH : fw_H D N adr F A s.heap H locs σ) (hid : id < N) (hF : F σ id = .inr (ci, fs)) (hF' : F σ' id = .inr (ci, fs.set k v)) (hne : ∀ j, j ≠ id → F σ' j = F σ j) (hc : vwCl[ci]? = some (C, T, Nf)) (hin : ∀ w ∈ u_ws C T Nf, w ∈ lwT) (ty0 : Nat → FieldType) (hty : ∀ k, k < Nf → parseFieldDescriptor (T k).2.2.1 = some (ty0 k)) (hnm : ∀ a, a < Nf → ∀ b, b < Nf → a ≠ b → (T a).2.1 ≠ (T b).2.1) (hk : k < Nf) (hkl : k < fs.length)
    (hfin : (T k).2.2.2 = false) (hd : parseFieldDescriptor (T k).2.2.1 = some ty) (hn : narrow ty v = v) (hfit : fits ty v = true) (hl : Cond.fieldLink own index (T k).1 (T k).2.1 (T k).2.2.1 ∈ lwT) (hdg : decode cc pc = .ok (.putfield index, 3))
    (kk : ∀ (H1 : Heap) (locs1 : List Loc), fw_H D N adr F A s.heap H1 locs1 σ' → W p l e R s m args below meth c H1 locs1 0 0 Q (F0 m (pc + 3) ls rest)) : W p l e R s m args below meth c H locs 0 0 Q (F0 m pc ls (v :: .ref (adr id) :: rest)) := by
  refine va_put (D := D) X.1.1 X.1.2.1 X.1.2.2.2.2 hin ty0 hty hnm X.1.2.2.2.1 X.2.1 hH.1 hH.2.1 hH.2.2.1 id (fw_at hid hF) hc k hk (X.1.2.2.2.2 _ hl) (fun _ h => h) hfin hd hn hfit hkl hdg (fun H1 locs1 hP hD hS => ?_)
  rw [fw_set hid hF' hne] at hP
  exact kk H1 locs1 ⟨hP, fw_D hH.2.1, hS, hH.2.2.2⟩
theorem fw_iald {id n : Nat} {cA : ClassId} {i v : Int32} (X : fw_X D tys nw p m c cc nL s args own meth ret) (hH : fw_H D N adr F A s.heap H locs σ) (hid : id < N) (hF : F σ id = .inl (cA, n, .inl (fw_g σ id))) (ht : tys[0]? = some (cA, .int)) (hr : fw_rd σ id n i = some v) (hdg : decode cc pc = .ok (.iaload, 1))
    (kk : W p l e R s m args below meth c H locs 0 0 Q (F0 m (pc + 1) ls (.int v :: rest))) : W p l e R s m args below meth c H locs 0 0 Q (F0 m pc ls (.int i :: .ref (adr id) :: rest)) := by
  obtain ⟨h1, h2⟩ := fw_rds hr
  subst h2
  exact va_iald X.1.1 X.1.2.1 X.2.1 hH.1 id 0 (fw_at hid hF) ht h1 hdg kk
theorem fw_bald {id n : Nat} {cA : ClassId} {i v : Int32} (X : fw_X D tys nw p m c cc nL s args own meth ret) (hH : fw_H D N adr F A s.heap H locs σ) (hid : id < N) (hF : F σ id = .inl (cA, n, .inl (fw_g σ id))) (ht : tys[1]? = some (cA, .byte)) (hr : fw_rd σ id n i = some v) (hdg : decode cc pc = .ok (.baload, 1))
    (kk : W p l e R s m args below meth c H locs 0 0 Q (F0 m (pc + 1) ls (.int v :: rest))) : W p l e R s m args below meth c H locs 0 0 Q (F0 m pc ls (.int i :: .ref (adr id) :: rest)) := by
  obtain ⟨h1, h2⟩ := fw_rds hr
  subst h2
  exact va_bald X.1.1 X.1.2.1 X.2.1 hH.1 id 1 (fw_at hid hF) ht h1 hdg kk
theorem fw_iast {id n : Nat} {cA : ClassId} {i x : Int32} (X : fw_X D tys nw p m c cc nL s args own meth ret) (hH : fw_H D N adr F A s.heap H locs σ) (hid : id < N) (hF : ∀ σ, F σ id = .inl (cA, n, .inl (fw_g σ id))) (hne : ∀ k x j, j ≠ id → F (fw_u σ id k x) j = F σ j) (ht : tys[0]? = some (cA, .int)) (hr : fw_wr σ id n i x = some σ') (hdg : decode cc pc = .ok (.iastore, 1))
    (kk : ∀ (H1 : Heap) (locs1 : List Loc), fw_H D N adr F A s.heap H1 locs1 σ' → W p l e R s m args below meth c H1 locs1 0 0 Q (F0 m (pc + 1) ls rest)) : W p l e R s m args below meth c H locs 0 0 Q (F0 m pc ls (.int x :: .int i :: .ref (adr id) :: rest)) := by
  obtain ⟨h1, h2⟩ := fw_wrs hr
  subst h2
  refine va_iast X.1.1 X.1.2.1 X.2.1 hH.1 hH.2.1 hH.2.2.1 id 0 (fw_at hid (hF σ)) ht h1 hdg (fun H1 locs1 hP hD hS => ?_)
  rw [fw_set (cf' := F (fw_u σ id i.toNatClampNeg x)) hid (by rw [hF, fw_gu]) (hne _ _)] at hP
  exact kk H1 locs1 ⟨hP, fw_D hH.2.1, hS, hH.2.2.2⟩
theorem fw_bast {id n : Nat} {cA : ClassId} {i x : Int32} (X : fw_X D tys nw p m c cc nL s args own meth ret) (hH : fw_H D N adr F A s.heap H locs σ) (hid : id < N) (hF : ∀ σ, F σ id = .inl (cA, n, .inl (fw_g σ id))) (hne : ∀ k x j, j ≠ id → F (fw_u σ id k x) j = F σ j) (ht : tys[1]? = some (cA, .byte)) (hr : fw_wr σ id n i (vp_nar .byte x) = some σ') (hdg : decode cc pc = .ok (.bastore, 1))
    (kk : ∀ (H1 : Heap) (locs1 : List Loc), fw_H D N adr F A s.heap H1 locs1 σ' → W p l e R s m args below meth c H1 locs1 0 0 Q (F0 m (pc + 1) ls rest)) : W p l e R s m args below meth c H locs 0 0 Q (F0 m pc ls (.int x :: .int i :: .ref (adr id) :: rest)) := by
  obtain ⟨h1, h2⟩ := fw_wrs hr
  subst h2
  refine va_bast X.1.1 X.1.2.1 X.2.1 hH.1 hH.2.1 hH.2.2.1 id 1 (fw_at hid (hF σ)) ht h1 hdg (fun H1 locs1 hP hD hS => ?_)
  rw [fw_set (cf' := F (fw_u σ id i.toNatClampNeg (vp_nar .byte x))) hid (by rw [hF, fw_gu]) (hne _ _)] at hP
  exact kk H1 locs1 ⟨hP, fw_D hH.2.1, hS, hH.2.2.2⟩
theorem fw_aald {id n k : Nat} {cA : ClassId} {C : String} {i : Int32} {f : Nat → Nat} (X : fw_X D tys nw p m c cc nL s args own meth ret) (hH : fw_H D N adr F A s.heap H locs σ) (hid : id < N) (hF : F σ id = .inl (cA, n, .inr (.inr (.inr (.inr (fun j => some (adr (f j)))))))) (ht : tys[1]? = some (cA, .object C)) (hr : fw_ix i n = some k) (hdg : decode cc pc = .ok (.aaload, 1))
    (kk : W p l e R s m args below meth c H locs 0 0 Q (F0 m (pc + 1) ls (.ref (adr (f k)) :: rest))) : W p l e R s m args below meth c H locs 0 0 Q (F0 m pc ls (.int i :: .ref (adr id) :: rest)) := by
  obtain ⟨h1, h2, -⟩ := fw_ixs hr
  subst h2
  exact va_aldq X.1.1 X.1.2.1 X.2.1 hH.1 id 1 (fw_at hid hF) ht h1 hdg kk
theorem fw_alen {id n : Nat} {cA : ClassId} {v : Int32} (X : fw_X D tys nw p m c cc nL s args own meth ret) (hH : fw_H D N adr F A s.heap H locs σ) (hid : id < N) (hF : F σ id = .inl (cA, n, .inl (fw_g σ id))) (ht : tys[0]? = some (cA, .int)) (hv : Int32.ofNat n = v) (hdg : decode cc pc = .ok (.arraylength, 1))
    (kk : W p l e R s m args below meth c H locs 0 0 Q (F0 m (pc + 1) ls (.int v :: rest))) : W p l e R s m args below meth c H locs 0 0 Q (F0 m pc ls (.ref (adr id) :: rest)) :=
  va_alen X.1.1 X.1.2.1 X.2.1 hH.1 id 0 (fw_at hid hF) ht hv hdg kk
theorem fw_acp {src dst n0 n1 n index : Nat} {cA : ClassId} {nn : Int32} (X : fw_X D tys nw p m c cc nL s args own meth ret) (hH : fw_H D N adr F A s.heap H locs σ) (hls : ls.size = nL) (hid : src < N) (hid' : dst < N) (hF : F σ src = .inl (cA, n0, .inl (fw_g σ src))) (hF1 : ∀ σ, F σ dst = .inl (cA, n1, .inl (fw_g σ dst))) (hne : ∀ j, j ≠ dst → F (fw_cp σ src dst n) j = F σ j) (ht : tys[0]? = some (cA, .int))
    (hn : nn.toNatClampNeg = n) (hn0 : ¬ nn < 0) (h0 : n ≤ n0) (h1 : n ≤ n1) (hlink : Cond.methodLink own index arraycopyName ∈ lwT) (hnat : Cond.native arraycopyName ∈ lwT) (hstat : Cond.static arraycopyName ∈ lwT) (hini : Cond.initialized "java/lang/System" ∈ lwT) (hfr : 1 ≤ R.frames) (hlo : (rest.map fun v => v.category).sum + 18 ≤ R.locals) (hdg : decode cc pc = .ok (.invokestatic index, 3))
    (kk : ∀ (H1 : Heap) (locs1 : List Loc), fw_H D N adr F A s.heap H1 locs1 (fw_cp σ src dst n) → W p l e R s m args below meth c H1 locs1 0 0 Q (F0 m (pc + 3) ls rest)) : W p l e R s m args below meth c H locs 0 0 Q (F0 m pc ls (.int nn :: .int 0 :: .ref (adr dst) :: .int 0 :: .ref (adr src) :: rest)) := by
  subst hn
  have z0 : (0 : Int32).toNatClampNeg = 0 := by decide
  refine va_copyi (ty := .int) X.1.1 X.1.2.1 (X.1.2.2.1.trans hls.symm) X.1.2.2.2.1 (X.1.2.2.2.2 _ hlink) (X.1.2.2.2.2 _ hnat) (X.1.2.2.2.2 _ hstat) (X.1.2.2.2.2 _ hini) X.2.1 hH.1 hH.2.1 hH.2.2.1 src dst 0 0 (fw_at hid hF) (fw_at hid' (hF1 σ)) ht ht rfl (by decide) (by decide) hn0 (by rw [z0]; omega) (by rw [z0]; omega) (fun _ _ => rfl) hfr hlo hdg (fun H1 locs1 hP hD hS => ?_)
  rw [z0, fw_set (cf' := F (fw_cp σ src dst nn.toNatClampNeg)) hid' (by rw [hF1, fw_gcp]) hne] at hP
  exact kk H1 locs1 ⟨hP, fw_D hH.2.1, hS, hH.2.2.2⟩
end FW
/-! ===== the class's cells ===== -/
def fw_sh (id : Nat) : Nat := if id < 12 then id else [12, 13, 14, 13, 14, 15, 16, 16, 16, 16, 13, 14].getD ((id - 12) % 12) 0
def fw_C (cI cO : ClassId) (adr : Nat → Nat) (σ : fw_T) (id : Nat) : va_E := match fw_sh id with
  | 0 => .inr (7, [.ref (adr 1), .ref (adr 12), .ref (adr 2), .ref (adr 4), .ref (adr 7), .ref (adr 9)])
  | 1 => .inr (3, [.ref (adr 12), .ref (adr 10), .ref (adr 11)])
  | 2 => .inr (1, [.ref (adr 3), .int (fw_g σ id 1), .int (fw_g σ id 2)])
  | 3 => .inl (cO, 6, .inr (.inr (.inr (.inr (fun j => some (adr (24 + 12 * j)))))))
  | 4 => .inr (4, [.ref (adr 7), .ref (adr 5), .ref (adr 6), .int (fw_g σ id 3), .int (fw_g σ id 4)])
  | 5 => .inl (cI, 60, .inl (fw_g σ id))
  | 6 => .inl (cI, 240, .inl (fw_g σ id))
  | 7 => .inr (6, [.ref (adr 8), .int (fw_g σ id 1)])
  | 8 => .inl (cI, 120, .inl (fw_g σ id))
  | 9 => .inl (cI, 3, .inl (fw_g σ id))
  | 10 => .inl (cI, 100, .inl (fw_g σ id))
  | 11 => .inl (cI, 40, .inl (fw_g σ id))
  | 12 => .inr (5, [.ref (adr (id + 1)), .ref (adr (id + 3)), .ref (adr (id + 5)), .ref (adr (id + 10))])
  | 13 => .inr (2, [.ref (adr (id + 1)), .int (fw_g σ id 1), .int (fw_g σ id 2)])
  | 14 => .inl (cI, 10, .inl (fw_g σ id))
  | 15 => .inr (0, [.ref (adr (id + 1)), .ref (adr (id + 2)), .ref (adr (id + 3)), .ref (adr (id + 4)), .int (fw_g σ id 4)])
  | _ => .inl (cI, 6, .inl (fw_g σ id))
def fw_PL (h : Nat) : Prop := fw_sh h = 13 ∧ h < 96 ∧ fw_sh (h + 1) = 14 ∧ h + 1 < 96
def fw_FL (h : Nat) : Prop := fw_sh h = 15 ∧ h < 96 ∧ (fw_sh (h + 1) = 16 ∧ h + 1 < 96) ∧ (fw_sh (h + 2) = 16 ∧ h + 2 < 96) ∧ (fw_sh (h + 3) = 16 ∧ h + 3 < 96) ∧ fw_sh (h + 4) = 16 ∧ h + 4 < 96
def fw_ST (h : Nat) : Prop := fw_sh h = 12 ∧ h < 96 ∧ fw_PL (h + 1) ∧ fw_PL (h + 3) ∧ fw_FL (h + 5) ∧ fw_PL (h + 10)
theorem fw_slot {k : Nat} (h : k < 6) : fw_ST (24 + 12 * k) := by
  rcases (show k = 0 ∨ k = 1 ∨ k = 2 ∨ k = 3 ∨ k = 4 ∨ k = 5 by omega) with rfl | rfl | rfl | rfl | rfl | rfl <;> (unfold fw_ST fw_PL fw_FL; decide)
theorem fw_st12 : fw_ST 12 := by unfold fw_ST fw_PL fw_FL; decide
section FC
variable {cI cO : ClassId} {adr : Nat → Nat} {σ : fw_T} {id : Nat}
theorem fc_0 (h : fw_sh id = 0) : fw_C cI cO adr σ id = .inr (7, [.ref (adr 1), .ref (adr 12), .ref (adr 2), .ref (adr 4), .ref (adr 7), .ref (adr 9)]) := by simp only [fw_C, h]
theorem fc_1 (h : fw_sh id = 1) : fw_C cI cO adr σ id = .inr (3, [.ref (adr 12), .ref (adr 10), .ref (adr 11)]) := by simp only [fw_C, h]
theorem fc_2 (h : fw_sh id = 2) : fw_C cI cO adr σ id = .inr (1, [.ref (adr 3), .int (fw_g σ id 1), .int (fw_g σ id 2)]) := by simp only [fw_C, h]
theorem fc_3 (h : fw_sh id = 3) : fw_C cI cO adr σ id = .inl (cO, 6, .inr (.inr (.inr (.inr (fun j => some (adr (24 + 12 * j))))))) := by simp only [fw_C, h]
theorem fc_4 (h : fw_sh id = 4) : fw_C cI cO adr σ id = .inr (4, [.ref (adr 7), .ref (adr 5), .ref (adr 6), .int (fw_g σ id 3), .int (fw_g σ id 4)]) := by simp only [fw_C, h]
theorem fc_5 (h : fw_sh id = 5) : fw_C cI cO adr σ id = .inl (cI, 60, .inl (fw_g σ id)) := by simp only [fw_C, h]
theorem fc_6 (h : fw_sh id = 6) : fw_C cI cO adr σ id = .inl (cI, 240, .inl (fw_g σ id)) := by simp only [fw_C, h]
theorem fc_7 (h : fw_sh id = 7) : fw_C cI cO adr σ id = .inr (6, [.ref (adr 8), .int (fw_g σ id 1)]) := by simp only [fw_C, h]
theorem fc_8 (h : fw_sh id = 8) : fw_C cI cO adr σ id = .inl (cI, 120, .inl (fw_g σ id)) := by simp only [fw_C, h]
theorem fc_9 (h : fw_sh id = 9) : fw_C cI cO adr σ id = .inl (cI, 3, .inl (fw_g σ id)) := by simp only [fw_C, h]
theorem fc_10 (h : fw_sh id = 10) : fw_C cI cO adr σ id = .inl (cI, 100, .inl (fw_g σ id)) := by simp only [fw_C, h]
theorem fc_11 (h : fw_sh id = 11) : fw_C cI cO adr σ id = .inl (cI, 40, .inl (fw_g σ id)) := by simp only [fw_C, h]
theorem fc_12 (h : fw_sh id = 12) : fw_C cI cO adr σ id = .inr (5, [.ref (adr (id + 1)), .ref (adr (id + 3)), .ref (adr (id + 5)), .ref (adr (id + 10))]) := by simp only [fw_C, h]
theorem fc_13 (h : fw_sh id = 13) : fw_C cI cO adr σ id = .inr (2, [.ref (adr (id + 1)), .int (fw_g σ id 1), .int (fw_g σ id 2)]) := by simp only [fw_C, h]
theorem fc_14 (h : fw_sh id = 14) : fw_C cI cO adr σ id = .inl (cI, 10, .inl (fw_g σ id)) := by simp only [fw_C, h]
theorem fc_15 (h : fw_sh id = 15) : fw_C cI cO adr σ id = .inr (0, [.ref (adr (id + 1)), .ref (adr (id + 2)), .ref (adr (id + 3)), .ref (adr (id + 4)), .int (fw_g σ id 4)]) := by simp only [fw_C, h]
theorem fc_16 (h : fw_sh id = 16) : fw_C cI cO adr σ id = .inl (cI, 6, .inl (fw_g σ id)) := by simp only [fw_C, h]
theorem fc_ne {k j : Nat} {v : Int32} (h : j ≠ id) : fw_C cI cO adr (fw_u σ id k v) j = fw_C cI cO adr σ j := by
  simp only [fw_C, fw_gn σ h]
theorem fc_cn {src n j : Nat} (h : j ≠ id) : fw_C cI cO adr (fw_cp σ src id n) j = fw_C cI cO adr σ j := by
  simp only [fw_C, fw_gcn σ h]
theorem fc_p {ci k : Nat} {v : Int32} {fs : List Value} (h : fw_C cI cO adr (fw_u σ id k v) id = .inr (ci, fs)) {gs : List Value} (hg : fs = gs) : fw_C cI cO adr (fw_u σ id k v) id = .inr (ci, gs) := by rw [h, hg]
end FC
theorem fw_us (σ : fw_T) (i k : Nat) (v : Int32) : fw_g (fw_u σ i k v) i k = v := by simp [fw_g, fw_u]
theorem fw_uo (σ : fw_T) (i k l : Nat) (v : Int32) (h : l ≠ k) : fw_g (fw_u σ i k v) i l = fw_g σ i l := by simp [fw_g, fw_u, h]
/-! ===== the reference's cells ===== -/
def fw_M (cI cB : ClassId) (adr : Nat → Nat) (σ : fw_T) (id : Nat) : va_E := match id with
  | 0 => .inr (8, [.ref (adr 1), .ref (adr 2), .ref (adr 3), .int (fw_g σ 0 3), .ref (adr 4), .int (fw_g σ 0 5), .ref (adr 5), .int (fw_g σ 0 7), .int (fw_g σ 0 8), .ref (adr 6), .int (fw_g σ 0 10), .int (fw_g σ 0 11), .int (fw_g σ 0 12), .long (fw_h σ)])
  | 1 => .inl (cI, 52, .inl (fw_g σ 1))
  | 2 => .inl (cI, 52, .inl (fw_g σ 2))
  | 3 => .inl (cI, 260, .inl (fw_g σ 3))
  | 4 => .inl (cI, 3, .inl (fw_g σ 4))
  | 5 => .inl (cB, 120, .inl (fw_g σ 5))
  | n + 6 => .inl (cI, 320, .inl (fw_g σ (n + 6)))
section FM
variable {cI cB : ClassId} {adr : Nat → Nat} {σ : fw_T} {id : Nat}
theorem fm_ne {k j : Nat} {v : Int32} (h : j ≠ id) : fw_M cI cB adr (fw_u σ id k v) j = fw_M cI cB adr σ j := by
  match j, h with
  | 0, h => simp only [fw_M, fw_gn σ h, fw_hu]
  | 1, h => simp only [fw_M, fw_gn σ h]
  | 2, h => simp only [fw_M, fw_gn σ h]
  | 3, h => simp only [fw_M, fw_gn σ h]
  | 4, h => simp only [fw_M, fw_gn σ h]
  | 5, h => simp only [fw_M, fw_gn σ h]
  | n + 6, h => simp only [fw_M, fw_gn σ h]
theorem fm_nh {j : Nat} {v : Int64} (h : j ≠ 0) : fw_M cI cB adr (fw_uh σ v) j = fw_M cI cB adr σ j := by
  match j, h with
  | 0, h => exact absurd rfl h
  | 1, h => rfl
  | 2, h => rfl
  | 3, h => rfl
  | 4, h => rfl
  | 5, h => rfl
  | n + 6, h => rfl
end FM
section FP
variable {cI cO cB : ClassId} {adr : Nat → Nat} {σ : fw_T} {id : Nat} {v : Int32}
theorem fp_2_1 (h : fw_sh id = 2) : fw_C cI cO adr (fw_u σ id 1 v) id = .inr (1, [.ref (adr 3), .int v, .int (fw_g σ id 2)]) := by rw [fc_2 h, fw_us, fw_uo _ _ _ _ _ (by decide)]
theorem fp_2_2 (h : fw_sh id = 2) : fw_C cI cO adr (fw_u σ id 2 v) id = .inr (1, [.ref (adr 3), .int (fw_g σ id 1), .int v]) := by rw [fc_2 h, fw_us, fw_uo _ _ _ _ _ (by decide)]
theorem fp_4_3 (h : fw_sh id = 4) : fw_C cI cO adr (fw_u σ id 3 v) id = .inr (4, [.ref (adr 7), .ref (adr 5), .ref (adr 6), .int v, .int (fw_g σ id 4)]) := by rw [fc_4 h, fw_us, fw_uo _ _ _ _ _ (by decide)]
theorem fp_4_4 (h : fw_sh id = 4) : fw_C cI cO adr (fw_u σ id 4 v) id = .inr (4, [.ref (adr 7), .ref (adr 5), .ref (adr 6), .int (fw_g σ id 3), .int v]) := by rw [fc_4 h, fw_us, fw_uo _ _ _ _ _ (by decide)]
theorem fp_7_1 (h : fw_sh id = 7) : fw_C cI cO adr (fw_u σ id 1 v) id = .inr (6, [.ref (adr 8), .int v]) := by rw [fc_7 h, fw_us]
theorem fp_13_2 (h : fw_sh id = 13) : fw_C cI cO adr (fw_u σ id 2 v) id = .inr (2, [.ref (adr (id + 1)), .int (fw_g σ id 1), .int v]) := by rw [fc_13 h, fw_us, fw_uo _ _ _ _ _ (by decide)]
theorem fp_15_4 (h : fw_sh id = 15) : fw_C cI cO adr (fw_u σ id 4 v) id = .inr (0, [.ref (adr (id + 1)), .ref (adr (id + 2)), .ref (adr (id + 3)), .ref (adr (id + 4)), .int v]) := by rw [fc_15 h, fw_us]
theorem fpm_3 : fw_M cI cB adr (fw_u σ 0 3 v) 0 = .inr (8, [.ref (adr 1), .ref (adr 2), .ref (adr 3), .int v, .ref (adr 4), .int (fw_g σ 0 5), .ref (adr 5), .int (fw_g σ 0 7), .int (fw_g σ 0 8), .ref (adr 6), .int (fw_g σ 0 10), .int (fw_g σ 0 11), .int (fw_g σ 0 12), .long (fw_h σ)]) := by simp [fw_M, fw_g, fw_u, fw_h]
theorem fpm_5 : fw_M cI cB adr (fw_u σ 0 5 v) 0 = .inr (8, [.ref (adr 1), .ref (adr 2), .ref (adr 3), .int (fw_g σ 0 3), .ref (adr 4), .int v, .ref (adr 5), .int (fw_g σ 0 7), .int (fw_g σ 0 8), .ref (adr 6), .int (fw_g σ 0 10), .int (fw_g σ 0 11), .int (fw_g σ 0 12), .long (fw_h σ)]) := by simp [fw_M, fw_g, fw_u, fw_h]
theorem fpm_7 : fw_M cI cB adr (fw_u σ 0 7 v) 0 = .inr (8, [.ref (adr 1), .ref (adr 2), .ref (adr 3), .int (fw_g σ 0 3), .ref (adr 4), .int (fw_g σ 0 5), .ref (adr 5), .int v, .int (fw_g σ 0 8), .ref (adr 6), .int (fw_g σ 0 10), .int (fw_g σ 0 11), .int (fw_g σ 0 12), .long (fw_h σ)]) := by simp [fw_M, fw_g, fw_u, fw_h]
theorem fpm_8 : fw_M cI cB adr (fw_u σ 0 8 v) 0 = .inr (8, [.ref (adr 1), .ref (adr 2), .ref (adr 3), .int (fw_g σ 0 3), .ref (adr 4), .int (fw_g σ 0 5), .ref (adr 5), .int (fw_g σ 0 7), .int v, .ref (adr 6), .int (fw_g σ 0 10), .int (fw_g σ 0 11), .int (fw_g σ 0 12), .long (fw_h σ)]) := by simp [fw_M, fw_g, fw_u, fw_h]
theorem fpm_10 : fw_M cI cB adr (fw_u σ 0 10 v) 0 = .inr (8, [.ref (adr 1), .ref (adr 2), .ref (adr 3), .int (fw_g σ 0 3), .ref (adr 4), .int (fw_g σ 0 5), .ref (adr 5), .int (fw_g σ 0 7), .int (fw_g σ 0 8), .ref (adr 6), .int v, .int (fw_g σ 0 11), .int (fw_g σ 0 12), .long (fw_h σ)]) := by simp [fw_M, fw_g, fw_u, fw_h]
theorem fpm_11 : fw_M cI cB adr (fw_u σ 0 11 v) 0 = .inr (8, [.ref (adr 1), .ref (adr 2), .ref (adr 3), .int (fw_g σ 0 3), .ref (adr 4), .int (fw_g σ 0 5), .ref (adr 5), .int (fw_g σ 0 7), .int (fw_g σ 0 8), .ref (adr 6), .int (fw_g σ 0 10), .int v, .int (fw_g σ 0 12), .long (fw_h σ)]) := by simp [fw_M, fw_g, fw_u, fw_h]
theorem fpm_12 : fw_M cI cB adr (fw_u σ 0 12 v) 0 = .inr (8, [.ref (adr 1), .ref (adr 2), .ref (adr 3), .int (fw_g σ 0 3), .ref (adr 4), .int (fw_g σ 0 5), .ref (adr 5), .int (fw_g σ 0 7), .int (fw_g σ 0 8), .ref (adr 6), .int (fw_g σ 0 10), .int (fw_g σ 0 11), .int v, .long (fw_h σ)]) := by simp [fw_M, fw_g, fw_u, fw_h]
end FP
abbrev fcT (cI cO : ClassId) : List (ClassId × FieldType) := [(cI, .int), (cO, .object "WhyNotJoin$State")]
abbrev fmT (cI cB : ClassId) : List (ClassId × FieldType) := [(cI, .int), (cB, .byte)]
abbrev fcX (p : Program) (m : MethodId) (c : Code) (cc : ByteArray) (nL : Nat) (s : State) (args : Array Value) (own : String) (meth : Method) (ret : Option FieldType) (D : va_G) (cI cO : ClassId) : Prop := fw_X D (fcT cI cO) nwC p m c cc nL s args own meth ret
abbrev fmX (p : Program) (m : MethodId) (c : Code) (cc : ByteArray) (nL : Nat) (s : State) (args : Array Value) (own : String) (meth : Method) (ret : Option FieldType) (D : va_G) (cI cB : ClassId) : Prop := fw_X D (fmT cI cB) [] p m c cc nL s args own meth ret
abbrev fcH (D : va_G) (cI cO : ClassId) (adr : Nat → Nat) (A : Nat → Prop) (s : State) (H : Heap) (locs : List Loc) (σ : fw_T) : Prop := fw_H D 96 adr (fw_C cI cO adr) A s.heap H locs σ
abbrev fmH (D : va_G) (cI cB : ClassId) (adr : Nat → Nat) (A : Nat → Prop) (s : State) (H : Heap) (locs : List Loc) (σ : fw_T) : Prop := fw_H D 7 adr (fw_M cI cB adr) A s.heap H locs σ
end
