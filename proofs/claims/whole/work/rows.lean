section
-- ===== PART A: goes FIRST, ahead of the names: the tables' words, and 'selects' of the private methods out of them =====
/-- a private method of a class that the tables say can be made, by its rows of tables_1 -/
def lw_okq (q : MethodName × Nat) : Prop := (q.1.cls ≠ "java/lang/invoke/MethodHandle" ∧ q.1.cls ≠ "java/lang/invoke/VarHandle") ∧ Cond.instantiable q.1.cls q.2 ∈ tables_1 ∧ Cond.privateMethod q.1 ∈ tables_1 ∧ Cond.instanceMethod q.1 ∈ tables_1
theorem lw_p0 : lw_okq (⟨"QuestionDesk", "changeWish", "(IIIZ)I"⟩, 9) := ⟨⟨by decide +kernel, by decide +kernel⟩, List.mem_of_getElem? (i := 23) (by decide +kernel), List.mem_of_getElem? (i := 379) (by decide +kernel), List.mem_of_getElem? (i := 380) (by decide +kernel)⟩
theorem lw_p1 : lw_okq (⟨"QuestionDesk", "shelfAt", "(I)LQuestionDesk$Shelf;"⟩, 9) := ⟨⟨by decide +kernel, by decide +kernel⟩, List.mem_of_getElem? (i := 23) (by decide +kernel), List.mem_of_getElem? (i := 403) (by decide +kernel), List.mem_of_getElem? (i := 404) (by decide +kernel)⟩
theorem lw_p2 : lw_okq (⟨"QuestionDesk$Shelf", "refusalUnless", "(I)I"⟩, 5) := ⟨⟨by decide +kernel, by decide +kernel⟩, List.mem_of_getElem? (i := 279) (by decide +kernel), List.mem_of_getElem? (i := 411) (by decide +kernel), List.mem_of_getElem? (i := 412) (by decide +kernel)⟩
theorem lw_p3 : lw_okq (⟨"QuestionDesk$Reader", "readPart", "(I)Z"⟩, 8) := ⟨⟨by decide +kernel, by decide +kernel⟩, List.mem_of_getElem? (i := 125) (by decide +kernel), List.mem_of_getElem? (i := 419) (by decide +kernel), List.mem_of_getElem? (i := 420) (by decide +kernel)⟩
theorem lw_p4 : lw_okq (⟨"QuestionDesk$Reader", "readQuestion", "(I)Z"⟩, 8) := ⟨⟨by decide +kernel, by decide +kernel⟩, List.mem_of_getElem? (i := 125) (by decide +kernel), List.mem_of_getElem? (i := 423) (by decide +kernel), List.mem_of_getElem? (i := 424) (by decide +kernel)⟩
theorem lw_p5 : lw_okq (⟨"QuestionDesk$Reader", "addNode", "(I)I"⟩, 8) := ⟨⟨by decide +kernel, by decide +kernel⟩, List.mem_of_getElem? (i := 125) (by decide +kernel), List.mem_of_getElem? (i := 427) (by decide +kernel), List.mem_of_getElem? (i := 428) (by decide +kernel)⟩
theorem lw_p6 : lw_okq (⟨"QuestionDesk$Reader", "readSign", "(C)Z"⟩, 8) := ⟨⟨by decide +kernel, by decide +kernel⟩, List.mem_of_getElem? (i := 125) (by decide +kernel), List.mem_of_getElem? (i := 431) (by decide +kernel), List.mem_of_getElem? (i := 432) (by decide +kernel)⟩
theorem lw_p7 : lw_okq (⟨"QuestionDesk$Reader", "readChoice", "(I)Z"⟩, 8) := ⟨⟨by decide +kernel, by decide +kernel⟩, List.mem_of_getElem? (i := 125) (by decide +kernel), List.mem_of_getElem? (i := 435) (by decide +kernel), List.mem_of_getElem? (i := 436) (by decide +kernel)⟩
theorem lw_p8 : lw_okq (⟨"QuestionDesk$Reader", "readPair", "(I)Z"⟩, 8) := ⟨⟨by decide +kernel, by decide +kernel⟩, List.mem_of_getElem? (i := 125) (by decide +kernel), List.mem_of_getElem? (i := 439) (by decide +kernel), List.mem_of_getElem? (i := 440) (by decide +kernel)⟩
theorem lw_p9 : lw_okq (⟨"QuestionDesk$Reader", "readEnd", "()I"⟩, 8) := ⟨⟨by decide +kernel, by decide +kernel⟩, List.mem_of_getElem? (i := 125) (by decide +kernel), List.mem_of_getElem? (i := 443) (by decide +kernel), List.mem_of_getElem? (i := 444) (by decide +kernel)⟩
theorem lw_p10 : lw_okq (⟨"QuestionDesk$Hall", "settleQuestion", "(III)V"⟩, 12) := ⟨⟨by decide +kernel, by decide +kernel⟩, List.mem_of_getElem? (i := 156) (by decide +kernel), List.mem_of_getElem? (i := 540) (by decide +kernel), List.mem_of_getElem? (i := 541) (by decide +kernel)⟩
theorem lw_p11 : lw_okq (⟨"QuestionDesk$Hall", "votesFor", "(II)I"⟩, 12) := ⟨⟨by decide +kernel, by decide +kernel⟩, List.mem_of_getElem? (i := 156) (by decide +kernel), List.mem_of_getElem? (i := 544) (by decide +kernel), List.mem_of_getElem? (i := 545) (by decide +kernel)⟩
theorem lw_p12 : lw_okq (⟨"QuestionDesk$Hall", "drawLines", "(II)V"⟩, 12) := ⟨⟨by decide +kernel, by decide +kernel⟩, List.mem_of_getElem? (i := 156) (by decide +kernel), List.mem_of_getElem? (i := 548) (by decide +kernel), List.mem_of_getElem? (i := 549) (by decide +kernel)⟩
theorem lw_p13 : lw_okq (⟨"QuestionDesk$Hall", "voteOf", "(LQuestionDesk$Member;II)I"⟩, 12) := ⟨⟨by decide +kernel, by decide +kernel⟩, List.mem_of_getElem? (i := 156) (by decide +kernel), List.mem_of_getElem? (i := 564) (by decide +kernel), List.mem_of_getElem? (i := 565) (by decide +kernel)⟩
theorem lw_p14 : lw_okq (⟨"QuestionDesk$Hall", "sideOfBought", "(LQuestionDesk$Member;II)I"⟩, 12) := ⟨⟨by decide +kernel, by decide +kernel⟩, List.mem_of_getElem? (i := 156) (by decide +kernel), List.mem_of_getElem? (i := 568) (by decide +kernel), List.mem_of_getElem? (i := 569) (by decide +kernel)⟩
theorem lw_p15 : lw_okq (⟨"QuestionDesk$Hall", "chairsOf", "(II)I"⟩, 12) := ⟨⟨by decide +kernel, by decide +kernel⟩, List.mem_of_getElem? (i := 156) (by decide +kernel), List.mem_of_getElem? (i := 572) (by decide +kernel), List.mem_of_getElem? (i := 573) (by decide +kernel)⟩
def lw_privs_1 : List (MethodName × Nat) := [(⟨"QuestionDesk", "changeWish", "(IIIZ)I"⟩, 9), (⟨"QuestionDesk", "shelfAt", "(I)LQuestionDesk$Shelf;"⟩, 9), (⟨"QuestionDesk$Shelf", "refusalUnless", "(I)I"⟩, 5), (⟨"QuestionDesk$Reader", "readPart", "(I)Z"⟩, 8), (⟨"QuestionDesk$Reader", "readQuestion", "(I)Z"⟩, 8), (⟨"QuestionDesk$Reader", "addNode", "(I)I"⟩, 8), (⟨"QuestionDesk$Reader", "readSign", "(C)Z"⟩, 8), (⟨"QuestionDesk$Reader", "readChoice", "(I)Z"⟩, 8), (⟨"QuestionDesk$Reader", "readPair", "(I)Z"⟩, 8), (⟨"QuestionDesk$Reader", "readEnd", "()I"⟩, 8), (⟨"QuestionDesk$Hall", "settleQuestion", "(III)V"⟩, 12), (⟨"QuestionDesk$Hall", "votesFor", "(II)I"⟩, 12), (⟨"QuestionDesk$Hall", "drawLines", "(II)V"⟩, 12), (⟨"QuestionDesk$Hall", "voteOf", "(LQuestionDesk$Member;II)I"⟩, 12), (⟨"QuestionDesk$Hall", "sideOfBought", "(LQuestionDesk$Member;II)I"⟩, 12), (⟨"QuestionDesk$Hall", "chairsOf", "(II)I"⟩, 12)]
theorem lw_r1 : ∀ q ∈ lw_privs_1, lw_okq q := List.forall_mem_cons.mpr ⟨lw_p0, List.forall_mem_cons.mpr ⟨lw_p1, List.forall_mem_cons.mpr ⟨lw_p2, List.forall_mem_cons.mpr ⟨lw_p3, List.forall_mem_cons.mpr ⟨lw_p4, List.forall_mem_cons.mpr ⟨lw_p5, List.forall_mem_cons.mpr ⟨lw_p6, List.forall_mem_cons.mpr ⟨lw_p7, List.forall_mem_cons.mpr ⟨lw_p8, List.forall_mem_cons.mpr ⟨lw_p9, List.forall_mem_cons.mpr ⟨lw_p10, List.forall_mem_cons.mpr ⟨lw_p11, List.forall_mem_cons.mpr ⟨lw_p12, List.forall_mem_cons.mpr ⟨lw_p13, List.forall_mem_cons.mpr ⟨lw_p14, List.forall_mem_cons.mpr ⟨lw_p15, fun _ h => absurd h List.not_mem_nil⟩⟩⟩⟩⟩⟩⟩⟩⟩⟩⟩⟩⟩⟩⟩⟩
theorem lw_p16 : lw_okq (⟨"QuestionDesk$Hall", "settleChoice", "(IIIZ)V"⟩, 12) := ⟨⟨by decide +kernel, by decide +kernel⟩, List.mem_of_getElem? (i := 156) (by decide +kernel), List.mem_of_getElem? (i := 589) (by decide +kernel), List.mem_of_getElem? (i := 590) (by decide +kernel)⟩
theorem lw_p17 : lw_okq (⟨"QuestionDesk$Hall", "settleEnd", "(II)V"⟩, 12) := ⟨⟨by decide +kernel, by decide +kernel⟩, List.mem_of_getElem? (i := 156) (by decide +kernel), List.mem_of_getElem? (i := 593) (by decide +kernel), List.mem_of_getElem? (i := 594) (by decide +kernel)⟩
theorem lw_p18 : lw_okq (⟨"QuestionDesk", "comesIfAll", "(LQuestionDesk$Tree;I)I"⟩, 9) := ⟨⟨by decide +kernel, by decide +kernel⟩, List.mem_of_getElem? (i := 23) (by decide +kernel), List.mem_of_getElem? (i := 636) (by decide +kernel), List.mem_of_getElem? (i := 637) (by decide +kernel)⟩
theorem lw_p19 : lw_okq (⟨"QuestionDesk", "weighOrders", "()V"⟩, 9) := ⟨⟨by decide +kernel, by decide +kernel⟩, List.mem_of_getElem? (i := 23) (by decide +kernel), List.mem_of_getElem? (i := 665) (by decide +kernel), List.mem_of_getElem? (i := 666) (by decide +kernel)⟩
theorem lw_p20 : lw_okq (⟨"QuestionDesk$Orders", "comesDeep", "(I)I"⟩, 5) := ⟨⟨by decide +kernel, by decide +kernel⟩, List.mem_of_getElem? (i := 207) (by decide +kernel), List.mem_of_getElem? (i := 684) (by decide +kernel), List.mem_of_getElem? (i := 685) (by decide +kernel)⟩
theorem lw_p21 : lw_okq (⟨"QuestionDesk$Orders", "comesPlain", "(I)I"⟩, 5) := ⟨⟨by decide +kernel, by decide +kernel⟩, List.mem_of_getElem? (i := 207) (by decide +kernel), List.mem_of_getElem? (i := 688) (by decide +kernel), List.mem_of_getElem? (i := 689) (by decide +kernel)⟩
theorem lw_p22 : lw_okq (⟨"QuestionDesk$Orders", "peakBits", "()I"⟩, 5) := ⟨⟨by decide +kernel, by decide +kernel⟩, List.mem_of_getElem? (i := 207) (by decide +kernel), List.mem_of_getElem? (i := 700) (by decide +kernel), List.mem_of_getElem? (i := 701) (by decide +kernel)⟩
theorem lw_p23 : lw_okq (⟨"QuestionDesk$Orders", "peakOf", "(I)I"⟩, 5) := ⟨⟨by decide +kernel, by decide +kernel⟩, List.mem_of_getElem? (i := 207) (by decide +kernel), List.mem_of_getElem? (i := 704) (by decide +kernel), List.mem_of_getElem? (i := 705) (by decide +kernel)⟩
theorem lw_p24 : lw_okq (⟨"QuestionDesk$Orders", "isBeatenWhole", "(I)Z"⟩, 5) := ⟨⟨by decide +kernel, by decide +kernel⟩, List.mem_of_getElem? (i := 207) (by decide +kernel), List.mem_of_getElem? (i := 708) (by decide +kernel), List.mem_of_getElem? (i := 709) (by decide +kernel)⟩
theorem lw_p25 : lw_okq (⟨"QuestionDesk$Orders", "reachedFrom", "(I)I"⟩, 5) := ⟨⟨by decide +kernel, by decide +kernel⟩, List.mem_of_getElem? (i := 207) (by decide +kernel), List.mem_of_getElem? (i := 716) (by decide +kernel), List.mem_of_getElem? (i := 717) (by decide +kernel)⟩
theorem lw_p26 : lw_okq (⟨"QuestionDesk", "isThere", "(I)Z"⟩, 9) := ⟨⟨by decide +kernel, by decide +kernel⟩, List.mem_of_getElem? (i := 23) (by decide +kernel), List.mem_of_getElem? (i := 724) (by decide +kernel), List.mem_of_getElem? (i := 725) (by decide +kernel)⟩
theorem lw_p27 : lw_okq (⟨"QuestionDesk$Hall", "putAgainst", "(III)I"⟩, 12) := ⟨⟨by decide +kernel, by decide +kernel⟩, List.mem_of_getElem? (i := 156) (by decide +kernel), List.mem_of_getElem? (i := 771) (by decide +kernel), List.mem_of_getElem? (i := 772) (by decide +kernel)⟩
theorem lw_p28 : lw_okq (⟨"QuestionDesk$Plots", "makeOfKind", "(III)V"⟩, 8) := ⟨⟨by decide +kernel, by decide +kernel⟩, List.mem_of_getElem? (i := 229) (by decide +kernel), List.mem_of_getElem? (i := 802) (by decide +kernel), List.mem_of_getElem? (i := 803) (by decide +kernel)⟩
theorem lw_p29 : lw_okq (⟨"QuestionDesk$Plots", "seatDoubtful", "()I"⟩, 8) := ⟨⟨by decide +kernel, by decide +kernel⟩, List.mem_of_getElem? (i := 229) (by decide +kernel), List.mem_of_getElem? (i := 830) (by decide +kernel), List.mem_of_getElem? (i := 831) (by decide +kernel)⟩
theorem lw_p30 : lw_okq (⟨"QuestionDesk$Plots", "suppose", "(II)J"⟩, 8) := ⟨⟨by decide +kernel, by decide +kernel⟩, List.mem_of_getElem? (i := 229) (by decide +kernel), List.mem_of_getElem? (i := 834) (by decide +kernel), List.mem_of_getElem? (i := 835) (by decide +kernel)⟩
theorem lw_p31 : lw_okq (⟨"QuestionDesk$Plots", "mattering", "(LQuestionDesk$Tree;)I"⟩, 8) := ⟨⟨by decide +kernel, by decide +kernel⟩, List.mem_of_getElem? (i := 229) (by decide +kernel), List.mem_of_getElem? (i := 855) (by decide +kernel), List.mem_of_getElem? (i := 856) (by decide +kernel)⟩
def lw_privs_2 : List (MethodName × Nat) := [(⟨"QuestionDesk$Hall", "settleChoice", "(IIIZ)V"⟩, 12), (⟨"QuestionDesk$Hall", "settleEnd", "(II)V"⟩, 12), (⟨"QuestionDesk", "comesIfAll", "(LQuestionDesk$Tree;I)I"⟩, 9), (⟨"QuestionDesk", "weighOrders", "()V"⟩, 9), (⟨"QuestionDesk$Orders", "comesDeep", "(I)I"⟩, 5), (⟨"QuestionDesk$Orders", "comesPlain", "(I)I"⟩, 5), (⟨"QuestionDesk$Orders", "peakBits", "()I"⟩, 5), (⟨"QuestionDesk$Orders", "peakOf", "(I)I"⟩, 5), (⟨"QuestionDesk$Orders", "isBeatenWhole", "(I)Z"⟩, 5), (⟨"QuestionDesk$Orders", "reachedFrom", "(I)I"⟩, 5), (⟨"QuestionDesk", "isThere", "(I)Z"⟩, 9), (⟨"QuestionDesk$Hall", "putAgainst", "(III)I"⟩, 12), (⟨"QuestionDesk$Plots", "makeOfKind", "(III)V"⟩, 8), (⟨"QuestionDesk$Plots", "seatDoubtful", "()I"⟩, 8), (⟨"QuestionDesk$Plots", "suppose", "(II)J"⟩, 8), (⟨"QuestionDesk$Plots", "mattering", "(LQuestionDesk$Tree;)I"⟩, 8)]
theorem lw_r2 : ∀ q ∈ lw_privs_2, lw_okq q := List.forall_mem_cons.mpr ⟨lw_p16, List.forall_mem_cons.mpr ⟨lw_p17, List.forall_mem_cons.mpr ⟨lw_p18, List.forall_mem_cons.mpr ⟨lw_p19, List.forall_mem_cons.mpr ⟨lw_p20, List.forall_mem_cons.mpr ⟨lw_p21, List.forall_mem_cons.mpr ⟨lw_p22, List.forall_mem_cons.mpr ⟨lw_p23, List.forall_mem_cons.mpr ⟨lw_p24, List.forall_mem_cons.mpr ⟨lw_p25, List.forall_mem_cons.mpr ⟨lw_p26, List.forall_mem_cons.mpr ⟨lw_p27, List.forall_mem_cons.mpr ⟨lw_p28, List.forall_mem_cons.mpr ⟨lw_p29, List.forall_mem_cons.mpr ⟨lw_p30, List.forall_mem_cons.mpr ⟨lw_p31, fun _ h => absurd h List.not_mem_nil⟩⟩⟩⟩⟩⟩⟩⟩⟩⟩⟩⟩⟩⟩⟩⟩
theorem lw_p32 : lw_okq (⟨"QuestionDesk$Plots", "there", "()I"⟩, 8) := ⟨⟨by decide +kernel, by decide +kernel⟩, List.mem_of_getElem? (i := 229) (by decide +kernel), List.mem_of_getElem? (i := 859) (by decide +kernel), List.mem_of_getElem? (i := 860) (by decide +kernel)⟩
theorem lw_p33 : lw_okq (⟨"QuestionDesk$Orders", "isRing", "(I)Z"⟩, 5) := ⟨⟨by decide +kernel, by decide +kernel⟩, List.mem_of_getElem? (i := 207) (by decide +kernel), List.mem_of_getElem? (i := 892) (by decide +kernel), List.mem_of_getElem? (i := 893) (by decide +kernel)⟩
theorem lw_p34 : lw_okq (⟨"QuestionDesk$Laws", "like", "(I)V"⟩, 4) := ⟨⟨by decide +kernel, by decide +kernel⟩, List.mem_of_getElem? (i := 261) (by decide +kernel), List.mem_of_getElem? (i := 924) (by decide +kernel), List.mem_of_getElem? (i := 925) (by decide +kernel)⟩
theorem lw_p35 : lw_okq (⟨"QuestionDesk$Laws", "missesBest", "(I)Z"⟩, 4) := ⟨⟨by decide +kernel, by decide +kernel⟩, List.mem_of_getElem? (i := 261) (by decide +kernel), List.mem_of_getElem? (i := 936) (by decide +kernel), List.mem_of_getElem? (i := 937) (by decide +kernel)⟩
theorem lw_p36 : lw_okq (⟨"QuestionDesk$Laws", "isBrokenByOne", "(II)Z"⟩, 4) := ⟨⟨by decide +kernel, by decide +kernel⟩, List.mem_of_getElem? (i := 261) (by decide +kernel), List.mem_of_getElem? (i := 941) (by decide +kernel), List.mem_of_getElem? (i := 942) (by decide +kernel)⟩
theorem lw_p37 : lw_okq (⟨"QuestionDesk$Laws", "fallsWhenLifted", "(III)Z"⟩, 4) := ⟨⟨by decide +kernel, by decide +kernel⟩, List.mem_of_getElem? (i := 261) (by decide +kernel), List.mem_of_getElem? (i := 945) (by decide +kernel), List.mem_of_getElem? (i := 946) (by decide +kernel)⟩
theorem lw_p38 : lw_okq (⟨"QuestionDesk$Laws", "gainsByLying", "(III)Z"⟩, 4) := ⟨⟨by decide +kernel, by decide +kernel⟩, List.mem_of_getElem? (i := 261) (by decide +kernel), List.mem_of_getElem? (i := 953) (by decide +kernel), List.mem_of_getElem? (i := 954) (by decide +kernel)⟩
theorem lw_p39 : lw_okq (⟨"java/lang/Throwable", "fillInStackTrace", "(I)Ljava/lang/Throwable;"⟩, 6) := ⟨⟨by decide +kernel, by decide +kernel⟩, List.mem_of_getElem? (i := 1082) (by decide +kernel), List.mem_of_getElem? (i := 1080) (by decide +kernel), List.mem_of_getElem? (i := 1081) (by decide +kernel)⟩
theorem lw_p40 : lw_okq (⟨"QuestionDeskModel", "isMember", "(I)Z"⟩, 57) := ⟨⟨by decide +kernel, by decide +kernel⟩, List.mem_of_getElem? (i := 1156) (by decide +kernel), List.mem_of_getElem? (i := 1357) (by decide +kernel), List.mem_of_getElem? (i := 1358) (by decide +kernel)⟩
theorem lw_p41 : lw_okq (⟨"QuestionDeskModel", "change", "(II)I"⟩, 57) := ⟨⟨by decide +kernel, by decide +kernel⟩, List.mem_of_getElem? (i := 1156) (by decide +kernel), List.mem_of_getElem? (i := 1372) (by decide +kernel), List.mem_of_getElem? (i := 1373) (by decide +kernel)⟩
theorem lw_p42 : lw_okq (⟨"QuestionDeskModel", "heftOf", "(I)I"⟩, 57) := ⟨⟨by decide +kernel, by decide +kernel⟩, List.mem_of_getElem? (i := 1156) (by decide +kernel), List.mem_of_getElem? (i := 1388) (by decide +kernel), List.mem_of_getElem? (i := 1389) (by decide +kernel)⟩
theorem lw_p43 : lw_okq (⟨"QuestionDeskModel", "lacks", "(I)I"⟩, 57) := ⟨⟨by decide +kernel, by decide +kernel⟩, List.mem_of_getElem? (i := 1156) (by decide +kernel), List.mem_of_getElem? (i := 1396) (by decide +kernel), List.mem_of_getElem? (i := 1397) (by decide +kernel)⟩
theorem lw_p44 : lw_okq (⟨"QuestionDeskModel", "faultOf", "(I)I"⟩, 57) := ⟨⟨by decide +kernel, by decide +kernel⟩, List.mem_of_getElem? (i := 1156) (by decide +kernel), List.mem_of_getElem? (i := 1400) (by decide +kernel), List.mem_of_getElem? (i := 1401) (by decide +kernel)⟩
theorem lw_p45 : lw_okq (⟨"QuestionDeskModel", "here", "()I"⟩, 57) := ⟨⟨by decide +kernel, by decide +kernel⟩, List.mem_of_getElem? (i := 1156) (by decide +kernel), List.mem_of_getElem? (i := 1404) (by decide +kernel), List.mem_of_getElem? (i := 1405) (by decide +kernel)⟩
theorem lw_p46 : lw_okq (⟨"QuestionDeskModel", "begin", "(I)V"⟩, 57) := ⟨⟨by decide +kernel, by decide +kernel⟩, List.mem_of_getElem? (i := 1156) (by decide +kernel), List.mem_of_getElem? (i := 1408) (by decide +kernel), List.mem_of_getElem? (i := 1409) (by decide +kernel)⟩
theorem lw_p47 : lw_okq (⟨"QuestionDeskModel", "readEnd", "()I"⟩, 57) := ⟨⟨by decide +kernel, by decide +kernel⟩, List.mem_of_getElem? (i := 1156) (by decide +kernel), List.mem_of_getElem? (i := 1412) (by decide +kernel), List.mem_of_getElem? (i := 1413) (by decide +kernel)⟩
def lw_privs_3 : List (MethodName × Nat) := [(⟨"QuestionDesk$Plots", "there", "()I"⟩, 8), (⟨"QuestionDesk$Orders", "isRing", "(I)Z"⟩, 5), (⟨"QuestionDesk$Laws", "like", "(I)V"⟩, 4), (⟨"QuestionDesk$Laws", "missesBest", "(I)Z"⟩, 4), (⟨"QuestionDesk$Laws", "isBrokenByOne", "(II)Z"⟩, 4), (⟨"QuestionDesk$Laws", "fallsWhenLifted", "(III)Z"⟩, 4), (⟨"QuestionDesk$Laws", "gainsByLying", "(III)Z"⟩, 4), (⟨"java/lang/Throwable", "fillInStackTrace", "(I)Ljava/lang/Throwable;"⟩, 6), (⟨"QuestionDeskModel", "isMember", "(I)Z"⟩, 57), (⟨"QuestionDeskModel", "change", "(II)I"⟩, 57), (⟨"QuestionDeskModel", "heftOf", "(I)I"⟩, 57), (⟨"QuestionDeskModel", "lacks", "(I)I"⟩, 57), (⟨"QuestionDeskModel", "faultOf", "(I)I"⟩, 57), (⟨"QuestionDeskModel", "here", "()I"⟩, 57), (⟨"QuestionDeskModel", "begin", "(I)V"⟩, 57), (⟨"QuestionDeskModel", "readEnd", "()I"⟩, 57)]
theorem lw_r3 : ∀ q ∈ lw_privs_3, lw_okq q := List.forall_mem_cons.mpr ⟨lw_p32, List.forall_mem_cons.mpr ⟨lw_p33, List.forall_mem_cons.mpr ⟨lw_p34, List.forall_mem_cons.mpr ⟨lw_p35, List.forall_mem_cons.mpr ⟨lw_p36, List.forall_mem_cons.mpr ⟨lw_p37, List.forall_mem_cons.mpr ⟨lw_p38, List.forall_mem_cons.mpr ⟨lw_p39, List.forall_mem_cons.mpr ⟨lw_p40, List.forall_mem_cons.mpr ⟨lw_p41, List.forall_mem_cons.mpr ⟨lw_p42, List.forall_mem_cons.mpr ⟨lw_p43, List.forall_mem_cons.mpr ⟨lw_p44, List.forall_mem_cons.mpr ⟨lw_p45, List.forall_mem_cons.mpr ⟨lw_p46, List.forall_mem_cons.mpr ⟨lw_p47, fun _ h => absurd h List.not_mem_nil⟩⟩⟩⟩⟩⟩⟩⟩⟩⟩⟩⟩⟩⟩⟩⟩
theorem lw_p48 : lw_okq (⟨"QuestionDeskModel", "take", "(I)Z"⟩, 57) := ⟨⟨by decide +kernel, by decide +kernel⟩, List.mem_of_getElem? (i := 1156) (by decide +kernel), List.mem_of_getElem? (i := 1416) (by decide +kernel), List.mem_of_getElem? (i := 1417) (by decide +kernel)⟩
theorem lw_p49 : lw_okq (⟨"QuestionDeskModel", "add", "(IIIII)I"⟩, 57) := ⟨⟨by decide +kernel, by decide +kernel⟩, List.mem_of_getElem? (i := 1156) (by decide +kernel), List.mem_of_getElem? (i := 1420) (by decide +kernel), List.mem_of_getElem? (i := 1421) (by decide +kernel)⟩
theorem lw_p50 : lw_okq (⟨"QuestionDeskModel", "part", "(I)V"⟩, 57) := ⟨⟨by decide +kernel, by decide +kernel⟩, List.mem_of_getElem? (i := 1156) (by decide +kernel), List.mem_of_getElem? (i := 1424) (by decide +kernel), List.mem_of_getElem? (i := 1425) (by decide +kernel)⟩
theorem lw_p51 : lw_okq (⟨"QuestionDeskModel", "margin", "(II)I"⟩, 57) := ⟨⟨by decide +kernel, by decide +kernel⟩, List.mem_of_getElem? (i := 1156) (by decide +kernel), List.mem_of_getElem? (i := 1436) (by decide +kernel), List.mem_of_getElem? (i := 1437) (by decide +kernel)⟩
theorem lw_p52 : lw_okq (⟨"QuestionDeskModel", "members", "()I"⟩, 57) := ⟨⟨by decide +kernel, by decide +kernel⟩, List.mem_of_getElem? (i := 1156) (by decide +kernel), List.mem_of_getElem? (i := 1440) (by decide +kernel), List.mem_of_getElem? (i := 1441) (by decide +kernel)⟩
theorem lw_p53 : lw_okq (⟨"QuestionDeskModel", "wishOf", "(II)I"⟩, 57) := ⟨⟨by decide +kernel, by decide +kernel⟩, List.mem_of_getElem? (i := 1156) (by decide +kernel), List.mem_of_getElem? (i := 1444) (by decide +kernel), List.mem_of_getElem? (i := 1445) (by decide +kernel)⟩
theorem lw_p54 : lw_okq (⟨"QuestionDeskModel", "voicesOf", "(I)I"⟩, 57) := ⟨⟨by decide +kernel, by decide +kernel⟩, List.mem_of_getElem? (i := 1156) (by decide +kernel), List.mem_of_getElem? (i := 1454) (by decide +kernel), List.mem_of_getElem? (i := 1455) (by decide +kernel)⟩
theorem lw_p55 : lw_okq (⟨"QuestionDeskModel", "standing", "(II)I"⟩, 57) := ⟨⟨by decide +kernel, by decide +kernel⟩, List.mem_of_getElem? (i := 1156) (by decide +kernel), List.mem_of_getElem? (i := 1463) (by decide +kernel), List.mem_of_getElem? (i := 1464) (by decide +kernel)⟩
theorem lw_p56 : lw_okq (⟨"QuestionDeskModel", "beats", "(II)Z"⟩, 57) := ⟨⟨by decide +kernel, by decide +kernel⟩, List.mem_of_getElem? (i := 1156) (by decide +kernel), List.mem_of_getElem? (i := 1467) (by decide +kernel), List.mem_of_getElem? (i := 1468) (by decide +kernel)⟩
theorem lw_p57 : lw_okq (⟨"QuestionDeskModel", "isTree", "(I)Z"⟩, 57) := ⟨⟨by decide +kernel, by decide +kernel⟩, List.mem_of_getElem? (i := 1156) (by decide +kernel), List.mem_of_getElem? (i := 1475) (by decide +kernel), List.mem_of_getElem? (i := 1476) (by decide +kernel)⟩
theorem lw_p58 : lw_okq (⟨"QuestionDeskModel", "endOf", "(I)I"⟩, 57) := ⟨⟨by decide +kernel, by decide +kernel⟩, List.mem_of_getElem? (i := 1156) (by decide +kernel), List.mem_of_getElem? (i := 1479) (by decide +kernel), List.mem_of_getElem? (i := 1480) (by decide +kernel)⟩
theorem lw_p59 : lw_okq (⟨"QuestionDeskModel", "load", "(I)V"⟩, 57) := ⟨⟨by decide +kernel, by decide +kernel⟩, List.mem_of_getElem? (i := 1156) (by decide +kernel), List.mem_of_getElem? (i := 1483) (by decide +kernel), List.mem_of_getElem? (i := 1484) (by decide +kernel)⟩
theorem lw_p60 : lw_okq (⟨"QuestionDeskModel", "settle", "()I"⟩, 57) := ⟨⟨by decide +kernel, by decide +kernel⟩, List.mem_of_getElem? (i := 1156) (by decide +kernel), List.mem_of_getElem? (i := 1487) (by decide +kernel), List.mem_of_getElem? (i := 1488) (by decide +kernel)⟩
theorem lw_p61 : lw_okq (⟨"QuestionDeskModel", "settleQuestion", "(I)V"⟩, 57) := ⟨⟨by decide +kernel, by decide +kernel⟩, List.mem_of_getElem? (i := 1156) (by decide +kernel), List.mem_of_getElem? (i := 1491) (by decide +kernel), List.mem_of_getElem? (i := 1492) (by decide +kernel)⟩
theorem lw_p62 : lw_okq (⟨"QuestionDeskModel", "voteOf", "(III)I"⟩, 57) := ⟨⟨by decide +kernel, by decide +kernel⟩, List.mem_of_getElem? (i := 1156) (by decide +kernel), List.mem_of_getElem? (i := 1495) (by decide +kernel), List.mem_of_getElem? (i := 1496) (by decide +kernel)⟩
theorem lw_p63 : lw_okq (⟨"QuestionDeskModel", "kindOf", "(I)I"⟩, 57) := ⟨⟨by decide +kernel, by decide +kernel⟩, List.mem_of_getElem? (i := 1156) (by decide +kernel), List.mem_of_getElem? (i := 1499) (by decide +kernel), List.mem_of_getElem? (i := 1500) (by decide +kernel)⟩
def lw_privs_4 : List (MethodName × Nat) := [(⟨"QuestionDeskModel", "take", "(I)Z"⟩, 57), (⟨"QuestionDeskModel", "add", "(IIIII)I"⟩, 57), (⟨"QuestionDeskModel", "part", "(I)V"⟩, 57), (⟨"QuestionDeskModel", "margin", "(II)I"⟩, 57), (⟨"QuestionDeskModel", "members", "()I"⟩, 57), (⟨"QuestionDeskModel", "wishOf", "(II)I"⟩, 57), (⟨"QuestionDeskModel", "voicesOf", "(I)I"⟩, 57), (⟨"QuestionDeskModel", "standing", "(II)I"⟩, 57), (⟨"QuestionDeskModel", "beats", "(II)Z"⟩, 57), (⟨"QuestionDeskModel", "isTree", "(I)Z"⟩, 57), (⟨"QuestionDeskModel", "endOf", "(I)I"⟩, 57), (⟨"QuestionDeskModel", "load", "(I)V"⟩, 57), (⟨"QuestionDeskModel", "settle", "()I"⟩, 57), (⟨"QuestionDeskModel", "settleQuestion", "(I)V"⟩, 57), (⟨"QuestionDeskModel", "voteOf", "(III)I"⟩, 57), (⟨"QuestionDeskModel", "kindOf", "(I)I"⟩, 57)]
theorem lw_r4 : ∀ q ∈ lw_privs_4, lw_okq q := List.forall_mem_cons.mpr ⟨lw_p48, List.forall_mem_cons.mpr ⟨lw_p49, List.forall_mem_cons.mpr ⟨lw_p50, List.forall_mem_cons.mpr ⟨lw_p51, List.forall_mem_cons.mpr ⟨lw_p52, List.forall_mem_cons.mpr ⟨lw_p53, List.forall_mem_cons.mpr ⟨lw_p54, List.forall_mem_cons.mpr ⟨lw_p55, List.forall_mem_cons.mpr ⟨lw_p56, List.forall_mem_cons.mpr ⟨lw_p57, List.forall_mem_cons.mpr ⟨lw_p58, List.forall_mem_cons.mpr ⟨lw_p59, List.forall_mem_cons.mpr ⟨lw_p60, List.forall_mem_cons.mpr ⟨lw_p61, List.forall_mem_cons.mpr ⟨lw_p62, List.forall_mem_cons.mpr ⟨lw_p63, fun _ h => absurd h List.not_mem_nil⟩⟩⟩⟩⟩⟩⟩⟩⟩⟩⟩⟩⟩⟩⟩⟩
theorem lw_p64 : lw_okq (⟨"QuestionDeskModel", "sign", "(III)I"⟩, 57) := ⟨⟨by decide +kernel, by decide +kernel⟩, List.mem_of_getElem? (i := 1156) (by decide +kernel), List.mem_of_getElem? (i := 1503) (by decide +kernel), List.mem_of_getElem? (i := 1504) (by decide +kernel)⟩
theorem lw_p65 : lw_okq (⟨"QuestionDeskModel", "partyOf", "(I)I"⟩, 57) := ⟨⟨by decide +kernel, by decide +kernel⟩, List.mem_of_getElem? (i := 1156) (by decide +kernel), List.mem_of_getElem? (i := 1507) (by decide +kernel), List.mem_of_getElem? (i := 1508) (by decide +kernel)⟩
theorem lw_p66 : lw_okq (⟨"QuestionDeskModel", "partySign", "(III)I"⟩, 57) := ⟨⟨by decide +kernel, by decide +kernel⟩, List.mem_of_getElem? (i := 1156) (by decide +kernel), List.mem_of_getElem? (i := 1511) (by decide +kernel), List.mem_of_getElem? (i := 1512) (by decide +kernel)⟩
theorem lw_p67 : lw_okq (⟨"QuestionDeskModel", "endFor", "(I)I"⟩, 57) := ⟨⟨by decide +kernel, by decide +kernel⟩, List.mem_of_getElem? (i := 1156) (by decide +kernel), List.mem_of_getElem? (i := 1515) (by decide +kernel), List.mem_of_getElem? (i := 1516) (by decide +kernel)⟩
theorem lw_p68 : lw_okq (⟨"QuestionDeskModel", "isQuestion", "(II)Z"⟩, 57) := ⟨⟨by decide +kernel, by decide +kernel⟩, List.mem_of_getElem? (i := 1156) (by decide +kernel), List.mem_of_getElem? (i := 1527) (by decide +kernel), List.mem_of_getElem? (i := 1528) (by decide +kernel)⟩
theorem lw_p69 : lw_okq (⟨"QuestionDeskModel", "nodeOf", "(I)I"⟩, 57) := ⟨⟨by decide +kernel, by decide +kernel⟩, List.mem_of_getElem? (i := 1156) (by decide +kernel), List.mem_of_getElem? (i := 1531) (by decide +kernel), List.mem_of_getElem? (i := 1532) (by decide +kernel)⟩
theorem lw_p70 : lw_okq (⟨"QuestionDeskModel", "isThere", "(I)Z"⟩, 57) := ⟨⟨by decide +kernel, by decide +kernel⟩, List.mem_of_getElem? (i := 1156) (by decide +kernel), List.mem_of_getElem? (i := 1555) (by decide +kernel), List.mem_of_getElem? (i := 1556) (by decide +kernel)⟩
theorem lw_p71 : lw_okq (⟨"QuestionDeskModel", "orderEnds", "(Z)I"⟩, 57) := ⟨⟨by decide +kernel, by decide +kernel⟩, List.mem_of_getElem? (i := 1156) (by decide +kernel), List.mem_of_getElem? (i := 1559) (by decide +kernel), List.mem_of_getElem? (i := 1560) (by decide +kernel)⟩
theorem lw_p72 : lw_okq (⟨"QuestionDeskModel", "allOrders", "()I"⟩, 57) := ⟨⟨by decide +kernel, by decide +kernel⟩, List.mem_of_getElem? (i := 1156) (by decide +kernel), List.mem_of_getElem? (i := 1567) (by decide +kernel), List.mem_of_getElem? (i := 1568) (by decide +kernel)⟩
theorem lw_p73 : lw_okq (⟨"QuestionDeskModel", "findOrder", "(II)V"⟩, 57) := ⟨⟨by decide +kernel, by decide +kernel⟩, List.mem_of_getElem? (i := 1156) (by decide +kernel), List.mem_of_getElem? (i := 1571) (by decide +kernel), List.mem_of_getElem? (i := 1572) (by decide +kernel)⟩
theorem lw_p74 : lw_okq (⟨"QuestionDeskModel", "reachedFrom", "(I)I"⟩, 57) := ⟨⟨by decide +kernel, by decide +kernel⟩, List.mem_of_getElem? (i := 1156) (by decide +kernel), List.mem_of_getElem? (i := 1587) (by decide +kernel), List.mem_of_getElem? (i := 1588) (by decide +kernel)⟩
theorem lw_p75 : lw_okq (⟨"QuestionDeskModel", "isCovered", "(I)Z"⟩, 57) := ⟨⟨by decide +kernel, by decide +kernel⟩, List.mem_of_getElem? (i := 1156) (by decide +kernel), List.mem_of_getElem? (i := 1591) (by decide +kernel), List.mem_of_getElem? (i := 1592) (by decide +kernel)⟩
theorem lw_p76 : lw_okq (⟨"QuestionDeskModel", "isKiller", "(II)Z"⟩, 57) := ⟨⟨by decide +kernel, by decide +kernel⟩, List.mem_of_getElem? (i := 1156) (by decide +kernel), List.mem_of_getElem? (i := 1599) (by decide +kernel), List.mem_of_getElem? (i := 1600) (by decide +kernel)⟩
theorem lw_p77 : lw_okq (⟨"QuestionDeskModel", "against", "(I)V"⟩, 57) := ⟨⟨by decide +kernel, by decide +kernel⟩, List.mem_of_getElem? (i := 1156) (by decide +kernel), List.mem_of_getElem? (i := 1603) (by decide +kernel), List.mem_of_getElem? (i := 1604) (by decide +kernel)⟩
theorem lw_p78 : lw_okq (⟨"QuestionDeskModel", "findUnsure", "()I"⟩, 57) := ⟨⟨by decide +kernel, by decide +kernel⟩, List.mem_of_getElem? (i := 1156) (by decide +kernel), List.mem_of_getElem? (i := 1628) (by decide +kernel), List.mem_of_getElem? (i := 1629) (by decide +kernel)⟩
theorem lw_p79 : lw_okq (⟨"QuestionDeskModel", "findRing", "(I)Z"⟩, 57) := ⟨⟨by decide +kernel, by decide +kernel⟩, List.mem_of_getElem? (i := 1156) (by decide +kernel), List.mem_of_getElem? (i := 1648) (by decide +kernel), List.mem_of_getElem? (i := 1649) (by decide +kernel)⟩
def lw_privs_5 : List (MethodName × Nat) := [(⟨"QuestionDeskModel", "sign", "(III)I"⟩, 57), (⟨"QuestionDeskModel", "partyOf", "(I)I"⟩, 57), (⟨"QuestionDeskModel", "partySign", "(III)I"⟩, 57), (⟨"QuestionDeskModel", "endFor", "(I)I"⟩, 57), (⟨"QuestionDeskModel", "isQuestion", "(II)Z"⟩, 57), (⟨"QuestionDeskModel", "nodeOf", "(I)I"⟩, 57), (⟨"QuestionDeskModel", "isThere", "(I)Z"⟩, 57), (⟨"QuestionDeskModel", "orderEnds", "(Z)I"⟩, 57), (⟨"QuestionDeskModel", "allOrders", "()I"⟩, 57), (⟨"QuestionDeskModel", "findOrder", "(II)V"⟩, 57), (⟨"QuestionDeskModel", "reachedFrom", "(I)I"⟩, 57), (⟨"QuestionDeskModel", "isCovered", "(I)Z"⟩, 57), (⟨"QuestionDeskModel", "isKiller", "(II)Z"⟩, 57), (⟨"QuestionDeskModel", "against", "(I)V"⟩, 57), (⟨"QuestionDeskModel", "findUnsure", "()I"⟩, 57), (⟨"QuestionDeskModel", "findRing", "(I)Z"⟩, 57)]
theorem lw_r5 : ∀ q ∈ lw_privs_5, lw_okq q := List.forall_mem_cons.mpr ⟨lw_p64, List.forall_mem_cons.mpr ⟨lw_p65, List.forall_mem_cons.mpr ⟨lw_p66, List.forall_mem_cons.mpr ⟨lw_p67, List.forall_mem_cons.mpr ⟨lw_p68, List.forall_mem_cons.mpr ⟨lw_p69, List.forall_mem_cons.mpr ⟨lw_p70, List.forall_mem_cons.mpr ⟨lw_p71, List.forall_mem_cons.mpr ⟨lw_p72, List.forall_mem_cons.mpr ⟨lw_p73, List.forall_mem_cons.mpr ⟨lw_p74, List.forall_mem_cons.mpr ⟨lw_p75, List.forall_mem_cons.mpr ⟨lw_p76, List.forall_mem_cons.mpr ⟨lw_p77, List.forall_mem_cons.mpr ⟨lw_p78, List.forall_mem_cons.mpr ⟨lw_p79, fun _ h => absurd h List.not_mem_nil⟩⟩⟩⟩⟩⟩⟩⟩⟩⟩⟩⟩⟩⟩⟩⟩
theorem lw_p80 : lw_okq (⟨"QuestionDeskModel", "findChamber", "(I)V"⟩, 57) := ⟨⟨by decide +kernel, by decide +kernel⟩, List.mem_of_getElem? (i := 1156) (by decide +kernel), List.mem_of_getElem? (i := 1660) (by decide +kernel), List.mem_of_getElem? (i := 1661) (by decide +kernel)⟩
theorem lw_p81 : lw_okq (⟨"QuestionDeskModel", "breaks", "(II)Z"⟩, 57) := ⟨⟨by decide +kernel, by decide +kernel⟩, List.mem_of_getElem? (i := 1156) (by decide +kernel), List.mem_of_getElem? (i := 1664) (by decide +kernel), List.mem_of_getElem? (i := 1665) (by decide +kernel)⟩
theorem lw_p82 : lw_okq (⟨"QuestionDeskModel", "failureOf", "(I)I"⟩, 57) := ⟨⟨by decide +kernel, by decide +kernel⟩, List.mem_of_getElem? (i := 1156) (by decide +kernel), List.mem_of_getElem? (i := 1691) (by decide +kernel), List.mem_of_getElem? (i := 1692) (by decide +kernel)⟩
theorem lw_p83 : lw_okq (⟨"QuestionDeskModel", "wrongRow", "(I)I"⟩, 57) := ⟨⟨by decide +kernel, by decide +kernel⟩, List.mem_of_getElem? (i := 1156) (by decide +kernel), List.mem_of_getElem? (i := 1703) (by decide +kernel), List.mem_of_getElem? (i := 1704) (by decide +kernel)⟩
theorem lw_p84 : lw_okq (⟨"QuestionDeskModel", "wrongShelf", "(I)I"⟩, 57) := ⟨⟨by decide +kernel, by decide +kernel⟩, List.mem_of_getElem? (i := 1156) (by decide +kernel), List.mem_of_getElem? (i := 1722) (by decide +kernel), List.mem_of_getElem? (i := 1723) (by decide +kernel)⟩
def lw_privs_6 : List (MethodName × Nat) := [(⟨"QuestionDeskModel", "findChamber", "(I)V"⟩, 57), (⟨"QuestionDeskModel", "breaks", "(II)Z"⟩, 57), (⟨"QuestionDeskModel", "failureOf", "(I)I"⟩, 57), (⟨"QuestionDeskModel", "wrongRow", "(I)I"⟩, 57), (⟨"QuestionDeskModel", "wrongShelf", "(I)I"⟩, 57)]
theorem lw_r6 : ∀ q ∈ lw_privs_6, lw_okq q := List.forall_mem_cons.mpr ⟨lw_p80, List.forall_mem_cons.mpr ⟨lw_p81, List.forall_mem_cons.mpr ⟨lw_p82, List.forall_mem_cons.mpr ⟨lw_p83, List.forall_mem_cons.mpr ⟨lw_p84, fun _ h => absurd h List.not_mem_nil⟩⟩⟩⟩⟩
def lw_privs : List (MethodName × Nat) := lw_privs_1 ++ (lw_privs_2 ++ (lw_privs_3 ++ (lw_privs_4 ++ (lw_privs_5 ++ (lw_privs_6)))))
def lw_tbl : List Cond := k2_sels lw_privs ++ tables_1
theorem lw_privs_ok : ∀ q ∈ lw_privs, lw_okq q := by
  show ∀ q ∈ lw_privs_1 ++ (lw_privs_2 ++ (lw_privs_3 ++ (lw_privs_4 ++ (lw_privs_5 ++ (lw_privs_6))))), lw_okq q
  exact List.forall_mem_append.mpr ⟨lw_r1, List.forall_mem_append.mpr ⟨lw_r2, List.forall_mem_append.mpr ⟨lw_r3, List.forall_mem_append.mpr ⟨lw_r4, List.forall_mem_append.mpr ⟨lw_r5, lw_r6⟩⟩⟩⟩⟩
end
section
def RX0 : String := "QuestionDesk$Chamber"
def TX0 : u_T := fun k => match k with
  | 0 => ("QuestionDesk$Chamber", "ends", "I", false)
  | 1 => ("QuestionDesk$Chamber", "chair", "I", false)
  | 2 => ("QuestionDesk$Chamber", "size", "I", false)
  | 3 => ("QuestionDesk$Chamber", "trees", "I", false)
  | 4 => ("QuestionDesk$Chamber", "members", "[LQuestionDesk$Member;", true)
  | _ => ("QuestionDesk$Chamber", "told", "[LQuestionDesk$Tree;", true)
def tyX0 : Nat → FieldType := fun k => match k with
  | 0 => .int
  | 1 => .int
  | 2 => .int
  | 3 => .int
  | 4 => .array (.object "QuestionDesk$Member")
  | _ => .array (.object "QuestionDesk$Tree")
abbrev wsX00 : List Cond := u_ws RX0 TX0 6
theorem nmX0 : ∀ a, a < 6 → ∀ b, b < 6 → a ≠ b → (TX0 a).2.1 ≠ (TX0 b).2.1 := by decide +kernel
theorem tyX0_ok : ∀ k, k < 6 → parseFieldDescriptor (TX0 k).2.2.1 = some (tyX0 k) := by decide +kernel
def RX1 : String := "QuestionDesk$Hall"
def TX1 : u_T := fun k => match k with
  | 0 => ("QuestionDesk$Hall", "size", "I", false)
  | 1 => ("QuestionDesk$Hall", "chair", "I", false)
  | 2 => ("QuestionDesk$Hall", "steps", "I", false)
  | 3 => ("QuestionDesk$Hall", "seats", "[LQuestionDesk$Member;", true)
  | 4 => ("QuestionDesk$Hall", "names", "[I", true)
  | 5 => ("QuestionDesk$Hall", "comes", "[I", true)
  | 6 => ("QuestionDesk$Hall", "won", "[I", true)
  | 7 => ("QuestionDesk$Hall", "leads", "[I", true)
  | 8 => ("QuestionDesk$Hall", "standing", "[I", true)
  | 9 => ("QuestionDesk$Hall", "seen", "[I", true)
  | 10 => ("QuestionDesk$Hall", "lines", "[I", true)
  | _ => ("QuestionDesk$Hall", "wonBefore", "[I", true)
def tyX1 : Nat → FieldType := fun k => match k with
  | 0 => .int
  | 1 => .int
  | 2 => .int
  | 3 => .array (.object "QuestionDesk$Member")
  | 4 => .array .int
  | 5 => .array .int
  | 6 => .array .int
  | 7 => .array .int
  | 8 => .array .int
  | 9 => .array .int
  | 10 => .array .int
  | _ => .array .int
abbrev wsX10 : List Cond := u_ws RX1 TX1 12
theorem nmX1 : ∀ a, a < 12 → ∀ b, b < 12 → a ≠ b → (TX1 a).2.1 ≠ (TX1 b).2.1 := by decide +kernel
theorem tyX1_ok : ∀ k, k < 12 → parseFieldDescriptor (TX1 k).2.2.1 = some (tyX1 k) := by decide +kernel
def RX2 : String := "QuestionDesk$Laws"
def TX2 : u_T := fun k => match k with
  | 0 => ("QuestionDesk$Laws", "hall", "LQuestionDesk$Hall;", true)
  | 1 => ("QuestionDesk$Laws", "size", "I", false)
  | 2 => ("QuestionDesk$Laws", "chambers", "I", false)
  | _ => ("QuestionDesk$Laws", "ends", "[I", true)
def tyX2 : Nat → FieldType := fun k => match k with
  | 0 => .object "QuestionDesk$Hall"
  | 1 => .int
  | 2 => .int
  | _ => .array .int
abbrev wsX20 : List Cond := u_ws RX2 TX2 4
theorem nmX2 : ∀ a, a < 4 → ∀ b, b < 4 → a ≠ b → (TX2 a).2.1 ≠ (TX2 b).2.1 := by decide +kernel
theorem tyX2_ok : ∀ k, k < 4 → parseFieldDescriptor (TX2 k).2.2.1 = some (tyX2 k) := by decide +kernel
def RX3 : String := "QuestionDesk$Member"
def TX3 : u_T := fun k => match k with
  | 0 => ("QuestionDesk$Member", "which", "I", false)
  | 1 => ("QuestionDesk$Member", "kind", "I", false)
  | 2 => ("QuestionDesk$Member", "voices", "I", false)
  | 3 => ("QuestionDesk$Member", "number", "I", false)
  | 4 => ("QuestionDesk$Member", "end", "I", false)
  | 5 => ("QuestionDesk$Member", "chance", "I", false)
  | 6 => ("QuestionDesk$Member", "wishes", "[I", true)
  | _ => ("QuestionDesk$Member", "doubts", "[I", true)
def tyX3 : Nat → FieldType := fun k => match k with
  | 0 => .int
  | 1 => .int
  | 2 => .int
  | 3 => .int
  | 4 => .int
  | 5 => .int
  | 6 => .array .int
  | _ => .array .int
abbrev wsX30 : List Cond := u_ws RX3 TX3 8
theorem nmX3 : ∀ a, a < 8 → ∀ b, b < 8 → a ≠ b → (TX3 a).2.1 ≠ (TX3 b).2.1 := by decide +kernel
theorem tyX3_ok : ∀ k, k < 8 → parseFieldDescriptor (TX3 k).2.2.1 = some (tyX3 k) := by decide +kernel
def RX4 : String := "QuestionDesk$Orders"
def TX4 : u_T := fun k => match k with
  | 0 => ("QuestionDesk$Orders", "ends", "I", false)
  | 1 => ("QuestionDesk$Orders", "all", "I", false)
  | 2 => ("QuestionDesk$Orders", "over", "[I", true)
  | 3 => ("QuestionDesk$Orders", "line", "[I", true)
  | _ => ("QuestionDesk$Orders", "peaks", "[I", true)
def tyX4 : Nat → FieldType := fun k => match k with
  | 0 => .int
  | 1 => .int
  | 2 => .array .int
  | 3 => .array .int
  | _ => .array .int
abbrev wsX40 : List Cond := u_ws RX4 TX4 5
theorem nmX4 : ∀ a, a < 5 → ∀ b, b < 5 → a ≠ b → (TX4 a).2.1 ≠ (TX4 b).2.1 := by decide +kernel
theorem tyX4_ok : ∀ k, k < 5 → parseFieldDescriptor (TX4 k).2.2.1 = some (tyX4 k) := by decide +kernel
def RX5 : String := "QuestionDesk$Plots"
def TX5 : u_T := fun k => match k with
  | 0 => ("QuestionDesk$Plots", "chamber", "LQuestionDesk$Chamber;", true)
  | 1 => ("QuestionDesk$Plots", "hall", "LQuestionDesk$Hall;", true)
  | 2 => ("QuestionDesk$Plots", "doubtful", "[I", true)
  | 3 => ("QuestionDesk$Plots", "line", "[I", true)
  | 4 => ("QuestionDesk$Plots", "lie", "[I", true)
  | 5 => ("QuestionDesk$Plots", "others", "[I", true)
  | 6 => ("QuestionDesk$Plots", "merged", "[I", true)
  | _ => ("QuestionDesk$Plots", "lieEnd", "I", false)
def tyX5 : Nat → FieldType := fun k => match k with
  | 0 => .object "QuestionDesk$Chamber"
  | 1 => .object "QuestionDesk$Hall"
  | 2 => .array .int
  | 3 => .array .int
  | 4 => .array .int
  | 5 => .array .int
  | 6 => .array .int
  | _ => .int
abbrev wsX50 : List Cond := u_ws RX5 TX5 8
theorem nmX5 : ∀ a, a < 8 → ∀ b, b < 8 → a ≠ b → (TX5 a).2.1 ≠ (TX5 b).2.1 := by decide +kernel
theorem tyX5_ok : ∀ k, k < 8 → parseFieldDescriptor (TX5 k).2.2.1 = some (tyX5 k) := by decide +kernel
def RX6 : String := "QuestionDesk$Reader"
def TX6 : u_T := fun k => match k with
  | 0 => ("QuestionDesk$Reader", "text", "[I", false)
  | 1 => ("QuestionDesk$Reader", "size", "I", false)
  | 2 => ("QuestionDesk$Reader", "ends", "I", false)
  | 3 => ("QuestionDesk$Reader", "at", "I", false)
  | 4 => ("QuestionDesk$Reader", "nodes", "I", false)
  | 5 => ("QuestionDesk$Reader", "what", "[I", true)
  | 6 => ("QuestionDesk$Reader", "second", "[I", true)
  | _ => ("QuestionDesk$Reader", "pairs", "[I", true)
def tyX6 : Nat → FieldType := fun k => match k with
  | 0 => .array .int
  | 1 => .int
  | 2 => .int
  | 3 => .int
  | 4 => .int
  | 5 => .array .int
  | 6 => .array .int
  | _ => .array .int
abbrev wsX60 : List Cond := u_ws RX6 TX6 8
theorem nmX6 : ∀ a, a < 8 → ∀ b, b < 8 → a ≠ b → (TX6 a).2.1 ≠ (TX6 b).2.1 := by decide +kernel
theorem tyX6_ok : ∀ k, k < 8 → parseFieldDescriptor (TX6 k).2.2.1 = some (tyX6 k) := by decide +kernel
def RX7 : String := "QuestionDesk$Shelf"
def TX7 : u_T := fun k => match k with
  | 0 => ("QuestionDesk$Shelf", "holds", "I", false)
  | 1 => ("QuestionDesk$Shelf", "sort", "I", false)
  | 2 => ("QuestionDesk$Shelf", "size", "I", false)
  | 3 => ("QuestionDesk$Shelf", "member", "LQuestionDesk$Member;", true)
  | _ => ("QuestionDesk$Shelf", "cells", "[I", true)
def tyX7 : Nat → FieldType := fun k => match k with
  | 0 => .int
  | 1 => .int
  | 2 => .int
  | 3 => .object "QuestionDesk$Member"
  | _ => .array .int
abbrev wsX70 : List Cond := u_ws RX7 TX7 5
theorem nmX7 : ∀ a, a < 5 → ∀ b, b < 5 → a ≠ b → (TX7 a).2.1 ≠ (TX7 b).2.1 := by decide +kernel
theorem tyX7_ok : ∀ k, k < 5 → parseFieldDescriptor (TX7 k).2.2.1 = some (tyX7 k) := by decide +kernel
def RX8 : String := "QuestionDesk$Tree"
def TX8 : u_T := fun k => match k with
  | 0 => ("QuestionDesk$Tree", "nodes", "I", true)
  | 1 => ("QuestionDesk$Tree", "what", "[I", true)
  | 2 => ("QuestionDesk$Tree", "second", "[I", true)
  | 3 => ("QuestionDesk$Tree", "pairs", "[I", true)
  | 4 => ("QuestionDesk$Tree", "questions", "I", true)
  | 5 => ("QuestionDesk$Tree", "standing", "I", true)
  | _ => ("QuestionDesk$Tree", "asked", "I", true)
def tyX8 : Nat → FieldType := fun k => match k with
  | 0 => .int
  | 1 => .array .int
  | 2 => .array .int
  | 3 => .array .int
  | 4 => .int
  | 5 => .int
  | _ => .int
abbrev wsX80 : List Cond := u_ws RX8 TX8 7
theorem nmX8 : ∀ a, a < 7 → ∀ b, b < 7 → a ≠ b → (TX8 a).2.1 ≠ (TX8 b).2.1 := by decide +kernel
theorem tyX8_ok : ∀ k, k < 7 → parseFieldDescriptor (TX8 k).2.2.1 = some (tyX8 k) := by decide +kernel
def RX9 : String := "QuestionDesk"
def TX9 : u_T := fun k => match k with
  | 0 => ("QuestionDesk", "now", "LQuestionDesk$Chamber;", true)
  | 1 => ("QuestionDesk", "picture", "LQuestionDesk$Chamber;", true)
  | 2 => ("QuestionDesk", "pictured", "Z", false)
  | 3 => ("QuestionDesk", "shelves", "[LQuestionDesk$Shelf;", true)
  | 4 => ("QuestionDesk", "reader", "LQuestionDesk$Reader;", true)
  | 5 => ("QuestionDesk", "hall", "LQuestionDesk$Hall;", true)
  | 6 => ("QuestionDesk", "orders", "LQuestionDesk$Orders;", true)
  | 7 => ("QuestionDesk", "plots", "LQuestionDesk$Plots;", true)
  | _ => ("QuestionDesk", "laws", "LQuestionDesk$Laws;", true)
def tyX9 : Nat → FieldType := fun k => match k with
  | 0 => .object "QuestionDesk$Chamber"
  | 1 => .object "QuestionDesk$Chamber"
  | 2 => .boolean
  | 3 => .array (.object "QuestionDesk$Shelf")
  | 4 => .object "QuestionDesk$Reader"
  | 5 => .object "QuestionDesk$Hall"
  | 6 => .object "QuestionDesk$Orders"
  | 7 => .object "QuestionDesk$Plots"
  | _ => .object "QuestionDesk$Laws"
abbrev wsX90 : List Cond := u_ws RX9 TX9 9
theorem nmX9 : ∀ a, a < 9 → ∀ b, b < 9 → a ≠ b → (TX9 a).2.1 ≠ (TX9 b).2.1 := by decide +kernel
theorem tyX9_ok : ∀ k, k < 9 → parseFieldDescriptor (TX9 k).2.2.1 = some (tyX9 k) := by decide +kernel
def RX10 : String := "QuestionDeskModel"
def TX10 : u_T := fun k => match k with
  | 0 => ("QuestionDeskModel", "thrown", "I", false)
  | 1 => ("QuestionDeskModel", "st", "[I", true)
  | 2 => ("QuestionDeskModel", "imaged", "[I", true)
  | 3 => ("QuestionDeskModel", "hasImage", "Z", false)
  | 4 => ("QuestionDeskModel", "tMany", "[I", true)
  | 5 => ("QuestionDeskModel", "tQuestions", "[I", true)
  | 6 => ("QuestionDeskModel", "tKind", "[I", true)
  | 7 => ("QuestionDeskModel", "tLeft", "[I", true)
  | 8 => ("QuestionDeskModel", "tRight", "[I", true)
  | 9 => ("QuestionDeskModel", "tX", "[I", true)
  | 10 => ("QuestionDeskModel", "tY", "[I", true)
  | 11 => ("QuestionDeskModel", "base", "I", false)
  | 12 => ("QuestionDeskModel", "end", "I", false)
  | 13 => ("QuestionDeskModel", "at", "I", false)
  | 14 => ("QuestionDeskModel", "isBad", "Z", false)
  | 15 => ("QuestionDeskModel", "nodes", "I", false)
  | 16 => ("QuestionDeskModel", "questions", "I", false)
  | 17 => ("QuestionDeskModel", "nKind", "[I", true)
  | 18 => ("QuestionDeskModel", "nLeft", "[I", true)
  | 19 => ("QuestionDeskModel", "nRight", "[I", true)
  | 20 => ("QuestionDeskModel", "nX", "[I", true)
  | 21 => ("QuestionDeskModel", "nY", "[I", true)
  | 22 => ("QuestionDeskModel", "oKind", "[I", true)
  | 23 => ("QuestionDeskModel", "oLeft", "[I", true)
  | 24 => ("QuestionDeskModel", "oX", "[I", true)
  | 25 => ("QuestionDeskModel", "oY", "[I", true)
  | 26 => ("QuestionDeskModel", "open", "I", false)
  | 27 => ("QuestionDeskModel", "isDone", "Z", false)
  | 28 => ("QuestionDeskModel", "allOf", "I", false)
  | 29 => ("QuestionDeskModel", "madeDeep", "I", false)
  | 30 => ("QuestionDeskModel", "doubts", "I", false)
  | 31 => ("QuestionDeskModel", "liar", "I", false)
  | 32 => ("QuestionDeskModel", "lie", "[I", true)
  | 33 => ("QuestionDeskModel", "boughtSet", "I", false)
  | 34 => ("QuestionDeskModel", "boughtFor", "I", false)
  | 35 => ("QuestionDeskModel", "chamber", "I", false)
  | 36 => ("QuestionDeskModel", "likings", "[I", true)
  | 37 => ("QuestionDeskModel", "name", "[I", true)
  | 38 => ("QuestionDeskModel", "inside", "[I", true)
  | 39 => ("QuestionDeskModel", "comes", "[I", true)
  | 40 => ("QuestionDeskModel", "sees", "[I", true)
  | 41 => ("QuestionDeskModel", "voted", "[I", true)
  | 42 => ("QuestionDeskModel", "wins", "[I", true)
  | 43 => ("QuestionDeskModel", "plainWins", "[I", true)
  | 44 => ("QuestionDeskModel", "ends", "[I", true)
  | 45 => ("QuestionDeskModel", "endMany", "I", false)
  | 46 => ("QuestionDeskModel", "standAt", "[I", true)
  | 47 => ("QuestionDeskModel", "unsure", "[I", true)
  | 48 => ("QuestionDeskModel", "topEnds", "[I", true)
  | 49 => ("QuestionDeskModel", "ringAt", "[I", true)
  | 50 => ("QuestionDeskModel", "holdsWhat", "[I", true)
  | 51 => ("QuestionDeskModel", "shelfHeft", "[I", true)
  | 52 => ("QuestionDeskModel", "shelfFailure", "[I", true)
  | 53 => ("QuestionDeskModel", "rowSort", "[I", true)
  | 54 => ("QuestionDeskModel", "rowMany", "[I", true)
  | 55 => ("QuestionDeskModel", "rows", "[J", true)
  | _ => ("QuestionDeskModel", "between", "[J", true)
def tyX10 : Nat → FieldType := fun k => match k with
  | 0 => .int
  | 1 => .array .int
  | 2 => .array .int
  | 3 => .boolean
  | 4 => .array .int
  | 5 => .array .int
  | 6 => .array .int
  | 7 => .array .int
  | 8 => .array .int
  | 9 => .array .int
  | 10 => .array .int
  | 11 => .int
  | 12 => .int
  | 13 => .int
  | 14 => .boolean
  | 15 => .int
  | 16 => .int
  | 17 => .array .int
  | 18 => .array .int
  | 19 => .array .int
  | 20 => .array .int
  | 21 => .array .int
  | 22 => .array .int
  | 23 => .array .int
  | 24 => .array .int
  | 25 => .array .int
  | 26 => .int
  | 27 => .boolean
  | 28 => .int
  | 29 => .int
  | 30 => .int
  | 31 => .int
  | 32 => .array .int
  | 33 => .int
  | 34 => .int
  | 35 => .int
  | 36 => .array .int
  | 37 => .array .int
  | 38 => .array .int
  | 39 => .array .int
  | 40 => .array .int
  | 41 => .array .int
  | 42 => .array .int
  | 43 => .array .int
  | 44 => .array .int
  | 45 => .int
  | 46 => .array .int
  | 47 => .array .int
  | 48 => .array .int
  | 49 => .array .int
  | 50 => .array .int
  | 51 => .array .int
  | 52 => .array .int
  | 53 => .array .int
  | 54 => .array .int
  | 55 => .array .long
  | _ => .array .long
abbrev wsX100 : List Cond := u_ws RX10 TX10 57
theorem nmX10 : ∀ a, a < 57 → ∀ b, b < 57 → a ≠ b → (TX10 a).2.1 ≠ (TX10 b).2.1 := by decide +kernel
theorem tyX10_ok : ∀ k, k < 57 → parseFieldDescriptor (TX10 k).2.2.1 = some (tyX10 k) := by decide +kernel
def RL : String := "QuestionDeskLaw"
end
section
/-! THE PURE MACHINE: the part of the bytecode that class, law and reference use, over a heap of its own. An op is an instruction with its operands resolved: getfield (64 * class + field), invoke.. (the method's place in the list), new (the class), jumps to blocks, every int constant an iconst, every long constant a goto_w, Object.<init> a monitorenter, System.arraycopy a swap, Math.max a dup_x1, Math.min a dup_x2. -/
abbrev pm_S : Type := List va_E × Nat
abbrev pm_F : Type := List (Option Value) × List Value × pm_S
abbrev pm_X : Type := Nat → Option (Nat × (Nat → Int32))
abbrev pm_T : Type := Option Value × pm_S
/-- a method: its name, bytes, locals, return; how many arguments beside 'this', its class; its blocks -/
abbrev pm_M : Type := (MethodName × ByteArray × Nat × Option FieldType) × (Nat × Nat) × List (Nat × List Instr)
/-- the class list, and a class's field types -/
def pm_cl : List vw_C := [(RX0, TX0, 6), (RX1, TX1, 12), (RX2, TX2, 4), (RX3, TX3, 8), (RX4, TX4, 5), (RX5, TX5, 8), (RX6, TX6, 8), (RX7, TX7, 5), (RX8, TX8, 7), (RX9, TX9, 9), (RX10, TX10, 57), ("java/lang/IllegalArgumentException", TX0, 0), ("java/lang/IllegalStateException", TX0, 0), ("java/lang/UnsupportedOperationException", TX0, 0)]
def pm_ty (ci : Nat) : Nat → FieldType := match ci with
  | 0 => tyX0 | 1 => tyX1 | 2 => tyX2 | 3 => tyX3 | 4 => tyX4 | 5 => tyX5 | 6 => tyX6 | 7 => tyX7 | 8 => tyX8 | 9 => tyX9 | _ => tyX10
def pm_N (ci : Nat) : Nat := match ci with
  | 0 => 6 | 1 => 12 | 2 => 4 | 3 => 8 | 4 => 5 | 5 => 8 | 6 => 8 | 7 => 5 | 8 => 7 | 9 => 9 | _ => 57
/-- an object as new -/
def pm_blank (ci : Nat) : List Value := (List.range (pm_N ci)).map (fun k => defaultValue (pm_ty ci k))
/-- array kinds: 0 int, 1 long, 2 Member, 3 Tree, 4 Shelf: the class of what they hold -/
def pm_ac (t : Nat) : Nat := match t with
  | 2 => 3 | 3 => 8 | _ => 7
def pm_get (X : pm_X) (h : List va_E) (a : Nat) : Option va_E := if a < 8 then (X a).map (fun p => .inl (0, p.1, .inl p.2)) else h[a - 8]?
def pm_ld (L : List (Option Value)) (i : Nat) : Option Value := match L[i]? with
  | some v => v
  | none => none
def pm_clr (L : List (Option Value)) (i : Nat) : List (Option Value) := match i with
  | 0 => L
  | j + 1 => match L[j]? with
    | some (some v) => if v.category = 2 then L.set j none else L
    | _ => L
def pm_st (L : List (Option Value)) (i : Nat) (v : Value) : Option (List (Option Value)) :=
  if v.category = 2 then (if i + 1 < L.length then some (((pm_clr L i).set (i + 1) none).set i (some v)) else none)
  else (if i < L.length then some ((pm_clr L i).set i (some v)) else none)
def pm_fit (ty : FieldType) (v : Value) : Bool := match ty with
  | .int => match v with | .int _ => true | _ => false
  | .long => match v with | .long _ => true | _ => false
  | .boolean => match v with | .int x => x == 0 || x == 1 | _ => false
  | .object _ => match v with | .ref _ => true | .null => true | _ => false
  | .array _ => match v with | .ref _ => true | .null => true | _ => false
  | _ => false
/-- two ints off the stack -/
def pm_b2 (g : Int32 → Int32 → Option Value) (f : pm_F) : Option pm_F := match f.2.1 with
  | .int y :: .int x :: st => match g x y with | some v => some (f.1, v :: st, f.2.2) | none => none
  | _ => none
def pm_b1 (g : Int32 → Value) (f : pm_F) : Option pm_F := match f.2.1 with
  | .int x :: st => some (f.1, g x :: st, f.2.2)
  | _ => none
def pm_l2 (g : Int64 → Int64 → Value) (f : pm_F) : Option pm_F := match f.2.1 with
  | .long y :: .long x :: st => some (f.1, g x y :: st, f.2.2)
  | _ => none
def pm_push (v : Value) (f : pm_F) : Option pm_F := some (f.1, v :: f.2.1, f.2.2)
def pm_isI (v : Value) : Bool := match v with | .int _ => true | _ => false
def pm_isL (v : Value) : Bool := match v with | .long _ => true | _ => false
def pm_isA (v : Value) : Bool := match v with | .ref _ => true | .null => true | _ => false
def pm_load (k : Value → Bool) (i : Nat) (f : pm_F) : Option pm_F := match pm_ld f.1 i with
  | some v => if k v = true then some (f.1, v :: f.2.1, f.2.2) else none
  | none => none
def pm_store (k : Value → Bool) (i : Nat) (f : pm_F) : Option pm_F := match f.2.1 with
  | v :: st => if k v = true then (match pm_st f.1 i v with | some L => some (L, st, f.2.2) | none => none) else none
  | [] => none
def pm_iinc (i : Nat) (n : Int) (f : pm_F) : Option pm_F := match pm_ld f.1 i with
  | some (.int x) => match pm_st f.1 i (.int (x + Int32.ofInt n)) with | some L => some (L, f.2.1, f.2.2) | none => none
  | _ => none
def pm_iald (X : pm_X) (f : pm_F) : Option pm_F := match f.2.1 with
  | .int i :: .ref a :: st => match pm_get X f.2.2.1 a with
    | some (.inl (0, n, .inl g)) => if i < 0 ∨ n ≤ i.toNatClampNeg then none else some (f.1, .int (g i.toNatClampNeg) :: st, f.2.2)
    | _ => none
  | _ => none
def pm_lald (X : pm_X) (f : pm_F) : Option pm_F := match f.2.1 with
  | .int i :: .ref a :: st => match pm_get X f.2.2.1 a with
    | some (.inl (1, n, .inr (.inl g))) => if i < 0 ∨ n ≤ i.toNatClampNeg then none else some (f.1, .long (g i.toNatClampNeg) :: st, f.2.2)
    | _ => none
  | _ => none
def pm_aald (X : pm_X) (f : pm_F) : Option pm_F := match f.2.1 with
  | .int i :: .ref a :: st => match pm_get X f.2.2.1 a with
    | some (.inl (t, n, .inr (.inr (.inr (.inr g))))) => if 2 ≤ t ∧ t < 5 then (if i < 0 ∨ n ≤ i.toNatClampNeg then none else some (f.1, va_rf (g i.toNatClampNeg) :: st, f.2.2)) else none
    | _ => none
  | _ => none
def pm_iast (X : pm_X) (f : pm_F) : Option pm_F := match f.2.1 with
  | .int x :: .int i :: .ref a :: st => if a < 8 then none else match pm_get X f.2.2.1 a with
    | some (.inl (0, n, .inl g)) => if i < 0 ∨ n ≤ i.toNatClampNeg then none else some (f.1, st, (f.2.2.1.set (a - 8) (.inl (0, n, .inl (upd g i.toNatClampNeg x))), f.2.2.2))
    | _ => none
  | _ => none
def pm_last (X : pm_X) (f : pm_F) : Option pm_F := match f.2.1 with
  | .long x :: .int i :: .ref a :: st => if a < 8 then none else match pm_get X f.2.2.1 a with
    | some (.inl (1, n, .inr (.inl g))) => if i < 0 ∨ n ≤ i.toNatClampNeg then none else some (f.1, st, (f.2.2.1.set (a - 8) (.inl (1, n, .inr (.inl (vp_updL g i.toNatClampNeg x)))), f.2.2.2))
    | _ => none
  | _ => none
def pm_aast (X : pm_X) (f : pm_F) : Option pm_F := match f.2.1 with
  | .ref v :: .int i :: .ref a :: st => if a < 8 ∨ v < 8 then none else match pm_get X f.2.2.1 a, pm_get X f.2.2.1 v with
    | some (.inl (t, n, .inr (.inr (.inr (.inr g))))), some (.inr (ci, _)) => if 2 ≤ t ∧ t < 5 ∧ ci = pm_ac t then (if i < 0 ∨ n ≤ i.toNatClampNeg then none else some (f.1, st, (f.2.2.1.set (a - 8) (.inl (t, n, .inr (.inr (.inr (.inr (va_up g i.toNatClampNeg (some v))))))), f.2.2.2))) else none
    | _, _ => none
  | _ => none
def pm_alen (X : pm_X) (f : pm_F) : Option pm_F := match f.2.1 with
  | .ref a :: st => match pm_get X f.2.2.1 a with
    | some (.inl (0, n, _)) => some (f.1, .int (Int32.ofNat n) :: st, f.2.2)
    | _ => none
  | _ => none
def pm_getf (X : pm_X) (n : Nat) (f : pm_F) : Option pm_F := match f.2.1 with
  | .ref a :: st => if a < 8 then none else match pm_get X f.2.2.1 a with
    | some (.inr (ci, fs)) => if ci = n / 64 then (match fs[n % 64]? with | some v => some (f.1, v :: st, f.2.2) | none => none) else none
    | _ => none
  | _ => none
def pm_putf (X : pm_X) (n : Nat) (f : pm_F) : Option pm_F := match f.2.1 with
  | v :: .ref a :: st => if a < 8 then none else match pm_get X f.2.2.1 a with
    | some (.inr (ci, fs)) => if ci = n / 64 ∧ n % 64 < fs.length ∧ pm_fit (pm_ty (n / 64) (n % 64)) v = true then some (f.1, st, (f.2.2.1.set (a - 8) (.inr (ci, fs.set (n % 64) v)), f.2.2.2)) else none
    | _ => none
  | _ => none
def pm_new (ci : Nat) (f : pm_F) : Option pm_F := if ci < 11 then some (f.1, .ref (8 + f.2.2.1.length) :: f.2.1, (f.2.2.1 ++ [.inr (ci, pm_blank ci)], f.2.2.2 + pm_N ci)) else none
def pm_newa (t : Nat) (k : Nat → vp_A) (f : pm_F) : Option pm_F := match f.2.1 with
  | .int n :: st => if n < 0 ∨ 100000 ≤ n.toNatClampNeg then none else some (f.1, .ref (8 + f.2.2.1.length) :: st, (f.2.2.1 ++ [.inl (t, k n.toNatClampNeg)], f.2.2.2 + n.toNatClampNeg))
  | _ => none
def pm_copy (X : pm_X) (f : pm_F) : Option pm_F := match f.2.1 with
  | .int n :: .int dp :: .ref a :: .int sp :: .ref a0 :: st => if a < 8 ∨ 8 < (st.map fun v => v.category).sum then none else match pm_get X f.2.2.1 a0, pm_get X f.2.2.1 a with
    | some (.inl (0, n0, .inl g0)), some (.inl (0, n1, .inl g1)) => if sp < 0 ∨ dp < 0 ∨ n < 0 ∨ n0 < sp.toNatClampNeg + n.toNatClampNeg ∨ n1 < dp.toNatClampNeg + n.toNatClampNeg then none else some (f.1, st, (f.2.2.1.set (a - 8) (.inl (0, n1, .inl (va_cpy g0 g1 sp.toNatClampNeg dp.toNatClampNeg n.toNatClampNeg))), f.2.2.2))
    | _, _ => none
  | _ => none
def pm_dup (f : pm_F) : Option pm_F := match f.2.1 with
  | v :: st => if v.category = 1 then some (f.1, v :: v :: st, f.2.2) else none
  | [] => none
def pm_dup2 (f : pm_F) : Option pm_F := match f.2.1 with
  | v :: w :: st => if v.category = 1 ∧ w.category = 1 then some (f.1, v :: w :: v :: w :: st, f.2.2) else none
  | _ => none
def pm_pop (f : pm_F) : Option pm_F := match f.2.1 with
  | v :: st => if v.category = 1 then some (f.1, st, f.2.2) else none
  | [] => none
def pm_pop2 (f : pm_F) : Option pm_F := match f.2.1 with
  | v :: st => if v.category = 2 then some (f.1, st, f.2.2) else none
  | [] => none
def pm_oini (f : pm_F) : Option pm_F := match f.2.1 with
  | .ref _ :: st => if (st.map fun v => v.category).sum ≤ 8 then some (f.1, st, f.2.2) else none
  | _ => none
def pm_mm (g : Int32 → Int32 → Int32) (f : pm_F) : Option pm_F := match f.2.1 with
  | .int y :: .int x :: st => if (st.map fun v => v.category).sum ≤ 8 then some (f.1, .int (g x y) :: st, f.2.2) else none
  | _ => none
/-- an op that goes on behind itself -/
def pm_op (X : pm_X) (i : Instr) (f : pm_F) : Option pm_F := match i with
  | .iconst n => pm_push (.int (Int32.ofInt n)) f
  | .goto_w n => pm_push (.long (Int64.ofInt n)) f
  | .aconst_null => pm_push .null f
  | .iload i => pm_load pm_isI i f
  | .lload i => pm_load pm_isL i f
  | .aload i => pm_load pm_isA i f
  | .istore i => pm_store pm_isI i f
  | .lstore i => pm_store pm_isL i f
  | .astore i => pm_store pm_isA i f
  | .iinc i n => pm_iinc i n f
  | .iadd => pm_b2 (fun x y => some (.int (x + y))) f
  | .isub => pm_b2 (fun x y => some (.int (x - y))) f
  | .imul => pm_b2 (fun x y => some (.int (x * y))) f
  | .idiv => pm_b2 (fun x y => if y = 0 then none else some (.int (x / y))) f
  | .irem => pm_b2 (fun x y => if y = 0 then none else some (.int (x - x / y * y))) f
  | .iand => pm_b2 (fun x y => some (.int (x &&& y))) f
  | .ior => pm_b2 (fun x y => some (.int (x ||| y))) f
  | .ixor => pm_b2 (fun x y => some (.int (x ^^^ y))) f
  | .ishl => pm_b2 (fun x y => some (.int (x <<< (y &&& 31)))) f
  | .ishr => pm_b2 (fun x y => some (.int (x >>> (y &&& 31)))) f
  | .iushr => pm_b2 (fun x y => some (.int ((x.toUInt32 >>> (y.toUInt32 &&& Int32.toUInt32 31)).toInt32))) f
  | .ineg => pm_b1 (fun x => .int (-x)) f
  | .i2l => pm_b1 (fun x => .long x.toInt64) f
  | .i2b => pm_b1 (fun x => .int x.toInt8.toInt32) f
  | .i2s => pm_b1 (fun x => .int x.toInt16.toInt32) f
  | .l2i => match f.2.1 with | .long x :: st => some (f.1, .int x.toInt32 :: st, f.2.2) | _ => none
  | .ladd => pm_l2 (fun x y => .long (x + y)) f
  | .lmul => pm_l2 (fun x y => .long (x * y)) f
  | .lcmp => pm_l2 (fun x y => .int (lg_cmp x y)) f
  | .iaload => pm_iald X f
  | .laload => pm_lald X f
  | .aaload => pm_aald X f
  | .iastore => pm_iast X f
  | .lastore => pm_last X f
  | .aastore => pm_aast X f
  | .arraylength => pm_alen X f
  | .getfield n => pm_getf X n f
  | .putfield n => pm_putf X n f
  | .getstatic n => pm_push (.ref n) f
  | .new ci => pm_new ci f
  | .newarray .int => pm_newa 0 (fun n => (n, .inl (fun _ => 0))) f
  | .newarray .long => pm_newa 1 (fun n => (n, .inr (.inl (fun _ => 0)))) f
  | .anewarray t => if 2 ≤ t ∧ t < 5 then pm_newa t (fun n => (n, .inr (.inr (.inr (.inr (fun _ => none)))))) f else none
  | .swap => pm_copy X f
  | .monitorenter => pm_oini f
  | .dup => pm_dup f
  | .dup2 => pm_dup2 f
  | .pop => pm_pop f
  | .pop2 => pm_pop2 f
  | .dup_x1 => pm_mm (fun x y => if x < y then y else x) f
  | .dup_x2 => pm_mm (fun x y => if y < x then y else x) f
  | _ => none
def pm_cond (c : ClassFile.Cond) (x y : Int32) : Bool := match c with
  | .eq => decide (x = y)
  | .ne => decide (¬ x = y)
  | .lt => decide (x < y)
  | .ge => decide (y ≤ x)
  | .gt => decide (y < x)
  | .le => decide (x ≤ y)
abbrev pm_O : Type := (Nat × pm_F) ⊕ pm_T
/-- a call: n arguments off the stack, and 'this' -/
def pm_inv (n : Nat) (this : Bool) (st : List Value) : Option (List Value × List Value) :=
  let k := if this = true then n + 1 else n
  if k ≤ st.length ∧ ((st.drop k).map fun v => v.category).sum ≤ 8 then some ((st.take k).reverse, st.drop k) else none
/-- the receiver is an object of that class -/
def pm_rcv (X : pm_X) (h : List va_E) (ci : Nat) (as : List Value) : Bool := match as with
  | .ref a :: _ => if a < 8 then false else match pm_get X h a with | some (.inr (c, _)) => c == ci | _ => false
  | _ => false
def pm_isR (as : List Value) : Bool := match as with
  | .ref _ :: _ => true
  | _ => false
def pm_sig (M : List pm_M) (mid : Nat) : Option (Nat × Nat) := match M[mid]? with
  | some m => some m.2.1
  | none => none
def pm_ret (ret : Option FieldType) (v : Value) : Bool := match ret with
  | some ty => pm_fit ty v
  | none => false
def pm_tab (d lo hi : Int) (offs : Array Int) (x : Int32) : Option Int := if x.toInt < lo ∨ hi < x.toInt then some d else offs[(x.toInt - lo).toNat]?
/-- the ops of block b: where it goes on, or what it returns -/
def pm_ex (X : pm_X) (M : List pm_M) (cf : Nat → List Value → pm_S → Option pm_T) (ret : Option FieldType) (b : Nat) : List Instr → pm_F → Option pm_O
  | [], f => some (.inl (b + 1, f))
  | i :: is, f => match i with
    | .goto t => some (.inl (t.toNat, f))
    | .ifCond c t => match f.2.1 with
      | .int x :: st => if pm_cond c x 0 = true then some (.inl (t.toNat, (f.1, st, f.2.2))) else some (.inl (b + 1, (f.1, st, f.2.2)))
      | _ => none
    | .if_icmp c t => match f.2.1 with
      | .int y :: .int x :: st => if pm_cond c x y = true then some (.inl (t.toNat, (f.1, st, f.2.2))) else some (.inl (b + 1, (f.1, st, f.2.2)))
      | _ => none
    | .ifnull t => match f.2.1 with
      | .null :: st => some (.inl (t.toNat, (f.1, st, f.2.2)))
      | .ref _ :: st => some (.inl (b + 1, (f.1, st, f.2.2)))
      | _ => none
    | .ifnonnull t => match f.2.1 with
      | .null :: st => some (.inl (b + 1, (f.1, st, f.2.2)))
      | .ref _ :: st => some (.inl (t.toNat, (f.1, st, f.2.2)))
      | _ => none
    | .tableswitch d lo hi offs => match f.2.1 with
      | .int x :: st => match pm_tab d lo hi offs x with | some t => some (.inl (t.toNat, (f.1, st, f.2.2))) | none => none
      | _ => none
    | .lookupswitch d ps => match f.2.1 with
      | .int x :: st => some (.inl ((Op.lookupswitch.offset ps.toList d x.toInt).toNat, (f.1, st, f.2.2)))
      | _ => none
    | .ireturn => match f.2.1 with
      | [.int x] => if pm_ret ret (.int x) = true then some (.inr (some (.int x), f.2.2)) else none
      | _ => none
    | .lreturn => match f.2.1 with
      | [.long x] => if ret = some .long then some (.inr (some (.long x), f.2.2)) else none
      | _ => none
    | .areturn => match f.2.1 with
      | [v] => if pm_isA v = true ∧ pm_ret ret v = true then some (.inr (some v, f.2.2)) else none
      | _ => none
    | .return_ => match f.2.1 with
      | [] => if ret = none then some (.inr (none, f.2.2)) else none
      | _ => none
    | .invokestatic mid => match pm_sig M mid with
      | some q => match pm_inv q.1 false f.2.1 with
        | some r => match cf mid r.1 f.2.2 with
          | some t => pm_ex X M cf ret b is (f.1, t.1.toList ++ r.2, t.2)
          | none => none
        | none => none
      | none => none
    | .invokevirtual mid => match pm_sig M mid with
      | some q => match pm_inv q.1 true f.2.1 with
        | some r => if pm_rcv X f.2.2.1 q.2 r.1 = true then (match cf mid r.1 f.2.2 with
          | some t => pm_ex X M cf ret b is (f.1, t.1.toList ++ r.2, t.2)
          | none => none) else none
        | none => none
      | none => none
    | .invokespecial mid => match pm_sig M mid with
      | some q => match pm_inv q.1 true f.2.1 with
        | some r => if pm_isR r.1 = true then (match cf mid r.1 f.2.2 with
          | some t => pm_ex X M cf ret b is (f.1, t.1.toList ++ r.2, t.2)
          | none => none) else none
        | none => none
      | none => none
    | i => match pm_op X i f with
      | some f' => pm_ex X M cf ret b is f'
      | none => none
def pm_go (X : pm_X) (M : List pm_M) (cf : Nat → List Value → pm_S → Option pm_T) (ret : Option FieldType) (code : List (Nat × List Instr)) : Nat → Nat → pm_F → Option pm_T
  | 0, _, _ => none
  | F + 1, b, f => match code[b]? with
    | none => none
    | some q => match pm_ex X M cf ret b q.2 f with
      | none => none
      | some (.inl g) => pm_go X M cf ret code F g.1 g.2
      | some (.inr t) => some t
def pm_ent (n : Nat) (as : List Value) : Option (List (Option Value)) :=
  let l := as.flatMap (fun v => if v.category = 2 then [some v, none] else [some v])
  if l.length ≤ n then some (l ++ List.replicate (n - l.length) none) else none
def pm_fuel : Nat := 1000000000
abbrev pm_P : Type := Nat → Option (List Value → pm_S → Option pm_T)
/-- method mid with these arguments, calls d deep at most -/
def pm_call (X : pm_X) (M : List pm_M) (PR : pm_P) : Nat → Nat → List Value → pm_S → Option pm_T
  | 0, _, _, _ => none
  | d + 1, mid, as, S => match PR mid with
    | some g => if 16 ≤ d then g as S else none
    | none => match M[mid]? with
      | none => none
      | some m => match pm_ent m.1.2.2.1 as with
        | none => none
        | some L => pm_go X M (pm_call X M PR d) m.1.2.2.2 m.2.2 pm_fuel 0 (L, [], S)
end
section
/-! how the pure machine's frame and heap stand in the real ones -/
def pm_ad (sa : Nat → Nat) (base a : Nat) : Nat := if a < 8 then sa a else base + (a - 8)
def pm_cv (ad : Nat → Nat) (v : Value) : Value := match v with
  | .ref a => .ref (ad a)
  | v => v
def pm_ck (ad : Nat → Nat) (k : (Nat → Int32) ⊕ (Nat → Int64) ⊕ (Nat → UInt32) ⊕ (Nat → UInt64) ⊕ (Nat → Option Nat)) : (Nat → Int32) ⊕ (Nat → Int64) ⊕ (Nat → UInt32) ⊕ (Nat → UInt64) ⊕ (Nat → Option Nat) := match k with
  | .inr (.inr (.inr (.inr f))) => .inr (.inr (.inr (.inr (fun j => (f j).map ad))))
  | k => k
def pm_ce (ad : Nat → Nat) (dA : Nat → ClassId) (e : va_E) : va_E := match e with
  | .inl a => .inl (dA a.1, a.2.1, pm_ck ad a.2.2)
  | .inr o => .inr (o.1, o.2.map (pm_cv ad))
def pm_W (ad : Nat → Nat) (base : Nat) (dA : Nat → ClassId) (h : List va_E) : va_W := h.mapIdx (fun k e => (base + k, pm_ce ad dA e))
theorem pm_W_get {ad : Nat → Nat} {base : Nat} {dA : Nat → ClassId} {h : List va_E} (k : Nat) : (pm_W ad base dA h)[k]? = (h[k]?).map (fun e => (base + k, pm_ce ad dA e)) := by
  simp [pm_W]
theorem pm_W_at {ad : Nat → Nat} {base : Nat} {dA : Nat → ClassId} {h : List va_E} {k : Nat} {e : va_E} (hk : h[k]? = some e) : (pm_W ad base dA h)[k]? = some (base + k, pm_ce ad dA e) := by
  rw [pm_W_get, hk]; rfl
theorem pm_W_len {ad : Nat → Nat} {base : Nat} {dA : Nat → ClassId} {h : List va_E} : (pm_W ad base dA h).length = h.length := by
  simp [pm_W]
theorem pm_W_set {ad : Nat → Nat} {base : Nat} {dA : Nat → ClassId} {h : List va_E} {k : Nat} {e : va_E} : (pm_W ad base dA h).set k (base + k, pm_ce ad dA e) = pm_W ad base dA (h.set k e) := by
  apply List.ext_getElem?
  intro i
  rw [pm_W_get, List.getElem?_set, List.getElem?_set, pm_W_get, pm_W_len]
  by_cases hk : k = i
  · subst hk
    by_cases hl : k < h.length <;> simp [hl]
  · simp [hk]
theorem pm_W_push {ad : Nat → Nat} {base : Nat} {dA : Nat → ClassId} {h : List va_E} {e : va_E} : pm_W ad base dA h ++ [(base + h.length, pm_ce ad dA e)] = pm_W ad base dA (h ++ [e]) := by
  simp [pm_W, List.mapIdx_append]
theorem pm_W_D {ad : Nat → Nat} {base : Nat} {dA : Nat → ClassId} {h : List va_E} : va_D (fun q : Nat => base ≤ q) (pm_W ad base dA h) := by
  refine ⟨fun i j p q hi hj hpq => ?_, fun k q hk => ?_⟩
  · rw [pm_W_get] at hi hj
    cases hi1 : h[i]? with
    | none => rw [hi1] at hi; cases hi
    | some e1 =>
      cases hj1 : h[j]? with
      | none => rw [hj1] at hj; cases hj
      | some e2 =>
        rw [hi1] at hi
        rw [hj1] at hj
        cases hi
        cases hj
        exact Nat.add_left_cancel hpq
  · rw [pm_W_get] at hk
    cases hk1 : h[k]? with
    | none => rw [hk1] at hk; cases hk
    | some e1 =>
      rw [hk1] at hk
      cases hk
      exact Nat.le_add_right _ _
theorem pm_cv_cat (ad : Nat → Nat) (v : Value) : (pm_cv ad v).category = v.category := by
  cases v <;> rfl
theorem pm_cv_sum (ad : Nat → Nat) (st : List Value) : ((st.map (pm_cv ad)).map fun v => v.category).sum = (st.map fun v => v.category).sum := by
  rw [List.map_map]
  congr 1
  apply List.map_congr_left
  intro v _
  exact pm_cv_cat ad v
/-- locals -/
def pm_LR (ad : Nat → Nat) (nL : Nat) (L : List (Option Value)) (ls : Array Slot) : Prop := L.length = nL ∧ ls.size = nL ∧ lv_wf ls ∧ ∀ (i : Nat) (v : Value), L[i]? = some (some v) → ls[i]? = some (.val (pm_cv ad v))
def pm_pairs (ad : Nat → Nat) (L : List (Option Value)) : List (Nat × Value) := (List.range L.length).filterMap (fun i => (pm_ld L i).map (fun v => (i, pm_cv ad v)))
theorem pm_ld_some {L : List (Option Value)} {i : Nat} {v : Value} : pm_ld L i = some v ↔ L[i]? = some (some v) := by
  unfold pm_ld
  cases h : L[i]? with
  | none => simp
  | some o => simp
theorem pm_pairs_mem {ad : Nat → Nat} {L : List (Option Value)} {q : Nat × Value} : q ∈ pm_pairs ad L ↔ ∃ v, L[q.1]? = some (some v) ∧ q.2 = pm_cv ad v := by
  obtain ⟨i, w⟩ := q
  unfold pm_pairs
  rw [List.mem_filterMap]
  constructor
  · rintro ⟨j, -, hj⟩
    cases h : pm_ld L j with
    | none => rw [h] at hj; cases hj
    | some v =>
      rw [h] at hj
      cases hj
      exact ⟨v, pm_ld_some.mp h, rfl⟩
  · rintro ⟨v, h1, h2⟩
    have hl : i < L.length := (List.getElem?_eq_some_iff.mp h1).1
    refine ⟨i, List.mem_range.mpr hl, ?_⟩
    rw [pm_ld_some.mpr h1]
    simp only [Option.map_some]
    rw [← h2]
theorem pm_LR.has {ad : Nat → Nat} {nL : Nat} {L : List (Option Value)} {ls : Array Slot} (h : pm_LR ad nL L ls) : lv_has ls nL (pm_pairs ad L) := by
  refine ⟨h.2.1, h.2.2.1, fun q hq => ?_⟩
  obtain ⟨v, h1, h2⟩ := pm_pairs_mem.mp hq
  rw [h2]
  exact h.2.2.2 _ _ h1
theorem pm_clr_len (L : List (Option Value)) (i : Nat) : (pm_clr L i).length = L.length := by
  unfold pm_clr
  split
  · rfl
  · split
    · split
      · simp
      · rfl
    · rfl
theorem pm_clr_get {L : List (Option Value)} {i j : Nat} {v : Value} (h : (pm_clr L i)[j]? = some (some v)) : L[j]? = some (some v) ∧ ¬ (j + 1 = i ∧ v.category = 2) := by
  unfold pm_clr at h
  split at h
  · exact ⟨h, fun z => by omega⟩
  · rename_i k
    split at h
    · rename_i w hw
      split at h
      · rename_i hc
        rw [List.getElem?_set] at h
        split at h
        · split at h <;> cases h
        · rename_i hne
          exact ⟨h, fun z => hne (by omega)⟩
      · rename_i hc
        refine ⟨h, fun z => ?_⟩
        have e : j = k := by omega
        subst e
        rw [hw] at h
        cases h
        exact hc z.2
    · rename_i hw
      refine ⟨h, fun z => ?_⟩
      have e : j = k := by omega
      subst e
      exact hw _ h
theorem pm_LR.store1 {ad : Nat → Nat} {nL : Nat} {L L' : List (Option Value)} {ls' : Array Slot} {i : Nat} {v : Value} (hl : L.length = nL) (hc : v.category = 1) (hs : pm_st L i v = some L') (h' : lv_has ls' nL ((i, pm_cv ad v) :: (pm_pairs ad L).filter (fun q => !(q.1 == i) && !(q.1 + 1 == i && q.2.category == 2)))) : pm_LR ad nL L' ls' := by
  unfold pm_st at hs
  rw [if_neg (by omega)] at hs
  split at hs
  · rename_i hi
    cases hs
    refine ⟨by simp [pm_clr_len, hl], h'.1, h'.2.1, fun j w hj => ?_⟩
    rw [List.getElem?_set] at hj
    split at hj
    · rename_i e
      subst e
      split at hj
      · cases hj
        exact h'.2.2 (i, pm_cv ad v) (List.mem_cons_self)
      · cases hj
    · rename_i hne
      obtain ⟨h1, h2⟩ := pm_clr_get hj
      refine h'.2.2 (j, pm_cv ad w) (List.mem_cons_of_mem _ (List.mem_filter.mpr ⟨pm_pairs_mem.mpr ⟨w, h1, rfl⟩, ?_⟩))
      have e1 : (j == i) = false := by simp; exact fun z => hne z.symm
      simp only [pm_cv_cat, e1]
      simp only [Bool.not_false, Bool.true_and, Bool.not_eq_true', Bool.and_eq_false_iff, beq_eq_false_iff_ne]
      by_cases hz : j + 1 = i
      · exact Or.inr (fun z => h2 ⟨hz, z⟩)
      · exact Or.inl hz
  · cases hs
theorem pm_LR.store2 {ad : Nat → Nat} {nL : Nat} {L L' : List (Option Value)} {ls' : Array Slot} {i : Nat} {v : Value} (hl : L.length = nL) (hc : v.category = 2) (hs : pm_st L i v = some L') (h' : lv_has ls' nL ((i, pm_cv ad v) :: (pm_pairs ad L).filter (fun q => !(q.1 == i) && (!(q.1 == i + 1) && !(q.1 + 1 == i && q.2.category == 2))))) : pm_LR ad nL L' ls' := by
  unfold pm_st at hs
  rw [if_pos hc] at hs
  split at hs
  · rename_i hi
    cases hs
    refine ⟨by simp [pm_clr_len, hl], h'.1, h'.2.1, fun j w hj => ?_⟩
    rw [List.getElem?_set] at hj
    split at hj
    · rename_i e
      subst e
      split at hj
      · cases hj
        exact h'.2.2 (i, pm_cv ad v) (List.mem_cons_self)
      · cases hj
    · rename_i hne
      rw [List.getElem?_set] at hj
      split at hj
      · split at hj <;> cases hj
      · rename_i hne2
        obtain ⟨h1, h2⟩ := pm_clr_get hj
        refine h'.2.2 (j, pm_cv ad w) (List.mem_cons_of_mem _ (List.mem_filter.mpr ⟨pm_pairs_mem.mpr ⟨w, h1, rfl⟩, ?_⟩))
        have e1 : (j == i) = false := by simp; exact fun z => hne z.symm
        have e2 : (j == i + 1) = false := by simp; exact fun z => hne2 z.symm
        simp only [pm_cv_cat, e1, e2]
        simp only [Bool.not_false, Bool.true_and, Bool.not_eq_true', Bool.and_eq_false_iff, beq_eq_false_iff_ne]
        by_cases hz : j + 1 = i
        · exact Or.inr (fun z => h2 ⟨hz, z⟩)
        · exact Or.inl hz
  · cases hs
theorem pm_st_lt {L L' : List (Option Value)} {i : Nat} {v : Value} (hs : pm_st L i v = some L') : i < L.length ∧ (v.category = 2 → i + 1 < L.length) := by
  unfold pm_st at hs
  split at hs
  · split at hs
    · exact ⟨by omega, fun _ => by omega⟩
    · cases hs
  · rename_i hc
    split at hs
    · exact ⟨by omega, fun z => absurd z hc⟩
    · cases hs
theorem pm_ent_LR {ad : Nat → Nat} {n : Nat} {as : List Value} {L : List (Option Value)} (h : pm_ent n as = some L) : (lg_sl (as.map (pm_cv ad))).length ≤ n ∧ pm_LR ad n L ((lg_sl (as.map (pm_cv ad)) ++ List.replicate (n - (lg_sl (as.map (pm_cv ad))).length) Slot.unset).toArray) := by
  have key : ∀ (as : List Value), (lg_sl (as.map (pm_cv ad))).length = (as.flatMap (fun v => if v.category = 2 then [some v, none] else [some v])).length ∧ ∀ (i : Nat) (v : Value), (as.flatMap (fun v => if v.category = 2 then [some v, none] else [some v]))[i]? = some (some v) → (lg_sl (as.map (pm_cv ad)))[i]? = some (.val (pm_cv ad v)) := by
    intro as
    induction as with
    | nil => exact ⟨rfl, fun i v h => by simp at h⟩
    | cons a as ih =>
      obtain ⟨ih1, ih2⟩ := ih
      have e : lg_sl ((a :: as).map (pm_cv ad)) = (if a.category = 2 then [Slot.val (pm_cv ad a), .second] else [.val (pm_cv ad a)]) ++ lg_sl (as.map (pm_cv ad)) := by
        simp [lg_sl, pm_cv_cat]
      rw [e]
      by_cases hc : a.category = 2
      · simp only [List.flatMap_cons, hc, if_true]
        refine ⟨by simp [ih1], fun i v h => ?_⟩
        match i, h with
        | 0, h => simp at h; subst h; rfl
        | 1, h => simp at h
        | i + 2, h => simp at h ⊢; exact ih2 i v h
      · simp only [List.flatMap_cons, hc, if_false]
        refine ⟨by simp [ih1], fun i v h => ?_⟩
        match i, h with
        | 0, h => simp at h; subst h; rfl
        | i + 1, h => simp at h ⊢; exact ih2 i v h
  obtain ⟨k1, k2⟩ := key as
  unfold pm_ent at h
  simp only at h
  split at h
  · rename_i hl
    cases h
    have hle : (lg_sl (as.map (pm_cv ad))).length ≤ n := by rw [k1]; exact hl
    have hE := lv_entry (as.map (pm_cv ad)) (n := n) hle
    refine ⟨hle, ?_, hE.1, hE.2.1, fun i v hi => ?_⟩
    · rw [List.length_append, List.length_replicate]; omega
    · rw [List.getElem?_append] at hi
      split at hi
      · rename_i hlt
        have h3 := k2 i v hi
        rw [List.getElem?_toArray, List.getElem?_append_left (by rw [k1]; exact hlt)]
        exact h3
      · rw [List.getElem?_replicate] at hi
        split at hi <;> cases hi
  · cases h
end
section
/-! the ops of the pure machine are the machine's: those of stack and locals -/
def pm_tys (dA : Nat → ClassId) : List (ClassId × FieldType) := [(dA 0, .int), (dA 1, .long), (dA 2, .object RX3), (dA 3, .object RX8), (dA 4, .object RX7)]
def pm_sts : List (String × Nat) := [("MOST_NUMBER", 1), ("LIKING_PLACES", 2), ("FIRST_TWO_CHANGED", 3), ("LAST_TWO_CHANGED", 4)]
def pm_nwm : List (String × Nat × MethodName) := [("QuestionDesk$Chamber", 27, ⟨"QuestionDesk$Member", "<init>", "()V"⟩), ("QuestionDesk", 27, ⟨"QuestionDesk$Reader", "<init>", "()V"⟩), ("QuestionDesk$Hall", 42, ⟨"QuestionDesk$Member", "<init>", "()V"⟩), ("QuestionDesk", 41, ⟨"QuestionDesk$Orders", "<init>", "()V"⟩), ("QuestionDesk", 64, ⟨"QuestionDesk$Shelf", "<init>", "()V"⟩), ("QuestionDesk$Shelf", 11, ⟨"QuestionDesk$Member", "<init>", "()V"⟩), ("QuestionDesk$Chamber", 31, ⟨"QuestionDesk", "within", "(III)Z"⟩), ("QuestionDesk$Reader", 73, ⟨"QuestionDesk", "within", "(III)Z"⟩), ("QuestionDesk$Orders", 44, ⟨"QuestionDesk", "within", "(III)Z"⟩), ("QuestionDesk$Shelf", 42, ⟨"QuestionDesk", "within", "(III)Z"⟩)]
def pm_nwf : List (String × Nat × String) := [("QuestionDesk$Laws", 58, "LIKING_PLACES"), ("QuestionDesk$Laws", 61, "FIRST_TWO_CHANGED"), ("QuestionDesk$Laws", 64, "LAST_TWO_CHANGED")]
def pm_tbl : List Cond := lw_tbl.filter goodWord
/-- a read-only int array: n ints f -/
def pm_RO (b n : Nat) (f : Nat → Int32) (U : State) (H : Heap) : Prop := ∃ scr : Cell, H[b]? = some scr ∧ U.isArrayOf scr .int ∧ scr.vm ≠ .unknown ∧ n ≤ scr.slots.size ∧ scr.slots.size.toInt32 = Int32.ofNat n ∧ ∀ j : Nat, j < n → scr.slots[j]? = some (.int (f j))
theorem pm_RO.kept {b n : Nat} {f : Nat → Int32} {U : State} {H H1 : Heap} (h : pm_RO b n f U H) (hq : H1[b]? = H[b]?) : pm_RO b n f U H1 := by
  obtain ⟨scr, h1, h2⟩ := h
  exact ⟨scr, by rw [hq]; exact h1, h2⟩
theorem pm_RO.moved {b n : Nat} {f : Nat → Int32} {u U : State} {H : Heap} (hvm : u.vm.Alike U.vm) (h : pm_RO b n f u H) : pm_RO b n f U H := by
  obtain ⟨scr, h1, h2, h3⟩ := h
  exact ⟨scr, h1, State.isArrayOf_alike hvm h2, h3⟩
/-- what a state's tables, statics and read-only arrays are -/
def pm_K (sa : Nat → Nat) (base : Nat) (dC : Nat → ClassId) (dI : Nat → Nat → Nat) (dA : Nat → ClassId) (X : pm_X) (U : State) : Prop :=
  va_K (dC, dI) pm_cl (pm_tys dA) U ∧ (∀ (k n : Nat) (f : Nat → Int32), X k = some (n, f) → pm_RO (sa k) n f U U.heap ∧ sa k < base) ∧
  (∀ q ∈ pm_sts, va_Z "QuestionDesk" q.1 "[I" (.ref (sa q.2)) (fun a : Nat => base ≤ a) U U.heap) ∧
  (∀ q ∈ pm_nwm, va_Nw (.methodLinkNest q.1 q.2.1 q.2.2 "QuestionDesk") U) ∧ (∀ q ∈ pm_nwf, va_Nw (.fieldLinkNest q.1 q.2.1 "QuestionDesk" q.2.2 "[I" "QuestionDesk") U) ∧ base ≤ U.heap.size ∧ (∀ C ∈ [RX3, RX8, RX7], va_AO C U)
def pm_C (p : Program) (R : Room) (s : State) (m : MethodId) (args : Array Value) (meth : Method) (c : Code) (cc : ByteArray) (nL : Nat) (own : String) (sa : Nat → Nat) (base : Nat) (dC : Nat → ClassId) (dI : Nat → Nat → Nat) (dA : Nat → ClassId) (X : pm_X) (n0 sl0 nf slf : Nat) : Prop :=
  p.tables.exec = Jvm.exec ∧ c.code = cc ∧ c.maxLocals = nL ∧ s.vm.findClass own = some m.cls ∧ (∀ w ∈ pm_tbl, w.before args s = true) ∧ meth.locks = false ∧ pm_K sa base dC dI dA X s ∧ nf ≤ n0 + R.cells ∧ slf ≤ sl0 + R.slots ∧ 1 ≤ R.frames ∧ 64 ≤ R.locals
def pm_R (sa : Nat → Nat) (base : Nat) (dC : Nat → ClassId) (dI : Nat → Nat → Nat) (dA : Nat → ClassId) (s : State) (nL n0 sl0 : Nat) (f : pm_F) (H : Heap) (locs : List Loc) (ls : Array Slot) (cells slots : Nat) : Prop :=
  pm_LR (pm_ad sa base) nL f.1 ls ∧ va_P (dC, dI) pm_cl (pm_W (pm_ad sa base) base dA f.2.2.1) H ∧ H.size = base + f.2.2.1.length ∧ va_S (fun q : Nat => base ≤ q) s.heap H locs ∧ n0 + cells = f.2.2.1.length ∧ sl0 + slots = f.2.2.2
/-- from pc with f to pc' with f' -/
def pm_Go (p : Program) (l : Launch) (e : Env) (R : Room) (s : State) (m : MethodId) (args : Array Value) (below : List Frame) (meth : Method) (c : Code) (Q : State → Prop) (nL : Nat) (sa : Nat → Nat) (base : Nat) (dC : Nat → ClassId) (dI : Nat → Nat → Nat) (dA : Nat → ClassId) (n0 sl0 : Nat) (pc pc' : Nat) (f f' : pm_F) : Prop :=
  ∀ (H : Heap) (locs : List Loc) (ls : Array Slot) (cells slots : Nat), pm_R sa base dC dI dA s nL n0 sl0 f H locs ls cells slots →
    (∀ (H1 : Heap) (locs1 : List Loc) (ls1 : Array Slot) (cells1 slots1 : Nat), pm_R sa base dC dI dA s nL n0 sl0 f' H1 locs1 ls1 cells1 slots1 → W p l e R s m args below meth c H1 locs1 cells1 slots1 Q (F0 m pc' ls1 (f'.2.1.map (pm_cv (pm_ad sa base))))) →
    W p l e R s m args below meth c H locs cells slots Q (F0 m pc ls (f.2.1.map (pm_cv (pm_ad sa base))))
section PMO
variable {p : Program} {l : Launch} {e : Env} {R : Room} {s : State} {m : MethodId} {args : Array Value} {below : List Frame} {meth : Method} {c : Code} {Q : State → Prop} {cc : ByteArray} {nL : Nat} {own : String} {sa : Nat → Nat} {base : Nat} {dC : Nat → ClassId} {dI : Nat → Nat → Nat} {dA : Nat → ClassId} {X : pm_X} {n0 sl0 nf slf pc : Nat} {f f' : pm_F}
theorem pm_s_iadd (C : pm_C p R s m args meth c cc nL own sa base dC dI dA X n0 sl0 nf slf) (hdg : decode cc pc = .ok (.iadd, 1)) (hop : pm_b2 (fun x y => some (.int (x + y))) f = some f') : pm_Go p l e R s m args below meth c Q nL sa base dC dI dA n0 sl0 pc (pc + 1) f f' := by
  obtain ⟨hx, hb, hml, hown, hts, hlk, hK, hc1, hc2, hf1, hl1⟩ := C
  obtain ⟨L, st, S⟩ := f
  intro H locs ls cells slots hR kk
  unfold pm_b2 at hop
  split at hop
  · rename_i y x st2 hst
    simp only at hst hop
    subst hst
    cases hop
    exact lv_iadd hx hb hdg (kk _ _ _ _ _ hR)
  · cases hop
theorem pm_s_isub (C : pm_C p R s m args meth c cc nL own sa base dC dI dA X n0 sl0 nf slf) (hdg : decode cc pc = .ok (.isub, 1)) (hop : pm_b2 (fun x y => some (.int (x - y))) f = some f') : pm_Go p l e R s m args below meth c Q nL sa base dC dI dA n0 sl0 pc (pc + 1) f f' := by
  obtain ⟨hx, hb, hml, hown, hts, hlk, hK, hc1, hc2, hf1, hl1⟩ := C
  obtain ⟨L, st, S⟩ := f
  intro H locs ls cells slots hR kk
  unfold pm_b2 at hop
  split at hop
  · rename_i y x st2 hst
    simp only at hst hop
    subst hst
    cases hop
    exact lv_isub hx hb hdg (kk _ _ _ _ _ hR)
  · cases hop
theorem pm_s_imul (C : pm_C p R s m args meth c cc nL own sa base dC dI dA X n0 sl0 nf slf) (hdg : decode cc pc = .ok (.imul, 1)) (hop : pm_b2 (fun x y => some (.int (x * y))) f = some f') : pm_Go p l e R s m args below meth c Q nL sa base dC dI dA n0 sl0 pc (pc + 1) f f' := by
  obtain ⟨hx, hb, hml, hown, hts, hlk, hK, hc1, hc2, hf1, hl1⟩ := C
  obtain ⟨L, st, S⟩ := f
  intro H locs ls cells slots hR kk
  unfold pm_b2 at hop
  split at hop
  · rename_i y x st2 hst
    simp only at hst hop
    subst hst
    cases hop
    exact lv_imul hx hb hdg (kk _ _ _ _ _ hR)
  · cases hop
theorem pm_s_iand (C : pm_C p R s m args meth c cc nL own sa base dC dI dA X n0 sl0 nf slf) (hdg : decode cc pc = .ok (.iand, 1)) (hop : pm_b2 (fun x y => some (.int (x &&& y))) f = some f') : pm_Go p l e R s m args below meth c Q nL sa base dC dI dA n0 sl0 pc (pc + 1) f f' := by
  obtain ⟨hx, hb, hml, hown, hts, hlk, hK, hc1, hc2, hf1, hl1⟩ := C
  obtain ⟨L, st, S⟩ := f
  intro H locs ls cells slots hR kk
  unfold pm_b2 at hop
  split at hop
  · rename_i y x st2 hst
    simp only at hst hop
    subst hst
    cases hop
    exact lv_iand hx hb hdg (kk _ _ _ _ _ hR)
  · cases hop
theorem pm_s_ior (C : pm_C p R s m args meth c cc nL own sa base dC dI dA X n0 sl0 nf slf) (hdg : decode cc pc = .ok (.ior, 1)) (hop : pm_b2 (fun x y => some (.int (x ||| y))) f = some f') : pm_Go p l e R s m args below meth c Q nL sa base dC dI dA n0 sl0 pc (pc + 1) f f' := by
  obtain ⟨hx, hb, hml, hown, hts, hlk, hK, hc1, hc2, hf1, hl1⟩ := C
  obtain ⟨L, st, S⟩ := f
  intro H locs ls cells slots hR kk
  unfold pm_b2 at hop
  split at hop
  · rename_i y x st2 hst
    simp only at hst hop
    subst hst
    cases hop
    exact lv_ior hx hb hdg (kk _ _ _ _ _ hR)
  · cases hop
theorem pm_s_ixor (C : pm_C p R s m args meth c cc nL own sa base dC dI dA X n0 sl0 nf slf) (hdg : decode cc pc = .ok (.ixor, 1)) (hop : pm_b2 (fun x y => some (.int (x ^^^ y))) f = some f') : pm_Go p l e R s m args below meth c Q nL sa base dC dI dA n0 sl0 pc (pc + 1) f f' := by
  obtain ⟨hx, hb, hml, hown, hts, hlk, hK, hc1, hc2, hf1, hl1⟩ := C
  obtain ⟨L, st, S⟩ := f
  intro H locs ls cells slots hR kk
  unfold pm_b2 at hop
  split at hop
  · rename_i y x st2 hst
    simp only at hst hop
    subst hst
    cases hop
    exact lv_ixor hx hb hdg (kk _ _ _ _ _ hR)
  · cases hop
theorem pm_s_ishl (C : pm_C p R s m args meth c cc nL own sa base dC dI dA X n0 sl0 nf slf) (hdg : decode cc pc = .ok (.ishl, 1)) (hop : pm_b2 (fun x y => some (.int (x <<< (y &&& 31)))) f = some f') : pm_Go p l e R s m args below meth c Q nL sa base dC dI dA n0 sl0 pc (pc + 1) f f' := by
  obtain ⟨hx, hb, hml, hown, hts, hlk, hK, hc1, hc2, hf1, hl1⟩ := C
  obtain ⟨L, st, S⟩ := f
  intro H locs ls cells slots hR kk
  unfold pm_b2 at hop
  split at hop
  · rename_i y x st2 hst
    simp only at hst hop
    subst hst
    cases hop
    exact lv_ishl hx hb hdg (kk _ _ _ _ _ hR)
  · cases hop
theorem pm_s_ishr (C : pm_C p R s m args meth c cc nL own sa base dC dI dA X n0 sl0 nf slf) (hdg : decode cc pc = .ok (.ishr, 1)) (hop : pm_b2 (fun x y => some (.int (x >>> (y &&& 31)))) f = some f') : pm_Go p l e R s m args below meth c Q nL sa base dC dI dA n0 sl0 pc (pc + 1) f f' := by
  obtain ⟨hx, hb, hml, hown, hts, hlk, hK, hc1, hc2, hf1, hl1⟩ := C
  obtain ⟨L, st, S⟩ := f
  intro H locs ls cells slots hR kk
  unfold pm_b2 at hop
  split at hop
  · rename_i y x st2 hst
    simp only at hst hop
    subst hst
    cases hop
    exact lv_ishr hx hb hdg (kk _ _ _ _ _ hR)
  · cases hop
theorem pm_s_iushr (C : pm_C p R s m args meth c cc nL own sa base dC dI dA X n0 sl0 nf slf) (hdg : decode cc pc = .ok (.iushr, 1)) (hop : pm_b2 (fun x y => some (.int ((x.toUInt32 >>> (y.toUInt32 &&& Int32.toUInt32 31)).toInt32))) f = some f') : pm_Go p l e R s m args below meth c Q nL sa base dC dI dA n0 sl0 pc (pc + 1) f f' := by
  obtain ⟨hx, hb, hml, hown, hts, hlk, hK, hc1, hc2, hf1, hl1⟩ := C
  obtain ⟨L, st, S⟩ := f
  intro H locs ls cells slots hR kk
  unfold pm_b2 at hop
  split at hop
  · rename_i y x st2 hst
    simp only at hst hop
    subst hst
    cases hop
    exact lv_iushr hx hb hdg rfl (kk _ _ _ _ _ hR)
  · cases hop
theorem pm_s_idiv (C : pm_C p R s m args meth c cc nL own sa base dC dI dA X n0 sl0 nf slf) (hdg : decode cc pc = .ok (.idiv, 1)) (hop : pm_b2 (fun x y => if y = 0 then none else some (.int (x / y))) f = some f') : pm_Go p l e R s m args below meth c Q nL sa base dC dI dA n0 sl0 pc (pc + 1) f f' := by
  obtain ⟨hx, hb, hml, hown, hts, hlk, hK, hc1, hc2, hf1, hl1⟩ := C
  obtain ⟨L, st, S⟩ := f
  intro H locs ls cells slots hR kk
  unfold pm_b2 at hop
  split at hop
  · rename_i y x st2 hst
    simp only at hst hop
    subst hst
    by_cases hy : y = 0
    · rw [if_pos hy] at hop; cases hop
    · rw [if_neg hy] at hop
      cases hop
      exact lv_idiv hx hb hdg hy (kk _ _ _ _ _ hR)
  · cases hop
theorem pm_s_irem (C : pm_C p R s m args meth c cc nL own sa base dC dI dA X n0 sl0 nf slf) (hdg : decode cc pc = .ok (.irem, 1)) (hop : pm_b2 (fun x y => if y = 0 then none else some (.int (x - x / y * y))) f = some f') : pm_Go p l e R s m args below meth c Q nL sa base dC dI dA n0 sl0 pc (pc + 1) f f' := by
  obtain ⟨hx, hb, hml, hown, hts, hlk, hK, hc1, hc2, hf1, hl1⟩ := C
  obtain ⟨L, st, S⟩ := f
  intro H locs ls cells slots hR kk
  unfold pm_b2 at hop
  split at hop
  · rename_i y x st2 hst
    simp only at hst hop
    subst hst
    by_cases hy : y = 0
    · rw [if_pos hy] at hop; cases hop
    · rw [if_neg hy] at hop
      cases hop
      exact lv_irem hx hb hdg hy (kk _ _ _ _ _ hR)
  · cases hop
theorem pm_s_ineg (C : pm_C p R s m args meth c cc nL own sa base dC dI dA X n0 sl0 nf slf) (hdg : decode cc pc = .ok (.ineg, 1)) (hop : pm_b1 (fun x => .int (-x)) f = some f') : pm_Go p l e R s m args below meth c Q nL sa base dC dI dA n0 sl0 pc (pc + 1) f f' := by
  obtain ⟨hx, hb, hml, hown, hts, hlk, hK, hc1, hc2, hf1, hl1⟩ := C
  obtain ⟨L, st, S⟩ := f
  intro H locs ls cells slots hR kk
  unfold pm_b1 at hop
  split at hop
  · rename_i x st2 hst
    simp only at hst hop
    subst hst
    cases hop
    exact lv_ineg hx hb hdg (kk _ _ _ _ _ hR)
  · cases hop
theorem pm_s_i2l (C : pm_C p R s m args meth c cc nL own sa base dC dI dA X n0 sl0 nf slf) (hdg : decode cc pc = .ok (.i2l, 1)) (hop : pm_b1 (fun x => .long x.toInt64) f = some f') : pm_Go p l e R s m args below meth c Q nL sa base dC dI dA n0 sl0 pc (pc + 1) f f' := by
  obtain ⟨hx, hb, hml, hown, hts, hlk, hK, hc1, hc2, hf1, hl1⟩ := C
  obtain ⟨L, st, S⟩ := f
  intro H locs ls cells slots hR kk
  unfold pm_b1 at hop
  split at hop
  · rename_i x st2 hst
    simp only at hst hop
    subst hst
    cases hop
    exact lv_i2l hx hb hdg rfl (kk _ _ _ _ _ hR)
  · cases hop
theorem pm_s_i2b (C : pm_C p R s m args meth c cc nL own sa base dC dI dA X n0 sl0 nf slf) (hdg : decode cc pc = .ok (.i2b, 1)) (hop : pm_b1 (fun x => .int x.toInt8.toInt32) f = some f') : pm_Go p l e R s m args below meth c Q nL sa base dC dI dA n0 sl0 pc (pc + 1) f f' := by
  obtain ⟨hx, hb, hml, hown, hts, hlk, hK, hc1, hc2, hf1, hl1⟩ := C
  obtain ⟨L, st, S⟩ := f
  intro H locs ls cells slots hR kk
  unfold pm_b1 at hop
  split at hop
  · rename_i x st2 hst
    simp only at hst hop
    subst hst
    cases hop
    exact lv_i2b hx hb hdg rfl (kk _ _ _ _ _ hR)
  · cases hop
theorem pm_s_i2s (C : pm_C p R s m args meth c cc nL own sa base dC dI dA X n0 sl0 nf slf) (hdg : decode cc pc = .ok (.i2s, 1)) (hop : pm_b1 (fun x => .int x.toInt16.toInt32) f = some f') : pm_Go p l e R s m args below meth c Q nL sa base dC dI dA n0 sl0 pc (pc + 1) f f' := by
  obtain ⟨hx, hb, hml, hown, hts, hlk, hK, hc1, hc2, hf1, hl1⟩ := C
  obtain ⟨L, st, S⟩ := f
  intro H locs ls cells slots hR kk
  unfold pm_b1 at hop
  split at hop
  · rename_i x st2 hst
    simp only at hst hop
    subst hst
    cases hop
    exact lv_i2s hx hb hdg rfl (kk _ _ _ _ _ hR)
  · cases hop
theorem pm_s_l2i (C : pm_C p R s m args meth c cc nL own sa base dC dI dA X n0 sl0 nf slf) (hdg : decode cc pc = .ok (.l2i, 1)) (hop : pm_op X .l2i f = some f') : pm_Go p l e R s m args below meth c Q nL sa base dC dI dA n0 sl0 pc (pc + 1) f f' := by
  obtain ⟨hx, hb, hml, hown, hts, hlk, hK, hc1, hc2, hf1, hl1⟩ := C
  obtain ⟨L, st, S⟩ := f
  intro H locs ls cells slots hR kk
  unfold pm_op at hop
  simp only at hop
  split at hop
  · cases hop
    exact lv_l2i hx hb hdg rfl (kk _ _ _ _ _ hR)
  · cases hop
theorem pm_s_ladd (C : pm_C p R s m args meth c cc nL own sa base dC dI dA X n0 sl0 nf slf) (hdg : decode cc pc = .ok (.ladd, 1)) (hop : pm_l2 (fun x y => .long (x + y)) f = some f') : pm_Go p l e R s m args below meth c Q nL sa base dC dI dA n0 sl0 pc (pc + 1) f f' := by
  obtain ⟨hx, hb, hml, hown, hts, hlk, hK, hc1, hc2, hf1, hl1⟩ := C
  obtain ⟨L, st, S⟩ := f
  intro H locs ls cells slots hR kk
  unfold pm_l2 at hop
  split at hop
  · rename_i y x st2 hst
    simp only at hst hop
    subst hst
    cases hop
    exact lv_ladd hx hb hdg (kk _ _ _ _ _ hR)
  · cases hop
theorem pm_s_lmul (C : pm_C p R s m args meth c cc nL own sa base dC dI dA X n0 sl0 nf slf) (hdg : decode cc pc = .ok (.lmul, 1)) (hop : pm_l2 (fun x y => .long (x * y)) f = some f') : pm_Go p l e R s m args below meth c Q nL sa base dC dI dA n0 sl0 pc (pc + 1) f f' := by
  obtain ⟨hx, hb, hml, hown, hts, hlk, hK, hc1, hc2, hf1, hl1⟩ := C
  obtain ⟨L, st, S⟩ := f
  intro H locs ls cells slots hR kk
  unfold pm_l2 at hop
  split at hop
  · rename_i y x st2 hst
    simp only at hst hop
    subst hst
    cases hop
    exact lv_lmul hx hb hdg (kk _ _ _ _ _ hR)
  · cases hop
theorem pm_s_lcmp (C : pm_C p R s m args meth c cc nL own sa base dC dI dA X n0 sl0 nf slf) (hdg : decode cc pc = .ok (.lcmp, 1)) (hop : pm_l2 (fun x y => .int (lg_cmp x y)) f = some f') : pm_Go p l e R s m args below meth c Q nL sa base dC dI dA n0 sl0 pc (pc + 1) f f' := by
  obtain ⟨hx, hb, hml, hown, hts, hlk, hK, hc1, hc2, hf1, hl1⟩ := C
  obtain ⟨L, st, S⟩ := f
  intro H locs ls cells slots hR kk
  unfold pm_l2 at hop
  split at hop
  · rename_i y x st2 hst
    simp only at hst hop
    subst hst
    cases hop
    exact W.lcmp hx hb hdg (kk _ _ _ _ _ hR)
  · cases hop
theorem pm_s_iconst (C : pm_C p R s m args meth c cc nL own sa base dC dI dA X n0 sl0 nf slf) {k : Int} {v : Int32} (hv : Int32.ofInt k = v) (hdg : decode cc pc = .ok (.iconst k, 1)) (hop : pm_push (.int v) f = some f') : pm_Go p l e R s m args below meth c Q nL sa base dC dI dA n0 sl0 pc (pc + 1) f f' := by
  obtain ⟨hx, hb, hml, hown, hts, hlk, hK, hc1, hc2, hf1, hl1⟩ := C
  obtain ⟨L, st, S⟩ := f
  intro H locs ls cells slots hR kk
  unfold pm_push at hop
  cases hop
  exact lv_iconst hx hb hdg hv (kk _ _ _ _ _ hR)
theorem pm_s_bipush (C : pm_C p R s m args meth c cc nL own sa base dC dI dA X n0 sl0 nf slf) {k : Int} {v : Int32} (hv : (Int8.ofInt k).toInt32 = v) (hdg : decode cc pc = .ok (.bipush k, 2)) (hop : pm_push (.int v) f = some f') : pm_Go p l e R s m args below meth c Q nL sa base dC dI dA n0 sl0 pc (pc + 2) f f' := by
  obtain ⟨hx, hb, hml, hown, hts, hlk, hK, hc1, hc2, hf1, hl1⟩ := C
  obtain ⟨L, st, S⟩ := f
  intro H locs ls cells slots hR kk
  unfold pm_push at hop
  cases hop
  exact lv_bipush hx hb hdg hv (kk _ _ _ _ _ hR)
theorem pm_s_sipush (C : pm_C p R s m args meth c cc nL own sa base dC dI dA X n0 sl0 nf slf) {k : Int} {v : Int32} (hv : (Int16.ofInt k).toInt32 = v) (hdg : decode cc pc = .ok (.sipush k, 3)) (hop : pm_push (.int v) f = some f') : pm_Go p l e R s m args below meth c Q nL sa base dC dI dA n0 sl0 pc (pc + 3) f f' := by
  obtain ⟨hx, hb, hml, hown, hts, hlk, hK, hc1, hc2, hf1, hl1⟩ := C
  obtain ⟨L, st, S⟩ := f
  intro H locs ls cells slots hR kk
  unfold pm_push at hop
  cases hop
  exact lv_sipush hx hb hdg hv (kk _ _ _ _ _ hR)
theorem pm_s_ldc (C : pm_C p R s m args meth c cc nL own sa base dC dI dA X n0 sl0 nf slf) {k : Nat} {v : Int32} (hv : Cond.constant own k v ∈ pm_tbl) (hdg : decode cc pc = .ok (.ldc k, 2)) (hop : pm_push (.int v) f = some f') : pm_Go p l e R s m args below meth c Q nL sa base dC dI dA n0 sl0 pc (pc + 2) f f' := by
  obtain ⟨hx, hb, hml, hown, hts, hlk, hK, hc1, hc2, hf1, hl1⟩ := C
  obtain ⟨L, st, S⟩ := f
  intro H locs ls cells slots hR kk
  unfold pm_push at hop
  cases hop
  exact lv_ldc hx hb hown (hts _ hv) hdg (kk _ _ _ _ _ hR)
theorem pm_s_ldcw (C : pm_C p R s m args meth c cc nL own sa base dC dI dA X n0 sl0 nf slf) {k : Nat} {v : Int32} (hv : Cond.constant own k v ∈ pm_tbl) (hdg : decode cc pc = .ok (.ldc_w k, 3)) (hop : pm_push (.int v) f = some f') : pm_Go p l e R s m args below meth c Q nL sa base dC dI dA n0 sl0 pc (pc + 3) f f' := by
  obtain ⟨hx, hb, hml, hown, hts, hlk, hK, hc1, hc2, hf1, hl1⟩ := C
  obtain ⟨L, st, S⟩ := f
  intro H locs ls cells slots hR kk
  unfold pm_push at hop
  cases hop
  exact lv_ldcw hx hb hown (hts _ hv) hdg (kk _ _ _ _ _ hR)
theorem pm_s_lconst (C : pm_C p R s m args meth c cc nL own sa base dC dI dA X n0 sl0 nf slf) {k : Fin 2} {v : Int64} (hv : Int64.ofNat (k : Nat) = v) (hdg : decode cc pc = .ok (.lconst k, 1)) (hop : pm_push (.long v) f = some f') : pm_Go p l e R s m args below meth c Q nL sa base dC dI dA n0 sl0 pc (pc + 1) f f' := by
  obtain ⟨hx, hb, hml, hown, hts, hlk, hK, hc1, hc2, hf1, hl1⟩ := C
  obtain ⟨L, st, S⟩ := f
  intro H locs ls cells slots hR kk
  unfold pm_push at hop
  cases hop
  exact lv_lconst hx hb hdg hv (kk _ _ _ _ _ hR)
theorem pm_s_ldc2 (C : pm_C p R s m args meth c cc nL own sa base dC dI dA X n0 sl0 nf slf) {k : Nat} {v : Int64} (hv : Cond.constantLong own k v ∈ pm_tbl) (hdg : decode cc pc = .ok (.ldc2_w k, 3)) (hop : pm_push (.long v) f = some f') : pm_Go p l e R s m args below meth c Q nL sa base dC dI dA n0 sl0 pc (pc + 3) f f' := by
  obtain ⟨hx, hb, hml, hown, hts, hlk, hK, hc1, hc2, hf1, hl1⟩ := C
  obtain ⟨L, st, S⟩ := f
  intro H locs ls cells slots hR kk
  unfold pm_push at hop
  cases hop
  exact lv_ldc2 hx hb hown (hts _ hv) hdg (kk _ _ _ _ _ hR)
theorem pm_s_null (C : pm_C p R s m args meth c cc nL own sa base dC dI dA X n0 sl0 nf slf)  (hdg : decode cc pc = .ok (.aconst_null, 1)) (hop : pm_push (.null) f = some f') : pm_Go p l e R s m args below meth c Q nL sa base dC dI dA n0 sl0 pc (pc + 1) f f' := by
  obtain ⟨hx, hb, hml, hown, hts, hlk, hK, hc1, hc2, hf1, hl1⟩ := C
  obtain ⟨L, st, S⟩ := f
  intro H locs ls cells slots hR kk
  unfold pm_push at hop
  cases hop
  exact lv_null hx hb hdg (kk _ _ _ _ _ hR)
theorem pm_s_iload (C : pm_C p R s m args meth c cc nL own sa base dC dI dA X n0 sl0 nf slf) {i : Nat} (hdg : decode cc pc = .ok (.iload i, 2)) (hop : pm_load pm_isI i f = some f') : pm_Go p l e R s m args below meth c Q nL sa base dC dI dA n0 sl0 pc (pc + 2) f f' := by
  obtain ⟨hx, hb, hml, hown, hts, hlk, hK, hc1, hc2, hf1, hl1⟩ := C
  obtain ⟨L, st, S⟩ := f
  intro H locs ls cells slots hR kk
  unfold pm_load at hop
  split at hop
  · rename_i v hv
    have hld := hR.1.2.2.2 _ _ (pm_ld_some.mp hv)
    simp only at hop
    split at hop
    · rename_i hk
      cases hop
      cases v with
      | int x => exact lv_iload hx hb hdg hld (kk _ _ _ _ _ hR)
      | _ => cases hk
    · cases hop
  · cases hop
theorem pm_s_iload_n (C : pm_C p R s m args meth c cc nL own sa base dC dI dA X n0 sl0 nf slf) {k : Fin 4} {i : Nat} (hi : (k : Nat) = i) (hdg : decode cc pc = .ok (.iload_n k, 1)) (hop : pm_load pm_isI i f = some f') : pm_Go p l e R s m args below meth c Q nL sa base dC dI dA n0 sl0 pc (pc + 1) f f' := by
  obtain ⟨hx, hb, hml, hown, hts, hlk, hK, hc1, hc2, hf1, hl1⟩ := C
  obtain ⟨L, st, S⟩ := f
  intro H locs ls cells slots hR kk
  unfold pm_load at hop
  split at hop
  · rename_i v hv
    have hld := hR.1.2.2.2 _ _ (pm_ld_some.mp hv)
    simp only at hop
    split at hop
    · rename_i hk
      cases hop
      cases v with
      | int x => exact lv_iload_n hx hb hdg hi hld (kk _ _ _ _ _ hR)
      | _ => cases hk
    · cases hop
  · cases hop
theorem pm_s_lload (C : pm_C p R s m args meth c cc nL own sa base dC dI dA X n0 sl0 nf slf) {i : Nat} (hdg : decode cc pc = .ok (.lload i, 2)) (hop : pm_load pm_isL i f = some f') : pm_Go p l e R s m args below meth c Q nL sa base dC dI dA n0 sl0 pc (pc + 2) f f' := by
  obtain ⟨hx, hb, hml, hown, hts, hlk, hK, hc1, hc2, hf1, hl1⟩ := C
  obtain ⟨L, st, S⟩ := f
  intro H locs ls cells slots hR kk
  unfold pm_load at hop
  split at hop
  · rename_i v hv
    have hld := hR.1.2.2.2 _ _ (pm_ld_some.mp hv)
    simp only at hop
    split at hop
    · rename_i hk
      cases hop
      cases v with
      | long x => exact lv_lload hx hb hdg hld (kk _ _ _ _ _ hR)
      | _ => cases hk
    · cases hop
  · cases hop
theorem pm_s_lload_n (C : pm_C p R s m args meth c cc nL own sa base dC dI dA X n0 sl0 nf slf) {k : Fin 4} {i : Nat} (hi : (k : Nat) = i) (hdg : decode cc pc = .ok (.lload_n k, 1)) (hop : pm_load pm_isL i f = some f') : pm_Go p l e R s m args below meth c Q nL sa base dC dI dA n0 sl0 pc (pc + 1) f f' := by
  obtain ⟨hx, hb, hml, hown, hts, hlk, hK, hc1, hc2, hf1, hl1⟩ := C
  obtain ⟨L, st, S⟩ := f
  intro H locs ls cells slots hR kk
  unfold pm_load at hop
  split at hop
  · rename_i v hv
    have hld := hR.1.2.2.2 _ _ (pm_ld_some.mp hv)
    simp only at hop
    split at hop
    · rename_i hk
      cases hop
      cases v with
      | long x => exact lv_lload_n hx hb hdg hi hld (kk _ _ _ _ _ hR)
      | _ => cases hk
    · cases hop
  · cases hop
theorem pm_s_aload (C : pm_C p R s m args meth c cc nL own sa base dC dI dA X n0 sl0 nf slf) {i : Nat} (hdg : decode cc pc = .ok (.aload i, 2)) (hop : pm_load pm_isA i f = some f') : pm_Go p l e R s m args below meth c Q nL sa base dC dI dA n0 sl0 pc (pc + 2) f f' := by
  obtain ⟨hx, hb, hml, hown, hts, hlk, hK, hc1, hc2, hf1, hl1⟩ := C
  obtain ⟨L, st, S⟩ := f
  intro H locs ls cells slots hR kk
  unfold pm_load at hop
  split at hop
  · rename_i v hv
    have hld := hR.1.2.2.2 _ _ (pm_ld_some.mp hv)
    simp only at hop
    split at hop
    · rename_i hk
      cases hop
      cases v with
      | ref x => exact lv_aload hx hb hdg hld (kk _ _ _ _ _ hR)
      | null => exact lv_aloadN hx hb hdg hld (kk _ _ _ _ _ hR)
      | _ => cases hk
    · cases hop
  · cases hop
theorem pm_s_aload_n (C : pm_C p R s m args meth c cc nL own sa base dC dI dA X n0 sl0 nf slf) {k : Fin 4} {i : Nat} (hi : (k : Nat) = i) (hdg : decode cc pc = .ok (.aload_n k, 1)) (hop : pm_load pm_isA i f = some f') : pm_Go p l e R s m args below meth c Q nL sa base dC dI dA n0 sl0 pc (pc + 1) f f' := by
  obtain ⟨hx, hb, hml, hown, hts, hlk, hK, hc1, hc2, hf1, hl1⟩ := C
  obtain ⟨L, st, S⟩ := f
  intro H locs ls cells slots hR kk
  unfold pm_load at hop
  split at hop
  · rename_i v hv
    have hld := hR.1.2.2.2 _ _ (pm_ld_some.mp hv)
    simp only at hop
    split at hop
    · rename_i hk
      cases hop
      cases v with
      | ref x => exact lv_aload_n hx hb hdg hi hld (kk _ _ _ _ _ hR)
      | null => exact lv_aload_nN hx hb hdg hi hld (kk _ _ _ _ _ hR)
      | _ => cases hk
    · cases hop
  · cases hop
theorem pm_s_istore (C : pm_C p R s m args meth c cc nL own sa base dC dI dA X n0 sl0 nf slf) {i : Nat} (hdg : decode cc pc = .ok (.istore i, 2)) (hop : pm_store pm_isI i f = some f') : pm_Go p l e R s m args below meth c Q nL sa base dC dI dA n0 sl0 pc (pc + 2) f f' := by
  obtain ⟨hx, hb, hml, hown, hts, hlk, hK, hc1, hc2, hf1, hl1⟩ := C
  obtain ⟨L, st, S⟩ := f
  intro H locs ls cells slots hR kk
  unfold pm_store at hop
  split at hop
  · rename_i v st2 hst
    simp only at hst hop
    subst hst
    split at hop
    · rename_i hk
      split at hop
      · rename_i L2 hL
        cases hop
        cases v with
        | int x => exact lv_istore hx hb hdg hR.1.has (by have := pm_st_lt hL; have := hR.1.1; simp only at this; omega) rfl (fun ls1 hl1 => kk _ _ _ _ _ ⟨pm_LR.store1 hR.1.1 rfl hL hl1, hR.2⟩)
        | _ => cases hk
      · cases hop
    · cases hop
  · cases hop
theorem pm_s_istore_n (C : pm_C p R s m args meth c cc nL own sa base dC dI dA X n0 sl0 nf slf) {k : Fin 4} {i : Nat} (hi : (k : Nat) = i) (hdg : decode cc pc = .ok (.istore_n k, 1)) (hop : pm_store pm_isI i f = some f') : pm_Go p l e R s m args below meth c Q nL sa base dC dI dA n0 sl0 pc (pc + 1) f f' := by
  obtain ⟨hx, hb, hml, hown, hts, hlk, hK, hc1, hc2, hf1, hl1⟩ := C
  obtain ⟨L, st, S⟩ := f
  intro H locs ls cells slots hR kk
  unfold pm_store at hop
  split at hop
  · rename_i v st2 hst
    simp only at hst hop
    subst hst
    split at hop
    · rename_i hk
      split at hop
      · rename_i L2 hL
        cases hop
        cases v with
        | int x => exact lv_istore_n hx hb hdg hi hR.1.has (by have := pm_st_lt hL; have := hR.1.1; simp only at this; omega) rfl (fun ls1 hl1 => kk _ _ _ _ _ ⟨pm_LR.store1 hR.1.1 rfl hL hl1, hR.2⟩)
        | _ => cases hk
      · cases hop
    · cases hop
  · cases hop
theorem pm_s_lstore (C : pm_C p R s m args meth c cc nL own sa base dC dI dA X n0 sl0 nf slf) {i : Nat} (hdg : decode cc pc = .ok (.lstore i, 2)) (hop : pm_store pm_isL i f = some f') : pm_Go p l e R s m args below meth c Q nL sa base dC dI dA n0 sl0 pc (pc + 2) f f' := by
  obtain ⟨hx, hb, hml, hown, hts, hlk, hK, hc1, hc2, hf1, hl1⟩ := C
  obtain ⟨L, st, S⟩ := f
  intro H locs ls cells slots hR kk
  unfold pm_store at hop
  split at hop
  · rename_i v st2 hst
    simp only at hst hop
    subst hst
    split at hop
    · rename_i hk
      split at hop
      · rename_i L2 hL
        cases hop
        cases v with
        | long x => exact lv_lstore hx hb hdg hR.1.has (by have := (pm_st_lt hL).2 rfl; have := hR.1.1; simp only at this; omega) rfl (fun ls1 hl1 => kk _ _ _ _ _ ⟨pm_LR.store2 hR.1.1 rfl hL hl1, hR.2⟩)
        | _ => cases hk
      · cases hop
    · cases hop
  · cases hop
theorem pm_s_lstore_n (C : pm_C p R s m args meth c cc nL own sa base dC dI dA X n0 sl0 nf slf) {k : Fin 4} {i : Nat} (hi : (k : Nat) = i) (hdg : decode cc pc = .ok (.lstore_n k, 1)) (hop : pm_store pm_isL i f = some f') : pm_Go p l e R s m args below meth c Q nL sa base dC dI dA n0 sl0 pc (pc + 1) f f' := by
  obtain ⟨hx, hb, hml, hown, hts, hlk, hK, hc1, hc2, hf1, hl1⟩ := C
  obtain ⟨L, st, S⟩ := f
  intro H locs ls cells slots hR kk
  unfold pm_store at hop
  split at hop
  · rename_i v st2 hst
    simp only at hst hop
    subst hst
    split at hop
    · rename_i hk
      split at hop
      · rename_i L2 hL
        cases hop
        cases v with
        | long x => exact lv_lstore_n hx hb hdg hi hR.1.has (by have := (pm_st_lt hL).2 rfl; have := hR.1.1; simp only at this; omega) rfl (fun ls1 hl1 => kk _ _ _ _ _ ⟨pm_LR.store2 hR.1.1 rfl hL hl1, hR.2⟩)
        | _ => cases hk
      · cases hop
    · cases hop
  · cases hop
theorem pm_s_astore (C : pm_C p R s m args meth c cc nL own sa base dC dI dA X n0 sl0 nf slf) {i : Nat} (hdg : decode cc pc = .ok (.astore i, 2)) (hop : pm_store pm_isA i f = some f') : pm_Go p l e R s m args below meth c Q nL sa base dC dI dA n0 sl0 pc (pc + 2) f f' := by
  obtain ⟨hx, hb, hml, hown, hts, hlk, hK, hc1, hc2, hf1, hl1⟩ := C
  obtain ⟨L, st, S⟩ := f
  intro H locs ls cells slots hR kk
  unfold pm_store at hop
  split at hop
  · rename_i v st2 hst
    simp only at hst hop
    subst hst
    split at hop
    · rename_i hk
      split at hop
      · rename_i L2 hL
        cases hop
        cases v with
        | ref x => exact lv_astore hx hb hdg hR.1.has (by have := pm_st_lt hL; have := hR.1.1; simp only at this; omega) rfl (fun ls1 hl1 => kk _ _ _ _ _ ⟨pm_LR.store1 hR.1.1 rfl hL hl1, hR.2⟩)
        | null => exact lv_astoreN hx hb hdg hR.1.has (by have := pm_st_lt hL; have := hR.1.1; simp only at this; omega) rfl (fun ls1 hl1 => kk _ _ _ _ _ ⟨pm_LR.store1 hR.1.1 rfl hL hl1, hR.2⟩)
        | _ => cases hk
      · cases hop
    · cases hop
  · cases hop
theorem pm_s_astore_n (C : pm_C p R s m args meth c cc nL own sa base dC dI dA X n0 sl0 nf slf) {k : Fin 4} {i : Nat} (hi : (k : Nat) = i) (hdg : decode cc pc = .ok (.astore_n k, 1)) (hop : pm_store pm_isA i f = some f') : pm_Go p l e R s m args below meth c Q nL sa base dC dI dA n0 sl0 pc (pc + 1) f f' := by
  obtain ⟨hx, hb, hml, hown, hts, hlk, hK, hc1, hc2, hf1, hl1⟩ := C
  obtain ⟨L, st, S⟩ := f
  intro H locs ls cells slots hR kk
  unfold pm_store at hop
  split at hop
  · rename_i v st2 hst
    simp only at hst hop
    subst hst
    split at hop
    · rename_i hk
      split at hop
      · rename_i L2 hL
        cases hop
        cases v with
        | ref x => exact lv_astore_n hx hb hdg hi hR.1.has (by have := pm_st_lt hL; have := hR.1.1; simp only at this; omega) rfl (fun ls1 hl1 => kk _ _ _ _ _ ⟨pm_LR.store1 hR.1.1 rfl hL hl1, hR.2⟩)
        | null => exact lv_astore_nN hx hb hdg hi hR.1.has (by have := pm_st_lt hL; have := hR.1.1; simp only at this; omega) rfl (fun ls1 hl1 => kk _ _ _ _ _ ⟨pm_LR.store1 hR.1.1 rfl hL hl1, hR.2⟩)
        | _ => cases hk
      · cases hop
    · cases hop
  · cases hop
theorem pm_s_iinc (C : pm_C p R s m args meth c cc nL own sa base dC dI dA X n0 sl0 nf slf) {i : Nat} {n : Int} (hdg : decode cc pc = .ok (.iinc i n, 3)) (hop : pm_iinc i n f = some f') : pm_Go p l e R s m args below meth c Q nL sa base dC dI dA n0 sl0 pc (pc + 3) f f' := by
  obtain ⟨hx, hb, hml, hown, hts, hlk, hK, hc1, hc2, hf1, hl1⟩ := C
  obtain ⟨L, st, S⟩ := f
  intro H locs ls cells slots hR kk
  unfold pm_iinc at hop
  split at hop
  · rename_i x hv
    split at hop
    · rename_i L2 hL
      cases hop
      have hm : ((i, Value.int x) : Nat × Value) ∈ pm_pairs (pm_ad sa base) L := pm_pairs_mem.mpr ⟨_, pm_ld_some.mp hv, rfl⟩
      obtain ⟨k, hk⟩ := List.getElem?_of_mem hm
      exact lv_iinc hx hb hdg hR.1.has hk rfl (by have h1 := (pm_st_lt hL).1; have h2 := hR.1.1; dsimp only at h1 h2; omega) rfl (fun ls1 hl1 => kk _ _ _ _ _ ⟨pm_LR.store1 hR.1.1 rfl hL hl1, hR.2⟩)
    · cases hop
  · cases hop
theorem pm_s_dup (C : pm_C p R s m args meth c cc nL own sa base dC dI dA X n0 sl0 nf slf) (hdg : decode cc pc = .ok (.dup, 1)) (hop : pm_dup f = some f') : pm_Go p l e R s m args below meth c Q nL sa base dC dI dA n0 sl0 pc (pc + 1) f f' := by
  obtain ⟨hx, hb, hml, hown, hts, hlk, hK, hc1, hc2, hf1, hl1⟩ := C
  obtain ⟨L, st, S⟩ := f
  intro H locs ls cells slots hR kk
  unfold pm_dup at hop
  split at hop
  · rename_i v st2 hst
    simp only at hst hop
    subst hst
    split at hop
    · rename_i hc
      cases hop
      exact lv_dup hx hb hdg (by rw [pm_cv_cat]; exact hc) (kk _ _ _ _ _ hR)
    · cases hop
  · cases hop
theorem pm_s_dup2 (C : pm_C p R s m args meth c cc nL own sa base dC dI dA X n0 sl0 nf slf) (hdg : decode cc pc = .ok (.dup2, 1)) (hop : pm_dup2 f = some f') : pm_Go p l e R s m args below meth c Q nL sa base dC dI dA n0 sl0 pc (pc + 1) f f' := by
  obtain ⟨hx, hb, hml, hown, hts, hlk, hK, hc1, hc2, hf1, hl1⟩ := C
  obtain ⟨L, st, S⟩ := f
  intro H locs ls cells slots hR kk
  unfold pm_dup2 at hop
  split at hop
  · rename_i v w st2 hst
    simp only at hst hop
    subst hst
    split at hop
    · rename_i hc
      cases hop
      exact lv_dup2_11 hx hb hdg (by rw [pm_cv_cat]; exact hc.1) (by rw [pm_cv_cat]; exact hc.2) (kk _ _ _ _ _ hR)
    · cases hop
  · cases hop
theorem pm_s_pop (C : pm_C p R s m args meth c cc nL own sa base dC dI dA X n0 sl0 nf slf) (hdg : decode cc pc = .ok (.pop, 1)) (hop : pm_pop f = some f') : pm_Go p l e R s m args below meth c Q nL sa base dC dI dA n0 sl0 pc (pc + 1) f f' := by
  obtain ⟨hx, hb, hml, hown, hts, hlk, hK, hc1, hc2, hf1, hl1⟩ := C
  obtain ⟨L, st, S⟩ := f
  intro H locs ls cells slots hR kk
  unfold pm_pop at hop
  split at hop
  · rename_i v st2 hst
    simp only at hst hop
    subst hst
    split at hop
    · rename_i hc
      cases hop
      exact lv_pop hx hb hdg (by rw [pm_cv_cat]; exact hc) (kk _ _ _ _ _ hR)
    · cases hop
  · cases hop
theorem pm_s_pop2 (C : pm_C p R s m args meth c cc nL own sa base dC dI dA X n0 sl0 nf slf) (hdg : decode cc pc = .ok (.pop2, 1)) (hop : pm_pop2 f = some f') : pm_Go p l e R s m args below meth c Q nL sa base dC dI dA n0 sl0 pc (pc + 1) f f' := by
  obtain ⟨hx, hb, hml, hown, hts, hlk, hK, hc1, hc2, hf1, hl1⟩ := C
  obtain ⟨L, st, S⟩ := f
  intro H locs ls cells slots hR kk
  unfold pm_pop2 at hop
  split at hop
  · rename_i v st2 hst
    simp only at hst hop
    subst hst
    split at hop
    · rename_i hc
      cases hop
      exact lv_pop2_2 hx hb hdg (by rw [pm_cv_cat]; exact hc) (kk _ _ _ _ _ hR)
    · cases hop
  · cases hop
end PMO
end
section
/-! the ops of the pure machine are the machine's: those of the heap -/
theorem pm_get_hi {X : pm_X} {h : List va_E} {a : Nat} (ha : ¬ a < 8) : pm_get X h a = h[a - 8]? := by
  unfold pm_get; rw [if_neg ha]
theorem pm_get_lo {X : pm_X} {h : List va_E} {a n : Nat} {g : Nat → Int32} (ha : a < 8) (hg : pm_get X h a = some (.inl (0, n, .inl g))) : X a = some (n, g) := by
  unfold pm_get at hg
  rw [if_pos ha] at hg
  cases hx : X a with
  | none => rw [hx] at hg; cases hg
  | some q =>
    rw [hx] at hg
    obtain ⟨k, f⟩ := q
    simp only [Option.map_some] at hg
    cases hg
    rfl
theorem pm_ad_hi {sa : Nat → Nat} {base a : Nat} (ha : ¬ a < 8) : pm_ad sa base a = base + (a - 8) := if_neg ha
theorem pm_ad_lo {sa : Nat → Nat} {base a : Nat} (ha : a < 8) : pm_ad sa base a = sa a := if_pos ha
theorem pm_fit_ok {ad : Nat → Nat} {ty : FieldType} {v : Value} (h : pm_fit ty v = true) : narrow ty (pm_cv ad v) = pm_cv ad v ∧ fits ty (pm_cv ad v) = true := by
  cases ty <;> cases v <;> first | (cases h; done) | (exact ⟨rfl, rfl⟩) | skip
  rename_i x
  simp only [pm_fit, Bool.or_eq_true, beq_iff_eq] at h
  rcases h with rfl | rfl <;> exact ⟨rfl, rfl⟩
section PMH
variable {p : Program} {l : Launch} {e : Env} {R : Room} {s : State} {m : MethodId} {args : Array Value} {below : List Frame} {meth : Method} {c : Code} {Q : State → Prop} {cc : ByteArray} {nL : Nat} {own : String} {sa : Nat → Nat} {base : Nat} {dC : Nat → ClassId} {dI : Nat → Nat → Nat} {dA : Nat → ClassId} {X : pm_X} {n0 sl0 nf slf pc : Nat} {f f' : pm_F}
/-- an int array of the pure heap, or a read-only one -/
theorem pm_gx {H : Heap} {locs : List Loc} {h : List va_E} {a n : Nat} {g : Nat → Int32} (hK : pm_K sa base dC dI dA X s) (hP : va_P (dC, dI) pm_cl (pm_W (pm_ad sa base) base dA h) H) (hS : va_S (fun q : Nat => base ≤ q) s.heap H locs) (hg : pm_get X h a = some (.inl (0, n, .inl g))) : pm_RO (pm_ad sa base a) n g s H := by
  by_cases ha : a < 8
  · rw [pm_ad_lo ha]
    obtain ⟨h1, h2⟩ := hK.2.1 _ _ _ (pm_get_lo ha hg)
    exact h1.kept (hS.2.1 _ (Nat.lt_of_lt_of_le h2 hK.2.2.2.2.2.1) (Nat.not_le.mpr h2))
  · rw [pm_ad_hi ha]
    rw [pm_get_hi ha] at hg
    have hc : H[base + (a - 8)]? = some (vp_cell (dA 0) (n, .inl g)) := hP _ _ (pm_W_at hg)
    have hsz : (vp_cell (dA 0) (n, .inl g)).slots.size = n := by
      show (arrV _ _ _).slots.size = n
      rw [arrV_size]
    refine ⟨_, hc, (hK.1.2 0 _ rfl).1 n (fun j => .int (g j)), (fun q => by cases q), Nat.le_of_eq hsz.symm, (by rw [hsz]), fun j hj => ?_⟩
    · show (arrV _ _ _).slots[j]? = _
      rw [arrV_read _ _ hj]
theorem pm_s_iald (C : pm_C p R s m args meth c cc nL own sa base dC dI dA X n0 sl0 nf slf) (hdg : decode cc pc = .ok (.iaload, 1)) (hop : pm_iald X f = some f') : pm_Go p l e R s m args below meth c Q nL sa base dC dI dA n0 sl0 pc (pc + 1) f f' := by
  obtain ⟨hx, hb, hml, hown, hts, hlk, hK, hc1, hc2, hf1, hl1⟩ := C
  obtain ⟨L, st, S⟩ := f
  intro H locs ls cells slots hR kk
  unfold pm_iald at hop
  split at hop
  · rename_i i a st2 hst
    simp only at hst hop
    subst hst
    split at hop
    · rename_i n g hg
      split at hop
      · cases hop
      · rename_i hin
        cases hop
        obtain ⟨scr, h1, h2, h3, h4, h4b, h5⟩ := pm_gx hK hR.2.1 hR.2.2.2.1 hg
        have hlt : i.toNatClampNeg < n := Nat.not_le.mp fun q => hin (Or.inr q)
        exact W.iald hx hb h1 h2 h3 (fun z => z.elim (fun q => hin (Or.inl q)) (fun q => by omega)) (h5 _ hlt) rfl rfl hdg (kk _ _ _ _ _ hR)
    · cases hop
  · cases hop
theorem pm_s_alen (C : pm_C p R s m args meth c cc nL own sa base dC dI dA X n0 sl0 nf slf) (hdg : decode cc pc = .ok (.arraylength, 1)) (hop : pm_alen X f = some f') : pm_Go p l e R s m args below meth c Q nL sa base dC dI dA n0 sl0 pc (pc + 1) f f' := by
  obtain ⟨hx, hb, hml, hown, hts, hlk, hK, hc1, hc2, hf1, hl1⟩ := C
  obtain ⟨L, st, S⟩ := f
  intro H locs ls cells slots hR kk
  unfold pm_alen at hop
  split at hop
  · rename_i a st2 hst
    simp only at hst hop
    subst hst
    split at hop
    · rename_i n k hg
      cases hop
      by_cases ha : a < 8
      · unfold pm_get at hg
        rw [if_pos ha] at hg
        cases hxa : X a with
        | none => rw [hxa] at hg; cases hg
        | some q =>
          rw [hxa] at hg
          obtain ⟨n2, g2⟩ := q
          cases hg
          obtain ⟨scr, h1, h2, h3, h4, h4b, h5⟩ := pm_gx (a := a) (n := n2) (g := g2) hK hR.2.1 hR.2.2.2.1 (by unfold pm_get; rw [if_pos ha, hxa]; rfl)
          exact W.alen hx hb h1 h2 h4b rfl rfl hdg (kk _ _ _ _ _ hR)
      · rw [pm_get_hi ha] at hg
        have hat := pm_W_at (ad := pm_ad sa base) (base := base) (dA := dA) hg
        have e1 : pm_cv (pm_ad sa base) (.ref a) = .ref (base + (a - 8)) := by show Value.ref _ = _; rw [pm_ad_hi ha]
        simp only [List.map_cons, e1]
        exact va_alen hx hb hK.1 hR.2.1 (a - 8) 0 hat rfl rfl hdg (kk _ _ _ _ _ hR)
    · cases hop
  · cases hop
theorem pm_s_lald (C : pm_C p R s m args meth c cc nL own sa base dC dI dA X n0 sl0 nf slf) (hdg : decode cc pc = .ok (.laload, 1)) (hop : pm_lald X f = some f') : pm_Go p l e R s m args below meth c Q nL sa base dC dI dA n0 sl0 pc (pc + 1) f f' := by
  obtain ⟨hx, hb, hml, hown, hts, hlk, hK, hc1, hc2, hf1, hl1⟩ := C
  obtain ⟨L, st, S⟩ := f
  intro H locs ls cells slots hR kk
  unfold pm_lald at hop
  split at hop
  · rename_i i a st2 hst
    simp only at hst hop
    subst hst
    split at hop
    · rename_i n g hg
      split at hop
      · cases hop
      · rename_i hin
        cases hop
        by_cases ha : a < 8
        · unfold pm_get at hg
          rw [if_pos ha] at hg
          cases hxa : X a <;> rw [hxa] at hg <;> cases hg
        · rw [pm_get_hi ha] at hg
          have hat := pm_W_at (ad := pm_ad sa base) (base := base) (dA := dA) hg
          have e1 : pm_cv (pm_ad sa base) (.ref a) = .ref (base + (a - 8)) := by show Value.ref _ = _; rw [pm_ad_hi ha]
          simp only [List.map_cons, e1]
          exact va_lald hx hb hK.1 hR.2.1 (a - 8) 1 hat rfl hin hdg (kk _ _ _ _ _ hR)
    · cases hop
  · cases hop
theorem pm_tys_at {t : Nat} (h : 2 ≤ t ∧ t < 5) : ∃ r : vw_C, pm_cl[pm_ac t]? = some r ∧ (pm_tys dA)[t]? = some (dA t, .object r.1) := by
  rcases (show t = 2 ∨ t = 3 ∨ t = 4 by omega) with rfl | rfl | rfl <;> exact ⟨_, rfl, rfl⟩
theorem pm_s_aald (C : pm_C p R s m args meth c cc nL own sa base dC dI dA X n0 sl0 nf slf) (hdg : decode cc pc = .ok (.aaload, 1)) (hop : pm_aald X f = some f') : pm_Go p l e R s m args below meth c Q nL sa base dC dI dA n0 sl0 pc (pc + 1) f f' := by
  obtain ⟨hx, hb, hml, hown, hts, hlk, hK, hc1, hc2, hf1, hl1⟩ := C
  obtain ⟨L, st, S⟩ := f
  intro H locs ls cells slots hR kk
  unfold pm_aald at hop
  split at hop
  · rename_i i a st2 hst
    simp only at hst hop
    subst hst
    split at hop
    · rename_i t n g hg
      split at hop
      · rename_i ht
        split at hop
        · cases hop
        · rename_i hin
          cases hop
          by_cases ha : a < 8
          · unfold pm_get at hg
            rw [if_pos ha] at hg
            cases hxa : X a <;> rw [hxa] at hg <;> cases hg
          · rw [pm_get_hi ha] at hg
            have hat := pm_W_at (ad := pm_ad sa base) (base := base) (dA := dA) hg
            have e1 : pm_cv (pm_ad sa base) (.ref a) = .ref (base + (a - 8)) := by show Value.ref _ = _; rw [pm_ad_hi ha]
            obtain ⟨r, -, hr2⟩ := pm_tys_at (dA := dA) ht
            simp only [List.map_cons, e1]
            refine va_aldq hx hb hK.1 hR.2.1 (a - 8) t hat hr2 hin hdg ?_
            have e2 : va_rf ((g i.toNatClampNeg).map (pm_ad sa base)) = pm_cv (pm_ad sa base) (va_rf (g i.toNatClampNeg)) := by cases g i.toNatClampNeg <;> rfl
            rw [e2]
            exact kk _ _ _ _ _ hR
      · cases hop
    · cases hop
  · cases hop
/-- behind a store into the cell of the pure address a -/
theorem pm_R_set {L : List (Option Value)} {st st' : List Value} {S : pm_S} {H H1 : Heap} {locs : List Loc} {ls : Array Slot} {cells slots a k : Nat} {e0 e1 : va_E} (ha : ¬ a < 8) (hR : pm_R sa base dC dI dA s nL n0 sl0 (L, st, S) H locs ls cells slots) (he : S.1[a - 8]? = some e0)
    (h1 : va_at (dC, dI) pm_cl (base + (a - 8), pm_ce (pm_ad sa base) dA e1) H1) (z : H1.size = H.size) (oq : ∀ q : Nat, q ≠ base + (a - 8) → H1[q]? = H[q]?) : pm_R sa base dC dI dA s nL n0 sl0 (L, st', (S.1.set (a - 8) e1, S.2)) H1 (locs ++ [⟨base + (a - 8), k⟩]) ls cells slots := by
  obtain ⟨r1, r2, r3, r4, r5, r6⟩ := hR
  refine ⟨r1, ?_, ?_, r4.put z oq (Nat.le_add_right _ _), ?_, r6⟩
  · have := va_P.set r2 pm_W_D (pm_W_at he) h1 oq
    rw [pm_W_set] at this
    exact this
  · simp only at r3 ⊢
    rw [z, r3, List.length_set]
  · simp only at r5 ⊢
    rw [r5, List.length_set]
theorem pm_s_iast (C : pm_C p R s m args meth c cc nL own sa base dC dI dA X n0 sl0 nf slf) (hdg : decode cc pc = .ok (.iastore, 1)) (hop : pm_iast X f = some f') : pm_Go p l e R s m args below meth c Q nL sa base dC dI dA n0 sl0 pc (pc + 1) f f' := by
  obtain ⟨hx, hb, hml, hown, hts, hlk, hK, hc1, hc2, hf1, hl1⟩ := C
  obtain ⟨L, st, S⟩ := f
  intro H locs ls cells slots hR kk
  unfold pm_iast at hop
  split at hop
  · rename_i x i a st2 hst
    simp only at hst hop
    subst hst
    split at hop
    · cases hop
    · rename_i ha
      split at hop
      · rename_i n g hg
        split at hop
        · cases hop
        · rename_i hin
          cases hop
          rw [pm_get_hi ha] at hg
          have hat := pm_W_at (ad := pm_ad sa base) (base := base) (dA := dA) hg
          have e1 : pm_cv (pm_ad sa base) (.ref a) = .ref (base + (a - 8)) := by show Value.ref _ = _; rw [pm_ad_hi ha]
          have hc : H[base + (a - 8)]? = some (vp_cell (dA 0) (n, .inl g)) := hR.2.1 _ _ hat
          simp only [List.map_cons, e1]
          refine W.iast hx hb hc ((hK.1.2 0 _ rfl).1 n (fun j => .int (g j))) (fun q => by cases q) (by show ¬ (i < 0 ∨ (arrV _ _ _).slots.size ≤ _); rw [arrV_size]; exact hin) rfl rfl hdg fun H1 e z oq => ?_
          refine kk _ _ _ _ _ (pm_R_set ha hR hg ?_ z oq)
          show H1[base + (a - 8)]? = some (vp_cell (dA 0) (n, .inl (upd g i.toNatClampNeg x)))
          rw [e, vp_cell_i, vp_cell_i, arrV_store]
          congr 2
          funext q
          by_cases hq : q = i.toNatClampNeg
          · subst hq
            simp [updV, upd]
          · simp [updV, upd, hq]
      · cases hop
  · cases hop
theorem pm_s_last (C : pm_C p R s m args meth c cc nL own sa base dC dI dA X n0 sl0 nf slf) (hdg : decode cc pc = .ok (.lastore, 1)) (hop : pm_last X f = some f') : pm_Go p l e R s m args below meth c Q nL sa base dC dI dA n0 sl0 pc (pc + 1) f f' := by
  obtain ⟨hx, hb, hml, hown, hts, hlk, hK, hc1, hc2, hf1, hl1⟩ := C
  obtain ⟨L, st, S⟩ := f
  intro H locs ls cells slots hR kk
  unfold pm_last at hop
  split at hop
  · rename_i x i a st2 hst
    simp only at hst hop
    subst hst
    split at hop
    · cases hop
    · rename_i ha
      split at hop
      · rename_i n g hg
        split at hop
        · cases hop
        · rename_i hin
          cases hop
          rw [pm_get_hi ha] at hg
          have hat := pm_W_at (ad := pm_ad sa base) (base := base) (dA := dA) hg
          have e1 : pm_cv (pm_ad sa base) (.ref a) = .ref (base + (a - 8)) := by show Value.ref _ = _; rw [pm_ad_hi ha]
          have hc : H[base + (a - 8)]? = some (vp_cell (dA 1) (n, .inr (.inl g))) := hR.2.1 _ _ hat
          simp only [List.map_cons, e1]
          refine W.last hx hb hc ((hK.1.2 1 _ rfl).1 n (fun j => .long (g j))) (fun q => by cases q) (by show ¬ (i < 0 ∨ (arrV _ _ _).slots.size ≤ _); rw [arrV_size]; exact hin) rfl rfl hdg fun H1 e z oq => ?_
          refine kk _ _ _ _ _ (pm_R_set ha hR hg ?_ z oq)
          show H1[base + (a - 8)]? = some (vp_cell (dA 1) (n, .inr (.inl (vp_updL g i.toNatClampNeg x))))
          rw [e, vp_cell_l, vp_cell_l, arrV_store]
          congr 2
          funext q
          by_cases hq : q = i.toNatClampNeg
          · subst hq
            simp [updV, vp_updL]
          · simp [updV, vp_updL, hq]
      · cases hop
  · cases hop
theorem pm_s_aast (C : pm_C p R s m args meth c cc nL own sa base dC dI dA X n0 sl0 nf slf) (hdg : decode cc pc = .ok (.aastore, 1)) (hop : pm_aast X f = some f') : pm_Go p l e R s m args below meth c Q nL sa base dC dI dA n0 sl0 pc (pc + 1) f f' := by
  obtain ⟨hx, hb, hml, hown, hts, hlk, hK, hc1, hc2, hf1, hl1⟩ := C
  obtain ⟨L, st, S⟩ := f
  intro H locs ls cells slots hR kk
  unfold pm_aast at hop
  split at hop
  · rename_i v i a st2 hst
    simp only at hst hop
    subst hst
    split at hop
    · cases hop
    · rename_i hav
      have ha : ¬ a < 8 := fun z => hav (Or.inl z)
      have hv8 : ¬ v < 8 := fun z => hav (Or.inr z)
      split at hop
      · rename_i t n g ci fs hg hgv
        split at hop
        · rename_i ht
          split at hop
          · cases hop
          · rename_i hin
            cases hop
            rw [pm_get_hi ha] at hg
            rw [pm_get_hi hv8] at hgv
            have hat := pm_W_at (ad := pm_ad sa base) (base := base) (dA := dA) hg
            have hatv := pm_W_at (ad := pm_ad sa base) (base := base) (dA := dA) hgv
            have e1 : pm_cv (pm_ad sa base) (.ref a) = .ref (base + (a - 8)) := by show Value.ref _ = _; rw [pm_ad_hi ha]
            have e2 : pm_cv (pm_ad sa base) (.ref v) = .ref (base + (v - 8)) := by show Value.ref _ = _; rw [pm_ad_hi hv8]
            obtain ⟨r, hr1, hr2⟩ := pm_tys_at (dA := dA) ⟨ht.1, ht.2.1⟩
            rw [← ht.2.2] at hr1
            simp only [List.map_cons, e1, e2]
            have hlt : i.toNatClampNeg < n := Nat.not_le.mp fun q => hin (Or.inr q)
            have h0 : ¬ i < 0 := fun q => hin (Or.inl q)
            have hcA : H[base + (a - 8)]? = some (vp_cell (dA t) (n, .inr (.inr (.inr (.inr (fun j => (g j).map (pm_ad sa base))))))) := hR.2.1 _ _ hat
            obtain ⟨r', hr', cellV, g1, g2, g3, -⟩ := hR.2.1 _ _ hatv
            have hcls := (hK.1.1 ci r hr1).2
            obtain ⟨kA, comp, k1, k2, k3, -⟩ := (hK.1.2 t _ hr2).2
            have hcomp : comp = dC ci := Option.some.inj (k3.symm.trans hcls.1)
            subst hcomp
            obtain ⟨kC, hkC, -⟩ := hcls.2
            refine W.aast hx hb hcA (fun q h => by cases h) (fun h => by cases h) k1 k2 rfl hkC ⟨h0, by show _ < (arrV _ _ _).slots.size; rw [arrV_size]; exact hlt⟩ g1 (fun q h => by rw [g3] at h; cases h) (by rw [g2]; exact hkC) (by rw [g2]; exact va_assign hcls) rfl rfl hdg fun H1 e z oq => ?_
            refine kk _ _ _ _ _ (pm_R_set ha hR hg ?_ z oq)
            show H1[base + (a - 8)]? = some (vp_cell (dA t) (n, .inr (.inr (.inr (.inr (fun j => (va_up g i.toNatClampNeg (some v) j).map (pm_ad sa base)))))))
            rw [e, vp_cell_q, vp_cell_q, arrV_store]
            congr 2
            funext q
            by_cases hq : q = i.toNatClampNeg
            · subst hq
              simp [updV, va_up, va_rf, pm_ad_hi hv8]
            · simp [updV, va_up, hq]
        · cases hop
      · cases hop
  · cases hop
end PMH
end
section
/-! the classes: their words are among the tables, their fields' types and names -/
theorem pm_in {ws : List Cond} (h1 : ws.all (fun w => decide (w ∈ lw_tbl)) = true) (h2 : ws.all goodWord = true) : ∀ w ∈ ws, w ∈ pm_tbl := fun w hw => List.mem_filter.mpr ⟨of_decide_eq_true (List.all_eq_true.mp h1 w hw), List.all_eq_true.mp h2 w hw⟩
theorem pm_at {w : Cond} (i : Nat) (h1 : lw_tbl[i]? = some w) (h2 : goodWord w = true) : w ∈ pm_tbl := List.mem_filter.mpr ⟨List.mem_of_getElem? h1, h2⟩
theorem pm_in0 : ∀ w ∈ u_ws RX0 TX0 6, w ∈ pm_tbl := pm_in (by decide +kernel) (by decide +kernel)
theorem pm_in1 : ∀ w ∈ u_ws RX1 TX1 12, w ∈ pm_tbl := pm_in (by decide +kernel) (by decide +kernel)
theorem pm_in2 : ∀ w ∈ u_ws RX2 TX2 4, w ∈ pm_tbl := pm_in (by decide +kernel) (by decide +kernel)
theorem pm_in3 : ∀ w ∈ u_ws RX3 TX3 8, w ∈ pm_tbl := pm_in (by decide +kernel) (by decide +kernel)
theorem pm_in4 : ∀ w ∈ u_ws RX4 TX4 5, w ∈ pm_tbl := pm_in (by decide +kernel) (by decide +kernel)
theorem pm_in5 : ∀ w ∈ u_ws RX5 TX5 8, w ∈ pm_tbl := pm_in (by decide +kernel) (by decide +kernel)
theorem pm_in6 : ∀ w ∈ u_ws RX6 TX6 8, w ∈ pm_tbl := pm_in (by decide +kernel) (by decide +kernel)
theorem pm_in7 : ∀ w ∈ u_ws RX7 TX7 5, w ∈ pm_tbl := pm_in (by decide +kernel) (by decide +kernel)
theorem pm_in8 : ∀ w ∈ u_ws RX8 TX8 7, w ∈ pm_tbl := pm_in (by decide +kernel) (by decide +kernel)
theorem pm_in9 : ∀ w ∈ u_ws RX9 TX9 9, w ∈ pm_tbl := pm_in (by decide +kernel) (by decide +kernel)
theorem pm_in10 : ∀ w ∈ u_ws RX10 TX10 57, w ∈ pm_tbl := pm_in (by decide +kernel) (by decide +kernel)
end
section
/-! fields, new objects and arrays, statics, arraycopy -/
theorem pm_cls {ci : Nat} {r : vw_C} (h : pm_cl[ci]? = some r) (hc : ci < 11) : (∀ w ∈ u_ws r.1 r.2.1 r.2.2, w ∈ pm_tbl) ∧ (∀ k, k < r.2.2 → parseFieldDescriptor (r.2.1 k).2.2.1 = some (pm_ty ci k)) ∧ (∀ a, a < r.2.2 → ∀ b, b < r.2.2 → a ≠ b → (r.2.1 a).2.1 ≠ (r.2.1 b).2.1) ∧ r.2.2 = pm_N ci := by
  rcases (show ci = 0 ∨ ci = 1 ∨ ci = 2 ∨ ci = 3 ∨ ci = 4 ∨ ci = 5 ∨ ci = 6 ∨ ci = 7 ∨ ci = 8 ∨ ci = 9 ∨ ci = 10 by omega) with rfl | rfl | rfl | rfl | rfl | rfl | rfl | rfl | rfl | rfl | rfl <;> cases h
  · exact ⟨pm_in0, tyX0_ok, nmX0, rfl⟩
  · exact ⟨pm_in1, tyX1_ok, nmX1, rfl⟩
  · exact ⟨pm_in2, tyX2_ok, nmX2, rfl⟩
  · exact ⟨pm_in3, tyX3_ok, nmX3, rfl⟩
  · exact ⟨pm_in4, tyX4_ok, nmX4, rfl⟩
  · exact ⟨pm_in5, tyX5_ok, nmX5, rfl⟩
  · exact ⟨pm_in6, tyX6_ok, nmX6, rfl⟩
  · exact ⟨pm_in7, tyX7_ok, nmX7, rfl⟩
  · exact ⟨pm_in8, tyX8_ok, nmX8, rfl⟩
  · exact ⟨pm_in9, tyX9_ok, nmX9, rfl⟩
  · exact ⟨pm_in10, tyX10_ok, nmX10, rfl⟩
section PMF
variable {p : Program} {l : Launch} {e : Env} {R : Room} {s : State} {m : MethodId} {args : Array Value} {below : List Frame} {meth : Method} {c : Code} {Q : State → Prop} {cc : ByteArray} {nL : Nat} {own : String} {sa : Nat → Nat} {base : Nat} {dC : Nat → ClassId} {dI : Nat → Nat → Nat} {dA : Nat → ClassId} {X : pm_X} {n0 sl0 nf slf pc : Nat} {f f' : pm_F}
theorem pm_s_getf (C : pm_C p R s m args meth c cc nL own sa base dC dI dA X n0 sl0 nf slf) {n idx : Nat} {r : vw_C} (hc : pm_cl[n / 64]? = some r) (hci : n / 64 < 11) (hk : n % 64 < r.2.2) (hlink : Cond.fieldLink own idx (r.2.1 (n % 64)).1 (r.2.1 (n % 64)).2.1 (r.2.1 (n % 64)).2.2.1 ∈ pm_tbl) (hdg : decode cc pc = .ok (.getfield idx, 3)) (hop : pm_getf X n f = some f') : pm_Go p l e R s m args below meth c Q nL sa base dC dI dA n0 sl0 pc (pc + 3) f f' := by
  obtain ⟨hx, hb, hml, hown, hts, hlk, hK, hc1, hc2, hf1, hl1⟩ := C
  obtain ⟨L, st, S⟩ := f
  intro H locs ls cells slots hR kk
  unfold pm_getf at hop
  split at hop
  · rename_i a st2 hst
    simp only at hst hop
    subst hst
    split at hop
    · cases hop
    · rename_i ha
      split at hop
      · rename_i ci fs hg
        split at hop
        · rename_i hcc
          subst hcc
          split at hop
          · rename_i v hv
            cases hop
            rw [pm_get_hi ha] at hg
            have hat := pm_W_at (ad := pm_ad sa base) (base := base) (dA := dA) hg
            have e1 : pm_cv (pm_ad sa base) (.ref a) = .ref (base + (a - 8)) := by show Value.ref _ = _; rw [pm_ad_hi ha]
            simp only [List.map_cons, e1]
            obtain ⟨C0, T0, N0⟩ := r
            exact va_get (Ts := pm_tbl) hx hb hts (pm_cls hc hci).1 hown hK.1 hR.2.1 (a - 8) hat hc (n % 64) hk (hts _ hlink) (fun _ h9 => h9) (by rw [List.getElem?_map, hv]; rfl) hdg (kk _ _ _ _ _ hR)
          · cases hop
        · cases hop
      · cases hop
  · cases hop
theorem pm_s_putf (C : pm_C p R s m args meth c cc nL own sa base dC dI dA X n0 sl0 nf slf) {n idx : Nat} {r : vw_C} (hc : pm_cl[n / 64]? = some r) (hci : n / 64 < 11) (hk : n % 64 < r.2.2) (hlink : Cond.fieldLink own idx (r.2.1 (n % 64)).1 (r.2.1 (n % 64)).2.1 (r.2.1 (n % 64)).2.2.1 ∈ pm_tbl)
    (hfin : (r.2.1 (n % 64)).2.2.2 = false ∨ ((r.2.1 (n % 64)).2.2.2 = true ∧ meth.name = "<init>" ∧ (r.2.1 (n % 64)).1 = own)) (hdg : decode cc pc = .ok (.putfield idx, 3)) (hop : pm_putf X n f = some f') : pm_Go p l e R s m args below meth c Q nL sa base dC dI dA n0 sl0 pc (pc + 3) f f' := by
  obtain ⟨hx, hb, hml, hown, hts, hlk, hK, hc1, hc2, hf1, hl1⟩ := C
  obtain ⟨L, st, S⟩ := f
  intro H locs ls cells slots hR kk
  unfold pm_putf at hop
  split at hop
  · rename_i v a st2 hst
    simp only at hst hop
    subst hst
    split at hop
    · cases hop
    · rename_i ha
      split at hop
      · rename_i ci fs hg
        split at hop
        · rename_i hcc
          obtain ⟨e0, hlen, hft⟩ := hcc
          subst e0
          cases hop
          rw [pm_get_hi ha] at hg
          have hat := pm_W_at (ad := pm_ad sa base) (base := base) (dA := dA) hg
          have e1 : pm_cv (pm_ad sa base) (.ref a) = .ref (base + (a - 8)) := by show Value.ref _ = _; rw [pm_ad_hi ha]
          simp only [List.map_cons, e1]
          obtain ⟨C0, T0, N0⟩ := r
          obtain ⟨hin, hty, hnm, -⟩ := pm_cls hc hci
          dsimp only at hin hty hnm hk hlink hfin
          obtain ⟨hn, hfit⟩ := pm_fit_ok (ad := pm_ad sa base) hft
          have hd := hty _ hk
          have hl9 : n % 64 < (fs.map (pm_cv (pm_ad sa base))).length := by rw [List.length_map]; exact hlen
          have hap := va_apart (own := own) hts hin (pm_ty (n / 64)) hty hnm hK.1 hc
          obtain ⟨r, h1, cell, q1, q2, q3, q4⟩ := hR.2.1 _ _ hat
          have hr : r = (C0, T0, N0) := Option.some.inj (h1.symm.trans hc)
          subst hr
          obtain ⟨hS, hfc, kC, hkC, hkind⟩ := hK.1.1 (n / 64) _ hc
          obtain ⟨cf, kf, fi, fd, hi, hsl⟩ := hS _ hk
          have hlay := hts _ (hin _ (u_in_lay hk))
          unfold u_lay at hlay
          have hst := (u_facts hfc hkC (u_lays hts hin hk) hi).1
          have fin : ∀ (H' : Heap), H'[base + (a - 8)]? = some (cell.setSlot (dI (n / 64) (n % 64)) (pm_cv (pm_ad sa base) v)) → H'.size = H.size → (∀ q : Nat, q ≠ base + (a - 8) → H'[q]? = H[q]?) → pm_R sa base dC dI dA s nL n0 sl0 (L, st2, (S.1.set (a - 8) (.inr (n / 64, fs.set (n % 64) v)), S.2)) H' (locs ++ [⟨base + (a - 8), dI (n / 64) (n % 64)⟩]) ls cells slots := by
            intro H' e1 e2 e3
            refine pm_R_set ha hR hg ⟨_, hc, ?_⟩ e2 e3
            refine t_OB.to (V := updV (vp_V (fs.map (pm_cv (pm_ad sa base)))) (n % 64) (pm_cv (pm_ad sa base) v)) ⟨_, e1, q2, q3, t_set q4 hap hk _⟩ (fun j _ => ?_)
            have h7 := vp_updV_set hl9 (pm_cv (pm_ad sa base) v) j
            rw [h7]
            simp only [List.map_set]
          rcases hfin with hfin | ⟨hfin, hin2, hdecl⟩
          · rw [if_neg (by rw [hfin]; decide)] at hlay
            have h6 := u_store hfc hkC hkind hlay hi hd hn hfit
            refine W.putK hx hb (f := fd) ⟨hown, hts _ hlink, ⟨_, _, _, hi⟩, hst⟩ (by rw [q2]; exact h6) q1 q3 (by rw [hsl]; exact k2_hasslot (q4 _ hk)) rfl rfl hdg fun H' e1 e2 e3 => ?_
            rw [hsl] at e1 ⊢
            exact kk _ _ _ _ _ (fin H' e1 e2 e3)
          · rw [if_pos hfin] at hlay
            have hcf : m.cls = cf := by
              obtain ⟨_, _, c', _, _, _, -, -, hf', -, -, -, hown2, -⟩ := Cond.laysFinal_spec hlay
              have e1 : c' = cf := by have := hi.symm.trans hf'; simp at this; exact this.1.symm
              rw [hdecl] at hown2
              rw [← e1]; exact Option.some.inj (hown.symm.trans hown2)
            have h6 := u_fits hfc hkC hkind (Or.inr hlay) hi hd hn hfit
            refine W.putFinK hx hb hown (hts _ hlink) hi hst hcf hin2 (by rw [q2]; exact h6) q1 q3 (by rw [hsl]; exact k2_hasslot (q4 _ hk)) rfl rfl hdg fun H' e1 e2 e3 => ?_
            rw [hsl] at e1 ⊢
            exact kk _ _ _ _ _ (fin H' e1 e2 e3)
        · cases hop
      · cases hop
  · cases hop
/-- behind a new cell -/
theorem pm_R_push {L : List (Option Value)} {st st' : List Value} {S : pm_S} {H H1 : Heap} {locs : List Loc} {ls : Array Slot} {cells slots k : Nat} {e1 : va_E} (hR : pm_R sa base dC dI dA s nL n0 sl0 (L, st, S) H locs ls cells slots)
    (h1 : va_at (dC, dI) pm_cl (H.size, pm_ce (pm_ad sa base) dA e1) H1) (z : H1.size = H.size + 1) (oq : ∀ q : Nat, q < H.size → H1[q]? = H[q]?) : pm_R sa base dC dI dA s nL n0 sl0 (L, st', (S.1 ++ [e1], S.2 + k)) H1 locs ls (cells + 1) (slots + k) := by
  obtain ⟨r1, r2, r3, r4, r5, r6⟩ := hR
  dsimp only at r3 r5 r6
  refine ⟨r1, ?_, ?_, ⟨Nat.le_trans r4.1 (by omega), fun x h1 h2 => (oq x (Nat.lt_of_lt_of_le h1 r4.1)).trans (r4.2.1 x h1 h2), r4.2.2⟩, ?_, ?_⟩
  · have hk : ∀ (k : Nat) (x : Nat × va_E), (pm_W (pm_ad sa base) base dA S.1)[k]? = some x → H1[x.1]? = H[x.1]? := fun k x hx => oq x.1 ((r2 k x hx).lt)
    rw [← pm_W_push, ← r3]
    refine (r2.kept hk).app (fun k x hx => ?_)
    have hz : k < 1 := (List.getElem?_eq_some_iff.mp hx).1
    rw [show k = 0 by omega] at hx
    cases hx
    exact h1
  · simp only [List.length_append, List.length_singleton]; omega
  · simp only [List.length_append, List.length_singleton]; omega
  · simp only; omega
theorem pm_blank_at {ci j : Nat} (ad : Nat → Nat) (hj : j < pm_N ci) : defaultValue (pm_ty ci j) = vp_V ((pm_blank ci).map (pm_cv ad)) j := by
  unfold vp_V pm_blank
  rw [List.getD_eq_getElem?_getD, List.getElem?_map, List.getElem?_map, List.getElem?_range hj]
  simp only [Option.map_some, Option.getD_some]
  cases pm_ty ci j <;> rfl
theorem pm_s_new (C : pm_C p R s m args meth c cc nL own sa base dC dI dA X n0 sl0 nf slf) {ci idx : Nat} {r : vw_C} (hc : pm_cl[ci]? = some r) (hci : ci < 11) (hcl : Cond.classLink own idx r.1 ∈ pm_tbl) (hinst : Cond.instantiable r.1 r.2.2 ∈ pm_tbl) (hini : Cond.initialized r.1 ∈ pm_tbl) (hdg : decode cc pc = .ok (.new idx, 3)) (hop : pm_new ci f = some f') (hnf : f'.2.2.1.length ≤ nf ∧ f'.2.2.2 ≤ slf) : pm_Go p l e R s m args below meth c Q nL sa base dC dI dA n0 sl0 pc (pc + 3) f f' := by
  obtain ⟨hx, hb, hml, hown, hts, hlk, hK, hc1, hc2, hf1, hl1⟩ := C
  obtain ⟨L, st, S⟩ := f
  intro H locs ls cells slots hR kk
  unfold pm_new at hop
  rw [if_pos hci] at hop
  cases hop
  obtain ⟨C0, T0, N0⟩ := r
  obtain ⟨hin, hty, hnm, hN⟩ := pm_cls hc hci
  dsimp only at hin hty hnm hN hcl hinst hini hnf
  subst hN
  have hKn := hK.1.1 ci _ hc
  have r5 := hR.2.2.2.2.1
  have r6 := hR.2.2.2.2.2
  dsimp only at r5 r6
  rw [List.length_append, List.length_singleton] at hnf
  refine W.newcK hx hb hown (hts _ hcl) (hts _ hinst) (hts _ hini) rfl hdg (by omega) (by omega) hKn.2.1 rfl fun H1 kC hkC e1 z1 o1 => ?_
  have e2 : Value.ref H.size = pm_cv (pm_ad sa base) (.ref (8 + S.1.length)) := by
    show _ = Value.ref _
    rw [pm_ad_hi (by omega), hR.2.2.1]
    congr 2
    simp only
    omega
  rw [e2]
  exact kk _ _ _ _ _ (pm_R_push hR ⟨_, hc, (u_born (pm_ty ci) hts hin hKn hkC e1 hty).to (fun j hj => pm_blank_at _ hj)⟩ z1 o1)
theorem pm_s_newa (C : pm_C p R s m args meth c cc nL own sa base dC dI dA X n0 sl0 nf slf) {atype : ArrayType} {ty : FieldType} {t : Nat} {k : Nat → vp_A} (harr : Cond.arrayClass ty ∈ pm_tbl) (hty : newarray.typeOf atype = ty) (hbytes : componentBytes ty ≤ 8) (ht : (pm_tys dA)[t]? = some (dA t, ty)) (hra : ∀ (U : State) (cA : ClassId), va_RA U cA ty → U.vm.findClass ("[" ++ ty.toString) = some cA) (hk1 : ∀ (cA : ClassId) (n : Nat), vp_cell cA (k n) = arrV cA n (fun _ => defaultValue ty)) (hk2 : ∀ (n : Nat), pm_ce (pm_ad sa base) dA (.inl (t, k n)) = .inl (dA t, k n)) (hdg : decode cc pc = .ok (.newarray atype, 2)) (hop : pm_newa t k f = some f') (hnf : f'.2.2.1.length ≤ nf ∧ f'.2.2.2 ≤ slf) : pm_Go p l e R s m args below meth c Q nL sa base dC dI dA n0 sl0 pc (pc + 2) f f' := by
  obtain ⟨hx, hb, hml, hown, hts, hlk, hK, hc1, hc2, hf1, hl1⟩ := C
  obtain ⟨L, st, S⟩ := f
  intro H locs ls cells slots hR kk
  unfold pm_newa at hop
  split at hop
  · rename_i n st2 hst
    simp only at hst hop
    subst hst
    split at hop
    · cases hop
    · rename_i hin
      cases hop
      have r5 := hR.2.2.2.2.1
      have r6 := hR.2.2.2.2.2
      dsimp only at r5 r6 hnf
      rw [List.length_append, List.length_singleton] at hnf
      have hn0 : ¬ n < 0 := fun z => hin (Or.inl z)
      have hn1 : n.toNatClampNeg < 100000 := Nat.not_le.mp fun z => hin (Or.inr z)
      subst hty
      simp only [List.map_cons]
      refine va_newaK hx hb (hts _ harr) rfl hdg rfl hn0 rfl (Nat.le_trans (Nat.mul_le_mul (Nat.le_of_lt hn1) hbytes) (Nat.le_of_ble_eq_true rfl)) (by omega) (by omega) rfl fun H1 cA e1 z1 o1 hAr hNm => ?_
      have hcA : cA = dA t := by
        have h1 := hra s _ (hK.1.2 t _ ht).2
        exact Option.some.inj (hNm.symm.trans h1)
      subst hcA
      have e2 : Value.ref H.size = pm_cv (pm_ad sa base) (.ref (8 + S.1.length)) := by
        show _ = Value.ref _
        rw [pm_ad_hi (by omega), hR.2.2.1]
        congr 2
        simp only
        omega
      show W _ _ _ _ _ _ _ _ _ _ _ _ _ _ _ (F0 m (pc + 2) ls (.ref H.size :: List.map (pm_cv (pm_ad sa base)) st2))
      rw [e2]
      refine kk _ _ _ _ _ (pm_R_push hR ?_ z1 o1)
      rw [hk2]
      show H1[H.size]? = some (vp_cell _ _)
      rw [hk1]
      exact e1
  · cases hop
theorem pm_s_anew (C : pm_C p R s m args meth c cc nL own sa base dC dI dA X n0 sl0 nf slf) {idx t : Nat} {r : vw_C} (hc : pm_cl[pm_ac t]? = some r) (h25 : 2 ≤ t ∧ t < 5) (hcl : Cond.classLink own idx r.1 ∈ pm_tbl) (hov : r.1 ∈ [RX3, RX8, RX7]) (hdg : decode cc pc = .ok (.anewarray idx, 3)) (hop : pm_newa t (fun n => (n, .inr (.inr (.inr (.inr (fun _ => none)))))) f = some f') (hnf : f'.2.2.1.length ≤ nf ∧ f'.2.2.2 ≤ slf) : pm_Go p l e R s m args below meth c Q nL sa base dC dI dA n0 sl0 pc (pc + 3) f f' := by
  obtain ⟨hx, hb, hml, hown, hts, hlk, hK, hc1, hc2, hf1, hl1⟩ := C
  obtain ⟨L, st, S⟩ := f
  intro H locs ls cells slots hR kk
  unfold pm_newa at hop
  split at hop
  · rename_i n st2 hst
    simp only at hst hop
    subst hst
    split at hop
    · cases hop
    · rename_i hin
      cases hop
      have r5 := hR.2.2.2.2.1
      have r6 := hR.2.2.2.2.2
      dsimp only at r5 r6 hnf
      rw [List.length_append, List.length_singleton] at hnf
      have hn0 : ¬ n < 0 := fun z => hin (Or.inl z)
      have hn1 : n.toNatClampNeg < 100000 := Nat.not_le.mp fun z => hin (Or.inr z)
      simp only [List.map_cons]
      obtain ⟨r', hr1, hr2⟩ := pm_tys_at (dA := dA) h25
      cases hc.symm.trans hr1
      refine W.anew hx hb hown (hts _ hcl) (va_AO.use (hK.2.2.2.2.2.2 _ hov)) rfl hdg rfl hn0 (by omega) (by omega) (by omega) fun cA kA comp f1 f2 f3 f4 => ?_
      obtain ⟨kA', comp', -, -, -, f5⟩ := (hK.1.2 t _ hr2).2
      have hcA : cA = dA t := Option.some.inj (f1.symm.trans f5)
      subst hcA
      have e2 : Value.ref H.size = pm_cv (pm_ad sa base) (.ref (8 + S.1.length)) := by
        show _ = Value.ref _
        rw [pm_ad_hi (by omega), hR.2.2.1]
        congr 2
        simp only
        omega
      show W _ _ _ _ _ _ _ _ _ _ _ _ _ _ _ (F0 m (pc + 3) ls (.ref H.size :: List.map (pm_cv (pm_ad sa base)) st2))
      rw [e2]
      refine kk _ _ _ _ _ (pm_R_push hR ?_ (Array.size_push _) (fun q hq => by rw [Array.getElem?_push, if_neg (Nat.ne_of_lt hq)]))
      show (H.push _)[H.size]? = some (vp_cell (dA t) (n.toNatClampNeg, .inr (.inr (.inr (.inr (fun _ => none))))))
      rw [Array.getElem?_push_size, vp_cell_q, ← arrV_new]
      rfl
  · cases hop
theorem pm_s_gets (C : pm_C p R s m args meth c cc nL own sa base dC dI dA X n0 sl0 nf slf) {idx n : Nat} {q : String × Nat} (hq : q ∈ pm_sts) (hn : q.2 = n) (hn8 : n < 8) (hlink : Cond.fieldLink own idx "QuestionDesk" q.1 "[I" ∈ pm_tbl ∨ (own, idx, q.1) ∈ pm_nwf) (hdg : decode cc pc = .ok (.getstatic idx, 3)) (hop : pm_push (.ref n) f = some f') : pm_Go p l e R s m args below meth c Q nL sa base dC dI dA n0 sl0 pc (pc + 3) f f' := by
  obtain ⟨hx, hb, hml, hown, hts, hlk, hK, hc1, hc2, hf1, hl1⟩ := C
  obtain ⟨L, st, S⟩ := f
  intro H locs ls cells slots hR kk
  unfold pm_push at hop
  cases hop
  subst hn
  have e2 : Value.ref (sa q.2) = pm_cv (pm_ad sa base) (.ref q.2) := by
    show _ = Value.ref _
    rw [pm_ad_lo hn8]
  rcases hlink with hlink | hlink
  · refine va_gets hx hb (hK.2.2.1 q hq) hR.2.2.2.1 hown (hts _ hlink) (fun _ h9 => h9) hdg ?_
    rw [e2]
    exact kk _ _ _ _ _ hR
  · refine va_getsN hx hb (hK.2.2.1 q hq) hR.2.2.2.1 hown (va_Nw.use rfl (hK.2.2.2.2.1 _ hlink)) (fun _ h9 => h9) hdg ?_
    rw [e2]
    exact kk _ _ _ _ _ hR
theorem pm_s_oini (C : pm_C p R s m args meth c cc nL own sa base dC dI dA X n0 sl0 nf slf) {idx : Nat} (hlink : Cond.methodLink own idx Lib.objectInit ∈ pm_tbl) (hin : Cond.instanceMethod Lib.objectInit ∈ pm_tbl) (hco : Cond.code Lib.objectInit ⟨#[0xb1]⟩ 1 none ∈ pm_tbl) (hdg : decode cc pc = .ok (.invokespecial idx, 3)) (hop : pm_oini f = some f') : pm_Go p l e R s m args below meth c Q nL sa base dC dI dA n0 sl0 pc (pc + 3) f f' := by
  obtain ⟨hx, hb, hml, hown, hts, hlk, hK, hc1, hc2, hf1, hl1⟩ := C
  obtain ⟨L, st, S⟩ := f
  intro H locs ls cells slots hR kk
  unfold pm_oini at hop
  split at hop
  · rename_i a st2 hst
    simp only at hst hop
    subst hst
    split at hop
    · rename_i hsum
      cases hop
      refine W.objInit hx hb hown (hts _ hlink) (hts _ hin) (hts _ hco) rfl (by rw [hml]; exact hR.1.2.1) rfl hdg hf1 ?_ (kk _ _ _ _ _ hR)
      have h3 := pm_cv_sum (pm_ad sa base) st2
      show 2 * 0 + ((st2.map (pm_cv (pm_ad sa base))).map fun v => v.category).sum + 12 ≤ _
      rw [h3]
      omega
    · cases hop
  · cases hop
theorem pm_s_copy (C : pm_C p R s m args meth c cc nL own sa base dC dI dA X n0 sl0 nf slf) {idx : Nat} (hlink : Cond.methodLink own idx arraycopyName ∈ pm_tbl) (hnat : Cond.native arraycopyName ∈ pm_tbl) (hstat : Cond.static arraycopyName ∈ pm_tbl) (hini : Cond.initialized "java/lang/System" ∈ pm_tbl) (hdg : decode cc pc = .ok (.invokestatic idx, 3)) (hop : pm_copy X f = some f') : pm_Go p l e R s m args below meth c Q nL sa base dC dI dA n0 sl0 pc (pc + 3) f f' := by
  obtain ⟨hx, hb, hml, hown, hts, hlk, hK, hc1, hc2, hf1, hl1⟩ := C
  obtain ⟨L, st, S⟩ := f
  intro H locs ls cells slots hR kk
  unfold pm_copy at hop
  split at hop
  · rename_i n dp a sp a0 st2 hst
    simp only at hst hop
    subst hst
    split at hop
    · cases hop
    · rename_i ha8
      have ha : ¬ a < 8 := fun z => ha8 (Or.inl z)
      have hsum : (st2.map fun v => v.category).sum ≤ 8 := Nat.not_lt.mp fun z => ha8 (Or.inr z)
      split at hop
      · rename_i m0 g0 m1 g1 hg0 hg1
        split at hop
        · cases hop
        · rename_i hin
          cases hop
          obtain ⟨cs, x1, x2, x3, x4, x4b, x5⟩ := pm_gx hK hR.2.1 hR.2.2.2.1 hg0
          rw [pm_get_hi ha] at hg1
          have hat := pm_W_at (ad := pm_ad sa base) (base := base) (dA := dA) hg1
          have e1 : pm_cv (pm_ad sa base) (.ref a) = .ref (base + (a - 8)) := by show Value.ref _ = _; rw [pm_ad_hi ha]
          have hc1 : H[base + (a - 8)]? = some (vp_cell (dA 0) (m1, .inl g1)) := hR.2.1 _ _ hat
          have h1 : ¬ sp < 0 := fun z => hin (Or.inl z)
          have h2 : ¬ dp < 0 := fun z => hin (Or.inr (Or.inl z))
          have h3 : ¬ n < 0 := fun z => hin (Or.inr (Or.inr (Or.inl z)))
          have h4 : sp.toNatClampNeg + n.toNatClampNeg ≤ m0 := Nat.not_lt.mp fun z => hin (Or.inr (Or.inr (Or.inr (Or.inl z))))
          have h5 : dp.toNatClampNeg + n.toNatClampNeg ≤ m1 := Nat.not_lt.mp fun z => hin (Or.inr (Or.inr (Or.inr (Or.inr z))))
          have nn : ∀ z : Int32, ¬ z < 0 → z.toInt = (z.toNatClampNeg : Int) := by
            intro z hz
            have hz0 : (0 : Int) ≤ z.toInt := by
              have := Int32.not_lt.mp hz
              simpa using Int32.le_iff_toInt_le.mp this
            show z.toInt = ((z.toInt.toNat : Nat) : Int)
            omega
          simp only [List.map_cons, e1]
          show W _ _ _ _ _ _ _ _ _ _ _ _ _ _ _ (F0 m pc ls (.int n :: .int dp :: .ref (base + (a - 8)) :: .int sp :: .ref (pm_ad sa base a0) :: List.map (pm_cv (pm_ad sa base)) st2))
          intro T hT X2
          obtain ⟨y1, k0, hk0, cm0, hkk0⟩ := x2
          obtain ⟨-, k1, hk1, cm1, hkk1⟩ := (hK.1.2 0 _ rfl).1 m1 (fun j => .int (g1 j))
          obtain ⟨vm', X', step⟩ := X2.arraycopy hx hown (hts _ hlink) (hts _ hnat) (hts _ hstat) (hts _ hini) (src := pm_ad sa base a0) (dst := base + (a - 8)) (cs := cs) (cd := vp_cell (dA 0) (m1, .inl g1)) (srcPos := sp) (destPos := dp) (n := n) (by rw [hT]; exact x1) (by rw [hT]; exact hc1)
            y1 (fun _ h => by cases h) x3 (fun h => by cases h) hk0 hk1 hkk0 hkk1 rfl h1 h2 h3
            (by rw [nn sp h1, nn n h3]; omega)
            (by rw [nn dp h2, nn n h3]; show ¬ _ > ((arrV (dA 0) m1 (fun j => .int (g1 j))).slots.size : Int); rw [arrV_size]; omega)
            (fun vm₁ _ i hi => by
              have e : cs.slots.getD (sp.toNatClampNeg + i) .null = .int (g0 (sp.toNatClampNeg + i)) := by
                rw [Array.getD_eq_getD_getElem?, x5 _ (by omega)]
                rfl
              refine ⟨?_, ?_⟩
              · rw [e]; rfl
              · rw [e]; exact trivial)
            (g := F0 m pc ls (.int n :: .int dp :: .ref (base + (a - 8)) :: .int sp :: .ref (pm_ad sa base a0) :: List.map (pm_cv (pm_ad sa base)) st2)) rfl (by rw [hml]; exact hR.1.2.1) (rest := List.map (pm_cv (pm_ad sa base)) st2) rfl (by rw [hb]; exact hdg) hf1
            (by
              show 2 * 0 + ((st2.map (pm_cv (pm_ad sa base))).map fun v => v.category).sum + (nativeFrameWords "java/lang/System" "arraycopy" 5 + 11) ≤ _
              rw [pm_cv_sum]
              have : nativeFrameWords "java/lang/System" "arraycopy" 5 = 7 := by decide
              omega)
          have e9 : copied cs (vp_cell (dA 0) (m1, .inl g1)) sp dp n = vp_cell (dA 0) (m1, .inl (va_cpy g0 g1 sp.toNatClampNeg dp.toNatClampNeg n.toNatClampNeg)) := va_copiedX (fun z => .int z) cs (dA 0) g0 g1 x5 h4
          rw [e9] at X' step
          have hl : base + (a - 8) < H.size := (Array.getElem?_eq_some_iff.mp hc1).1
          have hheap : ((T.setVm vm').setCell (base + (a - 8)) (vp_cell (dA 0) (m1, .inl (va_cpy g0 g1 sp.toNatClampNeg dp.toNatClampNeg n.toNatClampNeg)))).heap = H.setIfInBounds (base + (a - 8)) (vp_cell (dA 0) (m1, .inl (va_cpy g0 g1 sp.toNatClampNeg dp.toNatClampNeg n.toNatClampNeg))) := by rw [← hT]; rfl
          have oq : ∀ q : Nat, q ≠ base + (a - 8) → (H.setIfInBounds (base + (a - 8)) (vp_cell (dA 0) (m1, .inl (va_cpy g0 g1 sp.toNatClampNeg dp.toNatClampNeg n.toNatClampNeg))))[q]? = H[q]? := fun q hq => by simp [Array.getElem?_setIfInBounds, Ne.symm hq]
          have h0 := pm_R_set (st' := st2) (k := 0) (e1 := .inl (0, m1, .inl (va_cpy g0 g1 sp.toNatClampNeg dp.toNatClampNeg n.toNatClampNeg))) ha hR hg1 (H1 := H.setIfInBounds (base + (a - 8)) (vp_cell (dA 0) (m1, .inl (va_cpy g0 g1 sp.toNatClampNeg dp.toNatClampNeg n.toNatClampNeg)))) (show (H.setIfInBounds (base + (a - 8)) _)[base + (a - 8)]? = some _ by simp [Array.getElem?_setIfInBounds, hl]; rfl) (by simp) oq
          obtain ⟨t, a1, b1⟩ := kk _ (locs ++ (cs.stretch sp.toNatClampNeg n.toNatClampNeg).zipIdx.map fun q => ⟨base + (a - 8), dp.toNatClampNeg + q.2⟩) ls cells slots ⟨h0.1, h0.2.1, h0.2.2.1, ⟨h0.2.2.2.1.1, h0.2.2.2.1.2.1, fun q hq => by
            rcases List.mem_append.mp hq with h | h
            · exact hR.2.2.2.1.2.2 q h
            · obtain ⟨z, -, hz⟩ := List.mem_map.mp h
              rw [← hz]
              exact Nat.le_add_right _ _⟩, h0.2.2.2.2⟩ _ hheap X'
          exact ⟨t, step t a1, b1⟩
      · cases hop
  · cases hop
theorem pm_s_max (C : pm_C p R s m args meth c cc nL own sa base dC dI dA X n0 sl0 nf slf) {idx : Nat} (hlink : Cond.methodLink own idx Lib.Math.max.name ∈ pm_tbl) (hstat : Cond.static Lib.Math.max.name ∈ pm_tbl) (hini : Cond.initialized "java/lang/Math" ∈ pm_tbl) (hco : Cond.code Lib.Math.max.name Lib.Math.max.code 2 (some .int) ∈ pm_tbl) (hdg : decode cc pc = .ok (.invokestatic idx, 3)) (hop : pm_mm (fun x y => if x < y then y else x) f = some f') (hnf : f'.2.2.1.length ≤ nf ∧ f'.2.2.2 ≤ slf) : pm_Go p l e R s m args below meth c Q nL sa base dC dI dA n0 sl0 pc (pc + 3) f f' := by
  obtain ⟨hx, hb, hml, hown, hts, hlk, hK, hc1, hc2, hf1, hl1⟩ := C
  obtain ⟨L, st, S⟩ := f
  intro H locs ls cells slots hR kk
  unfold pm_mm at hop
  split at hop
  · rename_i y x st2 hst
    simp only at hst hop
    subst hst
    split at hop
    · rename_i hsum
      cases hop
      have r5 := hR.2.2.2.2.1
      have r6 := hR.2.2.2.2.2
      dsimp only at r5 r6 hnf
      exact va_mmax hx hb (by rw [hml]; exact hR.1.2.1.symm) hown (hts _ hlink) (hts _ hstat) (hts _ hini) (hts _ hco) hf1 (by rw [pm_cv_sum]; omega) (by omega) (by omega) hdg (kk _ _ _ _ _ hR)
    · cases hop
  · cases hop
theorem pm_s_min (C : pm_C p R s m args meth c cc nL own sa base dC dI dA X n0 sl0 nf slf) {idx : Nat} (hlink : Cond.methodLink own idx Lib.Math.min.name ∈ pm_tbl) (hstat : Cond.static Lib.Math.min.name ∈ pm_tbl) (hini : Cond.initialized "java/lang/Math" ∈ pm_tbl) (hco : Cond.code Lib.Math.min.name Lib.Math.min.code 2 (some .int) ∈ pm_tbl) (hdg : decode cc pc = .ok (.invokestatic idx, 3)) (hop : pm_mm (fun x y => if y < x then y else x) f = some f') (hnf : f'.2.2.1.length ≤ nf ∧ f'.2.2.2 ≤ slf) : pm_Go p l e R s m args below meth c Q nL sa base dC dI dA n0 sl0 pc (pc + 3) f f' := by
  obtain ⟨hx, hb, hml, hown, hts, hlk, hK, hc1, hc2, hf1, hl1⟩ := C
  obtain ⟨L, st, S⟩ := f
  intro H locs ls cells slots hR kk
  unfold pm_mm at hop
  split at hop
  · rename_i y x st2 hst
    simp only at hst hop
    subst hst
    split at hop
    · rename_i hsum
      cases hop
      have r5 := hR.2.2.2.2.1
      have r6 := hR.2.2.2.2.2
      dsimp only at r5 r6 hnf
      exact va_mmin hx hb (by rw [hml]; exact hR.1.2.1.symm) hown (hts _ hlink) (hts _ hstat) (hts _ hini) (hts _ hco) hf1 (by rw [pm_cv_sum]; omega) (by omega) (by omega) hdg (kk _ _ _ _ _ hR)
    · cases hop
  · cases hop
end PMF
end
section
/-! the pure heap only grows -/
def pm_le (S T : pm_S) : Prop := S.1.length ≤ T.1.length ∧ S.2 ≤ T.2
theorem pm_le.rf (S : pm_S) : pm_le S S := ⟨Nat.le_refl _, Nat.le_refl _⟩
theorem pm_le.trans {S T U : pm_S} (h : pm_le S T) (g : pm_le T U) : pm_le S U := ⟨Nat.le_trans h.1 g.1, Nat.le_trans h.2 g.2⟩
theorem pm_le.of_eq {S T : pm_S} (h : T = S) : pm_le S T := by subst h; exact pm_le.rf _
theorem pm_le.set {S : pm_S} {k : Nat} {e : va_E} : pm_le S (S.1.set k e, S.2) := ⟨by rw [List.length_set]; exact Nat.le_refl _, Nat.le_refl _⟩
theorem pm_le.push {S : pm_S} {k : Nat} {e : va_E} : pm_le S (S.1 ++ [e], S.2 + k) := ⟨by rw [List.length_append]; exact Nat.le_add_right _ _, Nat.le_add_right _ _⟩
section
variable {X : pm_X} {f f' : pm_F}
theorem pm_m_push {v : Value} (h : pm_push v f = some f') : pm_le f.2.2 f'.2.2 := by
  unfold pm_push at h; cases h; exact pm_le.rf _
theorem pm_m_b2 {g : Int32 → Int32 → Option Value} (h : pm_b2 g f = some f') : pm_le f.2.2 f'.2.2 := by
  unfold pm_b2 at h
  repeat' split at h
  all_goals first | (cases h; exact pm_le.rf _) | cases h
theorem pm_m_b1 {g : Int32 → Value} (h : pm_b1 g f = some f') : pm_le f.2.2 f'.2.2 := by
  unfold pm_b1 at h
  repeat' split at h
  all_goals first | (cases h; exact pm_le.rf _) | cases h
theorem pm_m_l2 {g : Int64 → Int64 → Value} (h : pm_l2 g f = some f') : pm_le f.2.2 f'.2.2 := by
  unfold pm_l2 at h
  repeat' split at h
  all_goals first | (cases h; exact pm_le.rf _) | cases h
theorem pm_m_load {k : Value → Bool} {i : Nat} (h : pm_load k i f = some f') : pm_le f.2.2 f'.2.2 := by
  unfold pm_load at h
  repeat' split at h
  all_goals first | (cases h; exact pm_le.rf _) | cases h
theorem pm_m_store {k : Value → Bool} {i : Nat} (h : pm_store k i f = some f') : pm_le f.2.2 f'.2.2 := by
  unfold pm_store at h
  repeat' split at h
  all_goals first | (cases h; exact pm_le.rf _) | cases h
theorem pm_m_iinc {n : Int} {i : Nat} (h : pm_iinc i n f = some f') : pm_le f.2.2 f'.2.2 := by
  unfold pm_iinc at h
  repeat' split at h
  all_goals first | (cases h; exact pm_le.rf _) | cases h
theorem pm_m_iald (h : pm_iald X f = some f') : pm_le f.2.2 f'.2.2 := by
  unfold pm_iald at h
  repeat' split at h
  all_goals first | (cases h; exact pm_le.rf _) | cases h
theorem pm_m_lald (h : pm_lald X f = some f') : pm_le f.2.2 f'.2.2 := by
  unfold pm_lald at h
  repeat' split at h
  all_goals first | (cases h; exact pm_le.rf _) | cases h
theorem pm_m_aald (h : pm_aald X f = some f') : pm_le f.2.2 f'.2.2 := by
  unfold pm_aald at h
  repeat' split at h
  all_goals first | (cases h; exact pm_le.rf _) | cases h
theorem pm_m_iast (h : pm_iast X f = some f') : pm_le f.2.2 f'.2.2 := by
  unfold pm_iast at h
  repeat' split at h
  all_goals first | (cases h; exact pm_le.set) | cases h
theorem pm_m_last (h : pm_last X f = some f') : pm_le f.2.2 f'.2.2 := by
  unfold pm_last at h
  repeat' split at h
  all_goals first | (cases h; exact pm_le.set) | cases h
theorem pm_m_aast (h : pm_aast X f = some f') : pm_le f.2.2 f'.2.2 := by
  unfold pm_aast at h
  repeat' split at h
  all_goals first | (cases h; exact pm_le.set) | cases h
theorem pm_m_alen (h : pm_alen X f = some f') : pm_le f.2.2 f'.2.2 := by
  unfold pm_alen at h
  repeat' split at h
  all_goals first | (cases h; exact pm_le.rf _) | cases h
theorem pm_m_getf {n : Nat} (h : pm_getf X n f = some f') : pm_le f.2.2 f'.2.2 := by
  unfold pm_getf at h
  repeat' split at h
  all_goals first | (cases h; exact pm_le.rf _) | cases h
theorem pm_m_putf {n : Nat} (h : pm_putf X n f = some f') : pm_le f.2.2 f'.2.2 := by
  unfold pm_putf at h
  repeat' split at h
  all_goals first | (cases h; exact pm_le.set) | cases h
theorem pm_m_new {n : Nat} (h : pm_new n f = some f') : pm_le f.2.2 f'.2.2 := by
  unfold pm_new at h
  repeat' split at h
  all_goals first | (cases h; exact pm_le.push) | cases h
theorem pm_m_newa {t : Nat} {k : Nat → vp_A} (h : pm_newa t k f = some f') : pm_le f.2.2 f'.2.2 := by
  unfold pm_newa at h
  repeat' split at h
  all_goals first | (cases h; exact pm_le.push) | cases h
theorem pm_m_copy (h : pm_copy X f = some f') : pm_le f.2.2 f'.2.2 := by
  unfold pm_copy at h
  repeat' split at h
  all_goals first | (cases h; exact pm_le.set) | cases h
theorem pm_m_dup (h : pm_dup f = some f') : pm_le f.2.2 f'.2.2 := by
  unfold pm_dup at h
  repeat' split at h
  all_goals first | (cases h; exact pm_le.rf _) | cases h
theorem pm_m_dup2 (h : pm_dup2 f = some f') : pm_le f.2.2 f'.2.2 := by
  unfold pm_dup2 at h
  repeat' split at h
  all_goals first | (cases h; exact pm_le.rf _) | cases h
theorem pm_m_pop (h : pm_pop f = some f') : pm_le f.2.2 f'.2.2 := by
  unfold pm_pop at h
  repeat' split at h
  all_goals first | (cases h; exact pm_le.rf _) | cases h
theorem pm_m_pop2 (h : pm_pop2 f = some f') : pm_le f.2.2 f'.2.2 := by
  unfold pm_pop2 at h
  repeat' split at h
  all_goals first | (cases h; exact pm_le.rf _) | cases h
theorem pm_m_mm {g : Int32 → Int32 → Int32} (h : pm_mm g f = some f') : pm_le f.2.2 f'.2.2 := by
  unfold pm_mm at h
  repeat' split at h
  all_goals first | (cases h; exact pm_le.rf _) | cases h
theorem pm_m_oini (h : pm_oini f = some f') : pm_le f.2.2 f'.2.2 := by
  unfold pm_oini at h
  repeat' split at h
  all_goals first | (cases h; exact pm_le.rf _) | cases h
theorem pm_m_op {i : Instr} (h : pm_op X i f = some f') : pm_le f.2.2 f'.2.2 := by
  unfold pm_op at h
  split at h
  all_goals first
    | exact pm_m_push h | exact pm_m_load h | exact pm_m_store h | exact pm_m_iinc h | exact pm_m_b2 h | exact pm_m_b1 h | exact pm_m_l2 h | exact pm_m_iald h | exact pm_m_lald h | exact pm_m_aald h | exact pm_m_iast h | exact pm_m_last h | exact pm_m_aast h | exact pm_m_alen h | exact pm_m_getf h | exact pm_m_putf h | exact pm_m_new h | exact pm_m_newa h | exact pm_m_copy h | exact pm_m_dup h | exact pm_m_dup2 h | exact pm_m_mm h | exact pm_m_pop h | exact pm_m_pop2 h | exact pm_m_oini h | (cases h; done) | skip
  · split at h <;> first | (cases h; exact pm_le.rf _) | cases h
  · split at h
    · exact pm_m_newa h
    · cases h
end
def pm_oS (o : pm_O) : pm_S := match o with
  | .inl g => g.2.2.2
  | .inr t => t.2
def pm_mf (cf : Nat → List Value → pm_S → Option pm_T) : Prop := ∀ (mid : Nat) (as : List Value) (S : pm_S) (t : pm_T), cf mid as S = some t → pm_le S t.2
theorem pm_m_ex {X : pm_X} {M : List pm_M} {cf : Nat → List Value → pm_S → Option pm_T} {ret : Option FieldType} {b : Nat} (hcf : pm_mf cf) : ∀ (is : List Instr) (f : pm_F) (o : pm_O), pm_ex X M cf ret b is f = some o → pm_le f.2.2 (pm_oS o) := by
  intro is
  induction is with
  | nil => intro f o h; unfold pm_ex at h; cases h; exact pm_le.rf _
  | cons i is ih =>
    intro f o h
    unfold pm_ex at h
    split at h
    case h_12 mid => 
      repeat' split at h
      all_goals first | (cases h; done) | skip
      rename_i q _ r _ t ht
      exact (hcf _ _ _ _ ht).trans (ih _ _ h)
    case h_13 mid => 
      repeat' split at h
      all_goals first | (cases h; done) | skip
      rename_i q _ r _ _ t ht
      exact (hcf _ _ _ _ ht).trans (ih _ _ h)
    case h_14 mid => 
      repeat' split at h
      all_goals first | (cases h; done) | skip
      rename_i q _ r _ _ t ht
      exact (hcf _ _ _ _ ht).trans (ih _ _ h)
    case h_15 => 
      split at h
      · rename_i f' hf
        exact (pm_m_op hf).trans (ih _ _ h)
      · cases h
    all_goals
      repeat' split at h
      all_goals first | (cases h; exact pm_le.rf _) | cases h
theorem pm_m_go {X : pm_X} {M : List pm_M} {cf : Nat → List Value → pm_S → Option pm_T} {ret : Option FieldType} {code : List (Nat × List Instr)} (hcf : pm_mf cf) : ∀ (F b : Nat) (f : pm_F) (t : pm_T), pm_go X M cf ret code F b f = some t → pm_le f.2.2 t.2 := by
  intro F
  induction F with
  | zero => intro b f t h; unfold pm_go at h; cases h
  | succ F ih =>
    intro b f t h
    unfold pm_go at h
    split at h
    · cases h
    · split at h
      · cases h
      · rename_i g hg
        exact (pm_m_ex hcf _ _ _ hg).trans (ih _ _ _ h)
      · rename_i t' hg
        cases h
        exact pm_m_ex hcf _ _ _ hg
theorem pm_m_call {X : pm_X} {M : List pm_M} {PR : pm_P} (hPR : ∀ (mid : Nat) (g : List Value → pm_S → Option pm_T), PR mid = some g → ∀ (as : List Value) (S : pm_S) (t : pm_T), g as S = some t → pm_le S t.2) : ∀ (d : Nat), pm_mf (pm_call X M PR d) := by
  intro d
  induction d with
  | zero => intro mid as S t h; unfold pm_call at h; cases h
  | succ d ih =>
    intro mid as S t h
    unfold pm_call at h
    split at h
    · rename_i g hg
      split at h
      · exact hPR mid g hg as S t h
      · cases h
    · split at h
      · cases h
      · split at h
        · cases h
        · exact pm_m_go ih _ _ _ _ h
end
section
/-! a checked op is the machine's -/
def pm_tc (k : Nat) : List Cond := match k with
  | 0 => k2_sels lw_privs
  | 1 => tables_1_1
  | 2 => tables_1_2
  | 3 => tables_1_3
  | 4 => tables_1_4
  | 5 => tables_1_5
  | 6 => tables_1_6
  | 7 => tables_1_7
  | 8 => tables_1_8
  | _ => []
theorem pm_tc_in {k : Nat} {w : Cond} (h : w ∈ pm_tc k) : w ∈ lw_tbl := by
  unfold lw_tbl tables_1
  simp only [List.mem_append]
  unfold pm_tc at h
  split at h
  all_goals first | (cases h; done) | (simp [h]; done)
def pm_wb (i : Nat) (w : Cond) : Bool := decide ((pm_tc (i / 1000))[i % 1000]? = some w) && goodWord w
theorem pm_wb_in {i : Nat} {w : Cond} (h : pm_wb i w = true) : w ∈ pm_tbl := by
  simp only [pm_wb, Bool.and_eq_true, decide_eq_true_eq] at h
  exact List.mem_filter.mpr ⟨pm_tc_in (List.mem_of_getElem? h.1), h.2⟩
def pm_fl (own : String) (idx n h : Nat) : Bool := match pm_cl[n / 64]? with
  | some r => decide (n / 64 < 11) && (decide (n % 64 < r.2.2) && pm_wb h (.fieldLink own idx (r.2.1 (n % 64)).1 (r.2.1 (n % 64)).2.1 (r.2.1 (n % 64)).2.2.1))
  | none => false
def pm_fi (own : String) (ini : Bool) (n : Nat) : Bool := match pm_cl[n / 64]? with
  | some r => !(r.2.1 (n % 64)).2.2.2 || (ini && decide ((r.2.1 (n % 64)).1 = own))
  | none => false
def pm_sl (own : String) (idx n h : Nat) : Bool := match pm_sts[n - 1]? with
  | some q => decide (q.2 = n) && (decide (n < 8) && (pm_wb h (.fieldLink own idx "QuestionDesk" q.1 "[I") || decide (pm_nwf[h - 90000]? = some (own, idx, q.1))))
  | none => false
def pm_nl (own : String) (idx ci h : Nat) : Bool := match pm_cl[ci]? with
  | some r => decide (ci < 11) && pm_wb h (.classLink own idx r.1)
  | none => false
def pm_rl (own : String) (ini : Bool) (i : Instr) (len : Nat) (op : Instr) (h : Nat) : Bool := match op with
  | .iconst n => (match i with
    | .iconst k => decide (Int32.ofInt k = Int32.ofInt n) && decide (len = 1)
    | .bipush k => decide ((Int8.ofInt k).toInt32 = Int32.ofInt n) && decide (len = 2)
    | .sipush k => decide ((Int16.ofInt k).toInt32 = Int32.ofInt n) && decide (len = 3)
    | .ldc k => pm_wb h (.constant own k (Int32.ofInt n)) && decide (len = 2)
    | .ldc_w k => pm_wb h (.constant own k (Int32.ofInt n)) && decide (len = 3)
    | _ => false)
  | .goto_w n => (match i with
    | .lconst k => decide (Int64.ofNat (k : Nat) = Int64.ofInt n) && decide (len = 1)
    | .ldc2_w k => pm_wb h (.constantLong own k (Int64.ofInt n)) && decide (len = 3)
    | _ => false)
  | .iload k => (match i with
    | .iload j => decide (j = k) && decide (len = 2)
    | .iload_n j => decide ((j : Nat) = k) && decide (len = 1)
    | _ => false)
  | .istore k => (match i with
    | .istore j => decide (j = k) && decide (len = 2)
    | .istore_n j => decide ((j : Nat) = k) && decide (len = 1)
    | _ => false)
  | .lload k => (match i with
    | .lload j => decide (j = k) && decide (len = 2)
    | .lload_n j => decide ((j : Nat) = k) && decide (len = 1)
    | _ => false)
  | .lstore k => (match i with
    | .lstore j => decide (j = k) && decide (len = 2)
    | .lstore_n j => decide ((j : Nat) = k) && decide (len = 1)
    | _ => false)
  | .aload k => (match i with
    | .aload j => decide (j = k) && decide (len = 2)
    | .aload_n j => decide ((j : Nat) = k) && decide (len = 1)
    | _ => false)
  | .astore k => (match i with
    | .astore j => decide (j = k) && decide (len = 2)
    | .astore_n j => decide ((j : Nat) = k) && decide (len = 1)
    | _ => false)
  | .iinc k n => decide (i = .iinc k n) && decide (len = 3)
  | .getfield n => (match i with
    | .getfield idx => pm_fl own idx n h && decide (len = 3)
    | _ => false)
  | .putfield n => (match i with
    | .putfield idx => pm_fl own idx n h && (pm_fi own ini n && decide (len = 3))
    | _ => false)
  | .getstatic n => (match i with
    | .getstatic idx => pm_sl own idx n h && decide (len = 3)
    | _ => false)
  | .new ci => (match i with
    | .new idx => pm_nl own idx ci h && decide (len = 3)
    | _ => false)
  | .newarray a => decide (i = .newarray a) && (decide (a = .int ∨ a = .long) && decide (len = 2))
  | .anewarray t => (match i with
    | .anewarray idx => decide (2 ≤ t ∧ t < 5) && (pm_nl own idx (pm_ac t) h && decide (len = 3))
    | _ => false)
  | .swap => (match i with
    | .invokestatic idx => pm_wb h (.methodLink own idx arraycopyName) && decide (len = 3)
    | _ => false)
  | .dup_x1 => (match i with
    | .invokestatic idx => pm_wb h (.methodLink own idx Lib.Math.max.name) && decide (len = 3)
    | _ => false)
  | .dup_x2 => (match i with
    | .invokestatic idx => pm_wb h (.methodLink own idx Lib.Math.min.name) && decide (len = 3)
    | _ => false)
  | .monitorenter => (match i with
    | .invokespecial idx => pm_wb h (.methodLink own idx Lib.objectInit) && decide (len = 3)
    | _ => false)
  | .iadd => decide (i = .iadd) && decide (len = 1)
  | .isub => decide (i = .isub) && decide (len = 1)
  | .imul => decide (i = .imul) && decide (len = 1)
  | .idiv => decide (i = .idiv) && decide (len = 1)
  | .irem => decide (i = .irem) && decide (len = 1)
  | .iand => decide (i = .iand) && decide (len = 1)
  | .ior => decide (i = .ior) && decide (len = 1)
  | .ixor => decide (i = .ixor) && decide (len = 1)
  | .ishl => decide (i = .ishl) && decide (len = 1)
  | .ishr => decide (i = .ishr) && decide (len = 1)
  | .iushr => decide (i = .iushr) && decide (len = 1)
  | .ineg => decide (i = .ineg) && decide (len = 1)
  | .i2l => decide (i = .i2l) && decide (len = 1)
  | .i2b => decide (i = .i2b) && decide (len = 1)
  | .i2s => decide (i = .i2s) && decide (len = 1)
  | .l2i => decide (i = .l2i) && decide (len = 1)
  | .ladd => decide (i = .ladd) && decide (len = 1)
  | .lmul => decide (i = .lmul) && decide (len = 1)
  | .lcmp => decide (i = .lcmp) && decide (len = 1)
  | .iaload => decide (i = .iaload) && decide (len = 1)
  | .laload => decide (i = .laload) && decide (len = 1)
  | .aaload => decide (i = .aaload) && decide (len = 1)
  | .iastore => decide (i = .iastore) && decide (len = 1)
  | .lastore => decide (i = .lastore) && decide (len = 1)
  | .aastore => decide (i = .aastore) && decide (len = 1)
  | .arraylength => decide (i = .arraylength) && decide (len = 1)
  | .dup => decide (i = .dup) && decide (len = 1)
  | .dup2 => decide (i = .dup2) && decide (len = 1)
  | .pop => decide (i = .pop) && decide (len = 1)
  | .pop2 => decide (i = .pop2) && decide (len = 1)
  | .aconst_null => decide (i = .aconst_null) && decide (len = 1)
  | _ => false
theorem pm_w_int : Cond.arrayClass .int ∈ pm_tbl := (pm_in (ws := [Cond.arrayClass .int]) (by decide +kernel) (by decide +kernel)) _ List.mem_cons_self
theorem pm_w_long : Cond.arrayClass .long ∈ pm_tbl := (pm_in (ws := [Cond.arrayClass .long]) (by decide +kernel) (by decide +kernel)) _ List.mem_cons_self
theorem pm_w_objI : ∀ w ∈ [Cond.instanceMethod Lib.objectInit, Cond.code Lib.objectInit ⟨#[0xb1]⟩ 1 none], w ∈ pm_tbl := pm_in (by decide +kernel) (by decide +kernel)
theorem pm_w_cpy : ∀ w ∈ [Cond.native arraycopyName, Cond.static arraycopyName, Cond.initialized "java/lang/System"], w ∈ pm_tbl := pm_in (by decide +kernel) (by decide +kernel)
theorem pm_w_math : ∀ w ∈ [Cond.static Lib.Math.max.name, Cond.static Lib.Math.min.name, Cond.initialized "java/lang/Math", Cond.code Lib.Math.max.name Lib.Math.max.code 2 (some .int), Cond.code Lib.Math.min.name Lib.Math.min.code 2 (some .int)], w ∈ pm_tbl := pm_in (by decide +kernel) (by decide +kernel)
def pm_cw : List Cond := (pm_cl.take 11).flatMap (fun r => [Cond.instantiable r.1 r.2.2, Cond.initialized r.1])
theorem pm_w_cls : ∀ w ∈ pm_cw, w ∈ pm_tbl := pm_in (by decide +kernel) (by decide +kernel)
theorem pm_cls2 {ci : Nat} {r : vw_C} (h : pm_cl[ci]? = some r) (hc : ci < 11) : Cond.instantiable r.1 r.2.2 ∈ pm_tbl ∧ Cond.initialized r.1 ∈ pm_tbl := by
  have hm : r ∈ pm_cl.take 11 := List.mem_of_getElem? (i := ci) (by rw [List.getElem?_take, if_pos hc]; exact h)
  exact ⟨pm_w_cls _ (List.mem_flatMap.mpr ⟨r, hm, by simp⟩), pm_w_cls _ (List.mem_flatMap.mpr ⟨r, hm, by simp⟩)⟩
section PMK
variable {p : Program} {l : Launch} {e : Env} {R : Room} {s : State} {m : MethodId} {args : Array Value} {below : List Frame} {meth : Method} {c : Code} {Q : State → Prop} {cc : ByteArray} {nL : Nat} {own : String} {sa : Nat → Nat} {base : Nat} {dC : Nat → ClassId} {dI : Nat → Nat → Nat} {dA : Nat → ClassId} {X : pm_X} {n0 sl0 nf slf pc : Nat} {f f' : pm_F}
set_option maxHeartbeats 4000000 in
theorem pm_op_ok (C : pm_C p R s m args meth c cc nL own sa base dC dI dA X n0 sl0 nf slf) {ini : Bool} {i op : Instr} {len h : Nat} (hini : ini = true → meth.name = "<init>") (hr : pm_rl own ini i len op h = true) (hdg : decode cc pc = .ok (i, len)) (hop : pm_op X op f = some f') (hnf : f'.2.2.1.length ≤ nf ∧ f'.2.2.2 ≤ slf) : pm_Go p l e R s m args below meth c Q nL sa base dC dI dA n0 sl0 pc (pc + len) f f' := by
  cases op
  case iadd =>
    simp only [pm_rl, Bool.and_eq_true, decide_eq_true_eq] at hr
    obtain ⟨rfl, rfl⟩ := hr
    exact pm_s_iadd C hdg hop
  case isub =>
    simp only [pm_rl, Bool.and_eq_true, decide_eq_true_eq] at hr
    obtain ⟨rfl, rfl⟩ := hr
    exact pm_s_isub C hdg hop
  case imul =>
    simp only [pm_rl, Bool.and_eq_true, decide_eq_true_eq] at hr
    obtain ⟨rfl, rfl⟩ := hr
    exact pm_s_imul C hdg hop
  case idiv =>
    simp only [pm_rl, Bool.and_eq_true, decide_eq_true_eq] at hr
    obtain ⟨rfl, rfl⟩ := hr
    exact pm_s_idiv C hdg hop
  case irem =>
    simp only [pm_rl, Bool.and_eq_true, decide_eq_true_eq] at hr
    obtain ⟨rfl, rfl⟩ := hr
    exact pm_s_irem C hdg hop
  case iand =>
    simp only [pm_rl, Bool.and_eq_true, decide_eq_true_eq] at hr
    obtain ⟨rfl, rfl⟩ := hr
    exact pm_s_iand C hdg hop
  case ior =>
    simp only [pm_rl, Bool.and_eq_true, decide_eq_true_eq] at hr
    obtain ⟨rfl, rfl⟩ := hr
    exact pm_s_ior C hdg hop
  case ixor =>
    simp only [pm_rl, Bool.and_eq_true, decide_eq_true_eq] at hr
    obtain ⟨rfl, rfl⟩ := hr
    exact pm_s_ixor C hdg hop
  case ishl =>
    simp only [pm_rl, Bool.and_eq_true, decide_eq_true_eq] at hr
    obtain ⟨rfl, rfl⟩ := hr
    exact pm_s_ishl C hdg hop
  case ishr =>
    simp only [pm_rl, Bool.and_eq_true, decide_eq_true_eq] at hr
    obtain ⟨rfl, rfl⟩ := hr
    exact pm_s_ishr C hdg hop
  case iushr =>
    simp only [pm_rl, Bool.and_eq_true, decide_eq_true_eq] at hr
    obtain ⟨rfl, rfl⟩ := hr
    exact pm_s_iushr C hdg hop
  case ineg =>
    simp only [pm_rl, Bool.and_eq_true, decide_eq_true_eq] at hr
    obtain ⟨rfl, rfl⟩ := hr
    exact pm_s_ineg C hdg hop
  case i2l =>
    simp only [pm_rl, Bool.and_eq_true, decide_eq_true_eq] at hr
    obtain ⟨rfl, rfl⟩ := hr
    exact pm_s_i2l C hdg hop
  case i2b =>
    simp only [pm_rl, Bool.and_eq_true, decide_eq_true_eq] at hr
    obtain ⟨rfl, rfl⟩ := hr
    exact pm_s_i2b C hdg hop
  case i2s =>
    simp only [pm_rl, Bool.and_eq_true, decide_eq_true_eq] at hr
    obtain ⟨rfl, rfl⟩ := hr
    exact pm_s_i2s C hdg hop
  case l2i =>
    simp only [pm_rl, Bool.and_eq_true, decide_eq_true_eq] at hr
    obtain ⟨rfl, rfl⟩ := hr
    exact pm_s_l2i C hdg hop
  case ladd =>
    simp only [pm_rl, Bool.and_eq_true, decide_eq_true_eq] at hr
    obtain ⟨rfl, rfl⟩ := hr
    exact pm_s_ladd C hdg hop
  case lmul =>
    simp only [pm_rl, Bool.and_eq_true, decide_eq_true_eq] at hr
    obtain ⟨rfl, rfl⟩ := hr
    exact pm_s_lmul C hdg hop
  case lcmp =>
    simp only [pm_rl, Bool.and_eq_true, decide_eq_true_eq] at hr
    obtain ⟨rfl, rfl⟩ := hr
    exact pm_s_lcmp C hdg hop
  case iaload =>
    simp only [pm_rl, Bool.and_eq_true, decide_eq_true_eq] at hr
    obtain ⟨rfl, rfl⟩ := hr
    exact pm_s_iald C hdg hop
  case laload =>
    simp only [pm_rl, Bool.and_eq_true, decide_eq_true_eq] at hr
    obtain ⟨rfl, rfl⟩ := hr
    exact pm_s_lald C hdg hop
  case aaload =>
    simp only [pm_rl, Bool.and_eq_true, decide_eq_true_eq] at hr
    obtain ⟨rfl, rfl⟩ := hr
    exact pm_s_aald C hdg hop
  case iastore =>
    simp only [pm_rl, Bool.and_eq_true, decide_eq_true_eq] at hr
    obtain ⟨rfl, rfl⟩ := hr
    exact pm_s_iast C hdg hop
  case lastore =>
    simp only [pm_rl, Bool.and_eq_true, decide_eq_true_eq] at hr
    obtain ⟨rfl, rfl⟩ := hr
    exact pm_s_last C hdg hop
  case aastore =>
    simp only [pm_rl, Bool.and_eq_true, decide_eq_true_eq] at hr
    obtain ⟨rfl, rfl⟩ := hr
    exact pm_s_aast C hdg hop
  case arraylength =>
    simp only [pm_rl, Bool.and_eq_true, decide_eq_true_eq] at hr
    obtain ⟨rfl, rfl⟩ := hr
    exact pm_s_alen C hdg hop
  case dup =>
    simp only [pm_rl, Bool.and_eq_true, decide_eq_true_eq] at hr
    obtain ⟨rfl, rfl⟩ := hr
    exact pm_s_dup C hdg hop
  case dup2 =>
    simp only [pm_rl, Bool.and_eq_true, decide_eq_true_eq] at hr
    obtain ⟨rfl, rfl⟩ := hr
    exact pm_s_dup2 C hdg hop
  case pop =>
    simp only [pm_rl, Bool.and_eq_true, decide_eq_true_eq] at hr
    obtain ⟨rfl, rfl⟩ := hr
    exact pm_s_pop C hdg hop
  case pop2 =>
    simp only [pm_rl, Bool.and_eq_true, decide_eq_true_eq] at hr
    obtain ⟨rfl, rfl⟩ := hr
    exact pm_s_pop2 C hdg hop
  case aconst_null =>
    simp only [pm_rl, Bool.and_eq_true, decide_eq_true_eq] at hr
    obtain ⟨rfl, rfl⟩ := hr
    exact pm_s_null C hdg hop
  case iconst n =>
    simp only [pm_rl] at hr
    split at hr <;> simp only [Bool.and_eq_true, decide_eq_true_eq, Bool.false_eq_true] at hr
    · obtain ⟨h1, rfl⟩ := hr; exact pm_s_iconst C h1 hdg hop
    · obtain ⟨h1, rfl⟩ := hr; exact pm_s_bipush C h1 hdg hop
    · obtain ⟨h1, rfl⟩ := hr; exact pm_s_sipush C h1 hdg hop
    · obtain ⟨h1, rfl⟩ := hr; exact pm_s_ldc C (pm_wb_in h1) hdg hop
    · obtain ⟨h1, rfl⟩ := hr; exact pm_s_ldcw C (pm_wb_in h1) hdg hop
  case goto_w n =>
    simp only [pm_rl] at hr
    split at hr <;> simp only [Bool.and_eq_true, decide_eq_true_eq, Bool.false_eq_true] at hr
    · obtain ⟨h1, rfl⟩ := hr; exact pm_s_lconst C h1 hdg hop
    · obtain ⟨h1, rfl⟩ := hr; exact pm_s_ldc2 C (pm_wb_in h1) hdg hop
  case iload k =>
    simp only [pm_rl] at hr
    split at hr <;> simp only [Bool.and_eq_true, decide_eq_true_eq, Bool.false_eq_true] at hr
    · obtain ⟨rfl, rfl⟩ := hr; exact pm_s_iload C hdg hop
    · obtain ⟨h1, rfl⟩ := hr; exact pm_s_iload_n C h1 hdg hop
  case istore k =>
    simp only [pm_rl] at hr
    split at hr <;> simp only [Bool.and_eq_true, decide_eq_true_eq, Bool.false_eq_true] at hr
    · obtain ⟨rfl, rfl⟩ := hr; exact pm_s_istore C hdg hop
    · obtain ⟨h1, rfl⟩ := hr; exact pm_s_istore_n C h1 hdg hop
  case lload k =>
    simp only [pm_rl] at hr
    split at hr <;> simp only [Bool.and_eq_true, decide_eq_true_eq, Bool.false_eq_true] at hr
    · obtain ⟨rfl, rfl⟩ := hr; exact pm_s_lload C hdg hop
    · obtain ⟨h1, rfl⟩ := hr; exact pm_s_lload_n C h1 hdg hop
  case lstore k =>
    simp only [pm_rl] at hr
    split at hr <;> simp only [Bool.and_eq_true, decide_eq_true_eq, Bool.false_eq_true] at hr
    · obtain ⟨rfl, rfl⟩ := hr; exact pm_s_lstore C hdg hop
    · obtain ⟨h1, rfl⟩ := hr; exact pm_s_lstore_n C h1 hdg hop
  case aload k =>
    simp only [pm_rl] at hr
    split at hr <;> simp only [Bool.and_eq_true, decide_eq_true_eq, Bool.false_eq_true] at hr
    · obtain ⟨rfl, rfl⟩ := hr; exact pm_s_aload C hdg hop
    · obtain ⟨h1, rfl⟩ := hr; exact pm_s_aload_n C h1 hdg hop
  case astore k =>
    simp only [pm_rl] at hr
    split at hr <;> simp only [Bool.and_eq_true, decide_eq_true_eq, Bool.false_eq_true] at hr
    · obtain ⟨rfl, rfl⟩ := hr; exact pm_s_astore C hdg hop
    · obtain ⟨h1, rfl⟩ := hr; exact pm_s_astore_n C h1 hdg hop
  case iinc k n =>
    simp only [pm_rl, Bool.and_eq_true, decide_eq_true_eq] at hr
    obtain ⟨rfl, rfl⟩ := hr
    exact pm_s_iinc C hdg hop
  case getfield n =>
    simp only [pm_rl] at hr
    split at hr <;> simp only [Bool.and_eq_true, decide_eq_true_eq, Bool.false_eq_true] at hr
    obtain ⟨h1, rfl⟩ := hr
    unfold pm_fl at h1
    split at h1
    · rename_i r hc
      simp only [Bool.and_eq_true, decide_eq_true_eq] at h1
      exact pm_s_getf C hc h1.1 h1.2.1 (pm_wb_in h1.2.2) hdg hop
    · cases h1
  case putfield n =>
    simp only [pm_rl] at hr
    split at hr <;> simp only [Bool.and_eq_true, decide_eq_true_eq, Bool.false_eq_true] at hr
    obtain ⟨h1, h2, rfl⟩ := hr
    unfold pm_fl at h1
    unfold pm_fi at h2
    split at h1
    · rename_i r hc
      rw [hc] at h2
      simp only [Bool.and_eq_true, decide_eq_true_eq, Bool.or_eq_true, Bool.not_eq_true'] at h1 h2
      refine pm_s_putf C hc h1.1 h1.2.1 (pm_wb_in h1.2.2) ?_ hdg hop
      cases hfb : (r.2.1 (n % 64)).2.2.2 with
      | false => exact Or.inl rfl
      | true =>
        rw [hfb] at h2
        rcases h2 with h2 | h2
        · cases h2
        · exact Or.inr ⟨rfl, hini h2.1, h2.2⟩
    · cases h1
  case getstatic n =>
    simp only [pm_rl] at hr
    split at hr <;> simp only [Bool.and_eq_true, decide_eq_true_eq, Bool.false_eq_true] at hr
    obtain ⟨h1, rfl⟩ := hr
    unfold pm_sl at h1
    split at h1
    · rename_i q hq
      simp only [Bool.and_eq_true, decide_eq_true_eq, Bool.or_eq_true] at h1
      refine pm_s_gets C (List.mem_of_getElem? hq) h1.1 h1.2.1 ?_ hdg hop
      rcases h1.2.2 with h2 | h2
      · exact Or.inl (pm_wb_in h2)
      · exact Or.inr (List.mem_of_getElem? h2)
    · cases h1
  case new ci =>
    simp only [pm_rl] at hr
    split at hr <;> simp only [Bool.and_eq_true, decide_eq_true_eq, Bool.false_eq_true] at hr
    obtain ⟨h1, rfl⟩ := hr
    unfold pm_nl at h1
    split at h1
    · rename_i r hc
      simp only [Bool.and_eq_true, decide_eq_true_eq] at h1
      exact pm_s_new C hc h1.1 (pm_wb_in h1.2) (pm_cls2 hc h1.1).1 (pm_cls2 hc h1.1).2 hdg hop hnf
    · cases h1
  case newarray a =>
    simp only [pm_rl, Bool.and_eq_true, decide_eq_true_eq] at hr
    obtain ⟨rfl, ha, rfl⟩ := hr
    rcases ha with rfl | rfl
    · exact pm_s_newa C (t := 0) (k := fun n => (n, .inl (fun _ => 0))) (ty := .int) pm_w_int rfl (by decide) rfl (fun _ _ h => h) (fun _ _ => rfl) (fun _ => rfl) hdg hop hnf
    · exact pm_s_newa C (t := 1) (k := fun n => (n, .inr (.inl (fun _ => 0)))) (ty := .long) pm_w_long rfl (by decide) rfl (fun _ _ h => h) (fun _ _ => rfl) (fun _ => rfl) hdg hop hnf
  case anewarray t =>
    simp only [pm_rl] at hr
    split at hr <;> simp only [Bool.and_eq_true, decide_eq_true_eq, Bool.false_eq_true] at hr
    obtain ⟨h0, h1, rfl⟩ := hr
    unfold pm_nl at h1
    split at h1
    · rename_i r hc
      simp only [Bool.and_eq_true, decide_eq_true_eq] at h1
      have hop' : pm_newa t (fun n => (n, .inr (.inr (.inr (.inr (fun _ => none)))))) f = some f' := by
        simp only [pm_op] at hop
        rw [if_pos h0] at hop
        exact hop
      refine pm_s_anew C hc h0 (pm_wb_in h1.2) ?_ hdg hop' hnf
      rcases (show t = 2 ∨ t = 3 ∨ t = 4 by omega) with rfl | rfl | rfl <;> cases hc <;> simp
    · cases h1
  case swap =>
    simp only [pm_rl] at hr
    split at hr <;> simp only [Bool.and_eq_true, decide_eq_true_eq, Bool.false_eq_true] at hr
    obtain ⟨h1, rfl⟩ := hr
    exact pm_s_copy C (pm_wb_in h1) (pm_w_cpy _ (by simp)) (pm_w_cpy _ (by simp)) (pm_w_cpy _ (by simp)) hdg hop
  case dup_x1 =>
    simp only [pm_rl] at hr
    split at hr <;> simp only [Bool.and_eq_true, decide_eq_true_eq, Bool.false_eq_true] at hr
    obtain ⟨h1, rfl⟩ := hr
    exact pm_s_max C (pm_wb_in h1) (pm_w_math _ (by simp)) (pm_w_math _ (by simp)) (pm_w_math _ (by simp)) hdg hop hnf
  case dup_x2 =>
    simp only [pm_rl] at hr
    split at hr <;> simp only [Bool.and_eq_true, decide_eq_true_eq, Bool.false_eq_true] at hr
    obtain ⟨h1, rfl⟩ := hr
    exact pm_s_min C (pm_wb_in h1) (pm_w_math _ (by simp)) (pm_w_math _ (by simp)) (pm_w_math _ (by simp)) hdg hop hnf
  case monitorenter =>
    simp only [pm_rl] at hr
    split at hr <;> simp only [Bool.and_eq_true, decide_eq_true_eq, Bool.false_eq_true] at hr
    obtain ⟨h1, rfl⟩ := hr
    exact pm_s_oini C (pm_wb_in h1) (pm_w_objI _ (by simp)) (pm_w_objI _ (by simp)) hdg hop
  all_goals (simp only [pm_rl, Bool.false_eq_true] at hr)
end PMK
end
section
/-! calls: a method's contract, out of the pure machine's run of it -/
def pm_Post (sa : Nat → Nat) (base : Nat) (dC : Nat → ClassId) (dI : Nat → Nat → Nat) (dA : Nat → ClassId) (t : pm_T) (st : State) (oc : Outcome) (u : State) : Prop :=
  oc = .returned (t.1.map (pm_cv (pm_ad sa base))) ∧ va_P (dC, dI) pm_cl (pm_W (pm_ad sa base) base dA t.2.1) u.heap ∧ u.heap.size = base + t.2.1.length ∧ va_F (fun q : Nat => base ≤ q) st u
def pm_Pc (sa : Nat → Nat) (base : Nat) (dC : Nat → ClassId) (dI : Nat → Nat → Nat) (dA : Nat → ClassId) (X : pm_X) (as : List Value) (S : pm_S) : Array Value → State → Prop := fun v U =>
  v = (as.map (pm_cv (pm_ad sa base))).toArray ∧ pm_K sa base dC dI dA X U ∧ va_P (dC, dI) pm_cl (pm_W (pm_ad sa base) base dA S.1) U.heap ∧ U.heap.size = base + S.1.length
def pm_rm (d mc ms : Nat) : Room := { frames := d, cells := mc, slots := ms, locals := 64 * d }
def pm_ws (m : pm_M) : List Cond := Cond.code m.1.1 m.1.2.1 m.1.2.2.1 m.1.2.2.2 :: pm_tbl
def pm_mOK (m : pm_M) : Prop := Cond.code m.1.1 m.1.2.1 m.1.2.2.1 m.1.2.2.2 ∈ pm_tbl ∧ Cond.initialized m.1.1.cls ∈ pm_tbl ∧ plainName m.1.1.cls = true ∧ (m.1.1.cls ≠ "java/lang/invoke/MethodHandle" ∧ m.1.1.cls ≠ "java/lang/invoke/VarHandle") ∧ (parseMethodDescriptor m.1.1.desc).map (fun d => d.parameters.length) = some m.2.1.1 ∧ m.1.2.2.1 ≤ 40 ∧
  ((m.2.1.2 = 99 ∧ Cond.static m.1.1 ∈ pm_tbl) ∨ (m.2.1.2 ≠ 99 ∧ Cond.instanceMethod m.1.1 ∈ pm_tbl ∧ ((m.1.1.name = "<init>" ∧ m.1.2.2.2 = none) ∨ (m.1.1.name ≠ "<init>" ∧ Cond.selects m.1.1.cls m.1.1 m.1.1 ∈ pm_tbl ∧ ∃ r, pm_cl[m.2.1.2]? = some r ∧ r.1 = m.1.1.cls))))
section PMC
variable {sa : Nat → Nat} {base : Nat} {dC : Nat → ClassId} {dI : Nat → Nat → Nat} {dA : Nat → ClassId} {X : pm_X}
theorem pm_K.to {s U : State} {H : Heap} {locs : List Loc} (h : pm_K sa base dC dI dA X s) (hS : va_S (fun q : Nat => base ≤ q) s.heap H locs) (hU : U.heap = H) (hW : s.WarmedH U.vm) : pm_K sa base dC dI dA X U := by
  obtain ⟨h1, h2, h3, h4, h5, h6, h7⟩ := h
  subst hU
  refine ⟨va_K.moved hW.alike h1, fun k n f hx => ?_, fun q hq => ?_, fun q hq => (h4 q hq).warmM hW, fun q hq => (h5 q hq).warmF hW, Nat.le_trans h6 hS.1, fun C hC => va_AO.moved hW.alike (h7 C hC)⟩
  · obtain ⟨g1, g2⟩ := h2 k n f hx
    exact ⟨(g1.kept (hS.2.1 _ (Nat.lt_of_lt_of_le g2 h6) (Nat.not_le.mpr g2))).moved hW.alike, g2⟩
  · exact ((h3 q hq).kept (fun a ha1 ha2 => hS.2.1 a ha1 ha2)).moved hW.alike
theorem pm_blind {as : List Value} {S : pm_S} : FrameBlind (pm_Pc sa base dC dI dA X as S) := by
  intro a U g mk q
  obtain ⟨q0, ⟨h1, h2, h3, h4, h5, h6, h7⟩, q2, q3⟩ := q
  refine ⟨q0, ⟨va_K.moved (u := U) (U := U.calling g mk a) (Vm.Alike.refl U.vm) h1, fun k n f hx => ⟨pm_RO.moved (u := U) (U := U.calling g mk a) (Vm.Alike.refl U.vm) (h2 k n f hx).1, (h2 k n f hx).2⟩, fun q hq => va_Z.moved (u := U) (U := U.calling g mk a) (Vm.Alike.refl U.vm) (h3 q hq), fun q hq => (h4 q hq).same rfl rfl, fun q hq => (h5 q hq).same rfl rfl, h6, fun C hC => va_AO.moved (u := U) (U := U.calling g mk a) (Vm.Alike.refl U.vm) (h7 C hC)⟩, q2, q3⟩
theorem pm_good {m : pm_M} (h : Cond.code m.1.1 m.1.2.1 m.1.2.2.1 m.1.2.2.2 ∈ pm_tbl) : GoodIn pm_tbl (pm_ws m) := by
  have hg : ∀ w ∈ pm_tbl, w ∈ pm_tbl ∧ ((w.onTables && w.keeps) = true ∨ ∃ ty, w = .arrayClass ty) := fun w hw => ⟨hw, good_of_word (List.mem_filter.mp hw).2⟩
  intro w hw
  rcases List.mem_cons.mp hw with rfl | hw
  · exact hg _ h
  · exact hg _ hw
theorem pm_goodw {w : Cond} (hw : w ∈ pm_tbl) : w ∈ pm_tbl ∧ ((w.onTables && w.keeps) = true ∨ ∃ ty, w = .arrayClass ty) := ⟨hw, good_of_word (List.mem_filter.mp hw).2⟩
/-- how method m may be called by instruction i -/
def pm_kd (X : pm_X) (m : pm_M) (i : Instr) (idx : Nat) (as : List Value) (S : pm_S) : Prop :=
  (i = .invokestatic idx ∧ m.2.1.2 = 99 ∧ as.length = m.2.1.1) ∨ (i = .invokevirtual idx ∧ m.2.1.2 < 11 ∧ m.1.1.name ≠ "<init>" ∧ pm_rcv X S.1 m.2.1.2 as = true ∧ as.length = m.2.1.1 + 1) ∨ (i = .invokespecial idx ∧ m.2.1.2 < 11 ∧ m.1.1.name = "<init>" ∧ pm_isR as = true ∧ as.length = m.2.1.1 + 1)
def pm_CB (l : Launch) (sa : Nat → Nat) (base : Nat) (dC : Nat → ClassId) (dI : Nat → Nat → Nat) (dA : Nat → ClassId) (X : pm_X) (d : Nat) (m : pm_M) (as : List Value) (S : pm_S) (t : pm_T) : Prop :=
  ∀ (p : Program) (e : Env) (R : Room) (s : State) (mm : MethodId) (args : Array Value) (below : List Frame) (meth : Method) (c : Code) (cc : ByteArray) (nL : Nat) (own : String) (n0 sl0 nf slf pc idx : Nat) (i : Instr) (L : List (Option Value)) (rest : List Value) (H : Heap) (locs : List Loc) (ls : Array Slot) (cells slots : Nat),
    pm_C p R s mm args meth c cc nL own sa base dC dI dA X n0 sl0 nf slf → d + 1 ≤ R.frames → 64 * (d + 1) ≤ R.locals →
    pm_R sa base dC dI dA s nL n0 sl0 (L, as.reverse ++ rest, S) H locs ls cells slots → (rest.map fun v => v.category).sum ≤ 8 → pm_le S t.2 → t.2.1.length ≤ nf → t.2.2 ≤ slf →
    decode cc pc = .ok (i, 3) → pm_kd X m i idx as S → (Cond.methodLink own idx m.1.1 ∈ pm_tbl ∨ ((own, idx, m.1.1) ∈ pm_nwm ∧ ∀ k, i ≠ .invokevirtual k)) →
    va_Run p l e R s mm args below meth c H locs cells slots (t.2.1.length - S.1.length) (t.2.2 - S.2) (F0 mm pc ls ((as.reverse ++ rest).map (pm_cv (pm_ad sa base)))) (rest.map (pm_cv (pm_ad sa base))) (pm_Post sa base dC dI dA t) (fun q : Nat => base ≤ q)
theorem pm_CB_of {l : Launch} {d : Nat} {m : pm_M} {as : List Value} {S : pm_S} {t : pm_T} (hm : pm_mOK m) (hM : Met l m.1.1 (pm_ws m) (pm_rm d (t.2.1.length - S.1.length) (t.2.2 - S.2)) (pm_Pc sa base dC dI dA X as S) (fun _ => pm_Post sa base dC dI dA t) (t.2.1.length - S.1.length) (t.2.2 - S.2) (fun q : Nat => base ≤ q)) : pm_CB l sa base dC dI dA X d m as S t := by
  intro p e R s mm args below meth c cc nL own n0 sl0 nf slf pc idx i L rest H locs ls cells slots C hfr hlo hR hsum hle hnf hsl hdg hkd hlk
  obtain ⟨hx, hb, hml, hown, hts, hlk0, hK, hc1, hc2, hf1, hl1⟩ := C
  obtain ⟨w1, w2, w3, w4, w5, w6, w7⟩ := hm
  obtain ⟨r1, r2, r3, r4, r5, r6⟩ := hR
  dsimp only at r3 r5 r6
  have hpre : ∀ U : State, U.heap = H → s.WarmedH U.vm → pm_Pc sa base dC dI dA X as S (as.map (pm_cv (pm_ad sa base))).toArray U := fun U hU hW => ⟨rfl, hK.to r4 hU hW, by rw [hU]; exact r2, by rw [hU]; exact r3⟩
  have hRoom : (pm_rm d (t.2.1.length - S.1.length) (t.2.2 - S.2)).frames + 1 ≤ R.frames ∧ 8 + (m.1.2.2.1 + 11) + (pm_rm d (t.2.1.length - S.1.length) (t.2.2 - S.2)).locals ≤ R.locals := ⟨hfr, by show 8 + (m.1.2.2.1 + 11) + 64 * d ≤ _; omega⟩
  have hcs : cells + (t.2.1.length - S.1.length) ≤ R.cells ∧ slots + (t.2.2 - S.2) ≤ R.slots := by
    have := hle.1; have := hle.2
    constructor <;> omega
  have hst : (as.reverse ++ rest).map (pm_cv (pm_ad sa base)) = (as.map (pm_cv (pm_ad sa base))).reverse ++ rest.map (pm_cv (pm_ad sa base)) := by simp
  have hsm : 2 * (F0 mm pc ls ((as.reverse ++ rest).map (pm_cv (pm_ad sa base)))).monitorRoom + ((rest.map (pm_cv (pm_ad sa base))).map fun v => v.category).sum ≤ 8 := lv_room (by rw [pm_cv_sum]; exact hsum)
  have hszl : (F0 mm pc ls ((as.reverse ++ rest).map (pm_cv (pm_ad sa base)))).locals.size = nL := r1.2.1
  have S0 : CallFix p mm c cc nL s args pm_tbl own := ⟨hx, hb, hml, hown, hts⟩
  rcases hkd with ⟨rfl, hst9, hlen⟩ | ⟨rfl, hci, hnm, hrc, hlen⟩ | ⟨rfl, hci, hnm, hrc, hlen⟩
  · have hstat : Cond.static m.1.1 ∈ pm_tbl := by
      rcases w7 with w7 | w7
      · exact w7.2
      · exact absurd hst9 w7.1
    have hln : (as.map (pm_cv (pm_ad sa base))).length = m.2.1.1 := by rw [List.length_map]; exact hlen
    rcases hlk with hlk | hlk
    · exact va_runS S0 hM (va_cwS m.2.1.1 hts (fun w hw => by
        unfold va_wsS at hw
        rcases List.mem_append.mp hw with hw | hw
        · simp only [List.mem_cons, List.not_mem_nil, or_false] at hw
          rcases hw with rfl | rfl | rfl
          · exact pm_goodw hlk
          · exact pm_goodw hstat
          · exact pm_goodw w2
        · exact pm_good w1 w hw) rfl rfl rfl ⟨w4.1, w4.2, w5⟩ hRoom) ⟨pm_blind, hpre⟩ rfl hln hszl hst hsm hdg hcs
    · exact va_runSN S0 hM ⟨va_cnB m.2.1.1 hts (pm_good w1) rfl rfl rfl (hK.2.2.2.1 _ hlk.1) (hts _ w2) ⟨w4.1, w4.2, w5⟩ hRoom, hts _ hstat, trivial⟩ ⟨pm_blind, hpre⟩ rfl hln hszl hst hsm hdg hcs
  · obtain ⟨ho, hsel, rr, hrr, hrn⟩ : Cond.instanceMethod m.1.1 ∈ pm_tbl ∧ Cond.selects m.1.1.cls m.1.1 m.1.1 ∈ pm_tbl ∧ ∃ r, pm_cl[m.2.1.2]? = some r ∧ r.1 = m.1.1.cls := by
      rcases w7 with w7 | w7
      · omega
      · rcases w7.2.2 with h | h
        · exact absurd h.1 hnm
        · exact ⟨w7.2.1, h.2⟩
    have hlk : Cond.methodLink own idx m.1.1 ∈ pm_tbl := by
      rcases hlk with h | h
      · exact h
      · exact absurd rfl (h.2 idx)
    unfold pm_rcv at hrc
    split at hrc
    · rename_i a as2
      split at hrc
      · cases hrc
      · rename_i ha
        split at hrc
        · rename_i ci fs hg
          have hci2 : ci = m.2.1.2 := by simpa using hrc
          subst hci2
          rw [pm_get_hi ha] at hg
          have hat := pm_W_at (ad := pm_ad sa base) (base := base) (dA := dA) hg
          have e1 : pm_cv (pm_ad sa base) (.ref a) = .ref (base + (a - 8)) := by show Value.ref _ = _; rw [pm_ad_hi ha]
          have hrecv := va_recv hK.1 r2 hrr hat
          rw [hrn] at hrecv
          simp only [List.map_cons, e1] at hpre
          have hln : (as2.map (pm_cv (pm_ad sa base))).length = m.2.1.1 := by rw [List.length_map]; simp at hlen; exact hlen
          refine va_runV S0 hM (cwV m.2.1.1 hts (fun w hw => ?_) rfl rfl rfl ⟨rfl, w4.1, w4.2, w5⟩ hRoom) ⟨pm_blind, hrecv, hpre⟩ rfl hln hszl (by rw [hst]; simp [e1]) hsm hdg hcs
          unfold wsV at hw
          rcases List.mem_append.mp hw with hw | hw
          · simp only [List.mem_cons, List.not_mem_nil, or_false] at hw
            rcases hw with rfl | rfl | rfl | rfl
            · exact pm_goodw hlk
            · exact pm_goodw ho
            · exact pm_goodw hsel
            · exact pm_goodw w2
          · exact pm_good w1 w hw
        · cases hrc
    · cases hrc
  · have ho : Cond.instanceMethod m.1.1 ∈ pm_tbl := by
      rcases w7 with w7 | w7
      · omega
      · exact w7.2.1
    unfold pm_isR at hrc
    split at hrc
    · rename_i a as2
      have e1 : pm_cv (pm_ad sa base) (.ref a) = .ref (pm_ad sa base a) := rfl
      simp only [List.map_cons, e1] at hpre
      have hln : (as2.map (pm_cv (pm_ad sa base))).length = m.2.1.1 := by rw [List.length_map]; simp at hlen; exact hlen
      have hret : m.1.2.2.2 = none := by
        rcases w7 with w7 | w7
        · omega
        · rcases w7.2.2 with h | h
          · exact h.2
          · exact absurd hnm h.1
      rcases hlk with hlk | hlk
      · refine va_runI S0 hM (cwI m.2.1.1 hts (pm_good w1) (by unfold pm_ws; rw [hret]) rfl rfl (hts _ w2) (hts _ hlk) (hts _ ho) hnm ⟨w4.1, w4.2, w5⟩ hRoom) ⟨pm_blind, hpre⟩ rfl hln hszl (by rw [hst]; simp [e1]) hsm hdg hcs
      · refine va_runIN S0 hM ⟨va_cnB m.2.1.1 hts (pm_good w1) (by unfold pm_ws; rw [hret]) rfl rfl (hK.2.2.2.1 _ hlk.1) (hts _ w2) ⟨w4.1, w4.2, w5⟩ hRoom, hnm, hts _ ho⟩ ⟨pm_blind, hpre⟩ rfl hln hszl (by rw [hst]; simp [e1]) hsm hdg hcs
    · cases hrc
end PMC
end
section
/-! THE PURE MACHINE'S RUNS ARE THE MACHINE'S -/
def pm_tg (code : List (Nat × List Instr)) (pc : Nat) (off t : Int) : Bool := match code[t.toNat]? with
  | some q => decide ((pc : Int) + off = (q.1 : Int))
  | none => false
def pm_ft (code : List (Nat × List Instr)) (b pc : Nat) : Bool := match code[b + 1]? with
  | some q => decide (q.1 = pc)
  | none => false
def pm_lkc (code : List (Nat × List Instr)) (pc : Nat) : List (Int × Int) → List (Int × Int) → Bool
  | [], [] => true
  | q :: r, q' :: r' => decide (q.1 = q'.1) && (pm_tg code pc q'.2 q.2 && pm_lkc code pc r r')
  | _, _ => false
def pm_ml (own : String) (idx : Nat) (y : MethodName) (nest : Bool) (h : Nat) : Bool := pm_wb h (.methodLink own idx y) || (nest && decide (pm_nwm[h - 90000]? = some (own, idx, y)))
/-- block b of a method, from pc on: each op is the real instruction there -/
def pm_bk (cc : ByteArray) (own : String) (ini : Bool) (M : List pm_M) (code : List (Nat × List Instr)) (b : Nat) : Nat → List Instr → List Nat → Bool
  | pc, [], _ => pm_ft code b pc
  | pc, op :: ops, hs => match decode cc pc with
    | .error _ => false
    | .ok il => match op with
      | .goto t => (match il.1 with | .goto off => pm_tg code pc off t && decide (il.2 = 3) | _ => false)
      | .ifCond c t => (match il.1 with | .ifCond c' off => decide (c = c') && (pm_tg code pc off t && (pm_ft code b (pc + 3) && decide (il.2 = 3))) | _ => false)
      | .if_icmp c t => (match il.1 with | .if_icmp c' off => decide (c = c') && (pm_tg code pc off t && (pm_ft code b (pc + 3) && decide (il.2 = 3))) | _ => false)
      | .ifnull t => (match il.1 with | .ifnull off => pm_tg code pc off t && (pm_ft code b (pc + 3) && decide (il.2 = 3)) | _ => false)
      | .ifnonnull t => (match il.1 with | .ifnonnull off => pm_tg code pc off t && (pm_ft code b (pc + 3) && decide (il.2 = 3)) | _ => false)
      | .tableswitch d lo hi offs => (match il.1 with | .tableswitch d' lo' hi' offs' => decide (lo = lo' ∧ hi = hi' ∧ offs.size = offs'.size) && (pm_tg code pc d' d && (List.range offs.size).all (fun k => pm_tg code pc (offs'.getD k 0) (offs.getD k 0))) | _ => false)
      | .lookupswitch d ps => (match il.1 with | .lookupswitch d' ps' => (ps'.toList.zip (ps'.toList.drop 1)).all (fun (a, next) => a.1 < next.1) && (pm_tg code pc d' d && pm_lkc code pc ps.toList ps'.toList) | _ => false)
      | .athrow => true
      | .ireturn => decide (il = (.ireturn, 1))
      | .lreturn => decide (il = (.lreturn, 1))
      | .areturn => decide (il = (.areturn, 1))
      | .return_ => decide (il = (.return_, 1))
      | .invokestatic mid => (match il.1 with
        | .invokestatic idx => decide (il.2 = 3) && ((match M[mid]? with | some m => pm_ml own idx m.1.1 true (hs.headD 0) && decide (m.2.1.2 = 99) | none => false) && pm_bk cc own ini M code b (pc + 3) ops hs.tail)
        | _ => false)
      | .invokevirtual mid => (match il.1 with
        | .invokevirtual idx => decide (il.2 = 3) && ((match M[mid]? with | some m => pm_ml own idx m.1.1 false (hs.headD 0) && decide (m.2.1.2 < 11 ∧ m.1.1.name ≠ "<init>") | none => false) && pm_bk cc own ini M code b (pc + 3) ops hs.tail)
        | _ => false)
      | .invokespecial mid => (match il.1 with
        | .invokespecial idx => decide (il.2 = 3) && ((match M[mid]? with | some m => pm_ml own idx m.1.1 true (hs.headD 0) && decide (m.2.1.2 < 11 ∧ m.1.1.name = "<init>") | none => false) && pm_bk cc own ini M code b (pc + 3) ops hs.tail)
        | _ => false)
      | op => pm_rl own ini il.1 il.2 op (hs.headD 0) && pm_bk cc own ini M code b (pc + il.2) ops hs.tail
def pm_isRet (ret : Option FieldType) (i : Instr) (f : pm_F) (t : pm_T) : Prop :=
  (i = .ireturn ∧ ∃ x, f.2.1 = [.int x] ∧ pm_ret ret (.int x) = true ∧ t = (some (.int x), f.2.2)) ∨ (i = .lreturn ∧ ∃ x, f.2.1 = [.long x] ∧ ret = some .long ∧ t = (some (.long x), f.2.2)) ∨
  (i = .areturn ∧ ∃ v, f.2.1 = [v] ∧ pm_isA v = true ∧ pm_ret ret v = true ∧ t = (some v, f.2.2)) ∨ (i = .return_ ∧ f.2.1 = [] ∧ ret = none ∧ t = (none, f.2.2))
section PMS
variable {p : Program} {l : Launch} {e : Env} {R : Room} {s : State} {m : MethodId} {args : Array Value} {below : List Frame} {meth : Method} {c : Code} {Q : State → Prop} {cc : ByteArray} {nL : Nat} {own : String} {sa : Nat → Nat} {base : Nat} {dC : Nat → ClassId} {dI : Nat → Nat → Nat} {dA : Nat → ClassId} {X : pm_X} {n0 sl0 nf slf : Nat}
theorem pm_s_call {L : List (Option Value)} {stk rest st0 : List Value} {S : pm_S} {t : pm_T} {H : Heap} {locs : List Loc} {ls : Array Slot} {cells slots pc : Nat} (hrun : va_Run p l e R s m args below meth c H locs cells slots (t.2.1.length - S.1.length) (t.2.2 - S.2) (F0 m pc ls st0) (rest.map (pm_cv (pm_ad sa base))) (pm_Post sa base dC dI dA t) (fun q : Nat => base ≤ q))
    (hR : pm_R sa base dC dI dA s nL n0 sl0 (L, stk, S) H locs ls cells slots) (hle : pm_le S t.2)
    (kk : ∀ (H1 : Heap) (locs1 : List Loc) (ls1 : Array Slot) (cells1 slots1 : Nat), pm_R sa base dC dI dA s nL n0 sl0 (L, t.1.toList ++ rest, t.2) H1 locs1 ls1 cells1 slots1 → W p l e R s m args below meth c H1 locs1 cells1 slots1 Q (F0 m (pc + 3) ls1 ((t.1.toList ++ rest).map (pm_cv (pm_ad sa base))))) :
    W p l e R s m args below meth c H locs cells slots Q (F0 m pc ls st0) := by
  intro T hT X2
  obtain ⟨v, st₀, u, T', LL, h1, X', hL, e1, e2, ⟨q1, q2, q3, q4⟩, hgo⟩ := hrun T hT X2
  cases q1
  obtain ⟨r1, r2, r3, r4, r5, r6⟩ := hR
  dsimp only at r3 r5 r6
  have := hle.1
  have := hle.2
  have hS : va_S (fun q : Nat => base ≤ q) s.heap u.heap (locs ++ LL) := ⟨Nat.le_trans r4.1 (by rw [← h1]; exact q4.1), fun q g1 g2 => by
    rw [q4.2 q (by rw [h1]; exact Nat.lt_of_lt_of_le g1 r4.1) g2, h1]
    exact r4.2.1 q g1 g2, fun q hq => by
    rcases List.mem_append.mp hq with h | h
    · exact r4.2.2 q h
    · exact hL q h⟩
  obtain ⟨t2, a1, b1⟩ := kk u.heap (locs ++ LL) ls _ _ ⟨r1, q2, q3, hS, by show n0 + (cells + (t.2.1.length - S.1.length)) = t.2.1.length; omega, by show sl0 + (slots + (t.2.2 - S.2)) = t.2.2; omega⟩ T' e1 X'
  refine ⟨t2, hgo t2 ?_, b1⟩
  have e9 : (t.1.toList ++ rest).map (pm_cv (pm_ad sa base)) = (t.1.map (pm_cv (pm_ad sa base))).toList ++ rest.map (pm_cv (pm_ad sa base)) := by cases t.1 <;> simp
  rw [e9] at a1
  exact a1
theorem pm_tg_at {code : List (Nat × List Instr)} {pc : Nat} {off t : Int} (h : pm_tg code pc off t = true) : ∃ q, code[t.toNat]? = some q ∧ (pc : Int) + off = (q.1 : Int) := by
  unfold pm_tg at h
  split at h
  · rename_i q hq
    exact ⟨q, hq, by simpa using h⟩
  · cases h
theorem pm_ft_at {code : List (Nat × List Instr)} {b pc : Nat} (h : pm_ft code b pc = true) : ∃ q, code[b + 1]? = some q ∧ q.1 = pc := by
  unfold pm_ft at h
  split at h
  · rename_i q hq
    exact ⟨q, hq, by simpa using h⟩
  · cases h
theorem pm_lkc_at {code : List (Nat × List Instr)} {pc : Nat} {d d' x : Int} (hd : pm_tg code pc d' d = true) : ∀ (a b : List (Int × Int)), pm_lkc code pc a b = true → pm_tg code pc (Op.lookupswitch.offset b d' x) (Op.lookupswitch.offset a d x) = true := by
  intro a
  induction a with
  | nil =>
    intro b h
    cases b with
    | nil => exact hd
    | cons q r => cases h
  | cons q r ih =>
    intro b h
    cases b with
    | nil => cases h
    | cons q' r' =>
      unfold pm_lkc at h
      simp only [Bool.and_eq_true, decide_eq_true_eq] at h
      obtain ⟨h1, h2, h3⟩ := h
      obtain ⟨k, o⟩ := q
      obtain ⟨k', o'⟩ := q'
      simp only at h1 h2
      subst h1
      unfold Op.lookupswitch.offset
      split
      · exact h2
      · exact ih r' h3
theorem pm_ml_at {idx h : Nat} {y : MethodName} {nest : Bool} (hh : pm_ml own idx y nest h = true) : Cond.methodLink own idx y ∈ pm_tbl ∨ ((own, idx, y) ∈ pm_nwm ∧ nest = true) := by
  simp only [pm_ml, Bool.or_eq_true, Bool.and_eq_true, decide_eq_true_eq] at hh
  rcases hh with hh | hh
  · exact Or.inl (pm_wb_in hh)
  · exact Or.inr ⟨List.mem_of_getElem? hh.2, hh.1⟩
theorem pm_inv_at {n : Nat} {this : Bool} {st : List Value} {r : List Value × List Value} (h : pm_inv n this st = some r) : st = r.1.reverse ++ r.2 ∧ (r.2.map fun v => v.category).sum ≤ 8 ∧ r.1.length = (if this = true then n + 1 else n) := by
  unfold pm_inv at h
  simp only at h
  generalize (if this = true then n + 1 else n) = k at h ⊢
  split at h
  · rename_i hk
    cases h
    refine ⟨?_, hk.2, ?_⟩
    · rw [List.reverse_reverse, List.take_append_drop]
    · rw [List.length_reverse, List.length_take]
      omega
  · cases h
end PMS
end
section
/-! a block, a method, all methods -/
def pm_ctl (i : Instr) : Bool := match i with
  | .athrow => true | .goto _ => true | .ifCond _ _ => true | .if_icmp _ _ => true | .ifnull _ => true | .ifnonnull _ => true | .tableswitch _ _ _ _ => true | .lookupswitch _ _ => true
  | .ireturn => true | .lreturn => true | .areturn => true | .return_ => true | .invokestatic _ => true | .invokevirtual _ => true | .invokespecial _ => true
  | _ => false
theorem pm_ex_def {X : pm_X} {M : List pm_M} {cf : Nat → List Value → pm_S → Option pm_T} {ret : Option FieldType} {b : Nat} {op : Instr} {ops : List Instr} {f : pm_F} (h : pm_ctl op = false) : pm_ex X M cf ret b (op :: ops) f = (match pm_op X op f with | some f' => pm_ex X M cf ret b ops f' | none => none) := by
  cases op <;> first | rfl | cases h
theorem pm_bk_def {cc : ByteArray} {own : String} {ini : Bool} {M : List pm_M} {code : List (Nat × List Instr)} {b pc : Nat} {op : Instr} {ops : List Instr} {hs : List Nat} {i : Instr} {len : Nat} (h : pm_ctl op = false) (hd : decode cc pc = .ok (i, len)) : pm_bk cc own ini M code b pc (op :: ops) hs = (pm_rl own ini i len op (hs.headD 0) && pm_bk cc own ini M code b (pc + len) ops hs.tail) := by
  cases op <;> first | (cases h; done) | (simp only [pm_bk, hd]; done)
section PMM
variable {p : Program} {l : Launch} {e : Env} {R : Room} {s : State} {m : MethodId} {args : Array Value} {below : List Frame} {meth : Method} {c : Code} {Q : State → Prop} {cc : ByteArray} {nL : Nat} {own : String} {sa : Nat → Nat} {base : Nat} {dC : Nat → ClassId} {dI : Nat → Nat → Nat} {dA : Nat → ClassId} {X : pm_X} {n0 sl0 nf slf : Nat}
set_option maxHeartbeats 4000000 in
theorem pm_ex_ok {M : List pm_M} {cf : Nat → List Value → pm_S → Option pm_T} {ret : Option FieldType} {code : List (Nat × List Instr)} {b d : Nat} {ini : Bool} {tf : pm_T} (C : pm_C p R s m args meth c cc nL own sa base dC dI dA X n0 sl0 nf slf) (hini : ini = true → meth.name = "<init>") (hfr : d + 1 ≤ R.frames) (hlo : 64 * (d + 1) ≤ R.locals) (hcf : pm_mf cf)
    (hcall : ∀ (mid : Nat) (mm : pm_M) (as : List Value) (S : pm_S) (t : pm_T), M[mid]? = some mm → cf mid as S = some t → pm_CB l sa base dC dI dA X d mm as S t)
    (hret : ∀ (i : Instr) (pc : Nat) (f : pm_F) (H : Heap) (locs : List Loc) (ls : Array Slot) (cells slots : Nat), pm_isRet ret i f tf → decode cc pc = .ok (i, 1) → pm_R sa base dC dI dA s nL n0 sl0 f H locs ls cells slots → W p l e R s m args below meth c H locs cells slots Q (F0 m pc ls (f.2.1.map (pm_cv (pm_ad sa base))))) :
    ∀ (ops : List Instr) (hs : List Nat) (pc : Nat) (f : pm_F) (o : pm_O), pm_bk cc own ini M code b pc ops hs = true → pm_ex X M cf ret b ops f = some o → (pm_oS o).1.length ≤ nf → (pm_oS o).2 ≤ slf →
      (∀ (b' : Nat) (f' : pm_F), o = .inl (b', f') → ∀ q, code[b']? = some q → ∀ (H1 : Heap) (locs1 : List Loc) (ls1 : Array Slot) (cells1 slots1 : Nat), pm_R sa base dC dI dA s nL n0 sl0 f' H1 locs1 ls1 cells1 slots1 → W p l e R s m args below meth c H1 locs1 cells1 slots1 Q (F0 m q.1 ls1 (f'.2.1.map (pm_cv (pm_ad sa base))))) →
      (∀ t, o = .inr t → t = tf) →
      ∀ (H : Heap) (locs : List Loc) (ls : Array Slot) (cells slots : Nat), pm_R sa base dC dI dA s nL n0 sl0 f H locs ls cells slots → W p l e R s m args below meth c H locs cells slots Q (F0 m pc ls (f.2.1.map (pm_cv (pm_ad sa base)))) := by
  intro ops
  induction ops with
  | nil =>
    intro hs pc f o hbk hex h1 h2 k1 k2 H locs ls cells slots hR
    unfold pm_ex at hex
    unfold pm_bk at hbk
    cases hex
    obtain ⟨q, hq, rfl⟩ := pm_ft_at hbk
    exact k1 _ _ rfl q hq _ _ _ _ _ hR
  | cons op ops ih =>
    intro hs pc f o hbk hex h1 h2 k1 k2 H locs ls cells slots hR
    cases hd : decode cc pc with
    | error er =>
      unfold pm_bk at hbk
      rw [hd] at hbk
      cases hbk
    | ok il =>
      obtain ⟨i, len⟩ := il
      cases hct : pm_ctl op with
      | false =>
        rw [pm_ex_def hct] at hex
        rw [pm_bk_def hct hd] at hbk
        simp only [Bool.and_eq_true] at hbk
        split at hex
        · rename_i f' hf
          have hm := pm_m_ex hcf _ _ _ hex
          exact pm_op_ok C hini hbk.1 hd hf ⟨Nat.le_trans hm.1 h1, Nat.le_trans hm.2 h2⟩ H locs ls cells slots hR (fun H1 locs1 ls1 cells1 slots1 hR1 => ih _ _ _ _ hbk.2 hex h1 h2 k1 k2 _ _ _ _ _ hR1)
        · cases hex
      | true =>
        obtain ⟨L, st, S⟩ := f
        obtain ⟨hx, hb, hml, hown, hts, hlk, hK, hc1, hc2, hf1, hl1⟩ := id C
        cases op
        case athrow =>
          simp only [pm_ex, pm_op] at hex
          cases hex
        case goto t =>
          simp only [pm_bk, hd] at hbk
          simp only [pm_ex] at hex
          cases hex
          split at hbk
          · rename_i off
            simp only [Bool.and_eq_true, decide_eq_true_eq] at hbk
            obtain ⟨hb1, rfl⟩ := hbk
            obtain ⟨q, hq1, hq2⟩ := pm_tg_at hb1
            exact lv_goto hx hb hd hq2 (k1 _ _ rfl q hq1 _ _ _ _ _ hR)
          · cases hbk
        case ifCond cn t =>
          simp only [pm_bk, hd] at hbk
          simp only [pm_ex] at hex
          split at hbk
          · rename_i c' off
            simp only [Bool.and_eq_true, decide_eq_true_eq] at hbk
            obtain ⟨rfl, hb1, hb2, rfl⟩ := hbk
            obtain ⟨q, hq1, hq2⟩ := pm_tg_at hb1
            obtain ⟨q', hq3, hq4⟩ := pm_ft_at hb2
            split at hex
            · rename_i x st2
              have kt : pm_cond cn x 0 = true → W p l e R s m args below meth c H locs cells slots Q (F0 m q.1 ls (st2.map (pm_cv (pm_ad sa base)))) := fun z => by
                rw [if_pos z] at hex; cases hex
                exact k1 _ _ rfl q hq1 _ _ _ _ _ hR
              have kf : ¬ pm_cond cn x 0 = true → W p l e R s m args below meth c H locs cells slots Q (F0 m (pc + 3) ls (st2.map (pm_cv (pm_ad sa base)))) := fun z => by
                rw [if_neg z] at hex; cases hex
                rw [← hq4]
                exact k1 _ _ rfl q' hq3 _ _ _ _ _ hR
              cases cn
              · exact lv_if_eq hx hb hd hq2 (fun z => kt (by simp [pm_cond, z])) (fun z => kf (by simp [pm_cond, z]))
              · exact lv_if_ne hx hb hd hq2 (fun z => kt (by simp [pm_cond, z])) (fun z => kf (by simp [pm_cond]; simpa using z))
              · exact lv_if_lt hx hb hd hq2 (fun z => kt (by simp [pm_cond, z])) (fun z => kf (by simp [pm_cond]; simpa using z))
              · exact lv_if_ge hx hb hd hq2 (fun z => kt (by simp [pm_cond, z])) (fun z => kf (by simp [pm_cond]; simpa using z))
              · exact lv_if_gt hx hb hd hq2 (fun z => kt (by simp [pm_cond, z])) (fun z => kf (by simp [pm_cond]; simpa using z))
              · exact lv_if_le hx hb hd hq2 (fun z => kt (by simp [pm_cond, z])) (fun z => kf (by simp [pm_cond]; simpa using z))
            · cases hex
          · cases hbk
        case if_icmp cn t =>
          simp only [pm_bk, hd] at hbk
          simp only [pm_ex] at hex
          split at hbk
          · rename_i c' off
            simp only [Bool.and_eq_true, decide_eq_true_eq] at hbk
            obtain ⟨rfl, hb1, hb2, rfl⟩ := hbk
            obtain ⟨q, hq1, hq2⟩ := pm_tg_at hb1
            obtain ⟨q', hq3, hq4⟩ := pm_ft_at hb2
            split at hex
            · rename_i y x st2
              have kt : pm_cond cn x y = true → W p l e R s m args below meth c H locs cells slots Q (F0 m q.1 ls (st2.map (pm_cv (pm_ad sa base)))) := fun z => by
                rw [if_pos z] at hex; cases hex
                exact k1 _ _ rfl q hq1 _ _ _ _ _ hR
              have kf : ¬ pm_cond cn x y = true → W p l e R s m args below meth c H locs cells slots Q (F0 m (pc + 3) ls (st2.map (pm_cv (pm_ad sa base)))) := fun z => by
                rw [if_neg z] at hex; cases hex
                rw [← hq4]
                exact k1 _ _ rfl q' hq3 _ _ _ _ _ hR
              cases cn
              · exact lv_icmp_eq hx hb hd hq2 (fun z => kt (by simp [pm_cond, z])) (fun z => kf (by simp [pm_cond, z]))
              · exact lv_icmp_ne hx hb hd hq2 (fun z => kt (by simp [pm_cond, z])) (fun z => kf (by simp [pm_cond]; simpa using z))
              · exact lv_icmp_lt hx hb hd hq2 (fun z => kt (by simp [pm_cond, z])) (fun z => kf (by simp [pm_cond]; simpa using z))
              · exact lv_icmp_ge hx hb hd hq2 (fun z => kt (by simp [pm_cond, z])) (fun z => kf (by simp [pm_cond]; simpa using z))
              · exact lv_icmp_gt hx hb hd hq2 (fun z => kt (by simp [pm_cond, z])) (fun z => kf (by simp [pm_cond]; simpa using z))
              · exact lv_icmp_le hx hb hd hq2 (fun z => kt (by simp [pm_cond, z])) (fun z => kf (by simp [pm_cond]; simpa using z))
            · cases hex
          · cases hbk
        case ifnull t =>
          simp only [pm_bk, hd] at hbk
          simp only [pm_ex] at hex
          split at hbk
          · rename_i off
            simp only [Bool.and_eq_true, decide_eq_true_eq] at hbk
            obtain ⟨hb1, hb2, rfl⟩ := hbk
            obtain ⟨q, hq1, hq2⟩ := pm_tg_at hb1
            obtain ⟨q', hq3, hq4⟩ := pm_ft_at hb2
            split at hex
            · cases hex
              exact lv_ifnullN hx hb hd hq2 (k1 _ _ rfl q hq1 _ _ _ _ _ hR)
            · cases hex
              refine lv_ifnull hx hb hd ?_
              rw [← hq4]
              exact k1 _ _ rfl q' hq3 _ _ _ _ _ hR
            · cases hex
          · cases hbk
        case ifnonnull t =>
          simp only [pm_bk, hd] at hbk
          simp only [pm_ex] at hex
          split at hbk
          · rename_i off
            simp only [Bool.and_eq_true, decide_eq_true_eq] at hbk
            obtain ⟨hb1, hb2, rfl⟩ := hbk
            obtain ⟨q, hq1, hq2⟩ := pm_tg_at hb1
            obtain ⟨q', hq3, hq4⟩ := pm_ft_at hb2
            split at hex
            · cases hex
              refine lv_ifnonnullN hx hb hd ?_
              rw [← hq4]
              exact k1 _ _ rfl q' hq3 _ _ _ _ _ hR
            · cases hex
              exact lv_ifnonnull hx hb hd hq2 (k1 _ _ rfl q hq1 _ _ _ _ _ hR)
            · cases hex
          · cases hbk
        case tableswitch df lo hi offs =>
          simp only [pm_bk, hd] at hbk
          simp only [pm_ex] at hex
          split at hbk
          · rename_i d' lo' hi' offs'
            simp only [Bool.and_eq_true, decide_eq_true_eq] at hbk
            obtain ⟨⟨rfl, rfl, hsz⟩, hb1, hb2⟩ := hbk
            split at hex
            · rename_i x st2
              split at hex
              · rename_i t ht
                cases hex
                unfold pm_tab at ht
                split at ht
                · rename_i hx9
                  cases ht
                  obtain ⟨q, hq1, hq2⟩ := pm_tg_at hb1
                  exact lv_tableOut hx hb hd hx9 hq2 (k1 _ _ rfl q hq1 _ _ _ _ _ hR)
                · rename_i hx9
                  have hlt := (Array.getElem?_eq_some_iff.mp ht).1
                  have h7 := List.all_eq_true.mp hb2 _ (List.mem_range.mpr hlt)
                  obtain ⟨q, hq1, hq2⟩ := pm_tg_at h7
                  rw [Array.getD_eq_getD_getElem?, ht] at hq1
                  refine lv_tableIn hx hb hd (fun z => hx9 (Or.inl z)) (fun z => hx9 (Or.inr z)) (off := offs'.getD (x.toInt - lo).toNat 0) ?_ hq2 (k1 _ _ rfl q hq1 _ _ _ _ _ hR)
                  rw [Array.getD_eq_getD_getElem?, Array.getElem?_eq_getElem (by omega)]
                  rfl
              · cases hex
            · cases hex
          · cases hbk
        case lookupswitch df ps =>
          simp only [pm_bk, hd] at hbk
          simp only [pm_ex] at hex
          split at hbk
          · rename_i d' ps'
            simp only [Bool.and_eq_true] at hbk
            obtain ⟨hb0, hb1, hb2⟩ := hbk
            split at hex
            · rename_i x st2
              cases hex
              obtain ⟨q, hq1, hq2⟩ := pm_tg_at (pm_lkc_at (x := x.toInt) hb1 _ _ hb2)
              exact lv_lookup hx hb hd hb0 rfl hq2 (k1 _ _ rfl q hq1 _ _ _ _ _ hR)
            · cases hex
          · cases hbk
        case ireturn =>
          simp only [pm_bk, hd, decide_eq_true_eq] at hbk
          cases hbk
          simp only [pm_ex] at hex
          split at hex
          · rename_i x
            split at hex
            · rename_i hrt
              cases hex
              exact hret _ _ _ _ _ _ _ _ (Or.inl ⟨rfl, x, rfl, hrt, (k2 _ rfl).symm⟩) hd hR
            · cases hex
          · cases hex
        case lreturn =>
          simp only [pm_bk, hd, decide_eq_true_eq] at hbk
          cases hbk
          simp only [pm_ex] at hex
          split at hex
          · rename_i x
            split at hex
            · rename_i hrt
              cases hex
              exact hret _ _ _ _ _ _ _ _ (Or.inr (Or.inl ⟨rfl, x, rfl, hrt, (k2 _ rfl).symm⟩)) hd hR
            · cases hex
          · cases hex
        case areturn =>
          simp only [pm_bk, hd, decide_eq_true_eq] at hbk
          cases hbk
          simp only [pm_ex] at hex
          split at hex
          · rename_i v
            split at hex
            · rename_i hrt
              cases hex
              exact hret _ _ _ _ _ _ _ _ (Or.inr (Or.inr (Or.inl ⟨rfl, v, rfl, hrt.1, hrt.2, (k2 _ rfl).symm⟩))) hd hR
            · cases hex
          · cases hex
        case return_ =>
          simp only [pm_bk, hd, decide_eq_true_eq] at hbk
          cases hbk
          simp only [pm_ex] at hex
          split at hex
          · split at hex
            · rename_i hrt
              cases hex
              exact hret _ _ _ _ _ _ _ _ (Or.inr (Or.inr (Or.inr ⟨rfl, rfl, hrt, (k2 _ rfl).symm⟩))) hd hR
            · cases hex
          · cases hex
        case invokestatic mid =>
          simp only [pm_bk, hd] at hbk
          simp only [pm_ex, pm_sig] at hex
          split at hbk
          · rename_i idx
            simp only [Bool.and_eq_true, decide_eq_true_eq] at hbk
            obtain ⟨rfl, hb1, hb2⟩ := hbk
            cases hmm : M[mid]? with
            | none => rw [hmm] at hb1; cases hb1
            | some mm =>
              rw [hmm] at hb1 hex
              simp only [Bool.and_eq_true, decide_eq_true_eq] at hb1
              simp only at hex
              split at hex
              · rename_i r hr
                obtain ⟨i1, i2, i3⟩ := pm_inv_at hr
                split at hex
                · rename_i t ht
                  subst i1
                  have hm := pm_m_ex hcf _ _ _ hex
                  have hle := hcf _ _ _ _ ht
                  refine pm_s_call (hcall mid mm r.1 S t hmm ht p e R s m args below meth c cc nL own n0 sl0 nf slf pc idx _ L r.2 H locs ls cells slots C hfr hlo hR i2 hle (Nat.le_trans hm.1 h1) (Nat.le_trans hm.2 h2) hd (Or.inl ⟨rfl, hb1.2, i3⟩) ?_) hR hle (fun H1 locs1 ls1 cells1 slots1 hR1 => ih _ _ _ _ hb2 hex h1 h2 k1 k2 _ _ _ _ _ hR1)
                  rcases pm_ml_at hb1.1 with h | h
                  · exact Or.inl h
                  · exact Or.inr ⟨h.1, fun k z => by cases z⟩
                · cases hex
              · cases hex
          · cases hbk
        case invokevirtual mid =>
          simp only [pm_bk, hd] at hbk
          simp only [pm_ex, pm_sig] at hex
          split at hbk
          · rename_i idx
            simp only [Bool.and_eq_true, decide_eq_true_eq] at hbk
            obtain ⟨rfl, hb1, hb2⟩ := hbk
            cases hmm : M[mid]? with
            | none => rw [hmm] at hb1; cases hb1
            | some mm =>
              rw [hmm] at hb1 hex
              simp only [Bool.and_eq_true, decide_eq_true_eq] at hb1
              simp only at hex
              split at hex
              · rename_i r hr
                obtain ⟨i1, i2, i3⟩ := pm_inv_at hr
                split at hex
                · rename_i hrc
                  split at hex
                  · rename_i t ht
                    subst i1
                    have hm := pm_m_ex hcf _ _ _ hex
                    have hle := hcf _ _ _ _ ht
                    refine pm_s_call (hcall mid mm r.1 S t hmm ht p e R s m args below meth c cc nL own n0 sl0 nf slf pc idx _ L r.2 H locs ls cells slots C hfr hlo hR i2 hle (Nat.le_trans hm.1 h1) (Nat.le_trans hm.2 h2) hd (Or.inr (Or.inl ⟨rfl, hb1.2.1, hb1.2.2, hrc, i3⟩)) ?_) hR hle (fun H1 locs1 ls1 cells1 slots1 hR1 => ih _ _ _ _ hb2 hex h1 h2 k1 k2 _ _ _ _ _ hR1)
                    rcases pm_ml_at hb1.1 with h | h
                    · exact Or.inl h
                    · cases h.2
                  · cases hex
                · cases hex
              · cases hex
          · cases hbk
        case invokespecial mid =>
          simp only [pm_bk, hd] at hbk
          simp only [pm_ex, pm_sig] at hex
          split at hbk
          · rename_i idx
            simp only [Bool.and_eq_true, decide_eq_true_eq] at hbk
            obtain ⟨rfl, hb1, hb2⟩ := hbk
            cases hmm : M[mid]? with
            | none => rw [hmm] at hb1; cases hb1
            | some mm =>
              rw [hmm] at hb1 hex
              simp only [Bool.and_eq_true, decide_eq_true_eq] at hb1
              simp only at hex
              split at hex
              · rename_i r hr
                obtain ⟨i1, i2, i3⟩ := pm_inv_at hr
                split at hex
                · rename_i hrc
                  split at hex
                  · rename_i t ht
                    subst i1
                    have hm := pm_m_ex hcf _ _ _ hex
                    have hle := hcf _ _ _ _ ht
                    refine pm_s_call (hcall mid mm r.1 S t hmm ht p e R s m args below meth c cc nL own n0 sl0 nf slf pc idx _ L r.2 H locs ls cells slots C hfr hlo hR i2 hle (Nat.le_trans hm.1 h1) (Nat.le_trans hm.2 h2) hd (Or.inr (Or.inr ⟨rfl, hb1.2.1, hb1.2.2, hrc, i3⟩)) ?_) hR hle (fun H1 locs1 ls1 cells1 slots1 hR1 => ih _ _ _ _ hb2 hex h1 h2 k1 k2 _ _ _ _ _ hR1)
                    rcases pm_ml_at hb1.1 with h | h
                    · exact Or.inl h
                    · exact Or.inr ⟨h.1, fun k z => by cases z⟩
                  · cases hex
                · cases hex
              · cases hex
          · cases hbk
        all_goals cases hct
end PMM
end
section
/-! a method's contract, out of its run in the pure machine; all methods, by the depth of calls -/
def pm_code (M : List pm_M) (m : pm_M) : Prop := (∃ q, m.2.2[0]? = some q ∧ q.1 = 0) ∧ ∀ (b : Nat) (q : Nat × List Instr), m.2.2[b]? = some q → ∃ hs, pm_bk m.1.2.1 m.1.1.cls (decide (m.1.1.name = "<init>")) M m.2.2 b q.1 q.2 hs = true
section PMT
variable {p : Program} {l : Launch} {e : Env} {R : Room} {s : State} {m : MethodId} {args : Array Value} {below : List Frame} {meth : Method} {c : Code} {Q : State → Prop} {cc : ByteArray} {nL : Nat} {own : String} {sa : Nat → Nat} {base : Nat} {dC : Nat → ClassId} {dI : Nat → Nat → Nat} {dA : Nat → ClassId} {X : pm_X} {n0 sl0 nf slf : Nat}
theorem pm_go_ok {M : List pm_M} {cf : Nat → List Value → pm_S → Option pm_T} {ret : Option FieldType} {code : List (Nat × List Instr)} {d : Nat} {ini : Bool} {tf : pm_T} (C : pm_C p R s m args meth c cc nL own sa base dC dI dA X n0 sl0 nf slf) (hini : ini = true → meth.name = "<init>") (hfr : d + 1 ≤ R.frames) (hlo : 64 * (d + 1) ≤ R.locals) (hcf : pm_mf cf)
    (hcall : ∀ (mid : Nat) (mm : pm_M) (as : List Value) (S : pm_S) (t : pm_T), M[mid]? = some mm → cf mid as S = some t → pm_CB l sa base dC dI dA X d mm as S t)
    (hret : ∀ (i : Instr) (pc : Nat) (f : pm_F) (H : Heap) (locs : List Loc) (ls : Array Slot) (cells slots : Nat), pm_isRet ret i f tf → decode cc pc = .ok (i, 1) → pm_R sa base dC dI dA s nL n0 sl0 f H locs ls cells slots → W p l e R s m args below meth c H locs cells slots Q (F0 m pc ls (f.2.1.map (pm_cv (pm_ad sa base)))))
    (hcode : ∀ (b : Nat) (q : Nat × List Instr), code[b]? = some q → ∃ hs, pm_bk cc own ini M code b q.1 q.2 hs = true) (hnf : tf.2.1.length ≤ nf) (hsl : tf.2.2 ≤ slf) :
    ∀ (F b : Nat) (f : pm_F), pm_go X M cf ret code F b f = some tf → ∀ q, code[b]? = some q → ∀ (H : Heap) (locs : List Loc) (ls : Array Slot) (cells slots : Nat), pm_R sa base dC dI dA s nL n0 sl0 f H locs ls cells slots → W p l e R s m args below meth c H locs cells slots Q (F0 m q.1 ls (f.2.1.map (pm_cv (pm_ad sa base)))) := by
  intro F
  induction F with
  | zero => intro b f h; unfold pm_go at h; cases h
  | succ F ih =>
    intro b f h q hq H locs ls cells slots hR
    unfold pm_go at h
    rw [hq] at h
    simp only at h
    obtain ⟨hs, hbk⟩ := hcode b q hq
    split at h
    · cases h
    · rename_i g hg
      have hm := pm_m_go hcf _ _ _ _ h
      refine pm_ex_ok C hini hfr hlo hcf hcall hret q.2 hs q.1 f _ hbk hg (Nat.le_trans hm.1 hnf) (Nat.le_trans hm.2 hsl) ?_ (fun t ht => by cases ht) H locs ls cells slots hR
      intro b' f' e1 q' hq' H1 locs1 ls1 cells1 slots1 hR1
      cases e1
      exact ih _ _ h q' hq' _ _ _ _ _ hR1
    · rename_i t hg
      cases h
      exact pm_ex_ok C hini hfr hlo hcf hcall hret q.2 hs q.1 f _ hbk hg hnf hsl (fun b' f' e1 => by cases e1) (fun t ht => by cases ht; rfl) H locs ls cells slots hR
end PMT
section PMU
variable {l : Launch} {sa : Nat → Nat} {base : Nat} {dC : Nat → ClassId} {dI : Nat → Nat → Nat} {dA : Nat → ClassId} {X : pm_X}
theorem pm_met {M : List pm_M} {cf : Nat → List Value → pm_S → Option pm_T} {d F : Nat} {mm : pm_M} {as : List Value} {S : pm_S} {t : pm_T} {L : List (Option Value)} (hm : pm_mOK mm) (hcode : pm_code M mm) (hcf : pm_mf cf)
    (hcall : ∀ (mid : Nat) (mm : pm_M) (as : List Value) (S : pm_S) (t : pm_T), M[mid]? = some mm → cf mid as S = some t → pm_CB l sa base dC dI dA X d mm as S t)
    (hent : pm_ent mm.1.2.2.1 as = some L) (hgo : pm_go X M cf mm.1.2.2.2 mm.2.2 F 0 (L, [], S) = some t) :
    Met l mm.1.1 (pm_ws mm) (pm_rm (d + 1) (t.2.1.length - S.1.length) (t.2.2 - S.2)) (pm_Pc sa base dC dI dA X as S) (fun _ => pm_Post sa base dC dI dA t) (t.2.1.length - S.1.length) (t.2.2 - S.2) (fun q : Nat => base ≤ q) := by
  obtain ⟨w1, w2, w3, w4, w5, w6, w7⟩ := hm
  refine Met.ofW (cc := mm.1.2.1) (maxL := mm.1.2.2.1) (ret := mm.1.2.2.2) w3 rfl ?_
  intro p e s m args below meth c s₁ B hml hv
  obtain ⟨rfl, hK, hP, hsz⟩ := hv
  have hx := B.exec
  have hb := B.bytes
  have hr := B.returns
  have hts := atoms_spec (ws := pm_ws mm) B.pre
  have hown : s.vm.findClass mm.1.1.cls = some m.cls := findClass_of_methodNamed B.named
  have hlocks := B.notSynchronized
  have hname : meth.name = mm.1.1.name := (name_of_methodNamed B.named B.method).1
  obtain ⟨⟨q0, hq0, hq00⟩, hblk⟩ := hcode
  have hle := pm_m_go hcf _ _ _ _ hgo
  have hle1 := hle.1
  have hle2 := hle.2
  dsimp only at hle1 hle2
  obtain ⟨hlen, hLR⟩ := pm_ent_LR (ad := pm_ad sa base) hent
  have C : pm_C p (pm_rm (d + 1) (t.2.1.length - S.1.length) (t.2.2 - S.2)) s m (as.map (pm_cv (pm_ad sa base))).toArray meth c mm.1.2.1 mm.1.2.2.1 mm.1.1.cls sa base dC dI dA X S.1.length S.2 t.2.1.length t.2.2 :=
    ⟨hx, hb, hml, hown, fun w hw => hts w (List.mem_cons_of_mem _ hw), hlocks, hK, by show _ ≤ S.1.length + (t.2.1.length - S.1.length); omega, by show _ ≤ S.2 + (t.2.2 - S.2); omega, by show 1 ≤ d + 1; omega, by show 64 ≤ 64 * (d + 1); omega⟩
  rw [lg_entry_eq]
  have hent0 : F0 m 0 ((lg_sl (as.map (pm_cv (pm_ad sa base))) ++ List.replicate (mm.1.2.2.1 - (lg_sl (as.map (pm_cv (pm_ad sa base)))).length) Slot.unset).toArray) [] = F0 m q0.1 ((lg_sl (as.map (pm_cv (pm_ad sa base))) ++ List.replicate (mm.1.2.2.1 - (lg_sl (as.map (pm_cv (pm_ad sa base)))).length) Slot.unset).toArray) (([] : List Value).map (pm_cv (pm_ad sa base))) := by rw [hq00]; rfl
  rw [hent0]
  refine pm_go_ok (d := d) (tf := t) (ini := decide (mm.1.1.name = "<init>")) C (fun h => by rw [hname]; simpa using h) (by show d + 1 ≤ d + 1; omega) (by show 64 * (d + 1) ≤ 64 * (d + 1); omega) hcf hcall ?_ hblk (Nat.le_refl _) (Nat.le_refl _) F 0 (L, [], S) hgo q0 hq0 s.heap [] _ 0 0 ⟨hLR, hP, hsz, va_S.rf, rfl, rfl⟩
  intro i pc f H locs ls cells slots hir hdg hR
  obtain ⟨r1, r2, r3, r4, r5, r6⟩ := hR
  have key : t.2 = f.2.2 → cells = t.2.1.length - S.1.length ∧ slots = t.2.2 - S.2 := fun h => by rw [h]; constructor <;> omega
  have post : ∀ v : Option Value, t = (v, f.2.2) → ∀ u : State, u.heap = H → s.WarmedH u.vm → pm_Post sa base dC dI dA t s (.returned (v.map (pm_cv (pm_ad sa base)))) u := by
    intro v ht u hu _
    subst ht
    exact ⟨rfl, by rw [hu]; exact r2, by rw [hu]; exact r3, r4.F hu⟩
  rcases hir with ⟨rfl, x, e1, e2, e3⟩ | ⟨rfl, x, e1, e2, e3⟩ | ⟨rfl, v, e1, e2, e3, e4⟩ | ⟨rfl, e1, e2, e3⟩
  · obtain ⟨k1, k2⟩ := key (by rw [e3])
    rw [e1, ← k1, ← k2]
    unfold pm_ret at e2
    split at e2
    · rename_i ty hty
      exact W.zret hx hb (ty := ty) (by rw [hr]; exact hty) (pm_fit_ok (ad := id) e2).1 (post _ e3) r4.2.2 hdg
    · cases e2
  · obtain ⟨k1, k2⟩ := key (by rw [e3])
    rw [e1, ← k1, ← k2]
    exact W.lret hx hb (by rw [hr]; exact e2) (post _ e3) r4.2.2 hdg
  · obtain ⟨k1, k2⟩ := key (by rw [e4])
    rw [e1, ← k1, ← k2]
    unfold pm_ret at e3
    split at e3
    · rename_i ty hty
      refine W.aret hx hb (rt := ty) (by rw [hr]; exact hty) ?_ ?_ (post _ e4) r4.2.2 hdg
      · cases v with
        | ref a => cases ty <;> first | (cases e3; done) | exact Or.inl ⟨_, rfl⟩ | exact Or.inr ⟨_, rfl⟩
        | null => cases ty <;> first | (cases e3; done) | exact Or.inl ⟨_, rfl⟩ | exact Or.inr ⟨_, rfl⟩
        | _ => cases e2
      · cases v with
        | ref a => exact Or.inr ⟨_, rfl⟩
        | null => exact Or.inl rfl
        | _ => cases e2
    · cases e3
  · obtain ⟨k1, k2⟩ := key (by rw [e3])
    rw [e1, ← k1, ← k2]
    exact W.vret hx hb (by rw [hr]; exact e2) (post _ e3) r4.2.2 hdg
theorem pm_all {M : List pm_M} {PR : pm_P} (hM : ∀ (mid : Nat) (mm : pm_M), M[mid]? = some mm → PR mid = none → pm_mOK mm ∧ pm_code M mm) (hPR : ∀ (mid : Nat) (g : List Value → pm_S → Option pm_T), PR mid = some g → ∀ (as : List Value) (S : pm_S) (t : pm_T), g as S = some t → pm_le S t.2)
    (hPC : ∀ (mid : Nat) (mm : pm_M) (g : List Value → pm_S → Option pm_T), M[mid]? = some mm → PR mid = some g → ∀ (d : Nat), 16 ≤ d → ∀ (as : List Value) (S : pm_S) (t : pm_T), g as S = some t → pm_CB l sa base dC dI dA X (d + 1) mm as S t) :
    ∀ (d mid : Nat) (mm : pm_M) (as : List Value) (S : pm_S) (t : pm_T), M[mid]? = some mm → pm_call X M PR d mid as S = some t → pm_CB l sa base dC dI dA X d mm as S t := by
  intro d
  induction d with
  | zero => intro mid mm as S t _ h; unfold pm_call at h; cases h
  | succ d ih =>
    intro mid mm as S t hmm h
    unfold pm_call at h
    split at h
    · rename_i g hg
      split at h
      · rename_i hd
        exact hPC mid mm g hmm hg d hd as S t h
      · cases h
    · rename_i hg
      rw [hmm] at h
      simp only at h
      split at h
      · cases h
      · rename_i L hL
        obtain ⟨h1, h2⟩ := hM mid mm hmm hg
        exact pm_CB_of h1 (pm_met h1 h2 (pm_m_call hPR d) ih hL h)
end PMU
end
section
/-! printed by wip/whole/gencode.py out of the bytes: the methods as blocks of ops -/
def cd_Integer_signum : List (Nat × List Instr) := [(0, [.iload 0, .iconst 31, .ishr, .iload 0, .ineg, .iconst 31, .iushr, .ior, .ireturn])]
def md_Integer_signum : pm_M := ((⟨"java/lang/Integer", "signum", "(I)I"⟩, prog_17_method_56_code, 1, some .int), (1, 99), cd_Integer_signum)
def cd_Integer_bitCount : List (Nat × List Instr) := [(0, [.iload 0, .iload 0, .iconst 1, .iushr, .iconst 1431655765, .iand, .isub, .istore 0, .iload 0, .iconst 858993459, .iand, .iload 0, .iconst 2, .iushr, .iconst 858993459, .iand, .iadd, .istore 0, .iload 0, .iload 0, .iconst 4, .iushr, .iadd, .iconst 252645135, .iand, .istore 0, .iload 0, .iload 0, .iconst 8, .iushr, .iadd, .istore 0, .iload 0, .iload 0, .iconst 16, .iushr, .iadd, .istore 0, .iload 0, .iconst 63, .iand, .ireturn])]
def md_Integer_bitCount : pm_M := ((⟨"java/lang/Integer", "bitCount", "(I)I"⟩, prog_17_method_49_code, 1, some .int), (1, 99), cd_Integer_bitCount)
def cd_Arrays_fill : List (Nat × List Instr) := [(0, [.iconst 0, .istore 2, .aload 0, .arraylength, .istore 3]),
  (5, [.iload 2, .iload 3, .if_icmp .ge 3]),
  (10, [.aload 0, .iload 2, .iload 1, .iastore, .iinc 2 1, .goto 1]),
  (20, [.return_])]
def md_Arrays_fill : pm_M := ((⟨"java/util/Arrays", "fill", "([II)V"⟩, prog_24_method_103_code, 4, none), (2, 99), cd_Arrays_fill)
def cd_Arrays_copyOf : List (Nat × List Instr) := [(0, [.iload 1, .aload 0, .arraylength, .if_icmp .ne 4]),
  (6, [.aload 0, .athrow]),
  (10, [.athrow]),
  (13, [.areturn]),
  (14, [.iload 1, .newarray .int, .astore 2, .aload 0, .iconst 0, .aload 2, .iconst 0, .aload 0, .arraylength, .iload 1, .dup_x2, .swap, .aload 2, .areturn])]
def md_Arrays_copyOf : pm_M := ((⟨"java/util/Arrays", "copyOf", "([II)[I"⟩, prog_24_method_123_code, 3, some (.array .int)), (2, 99), cd_Arrays_copyOf)
def cd_Chamber_init : List (Nat × List Instr) := [(0, [.aload 0, .monitorenter, .aload 0, .iconst 3, .putfield 0, .aload 0, .iconst 9, .anewarray 2, .putfield 4, .aload 0, .iconst 12, .anewarray 3, .putfield 5, .iconst 0, .istore 1]),
  (29, [.iload 1, .iconst 9, .if_icmp .ge 3]),
  (35, [.aload 0, .getfield 4, .iload 1, .new 3, .dup, .invokespecial 42, .aastore, .iinc 1 1, .goto 1]),
  (54, [.return_])]
def md_Chamber_init : pm_M := ((⟨"QuestionDesk$Chamber", "<init>", "()V"⟩, prog_2_method_1_code, 2, none), (0, 0), cd_Chamber_init)
def cd_Chamber_memberAt : List (Nat × List Instr) := [(0, [.iload 1, .iconst 0, .aload 0, .getfield 2, .iconst 1, .isub, .invokestatic 111, .ifCond .eq 2]),
  (14, [.aload 0, .getfield 4, .iload 1, .aaload, .goto 3]),
  (23, [.aconst_null]),
  (24, [.areturn])]
def md_Chamber_memberAt : pm_M := ((⟨"QuestionDesk$Chamber", "memberAt", "(I)LQuestionDesk$Member;"⟩, prog_2_method_2_code, 2, some (.object "QuestionDesk$Member")), (1, 0), cd_Chamber_memberAt)
def cd_Chamber_treeAt : List (Nat × List Instr) := [(0, [.iload 1, .iconst 0, .aload 0, .getfield 3, .iconst 1, .isub, .invokestatic 111, .ifCond .eq 2]),
  (14, [.aload 0, .getfield 5, .iload 1, .aaload, .goto 3]),
  (23, [.aconst_null]),
  (24, [.areturn])]
def md_Chamber_treeAt : pm_M := ((⟨"QuestionDesk$Chamber", "treeAt", "(I)LQuestionDesk$Tree;"⟩, prog_2_method_3_code, 2, some (.object "QuestionDesk$Tree")), (1, 0), cd_Chamber_treeAt)
def cd_Chamber_takeOver : List (Nat × List Instr) := [(0, [.aload 0, .aload 1, .getfield 0, .putfield 0, .aload 0, .aload 1, .getfield 1, .putfield 1, .aload 0, .aload 1, .getfield 2, .putfield 2, .aload 0, .aload 1, .getfield 3, .putfield 3, .iconst 0, .istore 2]),
  (34, [.iload 2, .aload 0, .getfield 2, .if_icmp .ge 3]),
  (42, [.aload 0, .getfield 4, .iload 2, .aaload, .aload 1, .getfield 4, .iload 2, .aaload, .invokevirtual 45, .iinc 2 1, .goto 1]),
  (63, [.iconst 0, .istore 2]),
  (65, [.iload 2, .aload 0, .getfield 3, .if_icmp .ge 6]),
  (73, [.aload 0, .getfield 5, .iload 2, .aload 1, .getfield 5, .iload 2, .aaload, .aastore, .iinc 2 1, .goto 4]),
  (91, [.return_])]
def md_Chamber_takeOver : pm_M := ((⟨"QuestionDesk$Chamber", "takeOver", "(LQuestionDesk$Chamber;)V"⟩, prog_2_method_4_code, 3, none), (1, 0), cd_Chamber_takeOver)
def cd_Chamber_allVoices : List (Nat × List Instr) := [(0, [.iconst 0, .istore 1, .iconst 0, .istore 2]),
  (4, [.iload 2, .aload 0, .getfield 2, .if_icmp .ge 3]),
  (12, [.iload 1, .aload 0, .getfield 4, .iload 2, .aaload, .getfield 194, .iadd, .istore 1, .iinc 2 1, .goto 1]),
  (30, [.iload 1, .ireturn])]
def md_Chamber_allVoices : pm_M := ((⟨"QuestionDesk$Chamber", "allVoices", "()I"⟩, prog_2_method_5_code, 3, some .int), (0, 0), cd_Chamber_allVoices)
def cd_Chamber_allQuestions : List (Nat × List Instr) := [(0, [.iconst 0, .istore 1, .iconst 0, .istore 2]),
  (4, [.iload 2, .aload 0, .getfield 3, .if_icmp .ge 3]),
  (12, [.iload 1, .aload 0, .getfield 5, .iload 2, .aaload, .getfield 516, .iadd, .istore 1, .iinc 2 1, .goto 1]),
  (30, [.iload 1, .ireturn])]
def md_Chamber_allQuestions : pm_M := ((⟨"QuestionDesk$Chamber", "allQuestions", "()I"⟩, prog_2_method_7_code, 3, some .int), (0, 0), cd_Chamber_allQuestions)
def cd_Chamber_allWeight : List (Nat × List Instr) := [(0, [.iconst 0, .istore 1, .iconst 0, .istore 2]),
  (4, [.iload 2, .aload 0, .getfield 2, .if_icmp .ge 3]),
  (12, [.iload 1, .aload 0, .getfield 4, .iload 2, .aaload, .invokevirtual 44, .iadd, .istore 1, .iinc 2 1, .goto 1]),
  (30, [.iload 1, .ireturn])]
def md_Chamber_allWeight : pm_M := ((⟨"QuestionDesk$Chamber", "allWeight", "()I"⟩, prog_2_method_6_code, 3, some .int), (0, 0), cd_Chamber_allWeight)
def cd_Hall_init : List (Nat × List Instr) := [(0, [.aload 0, .monitorenter, .aload 0, .iconst 9, .anewarray 2, .putfield 67, .aload 0, .iconst 64, .newarray .int, .putfield 68, .aload 0, .iconst 64, .newarray .int, .putfield 69, .aload 0, .iconst 64, .newarray .int, .putfield 70, .aload 0, .iconst 64, .newarray .int, .putfield 71, .aload 0, .iconst 64, .newarray .int, .putfield 72, .aload 0, .iconst 384, .newarray .int, .putfield 73, .aload 0, .iconst 3, .newarray .int, .putfield 74, .aload 0, .iconst 64, .newarray .int, .putfield 75, .iconst 0, .istore 1]),
  (79, [.iload 1, .iconst 9, .if_icmp .ge 3]),
  (85, [.aload 0, .getfield 67, .iload 1, .new 3, .dup, .invokespecial 42, .aastore, .iinc 1 1, .goto 1]),
  (104, [.return_])]
def md_Hall_init : pm_M := ((⟨"QuestionDesk$Hall", "<init>", "()V"⟩, prog_3_method_1_code, 2, none), (0, 1), cd_Hall_init)
def cd_Hall_seat : List (Nat × List Instr) := [(0, [.aload 0, .aload 1, .getfield 2, .putfield 64, .aload 0, .aload 1, .getfield 1, .putfield 65, .aload 0, .iconst 0, .putfield 66, .iconst 0, .istore 2]),
  (23, [.iload 2, .aload 0, .getfield 64, .if_icmp .ge 5]),
  (31, [.aload 0, .getfield 67, .iload 2, .aaload, .aload 1, .getfield 4, .iload 2, .aaload, .invokevirtual 45, .aload 0, .getfield 67, .iload 2, .aaload, .getfield 193, .iconst 2, .if_icmp .ne 4]),
  (59, [.aload 0, .aload 0, .getfield 66, .aload 0, .getfield 67, .iload 2, .aaload, .getfield 195, .dup_x1, .putfield 66]),
  (79, [.iinc 2 1, .goto 1]),
  (85, [.return_])]
def md_Hall_seat : pm_M := ((⟨"QuestionDesk$Hall", "seat", "(LQuestionDesk$Chamber;)V"⟩, prog_3_method_2_code, 3, none), (1, 1), cd_Hall_seat)
def cd_Hall_settle : List (Nat × List Instr) := [(0, [.aload 1, .getfield 512, .iconst 1, .isub, .istore 2]),
  (7, [.iload 2, .ifCond .lt 8]),
  (11, [.aload 1, .getfield 513, .iload 2, .iaload, .istore 3, .iload 3, .iconst 7, .if_icmp .ne 4]),
  (24, [.aload 0, .iload 2, .iload 2, .iconst 1, .iadd, .aload 1, .getfield 514, .iload 2, .iaload, .invokevirtual 14, .goto 7]),
  (41, [.iload 3, .iconst 8, .if_icmp .ne 6]),
  (47, [.aload 1, .getfield 515, .iload 2, .iaload, .istore 4, .aload 0, .iload 2, .iload 2, .iconst 1, .iadd, .aload 1, .getfield 514, .iload 2, .iaload, .aload 0, .iload 4, .iconst 7, .idiv, .iload 4, .iconst 7, .irem, .invokevirtual 22, .invokevirtual 23, .goto 7]),
  (86, [.aload 0, .iload 2, .iload 3, .invokevirtual 24]),
  (92, [.iinc 2 (-1), .goto 1]),
  (98, [.aload 0, .getfield 69, .iconst 0, .iaload, .ireturn])]
def md_Hall_settle : pm_M := ((⟨"QuestionDesk$Hall", "settle", "(LQuestionDesk$Tree;)I"⟩, prog_3_method_9_code, 5, some .int), (1, 1), cd_Hall_settle)
def cd_Hall_settleQuestion : List (Nat × List Instr) := [(0, [.aload 0, .getfield 68, .iload 1, .aload 0, .getfield 68, .iload 2, .iaload, .iastore, .aload 0, .getfield 72, .iload 1, .aload 0, .getfield 72, .iload 2, .iaload, .aload 0, .getfield 72, .iload 3, .iaload, .ior, .iastore, .aload 0, .getfield 71, .iload 1, .aload 0, .iload 2, .iload 3, .invokevirtual 15, .iastore, .aload 0, .getfield 70, .iload 1, .aload 0, .getfield 71, .iload 1, .iaload, .ifCond .gt 3]),
  (57, [.aload 0, .getfield 71, .iload 1, .iaload, .ifCond .ne 4]),
  (66, [.aload 0, .aload 0, .getfield 68, .iload 2, .iaload, .aload 0, .getfield 68, .iload 3, .iaload, .invokevirtual 19, .aload 0, .getfield 68, .iload 2, .iaload, .if_icmp .ne 4]),
  (91, [.iconst 0, .goto 5]),
  (95, [.iconst 1]),
  (96, [.iastore, .aload 0, .getfield 69, .iload 1, .aload 0, .getfield 69, .aload 0, .getfield 70, .iload 1, .iaload, .ifCond .ne 7]),
  (115, [.iload 2, .goto 8]),
  (119, [.iload 3]),
  (120, [.iaload, .iastore, .aload 0, .getfield 73, .iload 1, .aload 0, .getfield 68, .iload 1, .iaload, .iastore, .iconst 1, .istore 4]),
  (137, [.iload 4, .aload 0, .getfield 66, .if_icmp .gt 11]),
  (146, [.iload 4, .iconst 1, .isub, .iconst 64, .imul, .istore 5, .aload 0, .getfield 73, .iload 4, .iconst 64, .imul, .iload 1, .iadd, .aload 0, .aload 0, .getfield 73, .iload 5, .iload 2, .iadd, .iaload, .aload 0, .getfield 73, .iload 5, .iload 3, .iadd, .iaload, .invokevirtual 20, .iastore, .iinc 4 1, .goto 9]),
  (195, [.return_])]
def md_Hall_settleQuestion : pm_M := ((⟨"QuestionDesk$Hall", "settleQuestion", "(III)V"⟩, prog_3_method_12_code, 6, none), (3, 1), cd_Hall_settleQuestion)
def cd_Hall_votesFor : List (Nat × List Instr) := [(0, [.aload 0, .iload 1, .iload 2, .invokevirtual 16, .iconst 0, .istore 3, .iconst 0, .istore 4]),
  (11, [.iload 4, .aload 0, .getfield 64, .if_icmp .ge 3]),
  (20, [.iload 3, .aload 0, .aload 0, .getfield 67, .iload 4, .aaload, .iload 1, .iload 2, .invokevirtual 17, .iadd, .istore 3, .iinc 4 1, .goto 1]),
  (42, [.iload 3, .ireturn])]
def md_Hall_votesFor : pm_M := ((⟨"QuestionDesk$Hall", "votesFor", "(II)I"⟩, prog_3_method_13_code, 5, some .int), (2, 1), cd_Hall_votesFor)
def cd_Hall_drawLines : List (Nat × List Instr) := [(0, [.aload 0, .getfield 74, .iconst 0, .invokestatic 2, .iconst 0, .istore 3]),
  (10, [.iload 3, .aload 0, .getfield 64, .if_icmp .ge 5]),
  (18, [.aload 0, .getfield 67, .iload 3, .aaload, .astore 4, .aload 4, .invokevirtual 47, .ifCond .eq 4]),
  (34, [.aload 0, .getfield 74, .aload 4, .getfield 195, .dup2, .iaload, .aload 4, .getfield 194, .aload 4, .aload 0, .getfield 68, .iload 1, .iaload, .aload 0, .getfield 68, .iload 2, .iaload, .invokevirtual 48, .imul, .iadd, .iastore]),
  (70, [.iinc 3 1, .goto 1]),
  (76, [.iconst 0, .istore 3]),
  (78, [.iload 3, .iconst 3, .if_icmp .ge 8]),
  (83, [.aload 0, .getfield 74, .iload 3, .aload 0, .getfield 74, .iload 3, .iaload, .invokestatic 0, .iastore, .iinc 3 1, .goto 6]),
  (104, [.return_])]
def md_Hall_drawLines : pm_M := ((⟨"QuestionDesk$Hall", "drawLines", "(II)V"⟩, prog_3_method_15_code, 5, none), (2, 1), cd_Hall_drawLines)
def cd_Hall_voteOf : List (Nat × List Instr) := [(0, [.aload 1, .getfield 193, .tableswitch 6 1 5 #[1, 2, 3, 4, 5]]),
  (40, [.aload 1, .getfield 194, .aload 1, .aload 0, .getfield 69, .iload 2, .iaload, .aload 0, .getfield 69, .iload 3, .iaload, .invokevirtual 48, .imul, .ireturn]),
  (62, [.aload 1, .getfield 195, .iconst 64, .imul, .istore 4, .aload 1, .getfield 194, .aload 1, .aload 0, .getfield 73, .iload 4, .iload 2, .iadd, .iaload, .aload 0, .getfield 73, .iload 4, .iload 3, .iadd, .iaload, .invokevirtual 48, .imul, .ireturn]),
  (99, [.aload 1, .getfield 194, .aload 0, .getfield 74, .aload 1, .getfield 195, .iaload, .imul, .ireturn]),
  (114, [.aload 1, .getfield 194, .aload 0, .aload 1, .iload 2, .iload 3, .invokevirtual 18, .imul, .ireturn]),
  (127, [.aload 1, .getfield 194, .iconst 2, .idiv, .istore 5, .iload 5, .aload 1, .aload 0, .getfield 68, .iload 2, .iaload, .aload 0, .getfield 68, .iload 3, .iaload, .invokevirtual 48, .imul, .aload 1, .getfield 194, .iload 5, .isub, .aload 1, .aload 0, .getfield 69, .iload 2, .iaload, .aload 0, .getfield 69, .iload 3, .iaload, .invokevirtual 48, .imul, .iadd, .ireturn]),
  (180, [.aload 1, .getfield 194, .aload 1, .aload 0, .getfield 68, .iload 2, .iaload, .aload 0, .getfield 68, .iload 3, .iaload, .invokevirtual 48, .imul, .ireturn])]
def md_Hall_voteOf : pm_M := ((⟨"QuestionDesk$Hall", "voteOf", "(LQuestionDesk$Member;II)I"⟩, prog_3_method_16_code, 6, some .int), (3, 1), cd_Hall_voteOf)
def cd_Hall_sideOfBought : List (Nat × List Instr) := [(0, [.aload 0, .getfield 72, .iload 2, .iaload, .aload 1, .getfield 196, .ishr, .iconst 1, .iand, .istore 4, .aload 0, .getfield 72, .iload 3, .iaload, .aload 1, .getfield 196, .ishr, .iconst 1, .iand, .istore 5, .iload 4, .iload 5, .if_icmp .ne 2]),
  (37, [.aload 0, .getfield 74, .aload 1, .getfield 195, .iaload, .goto 3]),
  (49, [.iload 4, .iload 5, .isub]),
  (54, [.ireturn])]
def md_Hall_sideOfBought : pm_M := ((⟨"QuestionDesk$Hall", "sideOfBought", "(LQuestionDesk$Member;II)I"⟩, prog_3_method_17_code, 6, some .int), (3, 1), cd_Hall_sideOfBought)
def cd_Hall_chairsOf : List (Nat × List Instr) := [(0, [.aload 0, .getfield 65, .ifCond .ne 2]),
  (7, [.iload 1, .iload 2, .dup_x2, .goto 3]),
  (15, [.iload 1, .iload 2, .dup_x1]),
  (20, [.ireturn])]
def md_Hall_chairsOf : pm_M := ((⟨"QuestionDesk$Hall", "chairsOf", "(II)I"⟩, prog_3_method_8_code, 3, some .int), (2, 1), cd_Hall_chairsOf)
def cd_Hall_better : List (Nat × List Instr) := [(0, [.iload 1, .iload 2, .if_icmp .ne 2]),
  (5, [.iload 1, .ireturn]),
  (7, [.aload 0, .iload 1, .iload 2, .invokevirtual 21, .istore 3, .iload 3, .ifCond .ne 4]),
  (18, [.aload 0, .iload 1, .iload 2, .invokevirtual 19, .goto 7]),
  (27, [.iload 3, .ifCond .le 6]),
  (31, [.iload 1, .goto 7]),
  (35, [.iload 2]),
  (36, [.ireturn])]
def md_Hall_better : pm_M := ((⟨"QuestionDesk$Hall", "better", "(II)I"⟩, prog_3_method_7_code, 4, some .int), (2, 1), cd_Hall_better)
def cd_Hall_margin : List (Nat × List Instr) := [(0, [.iconst 0, .istore 3, .iconst 0, .istore 4]),
  (5, [.iload 4, .aload 0, .getfield 64, .if_icmp .ge 3]),
  (14, [.iload 3, .aload 0, .getfield 67, .iload 4, .aaload, .getfield 194, .aload 0, .getfield 67, .iload 4, .aaload, .iload 1, .iload 2, .invokevirtual 48, .imul, .iadd, .istore 3, .iinc 4 1, .goto 1]),
  (46, [.iload 3, .ireturn])]
def md_Hall_margin : pm_M := ((⟨"QuestionDesk$Hall", "margin", "(II)I"⟩, prog_3_method_5_code, 5, some .int), (2, 1), cd_Hall_margin)
def cd_Hall_beats : List (Nat × List Instr) := [(0, [.iload 1, .iload 2, .if_icmp .eq 3]),
  (5, [.aload 0, .iload 1, .iload 2, .invokevirtual 20, .iload 1, .if_icmp .ne 3]),
  (15, [.iconst 1, .goto 4]),
  (19, [.iconst 0]),
  (20, [.ireturn])]
def md_Hall_beats : pm_M := ((⟨"QuestionDesk$Hall", "beats", "(II)Z"⟩, prog_3_method_6_code, 3, some .boolean), (2, 1), cd_Hall_beats)
def cd_Hall_settleChoice : List (Nat × List Instr) := [(0, [.iload 4, .ifCond .eq 2]),
  (5, [.iload 2, .goto 3]),
  (9, [.iload 3]),
  (10, [.istore 5, .aload 0, .getfield 68, .iload 1, .aload 0, .getfield 68, .iload 5, .iaload, .iastore, .aload 0, .getfield 69, .iload 1, .aload 0, .getfield 69, .iload 5, .iaload, .iastore, .aload 0, .getfield 72, .iload 1, .aload 0, .getfield 72, .iload 2, .iaload, .aload 0, .getfield 72, .iload 3, .iaload, .ior, .iastore, .iconst 0, .istore 6]),
  (60, [.iload 6, .aload 0, .getfield 66, .if_icmp .gt 6]),
  (69, [.aload 0, .getfield 73, .iload 6, .iconst 64, .imul, .iload 1, .iadd, .aload 0, .getfield 73, .iload 6, .iconst 64, .imul, .iload 5, .iadd, .iaload, .iastore, .iinc 6 1, .goto 4]),
  (100, [.return_])]
def md_Hall_settleChoice : pm_M := ((⟨"QuestionDesk$Hall", "settleChoice", "(IIIZ)V"⟩, prog_3_method_11_code, 7, none), (4, 1), cd_Hall_settleChoice)
def cd_Hall_settleEnd : List (Nat × List Instr) := [(0, [.aload 0, .getfield 68, .iload 1, .iload 2, .iastore, .aload 0, .getfield 69, .iload 1, .iload 2, .iastore, .aload 0, .getfield 72, .iload 1, .iconst 1, .iload 2, .ishl, .iastore, .iconst 0, .istore 3]),
  (25, [.iload 3, .aload 0, .getfield 66, .if_icmp .gt 3]),
  (33, [.aload 0, .getfield 73, .iload 3, .iconst 64, .imul, .iload 1, .iadd, .iload 2, .iastore, .iinc 3 1, .goto 1]),
  (51, [.return_])]
def md_Hall_settleEnd : pm_M := ((⟨"QuestionDesk$Hall", "settleEnd", "(II)V"⟩, prog_3_method_10_code, 4, none), (2, 1), cd_Hall_settleEnd)
def cd_Hall_voteIn : List (Nat × List Instr) := [(0, [.aload 0, .iload 1, .iload 2, .invokevirtual 16, .aload 0, .aload 0, .getfield 67, .iload 3, .aaload, .iload 1, .iload 2, .invokevirtual 17, .ireturn])]
def md_Hall_voteIn : pm_M := ((⟨"QuestionDesk$Hall", "voteIn", "(III)I"⟩, prog_3_method_14_code, 4, some .int), (3, 1), cd_Hall_voteIn)
def cd_Hall_makeAll : List (Nat × List Instr) := [(0, [.iconst 0, .istore 2]),
  (2, [.iload 2, .aload 0, .getfield 64, .if_icmp .ge 3]),
  (10, [.aload 0, .getfield 67, .iload 2, .aaload, .iload 1, .putfield 193, .iinc 2 1, .goto 1]),
  (26, [.return_])]
def md_Hall_makeAll : pm_M := ((⟨"QuestionDesk$Hall", "makeAll", "(I)V"⟩, prog_3_method_4_code, 3, none), (1, 1), cd_Hall_makeAll)
def cd_Hall_rememberWinners : List (Nat × List Instr) := [(0, [.aload 0, .getfield 70, .iconst 0, .aload 0, .getfield 75, .iconst 0, .aload 1, .getfield 512, .swap, .return_])]
def md_Hall_rememberWinners : pm_M := ((⟨"QuestionDesk$Hall", "rememberWinners", "(LQuestionDesk$Tree;)V"⟩, prog_3_method_18_code, 2, none), (1, 1), cd_Hall_rememberWinners)
def cd_Hall_firstOtherWinner : List (Nat × List Instr) := [(0, [.iconst 0, .istore 2]),
  (2, [.iload 2, .aload 1, .getfield 512, .if_icmp .ge 6]),
  (10, [.aload 1, .getfield 513, .iload 2, .iaload, .iconst 7, .if_icmp .ne 5]),
  (21, [.aload 0, .getfield 70, .iload 2, .iaload, .aload 0, .getfield 75, .iload 2, .iaload, .if_icmp .eq 5]),
  (36, [.iload 2, .ireturn]),
  (38, [.iinc 2 1, .goto 1]),
  (44, [.iconst (-4), .ireturn])]
def md_Hall_firstOtherWinner : pm_M := ((⟨"QuestionDesk$Hall", "firstOtherWinner", "(LQuestionDesk$Tree;)I"⟩, prog_3_method_19_code, 3, some .int), (1, 1), cd_Hall_firstOtherWinner)
def cd_Hall_killerBits : List (Nat × List Instr) := [(0, [.iconst 0, .istore 3, .iconst 0, .istore 4]),
  (5, [.iload 4, .iload 2, .if_icmp .ge 5]),
  (11, [.aload 0, .getfield 69, .aload 0, .iconst 0, .iload 1, .iload 4, .invokevirtual 30, .iaload, .aload 0, .getfield 69, .iconst 0, .iaload, .if_icmp .eq 4]),
  (33, [.iload 3, .iconst 1, .iload 4, .ishl, .ior, .istore 3]),
  (40, [.iinc 4 1, .goto 1]),
  (46, [.iload 3, .ireturn])]
def md_Hall_killerBits : pm_M := ((⟨"QuestionDesk$Hall", "killerBits", "(II)I"⟩, prog_3_method_21_code, 5, some .int), (2, 1), cd_Hall_killerBits)
def cd_Hall_putAgainst : List (Nat × List Instr) := [(0, [.aload 0, .iload 2, .iload 3, .invokevirtual 24, .aload 0, .iload 2, .iconst 1, .iadd, .iload 1, .iload 2, .invokevirtual 14, .iload 2, .iconst 1, .iadd, .ireturn])]
def md_Hall_putAgainst : pm_M := ((⟨"QuestionDesk$Hall", "putAgainst", "(III)I"⟩, prog_3_method_20_code, 4, some .int), (3, 1), cd_Hall_putAgainst)
def cd_Hall_shieldBits : List (Nat × List Instr) := [(0, [.aload 0, .iconst 0, .iload 1, .iload 2, .invokevirtual 30, .istore 4, .iconst 0, .istore 5, .iconst 0, .istore 6]),
  (15, [.iload 6, .iload 3, .if_icmp .ge 5]),
  (21, [.aload 0, .getfield 69, .aload 0, .iload 4, .iload 4, .iconst 1, .iadd, .iload 6, .invokevirtual 30, .iaload, .aload 0, .getfield 69, .iconst 0, .iaload, .if_icmp .ne 4]),
  (47, [.iload 5, .iconst 1, .iload 6, .ishl, .ior, .istore 5]),
  (56, [.iinc 6 1, .goto 1]),
  (62, [.iload 5, .ireturn])]
def md_Hall_shieldBits : pm_M := ((⟨"QuestionDesk$Hall", "shieldBits", "(III)I"⟩, prog_3_method_22_code, 7, some .int), (3, 1), cd_Hall_shieldBits)
def cd_Hall_seatOthers : List (Nat × List Instr) := [(0, [.aload 0, .iload 1, .putfield 64, .aload 0, .iload 3, .putfield 65, .aload 0, .iconst 0, .putfield 66, .iconst 0, .istore 4]),
  (18, [.iload 4, .aload 0, .getfield 64, .if_icmp .ge 3]),
  (27, [.aload 0, .getfield 67, .iload 4, .aaload, .iload 4, .iload 2, .iconst 1, .iconst 0, .invokevirtual 43, .iinc 4 1, .goto 1]),
  (48, [.return_])]
def md_Hall_seatOthers : pm_M := ((⟨"QuestionDesk$Hall", "seatOthers", "(III)V"⟩, prog_3_method_3_code, 5, none), (3, 1), cd_Hall_seatOthers)
def cd_Laws_init : List (Nat × List Instr) := [(0, [.aload 0, .monitorenter, .aload 0, .iconst 216, .newarray .int, .putfield 131, .aload 0, .aload 1, .putfield 128, .return_])]
def md_Laws_init : pm_M := ((⟨"QuestionDesk$Laws", "<init>", "(LQuestionDesk$Hall;)V"⟩, prog_4_method_1_code, 2, none), (1, 2), cd_Laws_init)
def cd_Laws_assemble : List (Nat × List Instr) := [(0, [.aload 0, .iload 1, .putfield 129, .aload 0, .getfield 128, .iload 1, .iload 2, .iload 3, .invokevirtual 32, .aload 0, .iconst 1, .putfield 130, .iconst 0, .istore 4]),
  (23, [.iload 4, .aload 0, .getfield 129, .if_icmp .ge 3]),
  (32, [.aload 0, .dup, .getfield 130, .iconst 6, .imul, .putfield 130, .iinc 4 1, .goto 1]),
  (49, [.return_])]
def md_Laws_assemble : pm_M := ((⟨"QuestionDesk$Laws", "assemble", "(III)V"⟩, prog_4_method_2_code, 5, none), (3, 2), cd_Laws_assemble)
def cd_Laws_reckonEnds : List (Nat × List Instr) := [(0, [.iconst 0, .istore 2]),
  (2, [.iload 2, .aload 0, .getfield 130, .if_icmp .ge 3]),
  (10, [.aload 0, .iload 2, .invokevirtual 36, .aload 0, .getfield 131, .iload 2, .aload 0, .getfield 128, .aload 1, .invokevirtual 13, .iastore, .iinc 2 1, .goto 1]),
  (35, [.return_])]
def md_Laws_reckonEnds : pm_M := ((⟨"QuestionDesk$Laws", "reckonEnds", "(LQuestionDesk$Tree;)V"⟩, prog_4_method_3_code, 3, none), (1, 2), cd_Laws_reckonEnds)
def cd_Laws_like : List (Nat × List Instr) := [(0, [.iload 1, .istore 2, .aload 0, .getfield 129, .iconst 1, .isub, .istore 3]),
  (9, [.iload 3, .ifCond .lt 3]),
  (13, [.getstatic 2, .iload 2, .iconst 6, .irem, .iconst 3, .imul, .aload 0, .getfield 128, .getfield 67, .iload 3, .aaload, .getfield 198, .iconst 0, .iconst 3, .swap, .iload 2, .iconst 6, .idiv, .istore 2, .iinc 3 (-1), .goto 1]),
  (50, [.return_])]
def md_Laws_like : pm_M := ((⟨"QuestionDesk$Laws", "like", "(I)V"⟩, prog_4_method_9_code, 4, none), (1, 2), cd_Laws_like)
def cd_Laws_firstBreach : List (Nat × List Instr) := [(0, [.iconst 0, .istore 2]),
  (2, [.iload 2, .aload 0, .getfield 130, .if_icmp .ge 8]),
  (10, [.iload 1, .ifCond .ne 4]),
  (14, [.aload 0, .iload 2, .invokevirtual 38, .goto 5]),
  (22, [.aload 0, .iload 1, .iload 2, .invokevirtual 39]),
  (28, [.istore 3, .iload 3, .ifCond .eq 7]),
  (33, [.iload 2, .ireturn]),
  (35, [.iinc 2 1, .goto 1]),
  (41, [.iconst (-4), .ireturn])]
def md_Laws_firstBreach : pm_M := ((⟨"QuestionDesk$Laws", "firstBreach", "(I)I"⟩, prog_4_method_4_code, 4, some .int), (1, 2), cd_Laws_firstBreach)
def cd_Laws_missesBest : List (Nat × List Instr) := [(0, [.aload 0, .iload 1, .invokevirtual 36, .iconst 0, .istore 2]),
  (7, [.iload 2, .iconst 3, .if_icmp .ge 9]),
  (12, [.aload 0, .getfield 128, .iload 2, .iload 2, .iconst 1, .iadd, .iconst 3, .irem, .invokevirtual 22, .ifCond .eq 8]),
  (28, [.aload 0, .getfield 128, .iload 2, .iload 2, .iconst 2, .iadd, .iconst 3, .irem, .invokevirtual 22, .ifCond .eq 8]),
  (44, [.aload 0, .getfield 131, .iload 1, .iaload, .iload 2, .if_icmp .eq 6]),
  (54, [.iconst 1, .goto 7]),
  (58, [.iconst 0]),
  (59, [.ireturn]),
  (60, [.iinc 2 1, .goto 1]),
  (66, [.iconst 0, .ireturn])]
def md_Laws_missesBest : pm_M := ((⟨"QuestionDesk$Laws", "missesBest", "(I)Z"⟩, prog_4_method_5_code, 3, some .boolean), (1, 2), cd_Laws_missesBest)
def cd_Laws_isBrokenByOne : List (Nat × List Instr) := [(0, [.iconst 1, .istore 3, .aload 0, .getfield 129, .iconst 1, .isub, .istore 4]),
  (10, [.iload 4, .ifCond .lt 8]),
  (15, [.iload 2, .iload 3, .idiv, .iconst 6, .irem, .istore 5, .iload 2, .iload 5, .iload 3, .imul, .isub, .istore 6, .iload 1, .iconst 1, .if_icmp .ne 5]),
  (36, [.aload 0, .iload 6, .iload 3, .iload 5, .invokevirtual 40, .ifCond .eq 7]),
  (48, [.goto 6]),
  (51, [.aload 0, .iload 6, .iload 3, .iload 5, .invokevirtual 41, .ifCond .eq 7]),
  (63, [.iconst 1, .ireturn]),
  (65, [.iload 3, .iconst 6, .imul, .istore 3, .iinc 4 (-1), .goto 1]),
  (76, [.iconst 0, .ireturn])]
def md_Laws_isBrokenByOne : pm_M := ((⟨"QuestionDesk$Laws", "isBrokenByOne", "(II)Z"⟩, prog_4_method_6_code, 7, some .boolean), (2, 2), cd_Laws_isBrokenByOne)
def cd_Laws_fallsWhenLifted : List (Nat × List Instr) := [(0, [.aload 0, .getfield 131, .iload 1, .iload 3, .iload 2, .imul, .iadd, .iaload, .istore 4, .getstatic 2, .iload 3, .iconst 3, .imul, .iload 4, .iadd, .iaload, .istore 5, .iload 5, .ifCond .ne 2]),
  (29, [.iconst 0, .ireturn]),
  (31, [.iload 5, .iconst 1, .if_icmp .ne 4]),
  (37, [.getstatic 3, .iload 3, .iaload, .goto 5]),
  (45, [.getstatic 4, .iload 3, .iaload]),
  (50, [.istore 6, .aload 0, .getfield 131, .iload 1, .iload 6, .iload 2, .imul, .iadd, .iaload, .iload 4, .if_icmp .eq 7]),
  (68, [.iconst 1, .goto 8]),
  (72, [.iconst 0]),
  (73, [.ireturn])]
def md_Laws_fallsWhenLifted : pm_M := ((⟨"QuestionDesk$Laws", "fallsWhenLifted", "(III)Z"⟩, prog_4_method_7_code, 7, some .boolean), (3, 2), cd_Laws_fallsWhenLifted)
def cd_Laws_gainsByLying : List (Nat × List Instr) := [(0, [.iload 3, .iconst 3, .imul, .istore 4, .getstatic 2, .iload 4, .aload 0, .getfield 131, .iload 1, .iload 3, .iload 2, .imul, .iadd, .iaload, .iadd, .iaload, .istore 5, .iconst 0, .istore 6]),
  (27, [.iload 6, .iconst 6, .if_icmp .ge 5]),
  (34, [.getstatic 2, .iload 4, .aload 0, .getfield 131, .iload 1, .iload 6, .iload 2, .imul, .iadd, .iaload, .iadd, .iaload, .iload 5, .if_icmp .ge 4]),
  (57, [.iconst 1, .ireturn]),
  (59, [.iinc 6 1, .goto 1]),
  (65, [.iconst 0, .ireturn])]
def md_Laws_gainsByLying : pm_M := ((⟨"QuestionDesk$Laws", "gainsByLying", "(III)Z"⟩, prog_4_method_8_code, 7, some .boolean), (3, 2), cd_Laws_gainsByLying)
def cd_Member_init : List (Nat × List Instr) := [(0, [.aload 0, .monitorenter, .aload 0, .iconst 7, .newarray .int, .putfield 198, .aload 0, .iconst 7, .newarray .int, .putfield 199, .return_])]
def md_Member_init : pm_M := ((⟨"QuestionDesk$Member", "<init>", "()V"⟩, prog_5_method_1_code, 1, none), (0, 3), cd_Member_init)
def cd_Member_begin : List (Nat × List Instr) := [(0, [.aload 0, .iload 1, .putfield 192, .aload 0, .iload 2, .putfield 193, .aload 0, .iload 3, .putfield 194, .aload 0, .iload 4, .putfield 195, .aload 0, .iconst 0, .putfield 196, .aload 0, .iconst 0, .putfield 197, .aload 0, .getfield 198, .iconst 5, .invokestatic 2, .aload 0, .getfield 199, .iconst 5, .invokestatic 2, .return_])]
def md_Member_begin : pm_M := ((⟨"QuestionDesk$Member", "begin", "(IIII)V"⟩, prog_5_method_2_code, 5, none), (4, 3), cd_Member_begin)
def cd_Member_weight : List (Nat × List Instr) := [(0, [.aload 0, .getfield 193, .tableswitch 6 1 5 #[1, 2, 3, 4, 5]]),
  (40, [.aload 0, .getfield 194, .iconst 1, .iadd, .ireturn]),
  (47, [.aload 0, .getfield 194, .iconst 1, .iadd, .aload 0, .getfield 195, .iadd, .ireturn]),
  (59, [.iconst 2, .aload 0, .getfield 194, .imul, .ireturn]),
  (66, [.iconst 2, .aload 0, .getfield 194, .imul, .iconst 1, .isub, .ireturn]),
  (75, [.aload 0, .getfield 194, .iconst 2, .idiv, .ireturn]),
  (82, [.aload 0, .getfield 194, .ireturn])]
def md_Member_weight : pm_M := ((⟨"QuestionDesk$Member", "weight", "()I"⟩, prog_5_method_5_code, 1, some .int), (0, 3), cd_Member_weight)
def cd_Member_takeOver : List (Nat × List Instr) := [(0, [.aload 0, .aload 1, .getfield 192, .putfield 192, .aload 0, .aload 1, .getfield 193, .putfield 193, .aload 0, .aload 1, .getfield 194, .putfield 194, .aload 0, .aload 1, .getfield 195, .putfield 195, .aload 0, .aload 1, .getfield 196, .putfield 196, .aload 0, .aload 1, .getfield 197, .putfield 197, .aload 0, .aload 1, .getfield 198, .invokevirtual 46, .aload 1, .getfield 199, .iconst 0, .aload 0, .getfield 199, .iconst 0, .iconst 7, .swap, .return_])]
def md_Member_takeOver : pm_M := ((⟨"QuestionDesk$Member", "takeOver", "(LQuestionDesk$Member;)V"⟩, prog_5_method_3_code, 2, none), (1, 3), cd_Member_takeOver)
def cd_Member_tellWishes : List (Nat × List Instr) := [(0, [.aload 1, .iconst 0, .aload 0, .getfield 198, .iconst 0, .iconst 7, .swap, .return_])]
def md_Member_tellWishes : pm_M := ((⟨"QuestionDesk$Member", "tellWishes", "([I)V"⟩, prog_5_method_4_code, 2, none), (1, 3), cd_Member_tellWishes)
def cd_Member_ofParty : List (Nat × List Instr) := [(0, [.aload 0, .getfield 193, .iconst 3, .if_icmp .eq 2]),
  (8, [.aload 0, .getfield 193, .iconst 4, .if_icmp .ne 3]),
  (16, [.iconst 1, .goto 4]),
  (20, [.iconst 0]),
  (21, [.ireturn])]
def md_Member_ofParty : pm_M := ((⟨"QuestionDesk$Member", "ofParty", "()Z"⟩, prog_5_method_7_code, 1, some .boolean), (0, 3), cd_Member_ofParty)
def cd_Member_leaning : List (Nat × List Instr) := [(0, [.aload 0, .getfield 198, .iload 1, .iaload, .aload 0, .getfield 198, .iload 2, .iaload, .if_icmp .ne 2]),
  (15, [.iconst 0, .ireturn]),
  (17, [.aload 0, .getfield 198, .iload 1, .iaload, .aload 0, .getfield 198, .iload 2, .iaload, .if_icmp .ge 4]),
  (32, [.iconst 1, .goto 5]),
  (36, [.iconst (-1)]),
  (37, [.ireturn])]
def md_Member_leaning : pm_M := ((⟨"QuestionDesk$Member", "leaning", "(II)I"⟩, prog_5_method_6_code, 3, some .int), (2, 3), cd_Member_leaning)
def cd_Orders_init : List (Nat × List Instr) := [(0, [.aload 0, .monitorenter, .aload 0, .iconst 7, .newarray .int, .putfield 258, .aload 0, .iconst 7, .newarray .int, .putfield 259, .aload 0, .iconst 128, .newarray .int, .putfield 260, .return_])]
def md_Orders_init : pm_M := ((⟨"QuestionDesk$Orders", "<init>", "()V"⟩, prog_6_method_1_code, 1, none), (0, 4), cd_Orders_init)
def cd_Orders_weigh : List (Nat × List Instr) := [(0, [.aload 0, .iload 2, .putfield 256, .aload 0, .iconst 1, .aload 0, .getfield 256, .ishl, .iconst 1, .isub, .putfield 257, .aload 0, .getfield 258, .iconst 0, .invokestatic 2, .iconst 0, .istore 3]),
  (27, [.iload 3, .aload 0, .getfield 256, .if_icmp .ge 6]),
  (35, [.iload 3, .iconst 1, .iadd, .istore 4]),
  (40, [.iload 4, .aload 0, .getfield 256, .if_icmp .ge 5]),
  (49, [.aload 1, .iload 3, .iload 4, .invokevirtual 20, .istore 5, .iload 3, .iload 4, .iadd, .iload 5, .isub, .istore 6, .aload 0, .getfield 258, .iload 5, .dup2, .iaload, .iconst 1, .iload 6, .ishl, .ior, .iastore, .iinc 4 1, .goto 3]),
  (87, [.iinc 3 1, .goto 1]),
  (93, [.return_])]
def md_Orders_weigh : pm_M := ((⟨"QuestionDesk$Orders", "weigh", "(LQuestionDesk$Hall;I)V"⟩, prog_6_method_2_code, 7, none), (2, 4), cd_Orders_weigh)
def cd_Orders_lineUp : List (Nat × List Instr) := [(0, [.iload 2, .iconst 2, .if_icmp .lt 2]),
  (5, [.iload 2, .aload 0, .getfield 256, .if_icmp .le 3]),
  (13, [.iconst 0, .ireturn]),
  (15, [.iconst 0, .istore 3, .iconst 0, .istore 4]),
  (20, [.iload 4, .iload 2, .if_icmp .ge 9]),
  (26, [.aload 1, .iload 4, .iaload, .iconst 0, .aload 0, .getfield 256, .iconst 1, .isub, .invokestatic 111, .ifCond .eq 7]),
  (43, [.iload 3, .aload 1, .iload 4, .iaload, .ishr, .iconst 1, .iand, .iconst 1, .if_icmp .ne 8]),
  (55, [.iconst 0, .ireturn]),
  (57, [.iload 3, .iconst 1, .aload 1, .iload 4, .iaload, .ishl, .ior, .istore 3, .aload 0, .getfield 259, .iload 4, .aload 1, .iload 4, .iaload, .iastore, .iinc 4 1, .goto 4]),
  (83, [.iconst 1, .ireturn])]
def md_Orders_lineUp : pm_M := ((⟨"QuestionDesk$Orders", "lineUp", "([II)Z"⟩, prog_6_method_7_code, 5, some .boolean), (2, 4), cd_Orders_lineUp)
def cd_Orders_comesOf : List (Nat × List Instr) := [(0, [.iload 2, .ifCond .eq 2]),
  (4, [.aload 0, .iload 1, .invokevirtual 53, .goto 3]),
  (12, [.aload 0, .iload 1, .invokevirtual 54]),
  (17, [.ireturn])]
def md_Orders_comesOf : pm_M := ((⟨"QuestionDesk$Orders", "comesOf", "(IZ)I"⟩, prog_6_method_8_code, 3, some .int), (2, 4), cd_Orders_comesOf)
def cd_Orders_comesDeep : List (Nat × List Instr) := [(0, [.aload 0, .getfield 259, .iload 1, .iconst 1, .isub, .iaload, .istore 2, .iconst 1, .iload 2, .ishl, .istore 3, .iload 1, .iconst 2, .isub, .istore 4]),
  (18, [.iload 4, .ifCond .lt 5]),
  (23, [.aload 0, .getfield 258, .aload 0, .getfield 259, .iload 4, .iaload, .iaload, .iload 3, .iand, .iload 3, .if_icmp .ne 4]),
  (41, [.aload 0, .getfield 259, .iload 4, .iaload, .istore 2, .iload 3, .iconst 1, .iload 2, .ishl, .ior, .istore 3]),
  (55, [.iinc 4 (-1), .goto 1]),
  (61, [.iload 2, .ireturn])]
def md_Orders_comesDeep : pm_M := ((⟨"QuestionDesk$Orders", "comesDeep", "(I)I"⟩, prog_6_method_10_code, 5, some .int), (1, 4), cd_Orders_comesDeep)
def cd_Orders_comesPlain : List (Nat × List Instr) := [(0, [.aload 0, .getfield 259, .iconst 0, .iaload, .istore 2, .iconst 1, .istore 3]),
  (9, [.iload 3, .iload 1, .if_icmp .ge 5]),
  (14, [.aload 0, .getfield 258, .aload 0, .getfield 259, .iload 3, .iaload, .iaload, .iload 2, .ishr, .iconst 1, .iand, .iconst 1, .if_icmp .ne 4]),
  (33, [.aload 0, .getfield 259, .iload 3, .iaload, .istore 2]),
  (40, [.iinc 3 1, .goto 1]),
  (46, [.iload 2, .ireturn])]
def md_Orders_comesPlain : pm_M := ((⟨"QuestionDesk$Orders", "comesPlain", "(I)I"⟩, prog_6_method_9_code, 4, some .int), (1, 4), cd_Orders_comesPlain)
def cd_Orders_reachBits : List (Nat × List Instr) := [(0, [.iload 1, .ifCond .eq 2]),
  (4, [.aload 0, .invokevirtual 56, .goto 3]),
  (11, [.aload 0, .invokevirtual 59]),
  (15, [.ireturn])]
def md_Orders_reachBits : pm_M := ((⟨"QuestionDesk$Orders", "reachBits", "(Z)I"⟩, prog_6_method_11_code, 2, some .int), (1, 4), cd_Orders_reachBits)
def cd_Orders_peakBits : List (Nat × List Instr) := [(0, [.iconst 0, .istore 1, .iconst 1, .istore 2]),
  (4, [.iload 2, .aload 0, .getfield 257, .if_icmp .gt 6]),
  (12, [.aload 0, .getfield 260, .iload 2, .aload 0, .iload 2, .invokevirtual 57, .iastore, .aload 0, .getfield 260, .iload 2, .iaload, .iconst (-4), .if_icmp .eq 5]),
  (34, [.aload 0, .iload 2, .invokevirtual 58, .ifCond .ne 5]),
  (42, [.iload 1, .iconst 1, .aload 0, .getfield 260, .iload 2, .iaload, .ishl, .ior, .istore 1]),
  (53, [.iinc 2 1, .goto 1]),
  (59, [.iload 1, .ireturn])]
def md_Orders_peakBits : pm_M := ((⟨"QuestionDesk$Orders", "peakBits", "()I"⟩, prog_6_method_12_code, 3, some .int), (0, 4), cd_Orders_peakBits)
def cd_Orders_peakOf : List (Nat × List Instr) := [(0, [.iconst 0, .istore 2]),
  (2, [.iload 2, .aload 0, .getfield 256, .if_icmp .ge 8]),
  (10, [.iload 1, .iconst 1, .iload 2, .ishl, .iconst (-1), .ixor, .iand, .istore 3, .iload 3, .iload 1, .if_icmp .eq 7]),
  (23, [.aload 0, .getfield 258, .iload 2, .iaload, .iload 3, .iand, .iload 3, .if_icmp .ne 7]),
  (35, [.iload 3, .ifCond .eq 6]),
  (39, [.aload 0, .getfield 260, .iload 3, .iaload, .iconst (-4), .if_icmp .eq 7]),
  (50, [.iload 2, .ireturn]),
  (52, [.iinc 2 1, .goto 1]),
  (58, [.iconst (-4), .ireturn])]
def md_Orders_peakOf : pm_M := ((⟨"QuestionDesk$Orders", "peakOf", "(I)I"⟩, prog_6_method_13_code, 4, some .int), (1, 4), cd_Orders_peakOf)
def cd_Orders_isBeatenWhole : List (Nat × List Instr) := [(0, [.iconst 0, .istore 2]),
  (2, [.iload 2, .aload 0, .getfield 256, .if_icmp .ge 5]),
  (10, [.aload 0, .getfield 258, .iload 2, .iaload, .iload 1, .iand, .iload 1, .if_icmp .ne 4]),
  (22, [.iconst 1, .ireturn]),
  (24, [.iinc 2 1, .goto 1]),
  (30, [.iconst 0, .ireturn])]
def md_Orders_isBeatenWhole : pm_M := ((⟨"QuestionDesk$Orders", "isBeatenWhole", "(I)Z"⟩, prog_6_method_14_code, 3, some .boolean), (1, 4), cd_Orders_isBeatenWhole)
def cd_Orders_topBits : List (Nat × List Instr) := [(0, [.iconst 0, .istore 1, .iconst 0, .istore 2]),
  (4, [.iload 2, .aload 0, .getfield 256, .if_icmp .ge 5]),
  (12, [.aload 0, .iload 2, .invokevirtual 60, .aload 0, .getfield 257, .if_icmp .ne 4]),
  (24, [.iload 1, .iconst 1, .iload 2, .ishl, .ior, .istore 1]),
  (30, [.iinc 2 1, .goto 1]),
  (36, [.iload 1, .ireturn])]
def md_Orders_topBits : pm_M := ((⟨"QuestionDesk$Orders", "topBits", "()I"⟩, prog_6_method_17_code, 3, some .int), (0, 4), cd_Orders_topBits)
def cd_Orders_reachedFrom : List (Nat × List Instr) := [(0, [.iconst 1, .iload 1, .ishl, .istore 2, .iconst 0, .istore 3]),
  (6, [.iload 3, .aload 0, .getfield 256, .if_icmp .ge 8]),
  (14, [.iconst 0, .istore 4]),
  (17, [.iload 4, .aload 0, .getfield 256, .if_icmp .ge 7]),
  (26, [.iload 2, .iload 4, .ishr, .iconst 1, .iand, .iconst 1, .if_icmp .ne 6]),
  (36, [.iload 2, .aload 0, .getfield 258, .iload 4, .iaload, .ior, .istore 2]),
  (46, [.iinc 4 1, .goto 3]),
  (52, [.iinc 3 1, .goto 1]),
  (58, [.iload 2, .ireturn])]
def md_Orders_reachedFrom : pm_M := ((⟨"QuestionDesk$Orders", "reachedFrom", "(I)I"⟩, prog_6_method_18_code, 5, some .int), (1, 4), cd_Orders_reachedFrom)
def cd_Orders_firstFor : List (Nat × List Instr) := [(0, [.aload 0, .iload 2, .invokevirtual 55, .iload 1, .ishr, .iconst 1, .iand, .ifCond .ne 2]),
  (12, [.iconst (-4), .ireturn]),
  (15, [.aload 0, .getfield 257, .aload 0, .getfield 259, .invokestatic 62, .istore 3, .iconst 0, .istore 4]),
  (30, [.iload 4, .iconst 5040, .if_icmp .ge 9]),
  (38, [.aload 0, .iload 3, .iload 2, .invokevirtual 52, .iload 1, .if_icmp .ne 6]),
  (48, [.aload 0, .getfield 259, .iload 3, .invokestatic 63, .ireturn]),
  (57, [.aload 0, .getfield 259, .iconst 0, .iload 3, .invokestatic 64, .ifCond .ne 8]),
  (69, [.iconst (-4), .ireturn]),
  (72, [.iinc 4 1, .goto 3]),
  (78, [.iconst (-4), .ireturn])]
def md_Orders_firstFor : pm_M := ((⟨"QuestionDesk$Orders", "firstFor", "(IZ)I"⟩, prog_6_method_15_code, 5, some .int), (2, 4), cd_Orders_firstFor)
def cd_Orders_spread : List (Nat × List Instr) := [(0, [.iconst 0, .istore 2, .iconst 0, .istore 3]),
  (4, [.iload 3, .iconst 7, .if_icmp .ge 5]),
  (10, [.iload 0, .iload 3, .ishr, .iconst 1, .iand, .iconst 1, .if_icmp .ne 4]),
  (19, [.aload 1, .iload 2, .iload 3, .iastore, .iinc 2 1]),
  (26, [.iinc 3 1, .goto 1]),
  (32, [.iload 2, .ireturn])]
def md_Orders_spread : pm_M := ((⟨"QuestionDesk$Orders", "spread", "(I[I)I"⟩, prog_6_method_5_code, 4, some .int), (2, 99), cd_Orders_spread)
def cd_Orders_digits : List (Nat × List Instr) := [(0, [.iconst 0, .istore 2, .iload 1, .iconst 1, .isub, .istore 3]),
  (6, [.iload 3, .ifCond .lt 3]),
  (10, [.iload 2, .iconst 8, .imul, .aload 0, .iload 3, .iaload, .iadd, .istore 2, .iinc 3 (-1), .goto 1]),
  (25, [.iload 2, .ireturn])]
def md_Orders_digits : pm_M := ((⟨"QuestionDesk$Orders", "digits", "([II)I"⟩, prog_6_method_6_code, 4, some .int), (2, 99), cd_Orders_digits)
def cd_Orders_nextRow : List (Nat × List Instr) := [(0, [.iload 2, .iconst 2, .isub, .istore 3]),
  (4, [.iload 3, .iload 1, .if_icmp .lt 4]),
  (9, [.aload 0, .iload 3, .iaload, .aload 0, .iload 3, .iconst 1, .iadd, .iaload, .if_icmp .le 4]),
  (20, [.iinc 3 (-1), .goto 1]),
  (26, [.iload 3, .iload 1, .if_icmp .ge 6]),
  (31, [.iconst 0, .ireturn]),
  (33, [.iload 2, .iconst 1, .isub, .istore 4]),
  (38, [.iload 4, .iload 3, .iconst 1, .iadd, .if_icmp .le 10]),
  (46, [.aload 0, .iload 4, .iaload, .aload 0, .iload 3, .iaload, .if_icmp .ge 10]),
  (56, [.iinc 4 (-1), .goto 7]),
  (62, [.aload 0, .iload 3, .iload 4, .invokestatic 65, .iload 3, .iconst 1, .iadd, .istore 5, .iload 2, .iconst 1, .isub, .istore 6]),
  (79, [.iload 5, .iload 6, .if_icmp .ge 13]),
  (86, [.aload 0, .iload 5, .iload 6, .invokestatic 65, .iinc 5 1, .iinc 6 (-1), .goto 11]),
  (103, [.iconst 1, .ireturn])]
def md_Orders_nextRow : pm_M := ((⟨"QuestionDesk$Orders", "nextRow", "([III)Z"⟩, prog_6_method_3_code, 7, some .boolean), (3, 99), cd_Orders_nextRow)
def cd_Orders_change : List (Nat × List Instr) := [(0, [.aload 0, .iload 1, .iaload, .istore 3, .aload 0, .iload 1, .aload 0, .iload 2, .iaload, .iastore, .aload 0, .iload 2, .iload 3, .iastore, .return_])]
def md_Orders_change : pm_M := ((⟨"QuestionDesk$Orders", "change", "([III)V"⟩, prog_6_method_4_code, 4, none), (3, 99), cd_Orders_change)
def cd_Orders_beatsAll : List (Nat × List Instr) := [(0, [.iconst 0, .istore 1]),
  (2, [.iload 1, .aload 0, .getfield 256, .if_icmp .ge 5]),
  (10, [.aload 0, .getfield 258, .iload 1, .iaload, .iconst 1, .iload 1, .ishl, .ior, .aload 0, .getfield 257, .if_icmp .ne 4]),
  (27, [.iload 1, .ireturn]),
  (29, [.iinc 1 1, .goto 1]),
  (35, [.iconst (-4), .ireturn])]
def md_Orders_beatsAll : pm_M := ((⟨"QuestionDesk$Orders", "beatsAll", "()I"⟩, prog_6_method_16_code, 2, some .int), (0, 4), cd_Orders_beatsAll)
def cd_Orders_uncoveredBits : List (Nat × List Instr) := [(0, [.iconst 0, .istore 1, .iconst 0, .istore 2]),
  (4, [.iload 2, .aload 0, .getfield 256, .if_icmp .ge 5]),
  (12, [.aload 0, .aload 0, .getfield 258, .iload 2, .iaload, .iconst 1, .iload 2, .ishl, .ior, .invokevirtual 58, .ifCond .ne 4]),
  (29, [.iload 1, .iconst 1, .iload 2, .ishl, .ior, .istore 1]),
  (35, [.iinc 2 1, .goto 1]),
  (41, [.iload 1, .ireturn])]
def md_Orders_uncoveredBits : pm_M := ((⟨"QuestionDesk$Orders", "uncoveredBits", "()I"⟩, prog_6_method_19_code, 3, some .int), (0, 4), cd_Orders_uncoveredBits)
def cd_Orders_ringAt : List (Nat × List Instr) := [(0, [.aload 0, .invokevirtual 59, .aload 0, .getfield 259, .invokestatic 62, .istore 2, .iload 2, .iconst 3, .if_icmp .lt 2]),
  (17, [.iload 1, .iload 2, .if_icmp .lt 3]),
  (22, [.iconst (-4), .ireturn]),
  (25, [.iconst 0, .istore 3]),
  (27, [.iload 3, .iconst 5040, .if_icmp .ge 10]),
  (34, [.aload 0, .iload 2, .invokevirtual 69, .ifCond .eq 7]),
  (42, [.aload 0, .getfield 259, .iload 1, .iaload, .ireturn]),
  (49, [.aload 0, .getfield 259, .iconst 1, .iload 2, .invokestatic 64, .ifCond .ne 9]),
  (61, [.iconst (-4), .ireturn]),
  (64, [.iinc 3 1, .goto 4]),
  (70, [.iconst (-4), .ireturn])]
def md_Orders_ringAt : pm_M := ((⟨"QuestionDesk$Orders", "ringAt", "(I)I"⟩, prog_6_method_20_code, 4, some .int), (1, 4), cd_Orders_ringAt)
def cd_Orders_isRing : List (Nat × List Instr) := [(0, [.iconst 0, .istore 2]),
  (2, [.iload 2, .iload 1, .if_icmp .ge 8]),
  (7, [.iload 2, .iconst 1, .iadd, .iload 1, .if_icmp .ge 4]),
  (14, [.aload 0, .getfield 259, .iload 2, .iconst 1, .iadd, .iaload, .goto 5]),
  (25, [.aload 0, .getfield 259, .iconst 0, .iaload]),
  (31, [.istore 3, .aload 0, .getfield 258, .aload 0, .getfield 259, .iload 2, .iaload, .iaload, .iload 3, .ishr, .iconst 1, .iand, .ifCond .ne 7]),
  (50, [.iconst 0, .ireturn]),
  (52, [.iinc 2 1, .goto 1]),
  (58, [.iconst 1, .ireturn])]
def md_Orders_isRing : pm_M := ((⟨"QuestionDesk$Orders", "isRing", "(I)Z"⟩, prog_6_method_21_code, 4, some .boolean), (1, 4), cd_Orders_isRing)
def cd_Orders_byRanks : List (Nat × List Instr) := [(0, [.iconst 1, .iload 2, .ishl, .iconst 1, .isub, .istore 3, .iconst 0, .istore 4]),
  (9, [.iload 4, .iload 2, .if_icmp .ge 3]),
  (15, [.aload 0, .getfield 259, .iload 4, .iload 3, .aload 1, .iload 2, .invokestatic 71, .iastore, .iload 3, .iconst 1, .aload 0, .getfield 259, .iload 4, .iaload, .ishl, .iconst (-1), .ixor, .iand, .istore 3, .iinc 4 1, .goto 1]),
  (48, [.aload 0, .getfield 259, .iload 2, .invokestatic 63, .ireturn])]
def md_Orders_byRanks : pm_M := ((⟨"QuestionDesk$Orders", "byRanks", "([II)I"⟩, prog_6_method_22_code, 5, some .int), (2, 4), cd_Orders_byRanks)
def cd_Orders_greatestOf : List (Nat × List Instr) := [(0, [.iconst 0, .istore 3, .iconst 0, .istore 4, .iconst 0, .istore 5]),
  (8, [.iload 5, .iload 2, .if_icmp .ge 7]),
  (14, [.iload 0, .iload 5, .ishr, .iconst 1, .iand, .iconst 1, .if_icmp .ne 6]),
  (24, [.iload 4, .ifCond .eq 5]),
  (29, [.aload 1, .iload 5, .iaload, .aload 1, .iload 3, .iaload, .if_icmp .le 6]),
  (39, [.iload 5, .istore 3, .iconst 1, .istore 4]),
  (45, [.iinc 5 1, .goto 1]),
  (51, [.iload 3, .ireturn])]
def md_Orders_greatestOf : pm_M := ((⟨"QuestionDesk$Orders", "greatestOf", "(I[II)I"⟩, prog_6_method_23_code, 6, some .int), (3, 99), cd_Orders_greatestOf)
def cd_Plots_init : List (Nat × List Instr) := [(0, [.aload 0, .monitorenter, .aload 0, .iconst 6, .newarray .int, .putfield 322, .aload 0, .iconst 7, .newarray .int, .putfield 323, .aload 0, .iconst 7, .newarray .int, .putfield 324, .aload 0, .iconst 7, .newarray .int, .putfield 325, .aload 0, .iconst 7, .newarray .int, .putfield 326, .aload 0, .aload 1, .putfield 320, .aload 0, .aload 2, .putfield 321, .return_])]
def md_Plots_init : pm_M := ((⟨"QuestionDesk$Plots", "<init>", "(LQuestionDesk$Chamber;LQuestionDesk$Hall;)V"⟩, prog_7_method_1_code, 3, none), (2, 5), cd_Plots_init)
def cd_Plots_plainOnes : List (Nat × List Instr) := [(0, [.iconst 0, .istore 1, .iconst 0, .istore 2]),
  (4, [.iload 2, .aload 0, .getfield 320, .getfield 2, .if_icmp .ge 5]),
  (15, [.aload 0, .getfield 320, .getfield 4, .iload 2, .aaload, .getfield 193, .ifCond .ne 4]),
  (30, [.iload 1, .iconst 1, .iload 2, .ishl, .ior, .istore 1]),
  (36, [.iinc 2 1, .goto 1]),
  (42, [.iload 1, .ireturn])]
def md_Plots_plainOnes : pm_M := ((⟨"QuestionDesk$Plots", "plainOnes", "()I"⟩, prog_7_method_2_code, 3, some .int), (0, 5), cd_Plots_plainOnes)
def cd_Plots_fewestOf : List (Nat × List Instr) := [(0, [.aload 0, .getfield 321, .aload 0, .getfield 320, .invokevirtual 12, .iload 1, .invokestatic 1, .istore 5, .iconst 0, .istore 6]),
  (20, [.iload 6, .iload 5, .if_icmp .gt 10]),
  (27, [.iconst 0, .istore 7]),
  (30, [.iload 7, .iload 1, .if_icmp .gt 9]),
  (36, [.iload 7, .iload 1, .iconst (-1), .ixor, .iand, .ifCond .ne 8]),
  (45, [.iload 7, .invokestatic 1, .iload 6, .if_icmp .ne 8]),
  (55, [.aload 0, .iload 7, .iload 2, .iload 4, .invokevirtual 75, .aload 0, .getfield 321, .aload 3, .invokevirtual 13, .iload 4, .if_icmp .ne 8]),
  (77, [.iload 7, .ireturn]),
  (80, [.iinc 7 1, .goto 3]),
  (86, [.iinc 6 1, .goto 1]),
  (92, [.iconst (-4), .ireturn])]
def md_Plots_fewestOf : pm_M := ((⟨"QuestionDesk$Plots", "fewestOf", "(IILQuestionDesk$Tree;I)I"⟩, prog_7_method_4_code, 8, some .int), (4, 5), cd_Plots_fewestOf)
def cd_Plots_makeOfKind : List (Nat × List Instr) := [(0, [.iconst 0, .istore 4]),
  (3, [.iload 4, .aload 0, .getfield 320, .getfield 2, .if_icmp .ge 15]),
  (15, [.aload 0, .getfield 320, .getfield 4, .iload 4, .aaload, .astore 5, .aload 0, .getfield 321, .getfield 67, .iload 4, .aaload, .astore 6, .iload 1, .iload 4, .ishr, .iconst 1, .iand, .iconst 1, .if_icmp .ne 4]),
  (49, [.iconst 1, .goto 5]),
  (53, [.iconst 0]),
  (54, [.istore 7, .aload 6, .iload 7, .ifCond .eq 7]),
  (63, [.iload 2, .goto 8]),
  (67, [.aload 5, .getfield 193]),
  (72, [.putfield 193, .aload 6, .iload 7, .ifCond .eq 10]),
  (82, [.iconst 0, .goto 11]),
  (86, [.aload 5, .getfield 195]),
  (91, [.putfield 195, .aload 6, .iload 7, .ifCond .eq 13]),
  (101, [.iload 3, .goto 14]),
  (105, [.aload 5, .getfield 196]),
  (110, [.putfield 196, .iinc 4 1, .goto 1]),
  (119, [.return_])]
def md_Plots_makeOfKind : pm_M := ((⟨"QuestionDesk$Plots", "makeOfKind", "(III)V"⟩, prog_7_method_5_code, 8, none), (3, 5), cd_Plots_makeOfKind)
def cd_Plots_firstGaining : List (Nat × List Instr) := [(0, [.aload 0, .getfield 321, .aload 0, .getfield 320, .invokevirtual 12, .aload 0, .getfield 321, .aload 1, .invokevirtual 13, .istore 3, .iconst 0, .istore 4]),
  (23, [.iload 4, .aload 0, .getfield 320, .getfield 2, .if_icmp .ge 5]),
  (35, [.aload 0, .getfield 320, .getfield 4, .iload 4, .aaload, .getfield 198, .astore 5, .aload 0, .getfield 321, .getfield 67, .iload 4, .aaload, .aload 2, .invokevirtual 46, .aload 0, .getfield 321, .aload 1, .invokevirtual 13, .istore 6, .aload 0, .getfield 321, .getfield 67, .iload 4, .aaload, .aload 5, .invokevirtual 46, .aload 5, .iload 6, .iaload, .aload 5, .iload 3, .iaload, .if_icmp .ge 4]),
  (101, [.iload 4, .ireturn]),
  (104, [.iinc 4 1, .goto 1]),
  (110, [.iconst (-4), .ireturn])]
def md_Plots_firstGaining : pm_M := ((⟨"QuestionDesk$Plots", "firstGaining", "(LQuestionDesk$Tree;[I)I"⟩, prog_7_method_6_code, 7, some .int), (2, 5), cd_Plots_firstGaining)
def cd_Plots_chanceOf : List (Nat × List Instr) := [(0, [.aload 0, .invokevirtual 78, .istore 3, .goto_w 0, .lstore 4, .iconst 0, .istore 6]),
  (11, [.iload 6, .iconst 1, .iload 3, .ishl, .if_icmp .ge 6]),
  (19, [.aload 0, .iload 6, .iload 3, .invokevirtual 79, .lstore 7, .lload 7, .goto_w 0, .lcmp, .ifCond .le 5]),
  (35, [.aload 0, .getfield 321, .aload 1, .invokevirtual 13, .iload 2, .if_icmp .ne 5]),
  (47, [.lload 4, .lload 7, .ladd, .lstore 4]),
  (54, [.iinc 6 1, .goto 1]),
  (60, [.lload 4, .lreturn])]
def md_Plots_chanceOf : pm_M := ((⟨"QuestionDesk$Plots", "chanceOf", "(LQuestionDesk$Tree;I)J"⟩, prog_7_method_9_code, 9, some .long), (2, 5), cd_Plots_chanceOf)
def cd_Plots_seatDoubtful : List (Nat × List Instr) := [(0, [.aload 0, .getfield 321, .aload 0, .getfield 320, .invokevirtual 12, .iconst 0, .istore 1, .iconst 0, .istore 2]),
  (15, [.iload 2, .aload 0, .getfield 320, .getfield 2, .if_icmp .ge 6]),
  (26, [.iload 1, .iconst 6, .if_icmp .ge 6]),
  (32, [.aload 0, .getfield 320, .getfield 4, .iload 2, .aaload, .getfield 197, .ifCond .le 5]),
  (47, [.aload 0, .getfield 322, .iload 1, .iload 2, .iastore, .iinc 1 1]),
  (57, [.iinc 2 1, .goto 1]),
  (63, [.iload 1, .ireturn])]
def md_Plots_seatDoubtful : pm_M := ((⟨"QuestionDesk$Plots", "seatDoubtful", "()I"⟩, prog_7_method_7_code, 3, some .int), (0, 5), cd_Plots_seatDoubtful)
def cd_Plots_suppose : List (Nat × List Instr) := [(0, [.goto_w 1, .lstore 3, .iconst 0, .istore 5]),
  (5, [.iload 5, .iload 2, .if_icmp .ge 12]),
  (11, [.aload 0, .getfield 320, .getfield 4, .aload 0, .getfield 322, .iload 5, .iaload, .aaload, .astore 6, .iload 1, .iload 5, .ishr, .iconst 1, .iand, .iconst 1, .if_icmp .ne 4]),
  (38, [.iconst 1, .goto 5]),
  (42, [.iconst 0]),
  (43, [.istore 7, .aload 0, .getfield 321, .getfield 67, .aload 0, .getfield 322, .iload 5, .iaload, .aaload, .iload 7, .ifCond .eq 7]),
  (65, [.aload 6, .getfield 199, .goto 8]),
  (73, [.aload 6, .getfield 198]),
  (78, [.invokevirtual 46, .lload 3, .iload 7, .ifCond .eq 10]),
  (87, [.aload 6, .getfield 197, .i2l, .goto 11]),
  (96, [.iconst 100, .aload 6, .getfield 197, .isub, .i2l]),
  (105, [.lmul, .lstore 3, .iinc 5 1, .goto 1]),
  (113, [.lload 3, .lreturn])]
def md_Plots_suppose : pm_M := ((⟨"QuestionDesk$Plots", "suppose", "(II)J"⟩, prog_7_method_8_code, 8, some .long), (2, 5), cd_Plots_suppose)
def cd_Plots_allOnes : List (Nat × List Instr) := [(0, [.iconst 1, .aload 0, .getfield 320, .getfield 2, .ishl, .iconst 1, .isub, .ireturn])]
def md_Plots_allOnes : pm_M := ((⟨"QuestionDesk$Plots", "allOnes", "()I"⟩, prog_7_method_3_code, 1, some .int), (0, 5), cd_Plots_allOnes)
def cd_Plots_findLie : List (Nat × List Instr) := [(0, [.aload 0, .getfield 321, .aload 0, .getfield 320, .invokevirtual 12, .aload 0, .getfield 320, .getfield 4, .iload 2, .aaload, .getfield 198, .astore 3, .aload 0, .getfield 321, .getfield 67, .iload 2, .aaload, .getfield 198, .astore 4, .aload 4, .iconst 9, .invokestatic 2, .aload 0, .aload 1, .invokevirtual 82, .aload 0, .getfield 323, .invokestatic 62, .istore 5, .aload 3, .aload 1, .getfield 517, .invokestatic 84, .istore 6, .iconst 10, .istore 7, .iconst 0, .istore 8]),
  (76, [.iload 8, .iconst 5040, .if_icmp .ge 11]),
  (84, [.iconst 0, .istore 9]),
  (87, [.iload 9, .iload 5, .if_icmp .ge 5]),
  (94, [.aload 4, .aload 0, .getfield 323, .iload 9, .iaload, .iload 9, .iastore, .iinc 9 1, .goto 3]),
  (112, [.aload 0, .getfield 321, .aload 1, .invokevirtual 13, .istore 9, .aload 3, .iload 9, .iaload, .iload 7, .if_icmp .ge 7]),
  (131, [.aload 3, .iload 9, .iaload, .istore 7, .aload 0, .iload 9, .putfield 327, .aload 0, .getfield 323, .iconst 0, .aload 0, .getfield 324, .iconst 0, .iload 5, .swap]),
  (158, [.iload 7, .iload 6, .if_icmp .eq 9]),
  (165, [.aload 0, .getfield 323, .iconst 0, .iload 5, .invokestatic 64, .ifCond .ne 10]),
  (178, [.return_]),
  (179, [.iinc 8 1, .goto 1]),
  (185, [.return_])]
def md_Plots_findLie : pm_M := ((⟨"QuestionDesk$Plots", "findLie", "(LQuestionDesk$Tree;I)V"⟩, prog_7_method_13_code, 10, none), (2, 5), cd_Plots_findLie)
def cd_Plots_mattering : List (Nat × List Instr) := [(0, [.aload 1, .getfield 517, .aload 1, .getfield 518, .ior, .aload 0, .invokevirtual 83, .iand, .ireturn])]
def md_Plots_mattering : pm_M := ((⟨"QuestionDesk$Plots", "mattering", "(LQuestionDesk$Tree;)I"⟩, prog_7_method_12_code, 2, some .int), (1, 5), cd_Plots_mattering)
def cd_Plots_there : List (Nat × List Instr) := [(0, [.iconst 1, .aload 0, .getfield 320, .getfield 0, .ishl, .iconst 1, .isub, .ireturn])]
def md_Plots_there : pm_M := ((⟨"QuestionDesk$Plots", "there", "()I"⟩, prog_7_method_11_code, 1, some .int), (0, 5), cd_Plots_there)
def cd_Plots_leastWish : List (Nat × List Instr) := [(0, [.iconst 9, .istore 2, .iconst 0, .istore 3]),
  (5, [.iload 3, .iconst 7, .if_icmp .ge 5]),
  (11, [.iload 1, .iload 3, .ishr, .iconst 1, .iand, .iconst 1, .if_icmp .ne 4]),
  (20, [.iload 2, .aload 0, .iload 3, .iaload, .dup_x2, .istore 2]),
  (28, [.iinc 3 1, .goto 1]),
  (34, [.iload 2, .ireturn])]
def md_Plots_leastWish : pm_M := ((⟨"QuestionDesk$Plots", "leastWish", "([II)I"⟩, prog_7_method_14_code, 4, some .int), (2, 99), cd_Plots_leastWish)
def cd_Plots_lieDigits : List (Nat × List Instr) := [(0, [.aload 0, .aload 1, .invokevirtual 82, .invokestatic 1, .istore 2, .aload 0, .invokevirtual 83, .aload 0, .aload 1, .invokevirtual 82, .iconst (-1), .ixor, .iand, .aload 0, .getfield 325, .invokestatic 62, .istore 3, .iconst 0, .istore 4, .iconst 0, .istore 5, .iconst 0, .istore 6]),
  (38, [.iload 6, .aload 0, .getfield 320, .getfield 0, .if_icmp .ge 11]),
  (50, [.iload 5, .iload 3, .if_icmp .ge 5]),
  (56, [.iload 4, .iload 2, .if_icmp .ge 6]),
  (62, [.aload 0, .getfield 324, .iload 4, .iaload, .aload 0, .getfield 325, .iload 5, .iaload, .if_icmp .ge 6]),
  (79, [.iconst 1, .goto 7]),
  (83, [.iconst 0]),
  (84, [.istore 7, .iload 7, .ifCond .eq 9]),
  (91, [.aload 0, .getfield 326, .iload 6, .aload 0, .getfield 324, .iload 4, .iaload, .iastore, .iinc 4 1, .goto 10]),
  (111, [.aload 0, .getfield 326, .iload 6, .aload 0, .getfield 325, .iload 5, .iaload, .iastore, .iinc 5 1]),
  (128, [.iinc 6 1, .goto 1]),
  (134, [.aload 0, .getfield 326, .aload 0, .getfield 320, .getfield 0, .invokestatic 63, .ireturn])]
def md_Plots_lieDigits : pm_M := ((⟨"QuestionDesk$Plots", "lieDigits", "(LQuestionDesk$Tree;)I"⟩, prog_7_method_15_code, 8, some .int), (1, 5), cd_Plots_lieDigits)
def cd_Plots_beatsIn : List (Nat × List Instr) := [(0, [.aload 0, .invokevirtual 78, .istore 4, .iconst 0, .istore 5]),
  (9, [.iload 5, .iconst 1, .iload 4, .ishl, .if_icmp .ge 8]),
  (18, [.aload 0, .iload 5, .iload 4, .invokevirtual 79, .pop2, .aload 0, .getfield 321, .iload 1, .iload 2, .invokevirtual 22, .iload 3, .if_icmp .eq 7]),
  (40, [.iload 3, .ifCond .ne 5]),
  (44, [.iconst 1, .goto 6]),
  (48, [.iconst 0]),
  (49, [.ireturn]),
  (50, [.iinc 5 1, .goto 1]),
  (56, [.iload 3, .ireturn])]
def md_Plots_beatsIn : pm_M := ((⟨"QuestionDesk$Plots", "beatsIn", "(IIZ)Z"⟩, prog_7_method_10_code, 6, some .boolean), (3, 5), cd_Plots_beatsIn)
def cd_Reader_init : List (Nat × List Instr) := [(0, [.aload 0, .monitorenter, .aload 0, .iconst 120, .newarray .int, .putfield 389, .aload 0, .iconst 120, .newarray .int, .putfield 390, .aload 0, .iconst 120, .newarray .int, .putfield 391, .return_])]
def md_Reader_init : pm_M := ((⟨"QuestionDesk$Reader", "<init>", "()V"⟩, prog_8_method_1_code, 1, none), (0, 6), cd_Reader_init)
def cd_Reader_faultOf : List (Nat × List Instr) := [(0, [.aload 0, .aload 1, .putfield 384, .aload 0, .iload 2, .putfield 385, .aload 0, .iload 3, .putfield 386, .aload 0, .iconst 0, .putfield 387, .aload 0, .iconst 0, .putfield 388, .aload 0, .iconst 0, .invokevirtual 89, .istore 4, .iload 4, .ifCond .eq 3]),
  (37, [.aload 0, .getfield 387, .aload 0, .getfield 385, .if_icmp .ne 3]),
  (48, [.iconst (-1), .goto 4]),
  (52, [.aload 0, .getfield 387]),
  (56, [.ireturn])]
def md_Reader_faultOf : pm_M := ((⟨"QuestionDesk$Reader", "faultOf", "([III)I"⟩, prog_8_method_2_code, 5, some .int), (3, 6), cd_Reader_faultOf)
def cd_Reader_readPart : List (Nat × List Instr) := [(0, [.aload 0, .getfield 387, .aload 0, .getfield 385, .if_icmp .lt 2]),
  (11, [.iconst 0, .ireturn]),
  (13, [.aload 0, .getfield 384, .aload 0, .getfield 387, .iaload, .iconst 40, .if_icmp .ne 8]),
  (27, [.iload 1, .iconst 6, .if_icmp .ge 6]),
  (33, [.aload 0, .iload 1, .invokevirtual 90, .ifCond .eq 6]),
  (41, [.iconst 1, .goto 7]),
  (45, [.iconst 0]),
  (46, [.ireturn]),
  (47, [.aload 0, .getfield 384, .aload 0, .getfield 387, .iaload, .iconst 123, .if_icmp .ne 14]),
  (61, [.iload 1, .iconst 6, .if_icmp .ge 12]),
  (67, [.aload 0, .iload 1, .invokevirtual 93, .ifCond .eq 12]),
  (75, [.iconst 1, .goto 13]),
  (79, [.iconst 0]),
  (80, [.ireturn]),
  (81, [.aload 0, .invokevirtual 95, .istore 2, .iload 2, .ifCond .ge 16]),
  (90, [.iconst 0, .ireturn]),
  (92, [.aload 0, .iload 2, .invokevirtual 91, .pop, .iconst 1, .ireturn])]
def md_Reader_readPart : pm_M := ((⟨"QuestionDesk$Reader", "readPart", "(I)Z"⟩, prog_8_method_4_code, 3, some .boolean), (1, 6), cd_Reader_readPart)
def cd_Reader_readQuestion : List (Nat × List Instr) := [(0, [.aload 0, .iconst 7, .invokevirtual 91, .istore 2, .aload 0, .iconst 40, .invokevirtual 92, .ifCond .eq 3]),
  (16, [.aload 0, .iload 1, .iconst 1, .iadd, .invokevirtual 89, .ifCond .eq 3]),
  (26, [.aload 0, .iconst 118, .invokevirtual 92, .ifCond .ne 4]),
  (35, [.iconst 0, .ireturn]),
  (37, [.aload 0, .getfield 390, .iload 2, .aload 0, .getfield 388, .iastore, .aload 0, .iload 1, .iconst 1, .iadd, .invokevirtual 89, .ifCond .eq 7]),
  (57, [.aload 0, .iconst 41, .invokevirtual 92, .ifCond .eq 7]),
  (66, [.iconst 1, .goto 8]),
  (70, [.iconst 0]),
  (71, [.ireturn])]
def md_Reader_readQuestion : pm_M := ((⟨"QuestionDesk$Reader", "readQuestion", "(I)Z"⟩, prog_8_method_5_code, 3, some .boolean), (1, 6), cd_Reader_readQuestion)
def cd_Reader_addNode : List (Nat × List Instr) := [(0, [.aload 0, .getfield 388, .istore 2, .aload 0, .getfield 389, .iload 2, .iload 1, .iastore, .aload 0, .getfield 390, .iload 2, .iconst 0, .iastore, .aload 0, .getfield 391, .iload 2, .iconst 0, .iastore, .aload 0, .dup, .getfield 388, .iconst 1, .iadd, .putfield 388, .iload 2, .ireturn])]
def md_Reader_addNode : pm_M := ((⟨"QuestionDesk$Reader", "addNode", "(I)I"⟩, prog_8_method_10_code, 3, some .int), (1, 6), cd_Reader_addNode)
def cd_Reader_readSign : List (Nat × List Instr) := [(0, [.aload 0, .getfield 387, .aload 0, .getfield 385, .if_icmp .ge 2]),
  (11, [.aload 0, .getfield 384, .aload 0, .getfield 387, .iaload, .iload 1, .if_icmp .eq 3]),
  (24, [.iconst 0, .ireturn]),
  (26, [.aload 0, .dup, .getfield 387, .iconst 1, .iadd, .putfield 387, .iconst 1, .ireturn])]
def md_Reader_readSign : pm_M := ((⟨"QuestionDesk$Reader", "readSign", "(C)Z"⟩, prog_8_method_9_code, 2, some .boolean), (1, 6), cd_Reader_readSign)
def cd_Reader_readChoice : List (Nat × List Instr) := [(0, [.aload 0, .iconst 8, .invokevirtual 91, .istore 2, .aload 0, .iconst 123, .invokevirtual 92, .ifCond .eq 4]),
  (16, [.aload 0, .iload 2, .invokevirtual 94, .ifCond .eq 4]),
  (24, [.aload 0, .iload 1, .iconst 1, .iadd, .invokevirtual 89, .ifCond .eq 4]),
  (34, [.aload 0, .iconst 47, .invokevirtual 92, .ifCond .ne 5]),
  (43, [.iconst 0, .ireturn]),
  (45, [.aload 0, .getfield 390, .iload 2, .aload 0, .getfield 388, .iastore, .aload 0, .iload 1, .iconst 1, .iadd, .invokevirtual 89, .ifCond .eq 8]),
  (65, [.aload 0, .iconst 125, .invokevirtual 92, .ifCond .eq 8]),
  (74, [.iconst 1, .goto 9]),
  (78, [.iconst 0]),
  (79, [.ireturn])]
def md_Reader_readChoice : pm_M := ((⟨"QuestionDesk$Reader", "readChoice", "(I)Z"⟩, prog_8_method_6_code, 3, some .boolean), (1, 6), cd_Reader_readChoice)
def cd_Reader_readPair : List (Nat × List Instr) := [(0, [.aload 0, .invokevirtual 95, .istore 2, .iload 2, .ifCond .lt 2]),
  (9, [.aload 0, .iconst 62, .invokevirtual 92, .ifCond .ne 3]),
  (18, [.iconst 0, .ireturn]),
  (20, [.aload 0, .invokevirtual 95, .istore 3, .iload 3, .ifCond .ge 5]),
  (29, [.iconst 0, .ireturn]),
  (31, [.aload 0, .getfield 391, .iload 1, .iload 2, .iconst 7, .imul, .iload 3, .iadd, .iastore, .aload 0, .iconst 58, .invokevirtual 92, .ireturn])]
def md_Reader_readPair : pm_M := ((⟨"QuestionDesk$Reader", "readPair", "(I)Z"⟩, prog_8_method_7_code, 4, some .boolean), (1, 6), cd_Reader_readPair)
def cd_Reader_readEnd : List (Nat × List Instr) := [(0, [.aload 0, .getfield 387, .aload 0, .getfield 385, .if_icmp .ge 2]),
  (11, [.aload 0, .getfield 384, .aload 0, .getfield 387, .iaload, .iconst 48, .isub, .iconst 0, .aload 0, .getfield 386, .iconst 1, .isub, .invokestatic 111, .ifCond .ne 3]),
  (36, [.iconst (-1), .ireturn]),
  (38, [.aload 0, .getfield 384, .aload 0, .getfield 387, .iaload, .iconst 48, .isub, .istore 1, .aload 0, .dup, .getfield 387, .iconst 1, .iadd, .putfield 387, .iload 1, .ireturn])]
def md_Reader_readEnd : pm_M := ((⟨"QuestionDesk$Reader", "readEnd", "()I"⟩, prog_8_method_8_code, 2, some .int), (0, 6), cd_Reader_readEnd)
def cd_Reader_treeRead : List (Nat × List Instr) := [(0, [.new 8, .dup, .aload 0, .getfield 388, .aload 0, .getfield 389, .aload 0, .getfield 388, .invokestatic 3, .aload 0, .getfield 390, .aload 0, .getfield 388, .invokestatic 3, .aload 0, .getfield 391, .aload 0, .getfield 388, .invokestatic 3, .invokespecial 106, .areturn])]
def md_Reader_treeRead : pm_M := ((⟨"QuestionDesk$Reader", "treeRead", "()LQuestionDesk$Tree;"⟩, prog_8_method_3_code, 1, some (.object "QuestionDesk$Tree")), (0, 6), cd_Reader_treeRead)
def cd_Shelf_init : List (Nat × List Instr) := [(0, [.aload 0, .monitorenter, .aload 0, .new 3, .dup, .invokespecial 42, .putfield 451, .aload 0, .iconst 120, .newarray .int, .putfield 452, .return_])]
def md_Shelf_init : pm_M := ((⟨"QuestionDesk$Shelf", "<init>", "()V"⟩, prog_9_method_1_code, 1, none), (0, 7), cd_Shelf_init)
def cd_Shelf_bytesRefusal : List (Nat × List Instr) := [(0, [.aload 0, .getfield 448, .iconst 2, .if_icmp .ne 3]),
  (8, [.aload 0, .getfield 449, .ifCond .eq 3]),
  (15, [.iconst (-12), .goto 4]),
  (20, [.aload 0, .iconst 2, .invokevirtual 99]),
  (25, [.ireturn])]
def md_Shelf_bytesRefusal : pm_M := ((⟨"QuestionDesk$Shelf", "bytesRefusal", "()I"⟩, prog_9_method_6_code, 1, some .int), (0, 7), cd_Shelf_bytesRefusal)
def cd_Shelf_refusalUnless : List (Nat × List Instr) := [(0, [.aload 0, .getfield 448, .ifCond .ne 2]),
  (7, [.iconst (-11), .ireturn]),
  (10, [.aload 0, .getfield 448, .iload 1, .if_icmp .ne 4]),
  (18, [.iconst 0, .goto 5]),
  (22, [.iconst (-12)]),
  (24, [.ireturn])]
def md_Shelf_refusalUnless : pm_M := ((⟨"QuestionDesk$Shelf", "refusalUnless", "(I)I"⟩, prog_9_method_7_code, 2, some .int), (1, 7), cd_Shelf_refusalUnless)
def cd_Shelf_holdsWishes : List (Nat × List Instr) := [(0, [.aload 0, .getfield 450, .iconst 7, .if_icmp .eq 2]),
  (9, [.iconst 0, .ireturn]),
  (11, [.iconst 0, .istore 1]),
  (13, [.iload 1, .iconst 7, .if_icmp .ge 7]),
  (19, [.aload 0, .getfield 452, .iload 1, .iaload, .iconst 0, .iconst 9, .invokestatic 111, .ifCond .ne 6]),
  (34, [.iconst 0, .ireturn]),
  (36, [.iinc 1 1, .goto 3]),
  (42, [.iconst 1, .ireturn])]
def md_Shelf_holdsWishes : pm_M := ((⟨"QuestionDesk$Shelf", "holdsWishes", "()Z"⟩, prog_9_method_9_code, 2, some .boolean), (0, 7), cd_Shelf_holdsWishes)
def cd_Shelf_beginRow : List (Nat × List Instr) := [(0, [.aload 0, .iconst 2, .putfield 448, .aload 0, .iload 1, .putfield 449, .aload 0, .iload 2, .putfield 450, .aload 0, .getfield 452, .iconst 0, .invokestatic 2, .return_])]
def md_Shelf_beginRow : pm_M := ((⟨"QuestionDesk$Shelf", "beginRow", "(II)V"⟩, prog_9_method_2_code, 3, none), (2, 7), cd_Shelf_beginRow)
def cd_Shelf_rowRefusal : List (Nat × List Instr) := [(0, [.aload 0, .iconst 2, .invokevirtual 99, .ireturn])]
def md_Shelf_rowRefusal : pm_M := ((⟨"QuestionDesk$Shelf", "rowRefusal", "()I"⟩, prog_9_method_5_code, 1, some .int), (0, 7), cd_Shelf_rowRefusal)
def cd_Shelf_lowestBits : List (Nat × List Instr) := [(0, [.aload 0, .getfield 449, .lookupswitch 3 #[(0, 1), (1, 2)]]),
  (32, [.iload 1, .i2b, .ireturn]),
  (35, [.iload 1, .i2s, .ireturn]),
  (38, [.iload 1, .ireturn])]
def md_Shelf_lowestBits : pm_M := ((⟨"QuestionDesk$Shelf", "lowestBits", "(I)I"⟩, prog_9_method_3_code, 2, some .int), (1, 7), cd_Shelf_lowestBits)
def cd_Shelf_hasPlaces : List (Nat × List Instr) := [(0, [.iload 1, .iconst 0, .aload 0, .getfield 450, .invokestatic 111, .ifCond .eq 3]),
  (12, [.iload 2, .iconst 0, .aload 0, .getfield 450, .iload 1, .isub, .invokestatic 111, .ifCond .eq 3]),
  (26, [.iconst 1, .goto 4]),
  (30, [.iconst 0]),
  (31, [.ireturn])]
def md_Shelf_hasPlaces : pm_M := ((⟨"QuestionDesk$Shelf", "hasPlaces", "(II)Z"⟩, prog_9_method_8_code, 3, some .boolean), (2, 7), cd_Shelf_hasPlaces)
def cd_Shelf_memberRefusal : List (Nat × List Instr) := [(0, [.aload 0, .iconst 1, .invokevirtual 99, .ireturn])]
def md_Shelf_memberRefusal : pm_M := ((⟨"QuestionDesk$Shelf", "memberRefusal", "()I"⟩, prog_9_method_4_code, 1, some .int), (0, 7), cd_Shelf_memberRefusal)
def cd_Tree_init : List (Nat × List Instr) := [(0, [.aload 0, .monitorenter, .aload 0, .iload 1, .putfield 512, .aload 0, .aload 2, .putfield 513, .aload 0, .aload 3, .putfield 514, .aload 0, .aload 4, .putfield 515, .iconst 0, .istore 5, .iconst 0, .istore 6, .iconst 0, .istore 7, .iconst 0, .istore 8]),
  (37, [.iload 8, .iload 1, .if_icmp .ge 8]),
  (43, [.aload 2, .iload 8, .iaload, .iconst 7, .if_icmp .ne 4]),
  (52, [.iinc 5 1, .goto 7]),
  (58, [.aload 2, .iload 8, .iaload, .iconst 8, .if_icmp .ne 6]),
  (67, [.iload 7, .iconst 1, .aload 4, .iload 8, .iaload, .iconst 7, .idiv, .ishl, .iconst 1, .aload 4, .iload 8, .iaload, .iconst 7, .irem, .ishl, .ior, .ior, .istore 7, .goto 7]),
  (96, [.iload 6, .iconst 1, .aload 2, .iload 8, .iaload, .ishl, .ior, .istore 6]),
  (107, [.iinc 8 1, .goto 1]),
  (113, [.aload 0, .iload 5, .putfield 516, .aload 0, .iload 6, .putfield 517, .aload 0, .iload 7, .putfield 518, .return_])]
def md_Tree_init : pm_M := ((⟨"QuestionDesk$Tree", "<init>", "(I[I[I[I)V"⟩, prog_10_method_1_code, 9, none), (4, 8), cd_Tree_init)
def cd_Tree_nodeOf : List (Nat × List Instr) := [(0, [.iload 1, .istore 2, .iconst 0, .istore 3]),
  (4, [.iload 3, .aload 0, .getfield 512, .if_icmp .ge 7]),
  (12, [.aload 0, .getfield 513, .iload 3, .iaload, .iconst 7, .if_icmp .ne 6]),
  (23, [.iload 2, .ifCond .ne 5]),
  (27, [.iload 3, .ireturn]),
  (29, [.iinc 2 (-1)]),
  (32, [.iinc 3 1, .goto 1]),
  (38, [.iconst 0, .ireturn])]
def md_Tree_nodeOf : pm_M := ((⟨"QuestionDesk$Tree", "nodeOf", "(I)I"⟩, prog_10_method_2_code, 4, some .int), (1, 8), cd_Tree_nodeOf)
def cd_Tree_questionsAhead : List (Nat × List Instr) := [(0, [.iconst 0, .istore 2, .iconst 0, .istore 3]),
  (4, [.iload 3, .iload 1, .if_icmp .ge 5]),
  (9, [.aload 0, .getfield 513, .iload 3, .iaload, .iconst 7, .if_icmp .ne 4]),
  (20, [.iinc 2 1]),
  (23, [.iinc 3 1, .goto 1]),
  (29, [.iload 2, .ireturn])]
def md_Tree_questionsAhead : pm_M := ((⟨"QuestionDesk$Tree", "questionsAhead", "(I)I"⟩, prog_10_method_3_code, 4, some .int), (1, 8), cd_Tree_questionsAhead)
def cd_Desk_init : List (Nat × List Instr) := [(0, [.aload 0, .monitorenter, .aload 0, .new 0, .dup, .invokespecial 4, .putfield 576, .aload 0, .new 0, .dup, .invokespecial 4, .putfield 577, .aload 0, .iconst 8, .anewarray 4, .putfield 579, .aload 0, .new 6, .dup, .invokespecial 87, .putfield 580, .aload 0, .new 1, .dup, .invokespecial 11, .putfield 581, .aload 0, .new 4, .dup, .invokespecial 49, .putfield 582, .aload 0, .new 5, .dup, .aload 0, .getfield 576, .aload 0, .getfield 581, .invokespecial 72, .putfield 583, .aload 0, .new 2, .dup, .aload 0, .getfield 581, .invokespecial 33, .putfield 584, .iconst 0, .istore 1]),
  (104, [.iload 1, .iconst 8, .if_icmp .ge 3]),
  (110, [.aload 0, .getfield 579, .iload 1, .new 7, .dup, .invokespecial 97, .aastore, .iinc 1 1, .goto 1]),
  (129, [.return_])]
def md_Desk_init : pm_M := ((⟨"QuestionDesk", "<init>", "()V"⟩, prog_1_method_1_code, 2, none), (0, 9), cd_Desk_init)
def cd_Desk_set : List (Nat × List Instr) := [(0, [.iload 1, .ifCond .ne 3]),
  (4, [.iload 2, .iconst 1, .iconst 7, .invokestatic 111, .ifCond .eq 3]),
  (14, [.aload 0, .getfield 576, .getfield 0, .istore 3, .aload 0, .getfield 576, .iload 2, .putfield 0, .iload 3, .ireturn]),
  (32, [.iload 1, .iconst 1, .if_icmp .ne 6]),
  (37, [.iload 2, .iconst 0, .iconst 1, .invokestatic 111, .ifCond .eq 6]),
  (46, [.aload 0, .getfield 576, .getfield 1, .istore 3, .aload 0, .getfield 576, .iload 2, .putfield 1, .iload 3, .ireturn]),
  (64, [.iconst (-1), .ireturn])]
def md_Desk_set : pm_M := ((⟨"QuestionDesk", "set", "(II)I"⟩, prog_1_method_2_code, 4, some .int), (2, 9), cd_Desk_set)
def cd_Desk_within : List (Nat × List Instr) := [(0, [.iload 0, .iload 1, .if_icmp .lt 3]),
  (5, [.iload 0, .iload 2, .if_icmp .gt 3]),
  (10, [.iconst 1, .goto 4]),
  (14, [.iconst 0]),
  (15, [.ireturn])]
def md_Desk_within : pm_M := ((⟨"QuestionDesk", "within", "(III)Z"⟩, prog_1_method_48_code, 3, some .boolean), (3, 99), cd_Desk_within)
def cd_Desk_member : List (Nat × List Instr) := [(0, [.iload 2, .ifCond .lt 3]),
  (4, [.iload 2, .iconst 10, .idiv, .iconst 1, .iconst 9, .invokestatic 111, .ifCond .eq 3]),
  (17, [.iload 1, .iload 2, .iconst 10, .irem, .invokestatic 113, .ifCond .ne 4]),
  (28, [.iconst (-1), .ireturn]),
  (30, [.aload 0, .getfield 576, .getfield 2, .iconst 9, .if_icmp .lt 6]),
  (42, [.iconst (-2), .ireturn]),
  (45, [.aload 0, .getfield 576, .getfield 2, .istore 3, .aload 0, .getfield 576, .getfield 4, .iload 3, .aaload, .iload 3, .iload 1, .iload 2, .iconst 10, .idiv, .iload 2, .iconst 10, .irem, .invokevirtual 43, .aload 0, .getfield 576, .iload 3, .iconst 1, .iadd, .putfield 2, .iload 3, .ireturn])]
def md_Desk_member : pm_M := ((⟨"QuestionDesk", "member", "(II)I"⟩, prog_1_method_3_code, 4, some .int), (2, 9), cd_Desk_member)
def cd_Desk_fits : List (Nat × List Instr) := [(0, [.iload 0, .iconst 0, .iconst 5, .invokestatic 111, .ifCond .eq 3]),
  (9, [.iload 1, .iconst 0, .getstatic 1, .iload 0, .iaload, .invokestatic 111, .ifCond .eq 3]),
  (22, [.iconst 1, .goto 4]),
  (26, [.iconst 0]),
  (27, [.ireturn])]
def md_Desk_fits : pm_M := ((⟨"QuestionDesk", "fits", "(II)Z"⟩, prog_1_method_50_code, 2, some .boolean), (2, 99), cd_Desk_fits)
def cd_Desk_bought : List (Nat × List Instr) := [(0, [.aload 0, .getfield 576, .iload 1, .invokevirtual 5, .astore 3, .aload 3, .ifnull 2]),
  (13, [.iload 2, .invokestatic 115, .ifCond .ne 3]),
  (20, [.iconst (-1), .ireturn]),
  (22, [.aload 3, .getfield 193, .iconst 4, .if_icmp .eq 5]),
  (30, [.iconst (-3), .ireturn]),
  (33, [.aload 3, .getfield 196, .istore 4, .aload 3, .iload 2, .putfield 196, .iload 4, .ireturn])]
def md_Desk_bought : pm_M := ((⟨"QuestionDesk", "bought", "(II)I"⟩, prog_1_method_4_code, 5, some .int), (2, 9), cd_Desk_bought)
def cd_Desk_isEnd : List (Nat × List Instr) := [(0, [.iload 0, .iconst 0, .iconst 6, .invokestatic 111, .ireturn])]
def md_Desk_isEnd : pm_M := ((⟨"QuestionDesk", "isEnd", "(I)Z"⟩, prog_1_method_49_code, 1, some .boolean), (1, 99), cd_Desk_isEnd)
def cd_Desk_becomes : List (Nat × List Instr) := [(0, [.aload 0, .getfield 576, .iload 1, .invokevirtual 5, .astore 3, .aload 3, .ifnull 3]),
  (13, [.iload 2, .ifCond .lt 3]),
  (17, [.iload 2, .iconst 10, .idiv, .iload 2, .iconst 10, .irem, .invokestatic 113, .ifCond .ne 4]),
  (31, [.iconst (-1), .ireturn]),
  (33, [.aload 3, .getfield 193, .istore 4, .aload 3, .iload 2, .iconst 10, .idiv, .putfield 193, .aload 3, .iload 2, .iconst 10, .irem, .putfield 195, .iload 4, .ireturn])]
def md_Desk_becomes : pm_M := ((⟨"QuestionDesk", "becomes", "(II)I"⟩, prog_1_method_5_code, 5, some .int), (2, 9), cd_Desk_becomes)
def cd_Desk_wish : List (Nat × List Instr) := [(0, [.aload 0, .iload 1, .iload 2, .iload 3, .iconst 0, .invokevirtual 118, .ireturn])]
def md_Desk_wish : pm_M := ((⟨"QuestionDesk", "wish", "(III)I"⟩, prog_1_method_6_code, 4, some .int), (3, 9), cd_Desk_wish)
def cd_Desk_changeWish : List (Nat × List Instr) := [(0, [.aload 0, .getfield 576, .iload 1, .invokevirtual 5, .astore 5, .aload 5, .ifnull 3]),
  (15, [.iload 2, .invokestatic 115, .ifCond .eq 3]),
  (22, [.iload 3, .iconst 0, .iconst 9, .invokestatic 111, .ifCond .ne 4]),
  (32, [.iconst (-1), .ireturn]),
  (34, [.iload 4, .ifCond .eq 6]),
  (39, [.aload 5, .getfield 199, .goto 7]),
  (47, [.aload 5, .getfield 198]),
  (52, [.astore 6, .aload 6, .iload 2, .iaload, .istore 7, .aload 6, .iload 2, .iload 3, .iastore, .iload 7, .ireturn])]
def md_Desk_changeWish : pm_M := ((⟨"QuestionDesk", "changeWish", "(IIIZ)I"⟩, prog_1_method_52_code, 8, some .int), (4, 9), cd_Desk_changeWish)
def cd_Desk_doubted : List (Nat × List Instr) := [(0, [.aload 0, .iload 1, .iload 2, .iload 3, .iconst 1, .invokevirtual 118, .ireturn])]
def md_Desk_doubted : pm_M := ((⟨"QuestionDesk", "doubted", "(III)I"⟩, prog_1_method_7_code, 4, some .int), (3, 9), cd_Desk_doubted)
def cd_Desk_sure : List (Nat × List Instr) := [(0, [.aload 0, .getfield 576, .iload 1, .invokevirtual 5, .astore 3, .aload 3, .ifnull 2]),
  (13, [.iload 2, .iconst 0, .iconst 100, .invokestatic 111, .ifCond .ne 3]),
  (23, [.iconst (-1), .ireturn]),
  (25, [.aload 3, .getfield 197, .istore 4, .aload 3, .iload 2, .putfield 197, .iload 4, .ireturn])]
def md_Desk_sure : pm_M := ((⟨"QuestionDesk", "sure", "(II)I"⟩, prog_1_method_8_code, 5, some .int), (2, 9), cd_Desk_sure)
def cd_Desk_about : List (Nat × List Instr) := [(0, [.aload 0, .getfield 576, .iload 1, .invokevirtual 5, .astore 3, .aload 3, .ifnonnull 2]),
  (13, [.iconst (-1), .ireturn]),
  (15, [.iload 2, .tableswitch 8 0 4 #[3, 4, 5, 6, 7]]),
  (52, [.aload 3, .getfield 193, .ireturn]),
  (57, [.aload 3, .getfield 194, .ireturn]),
  (62, [.aload 3, .getfield 195, .ireturn]),
  (67, [.aload 3, .invokevirtual 44, .ireturn]),
  (72, [.aload 3, .getfield 197, .ireturn]),
  (77, [.iconst (-1), .ireturn])]
def md_Desk_about : pm_M := ((⟨"QuestionDesk", "about", "(II)I"⟩, prog_1_method_9_code, 4, some .int), (2, 9), cd_Desk_about)
def cd_Desk_fault : List (Nat × List Instr) := [(0, [.aload 0, .iload 1, .invokevirtual 123, .astore 2, .aload 2, .ifnonnull 2]),
  (10, [.iconst (-1), .ireturn]),
  (12, [.aload 2, .invokevirtual 98, .istore 3, .iload 3, .ifCond .eq 4]),
  (21, [.iload 3, .ireturn]),
  (23, [.aload 0, .getfield 580, .aload 2, .getfield 452, .aload 2, .getfield 450, .aload 0, .getfield 576, .getfield 0, .invokevirtual 88, .istore 4, .iload 4, .iconst (-1), .if_icmp .ne 6]),
  (53, [.iconst (-4), .goto 7]),
  (58, [.iload 4]),
  (60, [.ireturn])]
def md_Desk_fault : pm_M := ((⟨"QuestionDesk", "fault", "(I)I"⟩, prog_1_method_10_code, 5, some .int), (1, 9), cd_Desk_fault)
def cd_Desk_shelfAt : List (Nat × List Instr) := [(0, [.iload 1, .iconst 0, .iconst 7, .invokestatic 111, .ifCond .eq 2]),
  (10, [.aload 0, .getfield 579, .iload 1, .aaload, .goto 3]),
  (19, [.aconst_null]),
  (20, [.areturn])]
def md_Desk_shelfAt : pm_M := ((⟨"QuestionDesk", "shelfAt", "(I)LQuestionDesk$Shelf;"⟩, prog_1_method_53_code, 2, some (.object "QuestionDesk$Shelf")), (1, 9), cd_Desk_shelfAt)
def cd_Desk_tree : List (Nat × List Instr) := [(0, [.aload 0, .iload 1, .invokevirtual 123, .astore 2, .aload 2, .ifnonnull 2]),
  (10, [.iconst (-1), .ireturn]),
  (12, [.aload 0, .getfield 576, .getfield 3, .iconst 12, .if_icmp .lt 4]),
  (24, [.iconst (-2), .ireturn]),
  (27, [.aload 2, .invokevirtual 98, .istore 3, .iload 3, .ifCond .eq 6]),
  (36, [.iload 3, .ireturn]),
  (38, [.aload 0, .getfield 580, .aload 2, .getfield 452, .aload 2, .getfield 450, .aload 0, .getfield 576, .getfield 0, .invokevirtual 88, .istore 4, .iload 4, .iconst (-1), .if_icmp .eq 8]),
  (68, [.iconst (-100), .iload 4, .isub, .ireturn]),
  (74, [.aload 0, .getfield 576, .getfield 3, .istore 5, .aload 0, .getfield 576, .getfield 5, .iload 5, .aload 0, .getfield 580, .invokevirtual 96, .aastore, .aload 0, .getfield 576, .iload 5, .iconst 1, .iadd, .putfield 3, .iload 5, .ireturn])]
def md_Desk_tree : pm_M := ((⟨"QuestionDesk", "tree", "(I)I"⟩, prog_1_method_11_code, 6, some .int), (1, 9), cd_Desk_tree)
def cd_Desk_of : List (Nat × List Instr) := [(0, [.aload 0, .getfield 576, .iload 1, .invokevirtual 6, .astore 3, .aload 3, .ifnonnull 2]),
  (13, [.iconst (-1), .ireturn]),
  (15, [.iload 2, .tableswitch 6 0 2 #[3, 4, 5]]),
  (44, [.aload 3, .getfield 516, .ireturn]),
  (49, [.aload 3, .getfield 517, .ireturn]),
  (54, [.aload 0, .getfield 581, .aload 0, .getfield 576, .invokevirtual 12, .aload 0, .getfield 581, .aload 3, .invokevirtual 13, .pop, .aload 0, .getfield 581, .getfield 68, .iconst 0, .iaload, .ireturn]),
  (84, [.iconst (-1), .ireturn])]
def md_Desk_of : pm_M := ((⟨"QuestionDesk", "of", "(II)I"⟩, prog_1_method_12_code, 4, some .int), (2, 9), cd_Desk_of)
def cd_Desk_beat : List (Nat × List Instr) := [(0, [.iload 1, .invokestatic 115, .ifCond .eq 2]),
  (7, [.iload 2, .invokestatic 115, .ifCond .ne 3]),
  (14, [.iconst (-1000000001), .ireturn]),
  (17, [.aload 0, .getfield 581, .aload 0, .getfield 576, .invokevirtual 12, .aload 0, .getfield 581, .iload 1, .iload 2, .invokevirtual 21, .ireturn])]
def md_Desk_beat : pm_M := ((⟨"QuestionDesk", "beat", "(II)I"⟩, prog_1_method_13_code, 3, some .int), (2, 9), cd_Desk_beat)
def cd_Desk_stands : List (Nat × List Instr) := [(0, [.iload 1, .invokestatic 115, .ifCond .eq 2]),
  (7, [.iload 2, .invokestatic 115, .ifCond .ne 3]),
  (14, [.iconst (-1), .ireturn]),
  (16, [.aload 0, .getfield 581, .aload 0, .getfield 576, .invokevirtual 12, .aload 0, .getfield 581, .iload 1, .iload 2, .invokevirtual 20, .ireturn])]
def md_Desk_stands : pm_M := ((⟨"QuestionDesk", "stands", "(II)I"⟩, prog_1_method_14_code, 3, some .int), (2, 9), cd_Desk_stands)
def cd_Desk_run : List (Nat × List Instr) := [(0, [.aload 0, .getfield 576, .iload 1, .invokevirtual 6, .astore 2, .aload 2, .ifnonnull 2]),
  (13, [.iconst (-1), .ireturn]),
  (15, [.aload 0, .getfield 581, .aload 0, .getfield 576, .invokevirtual 12, .aload 0, .getfield 581, .aload 2, .invokevirtual 13, .ireturn])]
def md_Desk_run : pm_M := ((⟨"QuestionDesk", "run", "(I)I"⟩, prog_1_method_15_code, 3, some .int), (1, 9), cd_Desk_run)
def cd_Desk_ask : List (Nat × List Instr) := [(0, [.aload 0, .getfield 576, .iload 1, .invokevirtual 6, .astore 4, .aload 4, .ifnull 3]),
  (15, [.iload 2, .iconst 0, .aload 4, .getfield 516, .iconst 1, .isub, .invokestatic 111, .ifCond .eq 3]),
  (30, [.iload 3, .iconst 0, .iconst 2, .invokestatic 111, .ifCond .ne 4]),
  (39, [.iconst (-1), .ireturn]),
  (41, [.aload 0, .getfield 581, .aload 0, .getfield 576, .invokevirtual 12, .aload 0, .getfield 581, .aload 4, .invokevirtual 13, .pop, .aload 4, .iload 2, .invokevirtual 107, .istore 5, .iload 3, .ifCond .ne 6]),
  (74, [.aload 0, .getfield 581, .getfield 70, .iload 5, .iaload, .ireturn]),
  (85, [.aload 0, .getfield 581, .getfield 69, .iload 3, .iconst 1, .if_icmp .ne 8]),
  (97, [.iload 5, .iconst 1, .iadd, .goto 9]),
  (104, [.aload 4, .getfield 514, .iload 5, .iaload]),
  (112, [.iaload, .ireturn])]
def md_Desk_ask : pm_M := ((⟨"QuestionDesk", "ask", "(III)I"⟩, prog_1_method_16_code, 6, some .int), (3, 9), cd_Desk_ask)
def cd_Desk_wonBy : List (Nat × List Instr) := [(0, [.aload 0, .getfield 576, .iload 1, .invokevirtual 6, .astore 3, .aload 3, .ifnull 2]),
  (13, [.iload 2, .iconst 0, .aload 3, .getfield 516, .iconst 1, .isub, .invokestatic 111, .ifCond .ne 3]),
  (27, [.iconst (-1000000001), .ireturn]),
  (30, [.aload 0, .getfield 581, .aload 0, .getfield 576, .invokevirtual 12, .aload 0, .getfield 581, .aload 3, .invokevirtual 13, .pop, .aload 0, .getfield 581, .getfield 71, .aload 3, .iload 2, .invokevirtual 107, .iaload, .ireturn])]
def md_Desk_wonBy : pm_M := ((⟨"QuestionDesk", "wonBy", "(II)I"⟩, prog_1_method_17_code, 4, some .int), (2, 9), cd_Desk_wonBy)
def cd_Desk_why : List (Nat × List Instr) := [(0, [.aload 0, .getfield 576, .iload 1, .invokevirtual 6, .astore 4, .aload 4, .ifnull 3]),
  (15, [.iload 2, .iconst 0, .aload 4, .getfield 516, .iconst 1, .isub, .invokestatic 111, .ifCond .eq 3]),
  (30, [.aload 0, .getfield 576, .iload 3, .invokevirtual 5, .ifnonnull 4]),
  (41, [.iconst (-1000000001), .ireturn]),
  (44, [.aload 0, .getfield 581, .aload 0, .getfield 576, .invokevirtual 12, .aload 0, .getfield 581, .aload 4, .invokevirtual 13, .pop, .aload 4, .iload 2, .invokevirtual 107, .istore 5, .aload 0, .getfield 581, .iload 5, .iconst 1, .iadd, .aload 4, .getfield 514, .iload 5, .iaload, .iload 3, .invokevirtual 25, .ireturn])]
def md_Desk_why : pm_M := ((⟨"QuestionDesk", "why", "(III)I"⟩, prog_1_method_18_code, 6, some .int), (3, 9), cd_Desk_why)
def cd_Desk_ifAll : List (Nat × List Instr) := [(0, [.aload 0, .getfield 576, .iload 1, .invokevirtual 6, .astore 3, .aload 3, .ifnull 2]),
  (13, [.iload 2, .iconst 0, .iconst 1, .invokestatic 111, .ifCond .ne 3]),
  (22, [.iconst (-1), .ireturn]),
  (24, [.aload 0, .aload 3, .iload 2, .invokevirtual 133, .ireturn])]
def md_Desk_ifAll : pm_M := ((⟨"QuestionDesk", "ifAll", "(II)I"⟩, prog_1_method_19_code, 4, some .int), (2, 9), cd_Desk_ifAll)
def cd_Desk_comesIfAll : List (Nat × List Instr) := [(0, [.aload 0, .getfield 581, .aload 0, .getfield 576, .invokevirtual 12, .aload 0, .getfield 581, .iload 2, .invokevirtual 26, .aload 0, .getfield 581, .aload 1, .invokevirtual 13, .ireturn])]
def md_Desk_comesIfAll : pm_M := ((⟨"QuestionDesk", "comesIfAll", "(LQuestionDesk$Tree;I)I"⟩, prog_1_method_54_code, 3, some .int), (2, 9), cd_Desk_comesIfAll)
def cd_Desk_parts : List (Nat × List Instr) := [(0, [.aload 0, .getfield 576, .iload 1, .invokevirtual 6, .astore 2, .aload 2, .ifnonnull 2]),
  (13, [.iconst (-1), .ireturn]),
  (15, [.aload 0, .aload 2, .iconst 0, .invokevirtual 133, .pop, .aload 0, .getfield 581, .aload 2, .invokevirtual 27, .aload 0, .aload 2, .iconst 1, .invokevirtual 133, .pop, .aload 0, .getfield 581, .aload 2, .invokevirtual 28, .istore 3, .iload 3, .iconst (-4), .if_icmp .ne 4]),
  (52, [.iconst (-4), .goto 5]),
  (57, [.aload 2, .iload 3, .invokevirtual 108]),
  (62, [.ireturn])]
def md_Desk_parts : pm_M := ((⟨"QuestionDesk", "parts", "(I)I"⟩, prog_1_method_20_code, 4, some .int), (1, 9), cd_Desk_parts)
def cd_Desk_order : List (Nat × List Instr) := [(0, [.aload 0, .iload 1, .invokevirtual 123, .astore 3, .aload 3, .ifnonnull 2]),
  (10, [.iconst (-1), .ireturn]),
  (12, [.aload 3, .invokevirtual 98, .istore 4, .iload 4, .ifCond .eq 4]),
  (23, [.iload 4, .ireturn]),
  (26, [.aload 0, .invokevirtual 136, .aload 0, .getfield 582, .aload 3, .getfield 452, .aload 3, .getfield 450, .invokevirtual 51, .ifCond .ne 6]),
  (48, [.iconst (-13), .ireturn]),
  (51, [.aload 0, .getfield 582, .aload 3, .getfield 450, .iload 2, .invokevirtual 52, .ireturn])]
def md_Desk_order : pm_M := ((⟨"QuestionDesk", "order", "(IZ)I"⟩, prog_1_method_21_code, 5, some .int), (2, 9), cd_Desk_order)
def cd_Desk_weighOrders : List (Nat × List Instr) := [(0, [.aload 0, .getfield 581, .aload 0, .getfield 576, .invokevirtual 12, .aload 0, .getfield 582, .aload 0, .getfield 581, .aload 0, .getfield 576, .getfield 0, .invokevirtual 50, .return_])]
def md_Desk_weighOrders : pm_M := ((⟨"QuestionDesk", "weighOrders", "()V"⟩, prog_1_method_55_code, 1, none), (0, 9), cd_Desk_weighOrders)
def cd_Desk_reach : List (Nat × List Instr) := [(0, [.aload 0, .invokevirtual 136, .aload 0, .getfield 582, .iload 1, .invokevirtual 55, .ireturn])]
def md_Desk_reach : pm_M := ((⟨"QuestionDesk", "reach", "(Z)I"⟩, prog_1_method_22_code, 2, some .int), (1, 9), cd_Desk_reach)
def cd_Desk_first : List (Nat × List Instr) := [(0, [.aload 0, .iload 1, .invokevirtual 139, .ifCond .ne 2]),
  (8, [.iconst (-1), .ireturn]),
  (10, [.aload 0, .invokevirtual 136, .aload 0, .getfield 582, .iload 1, .iload 2, .invokevirtual 61, .ireturn])]
def md_Desk_first : pm_M := ((⟨"QuestionDesk", "first", "(IZ)I"⟩, prog_1_method_23_code, 3, some .int), (2, 9), cd_Desk_first)
def cd_Desk_isThere : List (Nat × List Instr) := [(0, [.iload 1, .iconst 0, .aload 0, .getfield 576, .getfield 0, .iconst 1, .isub, .invokestatic 111, .ireturn])]
def md_Desk_isThere : pm_M := ((⟨"QuestionDesk", "isThere", "(I)Z"⟩, prog_1_method_51_code, 2, some .boolean), (1, 9), cd_Desk_isThere)
def cd_Desk_best : List (Nat × List Instr) := [(0, [.aload 0, .invokevirtual 136, .aload 0, .getfield 582, .invokevirtual 66, .ireturn])]
def md_Desk_best : pm_M := ((⟨"QuestionDesk", "best", "()I"⟩, prog_1_method_24_code, 1, some .int), (0, 9), cd_Desk_best)
def cd_Desk_top : List (Nat × List Instr) := [(0, [.iload 1, .iconst 0, .iconst 1, .invokestatic 111, .ifCond .ne 2]),
  (9, [.iconst (-1), .ireturn]),
  (11, [.aload 0, .invokevirtual 136, .iload 1, .ifCond .ne 4]),
  (19, [.aload 0, .getfield 582, .invokevirtual 59, .goto 5]),
  (29, [.aload 0, .getfield 582, .invokevirtual 67]),
  (36, [.ireturn])]
def md_Desk_top : pm_M := ((⟨"QuestionDesk", "top", "(I)I"⟩, prog_1_method_25_code, 2, some .int), (1, 9), cd_Desk_top)
def cd_Desk_killers : List (Nat × List Instr) := [(0, [.aload 0, .getfield 576, .iload 1, .invokevirtual 6, .astore 2, .aload 2, .ifnonnull 2]),
  (13, [.iconst (-1), .ireturn]),
  (15, [.aload 0, .getfield 581, .aload 0, .getfield 576, .invokevirtual 12, .aload 0, .getfield 581, .aload 2, .invokevirtual 13, .pop, .aload 0, .getfield 581, .aload 2, .getfield 512, .aload 0, .getfield 576, .getfield 0, .invokevirtual 29, .ireturn])]
def md_Desk_killers : pm_M := ((⟨"QuestionDesk", "killers", "(I)I"⟩, prog_1_method_26_code, 3, some .int), (1, 9), cd_Desk_killers)
def cd_Desk_shields : List (Nat × List Instr) := [(0, [.aload 0, .getfield 576, .iload 1, .invokevirtual 6, .astore 3, .aload 3, .ifnull 2]),
  (13, [.aload 0, .iload 2, .invokevirtual 139, .ifCond .ne 3]),
  (21, [.iconst (-1), .ireturn]),
  (23, [.aload 0, .getfield 581, .aload 0, .getfield 576, .invokevirtual 12, .aload 0, .getfield 581, .aload 3, .invokevirtual 13, .pop, .aload 0, .getfield 581, .aload 3, .getfield 512, .aload 0, .getfield 576, .getfield 0, .invokevirtual 29, .iload 2, .ishr, .iconst 1, .iand, .ifCond .ne 5]),
  (68, [.iconst (-3), .ireturn]),
  (71, [.aload 0, .getfield 581, .aload 3, .getfield 512, .iload 2, .aload 0, .getfield 576, .getfield 0, .invokevirtual 31, .ireturn])]
def md_Desk_shields : pm_M := ((⟨"QuestionDesk", "shields", "(II)I"⟩, prog_1_method_27_code, 4, some .int), (2, 9), cd_Desk_shields)
def cd_Desk_tell : List (Nat × List Instr) := [(0, [.aload 0, .getfield 576, .iload 1, .invokevirtual 6, .astore 3, .aload 3, .ifnull 2]),
  (13, [.iload 2, .invokestatic 115, .ifCond .ne 3]),
  (20, [.iconst (-1), .ireturn]),
  (22, [.aload 0, .getfield 583, .aload 0, .getfield 583, .invokevirtual 73, .iconst 1, .aload 3, .iload 2, .invokevirtual 74, .ireturn])]
def md_Desk_tell : pm_M := ((⟨"QuestionDesk", "tell", "(II)I"⟩, prog_1_method_28_code, 4, some .int), (2, 9), cd_Desk_tell)
def cd_Desk_falseVote : List (Nat × List Instr) := [(0, [.aload 0, .getfield 576, .iload 1, .invokevirtual 6, .astore 3, .aload 0, .iload 2, .invokevirtual 123, .astore 4, .aload 3, .ifnull 2]),
  (20, [.aload 4, .ifnonnull 3]),
  (25, [.iconst (-1), .ireturn]),
  (27, [.aload 4, .invokevirtual 98, .istore 5, .iload 5, .ifCond .eq 5]),
  (39, [.iload 5, .ireturn]),
  (42, [.aload 4, .invokevirtual 100, .ifCond .ne 7]),
  (50, [.iconst (-13), .ireturn]),
  (53, [.aload 0, .getfield 583, .aload 3, .aload 4, .getfield 452, .invokevirtual 76, .ireturn])]
def md_Desk_falseVote : pm_M := ((⟨"QuestionDesk", "falseVote", "(II)I"⟩, prog_1_method_29_code, 6, some .int), (2, 9), cd_Desk_falseVote)
def cd_Desk_chance : List (Nat × List Instr) := [(0, [.aload 0, .getfield 576, .iload 1, .invokevirtual 6, .astore 3, .aload 3, .ifnull 2]),
  (13, [.iload 2, .invokestatic 115, .ifCond .ne 3]),
  (20, [.goto_w (-1), .lreturn]),
  (24, [.aload 0, .getfield 583, .aload 3, .iload 2, .invokevirtual 77, .lreturn])]
def md_Desk_chance : pm_M := ((⟨"QuestionDesk", "chance", "(II)J"⟩, prog_1_method_30_code, 4, some .long), (2, 9), cd_Desk_chance)
def cd_Desk_boughtOff : List (Nat × List Instr) := [(0, [.aload 0, .getfield 576, .iload 1, .invokevirtual 6, .astore 3, .aload 3, .ifnull 2]),
  (13, [.iload 2, .invokestatic 115, .ifCond .ne 3]),
  (20, [.iconst (-1), .ireturn]),
  (22, [.aload 0, .getfield 583, .aload 0, .getfield 583, .invokevirtual 80, .iconst 4, .aload 3, .iload 2, .invokevirtual 74, .ireturn])]
def md_Desk_boughtOff : pm_M := ((⟨"QuestionDesk", "boughtOff", "(II)I"⟩, prog_1_method_31_code, 4, some .int), (2, 9), cd_Desk_boughtOff)
def cd_Desk_bestLie : List (Nat × List Instr) := [(0, [.aload 0, .getfield 576, .iload 1, .invokevirtual 6, .astore 4, .aload 4, .ifnull 3]),
  (15, [.aload 0, .getfield 576, .iload 2, .invokevirtual 5, .ifnull 3]),
  (26, [.iload 3, .iconst 0, .iconst 1, .invokestatic 111, .ifCond .ne 4]),
  (35, [.iconst (-1), .ireturn]),
  (37, [.aload 0, .getfield 583, .aload 4, .iload 2, .invokevirtual 81, .iload 3, .ifCond .ne 6]),
  (51, [.aload 0, .getfield 583, .aload 4, .invokevirtual 85, .goto 7]),
  (63, [.aload 0, .getfield 583, .getfield 327]),
  (70, [.ireturn])]
def md_Desk_bestLie : pm_M := ((⟨"QuestionDesk", "bestLie", "(III)I"⟩, prog_1_method_32_code, 5, some .int), (3, 9), cd_Desk_bestLie)
def cd_Desk_surely : List (Nat × List Instr) := [(0, [.iload 1, .invokestatic 115, .ifCond .eq 3]),
  (7, [.iload 2, .invokestatic 115, .ifCond .eq 3]),
  (14, [.iload 3, .iconst 0, .iconst 1, .invokestatic 111, .ifCond .ne 4]),
  (23, [.iconst (-1), .ireturn]),
  (25, [.aload 0, .getfield 583, .iload 1, .iload 2, .iload 3, .ifCond .ne 6]),
  (35, [.iconst 1, .goto 7]),
  (39, [.iconst 0]),
  (40, [.invokevirtual 86, .ifCond .eq 9]),
  (46, [.iconst 1, .goto 10]),
  (50, [.iconst 0]),
  (51, [.ireturn])]
def md_Desk_surely : pm_M := ((⟨"QuestionDesk", "surely", "(III)I"⟩, prog_1_method_33_code, 4, some .int), (3, 9), cd_Desk_surely)
def cd_Desk_ring : List (Nat × List Instr) := [(0, [.iload 1, .iconst 0, .iconst 6, .invokestatic 111, .ifCond .ne 2]),
  (10, [.iconst (-1), .ireturn]),
  (12, [.aload 0, .invokevirtual 136, .aload 0, .getfield 582, .iload 1, .invokevirtual 68, .ireturn])]
def md_Desk_ring : pm_M := ((⟨"QuestionDesk", "ring", "(I)I"⟩, prog_1_method_34_code, 2, some .int), (1, 9), cd_Desk_ring)
def cd_Desk_usual : List (Nat × List Instr) := [(0, [.aload 0, .iload 1, .invokevirtual 123, .astore 2, .aload 2, .ifnonnull 2]),
  (10, [.iconst (-1), .ireturn]),
  (12, [.aload 2, .invokevirtual 98, .istore 3, .iload 3, .ifCond .eq 4]),
  (21, [.iload 3, .ireturn]),
  (23, [.aload 2, .getfield 450, .aload 0, .getfield 576, .getfield 0, .if_icmp .ge 6]),
  (37, [.iconst (-13), .ireturn]),
  (40, [.aload 0, .getfield 582, .aload 2, .getfield 452, .aload 0, .getfield 576, .getfield 0, .invokevirtual 70, .ireturn])]
def md_Desk_usual : pm_M := ((⟨"QuestionDesk", "usual", "(I)I"⟩, prog_1_method_35_code, 4, some .int), (1, 9), cd_Desk_usual)
def cd_Desk_breach : List (Nat × List Instr) := [(0, [.aload 0, .getfield 576, .iload 1, .invokevirtual 6, .astore 5, .aload 5, .ifnull 3]),
  (15, [.iload 2, .iconst 0, .iconst 2, .invokestatic 111, .ifCond .eq 3]),
  (24, [.iload 3, .iconst 1, .iconst 3, .invokestatic 111, .ifCond .ne 4]),
  (33, [.iconst (-1), .ireturn]),
  (35, [.aload 5, .getfield 517, .aload 5, .getfield 518, .ior, .iconst 8, .if_icmp .lt 6]),
  (51, [.iconst (-3), .ireturn]),
  (54, [.aload 0, .getfield 584, .iload 3, .iload 4, .ifCond .eq 8]),
  (64, [.iconst 1, .goto 9]),
  (68, [.iconst 0]),
  (69, [.aload 0, .getfield 576, .getfield 1, .invokevirtual 34, .aload 0, .getfield 584, .aload 5, .invokevirtual 35, .aload 0, .getfield 584, .iload 2, .invokevirtual 37, .ireturn])]
def md_Desk_breach : pm_M := ((⟨"QuestionDesk", "breach", "(IIIZ)I"⟩, prog_1_method_36_code, 6, some .int), (4, 9), cd_Desk_breach)
def cd_Desk_finds : List (Nat × List Instr) := [(0, [.aload 0, .getfield 576, .iload 1, .invokevirtual 6, .astore 3, .aload 3, .ifnull 2]),
  (13, [.iload 2, .invokestatic 115, .ifCond .ne 3]),
  (20, [.iconst (-1), .ireturn]),
  (22, [.aload 0, .aload 3, .iconst 0, .invokevirtual 133, .iload 2, .if_icmp .ne 5]),
  (32, [.iconst 1, .goto 6]),
  (36, [.iconst 0]),
  (37, [.istore 4, .aload 0, .aload 3, .iconst 1, .invokevirtual 133, .iload 2, .if_icmp .ne 8]),
  (49, [.iconst 2, .goto 9]),
  (53, [.iconst 0]),
  (54, [.istore 5, .iload 4, .iload 5, .iadd, .ireturn])]
def md_Desk_finds : pm_M := ((⟨"QuestionDesk", "finds", "(II)I"⟩, prog_1_method_37_code, 6, some .int), (2, 9), cd_Desk_finds)
def cd_Desk_image : List (Nat × List Instr) := [(0, [.aload 0, .getfield 577, .aload 0, .getfield 576, .invokevirtual 7, .aload 0, .iconst 1, .putfield 578, .aload 0, .getfield 576, .getfield 2, .ireturn])]
def md_Desk_image : pm_M := ((⟨"QuestionDesk", "image", "()I"⟩, prog_1_method_38_code, 1, some .int), (0, 9), cd_Desk_image)
def cd_Desk_restore : List (Nat × List Instr) := [(0, [.aload 0, .getfield 578, .ifCond .ne 2]),
  (7, [.iconst (-3), .ireturn]),
  (10, [.aload 0, .getfield 576, .aload 0, .getfield 577, .invokevirtual 7, .aload 0, .getfield 576, .getfield 2, .ireturn])]
def md_Desk_restore : pm_M := ((⟨"QuestionDesk", "restore", "()I"⟩, prog_1_method_39_code, 1, some .int), (0, 9), cd_Desk_restore)
def cd_Desk_count : List (Nat × List Instr) := [(0, [.iload 1, .tableswitch 8 0 6 #[1, 2, 3, 4, 5, 6, 7]]),
  (44, [.aload 0, .getfield 576, .getfield 0, .ireturn]),
  (52, [.aload 0, .getfield 576, .getfield 1, .ireturn]),
  (60, [.aload 0, .getfield 576, .getfield 2, .ireturn]),
  (68, [.aload 0, .getfield 576, .invokevirtual 8, .ireturn]),
  (76, [.aload 0, .getfield 576, .getfield 3, .ireturn]),
  (84, [.aload 0, .getfield 576, .invokevirtual 9, .ireturn]),
  (92, [.aload 0, .getfield 576, .invokevirtual 10, .ireturn]),
  (100, [.iconst (-1), .ireturn])]
def md_Desk_count : pm_M := ((⟨"QuestionDesk", "count", "(I)I"⟩, prog_1_method_40_code, 2, some .int), (1, 9), cd_Desk_count)
def cd_Desk_keep : List (Nat × List Instr) := [(0, [.aload 0, .iload 1, .invokevirtual 123, .astore 4, .aload 4, .ifnull 2]),
  (12, [.iload 2, .iconst 0, .iconst 1, .invokestatic 111, .ifCond .ne 3]),
  (21, [.iconst (-1), .ireturn]),
  (23, [.iload 2, .ifCond .ne 5]),
  (27, [.aload 4, .iconst 0, .putfield 448, .iconst 0, .ireturn]),
  (35, [.aload 0, .getfield 576, .iload 3, .invokevirtual 5, .astore 5, .aload 5, .ifnonnull 7]),
  (50, [.iconst (-1), .ireturn]),
  (52, [.aload 4, .getfield 451, .aload 5, .invokevirtual 45, .aload 4, .iconst 1, .putfield 448, .iconst 0, .ireturn])]
def md_Desk_keep : pm_M := ((⟨"QuestionDesk", "keep", "(III)I"⟩, prog_1_method_41_code, 6, some .int), (3, 9), cd_Desk_keep)
def cd_Desk_row : List (Nat × List Instr) := [(0, [.aload 0, .iload 1, .invokevirtual 123, .astore 4, .aload 4, .ifnull 3]),
  (12, [.iload 2, .iconst 0, .iconst 2, .invokestatic 111, .ifCond .eq 3]),
  (21, [.iload 3, .iconst 120, .if_icmp .le 4]),
  (27, [.iconst (-1), .ireturn]),
  (29, [.iload 3, .ifCond .ge 6]),
  (33, [.iconst (-14), .ireturn]),
  (36, [.aload 4, .iload 2, .iload 3, .invokevirtual 101, .iconst 0, .ireturn])]
def md_Desk_row : pm_M := ((⟨"QuestionDesk", "row", "(III)I"⟩, prog_1_method_42_code, 5, some .int), (3, 9), cd_Desk_row)
def cd_Desk_put : List (Nat × List Instr) := [(0, [.aload 0, .iload 1, .invokevirtual 123, .astore 4, .aload 4, .ifnonnull 2]),
  (12, [.iconst (-1), .ireturn]),
  (14, [.aload 4, .invokevirtual 102, .istore 5, .iload 5, .ifCond .eq 4]),
  (26, [.iload 5, .ireturn]),
  (29, [.iload 2, .iconst 0, .aload 4, .getfield 450, .iconst 1, .isub, .invokestatic 111, .ifCond .ne 6]),
  (44, [.iconst (-13), .ireturn]),
  (47, [.aload 4, .getfield 452, .iload 2, .aload 4, .iload 3, .invokevirtual 103, .iastore, .iconst 0, .ireturn])]
def md_Desk_put : pm_M := ((⟨"QuestionDesk", "put", "(III)I"⟩, prog_1_method_43_code, 6, some .int), (3, 9), cd_Desk_put)
def cd_Desk_copy : List (Nat × List Instr) := [(0, [.aload 0, .iload 1, .invokevirtual 123, .astore 6, .aload 0, .iload 3, .invokevirtual 123, .astore 7, .aload 6, .ifnull 2]),
  (19, [.aload 7, .ifnonnull 3]),
  (24, [.iconst (-1), .ireturn]),
  (26, [.aload 6, .getfield 448, .ifCond .eq 5]),
  (34, [.aload 7, .getfield 448, .ifCond .ne 6]),
  (42, [.iconst (-11), .ireturn]),
  (45, [.aload 6, .getfield 448, .iconst 2, .if_icmp .ne 9]),
  (54, [.aload 7, .getfield 448, .iconst 2, .if_icmp .ne 9]),
  (63, [.aload 6, .getfield 449, .aload 7, .getfield 449, .if_icmp .eq 10]),
  (76, [.iconst (-12), .ireturn]),
  (79, [.aload 6, .iload 2, .iload 5, .invokevirtual 104, .ifCond .eq 12]),
  (90, [.aload 7, .iload 4, .iload 5, .invokevirtual 104, .ifCond .ne 13]),
  (102, [.iconst (-13), .ireturn]),
  (105, [.aload 6, .getfield 452, .iload 2, .aload 7, .getfield 452, .iload 4, .iload 5, .swap, .iload 5, .ireturn])]
def md_Desk_copy : pm_M := ((⟨"QuestionDesk", "copy", "(IIIII)I"⟩, prog_1_method_45_code, 8, some .int), (5, 9), cd_Desk_copy)
def cd_Desk_heft : List (Nat × List Instr) := [(0, [.aload 0, .iload 1, .invokevirtual 123, .astore 2, .aload 2, .ifnonnull 2]),
  (10, [.iconst (-1), .ireturn]),
  (12, [.aload 2, .invokevirtual 105, .istore 3, .iload 3, .ifCond .eq 4]),
  (21, [.iload 3, .goto 5]),
  (25, [.aload 2, .getfield 451, .invokevirtual 44]),
  (32, [.ireturn])]
def md_Desk_heft : pm_M := ((⟨"QuestionDesk", "heft", "(I)I"⟩, prog_1_method_46_code, 4, some .int), (1, 9), cd_Desk_heft)
def cd_Desk_toss : List (Nat × List Instr) := []
def md_Desk_toss : pm_M := ((⟨"QuestionDesk", "toss", "(I)I"⟩, prog_1_method_47_code, 6, some .int), (1, 9), cd_Desk_toss)
def cd_Model_init : List (Nat × List Instr) := [(0, [.aload 0, .monitorenter, .aload 0, .iconst 200, .newarray .int, .putfield 641, .aload 0, .iconst 200, .newarray .int, .putfield 642, .aload 0, .iconst 12, .newarray .int, .putfield 644, .aload 0, .iconst 12, .newarray .int, .putfield 645, .aload 0, .iconst 1200, .newarray .int, .putfield 646, .aload 0, .iconst 1200, .newarray .int, .putfield 647, .aload 0, .iconst 1200, .newarray .int, .putfield 648, .aload 0, .iconst 1200, .newarray .int, .putfield 649, .aload 0, .iconst 1200, .newarray .int, .putfield 650, .aload 0, .iconst 110, .newarray .int, .putfield 657, .aload 0, .iconst 110, .newarray .int, .putfield 658, .aload 0, .iconst 110, .newarray .int, .putfield 659, .aload 0, .iconst 110, .newarray .int, .putfield 660, .aload 0, .iconst 110, .newarray .int, .putfield 661, .aload 0, .iconst 6, .newarray .int, .putfield 662, .aload 0, .iconst 6, .newarray .int, .putfield 663, .aload 0, .iconst 6, .newarray .int, .putfield 664, .aload 0, .iconst 6, .newarray .int, .putfield 665, .aload 0, .iconst (-1), .putfield 668, .aload 0, .iconst (-1), .putfield 671, .aload 0, .iconst 7, .newarray .int, .putfield 672, .aload 0, .iconst 3, .newarray .int, .putfield 676, .aload 0, .iconst 110, .newarray .int, .putfield 677, .aload 0, .iconst 110, .newarray .int, .putfield 678, .aload 0, .iconst 110, .newarray .int, .putfield 679, .aload 0, .iconst 660, .newarray .int, .putfield 680, .aload 0, .iconst 110, .newarray .int, .putfield 681, .aload 0, .iconst 110, .newarray .int, .putfield 682, .aload 0, .iconst 110, .newarray .int, .putfield 683, .aload 0, .iconst 7, .newarray .int, .putfield 684, .aload 0, .iconst 56, .newarray .int, .putfield 686, .aload 0, .iconst 6, .newarray .int, .putfield 687, .aload 0, .iconst 7, .newarray .int, .putfield 688, .aload 0, .iconst 7, .newarray .int, .putfield 689, .aload 0, .iconst 8, .newarray .int, .putfield 690, .aload 0, .iconst 8, .newarray .int, .putfield 691, .aload 0, .iconst 8, .newarray .int, .putfield 692, .aload 0, .iconst 8, .newarray .int, .putfield 693, .aload 0, .iconst 8, .newarray .int, .putfield 694, .aload 0, .iconst 960, .newarray .long, .putfield 695, .aload 0, .iconst 120, .newarray .long, .putfield 696, .aload 0, .getfield 641, .iconst 0, .iconst 3, .iastore, .return_])]
def md_Model_init : pm_M := ((⟨"QuestionDeskModel", "<init>", "()V"⟩, prog_12_method_1_code, 1, none), (0, 10), cd_Model_init)
def cd_Model_thrown : List (Nat × List Instr) := [(0, [.aload 0, .getfield 640, .ireturn])]
def md_Model_thrown : pm_M := ((⟨"QuestionDeskModel", "thrown", "()I"⟩, prog_12_method_2_code, 1, some .int), (0, 10), cd_Model_thrown)
def cd_Model_set : List (Nat × List Instr) := [(0, [.aload 0, .iconst 0, .putfield 640, .iload 1, .iconst 0, .iconst 1, .invokestatic 166, .ifCond .eq 8]),
  (14, [.iload 2, .iload 1, .ifCond .ne 3]),
  (19, [.iconst 1, .goto 4]),
  (23, [.iconst 0]),
  (24, [.iload 1, .ifCond .ne 6]),
  (28, [.iconst 7, .goto 7]),
  (33, [.iconst 1]),
  (34, [.invokestatic 166, .ifCond .ne 9]),
  (40, [.iconst (-1), .ireturn]),
  (42, [.aload 0, .getfield 641, .iload 1, .iaload, .istore 3, .aload 0, .getfield 641, .iload 1, .iload 2, .iastore, .iload 3, .ireturn])]
def md_Model_set : pm_M := ((⟨"QuestionDeskModel", "set", "(II)I"⟩, prog_12_method_8_code, 4, some .int), (2, 10), cd_Model_set)
def cd_Model_in : List (Nat × List Instr) := [(0, [.iload 0, .iload 1, .if_icmp .lt 3]),
  (5, [.iload 0, .iload 2, .if_icmp .gt 3]),
  (10, [.iconst 1, .goto 4]),
  (14, [.iconst 0]),
  (15, [.ireturn])]
def md_Model_in : pm_M := ((⟨"QuestionDeskModel", "in", "(III)Z"⟩, prog_12_method_3_code, 3, some .boolean), (3, 99), cd_Model_in)
def cd_Model_member : List (Nat × List Instr) := [(0, [.aload 0, .iconst 0, .putfield 640, .iload 1, .iconst 0, .iconst 5, .invokestatic 166, .ifCond .eq 4]),
  (14, [.iload 2, .ifCond .lt 4]),
  (18, [.iload 2, .iconst 10, .idiv, .iconst 1, .iconst 9, .invokestatic 166, .ifCond .eq 4]),
  (31, [.iload 1, .iload 2, .iconst 10, .irem, .invokestatic 168, .ifCond .ne 5]),
  (42, [.iconst (-1), .ireturn]),
  (44, [.aload 0, .getfield 641, .iconst 2, .iaload, .iconst 9, .if_icmp .ne 7]),
  (55, [.iconst (-2), .ireturn]),
  (58, [.aload 0, .getfield 641, .iconst 2, .iaload, .istore 3, .aload 0, .getfield 641, .iconst 10, .iload 3, .iadd, .iload 1, .iastore, .aload 0, .getfield 641, .iconst 20, .iload 3, .iadd, .iload 2, .iconst 10, .idiv, .iastore, .aload 0, .getfield 641, .iconst 30, .iload 3, .iadd, .iload 2, .iconst 10, .irem, .iastore, .aload 0, .getfield 641, .iconst 40, .iload 3, .iadd, .iconst 0, .iastore, .aload 0, .getfield 641, .iconst 50, .iload 3, .iadd, .iconst 0, .iastore, .iconst 0, .istore 4]),
  (124, [.iload 4, .iconst 7, .if_icmp .ge 10]),
  (131, [.aload 0, .getfield 641, .iconst 60, .iconst 7, .iload 3, .imul, .iadd, .iload 4, .iadd, .iconst 5, .iastore, .aload 0, .getfield 641, .iconst 130, .iconst 7, .iload 3, .imul, .iadd, .iload 4, .iadd, .iconst 5, .iastore, .iinc 4 1, .goto 8]),
  (170, [.aload 0, .getfield 641, .iconst 2, .dup2, .iaload, .iconst 1, .iadd, .iastore, .iload 3, .ireturn])]
def md_Model_member : pm_M := ((⟨"QuestionDeskModel", "member", "(II)I"⟩, prog_12_method_10_code, 5, some .int), (2, 10), cd_Model_member)
def cd_Model_isNumber : List (Nat × List Instr) := [(0, [.iload 1, .iconst 0, .iload 0, .iconst 2, .if_icmp .ne 2]),
  (7, [.iconst 5, .goto 6]),
  (11, [.iload 0, .iconst 3, .if_icmp .eq 4]),
  (16, [.iload 0, .iconst 4, .if_icmp .ne 5]),
  (21, [.iconst 2, .goto 6]),
  (25, [.iconst 0]),
  (26, [.invokestatic 166, .ireturn])]
def md_Model_isNumber : pm_M := ((⟨"QuestionDeskModel", "isNumber", "(II)Z"⟩, prog_12_method_9_code, 2, some .boolean), (2, 99), cd_Model_isNumber)
def cd_Model_bought : List (Nat × List Instr) := [(0, [.aload 0, .iconst 0, .putfield 640, .aload 0, .iload 1, .invokevirtual 170, .ifCond .eq 2]),
  (13, [.iload 2, .invokestatic 171, .ifCond .ne 3]),
  (20, [.iconst (-1), .ireturn]),
  (22, [.aload 0, .getfield 641, .iconst 10, .iload 1, .iadd, .iaload, .iconst 4, .if_icmp .eq 5]),
  (35, [.iconst (-3), .ireturn]),
  (38, [.aload 0, .getfield 641, .iconst 40, .iload 1, .iadd, .iaload, .istore 3, .aload 0, .getfield 641, .iconst 40, .iload 1, .iadd, .iload 2, .iastore, .iload 3, .ireturn])]
def md_Model_bought : pm_M := ((⟨"QuestionDeskModel", "bought", "(II)I"⟩, prog_12_method_11_code, 4, some .int), (2, 10), cd_Model_bought)
def cd_Model_isMember : List (Nat × List Instr) := [(0, [.iload 1, .iconst 0, .aload 0, .getfield 641, .iconst 2, .iaload, .iconst 1, .isub, .invokestatic 166, .ireturn])]
def md_Model_isMember : pm_M := ((⟨"QuestionDeskModel", "isMember", "(I)Z"⟩, prog_12_method_6_code, 2, some .boolean), (1, 10), cd_Model_isMember)
def cd_Model_isEnd : List (Nat × List Instr) := [(0, [.iload 0, .iconst 0, .iconst 6, .invokestatic 166, .ireturn])]
def md_Model_isEnd : pm_M := ((⟨"QuestionDeskModel", "isEnd", "(I)Z"⟩, prog_12_method_4_code, 1, some .boolean), (1, 99), cd_Model_isEnd)
def cd_Model_becomes : List (Nat × List Instr) := [(0, [.aload 0, .iconst 0, .putfield 640, .aload 0, .iload 1, .invokevirtual 170, .ifCond .eq 4]),
  (13, [.iload 2, .ifCond .lt 4]),
  (17, [.iload 2, .iconst 10, .idiv, .iconst 0, .iconst 5, .invokestatic 166, .ifCond .eq 4]),
  (29, [.iload 2, .iconst 10, .idiv, .iload 2, .iconst 10, .irem, .invokestatic 168, .ifCond .ne 5]),
  (43, [.iconst (-1), .ireturn]),
  (45, [.aload 0, .getfield 641, .iconst 10, .iload 1, .iadd, .iaload, .istore 3, .aload 0, .getfield 641, .iconst 10, .iload 1, .iadd, .iload 2, .iconst 10, .idiv, .iastore, .aload 0, .getfield 641, .iconst 30, .iload 1, .iadd, .iload 2, .iconst 10, .irem, .iastore, .iload 3, .ireturn])]
def md_Model_becomes : pm_M := ((⟨"QuestionDeskModel", "becomes", "(II)I"⟩, prog_12_method_12_code, 4, some .int), (2, 10), cd_Model_becomes)
def cd_Model_wish : List (Nat × List Instr) := [(0, [.aload 0, .iconst 0, .putfield 640, .aload 0, .iload 1, .invokevirtual 170, .ifCond .eq 4]),
  (13, [.iload 2, .invokestatic 171, .ifCond .eq 4]),
  (20, [.iload 3, .iconst 0, .iconst 9, .invokestatic 166, .ifCond .eq 4]),
  (30, [.aload 0, .iconst 60, .iconst 7, .iload 1, .imul, .iadd, .iload 2, .iadd, .iload 3, .invokevirtual 174, .goto 5]),
  (47, [.iconst (-1)]),
  (48, [.ireturn])]
def md_Model_wish : pm_M := ((⟨"QuestionDeskModel", "wish", "(III)I"⟩, prog_12_method_14_code, 4, some .int), (3, 10), cd_Model_wish)
def cd_Model_change : List (Nat × List Instr) := [(0, [.aload 0, .getfield 641, .iload 1, .iaload, .istore 3, .aload 0, .getfield 641, .iload 1, .iload 2, .iastore, .iload 3, .ireturn])]
def md_Model_change : pm_M := ((⟨"QuestionDeskModel", "change", "(II)I"⟩, prog_12_method_13_code, 4, some .int), (2, 10), cd_Model_change)
def cd_Model_doubted : List (Nat × List Instr) := [(0, [.aload 0, .iconst 0, .putfield 640, .aload 0, .iload 1, .invokevirtual 170, .ifCond .eq 4]),
  (13, [.iload 2, .invokestatic 171, .ifCond .eq 4]),
  (20, [.iload 3, .iconst 0, .iconst 9, .invokestatic 166, .ifCond .eq 4]),
  (30, [.aload 0, .iconst 130, .iconst 7, .iload 1, .imul, .iadd, .iload 2, .iadd, .iload 3, .invokevirtual 174, .goto 5]),
  (48, [.iconst (-1)]),
  (49, [.ireturn])]
def md_Model_doubted : pm_M := ((⟨"QuestionDeskModel", "doubted", "(III)I"⟩, prog_12_method_15_code, 4, some .int), (3, 10), cd_Model_doubted)
def cd_Model_sure : List (Nat × List Instr) := [(0, [.aload 0, .iconst 0, .putfield 640, .aload 0, .iload 1, .invokevirtual 170, .ifCond .eq 3]),
  (13, [.iload 2, .iconst 0, .iconst 100, .invokestatic 166, .ifCond .eq 3]),
  (23, [.aload 0, .iconst 50, .iload 1, .iadd, .iload 2, .invokevirtual 174, .goto 4]),
  (35, [.iconst (-1)]),
  (36, [.ireturn])]
def md_Model_sure : pm_M := ((⟨"QuestionDeskModel", "sure", "(II)I"⟩, prog_12_method_16_code, 3, some .int), (2, 10), cd_Model_sure)
def cd_Model_about : List (Nat × List Instr) := [(0, [.aload 0, .iconst 0, .putfield 640, .aload 0, .iload 1, .invokevirtual 170, .ifCond .eq 2]),
  (13, [.iload 2, .iconst 0, .iconst 4, .invokestatic 166, .ifCond .ne 3]),
  (22, [.iconst (-1), .ireturn]),
  (24, [.iload 2, .ifCond .ne 5]),
  (28, [.aload 0, .getfield 641, .iconst 10, .iload 1, .iadd, .iaload, .goto 12]),
  (40, [.iload 2, .iconst 1, .if_icmp .ne 7]),
  (45, [.aload 0, .getfield 641, .iconst 20, .iload 1, .iadd, .iaload, .goto 12]),
  (57, [.iload 2, .iconst 2, .if_icmp .ne 9]),
  (62, [.aload 0, .getfield 641, .iconst 30, .iload 1, .iadd, .iaload, .goto 12]),
  (74, [.iload 2, .iconst 3, .if_icmp .ne 11]),
  (79, [.aload 0, .iload 1, .invokevirtual 178, .goto 12]),
  (87, [.aload 0, .getfield 641, .iconst 50, .iload 1, .iadd, .iaload]),
  (96, [.ireturn])]
def md_Model_about : pm_M := ((⟨"QuestionDeskModel", "about", "(II)I"⟩, prog_12_method_18_code, 3, some .int), (2, 10), cd_Model_about)
def cd_Model_heftOf : List (Nat × List Instr) := [(0, [.aload 0, .getfield 641, .iconst 20, .iload 1, .iadd, .iaload, .istore 2, .aload 0, .getfield 641, .iconst 10, .iload 1, .iadd, .iaload, .tableswitch 6 0 4 #[1, 2, 3, 4, 5]]),
  (52, [.iload 2, .ireturn]),
  (54, [.iload 2, .iconst 1, .iadd, .ireturn]),
  (58, [.iload 2, .iconst 1, .iadd, .aload 0, .getfield 641, .iconst 30, .iload 1, .iadd, .iaload, .iadd, .ireturn]),
  (72, [.iconst 2, .iload 2, .imul, .ireturn]),
  (76, [.iconst 2, .iload 2, .imul, .iconst 1, .isub, .ireturn]),
  (82, [.iload 2, .iconst 2, .idiv, .ireturn])]
def md_Model_heftOf : pm_M := ((⟨"QuestionDeskModel", "heftOf", "(I)I"⟩, prog_12_method_17_code, 3, some .int), (1, 10), cd_Model_heftOf)
def cd_Model_fault : List (Nat × List Instr) := [(0, [.aload 0, .iconst 0, .putfield 640, .aload 0, .iload 1, .invokevirtual 180, .istore 2, .iload 2, .ifCond .ge 2]),
  (15, [.iload 2, .ireturn]),
  (17, [.aload 0, .iload 1, .invokevirtual 181, .istore 3, .iload 3, .ifCond .ge 4]),
  (27, [.iconst (-4), .goto 5]),
  (32, [.iload 3]),
  (33, [.ireturn])]
def md_Model_fault : pm_M := ((⟨"QuestionDeskModel", "fault", "(I)I"⟩, prog_12_method_27_code, 4, some .int), (1, 10), cd_Model_fault)
def cd_Model_lacks : List (Nat × List Instr) := [(0, [.iload 1, .iconst 0, .iconst 7, .invokestatic 166, .ifCond .ne 2]),
  (10, [.iconst (-1), .ireturn]),
  (12, [.aload 0, .getfield 690, .iload 1, .iaload, .ifCond .ne 4]),
  (21, [.iconst (-11), .goto 8]),
  (26, [.aload 0, .getfield 690, .iload 1, .iaload, .iconst 2, .if_icmp .ne 6]),
  (36, [.aload 0, .getfield 693, .iload 1, .iaload, .ifCond .eq 7]),
  (45, [.iconst (-12), .goto 8]),
  (50, [.iconst 0]),
  (51, [.ireturn])]
def md_Model_lacks : pm_M := ((⟨"QuestionDeskModel", "lacks", "(I)I"⟩, prog_12_method_26_code, 2, some .int), (1, 10), cd_Model_lacks)
def cd_Model_faultOf : List (Nat × List Instr) := [(0, [.aload 0, .iconst 120, .iload 1, .imul, .putfield 651, .aload 0, .aload 0, .getfield 694, .iload 1, .iaload, .putfield 652, .aload 0, .iconst 0, .putfield 653, .aload 0, .iconst 0, .putfield 654, .aload 0, .iconst 0, .putfield 667, .aload 0, .iconst 0, .putfield 655, .aload 0, .iconst 0, .putfield 656, .aload 0, .iconst 0, .putfield 666]),
  (48, [.aload 0, .getfield 654, .ifCond .ne 15]),
  (55, [.aload 0, .getfield 667, .ifCond .ne 15]),
  (62, [.aload 0, .invokevirtual 182, .istore 2, .iload 2, .iconst 40, .if_icmp .eq 5]),
  (73, [.iload 2, .iconst 123, .if_icmp .ne 9]),
  (79, [.aload 0, .iload 2, .iconst 40, .if_icmp .ne 7]),
  (86, [.iconst 1, .goto 8]),
  (90, [.iconst 2]),
  (91, [.invokevirtual 183, .goto 14]),
  (97, [.aload 0, .invokevirtual 184, .istore 3, .aload 0, .getfield 654, .ifCond .ne 14]),
  (109, [.aload 0, .aload 0, .getfield 666, .ifCond .ne 12]),
  (117, [.iconst 1, .goto 13]),
  (121, [.iconst 0]),
  (122, [.putfield 667, .aload 0, .aload 0, .iconst 0, .iconst (-1), .iconst (-1), .iload 3, .iconst 0, .invokevirtual 186, .invokevirtual 187]),
  (138, [.goto 1]),
  (141, [.aload 0, .aload 0, .getfield 654, .ifCond .ne 17]),
  (149, [.aload 0, .getfield 653, .aload 0, .getfield 652, .if_icmp .ge 18]),
  (160, [.iconst 1, .goto 19]),
  (164, [.iconst 0]),
  (165, [.putfield 654, .aload 0, .getfield 654, .ifCond .eq 21]),
  (175, [.aload 0, .getfield 653, .goto 22]),
  (182, [.iconst (-1)]),
  (183, [.ireturn])]
def md_Model_faultOf : pm_M := ((⟨"QuestionDeskModel", "faultOf", "(I)I"⟩, prog_12_method_25_code, 4, some .int), (1, 10), cd_Model_faultOf)
def cd_Model_here : List (Nat × List Instr) := [(0, [.aload 0, .getfield 653, .aload 0, .getfield 652, .if_icmp .lt 2]),
  (11, [.iconst (-1), .goto 3]),
  (15, [.aload 0, .getfield 695, .aload 0, .getfield 651, .aload 0, .getfield 653, .iadd, .laload, .l2i, .iconst 255, .iand]),
  (34, [.ireturn])]
def md_Model_here : pm_M := ((⟨"QuestionDeskModel", "here", "()I"⟩, prog_12_method_19_code, 1, some .int), (0, 10), cd_Model_here)
def cd_Model_begin : List (Nat × List Instr) := [(0, [.aload 0, .aload 0, .getfield 666, .iconst 6, .if_icmp .ne 2]),
  (10, [.iconst 1, .goto 3]),
  (14, [.iconst 0]),
  (15, [.putfield 654, .aload 0, .getfield 654, .ifCond .eq 5]),
  (25, [.return_]),
  (26, [.aload 0, .dup, .getfield 653, .iconst 1, .iadd, .putfield 653, .aload 0, .getfield 662, .aload 0, .getfield 666, .iload 1, .iastore, .aload 0, .getfield 663, .aload 0, .getfield 666, .iconst (-1), .iastore, .aload 0, .getfield 664, .aload 0, .getfield 666, .iload 1, .iconst 1, .if_icmp .ne 7]),
  (69, [.aload 0, .getfield 656, .goto 8]),
  (76, [.iconst 0]),
  (77, [.iastore, .aload 0, .dup, .getfield 656, .iload 1, .iconst 1, .if_icmp .ne 10]),
  (88, [.iconst 1, .goto 11]),
  (92, [.iconst 0]),
  (93, [.iadd, .putfield 656, .iload 1, .iconst 2, .if_icmp .ne 19]),
  (102, [.aload 0, .getfield 664, .aload 0, .getfield 666, .aload 0, .invokevirtual 184, .iastore, .aload 0, .getfield 654, .ifCond .ne 19]),
  (122, [.aload 0, .iconst 62, .invokevirtual 185, .ifCond .eq 19]),
  (131, [.aload 0, .getfield 665, .aload 0, .getfield 666, .aload 0, .invokevirtual 184, .iastore, .aload 0, .aload 0, .getfield 654, .ifCond .ne 16]),
  (152, [.aload 0, .iconst 58, .invokevirtual 185, .ifCond .ne 17]),
  (161, [.iconst 1, .goto 18]),
  (165, [.iconst 0]),
  (166, [.putfield 654]),
  (169, [.aload 0, .dup, .getfield 666, .iconst 1, .iadd, .putfield 666, .return_])]
def md_Model_begin : pm_M := ((⟨"QuestionDeskModel", "begin", "(I)V"⟩, prog_12_method_23_code, 2, none), (1, 10), cd_Model_begin)
def cd_Model_readEnd : List (Nat × List Instr) := [(0, [.aload 0, .invokevirtual 182, .istore 1, .aload 0, .iload 1, .iconst 48, .iconst 48, .aload 0, .getfield 641, .iconst 0, .iaload, .iadd, .iconst 1, .isub, .invokestatic 166, .ifCond .ne 2]),
  (26, [.iconst 1, .goto 3]),
  (30, [.iconst 0]),
  (31, [.putfield 654, .aload 0, .dup, .getfield 653, .aload 0, .getfield 654, .ifCond .eq 5]),
  (46, [.iconst 0, .goto 6]),
  (50, [.iconst 1]),
  (51, [.iadd, .putfield 653, .iload 1, .iconst 48, .isub, .ireturn])]
def md_Model_readEnd : pm_M := ((⟨"QuestionDeskModel", "readEnd", "()I"⟩, prog_12_method_21_code, 2, some .int), (0, 10), cd_Model_readEnd)
def cd_Model_take : List (Nat × List Instr) := [(0, [.aload 0, .aload 0, .invokevirtual 182, .iload 1, .if_icmp .eq 2]),
  (9, [.iconst 1, .goto 3]),
  (13, [.iconst 0]),
  (14, [.putfield 654, .aload 0, .dup, .getfield 653, .aload 0, .getfield 654, .ifCond .eq 5]),
  (29, [.iconst 0, .goto 6]),
  (33, [.iconst 1]),
  (34, [.iadd, .putfield 653, .aload 0, .getfield 654, .ifCond .ne 8]),
  (45, [.iconst 1, .goto 9]),
  (49, [.iconst 0]),
  (50, [.ireturn])]
def md_Model_take : pm_M := ((⟨"QuestionDeskModel", "take", "(I)Z"⟩, prog_12_method_20_code, 2, some .boolean), (1, 10), cd_Model_take)
def cd_Model_add : List (Nat × List Instr) := [(0, [.aload 0, .getfield 657, .aload 0, .getfield 655, .iload 1, .iastore, .aload 0, .getfield 658, .aload 0, .getfield 655, .iload 2, .iastore, .aload 0, .getfield 659, .aload 0, .getfield 655, .iload 3, .iastore, .aload 0, .getfield 660, .aload 0, .getfield 655, .iload 4, .iastore, .aload 0, .getfield 661, .aload 0, .getfield 655, .iload 5, .iastore, .aload 0, .dup, .getfield 655, .iconst 1, .iadd, .putfield 655, .aload 0, .getfield 655, .iconst 1, .isub, .ireturn])]
def md_Model_add : pm_M := ((⟨"QuestionDeskModel", "add", "(IIIII)I"⟩, prog_12_method_22_code, 6, some .int), (5, 10), cd_Model_add)
def cd_Model_part : List (Nat × List Instr) := [(0, [.iload 1, .istore 2, .aload 0, .getfield 666, .ifCond .le 2]),
  (9, [.iconst 1, .goto 3]),
  (13, [.iconst 0]),
  (14, [.istore 3]),
  (15, [.iload 3, .ifCond .eq 25]),
  (19, [.aload 0, .getfield 666, .iconst 1, .isub, .istore 4, .aload 0, .getfield 663, .iload 4, .iaload, .ifCond .ge 12]),
  (37, [.aload 0, .aload 0, .getfield 662, .iload 4, .iaload, .iconst 1, .if_icmp .ne 8]),
  (49, [.iconst 118, .goto 9]),
  (54, [.iconst 47]),
  (56, [.invokevirtual 185, .ifCond .eq 11]),
  (62, [.aload 0, .getfield 663, .iload 4, .iload 2, .iastore]),
  (70, [.iconst 0, .istore 3, .goto 24]),
  (75, [.aload 0, .aload 0, .getfield 662, .iload 4, .iaload, .iconst 1, .if_icmp .ne 14]),
  (87, [.iconst 41, .goto 15]),
  (92, [.iconst 125]),
  (94, [.invokevirtual 185, .ifCond .eq 23]),
  (100, [.aload 0, .aload 0, .getfield 662, .iload 4, .iaload, .aload 0, .getfield 663, .iload 4, .iaload, .iload 2, .aload 0, .getfield 664, .iload 4, .iaload, .aload 0, .getfield 665, .iload 4, .iaload, .invokevirtual 186, .istore 2, .aload 0, .dup, .getfield 666, .iconst 1, .isub, .putfield 666, .aload 0, .getfield 666, .ifCond .le 18]),
  (151, [.iconst 1, .goto 19]),
  (155, [.iconst 0]),
  (156, [.istore 3, .aload 0, .aload 0, .getfield 666, .ifCond .ne 21]),
  (165, [.iconst 1, .goto 22]),
  (169, [.iconst 0]),
  (170, [.putfield 667, .goto 24]),
  (176, [.iconst 0, .istore 3]),
  (178, [.goto 4]),
  (181, [.return_])]
def md_Model_part : pm_M := ((⟨"QuestionDeskModel", "part", "(I)V"⟩, prog_12_method_24_code, 5, none), (1, 10), cd_Model_part)
def cd_Model_tree : List (Nat × List Instr) := [(0, [.aload 0, .iconst 0, .putfield 640, .iload 1, .iconst 0, .iconst 7, .invokestatic 166, .ifCond .ne 2]),
  (15, [.iconst (-1), .ireturn]),
  (17, [.aload 0, .getfield 641, .iconst 3, .iaload, .iconst 12, .if_icmp .ne 4]),
  (28, [.iconst (-2), .ireturn]),
  (31, [.aload 0, .iload 1, .invokevirtual 180, .istore 2, .iload 2, .ifCond .ge 6]),
  (41, [.iload 2, .ireturn]),
  (43, [.aload 0, .iload 1, .invokevirtual 181, .istore 3, .iload 3, .ifCond .lt 8]),
  (53, [.iconst (-100), .iload 3, .isub, .ireturn]),
  (58, [.aload 0, .getfield 641, .iconst 3, .iaload, .istore 4, .iconst 0, .istore 5]),
  (69, [.iload 5, .aload 0, .getfield 655, .if_icmp .ge 11]),
  (78, [.aload 0, .getfield 646, .iconst 100, .iload 4, .imul, .iload 5, .iadd, .aload 0, .getfield 657, .iload 5, .iaload, .iastore, .aload 0, .getfield 647, .iconst 100, .iload 4, .imul, .iload 5, .iadd, .aload 0, .getfield 658, .iload 5, .iaload, .iastore, .aload 0, .getfield 648, .iconst 100, .iload 4, .imul, .iload 5, .iadd, .aload 0, .getfield 659, .iload 5, .iaload, .iastore, .aload 0, .getfield 649, .iconst 100, .iload 4, .imul, .iload 5, .iadd, .aload 0, .getfield 660, .iload 5, .iaload, .iastore, .aload 0, .getfield 650, .iconst 100, .iload 4, .imul, .iload 5, .iadd, .aload 0, .getfield 661, .iload 5, .iaload, .iastore, .iinc 5 1, .goto 9]),
  (184, [.aload 0, .getfield 644, .iload 4, .aload 0, .getfield 655, .iastore, .aload 0, .getfield 645, .iload 4, .aload 0, .getfield 656, .iastore, .aload 0, .getfield 641, .iconst 3, .dup2, .iaload, .iconst 1, .iadd, .iastore, .iload 4, .ireturn])]
def md_Model_tree : pm_M := ((⟨"QuestionDeskModel", "tree", "(I)I"⟩, prog_12_method_28_code, 6, some .int), (1, 10), cd_Model_tree)
def cd_Model_beat : List (Nat × List Instr) := [(0, [.aload 0, .iconst 0, .putfield 640, .iload 1, .invokestatic 171, .ifCond .eq 3]),
  (12, [.iload 2, .invokestatic 171, .ifCond .eq 3]),
  (19, [.aload 0, .iload 1, .iload 2, .invokevirtual 190, .goto 4]),
  (28, [.iconst (-1000000001)]),
  (30, [.ireturn])]
def md_Model_beat : pm_M := ((⟨"QuestionDeskModel", "beat", "(II)I"⟩, prog_12_method_41_code, 3, some .int), (2, 10), cd_Model_beat)
def cd_Model_margin : List (Nat × List Instr) := [(0, [.iconst 0, .istore 3, .iconst 0, .istore 4]),
  (5, [.iload 4, .aload 0, .invokevirtual 191, .if_icmp .ge 8]),
  (14, [.aload 0, .iload 4, .iload 1, .invokevirtual 192, .istore 5, .aload 0, .iload 4, .iload 2, .invokevirtual 192, .istore 6, .iload 3, .iload 5, .iload 6, .if_icmp .ge 4]),
  (40, [.aload 0, .iload 4, .invokevirtual 195, .goto 7]),
  (49, [.iload 5, .iload 6, .if_icmp .le 6]),
  (56, [.aload 0, .iload 4, .invokevirtual 195, .ineg, .goto 7]),
  (66, [.iconst 0]),
  (67, [.iadd, .istore 3, .iinc 4 1, .goto 1]),
  (75, [.iload 3, .ireturn])]
def md_Model_margin : pm_M := ((⟨"QuestionDeskModel", "margin", "(II)I"⟩, prog_12_method_38_code, 7, some .int), (2, 10), cd_Model_margin)
def cd_Model_members : List (Nat × List Instr) := [(0, [.aload 0, .getfield 675, .ifCond .le 2]),
  (7, [.aload 0, .getfield 675, .goto 3]),
  (14, [.aload 0, .getfield 641, .iconst 2, .iaload]),
  (20, [.ireturn])]
def md_Model_members : pm_M := ((⟨"QuestionDeskModel", "members", "()I"⟩, prog_12_method_30_code, 1, some .int), (0, 10), cd_Model_members)
def cd_Model_wishOf : List (Nat × List Instr) := [(0, [.aload 0, .getfield 675, .ifCond .le 2]),
  (7, [.aload 0, .getfield 676, .iload 1, .iaload, .iload 2, .invokestatic 193, .ireturn]),
  (18, [.iload 1, .aload 0, .getfield 671, .if_icmp .ne 4]),
  (26, [.aload 0, .getfield 672, .iload 2, .iaload, .goto 7]),
  (35, [.aload 0, .getfield 670, .iload 1, .ishr, .iconst 1, .iand, .iconst 1, .if_icmp .ne 6]),
  (47, [.aload 0, .getfield 641, .iconst 130, .iconst 7, .iload 1, .imul, .iadd, .iload 2, .iadd, .iaload, .goto 7]),
  (65, [.aload 0, .getfield 641, .iconst 60, .iconst 7, .iload 1, .imul, .iadd, .iload 2, .iadd, .iaload]),
  (79, [.ireturn])]
def md_Model_wishOf : pm_M := ((⟨"QuestionDeskModel", "wishOf", "(II)I"⟩, prog_12_method_37_code, 3, some .int), (2, 10), cd_Model_wishOf)
def cd_Model_placeIn : List (Nat × List Instr) := [(0, [.iload 0, .iconst 0, .invokestatic 194, .iload 1, .if_icmp .ne 2]),
  (9, [.iconst 0, .goto 5]),
  (13, [.iload 0, .iconst 1, .invokestatic 194, .iload 1, .if_icmp .ne 4]),
  (22, [.iconst 1, .goto 5]),
  (26, [.iconst 2]),
  (27, [.ireturn])]
def md_Model_placeIn : pm_M := ((⟨"QuestionDeskModel", "placeIn", "(II)I"⟩, prog_12_method_36_code, 2, some .int), (2, 99), cd_Model_placeIn)
def cd_Model_liked : List (Nat × List Instr) := [(0, [.iload 0, .iconst 2, .idiv, .istore 2, .iload 2, .ifCond .ne 2]),
  (8, [.iconst 1, .goto 3]),
  (12, [.iconst 0]),
  (13, [.istore 3, .iconst 3, .iload 2, .isub, .iload 3, .isub, .istore 4, .iload 1, .ifCond .ne 5]),
  (25, [.iload 2, .goto 14]),
  (29, [.iload 1, .iconst 1, .if_icmp .ne 7]),
  (34, [.iconst 1, .goto 8]),
  (38, [.iconst 0]),
  (39, [.iload 0, .iconst 2, .irem, .ifCond .ne 10]),
  (45, [.iconst 1, .goto 11]),
  (49, [.iconst 0]),
  (50, [.if_icmp .ne 13]),
  (53, [.iload 3, .goto 14]),
  (57, [.iload 4]),
  (59, [.ireturn])]
def md_Model_liked : pm_M := ((⟨"QuestionDeskModel", "liked", "(II)I"⟩, prog_12_method_35_code, 5, some .int), (2, 99), cd_Model_liked)
def cd_Model_voicesOf : List (Nat × List Instr) := [(0, [.aload 0, .getfield 675, .ifCond .le 2]),
  (7, [.iconst 1, .goto 3]),
  (11, [.aload 0, .getfield 641, .iconst 20, .iload 1, .iadd, .iaload]),
  (20, [.ireturn])]
def md_Model_voicesOf : pm_M := ((⟨"QuestionDeskModel", "voicesOf", "(I)I"⟩, prog_12_method_31_code, 2, some .int), (1, 10), cd_Model_voicesOf)
def cd_Model_stands : List (Nat × List Instr) := [(0, [.aload 0, .iconst 0, .putfield 640, .iload 1, .invokestatic 171, .ifCond .eq 3]),
  (12, [.iload 2, .invokestatic 171, .ifCond .eq 3]),
  (19, [.aload 0, .iload 1, .iload 2, .invokevirtual 197, .goto 4]),
  (28, [.iconst (-1)]),
  (29, [.ireturn])]
def md_Model_stands : pm_M := ((⟨"QuestionDeskModel", "stands", "(II)I"⟩, prog_12_method_42_code, 3, some .int), (2, 10), cd_Model_stands)
def cd_Model_standing : List (Nat × List Instr) := [(0, [.aload 0, .iload 2, .iload 1, .invokevirtual 198, .ifCond .eq 2]),
  (9, [.iload 2, .goto 3]),
  (13, [.iload 1]),
  (14, [.ireturn])]
def md_Model_standing : pm_M := ((⟨"QuestionDeskModel", "standing", "(II)I"⟩, prog_12_method_40_code, 3, some .int), (2, 10), cd_Model_standing)
def cd_Model_beats : List (Nat × List Instr) := [(0, [.iload 1, .iload 2, .if_icmp .ne 2]),
  (5, [.iconst 0, .ireturn]),
  (7, [.aload 0, .iload 1, .iload 2, .invokevirtual 190, .istore 3, .iload 3, .ifCond .gt 8]),
  (18, [.iload 3, .ifCond .ne 9]),
  (22, [.aload 0, .getfield 641, .iconst 1, .iaload, .ifCond .ne 7]),
  (31, [.iload 1, .iload 2, .if_icmp .ge 9]),
  (36, [.goto 8]),
  (39, [.iload 1, .iload 2, .if_icmp .le 9]),
  (44, [.iconst 1, .goto 10]),
  (48, [.iconst 0]),
  (49, [.ireturn])]
def md_Model_beats : pm_M := ((⟨"QuestionDeskModel", "beats", "(II)Z"⟩, prog_12_method_39_code, 4, some .boolean), (2, 10), cd_Model_beats)
def cd_Model_of : List (Nat × List Instr) := [(0, [.aload 0, .iconst 0, .putfield 640, .aload 0, .iload 1, .invokevirtual 200, .ifCond .eq 2]),
  (13, [.iload 2, .iconst 0, .iconst 2, .invokestatic 166, .ifCond .ne 3]),
  (22, [.iconst (-1), .ireturn]),
  (24, [.iload 2, .ifCond .ne 5]),
  (28, [.aload 0, .getfield 645, .iload 1, .iaload, .ireturn]),
  (35, [.aload 0, .iload 1, .invokevirtual 201, .pop, .iload 2, .iconst 1, .if_icmp .ne 7]),
  (46, [.aload 0, .getfield 678, .aload 0, .getfield 655, .iconst 1, .isub, .iaload, .goto 8]),
  (60, [.aload 0, .getfield 677, .aload 0, .getfield 655, .iconst 1, .isub, .iaload]),
  (71, [.ireturn])]
def md_Model_of : pm_M := ((⟨"QuestionDeskModel", "of", "(II)I"⟩, prog_12_method_49_code, 3, some .int), (2, 10), cd_Model_of)
def cd_Model_isTree : List (Nat × List Instr) := [(0, [.iload 1, .iconst 0, .aload 0, .getfield 641, .iconst 3, .iaload, .iconst 1, .isub, .invokestatic 166, .ireturn])]
def md_Model_isTree : pm_M := ((⟨"QuestionDeskModel", "isTree", "(I)Z"⟩, prog_12_method_7_code, 2, some .boolean), (1, 10), cd_Model_isTree)
def cd_Model_endOf : List (Nat × List Instr) := [(0, [.aload 0, .iload 1, .invokevirtual 202, .aload 0, .invokevirtual 203, .ireturn])]
def md_Model_endOf : pm_M := ((⟨"QuestionDeskModel", "endOf", "(I)I"⟩, prog_12_method_48_code, 2, some .int), (1, 10), cd_Model_endOf)
def cd_Model_load : List (Nat × List Instr) := [(0, [.aload 0, .aload 0, .getfield 644, .iload 1, .iaload, .putfield 655, .iconst 0, .istore 2]),
  (12, [.iload 2, .aload 0, .getfield 655, .if_icmp .ge 3]),
  (20, [.aload 0, .getfield 657, .iload 2, .aload 0, .getfield 646, .iconst 100, .iload 1, .imul, .iload 2, .iadd, .iaload, .iastore, .aload 0, .getfield 658, .iload 2, .aload 0, .getfield 647, .iconst 100, .iload 1, .imul, .iload 2, .iadd, .iaload, .iastore, .aload 0, .getfield 659, .iload 2, .aload 0, .getfield 648, .iconst 100, .iload 1, .imul, .iload 2, .iadd, .iaload, .iastore, .aload 0, .getfield 660, .iload 2, .aload 0, .getfield 649, .iconst 100, .iload 1, .imul, .iload 2, .iadd, .iaload, .iastore, .aload 0, .getfield 661, .iload 2, .aload 0, .getfield 650, .iconst 100, .iload 1, .imul, .iload 2, .iadd, .iaload, .iastore, .iinc 2 1, .goto 1]),
  (111, [.return_])]
def md_Model_load : pm_M := ((⟨"QuestionDeskModel", "load", "(I)V"⟩, prog_12_method_29_code, 3, none), (1, 10), cd_Model_load)
def cd_Model_settle : List (Nat × List Instr) := [(0, [.iconst 0, .istore 1]),
  (2, [.iload 1, .aload 0, .getfield 655, .if_icmp .ge 16]),
  (10, [.aload 0, .getfield 657, .iload 1, .iaload, .ifCond .ne 7]),
  (19, [.aload 0, .getfield 677, .iload 1, .aload 0, .getfield 660, .iload 1, .iaload, .iastore, .aload 0, .getfield 678, .iload 1, .iconst 1, .aload 0, .getfield 660, .iload 1, .iaload, .ishl, .iastore, .aload 0, .getfield 679, .iload 1, .aload 0, .getfield 660, .iload 1, .iaload, .iastore, .iconst 0, .istore 2]),
  (59, [.iload 2, .iconst 6, .if_icmp .ge 6]),
  (65, [.aload 0, .getfield 680, .iconst 6, .iload 1, .imul, .iload 2, .iadd, .aload 0, .getfield 660, .iload 1, .iaload, .iastore, .iinc 2 1, .goto 4]),
  (88, [.goto 15]),
  (91, [.aload 0, .getfield 678, .iload 1, .aload 0, .getfield 678, .aload 0, .getfield 658, .iload 1, .iaload, .iaload, .aload 0, .getfield 678, .aload 0, .getfield 659, .iload 1, .iaload, .iaload, .ior, .iastore, .aload 0, .getfield 657, .iload 1, .iaload, .iconst 1, .if_icmp .ne 9]),
  (130, [.aload 0, .iload 1, .invokevirtual 204, .goto 15]),
  (138, [.aload 0, .aload 0, .getfield 660, .iload 1, .iaload, .aload 0, .getfield 661, .iload 1, .iaload, .invokevirtual 198, .ifCond .eq 11]),
  (157, [.aload 0, .getfield 658, .iload 1, .iaload, .goto 12]),
  (166, [.aload 0, .getfield 659, .iload 1, .iaload]),
  (172, [.istore 2, .aload 0, .getfield 677, .iload 1, .aload 0, .getfield 677, .iload 2, .iaload, .iastore, .aload 0, .getfield 679, .iload 1, .aload 0, .getfield 679, .iload 2, .iaload, .iastore, .iconst 0, .istore 3]),
  (199, [.iload 3, .iconst 6, .if_icmp .ge 15]),
  (205, [.aload 0, .getfield 680, .iconst 6, .iload 1, .imul, .iload 3, .iadd, .aload 0, .getfield 680, .iconst 6, .iload 2, .imul, .iload 3, .iadd, .iaload, .iastore, .iinc 3 1, .goto 13]),
  (233, [.iinc 1 1, .goto 1]),
  (239, [.aload 0, .getfield 679, .aload 0, .getfield 655, .iconst 1, .isub, .iaload, .ireturn])]
def md_Model_settle : pm_M := ((⟨"QuestionDeskModel", "settle", "()I"⟩, prog_12_method_47_code, 4, some .int), (0, 10), cd_Model_settle)
def cd_Model_settleQuestion : List (Nat × List Instr) := [(0, [.aload 0, .getfield 658, .iload 1, .iaload, .istore 2, .aload 0, .getfield 659, .iload 1, .iaload, .istore 3, .iconst 0, .istore 4, .iconst 0, .istore 5]),
  (20, [.iload 5, .aload 0, .invokevirtual 191, .if_icmp .ge 3]),
  (29, [.iload 4, .aload 0, .iload 5, .iload 2, .iload 3, .invokevirtual 205, .iadd, .istore 4, .iinc 5 1, .goto 1]),
  (48, [.iload 4, .ifCond .gt 13]),
  (53, [.iload 4, .ifCond .ne 14]),
  (58, [.aload 0, .getfield 677, .iload 2, .iaload, .aload 0, .getfield 677, .iload 3, .iaload, .if_icmp .eq 13]),
  (73, [.aload 0, .getfield 677, .iload 2, .iaload, .aload 0, .getfield 677, .iload 3, .iaload, .if_icmp .ge 8]),
  (88, [.iconst 1, .goto 9]),
  (92, [.iconst 0]),
  (93, [.aload 0, .getfield 641, .iconst 1, .iaload, .ifCond .ne 11]),
  (102, [.iconst 1, .goto 12]),
  (106, [.iconst 0]),
  (107, [.if_icmp .ne 14]),
  (110, [.iconst 1, .goto 15]),
  (114, [.iconst 0]),
  (115, [.istore 5, .aload 0, .getfield 681, .iload 1, .iload 4, .iastore, .aload 0, .getfield 682, .iload 1, .iload 5, .ifCond .eq 17]),
  (135, [.iconst 0, .goto 18]),
  (139, [.iconst 1]),
  (140, [.iastore, .aload 0, .getfield 679, .iload 1, .iload 5, .ifCond .eq 20]),
  (151, [.aload 0, .getfield 679, .iload 2, .iaload, .goto 21]),
  (160, [.aload 0, .getfield 679, .iload 3, .iaload]),
  (166, [.iastore, .aload 0, .getfield 677, .iload 1, .aload 0, .getfield 677, .iload 2, .iaload, .iastore, .iconst 1, .istore 6]),
  (182, [.iload 6, .iconst 6, .if_icmp .ge 24]),
  (189, [.aload 0, .getfield 680, .iconst 6, .iload 1, .imul, .iload 6, .iadd, .aload 0, .aload 0, .getfield 680, .iconst 6, .iload 2, .imul, .iload 6, .iadd, .iconst 1, .isub, .iaload, .aload 0, .getfield 680, .iconst 6, .iload 3, .imul, .iload 6, .iadd, .iconst 1, .isub, .iaload, .invokevirtual 197, .iastore, .iinc 6 1, .goto 22]),
  (239, [.aload 0, .getfield 680, .iconst 6, .iload 1, .imul, .aload 0, .getfield 677, .iload 1, .iaload, .iastore, .return_])]
def md_Model_settleQuestion : pm_M := ((⟨"QuestionDeskModel", "settleQuestion", "(I)V"⟩, prog_12_method_46_code, 7, none), (1, 10), cd_Model_settleQuestion)
def cd_Model_voteOf : List (Nat × List Instr) := [(0, [.aload 0, .iload 1, .invokevirtual 195, .istore 4, .aload 0, .iload 1, .invokevirtual 206, .tableswitch 9 0 4 #[1, 2, 3, 4, 5]]),
  (48, [.iload 4, .aload 0, .iload 1, .aload 0, .getfield 677, .iload 2, .iaload, .aload 0, .getfield 677, .iload 3, .iaload, .invokevirtual 207, .imul, .ireturn]),
  (69, [.iload 4, .aload 0, .iload 1, .aload 0, .getfield 679, .iload 2, .iaload, .aload 0, .getfield 679, .iload 3, .iaload, .invokevirtual 207, .imul, .ireturn]),
  (90, [.iload 4, .aload 0, .iload 1, .aload 0, .getfield 680, .iconst 6, .iload 2, .imul, .aload 0, .getfield 641, .iconst 30, .iload 1, .iadd, .iaload, .iadd, .iaload, .aload 0, .getfield 680, .iconst 6, .iload 3, .imul, .aload 0, .getfield 641, .iconst 30, .iload 1, .iadd, .iaload, .iadd, .iaload, .invokevirtual 207, .imul, .ireturn]),
  (137, [.iload 4, .aload 0, .aload 0, .iload 1, .invokevirtual 208, .iload 2, .iload 3, .invokevirtual 209, .imul, .ireturn]),
  (152, [.aload 0, .getfield 678, .iload 2, .iaload, .aload 0, .iload 1, .invokevirtual 210, .ishr, .iconst 1, .iand, .istore 5, .aload 0, .getfield 678, .iload 3, .iaload, .aload 0, .iload 1, .invokevirtual 210, .ishr, .iconst 1, .iand, .istore 6, .iload 5, .iload 6, .if_icmp .eq 7]),
  (191, [.iload 4, .iload 5, .iload 6, .isub, .imul, .goto 8]),
  (202, [.iload 4, .aload 0, .aload 0, .iload 1, .invokevirtual 208, .iload 2, .iload 3, .invokevirtual 209, .imul]),
  (216, [.ireturn]),
  (217, [.iload 4, .iconst 2, .idiv, .aload 0, .iload 1, .aload 0, .getfield 677, .iload 2, .iaload, .aload 0, .getfield 677, .iload 3, .iaload, .invokevirtual 207, .imul, .iload 4, .iload 4, .iconst 2, .idiv, .isub, .aload 0, .iload 1, .aload 0, .getfield 679, .iload 2, .iaload, .aload 0, .getfield 679, .iload 3, .iaload, .invokevirtual 207, .imul, .iadd, .ireturn])]
def md_Model_voteOf : pm_M := ((⟨"QuestionDeskModel", "voteOf", "(III)I"⟩, prog_12_method_45_code, 7, some .int), (3, 10), cd_Model_voteOf)
def cd_Model_kindOf : List (Nat × List Instr) := [(0, [.aload 0, .getfield 668, .ifCond .lt 2]),
  (7, [.aload 0, .getfield 668, .goto 7]),
  (14, [.aload 0, .getfield 673, .iload 1, .ishr, .iconst 1, .iand, .iconst 1, .if_icmp .ne 4]),
  (26, [.iconst 4, .goto 7]),
  (30, [.aload 0, .getfield 669, .iload 1, .ishr, .iconst 1, .iand, .iconst 1, .if_icmp .ne 6]),
  (42, [.iconst 1, .goto 7]),
  (46, [.aload 0, .getfield 641, .iconst 10, .iload 1, .iadd, .iaload]),
  (55, [.ireturn])]
def md_Model_kindOf : pm_M := ((⟨"QuestionDeskModel", "kindOf", "(I)I"⟩, prog_12_method_32_code, 2, some .int), (1, 10), cd_Model_kindOf)
def cd_Model_sign : List (Nat × List Instr) := [(0, [.aload 0, .iload 1, .iload 2, .invokevirtual 192, .istore 4, .aload 0, .iload 1, .iload 3, .invokevirtual 192, .istore 5, .iload 4, .iload 5, .if_icmp .ge 2]),
  (23, [.iconst 1, .goto 5]),
  (27, [.iload 4, .iload 5, .if_icmp .le 4]),
  (34, [.iconst (-1), .goto 5]),
  (38, [.iconst 0]),
  (39, [.ireturn])]
def md_Model_sign : pm_M := ((⟨"QuestionDeskModel", "sign", "(III)I"⟩, prog_12_method_43_code, 6, some .int), (3, 10), cd_Model_sign)
def cd_Model_partyOf : List (Nat × List Instr) := [(0, [.aload 0, .getfield 673, .iload 1, .ishr, .iconst 1, .iand, .iconst 1, .if_icmp .ne 2]),
  (12, [.iconst 0, .goto 3]),
  (16, [.aload 0, .getfield 641, .iconst 30, .iload 1, .iadd, .iaload]),
  (25, [.ireturn])]
def md_Model_partyOf : pm_M := ((⟨"QuestionDeskModel", "partyOf", "(I)I"⟩, prog_12_method_33_code, 2, some .int), (1, 10), cd_Model_partyOf)
def cd_Model_partySign : List (Nat × List Instr) := [(0, [.iconst 0, .istore 4, .iconst 0, .istore 5]),
  (6, [.iload 5, .aload 0, .invokevirtual 191, .if_icmp .ge 11]),
  (15, [.aload 0, .iload 5, .invokevirtual 206, .iconst 3, .if_icmp .eq 4]),
  (25, [.aload 0, .iload 5, .invokevirtual 206, .iconst 4, .if_icmp .ne 6]),
  (35, [.aload 0, .iload 5, .invokevirtual 208, .iload 1, .if_icmp .ne 6]),
  (45, [.iconst 1, .goto 7]),
  (49, [.iconst 0]),
  (50, [.istore 6, .iload 4, .iload 6, .ifCond .eq 9]),
  (59, [.aload 0, .iload 5, .aload 0, .getfield 677, .iload 2, .iaload, .aload 0, .getfield 677, .iload 3, .iaload, .invokevirtual 207, .aload 0, .iload 5, .invokevirtual 195, .imul, .goto 10]),
  (87, [.iconst 0]),
  (88, [.iadd, .istore 4, .iinc 5 1, .goto 1]),
  (97, [.iload 4, .ifCond .le 13]),
  (102, [.iconst 1, .goto 16]),
  (106, [.iload 4, .ifCond .ge 15]),
  (111, [.iconst (-1), .goto 16]),
  (115, [.iconst 0]),
  (116, [.ireturn])]
def md_Model_partySign : pm_M := ((⟨"QuestionDeskModel", "partySign", "(III)I"⟩, prog_12_method_44_code, 7, some .int), (3, 10), cd_Model_partySign)
def cd_Model_endFor : List (Nat × List Instr) := [(0, [.aload 0, .getfield 673, .iload 1, .ishr, .iconst 1, .iand, .iconst 1, .if_icmp .ne 2]),
  (12, [.aload 0, .getfield 674, .goto 3]),
  (19, [.aload 0, .getfield 641, .iconst 40, .iload 1, .iadd, .iaload]),
  (28, [.ireturn])]
def md_Model_endFor : pm_M := ((⟨"QuestionDeskModel", "endFor", "(I)I"⟩, prog_12_method_34_code, 2, some .int), (1, 10), cd_Model_endFor)
def cd_Model_run : List (Nat × List Instr) := [(0, [.aload 0, .iconst 0, .putfield 640, .aload 0, .iload 1, .invokevirtual 200, .ifCond .eq 2]),
  (13, [.aload 0, .iload 1, .invokevirtual 201, .goto 3]),
  (21, [.iconst (-1)]),
  (22, [.ireturn])]
def md_Model_run : pm_M := ((⟨"QuestionDeskModel", "run", "(I)I"⟩, prog_12_method_50_code, 2, some .int), (1, 10), cd_Model_run)
def cd_Model_ask : List (Nat × List Instr) := [(0, [.aload 0, .iconst 0, .putfield 640, .aload 0, .iload 1, .iload 2, .invokevirtual 213, .ifCond .eq 2]),
  (14, [.iload 3, .iconst 0, .iconst 2, .invokestatic 166, .ifCond .ne 3]),
  (23, [.iconst (-1), .ireturn]),
  (25, [.aload 0, .iload 1, .invokevirtual 201, .pop, .aload 0, .iload 2, .invokevirtual 214, .istore 4, .iload 3, .ifCond .ne 5]),
  (42, [.aload 0, .getfield 682, .iload 4, .iaload, .goto 8]),
  (52, [.iload 3, .iconst 1, .if_icmp .ne 7]),
  (57, [.aload 0, .getfield 679, .aload 0, .getfield 658, .iload 4, .iaload, .iaload, .goto 8]),
  (72, [.aload 0, .getfield 679, .aload 0, .getfield 659, .iload 4, .iaload, .iaload]),
  (84, [.ireturn])]
def md_Model_ask : pm_M := ((⟨"QuestionDeskModel", "ask", "(III)I"⟩, prog_12_method_53_code, 5, some .int), (3, 10), cd_Model_ask)
def cd_Model_isQuestion : List (Nat × List Instr) := [(0, [.aload 0, .iload 1, .invokevirtual 200, .ifCond .eq 3]),
  (8, [.iload 2, .iconst 0, .aload 0, .getfield 645, .iload 1, .iaload, .iconst 1, .isub, .invokestatic 166, .ifCond .eq 3]),
  (24, [.iconst 1, .goto 4]),
  (28, [.iconst 0]),
  (29, [.ireturn])]
def md_Model_isQuestion : pm_M := ((⟨"QuestionDeskModel", "isQuestion", "(II)Z"⟩, prog_12_method_52_code, 3, some .boolean), (2, 10), cd_Model_isQuestion)
def cd_Model_nodeOf : List (Nat × List Instr) := [(0, [.iconst (-1), .istore 2, .iconst 0, .istore 3]),
  (4, [.iload 3, .aload 0, .getfield 655, .if_icmp .ge 7]),
  (12, [.aload 0, .getfield 657, .iload 3, .iaload, .iconst 1, .if_icmp .ne 5]),
  (22, [.aload 0, .getfield 660, .iload 3, .iaload, .iload 1, .if_icmp .ne 5]),
  (32, [.iload 3, .goto 6]),
  (36, [.iload 2]),
  (37, [.istore 2, .iinc 3 1, .goto 1]),
  (44, [.iload 2, .ireturn])]
def md_Model_nodeOf : pm_M := ((⟨"QuestionDeskModel", "nodeOf", "(I)I"⟩, prog_12_method_51_code, 4, some .int), (1, 10), cd_Model_nodeOf)
def cd_Model_wonBy : List (Nat × List Instr) := [(0, [.aload 0, .iconst 0, .putfield 640, .aload 0, .iload 1, .iload 2, .invokevirtual 213, .ifCond .ne 2]),
  (14, [.iconst (-1000000001), .ireturn]),
  (17, [.aload 0, .iload 1, .invokevirtual 201, .pop, .aload 0, .getfield 681, .aload 0, .iload 2, .invokevirtual 214, .iaload, .ireturn])]
def md_Model_wonBy : pm_M := ((⟨"QuestionDeskModel", "wonBy", "(II)I"⟩, prog_12_method_54_code, 3, some .int), (2, 10), cd_Model_wonBy)
def cd_Model_why : List (Nat × List Instr) := [(0, [.aload 0, .iconst 0, .putfield 640, .aload 0, .iload 1, .iload 2, .invokevirtual 213, .ifCond .eq 2]),
  (14, [.aload 0, .iload 3, .invokevirtual 170, .ifCond .ne 3]),
  (22, [.iconst (-1000000001), .ireturn]),
  (25, [.aload 0, .iload 1, .invokevirtual 201, .pop, .aload 0, .iload 2, .invokevirtual 214, .istore 4, .aload 0, .iload 3, .aload 0, .getfield 658, .iload 4, .iaload, .aload 0, .getfield 659, .iload 4, .iaload, .invokevirtual 205, .ireturn])]
def md_Model_why : pm_M := ((⟨"QuestionDeskModel", "why", "(III)I"⟩, prog_12_method_55_code, 5, some .int), (3, 10), cd_Model_why)
def cd_Model_ifAll : List (Nat × List Instr) := [(0, [.aload 0, .iconst 0, .putfield 640, .aload 0, .iload 1, .invokevirtual 200, .ifCond .eq 2]),
  (13, [.iload 2, .iconst 0, .iconst 1, .invokestatic 166, .ifCond .ne 3]),
  (22, [.iconst (-1), .ireturn]),
  (24, [.aload 0, .iload 2, .putfield 668, .aload 0, .iload 1, .invokevirtual 201, .istore 3, .aload 0, .iconst (-1), .putfield 668, .iload 3, .ireturn])]
def md_Model_ifAll : pm_M := ((⟨"QuestionDeskModel", "ifAll", "(II)I"⟩, prog_12_method_56_code, 4, some .int), (2, 10), cd_Model_ifAll)
def cd_Model_parts : List (Nat × List Instr) := [(0, [.aload 0, .iconst 0, .putfield 640, .aload 0, .iload 1, .invokevirtual 200, .ifCond .ne 2]),
  (13, [.iconst (-1), .ireturn]),
  (15, [.aload 0, .iconst 0, .putfield 668, .aload 0, .iload 1, .invokevirtual 201, .pop, .iconst 0, .istore 2]),
  (28, [.iload 2, .aload 0, .getfield 655, .if_icmp .ge 5]),
  (36, [.aload 0, .getfield 683, .iload 2, .aload 0, .getfield 682, .iload 2, .iaload, .iastore, .iinc 2 1, .goto 3]),
  (54, [.aload 0, .iconst 1, .putfield 668, .aload 0, .iload 1, .invokevirtual 201, .pop, .aload 0, .iconst (-1), .putfield 668, .iconst 0, .istore 2]),
  (72, [.iload 2, .aload 0, .getfield 645, .iload 1, .iaload, .if_icmp .ge 10]),
  (82, [.aload 0, .iload 2, .invokevirtual 214, .istore 3, .aload 0, .getfield 683, .iload 3, .iaload, .aload 0, .getfield 682, .iload 3, .iaload, .if_icmp .eq 9]),
  (103, [.iload 2, .ireturn]),
  (105, [.iinc 2 1, .goto 6]),
  (111, [.iconst (-4), .ireturn])]
def md_Model_parts : pm_M := ((⟨"QuestionDeskModel", "parts", "(I)I"⟩, prog_12_method_57_code, 4, some .int), (1, 10), cd_Model_parts)
def cd_Model_order : List (Nat × List Instr) := [(0, [.aload 0, .iconst 0, .putfield 640, .aload 0, .iload 1, .invokevirtual 180, .istore 3, .iload 3, .ifCond .ge 2]),
  (15, [.iload 3, .ireturn]),
  (17, [.aload 0, .getfield 694, .iload 1, .iaload, .iconst 2, .iconst 7, .invokestatic 166, .ifCond .ne 4]),
  (32, [.iconst (-13), .ireturn]),
  (35, [.iconst 0, .istore 4, .iconst 0, .istore 5]),
  (41, [.iload 5, .aload 0, .getfield 694, .iload 1, .iaload, .if_icmp .ge 10]),
  (52, [.aload 0, .getfield 695, .iconst 120, .iload 1, .imul, .iload 5, .iadd, .laload, .l2i, .istore 6, .aload 0, .iload 6, .invokevirtual 220, .ifCond .eq 8]),
  (76, [.iload 4, .iload 6, .ishr, .iconst 1, .iand, .iconst 1, .if_icmp .ne 9]),
  (87, [.iconst (-13), .ireturn]),
  (90, [.iload 4, .iconst 1, .iload 6, .ishl, .ior, .istore 4, .aload 0, .getfield 684, .iload 5, .iload 6, .iastore, .iinc 5 1, .goto 5]),
  (114, [.aload 0, .aload 0, .getfield 694, .iload 1, .iaload, .putfield 685, .aload 0, .iload 2, .invokevirtual 221, .ireturn])]
def md_Model_order : pm_M := ((⟨"QuestionDeskModel", "order", "(IZ)I"⟩, prog_12_method_59_code, 7, some .int), (2, 10), cd_Model_order)
def cd_Model_isThere : List (Nat × List Instr) := [(0, [.iload 1, .iconst 0, .aload 0, .getfield 641, .iconst 0, .iaload, .iconst 1, .isub, .invokestatic 166, .ireturn])]
def md_Model_isThere : pm_M := ((⟨"QuestionDeskModel", "isThere", "(I)Z"⟩, prog_12_method_5_code, 2, some .boolean), (1, 10), cd_Model_isThere)
def cd_Model_orderEnds : List (Nat × List Instr) := [(0, [.iload 1, .ifCond .ne 5]),
  (4, [.aload 0, .getfield 684, .iconst 0, .iaload, .istore 2, .iconst 1, .istore 3]),
  (13, [.iload 3, .aload 0, .getfield 685, .if_icmp .ge 4]),
  (21, [.aload 0, .iload 2, .aload 0, .getfield 684, .iload 3, .iaload, .invokevirtual 197, .istore 2, .iinc 3 1, .goto 2]),
  (39, [.iload 2, .ireturn]),
  (41, [.aload 0, .getfield 685, .istore 2]),
  (46, [.iload 2, .ifCond .le 14]),
  (50, [.iconst 0, .istore 3]),
  (52, [.iload 3, .iconst 7, .if_icmp .ge 13]),
  (58, [.aload 0, .getfield 686, .iconst 7, .iload 2, .imul, .iload 3, .iadd, .iload 2, .aload 0, .getfield 685, .if_icmp .ne 11]),
  (76, [.iload 3, .goto 12]),
  (80, [.aload 0, .aload 0, .getfield 686, .iconst 7, .iload 2, .iconst 1, .iadd, .imul, .iload 3, .iadd, .iaload, .aload 0, .getfield 686, .iconst 7, .iload 2, .iconst 1, .iadd, .imul, .aload 0, .getfield 684, .iload 2, .iaload, .iadd, .iaload, .invokevirtual 197]),
  (115, [.iastore, .iinc 3 1, .goto 8]),
  (122, [.iinc 2 (-1), .goto 6]),
  (128, [.aload 0, .getfield 686, .iconst 7, .aload 0, .getfield 684, .iconst 0, .iaload, .iadd, .iaload, .ireturn])]
def md_Model_orderEnds : pm_M := ((⟨"QuestionDeskModel", "orderEnds", "(Z)I"⟩, prog_12_method_58_code, 4, some .int), (1, 10), cd_Model_orderEnds)
def cd_Model_reach : List (Nat × List Instr) := [(0, [.aload 0, .iconst 0, .putfield 640, .aload 0, .invokevirtual 223, .istore 2, .iconst 0, .istore 3, .iconst 0, .istore 4]),
  (15, [.iload 4, .iload 2, .if_icmp .ge 6]),
  (21, [.aload 0, .iload 4, .iload 2, .invokevirtual 224, .iload 3, .iconst 1, .aload 0, .getfield 685, .iconst 1, .if_icmp .ne 4]),
  (38, [.aload 0, .getfield 684, .iconst 0, .iaload, .goto 5]),
  (47, [.aload 0, .iload 1, .invokevirtual 221]),
  (52, [.ishl, .ior, .istore 3, .iinc 4 1, .goto 1]),
  (61, [.iload 3, .ireturn])]
def md_Model_reach : pm_M := ((⟨"QuestionDeskModel", "reach", "(Z)I"⟩, prog_12_method_62_code, 5, some .int), (1, 10), cd_Model_reach)
def cd_Model_allOrders : List (Nat × List Instr) := [(0, [.iconst 1, .istore 1, .iconst 2, .istore 2]),
  (4, [.iload 2, .aload 0, .getfield 641, .iconst 0, .iaload, .if_icmp .gt 3]),
  (14, [.iload 1, .iload 2, .imul, .istore 1, .iinc 2 1, .goto 1]),
  (24, [.iload 1, .ireturn])]
def md_Model_allOrders : pm_M := ((⟨"QuestionDeskModel", "allOrders", "()I"⟩, prog_12_method_61_code, 3, some .int), (0, 10), cd_Model_allOrders)
def cd_Model_findOrder : List (Nat × List Instr) := [(0, [.iload 1, .istore 3, .iload 2, .istore 4, .iconst 0, .istore 5, .aload 0, .aload 0, .getfield 641, .iconst 0, .iaload, .putfield 685, .iconst 0, .istore 6]),
  (21, [.iload 6, .aload 0, .getfield 685, .if_icmp .ge 10]),
  (30, [.iload 4, .aload 0, .getfield 685, .iload 6, .isub, .idiv, .istore 4, .iload 3, .iload 4, .idiv, .istore 7, .iload 3, .iload 4, .irem, .istore 3, .iconst 0, .istore 8]),
  (56, [.iload 5, .iload 8, .ishr, .iconst 1, .iand, .iconst 1, .if_icmp .eq 5]),
  (67, [.iload 7, .ifCond .le 9]),
  (72, [.iload 7, .iload 5, .iload 8, .ishr, .iconst 1, .iand, .iconst 1, .if_icmp .ne 7]),
  (85, [.iconst 0, .goto 8]),
  (89, [.iconst 1]),
  (90, [.isub, .istore 7, .iinc 8 1, .goto 3]),
  (99, [.iload 5, .iconst 1, .iload 8, .ishl, .ior, .istore 5, .aload 0, .getfield 684, .iload 6, .iload 8, .iastore, .iinc 6 1, .goto 1]),
  (123, [.return_])]
def md_Model_findOrder : pm_M := ((⟨"QuestionDeskModel", "findOrder", "(II)V"⟩, prog_12_method_60_code, 9, none), (2, 10), cd_Model_findOrder)
def cd_Model_first : List (Nat × List Instr) := [(0, [.aload 0, .iconst 0, .putfield 640, .aload 0, .iload 1, .invokevirtual 220, .ifCond .ne 2]),
  (13, [.iconst (-1), .ireturn]),
  (15, [.aload 0, .invokevirtual 223, .istore 3, .iconst 0, .istore 4]),
  (23, [.iload 4, .iload 3, .if_icmp .ge 13]),
  (29, [.aload 0, .iload 4, .iload 3, .invokevirtual 224, .aload 0, .getfield 685, .iconst 1, .if_icmp .ne 6]),
  (44, [.aload 0, .getfield 684, .iconst 0, .iaload, .goto 7]),
  (53, [.aload 0, .iload 2, .invokevirtual 221]),
  (58, [.iload 1, .if_icmp .ne 12]),
  (62, [.iconst 0, .istore 5, .aload 0, .getfield 685, .iconst 1, .isub, .istore 6]),
  (73, [.iload 6, .ifCond .lt 11]),
  (78, [.iconst 8, .iload 5, .imul, .aload 0, .getfield 684, .iload 6, .iaload, .iadd, .istore 5, .iinc 6 (-1), .goto 9]),
  (99, [.iload 5, .ireturn]),
  (102, [.iinc 4 1, .goto 3]),
  (108, [.iconst (-4), .ireturn])]
def md_Model_first : pm_M := ((⟨"QuestionDeskModel", "first", "(IZ)I"⟩, prog_12_method_63_code, 7, some .int), (2, 10), cd_Model_first)
def cd_Model_best : List (Nat × List Instr) := [(0, [.aload 0, .iconst 0, .putfield 640, .iconst 0, .istore 1]),
  (7, [.iload 1, .aload 0, .getfield 641, .iconst 0, .iaload, .if_icmp .ge 13]),
  (17, [.iconst 1, .istore 2, .iconst 0, .istore 3]),
  (21, [.iload 3, .aload 0, .getfield 641, .iconst 0, .iaload, .if_icmp .ge 10]),
  (31, [.iload 2, .ifCond .eq 8]),
  (35, [.iload 1, .iload 3, .if_icmp .eq 7]),
  (40, [.aload 0, .iload 1, .iload 3, .invokevirtual 198, .ifCond .eq 8]),
  (49, [.iconst 1, .goto 9]),
  (53, [.iconst 0]),
  (54, [.istore 2, .iinc 3 1, .goto 3]),
  (61, [.iload 2, .ifCond .eq 12]),
  (65, [.iload 1, .ireturn]),
  (67, [.iinc 1 1, .goto 1]),
  (73, [.iconst (-4), .ireturn])]
def md_Model_best : pm_M := ((⟨"QuestionDeskModel", "best", "()I"⟩, prog_12_method_64_code, 4, some .int), (0, 10), cd_Model_best)
def cd_Model_top : List (Nat × List Instr) := [(0, [.aload 0, .iconst 0, .putfield 640, .iload 1, .iconst 0, .iconst 1, .invokestatic 166, .ifCond .ne 2]),
  (14, [.iconst (-1), .ireturn]),
  (16, [.iconst 0, .istore 2, .iconst 0, .istore 3]),
  (20, [.iload 3, .aload 0, .getfield 641, .iconst 0, .iaload, .if_icmp .ge 15]),
  (30, [.iload 1, .ifCond .ne 8]),
  (34, [.aload 0, .iload 3, .invokevirtual 228, .iconst 1, .aload 0, .getfield 641, .iconst 0, .iaload, .ishl, .iconst 1, .isub, .if_icmp .ne 7]),
  (52, [.iconst 1, .goto 11]),
  (56, [.iconst 0, .goto 11]),
  (60, [.aload 0, .iload 3, .invokevirtual 229, .ifCond .ne 10]),
  (68, [.iconst 1, .goto 11]),
  (72, [.iconst 0]),
  (73, [.istore 4, .iload 2, .iload 4, .ifCond .eq 13]),
  (81, [.iconst 1, .iload 3, .ishl, .goto 14]),
  (87, [.iconst 0]),
  (88, [.ior, .istore 2, .iinc 3 1, .goto 3]),
  (96, [.iload 2, .ireturn])]
def md_Model_top : pm_M := ((⟨"QuestionDeskModel", "top", "(I)I"⟩, prog_12_method_67_code, 5, some .int), (1, 10), cd_Model_top)
def cd_Model_reachedFrom : List (Nat × List Instr) := [(0, [.iconst 1, .iload 1, .ishl, .istore 2, .iconst 1, .istore 3]),
  (6, [.iload 3, .ifCond .eq 13]),
  (10, [.iconst 0, .istore 3, .iconst 0, .istore 4]),
  (15, [.iload 4, .aload 0, .getfield 641, .iconst 0, .iaload, .if_icmp .ge 12]),
  (26, [.iconst 0, .istore 5]),
  (29, [.iload 5, .aload 0, .getfield 641, .iconst 0, .iaload, .if_icmp .ge 11]),
  (40, [.iload 2, .iload 4, .ishr, .iconst 1, .iand, .iconst 1, .if_icmp .ne 10]),
  (50, [.iload 2, .iload 5, .ishr, .iconst 1, .iand, .ifCond .ne 10]),
  (59, [.aload 0, .iload 4, .iload 5, .invokevirtual 198, .ifCond .eq 10]),
  (70, [.iload 2, .iconst 1, .iload 5, .ishl, .ior, .istore 2, .iconst 1, .istore 3]),
  (79, [.iinc 5 1, .goto 5]),
  (85, [.iinc 4 1, .goto 3]),
  (91, [.goto 1]),
  (94, [.iload 2, .ireturn])]
def md_Model_reachedFrom : pm_M := ((⟨"QuestionDeskModel", "reachedFrom", "(I)I"⟩, prog_12_method_65_code, 6, some .int), (1, 10), cd_Model_reachedFrom)
def cd_Model_isCovered : List (Nat × List Instr) := [(0, [.iconst 0, .istore 2, .iconst 0, .istore 3]),
  (4, [.iload 3, .aload 0, .getfield 641, .iconst 0, .iaload, .if_icmp .ge 15]),
  (14, [.aload 0, .iload 3, .iload 1, .invokevirtual 198, .istore 4, .iconst 0, .istore 5]),
  (25, [.iload 5, .aload 0, .getfield 641, .iconst 0, .iaload, .if_icmp .ge 10]),
  (36, [.iload 4, .ifCond .eq 8]),
  (41, [.aload 0, .iload 1, .iload 5, .invokevirtual 198, .ifCond .eq 7]),
  (51, [.aload 0, .iload 3, .iload 5, .invokevirtual 198, .ifCond .eq 8]),
  (61, [.iconst 1, .goto 9]),
  (65, [.iconst 0]),
  (66, [.istore 4, .iinc 5 1, .goto 3]),
  (74, [.iload 2, .ifCond .ne 12]),
  (78, [.iload 4, .ifCond .eq 13]),
  (83, [.iconst 1, .goto 14]),
  (87, [.iconst 0]),
  (88, [.istore 2, .iinc 3 1, .goto 1]),
  (95, [.iload 2, .ireturn])]
def md_Model_isCovered : pm_M := ((⟨"QuestionDeskModel", "isCovered", "(I)Z"⟩, prog_12_method_66_code, 6, some .boolean), (1, 10), cd_Model_isCovered)
def cd_Model_killers : List (Nat × List Instr) := [(0, [.aload 0, .iconst 0, .putfield 640, .aload 0, .iload 1, .invokevirtual 200, .ifCond .ne 2]),
  (13, [.iconst (-1), .ireturn]),
  (15, [.iconst 0, .istore 2, .iconst 0, .istore 3]),
  (19, [.iload 3, .aload 0, .getfield 641, .iconst 0, .iaload, .if_icmp .ge 8]),
  (29, [.iload 2, .aload 0, .iload 1, .iload 3, .invokevirtual 231, .ifCond .eq 6]),
  (39, [.iconst 1, .iload 3, .ishl, .goto 7]),
  (45, [.iconst 0]),
  (46, [.ior, .istore 2, .iinc 3 1, .goto 3]),
  (54, [.iload 2, .ireturn])]
def md_Model_killers : pm_M := ((⟨"QuestionDeskModel", "killers", "(I)I"⟩, prog_12_method_70_code, 4, some .int), (1, 10), cd_Model_killers)
def cd_Model_isKiller : List (Nat × List Instr) := [(0, [.aload 0, .iload 1, .invokevirtual 201, .istore 3, .aload 0, .iload 2, .invokevirtual 232, .aload 0, .invokevirtual 203, .iload 3, .if_icmp .eq 2]),
  (19, [.iconst 1, .goto 3]),
  (23, [.iconst 0]),
  (24, [.ireturn])]
def md_Model_isKiller : pm_M := ((⟨"QuestionDeskModel", "isKiller", "(II)Z"⟩, prog_12_method_69_code, 4, some .boolean), (2, 10), cd_Model_isKiller)
def cd_Model_against : List (Nat × List Instr) := [(0, [.aload 0, .getfield 655, .iconst 1, .isub, .istore 2, .aload 0, .iconst 0, .iconst (-1), .iconst (-1), .iload 1, .iconst 0, .invokevirtual 186, .pop, .aload 0, .iconst 1, .iload 2, .iload 2, .iconst 1, .iadd, .iconst 99, .iconst 0, .invokevirtual 186, .pop, .return_])]
def md_Model_against : pm_M := ((⟨"QuestionDeskModel", "against", "(I)V"⟩, prog_12_method_68_code, 3, none), (1, 10), cd_Model_against)
def cd_Model_shields : List (Nat × List Instr) := [(0, [.aload 0, .iconst 0, .putfield 640, .aload 0, .iload 1, .invokevirtual 200, .ifCond .eq 2]),
  (13, [.aload 0, .iload 2, .invokevirtual 220, .ifCond .ne 3]),
  (21, [.iconst (-1), .ireturn]),
  (23, [.aload 0, .iload 1, .iload 2, .invokevirtual 231, .ifCond .ne 5]),
  (32, [.iconst (-3), .ireturn]),
  (35, [.iconst 0, .istore 3, .iconst 0, .istore 4]),
  (40, [.iload 4, .aload 0, .getfield 641, .iconst 0, .iaload, .if_icmp .ge 11]),
  (51, [.aload 0, .iload 1, .invokevirtual 201, .istore 5, .aload 0, .iload 2, .invokevirtual 232, .aload 0, .iload 4, .invokevirtual 232, .iload 3, .aload 0, .invokevirtual 203, .iload 5, .if_icmp .ne 9]),
  (79, [.iconst 1, .iload 4, .ishl, .goto 10]),
  (86, [.iconst 0]),
  (87, [.ior, .istore 3, .iinc 4 1, .goto 6]),
  (95, [.iload 3, .ireturn])]
def md_Model_shields : pm_M := ((⟨"QuestionDeskModel", "shields", "(II)I"⟩, prog_12_method_71_code, 6, some .int), (2, 10), cd_Model_shields)
def cd_Model_tell : List (Nat × List Instr) := [(0, [.aload 0, .iconst 0, .putfield 640, .aload 0, .iload 1, .invokevirtual 200, .ifCond .eq 2]),
  (13, [.iload 2, .invokestatic 171, .ifCond .ne 3]),
  (20, [.iconst (-1), .ireturn]),
  (22, [.iconst 0, .istore 3, .iconst 0, .istore 4]),
  (27, [.iload 4, .aload 0, .getfield 641, .iconst 2, .iaload, .if_icmp .ge 9]),
  (38, [.iload 3, .aload 0, .getfield 641, .iconst 10, .iload 4, .iadd, .iaload, .ifCond .ne 7]),
  (52, [.iconst 1, .iload 4, .ishl, .goto 8]),
  (59, [.iconst 0]),
  (60, [.ior, .istore 3, .iinc 4 1, .goto 4]),
  (68, [.iconst (-4), .istore 4, .iconst 0, .istore 5]),
  (75, [.iload 5, .iconst 1, .aload 0, .getfield 641, .iconst 2, .iaload, .ishl, .if_icmp .ge 19]),
  (88, [.iload 5, .iload 3, .iconst (-1), .ixor, .iand, .ifCond .ne 18]),
  (97, [.iload 4, .ifCond .lt 14]),
  (102, [.iload 5, .invokestatic 235, .iload 4, .invokestatic 235, .if_icmp .ge 18]),
  (115, [.aload 0, .iload 5, .putfield 669, .aload 0, .iload 1, .invokevirtual 201, .iload 2, .if_icmp .ne 16]),
  (130, [.iload 5, .goto 17]),
  (135, [.iload 4]),
  (137, [.istore 4]),
  (139, [.iinc 5 1, .goto 10]),
  (145, [.aload 0, .iconst 0, .putfield 669, .iload 4, .ireturn])]
def md_Model_tell : pm_M := ((⟨"QuestionDeskModel", "tell", "(II)I"⟩, prog_12_method_73_code, 6, some .int), (2, 10), cd_Model_tell)
def cd_Model_ones : List (Nat × List Instr) := [(0, [.iconst 0, .istore 1, .iload 0, .istore 2]),
  (4, [.iload 2, .ifCond .le 3]),
  (8, [.iload 1, .iload 2, .iconst 2, .irem, .iadd, .istore 1, .iload 2, .iconst 2, .idiv, .istore 2, .goto 1]),
  (21, [.iload 1, .ireturn])]
def md_Model_ones : pm_M := ((⟨"QuestionDeskModel", "ones", "(I)I"⟩, prog_12_method_72_code, 3, some .int), (1, 99), cd_Model_ones)
def cd_Model_falseVote : List (Nat × List Instr) := [(0, [.aload 0, .iconst 0, .putfield 640, .aload 0, .iload 1, .invokevirtual 200, .ifCond .ne 2]),
  (13, [.iconst (-1), .ireturn]),
  (15, [.aload 0, .iload 2, .invokevirtual 180, .istore 3, .iload 3, .ifCond .ge 4]),
  (25, [.iload 3, .ireturn]),
  (27, [.aload 0, .getfield 694, .iload 2, .iaload, .iconst 7, .if_icmp .ne 6]),
  (38, [.iconst 1, .goto 7]),
  (42, [.iconst 0]),
  (43, [.istore 4, .iconst 0, .istore 5]),
  (48, [.iload 5, .iconst 7, .if_icmp .ge 15]),
  (55, [.iload 4, .ifCond .eq 15]),
  (60, [.aload 0, .getfield 695, .iconst 120, .iload 2, .imul, .iload 5, .iadd, .laload, .goto_w 0, .lcmp, .ifCond .lt 13]),
  (77, [.aload 0, .getfield 695, .iconst 120, .iload 2, .imul, .iload 5, .iadd, .laload, .goto_w 9, .lcmp, .ifCond .gt 13]),
  (96, [.iconst 1, .goto 14]),
  (100, [.iconst 0]),
  (101, [.istore 4, .iinc 5 1, .goto 8]),
  (109, [.iload 4, .ifCond .ne 17]),
  (114, [.iconst (-13), .ireturn]),
  (117, [.aload 0, .iload 1, .invokevirtual 201, .istore 5, .iconst 0, .istore 6]),
  (127, [.iload 6, .iconst 7, .if_icmp .ge 20]),
  (134, [.aload 0, .getfield 672, .iload 6, .aload 0, .getfield 695, .iconst 120, .iload 2, .imul, .iload 6, .iadd, .laload, .l2i, .iastore, .iinc 6 1, .goto 18]),
  (160, [.iconst 0, .istore 6]),
  (163, [.iload 6, .aload 0, .getfield 641, .iconst 2, .iaload, .if_icmp .ge 25]),
  (174, [.aload 0, .iload 6, .putfield 671, .aload 0, .iload 1, .invokevirtual 201, .istore 7, .aload 0, .iconst (-1), .putfield 671, .aload 0, .getfield 641, .iconst 60, .iconst 7, .iload 6, .imul, .iadd, .iload 7, .iadd, .iaload, .aload 0, .getfield 641, .iconst 60, .iconst 7, .iload 6, .imul, .iadd, .iload 5, .iadd, .iaload, .if_icmp .ge 24]),
  (227, [.iload 6, .ireturn]),
  (230, [.iinc 6 1, .goto 21]),
  (236, [.iconst (-4), .ireturn])]
def md_Model_falseVote : pm_M := ((⟨"QuestionDeskModel", "falseVote", "(II)I"⟩, prog_12_method_74_code, 8, some .int), (2, 10), cd_Model_falseVote)
def cd_Model_chance : List (Nat × List Instr) := [(0, [.aload 0, .iconst 0, .putfield 640, .aload 0, .iload 1, .invokevirtual 200, .ifCond .eq 2]),
  (13, [.iload 2, .invokestatic 171, .ifCond .ne 3]),
  (20, [.goto_w (-1), .lreturn]),
  (24, [.aload 0, .invokevirtual 238, .istore 3, .goto_w 0, .lstore 4, .iconst 0, .istore 6]),
  (35, [.iload 6, .iconst 1, .iload 3, .ishl, .if_icmp .ge 21]),
  (43, [.goto_w 1, .lstore 7, .aload 0, .iconst 0, .putfield 670, .iconst 0, .istore 9]),
  (54, [.iload 9, .iload 3, .if_icmp .ge 17]),
  (60, [.iload 6, .iload 9, .ishr, .iconst 1, .iand, .iconst 1, .if_icmp .ne 9]),
  (71, [.iconst 1, .goto 10]),
  (75, [.iconst 0]),
  (76, [.istore 10, .lload 7, .iload 10, .ifCond .eq 12]),
  (85, [.aload 0, .getfield 641, .iconst 50, .aload 0, .getfield 687, .iload 9, .iaload, .iadd, .iaload, .i2l, .goto 13]),
  (104, [.iconst 100, .aload 0, .getfield 641, .iconst 50, .aload 0, .getfield 687, .iload 9, .iaload, .iadd, .iaload, .isub, .i2l]),
  (123, [.lmul, .lstore 7, .aload 0, .dup, .getfield 670, .iload 10, .ifCond .eq 15]),
  (136, [.iconst 1, .aload 0, .getfield 687, .iload 9, .iaload, .ishl, .goto 16]),
  (148, [.iconst 0]),
  (149, [.ior, .putfield 670, .iinc 9 1, .goto 6]),
  (159, [.lload 4, .aload 0, .iload 1, .invokevirtual 201, .iload 2, .if_icmp .ne 19]),
  (170, [.lload 7, .goto 20]),
  (175, [.goto_w 0]),
  (176, [.ladd, .lstore 4, .iinc 6 1, .goto 4]),
  (185, [.aload 0, .iconst 0, .putfield 670, .lload 4, .lreturn])]
def md_Model_chance : pm_M := ((⟨"QuestionDeskModel", "chance", "(II)J"⟩, prog_12_method_76_code, 11, some .long), (2, 10), cd_Model_chance)
def cd_Model_findUnsure : List (Nat × List Instr) := [(0, [.iconst 0, .istore 1, .iconst 0, .istore 2]),
  (4, [.iload 2, .aload 0, .getfield 641, .iconst 2, .iaload, .if_icmp .ge 6]),
  (14, [.iload 1, .iconst 6, .if_icmp .ge 6]),
  (20, [.aload 0, .getfield 641, .iconst 50, .iload 2, .iadd, .iaload, .ifCond .le 5]),
  (32, [.aload 0, .getfield 687, .iload 1, .iload 2, .iastore, .iinc 1 1]),
  (42, [.iinc 2 1, .goto 1]),
  (48, [.iload 1, .ireturn])]
def md_Model_findUnsure : pm_M := ((⟨"QuestionDeskModel", "findUnsure", "()I"⟩, prog_12_method_75_code, 3, some .int), (0, 10), cd_Model_findUnsure)
def cd_Model_boughtOff : List (Nat × List Instr) := [(0, [.aload 0, .iconst 0, .putfield 640, .aload 0, .iload 1, .invokevirtual 200, .ifCond .eq 2]),
  (13, [.iload 2, .invokestatic 171, .ifCond .ne 3]),
  (20, [.iconst (-1), .ireturn]),
  (22, [.iconst (-4), .istore 3, .aload 0, .iload 2, .putfield 674, .iconst 0, .istore 4]),
  (33, [.iload 4, .iconst 1, .aload 0, .getfield 641, .iconst 2, .iaload, .ishl, .if_icmp .ge 12]),
  (46, [.iload 3, .ifCond .lt 7]),
  (50, [.iload 4, .invokestatic 235, .iload 3, .invokestatic 235, .if_icmp .ge 11]),
  (62, [.aload 0, .iload 4, .putfield 673, .aload 0, .iload 1, .invokevirtual 201, .iload 2, .if_icmp .ne 9]),
  (77, [.iload 4, .goto 10]),
  (82, [.iload 3]),
  (83, [.istore 3]),
  (84, [.iinc 4 1, .goto 4]),
  (90, [.aload 0, .iconst 0, .putfield 673, .iload 3, .ireturn])]
def md_Model_boughtOff : pm_M := ((⟨"QuestionDeskModel", "boughtOff", "(II)I"⟩, prog_12_method_77_code, 5, some .int), (2, 10), cd_Model_boughtOff)
def cd_Model_bestLie : List (Nat × List Instr) := [(0, [.aload 0, .iconst 0, .putfield 640, .aload 0, .iload 1, .invokevirtual 200, .ifCond .eq 3]),
  (13, [.aload 0, .iload 2, .invokevirtual 170, .ifCond .eq 3]),
  (21, [.iload 3, .iconst 0, .iconst 1, .invokestatic 166, .ifCond .ne 4]),
  (30, [.iconst (-1), .ireturn]),
  (32, [.aload 0, .invokevirtual 223, .istore 4, .iconst 0, .istore 5, .iconst (-1), .istore 6, .iconst 0, .istore 7]),
  (47, [.iload 7, .iload 4, .if_icmp .ge 16]),
  (54, [.aload 0, .iload 7, .iload 4, .invokevirtual 224, .iconst 0, .istore 8, .iconst 0, .istore 9]),
  (68, [.iload 9, .iconst 7, .if_icmp .ge 9]),
  (75, [.aload 0, .getfield 672, .iload 9, .iconst 9, .iastore, .iinc 9 1, .goto 7]),
  (90, [.aload 0, .getfield 685, .iconst 1, .isub, .istore 9]),
  (98, [.iload 9, .ifCond .lt 12]),
  (103, [.aload 0, .getfield 672, .aload 0, .getfield 684, .iload 9, .iaload, .iload 9, .iastore, .iconst 8, .iload 8, .imul, .aload 0, .getfield 684, .iload 9, .iaload, .iadd, .istore 8, .iinc 9 (-1), .goto 10]),
  (138, [.aload 0, .iload 2, .putfield 671, .aload 0, .iload 1, .invokevirtual 201, .istore 9, .aload 0, .iconst (-1), .putfield 671, .iload 6, .ifCond .lt 14]),
  (160, [.aload 0, .getfield 641, .iconst 60, .iconst 7, .iload 2, .imul, .iadd, .iload 9, .iadd, .iaload, .aload 0, .getfield 641, .iconst 60, .iconst 7, .iload 2, .imul, .iadd, .iload 6, .iadd, .iaload, .if_icmp .ge 15]),
  (193, [.iload 9, .istore 6, .iload 8, .istore 5]),
  (201, [.iinc 7 1, .goto 5]),
  (207, [.iload 3, .ifCond .ne 18]),
  (211, [.iload 5, .goto 19]),
  (216, [.iload 6]),
  (218, [.ireturn])]
def md_Model_bestLie : pm_M := ((⟨"QuestionDeskModel", "bestLie", "(III)I"⟩, prog_12_method_78_code, 10, some .int), (3, 10), cd_Model_bestLie)
def cd_Model_surely : List (Nat × List Instr) := [(0, [.aload 0, .iconst 0, .putfield 640, .iload 1, .invokestatic 171, .ifCond .eq 3]),
  (12, [.iload 2, .invokestatic 171, .ifCond .eq 3]),
  (19, [.iload 3, .iconst 0, .iconst 1, .invokestatic 166, .ifCond .ne 4]),
  (28, [.iconst (-1), .ireturn]),
  (30, [.aload 0, .invokevirtual 238, .istore 4, .iconst 0, .istore 5, .iconst 0, .istore 6]),
  (42, [.iload 6, .iconst 1, .iload 4, .ishl, .if_icmp .ge 16]),
  (51, [.aload 0, .iconst 0, .putfield 670, .iconst 0, .istore 7]),
  (59, [.iload 7, .iload 4, .if_icmp .ge 12]),
  (66, [.aload 0, .dup, .getfield 670, .iload 6, .iload 7, .ishr, .iconst 1, .iand, .iconst 1, .if_icmp .ne 10]),
  (82, [.iconst 1, .aload 0, .getfield 687, .iload 7, .iaload, .ishl, .goto 11]),
  (94, [.iconst 0]),
  (95, [.ior, .putfield 670, .iinc 7 1, .goto 7]),
  (105, [.iload 5, .aload 0, .iload 1, .iload 2, .invokevirtual 198, .ifCond .eq 14]),
  (116, [.iconst 1, .goto 15]),
  (120, [.iconst 0]),
  (121, [.iadd, .istore 5, .iinc 6 1, .goto 5]),
  (130, [.aload 0, .iconst 0, .putfield 670, .iload 3, .ifCond .ne 20]),
  (139, [.iload 5, .iconst 1, .iload 4, .ishl, .if_icmp .ne 19]),
  (148, [.iconst 1, .goto 23]),
  (152, [.iconst 0, .goto 23]),
  (156, [.iload 5, .ifCond .le 22]),
  (161, [.iconst 1, .goto 23]),
  (165, [.iconst 0]),
  (166, [.ireturn])]
def md_Model_surely : pm_M := ((⟨"QuestionDeskModel", "surely", "(III)I"⟩, prog_12_method_79_code, 8, some .int), (3, 10), cd_Model_surely)
def cd_Model_ring : List (Nat × List Instr) := [(0, [.aload 0, .iconst 0, .putfield 640, .iload 1, .iconst 0, .iconst 6, .invokestatic 166, .ifCond .ne 2]),
  (15, [.iconst (-1), .ireturn]),
  (17, [.iconst 0, .istore 2, .iconst 0, .istore 3]),
  (21, [.iload 3, .aload 0, .getfield 641, .iconst 0, .iaload, .if_icmp .ge 7]),
  (31, [.aload 0, .iload 3, .invokevirtual 228, .iconst 1, .aload 0, .getfield 641, .iconst 0, .iaload, .ishl, .iconst 1, .isub, .if_icmp .ne 6]),
  (49, [.aload 0, .getfield 688, .iload 2, .iload 3, .iastore, .iinc 2 1]),
  (59, [.iinc 3 1, .goto 3]),
  (65, [.iload 2, .iconst 3, .if_icmp .lt 10]),
  (70, [.iload 1, .iload 2, .if_icmp .ge 10]),
  (75, [.aload 0, .iload 2, .invokevirtual 243, .ifCond .ne 11]),
  (83, [.iconst (-4), .goto 12]),
  (88, [.aload 0, .getfield 689, .iload 1, .iaload]),
  (94, [.ireturn])]
def md_Model_ring : pm_M := ((⟨"QuestionDeskModel", "ring", "(I)I"⟩, prog_12_method_81_code, 4, some .int), (1, 10), cd_Model_ring)
def cd_Model_findRing : List (Nat × List Instr) := [(0, [.iconst 1, .istore 2, .iconst 1, .istore 3]),
  (4, [.iload 3, .iload 1, .if_icmp .ge 3]),
  (9, [.iload 2, .iload 1, .imul, .istore 2, .iinc 3 1, .goto 1]),
  (19, [.iconst 0, .istore 3]),
  (21, [.iload 3, .iload 2, .if_icmp .ge 19]),
  (26, [.iload 3, .istore 4, .iconst 1, .istore 5, .iconst 1, .istore 6, .aload 0, .getfield 689, .iconst 0, .aload 0, .getfield 688, .iconst 0, .iaload, .iastore, .iload 1, .iconst 1, .isub, .istore 7]),
  (52, [.iload 7, .ifCond .le 12]),
  (57, [.iload 4, .iload 1, .irem, .istore 8, .iload 4, .iload 1, .idiv, .istore 4, .iload 6, .ifCond .eq 10]),
  (74, [.iload 5, .iload 8, .ishr, .iconst 1, .iand, .ifCond .ne 10]),
  (84, [.iconst 1, .goto 11]),
  (88, [.iconst 0]),
  (89, [.istore 6, .iload 5, .iconst 1, .iload 8, .ishl, .ior, .istore 5, .aload 0, .getfield 689, .iload 7, .aload 0, .getfield 688, .iload 8, .iaload, .iastore, .iinc 7 (-1), .goto 6]),
  (120, [.iconst 0, .istore 7]),
  (123, [.iload 7, .iload 1, .if_icmp .ge 16]),
  (129, [.iload 6, .ifCond .eq 16]),
  (134, [.aload 0, .aload 0, .getfield 689, .iload 7, .iaload, .aload 0, .getfield 689, .iload 7, .iconst 1, .iadd, .iload 1, .irem, .iaload, .invokevirtual 198, .istore 6, .iinc 7 1, .goto 13]),
  (164, [.iload 6, .ifCond .eq 18]),
  (169, [.iconst 1, .ireturn]),
  (171, [.iinc 3 1, .goto 4]),
  (177, [.iconst 0, .ireturn])]
def md_Model_findRing : pm_M := ((⟨"QuestionDeskModel", "findRing", "(I)Z"⟩, prog_12_method_80_code, 9, some .boolean), (1, 10), cd_Model_findRing)
def cd_Model_usual : List (Nat × List Instr) := [(0, [.aload 0, .iconst 0, .putfield 640, .aload 0, .iload 1, .invokevirtual 180, .istore 2, .iload 2, .ifCond .ge 2]),
  (15, [.iload 2, .ireturn]),
  (17, [.aload 0, .getfield 694, .iload 1, .iaload, .aload 0, .getfield 641, .iconst 0, .iaload, .if_icmp .ge 4]),
  (32, [.iconst (-13), .ireturn]),
  (35, [.iconst 0, .istore 3, .iconst 1, .istore 4, .iconst 0, .istore 5]),
  (43, [.iload 5, .aload 0, .getfield 641, .iconst 0, .iaload, .if_icmp .ge 21]),
  (54, [.iconst 0, .istore 6]),
  (57, [.iload 6, .aload 0, .getfield 641, .iconst 0, .iaload, .if_icmp .ge 20]),
  (68, [.iconst 0, .istore 7, .iconst 0, .istore 8]),
  (74, [.iload 8, .aload 0, .getfield 641, .iconst 0, .iaload, .if_icmp .ge 16]),
  (85, [.aload 0, .getfield 695, .iconst 120, .iload 1, .imul, .iload 8, .iadd, .laload, .lstore 9, .aload 0, .getfield 695, .iconst 120, .iload 1, .imul, .iload 6, .iadd, .laload, .lstore 11, .iload 7, .lload 9, .lload 11, .lcmp, .ifCond .gt 13]),
  (123, [.lload 9, .lload 11, .lcmp, .ifCond .ne 14]),
  (131, [.iload 8, .iload 6, .if_icmp .ge 14]),
  (138, [.iconst 1, .goto 15]),
  (142, [.iconst 0]),
  (143, [.iadd, .istore 7, .iinc 8 1, .goto 9]),
  (152, [.iload 3, .iload 7, .iload 5, .if_icmp .ne 18]),
  (160, [.iload 6, .iload 4, .imul, .goto 19]),
  (168, [.iconst 0]),
  (169, [.iadd, .istore 3, .iinc 6 1, .goto 7]),
  (177, [.iload 4, .iconst 8, .imul, .istore 4, .iinc 5 1, .goto 5]),
  (190, [.iload 3, .ireturn])]
def md_Model_usual : pm_M := ((⟨"QuestionDeskModel", "usual", "(I)I"⟩, prog_12_method_82_code, 13, some .int), (1, 10), cd_Model_usual)
def cd_Model_breach : List (Nat × List Instr) := [(0, [.aload 0, .iconst 0, .putfield 640, .aload 0, .iload 1, .invokevirtual 200, .ifCond .eq 3]),
  (13, [.iload 2, .iconst 0, .iconst 2, .invokestatic 166, .ifCond .eq 3]),
  (22, [.iload 3, .iconst 1, .iconst 3, .invokestatic 166, .ifCond .ne 4]),
  (31, [.iconst (-1), .ireturn]),
  (33, [.iconst 0, .istore 5]),
  (36, [.iload 5, .aload 0, .getfield 644, .iload 1, .iaload, .if_icmp .ge 12]),
  (47, [.aload 0, .getfield 646, .iconst 100, .iload 1, .imul, .iload 5, .iadd, .iaload, .istore 6, .iload 6, .iconst 1, .if_icmp .eq 11]),
  (67, [.aload 0, .getfield 649, .iconst 100, .iload 1, .imul, .iload 5, .iadd, .iaload, .iconst 2, .if_icmp .gt 10]),
  (83, [.iload 6, .iconst 2, .if_icmp .ne 11]),
  (89, [.aload 0, .getfield 650, .iconst 100, .iload 1, .imul, .iload 5, .iadd, .iaload, .iconst 2, .if_icmp .le 11]),
  (105, [.iconst (-3), .ireturn]),
  (108, [.iinc 5 1, .goto 5]),
  (114, [.iload 3, .iconst 1, .if_icmp .ne 14]),
  (119, [.iconst 6, .goto 17]),
  (124, [.iload 3, .iconst 2, .if_icmp .ne 16]),
  (129, [.iconst 36, .goto 17]),
  (134, [.iconst 216]),
  (137, [.istore 5, .iconst (-4), .istore 6, .aload 0, .iload 3, .putfield 675, .aload 0, .iload 4, .ifCond .eq 19]),
  (154, [.iconst 1, .goto 20]),
  (158, [.iconst 0]),
  (159, [.putfield 668, .iconst 0, .istore 7]),
  (165, [.iload 7, .iload 5, .if_icmp .ge 27]),
  (172, [.iload 6, .ifCond .ge 27]),
  (177, [.aload 0, .iload 7, .invokevirtual 246, .aload 0, .iload 1, .iload 2, .invokevirtual 247, .ifCond .eq 25]),
  (192, [.iload 7, .goto 26]),
  (197, [.iload 6]),
  (199, [.istore 6, .iinc 7 1, .goto 21]),
  (207, [.aload 0, .iconst 0, .putfield 675, .aload 0, .iconst (-1), .putfield 668, .iload 6, .ireturn])]
def md_Model_breach : pm_M := ((⟨"QuestionDeskModel", "breach", "(IIIZ)I"⟩, prog_12_method_86_code, 8, some .int), (4, 10), cd_Model_breach)
def cd_Model_findChamber : List (Nat × List Instr) := [(0, [.iload 1, .istore 2, .aload 0, .getfield 675, .iconst 1, .isub, .istore 3]),
  (9, [.iload 3, .ifCond .lt 3]),
  (13, [.aload 0, .getfield 676, .iload 3, .iload 2, .iconst 6, .irem, .iastore, .iload 2, .iconst 6, .idiv, .istore 2, .iinc 3 (-1), .goto 1]),
  (34, [.return_])]
def md_Model_findChamber : pm_M := ((⟨"QuestionDeskModel", "findChamber", "(I)V"⟩, prog_12_method_83_code, 4, none), (1, 10), cd_Model_findChamber)
def cd_Model_breaks : List (Nat × List Instr) := [(0, [.aload 0, .iload 1, .invokevirtual 201, .istore 3, .iload 2, .ifCond .ne 16]),
  (10, [.iconst 0, .istore 4]),
  (13, [.iload 4, .iconst 3, .if_icmp .ge 15]),
  (19, [.iconst 1, .istore 5, .iconst 0, .istore 6]),
  (25, [.iload 6, .iconst 3, .if_icmp .ge 11]),
  (31, [.iload 5, .ifCond .eq 9]),
  (36, [.iload 4, .iload 6, .if_icmp .eq 8]),
  (43, [.aload 0, .iload 4, .iload 6, .invokevirtual 198, .ifCond .eq 9]),
  (54, [.iconst 1, .goto 10]),
  (58, [.iconst 0]),
  (59, [.istore 5, .iinc 6 1, .goto 4]),
  (67, [.iload 5, .ifCond .eq 14]),
  (72, [.iload 4, .iload 3, .if_icmp .eq 14]),
  (78, [.iconst 1, .ireturn]),
  (80, [.iinc 4 1, .goto 2]),
  (86, [.iconst 0, .ireturn]),
  (88, [.iconst 0, .istore 4, .iconst 0, .istore 5]),
  (94, [.iload 5, .aload 0, .getfield 675, .if_icmp .ge 34]),
  (103, [.iload 4, .ifCond .ne 34]),
  (108, [.aload 0, .getfield 676, .iload 5, .iaload, .istore 6, .iload 6, .iload 3, .invokestatic 193, .istore 7, .iload 2, .iconst 1, .if_icmp .ne 25]),
  (130, [.iload 7, .ifCond .le 25]),
  (135, [.aload 0, .getfield 676, .iload 5, .iload 6, .iload 7, .invokestatic 248, .iastore, .aload 0, .iload 1, .invokevirtual 201, .iload 3, .if_icmp .eq 23]),
  (158, [.iconst 1, .goto 24]),
  (162, [.iconst 0]),
  (163, [.istore 4]),
  (165, [.iconst 0, .istore 8]),
  (168, [.iload 8, .iconst 6, .if_icmp .ge 33]),
  (175, [.iload 2, .iconst 2, .if_icmp .ne 33]),
  (180, [.iload 4, .ifCond .ne 33]),
  (185, [.aload 0, .getfield 676, .iload 5, .iload 8, .iastore, .iload 6, .aload 0, .iload 1, .invokevirtual 201, .invokestatic 193, .iload 7, .if_icmp .ge 31]),
  (209, [.iconst 1, .goto 32]),
  (213, [.iconst 0]),
  (214, [.istore 4, .iinc 8 1, .goto 26]),
  (222, [.aload 0, .getfield 676, .iload 5, .iload 6, .iastore, .iinc 5 1, .goto 17]),
  (237, [.iload 4, .ireturn])]
def md_Model_breaks : pm_M := ((⟨"QuestionDeskModel", "breaks", "(II)Z"⟩, prog_12_method_85_code, 9, some .boolean), (2, 10), cd_Model_breaks)
def cd_Model_lifted : List (Nat × List Instr) := [(0, [.iload 0, .iconst 0, .invokestatic 194, .istore 2, .iload 0, .iconst 1, .invokestatic 194, .istore 3, .iload 0, .iconst 2, .invokestatic 194, .istore 4, .iload 1, .iconst 1, .if_icmp .ne 2]),
  (24, [.iload 3, .goto 3]),
  (28, [.iload 2]),
  (29, [.istore 5, .iload 1, .iconst 1, .if_icmp .ne 5]),
  (36, [.iload 2, .goto 6]),
  (40, [.iload 4]),
  (42, [.istore 6, .iload 1, .iconst 1, .if_icmp .ne 8]),
  (49, [.iload 4, .goto 9]),
  (54, [.iload 3]),
  (55, [.istore 7, .iconst 2, .iload 5, .imul, .iload 6, .iload 7, .if_icmp .ge 11]),
  (68, [.iconst 0, .goto 12]),
  (72, [.iconst 1]),
  (73, [.iadd, .ireturn])]
def md_Model_lifted : pm_M := ((⟨"QuestionDeskModel", "lifted", "(II)I"⟩, prog_12_method_84_code, 8, some .int), (2, 99), cd_Model_lifted)
def cd_Model_finds : List (Nat × List Instr) := [(0, [.aload 0, .iconst 0, .putfield 640, .aload 0, .iload 1, .invokevirtual 200, .ifCond .eq 2]),
  (13, [.iload 2, .invokestatic 171, .ifCond .ne 3]),
  (20, [.iconst (-1), .ireturn]),
  (22, [.aload 0, .iconst 0, .putfield 668, .aload 0, .iload 1, .invokevirtual 201, .iload 2, .if_icmp .ne 5]),
  (36, [.iconst 1, .goto 6]),
  (40, [.iconst 0]),
  (41, [.istore 3, .aload 0, .iconst 1, .putfield 668, .iload 3, .aload 0, .iload 1, .invokevirtual 201, .iload 2, .if_icmp .ne 8]),
  (57, [.iconst 2, .goto 9]),
  (61, [.iconst 0]),
  (62, [.iadd, .istore 3, .aload 0, .iconst (-1), .putfield 668, .iload 3, .ireturn])]
def md_Model_finds : pm_M := ((⟨"QuestionDeskModel", "finds", "(II)I"⟩, prog_12_method_87_code, 4, some .int), (2, 10), cd_Model_finds)
def cd_Model_image : List (Nat × List Instr) := [(0, [.aload 0, .iconst 0, .putfield 640, .aload 0, .iconst 1, .putfield 643, .iconst 0, .istore 1]),
  (12, [.iload 1, .iconst 200, .if_icmp .ge 3]),
  (19, [.aload 0, .getfield 642, .iload 1, .aload 0, .getfield 641, .iload 1, .iaload, .iastore, .iinc 1 1, .goto 1]),
  (37, [.aload 0, .getfield 641, .iconst 2, .iaload, .ireturn])]
def md_Model_image : pm_M := ((⟨"QuestionDeskModel", "image", "()I"⟩, prog_12_method_88_code, 2, some .int), (0, 10), cd_Model_image)
def cd_Model_restore : List (Nat × List Instr) := [(0, [.aload 0, .iconst 0, .putfield 640, .aload 0, .getfield 643, .ifCond .ne 2]),
  (12, [.iconst (-3), .ireturn]),
  (15, [.iconst 0, .istore 1]),
  (17, [.iload 1, .iconst 200, .if_icmp .ge 5]),
  (24, [.aload 0, .getfield 641, .iload 1, .aload 0, .getfield 642, .iload 1, .iaload, .iastore, .iinc 1 1, .goto 3]),
  (42, [.aload 0, .getfield 641, .iconst 2, .iaload, .ireturn])]
def md_Model_restore : pm_M := ((⟨"QuestionDeskModel", "restore", "()I"⟩, prog_12_method_89_code, 2, some .int), (0, 10), cd_Model_restore)
def cd_Model_count : List (Nat × List Instr) := [(0, [.aload 0, .iconst 0, .putfield 640, .iconst 0, .istore 2, .iload 1, .tableswitch 17 0 6 #[1, 2, 3, 4, 8, 9, 13]]),
  (52, [.aload 0, .getfield 641, .iconst 0, .iaload, .ireturn]),
  (59, [.aload 0, .getfield 641, .iconst 1, .iaload, .ireturn]),
  (66, [.aload 0, .getfield 641, .iconst 2, .iaload, .ireturn]),
  (73, [.iconst 0, .istore 3]),
  (75, [.iload 3, .aload 0, .getfield 641, .iconst 2, .iaload, .if_icmp .ge 7]),
  (85, [.iload 2, .aload 0, .getfield 641, .iconst 20, .iload 3, .iadd, .iaload, .iadd, .istore 2, .iinc 3 1, .goto 5]),
  (103, [.iload 2, .ireturn]),
  (105, [.aload 0, .getfield 641, .iconst 3, .iaload, .ireturn]),
  (112, [.iconst 0, .istore 3]),
  (114, [.iload 3, .aload 0, .getfield 641, .iconst 3, .iaload, .if_icmp .ge 12]),
  (124, [.iload 2, .aload 0, .getfield 645, .iload 3, .iaload, .iadd, .istore 2, .iinc 3 1, .goto 10]),
  (139, [.iload 2, .ireturn]),
  (141, [.iconst 0, .istore 3]),
  (143, [.iload 3, .aload 0, .getfield 641, .iconst 2, .iaload, .if_icmp .ge 16]),
  (153, [.iload 2, .aload 0, .iload 3, .invokevirtual 178, .iadd, .istore 2, .iinc 3 1, .goto 14]),
  (167, [.iload 2, .ireturn]),
  (169, [.iconst (-1), .ireturn])]
def md_Model_count : pm_M := ((⟨"QuestionDeskModel", "count", "(I)I"⟩, prog_12_method_90_code, 4, some .int), (1, 10), cd_Model_count)
def cd_Model_keep : List (Nat × List Instr) := [(0, [.aload 0, .iconst 0, .putfield 640, .iload 1, .iconst 0, .iconst 7, .invokestatic 166, .ifCond .eq 4]),
  (15, [.iload 2, .iconst 0, .iconst 1, .invokestatic 166, .ifCond .eq 4]),
  (24, [.iload 2, .iconst 1, .if_icmp .ne 5]),
  (29, [.aload 0, .iload 3, .invokevirtual 170, .ifCond .ne 5]),
  (37, [.iconst (-1), .ireturn]),
  (39, [.aload 0, .getfield 690, .iload 1, .iload 2, .iastore, .iload 2, .iconst 1, .if_icmp .ne 7]),
  (51, [.aload 0, .getfield 691, .iload 1, .aload 0, .iload 3, .invokevirtual 178, .iastore, .aload 0, .getfield 692, .iload 1, .aload 0, .iload 3, .invokevirtual 254, .iastore]),
  (73, [.iconst 0, .ireturn])]
def md_Model_keep : pm_M := ((⟨"QuestionDeskModel", "keep", "(III)I"⟩, prog_12_method_92_code, 4, some .int), (3, 10), cd_Model_keep)
def cd_Model_failureOf : List (Nat × List Instr) := [(0, [.aload 0, .getfield 641, .iconst 10, .iload 1, .iadd, .iaload, .tableswitch 7 3 5 #[1, 2, 3]]),
  (36, [.iconst (-15), .ireturn]),
  (39, [.iconst 100, .aload 0, .getfield 641, .iconst 40, .iload 1, .iadd, .iaload, .iadd, .iload 1, .iadd, .ireturn]),
  (54, [.aload 0, .getfield 641, .iconst 20, .iload 1, .iadd, .iaload, .iconst 1, .if_icmp .ne 5]),
  (67, [.iconst (-15), .goto 6]),
  (72, [.iload 1]),
  (73, [.ireturn]),
  (74, [.iload 1, .ireturn])]
def md_Model_failureOf : pm_M := ((⟨"QuestionDeskModel", "failureOf", "(I)I"⟩, prog_12_method_91_code, 2, some .int), (1, 10), cd_Model_failureOf)
def cd_Model_row : List (Nat × List Instr) := [(0, [.aload 0, .iconst 0, .putfield 640, .iload 1, .iconst 0, .iconst 7, .invokestatic 166, .ifCond .eq 3]),
  (15, [.iload 2, .iconst 0, .iconst 2, .invokestatic 166, .ifCond .eq 3]),
  (24, [.iload 3, .iconst 120, .if_icmp .le 4]),
  (30, [.iconst (-1), .ireturn]),
  (32, [.iload 3, .ifCond .ge 6]),
  (36, [.iconst (-14), .ireturn]),
  (39, [.aload 0, .getfield 690, .iload 1, .iconst 2, .iastore, .aload 0, .getfield 693, .iload 1, .iload 2, .iastore, .aload 0, .getfield 694, .iload 1, .iload 3, .iastore, .iconst 0, .istore 4]),
  (63, [.iload 4, .iconst 120, .if_icmp .ge 9]),
  (70, [.aload 0, .getfield 695, .iconst 120, .iload 1, .imul, .iload 4, .iadd, .goto_w 0, .lastore, .iinc 4 1, .goto 7]),
  (89, [.iconst 0, .ireturn])]
def md_Model_row : pm_M := ((⟨"QuestionDeskModel", "row", "(III)I"⟩, prog_12_method_93_code, 5, some .int), (3, 10), cd_Model_row)
def cd_Model_put : List (Nat × List Instr) := [(0, [.aload 0, .iconst 0, .putfield 640, .aload 0, .iload 1, .invokevirtual 257, .istore 4, .iload 4, .ifCond .ge 2]),
  (17, [.iload 4, .ireturn]),
  (20, [.iload 2, .iconst 0, .aload 0, .getfield 694, .iload 1, .iaload, .iconst 1, .isub, .invokestatic 166, .ifCond .ne 4]),
  (36, [.iconst (-13), .ireturn]),
  (39, [.aload 0, .getfield 695, .iconst 120, .iload 1, .imul, .iload 2, .iadd, .iload 3, .aload 0, .getfield 693, .iload 1, .iaload, .invokestatic 258, .lastore, .iconst 0, .ireturn])]
def md_Model_put : pm_M := ((⟨"QuestionDeskModel", "put", "(III)I"⟩, prog_12_method_96_code, 5, some .int), (3, 10), cd_Model_put)
def cd_Model_wrongRow : List (Nat × List Instr) := [(0, [.iload 1, .iconst 0, .iconst 7, .invokestatic 166, .ifCond .ne 2]),
  (10, [.iconst (-1), .goto 7]),
  (14, [.aload 0, .getfield 690, .iload 1, .iaload, .ifCond .ne 4]),
  (23, [.iconst (-11), .goto 7]),
  (28, [.aload 0, .getfield 690, .iload 1, .iaload, .iconst 2, .if_icmp .eq 6]),
  (38, [.iconst (-12), .goto 7]),
  (43, [.iconst 0]),
  (44, [.ireturn])]
def md_Model_wrongRow : pm_M := ((⟨"QuestionDeskModel", "wrongRow", "(I)I"⟩, prog_12_method_94_code, 2, some .int), (1, 10), cd_Model_wrongRow)
def cd_Model_narrowed : List (Nat × List Instr) := [(0, [.iload 1, .ifCond .ne 2]),
  (4, [.iload 0, .i2b, .i2l, .goto 5]),
  (10, [.iload 1, .iconst 1, .if_icmp .ne 4]),
  (15, [.iload 0, .i2s, .i2l, .goto 5]),
  (21, [.iload 0, .i2l]),
  (23, [.lreturn])]
def md_Model_narrowed : pm_M := ((⟨"QuestionDeskModel", "narrowed", "(II)J"⟩, prog_12_method_95_code, 2, some .long), (2, 99), cd_Model_narrowed)
def cd_Model_element : List (Nat × List Instr) := [(0, [.aload 0, .iload 1, .invokevirtual 257, .istore 3, .aload 0, .iload 3, .iconst (-1), .if_icmp .ne 2]),
  (12, [.iconst 1, .goto 6]),
  (16, [.iload 3, .ifCond .lt 4]),
  (20, [.iload 2, .iconst 0, .aload 0, .getfield 694, .iload 1, .iaload, .iconst 1, .isub, .invokestatic 166, .ifCond .ne 5]),
  (36, [.iconst 2, .goto 6]),
  (40, [.iconst 0]),
  (41, [.putfield 640, .aload 0, .getfield 640, .ifCond .le 8]),
  (51, [.goto_w 0, .goto 9]),
  (55, [.aload 0, .getfield 695, .iconst 120, .iload 1, .imul, .iload 2, .iadd, .laload]),
  (66, [.lreturn])]
def md_Model_element : pm_M := ((⟨"QuestionDeskModel", "element", "(II)J"⟩, prog_12_method_97_code, 4, some .long), (2, 10), cd_Model_element)
def cd_Model_copy : List (Nat × List Instr) := [(0, [.aload 0, .iconst 0, .putfield 640, .iload 1, .iconst 0, .iconst 7, .invokestatic 166, .ifCond .eq 2]),
  (15, [.iload 3, .iconst 0, .iconst 7, .invokestatic 166, .ifCond .ne 3]),
  (25, [.iconst (-1), .ireturn]),
  (27, [.aload 0, .getfield 690, .iload 1, .iaload, .ifCond .eq 5]),
  (36, [.aload 0, .getfield 690, .iload 3, .iaload, .ifCond .ne 6]),
  (45, [.iconst (-11), .ireturn]),
  (48, [.aload 0, .getfield 690, .iload 1, .iaload, .iconst 2, .if_icmp .ne 9]),
  (58, [.aload 0, .getfield 690, .iload 3, .iaload, .iconst 2, .if_icmp .ne 9]),
  (68, [.aload 0, .getfield 693, .iload 1, .iaload, .aload 0, .getfield 693, .iload 3, .iaload, .if_icmp .eq 10]),
  (83, [.iconst (-12), .ireturn]),
  (86, [.iload 5, .ifCond .lt 15]),
  (91, [.iload 2, .ifCond .lt 15]),
  (95, [.iload 4, .ifCond .lt 15]),
  (100, [.iload 2, .aload 0, .getfield 694, .iload 1, .iaload, .iload 5, .isub, .if_icmp .gt 15]),
  (113, [.iload 4, .aload 0, .getfield 694, .iload 3, .iaload, .iload 5, .isub, .if_icmp .le 16]),
  (127, [.iconst (-13), .ireturn]),
  (130, [.iconst 0, .istore 6]),
  (133, [.iload 6, .iload 5, .if_icmp .ge 19]),
  (140, [.aload 0, .getfield 696, .iload 6, .aload 0, .getfield 695, .iconst 120, .iload 1, .imul, .iload 2, .iadd, .iload 6, .iadd, .laload, .lastore, .iinc 6 1, .goto 17]),
  (167, [.iconst 0, .istore 6]),
  (170, [.iload 6, .iload 5, .if_icmp .ge 22]),
  (177, [.aload 0, .getfield 695, .iconst 120, .iload 3, .imul, .iload 4, .iadd, .iload 6, .iadd, .aload 0, .getfield 696, .iload 6, .laload, .lastore, .iinc 6 1, .goto 20]),
  (205, [.iload 5, .ireturn])]
def md_Model_copy : pm_M := ((⟨"QuestionDeskModel", "copy", "(IIIII)I"⟩, prog_12_method_98_code, 7, some .int), (5, 10), cd_Model_copy)
def cd_Model_heft : List (Nat × List Instr) := [(0, [.aload 0, .iconst 0, .putfield 640, .aload 0, .iload 1, .invokevirtual 262, .istore 2, .iload 2, .ifCond .ge 2]),
  (15, [.iload 2, .goto 3]),
  (19, [.aload 0, .getfield 691, .iload 1, .iaload]),
  (25, [.ireturn])]
def md_Model_heft : pm_M := ((⟨"QuestionDeskModel", "heft", "(I)I"⟩, prog_12_method_100_code, 3, some .int), (1, 10), cd_Model_heft)
def cd_Model_wrongShelf : List (Nat × List Instr) := [(0, [.iload 1, .iconst 0, .iconst 7, .invokestatic 166, .ifCond .ne 2]),
  (10, [.iconst (-1), .goto 7]),
  (14, [.aload 0, .getfield 690, .iload 1, .iaload, .ifCond .ne 4]),
  (23, [.iconst (-11), .goto 7]),
  (28, [.aload 0, .getfield 690, .iload 1, .iaload, .iconst 2, .if_icmp .ne 6]),
  (38, [.iconst (-12), .goto 7]),
  (43, [.iconst 0]),
  (44, [.ireturn])]
def md_Model_wrongShelf : pm_M := ((⟨"QuestionDeskModel", "wrongShelf", "(I)I"⟩, prog_12_method_99_code, 2, some .int), (1, 10), cd_Model_wrongShelf)
def cd_Model_toss : List (Nat × List Instr) := [(0, [.aload 0, .iconst 0, .putfield 640, .aload 0, .iload 1, .invokevirtual 262, .istore 2, .iload 2, .ifCond .ge 2]),
  (15, [.iload 2, .goto 3]),
  (19, [.aload 0, .getfield 692, .iload 1, .iaload]),
  (25, [.ireturn])]
def md_Model_toss : pm_M := ((⟨"QuestionDeskModel", "toss", "(I)I"⟩, prog_12_method_101_code, 3, some .int), (1, 10), cd_Model_toss)
def cd_Law_element : List (Nat × List Instr) := []
def md_Law_element : pm_M := ((⟨"QuestionDeskLaw", "element", "(LQuestionDesk;II[J)I"⟩, method_3_code, 5, some .int), (4, 99), cd_Law_element)
def cd_law : List (Nat × List Instr) := [(0, [.new 9, .dup, .invokespecial 109, .astore 1, .new 10, .dup, .invokespecial 163, .astore 2, .iconst 1, .newarray .long, .astore 3, .iconst 0, .istore 4]),
  (23, [.iload 4, .aload 0, .arraylength, .iconst 6, .isub, .if_icmp .gt 124]),
  (33, [.aload 0, .iload 4, .iaload, .iconst 63, .iand, .tableswitch 123 0 45 #[3, 5, 7, 9, 11, 13, 15, 17, 19, 21, 23, 25, 27, 29, 31, 33, 35, 37, 39, 41, 49, 57, 65, 67, 69, 71, 73, 75, 77, 79, 81, 83, 85, 87, 89, 97, 99, 101, 103, 105, 107, 109, 111, 117, 119, 121]]),
  (240, [.aload 1, .aload 0, .iload 4, .iconst 1, .iadd, .iaload, .aload 0, .iload 4, .iconst 2, .iadd, .iaload, .invokevirtual 110, .aload 2, .aload 0, .iload 4, .iconst 1, .iadd, .iaload, .aload 0, .iload 4, .iconst 2, .iadd, .iaload, .invokevirtual 165, .if_icmp .eq 123]),
  (275, [.iconst 0, .ireturn]),
  (277, [.aload 1, .aload 0, .iload 4, .iconst 1, .iadd, .iaload, .aload 0, .iload 4, .iconst 2, .iadd, .iaload, .invokevirtual 112, .aload 2, .aload 0, .iload 4, .iconst 1, .iadd, .iaload, .aload 0, .iload 4, .iconst 2, .iadd, .iaload, .invokevirtual 167, .if_icmp .eq 123]),
  (312, [.iconst 0, .ireturn]),
  (314, [.aload 1, .aload 0, .iload 4, .iconst 1, .iadd, .iaload, .aload 0, .iload 4, .iconst 2, .iadd, .iaload, .invokevirtual 114, .aload 2, .aload 0, .iload 4, .iconst 1, .iadd, .iaload, .aload 0, .iload 4, .iconst 2, .iadd, .iaload, .invokevirtual 169, .if_icmp .eq 123]),
  (349, [.iconst 0, .ireturn]),
  (351, [.aload 1, .aload 0, .iload 4, .iconst 1, .iadd, .iaload, .aload 0, .iload 4, .iconst 2, .iadd, .iaload, .invokevirtual 116, .aload 2, .aload 0, .iload 4, .iconst 1, .iadd, .iaload, .aload 0, .iload 4, .iconst 2, .iadd, .iaload, .invokevirtual 172, .if_icmp .eq 123]),
  (386, [.iconst 0, .ireturn]),
  (388, [.aload 1, .aload 0, .iload 4, .iconst 1, .iadd, .iaload, .aload 0, .iload 4, .iconst 2, .iadd, .iaload, .aload 0, .iload 4, .iconst 3, .iadd, .iaload, .invokevirtual 117, .aload 2, .aload 0, .iload 4, .iconst 1, .iadd, .iaload, .aload 0, .iload 4, .iconst 2, .iadd, .iaload, .aload 0, .iload 4, .iconst 3, .iadd, .iaload, .invokevirtual 173, .if_icmp .eq 123]),
  (435, [.iconst 0, .ireturn]),
  (437, [.aload 1, .aload 0, .iload 4, .iconst 1, .iadd, .iaload, .aload 0, .iload 4, .iconst 2, .iadd, .iaload, .aload 0, .iload 4, .iconst 3, .iadd, .iaload, .invokevirtual 119, .aload 2, .aload 0, .iload 4, .iconst 1, .iadd, .iaload, .aload 0, .iload 4, .iconst 2, .iadd, .iaload, .aload 0, .iload 4, .iconst 3, .iadd, .iaload, .invokevirtual 175, .if_icmp .eq 123]),
  (484, [.iconst 0, .ireturn]),
  (486, [.aload 1, .aload 0, .iload 4, .iconst 1, .iadd, .iaload, .aload 0, .iload 4, .iconst 2, .iadd, .iaload, .invokevirtual 120, .aload 2, .aload 0, .iload 4, .iconst 1, .iadd, .iaload, .aload 0, .iload 4, .iconst 2, .iadd, .iaload, .invokevirtual 176, .if_icmp .eq 123]),
  (521, [.iconst 0, .ireturn]),
  (523, [.aload 1, .aload 0, .iload 4, .iconst 1, .iadd, .iaload, .aload 0, .iload 4, .iconst 2, .iadd, .iaload, .invokevirtual 121, .aload 2, .aload 0, .iload 4, .iconst 1, .iadd, .iaload, .aload 0, .iload 4, .iconst 2, .iadd, .iaload, .invokevirtual 177, .if_icmp .eq 123]),
  (558, [.iconst 0, .ireturn]),
  (560, [.aload 1, .aload 0, .iload 4, .iconst 1, .iadd, .iaload, .invokevirtual 122, .aload 2, .aload 0, .iload 4, .iconst 1, .iadd, .iaload, .invokevirtual 179, .if_icmp .eq 123]),
  (583, [.iconst 0, .ireturn]),
  (585, [.aload 1, .aload 0, .iload 4, .iconst 1, .iadd, .iaload, .invokevirtual 124, .aload 2, .aload 0, .iload 4, .iconst 1, .iadd, .iaload, .invokevirtual 188, .if_icmp .eq 123]),
  (608, [.iconst 0, .ireturn]),
  (610, [.aload 1, .aload 0, .iload 4, .iconst 1, .iadd, .iaload, .aload 0, .iload 4, .iconst 2, .iadd, .iaload, .invokevirtual 125, .aload 2, .aload 0, .iload 4, .iconst 1, .iadd, .iaload, .aload 0, .iload 4, .iconst 2, .iadd, .iaload, .invokevirtual 199, .if_icmp .eq 123]),
  (645, [.iconst 0, .ireturn]),
  (647, [.aload 1, .aload 0, .iload 4, .iconst 1, .iadd, .iaload, .aload 0, .iload 4, .iconst 2, .iadd, .iaload, .invokevirtual 126, .aload 2, .aload 0, .iload 4, .iconst 1, .iadd, .iaload, .aload 0, .iload 4, .iconst 2, .iadd, .iaload, .invokevirtual 189, .if_icmp .eq 123]),
  (682, [.iconst 0, .ireturn]),
  (684, [.aload 1, .aload 0, .iload 4, .iconst 1, .iadd, .iaload, .aload 0, .iload 4, .iconst 2, .iadd, .iaload, .invokevirtual 127, .aload 2, .aload 0, .iload 4, .iconst 1, .iadd, .iaload, .aload 0, .iload 4, .iconst 2, .iadd, .iaload, .invokevirtual 196, .if_icmp .eq 123]),
  (719, [.iconst 0, .ireturn]),
  (721, [.aload 1, .aload 0, .iload 4, .iconst 1, .iadd, .iaload, .invokevirtual 128, .aload 2, .aload 0, .iload 4, .iconst 1, .iadd, .iaload, .invokevirtual 211, .if_icmp .eq 123]),
  (744, [.iconst 0, .ireturn]),
  (746, [.aload 1, .aload 0, .iload 4, .iconst 1, .iadd, .iaload, .aload 0, .iload 4, .iconst 2, .iadd, .iaload, .aload 0, .iload 4, .iconst 3, .iadd, .iaload, .invokevirtual 129, .aload 2, .aload 0, .iload 4, .iconst 1, .iadd, .iaload, .aload 0, .iload 4, .iconst 2, .iadd, .iaload, .aload 0, .iload 4, .iconst 3, .iadd, .iaload, .invokevirtual 212, .if_icmp .eq 123]),
  (793, [.iconst 0, .ireturn]),
  (795, [.aload 1, .aload 0, .iload 4, .iconst 1, .iadd, .iaload, .aload 0, .iload 4, .iconst 2, .iadd, .iaload, .invokevirtual 130, .aload 2, .aload 0, .iload 4, .iconst 1, .iadd, .iaload, .aload 0, .iload 4, .iconst 2, .iadd, .iaload, .invokevirtual 215, .if_icmp .eq 123]),
  (830, [.iconst 0, .ireturn]),
  (832, [.aload 1, .aload 0, .iload 4, .iconst 1, .iadd, .iaload, .aload 0, .iload 4, .iconst 2, .iadd, .iaload, .aload 0, .iload 4, .iconst 3, .iadd, .iaload, .invokevirtual 131, .aload 2, .aload 0, .iload 4, .iconst 1, .iadd, .iaload, .aload 0, .iload 4, .iconst 2, .iadd, .iaload, .aload 0, .iload 4, .iconst 3, .iadd, .iaload, .invokevirtual 216, .if_icmp .eq 123]),
  (879, [.iconst 0, .ireturn]),
  (881, [.aload 1, .aload 0, .iload 4, .iconst 1, .iadd, .iaload, .aload 0, .iload 4, .iconst 2, .iadd, .iaload, .invokevirtual 132, .aload 2, .aload 0, .iload 4, .iconst 1, .iadd, .iaload, .aload 0, .iload 4, .iconst 2, .iadd, .iaload, .invokevirtual 217, .if_icmp .eq 123]),
  (916, [.iconst 0, .ireturn]),
  (918, [.aload 1, .aload 0, .iload 4, .iconst 1, .iadd, .iaload, .invokevirtual 134, .aload 2, .aload 0, .iload 4, .iconst 1, .iadd, .iaload, .invokevirtual 218, .if_icmp .eq 123]),
  (941, [.iconst 0, .ireturn]),
  (943, [.aload 1, .aload 0, .iload 4, .iconst 1, .iadd, .iaload, .aload 0, .iload 4, .iconst 2, .iadd, .iaload, .ifCond .eq 43]),
  (959, [.iconst 1, .goto 44]),
  (963, [.iconst 0]),
  (964, [.invokevirtual 135, .aload 2, .aload 0, .iload 4, .iconst 1, .iadd, .iaload, .aload 0, .iload 4, .iconst 2, .iadd, .iaload, .ifCond .eq 46]),
  (983, [.iconst 1, .goto 47]),
  (987, [.iconst 0]),
  (988, [.invokevirtual 219, .if_icmp .eq 123]),
  (994, [.iconst 0, .ireturn]),
  (996, [.aload 1, .aload 0, .iload 4, .iconst 1, .iadd, .iaload, .ifCond .eq 51]),
  (1006, [.iconst 1, .goto 52]),
  (1010, [.iconst 0]),
  (1011, [.invokevirtual 137, .aload 2, .aload 0, .iload 4, .iconst 1, .iadd, .iaload, .ifCond .eq 54]),
  (1024, [.iconst 1, .goto 55]),
  (1028, [.iconst 0]),
  (1029, [.invokevirtual 222, .if_icmp .eq 123]),
  (1035, [.iconst 0, .ireturn]),
  (1037, [.aload 1, .aload 0, .iload 4, .iconst 1, .iadd, .iaload, .aload 0, .iload 4, .iconst 2, .iadd, .iaload, .ifCond .eq 59]),
  (1053, [.iconst 1, .goto 60]),
  (1057, [.iconst 0]),
  (1058, [.invokevirtual 138, .aload 2, .aload 0, .iload 4, .iconst 1, .iadd, .iaload, .aload 0, .iload 4, .iconst 2, .iadd, .iaload, .ifCond .eq 62]),
  (1077, [.iconst 1, .goto 63]),
  (1081, [.iconst 0]),
  (1082, [.invokevirtual 225, .if_icmp .eq 123]),
  (1088, [.iconst 0, .ireturn]),
  (1090, [.aload 1, .invokevirtual 140, .aload 2, .invokevirtual 226, .if_icmp .eq 123]),
  (1101, [.iconst 0, .ireturn]),
  (1103, [.aload 1, .aload 0, .iload 4, .iconst 1, .iadd, .iaload, .invokevirtual 141, .aload 2, .aload 0, .iload 4, .iconst 1, .iadd, .iaload, .invokevirtual 227, .if_icmp .eq 123]),
  (1126, [.iconst 0, .ireturn]),
  (1128, [.aload 1, .aload 0, .iload 4, .iconst 1, .iadd, .iaload, .invokevirtual 142, .aload 2, .aload 0, .iload 4, .iconst 1, .iadd, .iaload, .invokevirtual 230, .if_icmp .eq 123]),
  (1151, [.iconst 0, .ireturn]),
  (1153, [.aload 1, .aload 0, .iload 4, .iconst 1, .iadd, .iaload, .aload 0, .iload 4, .iconst 2, .iadd, .iaload, .invokevirtual 143, .aload 2, .aload 0, .iload 4, .iconst 1, .iadd, .iaload, .aload 0, .iload 4, .iconst 2, .iadd, .iaload, .invokevirtual 233, .if_icmp .eq 123]),
  (1188, [.iconst 0, .ireturn]),
  (1190, [.aload 1, .aload 0, .iload 4, .iconst 1, .iadd, .iaload, .aload 0, .iload 4, .iconst 2, .iadd, .iaload, .invokevirtual 144, .aload 2, .aload 0, .iload 4, .iconst 1, .iadd, .iaload, .aload 0, .iload 4, .iconst 2, .iadd, .iaload, .invokevirtual 234, .if_icmp .eq 123]),
  (1225, [.iconst 0, .ireturn]),
  (1227, [.aload 1, .aload 0, .iload 4, .iconst 1, .iadd, .iaload, .aload 0, .iload 4, .iconst 2, .iadd, .iaload, .invokevirtual 145, .aload 2, .aload 0, .iload 4, .iconst 1, .iadd, .iaload, .aload 0, .iload 4, .iconst 2, .iadd, .iaload, .invokevirtual 236, .if_icmp .eq 123]),
  (1262, [.iconst 0, .ireturn]),
  (1264, [.aload 1, .aload 0, .iload 4, .iconst 1, .iadd, .iaload, .aload 0, .iload 4, .iconst 2, .iadd, .iaload, .invokevirtual 146, .aload 2, .aload 0, .iload 4, .iconst 1, .iadd, .iaload, .aload 0, .iload 4, .iconst 2, .iadd, .iaload, .invokevirtual 237, .lcmp, .ifCond .eq 123]),
  (1300, [.iconst 0, .ireturn]),
  (1302, [.aload 1, .aload 0, .iload 4, .iconst 1, .iadd, .iaload, .aload 0, .iload 4, .iconst 2, .iadd, .iaload, .invokevirtual 147, .aload 2, .aload 0, .iload 4, .iconst 1, .iadd, .iaload, .aload 0, .iload 4, .iconst 2, .iadd, .iaload, .invokevirtual 239, .if_icmp .eq 123]),
  (1337, [.iconst 0, .ireturn]),
  (1339, [.aload 1, .aload 0, .iload 4, .iconst 1, .iadd, .iaload, .aload 0, .iload 4, .iconst 2, .iadd, .iaload, .aload 0, .iload 4, .iconst 3, .iadd, .iaload, .invokevirtual 148, .aload 2, .aload 0, .iload 4, .iconst 1, .iadd, .iaload, .aload 0, .iload 4, .iconst 2, .iadd, .iaload, .aload 0, .iload 4, .iconst 3, .iadd, .iaload, .invokevirtual 240, .if_icmp .eq 123]),
  (1386, [.iconst 0, .ireturn]),
  (1388, [.aload 1, .aload 0, .iload 4, .iconst 1, .iadd, .iaload, .aload 0, .iload 4, .iconst 2, .iadd, .iaload, .aload 0, .iload 4, .iconst 3, .iadd, .iaload, .invokevirtual 149, .aload 2, .aload 0, .iload 4, .iconst 1, .iadd, .iaload, .aload 0, .iload 4, .iconst 2, .iadd, .iaload, .aload 0, .iload 4, .iconst 3, .iadd, .iaload, .invokevirtual 241, .if_icmp .eq 123]),
  (1435, [.iconst 0, .ireturn]),
  (1437, [.aload 1, .aload 0, .iload 4, .iconst 1, .iadd, .iaload, .invokevirtual 150, .aload 2, .aload 0, .iload 4, .iconst 1, .iadd, .iaload, .invokevirtual 242, .if_icmp .eq 123]),
  (1460, [.iconst 0, .ireturn]),
  (1462, [.aload 1, .aload 0, .iload 4, .iconst 1, .iadd, .iaload, .invokevirtual 151, .aload 2, .aload 0, .iload 4, .iconst 1, .iadd, .iaload, .invokevirtual 244, .if_icmp .eq 123]),
  (1485, [.iconst 0, .ireturn]),
  (1487, [.aload 1, .aload 0, .iload 4, .iconst 1, .iadd, .iaload, .aload 0, .iload 4, .iconst 2, .iadd, .iaload, .aload 0, .iload 4, .iconst 3, .iadd, .iaload, .aload 0, .iload 4, .iconst 4, .iadd, .iaload, .ifCond .eq 91]),
  (1515, [.iconst 1, .goto 92]),
  (1519, [.iconst 0]),
  (1520, [.invokevirtual 152, .aload 2, .aload 0, .iload 4, .iconst 1, .iadd, .iaload, .aload 0, .iload 4, .iconst 2, .iadd, .iaload, .aload 0, .iload 4, .iconst 3, .iadd, .iaload, .aload 0, .iload 4, .iconst 4, .iadd, .iaload, .ifCond .eq 94]),
  (1551, [.iconst 1, .goto 95]),
  (1555, [.iconst 0]),
  (1556, [.invokevirtual 245, .if_icmp .eq 123]),
  (1562, [.iconst 0, .ireturn]),
  (1564, [.aload 1, .aload 0, .iload 4, .iconst 1, .iadd, .iaload, .aload 0, .iload 4, .iconst 2, .iadd, .iaload, .invokevirtual 153, .aload 2, .aload 0, .iload 4, .iconst 1, .iadd, .iaload, .aload 0, .iload 4, .iconst 2, .iadd, .iaload, .invokevirtual 249, .if_icmp .eq 123]),
  (1599, [.iconst 0, .ireturn]),
  (1601, [.aload 1, .invokevirtual 154, .aload 2, .invokevirtual 250, .if_icmp .eq 123]),
  (1612, [.iconst 0, .ireturn]),
  (1614, [.aload 1, .invokevirtual 155, .aload 2, .invokevirtual 251, .if_icmp .eq 123]),
  (1625, [.iconst 0, .ireturn]),
  (1627, [.aload 1, .aload 0, .iload 4, .iconst 1, .iadd, .iaload, .invokevirtual 156, .aload 2, .aload 0, .iload 4, .iconst 1, .iadd, .iaload, .invokevirtual 252, .if_icmp .eq 123]),
  (1650, [.iconst 0, .ireturn]),
  (1652, [.aload 1, .aload 0, .iload 4, .iconst 1, .iadd, .iaload, .aload 0, .iload 4, .iconst 2, .iadd, .iaload, .aload 0, .iload 4, .iconst 3, .iadd, .iaload, .invokevirtual 157, .aload 2, .aload 0, .iload 4, .iconst 1, .iadd, .iaload, .aload 0, .iload 4, .iconst 2, .iadd, .iaload, .aload 0, .iload 4, .iconst 3, .iadd, .iaload, .invokevirtual 253, .if_icmp .eq 123]),
  (1699, [.iconst 0, .ireturn]),
  (1701, [.aload 1, .aload 0, .iload 4, .iconst 1, .iadd, .iaload, .aload 0, .iload 4, .iconst 2, .iadd, .iaload, .aload 0, .iload 4, .iconst 3, .iadd, .iaload, .invokevirtual 158, .aload 2, .aload 0, .iload 4, .iconst 1, .iadd, .iaload, .aload 0, .iload 4, .iconst 2, .iadd, .iaload, .aload 0, .iload 4, .iconst 3, .iadd, .iaload, .invokevirtual 255, .if_icmp .eq 123]),
  (1748, [.iconst 0, .ireturn]),
  (1750, [.aload 1, .aload 0, .iload 4, .iconst 1, .iadd, .iaload, .aload 0, .iload 4, .iconst 2, .iadd, .iaload, .aload 0, .iload 4, .iconst 3, .iadd, .iaload, .invokevirtual 159, .aload 2, .aload 0, .iload 4, .iconst 1, .iadd, .iaload, .aload 0, .iload 4, .iconst 2, .iadd, .iaload, .aload 0, .iload 4, .iconst 3, .iadd, .iaload, .invokevirtual 256, .if_icmp .eq 123]),
  (1797, [.iconst 0, .ireturn]),
  (1799, [.aload 1, .aload 0, .iload 4, .iconst 1, .iadd, .iaload, .aload 0, .iload 4, .iconst 2, .iadd, .iaload, .aload 3, .invokestatic 264, .istore 5, .aload 2, .aload 0, .iload 4, .iconst 1, .iadd, .iaload, .aload 0, .iload 4, .iconst 2, .iadd, .iaload, .invokevirtual 259, .lstore 6, .aload 2, .invokevirtual 164, .iload 5, .if_icmp .eq 113]),
  (1845, [.iconst 0, .ireturn]),
  (1847, [.iload 5, .ifCond .ne 116]),
  (1852, [.aload 3, .iconst 0, .laload, .lload 6, .lcmp, .ifCond .eq 116]),
  (1861, [.iconst 0, .ireturn]),
  (1863, [.goto 123]),
  (1866, [.aload 1, .aload 0, .iload 4, .iconst 1, .iadd, .iaload, .aload 0, .iload 4, .iconst 2, .iadd, .iaload, .aload 0, .iload 4, .iconst 3, .iadd, .iaload, .aload 0, .iload 4, .iconst 4, .iadd, .iaload, .aload 0, .iload 4, .iconst 5, .iadd, .iaload, .invokevirtual 160, .aload 2, .aload 0, .iload 4, .iconst 1, .iadd, .iaload, .aload 0, .iload 4, .iconst 2, .iadd, .iaload, .aload 0, .iload 4, .iconst 3, .iadd, .iaload, .aload 0, .iload 4, .iconst 4, .iadd, .iaload, .aload 0, .iload 4, .iconst 5, .iadd, .iaload, .invokevirtual 260, .if_icmp .eq 123]),
  (1937, [.iconst 0, .ireturn]),
  (1939, [.aload 1, .aload 0, .iload 4, .iconst 1, .iadd, .iaload, .invokevirtual 161, .aload 2, .aload 0, .iload 4, .iconst 1, .iadd, .iaload, .invokevirtual 261, .if_icmp .eq 123]),
  (1962, [.iconst 0, .ireturn]),
  (1964, [.aload 1, .aload 0, .iload 4, .iconst 1, .iadd, .iaload, .invokevirtual 162, .aload 2, .aload 0, .iload 4, .iconst 1, .iadd, .iaload, .invokevirtual 263, .if_icmp .eq 123]),
  (1987, [.iconst 0, .ireturn]),
  (1989, [.iinc 4 6, .goto 1]),
  (1995, [.iconst 1, .ireturn])]
def pm_Ms : List pm_M := [md_Integer_signum, md_Integer_bitCount, md_Arrays_fill, md_Arrays_copyOf, md_Chamber_init, md_Chamber_memberAt, md_Chamber_treeAt, md_Chamber_takeOver, md_Chamber_allVoices, md_Chamber_allQuestions, md_Chamber_allWeight, md_Hall_init, md_Hall_seat, md_Hall_settle, md_Hall_settleQuestion, md_Hall_votesFor, md_Hall_drawLines, md_Hall_voteOf, md_Hall_sideOfBought, md_Hall_chairsOf, md_Hall_better, md_Hall_margin, md_Hall_beats, md_Hall_settleChoice, md_Hall_settleEnd, md_Hall_voteIn, md_Hall_makeAll, md_Hall_rememberWinners, md_Hall_firstOtherWinner, md_Hall_killerBits, md_Hall_putAgainst, md_Hall_shieldBits, md_Hall_seatOthers, md_Laws_init, md_Laws_assemble, md_Laws_reckonEnds, md_Laws_like, md_Laws_firstBreach, md_Laws_missesBest, md_Laws_isBrokenByOne, md_Laws_fallsWhenLifted, md_Laws_gainsByLying, md_Member_init, md_Member_begin, md_Member_weight, md_Member_takeOver, md_Member_tellWishes, md_Member_ofParty, md_Member_leaning, md_Orders_init, md_Orders_weigh, md_Orders_lineUp, md_Orders_comesOf, md_Orders_comesDeep, md_Orders_comesPlain, md_Orders_reachBits, md_Orders_peakBits, md_Orders_peakOf, md_Orders_isBeatenWhole, md_Orders_topBits, md_Orders_reachedFrom, md_Orders_firstFor, md_Orders_spread, md_Orders_digits, md_Orders_nextRow, md_Orders_change, md_Orders_beatsAll, md_Orders_uncoveredBits, md_Orders_ringAt, md_Orders_isRing, md_Orders_byRanks, md_Orders_greatestOf, md_Plots_init, md_Plots_plainOnes, md_Plots_fewestOf, md_Plots_makeOfKind, md_Plots_firstGaining, md_Plots_chanceOf, md_Plots_seatDoubtful, md_Plots_suppose, md_Plots_allOnes, md_Plots_findLie, md_Plots_mattering, md_Plots_there, md_Plots_leastWish, md_Plots_lieDigits, md_Plots_beatsIn, md_Reader_init, md_Reader_faultOf, md_Reader_readPart, md_Reader_readQuestion, md_Reader_addNode, md_Reader_readSign, md_Reader_readChoice, md_Reader_readPair, md_Reader_readEnd, md_Reader_treeRead, md_Shelf_init, md_Shelf_bytesRefusal, md_Shelf_refusalUnless, md_Shelf_holdsWishes, md_Shelf_beginRow, md_Shelf_rowRefusal, md_Shelf_lowestBits, md_Shelf_hasPlaces, md_Shelf_memberRefusal, md_Tree_init, md_Tree_nodeOf, md_Tree_questionsAhead, md_Desk_init, md_Desk_set, md_Desk_within, md_Desk_member, md_Desk_fits, md_Desk_bought, md_Desk_isEnd, md_Desk_becomes, md_Desk_wish, md_Desk_changeWish, md_Desk_doubted, md_Desk_sure, md_Desk_about, md_Desk_fault, md_Desk_shelfAt, md_Desk_tree, md_Desk_of, md_Desk_beat, md_Desk_stands, md_Desk_run, md_Desk_ask, md_Desk_wonBy, md_Desk_why, md_Desk_ifAll, md_Desk_comesIfAll, md_Desk_parts, md_Desk_order, md_Desk_weighOrders, md_Desk_reach, md_Desk_first, md_Desk_isThere, md_Desk_best, md_Desk_top, md_Desk_killers, md_Desk_shields, md_Desk_tell, md_Desk_falseVote, md_Desk_chance, md_Desk_boughtOff, md_Desk_bestLie, md_Desk_surely, md_Desk_ring, md_Desk_usual, md_Desk_breach, md_Desk_finds, md_Desk_image, md_Desk_restore, md_Desk_count, md_Desk_keep, md_Desk_row, md_Desk_put, md_Desk_copy, md_Desk_heft, md_Desk_toss, md_Model_init, md_Model_thrown, md_Model_set, md_Model_in, md_Model_member, md_Model_isNumber, md_Model_bought, md_Model_isMember, md_Model_isEnd, md_Model_becomes, md_Model_wish, md_Model_change, md_Model_doubted, md_Model_sure, md_Model_about, md_Model_heftOf, md_Model_fault, md_Model_lacks, md_Model_faultOf, md_Model_here, md_Model_begin, md_Model_readEnd, md_Model_take, md_Model_add, md_Model_part, md_Model_tree, md_Model_beat, md_Model_margin, md_Model_members, md_Model_wishOf, md_Model_placeIn, md_Model_liked, md_Model_voicesOf, md_Model_stands, md_Model_standing, md_Model_beats, md_Model_of, md_Model_isTree, md_Model_endOf, md_Model_load, md_Model_settle, md_Model_settleQuestion, md_Model_voteOf, md_Model_kindOf, md_Model_sign, md_Model_partyOf, md_Model_partySign, md_Model_endFor, md_Model_run, md_Model_ask, md_Model_isQuestion, md_Model_nodeOf, md_Model_wonBy, md_Model_why, md_Model_ifAll, md_Model_parts, md_Model_order, md_Model_isThere, md_Model_orderEnds, md_Model_reach, md_Model_allOrders, md_Model_findOrder, md_Model_first, md_Model_best, md_Model_top, md_Model_reachedFrom, md_Model_isCovered, md_Model_killers, md_Model_isKiller, md_Model_against, md_Model_shields, md_Model_tell, md_Model_ones, md_Model_falseVote, md_Model_chance, md_Model_findUnsure, md_Model_boughtOff, md_Model_bestLie, md_Model_surely, md_Model_ring, md_Model_findRing, md_Model_usual, md_Model_breach, md_Model_findChamber, md_Model_breaks, md_Model_lifted, md_Model_finds, md_Model_image, md_Model_restore, md_Model_count, md_Model_keep, md_Model_failureOf, md_Model_row, md_Model_put, md_Model_wrongRow, md_Model_narrowed, md_Model_element, md_Model_copy, md_Model_heft, md_Model_wrongShelf, md_Model_toss, md_Law_element]
end
section
/-! the checks, by the kernel -/
def pm_ckm (m : pm_M) (h : List Nat) : Bool := pm_wb (h.getD 0 0) (.code m.1.1 m.1.2.1 m.1.2.2.1 m.1.2.2.2) && (pm_wb (h.getD 1 0) (.initialized m.1.1.cls) && (plainName m.1.1.cls && (decide (m.1.1.cls ≠ "java/lang/invoke/MethodHandle" ∧ m.1.1.cls ≠ "java/lang/invoke/VarHandle") && (decide ((parseMethodDescriptor m.1.1.desc).map (fun d => d.parameters.length) = some m.2.1.1) && (decide (m.1.2.2.1 ≤ 40) &&
  ((decide (m.2.1.2 = 99) && pm_wb (h.getD 2 0) (.static m.1.1)) || (decide (m.2.1.2 ≠ 99) && (pm_wb (h.getD 2 0) (.instanceMethod m.1.1) && (decide (m.1.1.name = "<init>" ∧ m.1.2.2.2 = none) || (decide (m.1.1.name ≠ "<init>") && (pm_wb (h.getD 3 0) (.selects m.1.1.cls m.1.1 m.1.1) && (match pm_cl[m.2.1.2]? with | some r => decide (r.1 = m.1.1.cls) | none => false))))))))))))
def pm_ckr (cc : ByteArray) (own : String) (ini : Bool) (M : List pm_M) (code : List (Nat × List Instr)) : Nat → List (List Nat) → Bool
  | _, [] => true
  | b, hs :: r => (match code[b]? with | some q => pm_bk cc own ini M code b q.1 q.2 hs | none => false) && pm_ckr cc own ini M code (b + 1) r
theorem pm_ckr_at {cc : ByteArray} {own : String} {ini : Bool} {M : List pm_M} {code : List (Nat × List Instr)} {b : Nat} {q : Nat × List Instr} : ∀ {r : List (List Nat)} {b0 : Nat}, pm_ckr cc own ini M code b0 r = true → code[b]? = some q → b0 ≤ b → b < b0 + r.length → ∃ hs, pm_bk cc own ini M code b q.1 q.2 hs = true := by
  intro r
  induction r with
  | nil => intro b0 _ _ h1 h2; simp at h2; omega
  | cons hs r ih =>
    intro b0 h hq h1 h2
    unfold pm_ckr at h
    simp only [Bool.and_eq_true] at h
    by_cases e : b0 = b
    · subst e
      rw [hq] at h
      exact ⟨hs, h.1⟩
    · exact ih h.2 hq (by omega) (by rw [List.length_cons] at h2; omega)
def pm_ckc (M : List pm_M) (m : pm_M) (hs : List (List Nat)) : Bool := (match m.2.2[0]? with | some q => decide (q.1 = 0) | none => false) && (decide (hs.length = m.2.2.length) && pm_ckr m.1.2.1 m.1.1.cls (decide (m.1.1.name = "<init>")) M m.2.2 0 hs)
theorem pm_ck_ok {M : List pm_M} {m : pm_M} {h : List Nat} {hs : List (List Nat)} (h1 : pm_ckm m h = true) (h2 : pm_ckc M m hs = true) : pm_mOK m ∧ pm_code M m := by
  constructor
  · simp only [pm_ckm, Bool.and_eq_true, Bool.or_eq_true, decide_eq_true_eq] at h1
    obtain ⟨a1, a2, a3, a4, a5, a6, a7⟩ := h1
    refine ⟨pm_wb_in a1, pm_wb_in a2, a3, a4, a5, a6, ?_⟩
    rcases a7 with a7 | ⟨b1, b2, b3⟩
    · exact Or.inl ⟨a7.1, pm_wb_in a7.2⟩
    · refine Or.inr ⟨b1, pm_wb_in b2, ?_⟩
      rcases b3 with b3 | ⟨c1, c2, c3⟩
      · exact Or.inl b3
      · refine Or.inr ⟨c1, pm_wb_in c2, ?_⟩
        split at c3
        · rename_i r hr
          exact ⟨r, hr, by simpa using c3⟩
        · cases c3
  · simp only [pm_ckc, Bool.and_eq_true, decide_eq_true_eq] at h2
    obtain ⟨a1, a2, a3⟩ := h2
    refine ⟨?_, fun b q hq => pm_ckr_at a3 hq (Nat.zero_le _) (by rw [a2, Nat.zero_add]; exact (List.getElem?_eq_some_iff.mp hq).1)⟩
    split at a1
    · rename_i q hq
      exact ⟨q, hq, by simpa using a1⟩
    · cases a1
end
section
/-! printed by wip/whole/gencode.py: the blocks are the bytes, the words are in the tables -/
theorem ck_Integer_signum : pm_mOK md_Integer_signum ∧ pm_code pm_Ms md_Integer_signum := pm_ck_ok (h := [3082, 1015, 3081, 0]) (hs := [[0, 0, 0, 0, 0, 0, 0, 0, 0]]) (by decide +kernel) (by decide +kernel)
theorem ck_Integer_bitCount : pm_mOK md_Integer_bitCount ∧ pm_code pm_Ms md_Integer_bitCount := pm_ck_ok (h := [4077, 1015, 4076, 0]) (hs := [[0, 0, 0, 0, 4078, 0, 0, 0, 0, 4079, 0, 0, 0, 0, 4079, 0, 0, 0, 0, 0, 0, 0, 0, 4080, 0, 0, 0, 0, 0, 0, 0, 0, 0, 0, 0, 0, 0, 0, 0, 0, 0, 0]]) (by decide +kernel) (by decide +kernel)
theorem ck_Arrays_fill : pm_mOK md_Arrays_fill ∧ pm_code pm_Ms md_Arrays_fill := pm_ck_ok (h := [2117, 1011, 2116, 0]) (hs := [[0, 0, 0, 0, 0], [0, 0, 0], [0, 0, 0, 0, 0, 0], [0]]) (by decide +kernel) (by decide +kernel)
theorem ck_Arrays_copyOf : pm_mOK md_Arrays_copyOf ∧ pm_code pm_Ms md_Arrays_copyOf := pm_ck_ok (h := [2219, 1011, 2218, 0]) (hs := [[0, 0, 0, 0], [0, 2220], [0], [0], [0, 0, 0, 0, 0, 0, 0, 0, 0, 0, 2227, 2230, 0, 0]]) (by decide +kernel) (by decide +kernel)
theorem ck_Chamber_init : pm_mOK md_Chamber_init ∧ pm_code pm_Ms md_Chamber_init := pm_ck_ok (h := [1034, 1002, 1033, 0]) (hs := [[0, 1035, 0, 0, 1091, 0, 0, 1036, 1103, 0, 0, 1038, 1107, 0, 0], [0, 0, 0], [0, 1103, 0, 1036, 0, 90000, 0, 0, 0], [0]]) (by decide +kernel) (by decide +kernel)
theorem ck_Chamber_memberAt : pm_mOK md_Chamber_memberAt ∧ pm_code pm_Ms md_Chamber_memberAt := pm_ck_ok (h := [2125, 1002, 2123, 2124]) (hs := [[0, 0, 0, 1098, 0, 0, 90006, 0], [0, 1103, 0, 0, 0], [0], [0]]) (by decide +kernel) (by decide +kernel)
theorem ck_Chamber_treeAt : pm_mOK md_Chamber_treeAt ∧ pm_code pm_Ms md_Chamber_treeAt := pm_ck_ok (h := [3038, 1002, 3036, 3037]) (hs := [[0, 0, 0, 1101, 0, 0, 90006, 0], [0, 1107, 0, 0, 0], [0], [0]]) (by decide +kernel) (by decide +kernel)
theorem ck_Chamber_takeOver : pm_mOK md_Chamber_takeOver ∧ pm_code pm_Ms md_Chamber_takeOver := pm_ck_ok (h := [5007, 1002, 5005, 5006]) (hs := [[0, 0, 1091, 1091, 0, 0, 1096, 1096, 0, 0, 1098, 1098, 0, 0, 1101, 1101, 0, 0], [0, 0, 1098, 0], [0, 1103, 0, 0, 0, 1103, 0, 0, 5008, 0, 0], [0, 0], [0, 0, 1101, 0], [0, 1107, 0, 0, 1107, 0, 0, 0, 0, 0], [0]]) (by decide +kernel) (by decide +kernel)
theorem ck_Chamber_allVoices : pm_mOK md_Chamber_allVoices ∧ pm_code pm_Ms md_Chamber_allVoices := pm_ck_ok (h := [5020, 1002, 5018, 5019]) (hs := [[0, 0, 0, 0], [0, 0, 1098, 0], [0, 0, 1103, 0, 0, 1052, 0, 0, 0, 0], [0, 0]]) (by decide +kernel) (by decide +kernel)
theorem ck_Chamber_allQuestions : pm_mOK md_Chamber_allQuestions ∧ pm_code pm_Ms md_Chamber_allQuestions := pm_ck_ok (h := [5024, 1002, 5022, 5023]) (hs := [[0, 0, 0, 0], [0, 0, 1101, 0], [0, 0, 1107, 0, 0, 3008, 0, 0, 0, 0], [0, 0]]) (by decide +kernel) (by decide +kernel)
theorem ck_Chamber_allWeight : pm_mOK md_Chamber_allWeight ∧ pm_code pm_Ms md_Chamber_allWeight := pm_ck_ok (h := [5028, 1002, 5026, 5027]) (hs := [[0, 0, 0, 0], [0, 0, 1098, 0], [0, 0, 1103, 0, 0, 5029, 0, 0, 0, 0], [0, 0]]) (by decide +kernel) (by decide +kernel)
theorem ck_Hall_init : pm_mOK md_Hall_init ∧ pm_code pm_Ms md_Hall_init := pm_ck_ok (h := [1159, 1005, 1158, 0]) (hs := [[0, 1160, 0, 0, 1161, 1166, 0, 0, 0, 1169, 0, 0, 0, 1171, 0, 0, 0, 1173, 0, 0, 0, 1175, 0, 0, 0, 1177, 0, 0, 0, 1178, 0, 0, 0, 1179, 0, 0, 0, 1180, 0, 0], [0, 0, 0], [0, 1166, 0, 1161, 0, 90002, 0, 0, 0], [0]]) (by decide +kernel) (by decide +kernel)
theorem ck_Hall_seat : pm_mOK md_Hall_seat ∧ pm_code pm_Ms md_Hall_seat := pm_ck_ok (h := [3042, 1005, 3040, 3041]) (hs := [[0, 0, 1097, 1163, 0, 0, 1094, 1164, 0, 0, 1165, 0, 0], [0, 0, 1163, 0], [0, 1166, 0, 0, 0, 1105, 0, 0, 3043, 0, 1166, 0, 0, 1049, 0, 0], [0, 0, 1165, 0, 1166, 0, 0, 1056, 3052, 1165], [0, 0], [0]]) (by decide +kernel) (by decide +kernel)
theorem ck_Hall_settle : pm_mOK md_Hall_settle ∧ pm_code pm_Ms md_Hall_settle := pm_ck_ok (h := [3058, 1005, 3056, 3057]) (hs := [[0, 2238, 0, 0, 0], [0, 0], [0, 3001, 0, 0, 0, 0, 0, 0], [0, 0, 0, 0, 0, 0, 3003, 0, 0, 3059, 0], [0, 0, 0], [0, 3006, 0, 0, 0, 0, 0, 0, 0, 0, 0, 3003, 0, 0, 0, 0, 0, 0, 0, 0, 0, 3104, 3108, 0], [0, 0, 0, 3112], [0, 0], [0, 1171, 0, 0, 0]]) (by decide +kernel) (by decide +kernel)
theorem ck_Hall_settleQuestion : pm_mOK md_Hall_settleQuestion ∧ pm_code pm_Ms md_Hall_settleQuestion := pm_ck_ok (h := [3062, 1005, 3061, 10]) (hs := [[0, 1169, 0, 0, 1169, 0, 0, 0, 0, 1177, 0, 0, 1177, 0, 0, 0, 1177, 0, 0, 0, 0, 0, 1175, 0, 0, 0, 0, 3063, 0, 0, 1173, 0, 0, 1175, 0, 0, 0], [0, 1175, 0, 0, 0], [0, 0, 1169, 0, 0, 0, 1169, 0, 0, 3091, 0, 1169, 0, 0, 0], [0, 0], [0], [0, 0, 1171, 0, 0, 1171, 0, 1173, 0, 0, 0], [0, 0], [0], [0, 0, 0, 1178, 0, 0, 1169, 0, 0, 0, 0, 0], [0, 0, 1165, 0], [0, 0, 0, 0, 0, 0, 0, 1178, 0, 0, 0, 0, 0, 0, 0, 1178, 0, 0, 0, 0, 0, 1178, 0, 0, 0, 0, 3096, 0, 0, 0], [0]]) (by decide +kernel) (by decide +kernel)
theorem ck_Hall_votesFor : pm_mOK md_Hall_votesFor ∧ pm_code pm_Ms md_Hall_votesFor := pm_ck_ok (h := [3066, 1005, 3065, 11]) (hs := [[0, 0, 0, 3067, 0, 0, 0, 0], [0, 0, 1163, 0], [0, 0, 0, 1166, 0, 0, 0, 0, 3083, 0, 0, 0, 0], [0, 0]]) (by decide +kernel) (by decide +kernel)
theorem ck_Hall_drawLines : pm_mOK md_Hall_drawLines ∧ pm_code pm_Ms md_Hall_drawLines := pm_ck_ok (h := [3070, 1005, 3069, 12]) (hs := [[0, 1179, 0, 3071, 0, 0], [0, 0, 1163, 0], [0, 1166, 0, 0, 0, 0, 3072, 0], [0, 1179, 0, 1056, 0, 0, 0, 1053, 0, 0, 1169, 0, 0, 0, 1169, 0, 0, 3076, 0, 0, 0], [0, 0], [0, 0], [0, 0, 0], [0, 1179, 0, 0, 1179, 0, 0, 3080, 0, 0, 0], [0]]) (by decide +kernel) (by decide +kernel)
theorem ck_Hall_voteOf : pm_mOK md_Hall_voteOf ∧ pm_code pm_Ms md_Hall_voteOf := pm_ck_ok (h := [3086, 1005, 3085, 13]) (hs := [[0, 1049, 0], [0, 1053, 0, 0, 1171, 0, 0, 0, 1171, 0, 0, 3076, 0, 0], [0, 1056, 0, 0, 0, 0, 1053, 0, 0, 1178, 0, 0, 0, 0, 0, 1178, 0, 0, 0, 0, 3076, 0, 0], [0, 1053, 0, 1179, 0, 1056, 0, 0, 0], [0, 1053, 0, 0, 0, 0, 3087, 0, 0], [0, 1053, 0, 0, 0, 0, 0, 0, 1169, 0, 0, 0, 1169, 0, 0, 3076, 0, 0, 1053, 0, 0, 0, 0, 1171, 0, 0, 0, 1171, 0, 0, 3076, 0, 0, 0], [0, 1053, 0, 0, 1169, 0, 0, 0, 1169, 0, 0, 3076, 0, 0]]) (by decide +kernel) (by decide +kernel)
end
section
/-! printed by wip/whole/gencode.py: the blocks are the bytes, the words are in the tables -/
theorem ck_Hall_sideOfBought : pm_mOK md_Hall_sideOfBought ∧ pm_code pm_Ms md_Hall_sideOfBought := pm_ck_ok (h := [3090, 1005, 3089, 14]) (hs := [[0, 1177, 0, 0, 0, 1062, 0, 0, 0, 0, 0, 1177, 0, 0, 0, 1062, 0, 0, 0, 0, 0, 0, 0], [0, 1179, 0, 1056, 0, 0], [0, 0, 0], [0]]) (by decide +kernel) (by decide +kernel)
theorem ck_Hall_chairsOf : pm_mOK md_Hall_chairsOf ∧ pm_code pm_Ms md_Hall_chairsOf := pm_ck_ok (h := [3094, 1005, 3093, 15]) (hs := [[0, 1164, 0], [0, 0, 3095, 0], [0, 0, 3052], [0]]) (by decide +kernel) (by decide +kernel)
theorem ck_Hall_better : pm_mOK md_Hall_better ∧ pm_code pm_Ms md_Hall_better := pm_ck_ok (h := [3099, 1005, 3097, 3098]) (hs := [[0, 0, 0], [0, 0], [0, 0, 0, 3100, 0, 0, 0], [0, 0, 0, 3091, 0], [0, 0], [0, 0], [0], [0]]) (by decide +kernel) (by decide +kernel)
theorem ck_Hall_margin : pm_mOK md_Hall_margin ∧ pm_code pm_Ms md_Hall_margin := pm_ck_ok (h := [3103, 1005, 3101, 3102]) (hs := [[0, 0, 0, 0], [0, 0, 1163, 0], [0, 0, 1166, 0, 0, 1053, 0, 1166, 0, 0, 0, 0, 3076, 0, 0, 0, 0, 0], [0, 0]]) (by decide +kernel) (by decide +kernel)
theorem ck_Hall_beats : pm_mOK md_Hall_beats ∧ pm_code pm_Ms md_Hall_beats := pm_ck_ok (h := [3107, 1005, 3105, 3106]) (hs := [[0, 0, 0], [0, 0, 0, 3096, 0, 0], [0, 0], [0], [0]]) (by decide +kernel) (by decide +kernel)
theorem ck_Hall_settleChoice : pm_mOK md_Hall_settleChoice ∧ pm_code pm_Ms md_Hall_settleChoice := pm_ck_ok (h := [3111, 1005, 3110, 16]) (hs := [[0, 0], [0, 0], [0], [0, 0, 1169, 0, 0, 1169, 0, 0, 0, 0, 1171, 0, 0, 1171, 0, 0, 0, 0, 1177, 0, 0, 1177, 0, 0, 0, 1177, 0, 0, 0, 0, 0, 0], [0, 0, 1165, 0], [0, 1178, 0, 0, 0, 0, 0, 0, 1178, 0, 0, 0, 0, 0, 0, 0, 0, 0], [0]]) (by decide +kernel) (by decide +kernel)
theorem ck_Hall_settleEnd : pm_mOK md_Hall_settleEnd ∧ pm_code pm_Ms md_Hall_settleEnd := pm_ck_ok (h := [3115, 1005, 3114, 17]) (hs := [[0, 1169, 0, 0, 0, 0, 1171, 0, 0, 0, 0, 1177, 0, 0, 0, 0, 0, 0, 0], [0, 0, 1165, 0], [0, 1178, 0, 0, 0, 0, 0, 0, 0, 0, 0], [0]]) (by decide +kernel) (by decide +kernel)
theorem ck_Hall_voteIn : pm_mOK md_Hall_voteIn ∧ pm_code pm_Ms md_Hall_voteIn := pm_ck_ok (h := [3150, 1005, 3148, 3149]) (hs := [[0, 0, 0, 3067, 0, 0, 1166, 0, 0, 0, 0, 3083, 0]]) (by decide +kernel) (by decide +kernel)
theorem ck_Hall_makeAll : pm_mOK md_Hall_makeAll ∧ pm_code pm_Ms md_Hall_makeAll := pm_ck_ok (h := [3162, 1005, 3160, 3161]) (hs := [[0, 0], [0, 0, 1163, 0], [0, 1166, 0, 0, 0, 1049, 0, 0], [0]]) (by decide +kernel) (by decide +kernel)
theorem ck_Hall_rememberWinners : pm_mOK md_Hall_rememberWinners ∧ pm_code pm_Ms md_Hall_rememberWinners := pm_ck_ok (h := [3170, 1005, 3168, 3169]) (hs := [[0, 1173, 0, 0, 1180, 0, 0, 2238, 3171, 0]]) (by decide +kernel) (by decide +kernel)
theorem ck_Hall_firstOtherWinner : pm_mOK md_Hall_firstOtherWinner ∧ pm_code pm_Ms md_Hall_firstOtherWinner := pm_ck_ok (h := [3175, 1005, 3173, 3174]) (hs := [[0, 0], [0, 0, 2238, 0], [0, 3001, 0, 0, 0, 0], [0, 1173, 0, 0, 0, 1180, 0, 0, 0], [0, 0], [0, 0], [0, 0]]) (by decide +kernel) (by decide +kernel)
theorem ck_Hall_killerBits : pm_mOK md_Hall_killerBits ∧ pm_code pm_Ms md_Hall_killerBits := pm_ck_ok (h := [4049, 1005, 4047, 4048]) (hs := [[0, 0, 0, 0], [0, 0, 0], [0, 1171, 0, 0, 0, 0, 4050, 0, 0, 1171, 0, 0, 0], [0, 0, 0, 0, 0, 0], [0, 0], [0, 0]]) (by decide +kernel) (by decide +kernel)
theorem ck_Hall_putAgainst : pm_mOK md_Hall_putAgainst ∧ pm_code pm_Ms md_Hall_putAgainst := pm_ck_ok (h := [4053, 1005, 4052, 27]) (hs := [[0, 0, 0, 3112, 0, 0, 0, 0, 0, 0, 3059, 0, 0, 0, 0]]) (by decide +kernel) (by decide +kernel)
theorem ck_Hall_shieldBits : pm_mOK md_Hall_shieldBits ∧ pm_code pm_Ms md_Hall_shieldBits := pm_ck_ok (h := [4061, 1005, 4059, 4060]) (hs := [[0, 0, 0, 0, 4050, 0, 0, 0, 0, 0], [0, 0, 0], [0, 1171, 0, 0, 0, 0, 0, 0, 4050, 0, 0, 1171, 0, 0, 0], [0, 0, 0, 0, 0, 0], [0, 0], [0, 0]]) (by decide +kernel) (by decide +kernel)
theorem ck_Hall_seatOthers : pm_mOK md_Hall_seatOthers ∧ pm_code pm_Ms md_Hall_seatOthers := pm_ck_ok (h := [4197, 1005, 4195, 4196]) (hs := [[0, 0, 1163, 0, 0, 1164, 0, 0, 1165, 0, 0], [0, 0, 1163, 0], [0, 1166, 0, 0, 0, 0, 0, 0, 4198, 0, 0], [0]]) (by decide +kernel) (by decide +kernel)
theorem ck_Laws_init : pm_mOK md_Laws_init ∧ pm_code pm_Ms md_Laws_init := pm_ck_ok (h := [2024, 1008, 2023, 0]) (hs := [[0, 2025, 0, 0, 0, 2029, 0, 0, 2026, 0]]) (by decide +kernel) (by decide +kernel)
theorem ck_Laws_assemble : pm_mOK md_Laws_assemble ∧ pm_code pm_Ms md_Laws_assemble := pm_ck_ok (h := [4193, 1008, 4191, 4192]) (hs := [[0, 0, 2027, 0, 2026, 0, 0, 0, 4194, 0, 0, 2028, 0, 0], [0, 0, 2027, 0], [0, 0, 2028, 0, 0, 2028, 0, 0], [0]]) (by decide +kernel) (by decide +kernel)
theorem ck_Laws_reckonEnds : pm_mOK md_Laws_reckonEnds ∧ pm_code pm_Ms md_Laws_reckonEnds := pm_ck_ok (h := [4202, 1008, 4200, 4201]) (hs := [[0, 0], [0, 0, 2028, 0], [0, 0, 4203, 0, 2029, 0, 0, 2026, 0, 4210, 0, 0, 0], [0]]) (by decide +kernel) (by decide +kernel)
theorem ck_Laws_like : pm_mOK md_Laws_like ∧ pm_code pm_Ms md_Laws_like := pm_ck_ok (h := [4206, 1008, 4205, 34]) (hs := [[0, 0, 0, 2027, 0, 0, 0], [0, 0], [90000, 0, 0, 0, 0, 0, 0, 2026, 1168, 0, 0, 1068, 0, 0, 4209, 0, 0, 0, 0, 0, 0], [0]]) (by decide +kernel) (by decide +kernel)
theorem ck_Laws_firstBreach : pm_mOK md_Laws_firstBreach ∧ pm_code pm_Ms md_Laws_firstBreach := pm_ck_ok (h := [4214, 1008, 4212, 4213]) (hs := [[0, 0], [0, 0, 2028, 0], [0, 0], [0, 0, 4215, 0], [0, 0, 0, 4220], [0, 0, 0], [0, 0], [0, 0], [0, 0]]) (by decide +kernel) (by decide +kernel)
theorem ck_Laws_missesBest : pm_mOK md_Laws_missesBest ∧ pm_code pm_Ms md_Laws_missesBest := pm_ck_ok (h := [4218, 1008, 4217, 35]) (hs := [[0, 0, 4203, 0, 0], [0, 0, 0], [0, 2026, 0, 0, 0, 0, 0, 0, 4219, 0], [0, 2026, 0, 0, 0, 0, 0, 0, 4219, 0], [0, 2029, 0, 0, 0, 0], [0, 0], [0], [0], [0, 0], [0, 0]]) (by decide +kernel) (by decide +kernel)
theorem ck_Laws_isBrokenByOne : pm_mOK md_Laws_isBrokenByOne ∧ pm_code pm_Ms md_Laws_isBrokenByOne := pm_ck_ok (h := [4223, 1008, 4222, 36]) (hs := [[0, 0, 0, 2027, 0, 0, 0], [0, 0], [0, 0, 0, 0, 0, 0, 0, 0, 0, 0, 0, 0, 0, 0, 0], [0, 0, 0, 0, 4224, 0], [0], [0, 0, 0, 0, 4232, 0], [0, 0], [0, 0, 0, 0, 0, 0], [0, 0]]) (by decide +kernel) (by decide +kernel)
theorem ck_Laws_fallsWhenLifted : pm_mOK md_Laws_fallsWhenLifted ∧ pm_code pm_Ms md_Laws_fallsWhenLifted := pm_ck_ok (h := [4227, 1008, 4226, 37]) (hs := [[0, 2029, 0, 0, 0, 0, 0, 0, 0, 90000, 0, 0, 0, 0, 0, 0, 0, 0, 0], [0, 0], [0, 0, 0], [90001, 0, 0, 0], [90002, 0, 0], [0, 0, 2029, 0, 0, 0, 0, 0, 0, 0, 0], [0, 0], [0], [0]]) (by decide +kernel) (by decide +kernel)
theorem ck_Laws_gainsByLying : pm_mOK md_Laws_gainsByLying ∧ pm_code pm_Ms md_Laws_gainsByLying := pm_ck_ok (h := [4235, 1008, 4234, 38]) (hs := [[0, 0, 0, 0, 90000, 0, 0, 2029, 0, 0, 0, 0, 0, 0, 0, 0, 0, 0, 0], [0, 0, 0], [90000, 0, 0, 2029, 0, 0, 0, 0, 0, 0, 0, 0, 0, 0], [0, 0], [0, 0], [0, 0]]) (by decide +kernel) (by decide +kernel)
theorem ck_Member_init : pm_mOK md_Member_init ∧ pm_code pm_Ms md_Member_init := pm_ck_ok (h := [1043, 1003, 1042, 0]) (hs := [[0, 1044, 0, 0, 0, 1066, 0, 0, 0, 1070, 0]]) (by decide +kernel) (by decide +kernel)
theorem ck_Member_begin : pm_mOK md_Member_begin ∧ pm_code pm_Ms md_Member_begin := pm_ck_ok (h := [2114, 1003, 2112, 2113]) (hs := [[0, 0, 1045, 0, 0, 1047, 0, 0, 1051, 0, 0, 1055, 0, 0, 1059, 0, 0, 1063, 0, 1066, 0, 2115, 0, 1070, 0, 2115, 0]]) (by decide +kernel) (by decide +kernel)
end
section
/-! printed by wip/whole/gencode.py: the blocks are the bytes, the words are in the tables -/
theorem ck_Member_weight : pm_mOK md_Member_weight ∧ pm_code pm_Ms md_Member_weight := pm_ck_ok (h := [2157, 1003, 2155, 2156]) (hs := [[0, 1047, 0], [0, 1051, 0, 0, 0], [0, 1051, 0, 0, 0, 1055, 0, 0], [0, 0, 1051, 0, 0], [0, 0, 1051, 0, 0, 0, 0], [0, 1051, 0, 0, 0], [0, 1051, 0]]) (by decide +kernel) (by decide +kernel)
theorem ck_Member_takeOver : pm_mOK md_Member_takeOver ∧ pm_code pm_Ms md_Member_takeOver := pm_ck_ok (h := [3046, 1003, 3044, 3045]) (hs := [[0, 0, 1045, 1045, 0, 0, 1047, 1047, 0, 0, 1051, 1051, 0, 0, 1055, 1055, 0, 0, 1059, 1059, 0, 0, 1063, 1063, 0, 0, 1066, 3047, 0, 1070, 0, 0, 1070, 0, 0, 3051, 0]]) (by decide +kernel) (by decide +kernel)
theorem ck_Member_tellWishes : pm_mOK md_Member_tellWishes ∧ pm_code pm_Ms md_Member_tellWishes := pm_ck_ok (h := [3050, 1003, 3048, 3049]) (hs := [[0, 0, 0, 1066, 0, 0, 3051, 0]]) (by decide +kernel) (by decide +kernel)
theorem ck_Member_ofParty : pm_mOK md_Member_ofParty ∧ pm_code pm_Ms md_Member_ofParty := pm_ck_ok (h := [3075, 1003, 3073, 3074]) (hs := [[0, 1047, 0, 0], [0, 1047, 0, 0], [0, 0], [0], [0]]) (by decide +kernel) (by decide +kernel)
theorem ck_Member_leaning : pm_mOK md_Member_leaning ∧ pm_code pm_Ms md_Member_leaning := pm_ck_ok (h := [3079, 1003, 3077, 3078]) (hs := [[0, 1066, 0, 0, 0, 1066, 0, 0, 0], [0, 0], [0, 1066, 0, 0, 0, 1066, 0, 0, 0], [0, 0], [0], [0]]) (by decide +kernel) (by decide +kernel)
theorem ck_Orders_init : pm_mOK md_Orders_init ∧ pm_code pm_Ms md_Orders_init := pm_ck_ok (h := [1210, 1006, 1209, 0]) (hs := [[0, 1211, 0, 0, 0, 1214, 0, 0, 0, 1215, 0, 0, 0, 1216, 0]]) (by decide +kernel) (by decide +kernel)
theorem ck_Orders_weigh : pm_mOK md_Orders_weigh ∧ pm_code pm_Ms md_Orders_weigh := pm_ck_ok (h := [3191, 1006, 3189, 3190]) (hs := [[0, 0, 1212, 0, 0, 0, 1212, 0, 0, 0, 1213, 0, 1214, 0, 3192, 0, 0], [0, 0, 1212, 0], [0, 0, 0, 0], [0, 0, 1212, 0], [0, 0, 0, 3193, 0, 0, 0, 0, 0, 0, 0, 0, 1214, 0, 0, 0, 0, 0, 0, 0, 0, 0, 0], [0, 0], [0]]) (by decide +kernel) (by decide +kernel)
theorem ck_Orders_lineUp : pm_mOK md_Orders_lineUp ∧ pm_code pm_Ms md_Orders_lineUp := pm_ck_ok (h := [3197, 1006, 3195, 3196]) (hs := [[0, 0, 0], [0, 0, 1212, 0], [0, 0], [0, 0, 0, 0], [0, 0, 0], [0, 0, 0, 0, 0, 1212, 0, 0, 90008, 0], [0, 0, 0, 0, 0, 0, 0, 0, 0], [0, 0], [0, 0, 0, 0, 0, 0, 0, 0, 0, 1215, 0, 0, 0, 0, 0, 0, 0], [0, 0]]) (by decide +kernel) (by decide +kernel)
theorem ck_Orders_comesOf : pm_mOK md_Orders_comesOf ∧ pm_code pm_Ms md_Orders_comesOf := pm_ck_ok (h := [3202, 1006, 3200, 3201]) (hs := [[0, 0], [0, 0, 3203, 0], [0, 0, 3207], [0]]) (by decide +kernel) (by decide +kernel)
theorem ck_Orders_comesDeep : pm_mOK md_Orders_comesDeep ∧ pm_code pm_Ms md_Orders_comesDeep := pm_ck_ok (h := [3206, 1006, 3205, 20]) (hs := [[0, 1215, 0, 0, 0, 0, 0, 0, 0, 0, 0, 0, 0, 0, 0], [0, 0], [0, 1214, 0, 1215, 0, 0, 0, 0, 0, 0, 0], [0, 1215, 0, 0, 0, 0, 0, 0, 0, 0, 0], [0, 0], [0, 0]]) (by decide +kernel) (by decide +kernel)
theorem ck_Orders_comesPlain : pm_mOK md_Orders_comesPlain ∧ pm_code pm_Ms md_Orders_comesPlain := pm_ck_ok (h := [3210, 1006, 3209, 21]) (hs := [[0, 1215, 0, 0, 0, 0, 0], [0, 0, 0], [0, 1214, 0, 1215, 0, 0, 0, 0, 0, 0, 0, 0, 0], [0, 1215, 0, 0, 0], [0, 0], [0, 0]]) (by decide +kernel) (by decide +kernel)
theorem ck_Orders_reachBits : pm_mOK md_Orders_reachBits ∧ pm_code pm_Ms md_Orders_reachBits := pm_ck_ok (h := [3218, 1006, 3216, 3217]) (hs := [[0, 0], [0, 3219, 0], [0, 3231], [0]]) (by decide +kernel) (by decide +kernel)
theorem ck_Orders_peakBits : pm_mOK md_Orders_peakBits ∧ pm_code pm_Ms md_Orders_peakBits := pm_ck_ok (h := [3222, 1006, 3221, 22]) (hs := [[0, 0, 0, 0], [0, 0, 1213, 0], [0, 1216, 0, 0, 0, 3223, 0, 0, 1216, 0, 0, 0, 0], [0, 0, 3227, 0], [0, 0, 0, 1216, 0, 0, 0, 0, 0], [0, 0], [0, 0]]) (by decide +kernel) (by decide +kernel)
theorem ck_Orders_peakOf : pm_mOK md_Orders_peakOf ∧ pm_code pm_Ms md_Orders_peakOf := pm_ck_ok (h := [3226, 1006, 3225, 23]) (hs := [[0, 0], [0, 0, 1212, 0], [0, 0, 0, 0, 0, 0, 0, 0, 0, 0, 0], [0, 1214, 0, 0, 0, 0, 0, 0], [0, 0], [0, 1216, 0, 0, 0, 0], [0, 0], [0, 0], [0, 0]]) (by decide +kernel) (by decide +kernel)
theorem ck_Orders_isBeatenWhole : pm_mOK md_Orders_isBeatenWhole ∧ pm_code pm_Ms md_Orders_isBeatenWhole := pm_ck_ok (h := [3230, 1006, 3229, 24]) (hs := [[0, 0], [0, 0, 1212, 0], [0, 1214, 0, 0, 0, 0, 0, 0], [0, 0], [0, 0], [0, 0]]) (by decide +kernel) (by decide +kernel)
theorem ck_Orders_topBits : pm_mOK md_Orders_topBits ∧ pm_code pm_Ms md_Orders_topBits := pm_ck_ok (h := [3234, 1006, 3232, 3233]) (hs := [[0, 0, 0, 0], [0, 0, 1212, 0], [0, 0, 3235, 0, 1213, 0], [0, 0, 0, 0, 0, 0], [0, 0], [0, 0]]) (by decide +kernel) (by decide +kernel)
theorem ck_Orders_reachedFrom : pm_mOK md_Orders_reachedFrom ∧ pm_code pm_Ms md_Orders_reachedFrom := pm_ck_ok (h := [3238, 1006, 3237, 25]) (hs := [[0, 0, 0, 0, 0, 0], [0, 0, 1212, 0], [0, 0], [0, 0, 1212, 0], [0, 0, 0, 0, 0, 0, 0], [0, 0, 1214, 0, 0, 0, 0], [0, 0], [0, 0], [0, 0]]) (by decide +kernel) (by decide +kernel)
theorem ck_Orders_firstFor : pm_mOK md_Orders_firstFor ∧ pm_code pm_Ms md_Orders_firstFor := pm_ck_ok (h := [4010, 1006, 4008, 4009]) (hs := [[0, 0, 4011, 0, 0, 0, 0, 0], [0, 0], [0, 1213, 0, 1215, 4012, 0, 0, 0], [0, 0, 0], [0, 0, 0, 4015, 0, 0], [0, 1215, 0, 4016, 0], [0, 1215, 0, 0, 4019, 0], [0, 0], [0, 0], [0, 0]]) (by decide +kernel) (by decide +kernel)
theorem ck_Orders_spread : pm_mOK md_Orders_spread ∧ pm_code pm_Ms md_Orders_spread := pm_ck_ok (h := [4014, 1006, 4013, 0]) (hs := [[0, 0, 0, 0], [0, 0, 0], [0, 0, 0, 0, 0, 0, 0], [0, 0, 0, 0, 0], [0, 0], [0, 0]]) (by decide +kernel) (by decide +kernel)
theorem ck_Orders_digits : pm_mOK md_Orders_digits ∧ pm_code pm_Ms md_Orders_digits := pm_ck_ok (h := [4018, 1006, 4017, 0]) (hs := [[0, 0, 0, 0, 0, 0], [0, 0], [0, 0, 0, 0, 0, 0, 0, 0, 0, 0], [0, 0]]) (by decide +kernel) (by decide +kernel)
theorem ck_Orders_nextRow : pm_mOK md_Orders_nextRow ∧ pm_code pm_Ms md_Orders_nextRow := pm_ck_ok (h := [4021, 1006, 4020, 0]) (hs := [[0, 0, 0, 0], [0, 0, 0], [0, 0, 0, 0, 0, 0, 0, 0, 0], [0, 0], [0, 0, 0], [0, 0], [0, 0, 0, 0], [0, 0, 0, 0, 0], [0, 0, 0, 0, 0, 0, 0], [0, 0], [0, 0, 0, 4022, 0, 0, 0, 0, 0, 0, 0, 0], [0, 0, 0], [0, 0, 0, 4022, 0, 0, 0], [0, 0]]) (by decide +kernel) (by decide +kernel)
theorem ck_Orders_change : pm_mOK md_Orders_change ∧ pm_code pm_Ms md_Orders_change := pm_ck_ok (h := [4024, 1006, 4023, 0]) (hs := [[0, 0, 0, 0, 0, 0, 0, 0, 0, 0, 0, 0, 0, 0, 0]]) (by decide +kernel) (by decide +kernel)
theorem ck_Orders_beatsAll : pm_mOK md_Orders_beatsAll ∧ pm_code pm_Ms md_Orders_beatsAll := pm_ck_ok (h := [4032, 1006, 4030, 4031]) (hs := [[0, 0], [0, 0, 1212, 0], [0, 1214, 0, 0, 0, 0, 0, 0, 0, 1213, 0], [0, 0], [0, 0], [0, 0]]) (by decide +kernel) (by decide +kernel)
theorem ck_Orders_uncoveredBits : pm_mOK md_Orders_uncoveredBits ∧ pm_code pm_Ms md_Orders_uncoveredBits := pm_ck_ok (h := [4041, 1006, 4039, 4040]) (hs := [[0, 0, 0, 0], [0, 0, 1212, 0], [0, 0, 1214, 0, 0, 0, 0, 0, 0, 3227, 0], [0, 0, 0, 0, 0, 0], [0, 0], [0, 0]]) (by decide +kernel) (by decide +kernel)
end
section
/-! printed by wip/whole/gencode.py: the blocks are the bytes, the words are in the tables -/
theorem ck_Orders_ringAt : pm_mOK md_Orders_ringAt ∧ pm_code pm_Ms md_Orders_ringAt := pm_ck_ok (h := [4170, 1006, 4168, 4169]) (hs := [[0, 3231, 0, 1215, 4012, 0, 0, 0, 0], [0, 0, 0], [0, 0], [0, 0], [0, 0, 0], [0, 0, 4171, 0], [0, 1215, 0, 0, 0], [0, 1215, 0, 0, 4019, 0], [0, 0], [0, 0], [0, 0]]) (by decide +kernel) (by decide +kernel)
theorem ck_Orders_isRing : pm_mOK md_Orders_isRing ∧ pm_code pm_Ms md_Orders_isRing := pm_ck_ok (h := [4174, 1006, 4173, 33]) (hs := [[0, 0], [0, 0, 0], [0, 0, 0, 0, 0], [0, 1215, 0, 0, 0, 0, 0], [0, 1215, 0, 0], [0, 0, 1214, 0, 1215, 0, 0, 0, 0, 0, 0, 0, 0], [0, 0], [0, 0], [0, 0]]) (by decide +kernel) (by decide +kernel)
theorem ck_Orders_byRanks : pm_mOK md_Orders_byRanks ∧ pm_code pm_Ms md_Orders_byRanks := pm_ck_ok (h := [4182, 1006, 4180, 4181]) (hs := [[0, 0, 0, 0, 0, 0, 0, 0], [0, 0, 0], [0, 1215, 0, 0, 0, 0, 4183, 0, 0, 0, 0, 1215, 0, 0, 0, 0, 0, 0, 0, 0, 0], [0, 1215, 0, 4016, 0]]) (by decide +kernel) (by decide +kernel)
theorem ck_Orders_greatestOf : pm_mOK md_Orders_greatestOf ∧ pm_code pm_Ms md_Orders_greatestOf := pm_ck_ok (h := [4185, 1006, 4184, 0]) (hs := [[0, 0, 0, 0, 0, 0], [0, 0, 0], [0, 0, 0, 0, 0, 0, 0], [0, 0], [0, 0, 0, 0, 0, 0, 0], [0, 0, 0, 0], [0, 0], [0, 0]]) (by decide +kernel) (by decide +kernel)
theorem ck_Plots_init : pm_mOK md_Plots_init ∧ pm_code pm_Ms md_Plots_init := pm_ck_ok (h := [1232, 1007, 1231, 0]) (hs := [[0, 1233, 0, 0, 0, 1236, 0, 0, 0, 1237, 0, 0, 0, 1238, 0, 0, 0, 1239, 0, 0, 0, 2000, 0, 0, 1234, 0, 0, 1235, 0]]) (by decide +kernel) (by decide +kernel)
theorem ck_Plots_plainOnes : pm_mOK md_Plots_plainOnes ∧ pm_code pm_Ms md_Plots_plainOnes := pm_ck_ok (h := [4069, 1007, 4067, 4068]) (hs := [[0, 0, 0, 0], [0, 0, 1234, 1099, 0], [0, 1234, 1104, 0, 0, 1048, 0], [0, 0, 0, 0, 0, 0], [0, 0], [0, 0]]) (by decide +kernel) (by decide +kernel)
theorem ck_Plots_fewestOf : pm_mOK md_Plots_fewestOf ∧ pm_code pm_Ms md_Plots_fewestOf := pm_ck_ok (h := [4073, 1007, 4071, 4072]) (hs := [[0, 1235, 0, 1234, 4074, 0, 4075, 0, 0, 0], [0, 0, 0], [0, 0], [0, 0, 0], [0, 0, 0, 0, 0, 0], [0, 4075, 0, 0], [0, 0, 0, 0, 4081, 0, 1235, 0, 4085, 0, 0], [0, 0], [0, 0], [0, 0], [0, 0]]) (by decide +kernel) (by decide +kernel)
theorem ck_Plots_makeOfKind : pm_mOK md_Plots_makeOfKind ∧ pm_code pm_Ms md_Plots_makeOfKind := pm_ck_ok (h := [4084, 1007, 4083, 28]) (hs := [[0, 0], [0, 0, 1234, 1099, 0], [0, 1234, 1104, 0, 0, 0, 0, 1235, 1167, 0, 0, 0, 0, 0, 0, 0, 0, 0, 0], [0, 0], [0], [0, 0, 0, 0], [0, 0], [0, 1048], [1048, 0, 0, 0], [0, 0], [0, 1058], [1058, 0, 0, 0], [0, 0], [0, 1061], [1061, 0, 0], [0]]) (by decide +kernel) (by decide +kernel)
theorem ck_Plots_firstGaining : pm_mOK md_Plots_firstGaining ∧ pm_code pm_Ms md_Plots_firstGaining := pm_ck_ok (h := [4098, 1007, 4096, 4097]) (hs := [[0, 1235, 0, 1234, 4074, 0, 1235, 0, 4085, 0, 0, 0], [0, 0, 1234, 1099, 0], [0, 1234, 1104, 0, 0, 1067, 0, 0, 1235, 1167, 0, 0, 0, 4099, 0, 1235, 0, 4085, 0, 0, 1235, 1167, 0, 0, 0, 4099, 0, 0, 0, 0, 0, 0, 0], [0, 0], [0, 0], [0, 0]]) (by decide +kernel) (by decide +kernel)
theorem ck_Plots_chanceOf : pm_mOK md_Plots_chanceOf ∧ pm_code pm_Ms md_Plots_chanceOf := pm_ck_ok (h := [4108, 1007, 4106, 4107]) (hs := [[0, 4109, 0, 0, 0, 0, 0], [0, 0, 0, 0, 0], [0, 0, 0, 4113, 0, 0, 0, 0, 0], [0, 1235, 0, 4085, 0, 0], [0, 0, 0, 0], [0, 0], [0, 0]]) (by decide +kernel) (by decide +kernel)
theorem ck_Plots_seatDoubtful : pm_mOK md_Plots_seatDoubtful ∧ pm_code pm_Ms md_Plots_seatDoubtful := pm_ck_ok (h := [4112, 1007, 4111, 29]) (hs := [[0, 1235, 0, 1234, 4074, 0, 0, 0, 0], [0, 0, 1234, 1099, 0], [0, 0, 0], [0, 1234, 1104, 0, 0, 1064, 0], [0, 1236, 0, 0, 0, 0], [0, 0], [0, 0]]) (by decide +kernel) (by decide +kernel)
theorem ck_Plots_suppose : pm_mOK md_Plots_suppose ∧ pm_code pm_Ms md_Plots_suppose := pm_ck_ok (h := [4116, 1007, 4115, 30]) (hs := [[0, 0, 0, 0], [0, 0, 0], [0, 1234, 1104, 0, 1236, 0, 0, 0, 0, 0, 0, 0, 0, 0, 0, 0], [0, 0], [0], [0, 0, 1235, 1167, 0, 1236, 0, 0, 0, 0, 0], [0, 1071, 0], [0, 1067], [4099, 0, 0, 0], [0, 1064, 0, 0], [0, 0, 1064, 0, 0], [0, 0, 0, 0], [0, 0]]) (by decide +kernel) (by decide +kernel)
theorem ck_Plots_allOnes : pm_mOK md_Plots_allOnes ∧ pm_code pm_Ms md_Plots_allOnes := pm_ck_ok (h := [4124, 1007, 4122, 4123]) (hs := [[0, 0, 1234, 1099, 0, 0, 0, 0]]) (by decide +kernel) (by decide +kernel)
theorem ck_Plots_findLie : pm_mOK md_Plots_findLie ∧ pm_code pm_Ms md_Plots_findLie := pm_ck_ok (h := [4132, 1007, 4130, 4131]) (hs := [[0, 1235, 0, 1234, 4074, 0, 1234, 1104, 0, 0, 1067, 0, 0, 1235, 1167, 0, 0, 1067, 0, 0, 0, 4133, 0, 0, 4134, 0, 1237, 4142, 0, 0, 0, 3011, 4143, 0, 0, 0, 0, 0], [0, 0, 0], [0, 0], [0, 0, 0], [0, 0, 1237, 0, 0, 0, 0, 0, 0], [0, 1235, 0, 4085, 0, 0, 0, 0, 0, 0], [0, 0, 0, 0, 0, 0, 2001, 0, 1237, 0, 0, 1238, 0, 0, 4147], [0, 0, 0], [0, 1237, 0, 0, 4148, 0], [0], [0, 0], [0]]) (by decide +kernel) (by decide +kernel)
theorem ck_Plots_mattering : pm_mOK md_Plots_mattering ∧ pm_code pm_Ms md_Plots_mattering := pm_ck_ok (h := [4137, 1007, 4136, 31]) (hs := [[0, 3011, 0, 3014, 0, 0, 4138, 0, 0]]) (by decide +kernel) (by decide +kernel)
theorem ck_Plots_there : pm_mOK md_Plots_there ∧ pm_code pm_Ms md_Plots_there := pm_ck_ok (h := [4141, 1007, 4140, 32]) (hs := [[0, 0, 1234, 1093, 0, 0, 0, 0]]) (by decide +kernel) (by decide +kernel)
theorem ck_Plots_leastWish : pm_mOK md_Plots_leastWish ∧ pm_code pm_Ms md_Plots_leastWish := pm_ck_ok (h := [4145, 1007, 4144, 0]) (hs := [[0, 0, 0, 0], [0, 0, 0], [0, 0, 0, 0, 0, 0, 0], [0, 0, 0, 0, 4146, 0], [0, 0], [0, 0]]) (by decide +kernel) (by decide +kernel)
theorem ck_Plots_lieDigits : pm_mOK md_Plots_lieDigits ∧ pm_code pm_Ms md_Plots_lieDigits := pm_ck_ok (h := [4152, 1007, 4150, 4151]) (hs := [[0, 0, 4134, 4075, 0, 0, 4138, 0, 0, 4134, 0, 0, 0, 0, 1239, 4142, 0, 0, 0, 0, 0, 0, 0], [0, 0, 1234, 1093, 0], [0, 0, 0], [0, 0, 0], [0, 1238, 0, 0, 0, 1239, 0, 0, 0], [0, 0], [0], [0, 0, 0], [0, 2000, 0, 0, 1238, 0, 0, 0, 0, 0], [0, 2000, 0, 0, 1239, 0, 0, 0, 0], [0, 0], [0, 2000, 0, 1234, 1093, 4153, 0]]) (by decide +kernel) (by decide +kernel)
end
section
/-! printed by wip/whole/gencode.py: the blocks are the bytes, the words are in the tables -/
theorem ck_Plots_beatsIn : pm_mOK md_Plots_beatsIn ∧ pm_code pm_Ms md_Plots_beatsIn := pm_ck_ok (h := [4161, 1007, 4159, 4160]) (hs := [[0, 4109, 0, 0, 0], [0, 0, 0, 0, 0], [0, 0, 0, 4113, 0, 0, 1235, 0, 0, 4162, 0, 0], [0, 0], [0, 0], [0], [0], [0, 0], [0, 0]]) (by decide +kernel) (by decide +kernel)
theorem ck_Reader_init : pm_mOK md_Reader_init ∧ pm_code pm_Ms md_Reader_init := pm_ck_ok (h := [1128, 1004, 1127, 0]) (hs := [[0, 1129, 0, 0, 0, 1135, 0, 0, 0, 1136, 0, 0, 0, 1137, 0]]) (by decide +kernel) (by decide +kernel)
theorem ck_Reader_faultOf : pm_mOK md_Reader_faultOf ∧ pm_code pm_Ms md_Reader_faultOf := pm_ck_ok (h := [2177, 1004, 2175, 2176]) (hs := [[0, 0, 1130, 0, 0, 1131, 0, 0, 1132, 0, 0, 1133, 0, 0, 1134, 0, 0, 2178, 0, 0, 0], [0, 1133, 0, 1131, 0], [0, 0], [0, 1133], [0]]) (by decide +kernel) (by decide +kernel)
theorem ck_Reader_readPart : pm_mOK md_Reader_readPart ∧ pm_code pm_Ms md_Reader_readPart := pm_ck_ok (h := [2181, 1004, 2180, 3]) (hs := [[0, 1133, 0, 1131, 0], [0, 0], [0, 1130, 0, 1133, 0, 0, 0], [0, 0, 0], [0, 0, 2182, 0], [0, 0], [0], [0], [0, 1130, 0, 1133, 0, 0, 0], [0, 0, 0], [0, 0, 2194, 0], [0, 0], [0], [0], [0, 2202, 0, 0, 0], [0, 0], [0, 0, 2186, 0, 0, 0]]) (by decide +kernel) (by decide +kernel)
theorem ck_Reader_readQuestion : pm_mOK md_Reader_readQuestion ∧ pm_code pm_Ms md_Reader_readQuestion := pm_ck_ok (h := [2185, 1004, 2184, 4]) (hs := [[0, 0, 2186, 0, 0, 0, 2190, 0], [0, 0, 0, 0, 2178, 0], [0, 0, 2190, 0], [0, 0], [0, 1136, 0, 0, 1134, 0, 0, 0, 0, 0, 2178, 0], [0, 0, 2190, 0], [0, 0], [0], [0]]) (by decide +kernel) (by decide +kernel)
theorem ck_Reader_addNode : pm_mOK md_Reader_addNode ∧ pm_code pm_Ms md_Reader_addNode := pm_ck_ok (h := [2189, 1004, 2188, 5]) (hs := [[0, 1134, 0, 0, 1135, 0, 0, 0, 0, 1136, 0, 0, 0, 0, 1137, 0, 0, 0, 0, 0, 1134, 0, 0, 1134, 0, 0]]) (by decide +kernel) (by decide +kernel)
theorem ck_Reader_readSign : pm_mOK md_Reader_readSign ∧ pm_code pm_Ms md_Reader_readSign := pm_ck_ok (h := [2193, 1004, 2192, 6]) (hs := [[0, 1133, 0, 1131, 0], [0, 1130, 0, 1133, 0, 0, 0], [0, 0], [0, 0, 1133, 0, 0, 1133, 0, 0]]) (by decide +kernel) (by decide +kernel)
theorem ck_Reader_readChoice : pm_mOK md_Reader_readChoice ∧ pm_code pm_Ms md_Reader_readChoice := pm_ck_ok (h := [2197, 1004, 2196, 7]) (hs := [[0, 0, 2186, 0, 0, 0, 2190, 0], [0, 0, 2198, 0], [0, 0, 0, 0, 2178, 0], [0, 0, 2190, 0], [0, 0], [0, 1136, 0, 0, 1134, 0, 0, 0, 0, 0, 2178, 0], [0, 0, 2190, 0], [0, 0], [0], [0]]) (by decide +kernel) (by decide +kernel)
theorem ck_Reader_readPair : pm_mOK md_Reader_readPair ∧ pm_code pm_Ms md_Reader_readPair := pm_ck_ok (h := [2201, 1004, 2200, 8]) (hs := [[0, 2202, 0, 0, 0], [0, 0, 2190, 0], [0, 0], [0, 2202, 0, 0, 0], [0, 0], [0, 1137, 0, 0, 0, 0, 0, 0, 0, 0, 0, 2190, 0]]) (by decide +kernel) (by decide +kernel)
theorem ck_Reader_readEnd : pm_mOK md_Reader_readEnd ∧ pm_code pm_Ms md_Reader_readEnd := pm_ck_ok (h := [2205, 1004, 2204, 9]) (hs := [[0, 1133, 0, 1131, 0], [0, 1130, 0, 1133, 0, 0, 0, 0, 0, 1132, 0, 0, 90007, 0], [0, 0], [0, 1130, 0, 1133, 0, 0, 0, 0, 0, 0, 1133, 0, 0, 1133, 0, 0]]) (by decide +kernel) (by decide +kernel)
theorem ck_Reader_treeRead : pm_mOK md_Reader_treeRead ∧ pm_code pm_Ms md_Reader_treeRead := pm_ck_ok (h := [2214, 1004, 2212, 2213]) (hs := [[2215, 0, 0, 1134, 0, 1135, 0, 1134, 2217, 0, 1136, 0, 1134, 2217, 0, 1137, 0, 1134, 2217, 2233, 0]]) (by decide +kernel) (by decide +kernel)
theorem ck_Shelf_init : pm_mOK md_Shelf_init ∧ pm_code pm_Ms md_Shelf_init := pm_ck_ok (h := [2042, 1009, 2041, 0]) (hs := [[0, 2043, 0, 2044, 0, 90005, 2052, 0, 0, 0, 2054, 0]]) (by decide +kernel) (by decide +kernel)
theorem ck_Shelf_bytesRefusal : pm_mOK md_Shelf_bytesRefusal ∧ pm_code pm_Ms md_Shelf_bytesRefusal := pm_ck_ok (h := [2169, 1009, 2167, 2168]) (hs := [[0, 2046, 0, 0], [0, 2048, 0], [0, 0], [0, 0, 2170], [0]]) (by decide +kernel) (by decide +kernel)
theorem ck_Shelf_refusalUnless : pm_mOK md_Shelf_refusalUnless ∧ pm_code pm_Ms md_Shelf_refusalUnless := pm_ck_ok (h := [2173, 1009, 2172, 2]) (hs := [[0, 2046, 0], [0, 0], [0, 2046, 0, 0], [0, 0], [0], [0]]) (by decide +kernel) (by decide +kernel)
theorem ck_Shelf_holdsWishes : pm_mOK md_Shelf_holdsWishes ∧ pm_code pm_Ms md_Shelf_holdsWishes := pm_ck_ok (h := [4093, 1009, 4091, 4092]) (hs := [[0, 2050, 0, 0], [0, 0], [0, 0], [0, 0, 0], [0, 2054, 0, 0, 0, 0, 90009, 0], [0, 0], [0, 0], [0, 0]]) (by decide +kernel) (by decide +kernel)
theorem ck_Shelf_beginRow : pm_mOK md_Shelf_beginRow ∧ pm_code pm_Ms md_Shelf_beginRow := pm_ck_ok (h := [5042, 1009, 5040, 5041]) (hs := [[0, 0, 2046, 0, 0, 2048, 0, 0, 2050, 0, 2054, 0, 5043, 0]]) (by decide +kernel) (by decide +kernel)
theorem ck_Shelf_rowRefusal : pm_mOK md_Shelf_rowRefusal ∧ pm_code pm_Ms md_Shelf_rowRefusal := pm_ck_ok (h := [5051, 1009, 5049, 5050]) (hs := [[0, 0, 2170, 0]]) (by decide +kernel) (by decide +kernel)
theorem ck_Shelf_lowestBits : pm_mOK md_Shelf_lowestBits ∧ pm_code pm_Ms md_Shelf_lowestBits := pm_ck_ok (h := [5055, 1009, 5053, 5054]) (hs := [[0, 2048, 0], [0, 0, 0], [0, 0, 0], [0, 0]]) (by decide +kernel) (by decide +kernel)
theorem ck_Shelf_hasPlaces : pm_mOK md_Shelf_hasPlaces ∧ pm_code pm_Ms md_Shelf_hasPlaces := pm_ck_ok (h := [5063, 1009, 5061, 5062]) (hs := [[0, 0, 0, 2050, 90009, 0], [0, 0, 0, 2050, 0, 0, 90009, 0], [0, 0], [0], [0]]) (by decide +kernel) (by decide +kernel)
theorem ck_Shelf_memberRefusal : pm_mOK md_Shelf_memberRefusal ∧ pm_code pm_Ms md_Shelf_memberRefusal := pm_ck_ok (h := [5072, 1009, 5070, 5071]) (hs := [[0, 0, 2170, 0]]) (by decide +kernel) (by decide +kernel)
theorem ck_Tree_init : pm_mOK md_Tree_init ∧ pm_code pm_Ms md_Tree_init := pm_ck_ok (h := [2235, 1012, 2234, 0]) (hs := [[0, 2236, 0, 0, 2237, 0, 0, 3000, 0, 0, 3002, 0, 0, 3005, 0, 0, 0, 0, 0, 0, 0, 0], [0, 0, 0], [0, 0, 0, 0, 0], [0, 0], [0, 0, 0, 0, 0], [0, 0, 0, 0, 0, 0, 0, 0, 0, 0, 0, 0, 0, 0, 0, 0, 0, 0, 0], [0, 0, 0, 0, 0, 0, 0, 0], [0, 0], [0, 0, 3007, 0, 0, 3010, 0, 0, 3013, 0]]) (by decide +kernel) (by decide +kernel)
theorem ck_Tree_nodeOf : pm_mOK md_Tree_nodeOf ∧ pm_code pm_Ms md_Tree_nodeOf := pm_ck_ok (h := [3138, 1012, 3136, 3137]) (hs := [[0, 0, 0, 0], [0, 0, 2237, 0], [0, 3000, 0, 0, 0, 0], [0, 0], [0, 0], [0], [0, 0], [0, 0]]) (by decide +kernel) (by decide +kernel)
theorem ck_Tree_questionsAhead : pm_mOK md_Tree_questionsAhead ∧ pm_code pm_Ms md_Tree_questionsAhead := pm_ck_ok (h := [3179, 1012, 3177, 3178]) (hs := [[0, 0, 0, 0], [0, 0, 0], [0, 3000, 0, 0, 0, 0], [0], [0, 0], [0, 0]]) (by decide +kernel) (by decide +kernel)
theorem ck_Desk_init : pm_mOK md_Desk_init ∧ pm_code pm_Ms md_Desk_init := pm_ck_ok (h := [1026, 1001, 1025, 0]) (hs := [[0, 1027, 0, 1030, 0, 1032, 2067, 0, 1030, 0, 1032, 2068, 0, 0, 1122, 2070, 0, 1124, 0, 90001, 2071, 0, 1155, 0, 1157, 2072, 0, 1206, 0, 90003, 2073, 0, 1228, 0, 0, 2067, 0, 2072, 1230, 2074, 0, 2020, 0, 0, 2072, 2022, 2075, 0, 0], [0, 0, 0], [0, 2070, 0, 1122, 0, 90004, 0, 0, 0], [0]]) (by decide +kernel) (by decide +kernel)
theorem ck_Desk_set : pm_mOK md_Desk_set ∧ pm_code pm_Ms md_Desk_set := pm_ck_ok (h := [2098, 1001, 2096, 2097]) (hs := [[0, 0], [0, 0, 0, 2099, 0], [0, 2067, 1092, 0, 0, 2067, 0, 1092, 0, 0], [0, 0, 0], [0, 0, 0, 2099, 0], [0, 2067, 1095, 0, 0, 2067, 0, 1095, 0, 0], [0, 0]]) (by decide +kernel) (by decide +kernel)
theorem ck_Desk_within : pm_mOK md_Desk_within ∧ pm_code pm_Ms md_Desk_within := pm_ck_ok (h := [2101, 1001, 2100, 0]) (hs := [[0, 0, 0], [0, 0, 0], [0, 0], [0], [0]]) (by decide +kernel) (by decide +kernel)
theorem ck_Desk_member : pm_mOK md_Desk_member ∧ pm_code pm_Ms md_Desk_member := pm_ck_ok (h := [2105, 1001, 2103, 2104]) (hs := [[0, 0], [0, 0, 0, 0, 0, 2099, 0], [0, 0, 0, 0, 2106, 0], [0, 0], [0, 2067, 1100, 0, 0], [0, 0], [0, 2067, 1100, 0, 0, 2067, 1106, 0, 0, 0, 0, 0, 0, 0, 0, 0, 0, 2111, 0, 2067, 0, 0, 0, 1100, 0, 0]]) (by decide +kernel) (by decide +kernel)
end
section
/-! printed by wip/whole/gencode.py: the blocks are the bytes, the words are in the tables -/
theorem ck_Desk_fits : pm_mOK md_Desk_fits ∧ pm_code pm_Ms md_Desk_fits := pm_ck_ok (h := [2108, 1001, 2107, 0]) (hs := [[0, 0, 0, 2099, 0], [0, 0, 2109, 0, 0, 2099, 0], [0, 0], [0], [0]]) (by decide +kernel) (by decide +kernel)
theorem ck_Desk_bought : pm_mOK md_Desk_bought ∧ pm_code pm_Ms md_Desk_bought := pm_ck_ok (h := [2121, 1001, 2119, 2120]) (hs := [[0, 2067, 0, 2122, 0, 0, 0], [0, 2127, 0], [0, 0], [0, 1050, 0, 0], [0, 0], [0, 1060, 0, 0, 0, 1060, 0, 0]]) (by decide +kernel) (by decide +kernel)
theorem ck_Desk_isEnd : pm_mOK md_Desk_isEnd ∧ pm_code pm_Ms md_Desk_isEnd := pm_ck_ok (h := [2129, 1001, 2128, 0]) (hs := [[0, 0, 0, 2099, 0]]) (by decide +kernel) (by decide +kernel)
theorem ck_Desk_becomes : pm_mOK md_Desk_becomes ∧ pm_code pm_Ms md_Desk_becomes := pm_ck_ok (h := [2133, 1001, 2131, 2132]) (hs := [[0, 2067, 0, 2122, 0, 0, 0], [0, 0], [0, 0, 0, 0, 0, 0, 2106, 0], [0, 0], [0, 1050, 0, 0, 0, 0, 0, 1050, 0, 0, 0, 0, 1057, 0, 0]]) (by decide +kernel) (by decide +kernel)
theorem ck_Desk_wish : pm_mOK md_Desk_wish ∧ pm_code pm_Ms md_Desk_wish := pm_ck_ok (h := [2137, 1001, 2135, 2136]) (hs := [[0, 0, 0, 0, 0, 2138, 0]]) (by decide +kernel) (by decide +kernel)
theorem ck_Desk_changeWish : pm_mOK md_Desk_changeWish ∧ pm_code pm_Ms md_Desk_changeWish := pm_ck_ok (h := [2141, 1001, 2140, 0]) (hs := [[0, 2067, 0, 2122, 0, 0, 0], [0, 2127, 0], [0, 0, 0, 2099, 0], [0, 0], [0, 0], [0, 1072, 0], [0, 1069], [0, 0, 0, 0, 0, 0, 0, 0, 0, 0, 0]]) (by decide +kernel) (by decide +kernel)
theorem ck_Desk_doubted : pm_mOK md_Desk_doubted ∧ pm_code pm_Ms md_Desk_doubted := pm_ck_ok (h := [2145, 1001, 2143, 2144]) (hs := [[0, 0, 0, 0, 0, 2138, 0]]) (by decide +kernel) (by decide +kernel)
theorem ck_Desk_sure : pm_mOK md_Desk_sure ∧ pm_code pm_Ms md_Desk_sure := pm_ck_ok (h := [2149, 1001, 2147, 2148]) (hs := [[0, 2067, 0, 2122, 0, 0, 0], [0, 0, 0, 2099, 0], [0, 0], [0, 1065, 0, 0, 0, 1065, 0, 0]]) (by decide +kernel) (by decide +kernel)
theorem ck_Desk_about : pm_mOK md_Desk_about ∧ pm_code pm_Ms md_Desk_about := pm_ck_ok (h := [2153, 1001, 2151, 2152]) (hs := [[0, 2067, 0, 2122, 0, 0, 0], [0, 0], [0, 0], [0, 1050, 0], [0, 1054, 0], [0, 1057, 0], [0, 2154, 0], [0, 1065, 0], [0, 0]]) (by decide +kernel) (by decide +kernel)
theorem ck_Desk_fault : pm_mOK md_Desk_fault ∧ pm_code pm_Ms md_Desk_fault := pm_ck_ok (h := [2161, 1001, 2159, 2160]) (hs := [[0, 0, 2162, 0, 0, 0], [0, 0], [0, 2166, 0, 0, 0], [0, 0], [0, 2071, 0, 2055, 0, 2051, 0, 2067, 1092, 2174, 0, 0, 0, 0], [0, 0], [0], [0]]) (by decide +kernel) (by decide +kernel)
theorem ck_Desk_shelfAt : pm_mOK md_Desk_shelfAt ∧ pm_code pm_Ms md_Desk_shelfAt := pm_ck_ok (h := [2165, 1001, 2164, 1]) (hs := [[0, 0, 0, 2099, 0], [0, 2070, 0, 0, 0], [0], [0]]) (by decide +kernel) (by decide +kernel)
theorem ck_Desk_tree : pm_mOK md_Desk_tree ∧ pm_code pm_Ms md_Desk_tree := pm_ck_ok (h := [2210, 1001, 2208, 2209]) (hs := [[0, 0, 2162, 0, 0, 0], [0, 0], [0, 2067, 1102, 0, 0], [0, 0], [0, 2166, 0, 0, 0], [0, 0], [0, 2071, 0, 2055, 0, 2051, 0, 2067, 1092, 2174, 0, 0, 0, 0], [0, 0, 0, 0], [0, 2067, 1102, 0, 0, 2067, 1108, 0, 0, 2071, 2211, 0, 0, 2067, 0, 0, 0, 1102, 0, 0]]) (by decide +kernel) (by decide +kernel)
theorem ck_Desk_of : pm_mOK md_Desk_of ∧ pm_code pm_Ms md_Desk_of := pm_ck_ok (h := [3034, 1001, 3032, 3033]) (hs := [[0, 2067, 0, 3035, 0, 0, 0], [0, 0], [0, 0], [0, 3009, 0], [0, 3012, 0], [0, 2072, 0, 2067, 3039, 0, 2072, 0, 3055, 0, 0, 2072, 1170, 0, 0, 0], [0, 0]]) (by decide +kernel) (by decide +kernel)
theorem ck_Desk_beat : pm_mOK md_Desk_beat ∧ pm_code pm_Ms md_Desk_beat := pm_ck_ok (h := [3119, 1001, 3117, 3118]) (hs := [[0, 2127, 0], [0, 2127, 0], [3120, 0], [0, 2072, 0, 2067, 3039, 0, 2072, 0, 0, 3121, 0]]) (by decide +kernel) (by decide +kernel)
theorem ck_Desk_stands : pm_mOK md_Desk_stands ∧ pm_code pm_Ms md_Desk_stands := pm_ck_ok (h := [3125, 1001, 3123, 3124]) (hs := [[0, 2127, 0], [0, 2127, 0], [0, 0], [0, 2072, 0, 2067, 3039, 0, 2072, 0, 0, 3126, 0]]) (by decide +kernel) (by decide +kernel)
theorem ck_Desk_run : pm_mOK md_Desk_run ∧ pm_code pm_Ms md_Desk_run := pm_ck_ok (h := [3130, 1001, 3128, 3129]) (hs := [[0, 2067, 0, 3035, 0, 0, 0], [0, 0], [0, 2072, 0, 2067, 3039, 0, 2072, 0, 3055, 0]]) (by decide +kernel) (by decide +kernel)
theorem ck_Desk_ask : pm_mOK md_Desk_ask ∧ pm_code pm_Ms md_Desk_ask := pm_ck_ok (h := [3134, 1001, 3132, 3133]) (hs := [[0, 2067, 0, 3035, 0, 0, 0], [0, 0, 0, 3009, 0, 0, 2099, 0], [0, 0, 0, 2099, 0], [0, 0], [0, 2072, 0, 2067, 3039, 0, 2072, 0, 3055, 0, 0, 0, 3135, 0, 0, 0], [0, 2072, 1174, 0, 0, 0], [0, 2072, 1172, 0, 0, 0], [0, 0, 0, 0], [0, 3004, 0, 0], [0, 0]]) (by decide +kernel) (by decide +kernel)
theorem ck_Desk_wonBy : pm_mOK md_Desk_wonBy ∧ pm_code pm_Ms md_Desk_wonBy := pm_ck_ok (h := [3142, 1001, 3140, 3141]) (hs := [[0, 2067, 0, 3035, 0, 0, 0], [0, 0, 0, 3009, 0, 0, 2099, 0], [3120, 0], [0, 2072, 0, 2067, 3039, 0, 2072, 0, 3055, 0, 0, 2072, 1176, 0, 0, 3135, 0, 0]]) (by decide +kernel) (by decide +kernel)
theorem ck_Desk_why : pm_mOK md_Desk_why ∧ pm_code pm_Ms md_Desk_why := pm_ck_ok (h := [3146, 1001, 3144, 3145]) (hs := [[0, 2067, 0, 3035, 0, 0, 0], [0, 0, 0, 3009, 0, 0, 2099, 0], [0, 2067, 0, 2122, 0], [3120, 0], [0, 2072, 0, 2067, 3039, 0, 2072, 0, 3055, 0, 0, 0, 3135, 0, 0, 2072, 0, 0, 0, 0, 3004, 0, 0, 0, 3147, 0]]) (by decide +kernel) (by decide +kernel)
theorem ck_Desk_ifAll : pm_mOK md_Desk_ifAll ∧ pm_code pm_Ms md_Desk_ifAll := pm_ck_ok (h := [3154, 1001, 3152, 3153]) (hs := [[0, 2067, 0, 3035, 0, 0, 0], [0, 0, 0, 2099, 0], [0, 0], [0, 0, 0, 3155, 0]]) (by decide +kernel) (by decide +kernel)
theorem ck_Desk_comesIfAll : pm_mOK md_Desk_comesIfAll ∧ pm_code pm_Ms md_Desk_comesIfAll := pm_ck_ok (h := [3158, 1001, 3157, 18]) (hs := [[0, 2072, 0, 2067, 3039, 0, 2072, 0, 3159, 0, 2072, 0, 3055, 0]]) (by decide +kernel) (by decide +kernel)
theorem ck_Desk_parts : pm_mOK md_Desk_parts ∧ pm_code pm_Ms md_Desk_parts := pm_ck_ok (h := [3166, 1001, 3164, 3165]) (hs := [[0, 2067, 0, 3035, 0, 0, 0], [0, 0], [0, 0, 0, 3155, 0, 0, 2072, 0, 3167, 0, 0, 0, 3155, 0, 0, 2072, 0, 3172, 0, 0, 0, 0], [0, 0], [0, 0, 3176], [0]]) (by decide +kernel) (by decide +kernel)
theorem ck_Desk_order : pm_mOK md_Desk_order ∧ pm_code pm_Ms md_Desk_order := pm_ck_ok (h := [3183, 1001, 3181, 3182]) (hs := [[0, 0, 2162, 0, 0, 0], [0, 0], [0, 2166, 0, 0, 0], [0, 0], [0, 3184, 0, 2073, 0, 2055, 0, 2051, 3194, 0], [0, 0], [0, 2073, 0, 2051, 0, 3199, 0]]) (by decide +kernel) (by decide +kernel)
theorem ck_Desk_weighOrders : pm_mOK md_Desk_weighOrders ∧ pm_code pm_Ms md_Desk_weighOrders := pm_ck_ok (h := [3187, 1001, 3186, 19]) (hs := [[0, 2072, 0, 2067, 3039, 0, 2073, 0, 2072, 0, 2067, 1092, 3188, 0]]) (by decide +kernel) (by decide +kernel)
theorem ck_Desk_reach : pm_mOK md_Desk_reach ∧ pm_code pm_Ms md_Desk_reach := pm_ck_ok (h := [3214, 1001, 3212, 3213]) (hs := [[0, 3184, 0, 2073, 0, 3215, 0]]) (by decide +kernel) (by decide +kernel)
theorem ck_Desk_first : pm_mOK md_Desk_first ∧ pm_code pm_Ms md_Desk_first := pm_ck_ok (h := [4002, 1001, 4000, 4001]) (hs := [[0, 0, 4003, 0], [0, 0], [0, 3184, 0, 2073, 0, 0, 4007, 0]]) (by decide +kernel) (by decide +kernel)
theorem ck_Desk_isThere : pm_mOK md_Desk_isThere ∧ pm_code pm_Ms md_Desk_isThere := pm_ck_ok (h := [4006, 1001, 4005, 26]) (hs := [[0, 0, 0, 2067, 1092, 0, 0, 2099, 0]]) (by decide +kernel) (by decide +kernel)
theorem ck_Desk_best : pm_mOK md_Desk_best ∧ pm_code pm_Ms md_Desk_best := pm_ck_ok (h := [4028, 1001, 4026, 4027]) (hs := [[0, 3184, 0, 2073, 4029, 0]]) (by decide +kernel) (by decide +kernel)
theorem ck_Desk_top : pm_mOK md_Desk_top ∧ pm_code pm_Ms md_Desk_top := pm_ck_ok (h := [4036, 1001, 4034, 4035]) (hs := [[0, 0, 0, 2099, 0], [0, 0], [0, 3184, 0, 0], [0, 2073, 4037, 0], [0, 2073, 4038], [0]]) (by decide +kernel) (by decide +kernel)
theorem ck_Desk_killers : pm_mOK md_Desk_killers ∧ pm_code pm_Ms md_Desk_killers := pm_ck_ok (h := [4045, 1001, 4043, 4044]) (hs := [[0, 2067, 0, 3035, 0, 0, 0], [0, 0], [0, 2072, 0, 2067, 3039, 0, 2072, 0, 3055, 0, 0, 2072, 0, 2239, 0, 2067, 1092, 4046, 0]]) (by decide +kernel) (by decide +kernel)
end
section
/-! printed by wip/whole/gencode.py: the blocks are the bytes, the words are in the tables -/
theorem ck_Desk_shields : pm_mOK md_Desk_shields ∧ pm_code pm_Ms md_Desk_shields := pm_ck_ok (h := [4057, 1001, 4055, 4056]) (hs := [[0, 2067, 0, 3035, 0, 0, 0], [0, 0, 4003, 0], [0, 0], [0, 2072, 0, 2067, 3039, 0, 2072, 0, 3055, 0, 0, 2072, 0, 2239, 0, 2067, 1092, 4046, 0, 0, 0, 0, 0], [0, 0], [0, 2072, 0, 2239, 0, 0, 2067, 1092, 4058, 0]]) (by decide +kernel) (by decide +kernel)
theorem ck_Desk_tell : pm_mOK md_Desk_tell ∧ pm_code pm_Ms md_Desk_tell := pm_ck_ok (h := [4065, 1001, 4063, 4064]) (hs := [[0, 2067, 0, 3035, 0, 0, 0], [0, 2127, 0], [0, 0], [0, 2074, 0, 2074, 4066, 0, 0, 0, 4070, 0]]) (by decide +kernel) (by decide +kernel)
theorem ck_Desk_falseVote : pm_mOK md_Desk_falseVote ∧ pm_code pm_Ms md_Desk_falseVote := pm_ck_ok (h := [4089, 1001, 4087, 4088]) (hs := [[0, 2067, 0, 3035, 0, 0, 0, 2162, 0, 0, 0], [0, 0], [0, 0], [0, 2166, 0, 0, 0], [0, 0], [0, 4090, 0], [0, 0], [0, 2074, 0, 0, 2055, 4095, 0]]) (by decide +kernel) (by decide +kernel)
theorem ck_Desk_chance : pm_mOK md_Desk_chance ∧ pm_code pm_Ms md_Desk_chance := pm_ck_ok (h := [4103, 1001, 4101, 4102]) (hs := [[0, 2067, 0, 3035, 0, 0, 0], [0, 2127, 0], [4104, 0], [0, 2074, 0, 0, 4105, 0]]) (by decide +kernel) (by decide +kernel)
theorem ck_Desk_boughtOff : pm_mOK md_Desk_boughtOff ∧ pm_code pm_Ms md_Desk_boughtOff := pm_ck_ok (h := [4120, 1001, 4118, 4119]) (hs := [[0, 2067, 0, 3035, 0, 0, 0], [0, 2127, 0], [0, 0], [0, 2074, 0, 2074, 4121, 0, 0, 0, 4070, 0]]) (by decide +kernel) (by decide +kernel)
theorem ck_Desk_bestLie : pm_mOK md_Desk_bestLie ∧ pm_code pm_Ms md_Desk_bestLie := pm_ck_ok (h := [4128, 1001, 4126, 4127]) (hs := [[0, 2067, 0, 3035, 0, 0, 0], [0, 2067, 0, 2122, 0], [0, 0, 0, 2099, 0], [0, 0], [0, 2074, 0, 0, 4129, 0, 0], [0, 2074, 0, 4149, 0], [0, 2074, 2002], [0]]) (by decide +kernel) (by decide +kernel)
theorem ck_Desk_surely : pm_mOK md_Desk_surely ∧ pm_code pm_Ms md_Desk_surely := pm_ck_ok (h := [4157, 1001, 4155, 4156]) (hs := [[0, 2127, 0], [0, 2127, 0], [0, 0, 0, 2099, 0], [0, 0], [0, 2074, 0, 0, 0, 0], [0, 0], [0], [4158, 0], [0, 0], [0], [0]]) (by decide +kernel) (by decide +kernel)
theorem ck_Desk_ring : pm_mOK md_Desk_ring ∧ pm_code pm_Ms md_Desk_ring := pm_ck_ok (h := [4166, 1001, 4164, 4165]) (hs := [[0, 0, 0, 2099, 0], [0, 0], [0, 3184, 0, 2073, 0, 4167, 0]]) (by decide +kernel) (by decide +kernel)
theorem ck_Desk_usual : pm_mOK md_Desk_usual ∧ pm_code pm_Ms md_Desk_usual := pm_ck_ok (h := [4178, 1001, 4176, 4177]) (hs := [[0, 0, 2162, 0, 0, 0], [0, 0], [0, 2166, 0, 0, 0], [0, 0], [0, 2051, 0, 2067, 1092, 0], [0, 0], [0, 2073, 0, 2055, 0, 2067, 1092, 4179, 0]]) (by decide +kernel) (by decide +kernel)
theorem ck_Desk_breach : pm_mOK md_Desk_breach ∧ pm_code pm_Ms md_Desk_breach := pm_ck_ok (h := [4189, 1001, 4187, 4188]) (hs := [[0, 2067, 0, 3035, 0, 0, 0], [0, 0, 0, 2099, 0], [0, 0, 0, 2099, 0], [0, 0], [0, 3012, 0, 3015, 0, 0, 0], [0, 0], [0, 2075, 0, 0, 0], [0, 0], [0], [0, 2067, 1095, 4190, 0, 2075, 0, 4199, 0, 2075, 0, 4211, 0]]) (by decide +kernel) (by decide +kernel)
theorem ck_Desk_finds : pm_mOK md_Desk_finds ∧ pm_code pm_Ms md_Desk_finds := pm_ck_ok (h := [4239, 1001, 4237, 4238]) (hs := [[0, 2067, 0, 3035, 0, 0, 0], [0, 2127, 0], [0, 0], [0, 0, 0, 3155, 0, 0], [0, 0], [0], [0, 0, 0, 0, 3155, 0, 0], [0, 0], [0], [0, 0, 0, 0, 0]]) (by decide +kernel) (by decide +kernel)
theorem ck_Desk_image : pm_mOK md_Desk_image ∧ pm_code pm_Ms md_Desk_image := pm_ck_ok (h := [5003, 1001, 5001, 5002]) (hs := [[0, 2068, 0, 2067, 5004, 0, 0, 2069, 0, 2067, 1100, 0]]) (by decide +kernel) (by decide +kernel)
theorem ck_Desk_restore : pm_mOK md_Desk_restore ∧ pm_code pm_Ms md_Desk_restore := pm_ck_ok (h := [5012, 1001, 5010, 5011]) (hs := [[0, 2069, 0], [0, 0], [0, 2067, 0, 2068, 5004, 0, 2067, 1100, 0]]) (by decide +kernel) (by decide +kernel)
theorem ck_Desk_count : pm_mOK md_Desk_count ∧ pm_code pm_Ms md_Desk_count := pm_ck_ok (h := [5016, 1001, 5014, 5015]) (hs := [[0, 0], [0, 2067, 1092, 0], [0, 2067, 1095, 0], [0, 2067, 1100, 0], [0, 2067, 5017, 0], [0, 2067, 1102, 0], [0, 2067, 5021, 0], [0, 2067, 5025, 0], [0, 0]]) (by decide +kernel) (by decide +kernel)
theorem ck_Desk_keep : pm_mOK md_Desk_keep ∧ pm_code pm_Ms md_Desk_keep := pm_ck_ok (h := [5033, 1001, 5031, 5032]) (hs := [[0, 0, 2162, 0, 0, 0], [0, 0, 0, 2099, 0], [0, 0], [0, 0], [0, 0, 2047, 0, 0], [0, 2067, 0, 2122, 0, 0, 0], [0, 0], [0, 2053, 0, 5034, 0, 0, 2047, 0, 0]]) (by decide +kernel) (by decide +kernel)
theorem ck_Desk_row : pm_mOK md_Desk_row ∧ pm_code pm_Ms md_Desk_row := pm_ck_ok (h := [5038, 1001, 5036, 5037]) (hs := [[0, 0, 2162, 0, 0, 0], [0, 0, 0, 2099, 0], [0, 0, 0], [0, 0], [0, 0], [0, 0], [0, 0, 0, 5039, 0, 0]]) (by decide +kernel) (by decide +kernel)
theorem ck_Desk_put : pm_mOK md_Desk_put ∧ pm_code pm_Ms md_Desk_put := pm_ck_ok (h := [5047, 1001, 5045, 5046]) (hs := [[0, 0, 2162, 0, 0, 0], [0, 0], [0, 5048, 0, 0, 0], [0, 0], [0, 0, 0, 2051, 0, 0, 2099, 0], [0, 0], [0, 2055, 0, 0, 0, 5052, 0, 0, 0]]) (by decide +kernel) (by decide +kernel)
theorem ck_Desk_copy : pm_mOK md_Desk_copy ∧ pm_code pm_Ms md_Desk_copy := pm_ck_ok (h := [5059, 1001, 5057, 5058]) (hs := [[0, 0, 2162, 0, 0, 0, 2162, 0, 0, 0], [0, 0], [0, 0], [0, 2047, 0], [0, 2047, 0], [0, 0], [0, 2047, 0, 0], [0, 2047, 0, 0], [0, 2049, 0, 2049, 0], [0, 0], [0, 0, 0, 5060, 0], [0, 0, 0, 5060, 0], [0, 0], [0, 2055, 0, 0, 2055, 0, 0, 5064, 0, 0]]) (by decide +kernel) (by decide +kernel)
theorem ck_Desk_heft : pm_mOK md_Desk_heft ∧ pm_code pm_Ms md_Desk_heft := pm_ck_ok (h := [5068, 1001, 5066, 5067]) (hs := [[0, 0, 2162, 0, 0, 0], [0, 0], [0, 5069, 0, 0, 0], [0, 0], [0, 2053, 2154], [0]]) (by decide +kernel) (by decide +kernel)
theorem ck_Model_init : pm_mOK md_Model_init ∧ pm_code pm_Ms md_Model_init := pm_ck_ok (h := [5199, 1010, 5198, 0]) (hs := [[0, 5200, 0, 0, 0, 5202, 0, 0, 0, 5203, 0, 0, 0, 5205, 0, 0, 0, 5206, 0, 0, 0, 5207, 0, 0, 0, 5208, 0, 0, 0, 5209, 0, 0, 0, 5210, 0, 0, 0, 5211, 0, 0, 0, 5218, 0, 0, 0, 5219, 0, 0, 0, 5220, 0, 0, 0, 5221, 0, 0, 0, 5222, 0, 0, 0, 5223, 0, 0, 0, 5224, 0, 0, 0, 5225, 0, 0, 0, 5226, 0, 0, 5229, 0, 0, 5232, 0, 0, 0, 5233, 0, 0, 0, 5237, 0, 0, 0, 5238, 0, 0, 0, 5239, 0, 0, 0, 6000, 0, 0, 0, 6001, 0, 0, 0, 6002, 0, 0, 0, 6003, 0, 0, 0, 6004, 0, 0, 0, 6005, 0, 0, 0, 6007, 0, 0, 0, 6008, 0, 0, 0, 6009, 0, 0, 0, 6010, 0, 0, 0, 6011, 0, 0, 0, 6012, 0, 0, 0, 6013, 0, 0, 0, 6014, 0, 0, 0, 6015, 0, 0, 0, 6016, 0, 0, 0, 6017, 0, 5202, 0, 0, 0, 0]]) (by decide +kernel) (by decide +kernel)
end
section
/-! printed by wip/whole/gencode.py: the blocks are the bytes, the words are in the tables -/
theorem ck_Model_thrown : pm_mOK md_Model_thrown ∧ pm_code pm_Ms md_Model_thrown := pm_ck_ok (h := [6137, 1010, 6135, 6136]) (hs := [[0, 5201, 0]]) (by decide +kernel) (by decide +kernel)
theorem ck_Model_set : pm_mOK md_Model_set ∧ pm_code pm_Ms md_Model_set := pm_ck_ok (h := [6141, 1010, 6139, 6140]) (hs := [[0, 0, 5201, 0, 0, 0, 6142, 0], [0, 0, 0], [0, 0], [0], [0, 0], [0, 0], [0], [6142, 0], [0, 0], [0, 5202, 0, 0, 0, 0, 5202, 0, 0, 0, 0, 0]]) (by decide +kernel) (by decide +kernel)
theorem ck_Model_in : pm_mOK md_Model_in ∧ pm_code pm_Ms md_Model_in := pm_ck_ok (h := [6144, 1010, 6143, 0]) (hs := [[0, 0, 0], [0, 0, 0], [0, 0], [0], [0]]) (by decide +kernel) (by decide +kernel)
theorem ck_Model_member : pm_mOK md_Model_member ∧ pm_code pm_Ms md_Model_member := pm_ck_ok (h := [6148, 1010, 6146, 6147]) (hs := [[0, 0, 5201, 0, 0, 0, 6142, 0], [0, 0], [0, 0, 0, 0, 0, 6142, 0], [0, 0, 0, 0, 6149, 0], [0, 0], [0, 5202, 0, 0, 0, 0], [0, 0], [0, 5202, 0, 0, 0, 0, 5202, 0, 0, 0, 0, 0, 0, 5202, 0, 0, 0, 0, 0, 0, 0, 0, 5202, 0, 0, 0, 0, 0, 0, 0, 0, 5202, 0, 0, 0, 0, 0, 0, 5202, 0, 0, 0, 0, 0, 0, 0], [0, 0, 0], [0, 5202, 0, 0, 0, 0, 0, 0, 0, 0, 0, 0, 5202, 0, 0, 0, 0, 0, 0, 0, 0, 0, 0, 0], [0, 5202, 0, 0, 0, 0, 0, 0, 0, 0]]) (by decide +kernel) (by decide +kernel)
theorem ck_Model_isNumber : pm_mOK md_Model_isNumber ∧ pm_code pm_Ms md_Model_isNumber := pm_ck_ok (h := [6151, 1010, 6150, 0]) (hs := [[0, 0, 0, 0, 0], [0, 0], [0, 0, 0], [0, 0, 0], [0, 0], [0], [6142, 0]]) (by decide +kernel) (by decide +kernel)
theorem ck_Model_bought : pm_mOK md_Model_bought ∧ pm_code pm_Ms md_Model_bought := pm_ck_ok (h := [6155, 1010, 6153, 6154]) (hs := [[0, 0, 5201, 0, 0, 6156, 0], [0, 6160, 0], [0, 0], [0, 5202, 0, 0, 0, 0, 0, 0], [0, 0], [0, 5202, 0, 0, 0, 0, 0, 0, 5202, 0, 0, 0, 0, 0, 0, 0]]) (by decide +kernel) (by decide +kernel)
theorem ck_Model_isMember : pm_mOK md_Model_isMember ∧ pm_code pm_Ms md_Model_isMember := pm_ck_ok (h := [6159, 1010, 6158, 40]) (hs := [[0, 0, 0, 5202, 0, 0, 0, 0, 6142, 0]]) (by decide +kernel) (by decide +kernel)
theorem ck_Model_isEnd : pm_mOK md_Model_isEnd ∧ pm_code pm_Ms md_Model_isEnd := pm_ck_ok (h := [6162, 1010, 6161, 0]) (hs := [[0, 0, 0, 6142, 0]]) (by decide +kernel) (by decide +kernel)
theorem ck_Model_becomes : pm_mOK md_Model_becomes ∧ pm_code pm_Ms md_Model_becomes := pm_ck_ok (h := [6166, 1010, 6164, 6165]) (hs := [[0, 0, 5201, 0, 0, 6156, 0], [0, 0], [0, 0, 0, 0, 0, 6142, 0], [0, 0, 0, 0, 0, 0, 6149, 0], [0, 0], [0, 5202, 0, 0, 0, 0, 0, 0, 5202, 0, 0, 0, 0, 0, 0, 0, 0, 5202, 0, 0, 0, 0, 0, 0, 0, 0, 0]]) (by decide +kernel) (by decide +kernel)
theorem ck_Model_wish : pm_mOK md_Model_wish ∧ pm_code pm_Ms md_Model_wish := pm_ck_ok (h := [6170, 1010, 6168, 6169]) (hs := [[0, 0, 5201, 0, 0, 6156, 0], [0, 6160, 0], [0, 0, 0, 6142, 0], [0, 0, 0, 0, 0, 0, 0, 0, 0, 6171, 0], [0], [0]]) (by decide +kernel) (by decide +kernel)
theorem ck_Model_change : pm_mOK md_Model_change ∧ pm_code pm_Ms md_Model_change := pm_ck_ok (h := [6174, 1010, 6173, 41]) (hs := [[0, 5202, 0, 0, 0, 0, 5202, 0, 0, 0, 0, 0]]) (by decide +kernel) (by decide +kernel)
theorem ck_Model_doubted : pm_mOK md_Model_doubted ∧ pm_code pm_Ms md_Model_doubted := pm_ck_ok (h := [6178, 1010, 6176, 6177]) (hs := [[0, 0, 5201, 0, 0, 6156, 0], [0, 6160, 0], [0, 0, 0, 6142, 0], [0, 0, 0, 0, 0, 0, 0, 0, 0, 6171, 0], [0], [0]]) (by decide +kernel) (by decide +kernel)
theorem ck_Model_sure : pm_mOK md_Model_sure ∧ pm_code pm_Ms md_Model_sure := pm_ck_ok (h := [6182, 1010, 6180, 6181]) (hs := [[0, 0, 5201, 0, 0, 6156, 0], [0, 0, 0, 6142, 0], [0, 0, 0, 0, 0, 6171, 0], [0], [0]]) (by decide +kernel) (by decide +kernel)
theorem ck_Model_about : pm_mOK md_Model_about ∧ pm_code pm_Ms md_Model_about := pm_ck_ok (h := [6186, 1010, 6184, 6185]) (hs := [[0, 0, 5201, 0, 0, 6156, 0], [0, 0, 0, 6142, 0], [0, 0], [0, 0], [0, 5202, 0, 0, 0, 0, 0], [0, 0, 0], [0, 5202, 0, 0, 0, 0, 0], [0, 0, 0], [0, 5202, 0, 0, 0, 0, 0], [0, 0, 0], [0, 0, 6187, 0], [0, 5202, 0, 0, 0, 0], [0]]) (by decide +kernel) (by decide +kernel)
theorem ck_Model_heftOf : pm_mOK md_Model_heftOf ∧ pm_code pm_Ms md_Model_heftOf := pm_ck_ok (h := [6190, 1010, 6189, 42]) (hs := [[0, 5202, 0, 0, 0, 0, 0, 0, 5202, 0, 0, 0, 0, 0], [0, 0], [0, 0, 0, 0], [0, 0, 0, 0, 5202, 0, 0, 0, 0, 0, 0], [0, 0, 0, 0], [0, 0, 0, 0, 0, 0], [0, 0, 0, 0]]) (by decide +kernel) (by decide +kernel)
theorem ck_Model_fault : pm_mOK md_Model_fault ∧ pm_code pm_Ms md_Model_fault := pm_ck_ok (h := [6194, 1010, 6192, 6193]) (hs := [[0, 0, 5201, 0, 0, 6195, 0, 0, 0], [0, 0], [0, 0, 6199, 0, 0, 0], [0, 0], [0], [0]]) (by decide +kernel) (by decide +kernel)
theorem ck_Model_lacks : pm_mOK md_Model_lacks ∧ pm_code pm_Ms md_Model_lacks := pm_ck_ok (h := [6198, 1010, 6197, 43]) (hs := [[0, 0, 0, 6142, 0], [0, 0], [0, 6011, 0, 0, 0], [0, 0], [0, 6011, 0, 0, 0, 0], [0, 6014, 0, 0, 0], [0, 0], [0], [0]]) (by decide +kernel) (by decide +kernel)
theorem ck_Model_faultOf : pm_mOK md_Model_faultOf ∧ pm_code pm_Ms md_Model_faultOf := pm_ck_ok (h := [6202, 1010, 6201, 44]) (hs := [[0, 0, 0, 0, 5212, 0, 0, 6015, 0, 0, 5213, 0, 0, 5214, 0, 0, 5215, 0, 0, 5228, 0, 0, 5216, 0, 0, 5217, 0, 0, 5227], [0, 5215, 0], [0, 5228, 0], [0, 6203, 0, 0, 0, 0], [0, 0, 0], [0, 0, 0, 0], [0, 0], [0], [6207, 0], [0, 6211, 0, 0, 5215, 0], [0, 0, 5227, 0], [0, 0], [0], [5228, 0, 0, 0, 0, 0, 0, 0, 6219, 6223], [0], [0, 0, 5215, 0], [0, 5214, 0, 5213, 0], [0, 0], [0], [5215, 0, 5215, 0], [0, 5214, 0], [0], [0]]) (by decide +kernel) (by decide +kernel)
theorem ck_Model_here : pm_mOK md_Model_here ∧ pm_code pm_Ms md_Model_here := pm_ck_ok (h := [6206, 1010, 6205, 45]) (hs := [[0, 5214, 0, 5213, 0], [0, 0], [0, 6016, 0, 5212, 0, 5214, 0, 0, 0, 0, 0], [0]]) (by decide +kernel) (by decide +kernel)
theorem ck_Model_begin : pm_mOK md_Model_begin ∧ pm_code pm_Ms md_Model_begin := pm_ck_ok (h := [6210, 1010, 6209, 46]) (hs := [[0, 0, 5227, 0, 0], [0, 0], [0], [5215, 0, 5215, 0], [0], [0, 0, 5214, 0, 0, 5214, 0, 5223, 0, 5227, 0, 0, 0, 5224, 0, 5227, 0, 0, 0, 5225, 0, 5227, 0, 0, 0], [0, 5217, 0], [0], [0, 0, 0, 5217, 0, 0, 0], [0, 0], [0], [0, 5217, 0, 0, 0], [0, 5225, 0, 5227, 0, 6211, 0, 0, 5215, 0], [0, 0, 6215, 0], [0, 5226, 0, 5227, 0, 6211, 0, 0, 0, 5215, 0], [0, 0, 6215, 0], [0, 0], [0], [5215], [0, 0, 5227, 0, 0, 5227, 0]]) (by decide +kernel) (by decide +kernel)
end
section
/-! printed by wip/whole/gencode.py: the blocks are the bytes, the words are in the tables -/
theorem ck_Model_readEnd : pm_mOK md_Model_readEnd ∧ pm_code pm_Ms md_Model_readEnd := pm_ck_ok (h := [6214, 1010, 6213, 47]) (hs := [[0, 6203, 0, 0, 0, 0, 0, 0, 5202, 0, 0, 0, 0, 0, 6142, 0], [0, 0], [0], [5215, 0, 0, 5214, 0, 5215, 0], [0, 0], [0], [0, 5214, 0, 0, 0, 0]]) (by decide +kernel) (by decide +kernel)
theorem ck_Model_take : pm_mOK md_Model_take ∧ pm_code pm_Ms md_Model_take := pm_ck_ok (h := [6218, 1010, 6217, 48]) (hs := [[0, 0, 6203, 0, 0], [0, 0], [0], [5215, 0, 0, 5214, 0, 5215, 0], [0, 0], [0], [0, 5214, 0, 5215, 0], [0, 0], [0], [0]]) (by decide +kernel) (by decide +kernel)
theorem ck_Model_add : pm_mOK md_Model_add ∧ pm_code pm_Ms md_Model_add := pm_ck_ok (h := [6222, 1010, 6221, 49]) (hs := [[0, 5218, 0, 5216, 0, 0, 0, 5219, 0, 5216, 0, 0, 0, 5220, 0, 5216, 0, 0, 0, 5221, 0, 5216, 0, 0, 0, 5222, 0, 5216, 0, 0, 0, 0, 5216, 0, 0, 5216, 0, 5216, 0, 0, 0]]) (by decide +kernel) (by decide +kernel)
theorem ck_Model_part : pm_mOK md_Model_part ∧ pm_code pm_Ms md_Model_part := pm_ck_ok (h := [6226, 1010, 6225, 50]) (hs := [[0, 0, 0, 5227, 0], [0, 0], [0], [0], [0, 0], [0, 5227, 0, 0, 0, 0, 5224, 0, 0, 0], [0, 0, 5223, 0, 0, 0, 0], [0, 0], [0], [6215, 0], [0, 5224, 0, 0, 0], [0, 0, 0], [0, 0, 5223, 0, 0, 0, 0], [0, 0], [0], [6215, 0], [0, 0, 5223, 0, 0, 0, 5224, 0, 0, 0, 0, 5225, 0, 0, 0, 5226, 0, 0, 6219, 0, 0, 0, 5227, 0, 0, 5227, 0, 5227, 0], [0, 0], [0], [0, 0, 0, 5227, 0], [0, 0], [0], [5228, 0], [0, 0], [0], [0]]) (by decide +kernel) (by decide +kernel)
theorem ck_Model_tree : pm_mOK md_Model_tree ∧ pm_code pm_Ms md_Model_tree := pm_ck_ok (h := [6230, 1010, 6228, 6229]) (hs := [[0, 0, 5201, 0, 0, 0, 6142, 0], [0, 0], [0, 5202, 0, 0, 0, 0], [0, 0], [0, 0, 6195, 0, 0, 0], [0, 0], [0, 0, 6199, 0, 0, 0], [0, 0, 0, 0], [0, 5202, 0, 0, 0, 0, 0], [0, 0, 5216, 0], [0, 5207, 0, 0, 0, 0, 0, 0, 5218, 0, 0, 0, 0, 5208, 0, 0, 0, 0, 0, 0, 5219, 0, 0, 0, 0, 5209, 0, 0, 0, 0, 0, 0, 5220, 0, 0, 0, 0, 5210, 0, 0, 0, 0, 0, 0, 5221, 0, 0, 0, 0, 5211, 0, 0, 0, 0, 0, 0, 5222, 0, 0, 0, 0, 0], [0, 5205, 0, 0, 5216, 0, 0, 5206, 0, 0, 5217, 0, 0, 5202, 0, 0, 0, 0, 0, 0, 0, 0]]) (by decide +kernel) (by decide +kernel)
theorem ck_Model_beat : pm_mOK md_Model_beat ∧ pm_code pm_Ms md_Model_beat := pm_ck_ok (h := [6234, 1010, 6232, 6233]) (hs := [[0, 0, 5201, 0, 6160, 0], [0, 6160, 0], [0, 0, 0, 6235, 0], [7017], [0]]) (by decide +kernel) (by decide +kernel)
theorem ck_Model_margin : pm_mOK md_Model_margin ∧ pm_code pm_Ms md_Model_margin := pm_ck_ok (h := [6238, 1010, 6237, 51]) (hs := [[0, 0, 0, 0], [0, 0, 6239, 0], [0, 0, 0, 7003, 0, 0, 0, 0, 7003, 0, 0, 0, 0, 0], [0, 0, 7013, 0], [0, 0, 0], [0, 0, 7013, 0, 0], [0], [0, 0, 0, 0], [0, 0]]) (by decide +kernel) (by decide +kernel)
theorem ck_Model_members : pm_mOK md_Model_members ∧ pm_code pm_Ms md_Model_members := pm_ck_ok (h := [7002, 1010, 7001, 52]) (hs := [[0, 5236, 0], [0, 5236, 0], [0, 5202, 0, 0], [0]]) (by decide +kernel) (by decide +kernel)
theorem ck_Model_wishOf : pm_mOK md_Model_wishOf ∧ pm_code pm_Ms md_Model_wishOf := pm_ck_ok (h := [7006, 1010, 7005, 53]) (hs := [[0, 5236, 0], [0, 5237, 0, 0, 0, 7007, 0], [0, 0, 5232, 0], [0, 5233, 0, 0, 0], [0, 5231, 0, 0, 0, 0, 0, 0], [0, 5202, 0, 0, 0, 0, 0, 0, 0, 0, 0], [0, 5202, 0, 0, 0, 0, 0, 0, 0, 0], [0]]) (by decide +kernel) (by decide +kernel)
theorem ck_Model_placeIn : pm_mOK md_Model_placeIn ∧ pm_code pm_Ms md_Model_placeIn := pm_ck_ok (h := [7009, 1010, 7008, 0]) (hs := [[0, 0, 7010, 0, 0], [0, 0], [0, 0, 7010, 0, 0], [0, 0], [0], [0]]) (by decide +kernel) (by decide +kernel)
theorem ck_Model_liked : pm_mOK md_Model_liked ∧ pm_code pm_Ms md_Model_liked := pm_ck_ok (h := [7012, 1010, 7011, 0]) (hs := [[0, 0, 0, 0, 0, 0], [0, 0], [0], [0, 0, 0, 0, 0, 0, 0, 0, 0], [0, 0], [0, 0, 0], [0, 0], [0], [0, 0, 0, 0], [0, 0], [0], [0], [0, 0], [0], [0]]) (by decide +kernel) (by decide +kernel)
theorem ck_Model_voicesOf : pm_mOK md_Model_voicesOf ∧ pm_code pm_Ms md_Model_voicesOf := pm_ck_ok (h := [7016, 1010, 7015, 54]) (hs := [[0, 5236, 0], [0, 0], [0, 5202, 0, 0, 0, 0], [0]]) (by decide +kernel) (by decide +kernel)
theorem ck_Model_stands : pm_mOK md_Model_stands ∧ pm_code pm_Ms md_Model_stands := pm_ck_ok (h := [7021, 1010, 7019, 7020]) (hs := [[0, 0, 5201, 0, 6160, 0], [0, 6160, 0], [0, 0, 0, 7022, 0], [0], [0]]) (by decide +kernel) (by decide +kernel)
theorem ck_Model_standing : pm_mOK md_Model_standing ∧ pm_code pm_Ms md_Model_standing := pm_ck_ok (h := [7025, 1010, 7024, 55]) (hs := [[0, 0, 0, 7026, 0], [0, 0], [0], [0]]) (by decide +kernel) (by decide +kernel)
theorem ck_Model_beats : pm_mOK md_Model_beats ∧ pm_code pm_Ms md_Model_beats := pm_ck_ok (h := [7029, 1010, 7028, 56]) (hs := [[0, 0, 0], [0, 0], [0, 0, 0, 6235, 0, 0, 0], [0, 0], [0, 5202, 0, 0, 0], [0, 0, 0], [0], [0, 0, 0], [0, 0], [0], [0]]) (by decide +kernel) (by decide +kernel)
theorem ck_Model_of : pm_mOK md_Model_of ∧ pm_code pm_Ms md_Model_of := pm_ck_ok (h := [7033, 1010, 7031, 7032]) (hs := [[0, 0, 5201, 0, 0, 7034, 0], [0, 0, 0, 6142, 0], [0, 0], [0, 0], [0, 5206, 0, 0, 0], [0, 0, 7038, 0, 0, 0, 0], [0, 5239, 0, 5216, 0, 0, 0, 0], [0, 5238, 0, 5216, 0, 0, 0], [0]]) (by decide +kernel) (by decide +kernel)
theorem ck_Model_isTree : pm_mOK md_Model_isTree ∧ pm_code pm_Ms md_Model_isTree := pm_ck_ok (h := [7037, 1010, 7036, 57]) (hs := [[0, 0, 0, 5202, 0, 0, 0, 0, 6142, 0]]) (by decide +kernel) (by decide +kernel)
theorem ck_Model_endOf : pm_mOK md_Model_endOf ∧ pm_code pm_Ms md_Model_endOf := pm_ck_ok (h := [7041, 1010, 7040, 58]) (hs := [[0, 0, 7042, 0, 7046, 0]]) (by decide +kernel) (by decide +kernel)
theorem ck_Model_load : pm_mOK md_Model_load ∧ pm_code pm_Ms md_Model_load := pm_ck_ok (h := [7045, 1010, 7044, 59]) (hs := [[0, 0, 5205, 0, 0, 5216, 0, 0], [0, 0, 5216, 0], [0, 5218, 0, 0, 5207, 0, 0, 0, 0, 0, 0, 0, 0, 5219, 0, 0, 5208, 0, 0, 0, 0, 0, 0, 0, 0, 5220, 0, 0, 5209, 0, 0, 0, 0, 0, 0, 0, 0, 5221, 0, 0, 5210, 0, 0, 0, 0, 0, 0, 0, 0, 5222, 0, 0, 5211, 0, 0, 0, 0, 0, 0, 0, 0, 0], [0]]) (by decide +kernel) (by decide +kernel)
end
section
/-! printed by wip/whole/gencode.py: the blocks are the bytes, the words are in the tables -/
theorem ck_Model_settle : pm_mOK md_Model_settle ∧ pm_code pm_Ms md_Model_settle := pm_ck_ok (h := [7049, 1010, 7048, 60]) (hs := [[0, 0], [0, 0, 5216, 0], [0, 5218, 0, 0, 0], [0, 5238, 0, 0, 5221, 0, 0, 0, 0, 5239, 0, 0, 0, 5221, 0, 0, 0, 0, 0, 6000, 0, 0, 5221, 0, 0, 0, 0, 0], [0, 0, 0], [0, 6001, 0, 0, 0, 0, 0, 0, 5221, 0, 0, 0, 0, 0], [0], [0, 5239, 0, 0, 5239, 0, 5219, 0, 0, 0, 0, 5239, 0, 5220, 0, 0, 0, 0, 0, 0, 5218, 0, 0, 0, 0], [0, 0, 7050, 0], [0, 0, 5221, 0, 0, 0, 5222, 0, 0, 7026, 0], [0, 5219, 0, 0, 0], [0, 5220, 0, 0], [0, 0, 5238, 0, 0, 5238, 0, 0, 0, 0, 6000, 0, 0, 6000, 0, 0, 0, 0, 0], [0, 0, 0], [0, 6001, 0, 0, 0, 0, 0, 0, 6001, 0, 0, 0, 0, 0, 0, 0, 0, 0], [0, 0], [0, 6000, 0, 5216, 0, 0, 0, 0]]) (by decide +kernel) (by decide +kernel)
theorem ck_Model_settleQuestion : pm_mOK md_Model_settleQuestion ∧ pm_code pm_Ms md_Model_settleQuestion := pm_ck_ok (h := [7053, 1010, 7052, 61]) (hs := [[0, 5219, 0, 0, 0, 0, 5220, 0, 0, 0, 0, 0, 0, 0], [0, 0, 6239, 0], [0, 0, 0, 0, 0, 7054, 0, 0, 0, 0], [0, 0], [0, 0], [0, 5238, 0, 0, 0, 5238, 0, 0, 0], [0, 5238, 0, 0, 0, 5238, 0, 0, 0], [0, 0], [0], [0, 5202, 0, 0, 0], [0, 0], [0], [0], [0, 0], [0], [0, 0, 6002, 0, 0, 0, 0, 6003, 0, 0, 0], [0, 0], [0], [0, 0, 6000, 0, 0, 0], [0, 6000, 0, 0, 0], [0, 6000, 0, 0], [0, 0, 5238, 0, 0, 5238, 0, 0, 0, 0, 0], [0, 0, 0], [0, 6001, 0, 0, 0, 0, 0, 0, 0, 6001, 0, 0, 0, 0, 0, 0, 0, 0, 0, 6001, 0, 0, 0, 0, 0, 0, 0, 0, 7022, 0, 0, 0], [0, 6001, 0, 0, 0, 0, 5238, 0, 0, 0, 0]]) (by decide +kernel) (by decide +kernel)
theorem ck_Model_voteOf : pm_mOK md_Model_voteOf ∧ pm_code pm_Ms md_Model_voteOf := pm_ck_ok (h := [7057, 1010, 7056, 62]) (hs := [[0, 0, 7013, 0, 0, 0, 7058, 0], [0, 0, 0, 0, 5238, 0, 0, 0, 5238, 0, 0, 7062, 0, 0], [0, 0, 0, 0, 6000, 0, 0, 0, 6000, 0, 0, 7062, 0, 0], [0, 0, 0, 0, 6001, 0, 0, 0, 0, 5202, 0, 0, 0, 0, 0, 0, 0, 6001, 0, 0, 0, 0, 5202, 0, 0, 0, 0, 0, 0, 7062, 0, 0], [0, 0, 0, 0, 7066, 0, 0, 7070, 0, 0], [0, 5239, 0, 0, 0, 0, 7074, 0, 0, 0, 0, 0, 5239, 0, 0, 0, 0, 7074, 0, 0, 0, 0, 0, 0, 0], [0, 0, 0, 0, 0, 0], [0, 0, 0, 0, 7066, 0, 0, 7070, 0], [0], [0, 0, 0, 0, 0, 0, 5238, 0, 0, 0, 5238, 0, 0, 7062, 0, 0, 0, 0, 0, 0, 0, 0, 0, 6000, 0, 0, 0, 6000, 0, 0, 7062, 0, 0, 0]]) (by decide +kernel) (by decide +kernel)
theorem ck_Model_kindOf : pm_mOK md_Model_kindOf ∧ pm_code pm_Ms md_Model_kindOf := pm_ck_ok (h := [7061, 1010, 7060, 63]) (hs := [[0, 5229, 0], [0, 5229, 0], [0, 5234, 0, 0, 0, 0, 0, 0], [0, 0], [0, 5230, 0, 0, 0, 0, 0, 0], [0, 0], [0, 5202, 0, 0, 0, 0], [0]]) (by decide +kernel) (by decide +kernel)
theorem ck_Model_sign : pm_mOK md_Model_sign ∧ pm_code pm_Ms md_Model_sign := pm_ck_ok (h := [7065, 1010, 7064, 64]) (hs := [[0, 0, 0, 7003, 0, 0, 0, 0, 7003, 0, 0, 0, 0], [0, 0], [0, 0, 0], [0, 0], [0], [0]]) (by decide +kernel) (by decide +kernel)
theorem ck_Model_partyOf : pm_mOK md_Model_partyOf ∧ pm_code pm_Ms md_Model_partyOf := pm_ck_ok (h := [7069, 1010, 7068, 65]) (hs := [[0, 5234, 0, 0, 0, 0, 0, 0], [0, 0], [0, 5202, 0, 0, 0, 0], [0]]) (by decide +kernel) (by decide +kernel)
theorem ck_Model_partySign : pm_mOK md_Model_partySign ∧ pm_code pm_Ms md_Model_partySign := pm_ck_ok (h := [7073, 1010, 7072, 66]) (hs := [[0, 0, 0, 0], [0, 0, 6239, 0], [0, 0, 7058, 0, 0], [0, 0, 7058, 0, 0], [0, 0, 7066, 0, 0], [0, 0], [0], [0, 0, 0, 0], [0, 0, 0, 5238, 0, 0, 0, 5238, 0, 0, 7062, 0, 0, 7013, 0, 0], [0], [0, 0, 0, 0], [0, 0], [0, 0], [0, 0], [0, 0], [0], [0]]) (by decide +kernel) (by decide +kernel)
theorem ck_Model_endFor : pm_mOK md_Model_endFor ∧ pm_code pm_Ms md_Model_endFor := pm_ck_ok (h := [7077, 1010, 7076, 67]) (hs := [[0, 5234, 0, 0, 0, 0, 0, 0], [0, 5235, 0], [0, 5202, 0, 0, 0, 0], [0]]) (by decide +kernel) (by decide +kernel)
theorem ck_Model_run : pm_mOK md_Model_run ∧ pm_code pm_Ms md_Model_run := pm_ck_ok (h := [7081, 1010, 7079, 7080]) (hs := [[0, 0, 5201, 0, 0, 7034, 0], [0, 0, 7038, 0], [0], [0]]) (by decide +kernel) (by decide +kernel)
theorem ck_Model_ask : pm_mOK md_Model_ask ∧ pm_code pm_Ms md_Model_ask := pm_ck_ok (h := [7085, 1010, 7083, 7084]) (hs := [[0, 0, 5201, 0, 0, 0, 7086, 0], [0, 0, 0, 6142, 0], [0, 0], [0, 0, 7038, 0, 0, 0, 7090, 0, 0, 0], [0, 6003, 0, 0, 0], [0, 0, 0], [0, 6000, 0, 5219, 0, 0, 0, 0], [0, 6000, 0, 5220, 0, 0, 0], [0]]) (by decide +kernel) (by decide +kernel)
theorem ck_Model_isQuestion : pm_mOK md_Model_isQuestion ∧ pm_code pm_Ms md_Model_isQuestion := pm_ck_ok (h := [7089, 1010, 7088, 68]) (hs := [[0, 0, 7034, 0], [0, 0, 0, 5206, 0, 0, 0, 0, 6142, 0], [0, 0], [0], [0]]) (by decide +kernel) (by decide +kernel)
theorem ck_Model_nodeOf : pm_mOK md_Model_nodeOf ∧ pm_code pm_Ms md_Model_nodeOf := pm_ck_ok (h := [7093, 1010, 7092, 69]) (hs := [[0, 0, 0, 0], [0, 0, 5216, 0], [0, 5218, 0, 0, 0, 0], [0, 5221, 0, 0, 0, 0], [0, 0], [0], [0, 0, 0], [0, 0]]) (by decide +kernel) (by decide +kernel)
end
section
/-! printed by wip/whole/gencode.py: the blocks are the bytes, the words are in the tables -/
theorem ck_Model_wonBy : pm_mOK md_Model_wonBy ∧ pm_code pm_Ms md_Model_wonBy := pm_ck_ok (h := [7097, 1010, 7095, 7096]) (hs := [[0, 0, 5201, 0, 0, 0, 7086, 0], [7017, 0], [0, 0, 7038, 0, 0, 6002, 0, 0, 7090, 0, 0]]) (by decide +kernel) (by decide +kernel)
theorem ck_Model_why : pm_mOK md_Model_why ∧ pm_code pm_Ms md_Model_why := pm_ck_ok (h := [7101, 1010, 7099, 7100]) (hs := [[0, 0, 5201, 0, 0, 0, 7086, 0], [0, 0, 6156, 0], [7017, 0], [0, 0, 7038, 0, 0, 0, 7090, 0, 0, 0, 0, 5219, 0, 0, 0, 5220, 0, 0, 7054, 0]]) (by decide +kernel) (by decide +kernel)
theorem ck_Model_ifAll : pm_mOK md_Model_ifAll ∧ pm_code pm_Ms md_Model_ifAll := pm_ck_ok (h := [7105, 1010, 7103, 7104]) (hs := [[0, 0, 5201, 0, 0, 7034, 0], [0, 0, 0, 6142, 0], [0, 0], [0, 0, 5229, 0, 0, 7038, 0, 0, 0, 5229, 0, 0]]) (by decide +kernel) (by decide +kernel)
theorem ck_Model_parts : pm_mOK md_Model_parts ∧ pm_code pm_Ms md_Model_parts := pm_ck_ok (h := [7109, 1010, 7107, 7108]) (hs := [[0, 0, 5201, 0, 0, 7034, 0], [0, 0], [0, 0, 5229, 0, 0, 7038, 0, 0, 0], [0, 0, 5216, 0], [0, 6004, 0, 0, 6003, 0, 0, 0, 0, 0], [0, 0, 5229, 0, 0, 7038, 0, 0, 0, 5229, 0, 0], [0, 0, 5206, 0, 0, 0], [0, 0, 7090, 0, 0, 6004, 0, 0, 0, 6003, 0, 0, 0], [0, 0], [0, 0], [0, 0]]) (by decide +kernel) (by decide +kernel)
theorem ck_Model_order : pm_mOK md_Model_order ∧ pm_code pm_Ms md_Model_order := pm_ck_ok (h := [7113, 1010, 7111, 7112]) (hs := [[0, 0, 5201, 0, 0, 6195, 0, 0, 0], [0, 0], [0, 6015, 0, 0, 0, 0, 6142, 0], [0, 0], [0, 0, 0, 0], [0, 0, 6015, 0, 0, 0], [0, 6016, 0, 0, 0, 0, 0, 0, 0, 0, 0, 0, 7114, 0], [0, 0, 0, 0, 0, 0, 0], [0, 0], [0, 0, 0, 0, 0, 0, 0, 6005, 0, 0, 0, 0, 0], [0, 0, 6015, 0, 0, 6006, 0, 0, 7118, 0]]) (by decide +kernel) (by decide +kernel)
theorem ck_Model_isThere : pm_mOK md_Model_isThere ∧ pm_code pm_Ms md_Model_isThere := pm_ck_ok (h := [7117, 1010, 7116, 70]) (hs := [[0, 0, 0, 5202, 0, 0, 0, 0, 6142, 0]]) (by decide +kernel) (by decide +kernel)
theorem ck_Model_orderEnds : pm_mOK md_Model_orderEnds ∧ pm_code pm_Ms md_Model_orderEnds := pm_ck_ok (h := [7121, 1010, 7120, 71]) (hs := [[0, 0], [0, 6005, 0, 0, 0, 0, 0], [0, 0, 6006, 0], [0, 0, 0, 6005, 0, 0, 7022, 0, 0, 0], [0, 0], [0, 6006, 0], [0, 0], [0, 0], [0, 0, 0], [0, 6007, 0, 0, 0, 0, 0, 0, 0, 6006, 0], [0, 0], [0, 0, 6007, 0, 0, 0, 0, 0, 0, 0, 0, 0, 6007, 0, 0, 0, 0, 0, 0, 6005, 0, 0, 0, 0, 7022], [0, 0, 0], [0, 0], [0, 6007, 0, 0, 6005, 0, 0, 0, 0, 0]]) (by decide +kernel) (by decide +kernel)
theorem ck_Model_reach : pm_mOK md_Model_reach ∧ pm_code pm_Ms md_Model_reach := pm_ck_ok (h := [7125, 1010, 7123, 7124]) (hs := [[0, 0, 5201, 0, 7126, 0, 0, 0, 0, 0], [0, 0, 0], [0, 0, 0, 7130, 0, 0, 0, 6006, 0, 0], [0, 6005, 0, 0, 0], [0, 0, 7118], [0, 0, 0, 0, 0], [0, 0]]) (by decide +kernel) (by decide +kernel)
theorem ck_Model_allOrders : pm_mOK md_Model_allOrders ∧ pm_code pm_Ms md_Model_allOrders := pm_ck_ok (h := [7129, 1010, 7128, 72]) (hs := [[0, 0, 0, 0], [0, 0, 5202, 0, 0, 0], [0, 0, 0, 0, 0, 0], [0, 0]]) (by decide +kernel) (by decide +kernel)
theorem ck_Model_findOrder : pm_mOK md_Model_findOrder ∧ pm_code pm_Ms md_Model_findOrder := pm_ck_ok (h := [7133, 1010, 7132, 73]) (hs := [[0, 0, 0, 0, 0, 0, 0, 0, 5202, 0, 0, 6006, 0, 0], [0, 0, 6006, 0], [0, 0, 6006, 0, 0, 0, 0, 0, 0, 0, 0, 0, 0, 0, 0, 0, 0], [0, 0, 0, 0, 0, 0, 0], [0, 0], [0, 0, 0, 0, 0, 0, 0, 0], [0, 0], [0], [0, 0, 0, 0], [0, 0, 0, 0, 0, 0, 0, 6005, 0, 0, 0, 0, 0], [0]]) (by decide +kernel) (by decide +kernel)
theorem ck_Model_first : pm_mOK md_Model_first ∧ pm_code pm_Ms md_Model_first := pm_ck_ok (h := [7137, 1010, 7135, 7136]) (hs := [[0, 0, 5201, 0, 0, 7114, 0], [0, 0], [0, 7126, 0, 0, 0], [0, 0, 0], [0, 0, 0, 7130, 0, 6006, 0, 0], [0, 6005, 0, 0, 0], [0, 0, 7118], [0, 0], [0, 0, 0, 6006, 0, 0, 0], [0, 0], [0, 0, 0, 0, 6005, 0, 0, 0, 0, 0, 0], [0, 0], [0, 0], [0, 0]]) (by decide +kernel) (by decide +kernel)
theorem ck_Model_best : pm_mOK md_Model_best ∧ pm_code pm_Ms md_Model_best := pm_ck_ok (h := [7141, 1010, 7139, 7140]) (hs := [[0, 0, 5201, 0, 0], [0, 0, 5202, 0, 0, 0], [0, 0, 0, 0], [0, 0, 5202, 0, 0, 0], [0, 0], [0, 0, 0], [0, 0, 0, 7026, 0], [0, 0], [0], [0, 0, 0], [0, 0], [0, 0], [0, 0], [0, 0]]) (by decide +kernel) (by decide +kernel)
theorem ck_Model_top : pm_mOK md_Model_top ∧ pm_code pm_Ms md_Model_top := pm_ck_ok (h := [7145, 1010, 7143, 7144]) (hs := [[0, 0, 5201, 0, 0, 0, 6142, 0], [0, 0], [0, 0, 0, 0], [0, 0, 5202, 0, 0, 0], [0, 0], [0, 0, 7146, 0, 0, 5202, 0, 0, 0, 0, 0, 0], [0, 0], [0, 0], [0, 0, 7150, 0], [0, 0], [0], [0, 0, 0, 0], [0, 0, 0, 0], [0], [0, 0, 0, 0], [0, 0]]) (by decide +kernel) (by decide +kernel)
theorem ck_Model_reachedFrom : pm_mOK md_Model_reachedFrom ∧ pm_code pm_Ms md_Model_reachedFrom := pm_ck_ok (h := [7149, 1010, 7148, 74]) (hs := [[0, 0, 0, 0, 0, 0], [0, 0], [0, 0, 0, 0], [0, 0, 5202, 0, 0, 0], [0, 0], [0, 0, 5202, 0, 0, 0], [0, 0, 0, 0, 0, 0, 0], [0, 0, 0, 0, 0, 0], [0, 0, 0, 7026, 0], [0, 0, 0, 0, 0, 0, 0, 0], [0, 0], [0, 0], [0], [0, 0]]) (by decide +kernel) (by decide +kernel)
theorem ck_Model_isCovered : pm_mOK md_Model_isCovered ∧ pm_code pm_Ms md_Model_isCovered := pm_ck_ok (h := [7153, 1010, 7152, 75]) (hs := [[0, 0, 0, 0], [0, 0, 5202, 0, 0, 0], [0, 0, 0, 7026, 0, 0, 0], [0, 0, 5202, 0, 0, 0], [0, 0], [0, 0, 0, 7026, 0], [0, 0, 0, 7026, 0], [0, 0], [0], [0, 0, 0], [0, 0], [0, 0], [0, 0], [0], [0, 0, 0], [0, 0]]) (by decide +kernel) (by decide +kernel)
end
section
/-! printed by wip/whole/gencode.py: the blocks are the bytes, the words are in the tables -/
theorem ck_Model_killers : pm_mOK md_Model_killers ∧ pm_code pm_Ms md_Model_killers := pm_ck_ok (h := [7157, 1010, 7155, 7156]) (hs := [[0, 0, 5201, 0, 0, 7034, 0], [0, 0], [0, 0, 0, 0], [0, 0, 5202, 0, 0, 0], [0, 0, 0, 0, 7158, 0], [0, 0, 0, 0], [0], [0, 0, 0, 0], [0, 0]]) (by decide +kernel) (by decide +kernel)
theorem ck_Model_isKiller : pm_mOK md_Model_isKiller ∧ pm_code pm_Ms md_Model_isKiller := pm_ck_ok (h := [7161, 1010, 7160, 76]) (hs := [[0, 0, 7038, 0, 0, 0, 7162, 0, 7046, 0, 0], [0, 0], [0], [0]]) (by decide +kernel) (by decide +kernel)
theorem ck_Model_against : pm_mOK md_Model_against ∧ pm_code pm_Ms md_Model_against := pm_ck_ok (h := [7165, 1010, 7164, 77]) (hs := [[0, 5216, 0, 0, 0, 0, 0, 0, 0, 0, 0, 6219, 0, 0, 0, 0, 0, 0, 0, 0, 0, 6219, 0, 0]]) (by decide +kernel) (by decide +kernel)
theorem ck_Model_shields : pm_mOK md_Model_shields ∧ pm_code pm_Ms md_Model_shields := pm_ck_ok (h := [7169, 1010, 7167, 7168]) (hs := [[0, 0, 5201, 0, 0, 7034, 0], [0, 0, 7114, 0], [0, 0], [0, 0, 0, 7158, 0], [0, 0], [0, 0, 0, 0], [0, 0, 5202, 0, 0, 0], [0, 0, 7038, 0, 0, 0, 7162, 0, 0, 7162, 0, 0, 7046, 0, 0], [0, 0, 0, 0], [0], [0, 0, 0, 0], [0, 0]]) (by decide +kernel) (by decide +kernel)
theorem ck_Model_tell : pm_mOK md_Model_tell ∧ pm_code pm_Ms md_Model_tell := pm_ck_ok (h := [7173, 1010, 7171, 7172]) (hs := [[0, 0, 5201, 0, 0, 7034, 0], [0, 6160, 0], [0, 0], [0, 0, 0, 0], [0, 0, 5202, 0, 0, 0], [0, 0, 5202, 0, 0, 0, 0, 0], [0, 0, 0, 0], [0], [0, 0, 0, 0], [0, 0, 0, 0], [0, 0, 0, 5202, 0, 0, 0, 0], [0, 0, 0, 0, 0, 0], [0, 0], [0, 7174, 0, 7174, 0], [0, 0, 5230, 0, 0, 7038, 0, 0], [0, 0], [0], [0], [0, 0], [0, 0, 5230, 0, 0]]) (by decide +kernel) (by decide +kernel)
theorem ck_Model_ones : pm_mOK md_Model_ones ∧ pm_code pm_Ms md_Model_ones := pm_ck_ok (h := [7176, 1010, 7175, 0]) (hs := [[0, 0, 0, 0], [0, 0], [0, 0, 0, 0, 0, 0, 0, 0, 0, 0, 0], [0, 0]]) (by decide +kernel) (by decide +kernel)
theorem ck_Model_falseVote : pm_mOK md_Model_falseVote ∧ pm_code pm_Ms md_Model_falseVote := pm_ck_ok (h := [7180, 1010, 7178, 7179]) (hs := [[0, 0, 5201, 0, 0, 7034, 0], [0, 0], [0, 0, 6195, 0, 0, 0], [0, 0], [0, 6015, 0, 0, 0, 0], [0, 0], [0], [0, 0, 0], [0, 0, 0], [0, 0], [0, 6016, 0, 0, 0, 0, 0, 0, 0, 0, 0], [0, 6016, 0, 0, 0, 0, 0, 0, 7181, 0, 0], [0, 0], [0], [0, 0, 0], [0, 0], [0, 0], [0, 0, 7038, 0, 0, 0], [0, 0, 0], [0, 5233, 0, 0, 6016, 0, 0, 0, 0, 0, 0, 0, 0, 0, 0], [0, 0], [0, 0, 5202, 0, 0, 0], [0, 0, 5232, 0, 0, 7038, 0, 0, 0, 5232, 0, 5202, 0, 0, 0, 0, 0, 0, 0, 0, 0, 5202, 0, 0, 0, 0, 0, 0, 0, 0, 0], [0, 0], [0, 0], [0, 0]]) (by decide +kernel) (by decide +kernel)
theorem ck_Model_chance : pm_mOK md_Model_chance ∧ pm_code pm_Ms md_Model_chance := pm_ck_ok (h := [7185, 1010, 7183, 7184]) (hs := [[0, 0, 5201, 0, 0, 7034, 0], [0, 6160, 0], [7186, 0], [0, 7187, 0, 0, 0, 0, 0], [0, 0, 0, 0, 0], [0, 0, 0, 0, 5231, 0, 0], [0, 0, 0], [0, 0, 0, 0, 0, 0, 0], [0, 0], [0], [0, 0, 0, 0], [0, 5202, 0, 0, 6008, 0, 0, 0, 0, 0, 0], [0, 0, 5202, 0, 0, 6008, 0, 0, 0, 0, 0, 0], [0, 0, 0, 0, 5231, 0, 0], [0, 0, 6008, 0, 0, 0, 0], [0], [0, 5231, 0, 0], [0, 0, 0, 7038, 0, 0], [0, 0], [0], [0, 0, 0, 0], [0, 0, 5231, 0, 0]]) (by decide +kernel) (by decide +kernel)
theorem ck_Model_findUnsure : pm_mOK md_Model_findUnsure ∧ pm_code pm_Ms md_Model_findUnsure := pm_ck_ok (h := [7190, 1010, 7189, 78]) (hs := [[0, 0, 0, 0], [0, 0, 5202, 0, 0, 0], [0, 0, 0], [0, 5202, 0, 0, 0, 0, 0], [0, 6008, 0, 0, 0, 0], [0, 0], [0, 0]]) (by decide +kernel) (by decide +kernel)
theorem ck_Model_boughtOff : pm_mOK md_Model_boughtOff ∧ pm_code pm_Ms md_Model_boughtOff := pm_ck_ok (h := [7194, 1010, 7192, 7193]) (hs := [[0, 0, 5201, 0, 0, 7034, 0], [0, 6160, 0], [0, 0], [0, 0, 0, 0, 5235, 0, 0], [0, 0, 0, 5202, 0, 0, 0, 0], [0, 0], [0, 7174, 0, 7174, 0], [0, 0, 5234, 0, 0, 7038, 0, 0], [0, 0], [0], [0], [0, 0], [0, 0, 5234, 0, 0]]) (by decide +kernel) (by decide +kernel)
theorem ck_Model_bestLie : pm_mOK md_Model_bestLie ∧ pm_code pm_Ms md_Model_bestLie := pm_ck_ok (h := [7198, 1010, 7196, 7197]) (hs := [[0, 0, 5201, 0, 0, 7034, 0], [0, 0, 6156, 0], [0, 0, 0, 6142, 0], [0, 0], [0, 7126, 0, 0, 0, 0, 0, 0, 0], [0, 0, 0], [0, 0, 0, 7130, 0, 0, 0, 0], [0, 0, 0], [0, 5233, 0, 0, 0, 0, 0], [0, 6006, 0, 0, 0], [0, 0], [0, 5233, 0, 6005, 0, 0, 0, 0, 0, 0, 0, 0, 6005, 0, 0, 0, 0, 0, 0], [0, 0, 5232, 0, 0, 7038, 0, 0, 0, 5232, 0, 0], [0, 5202, 0, 0, 0, 0, 0, 0, 0, 0, 0, 5202, 0, 0, 0, 0, 0, 0, 0, 0, 0], [0, 0, 0, 0], [0, 0], [0, 0], [0, 0], [0], [0]]) (by decide +kernel) (by decide +kernel)
theorem ck_Model_surely : pm_mOK md_Model_surely ∧ pm_code pm_Ms md_Model_surely := pm_ck_ok (h := [7202, 1010, 7200, 7201]) (hs := [[0, 0, 5201, 0, 6160, 0], [0, 6160, 0], [0, 0, 0, 6142, 0], [0, 0], [0, 7187, 0, 0, 0, 0, 0], [0, 0, 0, 0, 0], [0, 0, 5231, 0, 0], [0, 0, 0], [0, 0, 5231, 0, 0, 0, 0, 0, 0, 0], [0, 0, 6008, 0, 0, 0, 0], [0], [0, 5231, 0, 0], [0, 0, 0, 0, 7026, 0], [0, 0], [0], [0, 0, 0, 0], [0, 0, 5231, 0, 0], [0, 0, 0, 0, 0], [0, 0], [0, 0], [0, 0], [0, 0], [0], [0]]) (by decide +kernel) (by decide +kernel)
end
section
/-! printed by wip/whole/gencode.py: the blocks are the bytes, the words are in the tables -/
theorem ck_Model_ring : pm_mOK md_Model_ring ∧ pm_code pm_Ms md_Model_ring := pm_ck_ok (h := [7206, 1010, 7204, 7205]) (hs := [[0, 0, 5201, 0, 0, 0, 6142, 0], [0, 0], [0, 0, 0, 0], [0, 0, 5202, 0, 0, 0], [0, 0, 7146, 0, 0, 5202, 0, 0, 0, 0, 0, 0], [0, 6009, 0, 0, 0, 0], [0, 0], [0, 0, 0], [0, 0, 0], [0, 0, 7207, 0], [0, 0], [0, 6010, 0, 0], [0]]) (by decide +kernel) (by decide +kernel)
theorem ck_Model_findRing : pm_mOK md_Model_findRing ∧ pm_code pm_Ms md_Model_findRing := pm_ck_ok (h := [7210, 1010, 7209, 79]) (hs := [[0, 0, 0, 0], [0, 0, 0], [0, 0, 0, 0, 0, 0], [0, 0], [0, 0, 0], [0, 0, 0, 0, 0, 0, 0, 6010, 0, 0, 6009, 0, 0, 0, 0, 0, 0, 0], [0, 0], [0, 0, 0, 0, 0, 0, 0, 0, 0, 0], [0, 0, 0, 0, 0, 0], [0, 0], [0], [0, 0, 0, 0, 0, 0, 0, 0, 6010, 0, 0, 6009, 0, 0, 0, 0, 0], [0, 0], [0, 0, 0], [0, 0], [0, 0, 6010, 0, 0, 0, 6010, 0, 0, 0, 0, 0, 0, 7026, 0, 0, 0], [0, 0], [0, 0], [0, 0], [0, 0]]) (by decide +kernel) (by decide +kernel)
theorem ck_Model_usual : pm_mOK md_Model_usual ∧ pm_code pm_Ms md_Model_usual := pm_ck_ok (h := [7214, 1010, 7212, 7213]) (hs := [[0, 0, 5201, 0, 0, 6195, 0, 0, 0], [0, 0], [0, 6015, 0, 0, 0, 5202, 0, 0, 0], [0, 0], [0, 0, 0, 0, 0, 0], [0, 0, 5202, 0, 0, 0], [0, 0], [0, 0, 5202, 0, 0, 0], [0, 0, 0, 0], [0, 0, 5202, 0, 0, 0], [0, 6016, 0, 0, 0, 0, 0, 0, 0, 0, 6016, 0, 0, 0, 0, 0, 0, 0, 0, 0, 0, 0, 0], [0, 0, 0, 0], [0, 0, 0], [0, 0], [0], [0, 0, 0, 0], [0, 0, 0, 0], [0, 0, 0, 0], [0], [0, 0, 0, 0], [0, 0, 0, 0, 0, 0], [0, 0]]) (by decide +kernel) (by decide +kernel)
theorem ck_Model_breach : pm_mOK md_Model_breach ∧ pm_code pm_Ms md_Model_breach := pm_ck_ok (h := [7218, 1010, 7216, 7217]) (hs := [[0, 0, 5201, 0, 0, 7034, 0], [0, 0, 0, 6142, 0], [0, 0, 0, 6142, 0], [0, 0], [0, 0], [0, 0, 5205, 0, 0, 0], [0, 5207, 0, 0, 0, 0, 0, 0, 0, 0, 0, 0], [0, 5210, 0, 0, 0, 0, 0, 0, 0, 0], [0, 0, 0], [0, 5211, 0, 0, 0, 0, 0, 0, 0, 0], [0, 0], [0, 0], [0, 0, 0], [0, 0], [0, 0, 0], [0, 0], [0], [0, 0, 0, 0, 0, 5236, 0, 0, 0], [0, 0], [0], [5229, 0, 0], [0, 0, 0], [0, 0], [0, 0, 7219, 0, 0, 0, 7223, 0], [0, 0], [0], [0, 0, 0], [0, 0, 5236, 0, 0, 5229, 0, 0]]) (by decide +kernel) (by decide +kernel)
theorem ck_Model_findChamber : pm_mOK md_Model_findChamber ∧ pm_code pm_Ms md_Model_findChamber := pm_ck_ok (h := [7222, 1010, 7221, 80]) (hs := [[0, 0, 0, 5236, 0, 0, 0], [0, 0], [0, 5237, 0, 0, 0, 0, 0, 0, 0, 0, 0, 0, 0], [0]]) (by decide +kernel) (by decide +kernel)
theorem ck_Model_breaks : pm_mOK md_Model_breaks ∧ pm_code pm_Ms md_Model_breaks := pm_ck_ok (h := [7226, 1010, 7225, 81]) (hs := [[0, 0, 7038, 0, 0, 0], [0, 0], [0, 0, 0], [0, 0, 0, 0], [0, 0, 0], [0, 0], [0, 0, 0], [0, 0, 0, 7026, 0], [0, 0], [0], [0, 0, 0], [0, 0], [0, 0, 0], [0, 0], [0, 0], [0, 0], [0, 0, 0, 0], [0, 0, 5236, 0], [0, 0], [0, 5237, 0, 0, 0, 0, 0, 7007, 0, 0, 0, 0], [0, 0], [0, 5237, 0, 0, 0, 7227, 0, 0, 0, 7038, 0, 0], [0, 0], [0], [0], [0, 0], [0, 0, 0], [0, 0, 0], [0, 0], [0, 5237, 0, 0, 0, 0, 0, 0, 7038, 7007, 0, 0], [0, 0], [0], [0, 0, 0], [0, 5237, 0, 0, 0, 0, 0], [0, 0]]) (by decide +kernel) (by decide +kernel)
theorem ck_Model_lifted : pm_mOK md_Model_lifted ∧ pm_code pm_Ms md_Model_lifted := pm_ck_ok (h := [7229, 1010, 7228, 0]) (hs := [[0, 0, 7010, 0, 0, 0, 7010, 0, 0, 0, 7010, 0, 0, 0, 0], [0, 0], [0], [0, 0, 0, 0], [0, 0], [0], [0, 0, 0, 0], [0, 0], [0], [0, 0, 0, 0, 0, 0, 0], [0, 0], [0], [0, 0]]) (by decide +kernel) (by decide +kernel)
theorem ck_Model_finds : pm_mOK md_Model_finds ∧ pm_code pm_Ms md_Model_finds := pm_ck_ok (h := [7233, 1010, 7231, 7232]) (hs := [[0, 0, 5201, 0, 0, 7034, 0], [0, 6160, 0], [0, 0], [0, 0, 5229, 0, 0, 7038, 0, 0], [0, 0], [0], [0, 0, 0, 5229, 0, 0, 0, 7038, 0, 0], [0, 0], [0], [0, 0, 0, 0, 5229, 0, 0]]) (by decide +kernel) (by decide +kernel)
theorem ck_Model_image : pm_mOK md_Model_image ∧ pm_code pm_Ms md_Model_image := pm_ck_ok (h := [7237, 1010, 7235, 7236]) (hs := [[0, 0, 5201, 0, 0, 5204, 0, 0], [0, 0, 0], [0, 5203, 0, 0, 5202, 0, 0, 0, 0, 0], [0, 5202, 0, 0, 0]]) (by decide +kernel) (by decide +kernel)
theorem ck_Model_restore : pm_mOK md_Model_restore ∧ pm_code pm_Ms md_Model_restore := pm_ck_ok (h := [8001, 1010, 7239, 8000]) (hs := [[0, 0, 5201, 0, 5204, 0], [0, 0], [0, 0], [0, 0, 0], [0, 5202, 0, 0, 5203, 0, 0, 0, 0, 0], [0, 5202, 0, 0, 0]]) (by decide +kernel) (by decide +kernel)
theorem ck_Model_count : pm_mOK md_Model_count ∧ pm_code pm_Ms md_Model_count := pm_ck_ok (h := [8005, 1010, 8003, 8004]) (hs := [[0, 0, 5201, 0, 0, 0, 0], [0, 5202, 0, 0, 0], [0, 5202, 0, 0, 0], [0, 5202, 0, 0, 0], [0, 0], [0, 0, 5202, 0, 0, 0], [0, 0, 5202, 0, 0, 0, 0, 0, 0, 0, 0], [0, 0], [0, 5202, 0, 0, 0], [0, 0], [0, 0, 5202, 0, 0, 0], [0, 0, 5206, 0, 0, 0, 0, 0, 0], [0, 0], [0, 0], [0, 0, 5202, 0, 0, 0], [0, 0, 0, 6187, 0, 0, 0, 0], [0, 0], [0, 0]]) (by decide +kernel) (by decide +kernel)
end
section
/-! printed by wip/whole/gencode.py: the blocks are the bytes, the words are in the tables -/
theorem ck_Model_keep : pm_mOK md_Model_keep ∧ pm_code pm_Ms md_Model_keep := pm_ck_ok (h := [8009, 1010, 8007, 8008]) (hs := [[0, 0, 5201, 0, 0, 0, 6142, 0], [0, 0, 0, 6142, 0], [0, 0, 0], [0, 0, 6156, 0], [0, 0], [0, 6011, 0, 0, 0, 0, 0, 0], [0, 6012, 0, 0, 0, 6187, 0, 0, 6013, 0, 0, 0, 8010, 0], [0, 0]]) (by decide +kernel) (by decide +kernel)
theorem ck_Model_failureOf : pm_mOK md_Model_failureOf ∧ pm_code pm_Ms md_Model_failureOf := pm_ck_ok (h := [8013, 1010, 8012, 82]) (hs := [[0, 5202, 0, 0, 0, 0, 0], [0, 0], [0, 0, 5202, 0, 0, 0, 0, 0, 0, 0, 0], [0, 5202, 0, 0, 0, 0, 0, 0], [0, 0], [0], [0], [0, 0]]) (by decide +kernel) (by decide +kernel)
theorem ck_Model_row : pm_mOK md_Model_row ∧ pm_code pm_Ms md_Model_row := pm_ck_ok (h := [8017, 1010, 8015, 8016]) (hs := [[0, 0, 5201, 0, 0, 0, 6142, 0], [0, 0, 0, 6142, 0], [0, 0, 0], [0, 0], [0, 0], [0, 0], [0, 6011, 0, 0, 0, 0, 6014, 0, 0, 0, 0, 6015, 0, 0, 0, 0, 0], [0, 0, 0], [0, 6016, 0, 0, 0, 0, 0, 0, 0, 0, 0], [0, 0]]) (by decide +kernel) (by decide +kernel)
theorem ck_Model_put : pm_mOK md_Model_put ∧ pm_code pm_Ms md_Model_put := pm_ck_ok (h := [8021, 1010, 8019, 8020]) (hs := [[0, 0, 5201, 0, 0, 8022, 0, 0, 0], [0, 0], [0, 0, 0, 6015, 0, 0, 0, 0, 6142, 0], [0, 0], [0, 6016, 0, 0, 0, 0, 0, 0, 0, 6014, 0, 0, 8026, 0, 0, 0]]) (by decide +kernel) (by decide +kernel)
theorem ck_Model_wrongRow : pm_mOK md_Model_wrongRow ∧ pm_code pm_Ms md_Model_wrongRow := pm_ck_ok (h := [8025, 1010, 8024, 83]) (hs := [[0, 0, 0, 6142, 0], [0, 0], [0, 6011, 0, 0, 0], [0, 0], [0, 6011, 0, 0, 0, 0], [0, 0], [0], [0]]) (by decide +kernel) (by decide +kernel)
theorem ck_Model_narrowed : pm_mOK md_Model_narrowed ∧ pm_code pm_Ms md_Model_narrowed := pm_ck_ok (h := [8028, 1010, 8027, 0]) (hs := [[0, 0], [0, 0, 0, 0], [0, 0, 0], [0, 0, 0, 0], [0, 0], [0]]) (by decide +kernel) (by decide +kernel)
theorem ck_Model_element : pm_mOK md_Model_element ∧ pm_code pm_Ms md_Model_element := pm_ck_ok (h := [8032, 1010, 8030, 8031]) (hs := [[0, 0, 8022, 0, 0, 0, 0, 0], [0, 0], [0, 0], [0, 0, 0, 6015, 0, 0, 0, 0, 6142, 0], [0, 0], [0], [5201, 0, 5201, 0], [0, 0], [0, 6016, 0, 0, 0, 0, 0, 0], [0]]) (by decide +kernel) (by decide +kernel)
theorem ck_Model_copy : pm_mOK md_Model_copy ∧ pm_code pm_Ms md_Model_copy := pm_ck_ok (h := [8036, 1010, 8034, 8035]) (hs := [[0, 0, 5201, 0, 0, 0, 6142, 0], [0, 0, 0, 6142, 0], [0, 0], [0, 6011, 0, 0, 0], [0, 6011, 0, 0, 0], [0, 0], [0, 6011, 0, 0, 0, 0], [0, 6011, 0, 0, 0, 0], [0, 6014, 0, 0, 0, 6014, 0, 0, 0], [0, 0], [0, 0], [0, 0], [0, 0], [0, 0, 6015, 0, 0, 0, 0, 0], [0, 0, 6015, 0, 0, 0, 0, 0], [0, 0], [0, 0], [0, 0, 0], [0, 6017, 0, 0, 6016, 0, 0, 0, 0, 0, 0, 0, 0, 0, 0, 0], [0, 0], [0, 0, 0], [0, 6016, 0, 0, 0, 0, 0, 0, 0, 0, 6017, 0, 0, 0, 0, 0], [0, 0]]) (by decide +kernel) (by decide +kernel)
theorem ck_Model_heft : pm_mOK md_Model_heft ∧ pm_code pm_Ms md_Model_heft := pm_ck_ok (h := [8040, 1010, 8038, 8039]) (hs := [[0, 0, 5201, 0, 0, 8041, 0, 0, 0], [0, 0], [0, 6012, 0, 0], [0]]) (by decide +kernel) (by decide +kernel)
theorem ck_Model_wrongShelf : pm_mOK md_Model_wrongShelf ∧ pm_code pm_Ms md_Model_wrongShelf := pm_ck_ok (h := [8044, 1010, 8043, 84]) (hs := [[0, 0, 0, 6142, 0], [0, 0], [0, 6011, 0, 0, 0], [0, 0], [0, 6011, 0, 0, 0, 0], [0, 0], [0], [0]]) (by decide +kernel) (by decide +kernel)
theorem ck_Model_toss : pm_mOK md_Model_toss ∧ pm_code pm_Ms md_Model_toss := pm_ck_ok (h := [8048, 1010, 8046, 8047]) (hs := [[0, 0, 5201, 0, 0, 8041, 0, 0, 0], [0, 0], [0, 6013, 0, 0], [0]]) (by decide +kernel) (by decide +kernel)
end
section
/-! printed by wip/whole/gencode.py: the law's blocks are its bytes -/
theorem ck_law_0 : pm_ckr code "QuestionDeskLaw" false pm_Ms cd_law 0 [[1022, 0, 1024, 0, 5195, 0, 5197, 0, 0, 0, 0, 0, 0], [0, 0, 0, 0, 0, 0], [0, 0, 0, 0, 0, 0], [0, 0, 0, 0, 0, 0, 0, 0, 0, 0, 0, 2095, 0, 0, 0, 0, 0, 0, 0, 0, 0, 0, 0, 6138, 0], [0, 0]] = true := by decide +kernel
theorem ck_law_5 : pm_ckr code "QuestionDeskLaw" false pm_Ms cd_law 5 [[0, 0, 0, 0, 0, 0, 0, 0, 0, 0, 0, 2102, 0, 0, 0, 0, 0, 0, 0, 0, 0, 0, 0, 6145, 0], [0, 0], [0, 0, 0, 0, 0, 0, 0, 0, 0, 0, 0, 2118, 0, 0, 0, 0, 0, 0, 0, 0, 0, 0, 0, 6152, 0], [0, 0], [0, 0, 0, 0, 0, 0, 0, 0, 0, 0, 0, 2130, 0, 0, 0, 0, 0, 0, 0, 0, 0, 0, 0, 6163, 0]] = true := by decide +kernel
theorem ck_law_10 : pm_ckr code "QuestionDeskLaw" false pm_Ms cd_law 10 [[0, 0], [0, 0, 0, 0, 0, 0, 0, 0, 0, 0, 0, 0, 0, 0, 0, 0, 2134, 0, 0, 0, 0, 0, 0, 0, 0, 0, 0, 0, 0, 0, 0, 0, 0, 6167, 0], [0, 0], [0, 0, 0, 0, 0, 0, 0, 0, 0, 0, 0, 0, 0, 0, 0, 0, 2142, 0, 0, 0, 0, 0, 0, 0, 0, 0, 0, 0, 0, 0, 0, 0, 0, 6175, 0], [0, 0]] = true := by decide +kernel
theorem ck_law_15 : pm_ckr code "QuestionDeskLaw" false pm_Ms cd_law 15 [[0, 0, 0, 0, 0, 0, 0, 0, 0, 0, 0, 2146, 0, 0, 0, 0, 0, 0, 0, 0, 0, 0, 0, 6179, 0], [0, 0], [0, 0, 0, 0, 0, 0, 0, 0, 0, 0, 0, 2150, 0, 0, 0, 0, 0, 0, 0, 0, 0, 0, 0, 6183, 0], [0, 0], [0, 0, 0, 0, 0, 0, 2158, 0, 0, 0, 0, 0, 0, 6191, 0]] = true := by decide +kernel
theorem ck_law_20 : pm_ckr code "QuestionDeskLaw" false pm_Ms cd_law 20 [[0, 0], [0, 0, 0, 0, 0, 0, 2207, 0, 0, 0, 0, 0, 0, 6227, 0], [0, 0], [0, 0, 0, 0, 0, 0, 0, 0, 0, 0, 0, 3031, 0, 0, 0, 0, 0, 0, 0, 0, 0, 0, 0, 7030, 0], [0, 0]] = true := by decide +kernel
end
section
/-! printed by wip/whole/gencode.py: the law's blocks are its bytes -/
theorem ck_law_25 : pm_ckr code "QuestionDeskLaw" false pm_Ms cd_law 25 [[0, 0, 0, 0, 0, 0, 0, 0, 0, 0, 0, 3116, 0, 0, 0, 0, 0, 0, 0, 0, 0, 0, 0, 6231, 0], [0, 0], [0, 0, 0, 0, 0, 0, 0, 0, 0, 0, 0, 3122, 0, 0, 0, 0, 0, 0, 0, 0, 0, 0, 0, 7018, 0], [0, 0], [0, 0, 0, 0, 0, 0, 3127, 0, 0, 0, 0, 0, 0, 7078, 0]] = true := by decide +kernel
theorem ck_law_30 : pm_ckr code "QuestionDeskLaw" false pm_Ms cd_law 30 [[0, 0], [0, 0, 0, 0, 0, 0, 0, 0, 0, 0, 0, 0, 0, 0, 0, 0, 3131, 0, 0, 0, 0, 0, 0, 0, 0, 0, 0, 0, 0, 0, 0, 0, 0, 7082, 0], [0, 0], [0, 0, 0, 0, 0, 0, 0, 0, 0, 0, 0, 3139, 0, 0, 0, 0, 0, 0, 0, 0, 0, 0, 0, 7094, 0], [0, 0]] = true := by decide +kernel
theorem ck_law_35 : pm_ckr code "QuestionDeskLaw" false pm_Ms cd_law 35 [[0, 0, 0, 0, 0, 0, 0, 0, 0, 0, 0, 0, 0, 0, 0, 0, 3143, 0, 0, 0, 0, 0, 0, 0, 0, 0, 0, 0, 0, 0, 0, 0, 0, 7098, 0], [0, 0], [0, 0, 0, 0, 0, 0, 0, 0, 0, 0, 0, 3151, 0, 0, 0, 0, 0, 0, 0, 0, 0, 0, 0, 7102, 0], [0, 0], [0, 0, 0, 0, 0, 0, 3163, 0, 0, 0, 0, 0, 0, 7106, 0]] = true := by decide +kernel
theorem ck_law_40 : pm_ckr code "QuestionDeskLaw" false pm_Ms cd_law 40 [[0, 0], [0, 0, 0, 0, 0, 0, 0, 0, 0, 0, 0, 0], [0, 0], [0], [3180, 0, 0, 0, 0, 0, 0, 0, 0, 0, 0, 0, 0]] = true := by decide +kernel
theorem ck_law_45 : pm_ckr code "QuestionDeskLaw" false pm_Ms cd_law 45 [[0, 0], [0], [7110, 0], [0, 0], [0, 0, 0, 0, 0, 0, 0]] = true := by decide +kernel
end
section
/-! printed by wip/whole/gencode.py: the law's blocks are its bytes -/
theorem ck_law_50 : pm_ckr code "QuestionDeskLaw" false pm_Ms cd_law 50 [[0, 0], [0], [3211, 0, 0, 0, 0, 0, 0, 0], [0, 0], [0]] = true := by decide +kernel
theorem ck_law_55 : pm_ckr code "QuestionDeskLaw" false pm_Ms cd_law 55 [[7122, 0], [0, 0], [0, 0, 0, 0, 0, 0, 0, 0, 0, 0, 0, 0], [0, 0], [0]] = true := by decide +kernel
theorem ck_law_60 : pm_ckr code "QuestionDeskLaw" false pm_Ms cd_law 60 [[3239, 0, 0, 0, 0, 0, 0, 0, 0, 0, 0, 0, 0], [0, 0], [0], [7134, 0], [0, 0]] = true := by decide +kernel
theorem ck_law_65 : pm_ckr code "QuestionDeskLaw" false pm_Ms cd_law 65 [[0, 4025, 0, 7138, 0], [0, 0], [0, 0, 0, 0, 0, 0, 4033, 0, 0, 0, 0, 0, 0, 7142, 0], [0, 0], [0, 0, 0, 0, 0, 0, 4042, 0, 0, 0, 0, 0, 0, 7154, 0]] = true := by decide +kernel
theorem ck_law_70 : pm_ckr code "QuestionDeskLaw" false pm_Ms cd_law 70 [[0, 0], [0, 0, 0, 0, 0, 0, 0, 0, 0, 0, 0, 4054, 0, 0, 0, 0, 0, 0, 0, 0, 0, 0, 0, 7166, 0], [0, 0], [0, 0, 0, 0, 0, 0, 0, 0, 0, 0, 0, 4062, 0, 0, 0, 0, 0, 0, 0, 0, 0, 0, 0, 7170, 0], [0, 0]] = true := by decide +kernel
end
section
/-! printed by wip/whole/gencode.py: the law's blocks are its bytes -/
theorem ck_law_75 : pm_ckr code "QuestionDeskLaw" false pm_Ms cd_law 75 [[0, 0, 0, 0, 0, 0, 0, 0, 0, 0, 0, 4086, 0, 0, 0, 0, 0, 0, 0, 0, 0, 0, 0, 7177, 0], [0, 0], [0, 0, 0, 0, 0, 0, 0, 0, 0, 0, 0, 4100, 0, 0, 0, 0, 0, 0, 0, 0, 0, 0, 0, 7182, 0, 0], [0, 0], [0, 0, 0, 0, 0, 0, 0, 0, 0, 0, 0, 4117, 0, 0, 0, 0, 0, 0, 0, 0, 0, 0, 0, 7191, 0]] = true := by decide +kernel
theorem ck_law_80 : pm_ckr code "QuestionDeskLaw" false pm_Ms cd_law 80 [[0, 0], [0, 0, 0, 0, 0, 0, 0, 0, 0, 0, 0, 0, 0, 0, 0, 0, 4125, 0, 0, 0, 0, 0, 0, 0, 0, 0, 0, 0, 0, 0, 0, 0, 0, 7195, 0], [0, 0], [0, 0, 0, 0, 0, 0, 0, 0, 0, 0, 0, 0, 0, 0, 0, 0, 4154, 0, 0, 0, 0, 0, 0, 0, 0, 0, 0, 0, 0, 0, 0, 0, 0, 7199, 0], [0, 0]] = true := by decide +kernel
theorem ck_law_85 : pm_ckr code "QuestionDeskLaw" false pm_Ms cd_law 85 [[0, 0, 0, 0, 0, 0, 4163, 0, 0, 0, 0, 0, 0, 7203, 0], [0, 0], [0, 0, 0, 0, 0, 0, 4175, 0, 0, 0, 0, 0, 0, 7211, 0], [0, 0], [0, 0, 0, 0, 0, 0, 0, 0, 0, 0, 0, 0, 0, 0, 0, 0, 0, 0, 0, 0, 0, 0]] = true := by decide +kernel
theorem ck_law_90 : pm_ckr code "QuestionDeskLaw" false pm_Ms cd_law 90 [[0, 0], [0], [4186, 0, 0, 0, 0, 0, 0, 0, 0, 0, 0, 0, 0, 0, 0, 0, 0, 0, 0, 0, 0, 0, 0], [0, 0], [0]] = true := by decide +kernel
theorem ck_law_95 : pm_ckr code "QuestionDeskLaw" false pm_Ms cd_law 95 [[7215, 0], [0, 0], [0, 0, 0, 0, 0, 0, 0, 0, 0, 0, 0, 4236, 0, 0, 0, 0, 0, 0, 0, 0, 0, 0, 0, 7230, 0], [0, 0], [0, 5000, 0, 7234, 0]] = true := by decide +kernel
end
section
/-! printed by wip/whole/gencode.py: the law's blocks are its bytes -/
theorem ck_law_100 : pm_ckr code "QuestionDeskLaw" false pm_Ms cd_law 100 [[0, 0], [0, 5009, 0, 7238, 0], [0, 0], [0, 0, 0, 0, 0, 0, 5013, 0, 0, 0, 0, 0, 0, 8002, 0], [0, 0]] = true := by decide +kernel
theorem ck_law_105 : pm_ckr code "QuestionDeskLaw" false pm_Ms cd_law 105 [[0, 0, 0, 0, 0, 0, 0, 0, 0, 0, 0, 0, 0, 0, 0, 0, 5030, 0, 0, 0, 0, 0, 0, 0, 0, 0, 0, 0, 0, 0, 0, 0, 0, 8006, 0], [0, 0], [0, 0, 0, 0, 0, 0, 0, 0, 0, 0, 0, 0, 0, 0, 0, 0, 5035, 0, 0, 0, 0, 0, 0, 0, 0, 0, 0, 0, 0, 0, 0, 0, 0, 8014, 0], [0, 0], [0, 0, 0, 0, 0, 0, 0, 0, 0, 0, 0, 0, 0, 0, 0, 0, 5044, 0, 0, 0, 0, 0, 0, 0, 0, 0, 0, 0, 0, 0, 0, 0, 0, 8018, 0]] = true := by decide +kernel
theorem ck_law_110 : pm_ckr code "QuestionDeskLaw" false pm_Ms cd_law 110 [[0, 0], [0, 0, 0, 0, 0, 0, 0, 0, 0, 0, 0, 0, 5167, 0, 0, 0, 0, 0, 0, 0, 0, 0, 0, 0, 0, 8029, 0, 0, 6134, 0, 0], [0, 0], [0, 0], [0, 0, 0, 0, 0, 0]] = true := by decide +kernel
theorem ck_law_115 : pm_ckr code "QuestionDeskLaw" false pm_Ms cd_law 115 [[0, 0], [0], [0, 0, 0, 0, 0, 0, 0, 0, 0, 0, 0, 0, 0, 0, 0, 0, 0, 0, 0, 0, 0, 0, 0, 0, 0, 0, 5056, 0, 0, 0, 0, 0, 0, 0, 0, 0, 0, 0, 0, 0, 0, 0, 0, 0, 0, 0, 0, 0, 0, 0, 0, 0, 0, 8033, 0], [0, 0], [0, 0, 0, 0, 0, 0, 5065, 0, 0, 0, 0, 0, 0, 8037, 0]] = true := by decide +kernel
theorem ck_law_120 : pm_ckr code "QuestionDeskLaw" false pm_Ms cd_law 120 [[0, 0], [0, 0, 0, 0, 0, 0, 5073, 0, 0, 0, 0, 0, 0, 8045, 0], [0, 0], [0, 0], [0, 0]] = true := by decide +kernel
end
section
/-! printed by wip/whole/gencode.py: the law's blocks are its bytes -/
end
section
/-! printed by wip/whole/gencode.py: all of the law's blocks -/
theorem ck_law : ∀ (b : Nat) (q : Nat × List Instr), cd_law[b]? = some q → ∃ hs, pm_bk code "QuestionDeskLaw" false pm_Ms cd_law b q.1 q.2 hs = true := by
  intro b q hq
  have hl : b < 125 := (List.getElem?_eq_some_iff.mp hq).1
  by_cases h0 : b < 5
  · exact pm_ckr_at ck_law_0 hq (by omega) (by show b < 0 + 5; omega)
  by_cases h5 : b < 10
  · exact pm_ckr_at ck_law_5 hq (by omega) (by show b < 5 + 5; omega)
  by_cases h10 : b < 15
  · exact pm_ckr_at ck_law_10 hq (by omega) (by show b < 10 + 5; omega)
  by_cases h15 : b < 20
  · exact pm_ckr_at ck_law_15 hq (by omega) (by show b < 15 + 5; omega)
  by_cases h20 : b < 25
  · exact pm_ckr_at ck_law_20 hq (by omega) (by show b < 20 + 5; omega)
  by_cases h25 : b < 30
  · exact pm_ckr_at ck_law_25 hq (by omega) (by show b < 25 + 5; omega)
  by_cases h30 : b < 35
  · exact pm_ckr_at ck_law_30 hq (by omega) (by show b < 30 + 5; omega)
  by_cases h35 : b < 40
  · exact pm_ckr_at ck_law_35 hq (by omega) (by show b < 35 + 5; omega)
  by_cases h40 : b < 45
  · exact pm_ckr_at ck_law_40 hq (by omega) (by show b < 40 + 5; omega)
  by_cases h45 : b < 50
  · exact pm_ckr_at ck_law_45 hq (by omega) (by show b < 45 + 5; omega)
  by_cases h50 : b < 55
  · exact pm_ckr_at ck_law_50 hq (by omega) (by show b < 50 + 5; omega)
  by_cases h55 : b < 60
  · exact pm_ckr_at ck_law_55 hq (by omega) (by show b < 55 + 5; omega)
  by_cases h60 : b < 65
  · exact pm_ckr_at ck_law_60 hq (by omega) (by show b < 60 + 5; omega)
  by_cases h65 : b < 70
  · exact pm_ckr_at ck_law_65 hq (by omega) (by show b < 65 + 5; omega)
  by_cases h70 : b < 75
  · exact pm_ckr_at ck_law_70 hq (by omega) (by show b < 70 + 5; omega)
  by_cases h75 : b < 80
  · exact pm_ckr_at ck_law_75 hq (by omega) (by show b < 75 + 5; omega)
  by_cases h80 : b < 85
  · exact pm_ckr_at ck_law_80 hq (by omega) (by show b < 80 + 5; omega)
  by_cases h85 : b < 90
  · exact pm_ckr_at ck_law_85 hq (by omega) (by show b < 85 + 5; omega)
  by_cases h90 : b < 95
  · exact pm_ckr_at ck_law_90 hq (by omega) (by show b < 90 + 5; omega)
  by_cases h95 : b < 100
  · exact pm_ckr_at ck_law_95 hq (by omega) (by show b < 95 + 5; omega)
  by_cases h100 : b < 105
  · exact pm_ckr_at ck_law_100 hq (by omega) (by show b < 100 + 5; omega)
  by_cases h105 : b < 110
  · exact pm_ckr_at ck_law_105 hq (by omega) (by show b < 105 + 5; omega)
  by_cases h110 : b < 115
  · exact pm_ckr_at ck_law_110 hq (by omega) (by show b < 110 + 5; omega)
  by_cases h115 : b < 120
  · exact pm_ckr_at ck_law_115 hq (by omega) (by show b < 115 + 5; omega)
  by_cases h120 : b < 125
  · exact pm_ckr_at ck_law_120 hq (by omega) (by show b < 120 + 5; omega)
  · omega
end
section
/-! printed by wip/whole/gencode.py: all methods are checked, but those two that catch -/
def pm_i_Desk_toss : Nat := 162
def pm_i_Law_element : Nat := 264
def pm_skip (k : Nat) : Bool := k == pm_i_Desk_toss || k == pm_i_Law_element
def pm_idx (skip : Nat → Bool) (Q : pm_M → Prop) : Nat → List pm_M → Prop
  | _, [] => True
  | k, m :: r => (skip k = true ∨ Q m) ∧ pm_idx skip Q (k + 1) r
theorem pm_idx_at {skip : Nat → Bool} {Q : pm_M → Prop} : ∀ {r : List pm_M} {k : Nat}, pm_idx skip Q k r → ∀ (j : Nat) (m : pm_M), r[j]? = some m → skip (k + j) = false → Q m := by
  intro r
  induction r with
  | nil => intro k _ j m h; simp at h
  | cons a r ih =>
    intro k h j m hj hs
    cases j with
    | zero =>
      simp only [List.getElem?_cons_zero, Option.some.injEq] at hj
      subst hj
      rcases h.1 with z | z
      · rw [Nat.add_zero] at hs; rw [hs] at z; cases z
      · exact z
    | succ j =>
      rw [List.getElem?_cons_succ] at hj
      exact ih h.2 j m hj (by rw [show k + 1 + j = k + (j + 1) by omega]; exact hs)
def pm_Ms_0 : List pm_M := [md_Integer_signum, md_Integer_bitCount, md_Arrays_fill, md_Arrays_copyOf, md_Chamber_init, md_Chamber_memberAt, md_Chamber_treeAt, md_Chamber_takeOver, md_Chamber_allVoices, md_Chamber_allQuestions, md_Chamber_allWeight, md_Hall_init, md_Hall_seat, md_Hall_settle, md_Hall_settleQuestion, md_Hall_votesFor, md_Hall_drawLines, md_Hall_voteOf, md_Hall_sideOfBought, md_Hall_chairsOf, md_Hall_better, md_Hall_margin, md_Hall_beats, md_Hall_settleChoice, md_Hall_settleEnd, md_Hall_voteIn, md_Hall_makeAll, md_Hall_rememberWinners, md_Hall_firstOtherWinner, md_Hall_killerBits, md_Hall_putAgainst, md_Hall_shieldBits, md_Hall_seatOthers, md_Laws_init, md_Laws_assemble, md_Laws_reckonEnds, md_Laws_like, md_Laws_firstBreach, md_Laws_missesBest, md_Laws_isBrokenByOne]
theorem pm_ckl_0 : pm_idx pm_skip (fun m => pm_mOK m ∧ pm_code pm_Ms m) 0 pm_Ms_0 := ⟨Or.inr ck_Integer_signum, ⟨Or.inr ck_Integer_bitCount, ⟨Or.inr ck_Arrays_fill, ⟨Or.inr ck_Arrays_copyOf, ⟨Or.inr ck_Chamber_init, ⟨Or.inr ck_Chamber_memberAt, ⟨Or.inr ck_Chamber_treeAt, ⟨Or.inr ck_Chamber_takeOver, ⟨Or.inr ck_Chamber_allVoices, ⟨Or.inr ck_Chamber_allQuestions, ⟨Or.inr ck_Chamber_allWeight, ⟨Or.inr ck_Hall_init, ⟨Or.inr ck_Hall_seat, ⟨Or.inr ck_Hall_settle, ⟨Or.inr ck_Hall_settleQuestion, ⟨Or.inr ck_Hall_votesFor, ⟨Or.inr ck_Hall_drawLines, ⟨Or.inr ck_Hall_voteOf, ⟨Or.inr ck_Hall_sideOfBought, ⟨Or.inr ck_Hall_chairsOf, ⟨Or.inr ck_Hall_better, ⟨Or.inr ck_Hall_margin, ⟨Or.inr ck_Hall_beats, ⟨Or.inr ck_Hall_settleChoice, ⟨Or.inr ck_Hall_settleEnd, ⟨Or.inr ck_Hall_voteIn, ⟨Or.inr ck_Hall_makeAll, ⟨Or.inr ck_Hall_rememberWinners, ⟨Or.inr ck_Hall_firstOtherWinner, ⟨Or.inr ck_Hall_killerBits, ⟨Or.inr ck_Hall_putAgainst, ⟨Or.inr ck_Hall_shieldBits, ⟨Or.inr ck_Hall_seatOthers, ⟨Or.inr ck_Laws_init, ⟨Or.inr ck_Laws_assemble, ⟨Or.inr ck_Laws_reckonEnds, ⟨Or.inr ck_Laws_like, ⟨Or.inr ck_Laws_firstBreach, ⟨Or.inr ck_Laws_missesBest, ⟨Or.inr ck_Laws_isBrokenByOne, trivial⟩⟩⟩⟩⟩⟩⟩⟩⟩⟩⟩⟩⟩⟩⟩⟩⟩⟩⟩⟩⟩⟩⟩⟩⟩⟩⟩⟩⟩⟩⟩⟩⟩⟩⟩⟩⟩⟩⟩⟩
def pm_Ms_1 : List pm_M := [md_Laws_fallsWhenLifted, md_Laws_gainsByLying, md_Member_init, md_Member_begin, md_Member_weight, md_Member_takeOver, md_Member_tellWishes, md_Member_ofParty, md_Member_leaning, md_Orders_init, md_Orders_weigh, md_Orders_lineUp, md_Orders_comesOf, md_Orders_comesDeep, md_Orders_comesPlain, md_Orders_reachBits, md_Orders_peakBits, md_Orders_peakOf, md_Orders_isBeatenWhole, md_Orders_topBits, md_Orders_reachedFrom, md_Orders_firstFor, md_Orders_spread, md_Orders_digits, md_Orders_nextRow, md_Orders_change, md_Orders_beatsAll, md_Orders_uncoveredBits, md_Orders_ringAt, md_Orders_isRing, md_Orders_byRanks, md_Orders_greatestOf, md_Plots_init, md_Plots_plainOnes, md_Plots_fewestOf, md_Plots_makeOfKind, md_Plots_firstGaining, md_Plots_chanceOf, md_Plots_seatDoubtful, md_Plots_suppose]
theorem pm_ckl_1 : pm_idx pm_skip (fun m => pm_mOK m ∧ pm_code pm_Ms m) 40 pm_Ms_1 := ⟨Or.inr ck_Laws_fallsWhenLifted, ⟨Or.inr ck_Laws_gainsByLying, ⟨Or.inr ck_Member_init, ⟨Or.inr ck_Member_begin, ⟨Or.inr ck_Member_weight, ⟨Or.inr ck_Member_takeOver, ⟨Or.inr ck_Member_tellWishes, ⟨Or.inr ck_Member_ofParty, ⟨Or.inr ck_Member_leaning, ⟨Or.inr ck_Orders_init, ⟨Or.inr ck_Orders_weigh, ⟨Or.inr ck_Orders_lineUp, ⟨Or.inr ck_Orders_comesOf, ⟨Or.inr ck_Orders_comesDeep, ⟨Or.inr ck_Orders_comesPlain, ⟨Or.inr ck_Orders_reachBits, ⟨Or.inr ck_Orders_peakBits, ⟨Or.inr ck_Orders_peakOf, ⟨Or.inr ck_Orders_isBeatenWhole, ⟨Or.inr ck_Orders_topBits, ⟨Or.inr ck_Orders_reachedFrom, ⟨Or.inr ck_Orders_firstFor, ⟨Or.inr ck_Orders_spread, ⟨Or.inr ck_Orders_digits, ⟨Or.inr ck_Orders_nextRow, ⟨Or.inr ck_Orders_change, ⟨Or.inr ck_Orders_beatsAll, ⟨Or.inr ck_Orders_uncoveredBits, ⟨Or.inr ck_Orders_ringAt, ⟨Or.inr ck_Orders_isRing, ⟨Or.inr ck_Orders_byRanks, ⟨Or.inr ck_Orders_greatestOf, ⟨Or.inr ck_Plots_init, ⟨Or.inr ck_Plots_plainOnes, ⟨Or.inr ck_Plots_fewestOf, ⟨Or.inr ck_Plots_makeOfKind, ⟨Or.inr ck_Plots_firstGaining, ⟨Or.inr ck_Plots_chanceOf, ⟨Or.inr ck_Plots_seatDoubtful, ⟨Or.inr ck_Plots_suppose, trivial⟩⟩⟩⟩⟩⟩⟩⟩⟩⟩⟩⟩⟩⟩⟩⟩⟩⟩⟩⟩⟩⟩⟩⟩⟩⟩⟩⟩⟩⟩⟩⟩⟩⟩⟩⟩⟩⟩⟩⟩
def pm_Ms_2 : List pm_M := [md_Plots_allOnes, md_Plots_findLie, md_Plots_mattering, md_Plots_there, md_Plots_leastWish, md_Plots_lieDigits, md_Plots_beatsIn, md_Reader_init, md_Reader_faultOf, md_Reader_readPart, md_Reader_readQuestion, md_Reader_addNode, md_Reader_readSign, md_Reader_readChoice, md_Reader_readPair, md_Reader_readEnd, md_Reader_treeRead, md_Shelf_init, md_Shelf_bytesRefusal, md_Shelf_refusalUnless, md_Shelf_holdsWishes, md_Shelf_beginRow, md_Shelf_rowRefusal, md_Shelf_lowestBits, md_Shelf_hasPlaces, md_Shelf_memberRefusal, md_Tree_init, md_Tree_nodeOf, md_Tree_questionsAhead, md_Desk_init, md_Desk_set, md_Desk_within, md_Desk_member, md_Desk_fits, md_Desk_bought, md_Desk_isEnd, md_Desk_becomes, md_Desk_wish, md_Desk_changeWish, md_Desk_doubted]
theorem pm_ckl_2 : pm_idx pm_skip (fun m => pm_mOK m ∧ pm_code pm_Ms m) 80 pm_Ms_2 := ⟨Or.inr ck_Plots_allOnes, ⟨Or.inr ck_Plots_findLie, ⟨Or.inr ck_Plots_mattering, ⟨Or.inr ck_Plots_there, ⟨Or.inr ck_Plots_leastWish, ⟨Or.inr ck_Plots_lieDigits, ⟨Or.inr ck_Plots_beatsIn, ⟨Or.inr ck_Reader_init, ⟨Or.inr ck_Reader_faultOf, ⟨Or.inr ck_Reader_readPart, ⟨Or.inr ck_Reader_readQuestion, ⟨Or.inr ck_Reader_addNode, ⟨Or.inr ck_Reader_readSign, ⟨Or.inr ck_Reader_readChoice, ⟨Or.inr ck_Reader_readPair, ⟨Or.inr ck_Reader_readEnd, ⟨Or.inr ck_Reader_treeRead, ⟨Or.inr ck_Shelf_init, ⟨Or.inr ck_Shelf_bytesRefusal, ⟨Or.inr ck_Shelf_refusalUnless, ⟨Or.inr ck_Shelf_holdsWishes, ⟨Or.inr ck_Shelf_beginRow, ⟨Or.inr ck_Shelf_rowRefusal, ⟨Or.inr ck_Shelf_lowestBits, ⟨Or.inr ck_Shelf_hasPlaces, ⟨Or.inr ck_Shelf_memberRefusal, ⟨Or.inr ck_Tree_init, ⟨Or.inr ck_Tree_nodeOf, ⟨Or.inr ck_Tree_questionsAhead, ⟨Or.inr ck_Desk_init, ⟨Or.inr ck_Desk_set, ⟨Or.inr ck_Desk_within, ⟨Or.inr ck_Desk_member, ⟨Or.inr ck_Desk_fits, ⟨Or.inr ck_Desk_bought, ⟨Or.inr ck_Desk_isEnd, ⟨Or.inr ck_Desk_becomes, ⟨Or.inr ck_Desk_wish, ⟨Or.inr ck_Desk_changeWish, ⟨Or.inr ck_Desk_doubted, trivial⟩⟩⟩⟩⟩⟩⟩⟩⟩⟩⟩⟩⟩⟩⟩⟩⟩⟩⟩⟩⟩⟩⟩⟩⟩⟩⟩⟩⟩⟩⟩⟩⟩⟩⟩⟩⟩⟩⟩⟩
def pm_Ms_3 : List pm_M := [md_Desk_sure, md_Desk_about, md_Desk_fault, md_Desk_shelfAt, md_Desk_tree, md_Desk_of, md_Desk_beat, md_Desk_stands, md_Desk_run, md_Desk_ask, md_Desk_wonBy, md_Desk_why, md_Desk_ifAll, md_Desk_comesIfAll, md_Desk_parts, md_Desk_order, md_Desk_weighOrders, md_Desk_reach, md_Desk_first, md_Desk_isThere, md_Desk_best, md_Desk_top, md_Desk_killers, md_Desk_shields, md_Desk_tell, md_Desk_falseVote, md_Desk_chance, md_Desk_boughtOff, md_Desk_bestLie, md_Desk_surely, md_Desk_ring, md_Desk_usual, md_Desk_breach, md_Desk_finds, md_Desk_image, md_Desk_restore, md_Desk_count, md_Desk_keep, md_Desk_row, md_Desk_put]
theorem pm_ckl_3 : pm_idx pm_skip (fun m => pm_mOK m ∧ pm_code pm_Ms m) 120 pm_Ms_3 := ⟨Or.inr ck_Desk_sure, ⟨Or.inr ck_Desk_about, ⟨Or.inr ck_Desk_fault, ⟨Or.inr ck_Desk_shelfAt, ⟨Or.inr ck_Desk_tree, ⟨Or.inr ck_Desk_of, ⟨Or.inr ck_Desk_beat, ⟨Or.inr ck_Desk_stands, ⟨Or.inr ck_Desk_run, ⟨Or.inr ck_Desk_ask, ⟨Or.inr ck_Desk_wonBy, ⟨Or.inr ck_Desk_why, ⟨Or.inr ck_Desk_ifAll, ⟨Or.inr ck_Desk_comesIfAll, ⟨Or.inr ck_Desk_parts, ⟨Or.inr ck_Desk_order, ⟨Or.inr ck_Desk_weighOrders, ⟨Or.inr ck_Desk_reach, ⟨Or.inr ck_Desk_first, ⟨Or.inr ck_Desk_isThere, ⟨Or.inr ck_Desk_best, ⟨Or.inr ck_Desk_top, ⟨Or.inr ck_Desk_killers, ⟨Or.inr ck_Desk_shields, ⟨Or.inr ck_Desk_tell, ⟨Or.inr ck_Desk_falseVote, ⟨Or.inr ck_Desk_chance, ⟨Or.inr ck_Desk_boughtOff, ⟨Or.inr ck_Desk_bestLie, ⟨Or.inr ck_Desk_surely, ⟨Or.inr ck_Desk_ring, ⟨Or.inr ck_Desk_usual, ⟨Or.inr ck_Desk_breach, ⟨Or.inr ck_Desk_finds, ⟨Or.inr ck_Desk_image, ⟨Or.inr ck_Desk_restore, ⟨Or.inr ck_Desk_count, ⟨Or.inr ck_Desk_keep, ⟨Or.inr ck_Desk_row, ⟨Or.inr ck_Desk_put, trivial⟩⟩⟩⟩⟩⟩⟩⟩⟩⟩⟩⟩⟩⟩⟩⟩⟩⟩⟩⟩⟩⟩⟩⟩⟩⟩⟩⟩⟩⟩⟩⟩⟩⟩⟩⟩⟩⟩⟩⟩
def pm_Ms_4 : List pm_M := [md_Desk_copy, md_Desk_heft, md_Desk_toss, md_Model_init, md_Model_thrown, md_Model_set, md_Model_in, md_Model_member, md_Model_isNumber, md_Model_bought, md_Model_isMember, md_Model_isEnd, md_Model_becomes, md_Model_wish, md_Model_change, md_Model_doubted, md_Model_sure, md_Model_about, md_Model_heftOf, md_Model_fault, md_Model_lacks, md_Model_faultOf, md_Model_here, md_Model_begin, md_Model_readEnd, md_Model_take, md_Model_add, md_Model_part, md_Model_tree, md_Model_beat, md_Model_margin, md_Model_members, md_Model_wishOf, md_Model_placeIn, md_Model_liked, md_Model_voicesOf, md_Model_stands, md_Model_standing, md_Model_beats, md_Model_of]
theorem pm_ckl_4 : pm_idx pm_skip (fun m => pm_mOK m ∧ pm_code pm_Ms m) 160 pm_Ms_4 := ⟨Or.inr ck_Desk_copy, ⟨Or.inr ck_Desk_heft, ⟨Or.inl (by decide), ⟨Or.inr ck_Model_init, ⟨Or.inr ck_Model_thrown, ⟨Or.inr ck_Model_set, ⟨Or.inr ck_Model_in, ⟨Or.inr ck_Model_member, ⟨Or.inr ck_Model_isNumber, ⟨Or.inr ck_Model_bought, ⟨Or.inr ck_Model_isMember, ⟨Or.inr ck_Model_isEnd, ⟨Or.inr ck_Model_becomes, ⟨Or.inr ck_Model_wish, ⟨Or.inr ck_Model_change, ⟨Or.inr ck_Model_doubted, ⟨Or.inr ck_Model_sure, ⟨Or.inr ck_Model_about, ⟨Or.inr ck_Model_heftOf, ⟨Or.inr ck_Model_fault, ⟨Or.inr ck_Model_lacks, ⟨Or.inr ck_Model_faultOf, ⟨Or.inr ck_Model_here, ⟨Or.inr ck_Model_begin, ⟨Or.inr ck_Model_readEnd, ⟨Or.inr ck_Model_take, ⟨Or.inr ck_Model_add, ⟨Or.inr ck_Model_part, ⟨Or.inr ck_Model_tree, ⟨Or.inr ck_Model_beat, ⟨Or.inr ck_Model_margin, ⟨Or.inr ck_Model_members, ⟨Or.inr ck_Model_wishOf, ⟨Or.inr ck_Model_placeIn, ⟨Or.inr ck_Model_liked, ⟨Or.inr ck_Model_voicesOf, ⟨Or.inr ck_Model_stands, ⟨Or.inr ck_Model_standing, ⟨Or.inr ck_Model_beats, ⟨Or.inr ck_Model_of, trivial⟩⟩⟩⟩⟩⟩⟩⟩⟩⟩⟩⟩⟩⟩⟩⟩⟩⟩⟩⟩⟩⟩⟩⟩⟩⟩⟩⟩⟩⟩⟩⟩⟩⟩⟩⟩⟩⟩⟩⟩
def pm_Ms_5 : List pm_M := [md_Model_isTree, md_Model_endOf, md_Model_load, md_Model_settle, md_Model_settleQuestion, md_Model_voteOf, md_Model_kindOf, md_Model_sign, md_Model_partyOf, md_Model_partySign, md_Model_endFor, md_Model_run, md_Model_ask, md_Model_isQuestion, md_Model_nodeOf, md_Model_wonBy, md_Model_why, md_Model_ifAll, md_Model_parts, md_Model_order, md_Model_isThere, md_Model_orderEnds, md_Model_reach, md_Model_allOrders, md_Model_findOrder, md_Model_first, md_Model_best, md_Model_top, md_Model_reachedFrom, md_Model_isCovered, md_Model_killers, md_Model_isKiller, md_Model_against, md_Model_shields, md_Model_tell, md_Model_ones, md_Model_falseVote, md_Model_chance, md_Model_findUnsure, md_Model_boughtOff]
theorem pm_ckl_5 : pm_idx pm_skip (fun m => pm_mOK m ∧ pm_code pm_Ms m) 200 pm_Ms_5 := ⟨Or.inr ck_Model_isTree, ⟨Or.inr ck_Model_endOf, ⟨Or.inr ck_Model_load, ⟨Or.inr ck_Model_settle, ⟨Or.inr ck_Model_settleQuestion, ⟨Or.inr ck_Model_voteOf, ⟨Or.inr ck_Model_kindOf, ⟨Or.inr ck_Model_sign, ⟨Or.inr ck_Model_partyOf, ⟨Or.inr ck_Model_partySign, ⟨Or.inr ck_Model_endFor, ⟨Or.inr ck_Model_run, ⟨Or.inr ck_Model_ask, ⟨Or.inr ck_Model_isQuestion, ⟨Or.inr ck_Model_nodeOf, ⟨Or.inr ck_Model_wonBy, ⟨Or.inr ck_Model_why, ⟨Or.inr ck_Model_ifAll, ⟨Or.inr ck_Model_parts, ⟨Or.inr ck_Model_order, ⟨Or.inr ck_Model_isThere, ⟨Or.inr ck_Model_orderEnds, ⟨Or.inr ck_Model_reach, ⟨Or.inr ck_Model_allOrders, ⟨Or.inr ck_Model_findOrder, ⟨Or.inr ck_Model_first, ⟨Or.inr ck_Model_best, ⟨Or.inr ck_Model_top, ⟨Or.inr ck_Model_reachedFrom, ⟨Or.inr ck_Model_isCovered, ⟨Or.inr ck_Model_killers, ⟨Or.inr ck_Model_isKiller, ⟨Or.inr ck_Model_against, ⟨Or.inr ck_Model_shields, ⟨Or.inr ck_Model_tell, ⟨Or.inr ck_Model_ones, ⟨Or.inr ck_Model_falseVote, ⟨Or.inr ck_Model_chance, ⟨Or.inr ck_Model_findUnsure, ⟨Or.inr ck_Model_boughtOff, trivial⟩⟩⟩⟩⟩⟩⟩⟩⟩⟩⟩⟩⟩⟩⟩⟩⟩⟩⟩⟩⟩⟩⟩⟩⟩⟩⟩⟩⟩⟩⟩⟩⟩⟩⟩⟩⟩⟩⟩⟩
def pm_Ms_6 : List pm_M := [md_Model_bestLie, md_Model_surely, md_Model_ring, md_Model_findRing, md_Model_usual, md_Model_breach, md_Model_findChamber, md_Model_breaks, md_Model_lifted, md_Model_finds, md_Model_image, md_Model_restore, md_Model_count, md_Model_keep, md_Model_failureOf, md_Model_row, md_Model_put, md_Model_wrongRow, md_Model_narrowed, md_Model_element, md_Model_copy, md_Model_heft, md_Model_wrongShelf, md_Model_toss, md_Law_element]
theorem pm_ckl_6 : pm_idx pm_skip (fun m => pm_mOK m ∧ pm_code pm_Ms m) 240 pm_Ms_6 := ⟨Or.inr ck_Model_bestLie, ⟨Or.inr ck_Model_surely, ⟨Or.inr ck_Model_ring, ⟨Or.inr ck_Model_findRing, ⟨Or.inr ck_Model_usual, ⟨Or.inr ck_Model_breach, ⟨Or.inr ck_Model_findChamber, ⟨Or.inr ck_Model_breaks, ⟨Or.inr ck_Model_lifted, ⟨Or.inr ck_Model_finds, ⟨Or.inr ck_Model_image, ⟨Or.inr ck_Model_restore, ⟨Or.inr ck_Model_count, ⟨Or.inr ck_Model_keep, ⟨Or.inr ck_Model_failureOf, ⟨Or.inr ck_Model_row, ⟨Or.inr ck_Model_put, ⟨Or.inr ck_Model_wrongRow, ⟨Or.inr ck_Model_narrowed, ⟨Or.inr ck_Model_element, ⟨Or.inr ck_Model_copy, ⟨Or.inr ck_Model_heft, ⟨Or.inr ck_Model_wrongShelf, ⟨Or.inr ck_Model_toss, ⟨Or.inl (by decide), trivial⟩⟩⟩⟩⟩⟩⟩⟩⟩⟩⟩⟩⟩⟩⟩⟩⟩⟩⟩⟩⟩⟩⟩⟩⟩
theorem pm_idx_app {skip : Nat → Bool} {Q : pm_M → Prop} {b : List pm_M} : ∀ {a : List pm_M} {k : Nat}, pm_idx skip Q k a → pm_idx skip Q (k + a.length) b → pm_idx skip Q k (a ++ b) := by
  intro a
  induction a with
  | nil => intro k _ h; exact h
  | cons m a ih =>
    intro k h1 h2
    refine ⟨h1.1, ih h1.2 ?_⟩
    rw [show k + 1 + a.length = k + (m :: a).length by simp; omega]
    exact h2
set_option maxRecDepth 100000 in
theorem pm_Ms_eq : pm_Ms = pm_Ms_0 ++ (pm_Ms_1 ++ (pm_Ms_2 ++ (pm_Ms_3 ++ (pm_Ms_4 ++ (pm_Ms_5 ++ (pm_Ms_6)))))) := rfl
set_option maxRecDepth 100000 in
theorem pm_ckall : ∀ (mid : Nat) (mm : pm_M), pm_Ms[mid]? = some mm → pm_skip mid = false → pm_mOK mm ∧ pm_code pm_Ms mm := by
  intro mid mm hm hs
  have h : pm_idx pm_skip (fun m => pm_mOK m ∧ pm_code pm_Ms m) 0 pm_Ms := by
    rw [pm_Ms_eq]
    exact pm_idx_app pm_ckl_0 (pm_idx_app pm_ckl_1 (pm_idx_app pm_ckl_2 (pm_idx_app pm_ckl_3 (pm_idx_app pm_ckl_4 (pm_idx_app pm_ckl_5 (pm_ckl_6))))))
  exact pm_idx_at h mid mm hm (by rw [Nat.zero_add]; exact hs)
end
section
/-! RUNS: the pure machine with fuel enough; what is shown of it is the machine's -/
section
variable {X : pm_X} {M : List pm_M} {cf : Nat → List Value → pm_S → Option pm_T} {ret : Option FieldType} {code : List (Nat × List Instr)}
theorem pm_go_succ : ∀ (F b : Nat) (f : pm_F) (t : pm_T), pm_go X M cf ret code F b f = some t → pm_go X M cf ret code (F + 1) b f = some t := by
  intro F
  induction F with
  | zero => intro b f t h; unfold pm_go at h; cases h
  | succ F ih =>
    intro b f t h
    unfold pm_go at h
    unfold pm_go
    cases hc : code[b]? with
    | none => rw [hc] at h; cases h
    | some q =>
      rw [hc] at h
      simp only at h ⊢
      cases hx : pm_ex X M cf ret b q.2 f with
      | none => rw [hx] at h; cases h
      | some o =>
        rw [hx] at h
        cases o with
        | inl g => exact ih _ _ _ h
        | inr u => exact h
theorem pm_go_le {F F' b : Nat} {f : pm_F} {t : pm_T} (hF : F ≤ F') (h : pm_go X M cf ret code F b f = some t) : pm_go X M cf ret code F' b f = some t := by
  induction hF with
  | refl => exact h
  | step _ ih => exact pm_go_succ _ _ _ _ ih
theorem pm_go_det {F F' b : Nat} {f : pm_F} {t t' : pm_T} (h : pm_go X M cf ret code F b f = some t) (h' : pm_go X M cf ret code F' b f = some t') : t = t' := by
  rcases Nat.le_total F F' with hl | hl
  · exact Option.some.inj ((pm_go_le hl h).symm.trans h')
  · exact Option.some.inj (h.symm.trans (pm_go_le hl h'))
end
noncomputable def pm_any (g : Nat → Option pm_T) : Option pm_T := @dite _ (∃ (t : pm_T), ∃ F, g F = some t) (Classical.propDecidable _) (fun h => some (Classical.choose h)) (fun _ => none)
theorem pm_any_some {g : Nat → Option pm_T} {t : pm_T} (h : pm_any g = some t) : ∃ F, g F = some t := by
  unfold pm_any at h
  split at h
  · rename_i hex
    cases h
    exact Classical.choose_spec hex
  · cases h
theorem pm_any_of {g : Nat → Option pm_T} {t : pm_T} {F : Nat} (hd : ∀ F F' t t', g F = some t → g F' = some t' → t = t') (h : g F = some t) : pm_any g = some t := by
  have hex : ∃ (t : pm_T), ∃ F, g F = some t := ⟨t, F, h⟩
  unfold pm_any
  rw [dif_pos hex]
  obtain ⟨F', h'⟩ := Classical.choose_spec hex
  rw [hd _ _ _ _ h' h]
/-- method mid with these arguments, calls d deep at most -/
noncomputable def pm_run (X : pm_X) (M : List pm_M) (PR : pm_P) : Nat → Nat → List Value → pm_S → Option pm_T
  | 0, _, _, _ => none
  | d + 1, mid, as, S => match PR mid with
    | some g => if 16 ≤ d then g as S else none
    | none => match M[mid]? with
      | none => none
      | some m => match pm_ent m.1.2.2.1 as with
        | none => none
        | some L => pm_any (fun F => pm_go X M (pm_run X M PR d) m.1.2.2.2 m.2.2 F 0 (L, [], S))
theorem pm_m_run {X : pm_X} {M : List pm_M} {PR : pm_P} (hPR : ∀ (mid : Nat) (g : List Value → pm_S → Option pm_T), PR mid = some g → ∀ (as : List Value) (S : pm_S) (t : pm_T), g as S = some t → pm_le S t.2) : ∀ (d : Nat), pm_mf (pm_run X M PR d) := by
  intro d
  induction d with
  | zero => intro mid as S t h; unfold pm_run at h; cases h
  | succ d ih =>
    intro mid as S t h
    unfold pm_run at h
    split at h
    · rename_i g hg
      split at h
      · exact hPR mid g hg as S t h
      · cases h
    · split at h
      · cases h
      · split at h
        · cases h
        · obtain ⟨F, hF⟩ := pm_any_some h
          exact pm_m_go ih _ _ _ _ hF
theorem pm_run_CB {l : Launch} {sa : Nat → Nat} {base : Nat} {dC : Nat → ClassId} {dI : Nat → Nat → Nat} {dA : Nat → ClassId} {X : pm_X} {M : List pm_M} {PR : pm_P} (hM : ∀ (mid : Nat) (mm : pm_M), M[mid]? = some mm → PR mid = none → pm_mOK mm ∧ pm_code M mm) (hPR : ∀ (mid : Nat) (g : List Value → pm_S → Option pm_T), PR mid = some g → ∀ (as : List Value) (S : pm_S) (t : pm_T), g as S = some t → pm_le S t.2)
    (hPC : ∀ (mid : Nat) (mm : pm_M) (g : List Value → pm_S → Option pm_T), M[mid]? = some mm → PR mid = some g → ∀ (d : Nat), 16 ≤ d → ∀ (as : List Value) (S : pm_S) (t : pm_T), g as S = some t → pm_CB l sa base dC dI dA X (d + 1) mm as S t) :
    ∀ (d mid : Nat) (mm : pm_M) (as : List Value) (S : pm_S) (t : pm_T), M[mid]? = some mm → pm_run X M PR d mid as S = some t → pm_CB l sa base dC dI dA X d mm as S t := by
  intro d
  induction d with
  | zero => intro mid mm as S t _ h; unfold pm_run at h; cases h
  | succ d ih =>
    intro mid mm as S t hmm h
    unfold pm_run at h
    split at h
    · rename_i g hg
      split at h
      · rename_i hd
        exact hPC mid mm g hmm hg d hd as S t h
      · cases h
    · rename_i hg
      rw [hmm] at h
      simp only at h
      split at h
      · cases h
      · rename_i L hL
        obtain ⟨h1, h2⟩ := hM mid mm hmm hg
        obtain ⟨F, hF⟩ := pm_any_some h
        exact pm_CB_of h1 (pm_met h1 h2 (pm_m_run hPR d) ih hL hF)
/-- from block b with frame f the method comes to t -/
def pm_to (X : pm_X) (M : List pm_M) (cf : Nat → List Value → pm_S → Option pm_T) (ret : Option FieldType) (code : List (Nat × List Instr)) (b : Nat) (f : pm_F) (t : pm_T) : Prop := ∃ F, pm_go X M cf ret code F b f = some t
section
variable {X : pm_X} {M : List pm_M} {cf : Nat → List Value → pm_S → Option pm_T} {ret : Option FieldType} {code : List (Nat × List Instr)}
theorem pm_to_of {b : Nat} {f : pm_F} {t : pm_T} {ops : List Instr} {pc : Nat} {o : pm_O} (hb : code[b]? = some (pc, ops)) (hx : pm_ex X M cf ret b ops f = some o) (h : match o with | .inl g => pm_to X M cf ret code g.1 g.2 t | .inr u => u = t) : pm_to X M cf ret code b f t := by
  cases o with
  | inl g =>
    obtain ⟨F, hF⟩ := h
    refine ⟨F + 1, ?_⟩
    unfold pm_go
    rw [hb]
    simp only
    rw [hx]
    exact hF
  | inr u =>
    simp only at h
    subst h
    refine ⟨1, ?_⟩
    unfold pm_go
    rw [hb]
    simp only
    rw [hx]
end
theorem pm_run_of {X : pm_X} {M : List pm_M} {PR : pm_P} {d mid : Nat} {mm : pm_M} {as : List Value} {S : pm_S} {t : pm_T} {L : List (Option Value)} (hd : 1 ≤ d) (hP : PR mid = none) (hM : M[mid]? = some mm) (hL : pm_ent mm.1.2.2.1 as = some L) (h : pm_to X M (pm_run X M PR (d - 1)) mm.1.2.2.2 mm.2.2 0 (L, [], S) t) : pm_run X M PR d mid as S = some t := by
  obtain ⟨d, rfl⟩ : ∃ k, d = k + 1 := ⟨d - 1, by omega⟩
  obtain ⟨F, hF⟩ := h
  unfold pm_run
  rw [hP, hM]
  simp only
  rw [hL]
  exact pm_any_of (fun F F' t t' => pm_go_det) hF
end
section
/-! THE CLAIM OUT OF ONE WALK OF THE LAW'S BODY. Your part is whole_start (and what it stands on); all else here is the same for every law, but numbers. -/
def R_law : String := "QuestionDeskLaw"
def lw_P (b : Addr) (xs : List Int32) (args : Array Value) (s : State) : Prop := args = #[.ref b] ∧ s.IntsAt b xs ∧ xs.length ≤ 3072 ∧ (Jvm.Cond.and given_1 narrow_1).before args s = true
def lw_Q (_ : Array Value) (s : State) (o : Outcome) (t : State) : Prop := o = .returned (some (.int 1)) ∧ Framed s o t [] 601024 7293034
def lw_Z (below : List Frame) (a : Array Value) (s : State) : State → Prop := fun t => ∃ o, t.status = .running ∧ Ended t below o ∧ lw_Q a s o t
/-- the law's own end, with 1 on the stack, nothing written that was there before, its room as the claim has it -/
theorem lw_ret {p : Program} {l : Launch} {e : Env} {s : State} {m : MethodId} {below : List Frame} {meth : Method} {c : Code} {b : Nat} (hx : p.tables.exec = Jvm.exec) (hb : c.code = code) (hr : meth.sig.returnType = ret) (hlocks : meth.locks = false) {pc : Nat} {H : Heap} {ls : Array Slot} (hdg : decode code pc = .ok (.ireturn, 1)) : W p l e room_1 s m #[Value.ref b] below meth c H [] 601024 7293034 (lw_Z below #[Value.ref b] s) (F0 m pc ls [.int 1]) := by
  intro T hT X
  obtain ⟨fs, hret, hrun, hended, hW, hframe⟩ := X.leave (v := some (.int 1)) (hlocks := hlocks) (fun h => by rw [hr] at h; cases h)
  have hmeth' : T.vm.method? m = some meth := X.method'
  refine ⟨T.setFrames fs, ?_, .returned (some (.int 1)), hrun, hended, rfl, ⟨_, rfl⟩, hW, hframe⟩
  jvm_step X.here [X.here.top, hx, hb, hdg, hmeth', hr, ret, narrow_b1]
  (try refine ⟨rfl, ?_⟩); (try refine ⟨rfl, ?_⟩)
  first | (intro acts; rw [hret _ acts rfl rfl rfl]) | rw [hret _ _ rfl rfl rfl]
  exact Steps.refl _
/-- what holds at the law's entry: the machine, the code, the tables' words (any of lw_tbl by 'hts w (by decide +kernel)'), the script of L ints xs at the cell b, what the Statement gives of the start (any of its parts by flat_of_before) -/
def lw_At (p : Program) (s : State) (m : MethodId) (meth : Method) (c : Code) (b L : Nat) (xs : Nat → Int32) : Prop :=
  p.tables.exec = Jvm.exec ∧ c.code = code ∧ meth.sig.returnType = ret ∧ c.maxLocals = 8 ∧ s.vm.findClass R_law = some m.cls ∧ (∀ w ∈ lw_tbl, w.before #[Value.ref b] s = true) ∧ va_X b L xs s s.heap ∧ b < s.heap.size ∧ meth.locks = false ∧ (Jvm.Cond.and given_1 narrow_1).before #[Value.ref b] s = true

def pm_tbf (l : List Int32) : Nat → Int32 := fun j => l.getD j 0
def pm_X0 (L : Nat) (xs : Nat → Int32) : pm_X := fun k => match k with
  | 0 => some (L, xs)
  | 1 => some (6, pm_tbf [0, 0, 5, 2, 2, 0])
  | 2 => some (18, pm_tbf [0, 1, 2, 0, 2, 1, 1, 0, 2, 2, 0, 1, 1, 2, 0, 2, 1, 0])
  | 3 => some (6, pm_tbf [2, 4, 0, 5, 1, 3])
  | 4 => some (6, pm_tbf [1, 0, 3, 2, 5, 4])
  | _ => none
theorem pm_RO_of {b L : Nat} {xs : Nat → Int32} {s : State} {H : Heap} (h : va_X b L xs s H) : pm_RO b L xs s H := by
  obtain ⟨scr, h1, h2, h3, h4, h5⟩ := h
  exact ⟨scr, h1, h2, h3, Nat.le_of_eq h4.symm, (by rw [h4]), h5⟩
theorem pm_RO_T {t N : Nat} {f : Nat → Int32} {A : Nat → Prop} {s : State} {H : Heap} (h : va_T .int t N (fun j => .int (f j)) A s H) : pm_RO t N f s H := by
  obtain ⟨cell, h1, h2, h3, h4, h5, h6, -⟩ := h
  exact ⟨cell, h1, h2, h3, h4, h5, h6⟩
theorem pm_stat {args : Array Value} {s : State} {n : String} {l : List Int32} (hl : (Cond.laysStatic "QuestionDesk" n "[I").before args s = true) (hini : (Cond.initialized "QuestionDesk").before args s = true) (hlen : l.length < 1000)
    (harr : (Cond.arrayOf (.static "QuestionDesk" n "[I") .int).before args s = true) (hle : (Cond.eq (.length (.static "QuestionDesk" n "[I")) (.int (Int32.ofNat l.length))).before args s = true)
    (hel : ∀ j : Nat, j < l.length → (Cond.eq (.elem (.static "QuestionDesk" n "[I") (.int (Int32.ofNat j))) (.int (l.getD j 0))).before args s = true) :
    ∃ t : Nat, t < s.heap.size ∧ pm_RO t l.length (pm_tbf l) s s.heap ∧ va_Z "QuestionDesk" n "[I" (.ref t) (fun a : Nat => s.heap.size ≤ a) s s.heap := by
  have hA : ∀ a : Nat, a < s.heap.size → ¬ (fun a : Nat => s.heap.size ≤ a) a := fun a h => Nat.not_le.mpr h
  obtain ⟨t, ht, hT⟩ := va_Tof (ty := .int) (N := l.length) (f := fun j => .int (l.getD j 0)) (A := fun a : Nat => s.heap.size ≤ a) (Nat.lt_of_lt_of_le hlen (by decide)) harr (va_eqt hle) (fun j hj => va_eqt (hel j hj)) hA
  refine ⟨t, ?_, pm_RO_T hT, va_Zref hl hini ht hA⟩
  obtain ⟨cell, h1, -⟩ := hT
  exact (Array.getElem?_eq_some_iff.mp h1).1
theorem pm_arr {args : Array Value} {s : State} {ty : FieldType} (h : (Cond.arrayClass ty).before args s = true) : ∃ cA : ClassId, ArrOfT s cA ty ∧ s.vm.findClass ("[" ++ ty.toString) = some cA := by
  obtain ⟨cA, kA, comp, h1, h2, h3⟩ := Cond.arrayClass_spec h
  exact ⟨cA, fun N z => ⟨(fun k h => by cases h), kA, h2, comp, h3⟩, h1⟩
theorem pm_arrO {args : Array Value} {s : State} {C : String} (h : (Cond.arrayOver (.object C)).before args s = true) : ∃ cA : ClassId, ArrOfT s cA (.object C) ∧ va_RA s cA (.object C) := by
  obtain ⟨comp, cA, kA, h1, -, h2, h3, h4⟩ := Cond.arrayOver_spec h
  exact ⟨cA, fun N z => ⟨(fun k h => by cases h), kA, h2, comp, h3⟩, kA, comp, h2, h3, h1, h4⟩
theorem pm_cls0 {args : Array Value} {s : State} {C : String} {n : Nat} (h : (Cond.instantiable C n).before args s = true) : ∃ (cC : ClassId) (iS : Nat → Nat), u_Kn s C TX0 0 cC iS := by
  obtain ⟨cC, kC, hfc, hk, hkind, -⟩ := Cond.instantiable_spec h
  exact ⟨cC, fun _ => 0, fun k hk => absurd hk (Nat.not_lt_zero k), hfc, kC, hk, hkind⟩
def pm_ew : List Cond := [.arrayOver (.object RX3), .arrayOver (.object RX8), .arrayOver (.object RX7), .instantiable "java/lang/IllegalArgumentException" 6, .instantiable "java/lang/IllegalStateException" 6, .instantiable "java/lang/UnsupportedOperationException" 6, .laysStatic "QuestionDesk" "MOST_NUMBER" "[I", .laysStatic "QuestionDesk" "LIKING_PLACES" "[I", .laysStatic "QuestionDesk" "FIRST_TWO_CHANGED" "[I", .laysStatic "QuestionDesk" "LAST_TWO_CHANGED" "[I", .initialized "QuestionDesk"]
theorem pm_ew_in : ∀ w ∈ pm_ew, w ∈ lw_tbl := fun w hw => of_decide_eq_true (List.all_eq_true.mp (by decide +kernel : pm_ew.all (fun w => decide (w ∈ lw_tbl)) = true) w hw)
theorem pm_nw_in : ∀ w ∈ (pm_nwm.map (fun q => Cond.methodLinkNest q.1 q.2.1 q.2.2 "QuestionDesk") ++ pm_nwf.map (fun q => Cond.fieldLinkNest q.1 q.2.1 "QuestionDesk" q.2.2 "[I" "QuestionDesk")), w ∈ lw_tbl := fun w hw => of_decide_eq_true (List.all_eq_true.mp (by decide +kernel : (pm_nwm.map (fun q => Cond.methodLinkNest q.1 q.2.1 q.2.2 "QuestionDesk") ++ pm_nwf.map (fun q => Cond.fieldLinkNest q.1 q.2.1 "QuestionDesk" q.2.2 "[I" "QuestionDesk")).all (fun w => decide (w ∈ lw_tbl)) = true) w hw)
def pm_sw1 : List Cond := [.arrayOf (.static "QuestionDesk" "MOST_NUMBER" "[I") .int, .eq (.length (.static "QuestionDesk" "MOST_NUMBER" "[I")) (.int 6), .eq (.elem (.static "QuestionDesk" "MOST_NUMBER" "[I") (.int 0)) (.int 0), .eq (.elem (.static "QuestionDesk" "MOST_NUMBER" "[I") (.int 1)) (.int 0), .eq (.elem (.static "QuestionDesk" "MOST_NUMBER" "[I") (.int 2)) (.int 5), .eq (.elem (.static "QuestionDesk" "MOST_NUMBER" "[I") (.int 3)) (.int 2), .eq (.elem (.static "QuestionDesk" "MOST_NUMBER" "[I") (.int 4)) (.int 2), .eq (.elem (.static "QuestionDesk" "MOST_NUMBER" "[I") (.int 5)) (.int 0)]
theorem pm_sw1_in : ∀ w ∈ pm_sw1, w ∈ flatC (Jvm.Cond.and given_1 narrow_1) := fun w hw => of_decide_eq_true (List.all_eq_true.mp (by decide +kernel : pm_sw1.all (fun w => decide (w ∈ flatC (Jvm.Cond.and given_1 narrow_1))) = true) w hw)
def pm_sw2 : List Cond := [.arrayOf (.static "QuestionDesk" "LIKING_PLACES" "[I") .int, .eq (.length (.static "QuestionDesk" "LIKING_PLACES" "[I")) (.int 18), .eq (.elem (.static "QuestionDesk" "LIKING_PLACES" "[I") (.int 0)) (.int 0), .eq (.elem (.static "QuestionDesk" "LIKING_PLACES" "[I") (.int 1)) (.int 1), .eq (.elem (.static "QuestionDesk" "LIKING_PLACES" "[I") (.int 2)) (.int 2), .eq (.elem (.static "QuestionDesk" "LIKING_PLACES" "[I") (.int 3)) (.int 0), .eq (.elem (.static "QuestionDesk" "LIKING_PLACES" "[I") (.int 4)) (.int 2), .eq (.elem (.static "QuestionDesk" "LIKING_PLACES" "[I") (.int 5)) (.int 1), .eq (.elem (.static "QuestionDesk" "LIKING_PLACES" "[I") (.int 6)) (.int 1), .eq (.elem (.static "QuestionDesk" "LIKING_PLACES" "[I") (.int 7)) (.int 0), .eq (.elem (.static "QuestionDesk" "LIKING_PLACES" "[I") (.int 8)) (.int 2), .eq (.elem (.static "QuestionDesk" "LIKING_PLACES" "[I") (.int 9)) (.int 2), .eq (.elem (.static "QuestionDesk" "LIKING_PLACES" "[I") (.int 10)) (.int 0), .eq (.elem (.static "QuestionDesk" "LIKING_PLACES" "[I") (.int 11)) (.int 1), .eq (.elem (.static "QuestionDesk" "LIKING_PLACES" "[I") (.int 12)) (.int 1), .eq (.elem (.static "QuestionDesk" "LIKING_PLACES" "[I") (.int 13)) (.int 2), .eq (.elem (.static "QuestionDesk" "LIKING_PLACES" "[I") (.int 14)) (.int 0), .eq (.elem (.static "QuestionDesk" "LIKING_PLACES" "[I") (.int 15)) (.int 2), .eq (.elem (.static "QuestionDesk" "LIKING_PLACES" "[I") (.int 16)) (.int 1), .eq (.elem (.static "QuestionDesk" "LIKING_PLACES" "[I") (.int 17)) (.int 0)]
theorem pm_sw2_in : ∀ w ∈ pm_sw2, w ∈ flatC (Jvm.Cond.and given_1 narrow_1) := fun w hw => of_decide_eq_true (List.all_eq_true.mp (by decide +kernel : pm_sw2.all (fun w => decide (w ∈ flatC (Jvm.Cond.and given_1 narrow_1))) = true) w hw)
def pm_sw3 : List Cond := [.arrayOf (.static "QuestionDesk" "FIRST_TWO_CHANGED" "[I") .int, .eq (.length (.static "QuestionDesk" "FIRST_TWO_CHANGED" "[I")) (.int 6), .eq (.elem (.static "QuestionDesk" "FIRST_TWO_CHANGED" "[I") (.int 0)) (.int 2), .eq (.elem (.static "QuestionDesk" "FIRST_TWO_CHANGED" "[I") (.int 1)) (.int 4), .eq (.elem (.static "QuestionDesk" "FIRST_TWO_CHANGED" "[I") (.int 2)) (.int 0), .eq (.elem (.static "QuestionDesk" "FIRST_TWO_CHANGED" "[I") (.int 3)) (.int 5), .eq (.elem (.static "QuestionDesk" "FIRST_TWO_CHANGED" "[I") (.int 4)) (.int 1), .eq (.elem (.static "QuestionDesk" "FIRST_TWO_CHANGED" "[I") (.int 5)) (.int 3)]
theorem pm_sw3_in : ∀ w ∈ pm_sw3, w ∈ flatC (Jvm.Cond.and given_1 narrow_1) := fun w hw => of_decide_eq_true (List.all_eq_true.mp (by decide +kernel : pm_sw3.all (fun w => decide (w ∈ flatC (Jvm.Cond.and given_1 narrow_1))) = true) w hw)
def pm_sw4 : List Cond := [.arrayOf (.static "QuestionDesk" "LAST_TWO_CHANGED" "[I") .int, .eq (.length (.static "QuestionDesk" "LAST_TWO_CHANGED" "[I")) (.int 6), .eq (.elem (.static "QuestionDesk" "LAST_TWO_CHANGED" "[I") (.int 0)) (.int 1), .eq (.elem (.static "QuestionDesk" "LAST_TWO_CHANGED" "[I") (.int 1)) (.int 0), .eq (.elem (.static "QuestionDesk" "LAST_TWO_CHANGED" "[I") (.int 2)) (.int 3), .eq (.elem (.static "QuestionDesk" "LAST_TWO_CHANGED" "[I") (.int 3)) (.int 2), .eq (.elem (.static "QuestionDesk" "LAST_TWO_CHANGED" "[I") (.int 4)) (.int 5), .eq (.elem (.static "QuestionDesk" "LAST_TWO_CHANGED" "[I") (.int 5)) (.int 4)]
theorem pm_sw4_in : ∀ w ∈ pm_sw4, w ∈ flatC (Jvm.Cond.and given_1 narrow_1) := fun w hw => of_decide_eq_true (List.all_eq_true.mp (by decide +kernel : pm_sw4.all (fun w => decide (w ∈ flatC (Jvm.Cond.and given_1 narrow_1))) = true) w hw)
/-- at the law's entry the tables, statics and read-only arrays are as the pure machine takes them -/
theorem pm_start {p : Program} {s : State} {m : MethodId} {meth : Method} {c : Code} {b L : Nat} {xs : Nat → Int32} (C0 : lw_At p s m meth c b L xs) :
    ∃ (sa : Nat → Nat) (dC : Nat → ClassId) (dI : Nat → Nat → Nat) (dA : Nat → ClassId), sa 0 = b ∧ pm_K sa s.heap.size dC dI dA (pm_X0 L xs) s := by
  obtain ⟨hx, hb, hr, hml, hown, hts, hX, hbl, hlocks, hgv⟩ := C0
  have hflat := flat_of_before _ hgv
  have hgood : ∀ w ∈ pm_tbl, w.before #[Value.ref b] s = true := fun w hw => hts w (List.mem_filter.mp hw).1
  obtain ⟨c0, i0, k0⟩ := u_known (C := RX0) (T := TX0) (N := 6) (n := 6) hgood pm_in0 (hgood _ (pm_cls2 (ci := 0) (r := (RX0, TX0, 6)) rfl (by decide)).1)
  obtain ⟨c1, i1, k1⟩ := u_known (C := RX1) (T := TX1) (N := 12) (n := 12) hgood pm_in1 (hgood _ (pm_cls2 (ci := 1) (r := (RX1, TX1, 12)) rfl (by decide)).1)
  obtain ⟨c2, i2, k2⟩ := u_known (C := RX2) (T := TX2) (N := 4) (n := 4) hgood pm_in2 (hgood _ (pm_cls2 (ci := 2) (r := (RX2, TX2, 4)) rfl (by decide)).1)
  obtain ⟨c3, i3, k3⟩ := u_known (C := RX3) (T := TX3) (N := 8) (n := 8) hgood pm_in3 (hgood _ (pm_cls2 (ci := 3) (r := (RX3, TX3, 8)) rfl (by decide)).1)
  obtain ⟨c4, i4, k4⟩ := u_known (C := RX4) (T := TX4) (N := 5) (n := 5) hgood pm_in4 (hgood _ (pm_cls2 (ci := 4) (r := (RX4, TX4, 5)) rfl (by decide)).1)
  obtain ⟨c5, i5, k5⟩ := u_known (C := RX5) (T := TX5) (N := 8) (n := 8) hgood pm_in5 (hgood _ (pm_cls2 (ci := 5) (r := (RX5, TX5, 8)) rfl (by decide)).1)
  obtain ⟨c6, i6, k6⟩ := u_known (C := RX6) (T := TX6) (N := 8) (n := 8) hgood pm_in6 (hgood _ (pm_cls2 (ci := 6) (r := (RX6, TX6, 8)) rfl (by decide)).1)
  obtain ⟨c7, i7, k7⟩ := u_known (C := RX7) (T := TX7) (N := 5) (n := 5) hgood pm_in7 (hgood _ (pm_cls2 (ci := 7) (r := (RX7, TX7, 5)) rfl (by decide)).1)
  obtain ⟨c8, i8, k8⟩ := u_known (C := RX8) (T := TX8) (N := 7) (n := 7) hgood pm_in8 (hgood _ (pm_cls2 (ci := 8) (r := (RX8, TX8, 7)) rfl (by decide)).1)
  obtain ⟨c9, i9, k9⟩ := u_known (C := RX9) (T := TX9) (N := 9) (n := 9) hgood pm_in9 (hgood _ (pm_cls2 (ci := 9) (r := (RX9, TX9, 9)) rfl (by decide)).1)
  obtain ⟨c10, i10, k10⟩ := u_known (C := RX10) (T := TX10) (N := 57) (n := 57) hgood pm_in10 (hgood _ (pm_cls2 (ci := 10) (r := (RX10, TX10, 57)) rfl (by decide)).1)
  obtain ⟨c11, i11, k11⟩ := pm_cls0 (hts (.instantiable "java/lang/IllegalArgumentException" 6) (pm_ew_in _ (by simp [pm_ew])))
  obtain ⟨c12, i12, k12⟩ := pm_cls0 (hts (.instantiable "java/lang/IllegalStateException" 6) (pm_ew_in _ (by simp [pm_ew])))
  obtain ⟨c13, i13, k13⟩ := pm_cls0 (hts (.instantiable "java/lang/UnsupportedOperationException" 6) (pm_ew_in _ (by simp [pm_ew])))
  obtain ⟨aI, aI1, aI2⟩ := pm_arr (hgood _ pm_w_int)
  obtain ⟨aJ, aJ1, aJ2⟩ := pm_arr (hgood _ pm_w_long)
  obtain ⟨aM, aM1, aM2⟩ := pm_arrO (hts (.arrayOver (.object RX3)) (pm_ew_in _ (by simp [pm_ew])))
  obtain ⟨aT, aT1, aT2⟩ := pm_arrO (hts (.arrayOver (.object RX8)) (pm_ew_in _ (by simp [pm_ew])))
  obtain ⟨aS, aS1, aS2⟩ := pm_arrO (hts (.arrayOver (.object RX7)) (pm_ew_in _ (by simp [pm_ew])))
  obtain ⟨t1, t1l, t1r, t1z⟩ := pm_stat (l := [0, 0, 5, 2, 2, 0]) (hts (.laysStatic "QuestionDesk" "MOST_NUMBER" "[I") (pm_ew_in _ (by simp [pm_ew]))) (hts (.initialized "QuestionDesk") (pm_ew_in _ (by simp [pm_ew]))) (by decide) (hflat _ (pm_sw1_in _ (List.mem_of_getElem? (i := 0) rfl))) (hflat _ (pm_sw1_in _ (List.mem_of_getElem? (i := 1) rfl))) (fun j hj => hflat _ (pm_sw1_in _ (by
    have hj' : j < 6 := hj
    rcases (show j = 0 ∨ j = 1 ∨ j = 2 ∨ j = 3 ∨ j = 4 ∨ j = 5 by omega) with rfl | rfl | rfl | rfl | rfl | rfl
    all_goals first
      | exact List.mem_of_getElem? (i := 2) rfl
      | exact List.mem_of_getElem? (i := 3) rfl
      | exact List.mem_of_getElem? (i := 4) rfl
      | exact List.mem_of_getElem? (i := 5) rfl
      | exact List.mem_of_getElem? (i := 6) rfl
      | exact List.mem_of_getElem? (i := 7) rfl)))
  obtain ⟨t2, t2l, t2r, t2z⟩ := pm_stat (l := [0, 1, 2, 0, 2, 1, 1, 0, 2, 2, 0, 1, 1, 2, 0, 2, 1, 0]) (hts (.laysStatic "QuestionDesk" "LIKING_PLACES" "[I") (pm_ew_in _ (by simp [pm_ew]))) (hts (.initialized "QuestionDesk") (pm_ew_in _ (by simp [pm_ew]))) (by decide) (hflat _ (pm_sw2_in _ (List.mem_of_getElem? (i := 0) rfl))) (hflat _ (pm_sw2_in _ (List.mem_of_getElem? (i := 1) rfl))) (fun j hj => hflat _ (pm_sw2_in _ (by
    have hj' : j < 18 := hj
    rcases (show j = 0 ∨ j = 1 ∨ j = 2 ∨ j = 3 ∨ j = 4 ∨ j = 5 ∨ j = 6 ∨ j = 7 ∨ j = 8 ∨ j = 9 ∨ j = 10 ∨ j = 11 ∨ j = 12 ∨ j = 13 ∨ j = 14 ∨ j = 15 ∨ j = 16 ∨ j = 17 by omega) with rfl | rfl | rfl | rfl | rfl | rfl | rfl | rfl | rfl | rfl | rfl | rfl | rfl | rfl | rfl | rfl | rfl | rfl
    all_goals first
      | exact List.mem_of_getElem? (i := 2) rfl
      | exact List.mem_of_getElem? (i := 3) rfl
      | exact List.mem_of_getElem? (i := 4) rfl
      | exact List.mem_of_getElem? (i := 5) rfl
      | exact List.mem_of_getElem? (i := 6) rfl
      | exact List.mem_of_getElem? (i := 7) rfl
      | exact List.mem_of_getElem? (i := 8) rfl
      | exact List.mem_of_getElem? (i := 9) rfl
      | exact List.mem_of_getElem? (i := 10) rfl
      | exact List.mem_of_getElem? (i := 11) rfl
      | exact List.mem_of_getElem? (i := 12) rfl
      | exact List.mem_of_getElem? (i := 13) rfl
      | exact List.mem_of_getElem? (i := 14) rfl
      | exact List.mem_of_getElem? (i := 15) rfl
      | exact List.mem_of_getElem? (i := 16) rfl
      | exact List.mem_of_getElem? (i := 17) rfl
      | exact List.mem_of_getElem? (i := 18) rfl
      | exact List.mem_of_getElem? (i := 19) rfl)))
  obtain ⟨t3, t3l, t3r, t3z⟩ := pm_stat (l := [2, 4, 0, 5, 1, 3]) (hts (.laysStatic "QuestionDesk" "FIRST_TWO_CHANGED" "[I") (pm_ew_in _ (by simp [pm_ew]))) (hts (.initialized "QuestionDesk") (pm_ew_in _ (by simp [pm_ew]))) (by decide) (hflat _ (pm_sw3_in _ (List.mem_of_getElem? (i := 0) rfl))) (hflat _ (pm_sw3_in _ (List.mem_of_getElem? (i := 1) rfl))) (fun j hj => hflat _ (pm_sw3_in _ (by
    have hj' : j < 6 := hj
    rcases (show j = 0 ∨ j = 1 ∨ j = 2 ∨ j = 3 ∨ j = 4 ∨ j = 5 by omega) with rfl | rfl | rfl | rfl | rfl | rfl
    all_goals first
      | exact List.mem_of_getElem? (i := 2) rfl
      | exact List.mem_of_getElem? (i := 3) rfl
      | exact List.mem_of_getElem? (i := 4) rfl
      | exact List.mem_of_getElem? (i := 5) rfl
      | exact List.mem_of_getElem? (i := 6) rfl
      | exact List.mem_of_getElem? (i := 7) rfl)))
  obtain ⟨t4, t4l, t4r, t4z⟩ := pm_stat (l := [1, 0, 3, 2, 5, 4]) (hts (.laysStatic "QuestionDesk" "LAST_TWO_CHANGED" "[I") (pm_ew_in _ (by simp [pm_ew]))) (hts (.initialized "QuestionDesk") (pm_ew_in _ (by simp [pm_ew]))) (by decide) (hflat _ (pm_sw4_in _ (List.mem_of_getElem? (i := 0) rfl))) (hflat _ (pm_sw4_in _ (List.mem_of_getElem? (i := 1) rfl))) (fun j hj => hflat _ (pm_sw4_in _ (by
    have hj' : j < 6 := hj
    rcases (show j = 0 ∨ j = 1 ∨ j = 2 ∨ j = 3 ∨ j = 4 ∨ j = 5 by omega) with rfl | rfl | rfl | rfl | rfl | rfl
    all_goals first
      | exact List.mem_of_getElem? (i := 2) rfl
      | exact List.mem_of_getElem? (i := 3) rfl
      | exact List.mem_of_getElem? (i := 4) rfl
      | exact List.mem_of_getElem? (i := 5) rfl
      | exact List.mem_of_getElem? (i := 6) rfl
      | exact List.mem_of_getElem? (i := 7) rfl)))
  refine ⟨fun k => match k with | 0 => b | 1 => t1 | 2 => t2 | 3 => t3 | _ => t4, fun k => match k with | 0 => c0 | 1 => c1 | 2 => c2 | 3 => c3 | 4 => c4 | 5 => c5 | 6 => c6 | 7 => c7 | 8 => c8 | 9 => c9 | 10 => c10 | 11 => c11 | 12 => c12 | _ => c13, fun k => match k with | 0 => i0 | 1 => i1 | 2 => i2 | 3 => i3 | 4 => i4 | 5 => i5 | 6 => i6 | 7 => i7 | 8 => i8 | 9 => i9 | 10 => i10 | 11 => i11 | 12 => i12 | _ => i13, fun k => match k with | 0 => aI | 1 => aJ | 2 => aM | 3 => aT | _ => aS, rfl, ⟨?_, ?_⟩, ?_, ?_, ?_, ?_, Nat.le_refl _, ?_⟩
  · intro c q hq
    match c, hq with
    | 0, hq => cases hq; exact k0
    | 1, hq => cases hq; exact k1
    | 2, hq => cases hq; exact k2
    | 3, hq => cases hq; exact k3
    | 4, hq => cases hq; exact k4
    | 5, hq => cases hq; exact k5
    | 6, hq => cases hq; exact k6
    | 7, hq => cases hq; exact k7
    | 8, hq => cases hq; exact k8
    | 9, hq => cases hq; exact k9
    | 10, hq => cases hq; exact k10
    | 11, hq => cases hq; exact k11
    | 12, hq => cases hq; exact k12
    | 13, hq => cases hq; exact k13
    | k + 14, hq => simp [pm_cl] at hq
  · intro k q hq
    match k, hq with
    | 0, hq => cases hq; exact ⟨aI1, aI2⟩
    | 1, hq => cases hq; exact ⟨aJ1, aJ2⟩
    | 2, hq => cases hq; exact ⟨aM1, aM2⟩
    | 3, hq => cases hq; exact ⟨aT1, aT2⟩
    | 4, hq => cases hq; exact ⟨aS1, aS2⟩
    | k + 5, hq => simp [pm_tys] at hq
  · intro k n f hk
    match k, hk with
    | 0, hk => cases hk; exact ⟨pm_RO_of hX, hbl⟩
    | 1, hk => cases hk; exact ⟨t1r, t1l⟩
    | 2, hk => cases hk; exact ⟨t2r, t2l⟩
    | 3, hk => cases hk; exact ⟨t3r, t3l⟩
    | 4, hk => cases hk; exact ⟨t4r, t4l⟩
    | k + 5, hk => simp [pm_X0] at hk
  · intro q hq
    simp only [pm_sts, List.mem_cons, List.not_mem_nil, or_false] at hq
    rcases hq with rfl | rfl | rfl | rfl
    · exact t1z
    · exact t2z
    · exact t3z
    · exact t4z
  · intro q hq
    exact va_Nw.of rfl (hts _ (pm_nw_in _ (List.mem_append_left _ (List.mem_map.mpr ⟨q, hq, rfl⟩))))
  · intro q hq
    exact va_Nw.of rfl (hts _ (pm_nw_in _ (List.mem_append_right _ (List.mem_map.mpr ⟨q, hq, rfl⟩))))
  · intro C hC
    simp only [List.mem_cons, List.not_mem_nil, or_false] at hC
    rcases hC with rfl | rfl | rfl
    · exact va_AO.of (hts (.arrayOver (.object RX3)) (pm_ew_in _ (by simp [pm_ew])))
    · exact va_AO.of (hts (.arrayOver (.object RX8)) (pm_ew_in _ (by simp [pm_ew])))
    · exact va_AO.of (hts (.arrayOver (.object RX7)) (pm_ew_in _ (by simp [pm_ew])))
/-- the run of the law that is owed of the pure machine -/
def pm_Law (PR : pm_P) (L : Nat) (xs : Nat → Int32) : Prop := ∃ (d F : Nat) (S : pm_S), d ≤ 1000 ∧ S.1.length ≤ 601024 ∧ S.2 ≤ 7293034 ∧ pm_go (pm_X0 L xs) pm_Ms (pm_run (pm_X0 L xs) pm_Ms PR d) ret cd_law F 0 ([some (.ref 0), none, none, none, none, none, none, none], [], ([], 0)) = some (some (.int 1), S)
/-- the law's walk, open: out of the pure machine's run of it, and the contracts of the two methods that catch -/
theorem whole_start_open {p : Program} {e : Env} {s : State} {m : MethodId} {below : List Frame} {meth : Method} {c : Code} (l : Launch) {b L : Nat} {xs : Nat → Int32} {PR : pm_P} (hsk : ∀ mid, PR mid = none → pm_skip mid = false) (hPR : ∀ (mid : Nat) (g : List Value → pm_S → Option pm_T), PR mid = some g → ∀ (as : List Value) (S : pm_S) (t : pm_T), g as S = some t → pm_le S t.2)
    (hPC : ∀ (sa : Nat → Nat) (base : Nat) (dC : Nat → ClassId) (dI : Nat → Nat → Nat) (dA : Nat → ClassId) (X : pm_X) (mid : Nat) (mm : pm_M) (g : List Value → pm_S → Option pm_T), pm_Ms[mid]? = some mm → PR mid = some g → ∀ (d : Nat), 16 ≤ d → ∀ (as : List Value) (S : pm_S) (t : pm_T), g as S = some t → pm_CB l sa base dC dI dA X (d + 1) mm as S t)
    (hlaw : pm_Law PR L xs) (C0 : lw_At p s m meth c b L xs) : W p l e room_1 s m #[Value.ref b] below meth c s.heap [] 0 0 (lw_Z below #[Value.ref b] s) (entryFrame m ([Value.ref b] : List Value).toArray 8) := by
  obtain ⟨sa, dC, dI, dA, hsa, hK⟩ := pm_start C0
  obtain ⟨hx, hb, hr, hml, hown, hts, hX, hbl, hlocks, hgv⟩ := C0
  obtain ⟨d, F, S, hd, hS1, hS2, hgo⟩ := hlaw
  have hgood : ∀ w ∈ pm_tbl, w.before #[Value.ref b] s = true := fun w hw => hts w (List.mem_filter.mp hw).1
  have C : pm_C p room_1 s m #[Value.ref b] meth c code 8 "QuestionDeskLaw" sa s.heap.size dC dI dA (pm_X0 L xs) 0 0 S.1.length S.2 :=
    ⟨hx, hb, hml, hown, hgood, hlocks, hK, by show _ ≤ 0 + 601024; omega, by show _ ≤ 0 + 7293034; omega, by show 1 ≤ 2048; decide, by show 64 ≤ 84000; decide⟩
  have hent : pm_ent 8 [.ref 0] = some [some (.ref 0), none, none, none, none, none, none, none] := rfl
  obtain ⟨-, hLR⟩ := pm_ent_LR (ad := pm_ad sa s.heap.size) hent
  have e0 : ([Value.ref 0] : List Value).map (pm_cv (pm_ad sa s.heap.size)) = [Value.ref b] := by
    show [Value.ref (pm_ad sa s.heap.size 0)] = _
    rw [pm_ad_lo (by decide), hsa]
  rw [e0] at hLR
  rw [lg_entry_eq]
  refine pm_go_ok (d := d) (tf := (some (.int 1), S)) (ini := false) C (fun h => by cases h) (by show d + 1 ≤ 2048; omega) (by show 64 * (d + 1) ≤ 84000; omega) (pm_m_run hPR d) (pm_run_CB (fun mid mm h1 h2 => pm_ckall mid mm h1 (hsk mid h2)) hPR (hPC sa s.heap.size dC dI dA (pm_X0 L xs)) d) ?_ ck_law (Nat.le_refl _) (Nat.le_refl _) F 0 _ hgo (0, _) rfl s.heap [] _ 0 0 ⟨hLR, ?_, rfl, va_S.rf, rfl, rfl⟩
  · intro i pc f H locs ls cells slots hir hdg hR
    rcases hir with ⟨rfl, x, e1, e2, e3⟩ | ⟨rfl, x, e1, e2, e3⟩ | ⟨rfl, v, e1, e2, e3, e4⟩ | ⟨rfl, e1, e2, e3⟩
    · cases e3
      rw [e1]
      refine va_forget (fun q hq => hR.2.2.2.1.2.2 q hq) ?_
      have r5 := hR.2.2.2.2.1
      have r6 := hR.2.2.2.2.2
      refine W.widen (k := 601024) (n := 7293034) (by omega) (by omega) ?_
      exact lw_ret hx hb hr hlocks hdg
    · cases e3
    · cases e4
      cases e2
    · cases e3
  · intro k q hq
    simp [pm_W] at hq
end
section
/-! rules that run a block of the pure machine, goal first, one an op -/
def pm_E (X : pm_X) (M : List pm_M) (cf : Nat → List Value → pm_S → Option pm_T) (ret : Option FieldType) (code : List (Nat × List Instr)) (b : Nat) (ops : List Instr) (f : pm_F) (t : pm_T) : Prop := ∃ o, pm_ex X M cf ret b ops f = some o ∧ (match o with | .inl g => pm_to X M cf ret code g.1 g.2 t | .inr u => u = t)
/-- cell a of the heap -/
def pm_h (S : pm_S) (a : Nat) (e : va_E) : Prop := 8 ≤ a ∧ S.1[a - 8]? = some e
def pm_put (S : pm_S) (a : Nat) (e : va_E) : pm_S := (S.1.set (a - 8) e, S.2)
theorem pm_h.eq {S : pm_S} {a : Nat} {e e0 : va_E} (h : pm_h S a e0) : pm_h (pm_put S a e) a e := ⟨h.1, by
  have hl : a - 8 < S.1.length := (List.getElem?_eq_some_iff.mp h.2).1
  show (S.1.set (a - 8) e)[a - 8]? = some e
  rw [List.getElem?_set_self hl]⟩
theorem pm_h.ne {S : pm_S} {a b : Nat} {e e1 : va_E} (h : pm_h S b e) (hne : b ≠ a) (ha : 8 ≤ a) : pm_h (pm_put S a e1) b e := ⟨h.1, by
  show (S.1.set (a - 8) e1)[b - 8]? = some e
  have := h.1
  rw [List.getElem?_set_ne (by omega)]
  exact h.2⟩
theorem pm_h.det {S : pm_S} {a : Nat} {e e' : va_E} (h : pm_h S a e) (h' : pm_h S a e') : e = e' := Option.some.inj (h.2.symm.trans h'.2)
theorem pm_h.get {X : pm_X} {S : pm_S} {a : Nat} {e : va_E} (h : pm_h S a e) : pm_get X S.1 a = some e := by
  rw [pm_get_hi (by have := h.1; omega)]
  exact h.2
section
variable {X : pm_X} {M : List pm_M} {cf : Nat → List Value → pm_S → Option pm_T} {ret : Option FieldType} {code : List (Nat × List Instr)} {b : Nat} {is : List Instr} {L L' : List (Option Value)} {st : List Value} {S : pm_S} {t : pm_T}
theorem pm_to.blk {f : pm_F} {pc : Nat} {ops : List Instr} (hb : code[b]? = some (pc, ops)) (h : pm_E X M cf ret code b ops f t) : pm_to X M cf ret code b f t := by
  obtain ⟨o, h1, h2⟩ := h
  cases o <;> exact pm_to_of hb h1 h2
theorem pe_step {op : Instr} {f f' : pm_F} (h : pm_ctl op = false) (hop : pm_op X op f = some f') (k : pm_E X M cf ret code b is f' t) : pm_E X M cf ret code b (op :: is) f t := by
  obtain ⟨o, h1, h2⟩ := k
  refine ⟨o, ?_, h2⟩
  rw [pm_ex_def h, hop]
  exact h1
theorem pe_nil {f : pm_F} {nx : Nat} (hn : b + 1 = nx) (k : pm_to X M cf ret code nx f t) : pm_E X M cf ret code b [] f t := by
  subst hn
  exact ⟨_, rfl, k⟩
theorem pe_iconst {n : Int} {v : Int32} (hv : Int32.ofInt n = v) (k : pm_E X M cf ret code b is (L, .int v :: st, S) t) : pm_E X M cf ret code b (.iconst n :: is) (L, st, S) t := pe_step rfl rfl (by rw [hv]; exact k)
theorem pe_lconst {n : Int} {v : Int64} (hv : Int64.ofInt n = v) (k : pm_E X M cf ret code b is (L, .long v :: st, S) t) : pm_E X M cf ret code b (.goto_w n :: is) (L, st, S) t := pe_step rfl rfl (by rw [hv]; exact k)
theorem pe_null   (k : pm_E X M cf ret code b is (L, .null :: st, S) t) : pm_E X M cf ret code b (.aconst_null :: is) (L, st, S) t := pe_step rfl rfl k
theorem pe_gets {n : Nat}  (k : pm_E X M cf ret code b is (L, .ref n :: st, S) t) : pm_E X M cf ret code b (.getstatic n :: is) (L, st, S) t := pe_step rfl rfl k
theorem pe_iload {i : Nat} {x : Int32} (h : pm_ld L i = some (.int x)) (k : pm_E X M cf ret code b is (L, .int x :: st, S) t) : pm_E X M cf ret code b (.iload i :: is) (L, st, S) t := by
  refine pe_step (f' := _) rfl ?_ k
  simp only [pm_op, pm_load, h]
  rfl
theorem pe_lload {i : Nat} {x : Int64} (h : pm_ld L i = some (.long x)) (k : pm_E X M cf ret code b is (L, .long x :: st, S) t) : pm_E X M cf ret code b (.lload i :: is) (L, st, S) t := by
  refine pe_step (f' := _) rfl ?_ k
  simp only [pm_op, pm_load, h]
  rfl
theorem pe_aload {i a : Nat} (h : pm_ld L i = some (.ref a)) (k : pm_E X M cf ret code b is (L, .ref a :: st, S) t) : pm_E X M cf ret code b (.aload i :: is) (L, st, S) t := by
  refine pe_step (f' := _) rfl ?_ k
  simp only [pm_op, pm_load, h]
  rfl
theorem pe_aloadN {i : Nat} (h : pm_ld L i = some .null) (k : pm_E X M cf ret code b is (L, .null :: st, S) t) : pm_E X M cf ret code b (.aload i :: is) (L, st, S) t := by
  refine pe_step (f' := _) rfl ?_ k
  simp only [pm_op, pm_load, h]
  rfl
theorem pe_istore {i : Nat} {x : Int32} (h : pm_st L i (.int x) = some L') (k : pm_E X M cf ret code b is (L', st, S) t) : pm_E X M cf ret code b (.istore i :: is) (L, .int x :: st, S) t := by
  refine pe_step (f' := _) rfl ?_ k
  simp only [pm_op, pm_store, pm_isI, pm_isL, pm_isA, if_true, h]
theorem pe_lstore {i : Nat} {x : Int64} (h : pm_st L i (.long x) = some L') (k : pm_E X M cf ret code b is (L', st, S) t) : pm_E X M cf ret code b (.lstore i :: is) (L, .long x :: st, S) t := by
  refine pe_step (f' := _) rfl ?_ k
  simp only [pm_op, pm_store, pm_isI, pm_isL, pm_isA, if_true, h]
theorem pe_astore {i a : Nat} (h : pm_st L i (.ref a) = some L') (k : pm_E X M cf ret code b is (L', st, S) t) : pm_E X M cf ret code b (.astore i :: is) (L, .ref a :: st, S) t := by
  refine pe_step (f' := _) rfl ?_ k
  simp only [pm_op, pm_store, pm_isI, pm_isL, pm_isA, if_true, h]
theorem pe_astoreN {i : Nat} (h : pm_st L i .null = some L') (k : pm_E X M cf ret code b is (L', st, S) t) : pm_E X M cf ret code b (.astore i :: is) (L, .null :: st, S) t := by
  refine pe_step (f' := _) rfl ?_ k
  simp only [pm_op, pm_store, pm_isI, pm_isL, pm_isA, if_true, h]
theorem pe_iinc {i : Nat} {n : Int} {x v : Int32} (h : pm_ld L i = some (.int x)) (hv : x + Int32.ofInt n = v) (h2 : pm_st L i (.int v) = some L') (k : pm_E X M cf ret code b is (L', st, S) t) : pm_E X M cf ret code b (.iinc i n :: is) (L, st, S) t := by
  refine pe_step (f' := _) rfl ?_ k
  simp only [pm_op, pm_iinc, h, hv, h2]
theorem pe_iadd {x y : Int32}  (k : pm_E X M cf ret code b is (L, .int (x + y) :: st, S) t) : pm_E X M cf ret code b (.iadd :: is) (L, .int y :: .int x :: st, S) t := pe_step rfl rfl k
theorem pe_isub {x y : Int32}  (k : pm_E X M cf ret code b is (L, .int (x - y) :: st, S) t) : pm_E X M cf ret code b (.isub :: is) (L, .int y :: .int x :: st, S) t := pe_step rfl rfl k
theorem pe_imul {x y : Int32}  (k : pm_E X M cf ret code b is (L, .int (x * y) :: st, S) t) : pm_E X M cf ret code b (.imul :: is) (L, .int y :: .int x :: st, S) t := pe_step rfl rfl k
theorem pe_iand {x y : Int32}  (k : pm_E X M cf ret code b is (L, .int (x &&& y) :: st, S) t) : pm_E X M cf ret code b (.iand :: is) (L, .int y :: .int x :: st, S) t := pe_step rfl rfl k
theorem pe_ior {x y : Int32}  (k : pm_E X M cf ret code b is (L, .int (x ||| y) :: st, S) t) : pm_E X M cf ret code b (.ior :: is) (L, .int y :: .int x :: st, S) t := pe_step rfl rfl k
theorem pe_ixor {x y : Int32}  (k : pm_E X M cf ret code b is (L, .int (x ^^^ y) :: st, S) t) : pm_E X M cf ret code b (.ixor :: is) (L, .int y :: .int x :: st, S) t := pe_step rfl rfl k
theorem pe_ishl {x y : Int32}  (k : pm_E X M cf ret code b is (L, .int (x <<< (y &&& 31)) :: st, S) t) : pm_E X M cf ret code b (.ishl :: is) (L, .int y :: .int x :: st, S) t := pe_step rfl rfl k
theorem pe_ishr {x y : Int32}  (k : pm_E X M cf ret code b is (L, .int (x >>> (y &&& 31)) :: st, S) t) : pm_E X M cf ret code b (.ishr :: is) (L, .int y :: .int x :: st, S) t := pe_step rfl rfl k
theorem pe_iushr {x y : Int32}  (k : pm_E X M cf ret code b is (L, .int ((x.toUInt32 >>> (y.toUInt32 &&& Int32.toUInt32 31)).toInt32) :: st, S) t) : pm_E X M cf ret code b (.iushr :: is) (L, .int y :: .int x :: st, S) t := pe_step rfl rfl k
theorem pe_idiv {x y : Int32} (h : ¬ y = 0) (k : pm_E X M cf ret code b is (L, .int (x / y) :: st, S) t) : pm_E X M cf ret code b (.idiv :: is) (L, .int y :: .int x :: st, S) t := by
  refine pe_step (f' := _) rfl ?_ k
  simp only [pm_op, pm_b2, h, if_false]
theorem pe_irem {x y : Int32} (h : ¬ y = 0) (k : pm_E X M cf ret code b is (L, .int (x - x / y * y) :: st, S) t) : pm_E X M cf ret code b (.irem :: is) (L, .int y :: .int x :: st, S) t := by
  refine pe_step (f' := _) rfl ?_ k
  simp only [pm_op, pm_b2, h, if_false]
theorem pe_ineg {x : Int32}  (k : pm_E X M cf ret code b is (L, .int (-x) :: st, S) t) : pm_E X M cf ret code b (.ineg :: is) (L, .int x :: st, S) t := pe_step rfl rfl k
theorem pe_i2l {x : Int32}  (k : pm_E X M cf ret code b is (L, .long x.toInt64 :: st, S) t) : pm_E X M cf ret code b (.i2l :: is) (L, .int x :: st, S) t := pe_step rfl rfl k
theorem pe_i2b {x : Int32}  (k : pm_E X M cf ret code b is (L, .int x.toInt8.toInt32 :: st, S) t) : pm_E X M cf ret code b (.i2b :: is) (L, .int x :: st, S) t := pe_step rfl rfl k
theorem pe_i2s {x : Int32}  (k : pm_E X M cf ret code b is (L, .int x.toInt16.toInt32 :: st, S) t) : pm_E X M cf ret code b (.i2s :: is) (L, .int x :: st, S) t := pe_step rfl rfl k
theorem pe_l2i {x : Int64}  (k : pm_E X M cf ret code b is (L, .int x.toInt32 :: st, S) t) : pm_E X M cf ret code b (.l2i :: is) (L, .long x :: st, S) t := pe_step rfl rfl k
theorem pe_ladd {x y : Int64}  (k : pm_E X M cf ret code b is (L, .long (x + y) :: st, S) t) : pm_E X M cf ret code b (.ladd :: is) (L, .long y :: .long x :: st, S) t := pe_step rfl rfl k
theorem pe_lmul {x y : Int64}  (k : pm_E X M cf ret code b is (L, .long (x * y) :: st, S) t) : pm_E X M cf ret code b (.lmul :: is) (L, .long y :: .long x :: st, S) t := pe_step rfl rfl k
theorem pe_lcmp {x y : Int64}  (k : pm_E X M cf ret code b is (L, .int (lg_cmp x y) :: st, S) t) : pm_E X M cf ret code b (.lcmp :: is) (L, .long y :: .long x :: st, S) t := pe_step rfl rfl k
theorem pe_dup {v : Value} (h : v.category = 1) (k : pm_E X M cf ret code b is (L, v :: v :: st, S) t) : pm_E X M cf ret code b (.dup :: is) (L, v :: st, S) t := by
  refine pe_step (f' := _) rfl ?_ k
  simp only [pm_op, pm_dup, h, if_true]
theorem pe_dup2 {v w : Value} (h : v.category = 1) (h2 : w.category = 1) (k : pm_E X M cf ret code b is (L, v :: w :: v :: w :: st, S) t) : pm_E X M cf ret code b (.dup2 :: is) (L, v :: w :: st, S) t := by
  refine pe_step (f' := _) rfl ?_ k
  simp only [pm_op, pm_dup2, h, h2, and_self, if_true]
theorem pe_pop {v : Value} (h : v.category = 1) (k : pm_E X M cf ret code b is (L, st, S) t) : pm_E X M cf ret code b (.pop :: is) (L, v :: st, S) t := by
  refine pe_step (f' := _) rfl ?_ k
  simp only [pm_op, pm_pop, h, if_true]
theorem pe_pop2 {x : Int64}  (k : pm_E X M cf ret code b is (L, st, S) t) : pm_E X M cf ret code b (.pop2 :: is) (L, .long x :: st, S) t := pe_step rfl rfl k
theorem pe_max {x y : Int32} (h : (st.map fun v => v.category).sum ≤ 8) (k : pm_E X M cf ret code b is (L, .int (if x < y then y else x) :: st, S) t) : pm_E X M cf ret code b (.dup_x1 :: is) (L, .int y :: .int x :: st, S) t := by
  refine pe_step (f' := _) rfl ?_ k
  simp only [pm_op, pm_mm, h, if_true]
theorem pe_min {x y : Int32} (h : (st.map fun v => v.category).sum ≤ 8) (k : pm_E X M cf ret code b is (L, .int (if y < x then y else x) :: st, S) t) : pm_E X M cf ret code b (.dup_x2 :: is) (L, .int y :: .int x :: st, S) t := by
  refine pe_step (f' := _) rfl ?_ k
  simp only [pm_op, pm_mm, h, if_true]
theorem pe_oini {a : Nat} (h : (st.map fun v => v.category).sum ≤ 8) (k : pm_E X M cf ret code b is (L, st, S) t) : pm_E X M cf ret code b (.monitorenter :: is) (L, .ref a :: st, S) t := by
  refine pe_step (f' := _) rfl ?_ k
  simp only [pm_op, pm_oini, h, if_true]
theorem pe_iald {i : Int32} {a n : Nat} {g : Nat → Int32} (h : pm_h S a (.inl (0, n, .inl g))) (hi : vp_in i n) (k : pm_E X M cf ret code b is (L, .int (g i.toNatClampNeg) :: st, S) t) : pm_E X M cf ret code b (.iaload :: is) (L, .int i :: .ref a :: st, S) t := by
  refine pe_step (f' := _) rfl ?_ k
  unfold vp_in at hi
  simp only [pm_op, pm_iald, h.get (X := X), hi, if_false]
theorem pe_ialdX {i : Int32} {a n : Nat} {g : Nat → Int32} (h : X a = some (n, g)) (ha : a < 8) (hi : vp_in i n) (k : pm_E X M cf ret code b is (L, .int (g i.toNatClampNeg) :: st, S) t) : pm_E X M cf ret code b (.iaload :: is) (L, .int i :: .ref a :: st, S) t := by
  refine pe_step (f' := _) rfl ?_ k
  unfold vp_in at hi
  have hg : pm_get X S.1 a = some (.inl (0, n, .inl g)) := by unfold pm_get; rw [if_pos ha, h]; rfl
  simp only [pm_op, pm_iald, hg, hi, if_false]
theorem pe_lald {i : Int32} {a n : Nat} {g : Nat → Int64} (h : pm_h S a (.inl (1, n, .inr (.inl g)))) (hi : vp_in i n) (k : pm_E X M cf ret code b is (L, .long (g i.toNatClampNeg) :: st, S) t) : pm_E X M cf ret code b (.laload :: is) (L, .int i :: .ref a :: st, S) t := by
  refine pe_step (f' := _) rfl ?_ k
  unfold vp_in at hi
  simp only [pm_op, pm_lald, h.get (X := X), hi, if_false]
theorem pe_aald {i : Int32} {a n ty : Nat} {g : Nat → Option Nat} {v : Value} (h : pm_h S a (.inl (ty, n, .inr (.inr (.inr (.inr g)))))) (hty : 2 ≤ ty ∧ ty < 5) (hi : vp_in i n) (hv : va_rf (g i.toNatClampNeg) = v) (k : pm_E X M cf ret code b is (L, v :: st, S) t) : pm_E X M cf ret code b (.aaload :: is) (L, .int i :: .ref a :: st, S) t := by
  refine pe_step (f' := _) rfl ?_ k
  unfold vp_in at hi
  subst hv
  simp only [pm_op, pm_aald, h.get (X := X), hi, hty, and_self, if_true, if_false]
theorem pe_iast {x i : Int32} {a n : Nat} {g : Nat → Int32} (h : pm_h S a (.inl (0, n, .inl g))) (hi : vp_in i n) (k : pm_E X M cf ret code b is (L, st, pm_put S a (.inl (0, n, .inl (upd g i.toNatClampNeg x)))) t) : pm_E X M cf ret code b (.iastore :: is) (L, .int x :: .int i :: .ref a :: st, S) t := by
  refine pe_step (f' := _) rfl ?_ k
  have := h.1
  have h8 : ¬ a < 8 := by omega
  simp only [pm_op, pm_iast, h8, h.get (X := X), if_false]
  unfold vp_in at hi
  simp only [hi, if_false]
  rfl
theorem pe_last {x : Int64} {i : Int32} {a n : Nat} {g : Nat → Int64} (h : pm_h S a (.inl (1, n, .inr (.inl g)))) (hi : vp_in i n) (k : pm_E X M cf ret code b is (L, st, pm_put S a (.inl (1, n, .inr (.inl (vp_updL g i.toNatClampNeg x))))) t) : pm_E X M cf ret code b (.lastore :: is) (L, .long x :: .int i :: .ref a :: st, S) t := by
  refine pe_step (f' := _) rfl ?_ k
  have := h.1
  have h8 : ¬ a < 8 := by omega
  simp only [pm_op, pm_last, h8, h.get (X := X), if_false]
  unfold vp_in at hi
  simp only [hi, if_false]
  rfl
theorem pe_aast {v a n ty ci : Nat} {i : Int32} {g : Nat → Option Nat} {fs : List Value} (h : pm_h S a (.inl (ty, n, .inr (.inr (.inr (.inr g)))))) (hv : pm_h S v (.inr (ci, fs))) (hty : 2 ≤ ty ∧ ty < 5 ∧ ci = pm_ac ty) (hi : vp_in i n) (k : pm_E X M cf ret code b is (L, st, pm_put S a (.inl (ty, n, .inr (.inr (.inr (.inr (va_up g i.toNatClampNeg (some v)))))))) t) : pm_E X M cf ret code b (.aastore :: is) (L, .ref v :: .int i :: .ref a :: st, S) t := by
  refine pe_step (f' := _) rfl ?_ k
  have := h.1
  have := hv.1
  have h8 : ¬ (a < 8 ∨ v < 8) := by omega
  unfold vp_in at hi
  simp only [pm_op, pm_aast, h8, h.get (X := X), hv.get (X := X), if_false]
  rw [if_pos hty, if_neg hi]
  rfl
theorem pe_alen {a n : Nat} {k0 : (Nat → Int32) ⊕ (Nat → Int64) ⊕ (Nat → UInt32) ⊕ (Nat → UInt64) ⊕ (Nat → Option Nat)} (h : pm_h S a (.inl (0, n, k0))) (k : pm_E X M cf ret code b is (L, .int (Int32.ofNat n) :: st, S) t) : pm_E X M cf ret code b (.arraylength :: is) (L, .ref a :: st, S) t := by
  refine pe_step (f' := _) rfl ?_ k
  simp only [pm_op, pm_alen, h.get (X := X)]
theorem pe_alenX {a n : Nat} {g : Nat → Int32} (h : X a = some (n, g)) (ha : a < 8) (k : pm_E X M cf ret code b is (L, .int (Int32.ofNat n) :: st, S) t) : pm_E X M cf ret code b (.arraylength :: is) (L, .ref a :: st, S) t := by
  refine pe_step (f' := _) rfl ?_ k
  have hg : pm_get X S.1 a = some (.inl (0, n, .inl g)) := by unfold pm_get; rw [if_pos ha, h]; rfl
  simp only [pm_op, pm_alen, hg]
theorem pe_getf {n a ci : Nat} {fs : List Value} {v : Value} (h : pm_h S a (.inr (ci, fs))) (hc : ci = n / 64) (hv : fs[n % 64]? = some v) (k : pm_E X M cf ret code b is (L, v :: st, S) t) : pm_E X M cf ret code b (.getfield n :: is) (L, .ref a :: st, S) t := by
  refine pe_step (f' := _) rfl ?_ k
  have := h.1
  have h8 : ¬ a < 8 := by omega
  simp only [pm_op, pm_getf, h8, h.get (X := X), hc, hv, if_false, if_true]
theorem pe_putf {n a ci : Nat} {fs fs' : List Value} {v : Value} (h : pm_h S a (.inr (ci, fs))) (hc : ci = n / 64) (hl : n % 64 < fs.length) (hf : pm_fit (pm_ty (n / 64) (n % 64)) v = true) (he : fs.set (n % 64) v = fs') (k : pm_E X M cf ret code b is (L, st, pm_put S a (.inr (ci, fs'))) t) : pm_E X M cf ret code b (.putfield n :: is) (L, v :: .ref a :: st, S) t := by
  refine pe_step (f' := _) rfl ?_ k
  have := h.1
  have h8 : ¬ a < 8 := by omega
  simp only [pm_op, pm_putf, h8, h.get (X := X), hl, hf, if_false]
  rw [if_pos ⟨hc, trivial, trivial⟩, he]
  rfl
theorem pe_new {ci a : Nat} {fs : List Value} (hci : ci < 11) (ha : 8 + S.1.length = a) (hfs : pm_blank ci = fs) (k : pm_E X M cf ret code b is (L, .ref a :: st, (S.1 ++ [.inr (ci, fs)], S.2 + pm_N ci)) t) : pm_E X M cf ret code b (.new ci :: is) (L, st, S) t := by
  refine pe_step (f' := _) rfl ?_ k
  simp only [pm_op, pm_new, hci, if_true, ha, hfs]
theorem pe_newai {n : Int32} {a : Nat} (hn : ¬ (n < 0 ∨ 100000 ≤ n.toNatClampNeg)) (ha : 8 + S.1.length = a) (k : pm_E X M cf ret code b is (L, .ref a :: st, (S.1 ++ [.inl (0, n.toNatClampNeg, .inl (fun _ => 0))], S.2 + n.toNatClampNeg)) t) : pm_E X M cf ret code b (.newarray .int :: is) (L, .int n :: st, S) t := by
  refine pe_step (f' := _) rfl ?_ k
  simp only [pm_op, pm_newa, hn, if_false, ha]
theorem pe_copy {n dp sp : Int32} {a a0 n0 n1 : Nat} {g0 g1 : Nat → Int32} (hs : (st.map fun v => v.category).sum ≤ 8) (h0 : pm_get X S.1 a0 = some (.inl (0, n0, .inl g0))) (h : pm_h S a (.inl (0, n1, .inl g1))) (hi : ¬ (sp < 0 ∨ dp < 0 ∨ n < 0 ∨ n0 < sp.toNatClampNeg + n.toNatClampNeg ∨ n1 < dp.toNatClampNeg + n.toNatClampNeg)) (k : pm_E X M cf ret code b is (L, st, pm_put S a (.inl (0, n1, .inl (va_cpy g0 g1 sp.toNatClampNeg dp.toNatClampNeg n.toNatClampNeg)))) t) : pm_E X M cf ret code b (.swap :: is) (L, .int n :: .int dp :: .ref a :: .int sp :: .ref a0 :: st, S) t := by
  refine pe_step (f' := _) rfl ?_ k
  have := h.1
  have h8 : ¬ (a < 8 ∨ 8 < (st.map fun v => v.category).sum) := by omega
  simp only [pm_op, pm_copy, h8, h0, h.get (X := X), if_false]
  rw [if_neg hi]
  rfl
theorem pe_goto {tt : Int} {tgt : Nat} {f : pm_F} (ht : tt.toNat = tgt) (k : pm_to X M cf ret code tgt f t) : pm_E X M cf ret code b (.goto tt :: is) f t := ⟨_, rfl, by rw [← ht] at k; exact k⟩
theorem pe_if_eq {x : Int32} {tt : Int} {tgt nx : Nat} (ht : tt.toNat = tgt) (hn : b + 1 = nx) (k1 : x = 0 → pm_to X M cf ret code tgt (L, st, S) t) (k2 : ¬ (x = 0) → pm_to X M cf ret code nx (L, st, S) t) : pm_E X M cf ret code b (.ifCond .eq tt :: is) (L, .int x :: st, S) t := by
  subst ht; subst hn
  by_cases hc : x = 0
  · exact ⟨.inl (tt.toNat, (L, st, S)), (by show (if pm_cond .eq x 0 = true then _ else _) = _; rw [if_pos (show pm_cond .eq x 0 = true from decide_eq_true hc)]), k1 hc⟩
  · exact ⟨.inl (b + 1, (L, st, S)), (by show (if pm_cond .eq x 0 = true then _ else _) = _; rw [if_neg (fun z : pm_cond .eq x 0 = true => hc (of_decide_eq_true z))]), k2 hc⟩
theorem pe_icmp_eq {x y : Int32} {tt : Int} {tgt nx : Nat} (ht : tt.toNat = tgt) (hn : b + 1 = nx) (k1 : x = y → pm_to X M cf ret code tgt (L, st, S) t) (k2 : ¬ (x = y) → pm_to X M cf ret code nx (L, st, S) t) : pm_E X M cf ret code b (.if_icmp .eq tt :: is) (L, .int y :: .int x :: st, S) t := by
  subst ht; subst hn
  by_cases hc : x = y
  · exact ⟨.inl (tt.toNat, (L, st, S)), (by show (if pm_cond .eq x y = true then _ else _) = _; rw [if_pos (show pm_cond .eq x y = true from decide_eq_true hc)]), k1 hc⟩
  · exact ⟨.inl (b + 1, (L, st, S)), (by show (if pm_cond .eq x y = true then _ else _) = _; rw [if_neg (fun z : pm_cond .eq x y = true => hc (of_decide_eq_true z))]), k2 hc⟩
theorem pe_if_ne {x : Int32} {tt : Int} {tgt nx : Nat} (ht : tt.toNat = tgt) (hn : b + 1 = nx) (k1 : ¬ x = 0 → pm_to X M cf ret code tgt (L, st, S) t) (k2 : ¬ (¬ x = 0) → pm_to X M cf ret code nx (L, st, S) t) : pm_E X M cf ret code b (.ifCond .ne tt :: is) (L, .int x :: st, S) t := by
  subst ht; subst hn
  by_cases hc : ¬ x = 0
  · exact ⟨.inl (tt.toNat, (L, st, S)), (by show (if pm_cond .ne x 0 = true then _ else _) = _; rw [if_pos (show pm_cond .ne x 0 = true from decide_eq_true hc)]), k1 hc⟩
  · exact ⟨.inl (b + 1, (L, st, S)), (by show (if pm_cond .ne x 0 = true then _ else _) = _; rw [if_neg (fun z : pm_cond .ne x 0 = true => hc (of_decide_eq_true z))]), k2 hc⟩
theorem pe_icmp_ne {x y : Int32} {tt : Int} {tgt nx : Nat} (ht : tt.toNat = tgt) (hn : b + 1 = nx) (k1 : ¬ x = y → pm_to X M cf ret code tgt (L, st, S) t) (k2 : ¬ (¬ x = y) → pm_to X M cf ret code nx (L, st, S) t) : pm_E X M cf ret code b (.if_icmp .ne tt :: is) (L, .int y :: .int x :: st, S) t := by
  subst ht; subst hn
  by_cases hc : ¬ x = y
  · exact ⟨.inl (tt.toNat, (L, st, S)), (by show (if pm_cond .ne x y = true then _ else _) = _; rw [if_pos (show pm_cond .ne x y = true from decide_eq_true hc)]), k1 hc⟩
  · exact ⟨.inl (b + 1, (L, st, S)), (by show (if pm_cond .ne x y = true then _ else _) = _; rw [if_neg (fun z : pm_cond .ne x y = true => hc (of_decide_eq_true z))]), k2 hc⟩
theorem pe_if_lt {x : Int32} {tt : Int} {tgt nx : Nat} (ht : tt.toNat = tgt) (hn : b + 1 = nx) (k1 : x < 0 → pm_to X M cf ret code tgt (L, st, S) t) (k2 : ¬ (x < 0) → pm_to X M cf ret code nx (L, st, S) t) : pm_E X M cf ret code b (.ifCond .lt tt :: is) (L, .int x :: st, S) t := by
  subst ht; subst hn
  by_cases hc : x < 0
  · exact ⟨.inl (tt.toNat, (L, st, S)), (by show (if pm_cond .lt x 0 = true then _ else _) = _; rw [if_pos (show pm_cond .lt x 0 = true from decide_eq_true hc)]), k1 hc⟩
  · exact ⟨.inl (b + 1, (L, st, S)), (by show (if pm_cond .lt x 0 = true then _ else _) = _; rw [if_neg (fun z : pm_cond .lt x 0 = true => hc (of_decide_eq_true z))]), k2 hc⟩
theorem pe_icmp_lt {x y : Int32} {tt : Int} {tgt nx : Nat} (ht : tt.toNat = tgt) (hn : b + 1 = nx) (k1 : x < y → pm_to X M cf ret code tgt (L, st, S) t) (k2 : ¬ (x < y) → pm_to X M cf ret code nx (L, st, S) t) : pm_E X M cf ret code b (.if_icmp .lt tt :: is) (L, .int y :: .int x :: st, S) t := by
  subst ht; subst hn
  by_cases hc : x < y
  · exact ⟨.inl (tt.toNat, (L, st, S)), (by show (if pm_cond .lt x y = true then _ else _) = _; rw [if_pos (show pm_cond .lt x y = true from decide_eq_true hc)]), k1 hc⟩
  · exact ⟨.inl (b + 1, (L, st, S)), (by show (if pm_cond .lt x y = true then _ else _) = _; rw [if_neg (fun z : pm_cond .lt x y = true => hc (of_decide_eq_true z))]), k2 hc⟩
theorem pe_if_ge {x : Int32} {tt : Int} {tgt nx : Nat} (ht : tt.toNat = tgt) (hn : b + 1 = nx) (k1 : 0 ≤ x → pm_to X M cf ret code tgt (L, st, S) t) (k2 : ¬ (0 ≤ x) → pm_to X M cf ret code nx (L, st, S) t) : pm_E X M cf ret code b (.ifCond .ge tt :: is) (L, .int x :: st, S) t := by
  subst ht; subst hn
  by_cases hc : 0 ≤ x
  · exact ⟨.inl (tt.toNat, (L, st, S)), (by show (if pm_cond .ge x 0 = true then _ else _) = _; rw [if_pos (show pm_cond .ge x 0 = true from decide_eq_true hc)]), k1 hc⟩
  · exact ⟨.inl (b + 1, (L, st, S)), (by show (if pm_cond .ge x 0 = true then _ else _) = _; rw [if_neg (fun z : pm_cond .ge x 0 = true => hc (of_decide_eq_true z))]), k2 hc⟩
theorem pe_icmp_ge {x y : Int32} {tt : Int} {tgt nx : Nat} (ht : tt.toNat = tgt) (hn : b + 1 = nx) (k1 : y ≤ x → pm_to X M cf ret code tgt (L, st, S) t) (k2 : ¬ (y ≤ x) → pm_to X M cf ret code nx (L, st, S) t) : pm_E X M cf ret code b (.if_icmp .ge tt :: is) (L, .int y :: .int x :: st, S) t := by
  subst ht; subst hn
  by_cases hc : y ≤ x
  · exact ⟨.inl (tt.toNat, (L, st, S)), (by show (if pm_cond .ge x y = true then _ else _) = _; rw [if_pos (show pm_cond .ge x y = true from decide_eq_true hc)]), k1 hc⟩
  · exact ⟨.inl (b + 1, (L, st, S)), (by show (if pm_cond .ge x y = true then _ else _) = _; rw [if_neg (fun z : pm_cond .ge x y = true => hc (of_decide_eq_true z))]), k2 hc⟩
theorem pe_if_gt {x : Int32} {tt : Int} {tgt nx : Nat} (ht : tt.toNat = tgt) (hn : b + 1 = nx) (k1 : 0 < x → pm_to X M cf ret code tgt (L, st, S) t) (k2 : ¬ (0 < x) → pm_to X M cf ret code nx (L, st, S) t) : pm_E X M cf ret code b (.ifCond .gt tt :: is) (L, .int x :: st, S) t := by
  subst ht; subst hn
  by_cases hc : 0 < x
  · exact ⟨.inl (tt.toNat, (L, st, S)), (by show (if pm_cond .gt x 0 = true then _ else _) = _; rw [if_pos (show pm_cond .gt x 0 = true from decide_eq_true hc)]), k1 hc⟩
  · exact ⟨.inl (b + 1, (L, st, S)), (by show (if pm_cond .gt x 0 = true then _ else _) = _; rw [if_neg (fun z : pm_cond .gt x 0 = true => hc (of_decide_eq_true z))]), k2 hc⟩
theorem pe_icmp_gt {x y : Int32} {tt : Int} {tgt nx : Nat} (ht : tt.toNat = tgt) (hn : b + 1 = nx) (k1 : y < x → pm_to X M cf ret code tgt (L, st, S) t) (k2 : ¬ (y < x) → pm_to X M cf ret code nx (L, st, S) t) : pm_E X M cf ret code b (.if_icmp .gt tt :: is) (L, .int y :: .int x :: st, S) t := by
  subst ht; subst hn
  by_cases hc : y < x
  · exact ⟨.inl (tt.toNat, (L, st, S)), (by show (if pm_cond .gt x y = true then _ else _) = _; rw [if_pos (show pm_cond .gt x y = true from decide_eq_true hc)]), k1 hc⟩
  · exact ⟨.inl (b + 1, (L, st, S)), (by show (if pm_cond .gt x y = true then _ else _) = _; rw [if_neg (fun z : pm_cond .gt x y = true => hc (of_decide_eq_true z))]), k2 hc⟩
theorem pe_if_le {x : Int32} {tt : Int} {tgt nx : Nat} (ht : tt.toNat = tgt) (hn : b + 1 = nx) (k1 : x ≤ 0 → pm_to X M cf ret code tgt (L, st, S) t) (k2 : ¬ (x ≤ 0) → pm_to X M cf ret code nx (L, st, S) t) : pm_E X M cf ret code b (.ifCond .le tt :: is) (L, .int x :: st, S) t := by
  subst ht; subst hn
  by_cases hc : x ≤ 0
  · exact ⟨.inl (tt.toNat, (L, st, S)), (by show (if pm_cond .le x 0 = true then _ else _) = _; rw [if_pos (show pm_cond .le x 0 = true from decide_eq_true hc)]), k1 hc⟩
  · exact ⟨.inl (b + 1, (L, st, S)), (by show (if pm_cond .le x 0 = true then _ else _) = _; rw [if_neg (fun z : pm_cond .le x 0 = true => hc (of_decide_eq_true z))]), k2 hc⟩
theorem pe_icmp_le {x y : Int32} {tt : Int} {tgt nx : Nat} (ht : tt.toNat = tgt) (hn : b + 1 = nx) (k1 : x ≤ y → pm_to X M cf ret code tgt (L, st, S) t) (k2 : ¬ (x ≤ y) → pm_to X M cf ret code nx (L, st, S) t) : pm_E X M cf ret code b (.if_icmp .le tt :: is) (L, .int y :: .int x :: st, S) t := by
  subst ht; subst hn
  by_cases hc : x ≤ y
  · exact ⟨.inl (tt.toNat, (L, st, S)), (by show (if pm_cond .le x y = true then _ else _) = _; rw [if_pos (show pm_cond .le x y = true from decide_eq_true hc)]), k1 hc⟩
  · exact ⟨.inl (b + 1, (L, st, S)), (by show (if pm_cond .le x y = true then _ else _) = _; rw [if_neg (fun z : pm_cond .le x y = true => hc (of_decide_eq_true z))]), k2 hc⟩
theorem pe_null_t {tt : Int} {tgt : Nat} (ht : tt.toNat = tgt) (k : pm_to X M cf ret code tgt (L, st, S) t) : pm_E X M cf ret code b (.ifnull tt :: is) (L, .null :: st, S) t := ⟨_, rfl, by rw [← ht] at k; exact k⟩
theorem pe_null_f {tt : Int} {a nx : Nat} (hn : b + 1 = nx) (k : pm_to X M cf ret code nx (L, st, S) t) : pm_E X M cf ret code b (.ifnull tt :: is) (L, .ref a :: st, S) t := ⟨_, rfl, by rw [← hn] at k; exact k⟩
theorem pe_nonnull_t {tt : Int} {a tgt : Nat} (ht : tt.toNat = tgt) (k : pm_to X M cf ret code tgt (L, st, S) t) : pm_E X M cf ret code b (.ifnonnull tt :: is) (L, .ref a :: st, S) t := ⟨_, rfl, by rw [← ht] at k; exact k⟩
theorem pe_nonnull_f {tt : Int} {nx : Nat} (hn : b + 1 = nx) (k : pm_to X M cf ret code nx (L, st, S) t) : pm_E X M cf ret code b (.ifnonnull tt :: is) (L, .null :: st, S) t := ⟨_, rfl, by rw [← hn] at k; exact k⟩
theorem pe_table {d lo hi tt : Int} {offs : Array Int} {x : Int32} {tgt : Nat} (h : pm_tab d lo hi offs x = some tt) (ht : tt.toNat = tgt) (k : pm_to X M cf ret code tgt (L, st, S) t) : pm_E X M cf ret code b (.tableswitch d lo hi offs :: is) (L, .int x :: st, S) t := by
  subst ht
  refine ⟨.inl (tt.toNat, (L, st, S)), ?_, k⟩
  simp only [pm_ex, h]
theorem pe_lookup {d : Int} {ps : Array (Int × Int)} {x : Int32} {tgt : Nat} (ht : (Op.lookupswitch.offset ps.toList d x.toInt).toNat = tgt) (k : pm_to X M cf ret code tgt (L, st, S) t) : pm_E X M cf ret code b (.lookupswitch d ps :: is) (L, .int x :: st, S) t := ⟨_, rfl, by rw [← ht] at k; exact k⟩
theorem pe_iret {x : Int32} (h : pm_ret ret (.int x) = true) (ht : (some (.int x), S) = t) : pm_E X M cf ret code b (.ireturn :: is) (L, [.int x], S) t := ⟨.inr (some (.int x), S), by simp only [pm_ex, h, if_true], ht⟩
theorem pe_lret {x : Int64} (h : ret = some .long) (ht : (some (.long x), S) = t) : pm_E X M cf ret code b (.lreturn :: is) (L, [.long x], S) t := ⟨.inr (some (.long x), S), by simp only [pm_ex, h, if_true], ht⟩
theorem pe_aret {v : Value} (h : pm_isA v = true ∧ pm_ret ret v = true) (ht : (some v, S) = t) : pm_E X M cf ret code b (.areturn :: is) (L, [v], S) t := ⟨.inr (some v, S), by simp only [pm_ex, h, and_self, if_true], ht⟩
theorem pe_ret (h : ret = none) (ht : (none, S) = t) : pm_E X M cf ret code b (.return_ :: is) (L, [], S) t := ⟨.inr (none, S), by simp only [pm_ex, h, if_true], ht⟩
theorem pe_static {mid : Nat} {q : Nat × Nat} {as rest : List Value} {r : Option Value} {S' : pm_S} (hs : pm_sig M mid = some q) (hi : pm_inv q.1 false st = some (as, rest)) (hc : cf mid as S = some (r, S')) (k : pm_E X M cf ret code b is (L, r.toList ++ rest, S') t) : pm_E X M cf ret code b (.invokestatic mid :: is) (L, st, S) t := by
  obtain ⟨o, h1, h2⟩ := k
  refine ⟨o, ?_, h2⟩
  simp only [pm_ex, hs, hi, hc]
  exact h1
theorem pe_virt {mid a ci : Nat} {q : Nat × Nat} {as rest fs : List Value} {r : Option Value} {S' : pm_S} (hs : pm_sig M mid = some q) (hi : pm_inv q.1 true st = some (.ref a :: as, rest)) (hr : pm_h S a (.inr (ci, fs))) (hq : q.2 = ci) (hc : cf mid (.ref a :: as) S = some (r, S')) (k : pm_E X M cf ret code b is (L, r.toList ++ rest, S') t) : pm_E X M cf ret code b (.invokevirtual mid :: is) (L, st, S) t := by
  obtain ⟨o, h1, h2⟩ := k
  refine ⟨o, ?_, h2⟩
  have h8 : ¬ a < 8 := by have := hr.1; omega
  have hrc : pm_rcv X S.1 q.2 (.ref a :: as) = true := by simp only [pm_rcv, h8, if_false, hr.get (X := X), hq, beq_self_eq_true]
  simp only [pm_ex, hs, hi, hrc, if_true, hc]
  exact h1
theorem pe_spec {mid a : Nat} {q : Nat × Nat} {as rest : List Value} {r : Option Value} {S' : pm_S} (hs : pm_sig M mid = some q) (hi : pm_inv q.1 true st = some (.ref a :: as, rest)) (hc : cf mid (.ref a :: as) S = some (r, S')) (k : pm_E X M cf ret code b is (L, r.toList ++ rest, S') t) : pm_E X M cf ret code b (.invokespecial mid :: is) (L, st, S) t := by
  obtain ⟨o, h1, h2⟩ := k
  refine ⟨o, ?_, h2⟩
  simp only [pm_ex, hs, hi, pm_isR, if_true, hc]
  exact h1
end
end
section
/-! the reference: its object, and its smallest methods -/
def bI (p : Prop) [Decidable p] : Int32 := if p then 1 else 0
theorem bI_t {p : Prop} [Decidable p] (h : p) : bI p = 1 := if_pos h
theorem bI_f {p : Prop} [Decidable p] (h : ¬ p) : bI p = 0 := if_neg h
theorem bI_ne {p : Prop} [Decidable p] : ¬ bI p = 0 ↔ p := by
  unfold bI
  split <;> rename_i h <;> simp [h]
theorem vi {i : Int32} {n : Nat} (h : decide (i < 0 ∨ n ≤ i.toNatClampNeg) = false) : vp_in i n := of_decide_eq_false h
/-- the reference's object (cell 163), by its numbers -/
def mo (i : Nat → Int32) : List Value := [.int (i 0), .ref 164, .ref 165, .int (i 3), .ref 166, .ref 167, .ref 168, .ref 169, .ref 170, .ref 171, .ref 172, .int (i 11), .int (i 12), .int (i 13), .int (i 14), .int (i 15), .int (i 16), .ref 173, .ref 174, .ref 175, .ref 176, .ref 177, .ref 178, .ref 179, .ref 180, .ref 181, .int (i 26), .int (i 27), .int (i 28), .int (i 29), .int (i 30), .int (i 31), .ref 182, .int (i 33), .int (i 34), .int (i 35), .ref 183, .ref 184, .ref 185, .ref 186, .ref 187, .ref 188, .ref 189, .ref 190, .ref 191, .int (i 45), .ref 192, .ref 193, .ref 194, .ref 195, .ref 196, .ref 197, .ref 198, .ref 199, .ref 200, .ref 201, .ref 202]
theorem mo_set0 (i : Nat → Int32) (v : Int32) : (mo i).set 0 (.int v) = mo (upd i 0 v) := rfl
theorem mo_set3 (i : Nat → Int32) (v : Int32) : (mo i).set 3 (.int v) = mo (upd i 3 v) := rfl
theorem mo_set11 (i : Nat → Int32) (v : Int32) : (mo i).set 11 (.int v) = mo (upd i 11 v) := rfl
theorem mo_set12 (i : Nat → Int32) (v : Int32) : (mo i).set 12 (.int v) = mo (upd i 12 v) := rfl
theorem mo_set13 (i : Nat → Int32) (v : Int32) : (mo i).set 13 (.int v) = mo (upd i 13 v) := rfl
theorem mo_set14 (i : Nat → Int32) (v : Int32) : (mo i).set 14 (.int v) = mo (upd i 14 v) := rfl
theorem mo_set15 (i : Nat → Int32) (v : Int32) : (mo i).set 15 (.int v) = mo (upd i 15 v) := rfl
theorem mo_set16 (i : Nat → Int32) (v : Int32) : (mo i).set 16 (.int v) = mo (upd i 16 v) := rfl
theorem mo_set26 (i : Nat → Int32) (v : Int32) : (mo i).set 26 (.int v) = mo (upd i 26 v) := rfl
theorem mo_set27 (i : Nat → Int32) (v : Int32) : (mo i).set 27 (.int v) = mo (upd i 27 v) := rfl
theorem mo_set28 (i : Nat → Int32) (v : Int32) : (mo i).set 28 (.int v) = mo (upd i 28 v) := rfl
theorem mo_set29 (i : Nat → Int32) (v : Int32) : (mo i).set 29 (.int v) = mo (upd i 29 v) := rfl
theorem mo_set30 (i : Nat → Int32) (v : Int32) : (mo i).set 30 (.int v) = mo (upd i 30 v) := rfl
theorem mo_set31 (i : Nat → Int32) (v : Int32) : (mo i).set 31 (.int v) = mo (upd i 31 v) := rfl
theorem mo_set33 (i : Nat → Int32) (v : Int32) : (mo i).set 33 (.int v) = mo (upd i 33 v) := rfl
theorem mo_set34 (i : Nat → Int32) (v : Int32) : (mo i).set 34 (.int v) = mo (upd i 34 v) := rfl
theorem mo_set35 (i : Nat → Int32) (v : Int32) : (mo i).set 35 (.int v) = mo (upd i 35 v) := rfl
theorem mo_set45 (i : Nat → Int32) (v : Int32) : (mo i).set 45 (.int v) = mo (upd i 45 v) := rfl
theorem ms_Model_in : pm_Ms[166]? = some md_Model_in := rfl
theorem ms_Model_isEnd : pm_Ms[171]? = some md_Model_isEnd := rfl
theorem ms_Model_isThere : pm_Ms[220]? = some md_Model_isThere := rfl
theorem ms_Model_isMember : pm_Ms[170]? = some md_Model_isMember := rfl
theorem ms_Model_isTree : pm_Ms[200]? = some md_Model_isTree := rfl
theorem ms_Model_isNumber : pm_Ms[168]? = some md_Model_isNumber := rfl
theorem ms_Model_change : pm_Ms[174]? = some md_Model_change := rfl
theorem ms_Model_set : pm_Ms[165]? = some md_Model_set := rfl
theorem ms_Desk_within : pm_Ms[111]? = some md_Desk_within := rfl
theorem ms_Desk_isEnd : pm_Ms[115]? = some md_Desk_isEnd := rfl
abbrev pm_np (PR : pm_P) : Prop := ∀ k, pm_skip k = false → PR k = none
section
variable {X : pm_X} {PR : pm_P}
theorem r_Model_in (hP : pm_np PR) {d : Nat} (hd : 1 ≤ d) (v lo hi : Int32) (S : pm_S) : pm_run X pm_Ms PR d 166 [.int v, .int lo, .int hi] S = some (some (.int (bI (lo ≤ v ∧ v ≤ hi))), S) := by
  refine pm_run_of (L := [_, _, _]) (by omega) (hP _ rfl) ms_Model_in rfl ?_
  show pm_to _ _ _ (some .boolean) cd_Model_in 0 _ _
  refine pm_to.blk rfl ?_
  refine pe_iload rfl ?_
  refine pe_iload rfl ?_
  refine pe_icmp_lt (tgt := 3) (nx := 1) rfl rfl (fun hc0 => ?_) (fun hc0 => ?_)
  · rw [bI_f (fun h => absurd h.1 (Int32.not_le.mpr hc0))]
    refine pm_to.blk rfl ?_
    refine pe_iconst (v := 0) rfl ?_
    refine pe_nil (nx := 4) rfl ?_
    refine pm_to.blk rfl ?_
    exact pe_iret rfl rfl
  · refine pm_to.blk rfl ?_
    refine pe_iload rfl ?_
    refine pe_iload rfl ?_
    refine pe_icmp_gt (tgt := 3) (nx := 2) rfl rfl (fun hc1 => ?_) (fun hc1 => ?_)
    · rw [bI_f (fun h => absurd h.2 (Int32.not_le.mpr hc1))]
      refine pm_to.blk rfl ?_
      refine pe_iconst (v := 0) rfl ?_
      refine pe_nil (nx := 4) rfl ?_
      refine pm_to.blk rfl ?_
      exact pe_iret rfl rfl
    · rw [bI_t ⟨Int32.not_lt.mp hc0, Int32.not_lt.mp hc1⟩]
      refine pm_to.blk rfl ?_
      refine pe_iconst (v := 1) rfl ?_
      refine pe_goto (tgt := 4) rfl ?_
      refine pm_to.blk rfl ?_
      exact pe_iret rfl rfl
theorem r_Desk_within (hP : pm_np PR) {d : Nat} (hd : 1 ≤ d) (v lo hi : Int32) (S : pm_S) : pm_run X pm_Ms PR d 111 [.int v, .int lo, .int hi] S = some (some (.int (bI (lo ≤ v ∧ v ≤ hi))), S) := by
  refine pm_run_of (L := [_, _, _]) (by omega) (hP _ rfl) ms_Desk_within rfl ?_
  show pm_to _ _ _ (some .boolean) cd_Desk_within 0 _ _
  refine pm_to.blk rfl ?_
  refine pe_iload rfl ?_
  refine pe_iload rfl ?_
  refine pe_icmp_lt (tgt := 3) (nx := 1) rfl rfl (fun hc0 => ?_) (fun hc0 => ?_)
  · rw [bI_f (fun h => absurd h.1 (Int32.not_le.mpr hc0))]
    refine pm_to.blk rfl ?_
    refine pe_iconst (v := 0) rfl ?_
    refine pe_nil (nx := 4) rfl ?_
    refine pm_to.blk rfl ?_
    exact pe_iret rfl rfl
  · refine pm_to.blk rfl ?_
    refine pe_iload rfl ?_
    refine pe_iload rfl ?_
    refine pe_icmp_gt (tgt := 3) (nx := 2) rfl rfl (fun hc1 => ?_) (fun hc1 => ?_)
    · rw [bI_f (fun h => absurd h.2 (Int32.not_le.mpr hc1))]
      refine pm_to.blk rfl ?_
      refine pe_iconst (v := 0) rfl ?_
      refine pe_nil (nx := 4) rfl ?_
      refine pm_to.blk rfl ?_
      exact pe_iret rfl rfl
    · rw [bI_t ⟨Int32.not_lt.mp hc0, Int32.not_lt.mp hc1⟩]
      refine pm_to.blk rfl ?_
      refine pe_iconst (v := 1) rfl ?_
      refine pe_goto (tgt := 4) rfl ?_
      refine pm_to.blk rfl ?_
      exact pe_iret rfl rfl
theorem bI_ret {p : Prop} [Decidable p] : pm_ret (some .boolean) (.int (bI p)) = true := by
  unfold bI
  split <;> rfl
theorem r_Model_isEnd (hP : pm_np PR) {d : Nat} (hd : 2 ≤ d) (v : Int32) (S : pm_S) : pm_run X pm_Ms PR d 171 [.int v] S = some (some (.int (bI (0 ≤ v ∧ v ≤ 6))), S) := by
  refine pm_run_of (L := [_]) (by omega) (hP _ rfl) ms_Model_isEnd rfl ?_
  show pm_to _ _ _ (some .boolean) cd_Model_isEnd 0 _ _
  refine pm_to.blk rfl ?_
  refine pe_iload rfl ?_
  refine pe_iconst (v := 0) rfl ?_
  refine pe_iconst (v := 6) rfl ?_
  refine pe_static rfl rfl (r_Model_in hP (by omega) v 0 6 S) ?_
  exact pe_iret bI_ret rfl
theorem r_Desk_isEnd (hP : pm_np PR) {d : Nat} (hd : 2 ≤ d) (v : Int32) (S : pm_S) : pm_run X pm_Ms PR d 115 [.int v] S = some (some (.int (bI (0 ≤ v ∧ v ≤ 6))), S) := by
  refine pm_run_of (L := [_]) (by omega) (hP _ rfl) ms_Desk_isEnd rfl ?_
  show pm_to _ _ _ (some .boolean) cd_Desk_isEnd 0 _ _
  refine pm_to.blk rfl ?_
  refine pe_iload rfl ?_
  refine pe_iconst (v := 0) rfl ?_
  refine pe_iconst (v := 6) rfl ?_
  refine pe_static rfl rfl (r_Desk_within hP (by omega) v 0 6 S) ?_
  exact pe_iret bI_ret rfl
theorem r_Model_isThere (hP : pm_np PR) {d : Nat} (hd : 2 ≤ d) (v : Int32) {S : pm_S} {i st : Nat → Int32} (hM : pm_h S 163 (.inr (10, mo i))) (hst : pm_h S 164 (.inl (0, 200, .inl st))) : pm_run X pm_Ms PR d 220 [.ref 163, .int v] S = some (some (.int (bI (0 ≤ v ∧ v ≤ st 0 - 1))), S) := by
  refine pm_run_of (L := [_, _]) (by omega) (hP _ rfl) ms_Model_isThere rfl ?_
  show pm_to _ _ _ (some .boolean) cd_Model_isThere 0 _ _
  refine pm_to.blk rfl ?_
  refine pe_iload rfl ?_
  refine pe_iconst (v := 0) rfl ?_
  refine pe_aload rfl ?_
  refine pe_getf hM rfl rfl ?_
  refine pe_iconst (v := 0) rfl ?_
  refine pe_iald hst (vi rfl) ?_
  refine pe_iconst (v := 1) rfl ?_
  refine pe_isub ?_
  refine pe_static rfl rfl (r_Model_in hP (by omega) v 0 (st 0 - 1) S) ?_
  exact pe_iret bI_ret rfl
theorem r_Model_isMember (hP : pm_np PR) {d : Nat} (hd : 2 ≤ d) (v : Int32) {S : pm_S} {i st : Nat → Int32} (hM : pm_h S 163 (.inr (10, mo i))) (hst : pm_h S 164 (.inl (0, 200, .inl st))) : pm_run X pm_Ms PR d 170 [.ref 163, .int v] S = some (some (.int (bI (0 ≤ v ∧ v ≤ st 2 - 1))), S) := by
  refine pm_run_of (L := [_, _]) (by omega) (hP _ rfl) ms_Model_isMember rfl ?_
  show pm_to _ _ _ (some .boolean) cd_Model_isMember 0 _ _
  refine pm_to.blk rfl ?_
  refine pe_iload rfl ?_
  refine pe_iconst (v := 0) rfl ?_
  refine pe_aload rfl ?_
  refine pe_getf hM rfl rfl ?_
  refine pe_iconst (v := 2) rfl ?_
  refine pe_iald hst (vi rfl) ?_
  refine pe_iconst (v := 1) rfl ?_
  refine pe_isub ?_
  refine pe_static rfl rfl (r_Model_in hP (by omega) v 0 (st 2 - 1) S) ?_
  exact pe_iret bI_ret rfl
theorem r_Model_isTree (hP : pm_np PR) {d : Nat} (hd : 2 ≤ d) (v : Int32) {S : pm_S} {i st : Nat → Int32} (hM : pm_h S 163 (.inr (10, mo i))) (hst : pm_h S 164 (.inl (0, 200, .inl st))) : pm_run X pm_Ms PR d 200 [.ref 163, .int v] S = some (some (.int (bI (0 ≤ v ∧ v ≤ st 3 - 1))), S) := by
  refine pm_run_of (L := [_, _]) (by omega) (hP _ rfl) ms_Model_isTree rfl ?_
  show pm_to _ _ _ (some .boolean) cd_Model_isTree 0 _ _
  refine pm_to.blk rfl ?_
  refine pe_iload rfl ?_
  refine pe_iconst (v := 0) rfl ?_
  refine pe_aload rfl ?_
  refine pe_getf hM rfl rfl ?_
  refine pe_iconst (v := 3) rfl ?_
  refine pe_iald hst (vi rfl) ?_
  refine pe_iconst (v := 1) rfl ?_
  refine pe_isub ?_
  refine pe_static rfl rfl (r_Model_in hP (by omega) v 0 (st 3 - 1) S) ?_
  exact pe_iret bI_ret rfl
theorem r_Model_change (hP : pm_np PR) {d : Nat} (hd : 1 ≤ d) (a v : Int32) (ha : vp_in a 200) {S : pm_S} {i st : Nat → Int32} (hM : pm_h S 163 (.inr (10, mo i))) (hst : pm_h S 164 (.inl (0, 200, .inl st))) : pm_run X pm_Ms PR d 174 [.ref 163, .int a, .int v] S = some (some (.int (st a.toNatClampNeg)), pm_put S 164 (.inl (0, 200, .inl (upd st a.toNatClampNeg v)))) := by
  refine pm_run_of (L := [_, _, _, _]) (by omega) (hP _ rfl) ms_Model_change rfl ?_
  show pm_to _ _ _ (some .int) cd_Model_change 0 _ _
  refine pm_to.blk rfl ?_
  refine pe_aload rfl ?_
  refine pe_getf hM rfl rfl ?_
  refine pe_iload rfl ?_
  refine pe_iald hst ha ?_
  refine pe_istore (L' := [_, _, _, _]) rfl ?_
  refine pe_aload rfl ?_
  refine pe_getf hM rfl rfl ?_
  refine pe_iload rfl ?_
  refine pe_iload rfl ?_
  refine pe_iast hst ha ?_
  refine pe_iload rfl ?_
  exact pe_iret rfl rfl
end
end
section
/-! the reference's state; places as numbers -/
def msz (k : Nat) : Nat := [200, 200, 12, 12, 1200, 1200, 1200, 1200, 1200, 110, 110, 110, 110, 110, 6, 6, 6, 6, 7, 3, 110, 110, 110, 660, 110, 110, 110, 7, 56, 6, 7, 7, 8, 8, 8, 8, 8].getD k 0
/-- the reference's state: its numbers i, its int arrays a (0 st 1 imaged 2 tMany 3 tQuestions 4 tKind 5 tLeft 6 tRight 7 tX 8 tY 9 nKind 10 nLeft 11 nRight 12 nX 13 nY 14 oKind 15 oLeft 16 oX 17 oY 18 lie 19 likings 20 name 21 inside 22 comes 23 sees 24 voted 25 wins 26 plainWins 27 ends 28 standAt 29 unsure 30 topEnds 31 ringAt 32 holdsWhat 33 shelfHeft 34 shelfFailure 35 rowSort 36 rowMany), its rows r, its row between -/
def MR (S : pm_S) (i : Nat → Int32) (a : Nat → Nat → Int32) (r bt : Nat → Int64) : Prop := pm_h S 163 (.inr (10, mo i)) ∧ (∀ k, k < 37 → pm_h S (164 + k) (.inl (0, msz k, .inl (a k)))) ∧ pm_h S 201 (.inl (1, 960, .inr (.inl r))) ∧ pm_h S 202 (.inl (1, 120, .inr (.inl bt)))
theorem MR.o {S : pm_S} {i : Nat → Int32} {a : Nat → Nat → Int32} {r bt : Nat → Int64} (h : MR S i a r bt) : pm_h S 163 (.inr (10, mo i)) := h.1
theorem MR.a {S : pm_S} {i : Nat → Int32} {a : Nat → Nat → Int32} {r bt : Nat → Int64} (h : MR S i a r bt) (k : Nat) (hk : k < 37) : pm_h S (164 + k) (.inl (0, msz k, .inl (a k))) := h.2.1 k hk
/-- outside the reference's cells nothing changes -/
def mfr (S S' : pm_S) : Prop := S'.1.length = S.1.length ∧ S'.2 = S.2 ∧ ∀ (b : Nat) (e : va_E), ¬ (163 ≤ b ∧ b ≤ 202) → pm_h S b e → pm_h S' b e
theorem mfr.rf (S : pm_S) : mfr S S := ⟨rfl, rfl, fun _ _ _ h => h⟩
theorem mfr.trans {S T U : pm_S} (h : mfr S T) (g : mfr T U) : mfr S U := ⟨g.1.trans h.1, g.2.1.trans h.2.1, fun b e hb he => g.2.2 b e hb (h.2.2 b e hb he)⟩
theorem mfr.put {S : pm_S} {c : Nat} {e : va_E} (hc : 163 ≤ c ∧ c ≤ 202) : mfr S (pm_put S c e) := ⟨by simp [pm_put], rfl, fun b e' hb he => he.ne (fun z => hb (by omega)) (by omega)⟩
theorem MR.putI {S : pm_S} {i : Nat → Int32} {a : Nat → Nat → Int32} {r bt : Nat → Int64} (h : MR S i a r bt) (i' : Nat → Int32) : MR (pm_put S 163 (.inr (10, mo i'))) i' a r bt := by
  obtain ⟨h1, h2, h3, h4⟩ := h
  exact ⟨h1.eq, fun k hk => (h2 k hk).ne (by omega) (by decide), h3.ne (by decide) (by decide), h4.ne (by decide) (by decide)⟩
theorem MR.putA {S : pm_S} {i : Nat → Int32} {a : Nat → Nat → Int32} {r bt : Nat → Int64} (h : MR S i a r bt) (k : Nat) (hk : k < 37) (f : Nat → Int32) : MR (pm_put S (164 + k) (.inl (0, msz k, .inl f))) i (va_up a k f) r bt := by
  obtain ⟨h1, h2, h3, h4⟩ := h
  refine ⟨h1.ne (by omega) (by omega), fun j hj => ?_, h3.ne (by omega) (by omega), h4.ne (by omega) (by omega)⟩
  by_cases e : j = k
  · subst e
    have : va_up a j f j = f := by simp [va_up]
    rw [this]
    exact (h2 j hj).eq
  · have : va_up a k f j = a j := by simp [va_up, e]
    rw [this]
    exact (h2 j hj).ne (by omega) (by omega)
section
variable {X : pm_X} {M : List pm_M} {cf : Nat → List Value → pm_S → Option pm_T} {ret : Option FieldType} {code : List (Nat × List Instr)} {b : Nat} {is : List Instr} {L L' : List (Option Value)} {st : List Value} {S : pm_S} {t : pm_T}
theorem pe_ialdN {i : Int32} {a n j : Nat} {g : Nat → Int32} (h : pm_h S a (.inl (0, n, .inl g))) (hi : i = nI j) (hj : j < n) (hn : n < 2 ^ 31) (k : pm_E X M cf ret code b is (L, .int (g j) :: st, S) t) : pm_E X M cf ret code b (.iaload :: is) (L, .int i :: .ref a :: st, S) t := by
  subst hi
  refine pe_iald h (vp_in_nI hj hn) ?_
  rw [nI_clamp (Nat.lt_trans hj hn)]
  exact k
theorem pe_iastN {x i : Int32} {a n j : Nat} {g : Nat → Int32} (h : pm_h S a (.inl (0, n, .inl g))) (hi : i = nI j) (hj : j < n) (hn : n < 2 ^ 31) (k : pm_E X M cf ret code b is (L, st, pm_put S a (.inl (0, n, .inl (upd g j x)))) t) : pm_E X M cf ret code b (.iastore :: is) (L, .int x :: .int i :: .ref a :: st, S) t := by
  subst hi
  refine pe_iast h (vp_in_nI hj hn) ?_
  rw [nI_clamp (Nat.lt_trans hj hn)]
  exact k
theorem pe_top {x y : Int32} (h : x = y) (k : pm_E X M cf ret code b is (L, .int y :: st, S) t) : pm_E X M cf ret code b is (L, .int x :: st, S) t := by
  subst h; exact k
end
/-- a table of five -/
theorem tab5 {x : Int32} {d a b c e f : Int} : pm_tab d 0 4 #[a, b, c, e, f] x = some (if x = 0 then a else if x = 1 then b else if x = 2 then c else if x = 3 then e else if x = 4 then f else d) := by
  unfold pm_tab
  by_cases h0 : x = 0
  · subst h0; rfl
  by_cases h1 : x = 1
  · subst h1; rfl
  by_cases h2 : x = 2
  · subst h2; rfl
  by_cases h3 : x = 3
  · subst h3; rfl
  by_cases h4 : x = 4
  · subst h4; rfl
  rw [if_neg h0, if_neg h1, if_neg h2, if_neg h3, if_neg h4, if_pos]
  have key : ∀ (z : Int32), x.toInt = z.toInt → x = z := fun z h => Int32.toInt_inj.mp h
  have e0 : ¬ x.toInt = 0 := fun h => h0 (key 0 h)
  have e1 : ¬ x.toInt = 1 := fun h => h1 (key 1 h)
  have e2 : ¬ x.toInt = 2 := fun h => h2 (key 2 h)
  have e3 : ¬ x.toInt = 3 := fun h => h3 (key 3 h)
  have e4 : ¬ x.toInt = 4 := fun h => h4 (key 4 h)
  omega
def sp_heft (st : Nat → Int32) (m : Nat) : Int32 := if st (10 + m) = 0 then st (20 + m) else if st (10 + m) = 1 then st (20 + m) + 1 else if st (10 + m) = 2 then st (20 + m) + 1 + st (30 + m) else if st (10 + m) = 3 then 2 * st (20 + m) else if st (10 + m) = 4 then 2 * st (20 + m) - 1 else st (20 + m) / 2
theorem ms_Model_heftOf : pm_Ms[178]? = some md_Model_heftOf := rfl
theorem ms_Model_members : pm_Ms[191]? = some md_Model_members := rfl
theorem ms_Model_voicesOf : pm_Ms[195]? = some md_Model_voicesOf := rfl
theorem ms_Model_kindOf : pm_Ms[206]? = some md_Model_kindOf := rfl
theorem ms_Model_partyOf : pm_Ms[208]? = some md_Model_partyOf := rfl
theorem ms_Model_endFor : pm_Ms[210]? = some md_Model_endFor := rfl
theorem ms_Model_liked : pm_Ms[194]? = some md_Model_liked := rfl
theorem ms_Model_placeIn : pm_Ms[193]? = some md_Model_placeIn := rfl
theorem ms_Model_wishOf : pm_Ms[192]? = some md_Model_wishOf := rfl
theorem ms_Model_margin : pm_Ms[190]? = some md_Model_margin := rfl
theorem ms_Model_beats : pm_Ms[198]? = some md_Model_beats := rfl
theorem ms_Model_standing : pm_Ms[197]? = some md_Model_standing := rfl
theorem ms_Model_sign : pm_Ms[207]? = some md_Model_sign := rfl
theorem ms_Model_partySign : pm_Ms[209]? = some md_Model_partySign := rfl
theorem ms_Model_voteOf : pm_Ms[205]? = some md_Model_voteOf := rfl
section
variable {X : pm_X} {PR : pm_P} {S : pm_S} {i : Nat → Int32} {a : Nat → Nat → Int32} {r bt : Nat → Int64}
theorem r_Model_heftOf (hP : pm_np PR) {d : Nat} (hd : 1 ≤ d) (hM : MR S i a r bt) {m : Nat} (hm : m < 10) : pm_run X pm_Ms PR d 178 [.ref 163, .int (nI m)] S = some (some (.int (sp_heft (a 0) m)), S) := by
  refine pm_run_of (L := [_, _, _]) (by omega) (hP _ rfl) ms_Model_heftOf rfl ?_
  show pm_to _ _ _ (some .int) cd_Model_heftOf 0 _ _
  refine pm_to.blk rfl ?_
  refine pe_aload rfl ?_
  refine pe_getf hM.o rfl rfl ?_
  refine pe_iconst (v := 20) rfl ?_
  refine pe_iload rfl ?_
  refine pe_iadd ?_
  refine pe_ialdN (hM.a 0 (by decide)) (nI_add 20 m) (by show 20 + m < 200; omega) (by decide) ?_
  refine pe_istore (L' := [_, _, _]) rfl ?_
  refine pe_aload rfl ?_
  refine pe_getf hM.o rfl rfl ?_
  refine pe_iconst (v := 10) rfl ?_
  refine pe_iload rfl ?_
  refine pe_iadd ?_
  refine pe_ialdN (hM.a 0 (by decide)) (nI_add 10 m) (by show 10 + m < 200; omega) (by decide) ?_
  refine pe_table tab5 rfl ?_
  unfold sp_heft
  by_cases h0 : a 0 (10 + m) = 0
  · simp only [h0, if_true]
    refine pm_to.blk rfl ?_
    refine pe_iload rfl ?_
    exact pe_iret rfl rfl
  by_cases h1 : a 0 (10 + m) = 1
  · simp only [h0, h1, if_true, if_false]
    refine pm_to.blk rfl ?_
    refine pe_iload rfl ?_
    refine pe_iconst (v := 1) rfl ?_
    refine pe_iadd ?_
    exact pe_iret rfl rfl
  by_cases h2 : a 0 (10 + m) = 2
  · simp only [h0, h1, h2, if_true, if_false]
    refine pm_to.blk rfl ?_
    refine pe_iload rfl ?_
    refine pe_iconst (v := 1) rfl ?_
    refine pe_iadd ?_
    refine pe_aload rfl ?_
    refine pe_getf hM.o rfl rfl ?_
    refine pe_iconst (v := 30) rfl ?_
    refine pe_iload rfl ?_
    refine pe_iadd ?_
    refine pe_ialdN (hM.a 0 (by decide)) (nI_add 30 m) (by show 30 + m < 200; omega) (by decide) ?_
    refine pe_iadd ?_
    exact pe_iret rfl rfl
  by_cases h3 : a 0 (10 + m) = 3
  · simp only [h0, h1, h2, h3, if_true, if_false]
    refine pm_to.blk rfl ?_
    refine pe_iconst (v := 2) rfl ?_
    refine pe_iload rfl ?_
    refine pe_imul ?_
    exact pe_iret rfl rfl
  by_cases h4 : a 0 (10 + m) = 4
  · simp only [h0, h1, h2, h3, h4, if_true, if_false]
    refine pm_to.blk rfl ?_
    refine pe_iconst (v := 2) rfl ?_
    refine pe_iload rfl ?_
    refine pe_imul ?_
    refine pe_iconst (v := 1) rfl ?_
    refine pe_isub ?_
    exact pe_iret rfl rfl
  simp only [h0, h1, h2, h3, h4, if_false]
  refine pm_to.blk rfl ?_
  refine pe_iload rfl ?_
  refine pe_iconst (v := 2) rfl ?_
  refine pe_idiv (by decide) ?_
  exact pe_iret rfl rfl
end
end
section
/-! the reference: who votes, with what wishes; margins -/
def tb (x : Int32) (m : Nat) : Prop := (x >>> (nI m &&& 31)) &&& 1 = 1
def v_mem (i : Nat → Int32) (a : Nat → Nat → Int32) : Int32 := if i 35 ≤ 0 then a 0 2 else i 35
def v_voi (i : Nat → Int32) (a : Nat → Nat → Int32) (m : Nat) : Int32 := if i 35 ≤ 0 then a 0 (20 + m) else 1
def v_kin (i : Nat → Int32) (a : Nat → Nat → Int32) (m : Nat) : Int32 := if i 28 < 0 then (if (i 33 >>> (nI m &&& 31)) &&& 1 = 1 then 4 else if (i 29 >>> (nI m &&& 31)) &&& 1 = 1 then 1 else a 0 (10 + m)) else i 28
def v_par (i : Nat → Int32) (a : Nat → Nat → Int32) (m : Nat) : Int32 := if (i 33 >>> (nI m &&& 31)) &&& 1 = 1 then 0 else a 0 (30 + m)
def v_end (i : Nat → Int32) (a : Nat → Nat → Int32) (m : Nat) : Int32 := if (i 33 >>> (nI m &&& 31)) &&& 1 = 1 then i 34 else a 0 (40 + m)
def sp_liked (l p : Int32) : Int32 := if p = 0 then l / 2 else if bI (p = 1) = bI (l - l / 2 * 2 = 0) then bI (l / 2 = 0) else 3 - l / 2 - bI (l / 2 = 0)
def sp_place (l e : Int32) : Int32 := if sp_liked l 0 = e then 0 else if sp_liked l 1 = e then 1 else 2
def v_wis (i : Nat → Int32) (a : Nat → Nat → Int32) (m e : Nat) : Int32 := if i 35 ≤ 0 then (if nI m = i 31 then a 18 e else if (i 30 >>> (nI m &&& 31)) &&& 1 = 1 then a 0 (130 + 7 * m + e) else a 0 (60 + 7 * m + e)) else sp_place (a 19 m) (nI e)
section
variable {X : pm_X} {PR : pm_P} {S : pm_S} {i : Nat → Int32} {a : Nat → Nat → Int32} {r bt : Nat → Int64}
theorem r_Model_members (hP : pm_np PR) {d : Nat} (hd : 1 ≤ d) (hM : MR S i a r bt) : pm_run X pm_Ms PR d 191 [.ref 163] S = some (some (.int (v_mem i a)), S) := by
  refine pm_run_of (L := [_]) (by omega) (hP _ rfl) ms_Model_members rfl ?_
  show pm_to _ _ _ (some .int) cd_Model_members 0 _ _
  unfold v_mem
  refine pm_to.blk rfl ?_
  refine pe_aload rfl ?_
  refine pe_getf hM.o rfl rfl ?_
  refine pe_if_le (tgt := 2) (nx := 1) rfl rfl (fun hc0 => ?_) (fun hc0 => ?_)
  · rw [if_pos hc0]
    refine pm_to.blk rfl ?_
    refine pe_aload rfl ?_
    refine pe_getf hM.o rfl rfl ?_
    refine pe_iconst (v := 2) rfl ?_
    refine pe_iald (hM.a 0 (by decide)) (vi rfl) ?_
    refine pe_nil (nx := 3) rfl ?_
    refine pm_to.blk rfl ?_
    exact pe_iret rfl rfl
  · rw [if_neg hc0]
    refine pm_to.blk rfl ?_
    refine pe_aload rfl ?_
    refine pe_getf hM.o rfl rfl ?_
    refine pe_goto (tgt := 3) rfl ?_
    refine pm_to.blk rfl ?_
    exact pe_iret rfl rfl
theorem r_Model_voicesOf (hP : pm_np PR) {d : Nat} (hd : 1 ≤ d) (hM : MR S i a r bt) {m : Nat} (hm : m < 9) : pm_run X pm_Ms PR d 195 [.ref 163, .int (nI m)] S = some (some (.int (v_voi i a m)), S) := by
  refine pm_run_of (L := [_, _]) (by omega) (hP _ rfl) ms_Model_voicesOf rfl ?_
  show pm_to _ _ _ (some .int) cd_Model_voicesOf 0 _ _
  unfold v_voi
  refine pm_to.blk rfl ?_
  refine pe_aload rfl ?_
  refine pe_getf hM.o rfl rfl ?_
  refine pe_if_le (tgt := 2) (nx := 1) rfl rfl (fun hc0 => ?_) (fun hc0 => ?_)
  · rw [if_pos hc0]
    refine pm_to.blk rfl ?_
    refine pe_aload rfl ?_
    refine pe_getf hM.o rfl rfl ?_
    refine pe_iconst (v := 20) rfl ?_
    refine pe_iload rfl ?_
    refine pe_iadd ?_
    refine pe_ialdN (hM.a 0 (by decide)) (nI_add 20 m) (by show 20 + m < 200; omega) (by decide) ?_
    refine pe_nil (nx := 3) rfl ?_
    refine pm_to.blk rfl ?_
    exact pe_iret rfl rfl
  · rw [if_neg hc0]
    refine pm_to.blk rfl ?_
    refine pe_iconst (v := 1) rfl ?_
    refine pe_goto (tgt := 3) rfl ?_
    refine pm_to.blk rfl ?_
    exact pe_iret rfl rfl
theorem r_Model_kindOf (hP : pm_np PR) {d : Nat} (hd : 1 ≤ d) (hM : MR S i a r bt) {m : Nat} (hm : m < 9) : pm_run X pm_Ms PR d 206 [.ref 163, .int (nI m)] S = some (some (.int (v_kin i a m)), S) := by
  refine pm_run_of (L := [_, _]) (by omega) (hP _ rfl) ms_Model_kindOf rfl ?_
  show pm_to _ _ _ (some .int) cd_Model_kindOf 0 _ _
  unfold v_kin
  refine pm_to.blk rfl ?_
  refine pe_aload rfl ?_
  refine pe_getf hM.o rfl rfl ?_
  refine pe_if_lt (tgt := 2) (nx := 1) rfl rfl (fun hc0 => ?_) (fun hc0 => ?_)
  · rw [if_pos hc0]
    refine pm_to.blk rfl ?_
    refine pe_aload rfl ?_
    refine pe_getf hM.o rfl rfl ?_
    refine pe_iload rfl ?_
    refine pe_ishr ?_
    refine pe_iconst (v := 1) rfl ?_
    refine pe_iand ?_
    refine pe_iconst (v := 1) rfl ?_
    refine pe_icmp_ne (tgt := 4) (nx := 3) rfl rfl (fun hc2 => ?_) (fun hc2 => ?_)
    · rw [if_neg hc2]
      refine pm_to.blk rfl ?_
      refine pe_aload rfl ?_
      refine pe_getf hM.o rfl rfl ?_
      refine pe_iload rfl ?_
      refine pe_ishr ?_
      refine pe_iconst (v := 1) rfl ?_
      refine pe_iand ?_
      refine pe_iconst (v := 1) rfl ?_
      refine pe_icmp_ne (tgt := 6) (nx := 5) rfl rfl (fun hc4 => ?_) (fun hc4 => ?_)
      · rw [if_neg hc4]
        refine pm_to.blk rfl ?_
        refine pe_aload rfl ?_
        refine pe_getf hM.o rfl rfl ?_
        refine pe_iconst (v := 10) rfl ?_
        refine pe_iload rfl ?_
        refine pe_iadd ?_
        refine pe_ialdN (hM.a 0 (by decide)) (nI_add 10 m) (by show 10 + m < 200; omega) (by decide) ?_
        refine pe_nil (nx := 7) rfl ?_
        refine pm_to.blk rfl ?_
        exact pe_iret rfl rfl
      · rw [if_pos (Decidable.not_not.mp hc4)]
        refine pm_to.blk rfl ?_
        refine pe_iconst (v := 1) rfl ?_
        refine pe_goto (tgt := 7) rfl ?_
        refine pm_to.blk rfl ?_
        exact pe_iret rfl rfl
    · rw [if_pos (Decidable.not_not.mp hc2)]
      refine pm_to.blk rfl ?_
      refine pe_iconst (v := 4) rfl ?_
      refine pe_goto (tgt := 7) rfl ?_
      refine pm_to.blk rfl ?_
      exact pe_iret rfl rfl
  · rw [if_neg hc0]
    refine pm_to.blk rfl ?_
    refine pe_aload rfl ?_
    refine pe_getf hM.o rfl rfl ?_
    refine pe_goto (tgt := 7) rfl ?_
    refine pm_to.blk rfl ?_
    exact pe_iret rfl rfl
theorem r_Model_partyOf (hP : pm_np PR) {d : Nat} (hd : 1 ≤ d) (hM : MR S i a r bt) {m : Nat} (hm : m < 9) : pm_run X pm_Ms PR d 208 [.ref 163, .int (nI m)] S = some (some (.int (v_par i a m)), S) := by
  refine pm_run_of (L := [_, _]) (by omega) (hP _ rfl) ms_Model_partyOf rfl ?_
  show pm_to _ _ _ (some .int) cd_Model_partyOf 0 _ _
  unfold v_par
  refine pm_to.blk rfl ?_
  refine pe_aload rfl ?_
  refine pe_getf hM.o rfl rfl ?_
  refine pe_iload rfl ?_
  refine pe_ishr ?_
  refine pe_iconst (v := 1) rfl ?_
  refine pe_iand ?_
  refine pe_iconst (v := 1) rfl ?_
  refine pe_icmp_ne (tgt := 2) (nx := 1) rfl rfl (fun hc0 => ?_) (fun hc0 => ?_)
  · rw [if_neg hc0]
    refine pm_to.blk rfl ?_
    refine pe_aload rfl ?_
    refine pe_getf hM.o rfl rfl ?_
    refine pe_iconst (v := 30) rfl ?_
    refine pe_iload rfl ?_
    refine pe_iadd ?_
    refine pe_ialdN (hM.a 0 (by decide)) (nI_add 30 m) (by show 30 + m < 200; omega) (by decide) ?_
    refine pe_nil (nx := 3) rfl ?_
    refine pm_to.blk rfl ?_
    exact pe_iret rfl rfl
  · rw [if_pos (Decidable.not_not.mp hc0)]
    refine pm_to.blk rfl ?_
    refine pe_iconst (v := 0) rfl ?_
    refine pe_goto (tgt := 3) rfl ?_
    refine pm_to.blk rfl ?_
    exact pe_iret rfl rfl
theorem r_Model_endFor (hP : pm_np PR) {d : Nat} (hd : 1 ≤ d) (hM : MR S i a r bt) {m : Nat} (hm : m < 9) : pm_run X pm_Ms PR d 210 [.ref 163, .int (nI m)] S = some (some (.int (v_end i a m)), S) := by
  refine pm_run_of (L := [_, _]) (by omega) (hP _ rfl) ms_Model_endFor rfl ?_
  show pm_to _ _ _ (some .int) cd_Model_endFor 0 _ _
  unfold v_end
  refine pm_to.blk rfl ?_
  refine pe_aload rfl ?_
  refine pe_getf hM.o rfl rfl ?_
  refine pe_iload rfl ?_
  refine pe_ishr ?_
  refine pe_iconst (v := 1) rfl ?_
  refine pe_iand ?_
  refine pe_iconst (v := 1) rfl ?_
  refine pe_icmp_ne (tgt := 2) (nx := 1) rfl rfl (fun hc0 => ?_) (fun hc0 => ?_)
  · rw [if_neg hc0]
    refine pm_to.blk rfl ?_
    refine pe_aload rfl ?_
    refine pe_getf hM.o rfl rfl ?_
    refine pe_iconst (v := 40) rfl ?_
    refine pe_iload rfl ?_
    refine pe_iadd ?_
    refine pe_ialdN (hM.a 0 (by decide)) (nI_add 40 m) (by show 40 + m < 200; omega) (by decide) ?_
    refine pe_nil (nx := 3) rfl ?_
    refine pm_to.blk rfl ?_
    exact pe_iret rfl rfl
  · rw [if_pos (Decidable.not_not.mp hc0)]
    refine pm_to.blk rfl ?_
    refine pe_aload rfl ?_
    refine pe_getf hM.o rfl rfl ?_
    refine pe_goto (tgt := 3) rfl ?_
    refine pm_to.blk rfl ?_
    exact pe_iret rfl rfl
theorem r_Model_liked (hP : pm_np PR) {d : Nat} (hd : 1 ≤ d) (l p : Int32) : pm_run X pm_Ms PR d 194 [.int l, .int p] S = some (some (.int (sp_liked l p)), S) := by
  refine pm_run_of (L := [_, _, _, _, _]) (by omega) (hP _ rfl) ms_Model_liked rfl ?_
  show pm_to _ _ _ (some .int) cd_Model_liked 0 _ _
  have tail : ∀ (lo : Int32), lo = bI (l / 2 = 0) → pm_to X pm_Ms (pm_run X pm_Ms PR (d - 1)) (some .int) cd_Model_liked 3 ([some (.int l), some (.int p), some (.int (l / 2)), none, none], [.int lo], S) (some (.int (sp_liked l p)), S) := by
    intro lo hlo
    unfold sp_liked
    rw [← hlo]
    refine pm_to.blk rfl ?_
    refine pe_istore (L' := [_, _, _, _, _]) rfl ?_
    refine pe_iconst (v := 3) rfl ?_
    refine pe_iload rfl ?_
    refine pe_isub ?_
    refine pe_iload rfl ?_
    refine pe_isub ?_
    refine pe_istore (L' := [_, _, _, _, _]) rfl ?_
    refine pe_iload rfl ?_
    refine pe_if_ne (tgt := 5) (nx := 4) rfl rfl (fun hc3 => ?_) (fun hc3 => ?_)
    · rw [if_neg hc3]
      have t2 : ∀ (u w : Int32), u = bI (p = 1) → w = bI (l - l / 2 * 2 = 0) → pm_to X pm_Ms (pm_run X pm_Ms PR (d - 1)) (some .int) cd_Model_liked 11 ([some (.int l), some (.int p), some (.int (l / 2)), some (.int lo), some (.int (3 - l / 2 - lo))], [.int w, .int u], S) (some (.int (if bI (p = 1) = bI (l - l / 2 * 2 = 0) then lo else 3 - l / 2 - lo)), S) := by
        intro u w hu hw
        rw [← hu, ← hw]
        refine pm_to.blk rfl ?_
        refine pe_icmp_ne (tgt := 13) (nx := 12) rfl rfl (fun hc11 => ?_) (fun hc11 => ?_)
        · rw [if_neg hc11]
          refine pm_to.blk rfl ?_
          refine pe_iload rfl ?_
          refine pe_nil (nx := 14) rfl ?_
          refine pm_to.blk rfl ?_
          exact pe_iret rfl rfl
        · rw [if_pos (Decidable.not_not.mp hc11)]
          refine pm_to.blk rfl ?_
          refine pe_iload rfl ?_
          refine pe_goto (tgt := 14) rfl ?_
          refine pm_to.blk rfl ?_
          exact pe_iret rfl rfl
      have t1 : ∀ (u : Int32), u = bI (p = 1) → pm_to X pm_Ms (pm_run X pm_Ms PR (d - 1)) (some .int) cd_Model_liked 8 ([some (.int l), some (.int p), some (.int (l / 2)), some (.int lo), some (.int (3 - l / 2 - lo))], [.int u], S) (some (.int (if bI (p = 1) = bI (l - l / 2 * 2 = 0) then lo else 3 - l / 2 - lo)), S) := by
        intro u hu
        refine pm_to.blk rfl ?_
        refine pe_iload rfl ?_
        refine pe_iconst (v := 2) rfl ?_
        refine pe_irem (by decide) ?_
        refine pe_if_ne (tgt := 10) (nx := 9) rfl rfl (fun hc8 => ?_) (fun hc8 => ?_)
        · refine pm_to.blk rfl ?_
          refine pe_iconst (v := 0) rfl ?_
          refine pe_nil (nx := 11) rfl ?_
          exact t2 u 0 hu (bI_f hc8).symm
        · refine pm_to.blk rfl ?_
          refine pe_iconst (v := 1) rfl ?_
          refine pe_goto (tgt := 11) rfl ?_
          exact t2 u 1 hu (bI_t (Decidable.not_not.mp hc8)).symm
      refine pm_to.blk rfl ?_
      refine pe_iload rfl ?_
      refine pe_iconst (v := 1) rfl ?_
      refine pe_icmp_ne (tgt := 7) (nx := 6) rfl rfl (fun hc5 => ?_) (fun hc5 => ?_)
      · refine pm_to.blk rfl ?_
        refine pe_iconst (v := 0) rfl ?_
        refine pe_nil (nx := 8) rfl ?_
        exact t1 0 (bI_f hc5).symm
      · refine pm_to.blk rfl ?_
        refine pe_iconst (v := 1) rfl ?_
        refine pe_goto (tgt := 8) rfl ?_
        exact t1 1 (bI_t (Decidable.not_not.mp hc5)).symm
    · rw [if_pos (Decidable.not_not.mp hc3)]
      refine pm_to.blk rfl ?_
      refine pe_iload rfl ?_
      refine pe_goto (tgt := 14) rfl ?_
      refine pm_to.blk rfl ?_
      exact pe_iret rfl rfl
  refine pm_to.blk rfl ?_
  refine pe_iload rfl ?_
  refine pe_iconst (v := 2) rfl ?_
  refine pe_idiv (by decide) ?_
  refine pe_istore (L' := [_, _, _, _, _]) rfl ?_
  refine pe_iload rfl ?_
  refine pe_if_ne (tgt := 2) (nx := 1) rfl rfl (fun hc0 => ?_) (fun hc0 => ?_)
  · refine pm_to.blk rfl ?_
    refine pe_iconst (v := 0) rfl ?_
    refine pe_nil (nx := 3) rfl ?_
    exact tail 0 (bI_f hc0).symm
  · refine pm_to.blk rfl ?_
    refine pe_iconst (v := 1) rfl ?_
    refine pe_goto (tgt := 3) rfl ?_
    exact tail 1 (bI_t (Decidable.not_not.mp hc0)).symm
theorem r_Model_placeIn (hP : pm_np PR) {d : Nat} (hd : 2 ≤ d) (l e : Int32) : pm_run X pm_Ms PR d 193 [.int l, .int e] S = some (some (.int (sp_place l e)), S) := by
  refine pm_run_of (L := [_, _]) (by omega) (hP _ rfl) ms_Model_placeIn rfl ?_
  show pm_to _ _ _ (some .int) cd_Model_placeIn 0 _ _
  unfold sp_place
  refine pm_to.blk rfl ?_
  refine pe_iload rfl ?_
  refine pe_iconst (v := 0) rfl ?_
  refine pe_static rfl rfl (r_Model_liked hP (by omega) l 0) ?_
  refine pe_iload rfl ?_
  refine pe_icmp_ne (tgt := 2) (nx := 1) rfl rfl (fun hc0 => ?_) (fun hc0 => ?_)
  · rw [if_neg hc0]
    refine pm_to.blk rfl ?_
    refine pe_iload rfl ?_
    refine pe_iconst (v := 1) rfl ?_
    refine pe_static rfl rfl (r_Model_liked hP (by omega) l 1) ?_
    refine pe_iload rfl ?_
    refine pe_icmp_ne (tgt := 4) (nx := 3) rfl rfl (fun hc2 => ?_) (fun hc2 => ?_)
    · rw [if_neg hc2]
      refine pm_to.blk rfl ?_
      refine pe_iconst (v := 2) rfl ?_
      refine pe_nil (nx := 5) rfl ?_
      refine pm_to.blk rfl ?_
      exact pe_iret rfl rfl
    · rw [if_pos (Decidable.not_not.mp hc2)]
      refine pm_to.blk rfl ?_
      refine pe_iconst (v := 1) rfl ?_
      refine pe_goto (tgt := 5) rfl ?_
      refine pm_to.blk rfl ?_
      exact pe_iret rfl rfl
  · rw [if_pos (Decidable.not_not.mp hc0)]
    refine pm_to.blk rfl ?_
    refine pe_iconst (v := 0) rfl ?_
    refine pe_goto (tgt := 5) rfl ?_
    refine pm_to.blk rfl ?_
    exact pe_iret rfl rfl
theorem r_Model_wishOf (hP : pm_np PR) {d : Nat} (hd : 3 ≤ d) (hM : MR S i a r bt) {m e : Nat} (hm : m < 9) (he : e < 7) (hc : ¬ i 35 ≤ 0 → m < 3) : pm_run X pm_Ms PR d 192 [.ref 163, .int (nI m), .int (nI e)] S = some (some (.int (v_wis i a m e)), S) := by
  refine pm_run_of (L := [_, _, _]) (by omega) (hP _ rfl) ms_Model_wishOf rfl ?_
  show pm_to _ _ _ (some .int) cd_Model_wishOf 0 _ _
  unfold v_wis
  have ix : ∀ k : Nat, nI k + nI 7 * nI m + nI e = nI (k + 7 * m + e) := fun k => by rw [pk_mul, nI_add, nI_add]
  refine pm_to.blk rfl ?_
  refine pe_aload rfl ?_
  refine pe_getf hM.o rfl rfl ?_
  refine pe_if_le (tgt := 2) (nx := 1) rfl rfl (fun hc0 => ?_) (fun hc0 => ?_)
  · rw [if_pos hc0]
    refine pm_to.blk rfl ?_
    refine pe_iload rfl ?_
    refine pe_aload rfl ?_
    refine pe_getf hM.o rfl rfl ?_
    refine pe_icmp_ne (tgt := 4) (nx := 3) rfl rfl (fun hc2 => ?_) (fun hc2 => ?_)
    · rw [if_neg hc2]
      refine pm_to.blk rfl ?_
      refine pe_aload rfl ?_
      refine pe_getf hM.o rfl rfl ?_
      refine pe_iload rfl ?_
      refine pe_ishr ?_
      refine pe_iconst (v := 1) rfl ?_
      refine pe_iand ?_
      refine pe_iconst (v := 1) rfl ?_
      refine pe_icmp_ne (tgt := 6) (nx := 5) rfl rfl (fun hc4 => ?_) (fun hc4 => ?_)
      · rw [if_neg hc4]
        refine pm_to.blk rfl ?_
        refine pe_aload rfl ?_
        refine pe_getf hM.o rfl rfl ?_
        refine pe_iconst (v := 60) rfl ?_
        refine pe_iconst (v := 7) rfl ?_
        refine pe_iload rfl ?_
        refine pe_imul ?_
        refine pe_iadd ?_
        refine pe_iload rfl ?_
        refine pe_iadd ?_
        refine pe_ialdN (hM.a 0 (by decide)) (ix 60) (by show 60 + 7 * m + e < 200; omega) (by decide) ?_
        refine pe_nil (nx := 7) rfl ?_
        refine pm_to.blk rfl ?_
        exact pe_iret rfl rfl
      · rw [if_pos (Decidable.not_not.mp hc4)]
        refine pm_to.blk rfl ?_
        refine pe_aload rfl ?_
        refine pe_getf hM.o rfl rfl ?_
        refine pe_iconst (v := 130) rfl ?_
        refine pe_iconst (v := 7) rfl ?_
        refine pe_iload rfl ?_
        refine pe_imul ?_
        refine pe_iadd ?_
        refine pe_iload rfl ?_
        refine pe_iadd ?_
        refine pe_ialdN (hM.a 0 (by decide)) (ix 130) (by show 130 + 7 * m + e < 200; omega) (by decide) ?_
        refine pe_goto (tgt := 7) rfl ?_
        refine pm_to.blk rfl ?_
        exact pe_iret rfl rfl
    · rw [if_pos (Decidable.not_not.mp hc2)]
      refine pm_to.blk rfl ?_
      refine pe_aload rfl ?_
      refine pe_getf hM.o rfl rfl ?_
      refine pe_iload rfl ?_
      refine pe_ialdN (hM.a 18 (by decide)) rfl (by show e < 7; omega) (by decide) ?_
      refine pe_goto (tgt := 7) rfl ?_
      refine pm_to.blk rfl ?_
      exact pe_iret rfl rfl
  · rw [if_neg hc0]
    refine pm_to.blk rfl ?_
    refine pe_aload rfl ?_
    refine pe_getf hM.o rfl rfl ?_
    refine pe_iload rfl ?_
    refine pe_ialdN (hM.a 19 (by decide)) rfl (by show m < 3; exact hc hc0) (by decide) ?_
    refine pe_iload rfl ?_
    refine pe_static rfl rfl (r_Model_placeIn hP (by omega) (a 19 m) (nI e)) ?_
    exact pe_iret rfl rfl
end
end
section
/-! the reference: margins, who beats whom, signs -/
def mgn (w : Nat → Nat → Int32) (v : Nat → Int32) (x y : Nat) : Nat → Int32
  | 0 => 0
  | n + 1 => mgn w v x y n + (if w n x < w n y then v n else if w n y < w n x then -(v n) else 0)
abbrev sbt (mar ch : Int32) (x y : Nat) : Prop := ¬ x = y ∧ (0 < mar ∨ (mar = 0 ∧ ((ch = 0 ∧ x < y) ∨ (¬ ch = 0 ∧ y < x))))
def v_mar (i : Nat → Int32) (a : Nat → Nat → Int32) (N x y : Nat) : Int32 := mgn (v_wis i a) (v_voi i a) x y N
abbrev v_bts (i : Nat → Int32) (a : Nat → Nat → Int32) (N x y : Nat) : Prop := sbt (v_mar i a N x y) (a 0 1) x y
def v_std (i : Nat → Int32) (a : Nat → Nat → Int32) (N x y : Nat) : Nat := if v_bts i a N y x then y else x
def sgn (p q : Int32) : Int32 := if p < q then 1 else if q < p then -1 else 0
/-- how many vote -/
def v_ok (i : Nat → Int32) (a : Nat → Nat → Int32) (N : Nat) : Prop := v_mem i a = nI N ∧ N ≤ 9 ∧ (¬ i 35 ≤ 0 → N ≤ 3)
section
variable {X : pm_X} {PR : pm_P} {S : pm_S} {i : Nat → Int32} {a : Nat → Nat → Int32} {r bt : Nat → Int64} {N : Nat}
theorem r_Model_margin (hP : pm_np PR) {d : Nat} (hd : 4 ≤ d) (hM : MR S i a r bt) (hN : v_ok i a N) {x y : Nat} (hx : x < 7) (hy : y < 7) : pm_run X pm_Ms PR d 190 [.ref 163, .int (nI x), .int (nI y)] S = some (some (.int (v_mar i a N x y)), S) := by
  obtain ⟨hN1, hN2, hN3⟩ := hN
  refine pm_run_of (L := [_, _, _, _, _, _, _]) (by omega) (hP _ rfl) ms_Model_margin rfl ?_
  show pm_to _ _ _ (some .int) cd_Model_margin 0 _ _
  unfold v_mar
  have loop : ∀ (k m : Nat) (L5 L6 : Option Value), m + k = N → pm_to X pm_Ms (pm_run X pm_Ms PR (d - 1)) (some .int) cd_Model_margin 1 ([some (.ref 163), some (.int (nI x)), some (.int (nI y)), some (.int (mgn (v_wis i a) (v_voi i a) x y m)), some (.int (nI m)), L5, L6], [], S) (some (.int (mgn (v_wis i a) (v_voi i a) x y N)), S) := by
    intro k
    induction k with
    | zero =>
      intro m L5 L6 hm
      have e : m = N := by omega
      subst e
      refine pm_to.blk rfl ?_
      refine pe_iload rfl ?_
      refine pe_aload rfl ?_
      refine pe_virt rfl rfl (hM.o ) rfl ( r_Model_members hP (by omega) hM) ?_
      refine pe_icmp_ge (tgt := 8) (nx := 2) rfl rfl (fun hc1 => ?_) (fun hc1 => ?_)
      · refine pm_to.blk rfl ?_
        refine pe_iload rfl ?_
        exact pe_iret rfl rfl
      · exact absurd (by rw [hN1]; exact nI_le (Nat.le_refl _) (by omega)) hc1
    | succ k ih =>
      intro m L5 L6 hm
      refine pm_to.blk rfl ?_
      refine pe_iload rfl ?_
      refine pe_aload rfl ?_
      refine pe_virt rfl rfl (hM.o ) rfl ( r_Model_members hP (by omega) hM) ?_
      refine pe_icmp_ge (tgt := 8) (nx := 2) rfl rfl (fun hc1 => ?_) (fun hc1 => ?_)
      · rw [hN1] at hc1
        exact absurd hc1 (nI_ge (by omega) (by omega))
      · have tail : ∀ (u : Int32) (L5 L6 : Option Value), u = (if v_wis i a m x < v_wis i a m y then v_voi i a m else if v_wis i a m y < v_wis i a m x then -(v_voi i a m) else 0) → pm_to X pm_Ms (pm_run X pm_Ms PR (d - 1)) (some .int) cd_Model_margin 7 ([some (.ref 163), some (.int (nI x)), some (.int (nI y)), some (.int (mgn (v_wis i a) (v_voi i a) x y m)), some (.int (nI m)), L5, L6], [.int u, .int (mgn (v_wis i a) (v_voi i a) x y m)], S) (some (.int (mgn (v_wis i a) (v_voi i a) x y N)), S) := by
          intro u L5 L6 hu
          subst hu
          refine pm_to.blk rfl ?_
          refine pe_iadd ?_
          refine pe_istore (L' := [_, _, _, _, _, _, _]) rfl ?_
          refine pe_iinc (L' := [_, _, _, _, _, _, _]) rfl ((nI_succ m).symm) rfl ?_
          refine pe_goto (tgt := 1) rfl ?_
          exact ih (m + 1) _ _ (by omega)
        refine pm_to.blk rfl ?_
        refine pe_aload rfl ?_
        refine pe_iload rfl ?_
        refine pe_iload rfl ?_
        refine pe_virt rfl rfl (hM.o ) rfl ( r_Model_wishOf hP (by omega) hM (m := m) (e := x) (by omega) hx (fun z => by have := hN3 z; omega)) ?_
        refine pe_istore (L' := [_, _, _, _, _, _, _]) rfl ?_
        refine pe_aload rfl ?_
        refine pe_iload rfl ?_
        refine pe_iload rfl ?_
        refine pe_virt rfl rfl (hM.o ) rfl ( r_Model_wishOf hP (by omega) hM (m := m) (e := y) (by omega) hy (fun z => by have := hN3 z; omega)) ?_
        refine pe_istore (L' := [_, _, _, _, _, _, _]) rfl ?_
        refine pe_iload rfl ?_
        refine pe_iload rfl ?_
        refine pe_iload rfl ?_
        refine pe_icmp_ge (tgt := 4) (nx := 3) rfl rfl (fun hc2 => ?_) (fun hc2 => ?_)
        · refine pm_to.blk rfl ?_
          refine pe_iload rfl ?_
          refine pe_iload rfl ?_
          refine pe_icmp_le (tgt := 6) (nx := 5) rfl rfl (fun hc4 => ?_) (fun hc4 => ?_)
          · refine pm_to.blk rfl ?_
            refine pe_iconst (v := 0) rfl ?_
            refine pe_nil (nx := 7) rfl ?_
            refine tail 0 _ _ ?_
            rw [if_neg (Int32.not_lt.mpr hc2), if_neg (Int32.not_lt.mpr hc4)]
          · refine pm_to.blk rfl ?_
            refine pe_aload rfl ?_
            refine pe_iload rfl ?_
            refine pe_virt rfl rfl (hM.o ) rfl ( r_Model_voicesOf hP (by omega) hM (by omega)) ?_
            refine pe_ineg ?_
            refine pe_goto (tgt := 7) rfl ?_
            refine tail _ _ _ ?_
            rw [if_neg (Int32.not_lt.mpr hc2), if_pos (Int32.not_le.mp hc4)]
        · refine pm_to.blk rfl ?_
          refine pe_aload rfl ?_
          refine pe_iload rfl ?_
          refine pe_virt rfl rfl (hM.o ) rfl ( r_Model_voicesOf hP (by omega) hM (by omega)) ?_
          refine pe_goto (tgt := 7) rfl ?_
          refine tail _ _ _ ?_
          rw [if_pos (Int32.not_le.mp hc2)]
  refine pm_to.blk rfl ?_
  refine pe_iconst (v := 0) rfl ?_
  refine pe_istore (L' := [_, _, _, _, _, _, _]) rfl ?_
  refine pe_iconst (v := 0) rfl ?_
  refine pe_istore (L' := [_, _, _, _, _, _, _]) rfl ?_
  refine pe_nil (nx := 1) rfl ?_
  exact loop N 0 none none (by omega)
theorem r_Model_beats (hP : pm_np PR) {d : Nat} (hd : 5 ≤ d) (hM : MR S i a r bt) (hN : v_ok i a N) {x y : Nat} (hx : x < 7) (hy : y < 7) : pm_run X pm_Ms PR d 198 [.ref 163, .int (nI x), .int (nI y)] S = some (some (.int (bI (v_bts i a N x y))), S) := by
  refine pm_run_of (L := [_, _, _, _]) (by omega) (hP _ rfl) ms_Model_beats rfl ?_
  show pm_to _ _ _ (some .boolean) cd_Model_beats 0 _ _
  have exy : nI x = nI y ↔ x = y := nI_eq (by omega) (by omega)
  have t9 : ¬ v_bts i a N x y → ∀ L3, pm_to X pm_Ms (pm_run X pm_Ms PR (d - 1)) (some .boolean) cd_Model_beats 9 ([some (.ref 163), some (.int (nI x)), some (.int (nI y)), L3], [], S) (some (.int (bI (v_bts i a N x y))), S) := by
    intro h L3
    rw [bI_f h]
    refine pm_to.blk rfl ?_
    refine pe_iconst (v := 0) rfl ?_
    refine pe_nil (nx := 10) rfl ?_
    refine pm_to.blk rfl ?_
    exact pe_iret rfl rfl
  have t8 : v_bts i a N x y → ∀ L3, pm_to X pm_Ms (pm_run X pm_Ms PR (d - 1)) (some .boolean) cd_Model_beats 8 ([some (.ref 163), some (.int (nI x)), some (.int (nI y)), L3], [], S) (some (.int (bI (v_bts i a N x y))), S) := by
    intro h L3
    rw [bI_t h]
    refine pm_to.blk rfl ?_
    refine pe_iconst (v := 1) rfl ?_
    refine pe_goto (tgt := 10) rfl ?_
    refine pm_to.blk rfl ?_
    exact pe_iret rfl rfl
  refine pm_to.blk rfl ?_
  refine pe_iload rfl ?_
  refine pe_iload rfl ?_
  refine pe_icmp_ne (tgt := 2) (nx := 1) rfl rfl (fun hc0 => ?_) (fun hc0 => ?_)
  · have hne : ¬ x = y := fun z => hc0 (exy.mpr z)
    refine pm_to.blk rfl ?_
    refine pe_aload rfl ?_
    refine pe_iload rfl ?_
    refine pe_iload rfl ?_
    refine pe_virt rfl rfl (hM.o ) rfl ( r_Model_margin hP (by omega) hM hN hx hy) ?_
    refine pe_istore (L' := [_, _, _, _]) rfl ?_
    refine pe_iload rfl ?_
    refine pe_if_gt (tgt := 8) (nx := 3) rfl rfl (fun hc2 => ?_) (fun hc2 => ?_)
    · exact t8 ⟨hne, Or.inl hc2⟩ _
    · refine pm_to.blk rfl ?_
      refine pe_iload rfl ?_
      refine pe_if_ne (tgt := 9) (nx := 4) rfl rfl (fun hc3 => ?_) (fun hc3 => ?_)
      · exact t9 (fun h => h.2.elim hc2 (fun z => hc3 z.1)) _
      · have hz := Decidable.not_not.mp hc3
        refine pm_to.blk rfl ?_
        refine pe_aload rfl ?_
        refine pe_getf hM.o rfl rfl ?_
        refine pe_iconst (v := 1) rfl ?_
        refine pe_iald (hM.a 0 (by decide)) (vi rfl) ?_
        refine pe_if_ne (tgt := 7) (nx := 5) rfl rfl (fun hc4 => ?_) (fun hc4 => ?_)
        · have hch : ¬ a 0 1 = 0 := hc4
          refine pm_to.blk rfl ?_
          refine pe_iload rfl ?_
          refine pe_iload rfl ?_
          refine pe_icmp_le (tgt := 9) (nx := 8) rfl rfl (fun hc7 => ?_) (fun hc7 => ?_)
          · exact t9 (fun h => h.2.elim hc2 (fun z => z.2.elim (fun w => hch w.1) (fun w => absurd hc7 (nI_ge w.2 (by omega))))) _
          · exact t8 ⟨hne, Or.inr ⟨hz, Or.inr ⟨hch, (nI_ltI (by omega) (by omega)).mp (Int32.not_le.mp hc7)⟩⟩⟩ _
        · have hch : a 0 1 = 0 := Decidable.not_not.mp hc4
          refine pm_to.blk rfl ?_
          refine pe_iload rfl ?_
          refine pe_iload rfl ?_
          refine pe_icmp_ge (tgt := 9) (nx := 6) rfl rfl (fun hc5 => ?_) (fun hc5 => ?_)
          · exact t9 (fun h => h.2.elim hc2 (fun z => z.2.elim (fun w => absurd hc5 (nI_ge w.2 (by omega))) (fun w => w.1 hch))) _
          · refine pm_to.blk rfl ?_
            refine pe_goto (tgt := 8) rfl ?_
            exact t8 ⟨hne, Or.inr ⟨hz, Or.inl ⟨hch, (nI_ltI (by omega) (by omega)).mp (Int32.not_le.mp hc5)⟩⟩⟩ _
  · have he : x = y := exy.mp (Decidable.not_not.mp hc0)
    rw [bI_f (fun h => h.1 he)]
    refine pm_to.blk rfl ?_
    refine pe_iconst (v := 0) rfl ?_
    exact pe_iret rfl rfl
theorem v_std_lt {x y : Nat} (hx : x < 7) (hy : y < 7) : v_std i a N x y < 7 := by
  unfold v_std
  split <;> omega
theorem r_Model_standing (hP : pm_np PR) {d : Nat} (hd : 6 ≤ d) (hM : MR S i a r bt) (hN : v_ok i a N) {x y : Nat} (hx : x < 7) (hy : y < 7) : pm_run X pm_Ms PR d 197 [.ref 163, .int (nI x), .int (nI y)] S = some (some (.int (nI (v_std i a N x y))), S) := by
  refine pm_run_of (L := [_, _, _]) (by omega) (hP _ rfl) ms_Model_standing rfl ?_
  show pm_to _ _ _ (some .int) cd_Model_standing 0 _ _
  unfold v_std
  refine pm_to.blk rfl ?_
  refine pe_aload rfl ?_
  refine pe_iload rfl ?_
  refine pe_iload rfl ?_
  refine pe_virt rfl rfl (hM.o ) rfl ( r_Model_beats hP (by omega) hM hN hy hx) ?_
  refine pe_if_eq (tgt := 2) (nx := 1) rfl rfl (fun hc0 => ?_) (fun hc0 => ?_)
  · have h : ¬ v_bts i a N y x := fun z => by rw [bI_t z] at hc0; exact absurd hc0 (by decide)
    rw [if_neg h]
    refine pm_to.blk rfl ?_
    refine pe_iload rfl ?_
    refine pe_nil (nx := 3) rfl ?_
    refine pm_to.blk rfl ?_
    exact pe_iret rfl rfl
  · rw [if_pos (bI_ne.mp hc0)]
    refine pm_to.blk rfl ?_
    refine pe_iload rfl ?_
    refine pe_goto (tgt := 3) rfl ?_
    refine pm_to.blk rfl ?_
    exact pe_iret rfl rfl
theorem r_Model_sign (hP : pm_np PR) {d : Nat} (hd : 4 ≤ d) (hM : MR S i a r bt) {m x y : Nat} (hm : m < 9) (hc : ¬ i 35 ≤ 0 → m < 3) (hx : x < 7) (hy : y < 7) : pm_run X pm_Ms PR d 207 [.ref 163, .int (nI m), .int (nI x), .int (nI y)] S = some (some (.int (sgn (v_wis i a m x) (v_wis i a m y))), S) := by
  refine pm_run_of (L := [_, _, _, _, _, _]) (by omega) (hP _ rfl) ms_Model_sign rfl ?_
  show pm_to _ _ _ (some .int) cd_Model_sign 0 _ _
  unfold sgn
  refine pm_to.blk rfl ?_
  refine pe_aload rfl ?_
  refine pe_iload rfl ?_
  refine pe_iload rfl ?_
  refine pe_virt rfl rfl (hM.o ) rfl ( r_Model_wishOf hP (by omega) hM hm hx hc) ?_
  refine pe_istore (L' := [_, _, _, _, _, _]) rfl ?_
  refine pe_aload rfl ?_
  refine pe_iload rfl ?_
  refine pe_iload rfl ?_
  refine pe_virt rfl rfl (hM.o ) rfl ( r_Model_wishOf hP (by omega) hM hm hy hc) ?_
  refine pe_istore (L' := [_, _, _, _, _, _]) rfl ?_
  refine pe_iload rfl ?_
  refine pe_iload rfl ?_
  refine pe_icmp_ge (tgt := 2) (nx := 1) rfl rfl (fun hc0 => ?_) (fun hc0 => ?_)
  · rw [if_neg (Int32.not_lt.mpr hc0)]
    refine pm_to.blk rfl ?_
    refine pe_iload rfl ?_
    refine pe_iload rfl ?_
    refine pe_icmp_le (tgt := 4) (nx := 3) rfl rfl (fun hc2 => ?_) (fun hc2 => ?_)
    · rw [if_neg (Int32.not_lt.mpr hc2)]
      refine pm_to.blk rfl ?_
      refine pe_iconst (v := 0) rfl ?_
      refine pe_nil (nx := 5) rfl ?_
      refine pm_to.blk rfl ?_
      exact pe_iret rfl rfl
    · rw [if_pos (Int32.not_le.mp hc2)]
      refine pm_to.blk rfl ?_
      refine pe_iconst (v := (-1)) rfl ?_
      refine pe_goto (tgt := 5) rfl ?_
      refine pm_to.blk rfl ?_
      exact pe_iret rfl rfl
  · rw [if_pos (Int32.not_le.mp hc0)]
    refine pm_to.blk rfl ?_
    refine pe_iconst (v := 1) rfl ?_
    refine pe_goto (tgt := 5) rfl ?_
    refine pm_to.blk rfl ?_
    exact pe_iret rfl rfl
end
end
section
/-! the reference: how a member votes -/
def psm (k p : Nat → Int32) (w : Nat → Nat → Int32) (v : Nat → Int32) (party : Int32) (x y : Nat) : Nat → Int32
  | 0 => 0
  | n + 1 => psm k p w v party x y n + (if (k n = 3 ∨ k n = 4) ∧ p n = party then sgn (w n x) (w n y) * v n else 0)
def sg0 (s : Int32) : Int32 := if 0 < s then 1 else if s < 0 then -1 else 0
def v_psg (i : Nat → Int32) (a : Nat → Nat → Int32) (N : Nat) (party : Int32) (x y : Nat) : Int32 := sg0 (psm (v_kin i a) (v_par i a) (v_wis i a) (v_voi i a) party x y N)
/-- what is known of a node: its name, what comes, what is seen, what stands in it -/
def nd_ok (a : Nat → Nat → Int32) (A n c : Nat) (s : Nat → Nat) (ins : Int32) : Prop := A < 110 ∧ a 20 A = nI n ∧ n < 7 ∧ a 22 A = nI c ∧ c < 7 ∧ (∀ q, q < 6 → a 23 (6 * A + q) = nI (s q) ∧ s q < 7) ∧ a 21 A = ins
def v_num (a : Nat → Nat → Int32) (m : Nat) : Nat := (a 0 (30 + m)).toNatClampNeg
def v_vot (i : Nat → Int32) (a : Nat → Nat → Int32) (N m n c : Nat) (s : Nat → Nat) (ins : Int32) (n' c' : Nat) (s' : Nat → Nat) (ins' : Int32) : Int32 :=
  if v_kin i a m = 0 then v_voi i a m * sgn (v_wis i a m n) (v_wis i a m n')
  else if v_kin i a m = 1 then v_voi i a m * sgn (v_wis i a m c) (v_wis i a m c')
  else if v_kin i a m = 2 then v_voi i a m * sgn (v_wis i a m (s (v_num a m))) (v_wis i a m (s' (v_num a m)))
  else if v_kin i a m = 3 then v_voi i a m * v_psg i a N (v_par i a m) n n'
  else if v_kin i a m = 4 then (if (ins >>> (v_end i a m &&& 31)) &&& 1 = (ins' >>> (v_end i a m &&& 31)) &&& 1 then v_voi i a m * v_psg i a N (v_par i a m) n n' else v_voi i a m * (((ins >>> (v_end i a m &&& 31)) &&& 1) - ((ins' >>> (v_end i a m &&& 31)) &&& 1)))
  else v_voi i a m / 2 * sgn (v_wis i a m n) (v_wis i a m n') + (v_voi i a m - v_voi i a m / 2) * sgn (v_wis i a m c) (v_wis i a m c')
section
variable {X : pm_X} {PR : pm_P} {S : pm_S} {i : Nat → Int32} {a : Nat → Nat → Int32} {r bt : Nat → Int64} {N : Nat}
theorem r_Model_partySign (hP : pm_np PR) {d : Nat} (hd : 5 ≤ d) (hM : MR S i a r bt) (hN : v_ok i a N) (p : Int32) {A B x y : Nat} (hA : A < 110) (hB : B < 110) (ea : a 20 A = nI x) (eb : a 20 B = nI y) (hx : x < 7) (hy : y < 7) : pm_run X pm_Ms PR d 209 [.ref 163, .int p, .int (nI A), .int (nI B)] S = some (some (.int (v_psg i a N p x y)), S) := by
  obtain ⟨hN1, hN2, hN3⟩ := hN
  refine pm_run_of (L := [_, _, _, _, _, _, _]) (by omega) (hP _ rfl) ms_Model_partySign rfl ?_
  show pm_to _ _ _ (some .int) cd_Model_partySign 0 _ _
  unfold v_psg
  generalize hf : psm (v_kin i a) (v_par i a) (v_wis i a) (v_voi i a) p x y = f
  have f0 : f 0 = 0 := by rw [← hf]; rfl
  have fs : ∀ n, f (n + 1) = f n + (if (v_kin i a n = 3 ∨ v_kin i a n = 4) ∧ v_par i a n = p then sgn (v_wis i a n x) (v_wis i a n y) * v_voi i a n else 0) := fun n => by rw [← hf]; rfl
  have loop : ∀ (k m : Nat) (L6 : Option Value), m + k = N → pm_to X pm_Ms (pm_run X pm_Ms PR (d - 1)) (some .int) cd_Model_partySign 1 ([some (.ref 163), some (.int p), some (.int (nI A)), some (.int (nI B)), some (.int (f m)), some (.int (nI m)), L6], [], S) (some (.int (sg0 (f N))), S) := by
    intro k
    induction k with
    | zero =>
      intro m L6 hm
      have e : m = N := by omega
      subst e
      refine pm_to.blk rfl ?_
      refine pe_iload rfl ?_
      refine pe_aload rfl ?_
      refine pe_virt rfl rfl (hM.o ) rfl ( r_Model_members hP (by omega) hM) ?_
      refine pe_icmp_ge (tgt := 11) (nx := 2) rfl rfl (fun hc1 => ?_) (fun hc1 => ?_)
      · unfold sg0
        refine pm_to.blk rfl ?_
        refine pe_iload rfl ?_
        refine pe_if_le (tgt := 13) (nx := 12) rfl rfl (fun hc11 => ?_) (fun hc11 => ?_)
        · rw [if_neg (Int32.not_lt.mpr hc11)]
          refine pm_to.blk rfl ?_
          refine pe_iload rfl ?_
          refine pe_if_ge (tgt := 15) (nx := 14) rfl rfl (fun hc13 => ?_) (fun hc13 => ?_)
          · rw [if_neg (Int32.not_lt.mpr hc13)]
            refine pm_to.blk rfl ?_
            refine pe_iconst (v := 0) rfl ?_
            refine pe_nil (nx := 16) rfl ?_
            refine pm_to.blk rfl ?_
            exact pe_iret rfl rfl
          · rw [if_pos (Int32.not_le.mp hc13)]
            refine pm_to.blk rfl ?_
            refine pe_iconst (v := (-1)) rfl ?_
            refine pe_goto (tgt := 16) rfl ?_
            refine pm_to.blk rfl ?_
            exact pe_iret rfl rfl
        · rw [if_pos (Int32.not_le.mp hc11)]
          refine pm_to.blk rfl ?_
          refine pe_iconst (v := 1) rfl ?_
          refine pe_goto (tgt := 16) rfl ?_
          refine pm_to.blk rfl ?_
          exact pe_iret rfl rfl
      · exact absurd (by rw [hN1]; exact nI_le (Nat.le_refl _) (by omega)) hc1
    | succ k ih =>
      intro m L6 hm
      refine pm_to.blk rfl ?_
      refine pe_iload rfl ?_
      refine pe_aload rfl ?_
      refine pe_virt rfl rfl (hM.o ) rfl ( r_Model_members hP (by omega) hM) ?_
      refine pe_icmp_ge (tgt := 11) (nx := 2) rfl rfl (fun hc1 => ?_) (fun hc1 => ?_)
      · rw [hN1] at hc1
        exact absurd hc1 (nI_ge (by omega) (by omega))
      · have h3 : ¬ i 35 ≤ 0 → m < 3 := fun z => by have := hN3 z; omega
        have t10 : ∀ (u : Int32) (L6 : Option Value), f (m + 1) = f m + u → pm_to X pm_Ms (pm_run X pm_Ms PR (d - 1)) (some .int) cd_Model_partySign 10 ([some (.ref 163), some (.int p), some (.int (nI A)), some (.int (nI B)), some (.int (f m)), some (.int (nI m)), L6], [.int u, .int (f m)], S) (some (.int (sg0 (f N))), S) := by
          intro u L6 hu
          refine pm_to.blk rfl ?_
          refine pe_iadd ?_
          refine pe_istore (L' := [_, _, _, _, _, _, _]) rfl ?_
          refine pe_iinc (L' := [_, _, _, _, _, _, _]) rfl ((nI_succ m).symm) rfl ?_
          refine pe_goto (tgt := 1) rfl ?_
          rw [← hu]
          exact ih (m + 1) _ (by omega)
        have t7 : ∀ (u : Int32) (L6 : Option Value), u = bI ((v_kin i a m = 3 ∨ v_kin i a m = 4) ∧ v_par i a m = p) → pm_to X pm_Ms (pm_run X pm_Ms PR (d - 1)) (some .int) cd_Model_partySign 7 ([some (.ref 163), some (.int p), some (.int (nI A)), some (.int (nI B)), some (.int (f m)), some (.int (nI m)), L6], [.int u], S) (some (.int (sg0 (f N))), S) := by
          intro u L6 hu
          subst hu
          refine pm_to.blk rfl ?_
          refine pe_istore (L' := [_, _, _, _, _, _, _]) rfl ?_
          refine pe_iload rfl ?_
          refine pe_iload rfl ?_
          refine pe_if_eq (tgt := 9) (nx := 8) rfl rfl (fun hc7 => ?_) (fun hc7 => ?_)
          · have hn : ¬ ((v_kin i a m = 3 ∨ v_kin i a m = 4) ∧ v_par i a m = p) := fun z => by rw [bI_t z] at hc7; exact absurd hc7 (by decide)
            refine pm_to.blk rfl ?_
            refine pe_iconst (v := 0) rfl ?_
            refine pe_nil (nx := 10) rfl ?_
            exact t10 0 _ (by rw [fs, if_neg hn])
          · have hy2 := bI_ne.mp hc7
            refine pm_to.blk rfl ?_
            refine pe_aload rfl ?_
            refine pe_iload rfl ?_
            refine pe_aload rfl ?_
            refine pe_getf hM.o rfl rfl ?_
            refine pe_iload rfl ?_
            refine pe_ialdN (hM.a 20 (by decide)) rfl hA (by decide) ?_
            refine pe_aload rfl ?_
            refine pe_getf hM.o rfl rfl ?_
            refine pe_iload rfl ?_
            refine pe_ialdN (hM.a 20 (by decide)) rfl hB (by decide) ?_
            refine pe_virt rfl rfl (hM.o ) rfl ( by rw [ea, eb]; exact r_Model_sign hP (by omega) hM (m := m) (by omega) h3 hx hy) ?_
            refine pe_aload rfl ?_
            refine pe_iload rfl ?_
            refine pe_virt rfl rfl (hM.o ) rfl ( r_Model_voicesOf hP (by omega) hM (by omega)) ?_
            refine pe_imul ?_
            refine pe_goto (tgt := 10) rfl ?_
            exact t10 _ _ (by rw [fs, if_pos hy2])
        have t6 : ¬ ((v_kin i a m = 3 ∨ v_kin i a m = 4) ∧ v_par i a m = p) → ∀ L6 : Option Value, pm_to X pm_Ms (pm_run X pm_Ms PR (d - 1)) (some .int) cd_Model_partySign 6 ([some (.ref 163), some (.int p), some (.int (nI A)), some (.int (nI B)), some (.int (f m)), some (.int (nI m)), L6], [], S) (some (.int (sg0 (f N))), S) := by
          intro hn L6
          refine pm_to.blk rfl ?_
          refine pe_iconst (v := 0) rfl ?_
          refine pe_nil (nx := 7) rfl ?_
          exact t7 0 _ (bI_f hn).symm
        have t4 : (v_kin i a m = 3 ∨ v_kin i a m = 4) → ∀ L6 : Option Value, pm_to X pm_Ms (pm_run X pm_Ms PR (d - 1)) (some .int) cd_Model_partySign 4 ([some (.ref 163), some (.int p), some (.int (nI A)), some (.int (nI B)), some (.int (f m)), some (.int (nI m)), L6], [], S) (some (.int (sg0 (f N))), S) := by
          intro hk L6
          refine pm_to.blk rfl ?_
          refine pe_aload rfl ?_
          refine pe_iload rfl ?_
          refine pe_virt rfl rfl (hM.o ) rfl ( r_Model_partyOf hP (by omega) hM (by omega)) ?_
          refine pe_iload rfl ?_
          refine pe_icmp_ne (tgt := 6) (nx := 5) rfl rfl (fun hc4 => ?_) (fun hc4 => ?_)
          · exact t6 (fun z => hc4 z.2) _
          · refine pm_to.blk rfl ?_
            refine pe_iconst (v := 1) rfl ?_
            refine pe_goto (tgt := 7) rfl ?_
            exact t7 1 _ (bI_t ⟨hk, Decidable.not_not.mp hc4⟩).symm
        refine pm_to.blk rfl ?_
        refine pe_aload rfl ?_
        refine pe_iload rfl ?_
        refine pe_virt rfl rfl (hM.o ) rfl ( r_Model_kindOf hP (by omega) hM (by omega)) ?_
        refine pe_iconst (v := 3) rfl ?_
        refine pe_icmp_eq (tgt := 4) (nx := 3) rfl rfl (fun hc2 => ?_) (fun hc2 => ?_)
        · exact t4 (Or.inl hc2) _
        · refine pm_to.blk rfl ?_
          refine pe_aload rfl ?_
          refine pe_iload rfl ?_
          refine pe_virt rfl rfl (hM.o ) rfl ( r_Model_kindOf hP (by omega) hM (by omega)) ?_
          refine pe_iconst (v := 4) rfl ?_
          refine pe_icmp_ne (tgt := 6) (nx := 4) rfl rfl (fun hc3 => ?_) (fun hc3 => ?_)
          · exact t6 (fun z => z.1.elim hc2 hc3) _
          · exact t4 (Or.inr (Decidable.not_not.mp hc3)) _
  refine pm_to.blk rfl ?_
  refine pe_iconst (v := 0) rfl ?_
  refine pe_istore (L' := [_, _, _, _, _, _, _]) rfl ?_
  refine pe_iconst (v := 0) rfl ?_
  refine pe_istore (L' := [_, _, _, _, _, _, _]) rfl ?_
  refine pe_nil (nx := 1) rfl ?_
  have := loop N 0 none (by omega)
  rw [f0] at this
  exact this
theorem r_Model_voteOf (hP : pm_np PR) {d : Nat} (hd : 6 ≤ d) (hM : MR S i a r bt) (hN : v_ok i a N) {m : Nat} (hm : m < N) (hq : v_kin i a m = 2 → ∃ q, q < 6 ∧ a 0 (30 + m) = nI q) {A B n c n' c' : Nat} {s s' : Nat → Nat} {ins ins' : Int32} (hA : nd_ok a A n c s ins) (hB : nd_ok a B n' c' s' ins') : pm_run X pm_Ms PR d 205 [.ref 163, .int (nI m), .int (nI A), .int (nI B)] S = some (some (.int (v_vot i a N m n c s ins n' c' s' ins')), S) := by
  obtain ⟨A1, A2, A3, A4, A5, A6, A7⟩ := hA
  obtain ⟨B1, B2, B3, B4, B5, B6, B7⟩ := hB
  have hN' := hN
  obtain ⟨hN1, hN2, hN3⟩ := hN'
  have hm9 : m < 9 := by omega
  have h3 : ¬ i 35 ≤ 0 → m < 3 := fun z => by have := hN3 z; omega
  refine pm_run_of (L := [_, _, _, _, _, _, _]) (by omega) (hP _ rfl) ms_Model_voteOf rfl ?_
  show pm_to _ _ _ (some .int) cd_Model_voteOf 0 _ _
  refine pm_to.blk rfl ?_
  refine pe_aload rfl ?_
  refine pe_iload rfl ?_
  refine pe_virt rfl rfl hM.o rfl (r_Model_voicesOf hP (by omega) hM hm9) ?_
  refine pe_istore (L' := [_, _, _, _, _, _, _]) rfl ?_
  refine pe_aload rfl ?_
  refine pe_iload rfl ?_
  refine pe_virt rfl rfl hM.o rfl (r_Model_kindOf hP (by omega) hM hm9) ?_
  refine pe_table tab5 rfl ?_
  unfold v_vot
  by_cases h0 : v_kin i a m = 0
  · simp only [h0, if_true]
    refine pm_to.blk rfl ?_
    refine pe_iload rfl ?_
    refine pe_aload rfl ?_
    refine pe_iload rfl ?_
    refine pe_aload rfl ?_
    refine pe_getf hM.o rfl rfl ?_
    refine pe_iload rfl ?_
    refine pe_ialdN (hM.a 20 (by decide)) rfl A1 (by decide) ?_
    refine pe_aload rfl ?_
    refine pe_getf hM.o rfl rfl ?_
    refine pe_iload rfl ?_
    refine pe_ialdN (hM.a 20 (by decide)) rfl B1 (by decide) ?_
    refine pe_virt rfl rfl (hM.o ) rfl ( by rw [A2, B2]; exact r_Model_sign hP (by omega) hM hm9 h3 A3 B3) ?_
    refine pe_imul ?_
    exact pe_iret rfl rfl
  by_cases h1 : v_kin i a m = 1
  · simp only [h0, h1, if_true, if_false]
    refine pm_to.blk rfl ?_
    refine pe_iload rfl ?_
    refine pe_aload rfl ?_
    refine pe_iload rfl ?_
    refine pe_aload rfl ?_
    refine pe_getf hM.o rfl rfl ?_
    refine pe_iload rfl ?_
    refine pe_ialdN (hM.a 22 (by decide)) rfl A1 (by decide) ?_
    refine pe_aload rfl ?_
    refine pe_getf hM.o rfl rfl ?_
    refine pe_iload rfl ?_
    refine pe_ialdN (hM.a 22 (by decide)) rfl B1 (by decide) ?_
    refine pe_virt rfl rfl (hM.o ) rfl ( by rw [A4, B4]; exact r_Model_sign hP (by omega) hM hm9 h3 A5 B5) ?_
    refine pe_imul ?_
    exact pe_iret rfl rfl
  by_cases h2 : v_kin i a m = 2
  · obtain ⟨q, hq1, hq2⟩ := hq h2
    have hnum : v_num a m = q := by unfold v_num; rw [hq2, nI_clamp (by omega)]
    have ix : ∀ k : Nat, nI 6 * nI k + a 0 (30 + m) = nI (6 * k + q) := fun k => by rw [hq2, pk_mul, nI_add]
    simp only [h0, h1, h2, if_true, if_false, hnum]
    refine pm_to.blk rfl ?_
    refine pe_iload rfl ?_
    refine pe_aload rfl ?_
    refine pe_iload rfl ?_
    refine pe_aload rfl ?_
    refine pe_getf hM.o rfl rfl ?_
    refine pe_iconst (v := 6) rfl ?_
    refine pe_iload rfl ?_
    refine pe_imul ?_
    refine pe_aload rfl ?_
    refine pe_getf hM.o rfl rfl ?_
    refine pe_iconst (v := 30) rfl ?_
    refine pe_iload rfl ?_
    refine pe_iadd ?_
    refine pe_ialdN (hM.a 0 (by decide)) (nI_add 30 m) (by show 30 + m < 200; omega) (by decide) ?_
    refine pe_iadd ?_
    refine pe_ialdN (hM.a 23 (by decide)) (ix A) (by show 6 * A + q < 660; omega) (by decide) ?_
    refine pe_aload rfl ?_
    refine pe_getf hM.o rfl rfl ?_
    refine pe_iconst (v := 6) rfl ?_
    refine pe_iload rfl ?_
    refine pe_imul ?_
    refine pe_aload rfl ?_
    refine pe_getf hM.o rfl rfl ?_
    refine pe_iconst (v := 30) rfl ?_
    refine pe_iload rfl ?_
    refine pe_iadd ?_
    refine pe_ialdN (hM.a 0 (by decide)) (nI_add 30 m) (by show 30 + m < 200; omega) (by decide) ?_
    refine pe_iadd ?_
    refine pe_ialdN (hM.a 23 (by decide)) (ix B) (by show 6 * B + q < 660; omega) (by decide) ?_
    refine pe_virt rfl rfl (hM.o ) rfl ( by rw [(A6 q hq1).1, (B6 q hq1).1]; exact r_Model_sign hP (by omega) hM hm9 h3 (A6 q hq1).2 (B6 q hq1).2) ?_
    refine pe_imul ?_
    exact pe_iret rfl rfl
  by_cases h4 : v_kin i a m = 3
  · simp only [h0, h1, h2, h4, if_true, if_false]
    refine pm_to.blk rfl ?_
    refine pe_iload rfl ?_
    refine pe_aload rfl ?_
    refine pe_aload rfl ?_
    refine pe_iload rfl ?_
    refine pe_virt rfl rfl (hM.o ) rfl ( r_Model_partyOf hP (by omega) hM hm9) ?_
    refine pe_iload rfl ?_
    refine pe_iload rfl ?_
    refine pe_virt rfl rfl (hM.o ) rfl ( r_Model_partySign hP (by omega) hM hN _ A1 B1 A2 B2 A3 B3) ?_
    refine pe_imul ?_
    exact pe_iret rfl rfl
  by_cases h5 : v_kin i a m = 4
  · simp only [h0, h1, h2, h4, h5, if_true, if_false]
    rw [← A7, ← B7]
    refine pm_to.blk rfl ?_
    refine pe_aload rfl ?_
    refine pe_getf hM.o rfl rfl ?_
    refine pe_iload rfl ?_
    refine pe_ialdN (hM.a 21 (by decide)) rfl A1 (by decide) ?_
    refine pe_aload rfl ?_
    refine pe_iload rfl ?_
    refine pe_virt rfl rfl (hM.o ) rfl ( r_Model_endFor hP (by omega) hM hm9) ?_
    refine pe_ishr ?_
    refine pe_iconst (v := 1) rfl ?_
    refine pe_iand ?_
    refine pe_istore (L' := [_, _, _, _, _, _, _]) rfl ?_
    refine pe_aload rfl ?_
    refine pe_getf hM.o rfl rfl ?_
    refine pe_iload rfl ?_
    refine pe_ialdN (hM.a 21 (by decide)) rfl B1 (by decide) ?_
    refine pe_aload rfl ?_
    refine pe_iload rfl ?_
    refine pe_virt rfl rfl (hM.o ) rfl ( r_Model_endFor hP (by omega) hM hm9) ?_
    refine pe_ishr ?_
    refine pe_iconst (v := 1) rfl ?_
    refine pe_iand ?_
    refine pe_istore (L' := [_, _, _, _, _, _, _]) rfl ?_
    refine pe_iload rfl ?_
    refine pe_iload rfl ?_
    refine pe_icmp_eq (tgt := 7) (nx := 6) rfl rfl (fun hc5 => ?_) (fun hc5 => ?_)
    · rw [if_pos hc5]
      refine pm_to.blk rfl ?_
      refine pe_iload rfl ?_
      refine pe_aload rfl ?_
      refine pe_aload rfl ?_
      refine pe_iload rfl ?_
      refine pe_virt rfl rfl (hM.o ) rfl ( r_Model_partyOf hP (by omega) hM hm9) ?_
      refine pe_iload rfl ?_
      refine pe_iload rfl ?_
      refine pe_virt rfl rfl (hM.o ) rfl ( r_Model_partySign hP (by omega) hM hN _ A1 B1 A2 B2 A3 B3) ?_
      refine pe_imul ?_
      refine pe_nil (nx := 8) rfl ?_
      refine pm_to.blk rfl ?_
      exact pe_iret rfl rfl
    · rw [if_neg hc5]
      refine pm_to.blk rfl ?_
      refine pe_iload rfl ?_
      refine pe_iload rfl ?_
      refine pe_iload rfl ?_
      refine pe_isub ?_
      refine pe_imul ?_
      refine pe_goto (tgt := 8) rfl ?_
      refine pm_to.blk rfl ?_
      exact pe_iret rfl rfl
  simp only [h0, h1, h2, h4, h5, if_false]
  refine pm_to.blk rfl ?_
  refine pe_iload rfl ?_
  refine pe_iconst (v := 2) rfl ?_
  refine pe_idiv (by decide) ?_
  refine pe_aload rfl ?_
  refine pe_iload rfl ?_
  refine pe_aload rfl ?_
  refine pe_getf hM.o rfl rfl ?_
  refine pe_iload rfl ?_
  refine pe_ialdN (hM.a 20 (by decide)) rfl A1 (by decide) ?_
  refine pe_aload rfl ?_
  refine pe_getf hM.o rfl rfl ?_
  refine pe_iload rfl ?_
  refine pe_ialdN (hM.a 20 (by decide)) rfl B1 (by decide) ?_
  refine pe_virt rfl rfl (hM.o ) rfl ( by rw [A2, B2]; exact r_Model_sign hP (by omega) hM hm9 h3 A3 B3) ?_
  refine pe_imul ?_
  refine pe_iload rfl ?_
  refine pe_iload rfl ?_
  refine pe_iconst (v := 2) rfl ?_
  refine pe_idiv (by decide) ?_
  refine pe_isub ?_
  refine pe_aload rfl ?_
  refine pe_iload rfl ?_
  refine pe_aload rfl ?_
  refine pe_getf hM.o rfl rfl ?_
  refine pe_iload rfl ?_
  refine pe_ialdN (hM.a 22 (by decide)) rfl A1 (by decide) ?_
  refine pe_aload rfl ?_
  refine pe_getf hM.o rfl rfl ?_
  refine pe_iload rfl ?_
  refine pe_ialdN (hM.a 22 (by decide)) rfl B1 (by decide) ?_
  refine pe_virt rfl rfl (hM.o ) rfl ( by rw [A4, B4]; exact r_Model_sign hP (by omega) hM hm9 h3 A5 B5) ?_
  refine pe_imul ?_
  refine pe_iadd ?_
  exact pe_iret rfl rfl
end
end
section
/-! the reference: a question is settled -/
def sv (f : Nat → Int32) : Nat → Int32
  | 0 => 0
  | n + 1 => sv f n + f n
abbrev q_fst (sum ch : Int32) (x y : Nat) : Prop := 0 < sum ∨ (sum = 0 ∧ (x = y ∨ bI (x < y) = bI (ch = 0)))
/-- what of the arrays may have changed behind node n -/
def sq_fr (a a' : Nat → Nat → Int32) (n : Nat) : Prop := (∀ k, ¬ (20 ≤ k ∧ k ≤ 25) → a' k = a k) ∧ (∀ k j, j ≠ n → k ≠ 23 → a' k j = a k j) ∧ ∀ j, (j < 6 * n ∨ 6 * n + 6 ≤ j) → a' 23 j = a 23 j
theorem vcg_wis {i : Nat → Int32} {a a' : Nat → Nat → Int32} (h0 : a' 0 = a 0) (h18 : a' 18 = a 18) (h19 : a' 19 = a 19) : v_wis i a' = v_wis i a := by
  funext m e; unfold v_wis; rw [h0, h18, h19]
theorem vcg_voi {i : Nat → Int32} {a a' : Nat → Nat → Int32} (h0 : a' 0 = a 0) : v_voi i a' = v_voi i a := by
  funext m; unfold v_voi; rw [h0]
theorem vcg_kin {i : Nat → Int32} {a a' : Nat → Nat → Int32} (h0 : a' 0 = a 0) : v_kin i a' = v_kin i a := by
  funext m; unfold v_kin; rw [h0]
theorem vcg_par {i : Nat → Int32} {a a' : Nat → Nat → Int32} (h0 : a' 0 = a 0) : v_par i a' = v_par i a := by
  funext m; unfold v_par; rw [h0]
theorem vcg_end {i : Nat → Int32} {a a' : Nat → Nat → Int32} (h0 : a' 0 = a 0) : v_end i a' = v_end i a := by
  funext m; unfold v_end; rw [h0]
theorem vcg_num {a a' : Nat → Nat → Int32} (h0 : a' 0 = a 0) : v_num a' = v_num a := by
  funext m; unfold v_num; rw [h0]
theorem vcg_mem {i : Nat → Int32} {a a' : Nat → Nat → Int32} (h0 : a' 0 = a 0) : v_mem i a' = v_mem i a := by
  unfold v_mem; rw [h0]
theorem vcg_ok {i : Nat → Int32} {a a' : Nat → Nat → Int32} {N : Nat} (h0 : a' 0 = a 0) (h : v_ok i a N) : v_ok i a' N := by
  unfold v_ok at h ⊢; rw [vcg_mem h0]; exact h
theorem vcg_mar {i : Nat → Int32} {a a' : Nat → Nat → Int32} {N : Nat} (h0 : a' 0 = a 0) (h18 : a' 18 = a 18) (h19 : a' 19 = a 19) : v_mar i a' N = v_mar i a N := by
  funext x y; unfold v_mar; rw [vcg_wis h0 h18 h19, vcg_voi h0]
theorem vcg_std {i : Nat → Int32} {a a' : Nat → Nat → Int32} {N : Nat} (h0 : a' 0 = a 0) (h18 : a' 18 = a 18) (h19 : a' 19 = a 19) : v_std i a' N = v_std i a N := by
  funext x y; unfold v_std v_bts; rw [vcg_mar h0 h18 h19, h0]
theorem vcg_psg {i : Nat → Int32} {a a' : Nat → Nat → Int32} {N : Nat} (h0 : a' 0 = a 0) (h18 : a' 18 = a 18) (h19 : a' 19 = a 19) : v_psg i a' N = v_psg i a N := by
  funext p x y; unfold v_psg; rw [vcg_wis h0 h18 h19, vcg_voi h0, vcg_kin h0, vcg_par h0]
theorem vcg_vot {i : Nat → Int32} {a a' : Nat → Nat → Int32} {N : Nat} (h0 : a' 0 = a 0) (h18 : a' 18 = a 18) (h19 : a' 19 = a 19) : v_vot i a' N = v_vot i a N := by
  funext m n c s ins n' c' s' ins'; unfold v_vot; rw [vcg_wis h0 h18 h19, vcg_voi h0, vcg_kin h0, vcg_par h0, vcg_end h0, vcg_num h0, vcg_psg h0 h18 h19]
/-- the sum of votes of a question -/
def v_sum (i : Nat → Int32) (a : Nat → Nat → Int32) (N n c : Nat) (s : Nat → Nat) (ins : Int32) (n' c' : Nat) (s' : Nat → Nat) (ins' : Int32) : Int32 := sv (fun m => v_vot i a N m n c s ins n' c' s' ins') N
/-- what is seen of a question -/
def q_see (std : Nat → Nat → Nat) (n : Nat) (s s' : Nat → Nat) (q : Nat) : Nat := match q with
  | 0 => n
  | q + 1 => std (s q) (s' q)
theorem ms_Model_settleQuestion : pm_Ms[204]? = some md_Model_settleQuestion := rfl
theorem ms_Model_settle : pm_Ms[203]? = some md_Model_settle := rfl
theorem ms_Model_load : pm_Ms[202]? = some md_Model_load := rfl
theorem ms_Model_endOf : pm_Ms[201]? = some md_Model_endOf := rfl
section
variable {X : pm_X} {PR : pm_P} {S : pm_S} {i : Nat → Int32} {a : Nat → Nat → Int32} {r bt : Nat → Int64} {N : Nat}
set_option maxHeartbeats 4000000 in
theorem r_Model_settleQuestion (hP : pm_np PR) {d : Nat} (hd : 7 ≤ d) (hM : MR S i a r bt) (hN : v_ok i a N) (hq : ∀ m, m < N → v_kin i a m = 2 → ∃ q, q < 6 ∧ a 0 (30 + m) = nI q) {K A B n c n' c' : Nat} {s s' : Nat → Nat} {ins ins' : Int32} (hK : K < 110) (hKA : A < K) (hKB : B < K) (eA : a 10 K = nI A) (eB : a 11 K = nI B) (hA : nd_ok a A n c s ins) (hB : nd_ok a B n' c' s' ins') :
    ∃ (S' : pm_S) (a' : Nat → Nat → Int32), pm_run X pm_Ms PR d 204 [.ref 163, .int (nI K)] S = some (none, S') ∧ MR S' i a' r bt ∧ mfr S S' ∧ sq_fr a a' K ∧
      a' 24 K = v_sum i a N n c s ins n' c' s' ins' ∧ a' 25 K = (if q_fst (v_sum i a N n c s ins n' c' s' ins') (a 0 1) n n' then 0 else 1) ∧
      nd_ok a' K n (if q_fst (v_sum i a N n c s ins n' c' s' ins') (a 0 1) n n' then c else c') (q_see (v_std i a N) n s s') (a 21 K) := by
  have hA' := hA
  have hB' := hB
  obtain ⟨A1, A2, A3, A4, A5, A6, A7⟩ := hA'
  obtain ⟨B1, B2, B3, B4, B5, B6, B7⟩ := hB'
  have hN' := hN
  obtain ⟨hN1, hN2, hN3⟩ := hN'
  generalize hsum : v_sum i a N n c s ins n' c' s' ins' = sum
  have hcode : ∃ cf, cf = pm_run X pm_Ms PR (d - 1) := ⟨_, rfl⟩
  have tail : ∀ (L5 L6 : Option Value), ∃ (S' : pm_S) (a' : Nat → Nat → Int32), pm_to X pm_Ms (pm_run X pm_Ms PR (d - 1)) none cd_Model_settleQuestion 15 ([some (.ref 163), some (.int (nI K)), some (.int (nI A)), some (.int (nI B)), some (.int sum), L5, L6], [.int (bI (q_fst sum (a 0 1) n n'))], S) (none, S') ∧ MR S' i a' r bt ∧ mfr S S' ∧ sq_fr a a' K ∧ a' 24 K = sum ∧ a' 25 K = (if q_fst sum (a 0 1) n n' then 0 else 1) ∧ nd_ok a' K n (if q_fst sum (a 0 1) n n' then c else c') (q_see (v_std i a N) n s s') (a 21 K) := by
    intro L5 L6
    -- the states behind the stores
    generalize hfl : bI (q_fst sum (a 0 1) n n') = fl
    generalize hw : (if q_fst sum (a 0 1) n n' then (0 : Int32) else 1) = w
    generalize hcc : (if q_fst sum (a 0 1) n n' then c else c') = cc
    have hccn : (if q_fst sum (a 0 1) n n' then nI c else nI c') = nI cc := by rw [← hcc]; split <;> rfl
    have hcc7 : cc < 7 := by rw [← hcc]; split <;> assumption
    have M1 := hM.putA 24 (by decide) (upd (a 24) K sum)
    have M2 := M1.putA 25 (by decide) (upd (a 25) K w)
    have M3 := M2.putA 22 (by decide) (upd (a 22) K (nI cc))
    have M4 := M3.putA 20 (by decide) (upd (a 20) K (nI n))
    generalize hb : va_up (va_up (va_up (va_up a 24 (upd (a 24) K sum)) 25 (upd (a 25) K w)) 22 (upd (a 22) K (nI cc))) 20 (upd (a 20) K (nI n)) = b at M4
    have b0 : b 0 = a 0 := by rw [← hb]; rfl
    have b18 : b 18 = a 18 := by rw [← hb]; rfl
    have b19 : b 19 = a 19 := by rw [← hb]; rfl
    have b20 : b 20 = upd (a 20) K (nI n) := by rw [← hb]; rfl
    have b21 : b 21 = a 21 := by rw [← hb]; rfl
    have b22 : b 22 = upd (a 22) K (nI cc) := by rw [← hb]; rfl
    have b23 : b 23 = a 23 := by rw [← hb]; rfl
    have b24 : b 24 = upd (a 24) K sum := by rw [← hb]; rfl
    have b25 : b 25 = upd (a 25) K w := by rw [← hb]; rfl
    have bo : ∀ k, ¬ (20 ≤ k ∧ k ≤ 25) → b k = a k := by
      intro k hk
      rw [← hb]
      simp only [va_up]
      rw [if_neg (by omega), if_neg (by omega), if_neg (by omega), if_neg (by omega)]
    have F4 := ((((mfr.rf S).trans (mfr.put (c := 164 + 24) (e := .inl (0, msz 24, .inl (upd (a 24) K sum))) (by decide))).trans (mfr.put (c := 164 + 25) (e := .inl (0, msz 25, .inl (upd (a 25) K w))) (by decide))).trans (mfr.put (c := 164 + 22) (e := .inl (0, msz 22, .inl (upd (a 22) K (nI cc)))) (by decide))).trans (mfr.put (c := 164 + 20) (e := .inl (0, msz 20, .inl (upd (a 20) K (nI n)))) (by decide))
    -- the loop over what is seen
    have loop : ∀ (k e : Nat) (T : pm_S) (g : Nat → Int32), 1 ≤ e → e + k = 6 → MR T i (va_up b 23 g) r bt → mfr S T → (∀ q, 1 ≤ q → q < e → g (6 * K + q) = nI (q_see (v_std i a N) n s s' q)) → (∀ j, (j < 6 * K + 1 ∨ 6 * K + 6 ≤ j) → g j = a 23 j) →
        ∃ (S' : pm_S) (a' : Nat → Nat → Int32), pm_to X pm_Ms (pm_run X pm_Ms PR (d - 1)) none cd_Model_settleQuestion 22 ([some (.ref 163), some (.int (nI K)), some (.int (nI A)), some (.int (nI B)), some (.int sum), some (.int fl), some (.int (nI e))], [], T) (none, S') ∧ MR S' i a' r bt ∧ mfr S S' ∧ sq_fr a a' K ∧ a' 24 K = sum ∧ a' 25 K = w ∧ nd_ok a' K n cc (q_see (v_std i a N) n s s') (a 21 K) := by
      intro k
      induction k with
      | zero =>
        intro e T g he1 he2 MT FT hg1 hg2
        have e6 : e = 6 := by omega
        subst e6
        have ix : nI 6 * nI K = nI (6 * K) := pk_mul 6 K
        refine ⟨_, va_up (va_up b 23 g) 23 (upd g (6 * K) (nI n)), ?_, MT.putA 23 (by decide) (upd g (6 * K) (nI n)), FT.trans (mfr.put (by decide)), ⟨?_, ?_, ?_⟩, ?_, ?_, ?_⟩
        · refine pm_to.blk rfl ?_
          refine pe_iload rfl ?_
          refine pe_iconst (v := 6) rfl ?_
          refine pe_icmp_ge (tgt := 24) (nx := 23) rfl rfl (fun hc22 => ?_) (fun hc22 => ?_)
          · have e20 : (va_up b 23 g) 20 K = nI n := by show b 20 K = nI n; rw [b20]; simp [upd]
            refine pm_to.blk rfl ?_
            refine pe_aload rfl ?_
            refine pe_getf MT.o rfl rfl ?_
            refine pe_iconst (v := 6) rfl ?_
            refine pe_iload rfl ?_
            refine pe_imul ?_
            refine pe_aload rfl ?_
            refine pe_getf MT.o rfl rfl ?_
            refine pe_iload rfl ?_
            refine pe_ialdN (MT.a 20 (by decide)) rfl (by show K < 110; omega) (by decide) ?_
            refine pe_iastN (MT.a 23 (by decide)) ix (by show 6 * K < 660; omega) (by decide) ?_
            exact pe_ret rfl (by rw [e20]; rfl)
          · exact absurd (show (6 : Int32) ≤ nI 6 by decide) hc22
        · intro k hk
          show va_up (va_up b 23 g) 23 _ k = a k
          simp only [va_up]
          rw [if_neg (by omega), if_neg (by omega)]
          exact bo k hk
        · intro k j hj hk
          show va_up (va_up b 23 g) 23 _ k j = a k j
          simp only [va_up]
          rw [if_neg hk, if_neg hk]
          by_cases h20 : 20 ≤ k ∧ k ≤ 25
          · rcases (show k = 20 ∨ k = 21 ∨ k = 22 ∨ k = 24 ∨ k = 25 by omega) with rfl | rfl | rfl | rfl | rfl
            · rw [b20]; simp [upd, hj]
            · rw [b21]
            · rw [b22]; simp [upd, hj]
            · rw [b24]; simp [upd, hj]
            · rw [b25]; simp [upd, hj]
          · rw [bo k h20]
        · intro j hj
          show upd g (6 * K) (nI n) j = a 23 j
          rw [pk_un (by omega)]
          exact hg2 j (by omega)
        · show b 24 K = sum
          rw [b24]; simp [upd]
        · show b 25 K = w
          rw [b25]; simp [upd]
        · refine ⟨by omega, ?_, A3, ?_, hcc7, fun q hq6 => ?_, ?_⟩
          · show b 20 K = nI n
            rw [b20]; simp [upd]
          · show b 22 K = nI cc
            rw [b22]; simp [upd]
          · show upd g (6 * K) (nI n) (6 * K + q) = _ ∧ _
            cases q with
            | zero => exact ⟨by rw [Nat.add_zero, pk_us]; rfl, A3⟩
            | succ q =>
              rw [pk_un (by omega), hg1 (q + 1) (by omega) (by omega)]
              exact ⟨rfl, v_std_lt (A6 q (by omega)).2 (B6 q (by omega)).2⟩
          · show b 21 K = a 21 K
            rw [b21]
      | succ k ih =>
        intro e T g he1 he2 MT FT hg1 hg2
        have ix : nI 6 * nI K + nI e = nI (6 * K + e) := by rw [pk_mul, nI_add]
        have ixA : ∀ Z : Nat, nI 6 * nI Z + nI e - nI 1 = nI (6 * Z + (e - 1)) := fun Z => by
          rw [pk_mul, nI_add, pk_sub (by omega)]
          congr 1
          omega
        have gA : g (6 * A + (e - 1)) = nI (s (e - 1)) := by rw [hg2 _ (by omega)]; exact (A6 (e - 1) (by omega)).1
        have gB : g (6 * B + (e - 1)) = nI (s' (e - 1)) := by rw [hg2 _ (by omega)]; exact (B6 (e - 1) (by omega)).1
        have c0 : (va_up b 23 g) 0 = a 0 := b0
        have hok : v_ok i (va_up b 23 g) N := vcg_ok c0 hN
        have hst : v_std i (va_up b 23 g) N = v_std i a N := vcg_std c0 b18 b19
        have hstd := r_Model_standing (X := X) hP (d := d - 1) (by omega) MT hok (A6 (e - 1) (by omega)).2 (B6 (e - 1) (by omega)).2
        rw [hst] at hstd
        have M5 := MT.putA 23 (by decide) (upd g (6 * K + e) (nI (v_std i a N (s (e - 1)) (s' (e - 1)))))
        have eU : va_up (va_up b 23 g) 23 (upd g (6 * K + e) (nI (v_std i a N (s (e - 1)) (s' (e - 1))))) = va_up b 23 (upd g (6 * K + e) (nI (v_std i a N (s (e - 1)) (s' (e - 1))))) := bx_uu _ _ _ _
        rw [eU] at M5
        obtain ⟨S', a', h1, h2⟩ := ih (e + 1) _ _ (by omega) (by omega) M5 (FT.trans (mfr.put (by decide))) (fun q q1 q2 => by
          by_cases hqe : q = e
          · subst hqe
            rw [pk_us]
            obtain ⟨z, rfl⟩ : ∃ z, q = z + 1 := ⟨q - 1, by omega⟩
            rfl
          · rw [pk_un (by omega)]
            exact hg1 q q1 (by omega)) (fun j hj => by
          rw [pk_un (by omega)]
          exact hg2 j hj)
        refine ⟨S', a', ?_, h2⟩
        refine pm_to.blk rfl ?_
        refine pe_iload rfl ?_
        refine pe_iconst (v := 6) rfl ?_
        refine pe_icmp_ge (tgt := 24) (nx := 23) rfl rfl (fun hc22 => ?_) (fun hc22 => ?_)
        · exact absurd hc22 (nI_ge (a := e) (b := 6) (by omega) (by decide))
        · refine pm_to.blk rfl ?_
          refine pe_aload rfl ?_
          refine pe_getf MT.o rfl rfl ?_
          refine pe_iconst (v := 6) rfl ?_
          refine pe_iload rfl ?_
          refine pe_imul ?_
          refine pe_iload rfl ?_
          refine pe_iadd ?_
          refine pe_aload rfl ?_
          refine pe_aload rfl ?_
          refine pe_getf MT.o rfl rfl ?_
          refine pe_iconst (v := 6) rfl ?_
          refine pe_iload rfl ?_
          refine pe_imul ?_
          refine pe_iload rfl ?_
          refine pe_iadd ?_
          refine pe_iconst (v := 1) rfl ?_
          refine pe_isub ?_
          refine pe_ialdN (MT.a 23 (by decide)) (ixA A) (by show 6 * A + (e - 1) < 660; omega) (by decide) ?_
          refine pe_aload rfl ?_
          refine pe_getf MT.o rfl rfl ?_
          refine pe_iconst (v := 6) rfl ?_
          refine pe_iload rfl ?_
          refine pe_imul ?_
          refine pe_iload rfl ?_
          refine pe_iadd ?_
          refine pe_iconst (v := 1) rfl ?_
          refine pe_isub ?_
          refine pe_ialdN (MT.a 23 (by decide)) (ixA B) (by show 6 * B + (e - 1) < 660; omega) (by decide) ?_
          refine pe_virt rfl rfl (MT.o ) rfl ( by show pm_run _ _ _ _ _ [_, .int (g (6 * A + (e - 1))), .int (g (6 * B + (e - 1)))] _ = _; rw [gA, gB]; exact hstd) ?_
          refine pe_iastN (MT.a 23 (by decide)) ix (by show 6 * K + e < 660; omega) (by decide) ?_
          refine pe_iinc (L' := [_, _, _, _, _, _, _]) rfl ((nI_succ e).symm) rfl ?_
          refine pe_goto (tgt := 22) rfl ?_
          exact h1
    have hlast := loop 5 1 _ (a 23) (by omega) (by omega) (by have : va_up b 23 (a 23) = b := by { funext k; simp only [va_up]; split; (· rename_i h; rw [h, b23]); rfl }; rw [this]; exact M4) F4 (fun q q1 q2 => by omega) (fun j _ => rfl)
    obtain ⟨S', a', h1, h2⟩ := hlast
    refine ⟨S', a', ?_, h2⟩
    -- block 21, with what comes on the stack
    have t21 : ∀ L6 : Option Value, pm_to X pm_Ms (pm_run X pm_Ms PR (d - 1)) none cd_Model_settleQuestion 21 ([some (.ref 163), some (.int (nI K)), some (.int (nI A)), some (.int (nI B)), some (.int sum), some (.int fl), L6], [.int (nI cc), .int (nI K), .ref 186], pm_put (pm_put S (164 + 24) (.inl (0, msz 24, .inl (upd (a 24) K sum)))) (164 + 25) (.inl (0, msz 25, .inl (upd (a 25) K w)))) (none, S') := by
      intro L6
      refine pm_to.blk rfl ?_
      refine pe_iastN (M2.a 22 (by decide)) rfl (by show K < 110; omega) (by decide) ?_
      refine pe_aload rfl ?_
      refine pe_getf M3.o rfl rfl ?_
      refine pe_iload rfl ?_
      refine pe_aload rfl ?_
      refine pe_getf M3.o rfl rfl ?_
      refine pe_iload rfl ?_
      refine pe_ialdN (M3.a 20 (by decide)) rfl (by show A < 110; omega) (by decide) ?_
      refine pe_iastN (M3.a 20 (by decide)) rfl (by show K < 110; omega) (by decide) ?_
      refine pe_iconst (v := 1) rfl ?_
      refine pe_istore (L' := [_, _, _, _, _, _, _]) rfl ?_
      refine pe_nil (nx := 22) rfl ?_
      rw [show (va_up (va_up (va_up a 24 (upd (a 24) K sum)) 25 (upd (a 25) K w)) 22 (upd (a 22) K (nI cc))) 20 A = nI n from A2]
      exact h1
    -- block 18, with who wins on the stack
    have t18 : ∀ L6 : Option Value, pm_to X pm_Ms (pm_run X pm_Ms PR (d - 1)) none cd_Model_settleQuestion 18 ([some (.ref 163), some (.int (nI K)), some (.int (nI A)), some (.int (nI B)), some (.int sum), some (.int fl), L6], [.int w, .int (nI K), .ref 189], pm_put S (164 + 24) (.inl (0, msz 24, .inl (upd (a 24) K sum)))) (none, S') := by
      intro L6
      refine pm_to.blk rfl ?_
      refine pe_iastN (M1.a 25 (by decide)) rfl (by show K < 110; omega) (by decide) ?_
      refine pe_aload rfl ?_
      refine pe_getf M2.o rfl rfl ?_
      refine pe_iload rfl ?_
      refine pe_iload rfl ?_
      refine pe_if_eq (tgt := 20) (nx := 19) rfl rfl (fun hc18 => ?_) (fun hc18 => ?_)
      · have hn : ¬ q_fst sum (a 0 1) n n' := fun z => by rw [← hfl, bI_t z] at hc18; exact absurd hc18 (by decide)
        refine pm_to.blk rfl ?_
        refine pe_aload rfl ?_
        refine pe_getf M2.o rfl rfl ?_
        refine pe_iload rfl ?_
        refine pe_ialdN (M2.a 22 (by decide)) rfl (by show B < 110; omega) (by decide) ?_
        refine pe_nil (nx := 21) rfl ?_
        rw [show (va_up (va_up a 24 (upd (a 24) K sum)) 25 (upd (a 25) K w)) 22 B = nI cc from by rw [← hccn, if_neg hn]; exact B4]
        exact t21 _
      · have hy : q_fst sum (a 0 1) n n' := by rw [← hfl] at hc18; exact bI_ne.mp hc18
        refine pm_to.blk rfl ?_
        refine pe_aload rfl ?_
        refine pe_getf M2.o rfl rfl ?_
        refine pe_iload rfl ?_
        refine pe_ialdN (M2.a 22 (by decide)) rfl (by show A < 110; omega) (by decide) ?_
        refine pe_goto (tgt := 21) rfl ?_
        rw [show (va_up (va_up a 24 (upd (a 24) K sum)) 25 (upd (a 25) K w)) 22 A = nI cc from by rw [← hccn, if_pos hy]; exact A4]
        exact t21 _
    refine pm_to.blk rfl ?_
    refine pe_istore (L' := [_, _, _, _, _, _, _]) rfl ?_
    refine pe_aload rfl ?_
    refine pe_getf hM.o rfl rfl ?_
    refine pe_iload rfl ?_
    refine pe_iload rfl ?_
    refine pe_iastN (hM.a 24 (by decide)) rfl (by show K < 110; omega) (by decide) ?_
    refine pe_aload rfl ?_
    refine pe_getf M1.o rfl rfl ?_
    refine pe_iload rfl ?_
    refine pe_iload rfl ?_
    refine pe_if_eq (tgt := 17) (nx := 16) rfl rfl (fun hc15 => ?_) (fun hc15 => ?_)
    · have hn : ¬ q_fst sum (a 0 1) n n' := fun z => by rw [← hfl, bI_t z] at hc15; exact absurd hc15 (by decide)
      refine pm_to.blk rfl ?_
      refine pe_iconst (v := 1) rfl ?_
      refine pe_nil (nx := 18) rfl ?_
      have hw1 : w = 1 := by rw [← hw, if_neg hn]
      have := t18 L6
      rw [hw1] at this
      exact this
    · have hy : q_fst sum (a 0 1) n n' := by rw [← hfl] at hc15; exact bI_ne.mp hc15
      refine pm_to.blk rfl ?_
      refine pe_iconst (v := 0) rfl ?_
      refine pe_goto (tgt := 18) rfl ?_
      have hw1 : w = 0 := by rw [← hw, if_pos hy]
      have := t18 L6
      rw [hw1] at this
      exact this
  obtain ⟨S', a', hto, hrest⟩ := tail (some (.int (nI N))) none
  refine ⟨S', a', ?_, hrest⟩
  refine pm_run_of (L := [_, _, _, _, _, _, _]) (by omega) (hP _ rfl) ms_Model_settleQuestion rfl ?_
  show pm_to _ _ _ (none) cd_Model_settleQuestion 0 _ _
  have t14 : ¬ q_fst sum (a 0 1) n n' → pm_to X pm_Ms (pm_run X pm_Ms PR (d - 1)) none cd_Model_settleQuestion 14 ([some (.ref 163), some (.int (nI K)), some (.int (nI A)), some (.int (nI B)), some (.int sum), some (.int (nI N)), none], [], S) (none, S') := by
    intro hn
    rw [bI_f hn] at hto
    refine pm_to.blk rfl ?_
    refine pe_iconst (v := 0) rfl ?_
    refine pe_nil (nx := 15) rfl ?_
    exact hto
  have t13 : q_fst sum (a 0 1) n n' → pm_to X pm_Ms (pm_run X pm_Ms PR (d - 1)) none cd_Model_settleQuestion 13 ([some (.ref 163), some (.int (nI K)), some (.int (nI A)), some (.int (nI B)), some (.int sum), some (.int (nI N)), none], [], S) (none, S') := by
    intro hn
    rw [bI_t hn] at hto
    refine pm_to.blk rfl ?_
    refine pe_iconst (v := 1) rfl ?_
    refine pe_goto (tgt := 15) rfl ?_
    exact hto
  have enn : a 20 A = a 20 B ↔ n = n' := by rw [A2, B2]; exact nI_eq (by omega) (by omega)
  have t12 : ∀ u v : Int32, u = bI (n < n') → v = bI (a 0 1 = 0) → sum = 0 → ¬ n = n' → ¬ 0 < sum → pm_to X pm_Ms (pm_run X pm_Ms PR (d - 1)) none cd_Model_settleQuestion 12 ([some (.ref 163), some (.int (nI K)), some (.int (nI A)), some (.int (nI B)), some (.int sum), some (.int (nI N)), none], [.int v, .int u], S) (none, S') := by
    intro u v hu hv hs hne hns
    refine pm_to.blk rfl ?_
    refine pe_icmp_ne (tgt := 14) (nx := 13) rfl rfl (fun hc12 => ?_) (fun hc12 => ?_)
    · exact t14 (fun z => z.elim hns (fun q => q.2.elim hne (fun w => hc12 (by rw [hu, hv]; exact w))))
    · exact t13 (Or.inr ⟨hs, Or.inr (by rw [← hu, ← hv]; exact Decidable.not_not.mp hc12)⟩)
  have t9 : ∀ u : Int32, u = bI (n < n') → sum = 0 → ¬ n = n' → ¬ 0 < sum → pm_to X pm_Ms (pm_run X pm_Ms PR (d - 1)) none cd_Model_settleQuestion 9 ([some (.ref 163), some (.int (nI K)), some (.int (nI A)), some (.int (nI B)), some (.int sum), some (.int (nI N)), none], [.int u], S) (none, S') := by
    intro u hu hs hne hns
    refine pm_to.blk rfl ?_
    refine pe_aload rfl ?_
    refine pe_getf hM.o rfl rfl ?_
    refine pe_iconst (v := 1) rfl ?_
    refine pe_iald (hM.a 0 (by decide)) (vi rfl) ?_
    refine pe_if_ne (tgt := 11) (nx := 10) rfl rfl (fun hc9 => ?_) (fun hc9 => ?_)
    · refine pm_to.blk rfl ?_
      refine pe_iconst (v := 0) rfl ?_
      refine pe_nil (nx := 12) rfl ?_
      exact t12 u 0 hu (bI_f hc9).symm hs hne hns
    · refine pm_to.blk rfl ?_
      refine pe_iconst (v := 1) rfl ?_
      refine pe_goto (tgt := 12) rfl ?_
      exact t12 u 1 hu (bI_t (Decidable.not_not.mp hc9)).symm hs hne hns
  have t3 : pm_to X pm_Ms (pm_run X pm_Ms PR (d - 1)) none cd_Model_settleQuestion 3 ([some (.ref 163), some (.int (nI K)), some (.int (nI A)), some (.int (nI B)), some (.int sum), some (.int (nI N)), none], [], S) (none, S') := by
    refine pm_to.blk rfl ?_
    refine pe_iload rfl ?_
    refine pe_if_gt (tgt := 13) (nx := 4) rfl rfl (fun hc3 => ?_) (fun hc3 => ?_)
    · exact t13 (Or.inl hc3)
    · refine pm_to.blk rfl ?_
      refine pe_iload rfl ?_
      refine pe_if_ne (tgt := 14) (nx := 5) rfl rfl (fun hc4 => ?_) (fun hc4 => ?_)
      · exact t14 (fun z => z.elim hc3 (fun q => hc4 q.1))
      · have hs := Decidable.not_not.mp hc4
        refine pm_to.blk rfl ?_
        refine pe_aload rfl ?_
        refine pe_getf hM.o rfl rfl ?_
        refine pe_iload rfl ?_
        refine pe_ialdN (hM.a 20 (by decide)) rfl (by show A < 110; omega) (by decide) ?_
        refine pe_aload rfl ?_
        refine pe_getf hM.o rfl rfl ?_
        refine pe_iload rfl ?_
        refine pe_ialdN (hM.a 20 (by decide)) rfl (by show B < 110; omega) (by decide) ?_
        refine pe_icmp_eq (tgt := 13) (nx := 6) rfl rfl (fun hc5 => ?_) (fun hc5 => ?_)
        · exact t13 (Or.inr ⟨hs, Or.inl (enn.mp hc5)⟩)
        · have hne : ¬ n = n' := fun z => hc5 (enn.mpr z)
          refine pm_to.blk rfl ?_
          refine pe_aload rfl ?_
          refine pe_getf hM.o rfl rfl ?_
          refine pe_iload rfl ?_
          refine pe_ialdN (hM.a 20 (by decide)) rfl (by show A < 110; omega) (by decide) ?_
          refine pe_aload rfl ?_
          refine pe_getf hM.o rfl rfl ?_
          refine pe_iload rfl ?_
          refine pe_ialdN (hM.a 20 (by decide)) rfl (by show B < 110; omega) (by decide) ?_
          refine pe_icmp_ge (tgt := 8) (nx := 7) rfl rfl (fun hc6 => ?_) (fun hc6 => ?_)
          · rw [A2, B2] at hc6
            refine pm_to.blk rfl ?_
            refine pe_iconst (v := 0) rfl ?_
            refine pe_nil (nx := 9) rfl ?_
            exact t9 0 (bI_f (fun z => absurd hc6 (nI_ge z (by omega)))).symm hs hne hc3
          · rw [A2, B2] at hc6
            refine pm_to.blk rfl ?_
            refine pe_iconst (v := 1) rfl ?_
            refine pe_goto (tgt := 9) rfl ?_
            exact t9 1 (bI_t ((nI_ltI (by omega) (by omega)).mp (Int32.not_le.mp hc6))).symm hs hne hc3
  have hsv : sv (fun m => v_vot i a N m n c s ins n' c' s' ins') N = sum := hsum
  have loop : ∀ (k m : Nat), m + k = N → pm_to X pm_Ms (pm_run X pm_Ms PR (d - 1)) none cd_Model_settleQuestion 1 ([some (.ref 163), some (.int (nI K)), some (.int (nI A)), some (.int (nI B)), some (.int (sv (fun m => v_vot i a N m n c s ins n' c' s' ins') m)), some (.int (nI m)), none], [], S) (none, S') := by
    intro k
    induction k with
    | zero =>
      intro m hm
      have e : m = N := by omega
      subst e
      rw [hsv]
      refine pm_to.blk rfl ?_
      refine pe_iload rfl ?_
      refine pe_aload rfl ?_
      refine pe_virt rfl rfl (hM.o ) rfl ( r_Model_members hP (by omega) hM) ?_
      refine pe_icmp_ge (tgt := 3) (nx := 2) rfl rfl (fun hc1 => ?_) (fun hc1 => ?_)
      · exact t3
      · exact absurd (by rw [hN1]; exact nI_le (Nat.le_refl _) (by omega)) hc1
    | succ k ih =>
      intro m hm
      refine pm_to.blk rfl ?_
      refine pe_iload rfl ?_
      refine pe_aload rfl ?_
      refine pe_virt rfl rfl (hM.o ) rfl ( r_Model_members hP (by omega) hM) ?_
      refine pe_icmp_ge (tgt := 3) (nx := 2) rfl rfl (fun hc1 => ?_) (fun hc1 => ?_)
      · rw [hN1] at hc1
        exact absurd hc1 (nI_ge (by omega) (by omega))
      · refine pm_to.blk rfl ?_
        refine pe_iload rfl ?_
        refine pe_aload rfl ?_
        refine pe_iload rfl ?_
        refine pe_iload rfl ?_
        refine pe_iload rfl ?_
        refine pe_virt rfl rfl (hM.o ) rfl ( r_Model_voteOf hP (by omega) hM hN (by omega) (hq m (by omega)) hA hB) ?_
        refine pe_iadd ?_
        refine pe_istore (L' := [_, _, _, _, _, _, _]) rfl ?_
        refine pe_iinc (L' := [_, _, _, _, _, _, _]) rfl ((nI_succ m).symm) rfl ?_
        refine pe_goto (tgt := 1) rfl ?_
        exact ih (m + 1) (by omega)
  refine pm_to.blk rfl ?_
  refine pe_aload rfl ?_
  refine pe_getf hM.o rfl rfl ?_
  refine pe_iload rfl ?_
  refine pe_ialdN (hM.a 10 (by decide)) rfl (by show K < 110; omega) (by decide) ?_
  refine pe_istore (L' := [_, _, _, _, _, _, _]) rfl ?_
  refine pe_aload rfl ?_
  refine pe_getf hM.o rfl rfl ?_
  refine pe_iload rfl ?_
  refine pe_ialdN (hM.a 11 (by decide)) rfl (by show K < 110; omega) (by decide) ?_
  refine pe_istore (L' := [_, _, _, _, _, _, _]) rfl ?_
  refine pe_iconst (v := 0) rfl ?_
  refine pe_istore (L' := [_, _, _, _, _, _, _]) rfl ?_
  refine pe_iconst (v := 0) rfl ?_
  refine pe_istore (L' := [_, _, _, _, _, _, _]) rfl ?_
  refine pe_nil (nx := 1) rfl ?_
  rw [eA, eB]
  exact loop N 0 (by omega)
end
end
section
/-! the reference: all nodes are settled -/
/-- what comes of a node: name, comes, sees, inside, voted, wins -/
abbrev NV : Type := Nat × Nat × (Nat → Nat) × Int32 × Int32 × Int32
def nv_leaf (x : Nat) : NV := (x, x, fun _ => x, 1 <<< (nI x &&& 31), 0, 0)
def nv_q (i : Nat → Int32) (a : Nat → Nat → Int32) (N : Nat) (A B : NV) : NV :=
  (A.1, (if q_fst (v_sum i a N A.1 A.2.1 A.2.2.1 A.2.2.2.1 B.1 B.2.1 B.2.2.1 B.2.2.2.1) (a 0 1) A.1 B.1 then A.2.1 else B.2.1), q_see (v_std i a N) A.1 A.2.2.1 B.2.2.1, A.2.2.2.1 ||| B.2.2.2.1,
    v_sum i a N A.1 A.2.1 A.2.2.1 A.2.2.2.1 B.1 B.2.1 B.2.2.1 B.2.2.2.1, (if q_fst (v_sum i a N A.1 A.2.1 A.2.2.1 A.2.2.2.1 B.1 B.2.1 B.2.2.1 B.2.2.2.1) (a 0 1) A.1 B.1 then 0 else 1))
def nv_c (i : Nat → Int32) (a : Nat → Nat → Int32) (N x y : Nat) (A B : NV) : NV := if v_bts i a N x y then (A.1, A.2.1, A.2.2.1, A.2.2.2.1 ||| B.2.2.2.1, 0, 0) else (B.1, B.2.1, B.2.2.1, A.2.2.2.1 ||| B.2.2.2.1, 0, 0)
/-- a tree of nodes: kind, left, right, x, y -/
abbrev TR : Type := Nat → Nat × Nat × Nat × Nat × Nat
def nvf (i : Nat → Int32) (a : Nat → Nat → Int32) (N : Nat) (t : TR) : Nat → Nat → NV
  | 0, _ => nv_leaf 0
  | f + 1, n => if (t n).1 = 0 then nv_leaf (t n).2.2.2.1 else if (t n).1 = 1 then nv_q i a N (nvf i a N t f (t n).2.1) (nvf i a N t f (t n).2.2.1) else nv_c i a N (t n).2.2.2.1 (t n).2.2.2.2 (nvf i a N t f (t n).2.1) (nvf i a N t f (t n).2.2.1)
def tr_ok (t : TR) (K : Nat) : Prop := ∀ n, n < K → (t n).1 ≤ 2 ∧ ((t n).1 = 0 → (t n).2.2.2.1 < 7) ∧ (¬ (t n).1 = 0 → (t n).2.1 < n ∧ (t n).2.2.1 < n) ∧ ((t n).1 = 2 → (t n).2.2.2.1 < 7 ∧ (t n).2.2.2.2 < 7)
theorem nvf_fuel {i : Nat → Int32} {a : Nat → Nat → Int32} {N K : Nat} {t : TR} (ht : tr_ok t K) : ∀ (f g n : Nat), n < K → n < f → n < g → nvf i a N t f n = nvf i a N t g n := by
  intro f
  induction f with
  | zero => intro g n _ h; omega
  | succ f ih =>
    intro g n hn hf hg
    obtain ⟨g, rfl⟩ : ∃ k, g = k + 1 := ⟨g - 1, by omega⟩
    unfold nvf
    by_cases h0 : (t n).1 = 0
    · simp only [h0, if_true]
    · obtain ⟨h1, h2⟩ := (ht n hn).2.2.1 h0
      rw [ih g (t n).2.1 (by omega) (by omega) (by omega), ih g (t n).2.2.1 (by omega) (by omega) (by omega)]
def nval (i : Nat → Int32) (a : Nat → Nat → Int32) (N : Nat) (t : TR) (n : Nat) : NV := nvf i a N t (n + 1) n
theorem nval_0 {i : Nat → Int32} {a : Nat → Nat → Int32} {N n : Nat} {t : TR} (h : (t n).1 = 0) : nval i a N t n = nv_leaf (t n).2.2.2.1 := by
  unfold nval nvf; rw [if_pos h]
theorem nval_1 {i : Nat → Int32} {a : Nat → Nat → Int32} {N K n : Nat} {t : TR} (ht : tr_ok t K) (hn : n < K) (h : (t n).1 = 1) : nval i a N t n = nv_q i a N (nval i a N t (t n).2.1) (nval i a N t (t n).2.2.1) := by
  obtain ⟨h1, h2⟩ := (ht n hn).2.2.1 (by omega)
  unfold nval
  rw [nvf_fuel ht ((t n).2.1 + 1) n (t n).2.1 (by omega) (by omega) (by omega), nvf_fuel ht ((t n).2.2.1 + 1) n (t n).2.2.1 (by omega) (by omega) (by omega)]
  conv => lhs; unfold nvf
  rw [if_neg (by omega), if_pos h]
theorem nval_2 {i : Nat → Int32} {a : Nat → Nat → Int32} {N K n : Nat} {t : TR} (ht : tr_ok t K) (hn : n < K) (h : (t n).1 = 2) : nval i a N t n = nv_c i a N (t n).2.2.2.1 (t n).2.2.2.2 (nval i a N t (t n).2.1) (nval i a N t (t n).2.2.1) := by
  obtain ⟨h1, h2⟩ := (ht n hn).2.2.1 (by omega)
  unfold nval
  rw [nvf_fuel ht ((t n).2.1 + 1) n (t n).2.1 (by omega) (by omega) (by omega), nvf_fuel ht ((t n).2.2.1 + 1) n (t n).2.2.1 (by omega) (by omega) (by omega)]
  conv => lhs; unfold nvf
  rw [if_neg (by omega), if_neg (by omega)]
/-- the arrays hold what comes of node n -/
def nd_all (a : Nat → Nat → Int32) (t : TR) (n : Nat) (v : NV) : Prop := nd_ok a n v.1 v.2.1 v.2.2.1 v.2.2.2.1 ∧ ((t n).1 = 1 → a 24 n = v.2.2.2.2.1 ∧ a 25 n = v.2.2.2.2.2)
/-- the arrays hold the tree -/
def tr_at (a : Nat → Nat → Int32) (t : TR) (K : Nat) : Prop := ∀ n, n < K → a 9 n = nI (t n).1 ∧ (¬ (t n).1 = 0 → a 10 n = nI (t n).2.1 ∧ a 11 n = nI (t n).2.2.1) ∧ (¬ (t n).1 = 1 → a 12 n = nI (t n).2.2.2.1) ∧ ((t n).1 = 2 → a 13 n = nI (t n).2.2.2.2)
theorem sq_fr.nd {a a' : Nat → Nat → Int32} {t : TR} {n j : Nat} {v : NV} (h : sq_fr a a' n) (hj : j < n) (hv : nd_all a t j v) : nd_all a' t j v := by
  obtain ⟨⟨v1, v2, v3, v4, v5, v6, v7⟩, v8⟩ := hv
  obtain ⟨h1, h2, h3⟩ := h
  refine ⟨⟨v1, ?_, v3, ?_, v5, fun q hq => ?_, ?_⟩, fun hk => ⟨?_, ?_⟩⟩
  · rw [h2 20 j (by omega) (by decide)]; exact v2
  · rw [h2 22 j (by omega) (by decide)]; exact v4
  · rw [h3 _ (by omega)]; exact v6 q hq
  · rw [h2 21 j (by omega) (by decide)]; exact v7
  · rw [h2 24 j (by omega) (by decide)]; exact (v8 hk).1
  · rw [h2 25 j (by omega) (by decide)]; exact (v8 hk).2
section
variable {X : pm_X} {PR : pm_P} {S : pm_S} {i : Nat → Int32} {a : Nat → Nat → Int32} {r bt : Nat → Int64} {N : Nat}
/-- one node of the loop, an END -/
theorem s_leaf {d : Nat} (hM : MR S i a r bt) {n x : Nat} (hn : n < 110) (hx : x < 7) (e9 : a 9 n = 0) (e12 : a 12 n = nI x) :
    ∃ (S' : pm_S) (a' : Nat → Nat → Int32), MR S' i a' r bt ∧ mfr S S' ∧ sq_fr a a' n ∧ nd_ok a' n x x (fun _ => x) (1 <<< (nI x &&& 31)) ∧
      ∀ (t : pm_T) (L2 L3 : Option Value), (∀ L2 L3 : Option Value, pm_to X pm_Ms (pm_run X pm_Ms PR d) (some .int) cd_Model_settle 15 ([some (.ref 163), some (.int (nI n)), L2, L3], [], S') t) → pm_to X pm_Ms (pm_run X pm_Ms PR d) (some .int) cd_Model_settle 2 ([some (.ref 163), some (.int (nI n)), L2, L3], [], S) t := by
  have M1 := hM.putA 20 (by decide) (upd (a 20) n (nI x))
  have M2 := M1.putA 21 (by decide) (upd (a 21) n (1 <<< (nI x &&& 31)))
  have M3 := M2.putA 22 (by decide) (upd (a 22) n (nI x))
  have F3 := (((mfr.rf S).trans (mfr.put (c := 164 + 20) (e := .inl (0, msz 20, .inl (upd (a 20) n (nI x)))) (by decide))).trans (mfr.put (c := 164 + 21) (e := .inl (0, msz 21, .inl (upd (a 21) n (1 <<< (nI x &&& 31))))) (by decide))).trans (mfr.put (c := 164 + 22) (e := .inl (0, msz 22, .inl (upd (a 22) n (nI x)))) (by decide))
  have e12a : (va_up a 20 (upd (a 20) n (nI x))) 12 n = nI x := e12
  have e12b : (va_up (va_up a 20 (upd (a 20) n (nI x))) 21 (upd (a 21) n (1 <<< (nI x &&& 31)))) 12 n = nI x := e12
  generalize hb : va_up (va_up (va_up a 20 (upd (a 20) n (nI x))) 21 (upd (a 21) n (1 <<< (nI x &&& 31)))) 22 (upd (a 22) n (nI x)) = b at M3
  have b12 : b 12 n = nI x := by rw [← hb]; exact e12
  have b20 : b 20 = upd (a 20) n (nI x) := by rw [← hb]; rfl
  have b21 : b 21 = upd (a 21) n (1 <<< (nI x &&& 31)) := by rw [← hb]; rfl
  have b22 : b 22 = upd (a 22) n (nI x) := by rw [← hb]; rfl
  have b23 : b 23 = a 23 := by rw [← hb]; rfl
  have bo : ∀ k, ¬ (20 ≤ k ∧ k ≤ 22) → b k = a k := by
    intro k hk
    rw [← hb]
    simp only [va_up]
    rw [if_neg (by omega), if_neg (by omega), if_neg (by omega)]
  have loop : ∀ (k e : Nat) (T : pm_S) (g : Nat → Int32), e + k = 6 → MR T i (va_up b 23 g) r bt → mfr S T → (∀ q, q < e → g (6 * n + q) = nI x) → (∀ j, (j < 6 * n ∨ 6 * n + 6 ≤ j) → g j = a 23 j) →
      ∃ (S' : pm_S) (a' : Nat → Nat → Int32), MR S' i a' r bt ∧ mfr S S' ∧ sq_fr a a' n ∧ nd_ok a' n x x (fun _ => x) (1 <<< (nI x &&& 31)) ∧
      ∀ (t : pm_T) (L3 : Option Value), (∀ L2 L3 : Option Value, pm_to X pm_Ms (pm_run X pm_Ms PR d) (some .int) cd_Model_settle 15 ([some (.ref 163), some (.int (nI n)), L2, L3], [], S') t) → pm_to X pm_Ms (pm_run X pm_Ms PR d) (some .int) cd_Model_settle 4 ([some (.ref 163), some (.int (nI n)), some (.int (nI e)), L3], [], T) t := by
    intro k
    induction k with
    | zero =>
      intro e T g he MT FT hg1 hg2
      have e6 : e = 6 := by omega
      subst e6
      refine ⟨T, va_up b 23 g, MT, FT, ⟨?_, ?_, ?_⟩, ⟨hn, ?_, hx, ?_, hx, fun q hq => ⟨hg1 q hq, hx⟩, ?_⟩, ?_⟩
      · intro k hk
        show va_up b 23 g k = a k
        simp only [va_up]
        rw [if_neg (by omega)]
        exact bo k (by omega)
      · intro k j hj hk
        show va_up b 23 g k j = a k j
        simp only [va_up]
        rw [if_neg hk]
        by_cases h20 : 20 ≤ k ∧ k ≤ 22
        · rcases (show k = 20 ∨ k = 21 ∨ k = 22 by omega) with rfl | rfl | rfl
          · rw [b20]; simp [upd, hj]
          · rw [b21]; simp [upd, hj]
          · rw [b22]; simp [upd, hj]
        · rw [bo k h20]
      · intro j hj
        exact hg2 j hj
      · show b 20 n = nI x
        rw [b20]; simp [upd]
      · show b 22 n = nI x
        rw [b22]; simp [upd]
      · show b 21 n = _
        rw [b21]; simp [upd]
      · intro t L3 h15
        refine pm_to.blk rfl ?_
        refine pe_iload rfl ?_
        refine pe_iconst (v := 6) rfl ?_
        refine pe_icmp_ge (tgt := 6) (nx := 5) rfl rfl (fun hc4 => ?_) (fun hc4 => ?_)
        · refine pm_to.blk rfl ?_
          refine pe_goto (tgt := 15) rfl ?_
          exact h15 _ _
        · exact absurd (show (6 : Int32) ≤ nI 6 by decide) hc4
    | succ k ih =>
      intro e T g he MT FT hg1 hg2
      have ix : nI 6 * nI n + nI e = nI (6 * n + e) := by rw [pk_mul, nI_add]
      have M5 := MT.putA 23 (by decide) (upd g (6 * n + e) (nI x))
      have eU : va_up (va_up b 23 g) 23 (upd g (6 * n + e) (nI x)) = va_up b 23 (upd g (6 * n + e) (nI x)) := bx_uu _ _ _ _
      rw [eU] at M5
      obtain ⟨S', a', h1, h2, h3, h4, h5⟩ := ih (e + 1) _ _ (by omega) M5 (FT.trans (mfr.put (by decide))) (fun q hq => by
        by_cases hqe : q = e
        · subst hqe; rw [pk_us]
        · rw [pk_un (by omega)]; exact hg1 q (by omega)) (fun j hj => by rw [pk_un (by omega)]; exact hg2 j hj)
      refine ⟨S', a', h1, h2, h3, h4, fun t L3 h15 => ?_⟩
      refine pm_to.blk rfl ?_
      refine pe_iload rfl ?_
      refine pe_iconst (v := 6) rfl ?_
      refine pe_icmp_ge (tgt := 6) (nx := 5) rfl rfl (fun hc4 => ?_) (fun hc4 => ?_)
      · exact absurd hc4 (nI_ge (a := e) (b := 6) (by omega) (by decide))
      · refine pm_to.blk rfl ?_
        refine pe_aload rfl ?_
        refine pe_getf MT.o rfl rfl ?_
        refine pe_iconst (v := 6) rfl ?_
        refine pe_iload rfl ?_
        refine pe_imul ?_
        refine pe_iload rfl ?_
        refine pe_iadd ?_
        refine pe_aload rfl ?_
        refine pe_getf MT.o rfl rfl ?_
        refine pe_iload rfl ?_
        refine pe_ialdN (MT.a 12 (by decide)) rfl hn (by decide) ?_
        refine pe_iastN (MT.a 23 (by decide)) ix (by show 6 * n + e < 660; omega) (by decide) ?_
        refine pe_iinc (L' := [_, _, _, _]) rfl ((nI_succ e).symm) rfl ?_
        refine pe_goto (tgt := 4) rfl ?_
        rw [show (va_up b 23 g) 12 n = nI x from b12]
        exact h5 t L3 h15
  obtain ⟨S', a', h1, h2, h3, h4, h5⟩ := loop 6 0 _ (a 23) (by omega) (by have : va_up b 23 (a 23) = b := by { funext k; simp only [va_up]; split; (· rename_i h; rw [h, b23]); rfl }; rw [this]; exact M3) F3 (fun q hq => by omega) (fun j _ => rfl)
  refine ⟨S', a', h1, h2, h3, h4, fun t L2 L3 h15 => ?_⟩
  refine pm_to.blk rfl ?_
  refine pe_aload rfl ?_
  refine pe_getf hM.o rfl rfl ?_
  refine pe_iload rfl ?_
  refine pe_ialdN (hM.a 9 (by decide)) rfl hn (by decide) ?_
  refine pe_if_ne (tgt := 7) (nx := 3) rfl rfl (fun hc2 => ?_) (fun hc2 => ?_)
  · exact absurd e9 hc2
  · refine pm_to.blk rfl ?_
    refine pe_aload rfl ?_
    refine pe_getf hM.o rfl rfl ?_
    refine pe_iload rfl ?_
    refine pe_aload rfl ?_
    refine pe_getf hM.o rfl rfl ?_
    refine pe_iload rfl ?_
    refine pe_ialdN (hM.a 12 (by decide)) rfl hn (by decide) ?_
    refine pe_iastN (hM.a 20 (by decide)) rfl hn (by decide) ?_
    refine pe_aload rfl ?_
    refine pe_getf (by rw [e12]; exact M1.o) rfl rfl ?_
    refine pe_iload rfl ?_
    refine pe_iconst (v := 1) rfl ?_
    refine pe_aload rfl ?_
    refine pe_getf (by rw [e12]; exact M1.o) rfl rfl ?_
    refine pe_iload rfl ?_
    refine pe_ialdN (by rw [e12]; exact M1.a 12 (by decide)) rfl hn (by decide) ?_
    refine pe_ishl ?_
    refine pe_iastN (by rw [e12]; exact M1.a 21 (by decide)) rfl hn (by decide) ?_
    refine pe_aload rfl ?_
    refine pe_getf (by rw [e12a, e12]; exact M2.o) rfl rfl ?_
    refine pe_iload rfl ?_
    refine pe_aload rfl ?_
    refine pe_getf (by rw [e12a, e12]; exact M2.o) rfl rfl ?_
    refine pe_iload rfl ?_
    refine pe_ialdN (by rw [e12a, e12]; exact M2.a 12 (by decide)) rfl hn (by decide) ?_
    refine pe_iastN (by rw [e12a, e12]; exact M2.a 22 (by decide)) rfl hn (by decide) ?_
    refine pe_iconst (v := 0) rfl ?_
    refine pe_istore (L' := [_, _, _, _]) rfl ?_
    refine pe_nil (nx := 4) rfl ?_
    rw [e12b, e12a, e12]
    exact h5 t L3 h15
end
end
section
/-! the reference: all nodes are settled, the rest -/
section
variable {X : pm_X} {PR : pm_P} {S : pm_S} {i : Nat → Int32} {a : Nat → Nat → Int32} {r bt : Nat → Int64} {N : Nat}
theorem sq_fr.trans {a b c : Nat → Nat → Int32} {n : Nat} (h : sq_fr a b n) (g : sq_fr b c n) : sq_fr a c n := ⟨fun k hk => (g.1 k hk).trans (h.1 k hk), fun k j hj hk => (g.2.1 k j hj hk).trans (h.2.1 k j hj hk), fun j hj => (g.2.2 j hj).trans (h.2.2 j hj)⟩
theorem sq_up21 {a : Nat → Nat → Int32} {n : Nat} {v : Int32} : sq_fr a (va_up a 21 (upd (a 21) n v)) n := by
  refine ⟨fun k hk => ?_, fun k j hj _ => ?_, fun j _ => rfl⟩
  · simp only [va_up]; rw [if_neg (by omega)]
  · simp only [va_up]
    split
    · rename_i h; rw [h]; simp [upd, hj]
    · rfl
/-- one node of the loop, a QUESTION -/
theorem s_quest (hP : pm_np PR) {d : Nat} (hd : 7 ≤ d) (hM : MR S i a r bt) (hN : v_ok i a N) (hq : ∀ m, m < N → v_kin i a m = 2 → ∃ q, q < 6 ∧ a 0 (30 + m) = nI q) {n A B : Nat} (hn : n < 110) (hA : A < n) (hB : B < n) (e9 : a 9 n = 1) (eA : a 10 n = nI A) (eB : a 11 n = nI B) {vA vB : NV} {t : TR} (hvA : nd_all a t A vA) (hvB : nd_all a t B vB) (ht : (t n).1 = 1) :
    ∃ (S' : pm_S) (a' : Nat → Nat → Int32), MR S' i a' r bt ∧ mfr S S' ∧ sq_fr a a' n ∧ nd_all a' t n (nv_q i a N vA vB) ∧
      ∀ (u : pm_T) (L2 L3 : Option Value), (∀ L2 L3 : Option Value, pm_to X pm_Ms (pm_run X pm_Ms PR d) (some .int) cd_Model_settle 15 ([some (.ref 163), some (.int (nI n)), L2, L3], [], S') u) → pm_to X pm_Ms (pm_run X pm_Ms PR d) (some .int) cd_Model_settle 2 ([some (.ref 163), some (.int (nI n)), L2, L3], [], S) u := by
  have M1 := hM.putA 21 (by decide) (upd (a 21) n (vA.2.2.2.1 ||| vB.2.2.2.1))
  have F1 : mfr S (pm_put S (164 + 21) (.inl (0, msz 21, .inl (upd (a 21) n (vA.2.2.2.1 ||| vB.2.2.2.1))))) := mfr.put (by decide)
  have Q1 : sq_fr a (va_up a 21 (upd (a 21) n (vA.2.2.2.1 ||| vB.2.2.2.1))) n := sq_up21
  have hA1 := Q1.nd hA hvA
  have hB1 := Q1.nd hB hvB
  have c0 : (va_up a 21 (upd (a 21) n (vA.2.2.2.1 ||| vB.2.2.2.1))) 0 = a 0 := rfl
  have c18 : (va_up a 21 (upd (a 21) n (vA.2.2.2.1 ||| vB.2.2.2.1))) 18 = a 18 := rfl
  have c19 : (va_up a 21 (upd (a 21) n (vA.2.2.2.1 ||| vB.2.2.2.1))) 19 = a 19 := rfl
  obtain ⟨S', a', h1, h2, h3, h4, h5, h6, h7⟩ := r_Model_settleQuestion (X := X) hP hd M1 (vcg_ok c0 hN) (fun m hm hk => by rw [vcg_kin c0] at hk; exact hq m hm hk) hn hA hB (show (va_up a 21 _) 10 n = _ from eA) (show (va_up a 21 _) 11 n = _ from eB) hA1.1 hB1.1
  have es : v_sum i (va_up a 21 (upd (a 21) n (vA.2.2.2.1 ||| vB.2.2.2.1))) N = v_sum i a N := by
    funext n c s ins n' c' s' ins'; unfold v_sum; rw [vcg_vot c0 c18 c19]
  have e21 : (va_up a 21 (upd (a 21) n (vA.2.2.2.1 ||| vB.2.2.2.1))) 21 n = vA.2.2.2.1 ||| vB.2.2.2.1 := by
    show upd (a 21) n _ n = _; simp [upd]
  rw [es] at h5 h6 h7
  rw [vcg_std c0 c18 c19, e21] at h7
  refine ⟨S', a', h2, F1.trans h3, Q1.trans h4, ⟨h7, fun _ => ⟨h5, h6⟩⟩, fun u L2 L3 h15 => ?_⟩
  refine pm_to.blk rfl ?_
  refine pe_aload rfl ?_
  refine pe_getf hM.o rfl rfl ?_
  refine pe_iload rfl ?_
  refine pe_ialdN (hM.a 9 (by decide)) rfl hn (by decide) ?_
  refine pe_if_ne (tgt := 7) (nx := 3) rfl rfl (fun hc2 => ?_) (fun hc2 => ?_)
  · have iA : a 21 A = vA.2.2.2.1 := hvA.1.2.2.2.2.2.2
    have iB : a 21 B = vB.2.2.2.1 := hvB.1.2.2.2.2.2.2
    refine pm_to.blk rfl ?_
    refine pe_aload rfl ?_
    refine pe_getf hM.o rfl rfl ?_
    refine pe_iload rfl ?_
    refine pe_aload rfl ?_
    refine pe_getf hM.o rfl rfl ?_
    refine pe_aload rfl ?_
    refine pe_getf hM.o rfl rfl ?_
    refine pe_iload rfl ?_
    refine pe_ialdN (hM.a 10 (by decide)) rfl hn (by decide) ?_
    refine pe_ialdN (hM.a 21 (by decide)) eA (by show A < 110; omega) (by decide) ?_
    refine pe_aload rfl ?_
    refine pe_getf hM.o rfl rfl ?_
    refine pe_aload rfl ?_
    refine pe_getf hM.o rfl rfl ?_
    refine pe_iload rfl ?_
    refine pe_ialdN (hM.a 11 (by decide)) rfl hn (by decide) ?_
    refine pe_ialdN (hM.a 21 (by decide)) eB (by show B < 110; omega) (by decide) ?_
    refine pe_ior ?_
    refine pe_iastN (hM.a 21 (by decide)) rfl hn (by decide) ?_
    refine pe_aload rfl ?_
    refine pe_getf (by rw [iA, iB]; exact M1.o) rfl rfl ?_
    refine pe_iload rfl ?_
    refine pe_ialdN (by rw [iA, iB]; exact M1.a 9 (by decide)) rfl hn (by decide) ?_
    refine pe_iconst (v := 1) rfl ?_
    refine pe_icmp_ne (tgt := 9) (nx := 8) rfl rfl (fun hc7 => ?_) (fun hc7 => ?_)
    · exact absurd e9 hc7
    · rw [iA, iB]
      refine pm_to.blk rfl ?_
      refine pe_aload rfl ?_
      refine pe_iload rfl ?_
      refine pe_virt rfl rfl (M1.o ) rfl ( h1) ?_
      refine pe_goto (tgt := 15) rfl ?_
      exact h15 _ _
  · rw [e9] at hc2
    exact absurd (by decide) hc2
/-- one node of the loop, a choice -/
theorem s_choice (hP : pm_np PR) {d : Nat} (hd : 7 ≤ d) (hM : MR S i a r bt) (hN : v_ok i a N) {n A B x y : Nat} (hn : n < 110) (hA : A < n) (hB : B < n) (e9 : a 9 n = 2) (eA : a 10 n = nI A) (eB : a 11 n = nI B) (e12 : a 12 n = nI x) (e13 : a 13 n = nI y) (hx : x < 7) (hy : y < 7) {vA vB : NV} {t : TR} (hvA : nd_all a t A vA) (hvB : nd_all a t B vB) (ht : (t n).1 = 2) :
    ∃ (S' : pm_S) (a' : Nat → Nat → Int32), MR S' i a' r bt ∧ mfr S S' ∧ sq_fr a a' n ∧ nd_all a' t n (nv_c i a N x y vA vB) ∧
      ∀ (u : pm_T) (L2 L3 : Option Value), (∀ L2 L3 : Option Value, pm_to X pm_Ms (pm_run X pm_Ms PR d) (some .int) cd_Model_settle 15 ([some (.ref 163), some (.int (nI n)), L2, L3], [], S') u) → pm_to X pm_Ms (pm_run X pm_Ms PR d) (some .int) cd_Model_settle 2 ([some (.ref 163), some (.int (nI n)), L2, L3], [], S) u := by
  have iA : a 21 A = vA.2.2.2.1 := hvA.1.2.2.2.2.2.2
  have iB : a 21 B = vB.2.2.2.1 := hvB.1.2.2.2.2.2.2
  generalize hIN : vA.2.2.2.1 ||| vB.2.2.2.1 = IN
  -- the part that is taken
  obtain ⟨P, vP, hPn, hvP, hPdef, hcv⟩ : ∃ (P : Nat) (vP : NV), P < n ∧ nd_all a t P vP ∧ P = (if v_bts i a N x y then A else B) ∧ nv_c i a N x y vA vB = (vP.1, vP.2.1, vP.2.2.1, IN, 0, 0) := by
    unfold nv_c
    by_cases hb : v_bts i a N x y
    · exact ⟨A, vA, hA, hvA, by rw [if_pos hb], by rw [if_pos hb, hIN]⟩
    · exact ⟨B, vB, hB, hvB, by rw [if_neg hb], by rw [if_neg hb, hIN]⟩
  rw [hcv]
  obtain ⟨⟨p1, p2, p3, p4, p5, p6, p7⟩, -⟩ := hvP
  have M1 := hM.putA 21 (by decide) (upd (a 21) n IN)
  have M2 := M1.putA 20 (by decide) (upd (a 20) n (nI vP.1))
  have M3 := M2.putA 22 (by decide) (upd (a 22) n (nI vP.2.1))
  have F3 := (((mfr.rf S).trans (mfr.put (c := 164 + 21) (e := .inl (0, msz 21, .inl (upd (a 21) n IN))) (by decide))).trans (mfr.put (c := 164 + 20) (e := .inl (0, msz 20, .inl (upd (a 20) n (nI vP.1)))) (by decide))).trans (mfr.put (c := 164 + 22) (e := .inl (0, msz 22, .inl (upd (a 22) n (nI vP.2.1)))) (by decide))
  have c0 : (va_up a 21 (upd (a 21) n IN)) 0 = a 0 := rfl
  have hbt := r_Model_beats (X := X) hP (d := d) (by omega) M1 (vcg_ok c0 hN) hx hy
  have ebt : v_bts i (va_up a 21 (upd (a 21) n IN)) N x y ↔ v_bts i a N x y := by
    unfold v_bts
    rw [vcg_mar (i := i) (N := N) c0 (show (va_up a 21 (upd (a 21) n IN)) 18 = a 18 from rfl) (show (va_up a 21 (upd (a 21) n IN)) 19 = a 19 from rfl), c0]
  generalize hb : va_up (va_up (va_up a 21 (upd (a 21) n IN)) 20 (upd (a 20) n (nI vP.1))) 22 (upd (a 22) n (nI vP.2.1)) = b at M3
  have b20 : b 20 = upd (a 20) n (nI vP.1) := by rw [← hb]; rfl
  have b21 : b 21 = upd (a 21) n IN := by rw [← hb]; rfl
  have b22 : b 22 = upd (a 22) n (nI vP.2.1) := by rw [← hb]; rfl
  have b23 : b 23 = a 23 := by rw [← hb]; rfl
  have bo : ∀ k, ¬ (20 ≤ k ∧ k ≤ 22) → b k = a k := by
    intro k hk
    rw [← hb]
    simp only [va_up]
    rw [if_neg (by omega), if_neg (by omega), if_neg (by omega)]
  have loop : ∀ (k e : Nat) (T : pm_S) (g : Nat → Int32), e + k = 6 → MR T i (va_up b 23 g) r bt → mfr S T → (∀ q, q < e → g (6 * n + q) = nI (vP.2.2.1 q)) → (∀ j, (j < 6 * n ∨ 6 * n + 6 ≤ j) → g j = a 23 j) →
      ∃ (S' : pm_S) (a' : Nat → Nat → Int32), MR S' i a' r bt ∧ mfr S S' ∧ sq_fr a a' n ∧ nd_all a' t n (vP.1, vP.2.1, vP.2.2.1, IN, 0, 0) ∧
      ∀ (u : pm_T), (∀ L2 L3 : Option Value, pm_to X pm_Ms (pm_run X pm_Ms PR d) (some .int) cd_Model_settle 15 ([some (.ref 163), some (.int (nI n)), L2, L3], [], S') u) → pm_to X pm_Ms (pm_run X pm_Ms PR d) (some .int) cd_Model_settle 13 ([some (.ref 163), some (.int (nI n)), some (.int (nI P)), some (.int (nI e))], [], T) u := by
    intro k
    induction k with
    | zero =>
      intro e T g he MT FT hg1 hg2
      have e6 : e = 6 := by omega
      subst e6
      refine ⟨T, va_up b 23 g, MT, FT, ⟨?_, ?_, ?_⟩, ⟨⟨hn, ?_, p3, ?_, p5, fun q hq => ⟨hg1 q hq, (p6 q hq).2⟩, ?_⟩, fun h => by omega⟩, ?_⟩
      · intro k hk
        show va_up b 23 g k = a k
        simp only [va_up]
        rw [if_neg (by omega)]
        exact bo k (by omega)
      · intro k j hj hk
        show va_up b 23 g k j = a k j
        simp only [va_up]
        rw [if_neg hk]
        by_cases h20 : 20 ≤ k ∧ k ≤ 22
        · rcases (show k = 20 ∨ k = 21 ∨ k = 22 by omega) with rfl | rfl | rfl
          · rw [b20]; simp [upd, hj]
          · rw [b21]; simp [upd, hj]
          · rw [b22]; simp [upd, hj]
        · rw [bo k h20]
      · intro j hj
        exact hg2 j hj
      · show b 20 n = nI vP.1
        rw [b20]; simp [upd]
      · show b 22 n = nI vP.2.1
        rw [b22]; simp [upd]
      · show b 21 n = _
        rw [b21]; simp [upd]
      · intro u h15
        refine pm_to.blk rfl ?_
        refine pe_iload rfl ?_
        refine pe_iconst (v := 6) rfl ?_
        refine pe_icmp_ge (tgt := 15) (nx := 14) rfl rfl (fun hc13 => ?_) (fun hc13 => ?_)
        · exact h15 _ _
        · exact absurd (show (6 : Int32) ≤ nI 6 by decide) hc13
    | succ k ih =>
      intro e T g he MT FT hg1 hg2
      have ix : ∀ Z : Nat, nI 6 * nI Z + nI e = nI (6 * Z + e) := fun Z => by rw [pk_mul, nI_add]
      have gP : g (6 * P + e) = nI (vP.2.2.1 e) := by rw [hg2 _ (by omega)]; exact (p6 e (by omega)).1
      have M5 := MT.putA 23 (by decide) (upd g (6 * n + e) (nI (vP.2.2.1 e)))
      have eU : va_up (va_up b 23 g) 23 (upd g (6 * n + e) (nI (vP.2.2.1 e))) = va_up b 23 (upd g (6 * n + e) (nI (vP.2.2.1 e))) := bx_uu _ _ _ _
      rw [eU] at M5
      obtain ⟨S', a', h1, h2, h3, h4, h5⟩ := ih (e + 1) _ _ (by omega) M5 (FT.trans (mfr.put (by decide))) (fun q hq => by
        by_cases hqe : q = e
        · subst hqe; rw [pk_us]
        · rw [pk_un (by omega)]; exact hg1 q (by omega)) (fun j hj => by rw [pk_un (by omega)]; exact hg2 j hj)
      refine ⟨S', a', h1, h2, h3, h4, fun u h15 => ?_⟩
      refine pm_to.blk rfl ?_
      refine pe_iload rfl ?_
      refine pe_iconst (v := 6) rfl ?_
      refine pe_icmp_ge (tgt := 15) (nx := 14) rfl rfl (fun hc13 => ?_) (fun hc13 => ?_)
      · exact absurd hc13 (nI_ge (a := e) (b := 6) (by omega) (by decide))
      · refine pm_to.blk rfl ?_
        refine pe_aload rfl ?_
        refine pe_getf MT.o rfl rfl ?_
        refine pe_iconst (v := 6) rfl ?_
        refine pe_iload rfl ?_
        refine pe_imul ?_
        refine pe_iload rfl ?_
        refine pe_iadd ?_
        refine pe_aload rfl ?_
        refine pe_getf MT.o rfl rfl ?_
        refine pe_iconst (v := 6) rfl ?_
        refine pe_iload rfl ?_
        refine pe_imul ?_
        refine pe_iload rfl ?_
        refine pe_iadd ?_
        refine pe_ialdN (MT.a 23 (by decide)) (ix P) (by show 6 * P + e < 660; omega) (by decide) ?_
        refine pe_iastN (MT.a 23 (by decide)) (ix n) (by show 6 * n + e < 660; omega) (by decide) ?_
        refine pe_iinc (L' := [_, _, _, _]) rfl ((nI_succ e).symm) rfl ?_
        refine pe_goto (tgt := 13) rfl ?_
        rw [show (va_up b 23 g) 23 (6 * P + e) = nI (vP.2.2.1 e) from gP]
        exact h5 u h15
  obtain ⟨S', a', h1, h2, h3, h4, h5⟩ := loop 6 0 _ (a 23) (by omega) (by have : va_up b 23 (a 23) = b := by { funext k; simp only [va_up]; split; (· rename_i h; rw [h, b23]); rfl }; rw [this]; exact M3) F3 (fun q hq => by omega) (fun j _ => rfl)
  refine ⟨S', a', h1, h2, h3, h4, fun u L2 L3 h15 => ?_⟩
  have t12 : ∀ L2 L3 : Option Value, pm_to X pm_Ms (pm_run X pm_Ms PR d) (some .int) cd_Model_settle 12 ([some (.ref 163), some (.int (nI n)), L2, L3], [.int (nI P)], pm_put S 185 (.inl (0, msz 21, .inl (upd (a 21) n IN)))) u := by
    intro L2 L3
    have q2 : (va_up a 21 (upd (a 21) n IN)) 20 P = nI vP.1 := p2
    have q4 : (va_up (va_up a 21 (upd (a 21) n IN)) 20 (upd (a 20) n (nI vP.1))) 22 P = nI vP.2.1 := p4
    refine pm_to.blk rfl ?_
    refine pe_istore (L' := [_, _, _, _]) rfl ?_
    refine pe_aload rfl ?_
    refine pe_getf M1.o rfl rfl ?_
    refine pe_iload rfl ?_
    refine pe_aload rfl ?_
    refine pe_getf M1.o rfl rfl ?_
    refine pe_iload rfl ?_
    refine pe_ialdN (M1.a 20 (by decide)) rfl (by show P < 110; omega) (by decide) ?_
    refine pe_iastN (M1.a 20 (by decide)) rfl hn (by decide) ?_
    refine pe_aload rfl ?_
    refine pe_getf (by rw [q2]; exact M2.o) rfl rfl ?_
    refine pe_iload rfl ?_
    refine pe_aload rfl ?_
    refine pe_getf (by rw [q2]; exact M2.o) rfl rfl ?_
    refine pe_iload rfl ?_
    refine pe_ialdN (by rw [q2]; exact M2.a 22 (by decide)) rfl (by show P < 110; omega) (by decide) ?_
    refine pe_iastN (by rw [q2]; exact M2.a 22 (by decide)) rfl hn (by decide) ?_
    refine pe_iconst (v := 0) rfl ?_
    refine pe_istore (L' := [_, _, _, _]) rfl ?_
    refine pe_nil (nx := 13) rfl ?_
    rw [q2, q4]
    exact h5 u h15
  refine pm_to.blk rfl ?_
  refine pe_aload rfl ?_
  refine pe_getf hM.o rfl rfl ?_
  refine pe_iload rfl ?_
  refine pe_ialdN (hM.a 9 (by decide)) rfl hn (by decide) ?_
  refine pe_if_ne (tgt := 7) (nx := 3) rfl rfl (fun hc2 => ?_) (fun hc2 => ?_)
  · refine pm_to.blk rfl ?_
    refine pe_aload rfl ?_
    refine pe_getf hM.o rfl rfl ?_
    refine pe_iload rfl ?_
    refine pe_aload rfl ?_
    refine pe_getf hM.o rfl rfl ?_
    refine pe_aload rfl ?_
    refine pe_getf hM.o rfl rfl ?_
    refine pe_iload rfl ?_
    refine pe_ialdN (hM.a 10 (by decide)) rfl hn (by decide) ?_
    refine pe_ialdN (hM.a 21 (by decide)) eA (by show A < 110; omega) (by decide) ?_
    refine pe_aload rfl ?_
    refine pe_getf hM.o rfl rfl ?_
    refine pe_aload rfl ?_
    refine pe_getf hM.o rfl rfl ?_
    refine pe_iload rfl ?_
    refine pe_ialdN (hM.a 11 (by decide)) rfl hn (by decide) ?_
    refine pe_ialdN (hM.a 21 (by decide)) eB (by show B < 110; omega) (by decide) ?_
    refine pe_ior ?_
    refine pe_iastN (hM.a 21 (by decide)) rfl hn (by decide) ?_
    refine pe_aload rfl ?_
    refine pe_getf (by rw [iA, iB, hIN]; exact M1.o) rfl rfl ?_
    refine pe_iload rfl ?_
    refine pe_ialdN (by rw [iA, iB, hIN]; exact M1.a 9 (by decide)) rfl hn (by decide) ?_
    refine pe_iconst (v := 1) rfl ?_
    refine pe_icmp_ne (tgt := 9) (nx := 8) rfl rfl (fun hc7 => ?_) (fun hc7 => ?_)
    · rw [iA, iB, hIN]
      refine pm_to.blk rfl ?_
      refine pe_aload rfl ?_
      refine pe_aload rfl ?_
      refine pe_getf M1.o rfl rfl ?_
      refine pe_iload rfl ?_
      refine pe_ialdN (M1.a 12 (by decide)) rfl hn (by decide) ?_
      refine pe_aload rfl ?_
      refine pe_getf M1.o rfl rfl ?_
      refine pe_iload rfl ?_
      refine pe_ialdN (M1.a 13 (by decide)) rfl hn (by decide) ?_
      refine pe_virt rfl rfl (M1.o ) rfl ( by rw [show (va_up a 21 (upd (a 21) n IN)) 12 n = nI x from e12, show (va_up a 21 (upd (a 21) n IN)) 13 n = nI y from e13]; exact hbt) ?_
      refine pe_if_eq (tgt := 11) (nx := 10) rfl rfl (fun hc9 => ?_) (fun hc9 => ?_)
      · have hnb : ¬ v_bts i a N x y := fun z => by rw [bI_t (ebt.mpr z)] at hc9; exact absurd hc9 (by decide)
        refine pm_to.blk rfl ?_
        refine pe_aload rfl ?_
        refine pe_getf M1.o rfl rfl ?_
        refine pe_iload rfl ?_
        refine pe_ialdN (M1.a 11 (by decide)) rfl hn (by decide) ?_
        refine pe_nil (nx := 12) rfl ?_
        rw [show (va_up a 21 (upd (a 21) n IN)) 11 n = nI P from by rw [hPdef, if_neg hnb]; exact eB]
        exact t12 _ _
      · have hyb : v_bts i a N x y := ebt.mp (bI_ne.mp hc9)
        refine pm_to.blk rfl ?_
        refine pe_aload rfl ?_
        refine pe_getf M1.o rfl rfl ?_
        refine pe_iload rfl ?_
        refine pe_ialdN (M1.a 10 (by decide)) rfl hn (by decide) ?_
        refine pe_goto (tgt := 12) rfl ?_
        rw [show (va_up a 21 (upd (a 21) n IN)) 10 n = nI P from by rw [hPdef, if_pos hyb]; exact eA]
        exact t12 _ _
    · have e9' : (va_up a 21 (upd (a 21) n (a 21 A ||| a 21 B))) 9 n = 2 := e9
      exact absurd (show (2 : Int32) = 1 from by rw [← e9]; exact Decidable.not_not.mp hc7) (by decide)
  · rw [e9] at hc2
    exact absurd (by decide) hc2
/-- all nodes -/
theorem r_Model_settle (hP : pm_np PR) {d : Nat} (hd : 8 ≤ d) (hM : MR S i a r bt) (hN : v_ok i a N) (hq : ∀ m, m < N → v_kin i a m = 2 → ∃ q, q < 6 ∧ a 0 (30 + m) = nI q) {K : Nat} {t : TR} (hK0 : 0 < K) (hK : K ≤ 110) (hi : i 15 = nI K) (ht : tr_ok t K) (hat : tr_at a t K) :
    ∃ (S' : pm_S) (a' : Nat → Nat → Int32), pm_run X pm_Ms PR d 203 [.ref 163] S = some (some (.int (nI (nval i a N t (K - 1)).2.1)), S') ∧ MR S' i a' r bt ∧ mfr S S' ∧ (∀ k, ¬ (20 ≤ k ∧ k ≤ 25) → a' k = a k) ∧ ∀ n, n < K → nd_all a' t n (nval i a N t n) := by
  have main : ∀ (k n : Nat) (T : pm_S) (b : Nat → Nat → Int32), n + k = K → MR T i b r bt → mfr S T → (∀ k, ¬ (20 ≤ k ∧ k ≤ 25) → b k = a k) → (∀ j, j < n → nd_all b t j (nval i a N t j)) →
      ∃ (S' : pm_S) (a' : Nat → Nat → Int32), (∀ L2 L3 : Option Value, pm_to X pm_Ms (pm_run X pm_Ms PR (d - 1)) (some .int) cd_Model_settle 1 ([some (.ref 163), some (.int (nI n)), L2, L3], [], T) (some (.int (nI (nval i a N t (K - 1)).2.1)), S')) ∧ MR S' i a' r bt ∧ mfr S S' ∧ (∀ k, ¬ (20 ≤ k ∧ k ≤ 25) → a' k = a k) ∧ ∀ n, n < K → nd_all a' t n (nval i a N t n) := by
    intro k
    induction k with
    | zero =>
      intro n T b hn MT FT hb hj
      have e : n = K := by omega
      subst e
      have ec : b 22 (n - 1) = nI (nval i a N t (n - 1)).2.1 := (hj (n - 1) (by omega)).1.2.2.2.1
      refine ⟨T, b, fun L2 L3 => ?_, MT, FT, hb, hj⟩
      refine pm_to.blk rfl ?_
      refine pe_iload rfl ?_
      refine pe_aload rfl ?_
      refine pe_getf MT.o rfl rfl ?_
      refine pe_icmp_ge (tgt := 16) (nx := 2) rfl rfl (fun hc1 => ?_) (fun hc1 => ?_)
      · have ix : i 15 - 1 = nI (n - 1) := by rw [hi]; exact pk_sub (a := n) (b := 1) (by omega)
        rw [← ec]
        refine pm_to.blk rfl ?_
        refine pe_aload rfl ?_
        refine pe_getf MT.o rfl rfl ?_
        refine pe_aload rfl ?_
        refine pe_getf MT.o rfl rfl ?_
        refine pe_iconst (v := 1) rfl ?_
        refine pe_isub ?_
        refine pe_ialdN (MT.a 22 (by decide)) ix (by show n - 1 < 110; omega) (by decide) ?_
        exact pe_iret rfl rfl
      · exact absurd (by rw [hi]; exact nI_le (Nat.le_refl _) (by omega)) hc1
    | succ k ih =>
      intro n T b hn MT FT hb hj
      have b0 := hb 0 (by omega)
      have b18 := hb 18 (by omega)
      have b19 := hb 19 (by omega)
      have hnK : n < K := by omega
      obtain ⟨t1, t2, t3, t4⟩ := ht n hnK
      obtain ⟨u1, u2, u3, u4⟩ := hat n hnK
      rw [← hb 9 (by omega)] at u1
      rw [← hb 10 (by omega), ← hb 11 (by omega)] at u2
      rw [← hb 12 (by omega)] at u3
      rw [← hb 13 (by omega)] at u4
      have node : ∃ (S' : pm_S) (a' : Nat → Nat → Int32), MR S' i a' r bt ∧ mfr T S' ∧ sq_fr b a' n ∧ nd_all a' t n (nval i a N t n) ∧ ∀ (u : pm_T) (L2 L3 : Option Value), (∀ L2 L3 : Option Value, pm_to X pm_Ms (pm_run X pm_Ms PR (d - 1)) (some .int) cd_Model_settle 15 ([some (.ref 163), some (.int (nI n)), L2, L3], [], S') u) → pm_to X pm_Ms (pm_run X pm_Ms PR (d - 1)) (some .int) cd_Model_settle 2 ([some (.ref 163), some (.int (nI n)), L2, L3], [], T) u := by
        by_cases h0 : (t n).1 = 0
        · obtain ⟨S', a', g1, g2, g3, g4, g5⟩ := s_leaf (X := X) (PR := PR) (d := d - 1) MT (n := n) (x := (t n).2.2.2.1) (by omega) (t2 h0) (by rw [u1, h0]; rfl) (u3 (by omega))
          exact ⟨S', a', g1, g2, g3, ⟨by rw [nval_0 h0]; exact g4, fun h => by omega⟩, g5⟩
        · obtain ⟨l1, l2⟩ := t3 h0
          by_cases h1 : (t n).1 = 1
          · obtain ⟨S', a', g1, g2, g3, g4, g5⟩ := s_quest (X := X) hP (d := d - 1) (by omega) MT (vcg_ok b0 hN) (fun m hm hk => by rw [vcg_kin b0] at hk; rw [b0]; exact hq m hm hk) (n := n) (by omega) l1 l2 (by rw [u1, h1]; rfl) (u2 h0).1 (u2 h0).2 (hj _ l1) (hj _ l2) h1
            refine ⟨S', a', g1, g2, g3, ?_, g5⟩
            have e1 : nv_q i b N = nv_q i a N := by
              funext A B
              unfold nv_q v_sum
              rw [vcg_vot b0 b18 b19, vcg_std b0 b18 b19, b0]
            rw [nval_1 ht hnK h1, ← e1]
            exact g4
          · have h2 : (t n).1 = 2 := by omega
            obtain ⟨S', a', g1, g2, g3, g4, g5⟩ := s_choice (X := X) hP (d := d - 1) (by omega) MT (vcg_ok b0 hN) (n := n) (by omega) l1 l2 (by rw [u1, h2]; rfl) (u2 h0).1 (u2 h0).2 (u3 h1) (u4 h2) (t4 h2).1 (t4 h2).2 (hj _ l1) (hj _ l2) h2
            refine ⟨S', a', g1, g2, g3, ?_, g5⟩
            have e1 : nv_c i b N = nv_c i a N := by
              funext x y A B
              unfold nv_c v_bts
              rw [vcg_mar b0 b18 b19, b0]
            rw [nval_2 ht hnK h2, ← e1]
            exact g4
      obtain ⟨T', b', g1, g2, g3, g4, g5⟩ := node
      obtain ⟨S', a', h1, h2⟩ := ih (n + 1) T' b' (by omega) g1 (FT.trans g2) (fun k hk => (g3.1 k hk).trans (hb k hk)) (fun j hjn => by
        by_cases hjj : j = n
        · subst hjj; exact g4
        · exact g3.nd (by omega) (hj j (by omega)))
      refine ⟨S', a', fun L2 L3 => ?_, h2⟩
      refine pm_to.blk rfl ?_
      refine pe_iload rfl ?_
      refine pe_aload rfl ?_
      refine pe_getf MT.o rfl rfl ?_
      refine pe_icmp_ge (tgt := 16) (nx := 2) rfl rfl (fun hc1 => ?_) (fun hc1 => ?_)
      · rw [hi] at hc1
        exact absurd hc1 (nI_ge hnK (by omega))
      · refine g5 _ _ _ (fun L2 L3 => ?_)
        refine pm_to.blk rfl ?_
        refine pe_iinc (L' := [_, _, _, _]) rfl ((nI_succ n).symm) rfl ?_
        refine pe_goto (tgt := 1) rfl ?_
        exact h1 _ _
  obtain ⟨S', a', h1, h2⟩ := main K 0 S a (by omega) hM (mfr.rf S) (fun _ _ => rfl) (fun j hj => by omega)
  refine ⟨S', a', ?_, h2⟩
  refine pm_run_of (L := [_, _, _, _]) (by omega) (hP _ rfl) ms_Model_settle rfl ?_
  show pm_to _ _ _ (some .int) cd_Model_settle 0 _ _
  refine pm_to.blk rfl ?_
  refine pe_iconst (v := 0) rfl ?_
  refine pe_istore (L' := [_, _, _, _]) rfl ?_
  refine pe_nil (nx := 1) rfl ?_
  exact h1 _ _
end
end
section
/-! the reference: a tree is loaded; the end of a tree -/
/-- tree number tt is t, of K nodes -/
def tr_in (a : Nat → Nat → Int32) (tt : Nat) (t : TR) (K : Nat) : Prop := a 2 tt = nI K ∧ 0 < K ∧ K ≤ 100 ∧ tr_ok t K ∧ ∀ n, n < K → a 4 (100 * tt + n) = nI (t n).1 ∧ (¬ (t n).1 = 0 → a 5 (100 * tt + n) = nI (t n).2.1 ∧ a 6 (100 * tt + n) = nI (t n).2.2.1) ∧ (¬ (t n).1 = 1 → a 7 (100 * tt + n) = nI (t n).2.2.2.1) ∧ ((t n).1 = 2 → a 8 (100 * tt + n) = nI (t n).2.2.2.2)
section
variable {X : pm_X} {PR : pm_P} {S : pm_S} {i : Nat → Int32} {a : Nat → Nat → Int32} {r bt : Nat → Int64} {N : Nat}
theorem r_Model_load (hP : pm_np PR) {d : Nat} (hd : 1 ≤ d) (hM : MR S i a r bt) {tt K : Nat} (htt : tt < 12) (eK : a 2 tt = nI K) (hK : K ≤ 100) :
    ∃ (S' : pm_S) (a' : Nat → Nat → Int32), pm_run X pm_Ms PR d 202 [.ref 163, .int (nI tt)] S = some (none, S') ∧ MR S' (upd i 15 (nI K)) a' r bt ∧ mfr S S' ∧ (∀ k, ¬ (9 ≤ k ∧ k ≤ 13) → a' k = a k) ∧ ∀ n, n < K → a' 9 n = a 4 (100 * tt + n) ∧ a' 10 n = a 5 (100 * tt + n) ∧ a' 11 n = a 6 (100 * tt + n) ∧ a' 12 n = a 7 (100 * tt + n) ∧ a' 13 n = a 8 (100 * tt + n) := by
  have i15 : (upd i 15 (nI K)) 15 = nI K := by simp [upd]
  have loop : ∀ (k n : Nat) (T : pm_S) (b : Nat → Nat → Int32), n + k = K → MR T (upd i 15 (nI K)) b r bt → mfr S T → (∀ k, ¬ (9 ≤ k ∧ k ≤ 13) → b k = a k) → (∀ j, j < n → b 9 j = a 4 (100 * tt + j) ∧ b 10 j = a 5 (100 * tt + j) ∧ b 11 j = a 6 (100 * tt + j) ∧ b 12 j = a 7 (100 * tt + j) ∧ b 13 j = a 8 (100 * tt + j)) →
      ∃ (S' : pm_S) (a' : Nat → Nat → Int32), pm_to X pm_Ms (pm_run X pm_Ms PR (d - 1)) none cd_Model_load 1 ([some (.ref 163), some (.int (nI tt)), some (.int (nI n))], [], T) (none, S') ∧ MR S' (upd i 15 (nI K)) a' r bt ∧ mfr S S' ∧ (∀ k, ¬ (9 ≤ k ∧ k ≤ 13) → a' k = a k) ∧ ∀ n, n < K → a' 9 n = a 4 (100 * tt + n) ∧ a' 10 n = a 5 (100 * tt + n) ∧ a' 11 n = a 6 (100 * tt + n) ∧ a' 12 n = a 7 (100 * tt + n) ∧ a' 13 n = a 8 (100 * tt + n) := by
    intro k
    induction k with
    | zero =>
      intro n T b hn MT FT hb hj
      have e : n = K := by omega
      subst e
      refine ⟨T, b, ?_, MT, FT, hb, hj⟩
      refine pm_to.blk rfl ?_
      refine pe_iload rfl ?_
      refine pe_aload rfl ?_
      refine pe_getf MT.o rfl rfl ?_
      refine pe_icmp_ge (tgt := 3) (nx := 2) rfl rfl (fun hc1 => ?_) (fun hc1 => ?_)
      · refine pm_to.blk rfl ?_
        exact pe_ret rfl rfl
      · exact absurd (by rw [show (upd i 15 (nI n)) 15 = nI n from i15]; exact nI_le (Nat.le_refl _) (by omega)) hc1
    | succ k ih =>
      intro n T b hn MT FT hb hj
      have ix : nI 100 * nI tt + nI n = nI (100 * tt + n) := by rw [pk_mul, nI_add]
      have hin : 100 * tt + n < 1200 := by omega
      have hn110 : n < 110 := by omega
      have N1 := MT.putA 9 (by decide) (upd (b 9) n (b 4 (100 * tt + n)))
      have N2 := N1.putA 10 (by decide) (upd (b 10) n (b 5 (100 * tt + n)))
      have N3 := N2.putA 11 (by decide) (upd (b 11) n (b 6 (100 * tt + n)))
      have N4 := N3.putA 12 (by decide) (upd (b 12) n (b 7 (100 * tt + n)))
      have N5 := N4.putA 13 (by decide) (upd (b 13) n (b 8 (100 * tt + n)))
      have F5 := ((((FT.trans (mfr.put (c := 164 + 9) (e := .inl (0, msz 9, .inl (upd (b 9) n (b 4 (100 * tt + n))))) (by decide))).trans (mfr.put (c := 164 + 10) (e := .inl (0, msz 10, .inl (upd (b 10) n (b 5 (100 * tt + n))))) (by decide))).trans (mfr.put (c := 164 + 11) (e := .inl (0, msz 11, .inl (upd (b 11) n (b 6 (100 * tt + n))))) (by decide))).trans (mfr.put (c := 164 + 12) (e := .inl (0, msz 12, .inl (upd (b 12) n (b 7 (100 * tt + n))))) (by decide))).trans (mfr.put (c := 164 + 13) (e := .inl (0, msz 13, .inl (upd (b 13) n (b 8 (100 * tt + n))))) (by decide))
      obtain ⟨S', a', h1, h2⟩ := ih (n + 1) _ _ (by omega) N5 F5 (fun k hk => by
        simp only [va_up]
        rw [if_neg (by omega), if_neg (by omega), if_neg (by omega), if_neg (by omega), if_neg (by omega)]
        exact hb k hk) (fun j hjn => by
        show upd (b 9) n _ j = _ ∧ upd (b 10) n _ j = _ ∧ upd (b 11) n _ j = _ ∧ upd (b 12) n _ j = _ ∧ upd (b 13) n _ j = _
        by_cases hjj : j = n
        · subst hjj
          rw [pk_us, pk_us, pk_us, pk_us, pk_us, hb 4 (by omega), hb 5 (by omega), hb 6 (by omega), hb 7 (by omega), hb 8 (by omega)]
          exact ⟨rfl, rfl, rfl, rfl, rfl⟩
        · rw [pk_un hjj, pk_un hjj, pk_un hjj, pk_un hjj, pk_un hjj]
          exact hj j (by omega))
      refine ⟨S', a', ?_, h2⟩
      refine pm_to.blk rfl ?_
      refine pe_iload rfl ?_
      refine pe_aload rfl ?_
      refine pe_getf MT.o rfl rfl ?_
      refine pe_icmp_ge (tgt := 3) (nx := 2) rfl rfl (fun hc1 => ?_) (fun hc1 => ?_)
      · exact absurd (show nI K ≤ nI n by rw [← i15]; exact hc1) (nI_ge (by omega) (by omega))
      · refine pm_to.blk rfl ?_
        refine pe_aload rfl ?_
        refine pe_getf MT.o rfl rfl ?_
        refine pe_iload rfl ?_
        refine pe_aload rfl ?_
        refine pe_getf MT.o rfl rfl ?_
        refine pe_iconst (v := 100) rfl ?_
        refine pe_iload rfl ?_
        refine pe_imul ?_
        refine pe_iload rfl ?_
        refine pe_iadd ?_
        refine pe_ialdN (MT.a 4 (by decide)) ix hin (by decide) ?_
        refine pe_iastN (MT.a 9 (by decide)) rfl hn110 (by decide) ?_
        refine pe_aload rfl ?_
        refine pe_getf N1.o rfl rfl ?_
        refine pe_iload rfl ?_
        refine pe_aload rfl ?_
        refine pe_getf N1.o rfl rfl ?_
        refine pe_iconst (v := 100) rfl ?_
        refine pe_iload rfl ?_
        refine pe_imul ?_
        refine pe_iload rfl ?_
        refine pe_iadd ?_
        refine pe_ialdN (N1.a 5 (by decide)) ix hin (by decide) ?_
        refine pe_iastN (N1.a 10 (by decide)) rfl hn110 (by decide) ?_
        refine pe_aload rfl ?_
        refine pe_getf N2.o rfl rfl ?_
        refine pe_iload rfl ?_
        refine pe_aload rfl ?_
        refine pe_getf N2.o rfl rfl ?_
        refine pe_iconst (v := 100) rfl ?_
        refine pe_iload rfl ?_
        refine pe_imul ?_
        refine pe_iload rfl ?_
        refine pe_iadd ?_
        refine pe_ialdN (N2.a 6 (by decide)) ix hin (by decide) ?_
        refine pe_iastN (N2.a 11 (by decide)) rfl hn110 (by decide) ?_
        refine pe_aload rfl ?_
        refine pe_getf N3.o rfl rfl ?_
        refine pe_iload rfl ?_
        refine pe_aload rfl ?_
        refine pe_getf N3.o rfl rfl ?_
        refine pe_iconst (v := 100) rfl ?_
        refine pe_iload rfl ?_
        refine pe_imul ?_
        refine pe_iload rfl ?_
        refine pe_iadd ?_
        refine pe_ialdN (N3.a 7 (by decide)) ix hin (by decide) ?_
        refine pe_iastN (N3.a 12 (by decide)) rfl hn110 (by decide) ?_
        refine pe_aload rfl ?_
        refine pe_getf N4.o rfl rfl ?_
        refine pe_iload rfl ?_
        refine pe_aload rfl ?_
        refine pe_getf N4.o rfl rfl ?_
        refine pe_iconst (v := 100) rfl ?_
        refine pe_iload rfl ?_
        refine pe_imul ?_
        refine pe_iload rfl ?_
        refine pe_iadd ?_
        refine pe_ialdN (N4.a 8 (by decide)) ix hin (by decide) ?_
        refine pe_iastN (N4.a 13 (by decide)) rfl hn110 (by decide) ?_
        refine pe_iinc (L' := [_, _, _]) rfl ((nI_succ n).symm) rfl ?_
        refine pe_goto (tgt := 1) rfl ?_
        exact h1
  have M1 := hM.putI (upd i 15 (nI K))
  obtain ⟨S', a', h1, h2⟩ := loop K 0 _ a (by omega) M1 (mfr.put (by decide)) (fun _ _ => rfl) (fun j hj => by omega)
  refine ⟨S', a', ?_, h2⟩
  refine pm_run_of (L := [_, _, _]) (by omega) (hP _ rfl) ms_Model_load rfl ?_
  show pm_to _ _ _ (none) cd_Model_load 0 _ _
  refine pm_to.blk rfl ?_
  refine pe_aload rfl ?_
  refine pe_aload rfl ?_
  refine pe_getf hM.o rfl rfl ?_
  refine pe_iload rfl ?_
  refine pe_ialdN (hM.a 2 (by decide)) rfl htt (by decide) ?_
  refine pe_putf (hM.o) rfl (of_decide_eq_true rfl) (rfl) (mo_set15 i _) ?_
  refine pe_iconst (v := 0) rfl ?_
  refine pe_istore (L' := [_, _, _]) rfl ?_
  refine pe_nil (nx := 1) rfl ?_
  rw [eK]
  exact h1
/-- the end of a tree -/
theorem r_Model_endOf (hP : pm_np PR) {d : Nat} (hd : 9 ≤ d) (hM : MR S i a r bt) (hN : v_ok i a N) (hq : ∀ m, m < N → v_kin i a m = 2 → ∃ q, q < 6 ∧ a 0 (30 + m) = nI q) {tt K : Nat} {t : TR} (htt : tt < 12) (ht : tr_in a tt t K) :
    ∃ (S' : pm_S) (a' : Nat → Nat → Int32), pm_run X pm_Ms PR d 201 [.ref 163, .int (nI tt)] S = some (some (.int (nI (nval i a N t (K - 1)).2.1)), S') ∧ MR S' (upd i 15 (nI K)) a' r bt ∧ mfr S S' ∧ (∀ k, ¬ (9 ≤ k ∧ k ≤ 13) → ¬ (20 ≤ k ∧ k ≤ 25) → a' k = a k) ∧ tr_at a' t K ∧ ∀ n, n < K → nd_all a' t n (nval i a N t n) := by
  obtain ⟨eK, hK0, hK, htr, hst⟩ := ht
  obtain ⟨S1, a1, l1, l2, l3, l4, l5⟩ := r_Model_load (X := X) hP (d := d - 1) (by omega) hM htt eK hK
  have c0 := l4 0 (by omega)
  have c18 := l4 18 (by omega)
  have c19 := l4 19 (by omega)
  -- the view doesn't depend on number 15
  have w1 : v_wis (upd i 15 (nI K)) a1 = v_wis i a := by rw [vcg_wis c0 c18 c19]; rfl
  have w2 : v_voi (upd i 15 (nI K)) a1 = v_voi i a := by rw [vcg_voi c0]; rfl
  have w3 : v_kin (upd i 15 (nI K)) a1 = v_kin i a := by rw [vcg_kin c0]; rfl
  have w4 : v_par (upd i 15 (nI K)) a1 = v_par i a := by rw [vcg_par c0]; rfl
  have w5 : v_end (upd i 15 (nI K)) a1 = v_end i a := by rw [vcg_end c0]; rfl
  have w6 : v_mem (upd i 15 (nI K)) a1 = v_mem i a := by rw [vcg_mem c0]; rfl
  have w7 : v_mar (upd i 15 (nI K)) a1 N = v_mar i a N := by funext x y; unfold v_mar; rw [w1, w2]
  have w8 : v_std (upd i 15 (nI K)) a1 N = v_std i a N := by funext x y; unfold v_std v_bts; rw [w7, c0]
  have w9 : v_vot (upd i 15 (nI K)) a1 N = v_vot i a N := by
    funext m n c s ins n' c' s' ins'; unfold v_vot v_psg; rw [w1, w2, w3, w4, w5, vcg_num c0]
  have w10 : nval (upd i 15 (nI K)) a1 N t = nval i a N t := by
    have eq1 : nv_q (upd i 15 (nI K)) a1 N = nv_q i a N := by funext A B; unfold nv_q v_sum; rw [w9, w8, c0]
    have eq2 : nv_c (upd i 15 (nI K)) a1 N = nv_c i a N := by funext x y A B; unfold nv_c v_bts; rw [w7, c0]
    have eq3 : ∀ f n, nvf (upd i 15 (nI K)) a1 N t f n = nvf i a N t f n := by
      intro f
      induction f with
      | zero => intro n; rfl
      | succ f ih => intro n; unfold nvf; rw [eq1, eq2, ih, ih]
    funext n
    exact eq3 (n + 1) n
  have hok : v_ok (upd i 15 (nI K)) a1 N := by
    obtain ⟨o1, o2, o3⟩ := hN
    exact ⟨by rw [w6]; exact o1, o2, o3⟩
  have hat : tr_at a1 t K := fun n hn => by
    obtain ⟨s1, s2, s3, s4⟩ := hst n hn
    obtain ⟨g1, g2, g3, g4, g5⟩ := l5 n hn
    exact ⟨by rw [g1]; exact s1, fun h => ⟨by rw [g2]; exact (s2 h).1, by rw [g3]; exact (s2 h).2⟩, fun h => by rw [g4]; exact s3 h, fun h => by rw [g5]; exact s4 h⟩
  obtain ⟨S2, a2, m1, m2, m3, m4, m5⟩ := r_Model_settle (X := X) hP (d := d - 1) (by omega) l2 hok (fun m hm hk => by rw [w3] at hk; rw [c0]; exact hq m hm hk) hK0 (by omega) (by simp [upd]) htr hat
  rw [w10] at m1 m5
  refine ⟨S2, a2, ?_, m2, l3.trans m3, fun k h1 h2 => (m4 k h2).trans (l4 k h1), fun n hn => ?_, m5⟩
  · 
    refine pm_run_of (L := [_, _]) (by omega) (hP _ rfl) ms_Model_endOf rfl ?_
    show pm_to _ _ _ (some .int) cd_Model_endOf 0 _ _
    refine pm_to.blk rfl ?_
    refine pe_aload rfl ?_
    refine pe_iload rfl ?_
    refine pe_virt rfl rfl (hM.o ) rfl ( l1) ?_
    refine pe_aload rfl ?_
    refine pe_virt rfl rfl (l2.o ) rfl ( m1) ?_
    exact pe_iret rfl rfl
  · obtain ⟨s1, s2, s3, s4⟩ := hat n hn
    exact ⟨by rw [m4 9 (by omega)]; exact s1, fun h => ⟨by rw [m4 10 (by omega)]; exact (s2 h).1, by rw [m4 11 (by omega)]; exact (s2 h).2⟩, fun h => by rw [m4 12 (by omega)]; exact s3 h, fun h => by rw [m4 13 (by omega)]; exact s4 h⟩
end
end
section
/-! the class: members, the hall, who beats whom -/
section
variable {X : pm_X} {M : List pm_M} {cf : Nat → List Value → pm_S → Option pm_T} {ret : Option FieldType} {code : List (Nat × List Instr)} {b : Nat} {is : List Instr} {L L' : List (Option Value)} {st : List Value} {S : pm_S} {t : pm_T}
theorem pe_aaldN {i : Int32} {a n ty j v : Nat} {g : Nat → Option Nat} (h : pm_h S a (.inl (ty, n, .inr (.inr (.inr (.inr g)))))) (hty : 2 ≤ ty ∧ ty < 5) (hi : i = nI j) (hj : j < n) (hn : n < 2 ^ 31) (hv : g j = some v) (k : pm_E X M cf ret code b is (L, .ref v :: st, S) t) : pm_E X M cf ret code b (.aaload :: is) (L, .int i :: .ref a :: st, S) t := by
  subst hi
  refine pe_aald h hty (vp_in_nI hj hn) (v := .ref v) ?_ k
  rw [nI_clamp (Nat.lt_trans hj hn), hv]
  rfl
end
/-- a member's object at cell A, by its numbers (0 which 1 kind 2 voices 3 number 4 end 5 chance) -/
def mbr (f : Nat → Int32) (A : Nat) : List Value := [.int (f 0), .int (f 1), .int (f 2), .int (f 3), .int (f 4), .int (f 5), .ref (A + 1), .ref (A + 2)]
def MB (S : pm_S) (A : Nat) (f w u : Nat → Int32) : Prop := pm_h S A (.inr (3, mbr f A)) ∧ pm_h S (A + 1) (.inl (0, 7, .inl w)) ∧ pm_h S (A + 2) (.inl (0, 7, .inl u))
def hob (z : Nat → Int32) : List Value := [.int (z 0), .int (z 1), .int (z 2), .ref 75, .ref 76, .ref 77, .ref 78, .ref 79, .ref 80, .ref 81, .ref 82, .ref 83]
def hsz (k : Nat) : Nat := [64, 64, 64, 64, 64, 384, 3, 64].getD k 0
/-- the hall: its numbers z (0 size 1 chair 2 steps), its arrays b (0 names 1 comes 2 won 3 leads 4 standing 5 seen 6 lines 7 wonBefore), its seats f w u -/
def HR (S : pm_S) (z : Nat → Int32) (b : Nat → Nat → Int32) (f w u : Nat → Nat → Int32) : Prop := pm_h S 74 (.inr (1, hob z)) ∧ (∃ g : Nat → Option Nat, pm_h S 75 (.inl (2, 9, .inr (.inr (.inr (.inr g))))) ∧ ∀ m, m < 9 → g m = some (84 + 3 * m)) ∧ (∀ k, k < 8 → pm_h S (76 + k) (.inl (0, hsz k, .inl (b k)))) ∧ ∀ m, m < 9 → MB S (84 + 3 * m) (f m) (w m) (u m)
def h_mar (f w : Nat → Nat → Int32) (N x y : Nat) : Int32 := mgn w (fun m => f m 2) x y N
abbrev h_bts (z : Nat → Int32) (f w : Nat → Nat → Int32) (N x y : Nat) : Prop := sbt (h_mar f w N x y) (z 1) x y
def h_std (z : Nat → Int32) (f w : Nat → Nat → Int32) (N x y : Nat) : Nat := if h_bts z f w N y x then y else x
theorem mul_sgn (v p q : Int32) : v * sgn p q = (if p < q then v else if q < p then -v else 0) := by
  unfold sgn
  split
  · exact Int32.mul_one v
  · split
    · rw [Int32.mul_neg, Int32.mul_one]
    · exact Int32.mul_zero
theorem mgn_anti (w : Nat → Nat → Int32) (v : Nat → Int32) (x y : Nat) : ∀ n, mgn w v y x n = - mgn w v x y n := by
  intro n
  induction n with
  | zero => show (0 : Int32) = -0; decide
  | succ n ih =>
    unfold mgn
    rw [ih, Int32.neg_add]
    have : (if w n y < w n x then v n else if w n x < w n y then -(v n) else 0) = -(if w n x < w n y then v n else if w n y < w n x then -(v n) else 0) := by
      by_cases h1 : w n y < w n x
      · have h2 : ¬ w n x < w n y := Int32.not_lt.mpr (Int32.le_of_lt h1)
        rw [if_pos h1, if_neg h2, if_pos h1, Int32.neg_neg]
      · by_cases h2 : w n x < w n y
        · rw [if_neg h1, if_pos h2, if_pos h2]
        · rw [if_neg h1, if_neg h2, if_neg h2, if_neg h1]; rfl
    rw [this]
    exact (Int32.sub_eq_add_neg _ _).symm
theorem ms_Member_leaning : pm_Ms[48]? = some md_Member_leaning := rfl
theorem ms_Member_ofParty : pm_Ms[47]? = some md_Member_ofParty := rfl
theorem ms_Member_weight : pm_Ms[44]? = some md_Member_weight := rfl
theorem ms_Hall_margin : pm_Ms[21]? = some md_Hall_margin := rfl
theorem ms_Hall_chairsOf : pm_Ms[19]? = some md_Hall_chairsOf := rfl
theorem ms_Hall_better : pm_Ms[20]? = some md_Hall_better := rfl
theorem ms_Hall_beats : pm_Ms[22]? = some md_Hall_beats := rfl
section
variable {X : pm_X} {PR : pm_P} {S : pm_S} {z : Nat → Int32} {b f w u : Nat → Nat → Int32} {N : Nat}
theorem r_Member_leaning (hP : pm_np PR) {d : Nat} (hd : 1 ≤ d) {A : Nat} {f w u : Nat → Int32} (hM : MB S A f w u) {x y : Nat} (hx : x < 7) (hy : y < 7) : pm_run X pm_Ms PR d 48 [.ref A, .int (nI x), .int (nI y)] S = some (some (.int (sgn (w x) (w y))), S) := by
  refine pm_run_of (L := [_, _, _]) (by omega) (hP _ rfl) ms_Member_leaning rfl ?_
  show pm_to _ _ _ (some .int) cd_Member_leaning 0 _ _
  unfold sgn
  refine pm_to.blk rfl ?_
  refine pe_aload rfl ?_
  refine pe_getf hM.1 rfl rfl ?_
  refine pe_iload rfl ?_
  refine pe_ialdN hM.2.1 rfl hx (by decide) ?_
  refine pe_aload rfl ?_
  refine pe_getf hM.1 rfl rfl ?_
  refine pe_iload rfl ?_
  refine pe_ialdN hM.2.1 rfl hy (by decide) ?_
  refine pe_icmp_ne (tgt := 2) (nx := 1) rfl rfl (fun hc0 => ?_) (fun hc0 => ?_)
  · refine pm_to.blk rfl ?_
    refine pe_aload rfl ?_
    refine pe_getf hM.1 rfl rfl ?_
    refine pe_iload rfl ?_
    refine pe_ialdN hM.2.1 rfl hx (by decide) ?_
    refine pe_aload rfl ?_
    refine pe_getf hM.1 rfl rfl ?_
    refine pe_iload rfl ?_
    refine pe_ialdN hM.2.1 rfl hy (by decide) ?_
    refine pe_icmp_ge (tgt := 4) (nx := 3) rfl rfl (fun hc2 => ?_) (fun hc2 => ?_)
    · have h2 : w y < w x := Int32.lt_of_le_of_ne hc2 (fun h => hc0 h.symm)
      rw [if_neg (Int32.not_lt.mpr hc2), if_pos h2]
      refine pm_to.blk rfl ?_
      refine pe_iconst (v := (-1)) rfl ?_
      refine pe_nil (nx := 5) rfl ?_
      refine pm_to.blk rfl ?_
      exact pe_iret rfl rfl
    · rw [if_pos (Int32.not_le.mp hc2)]
      refine pm_to.blk rfl ?_
      refine pe_iconst (v := 1) rfl ?_
      refine pe_goto (tgt := 5) rfl ?_
      refine pm_to.blk rfl ?_
      exact pe_iret rfl rfl
  · have e := Decidable.not_not.mp hc0
    rw [if_neg (by rw [e]; exact fun h => Int32.lt_irrefl h), if_neg (by rw [e]; exact fun h => Int32.lt_irrefl h)]
    refine pm_to.blk rfl ?_
    refine pe_iconst (v := 0) rfl ?_
    exact pe_iret rfl rfl
theorem r_Member_ofParty (hP : pm_np PR) {d : Nat} (hd : 1 ≤ d) {A : Nat} {f w u : Nat → Int32} (hM : MB S A f w u) : pm_run X pm_Ms PR d 47 [.ref A] S = some (some (.int (bI (f 1 = 3 ∨ f 1 = 4))), S) := by
  refine pm_run_of (L := [_]) (by omega) (hP _ rfl) ms_Member_ofParty rfl ?_
  show pm_to _ _ _ (some .boolean) cd_Member_ofParty 0 _ _
  refine pm_to.blk rfl ?_
  refine pe_aload rfl ?_
  refine pe_getf hM.1 rfl rfl ?_
  refine pe_iconst (v := 3) rfl ?_
  refine pe_icmp_eq (tgt := 2) (nx := 1) rfl rfl (fun hc0 => ?_) (fun hc0 => ?_)
  · rw [bI_t (Or.inl hc0)]
    refine pm_to.blk rfl ?_
    refine pe_iconst (v := 1) rfl ?_
    refine pe_goto (tgt := 4) rfl ?_
    refine pm_to.blk rfl ?_
    exact pe_iret rfl rfl
  · refine pm_to.blk rfl ?_
    refine pe_aload rfl ?_
    refine pe_getf hM.1 rfl rfl ?_
    refine pe_iconst (v := 4) rfl ?_
    refine pe_icmp_ne (tgt := 3) (nx := 2) rfl rfl (fun hc1 => ?_) (fun hc1 => ?_)
    · rw [bI_f (fun h => h.elim hc0 hc1)]
      refine pm_to.blk rfl ?_
      refine pe_iconst (v := 0) rfl ?_
      refine pe_nil (nx := 4) rfl ?_
      refine pm_to.blk rfl ?_
      exact pe_iret rfl rfl
    · rw [bI_t (Or.inr (Decidable.not_not.mp hc1))]
      refine pm_to.blk rfl ?_
      refine pe_iconst (v := 1) rfl ?_
      refine pe_goto (tgt := 4) rfl ?_
      refine pm_to.blk rfl ?_
      exact pe_iret rfl rfl
theorem r_Hall_margin (hP : pm_np PR) {d : Nat} (hd : 2 ≤ d) (hH : HR S z b f w u) (hz : z 0 = nI N) (hN : N ≤ 9) {x y : Nat} (hx : x < 7) (hy : y < 7) : pm_run X pm_Ms PR d 21 [.ref 74, .int (nI x), .int (nI y)] S = some (some (.int (h_mar f w N x y)), S) := by
  obtain ⟨h1, ⟨g, h2, h3⟩, h4, h5⟩ := hH
  refine pm_run_of (L := [_, _, _, _, _]) (by omega) (hP _ rfl) ms_Hall_margin rfl ?_
  show pm_to _ _ _ (some .int) cd_Hall_margin 0 _ _
  unfold h_mar
  have loop : ∀ (k m : Nat), m + k = N → pm_to X pm_Ms (pm_run X pm_Ms PR (d - 1)) (some .int) cd_Hall_margin 1 ([some (.ref 74), some (.int (nI x)), some (.int (nI y)), some (.int (mgn w (fun m => f m 2) x y m)), some (.int (nI m))], [], S) (some (.int (mgn w (fun m => f m 2) x y N)), S) := by
    intro k
    induction k with
    | zero =>
      intro m hm
      have e : m = N := by omega
      subst e
      refine pm_to.blk rfl ?_
      refine pe_iload rfl ?_
      refine pe_aload rfl ?_
      refine pe_getf h1 rfl rfl ?_
      refine pe_icmp_ge (tgt := 3) (nx := 2) rfl rfl (fun hc1 => ?_) (fun hc1 => ?_)
      · refine pm_to.blk rfl ?_
        refine pe_iload rfl ?_
        exact pe_iret rfl rfl
      · exact absurd (by rw [hz]; exact nI_le (Nat.le_refl _) (by omega)) hc1
    | succ k ih =>
      intro m hm
      have hm9 : m < 9 := by omega
      refine pm_to.blk rfl ?_
      refine pe_iload rfl ?_
      refine pe_aload rfl ?_
      refine pe_getf h1 rfl rfl ?_
      refine pe_icmp_ge (tgt := 3) (nx := 2) rfl rfl (fun hc1 => ?_) (fun hc1 => ?_)
      · rw [hz] at hc1
        exact absurd hc1 (nI_ge (by omega) (by omega))
      · refine pm_to.blk rfl ?_
        refine pe_iload rfl ?_
        refine pe_aload rfl ?_
        refine pe_getf h1 rfl rfl ?_
        refine pe_iload rfl ?_
        refine pe_aaldN h2 (by decide) rfl hm9 (by decide) (h3 m hm9) ?_
        refine pe_getf (h5 m hm9).1 rfl rfl ?_
        refine pe_aload rfl ?_
        refine pe_getf h1 rfl rfl ?_
        refine pe_iload rfl ?_
        refine pe_aaldN h2 (by decide) rfl hm9 (by decide) (h3 m hm9) ?_
        refine pe_iload rfl ?_
        refine pe_iload rfl ?_
        refine pe_virt rfl rfl ((h5 m hm9).1 ) rfl ( r_Member_leaning hP (by omega) (h5 m hm9) hx hy) ?_
        refine pe_imul ?_
        refine pe_iadd ?_
        refine pe_istore (L' := [_, _, _, _, _]) rfl ?_
        refine pe_iinc (L' := [_, _, _, _, _]) rfl ((nI_succ m).symm) rfl ?_
        refine pe_goto (tgt := 1) rfl ?_
        rw [mul_sgn]
        exact ih (m + 1) (by omega)
  refine pm_to.blk rfl ?_
  refine pe_iconst (v := 0) rfl ?_
  refine pe_istore (L' := [_, _, _, _, _]) rfl ?_
  refine pe_iconst (v := 0) rfl ?_
  refine pe_istore (L' := [_, _, _, _, _]) rfl ?_
  refine pe_nil (nx := 1) rfl ?_
  exact loop N 0 (by omega)
theorem r_Hall_chairsOf (hP : pm_np PR) {d : Nat} (hd : 1 ≤ d) (hH : HR S z b f w u) {x y : Nat} (hx : x < 7) (hy : y < 7) : pm_run X pm_Ms PR d 19 [.ref 74, .int (nI x), .int (nI y)] S = some (some (.int (nI (if z 1 = 0 then min x y else max x y))), S) := by
  refine pm_run_of (L := [_, _, _]) (by omega) (hP _ rfl) ms_Hall_chairsOf rfl ?_
  show pm_to _ _ _ (some .int) cd_Hall_chairsOf 0 _ _
  refine pm_to.blk rfl ?_
  refine pe_aload rfl ?_
  refine pe_getf hH.1 rfl rfl ?_
  refine pe_if_ne (tgt := 2) (nx := 1) rfl rfl (fun hc0 => ?_) (fun hc0 => ?_)
  · rw [if_neg hc0]
    refine pm_to.blk rfl ?_
    refine pe_iload rfl ?_
    refine pe_iload rfl ?_
    refine pe_max (by decide) ?_
    refine pe_nil (nx := 3) rfl ?_
    have e : (if nI x < nI y then nI y else nI x) = nI (max x y) := by
      by_cases h : x < y
      · rw [if_pos (nI_lt h (by omega)), Nat.max_eq_right (by omega)]
      · rw [if_neg (nI_nlt (by omega) (by omega)), Nat.max_eq_left (by omega)]
    rw [e]
    refine pm_to.blk rfl ?_
    exact pe_iret rfl rfl
  · rw [if_pos (Decidable.not_not.mp hc0)]
    refine pm_to.blk rfl ?_
    refine pe_iload rfl ?_
    refine pe_iload rfl ?_
    refine pe_min (by decide) ?_
    refine pe_goto (tgt := 3) rfl ?_
    have e : (if nI y < nI x then nI y else nI x) = nI (min x y) := by
      by_cases h : y < x
      · rw [if_pos (nI_lt h (by omega)), Nat.min_eq_right (by omega)]
      · rw [if_neg (nI_nlt (by omega) (by omega)), Nat.min_eq_left (by omega)]
    rw [e]
    refine pm_to.blk rfl ?_
    exact pe_iret rfl rfl
theorem h_std_lt {x y : Nat} (hx : x < 7) (hy : y < 7) : h_std z f w N x y < 7 := by
  unfold h_std
  split <;> omega
theorem add_toInt {a b : Int32} (h1 : -1000000 ≤ a.toInt + b.toInt) (h2 : a.toInt + b.toInt ≤ 1000000) : (a + b).toInt = a.toInt + b.toInt := by
  rw [Int32.toInt_add]
  exact Int.bmod_eq_of_le (by omega) (by omega)
theorem mgn_bd {w : Nat → Nat → Int32} {v : Nat → Int32} {x y : Nat} : ∀ n, n ≤ 9 → (∀ m, m < n → ∃ k, k ≤ 9 ∧ v m = nI k) → -(9 * n : Int) ≤ (mgn w v x y n).toInt ∧ (mgn w v x y n).toInt ≤ 9 * n := by
  intro n
  induction n with
  | zero => intro _ _; exact ⟨by show _ ≤ (0 : Int32).toInt; decide, by show (0 : Int32).toInt ≤ _; decide⟩
  | succ n ih =>
    intro hn hv
    obtain ⟨i1, i2⟩ := ih (by omega) (fun m hm => hv m (by omega))
    obtain ⟨k, hk, ek⟩ := hv n (by omega)
    have hb : -(9 : Int) ≤ (if w n x < w n y then v n else if w n y < w n x then -(v n) else 0).toInt ∧ (if w n x < w n y then v n else if w n y < w n x then -(v n) else 0).toInt ≤ 9 := by
      rw [ek]
      have e1 : (nI k).toInt = k := nI_toInt (by omega)
      have e2 : (-nI k).toInt = -(k : Int) := sb_negT (by omega)
      split
      · rw [e1]; omega
      · split
        · rw [e2]; omega
        · decide
    unfold mgn
    rw [add_toInt (by omega) (by omega)]
    omega
theorem neg_pos {a : Int32} (h1 : -1000000 ≤ a.toInt) : 0 < -a ↔ a < 0 := by
  have h2 : a.toInt < 2 ^ 31 := Int32.toInt_lt a
  have e : (-a).toInt = -a.toInt := by
    rw [Int32.toInt_neg]
    exact Int.bmod_eq_of_le (by omega) (by omega)
  rw [Int32.lt_iff_toInt_lt, Int32.lt_iff_toInt_lt, e]
  show (0 : Int) < _ ↔ _ < (0 : Int)
  omega
theorem neg_zero {a : Int32} : -a = 0 ↔ a = 0 := by
  constructor
  · intro h
    have : - -a = -0 := by rw [h]
    rw [Int32.neg_neg] at this
    rw [this]; rfl
  · intro h; rw [h]; rfl
theorem r_Hall_better (hP : pm_np PR) {d : Nat} (hd : 3 ≤ d) (hH : HR S z b f w u) (hz : z 0 = nI N) (hN : N ≤ 9) (hv : ∀ m, m < N → ∃ k, k ≤ 9 ∧ f m 2 = nI k) {x y : Nat} (hx : x < 7) (hy : y < 7) : pm_run X pm_Ms PR d 20 [.ref 74, .int (nI x), .int (nI y)] S = some (some (.int (nI (h_std z f w N x y))), S) := by
  refine pm_run_of (L := [_, _, _, _]) (by omega) (hP _ rfl) ms_Hall_better rfl ?_
  show pm_to _ _ _ (some .int) cd_Hall_better 0 _ _
  have exy : nI x = nI y ↔ x = y := nI_eq (by omega) (by omega)
  obtain ⟨bd1, bd2⟩ := mgn_bd (w := w) (v := fun m => f m 2) (x := x) (y := y) N hN hv
  have anti : h_mar f w N y x = - h_mar f w N x y := mgn_anti _ _ _ _ _
  have bd3 : -1000000 ≤ (h_mar f w N x y).toInt := by unfold h_mar; omega
  unfold h_std
  refine pm_to.blk rfl ?_
  refine pe_iload rfl ?_
  refine pe_iload rfl ?_
  refine pe_icmp_ne (tgt := 2) (nx := 1) rfl rfl (fun hc0 => ?_) (fun hc0 => ?_)
  · have hne : ¬ x = y := fun h => hc0 (exy.mpr h)
    refine pm_to.blk rfl ?_
    refine pe_aload rfl ?_
    refine pe_iload rfl ?_
    refine pe_iload rfl ?_
    refine pe_virt rfl rfl (hH.1 ) rfl ( r_Hall_margin hP (by omega) hH hz hN hx hy) ?_
    refine pe_istore (L' := [_, _, _, _]) rfl ?_
    refine pe_iload rfl ?_
    refine pe_if_ne (tgt := 4) (nx := 3) rfl rfl (fun hc2 => ?_) (fun hc2 => ?_)
    · refine pm_to.blk rfl ?_
      refine pe_iload rfl ?_
      refine pe_if_le (tgt := 6) (nx := 5) rfl rfl (fun hc4 => ?_) (fun hc4 => ?_)
      · have hlt : h_mar f w N x y < 0 := Int32.lt_of_le_of_ne hc4 hc2
        rw [if_pos (show h_bts z f w N y x from ⟨fun h => hne h.symm, Or.inl (by rw [anti]; exact (neg_pos bd3).mpr hlt)⟩)]
        refine pm_to.blk rfl ?_
        refine pe_iload rfl ?_
        refine pe_nil (nx := 7) rfl ?_
        refine pm_to.blk rfl ?_
        exact pe_iret rfl rfl
      · have hgt : 0 < h_mar f w N x y := Int32.not_le.mp hc4
        have hnb : ¬ h_bts z f w N y x := fun h => h.2.elim (fun q => by rw [anti] at q; exact absurd ((neg_pos bd3).mp q) (Int32.not_lt.mpr (Int32.le_of_lt hgt))) (fun q => by rw [anti] at q; exact hc2 (neg_zero.mp q.1))
        rw [if_neg hnb]
        refine pm_to.blk rfl ?_
        refine pe_iload rfl ?_
        refine pe_goto (tgt := 7) rfl ?_
        refine pm_to.blk rfl ?_
        exact pe_iret rfl rfl
    · have h0 : h_mar f w N x y = 0 := Decidable.not_not.mp hc2
      have h0' : h_mar f w N y x = 0 := by rw [anti, h0]; rfl
      have e : (if h_bts z f w N y x then y else x) = (if z 1 = 0 then min x y else max x y) := by
        unfold h_bts
        rw [h0']
        by_cases hch : z 1 = 0
        · rw [if_pos hch]
          by_cases hl : y < x
          · rw [if_pos ⟨fun h => hne h.symm, Or.inr ⟨rfl, Or.inl ⟨hch, hl⟩⟩⟩, Nat.min_eq_right (by omega)]
          · rw [if_neg (fun h => h.2.elim (fun q => absurd q (by decide)) (fun q => q.2.elim (fun r => hl r.2) (fun r => r.1 hch))), Nat.min_eq_left (by omega)]
        · rw [if_neg hch]
          by_cases hl : x < y
          · rw [if_pos ⟨fun h => hne h.symm, Or.inr ⟨rfl, Or.inr ⟨hch, hl⟩⟩⟩, Nat.max_eq_right (by omega)]
          · rw [if_neg (fun h => h.2.elim (fun q => absurd q (by decide)) (fun q => q.2.elim (fun r => hch r.1) (fun r => hl r.2))), Nat.max_eq_left (by omega)]
      rw [e]
      refine pm_to.blk rfl ?_
      refine pe_aload rfl ?_
      refine pe_iload rfl ?_
      refine pe_iload rfl ?_
      refine pe_virt rfl rfl (hH.1 ) rfl ( r_Hall_chairsOf hP (by omega) hH hx hy) ?_
      refine pe_goto (tgt := 7) rfl ?_
      refine pm_to.blk rfl ?_
      exact pe_iret rfl rfl
  · have he : x = y := exy.mp (Decidable.not_not.mp hc0)
    rw [if_neg (fun h => h.1 he.symm)]
    refine pm_to.blk rfl ?_
    refine pe_iload rfl ?_
    exact pe_iret rfl rfl
theorem h_std_bts {x y : Nat} (hv : ∀ m, m < N → ∃ k, k ≤ 9 ∧ f m 2 = nI k) (hN : N ≤ 9) (hne : ¬ x = y) : h_std z f w N x y = x ↔ h_bts z f w N x y := by
  obtain ⟨bd1, bd2⟩ := mgn_bd (w := w) (v := fun m => f m 2) (x := x) (y := y) N hN hv
  have anti : h_mar f w N y x = - h_mar f w N x y := mgn_anti _ _ _ _ _
  have bd3 : -1000000 ≤ (h_mar f w N x y).toInt := by unfold h_mar; omega
  unfold h_std
  constructor
  · intro h
    have hn : ¬ h_bts z f w N y x := fun q => by rw [if_pos q] at h; exact hne h.symm
    refine ⟨hne, ?_⟩
    by_cases hp : 0 < h_mar f w N x y
    · exact Or.inl hp
    · by_cases h0 : h_mar f w N x y = 0
      · refine Or.inr ⟨h0, ?_⟩
        have h0' : h_mar f w N y x = 0 := by rw [anti, h0]; rfl
        by_cases hch : z 1 = 0
        · refine Or.inl ⟨hch, ?_⟩
          by_cases hl : y < x
          · exact absurd ⟨fun h => hne h.symm, Or.inr ⟨h0', Or.inl ⟨hch, hl⟩⟩⟩ hn
          · omega
        · refine Or.inr ⟨hch, ?_⟩
          by_cases hl : x < y
          · exact absurd ⟨fun h => hne h.symm, Or.inr ⟨h0', Or.inr ⟨hch, hl⟩⟩⟩ hn
          · omega
      · exact absurd ⟨fun h => hne h.symm, Or.inl (by rw [anti]; exact (neg_pos bd3).mpr (Int32.lt_of_le_of_ne (Int32.not_lt.mp hp) h0))⟩ hn
  · intro h
    rw [if_neg]
    intro q
    rcases h.2 with h2 | ⟨h2, h3⟩
    · rcases q.2 with q2 | ⟨q2, q3⟩
      · rw [anti] at q2
        exact absurd ((neg_pos bd3).mp q2) (Int32.not_lt.mpr (Int32.le_of_lt h2))
      · rw [anti] at q2
        rw [neg_zero.mp q2] at h2
        exact absurd h2 (by decide)
    · rcases q.2 with q2 | ⟨q2, q3⟩
      · rw [anti, h2] at q2
        exact absurd q2 (by decide)
      · rcases h3 with ⟨h4, h5⟩ | ⟨h4, h5⟩ <;> rcases q3 with ⟨q4, q5⟩ | ⟨q4, q5⟩
        · omega
        · exact q4 h4
        · exact h4 q4
        · omega
theorem r_Hall_beats (hP : pm_np PR) {d : Nat} (hd : 4 ≤ d) (hH : HR S z b f w u) (hz : z 0 = nI N) (hN : N ≤ 9) (hv : ∀ m, m < N → ∃ k, k ≤ 9 ∧ f m 2 = nI k) {x y : Nat} (hx : x < 7) (hy : y < 7) : pm_run X pm_Ms PR d 22 [.ref 74, .int (nI x), .int (nI y)] S = some (some (.int (bI (h_bts z f w N x y))), S) := by
  refine pm_run_of (L := [_, _, _]) (by omega) (hP _ rfl) ms_Hall_beats rfl ?_
  show pm_to _ _ _ (some .boolean) cd_Hall_beats 0 _ _
  have exy : nI x = nI y ↔ x = y := nI_eq (by omega) (by omega)
  refine pm_to.blk rfl ?_
  refine pe_iload rfl ?_
  refine pe_iload rfl ?_
  refine pe_icmp_eq (tgt := 3) (nx := 1) rfl rfl (fun hc0 => ?_) (fun hc0 => ?_)
  · rw [bI_f (fun h => h.1 (exy.mp hc0))]
    refine pm_to.blk rfl ?_
    refine pe_iconst (v := 0) rfl ?_
    refine pe_nil (nx := 4) rfl ?_
    refine pm_to.blk rfl ?_
    exact pe_iret rfl rfl
  · have hne : ¬ x = y := fun h => hc0 (exy.mpr h)
    have ex2 : nI (h_std z f w N x y) = nI x ↔ h_std z f w N x y = x := nI_eq (by have := h_std_lt (z := z) (f := f) (w := w) (N := N) hx hy; omega) (by omega)
    refine pm_to.blk rfl ?_
    refine pe_aload rfl ?_
    refine pe_iload rfl ?_
    refine pe_iload rfl ?_
    refine pe_virt rfl rfl (hH.1 ) rfl ( r_Hall_better hP (by omega) hH hz hN hv hx hy) ?_
    refine pe_iload rfl ?_
    refine pe_icmp_ne (tgt := 3) (nx := 2) rfl rfl (fun hc1 => ?_) (fun hc1 => ?_)
    · rw [bI_f (fun h => hc1 (ex2.mpr ((h_std_bts hv hN hne).mpr h)))]
      refine pm_to.blk rfl ?_
      refine pe_iconst (v := 0) rfl ?_
      refine pe_nil (nx := 4) rfl ?_
      refine pm_to.blk rfl ?_
      exact pe_iret rfl rfl
    · rw [bI_t ((h_std_bts hv hN hne).mp (ex2.mp (Decidable.not_not.mp hc1)))]
      refine pm_to.blk rfl ?_
      refine pe_iconst (v := 1) rfl ?_
      refine pe_goto (tgt := 4) rfl ?_
      refine pm_to.blk rfl ?_
      exact pe_iret rfl rfl
end
end
section
/-! Arrays.fill, Integer.signum; the hall's stores -/
theorem pm_put_put {S : pm_S} {a : Nat} {e e' : va_E} : pm_put (pm_put S a e) a e' = pm_put S a e' := by
  simp [pm_put]
theorem pm_put_self {S : pm_S} {a : Nat} {e : va_E} (h : pm_h S a e) : pm_put S a e = S := by
  unfold pm_put
  have : S.1.set (a - 8) e = S.1 := by
    apply List.ext_getElem?
    intro i
    rw [List.getElem?_set]
    split
    · rename_i hi
      subst hi
      split
      · exact h.2.symm
      · rename_i hl
        rw [List.getElem?_eq_none (by omega)]
    · rfl
  rw [this]
theorem ms_Arrays_fill : pm_Ms[2]? = some md_Arrays_fill := rfl
theorem ms_Integer_signum : pm_Ms[0]? = some md_Integer_signum := rfl
theorem ms_Hall_drawLines : pm_Ms[16]? = some md_Hall_drawLines := rfl
theorem ms_Hall_sideOfBought : pm_Ms[18]? = some md_Hall_sideOfBought := rfl
theorem ms_Hall_voteOf : pm_Ms[17]? = some md_Hall_voteOf := rfl
theorem ms_Hall_votesFor : pm_Ms[15]? = some md_Hall_votesFor := rfl
/-- outside the hall's cells nothing changes -/
def hfr (S S' : pm_S) : Prop := S'.1.length = S.1.length ∧ S'.2 = S.2 ∧ ∀ (b : Nat) (e : va_E), ¬ (74 ≤ b ∧ b ≤ 110) → pm_h S b e → pm_h S' b e
theorem hfr.rf (S : pm_S) : hfr S S := ⟨rfl, rfl, fun _ _ _ h => h⟩
theorem hfr.trans {S T U : pm_S} (h : hfr S T) (g : hfr T U) : hfr S U := ⟨g.1.trans h.1, g.2.1.trans h.2.1, fun b e hb he => g.2.2 b e hb (h.2.2 b e hb he)⟩
theorem hfr.put {S : pm_S} {c : Nat} {e : va_E} (hc : 74 ≤ c ∧ c ≤ 110) : hfr S (pm_put S c e) := ⟨by simp [pm_put], rfl, fun b e' hb he => he.ne (fun z => hb (by omega)) (by omega)⟩
theorem MB.ne {S : pm_S} {A c : Nat} {f w u : Nat → Int32} {e : va_E} (h : MB S A f w u) (hc : 8 ≤ c) (h1 : A ≠ c ∧ A + 1 ≠ c ∧ A + 2 ≠ c) : MB (pm_put S c e) A f w u := ⟨h.1.ne h1.1 hc, h.2.1.ne h1.2.1 hc, h.2.2.ne h1.2.2 hc⟩
theorem HR.putB {S : pm_S} {z : Nat → Int32} {b f w u : Nat → Nat → Int32} (h : HR S z b f w u) (k : Nat) (hk : k < 8) (g : Nat → Int32) : HR (pm_put S (76 + k) (.inl (0, hsz k, .inl g))) z (va_up b k g) f w u := by
  obtain ⟨h1, ⟨g0, h2, h3⟩, h4, h5⟩ := h
  refine ⟨h1.ne (by omega) (by omega), ⟨g0, h2.ne (by omega) (by omega), h3⟩, fun j hj => ?_, fun m hm => (h5 m hm).ne (by omega) (by omega)⟩
  by_cases e : j = k
  · subst e
    have : va_up b j g j = g := by simp [va_up]
    rw [this]
    exact (h4 j hj).eq
  · have : va_up b k g j = b j := by simp [va_up, e]
    rw [this]
    exact (h4 j hj).ne (by omega) (by omega)
section
variable {X : pm_X} {PR : pm_P} {S : pm_S} {z : Nat → Int32} {b f w u : Nat → Nat → Int32} {N : Nat}
theorem HR.o (h : HR S z b f w u) : pm_h S 74 (.inr (1, hob z)) := h.1
theorem HR.ar (h : HR S z b f w u) (k : Nat) (hk : k < 8) : pm_h S (76 + k) (.inl (0, hsz k, .inl (b k))) := h.2.2.1 k hk
theorem HR.mb (h : HR S z b f w u) {m : Nat} (hm : m < 9) : MB S (84 + 3 * m) (f m) (w m) (u m) := h.2.2.2 m hm
theorem r_Arrays_fill (hP : pm_np PR) {d : Nat} (hd : 1 ≤ d) {A n : Nat} {g : Nat → Int32} (hA : pm_h S A (.inl (0, n, .inl g))) (hn : n < 2 ^ 31) (v : Int32) : pm_run X pm_Ms PR d 2 [.ref A, .int v] S = some (none, pm_put S A (.inl (0, n, .inl (fun j => if j < n then v else g j)))) := by
  refine pm_run_of (L := [_, _, _, _]) (by omega) (hP _ rfl) ms_Arrays_fill rfl ?_
  show pm_to _ _ _ (none) cd_Arrays_fill 0 _ _
  have loop : ∀ (k m : Nat), m + k = n → pm_to X pm_Ms (pm_run X pm_Ms PR (d - 1)) none cd_Arrays_fill 1 ([some (.ref A), some (.int v), some (.int (nI m)), some (.int (nI n))], [], pm_put S A (.inl (0, n, .inl (fun j => if j < m then v else g j)))) (none, pm_put S A (.inl (0, n, .inl (fun j => if j < n then v else g j)))) := by
    intro k
    induction k with
    | zero =>
      intro m hm
      have e : m = n := by omega
      subst e
      refine pm_to.blk rfl ?_
      refine pe_iload rfl ?_
      refine pe_iload rfl ?_
      refine pe_icmp_ge (tgt := 3) (nx := 2) rfl rfl (fun hc1 => ?_) (fun hc1 => ?_)
      · refine pm_to.blk rfl ?_
        exact pe_ret rfl rfl
      · exact absurd (nI_le (Nat.le_refl m) hn) hc1
    | succ k ih =>
      intro m hm
      refine pm_to.blk rfl ?_
      refine pe_iload rfl ?_
      refine pe_iload rfl ?_
      refine pe_icmp_ge (tgt := 3) (nx := 2) rfl rfl (fun hc1 => ?_) (fun hc1 => ?_)
      · exact absurd hc1 (nI_ge (by omega) hn)
      · refine pm_to.blk rfl ?_
        refine pe_aload rfl ?_
        refine pe_iload rfl ?_
        refine pe_iload rfl ?_
        refine pe_iastN hA.eq rfl (by omega) hn ?_
        refine pe_iinc (L' := [_, _, _, _]) rfl ((nI_succ m).symm) rfl ?_
        refine pe_goto (tgt := 1) rfl ?_
        rw [pm_put_put]
        have e : upd (fun j => if j < m then v else g j) m v = (fun j => if j < m + 1 then v else g j) := by
          funext j
          simp only [upd]
          by_cases hj : j = m
          · subst hj; simp
          · rw [if_neg hj]
            by_cases h2 : j < m
            · rw [if_pos h2, if_pos (by omega)]
            · rw [if_neg h2, if_neg (by omega)]
        rw [e]
        exact ih (m + 1) (by omega)
  have := loop n 0 (by omega)
  have e0 : (fun j => if j < 0 then v else g j) = g := by funext j; simp
  rw [e0, pm_put_self hA] at this
  refine pm_to.blk rfl ?_
  refine pe_iconst (v := 0) rfl ?_
  refine pe_istore (L' := [_, _, _, _]) rfl ?_
  refine pe_aload rfl ?_
  refine pe_alen hA ?_
  refine pe_istore (L' := [_, _, _, _]) rfl ?_
  refine pe_nil (nx := 1) rfl ?_
  exact this
theorem sig_ok : ∀ k, k < 100 → ((nI k >>> (31 &&& 31)) ||| ((-nI k).toUInt32 >>> ((31 : Int32).toUInt32 &&& Int32.toUInt32 31)).toInt32 = sg0 (nI k)) ∧ ((-nI k) >>> (31 &&& 31)) ||| ((- -nI k).toUInt32 >>> ((31 : Int32).toUInt32 &&& Int32.toUInt32 31)).toInt32 = sg0 (-nI k) := by
  decide
theorem r_Integer_signum (hP : pm_np PR) {d : Nat} (hd : 1 ≤ d) (x : Int32) (hx : -100 < x.toInt ∧ x.toInt < 100) : pm_run X pm_Ms PR d 0 [.int x] S = some (some (.int (sg0 x)), S) := by
  refine pm_run_of (L := [_]) (by omega) (hP _ rfl) ms_Integer_signum rfl ?_
  show pm_to _ _ _ (some .int) cd_Integer_signum 0 _ _
  have e : sg0 x = (x >>> (31 &&& 31)) ||| ((-x).toUInt32 >>> ((31 : Int32).toUInt32 &&& Int32.toUInt32 31)).toInt32 := by
    rcases Int.lt_or_le x.toInt 0 with h | h
    · obtain ⟨k, hk⟩ : ∃ k : Nat, x.toInt = -(k : Int) := ⟨(-x.toInt).toNat, by omega⟩
      have ex : x = -nI k := by
        apply Int32.toInt_inj.mp
        rw [hk, sb_negT (by omega)]
      rw [ex]
      exact ((sig_ok k (by omega)).2).symm
    · obtain ⟨k, hk⟩ : ∃ k : Nat, x.toInt = (k : Int) := ⟨x.toInt.toNat, by omega⟩
      have ex : x = nI k := by
        apply Int32.toInt_inj.mp
        rw [hk, nI_toInt (by omega)]
      rw [ex]
      exact ((sig_ok k (by omega)).1).symm
  rw [e]
  refine pm_to.blk rfl ?_
  refine pe_iload rfl ?_
  refine pe_iconst (v := 31) rfl ?_
  refine pe_ishr ?_
  refine pe_iload rfl ?_
  refine pe_ineg ?_
  refine pe_iconst (v := 31) rfl ?_
  refine pe_iushr ?_
  refine pe_ior ?_
  exact pe_iret rfl rfl
end
end
section
/-! printed by wip/whole/mkhp.py: the heap as a function of numbers: qF ints of objects, qE of int arrays, qL of long arrays, qT the told TREES, qX the reader's text, qR what lies behind, qN slots -/
abbrev QST : Type := (Nat → Nat → Int32) × (Nat → Nat → Int32) × (Nat → Nat → Int64) × (Nat → Nat → Option Nat) × Value × List va_E × Nat
def qF (s : QST) : Nat → Nat → Int32 := s.1
def qE (s : QST) : Nat → Nat → Int32 := s.2.1
def qL (s : QST) : Nat → Nat → Int64 := s.2.2.1
def qT (s : QST) : Nat → Nat → Option Nat := s.2.2.2.1
def qX (s : QST) : Value := s.2.2.2.2.1
def qR (s : QST) : List va_E := s.2.2.2.2.2.1
def qN (s : QST) : Nat := s.2.2.2.2.2.2
def qu2 {α : Type} (f : Nat → Nat → α) (c k : Nat) (v : α) : Nat → Nat → α := fun c' k' => if c' = c ∧ k' = k then v else f c' k'
def qua {α : Type} (f : Nat → Nat → α) (c : Nat) (g : Nat → α) : Nat → Nat → α := fun c' => if c' = c then g else f c'
def uF (s : QST) (c k : Nat) (v : Int32) : QST := (qu2 (qF s) c k v, qE s, qL s, qT s, qX s, qR s, qN s)
def uE (s : QST) (c k : Nat) (v : Int32) : QST := (qF s, qu2 (qE s) c k v, qL s, qT s, qX s, qR s, qN s)
def uL (s : QST) (c k : Nat) (v : Int64) : QST := (qF s, qE s, qu2 (qL s) c k v, qT s, qX s, qR s, qN s)
def uT (s : QST) (c k : Nat) (v : Option Nat) : QST := (qF s, qE s, qL s, qu2 (qT s) c k v, qX s, qR s, qN s)
def uX (s : QST) (v : Value) : QST := (qF s, qE s, qL s, qT s, v, qR s, qN s)
def uA (s : QST) (c : Nat) (g : Nat → Int32) : QST := (qF s, qua (qE s) c g, qL s, qT s, qX s, qR s, qN s)
def uR (s : QST) (e : List va_E) (n : Nat) : QST := (qF s, qE s, qL s, qT s, qX s, e, n)
theorem qE_uF {s : QST} {c k : Nat} {v : Int32} : qE (uF s c k v) = qE s := rfl
theorem qL_uF {s : QST} {c k : Nat} {v : Int32} : qL (uF s c k v) = qL s := rfl
theorem qT_uF {s : QST} {c k : Nat} {v : Int32} : qT (uF s c k v) = qT s := rfl
theorem qX_uF {s : QST} {c k : Nat} {v : Int32} : qX (uF s c k v) = qX s := rfl
theorem qR_uF {s : QST} {c k : Nat} {v : Int32} : qR (uF s c k v) = qR s := rfl
theorem qN_uF {s : QST} {c k : Nat} {v : Int32} : qN (uF s c k v) = qN s := rfl
theorem qF_uE {s : QST} {c k : Nat} {v : Int32} : qF (uE s c k v) = qF s := rfl
theorem qL_uE {s : QST} {c k : Nat} {v : Int32} : qL (uE s c k v) = qL s := rfl
theorem qT_uE {s : QST} {c k : Nat} {v : Int32} : qT (uE s c k v) = qT s := rfl
theorem qX_uE {s : QST} {c k : Nat} {v : Int32} : qX (uE s c k v) = qX s := rfl
theorem qR_uE {s : QST} {c k : Nat} {v : Int32} : qR (uE s c k v) = qR s := rfl
theorem qN_uE {s : QST} {c k : Nat} {v : Int32} : qN (uE s c k v) = qN s := rfl
theorem qF_uL {s : QST} {c k : Nat} {v : Int64} : qF (uL s c k v) = qF s := rfl
theorem qE_uL {s : QST} {c k : Nat} {v : Int64} : qE (uL s c k v) = qE s := rfl
theorem qT_uL {s : QST} {c k : Nat} {v : Int64} : qT (uL s c k v) = qT s := rfl
theorem qX_uL {s : QST} {c k : Nat} {v : Int64} : qX (uL s c k v) = qX s := rfl
theorem qR_uL {s : QST} {c k : Nat} {v : Int64} : qR (uL s c k v) = qR s := rfl
theorem qN_uL {s : QST} {c k : Nat} {v : Int64} : qN (uL s c k v) = qN s := rfl
theorem qF_uT {s : QST} {c k : Nat} {v : Option Nat} : qF (uT s c k v) = qF s := rfl
theorem qE_uT {s : QST} {c k : Nat} {v : Option Nat} : qE (uT s c k v) = qE s := rfl
theorem qL_uT {s : QST} {c k : Nat} {v : Option Nat} : qL (uT s c k v) = qL s := rfl
theorem qX_uT {s : QST} {c k : Nat} {v : Option Nat} : qX (uT s c k v) = qX s := rfl
theorem qR_uT {s : QST} {c k : Nat} {v : Option Nat} : qR (uT s c k v) = qR s := rfl
theorem qN_uT {s : QST} {c k : Nat} {v : Option Nat} : qN (uT s c k v) = qN s := rfl
theorem qF_uX {s : QST} {v : Value} : qF (uX s v) = qF s := rfl
theorem qE_uX {s : QST} {v : Value} : qE (uX s v) = qE s := rfl
theorem qL_uX {s : QST} {v : Value} : qL (uX s v) = qL s := rfl
theorem qT_uX {s : QST} {v : Value} : qT (uX s v) = qT s := rfl
theorem qR_uX {s : QST} {v : Value} : qR (uX s v) = qR s := rfl
theorem qN_uX {s : QST} {v : Value} : qN (uX s v) = qN s := rfl
theorem qF_uA {s : QST} {c : Nat} {g : Nat → Int32} : qF (uA s c g) = qF s := rfl
theorem qL_uA {s : QST} {c : Nat} {g : Nat → Int32} : qL (uA s c g) = qL s := rfl
theorem qT_uA {s : QST} {c : Nat} {g : Nat → Int32} : qT (uA s c g) = qT s := rfl
theorem qX_uA {s : QST} {c : Nat} {g : Nat → Int32} : qX (uA s c g) = qX s := rfl
theorem qR_uA {s : QST} {c : Nat} {g : Nat → Int32} : qR (uA s c g) = qR s := rfl
theorem qN_uA {s : QST} {c : Nat} {g : Nat → Int32} : qN (uA s c g) = qN s := rfl
theorem qF_uR {s : QST} {e : List va_E} {n : Nat} : qF (uR s e n) = qF s := rfl
theorem qE_uR {s : QST} {e : List va_E} {n : Nat} : qE (uR s e n) = qE s := rfl
theorem qL_uR {s : QST} {e : List va_E} {n : Nat} : qL (uR s e n) = qL s := rfl
theorem qT_uR {s : QST} {e : List va_E} {n : Nat} : qT (uR s e n) = qT s := rfl
theorem qX_uR {s : QST} {e : List va_E} {n : Nat} : qX (uR s e n) = qX s := rfl
theorem qF_uF {s : QST} {c k c' k' : Nat} {v : Int32} : qF (uF s c k v) c' k' = if c' = c ∧ k' = k then v else qF s c' k' := rfl
theorem qF_uFs {s : QST} {c k : Nat} {v : Int32} : qF (uF s c k v) c k = v := if_pos ⟨rfl, rfl⟩
theorem qF_uFc {s : QST} {c k c' : Nat} {v : Int32} (h : c' ≠ c) : qF (uF s c k v) c' = qF s c' := funext fun _ => if_neg fun z => h z.1
theorem qF_uFk {s : QST} {c k k' : Nat} {v : Int32} (h : k' ≠ k) : qF (uF s c k v) c k' = qF s c k' := if_neg fun z => h z.2
theorem qE_uE {s : QST} {c k c' k' : Nat} {v : Int32} : qE (uE s c k v) c' k' = if c' = c ∧ k' = k then v else qE s c' k' := rfl
theorem qE_uEs {s : QST} {c k : Nat} {v : Int32} : qE (uE s c k v) c k = v := if_pos ⟨rfl, rfl⟩
theorem qE_uEc {s : QST} {c k c' : Nat} {v : Int32} (h : c' ≠ c) : qE (uE s c k v) c' = qE s c' := funext fun _ => if_neg fun z => h z.1
theorem qE_uEk {s : QST} {c k k' : Nat} {v : Int32} (h : k' ≠ k) : qE (uE s c k v) c k' = qE s c k' := if_neg fun z => h z.2
theorem qL_uL {s : QST} {c k c' k' : Nat} {v : Int64} : qL (uL s c k v) c' k' = if c' = c ∧ k' = k then v else qL s c' k' := rfl
theorem qL_uLs {s : QST} {c k : Nat} {v : Int64} : qL (uL s c k v) c k = v := if_pos ⟨rfl, rfl⟩
theorem qL_uLc {s : QST} {c k c' : Nat} {v : Int64} (h : c' ≠ c) : qL (uL s c k v) c' = qL s c' := funext fun _ => if_neg fun z => h z.1
theorem qL_uLk {s : QST} {c k k' : Nat} {v : Int64} (h : k' ≠ k) : qL (uL s c k v) c k' = qL s c k' := if_neg fun z => h z.2
theorem qT_uT {s : QST} {c k c' k' : Nat} {v : Option Nat} : qT (uT s c k v) c' k' = if c' = c ∧ k' = k then v else qT s c' k' := rfl
theorem qT_uTs {s : QST} {c k : Nat} {v : Option Nat} : qT (uT s c k v) c k = v := if_pos ⟨rfl, rfl⟩
theorem qT_uTc {s : QST} {c k c' : Nat} {v : Option Nat} (h : c' ≠ c) : qT (uT s c k v) c' = qT s c' := funext fun _ => if_neg fun z => h z.1
theorem qT_uTk {s : QST} {c k k' : Nat} {v : Option Nat} (h : k' ≠ k) : qT (uT s c k v) c k' = qT s c k' := if_neg fun z => h z.2
theorem qE_uA {s : QST} {c c' : Nat} {g : Nat → Int32} : qE (uA s c g) c' = if c' = c then g else qE s c' := rfl
theorem qE_uAs {s : QST} {c : Nat} {g : Nat → Int32} : qE (uA s c g) c = g := if_pos rfl
theorem qE_uAc {s : QST} {c c' : Nat} {g : Nat → Int32} (h : c' ≠ c) : qE (uA s c g) c' = qE s c' := if_neg h
theorem qX_uX {s : QST} {v : Value} : qX (uX s v) = v := rfl
theorem qR_uR {s : QST} {e : List va_E} {n : Nat} : qR (uR s e n) = e := rfl
theorem qN_uR {s : QST} {e : List va_E} {n : Nat} : qN (uR s e n) = n := rfl
theorem uE_uA {s : QST} {c k : Nat} {v : Int32} : uE s c k v = uA s c (upd (qE s c) k v) := by
  unfold uE uA
  have : qu2 (qE s) c k v = qua (qE s) c (upd (qE s c) k v) := by
    funext c' k'
    unfold qu2 qua upd
    by_cases h : c' = c
    · subst h; by_cases h2 : k' = k <;> simp [h2]
    · simp [h]
  rw [this]
/-- what lies at an address: 0 ints (how many), 1 an object (class; 0 an int, 1 the text, else a ref), 2 refs (type; how many, the first, step), 3 TREES told, 4 longs -/
def qLayL : List (Nat × Nat × List Nat) := [(1, 9, [9, 39, 0, 69, 70, 74, 111, 115, 121]), (1, 0, [0, 0, 0, 0, 10, 11]), (2, 2, [9, 12, 3]), (3, 12, []), (1, 3, [0, 0, 0, 0, 0, 0, 13, 14]), (0, 7, []), (0, 7, []), (1, 3, [0, 0, 0, 0, 0, 0, 16, 17]), (0, 7, []), (0, 7, []), (1, 3, [0, 0, 0, 0, 0, 0, 19, 20]), (0, 7, []), (0, 7, []), (1, 3, [0, 0, 0, 0, 0, 0, 22, 23]), (0, 7, []), (0, 7, []), (1, 3, [0, 0, 0, 0, 0, 0, 25, 26]), (0, 7, []), (0, 7, []), (1, 3, [0, 0, 0, 0, 0, 0, 28, 29]), (0, 7, []), (0, 7, []), (1, 3, [0, 0, 0, 0, 0, 0, 31, 32]), (0, 7, []), (0, 7, []), (1, 3, [0, 0, 0, 0, 0, 0, 34, 35]), (0, 7, []), (0, 7, []), (1, 3, [0, 0, 0, 0, 0, 0, 37, 38]), (0, 7, []), (0, 7, []), (1, 0, [0, 0, 0, 0, 40, 41]), (2, 2, [9, 42, 3]), (3, 12, []), (1, 3, [0, 0, 0, 0, 0, 0, 43, 44]), (0, 7, []), (0, 7, []), (1, 3, [0, 0, 0, 0, 0, 0, 46, 47]), (0, 7, []), (0, 7, []), (1, 3, [0, 0, 0, 0, 0, 0, 49, 50]), (0, 7, []), (0, 7, []), (1, 3, [0, 0, 0, 0, 0, 0, 52, 53]), (0, 7, []), (0, 7, []), (1, 3, [0, 0, 0, 0, 0, 0, 55, 56]), (0, 7, []), (0, 7, []), (1, 3, [0, 0, 0, 0, 0, 0, 58, 59]), (0, 7, []), (0, 7, []), (1, 3, [0, 0, 0, 0, 0, 0, 61, 62]), (0, 7, []), (0, 7, []), (1, 3, [0, 0, 0, 0, 0, 0, 64, 65]), (0, 7, []), (0, 7, []), (1, 3, [0, 0, 0, 0, 0, 0, 67, 68]), (0, 7, []), (0, 7, []), (2, 4, [8, 123, 5]), (1, 6, [1, 0, 0, 0, 0, 71, 72, 73]), (0, 120, []), (0, 120, []), (0, 120, []), (1, 1, [0, 0, 0, 75, 76, 77, 78, 79, 80, 81, 82, 83]), (2, 2, [9, 84, 3]), (0, 64, []), (0, 64, []), (0, 64, []), (0, 64, []), (0, 64, []), (0, 384, []), (0, 3, []), (0, 64, []), (1, 3, [0, 0, 0, 0, 0, 0, 85, 86]), (0, 7, []), (0, 7, []), (1, 3, [0, 0, 0, 0, 0, 0, 88, 89]), (0, 7, []), (0, 7, []), (1, 3, [0, 0, 0, 0, 0, 0, 91, 92]), (0, 7, []), (0, 7, []), (1, 3, [0, 0, 0, 0, 0, 0, 94, 95]), (0, 7, []), (0, 7, []), (1, 3, [0, 0, 0, 0, 0, 0, 97, 98]), (0, 7, []), (0, 7, []), (1, 3, [0, 0, 0, 0, 0, 0, 100, 101]), (0, 7, []), (0, 7, []), (1, 3, [0, 0, 0, 0, 0, 0, 103, 104]), (0, 7, []), (0, 7, []), (1, 3, [0, 0, 0, 0, 0, 0, 106, 107]), (0, 7, []), (0, 7, []), (1, 3, [0, 0, 0, 0, 0, 0, 109, 110]), (0, 7, []), (0, 7, []), (1, 4, [0, 0, 112, 113, 114]), (0, 7, []), (0, 7, []), (0, 128, []), (1, 5, [9, 74, 116, 117, 118, 119, 120, 0]), (0, 6, []), (0, 7, []), (0, 7, []), (0, 7, []), (0, 7, []), (1, 2, [74, 0, 0, 122]), (0, 216, []), (1, 7, [0, 0, 0, 124, 127]), (1, 3, [0, 0, 0, 0, 0, 0, 125, 126]), (0, 7, []), (0, 7, []), (0, 120, []), (1, 7, [0, 0, 0, 129, 132]), (1, 3, [0, 0, 0, 0, 0, 0, 130, 131]), (0, 7, []), (0, 7, []), (0, 120, []), (1, 7, [0, 0, 0, 134, 137]), (1, 3, [0, 0, 0, 0, 0, 0, 135, 136]), (0, 7, []), (0, 7, []), (0, 120, []), (1, 7, [0, 0, 0, 139, 142]), (1, 3, [0, 0, 0, 0, 0, 0, 140, 141]), (0, 7, []), (0, 7, []), (0, 120, []), (1, 7, [0, 0, 0, 144, 147]), (1, 3, [0, 0, 0, 0, 0, 0, 145, 146]), (0, 7, []), (0, 7, []), (0, 120, []), (1, 7, [0, 0, 0, 149, 152]), (1, 3, [0, 0, 0, 0, 0, 0, 150, 151]), (0, 7, []), (0, 7, []), (0, 120, []), (1, 7, [0, 0, 0, 154, 157]), (1, 3, [0, 0, 0, 0, 0, 0, 155, 156]), (0, 7, []), (0, 7, []), (0, 120, []), (1, 7, [0, 0, 0, 159, 162]), (1, 3, [0, 0, 0, 0, 0, 0, 160, 161]), (0, 7, []), (0, 7, []), (0, 120, []), (1, 10, [0, 164, 165, 0, 166, 167, 168, 169, 170, 171, 172, 0, 0, 0, 0, 0, 0, 173, 174, 175, 176, 177, 178, 179, 180, 181, 0, 0, 0, 0, 0, 0, 182, 0, 0, 0, 183, 184, 185, 186, 187, 188, 189, 190, 191, 0, 192, 193, 194, 195, 196, 197, 198, 199, 200, 201, 202]), (0, 200, []), (0, 200, []), (0, 12, []), (0, 12, []), (0, 1200, []), (0, 1200, []), (0, 1200, []), (0, 1200, []), (0, 1200, []), (0, 110, []), (0, 110, []), (0, 110, []), (0, 110, []), (0, 110, []), (0, 6, []), (0, 6, []), (0, 6, []), (0, 6, []), (0, 7, []), (0, 3, []), (0, 110, []), (0, 110, []), (0, 110, []), (0, 660, []), (0, 110, []), (0, 110, []), (0, 110, []), (0, 7, []), (0, 56, []), (0, 6, []), (0, 7, []), (0, 7, []), (0, 8, []), (0, 8, []), (0, 8, []), (0, 8, []), (0, 8, []), (4, 960, []), (4, 120, []), (4, 1, [])]
def qLay (c : Nat) : Nat × Nat × List Nat := qLayL.getD (c - 8) (0, 0, [])
def qfs (s : QST) (c : Nat) : Nat → List Nat → List Value
  | _, [] => []
  | k, t :: ts => (if t = 0 then .int (qF s c k) else if t = 1 then qX s else .ref t) :: qfs s c (k + 1) ts
def qcel (s : QST) (c : Nat) : va_E := match qLay c with
  | (0, n, _) => .inl (0, n, .inl (qE s c))
  | (1, ci, ts) => .inr (ci, qfs s c 0 ts)
  | (2, ty, ps) => .inl (ty, ps.getD 0 0, .inr (.inr (.inr (.inr (fun j => if j < ps.getD 0 0 then some (ps.getD 1 0 + ps.getD 2 0 * j) else none)))))
  | (3, n, _) => .inl (3, n, .inr (.inr (.inr (.inr (qT s c)))))
  | (_, n, _) => .inl (1, n, .inr (.inl (qL s c)))
/-- the heap -/
def qhp (s : QST) : pm_S := ((List.range 196).map (fun j => qcel s (j + 8)) ++ qR s, qN s)
def qLY (c : Nat) (x : Nat × Nat × List Nat) : Prop := 8 ≤ c ∧ c < 204 ∧ qLay c = x
theorem qfs_len {s : QST} {c : Nat} : ∀ (ts : List Nat) (k : Nat), (qfs s c k ts).length = ts.length := by
  intro ts
  induction ts with
  | nil => intro k; rfl
  | cons t ts ih => intro k; simp [qfs, ih]
theorem qfs_get {s : QST} {c : Nat} : ∀ (ts : List Nat) (k j : Nat), (qfs s c k ts)[j]? = (ts[j]?).map (fun t => if t = 0 then .int (qF s c (k + j)) else if t = 1 then qX s else .ref t) := by
  intro ts
  induction ts with
  | nil => intro k j; rfl
  | cons t ts ih =>
    intro k j
    cases j with
    | zero => rfl
    | succ j =>
      show (qfs s c (k + 1) ts)[j]? = _
      rw [ih, show k + 1 + j = k + (j + 1) by omega]
      rfl
theorem qfs_cg {s s' : QST} {c : Nat} (hx : qX s' = qX s) : ∀ (ts : List Nat) (k : Nat), (∀ j, k ≤ j → qF s' c j = qF s c j) → qfs s' c k ts = qfs s c k ts := by
  intro ts
  induction ts with
  | nil => intro k _; rfl
  | cons t ts ih =>
    intro k h
    unfold qfs
    rw [h k (Nat.le_refl _), hx, ih (k + 1) (fun j hj => h j (by omega))]
theorem qcel_cg {s s' : QST} {c : Nat} (hF : qF s' c = qF s c) (hE : qE s' c = qE s c) (hL : qL s' c = qL s c) (hT : qT s' c = qT s c) (hX : qX s' = qX s) : qcel s' c = qcel s c := by
  unfold qcel
  split
  · rw [hE]
  · rw [qfs_cg hX _ _ (fun j _ => by rw [hF])]
  · rfl
  · rw [hT]
  · rw [hL]
theorem qcel_0 {s : QST} {c n : Nat} {ts : List Nat} (h : qLY c (0, n, ts)) : qcel s c = .inl (0, n, .inl (qE s c)) := by
  unfold qcel; rw [h.2.2]; rfl
theorem qcel_1 {s : QST} {c ci : Nat} {ts : List Nat} (h : qLY c (1, ci, ts)) : qcel s c = .inr (ci, qfs s c 0 ts) := by
  unfold qcel; rw [h.2.2]; rfl
theorem qcel_2 {s : QST} {c ty : Nat} {ps : List Nat} (h : qLY c (2, ty, ps)) : qcel s c = .inl (ty, ps.getD 0 0, .inr (.inr (.inr (.inr (fun j => if j < ps.getD 0 0 then some (ps.getD 1 0 + ps.getD 2 0 * j) else none))))) := by
  unfold qcel; rw [h.2.2]; rfl
theorem qcel_3 {s : QST} {c n : Nat} {ts : List Nat} (h : qLY c (3, n, ts)) : qcel s c = .inl (3, n, .inr (.inr (.inr (.inr (qT s c))))) := by
  unfold qcel; rw [h.2.2]; rfl
theorem qcel_4 {s : QST} {c n : Nat} {ts : List Nat} (h : qLY c (4, n, ts)) : qcel s c = .inl (1, n, .inr (.inl (qL s c))) := by
  unfold qcel; rw [h.2.2]; rfl
theorem qhp_len {s : QST} : (qhp s).1.length = 196 + (qR s).length := by simp [qhp]
theorem qhp_cell {s : QST} {c : Nat} (h1 : 8 ≤ c) (h2 : c < 204) : pm_h (qhp s) c (qcel s c) := by
  refine ⟨h1, ?_⟩
  show ((List.range 196).map (fun j => qcel s (j + 8)) ++ qR s)[c - 8]? = _
  rw [List.getElem?_append_left (by simp; omega), List.getElem?_map, List.getElem?_range (by omega)]
  show some (qcel s (c - 8 + 8)) = _
  rw [show c - 8 + 8 = c by omega]
theorem qhp_rest {s : QST} {c : Nat} {e : va_E} (h1 : 204 ≤ c) (h2 : (qR s)[c - 204]? = some e) : pm_h (qhp s) c e := by
  refine ⟨by omega, ?_⟩
  show ((List.range 196).map (fun j => qcel s (j + 8)) ++ qR s)[c - 8]? = _
  rw [List.getElem?_append_right (by simp; omega)]
  simp only [List.length_map, List.length_range]
  rw [show c - 8 - 196 = c - 204 by omega]
  exact h2
/-- two heaps are one if they are so cell by cell -/
theorem qhp_ext {S : pm_S} {s : QST} (hl : S.1.length = 196 + (qR s).length) (hn : S.2 = qN s) (h1 : ∀ c, 8 ≤ c → c < 204 → pm_h S c (qcel s c)) (h2 : ∀ k e, (qR s)[k]? = some e → pm_h S (204 + k) e) : S = qhp s := by
  refine Prod.ext ?_ hn
  apply List.ext_getElem?
  intro i
  by_cases h : i < 196
  · have a := (h1 (i + 8) (by omega) (by omega)).2
    have b := (qhp_cell (s := s) (c := i + 8) (by omega) (by omega)).2
    rw [show i + 8 - 8 = i by omega] at a b
    rw [a, b]
  · by_cases h3 : i < 196 + (qR s).length
    · obtain ⟨e, he⟩ : ∃ e, (qR s)[i - 196]? = some e := ⟨_, List.getElem?_eq_getElem (by omega)⟩
      have a := (h2 (i - 196) e he).2
      have b := (qhp_rest (s := s) (c := 204 + (i - 196)) (by omega) (by rw [show 204 + (i - 196) - 204 = i - 196 by omega]; exact he)).2
      rw [show 204 + (i - 196) - 8 = i by omega] at a b
      rw [a, b]
    · rw [List.getElem?_eq_none (by omega), List.getElem?_eq_none (by rw [qhp_len]; omega)]
theorem qhp_put {s s' : QST} {c : Nat} (h1 : 8 ≤ c) (h2 : c < 204) (hc : ∀ c', c' ≠ c → qcel s' c' = qcel s c') (hR : qR s' = qR s) (hN : qN s' = qN s) : pm_put (qhp s) c (qcel s' c) = qhp s' := by
  refine qhp_ext ?_ ?_ ?_ ?_
  · rw [hR, ← qhp_len]; simp [pm_put]
  · rw [hN]; rfl
  · intro c' h3 h4
    by_cases e : c' = c
    · subst e; exact (qhp_cell h1 h2).eq
    · rw [hc c' e]; exact (qhp_cell h3 h4).ne e h1
  · intro k e he
    rw [hR] at he
    exact (qhp_rest (by omega) (by rw [show 204 + k - 204 = k by omega]; exact he)).ne (by omega) h1
theorem qhp_uA {s : QST} {c n : Nat} {ts : List Nat} (h : qLY c (0, n, ts)) (g : Nat → Int32) : pm_put (qhp s) c (.inl (0, n, .inl g)) = qhp (uA s c g) := by
  have e : (.inl (0, n, .inl g) : va_E) = qcel (uA s c g) c := by rw [qcel_0 h, qE_uAs]
  rw [e]
  exact qhp_put h.1 h.2.1 (fun c' hc => qcel_cg rfl (qE_uAc hc) rfl rfl rfl) rfl rfl
theorem qhp_uE {s : QST} {c n k : Nat} {ts : List Nat} {v : Int32} (h : qLY c (0, n, ts)) : pm_put (qhp s) c (.inl (0, n, .inl (upd (qE s c) k v))) = qhp (uE s c k v) := by
  rw [qhp_uA h, uE_uA]
theorem qhp_uL {s : QST} {c n k : Nat} {ts : List Nat} {v : Int64} (h : qLY c (4, n, ts)) : pm_put (qhp s) c (.inl (1, n, .inr (.inl (vp_updL (qL s c) k v)))) = qhp (uL s c k v) := by
  have e : (.inl (1, n, .inr (.inl (vp_updL (qL s c) k v))) : va_E) = qcel (uL s c k v) c := by
    rw [qcel_4 h]
    have : qL (uL s c k v) c = vp_updL (qL s c) k v := by
      funext j; simp [qL_uL, vp_updL]
    rw [this]
  rw [e]
  exact qhp_put h.1 h.2.1 (fun c' hc => qcel_cg rfl rfl (qL_uLc hc) rfl rfl) rfl rfl
theorem qhp_uT {s : QST} {c n k : Nat} {ts : List Nat} {v : Option Nat} (h : qLY c (3, n, ts)) : pm_put (qhp s) c (.inl (3, n, .inr (.inr (.inr (.inr (va_up (qT s c) k v)))))) = qhp (uT s c k v) := by
  have e : (.inl (3, n, .inr (.inr (.inr (.inr (va_up (qT s c) k v))))) : va_E) = qcel (uT s c k v) c := by
    rw [qcel_3 h]
    have : qT (uT s c k v) c = va_up (qT s c) k v := by
      funext j; simp [qT_uT, va_up]
    rw [this]
  rw [e]
  exact qhp_put h.1 h.2.1 (fun c' hc => qcel_cg rfl rfl rfl (qT_uTc hc) rfl) rfl rfl
theorem qfs_set {s : QST} {c : Nat} {v : Int32} : ∀ (ts : List Nat) (k j : Nat), ts[j]? = some 0 → (qfs s c k ts).set j (.int v) = qfs (uF s c (k + j) v) c k ts := by
  intro ts
  induction ts with
  | nil => intro k j h; cases h
  | cons t ts ih =>
    intro k j h
    cases j with
    | zero =>
      have ht : t = 0 := by simpa using h
      subst ht
      show Value.int v :: qfs s c (k + 1) ts = (if (0 : Nat) = 0 then Value.int (qF (uF s c k v) c k) else if (0 : Nat) = 1 then qX (uF s c k v) else .ref 0) :: qfs (uF s c k v) c (k + 1) ts
      rw [qF_uFs, if_pos rfl, qfs_cg (s := s) (s' := uF s c k v) rfl ts (k + 1) (fun j hj => qF_uFk (by omega))]
    | succ j =>
      have h' : ts[j]? = some 0 := by simpa using h
      unfold qfs
      rw [List.set_cons_succ, ih (k + 1) j h', show k + 1 + j = k + (j + 1) by omega, qF_uFk (by omega)]
      rfl
theorem qhp_uF {s : QST} {c ci k : Nat} {ts : List Nat} {v : Int32} (h : qLY c (1, ci, ts)) (hk : ts[k]? = some 0) : pm_put (qhp s) c (.inr (ci, (qfs s c 0 ts).set k (.int v))) = qhp (uF s c k v) := by
  have e : (.inr (ci, (qfs s c 0 ts).set k (.int v)) : va_E) = qcel (uF s c k v) c := by
    rw [qcel_1 h, qfs_set ts 0 k hk, Nat.zero_add]
  rw [e]
  exact qhp_put h.1 h.2.1 (fun c' hc => qcel_cg (qF_uFc hc) rfl rfl rfl rfl) rfl rfl
theorem qfs_setX {s : QST} {c : Nat} {v : Value} : (qfs s c 0 [1, 0, 0, 0, 0, 71, 72, 73]).set 0 v = qfs (uX s v) c 0 [1, 0, 0, 0, 0, 71, 72, 73] := rfl
set_option maxRecDepth 10000 in
theorem qLay_x : ∀ c, c < 204 → c ≠ 70 → ∀ t, t ∈ (qLay c).2.2 → t ≠ 1 ∨ (qLay c).1 ≠ 1 := by decide +kernel
theorem qfs_cX {s : QST} {c : Nat} {v : Value} : ∀ (ts : List Nat) (k : Nat), (∀ t, t ∈ ts → t ≠ 1) → qfs (uX s v) c k ts = qfs s c k ts := by
  intro ts
  induction ts with
  | nil => intro k _; rfl
  | cons t ts ih =>
    intro k h
    unfold qfs
    rw [ih (k + 1) (fun x hx => h x (List.mem_cons_of_mem _ hx)), qF_uX, if_neg (c := t = 1) (h t List.mem_cons_self), if_neg (c := t = 1) (h t List.mem_cons_self)]
theorem qhp_uX {s : QST} {v : Value} : pm_put (qhp s) 70 (.inr (6, (qfs s 70 0 [1, 0, 0, 0, 0, 71, 72, 73]).set 0 v)) = qhp (uX s v) := by
  have h : qLY 70 (1, 6, [1, 0, 0, 0, 0, 71, 72, 73]) := ⟨by decide, by decide, rfl⟩
  have e : (.inr (6, (qfs s 70 0 [1, 0, 0, 0, 0, 71, 72, 73]).set 0 v) : va_E) = qcel (uX s v) 70 := by
    rw [qcel_1 h, qfs_setX]
  rw [e]
  refine qhp_ext ?_ ?_ ?_ ?_
  · simp [pm_put, qhp, qR_uX]
  · rfl
  · intro c' h3 h4
    by_cases ec : c' = 70
    · subst ec; exact (qhp_cell (by decide) (by decide)).eq
    · have q : qcel (uX s v) c' = qcel s c' := by
        unfold qcel
        have hx := qLay_x c' h4 ec
        split
        · rfl
        · rename_i ci ts hts
          rw [qfs_cX]
          intro t ht
          have := hx t (by rw [hts]; exact ht)
          rw [hts] at this
          simpa using this
        · rfl
        · rfl
        · rfl
      rw [q]
      exact (qhp_cell h3 h4).ne ec (by decide)
  · intro k e he
    exact (qhp_rest (by omega) (by rw [show 204 + k - 204 = k by omega]; exact he)).ne (by omega) (by decide)
theorem ly_8 : qLY 8 (1, 9, [9, 39, 0, 69, 70, 74, 111, 115, 121]) := ⟨by decide, by decide, rfl⟩
theorem ly_9 : qLY 9 (1, 0, [0, 0, 0, 0, 10, 11]) := ⟨by decide, by decide, rfl⟩
theorem ly_10 : qLY 10 (2, 2, [9, 12, 3]) := ⟨by decide, by decide, rfl⟩
theorem ly_11 : qLY 11 (3, 12, []) := ⟨by decide, by decide, rfl⟩
theorem ly_12 : qLY 12 (1, 3, [0, 0, 0, 0, 0, 0, 13, 14]) := ⟨by decide, by decide, rfl⟩
theorem ly_13 : qLY 13 (0, 7, []) := ⟨by decide, by decide, rfl⟩
theorem ly_14 : qLY 14 (0, 7, []) := ⟨by decide, by decide, rfl⟩
theorem ly_15 : qLY 15 (1, 3, [0, 0, 0, 0, 0, 0, 16, 17]) := ⟨by decide, by decide, rfl⟩
theorem ly_16 : qLY 16 (0, 7, []) := ⟨by decide, by decide, rfl⟩
theorem ly_17 : qLY 17 (0, 7, []) := ⟨by decide, by decide, rfl⟩
theorem ly_18 : qLY 18 (1, 3, [0, 0, 0, 0, 0, 0, 19, 20]) := ⟨by decide, by decide, rfl⟩
theorem ly_19 : qLY 19 (0, 7, []) := ⟨by decide, by decide, rfl⟩
theorem ly_20 : qLY 20 (0, 7, []) := ⟨by decide, by decide, rfl⟩
theorem ly_21 : qLY 21 (1, 3, [0, 0, 0, 0, 0, 0, 22, 23]) := ⟨by decide, by decide, rfl⟩
theorem ly_22 : qLY 22 (0, 7, []) := ⟨by decide, by decide, rfl⟩
theorem ly_23 : qLY 23 (0, 7, []) := ⟨by decide, by decide, rfl⟩
theorem ly_24 : qLY 24 (1, 3, [0, 0, 0, 0, 0, 0, 25, 26]) := ⟨by decide, by decide, rfl⟩
theorem ly_25 : qLY 25 (0, 7, []) := ⟨by decide, by decide, rfl⟩
theorem ly_26 : qLY 26 (0, 7, []) := ⟨by decide, by decide, rfl⟩
theorem ly_27 : qLY 27 (1, 3, [0, 0, 0, 0, 0, 0, 28, 29]) := ⟨by decide, by decide, rfl⟩
theorem ly_28 : qLY 28 (0, 7, []) := ⟨by decide, by decide, rfl⟩
theorem ly_29 : qLY 29 (0, 7, []) := ⟨by decide, by decide, rfl⟩
theorem ly_30 : qLY 30 (1, 3, [0, 0, 0, 0, 0, 0, 31, 32]) := ⟨by decide, by decide, rfl⟩
theorem ly_31 : qLY 31 (0, 7, []) := ⟨by decide, by decide, rfl⟩
theorem ly_32 : qLY 32 (0, 7, []) := ⟨by decide, by decide, rfl⟩
theorem ly_33 : qLY 33 (1, 3, [0, 0, 0, 0, 0, 0, 34, 35]) := ⟨by decide, by decide, rfl⟩
theorem ly_34 : qLY 34 (0, 7, []) := ⟨by decide, by decide, rfl⟩
theorem ly_35 : qLY 35 (0, 7, []) := ⟨by decide, by decide, rfl⟩
theorem ly_36 : qLY 36 (1, 3, [0, 0, 0, 0, 0, 0, 37, 38]) := ⟨by decide, by decide, rfl⟩
theorem ly_37 : qLY 37 (0, 7, []) := ⟨by decide, by decide, rfl⟩
theorem ly_38 : qLY 38 (0, 7, []) := ⟨by decide, by decide, rfl⟩
theorem ly_39 : qLY 39 (1, 0, [0, 0, 0, 0, 40, 41]) := ⟨by decide, by decide, rfl⟩
theorem ly_40 : qLY 40 (2, 2, [9, 42, 3]) := ⟨by decide, by decide, rfl⟩
theorem ly_41 : qLY 41 (3, 12, []) := ⟨by decide, by decide, rfl⟩
theorem ly_42 : qLY 42 (1, 3, [0, 0, 0, 0, 0, 0, 43, 44]) := ⟨by decide, by decide, rfl⟩
theorem ly_43 : qLY 43 (0, 7, []) := ⟨by decide, by decide, rfl⟩
theorem ly_44 : qLY 44 (0, 7, []) := ⟨by decide, by decide, rfl⟩
theorem ly_45 : qLY 45 (1, 3, [0, 0, 0, 0, 0, 0, 46, 47]) := ⟨by decide, by decide, rfl⟩
theorem ly_46 : qLY 46 (0, 7, []) := ⟨by decide, by decide, rfl⟩
theorem ly_47 : qLY 47 (0, 7, []) := ⟨by decide, by decide, rfl⟩
theorem ly_48 : qLY 48 (1, 3, [0, 0, 0, 0, 0, 0, 49, 50]) := ⟨by decide, by decide, rfl⟩
theorem ly_49 : qLY 49 (0, 7, []) := ⟨by decide, by decide, rfl⟩
theorem ly_50 : qLY 50 (0, 7, []) := ⟨by decide, by decide, rfl⟩
theorem ly_51 : qLY 51 (1, 3, [0, 0, 0, 0, 0, 0, 52, 53]) := ⟨by decide, by decide, rfl⟩
theorem ly_52 : qLY 52 (0, 7, []) := ⟨by decide, by decide, rfl⟩
theorem ly_53 : qLY 53 (0, 7, []) := ⟨by decide, by decide, rfl⟩
theorem ly_54 : qLY 54 (1, 3, [0, 0, 0, 0, 0, 0, 55, 56]) := ⟨by decide, by decide, rfl⟩
theorem ly_55 : qLY 55 (0, 7, []) := ⟨by decide, by decide, rfl⟩
theorem ly_56 : qLY 56 (0, 7, []) := ⟨by decide, by decide, rfl⟩
theorem ly_57 : qLY 57 (1, 3, [0, 0, 0, 0, 0, 0, 58, 59]) := ⟨by decide, by decide, rfl⟩
theorem ly_58 : qLY 58 (0, 7, []) := ⟨by decide, by decide, rfl⟩
theorem ly_59 : qLY 59 (0, 7, []) := ⟨by decide, by decide, rfl⟩
theorem ly_60 : qLY 60 (1, 3, [0, 0, 0, 0, 0, 0, 61, 62]) := ⟨by decide, by decide, rfl⟩
theorem ly_61 : qLY 61 (0, 7, []) := ⟨by decide, by decide, rfl⟩
theorem ly_62 : qLY 62 (0, 7, []) := ⟨by decide, by decide, rfl⟩
theorem ly_63 : qLY 63 (1, 3, [0, 0, 0, 0, 0, 0, 64, 65]) := ⟨by decide, by decide, rfl⟩
theorem ly_64 : qLY 64 (0, 7, []) := ⟨by decide, by decide, rfl⟩
theorem ly_65 : qLY 65 (0, 7, []) := ⟨by decide, by decide, rfl⟩
theorem ly_66 : qLY 66 (1, 3, [0, 0, 0, 0, 0, 0, 67, 68]) := ⟨by decide, by decide, rfl⟩
theorem ly_67 : qLY 67 (0, 7, []) := ⟨by decide, by decide, rfl⟩
theorem ly_68 : qLY 68 (0, 7, []) := ⟨by decide, by decide, rfl⟩
theorem ly_69 : qLY 69 (2, 4, [8, 123, 5]) := ⟨by decide, by decide, rfl⟩
theorem ly_70 : qLY 70 (1, 6, [1, 0, 0, 0, 0, 71, 72, 73]) := ⟨by decide, by decide, rfl⟩
theorem ly_71 : qLY 71 (0, 120, []) := ⟨by decide, by decide, rfl⟩
theorem ly_72 : qLY 72 (0, 120, []) := ⟨by decide, by decide, rfl⟩
theorem ly_73 : qLY 73 (0, 120, []) := ⟨by decide, by decide, rfl⟩
theorem ly_74 : qLY 74 (1, 1, [0, 0, 0, 75, 76, 77, 78, 79, 80, 81, 82, 83]) := ⟨by decide, by decide, rfl⟩
theorem ly_75 : qLY 75 (2, 2, [9, 84, 3]) := ⟨by decide, by decide, rfl⟩
theorem ly_76 : qLY 76 (0, 64, []) := ⟨by decide, by decide, rfl⟩
theorem ly_77 : qLY 77 (0, 64, []) := ⟨by decide, by decide, rfl⟩
theorem ly_78 : qLY 78 (0, 64, []) := ⟨by decide, by decide, rfl⟩
theorem ly_79 : qLY 79 (0, 64, []) := ⟨by decide, by decide, rfl⟩
theorem ly_80 : qLY 80 (0, 64, []) := ⟨by decide, by decide, rfl⟩
theorem ly_81 : qLY 81 (0, 384, []) := ⟨by decide, by decide, rfl⟩
theorem ly_82 : qLY 82 (0, 3, []) := ⟨by decide, by decide, rfl⟩
theorem ly_83 : qLY 83 (0, 64, []) := ⟨by decide, by decide, rfl⟩
theorem ly_84 : qLY 84 (1, 3, [0, 0, 0, 0, 0, 0, 85, 86]) := ⟨by decide, by decide, rfl⟩
theorem ly_85 : qLY 85 (0, 7, []) := ⟨by decide, by decide, rfl⟩
theorem ly_86 : qLY 86 (0, 7, []) := ⟨by decide, by decide, rfl⟩
theorem ly_87 : qLY 87 (1, 3, [0, 0, 0, 0, 0, 0, 88, 89]) := ⟨by decide, by decide, rfl⟩
theorem ly_88 : qLY 88 (0, 7, []) := ⟨by decide, by decide, rfl⟩
theorem ly_89 : qLY 89 (0, 7, []) := ⟨by decide, by decide, rfl⟩
theorem ly_90 : qLY 90 (1, 3, [0, 0, 0, 0, 0, 0, 91, 92]) := ⟨by decide, by decide, rfl⟩
theorem ly_91 : qLY 91 (0, 7, []) := ⟨by decide, by decide, rfl⟩
theorem ly_92 : qLY 92 (0, 7, []) := ⟨by decide, by decide, rfl⟩
theorem ly_93 : qLY 93 (1, 3, [0, 0, 0, 0, 0, 0, 94, 95]) := ⟨by decide, by decide, rfl⟩
theorem ly_94 : qLY 94 (0, 7, []) := ⟨by decide, by decide, rfl⟩
theorem ly_95 : qLY 95 (0, 7, []) := ⟨by decide, by decide, rfl⟩
theorem ly_96 : qLY 96 (1, 3, [0, 0, 0, 0, 0, 0, 97, 98]) := ⟨by decide, by decide, rfl⟩
theorem ly_97 : qLY 97 (0, 7, []) := ⟨by decide, by decide, rfl⟩
theorem ly_98 : qLY 98 (0, 7, []) := ⟨by decide, by decide, rfl⟩
theorem ly_99 : qLY 99 (1, 3, [0, 0, 0, 0, 0, 0, 100, 101]) := ⟨by decide, by decide, rfl⟩
theorem ly_100 : qLY 100 (0, 7, []) := ⟨by decide, by decide, rfl⟩
theorem ly_101 : qLY 101 (0, 7, []) := ⟨by decide, by decide, rfl⟩
theorem ly_102 : qLY 102 (1, 3, [0, 0, 0, 0, 0, 0, 103, 104]) := ⟨by decide, by decide, rfl⟩
theorem ly_103 : qLY 103 (0, 7, []) := ⟨by decide, by decide, rfl⟩
theorem ly_104 : qLY 104 (0, 7, []) := ⟨by decide, by decide, rfl⟩
theorem ly_105 : qLY 105 (1, 3, [0, 0, 0, 0, 0, 0, 106, 107]) := ⟨by decide, by decide, rfl⟩
theorem ly_106 : qLY 106 (0, 7, []) := ⟨by decide, by decide, rfl⟩
theorem ly_107 : qLY 107 (0, 7, []) := ⟨by decide, by decide, rfl⟩
theorem ly_108 : qLY 108 (1, 3, [0, 0, 0, 0, 0, 0, 109, 110]) := ⟨by decide, by decide, rfl⟩
theorem ly_109 : qLY 109 (0, 7, []) := ⟨by decide, by decide, rfl⟩
theorem ly_110 : qLY 110 (0, 7, []) := ⟨by decide, by decide, rfl⟩
theorem ly_111 : qLY 111 (1, 4, [0, 0, 112, 113, 114]) := ⟨by decide, by decide, rfl⟩
theorem ly_112 : qLY 112 (0, 7, []) := ⟨by decide, by decide, rfl⟩
theorem ly_113 : qLY 113 (0, 7, []) := ⟨by decide, by decide, rfl⟩
theorem ly_114 : qLY 114 (0, 128, []) := ⟨by decide, by decide, rfl⟩
theorem ly_115 : qLY 115 (1, 5, [9, 74, 116, 117, 118, 119, 120, 0]) := ⟨by decide, by decide, rfl⟩
theorem ly_116 : qLY 116 (0, 6, []) := ⟨by decide, by decide, rfl⟩
theorem ly_117 : qLY 117 (0, 7, []) := ⟨by decide, by decide, rfl⟩
theorem ly_118 : qLY 118 (0, 7, []) := ⟨by decide, by decide, rfl⟩
theorem ly_119 : qLY 119 (0, 7, []) := ⟨by decide, by decide, rfl⟩
theorem ly_120 : qLY 120 (0, 7, []) := ⟨by decide, by decide, rfl⟩
theorem ly_121 : qLY 121 (1, 2, [74, 0, 0, 122]) := ⟨by decide, by decide, rfl⟩
theorem ly_122 : qLY 122 (0, 216, []) := ⟨by decide, by decide, rfl⟩
theorem ly_123 : qLY 123 (1, 7, [0, 0, 0, 124, 127]) := ⟨by decide, by decide, rfl⟩
theorem ly_124 : qLY 124 (1, 3, [0, 0, 0, 0, 0, 0, 125, 126]) := ⟨by decide, by decide, rfl⟩
theorem ly_125 : qLY 125 (0, 7, []) := ⟨by decide, by decide, rfl⟩
theorem ly_126 : qLY 126 (0, 7, []) := ⟨by decide, by decide, rfl⟩
theorem ly_127 : qLY 127 (0, 120, []) := ⟨by decide, by decide, rfl⟩
theorem ly_128 : qLY 128 (1, 7, [0, 0, 0, 129, 132]) := ⟨by decide, by decide, rfl⟩
theorem ly_129 : qLY 129 (1, 3, [0, 0, 0, 0, 0, 0, 130, 131]) := ⟨by decide, by decide, rfl⟩
theorem ly_130 : qLY 130 (0, 7, []) := ⟨by decide, by decide, rfl⟩
theorem ly_131 : qLY 131 (0, 7, []) := ⟨by decide, by decide, rfl⟩
theorem ly_132 : qLY 132 (0, 120, []) := ⟨by decide, by decide, rfl⟩
theorem ly_133 : qLY 133 (1, 7, [0, 0, 0, 134, 137]) := ⟨by decide, by decide, rfl⟩
theorem ly_134 : qLY 134 (1, 3, [0, 0, 0, 0, 0, 0, 135, 136]) := ⟨by decide, by decide, rfl⟩
theorem ly_135 : qLY 135 (0, 7, []) := ⟨by decide, by decide, rfl⟩
theorem ly_136 : qLY 136 (0, 7, []) := ⟨by decide, by decide, rfl⟩
theorem ly_137 : qLY 137 (0, 120, []) := ⟨by decide, by decide, rfl⟩
theorem ly_138 : qLY 138 (1, 7, [0, 0, 0, 139, 142]) := ⟨by decide, by decide, rfl⟩
theorem ly_139 : qLY 139 (1, 3, [0, 0, 0, 0, 0, 0, 140, 141]) := ⟨by decide, by decide, rfl⟩
theorem ly_140 : qLY 140 (0, 7, []) := ⟨by decide, by decide, rfl⟩
theorem ly_141 : qLY 141 (0, 7, []) := ⟨by decide, by decide, rfl⟩
theorem ly_142 : qLY 142 (0, 120, []) := ⟨by decide, by decide, rfl⟩
theorem ly_143 : qLY 143 (1, 7, [0, 0, 0, 144, 147]) := ⟨by decide, by decide, rfl⟩
theorem ly_144 : qLY 144 (1, 3, [0, 0, 0, 0, 0, 0, 145, 146]) := ⟨by decide, by decide, rfl⟩
theorem ly_145 : qLY 145 (0, 7, []) := ⟨by decide, by decide, rfl⟩
theorem ly_146 : qLY 146 (0, 7, []) := ⟨by decide, by decide, rfl⟩
theorem ly_147 : qLY 147 (0, 120, []) := ⟨by decide, by decide, rfl⟩
theorem ly_148 : qLY 148 (1, 7, [0, 0, 0, 149, 152]) := ⟨by decide, by decide, rfl⟩
theorem ly_149 : qLY 149 (1, 3, [0, 0, 0, 0, 0, 0, 150, 151]) := ⟨by decide, by decide, rfl⟩
theorem ly_150 : qLY 150 (0, 7, []) := ⟨by decide, by decide, rfl⟩
theorem ly_151 : qLY 151 (0, 7, []) := ⟨by decide, by decide, rfl⟩
theorem ly_152 : qLY 152 (0, 120, []) := ⟨by decide, by decide, rfl⟩
theorem ly_153 : qLY 153 (1, 7, [0, 0, 0, 154, 157]) := ⟨by decide, by decide, rfl⟩
theorem ly_154 : qLY 154 (1, 3, [0, 0, 0, 0, 0, 0, 155, 156]) := ⟨by decide, by decide, rfl⟩
theorem ly_155 : qLY 155 (0, 7, []) := ⟨by decide, by decide, rfl⟩
theorem ly_156 : qLY 156 (0, 7, []) := ⟨by decide, by decide, rfl⟩
theorem ly_157 : qLY 157 (0, 120, []) := ⟨by decide, by decide, rfl⟩
theorem ly_158 : qLY 158 (1, 7, [0, 0, 0, 159, 162]) := ⟨by decide, by decide, rfl⟩
theorem ly_159 : qLY 159 (1, 3, [0, 0, 0, 0, 0, 0, 160, 161]) := ⟨by decide, by decide, rfl⟩
theorem ly_160 : qLY 160 (0, 7, []) := ⟨by decide, by decide, rfl⟩
theorem ly_161 : qLY 161 (0, 7, []) := ⟨by decide, by decide, rfl⟩
theorem ly_162 : qLY 162 (0, 120, []) := ⟨by decide, by decide, rfl⟩
theorem ly_163 : qLY 163 (1, 10, [0, 164, 165, 0, 166, 167, 168, 169, 170, 171, 172, 0, 0, 0, 0, 0, 0, 173, 174, 175, 176, 177, 178, 179, 180, 181, 0, 0, 0, 0, 0, 0, 182, 0, 0, 0, 183, 184, 185, 186, 187, 188, 189, 190, 191, 0, 192, 193, 194, 195, 196, 197, 198, 199, 200, 201, 202]) := ⟨by decide, by decide, rfl⟩
theorem ly_164 : qLY 164 (0, 200, []) := ⟨by decide, by decide, rfl⟩
theorem ly_165 : qLY 165 (0, 200, []) := ⟨by decide, by decide, rfl⟩
theorem ly_166 : qLY 166 (0, 12, []) := ⟨by decide, by decide, rfl⟩
theorem ly_167 : qLY 167 (0, 12, []) := ⟨by decide, by decide, rfl⟩
theorem ly_168 : qLY 168 (0, 1200, []) := ⟨by decide, by decide, rfl⟩
theorem ly_169 : qLY 169 (0, 1200, []) := ⟨by decide, by decide, rfl⟩
theorem ly_170 : qLY 170 (0, 1200, []) := ⟨by decide, by decide, rfl⟩
theorem ly_171 : qLY 171 (0, 1200, []) := ⟨by decide, by decide, rfl⟩
theorem ly_172 : qLY 172 (0, 1200, []) := ⟨by decide, by decide, rfl⟩
theorem ly_173 : qLY 173 (0, 110, []) := ⟨by decide, by decide, rfl⟩
theorem ly_174 : qLY 174 (0, 110, []) := ⟨by decide, by decide, rfl⟩
theorem ly_175 : qLY 175 (0, 110, []) := ⟨by decide, by decide, rfl⟩
theorem ly_176 : qLY 176 (0, 110, []) := ⟨by decide, by decide, rfl⟩
theorem ly_177 : qLY 177 (0, 110, []) := ⟨by decide, by decide, rfl⟩
theorem ly_178 : qLY 178 (0, 6, []) := ⟨by decide, by decide, rfl⟩
theorem ly_179 : qLY 179 (0, 6, []) := ⟨by decide, by decide, rfl⟩
theorem ly_180 : qLY 180 (0, 6, []) := ⟨by decide, by decide, rfl⟩
theorem ly_181 : qLY 181 (0, 6, []) := ⟨by decide, by decide, rfl⟩
theorem ly_182 : qLY 182 (0, 7, []) := ⟨by decide, by decide, rfl⟩
theorem ly_183 : qLY 183 (0, 3, []) := ⟨by decide, by decide, rfl⟩
theorem ly_184 : qLY 184 (0, 110, []) := ⟨by decide, by decide, rfl⟩
theorem ly_185 : qLY 185 (0, 110, []) := ⟨by decide, by decide, rfl⟩
theorem ly_186 : qLY 186 (0, 110, []) := ⟨by decide, by decide, rfl⟩
theorem ly_187 : qLY 187 (0, 660, []) := ⟨by decide, by decide, rfl⟩
theorem ly_188 : qLY 188 (0, 110, []) := ⟨by decide, by decide, rfl⟩
theorem ly_189 : qLY 189 (0, 110, []) := ⟨by decide, by decide, rfl⟩
theorem ly_190 : qLY 190 (0, 110, []) := ⟨by decide, by decide, rfl⟩
theorem ly_191 : qLY 191 (0, 7, []) := ⟨by decide, by decide, rfl⟩
theorem ly_192 : qLY 192 (0, 56, []) := ⟨by decide, by decide, rfl⟩
theorem ly_193 : qLY 193 (0, 6, []) := ⟨by decide, by decide, rfl⟩
theorem ly_194 : qLY 194 (0, 7, []) := ⟨by decide, by decide, rfl⟩
theorem ly_195 : qLY 195 (0, 7, []) := ⟨by decide, by decide, rfl⟩
theorem ly_196 : qLY 196 (0, 8, []) := ⟨by decide, by decide, rfl⟩
theorem ly_197 : qLY 197 (0, 8, []) := ⟨by decide, by decide, rfl⟩
theorem ly_198 : qLY 198 (0, 8, []) := ⟨by decide, by decide, rfl⟩
theorem ly_199 : qLY 199 (0, 8, []) := ⟨by decide, by decide, rfl⟩
theorem ly_200 : qLY 200 (0, 8, []) := ⟨by decide, by decide, rfl⟩
theorem ly_201 : qLY 201 (4, 960, []) := ⟨by decide, by decide, rfl⟩
theorem ly_202 : qLY 202 (4, 120, []) := ⟨by decide, by decide, rfl⟩
theorem ly_203 : qLY 203 (4, 1, []) := ⟨by decide, by decide, rfl⟩
/-- a member's object, its wishes, its doubts -/
abbrev qMB (A : Nat) : Prop := qLY A (1, 3, [0, 0, 0, 0, 0, 0, A + 1, A + 2]) ∧ qLY (A + 1) (0, 7, []) ∧ qLY (A + 2) (0, 7, [])
theorem mb_now {m : Nat} (h : m < 9) : qMB (12 + 3 * m) := by
  rcases (show m = 0 ∨ m = 1 ∨ m = 2 ∨ m = 3 ∨ m = 4 ∨ m = 5 ∨ m = 6 ∨ m = 7 ∨ m = 8 by omega) with rfl | rfl | rfl | rfl | rfl | rfl | rfl | rfl | rfl
  · exact ⟨ly_12, ly_13, ly_14⟩
  · exact ⟨ly_15, ly_16, ly_17⟩
  · exact ⟨ly_18, ly_19, ly_20⟩
  · exact ⟨ly_21, ly_22, ly_23⟩
  · exact ⟨ly_24, ly_25, ly_26⟩
  · exact ⟨ly_27, ly_28, ly_29⟩
  · exact ⟨ly_30, ly_31, ly_32⟩
  · exact ⟨ly_33, ly_34, ly_35⟩
  · exact ⟨ly_36, ly_37, ly_38⟩
theorem mb_pic {m : Nat} (h : m < 9) : qMB (42 + 3 * m) := by
  rcases (show m = 0 ∨ m = 1 ∨ m = 2 ∨ m = 3 ∨ m = 4 ∨ m = 5 ∨ m = 6 ∨ m = 7 ∨ m = 8 by omega) with rfl | rfl | rfl | rfl | rfl | rfl | rfl | rfl | rfl
  · exact ⟨ly_42, ly_43, ly_44⟩
  · exact ⟨ly_45, ly_46, ly_47⟩
  · exact ⟨ly_48, ly_49, ly_50⟩
  · exact ⟨ly_51, ly_52, ly_53⟩
  · exact ⟨ly_54, ly_55, ly_56⟩
  · exact ⟨ly_57, ly_58, ly_59⟩
  · exact ⟨ly_60, ly_61, ly_62⟩
  · exact ⟨ly_63, ly_64, ly_65⟩
  · exact ⟨ly_66, ly_67, ly_68⟩
theorem mb_seat {m : Nat} (h : m < 9) : qMB (84 + 3 * m) := by
  rcases (show m = 0 ∨ m = 1 ∨ m = 2 ∨ m = 3 ∨ m = 4 ∨ m = 5 ∨ m = 6 ∨ m = 7 ∨ m = 8 by omega) with rfl | rfl | rfl | rfl | rfl | rfl | rfl | rfl | rfl
  · exact ⟨ly_84, ly_85, ly_86⟩
  · exact ⟨ly_87, ly_88, ly_89⟩
  · exact ⟨ly_90, ly_91, ly_92⟩
  · exact ⟨ly_93, ly_94, ly_95⟩
  · exact ⟨ly_96, ly_97, ly_98⟩
  · exact ⟨ly_99, ly_100, ly_101⟩
  · exact ⟨ly_102, ly_103, ly_104⟩
  · exact ⟨ly_105, ly_106, ly_107⟩
  · exact ⟨ly_108, ly_109, ly_110⟩
theorem ly_sh {d : Nat} (h : d < 8) : qLY (123 + 5 * d) (1, 7, [0, 0, 0, 123 + 5 * d + 1, 123 + 5 * d + 4]) := by
  rcases (show d = 0 ∨ d = 1 ∨ d = 2 ∨ d = 3 ∨ d = 4 ∨ d = 5 ∨ d = 6 ∨ d = 7 by omega) with rfl | rfl | rfl | rfl | rfl | rfl | rfl | rfl
  · exact ly_123
  · exact ly_128
  · exact ly_133
  · exact ly_138
  · exact ly_143
  · exact ly_148
  · exact ly_153
  · exact ly_158
theorem ly_shc {d : Nat} (h : d < 8) : qLY (123 + 5 * d + 4) (0, 120, []) := by
  rcases (show d = 0 ∨ d = 1 ∨ d = 2 ∨ d = 3 ∨ d = 4 ∨ d = 5 ∨ d = 6 ∨ d = 7 by omega) with rfl | rfl | rfl | rfl | rfl | rfl | rfl | rfl
  · exact ly_127
  · exact ly_132
  · exact ly_137
  · exact ly_142
  · exact ly_147
  · exact ly_152
  · exact ly_157
  · exact ly_162
theorem mb_sh {d : Nat} (h : d < 8) : qMB (123 + 5 * d + 1) := by
  rcases (show d = 0 ∨ d = 1 ∨ d = 2 ∨ d = 3 ∨ d = 4 ∨ d = 5 ∨ d = 6 ∨ d = 7 by omega) with rfl | rfl | rfl | rfl | rfl | rfl | rfl | rfl
  · exact ⟨ly_124, ly_125, ly_126⟩
  · exact ⟨ly_129, ly_130, ly_131⟩
  · exact ⟨ly_134, ly_135, ly_136⟩
  · exact ⟨ly_139, ly_140, ly_141⟩
  · exact ⟨ly_144, ly_145, ly_146⟩
  · exact ⟨ly_149, ly_150, ly_151⟩
  · exact ⟨ly_154, ly_155, ly_156⟩
  · exact ⟨ly_159, ly_160, ly_161⟩
theorem ly_ma {k : Nat} (h : k < 37) : qLY (164 + k) (0, msz k, []) := by
  rcases (show k = 0 ∨ k = 1 ∨ k = 2 ∨ k = 3 ∨ k = 4 ∨ k = 5 ∨ k = 6 ∨ k = 7 ∨ k = 8 ∨ k = 9 ∨ k = 10 ∨ k = 11 ∨ k = 12 ∨ k = 13 ∨ k = 14 ∨ k = 15 ∨ k = 16 ∨ k = 17 ∨ k = 18 ∨ k = 19 ∨ k = 20 ∨ k = 21 ∨ k = 22 ∨ k = 23 ∨ k = 24 ∨ k = 25 ∨ k = 26 ∨ k = 27 ∨ k = 28 ∨ k = 29 ∨ k = 30 ∨ k = 31 ∨ k = 32 ∨ k = 33 ∨ k = 34 ∨ k = 35 ∨ k = 36 by omega) with rfl | rfl | rfl | rfl | rfl | rfl | rfl | rfl | rfl | rfl | rfl | rfl | rfl | rfl | rfl | rfl | rfl | rfl | rfl | rfl | rfl | rfl | rfl | rfl | rfl | rfl | rfl | rfl | rfl | rfl | rfl | rfl | rfl | rfl | rfl | rfl | rfl
  · exact ly_164
  · exact ly_165
  · exact ly_166
  · exact ly_167
  · exact ly_168
  · exact ly_169
  · exact ly_170
  · exact ly_171
  · exact ly_172
  · exact ly_173
  · exact ly_174
  · exact ly_175
  · exact ly_176
  · exact ly_177
  · exact ly_178
  · exact ly_179
  · exact ly_180
  · exact ly_181
  · exact ly_182
  · exact ly_183
  · exact ly_184
  · exact ly_185
  · exact ly_186
  · exact ly_187
  · exact ly_188
  · exact ly_189
  · exact ly_190
  · exact ly_191
  · exact ly_192
  · exact ly_193
  · exact ly_194
  · exact ly_195
  · exact ly_196
  · exact ly_197
  · exact ly_198
  · exact ly_199
  · exact ly_200
end
section
/-! printed by wip/whole/mkqv.py: rules that run a block over the heap as a function of numbers, with a post-condition -/
abbrev QPost : Type := Option Value → QST → Prop
def qP (X : pm_X) (PR : pm_P) (d mid : Nat) (as : List Value) (s : QST) (Q : QPost) : Prop := ∃ v s', pm_run X pm_Ms PR d mid as (qhp s) = some (v, qhp s') ∧ Q v s'
def qW (X : pm_X) (PR : pm_P) (d : Nat) (ret : Option FieldType) (code : List (Nat × List Instr)) (b : Nat) (L : List (Option Value)) (st : List Value) (s : QST) (Q : QPost) : Prop := ∃ v s', pm_to X pm_Ms (pm_run X pm_Ms PR d) ret code b (L, st, qhp s) (v, qhp s') ∧ Q v s'
def qV (X : pm_X) (PR : pm_P) (d : Nat) (ret : Option FieldType) (code : List (Nat × List Instr)) (b : Nat) (is : List Instr) (L : List (Option Value)) (st : List Value) (s : QST) (Q : QPost) : Prop := ∃ v s', pm_E X pm_Ms (pm_run X pm_Ms PR d) ret code b is (L, st, qhp s) (v, qhp s') ∧ Q v s'
theorem qP.mono {X : pm_X} {PR : pm_P} {d mid : Nat} {as : List Value} {s : QST} {Q Q' : QPost} (h : qP X PR d mid as s Q) (hq : ∀ v s', Q v s' → Q' v s') : qP X PR d mid as s Q' := by
  obtain ⟨v, s', h1, h2⟩ := h
  exact ⟨v, s', h1, hq _ _ h2⟩
theorem qP.eq {X : pm_X} {PR : pm_P} {d mid : Nat} {as : List Value} {s : QST} {r : Option Value} (h : pm_run X pm_Ms PR d mid as (qhp s) = some (r, qhp s)) : qP X PR d mid as s (fun v s' => v = r ∧ s' = s) := ⟨r, s, h, rfl, rfl⟩
theorem qP.run {X : pm_X} {PR : pm_P} {d mid : Nat} {as : List Value} {s : QST} {r : Option Value} (h : qP X PR d mid as s (fun v s' => v = r ∧ s' = s)) : pm_run X pm_Ms PR d mid as (qhp s) = some (r, qhp s) := by
  obtain ⟨v, s', h1, rfl, rfl⟩ := h
  exact h1
theorem qP.of {X : pm_X} {PR : pm_P} {d mid : Nat} {mm : pm_M} {as : List Value} {s : QST} {Q : QPost} {L : List (Option Value)} (hd : 1 ≤ d) (hP : PR mid = none) (hM : pm_Ms[mid]? = some mm) (hL : pm_ent mm.1.2.2.1 as = some L) (h : qW X PR (d - 1) mm.1.2.2.2 mm.2.2 0 L [] s Q) : qP X PR d mid as s Q := by
  obtain ⟨v, s', h1, h2⟩ := h
  exact ⟨v, s', pm_run_of hd hP hM hL h1, h2⟩
theorem qLY.rcv {c ci : Nat} {ts : List Nat} (h : qLY c (1, ci, ts)) (s : QST) : ∃ fs, pm_h (qhp s) c (.inr (ci, fs)) := ⟨_, by rw [← qcel_1 h]; exact qhp_cell h.1 h.2.1⟩
theorem qLY.a {c n : Nat} {ts : List Nat} (h : qLY c (0, n, ts)) (s : QST) : pm_h (qhp s) c (.inl (0, n, .inl (qE s c))) := by rw [← qcel_0 h]; exact qhp_cell h.1 h.2.1
theorem qLY.o {c ci : Nat} {ts : List Nat} (h : qLY c (1, ci, ts)) (s : QST) : pm_h (qhp s) c (.inr (ci, qfs s c 0 ts)) := by rw [← qcel_1 h]; exact qhp_cell h.1 h.2.1
theorem qLY.r {c ty : Nat} {ps : List Nat} (h : qLY c (2, ty, ps)) (s : QST) : pm_h (qhp s) c (.inl (ty, ps.getD 0 0, .inr (.inr (.inr (.inr (fun j => if j < ps.getD 0 0 then some (ps.getD 1 0 + ps.getD 2 0 * j) else none)))))) := by rw [← qcel_2 h]; exact qhp_cell h.1 h.2.1
theorem qLY.t {c n : Nat} {ts : List Nat} (h : qLY c (3, n, ts)) (s : QST) : pm_h (qhp s) c (.inl (3, n, .inr (.inr (.inr (.inr (qT s c)))))) := by rw [← qcel_3 h]; exact qhp_cell h.1 h.2.1
theorem qLY.l {c n : Nat} {ts : List Nat} (h : qLY c (4, n, ts)) (s : QST) : pm_h (qhp s) c (.inl (1, n, .inr (.inl (qL s c)))) := by rw [← qcel_4 h]; exact qhp_cell h.1 h.2.1
/-- a TREE's object and rows, behind -/
def qTR (R : List va_E) (A K : Nat) (w sc p : Nat → Int32) (q sd ask : Int32) : Prop := 204 ≤ A ∧ R[A - 204]? = some (.inr (8, [.int (nI K), .ref (A + 1), .ref (A + 2), .ref (A + 3), .int q, .int sd, .int ask])) ∧ R[A + 1 - 204]? = some (.inl (0, K, .inl w)) ∧ R[A + 2 - 204]? = some (.inl (0, K, .inl sc)) ∧ R[A + 3 - 204]? = some (.inl (0, K, .inl p))
theorem qTR.o {R : List va_E} {A K : Nat} {w sc p : Nat → Int32} {q sd ask : Int32} (h : qTR R A K w sc p q sd ask) {s : QST} (hR : qR s = R) : pm_h (qhp s) A (.inr (8, [.int (nI K), .ref (A + 1), .ref (A + 2), .ref (A + 3), .int q, .int sd, .int ask])) := qhp_rest h.1 (by rw [hR]; exact h.2.1)
theorem qTR.a1 {R : List va_E} {A K : Nat} {w sc p : Nat → Int32} {q sd ask : Int32} (h : qTR R A K w sc p q sd ask) {s : QST} (hR : qR s = R) : pm_h (qhp s) (A + 1) (.inl (0, K, .inl w)) := qhp_rest (by have := h.1; omega) (by rw [hR]; exact h.2.2.1)
theorem qTR.a2 {R : List va_E} {A K : Nat} {w sc p : Nat → Int32} {q sd ask : Int32} (h : qTR R A K w sc p q sd ask) {s : QST} (hR : qR s = R) : pm_h (qhp s) (A + 2) (.inl (0, K, .inl sc)) := qhp_rest (by have := h.1; omega) (by rw [hR]; exact h.2.2.2.1)
theorem qTR.a3 {R : List va_E} {A K : Nat} {w sc p : Nat → Int32} {q sd ask : Int32} (h : qTR R A K w sc p q sd ask) {s : QST} (hR : qR s = R) : pm_h (qhp s) (A + 3) (.inl (0, K, .inl p)) := qhp_rest (by have := h.1; omega) (by rw [hR]; exact h.2.2.2.2)
theorem qTR.rcv {R : List va_E} {A K : Nat} {w sc p : Nat → Int32} {q sd ask : Int32} (h : qTR R A K w sc p q sd ask) {s : QST} (hR : qR s = R) : ∃ fs, pm_h (qhp s) A (.inr (8, fs)) := ⟨_, h.o hR⟩
section
variable {X : pm_X} {PR : pm_P} {d : Nat} {ret : Option FieldType} {code : List (Nat × List Instr)} {b : Nat} {is is' : List Instr} {L L' : List (Option Value)} {st st' : List Value} {s s' : QST} {Q : QPost}
theorem qV.of (h : ∀ t, pm_E X pm_Ms (pm_run X pm_Ms PR d) ret code b is' (L', st', qhp s') t → pm_E X pm_Ms (pm_run X pm_Ms PR d) ret code b is (L, st, qhp s) t) (k : qV X PR d ret code b is' L' st' s' Q) : qV X PR d ret code b is L st s Q := by
  obtain ⟨v, s2, h1, h2⟩ := k
  exact ⟨v, s2, h _ h1, h2⟩
theorem qV.ofW {nx : Nat} (h : ∀ t, pm_to X pm_Ms (pm_run X pm_Ms PR d) ret code nx (L', st', qhp s') t → pm_E X pm_Ms (pm_run X pm_Ms PR d) ret code b is (L, st, qhp s) t) (k : qW X PR d ret code nx L' st' s' Q) : qV X PR d ret code b is L st s Q := by
  obtain ⟨v, s2, h1, h2⟩ := k
  exact ⟨v, s2, h _ h1, h2⟩
theorem qW.blk {pc : Nat} {ops : List Instr} (hb : code[b]? = some (pc, ops)) (h : qV X PR d ret code b ops L st s Q) : qW X PR d ret code b L st s Q := by
  obtain ⟨v, s', h1, h2⟩ := h
  exact ⟨v, s', pm_to.blk hb h1, h2⟩
theorem qW.mono {Q' : QPost} (h : qW X PR d ret code b L st s Q) (hq : ∀ v s', Q v s' → Q' v s') : qW X PR d ret code b L st s Q' := by
  obtain ⟨v, s', h1, h2⟩ := h
  exact ⟨v, s', h1, hq _ _ h2⟩
theorem qv_top {x y : Int32} (h : x = y) (k : qV X PR d ret code b is L (.int y :: st) s Q) : qV X PR d ret code b is L (.int x :: st) s Q := by
  subst h; exact k
theorem qv_sec {x y : Int32} {v : Value} (h : x = y) (k : qV X PR d ret code b is L (v :: .int y :: st) s Q) : qV X PR d ret code b is L (v :: .int x :: st) s Q := by
  subst h; exact k
theorem qv_nil {nx : Nat} (hn : b + 1 = nx) (k : qW X PR d ret code nx L st s Q) : qV X PR d ret code b [] L st s Q := qV.ofW (fun _ h => pe_nil hn h) k
theorem qv_goto {tt : Int} {tgt : Nat} (ht : tt.toNat = tgt) (k : qW X PR d ret code tgt L st s Q) : qV X PR d ret code b (.goto tt :: is) L st s Q := qV.ofW (fun _ h => pe_goto ht h) k
theorem qv_iconst {n : Int} {v : Int32} (hv : Int32.ofInt n = v) (k : qV X PR d ret code b is L (.int v :: st) s Q) : qV X PR d ret code b (.iconst n :: is) L (st) s Q := qV.of (fun _ z => pe_iconst hv z) k
theorem qv_lconst {n : Int} {v : Int64} (hv : Int64.ofInt n = v) (k : qV X PR d ret code b is L (.long v :: st) s Q) : qV X PR d ret code b (.goto_w n :: is) L (st) s Q := qV.of (fun _ z => pe_lconst hv z) k
theorem qv_null   (k : qV X PR d ret code b is L (.null :: st) s Q) : qV X PR d ret code b (.aconst_null :: is) L (st) s Q := qV.of (fun _ z => pe_null  z) k
theorem qv_gets {n : Nat}  (k : qV X PR d ret code b is L (.ref n :: st) s Q) : qV X PR d ret code b (.getstatic n :: is) L (st) s Q := qV.of (fun _ z => pe_gets  z) k
theorem qv_iload {i : Nat} {x : Int32} (h : pm_ld L i = some (.int x)) (k : qV X PR d ret code b is L (.int x :: st) s Q) : qV X PR d ret code b (.iload i :: is) L (st) s Q := qV.of (fun _ z => pe_iload h z) k
theorem qv_lload {i : Nat} {x : Int64} (h : pm_ld L i = some (.long x)) (k : qV X PR d ret code b is L (.long x :: st) s Q) : qV X PR d ret code b (.lload i :: is) L (st) s Q := qV.of (fun _ z => pe_lload h z) k
theorem qv_aload {i a : Nat} (h : pm_ld L i = some (.ref a)) (k : qV X PR d ret code b is L (.ref a :: st) s Q) : qV X PR d ret code b (.aload i :: is) L (st) s Q := qV.of (fun _ z => pe_aload h z) k
theorem qv_aloadN {i : Nat} (h : pm_ld L i = some .null) (k : qV X PR d ret code b is L (.null :: st) s Q) : qV X PR d ret code b (.aload i :: is) L (st) s Q := qV.of (fun _ z => pe_aloadN h z) k
theorem qv_istore {i : Nat} {x : Int32} (h : pm_st L i (.int x) = some L') (k : qV X PR d ret code b is L' (st) s Q) : qV X PR d ret code b (.istore i :: is) L (.int x :: st) s Q := qV.of (fun _ z => pe_istore h z) k
theorem qv_lstore {i : Nat} {x : Int64} (h : pm_st L i (.long x) = some L') (k : qV X PR d ret code b is L' (st) s Q) : qV X PR d ret code b (.lstore i :: is) L (.long x :: st) s Q := qV.of (fun _ z => pe_lstore h z) k
theorem qv_astore {i a : Nat} (h : pm_st L i (.ref a) = some L') (k : qV X PR d ret code b is L' (st) s Q) : qV X PR d ret code b (.astore i :: is) L (.ref a :: st) s Q := qV.of (fun _ z => pe_astore h z) k
theorem qv_astoreN {i : Nat} (h : pm_st L i .null = some L') (k : qV X PR d ret code b is L' (st) s Q) : qV X PR d ret code b (.astore i :: is) L (.null :: st) s Q := qV.of (fun _ z => pe_astoreN h z) k
theorem qv_iinc {i : Nat} {n : Int} {x v : Int32} (h : pm_ld L i = some (.int x)) (hv : x + Int32.ofInt n = v) (h2 : pm_st L i (.int v) = some L') (k : qV X PR d ret code b is L' (st) s Q) : qV X PR d ret code b (.iinc i n :: is) L (st) s Q := qV.of (fun _ z => pe_iinc h hv h2 z) k
theorem qv_iadd {x y : Int32}  (k : qV X PR d ret code b is L (.int (x + y) :: st) s Q) : qV X PR d ret code b (.iadd :: is) L (.int y :: .int x :: st) s Q := qV.of (fun _ z => pe_iadd  z) k
theorem qv_isub {x y : Int32}  (k : qV X PR d ret code b is L (.int (x - y) :: st) s Q) : qV X PR d ret code b (.isub :: is) L (.int y :: .int x :: st) s Q := qV.of (fun _ z => pe_isub  z) k
theorem qv_imul {x y : Int32}  (k : qV X PR d ret code b is L (.int (x * y) :: st) s Q) : qV X PR d ret code b (.imul :: is) L (.int y :: .int x :: st) s Q := qV.of (fun _ z => pe_imul  z) k
theorem qv_iand {x y : Int32}  (k : qV X PR d ret code b is L (.int (x &&& y) :: st) s Q) : qV X PR d ret code b (.iand :: is) L (.int y :: .int x :: st) s Q := qV.of (fun _ z => pe_iand  z) k
theorem qv_ior {x y : Int32}  (k : qV X PR d ret code b is L (.int (x ||| y) :: st) s Q) : qV X PR d ret code b (.ior :: is) L (.int y :: .int x :: st) s Q := qV.of (fun _ z => pe_ior  z) k
theorem qv_ixor {x y : Int32}  (k : qV X PR d ret code b is L (.int (x ^^^ y) :: st) s Q) : qV X PR d ret code b (.ixor :: is) L (.int y :: .int x :: st) s Q := qV.of (fun _ z => pe_ixor  z) k
theorem qv_ishl {x y : Int32}  (k : qV X PR d ret code b is L (.int (x <<< (y &&& 31)) :: st) s Q) : qV X PR d ret code b (.ishl :: is) L (.int y :: .int x :: st) s Q := qV.of (fun _ z => pe_ishl  z) k
theorem qv_ishr {x y : Int32}  (k : qV X PR d ret code b is L (.int (x >>> (y &&& 31)) :: st) s Q) : qV X PR d ret code b (.ishr :: is) L (.int y :: .int x :: st) s Q := qV.of (fun _ z => pe_ishr  z) k
theorem qv_iushr {x y : Int32}  (k : qV X PR d ret code b is L (.int ((x.toUInt32 >>> (y.toUInt32 &&& Int32.toUInt32 31)).toInt32) :: st) s Q) : qV X PR d ret code b (.iushr :: is) L (.int y :: .int x :: st) s Q := qV.of (fun _ z => pe_iushr  z) k
theorem qv_iaddN {x y : Int32} {p q : Nat} (hx : x = nI p) (hy : y = nI q) (k : qV X PR d ret code b is L (.int (nI (p + q)) :: st) s Q) : qV X PR d ret code b (.iadd :: is) L (.int y :: .int x :: st) s Q := by
  subst hx; subst hy
  exact qv_iadd (by rw [nI_add]; exact k)
theorem qv_imulN {x y : Int32} {p q : Nat} (hx : x = nI p) (hy : y = nI q) (k : qV X PR d ret code b is L (.int (nI (p * q)) :: st) s Q) : qV X PR d ret code b (.imul :: is) L (.int y :: .int x :: st) s Q := by
  subst hx; subst hy
  exact qv_imul (by rw [pk_mul]; exact k)
theorem qv_isubN {x y : Int32} {p q : Nat} (hx : x = nI p) (hy : y = nI q) (hle : q ≤ p) (k : qV X PR d ret code b is L (.int (nI (p - q)) :: st) s Q) : qV X PR d ret code b (.isub :: is) L (.int y :: .int x :: st) s Q := by
  subst hx; subst hy
  exact qv_isub (by rw [pk_sub hle]; exact k)
theorem qv_idiv {x y : Int32} (h : ¬ y = 0) (k : qV X PR d ret code b is L (.int (x / y) :: st) s Q) : qV X PR d ret code b (.idiv :: is) L (.int y :: .int x :: st) s Q := qV.of (fun _ z => pe_idiv h z) k
theorem qv_irem {x y : Int32} (h : ¬ y = 0) (k : qV X PR d ret code b is L (.int (x - x / y * y) :: st) s Q) : qV X PR d ret code b (.irem :: is) L (.int y :: .int x :: st) s Q := qV.of (fun _ z => pe_irem h z) k
theorem qv_idivN {x y : Int32} {p q : Nat} (hx : x = nI p) (hy : y = nI q) (hp : p < 2 ^ 31) (h0 : 0 < q) (hq : q < 2 ^ 31) (k : qV X PR d ret code b is L (.int (nI (p / q)) :: st) s Q) : qV X PR d ret code b (.idiv :: is) L (.int y :: .int x :: st) s Q := by
  subst hx; subst hy
  exact qv_idiv (nI_ne0 h0 hq) (by rw [pk_div hp h0 hq]; exact k)
theorem qv_iremN {x y : Int32} {p q : Nat} (hx : x = nI p) (hy : y = nI q) (hp : p < 2 ^ 31) (h0 : 0 < q) (hq : q < 2 ^ 31) (k : qV X PR d ret code b is L (.int (nI (p % q)) :: st) s Q) : qV X PR d ret code b (.irem :: is) L (.int y :: .int x :: st) s Q := by
  subst hx; subst hy
  exact qv_irem (nI_ne0 h0 hq) (by rw [pk_rem hp h0 hq]; exact k)
theorem qv_ineg {x : Int32}  (k : qV X PR d ret code b is L (.int (-x) :: st) s Q) : qV X PR d ret code b (.ineg :: is) L (.int x :: st) s Q := qV.of (fun _ z => pe_ineg  z) k
theorem qv_i2l {x : Int32}  (k : qV X PR d ret code b is L (.long x.toInt64 :: st) s Q) : qV X PR d ret code b (.i2l :: is) L (.int x :: st) s Q := qV.of (fun _ z => pe_i2l  z) k
theorem qv_i2b {x : Int32}  (k : qV X PR d ret code b is L (.int x.toInt8.toInt32 :: st) s Q) : qV X PR d ret code b (.i2b :: is) L (.int x :: st) s Q := qV.of (fun _ z => pe_i2b  z) k
theorem qv_i2s {x : Int32}  (k : qV X PR d ret code b is L (.int x.toInt16.toInt32 :: st) s Q) : qV X PR d ret code b (.i2s :: is) L (.int x :: st) s Q := qV.of (fun _ z => pe_i2s  z) k
theorem qv_l2i {x : Int64}  (k : qV X PR d ret code b is L (.int x.toInt32 :: st) s Q) : qV X PR d ret code b (.l2i :: is) L (.long x :: st) s Q := qV.of (fun _ z => pe_l2i  z) k
theorem qv_ladd {x y : Int64}  (k : qV X PR d ret code b is L (.long (x + y) :: st) s Q) : qV X PR d ret code b (.ladd :: is) L (.long y :: .long x :: st) s Q := qV.of (fun _ z => pe_ladd  z) k
theorem qv_lmul {x y : Int64}  (k : qV X PR d ret code b is L (.long (x * y) :: st) s Q) : qV X PR d ret code b (.lmul :: is) L (.long y :: .long x :: st) s Q := qV.of (fun _ z => pe_lmul  z) k
theorem qv_lcmp {x y : Int64}  (k : qV X PR d ret code b is L (.int (lg_cmp x y) :: st) s Q) : qV X PR d ret code b (.lcmp :: is) L (.long y :: .long x :: st) s Q := qV.of (fun _ z => pe_lcmp  z) k
theorem qv_dup {v : Value} (h : v.category = 1) (k : qV X PR d ret code b is L (v :: v :: st) s Q) : qV X PR d ret code b (.dup :: is) L (v :: st) s Q := qV.of (fun _ z => pe_dup h z) k
theorem qv_dup2 {v w : Value} (h : v.category = 1) (h2 : w.category = 1) (k : qV X PR d ret code b is L (v :: w :: v :: w :: st) s Q) : qV X PR d ret code b (.dup2 :: is) L (v :: w :: st) s Q := qV.of (fun _ z => pe_dup2 h h2 z) k
theorem qv_pop {v : Value} (h : v.category = 1) (k : qV X PR d ret code b is L (st) s Q) : qV X PR d ret code b (.pop :: is) L (v :: st) s Q := qV.of (fun _ z => pe_pop h z) k
theorem qv_pop2 {x : Int64}  (k : qV X PR d ret code b is L (st) s Q) : qV X PR d ret code b (.pop2 :: is) L (.long x :: st) s Q := qV.of (fun _ z => pe_pop2  z) k
theorem qv_max {x y : Int32} (h : (st.map fun v => v.category).sum ≤ 8) (k : qV X PR d ret code b is L (.int (if x < y then y else x) :: st) s Q) : qV X PR d ret code b (.dup_x1 :: is) L (.int y :: .int x :: st) s Q := qV.of (fun _ z => pe_max h z) k
theorem qv_min {x y : Int32} (h : (st.map fun v => v.category).sum ≤ 8) (k : qV X PR d ret code b is L (.int (if y < x then y else x) :: st) s Q) : qV X PR d ret code b (.dup_x2 :: is) L (.int y :: .int x :: st) s Q := qV.of (fun _ z => pe_min h z) k
theorem qv_oini {a : Nat} (h : (st.map fun v => v.category).sum ≤ 8) (k : qV X PR d ret code b is L (st) s Q) : qV X PR d ret code b (.monitorenter :: is) L (.ref a :: st) s Q := qV.of (fun _ z => pe_oini h z) k
theorem qv_gh {a ci n : Nat} {fs : List Value} {v : Value} (h : pm_h (qhp s) a (.inr (ci, fs))) (hc : ci = n / 64) (hv : fs[n % 64]? = some v) (k : qV X PR d ret code b is L (v :: st) s Q) : qV X PR d ret code b (.getfield n :: is) L (.ref a :: st) s Q := qV.of (fun _ z => pe_getf h hc hv z) k
theorem qv_gi {c ci n kf : Nat} {ts : List Nat} {v : Int32} (hl : qLY c (1, ci, ts)) (hn : ci = n / 64 ∧ n % 64 = kf ∧ ts[kf]? = some 0) (hv : qF s c kf = v) (k : qV X PR d ret code b is L (.int v :: st) s Q) : qV X PR d ret code b (.getfield n :: is) L (.ref c :: st) s Q := by
  obtain ⟨h1, h2, h3⟩ := hn
  refine qv_gh (hl.o s) h1 ?_ k
  rw [h2, qfs_get, h3, ← hv, Nat.zero_add]
  rfl
theorem qv_gr {c ci n kf r : Nat} {ts : List Nat} (hl : qLY c (1, ci, ts)) (hn : ci = n / 64 ∧ n % 64 = kf ∧ ts[kf]? = some r) (hr : 2 ≤ r) (k : qV X PR d ret code b is L (.ref r :: st) s Q) : qV X PR d ret code b (.getfield n :: is) L (.ref c :: st) s Q := by
  obtain ⟨h1, h2, h3⟩ := hn
  refine qv_gh (hl.o s) h1 ?_ k
  rw [h2, qfs_get, h3]
  show some (if r = 0 then _ else if r = 1 then _ else _) = _
  rw [if_neg (by omega), if_neg (by omega)]
theorem qv_gx {v : Value} (hv : qX s = v) (k : qV X PR d ret code b is L (v :: st) s Q) : qV X PR d ret code b (.getfield 384 :: is) L (.ref 70 :: st) s Q := by
  refine qv_gh (ly_70.o s) rfl ?_ k
  rw [← hv]; rfl
theorem qv_pi {c ci n kf : Nat} {ts : List Nat} {v : Int32} (hl : qLY c (1, ci, ts)) (hn : ci = n / 64 ∧ n % 64 = kf ∧ ts[kf]? = some 0) (hf : pm_fit (pm_ty (n / 64) (n % 64)) (.int v) = true) (k : qV X PR d ret code b is L st (uF s c kf v) Q) : qV X PR d ret code b (.putfield n :: is) L (.int v :: .ref c :: st) s Q := by
  obtain ⟨h1, h2, h3⟩ := hn
  refine qV.of (fun _ z => pe_putf (hl.o s) h1 ?_ hf rfl ?_) k
  · rw [h2, qfs_len]; exact (List.getElem?_eq_some_iff.mp h3).1
  · rw [h2, qhp_uF hl h3]; exact z
theorem qv_px {v : Value} (hf : pm_fit (pm_ty 6 0) v = true) (k : qV X PR d ret code b is L st (uX s v) Q) : qV X PR d ret code b (.putfield 384 :: is) L (v :: .ref 70 :: st) s Q := by
  refine qV.of (fun _ z => pe_putf (ly_70.o s) rfl ?_ hf rfl ?_) k
  · rw [qfs_len]; decide
  · have := qhp_uX (s := s) (v := v)
    rw [show (384 % 64 : Nat) = 0 from rfl, this]; exact z
theorem qv_iah {a n j : Nat} {i v : Int32} {g : Nat → Int32} (h : pm_h (qhp s) a (.inl (0, n, .inl g))) (hi : i = nI j) (hj : j < n) (hn : n < 2 ^ 31) (hv : g j = v) (k : qV X PR d ret code b is L (.int v :: st) s Q) : qV X PR d ret code b (.iaload :: is) L (.int i :: .ref a :: st) s Q := qV.of (fun _ z => pe_ialdN h hi hj hn (by rw [hv]; exact z)) k
theorem qv_ia {c n j : Nat} {ts : List Nat} {i v : Int32} (hl : qLY c (0, n, ts)) (hi : i = nI j) (hj : j < n) (hn : n < 2 ^ 31) (hv : qE s c j = v) (k : qV X PR d ret code b is L (.int v :: st) s Q) : qV X PR d ret code b (.iaload :: is) L (.int i :: .ref c :: st) s Q := qv_iah (hl.a s) hi hj hn hv k
theorem qv_ix {a n j : Nat} {i v : Int32} {g : Nat → Int32} (h : X a = some (n, g)) (ha : a < 8) (hi : i = nI j) (hj : j < n) (hn : n < 2 ^ 31) (hv : g j = v) (k : qV X PR d ret code b is L (.int v :: st) s Q) : qV X PR d ret code b (.iaload :: is) L (.int i :: .ref a :: st) s Q := by
  subst hi
  refine qV.of (fun _ z => pe_ialdX h ha (vp_in_nI hj hn) ?_) k
  rw [nI_clamp (Nat.lt_trans hj hn), hv]
  exact z
theorem qv_is {c n j : Nat} {ts : List Nat} {i x : Int32} (hl : qLY c (0, n, ts)) (hi : i = nI j) (hj : j < n) (hn : n < 2 ^ 31) (k : qV X PR d ret code b is L st (uE s c j x) Q) : qV X PR d ret code b (.iastore :: is) L (.int x :: .int i :: .ref c :: st) s Q := qV.of (fun _ z => pe_iastN (hl.a s) hi hj hn (by rw [qhp_uE hl]; exact z)) k
theorem qv_la {c n j : Nat} {ts : List Nat} {i : Int32} {v : Int64} (hl : qLY c (4, n, ts)) (hi : i = nI j) (hj : j < n) (hn : n < 2 ^ 31) (hv : qL s c j = v) (k : qV X PR d ret code b is L (.long v :: st) s Q) : qV X PR d ret code b (.laload :: is) L (.int i :: .ref c :: st) s Q := by
  subst hi
  refine qV.of (fun _ z => pe_lald (hl.l s) (vp_in_nI hj hn) ?_) k
  rw [nI_clamp (Nat.lt_trans hj hn), hv]
  exact z
theorem qv_ls {c n j : Nat} {ts : List Nat} {i : Int32} {x : Int64} (hl : qLY c (4, n, ts)) (hi : i = nI j) (hj : j < n) (hn : n < 2 ^ 31) (k : qV X PR d ret code b is L st (uL s c j x) Q) : qV X PR d ret code b (.lastore :: is) L (.long x :: .int i :: .ref c :: st) s Q := by
  subst hi
  refine qV.of (fun _ z => pe_last (hl.l s) (vp_in_nI hj hn) ?_) k
  rw [nI_clamp (Nat.lt_trans hj hn), qhp_uL hl]
  exact z
theorem qv_aa {c ty j r : Nat} {ps : List Nat} {i : Int32} (hl : qLY c (2, ty, ps)) (hi : i = nI j) (hj : j < ps.getD 0 0) (hn : ps.getD 0 0 < 2 ^ 31 ∧ 2 ≤ ty ∧ ty < 5) (hr : ps.getD 1 0 + ps.getD 2 0 * j = r) (k : qV X PR d ret code b is L (.ref r :: st) s Q) : qV X PR d ret code b (.aaload :: is) L (.int i :: .ref c :: st) s Q := by
  refine qV.of (fun _ z => pe_aaldN (hl.r s) hn.2 hi hj hn.1 (v := r) ?_ z) k
  rw [if_pos hj, hr]
theorem qv_ad {c n j r : Nat} {ts : List Nat} {i : Int32} (hl : qLY c (3, n, ts)) (hi : i = nI j) (hj : j < n) (hn : n < 2 ^ 31) (hr : qT s c j = some r) (k : qV X PR d ret code b is L (.ref r :: st) s Q) : qV X PR d ret code b (.aaload :: is) L (.int i :: .ref c :: st) s Q := qV.of (fun _ z => pe_aaldN (hl.t s) (by decide) hi hj hn hr z) k
theorem qv_as {c n j r : Nat} {ts : List Nat} {fs : List Value} {i : Int32} (hl : qLY c (3, n, ts)) (hi : i = nI j) (hj : j < n) (hn : n < 2 ^ 31) (hr : pm_h (qhp s) r (.inr (8, fs))) (k : qV X PR d ret code b is L st (uT s c j (some r)) Q) : qV X PR d ret code b (.aastore :: is) L (.ref r :: .int i :: .ref c :: st) s Q := by
  subst hi
  refine qV.of (fun _ z => pe_aast (hl.t s) hr (by decide) (vp_in_nI hj hn) ?_) k
  rw [nI_clamp (Nat.lt_trans hj hn), qhp_uT hl]
  exact z
theorem qv_al {c n : Nat} {ts : List Nat} (hl : qLY c (0, n, ts)) (k : qV X PR d ret code b is L (.int (nI n) :: st) s Q) : qV X PR d ret code b (.arraylength :: is) L (.ref c :: st) s Q := qV.of (fun _ z => pe_alen (hl.a s) z) k
theorem qv_alX {a n : Nat} {g : Nat → Int32} (h : X a = some (n, g)) (ha : a < 8) (k : qV X PR d ret code b is L (.int (nI n) :: st) s Q) : qV X PR d ret code b (.arraylength :: is) L (.ref a :: st) s Q := qV.of (fun _ z => pe_alenX h ha z) k
theorem qv_copyG {c a0 n0 n1 p q m : Nat} {ts : List Nat} {g0 : Nat → Int32} {sp dp n : Int32} (h0 : pm_get X (qhp s).1 a0 = some (.inl (0, n0, .inl g0))) (hl : qLY c (0, n1, ts)) (hp : sp = nI p) (hq : dp = nI q) (hm : n = nI m) (hb : p + m ≤ n0 ∧ q + m ≤ n1 ∧ n0 < 2 ^ 30 ∧ n1 < 2 ^ 30) (hs : (st.map fun v => v.category).sum ≤ 8) (k : qV X PR d ret code b is L st (uA s c (va_cpy g0 (qE s c) p q m)) Q) : qV X PR d ret code b (.swap :: is) L (.int n :: .int dp :: .ref c :: .int sp :: .ref a0 :: st) s Q := by
  subst hp; subst hq; subst hm
  obtain ⟨b1, b2, b3, b4⟩ := hb
  refine qV.of (fun _ z => pe_copy hs h0 (hl.a s) ?_ ?_) k
  · rw [nI_clamp (n := p) (by omega), nI_clamp (n := q) (by omega), nI_clamp (n := m) (by omega)]
    have e1 := nI_pos (n := p) (by omega)
    have e2 := nI_pos (n := q) (by omega)
    have e3 := nI_pos (n := m) (by omega)
    intro h
    rcases h with h | h | h | h | h
    · exact e1 h
    · exact e2 h
    · exact e3 h
    · omega
    · omega
  · rw [nI_clamp (n := p) (by omega), nI_clamp (n := q) (by omega), nI_clamp (n := m) (by omega), qhp_uA hl]
    exact z
theorem qv_copy {c c0 n0 n1 p q m : Nat} {ts ts0 : List Nat} {sp dp n : Int32} (hl0 : qLY c0 (0, n0, ts0)) (hl : qLY c (0, n1, ts)) (hp : sp = nI p) (hq : dp = nI q) (hm : n = nI m) (hb : p + m ≤ n0 ∧ q + m ≤ n1 ∧ n0 < 2 ^ 30 ∧ n1 < 2 ^ 30) (hs : (st.map fun v => v.category).sum ≤ 8) (k : qV X PR d ret code b is L st (uA s c (va_cpy (qE s c0) (qE s c) p q m)) Q) : qV X PR d ret code b (.swap :: is) L (.int n :: .int dp :: .ref c :: .int sp :: .ref c0 :: st) s Q := qv_copyG (hl0.a s).get hl hp hq hm hb hs k
theorem qv_copyX {c a0 n0 n1 p q m : Nat} {ts : List Nat} {g0 : Nat → Int32} {sp dp n : Int32} (h0 : X a0 = some (n0, g0)) (ha : a0 < 8) (hl : qLY c (0, n1, ts)) (hp : sp = nI p) (hq : dp = nI q) (hm : n = nI m) (hb : p + m ≤ n0 ∧ q + m ≤ n1 ∧ n0 < 2 ^ 30 ∧ n1 < 2 ^ 30) (hs : (st.map fun v => v.category).sum ≤ 8) (k : qV X PR d ret code b is L st (uA s c (va_cpy g0 (qE s c) p q m)) Q) : qV X PR d ret code b (.swap :: is) L (.int n :: .int dp :: .ref c :: .int sp :: .ref a0 :: st) s Q := qv_copyG (by unfold pm_get; rw [if_pos ha, h0]; rfl) hl hp hq hm hb hs k
theorem qv_iret {x : Int32} (h : pm_ret ret (.int x) = true) (hq : Q (some (.int x)) s) : qV X PR d ret code b (.ireturn :: is) L [.int x] s Q := ⟨_, s, pe_iret h rfl, hq⟩
theorem qv_lret {x : Int64} (h : ret = some .long) (hq : Q (some (.long x)) s) : qV X PR d ret code b (.lreturn :: is) L [.long x] s Q := ⟨_, s, pe_lret h rfl, hq⟩
theorem qv_aret {v : Value} (h : pm_isA v = true ∧ pm_ret ret v = true) (hq : Q (some v) s) : qV X PR d ret code b (.areturn :: is) L [v] s Q := ⟨_, s, pe_aret h rfl, hq⟩
theorem qv_ret (h : ret = none) (hq : Q none s) : qV X PR d ret code b (.return_ :: is) L [] s Q := ⟨_, s, pe_ret h rfl, hq⟩
theorem qv_null_t {tt : Int} {tgt : Nat} (ht : tt.toNat = tgt) (k : qW X PR d ret code tgt L st s Q) : qV X PR d ret code b (.ifnull tt :: is) L (.null :: st) s Q := qV.ofW (fun _ z => pe_null_t ht z) k
theorem qv_null_f {tt : Int} {a nx : Nat} (hn : b + 1 = nx) (k : qW X PR d ret code nx L st s Q) : qV X PR d ret code b (.ifnull tt :: is) L (.ref a :: st) s Q := qV.ofW (fun _ z => pe_null_f hn z) k
theorem qv_nonnull_t {tt : Int} {a tgt : Nat} (ht : tt.toNat = tgt) (k : qW X PR d ret code tgt L st s Q) : qV X PR d ret code b (.ifnonnull tt :: is) L (.ref a :: st) s Q := qV.ofW (fun _ z => pe_nonnull_t ht z) k
theorem qv_nonnull_f {tt : Int} {nx : Nat} (hn : b + 1 = nx) (k : qW X PR d ret code nx L st s Q) : qV X PR d ret code b (.ifnonnull tt :: is) L (.null :: st) s Q := qV.ofW (fun _ z => pe_nonnull_f hn z) k
theorem qv_table {dd lo hi tt : Int} {offs : Array Int} {x : Int32} {tgt : Nat} (h : pm_tab dd lo hi offs x = some tt) (ht : tt.toNat = tgt) (k : qW X PR d ret code tgt L st s Q) : qV X PR d ret code b (.tableswitch dd lo hi offs :: is) L (.int x :: st) s Q := qV.ofW (fun _ z => pe_table h ht z) k
theorem qv_lookup {dd : Int} {ps : Array (Int × Int)} {x : Int32} {tgt : Nat} (ht : (Op.lookupswitch.offset ps.toList dd x.toInt).toNat = tgt) (k : qW X PR d ret code tgt L st s Q) : qV X PR d ret code b (.lookupswitch dd ps :: is) L (.int x :: st) s Q := qV.ofW (fun _ z => pe_lookup ht z) k
theorem qv_static {mid : Nat} {q : Nat × Nat} {as rest : List Value} (hs : pm_sig pm_Ms mid = some q) (hi : pm_inv q.1 false st = some (as, rest)) (hc : qP X PR d mid as s (fun v s' => qV X PR d ret code b is L (v.toList ++ rest) s' Q)) : qV X PR d ret code b (.invokestatic mid :: is) L st s Q := by
  obtain ⟨v, s', h1, h2⟩ := hc
  exact qV.of (fun _ z => pe_static hs hi h1 z) h2
theorem qv_virt {mid a ci : Nat} {q : Nat × Nat} {as rest : List Value} (hr : ∃ fs, pm_h (qhp s) a (.inr (ci, fs))) (hs : pm_sig pm_Ms mid = some q) (hi : pm_inv q.1 true st = some (.ref a :: as, rest)) (hq : q.2 = ci) (hc : qP X PR d mid (.ref a :: as) s (fun v s' => qV X PR d ret code b is L (v.toList ++ rest) s' Q)) : qV X PR d ret code b (.invokevirtual mid :: is) L st s Q := by
  obtain ⟨v, s', h1, h2⟩ := hc
  obtain ⟨fs, hr⟩ := hr
  exact qV.of (fun _ z => pe_virt hs hi hr hq h1 z) h2
theorem qv_spec {mid a : Nat} {q : Nat × Nat} {as rest : List Value} (hs : pm_sig pm_Ms mid = some q) (hi : pm_inv q.1 true st = some (.ref a :: as, rest)) (hc : qP X PR d mid (.ref a :: as) s (fun v s' => qV X PR d ret code b is L (v.toList ++ rest) s' Q)) : qV X PR d ret code b (.invokespecial mid :: is) L st s Q := by
  obtain ⟨v, s', h1, h2⟩ := hc
  exact qV.of (fun _ z => pe_spec hs hi h1 z) h2
theorem qv_staticE {mid : Nat} {q : Nat × Nat} {as rest : List Value} {r : Option Value} (hs : pm_sig pm_Ms mid = some q) (hi : pm_inv q.1 false st = some (as, rest)) (hc : pm_run X pm_Ms PR d mid as (qhp s) = some (r, qhp s)) (k : qV X PR d ret code b is L (r.toList ++ rest) s Q) : qV X PR d ret code b (.invokestatic mid :: is) L st s Q := qV.of (fun _ z => pe_static hs hi hc z) k
theorem qv_virtE {mid a ci : Nat} {q : Nat × Nat} {as rest : List Value} {r : Option Value} (hr : ∃ fs, pm_h (qhp s) a (.inr (ci, fs))) (hs : pm_sig pm_Ms mid = some q) (hi : pm_inv q.1 true st = some (.ref a :: as, rest)) (hq : q.2 = ci) (hc : pm_run X pm_Ms PR d mid (.ref a :: as) (qhp s) = some (r, qhp s)) (k : qV X PR d ret code b is L (r.toList ++ rest) s Q) : qV X PR d ret code b (.invokevirtual mid :: is) L st s Q := by
  obtain ⟨fs, hr⟩ := hr
  exact qV.of (fun _ z => pe_virt hs hi hr hq hc z) k
theorem qv_specE {mid a : Nat} {q : Nat × Nat} {as rest : List Value} {r : Option Value} (hs : pm_sig pm_Ms mid = some q) (hi : pm_inv q.1 true st = some (.ref a :: as, rest)) (hc : pm_run X pm_Ms PR d mid (.ref a :: as) (qhp s) = some (r, qhp s)) (k : qV X PR d ret code b is L (r.toList ++ rest) s Q) : qV X PR d ret code b (.invokespecial mid :: is) L st s Q := qV.of (fun _ z => pe_spec hs hi hc z) k
theorem qv_if_eq {x : Int32} {tt : Int} {tgt nx : Nat} (ht : tt.toNat = tgt) (hn : b + 1 = nx) (k1 : x = 0 → qW X PR d ret code tgt L st s Q) (k2 : ¬ (x = 0) → qW X PR d ret code nx L st s Q) : qV X PR d ret code b (.ifCond .eq tt :: is) L (.int x :: st) s Q := by
  by_cases hc : x = 0
  · exact qV.ofW (fun _ z => pe_if_eq (nx := b + 1) ht rfl (fun _ => z) (fun h => absurd hc h)) (k1 hc)
  · exact qV.ofW (fun _ z => pe_if_eq (tgt := tt.toNat) rfl hn (fun h => absurd h hc) (fun _ => z)) (k2 hc)
theorem qv_if_eq_t {x : Int32} {tt : Int} {tgt : Nat} (hc : x = 0) (ht : tt.toNat = tgt) (k1 : qW X PR d ret code tgt L st s Q) : qV X PR d ret code b (.ifCond .eq tt :: is) L (.int x :: st) s Q := qv_if_eq ht rfl (fun _ => k1) (fun h => absurd hc h)
theorem qv_if_eq_f {x : Int32} {tt : Int} {nx : Nat} (hc : ¬ (x = 0)) (hn : b + 1 = nx) (k2 : qW X PR d ret code nx L st s Q) : qV X PR d ret code b (.ifCond .eq tt :: is) L (.int x :: st) s Q := qv_if_eq (tgt := tt.toNat) rfl hn (fun h => absurd h hc) (fun _ => k2)
theorem qv_if_eqN {x : Int32} {p : Nat} {tt : Int} {tgt nx : Nat} (hx : x = nI p) (hp : p < 2 ^ 31) (ht : tt.toNat = tgt) (hn : b + 1 = nx) (k1 : p = 0 → qW X PR d ret code tgt L st s Q) (k2 : ¬ (p = 0) → qW X PR d ret code nx L st s Q) : qV X PR d ret code b (.ifCond .eq tt :: is) L (.int x :: st) s Q := by
  subst hx
  exact qv_if_eq ht hn (fun h => k1 ((nI_eq hp (show 0 < 2 ^ 31 by decide)).mp h)) (fun h => k2 (fun z => h ((nI_eq hp (show 0 < 2 ^ 31 by decide)).mpr z)))
theorem qv_if_eqNt {x : Int32} {p : Nat} {tt : Int} {tgt : Nat} (hx : x = nI p) (hp : p < 2 ^ 31) (hc : p = 0) (ht : tt.toNat = tgt) (k1 : qW X PR d ret code tgt L st s Q) : qV X PR d ret code b (.ifCond .eq tt :: is) L (.int x :: st) s Q := qv_if_eqN hx hp ht rfl (fun _ => k1) (fun h => absurd hc h)
theorem qv_if_eqNf {x : Int32} {p : Nat} {tt : Int} {nx : Nat} (hx : x = nI p) (hp : p < 2 ^ 31) (hc : ¬ (p = 0)) (hn : b + 1 = nx) (k2 : qW X PR d ret code nx L st s Q) : qV X PR d ret code b (.ifCond .eq tt :: is) L (.int x :: st) s Q := qv_if_eqN hx hp (tgt := tt.toNat) rfl hn (fun h => absurd h hc) (fun _ => k2)
theorem qv_icmp_eq {x y : Int32} {tt : Int} {tgt nx : Nat} (ht : tt.toNat = tgt) (hn : b + 1 = nx) (k1 : x = y → qW X PR d ret code tgt L st s Q) (k2 : ¬ (x = y) → qW X PR d ret code nx L st s Q) : qV X PR d ret code b (.if_icmp .eq tt :: is) L (.int y :: .int x :: st) s Q := by
  by_cases hc : x = y
  · exact qV.ofW (fun _ z => pe_icmp_eq (nx := b + 1) ht rfl (fun _ => z) (fun h => absurd hc h)) (k1 hc)
  · exact qV.ofW (fun _ z => pe_icmp_eq (tgt := tt.toNat) rfl hn (fun h => absurd h hc) (fun _ => z)) (k2 hc)
theorem qv_icmp_eq_t {x y : Int32} {tt : Int} {tgt : Nat} (hc : x = y) (ht : tt.toNat = tgt) (k1 : qW X PR d ret code tgt L st s Q) : qV X PR d ret code b (.if_icmp .eq tt :: is) L (.int y :: .int x :: st) s Q := qv_icmp_eq ht rfl (fun _ => k1) (fun h => absurd hc h)
theorem qv_icmp_eq_f {x y : Int32} {tt : Int} {nx : Nat} (hc : ¬ (x = y)) (hn : b + 1 = nx) (k2 : qW X PR d ret code nx L st s Q) : qV X PR d ret code b (.if_icmp .eq tt :: is) L (.int y :: .int x :: st) s Q := qv_icmp_eq (tgt := tt.toNat) rfl hn (fun h => absurd h hc) (fun _ => k2)
theorem qv_icmp_eqN {x y : Int32} {p q : Nat} {tt : Int} {tgt nx : Nat} (hx : x = nI p) (hy : y = nI q) (hp : p < 2 ^ 31) (hq : q < 2 ^ 31) (ht : tt.toNat = tgt) (hn : b + 1 = nx) (k1 : p = q → qW X PR d ret code tgt L st s Q) (k2 : ¬ (p = q) → qW X PR d ret code nx L st s Q) : qV X PR d ret code b (.if_icmp .eq tt :: is) L (.int y :: .int x :: st) s Q := by
  subst hx; subst hy
  exact qv_icmp_eq ht hn (fun h => k1 ((nI_eq hp hq).mp h)) (fun h => k2 (fun z => h ((nI_eq hp hq).mpr z)))
theorem qv_icmp_eqNt {x y : Int32} {p q : Nat} {tt : Int} {tgt : Nat} (hx : x = nI p) (hy : y = nI q) (hp : p < 2 ^ 31) (hq : q < 2 ^ 31) (hc : p = q) (ht : tt.toNat = tgt) (k1 : qW X PR d ret code tgt L st s Q) : qV X PR d ret code b (.if_icmp .eq tt :: is) L (.int y :: .int x :: st) s Q := qv_icmp_eqN hx hy hp hq ht rfl (fun _ => k1) (fun h => absurd hc h)
theorem qv_icmp_eqNf {x y : Int32} {p q : Nat} {tt : Int} {nx : Nat} (hx : x = nI p) (hy : y = nI q) (hp : p < 2 ^ 31) (hq : q < 2 ^ 31) (hc : ¬ (p = q)) (hn : b + 1 = nx) (k2 : qW X PR d ret code nx L st s Q) : qV X PR d ret code b (.if_icmp .eq tt :: is) L (.int y :: .int x :: st) s Q := qv_icmp_eqN hx hy hp hq (tgt := tt.toNat) rfl hn (fun h => absurd h hc) (fun _ => k2)
theorem qv_if_ne {x : Int32} {tt : Int} {tgt nx : Nat} (ht : tt.toNat = tgt) (hn : b + 1 = nx) (k1 : ¬ x = 0 → qW X PR d ret code tgt L st s Q) (k2 : ¬ (¬ x = 0) → qW X PR d ret code nx L st s Q) : qV X PR d ret code b (.ifCond .ne tt :: is) L (.int x :: st) s Q := by
  by_cases hc : ¬ x = 0
  · exact qV.ofW (fun _ z => pe_if_ne (nx := b + 1) ht rfl (fun _ => z) (fun h => absurd hc h)) (k1 hc)
  · exact qV.ofW (fun _ z => pe_if_ne (tgt := tt.toNat) rfl hn (fun h => absurd h hc) (fun _ => z)) (k2 hc)
theorem qv_if_ne_t {x : Int32} {tt : Int} {tgt : Nat} (hc : ¬ x = 0) (ht : tt.toNat = tgt) (k1 : qW X PR d ret code tgt L st s Q) : qV X PR d ret code b (.ifCond .ne tt :: is) L (.int x :: st) s Q := qv_if_ne ht rfl (fun _ => k1) (fun h => absurd hc h)
theorem qv_if_ne_f {x : Int32} {tt : Int} {nx : Nat} (hc : ¬ (¬ x = 0)) (hn : b + 1 = nx) (k2 : qW X PR d ret code nx L st s Q) : qV X PR d ret code b (.ifCond .ne tt :: is) L (.int x :: st) s Q := qv_if_ne (tgt := tt.toNat) rfl hn (fun h => absurd h hc) (fun _ => k2)
theorem qv_if_neN {x : Int32} {p : Nat} {tt : Int} {tgt nx : Nat} (hx : x = nI p) (hp : p < 2 ^ 31) (ht : tt.toNat = tgt) (hn : b + 1 = nx) (k1 : ¬ p = 0 → qW X PR d ret code tgt L st s Q) (k2 : ¬ (¬ p = 0) → qW X PR d ret code nx L st s Q) : qV X PR d ret code b (.ifCond .ne tt :: is) L (.int x :: st) s Q := by
  subst hx
  exact qv_if_ne ht hn (fun h => k1 ((not_congr (nI_eq hp (show 0 < 2 ^ 31 by decide))).mp h)) (fun h => k2 (fun z => h ((not_congr (nI_eq hp (show 0 < 2 ^ 31 by decide))).mpr z)))
theorem qv_if_neNt {x : Int32} {p : Nat} {tt : Int} {tgt : Nat} (hx : x = nI p) (hp : p < 2 ^ 31) (hc : ¬ p = 0) (ht : tt.toNat = tgt) (k1 : qW X PR d ret code tgt L st s Q) : qV X PR d ret code b (.ifCond .ne tt :: is) L (.int x :: st) s Q := qv_if_neN hx hp ht rfl (fun _ => k1) (fun h => absurd hc h)
theorem qv_if_neNf {x : Int32} {p : Nat} {tt : Int} {nx : Nat} (hx : x = nI p) (hp : p < 2 ^ 31) (hc : ¬ (¬ p = 0)) (hn : b + 1 = nx) (k2 : qW X PR d ret code nx L st s Q) : qV X PR d ret code b (.ifCond .ne tt :: is) L (.int x :: st) s Q := qv_if_neN hx hp (tgt := tt.toNat) rfl hn (fun h => absurd h hc) (fun _ => k2)
theorem qv_icmp_ne {x y : Int32} {tt : Int} {tgt nx : Nat} (ht : tt.toNat = tgt) (hn : b + 1 = nx) (k1 : ¬ x = y → qW X PR d ret code tgt L st s Q) (k2 : ¬ (¬ x = y) → qW X PR d ret code nx L st s Q) : qV X PR d ret code b (.if_icmp .ne tt :: is) L (.int y :: .int x :: st) s Q := by
  by_cases hc : ¬ x = y
  · exact qV.ofW (fun _ z => pe_icmp_ne (nx := b + 1) ht rfl (fun _ => z) (fun h => absurd hc h)) (k1 hc)
  · exact qV.ofW (fun _ z => pe_icmp_ne (tgt := tt.toNat) rfl hn (fun h => absurd h hc) (fun _ => z)) (k2 hc)
theorem qv_icmp_ne_t {x y : Int32} {tt : Int} {tgt : Nat} (hc : ¬ x = y) (ht : tt.toNat = tgt) (k1 : qW X PR d ret code tgt L st s Q) : qV X PR d ret code b (.if_icmp .ne tt :: is) L (.int y :: .int x :: st) s Q := qv_icmp_ne ht rfl (fun _ => k1) (fun h => absurd hc h)
theorem qv_icmp_ne_f {x y : Int32} {tt : Int} {nx : Nat} (hc : ¬ (¬ x = y)) (hn : b + 1 = nx) (k2 : qW X PR d ret code nx L st s Q) : qV X PR d ret code b (.if_icmp .ne tt :: is) L (.int y :: .int x :: st) s Q := qv_icmp_ne (tgt := tt.toNat) rfl hn (fun h => absurd h hc) (fun _ => k2)
theorem qv_icmp_neN {x y : Int32} {p q : Nat} {tt : Int} {tgt nx : Nat} (hx : x = nI p) (hy : y = nI q) (hp : p < 2 ^ 31) (hq : q < 2 ^ 31) (ht : tt.toNat = tgt) (hn : b + 1 = nx) (k1 : ¬ p = q → qW X PR d ret code tgt L st s Q) (k2 : ¬ (¬ p = q) → qW X PR d ret code nx L st s Q) : qV X PR d ret code b (.if_icmp .ne tt :: is) L (.int y :: .int x :: st) s Q := by
  subst hx; subst hy
  exact qv_icmp_ne ht hn (fun h => k1 ((not_congr (nI_eq hp hq)).mp h)) (fun h => k2 (fun z => h ((not_congr (nI_eq hp hq)).mpr z)))
theorem qv_icmp_neNt {x y : Int32} {p q : Nat} {tt : Int} {tgt : Nat} (hx : x = nI p) (hy : y = nI q) (hp : p < 2 ^ 31) (hq : q < 2 ^ 31) (hc : ¬ p = q) (ht : tt.toNat = tgt) (k1 : qW X PR d ret code tgt L st s Q) : qV X PR d ret code b (.if_icmp .ne tt :: is) L (.int y :: .int x :: st) s Q := qv_icmp_neN hx hy hp hq ht rfl (fun _ => k1) (fun h => absurd hc h)
theorem qv_icmp_neNf {x y : Int32} {p q : Nat} {tt : Int} {nx : Nat} (hx : x = nI p) (hy : y = nI q) (hp : p < 2 ^ 31) (hq : q < 2 ^ 31) (hc : ¬ (¬ p = q)) (hn : b + 1 = nx) (k2 : qW X PR d ret code nx L st s Q) : qV X PR d ret code b (.if_icmp .ne tt :: is) L (.int y :: .int x :: st) s Q := qv_icmp_neN hx hy hp hq (tgt := tt.toNat) rfl hn (fun h => absurd h hc) (fun _ => k2)
theorem qv_if_lt {x : Int32} {tt : Int} {tgt nx : Nat} (ht : tt.toNat = tgt) (hn : b + 1 = nx) (k1 : x < 0 → qW X PR d ret code tgt L st s Q) (k2 : ¬ (x < 0) → qW X PR d ret code nx L st s Q) : qV X PR d ret code b (.ifCond .lt tt :: is) L (.int x :: st) s Q := by
  by_cases hc : x < 0
  · exact qV.ofW (fun _ z => pe_if_lt (nx := b + 1) ht rfl (fun _ => z) (fun h => absurd hc h)) (k1 hc)
  · exact qV.ofW (fun _ z => pe_if_lt (tgt := tt.toNat) rfl hn (fun h => absurd h hc) (fun _ => z)) (k2 hc)
theorem qv_if_lt_t {x : Int32} {tt : Int} {tgt : Nat} (hc : x < 0) (ht : tt.toNat = tgt) (k1 : qW X PR d ret code tgt L st s Q) : qV X PR d ret code b (.ifCond .lt tt :: is) L (.int x :: st) s Q := qv_if_lt ht rfl (fun _ => k1) (fun h => absurd hc h)
theorem qv_if_lt_f {x : Int32} {tt : Int} {nx : Nat} (hc : ¬ (x < 0)) (hn : b + 1 = nx) (k2 : qW X PR d ret code nx L st s Q) : qV X PR d ret code b (.ifCond .lt tt :: is) L (.int x :: st) s Q := qv_if_lt (tgt := tt.toNat) rfl hn (fun h => absurd h hc) (fun _ => k2)
theorem qv_if_ltN {x : Int32} {p : Nat} {tt : Int} {tgt nx : Nat} (hx : x = nI p) (hp : p < 2 ^ 31) (ht : tt.toNat = tgt) (hn : b + 1 = nx) (k1 : p < 0 → qW X PR d ret code tgt L st s Q) (k2 : ¬ (p < 0) → qW X PR d ret code nx L st s Q) : qV X PR d ret code b (.ifCond .lt tt :: is) L (.int x :: st) s Q := by
  subst hx
  exact qv_if_lt ht hn (fun h => k1 ((nI_ltI hp (show 0 < 2 ^ 31 by decide)).mp h)) (fun h => k2 (fun z => h ((nI_ltI hp (show 0 < 2 ^ 31 by decide)).mpr z)))
theorem qv_if_ltNt {x : Int32} {p : Nat} {tt : Int} {tgt : Nat} (hx : x = nI p) (hp : p < 2 ^ 31) (hc : p < 0) (ht : tt.toNat = tgt) (k1 : qW X PR d ret code tgt L st s Q) : qV X PR d ret code b (.ifCond .lt tt :: is) L (.int x :: st) s Q := qv_if_ltN hx hp ht rfl (fun _ => k1) (fun h => absurd hc h)
theorem qv_if_ltNf {x : Int32} {p : Nat} {tt : Int} {nx : Nat} (hx : x = nI p) (hp : p < 2 ^ 31) (hc : ¬ (p < 0)) (hn : b + 1 = nx) (k2 : qW X PR d ret code nx L st s Q) : qV X PR d ret code b (.ifCond .lt tt :: is) L (.int x :: st) s Q := qv_if_ltN hx hp (tgt := tt.toNat) rfl hn (fun h => absurd h hc) (fun _ => k2)
theorem qv_icmp_lt {x y : Int32} {tt : Int} {tgt nx : Nat} (ht : tt.toNat = tgt) (hn : b + 1 = nx) (k1 : x < y → qW X PR d ret code tgt L st s Q) (k2 : ¬ (x < y) → qW X PR d ret code nx L st s Q) : qV X PR d ret code b (.if_icmp .lt tt :: is) L (.int y :: .int x :: st) s Q := by
  by_cases hc : x < y
  · exact qV.ofW (fun _ z => pe_icmp_lt (nx := b + 1) ht rfl (fun _ => z) (fun h => absurd hc h)) (k1 hc)
  · exact qV.ofW (fun _ z => pe_icmp_lt (tgt := tt.toNat) rfl hn (fun h => absurd h hc) (fun _ => z)) (k2 hc)
theorem qv_icmp_lt_t {x y : Int32} {tt : Int} {tgt : Nat} (hc : x < y) (ht : tt.toNat = tgt) (k1 : qW X PR d ret code tgt L st s Q) : qV X PR d ret code b (.if_icmp .lt tt :: is) L (.int y :: .int x :: st) s Q := qv_icmp_lt ht rfl (fun _ => k1) (fun h => absurd hc h)
theorem qv_icmp_lt_f {x y : Int32} {tt : Int} {nx : Nat} (hc : ¬ (x < y)) (hn : b + 1 = nx) (k2 : qW X PR d ret code nx L st s Q) : qV X PR d ret code b (.if_icmp .lt tt :: is) L (.int y :: .int x :: st) s Q := qv_icmp_lt (tgt := tt.toNat) rfl hn (fun h => absurd h hc) (fun _ => k2)
theorem qv_icmp_ltN {x y : Int32} {p q : Nat} {tt : Int} {tgt nx : Nat} (hx : x = nI p) (hy : y = nI q) (hp : p < 2 ^ 31) (hq : q < 2 ^ 31) (ht : tt.toNat = tgt) (hn : b + 1 = nx) (k1 : p < q → qW X PR d ret code tgt L st s Q) (k2 : ¬ (p < q) → qW X PR d ret code nx L st s Q) : qV X PR d ret code b (.if_icmp .lt tt :: is) L (.int y :: .int x :: st) s Q := by
  subst hx; subst hy
  exact qv_icmp_lt ht hn (fun h => k1 ((nI_ltI hp hq).mp h)) (fun h => k2 (fun z => h ((nI_ltI hp hq).mpr z)))
theorem qv_icmp_ltNt {x y : Int32} {p q : Nat} {tt : Int} {tgt : Nat} (hx : x = nI p) (hy : y = nI q) (hp : p < 2 ^ 31) (hq : q < 2 ^ 31) (hc : p < q) (ht : tt.toNat = tgt) (k1 : qW X PR d ret code tgt L st s Q) : qV X PR d ret code b (.if_icmp .lt tt :: is) L (.int y :: .int x :: st) s Q := qv_icmp_ltN hx hy hp hq ht rfl (fun _ => k1) (fun h => absurd hc h)
theorem qv_icmp_ltNf {x y : Int32} {p q : Nat} {tt : Int} {nx : Nat} (hx : x = nI p) (hy : y = nI q) (hp : p < 2 ^ 31) (hq : q < 2 ^ 31) (hc : ¬ (p < q)) (hn : b + 1 = nx) (k2 : qW X PR d ret code nx L st s Q) : qV X PR d ret code b (.if_icmp .lt tt :: is) L (.int y :: .int x :: st) s Q := qv_icmp_ltN hx hy hp hq (tgt := tt.toNat) rfl hn (fun h => absurd h hc) (fun _ => k2)
theorem qv_if_ge {x : Int32} {tt : Int} {tgt nx : Nat} (ht : tt.toNat = tgt) (hn : b + 1 = nx) (k1 : 0 ≤ x → qW X PR d ret code tgt L st s Q) (k2 : ¬ (0 ≤ x) → qW X PR d ret code nx L st s Q) : qV X PR d ret code b (.ifCond .ge tt :: is) L (.int x :: st) s Q := by
  by_cases hc : 0 ≤ x
  · exact qV.ofW (fun _ z => pe_if_ge (nx := b + 1) ht rfl (fun _ => z) (fun h => absurd hc h)) (k1 hc)
  · exact qV.ofW (fun _ z => pe_if_ge (tgt := tt.toNat) rfl hn (fun h => absurd h hc) (fun _ => z)) (k2 hc)
theorem qv_if_ge_t {x : Int32} {tt : Int} {tgt : Nat} (hc : 0 ≤ x) (ht : tt.toNat = tgt) (k1 : qW X PR d ret code tgt L st s Q) : qV X PR d ret code b (.ifCond .ge tt :: is) L (.int x :: st) s Q := qv_if_ge ht rfl (fun _ => k1) (fun h => absurd hc h)
theorem qv_if_ge_f {x : Int32} {tt : Int} {nx : Nat} (hc : ¬ (0 ≤ x)) (hn : b + 1 = nx) (k2 : qW X PR d ret code nx L st s Q) : qV X PR d ret code b (.ifCond .ge tt :: is) L (.int x :: st) s Q := qv_if_ge (tgt := tt.toNat) rfl hn (fun h => absurd h hc) (fun _ => k2)
theorem qv_if_geN {x : Int32} {p : Nat} {tt : Int} {tgt nx : Nat} (hx : x = nI p) (hp : p < 2 ^ 31) (ht : tt.toNat = tgt) (hn : b + 1 = nx) (k1 : 0 ≤ p → qW X PR d ret code tgt L st s Q) (k2 : ¬ (0 ≤ p) → qW X PR d ret code nx L st s Q) : qV X PR d ret code b (.ifCond .ge tt :: is) L (.int x :: st) s Q := by
  subst hx
  exact qv_if_ge ht hn (fun h => k1 ((nI_leI (show 0 < 2 ^ 31 by decide) hp).mp h)) (fun h => k2 (fun z => h ((nI_leI (show 0 < 2 ^ 31 by decide) hp).mpr z)))
theorem qv_if_geNt {x : Int32} {p : Nat} {tt : Int} {tgt : Nat} (hx : x = nI p) (hp : p < 2 ^ 31) (hc : 0 ≤ p) (ht : tt.toNat = tgt) (k1 : qW X PR d ret code tgt L st s Q) : qV X PR d ret code b (.ifCond .ge tt :: is) L (.int x :: st) s Q := qv_if_geN hx hp ht rfl (fun _ => k1) (fun h => absurd hc h)
theorem qv_if_geNf {x : Int32} {p : Nat} {tt : Int} {nx : Nat} (hx : x = nI p) (hp : p < 2 ^ 31) (hc : ¬ (0 ≤ p)) (hn : b + 1 = nx) (k2 : qW X PR d ret code nx L st s Q) : qV X PR d ret code b (.ifCond .ge tt :: is) L (.int x :: st) s Q := qv_if_geN hx hp (tgt := tt.toNat) rfl hn (fun h => absurd h hc) (fun _ => k2)
theorem qv_icmp_ge {x y : Int32} {tt : Int} {tgt nx : Nat} (ht : tt.toNat = tgt) (hn : b + 1 = nx) (k1 : y ≤ x → qW X PR d ret code tgt L st s Q) (k2 : ¬ (y ≤ x) → qW X PR d ret code nx L st s Q) : qV X PR d ret code b (.if_icmp .ge tt :: is) L (.int y :: .int x :: st) s Q := by
  by_cases hc : y ≤ x
  · exact qV.ofW (fun _ z => pe_icmp_ge (nx := b + 1) ht rfl (fun _ => z) (fun h => absurd hc h)) (k1 hc)
  · exact qV.ofW (fun _ z => pe_icmp_ge (tgt := tt.toNat) rfl hn (fun h => absurd h hc) (fun _ => z)) (k2 hc)
theorem qv_icmp_ge_t {x y : Int32} {tt : Int} {tgt : Nat} (hc : y ≤ x) (ht : tt.toNat = tgt) (k1 : qW X PR d ret code tgt L st s Q) : qV X PR d ret code b (.if_icmp .ge tt :: is) L (.int y :: .int x :: st) s Q := qv_icmp_ge ht rfl (fun _ => k1) (fun h => absurd hc h)
theorem qv_icmp_ge_f {x y : Int32} {tt : Int} {nx : Nat} (hc : ¬ (y ≤ x)) (hn : b + 1 = nx) (k2 : qW X PR d ret code nx L st s Q) : qV X PR d ret code b (.if_icmp .ge tt :: is) L (.int y :: .int x :: st) s Q := qv_icmp_ge (tgt := tt.toNat) rfl hn (fun h => absurd h hc) (fun _ => k2)
theorem qv_icmp_geN {x y : Int32} {p q : Nat} {tt : Int} {tgt nx : Nat} (hx : x = nI p) (hy : y = nI q) (hp : p < 2 ^ 31) (hq : q < 2 ^ 31) (ht : tt.toNat = tgt) (hn : b + 1 = nx) (k1 : q ≤ p → qW X PR d ret code tgt L st s Q) (k2 : ¬ (q ≤ p) → qW X PR d ret code nx L st s Q) : qV X PR d ret code b (.if_icmp .ge tt :: is) L (.int y :: .int x :: st) s Q := by
  subst hx; subst hy
  exact qv_icmp_ge ht hn (fun h => k1 ((nI_leI hq hp).mp h)) (fun h => k2 (fun z => h ((nI_leI hq hp).mpr z)))
theorem qv_icmp_geNt {x y : Int32} {p q : Nat} {tt : Int} {tgt : Nat} (hx : x = nI p) (hy : y = nI q) (hp : p < 2 ^ 31) (hq : q < 2 ^ 31) (hc : q ≤ p) (ht : tt.toNat = tgt) (k1 : qW X PR d ret code tgt L st s Q) : qV X PR d ret code b (.if_icmp .ge tt :: is) L (.int y :: .int x :: st) s Q := qv_icmp_geN hx hy hp hq ht rfl (fun _ => k1) (fun h => absurd hc h)
theorem qv_icmp_geNf {x y : Int32} {p q : Nat} {tt : Int} {nx : Nat} (hx : x = nI p) (hy : y = nI q) (hp : p < 2 ^ 31) (hq : q < 2 ^ 31) (hc : ¬ (q ≤ p)) (hn : b + 1 = nx) (k2 : qW X PR d ret code nx L st s Q) : qV X PR d ret code b (.if_icmp .ge tt :: is) L (.int y :: .int x :: st) s Q := qv_icmp_geN hx hy hp hq (tgt := tt.toNat) rfl hn (fun h => absurd h hc) (fun _ => k2)
theorem qv_if_gt {x : Int32} {tt : Int} {tgt nx : Nat} (ht : tt.toNat = tgt) (hn : b + 1 = nx) (k1 : 0 < x → qW X PR d ret code tgt L st s Q) (k2 : ¬ (0 < x) → qW X PR d ret code nx L st s Q) : qV X PR d ret code b (.ifCond .gt tt :: is) L (.int x :: st) s Q := by
  by_cases hc : 0 < x
  · exact qV.ofW (fun _ z => pe_if_gt (nx := b + 1) ht rfl (fun _ => z) (fun h => absurd hc h)) (k1 hc)
  · exact qV.ofW (fun _ z => pe_if_gt (tgt := tt.toNat) rfl hn (fun h => absurd h hc) (fun _ => z)) (k2 hc)
theorem qv_if_gt_t {x : Int32} {tt : Int} {tgt : Nat} (hc : 0 < x) (ht : tt.toNat = tgt) (k1 : qW X PR d ret code tgt L st s Q) : qV X PR d ret code b (.ifCond .gt tt :: is) L (.int x :: st) s Q := qv_if_gt ht rfl (fun _ => k1) (fun h => absurd hc h)
theorem qv_if_gt_f {x : Int32} {tt : Int} {nx : Nat} (hc : ¬ (0 < x)) (hn : b + 1 = nx) (k2 : qW X PR d ret code nx L st s Q) : qV X PR d ret code b (.ifCond .gt tt :: is) L (.int x :: st) s Q := qv_if_gt (tgt := tt.toNat) rfl hn (fun h => absurd h hc) (fun _ => k2)
theorem qv_if_gtN {x : Int32} {p : Nat} {tt : Int} {tgt nx : Nat} (hx : x = nI p) (hp : p < 2 ^ 31) (ht : tt.toNat = tgt) (hn : b + 1 = nx) (k1 : 0 < p → qW X PR d ret code tgt L st s Q) (k2 : ¬ (0 < p) → qW X PR d ret code nx L st s Q) : qV X PR d ret code b (.ifCond .gt tt :: is) L (.int x :: st) s Q := by
  subst hx
  exact qv_if_gt ht hn (fun h => k1 ((nI_ltI (show 0 < 2 ^ 31 by decide) hp).mp h)) (fun h => k2 (fun z => h ((nI_ltI (show 0 < 2 ^ 31 by decide) hp).mpr z)))
theorem qv_if_gtNt {x : Int32} {p : Nat} {tt : Int} {tgt : Nat} (hx : x = nI p) (hp : p < 2 ^ 31) (hc : 0 < p) (ht : tt.toNat = tgt) (k1 : qW X PR d ret code tgt L st s Q) : qV X PR d ret code b (.ifCond .gt tt :: is) L (.int x :: st) s Q := qv_if_gtN hx hp ht rfl (fun _ => k1) (fun h => absurd hc h)
theorem qv_if_gtNf {x : Int32} {p : Nat} {tt : Int} {nx : Nat} (hx : x = nI p) (hp : p < 2 ^ 31) (hc : ¬ (0 < p)) (hn : b + 1 = nx) (k2 : qW X PR d ret code nx L st s Q) : qV X PR d ret code b (.ifCond .gt tt :: is) L (.int x :: st) s Q := qv_if_gtN hx hp (tgt := tt.toNat) rfl hn (fun h => absurd h hc) (fun _ => k2)
theorem qv_icmp_gt {x y : Int32} {tt : Int} {tgt nx : Nat} (ht : tt.toNat = tgt) (hn : b + 1 = nx) (k1 : y < x → qW X PR d ret code tgt L st s Q) (k2 : ¬ (y < x) → qW X PR d ret code nx L st s Q) : qV X PR d ret code b (.if_icmp .gt tt :: is) L (.int y :: .int x :: st) s Q := by
  by_cases hc : y < x
  · exact qV.ofW (fun _ z => pe_icmp_gt (nx := b + 1) ht rfl (fun _ => z) (fun h => absurd hc h)) (k1 hc)
  · exact qV.ofW (fun _ z => pe_icmp_gt (tgt := tt.toNat) rfl hn (fun h => absurd h hc) (fun _ => z)) (k2 hc)
theorem qv_icmp_gt_t {x y : Int32} {tt : Int} {tgt : Nat} (hc : y < x) (ht : tt.toNat = tgt) (k1 : qW X PR d ret code tgt L st s Q) : qV X PR d ret code b (.if_icmp .gt tt :: is) L (.int y :: .int x :: st) s Q := qv_icmp_gt ht rfl (fun _ => k1) (fun h => absurd hc h)
theorem qv_icmp_gt_f {x y : Int32} {tt : Int} {nx : Nat} (hc : ¬ (y < x)) (hn : b + 1 = nx) (k2 : qW X PR d ret code nx L st s Q) : qV X PR d ret code b (.if_icmp .gt tt :: is) L (.int y :: .int x :: st) s Q := qv_icmp_gt (tgt := tt.toNat) rfl hn (fun h => absurd h hc) (fun _ => k2)
theorem qv_icmp_gtN {x y : Int32} {p q : Nat} {tt : Int} {tgt nx : Nat} (hx : x = nI p) (hy : y = nI q) (hp : p < 2 ^ 31) (hq : q < 2 ^ 31) (ht : tt.toNat = tgt) (hn : b + 1 = nx) (k1 : q < p → qW X PR d ret code tgt L st s Q) (k2 : ¬ (q < p) → qW X PR d ret code nx L st s Q) : qV X PR d ret code b (.if_icmp .gt tt :: is) L (.int y :: .int x :: st) s Q := by
  subst hx; subst hy
  exact qv_icmp_gt ht hn (fun h => k1 ((nI_ltI hq hp).mp h)) (fun h => k2 (fun z => h ((nI_ltI hq hp).mpr z)))
theorem qv_icmp_gtNt {x y : Int32} {p q : Nat} {tt : Int} {tgt : Nat} (hx : x = nI p) (hy : y = nI q) (hp : p < 2 ^ 31) (hq : q < 2 ^ 31) (hc : q < p) (ht : tt.toNat = tgt) (k1 : qW X PR d ret code tgt L st s Q) : qV X PR d ret code b (.if_icmp .gt tt :: is) L (.int y :: .int x :: st) s Q := qv_icmp_gtN hx hy hp hq ht rfl (fun _ => k1) (fun h => absurd hc h)
theorem qv_icmp_gtNf {x y : Int32} {p q : Nat} {tt : Int} {nx : Nat} (hx : x = nI p) (hy : y = nI q) (hp : p < 2 ^ 31) (hq : q < 2 ^ 31) (hc : ¬ (q < p)) (hn : b + 1 = nx) (k2 : qW X PR d ret code nx L st s Q) : qV X PR d ret code b (.if_icmp .gt tt :: is) L (.int y :: .int x :: st) s Q := qv_icmp_gtN hx hy hp hq (tgt := tt.toNat) rfl hn (fun h => absurd h hc) (fun _ => k2)
theorem qv_if_le {x : Int32} {tt : Int} {tgt nx : Nat} (ht : tt.toNat = tgt) (hn : b + 1 = nx) (k1 : x ≤ 0 → qW X PR d ret code tgt L st s Q) (k2 : ¬ (x ≤ 0) → qW X PR d ret code nx L st s Q) : qV X PR d ret code b (.ifCond .le tt :: is) L (.int x :: st) s Q := by
  by_cases hc : x ≤ 0
  · exact qV.ofW (fun _ z => pe_if_le (nx := b + 1) ht rfl (fun _ => z) (fun h => absurd hc h)) (k1 hc)
  · exact qV.ofW (fun _ z => pe_if_le (tgt := tt.toNat) rfl hn (fun h => absurd h hc) (fun _ => z)) (k2 hc)
theorem qv_if_le_t {x : Int32} {tt : Int} {tgt : Nat} (hc : x ≤ 0) (ht : tt.toNat = tgt) (k1 : qW X PR d ret code tgt L st s Q) : qV X PR d ret code b (.ifCond .le tt :: is) L (.int x :: st) s Q := qv_if_le ht rfl (fun _ => k1) (fun h => absurd hc h)
theorem qv_if_le_f {x : Int32} {tt : Int} {nx : Nat} (hc : ¬ (x ≤ 0)) (hn : b + 1 = nx) (k2 : qW X PR d ret code nx L st s Q) : qV X PR d ret code b (.ifCond .le tt :: is) L (.int x :: st) s Q := qv_if_le (tgt := tt.toNat) rfl hn (fun h => absurd h hc) (fun _ => k2)
theorem qv_if_leN {x : Int32} {p : Nat} {tt : Int} {tgt nx : Nat} (hx : x = nI p) (hp : p < 2 ^ 31) (ht : tt.toNat = tgt) (hn : b + 1 = nx) (k1 : p ≤ 0 → qW X PR d ret code tgt L st s Q) (k2 : ¬ (p ≤ 0) → qW X PR d ret code nx L st s Q) : qV X PR d ret code b (.ifCond .le tt :: is) L (.int x :: st) s Q := by
  subst hx
  exact qv_if_le ht hn (fun h => k1 ((nI_leI hp (show 0 < 2 ^ 31 by decide)).mp h)) (fun h => k2 (fun z => h ((nI_leI hp (show 0 < 2 ^ 31 by decide)).mpr z)))
theorem qv_if_leNt {x : Int32} {p : Nat} {tt : Int} {tgt : Nat} (hx : x = nI p) (hp : p < 2 ^ 31) (hc : p ≤ 0) (ht : tt.toNat = tgt) (k1 : qW X PR d ret code tgt L st s Q) : qV X PR d ret code b (.ifCond .le tt :: is) L (.int x :: st) s Q := qv_if_leN hx hp ht rfl (fun _ => k1) (fun h => absurd hc h)
theorem qv_if_leNf {x : Int32} {p : Nat} {tt : Int} {nx : Nat} (hx : x = nI p) (hp : p < 2 ^ 31) (hc : ¬ (p ≤ 0)) (hn : b + 1 = nx) (k2 : qW X PR d ret code nx L st s Q) : qV X PR d ret code b (.ifCond .le tt :: is) L (.int x :: st) s Q := qv_if_leN hx hp (tgt := tt.toNat) rfl hn (fun h => absurd h hc) (fun _ => k2)
theorem qv_icmp_le {x y : Int32} {tt : Int} {tgt nx : Nat} (ht : tt.toNat = tgt) (hn : b + 1 = nx) (k1 : x ≤ y → qW X PR d ret code tgt L st s Q) (k2 : ¬ (x ≤ y) → qW X PR d ret code nx L st s Q) : qV X PR d ret code b (.if_icmp .le tt :: is) L (.int y :: .int x :: st) s Q := by
  by_cases hc : x ≤ y
  · exact qV.ofW (fun _ z => pe_icmp_le (nx := b + 1) ht rfl (fun _ => z) (fun h => absurd hc h)) (k1 hc)
  · exact qV.ofW (fun _ z => pe_icmp_le (tgt := tt.toNat) rfl hn (fun h => absurd h hc) (fun _ => z)) (k2 hc)
theorem qv_icmp_le_t {x y : Int32} {tt : Int} {tgt : Nat} (hc : x ≤ y) (ht : tt.toNat = tgt) (k1 : qW X PR d ret code tgt L st s Q) : qV X PR d ret code b (.if_icmp .le tt :: is) L (.int y :: .int x :: st) s Q := qv_icmp_le ht rfl (fun _ => k1) (fun h => absurd hc h)
theorem qv_icmp_le_f {x y : Int32} {tt : Int} {nx : Nat} (hc : ¬ (x ≤ y)) (hn : b + 1 = nx) (k2 : qW X PR d ret code nx L st s Q) : qV X PR d ret code b (.if_icmp .le tt :: is) L (.int y :: .int x :: st) s Q := qv_icmp_le (tgt := tt.toNat) rfl hn (fun h => absurd h hc) (fun _ => k2)
theorem qv_icmp_leN {x y : Int32} {p q : Nat} {tt : Int} {tgt nx : Nat} (hx : x = nI p) (hy : y = nI q) (hp : p < 2 ^ 31) (hq : q < 2 ^ 31) (ht : tt.toNat = tgt) (hn : b + 1 = nx) (k1 : p ≤ q → qW X PR d ret code tgt L st s Q) (k2 : ¬ (p ≤ q) → qW X PR d ret code nx L st s Q) : qV X PR d ret code b (.if_icmp .le tt :: is) L (.int y :: .int x :: st) s Q := by
  subst hx; subst hy
  exact qv_icmp_le ht hn (fun h => k1 ((nI_leI hp hq).mp h)) (fun h => k2 (fun z => h ((nI_leI hp hq).mpr z)))
theorem qv_icmp_leNt {x y : Int32} {p q : Nat} {tt : Int} {tgt : Nat} (hx : x = nI p) (hy : y = nI q) (hp : p < 2 ^ 31) (hq : q < 2 ^ 31) (hc : p ≤ q) (ht : tt.toNat = tgt) (k1 : qW X PR d ret code tgt L st s Q) : qV X PR d ret code b (.if_icmp .le tt :: is) L (.int y :: .int x :: st) s Q := qv_icmp_leN hx hy hp hq ht rfl (fun _ => k1) (fun h => absurd hc h)
theorem qv_icmp_leNf {x y : Int32} {p q : Nat} {tt : Int} {nx : Nat} (hx : x = nI p) (hy : y = nI q) (hp : p < 2 ^ 31) (hq : q < 2 ^ 31) (hc : ¬ (p ≤ q)) (hn : b + 1 = nx) (k2 : qW X PR d ret code nx L st s Q) : qV X PR d ret code b (.if_icmp .le tt :: is) L (.int y :: .int x :: st) s Q := qv_icmp_leN hx hy hp hq (tgt := tt.toNat) rfl hn (fun h => absurd h hc) (fun _ => k2)
theorem qv_if_eqB {p : Prop} [hdec : Decidable p] {tt : Int} {tgt nx : Nat} (ht : tt.toNat = tgt) (hn : b + 1 = nx) (k1 : ¬ p → qW X PR d ret code tgt L st s Q) (k2 : p → qW X PR d ret code nx L st s Q) : qV X PR d ret code b (.ifCond .eq tt :: is) L (.int (bI p) :: st) s Q := qv_if_eq ht hn (fun h => k1 (fun z => by rw [bI_t z] at h; exact absurd h (by decide))) (fun h => k2 (bI_ne.mp h))
theorem qv_if_neB {p : Prop} [hdec : Decidable p] {tt : Int} {tgt nx : Nat} (ht : tt.toNat = tgt) (hn : b + 1 = nx) (k1 : p → qW X PR d ret code tgt L st s Q) (k2 : ¬ p → qW X PR d ret code nx L st s Q) : qV X PR d ret code b (.ifCond .ne tt :: is) L (.int (bI p) :: st) s Q := qv_if_ne ht hn (fun h => k1 (bI_ne.mp h)) (fun h => k2 (fun z => h (by rw [bI_t z]; decide)))
end
/-- outside the cells lo .. hi nothing changes -/
def qfr (lo hi : Nat) (s s' : QST) : Prop := (∀ c, ¬ (lo ≤ c ∧ c ≤ hi) → qF s' c = qF s c ∧ qE s' c = qE s c ∧ qL s' c = qL s c ∧ qT s' c = qT s c) ∧ qX s' = qX s ∧ qR s' = qR s ∧ qN s' = qN s
theorem qfr.rf {lo hi : Nat} (s : QST) : qfr lo hi s s := ⟨fun _ _ => ⟨rfl, rfl, rfl, rfl⟩, rfl, rfl, rfl⟩
theorem qfr.trans {lo hi : Nat} {s t u : QST} (h : qfr lo hi s t) (g : qfr lo hi t u) : qfr lo hi s u := ⟨fun c hc => ⟨(g.1 c hc).1.trans (h.1 c hc).1, (g.1 c hc).2.1.trans (h.1 c hc).2.1, (g.1 c hc).2.2.1.trans (h.1 c hc).2.2.1, (g.1 c hc).2.2.2.trans (h.1 c hc).2.2.2⟩, g.2.1.trans h.2.1, g.2.2.1.trans h.2.2.1, g.2.2.2.trans h.2.2.2⟩
theorem qfr.mono {lo hi lo' hi' : Nat} {s t : QST} (h : qfr lo hi s t) (h1 : lo' ≤ lo) (h2 : hi ≤ hi') : qfr lo' hi' s t := ⟨fun c hc => h.1 c (by omega), h.2⟩
theorem qfr.F {lo hi : Nat} {s t : QST} (h : qfr lo hi s t) {c : Nat} (hc : ¬ (lo ≤ c ∧ c ≤ hi)) : qF t c = qF s c := (h.1 c hc).1
theorem qfr.E {lo hi : Nat} {s t : QST} (h : qfr lo hi s t) {c : Nat} (hc : ¬ (lo ≤ c ∧ c ≤ hi)) : qE t c = qE s c := (h.1 c hc).2.1
theorem qfr.L {lo hi : Nat} {s t : QST} (h : qfr lo hi s t) {c : Nat} (hc : ¬ (lo ≤ c ∧ c ≤ hi)) : qL t c = qL s c := (h.1 c hc).2.2.1
theorem qfr.T {lo hi : Nat} {s t : QST} (h : qfr lo hi s t) {c : Nat} (hc : ¬ (lo ≤ c ∧ c ≤ hi)) : qT t c = qT s c := (h.1 c hc).2.2.2
theorem qfr.f {lo hi : Nat} {s t : QST} (h : qfr lo hi s t) {c : Nat} (hc : ¬ (lo ≤ c ∧ c ≤ hi)) {k : Nat} : qF t c k = qF s c k := congrFun (h.F hc) k
theorem qfr.e {lo hi : Nat} {s t : QST} (h : qfr lo hi s t) {c : Nat} (hc : ¬ (lo ≤ c ∧ c ≤ hi)) {k : Nat} : qE t c k = qE s c k := congrFun (h.E hc) k
theorem qfr.X {lo hi : Nat} {s t : QST} (h : qfr lo hi s t) : qX t = qX s := h.2.1
theorem qfr.R {lo hi : Nat} {s t : QST} (h : qfr lo hi s t) : qR t = qR s := h.2.2.1
theorem qfr.N {lo hi : Nat} {s t : QST} (h : qfr lo hi s t) : qN t = qN s := h.2.2.2
theorem qfr.uF {lo hi : Nat} {s t : QST} {c k : Nat} {v : Int32} (h : qfr lo hi s t) (hc : lo ≤ c ∧ c ≤ hi) : qfr lo hi s (uF t c k v) := h.trans ⟨fun c' hc' => ⟨qF_uFc (fun z => hc' (z ▸ hc)), rfl, rfl, rfl⟩, rfl, rfl, rfl⟩
theorem qfr.uE {lo hi : Nat} {s t : QST} {c k : Nat} {v : Int32} (h : qfr lo hi s t) (hc : lo ≤ c ∧ c ≤ hi) : qfr lo hi s (uE t c k v) := h.trans ⟨fun c' hc' => ⟨rfl, qE_uEc (fun z => hc' (z ▸ hc)), rfl, rfl⟩, rfl, rfl, rfl⟩
theorem qfr.uL {lo hi : Nat} {s t : QST} {c k : Nat} {v : Int64} (h : qfr lo hi s t) (hc : lo ≤ c ∧ c ≤ hi) : qfr lo hi s (uL t c k v) := h.trans ⟨fun c' hc' => ⟨rfl, rfl, qL_uLc (fun z => hc' (z ▸ hc)), rfl⟩, rfl, rfl, rfl⟩
theorem qfr.uT {lo hi : Nat} {s t : QST} {c k : Nat} {v : Option Nat} (h : qfr lo hi s t) (hc : lo ≤ c ∧ c ≤ hi) : qfr lo hi s (uT t c k v) := h.trans ⟨fun c' hc' => ⟨rfl, rfl, rfl, qT_uTc (fun z => hc' (z ▸ hc))⟩, rfl, rfl, rfl⟩
theorem qfr.uA {lo hi : Nat} {s t : QST} {c : Nat} {g : Nat → Int32} (h : qfr lo hi s t) (hc : lo ≤ c ∧ c ≤ hi) : qfr lo hi s (uA t c g) := h.trans ⟨fun c' hc' => ⟨rfl, qE_uAc (fun z => hc' (z ▸ hc)), rfl, rfl⟩, rfl, rfl, rfl⟩
set_option maxRecDepth 10000 in
theorem ms_Integer_bitCount : pm_Ms[1]? = some md_Integer_bitCount := rfl
set_option maxRecDepth 10000 in
theorem ms_Arrays_copyOf : pm_Ms[3]? = some md_Arrays_copyOf := rfl
set_option maxRecDepth 10000 in
theorem ms_Chamber_init : pm_Ms[4]? = some md_Chamber_init := rfl
set_option maxRecDepth 10000 in
theorem ms_Chamber_memberAt : pm_Ms[5]? = some md_Chamber_memberAt := rfl
set_option maxRecDepth 10000 in
theorem ms_Chamber_treeAt : pm_Ms[6]? = some md_Chamber_treeAt := rfl
set_option maxRecDepth 10000 in
theorem ms_Chamber_takeOver : pm_Ms[7]? = some md_Chamber_takeOver := rfl
set_option maxRecDepth 10000 in
theorem ms_Chamber_allVoices : pm_Ms[8]? = some md_Chamber_allVoices := rfl
set_option maxRecDepth 10000 in
theorem ms_Chamber_allQuestions : pm_Ms[9]? = some md_Chamber_allQuestions := rfl
set_option maxRecDepth 10000 in
theorem ms_Chamber_allWeight : pm_Ms[10]? = some md_Chamber_allWeight := rfl
set_option maxRecDepth 10000 in
theorem ms_Hall_init : pm_Ms[11]? = some md_Hall_init := rfl
set_option maxRecDepth 10000 in
theorem ms_Hall_seat : pm_Ms[12]? = some md_Hall_seat := rfl
set_option maxRecDepth 10000 in
theorem ms_Hall_settle : pm_Ms[13]? = some md_Hall_settle := rfl
set_option maxRecDepth 10000 in
theorem ms_Hall_settleQuestion : pm_Ms[14]? = some md_Hall_settleQuestion := rfl
set_option maxRecDepth 10000 in
theorem ms_Hall_settleChoice : pm_Ms[23]? = some md_Hall_settleChoice := rfl
set_option maxRecDepth 10000 in
theorem ms_Hall_settleEnd : pm_Ms[24]? = some md_Hall_settleEnd := rfl
set_option maxRecDepth 10000 in
theorem ms_Hall_voteIn : pm_Ms[25]? = some md_Hall_voteIn := rfl
set_option maxRecDepth 10000 in
theorem ms_Hall_makeAll : pm_Ms[26]? = some md_Hall_makeAll := rfl
set_option maxRecDepth 10000 in
theorem ms_Hall_rememberWinners : pm_Ms[27]? = some md_Hall_rememberWinners := rfl
set_option maxRecDepth 10000 in
theorem ms_Hall_firstOtherWinner : pm_Ms[28]? = some md_Hall_firstOtherWinner := rfl
set_option maxRecDepth 10000 in
theorem ms_Hall_killerBits : pm_Ms[29]? = some md_Hall_killerBits := rfl
set_option maxRecDepth 10000 in
theorem ms_Hall_putAgainst : pm_Ms[30]? = some md_Hall_putAgainst := rfl
set_option maxRecDepth 10000 in
theorem ms_Hall_shieldBits : pm_Ms[31]? = some md_Hall_shieldBits := rfl
set_option maxRecDepth 10000 in
theorem ms_Hall_seatOthers : pm_Ms[32]? = some md_Hall_seatOthers := rfl
set_option maxRecDepth 10000 in
theorem ms_Laws_init : pm_Ms[33]? = some md_Laws_init := rfl
set_option maxRecDepth 10000 in
theorem ms_Laws_assemble : pm_Ms[34]? = some md_Laws_assemble := rfl
set_option maxRecDepth 10000 in
theorem ms_Laws_reckonEnds : pm_Ms[35]? = some md_Laws_reckonEnds := rfl
set_option maxRecDepth 10000 in
theorem ms_Laws_like : pm_Ms[36]? = some md_Laws_like := rfl
set_option maxRecDepth 10000 in
theorem ms_Laws_firstBreach : pm_Ms[37]? = some md_Laws_firstBreach := rfl
set_option maxRecDepth 10000 in
theorem ms_Laws_missesBest : pm_Ms[38]? = some md_Laws_missesBest := rfl
set_option maxRecDepth 10000 in
theorem ms_Laws_isBrokenByOne : pm_Ms[39]? = some md_Laws_isBrokenByOne := rfl
set_option maxRecDepth 10000 in
theorem ms_Laws_fallsWhenLifted : pm_Ms[40]? = some md_Laws_fallsWhenLifted := rfl
set_option maxRecDepth 10000 in
theorem ms_Laws_gainsByLying : pm_Ms[41]? = some md_Laws_gainsByLying := rfl
set_option maxRecDepth 10000 in
theorem ms_Member_init : pm_Ms[42]? = some md_Member_init := rfl
set_option maxRecDepth 10000 in
theorem ms_Member_begin : pm_Ms[43]? = some md_Member_begin := rfl
set_option maxRecDepth 10000 in
theorem ms_Member_takeOver : pm_Ms[45]? = some md_Member_takeOver := rfl
set_option maxRecDepth 10000 in
theorem ms_Member_tellWishes : pm_Ms[46]? = some md_Member_tellWishes := rfl
set_option maxRecDepth 10000 in
theorem ms_Orders_init : pm_Ms[49]? = some md_Orders_init := rfl
set_option maxRecDepth 10000 in
theorem ms_Orders_weigh : pm_Ms[50]? = some md_Orders_weigh := rfl
set_option maxRecDepth 10000 in
theorem ms_Orders_lineUp : pm_Ms[51]? = some md_Orders_lineUp := rfl
set_option maxRecDepth 10000 in
theorem ms_Orders_comesOf : pm_Ms[52]? = some md_Orders_comesOf := rfl
set_option maxRecDepth 10000 in
theorem ms_Orders_comesDeep : pm_Ms[53]? = some md_Orders_comesDeep := rfl
set_option maxRecDepth 10000 in
theorem ms_Orders_comesPlain : pm_Ms[54]? = some md_Orders_comesPlain := rfl
set_option maxRecDepth 10000 in
theorem ms_Orders_reachBits : pm_Ms[55]? = some md_Orders_reachBits := rfl
set_option maxRecDepth 10000 in
theorem ms_Orders_peakBits : pm_Ms[56]? = some md_Orders_peakBits := rfl
set_option maxRecDepth 10000 in
theorem ms_Orders_peakOf : pm_Ms[57]? = some md_Orders_peakOf := rfl
set_option maxRecDepth 10000 in
theorem ms_Orders_isBeatenWhole : pm_Ms[58]? = some md_Orders_isBeatenWhole := rfl
set_option maxRecDepth 10000 in
theorem ms_Orders_topBits : pm_Ms[59]? = some md_Orders_topBits := rfl
set_option maxRecDepth 10000 in
theorem ms_Orders_reachedFrom : pm_Ms[60]? = some md_Orders_reachedFrom := rfl
set_option maxRecDepth 10000 in
theorem ms_Orders_firstFor : pm_Ms[61]? = some md_Orders_firstFor := rfl
set_option maxRecDepth 10000 in
theorem ms_Orders_spread : pm_Ms[62]? = some md_Orders_spread := rfl
set_option maxRecDepth 10000 in
theorem ms_Orders_digits : pm_Ms[63]? = some md_Orders_digits := rfl
set_option maxRecDepth 10000 in
theorem ms_Orders_nextRow : pm_Ms[64]? = some md_Orders_nextRow := rfl
set_option maxRecDepth 10000 in
theorem ms_Orders_change : pm_Ms[65]? = some md_Orders_change := rfl
set_option maxRecDepth 10000 in
theorem ms_Orders_beatsAll : pm_Ms[66]? = some md_Orders_beatsAll := rfl
set_option maxRecDepth 10000 in
theorem ms_Orders_uncoveredBits : pm_Ms[67]? = some md_Orders_uncoveredBits := rfl
set_option maxRecDepth 10000 in
theorem ms_Orders_ringAt : pm_Ms[68]? = some md_Orders_ringAt := rfl
set_option maxRecDepth 10000 in
theorem ms_Orders_isRing : pm_Ms[69]? = some md_Orders_isRing := rfl
set_option maxRecDepth 10000 in
theorem ms_Orders_byRanks : pm_Ms[70]? = some md_Orders_byRanks := rfl
set_option maxRecDepth 10000 in
theorem ms_Orders_greatestOf : pm_Ms[71]? = some md_Orders_greatestOf := rfl
set_option maxRecDepth 10000 in
theorem ms_Plots_init : pm_Ms[72]? = some md_Plots_init := rfl
set_option maxRecDepth 10000 in
theorem ms_Plots_plainOnes : pm_Ms[73]? = some md_Plots_plainOnes := rfl
set_option maxRecDepth 10000 in
theorem ms_Plots_fewestOf : pm_Ms[74]? = some md_Plots_fewestOf := rfl
set_option maxRecDepth 10000 in
theorem ms_Plots_makeOfKind : pm_Ms[75]? = some md_Plots_makeOfKind := rfl
set_option maxRecDepth 10000 in
theorem ms_Plots_firstGaining : pm_Ms[76]? = some md_Plots_firstGaining := rfl
set_option maxRecDepth 10000 in
theorem ms_Plots_chanceOf : pm_Ms[77]? = some md_Plots_chanceOf := rfl
set_option maxRecDepth 10000 in
theorem ms_Plots_seatDoubtful : pm_Ms[78]? = some md_Plots_seatDoubtful := rfl
set_option maxRecDepth 10000 in
theorem ms_Plots_suppose : pm_Ms[79]? = some md_Plots_suppose := rfl
set_option maxRecDepth 10000 in
theorem ms_Plots_allOnes : pm_Ms[80]? = some md_Plots_allOnes := rfl
set_option maxRecDepth 10000 in
theorem ms_Plots_findLie : pm_Ms[81]? = some md_Plots_findLie := rfl
set_option maxRecDepth 10000 in
theorem ms_Plots_mattering : pm_Ms[82]? = some md_Plots_mattering := rfl
set_option maxRecDepth 10000 in
theorem ms_Plots_there : pm_Ms[83]? = some md_Plots_there := rfl
set_option maxRecDepth 10000 in
theorem ms_Plots_leastWish : pm_Ms[84]? = some md_Plots_leastWish := rfl
set_option maxRecDepth 10000 in
theorem ms_Plots_lieDigits : pm_Ms[85]? = some md_Plots_lieDigits := rfl
set_option maxRecDepth 10000 in
theorem ms_Plots_beatsIn : pm_Ms[86]? = some md_Plots_beatsIn := rfl
set_option maxRecDepth 10000 in
theorem ms_Reader_init : pm_Ms[87]? = some md_Reader_init := rfl
set_option maxRecDepth 10000 in
theorem ms_Reader_faultOf : pm_Ms[88]? = some md_Reader_faultOf := rfl
set_option maxRecDepth 10000 in
theorem ms_Reader_readPart : pm_Ms[89]? = some md_Reader_readPart := rfl
set_option maxRecDepth 10000 in
theorem ms_Reader_readQuestion : pm_Ms[90]? = some md_Reader_readQuestion := rfl
set_option maxRecDepth 10000 in
theorem ms_Reader_addNode : pm_Ms[91]? = some md_Reader_addNode := rfl
set_option maxRecDepth 10000 in
theorem ms_Reader_readSign : pm_Ms[92]? = some md_Reader_readSign := rfl
set_option maxRecDepth 10000 in
theorem ms_Reader_readChoice : pm_Ms[93]? = some md_Reader_readChoice := rfl
set_option maxRecDepth 10000 in
theorem ms_Reader_readPair : pm_Ms[94]? = some md_Reader_readPair := rfl
set_option maxRecDepth 10000 in
theorem ms_Reader_readEnd : pm_Ms[95]? = some md_Reader_readEnd := rfl
set_option maxRecDepth 10000 in
theorem ms_Reader_treeRead : pm_Ms[96]? = some md_Reader_treeRead := rfl
set_option maxRecDepth 10000 in
theorem ms_Shelf_init : pm_Ms[97]? = some md_Shelf_init := rfl
set_option maxRecDepth 10000 in
theorem ms_Shelf_bytesRefusal : pm_Ms[98]? = some md_Shelf_bytesRefusal := rfl
set_option maxRecDepth 10000 in
theorem ms_Shelf_refusalUnless : pm_Ms[99]? = some md_Shelf_refusalUnless := rfl
set_option maxRecDepth 10000 in
theorem ms_Shelf_holdsWishes : pm_Ms[100]? = some md_Shelf_holdsWishes := rfl
set_option maxRecDepth 10000 in
theorem ms_Shelf_beginRow : pm_Ms[101]? = some md_Shelf_beginRow := rfl
set_option maxRecDepth 10000 in
theorem ms_Shelf_rowRefusal : pm_Ms[102]? = some md_Shelf_rowRefusal := rfl
set_option maxRecDepth 10000 in
theorem ms_Shelf_lowestBits : pm_Ms[103]? = some md_Shelf_lowestBits := rfl
set_option maxRecDepth 10000 in
theorem ms_Shelf_hasPlaces : pm_Ms[104]? = some md_Shelf_hasPlaces := rfl
set_option maxRecDepth 10000 in
theorem ms_Shelf_memberRefusal : pm_Ms[105]? = some md_Shelf_memberRefusal := rfl
set_option maxRecDepth 10000 in
theorem ms_Tree_init : pm_Ms[106]? = some md_Tree_init := rfl
set_option maxRecDepth 10000 in
theorem ms_Tree_nodeOf : pm_Ms[107]? = some md_Tree_nodeOf := rfl
set_option maxRecDepth 10000 in
theorem ms_Tree_questionsAhead : pm_Ms[108]? = some md_Tree_questionsAhead := rfl
set_option maxRecDepth 10000 in
theorem ms_Desk_init : pm_Ms[109]? = some md_Desk_init := rfl
set_option maxRecDepth 10000 in
theorem ms_Desk_set : pm_Ms[110]? = some md_Desk_set := rfl
set_option maxRecDepth 10000 in
theorem ms_Desk_member : pm_Ms[112]? = some md_Desk_member := rfl
set_option maxRecDepth 10000 in
theorem ms_Desk_fits : pm_Ms[113]? = some md_Desk_fits := rfl
set_option maxRecDepth 10000 in
theorem ms_Desk_bought : pm_Ms[114]? = some md_Desk_bought := rfl
set_option maxRecDepth 10000 in
theorem ms_Desk_becomes : pm_Ms[116]? = some md_Desk_becomes := rfl
set_option maxRecDepth 10000 in
theorem ms_Desk_wish : pm_Ms[117]? = some md_Desk_wish := rfl
set_option maxRecDepth 10000 in
theorem ms_Desk_changeWish : pm_Ms[118]? = some md_Desk_changeWish := rfl
set_option maxRecDepth 10000 in
theorem ms_Desk_doubted : pm_Ms[119]? = some md_Desk_doubted := rfl
set_option maxRecDepth 10000 in
theorem ms_Desk_sure : pm_Ms[120]? = some md_Desk_sure := rfl
set_option maxRecDepth 10000 in
theorem ms_Desk_about : pm_Ms[121]? = some md_Desk_about := rfl
set_option maxRecDepth 10000 in
theorem ms_Desk_fault : pm_Ms[122]? = some md_Desk_fault := rfl
set_option maxRecDepth 10000 in
theorem ms_Desk_shelfAt : pm_Ms[123]? = some md_Desk_shelfAt := rfl
set_option maxRecDepth 10000 in
theorem ms_Desk_tree : pm_Ms[124]? = some md_Desk_tree := rfl
set_option maxRecDepth 10000 in
theorem ms_Desk_of : pm_Ms[125]? = some md_Desk_of := rfl
set_option maxRecDepth 10000 in
theorem ms_Desk_beat : pm_Ms[126]? = some md_Desk_beat := rfl
set_option maxRecDepth 10000 in
theorem ms_Desk_stands : pm_Ms[127]? = some md_Desk_stands := rfl
set_option maxRecDepth 10000 in
theorem ms_Desk_run : pm_Ms[128]? = some md_Desk_run := rfl
set_option maxRecDepth 10000 in
theorem ms_Desk_ask : pm_Ms[129]? = some md_Desk_ask := rfl
set_option maxRecDepth 10000 in
theorem ms_Desk_wonBy : pm_Ms[130]? = some md_Desk_wonBy := rfl
set_option maxRecDepth 10000 in
theorem ms_Desk_why : pm_Ms[131]? = some md_Desk_why := rfl
set_option maxRecDepth 10000 in
theorem ms_Desk_ifAll : pm_Ms[132]? = some md_Desk_ifAll := rfl
set_option maxRecDepth 10000 in
theorem ms_Desk_comesIfAll : pm_Ms[133]? = some md_Desk_comesIfAll := rfl
set_option maxRecDepth 10000 in
theorem ms_Desk_parts : pm_Ms[134]? = some md_Desk_parts := rfl
set_option maxRecDepth 10000 in
theorem ms_Desk_order : pm_Ms[135]? = some md_Desk_order := rfl
set_option maxRecDepth 10000 in
theorem ms_Desk_weighOrders : pm_Ms[136]? = some md_Desk_weighOrders := rfl
set_option maxRecDepth 10000 in
theorem ms_Desk_reach : pm_Ms[137]? = some md_Desk_reach := rfl
set_option maxRecDepth 10000 in
theorem ms_Desk_first : pm_Ms[138]? = some md_Desk_first := rfl
set_option maxRecDepth 10000 in
theorem ms_Desk_isThere : pm_Ms[139]? = some md_Desk_isThere := rfl
set_option maxRecDepth 10000 in
theorem ms_Desk_best : pm_Ms[140]? = some md_Desk_best := rfl
set_option maxRecDepth 10000 in
theorem ms_Desk_top : pm_Ms[141]? = some md_Desk_top := rfl
set_option maxRecDepth 10000 in
theorem ms_Desk_killers : pm_Ms[142]? = some md_Desk_killers := rfl
set_option maxRecDepth 10000 in
theorem ms_Desk_shields : pm_Ms[143]? = some md_Desk_shields := rfl
set_option maxRecDepth 10000 in
theorem ms_Desk_tell : pm_Ms[144]? = some md_Desk_tell := rfl
set_option maxRecDepth 10000 in
theorem ms_Desk_falseVote : pm_Ms[145]? = some md_Desk_falseVote := rfl
set_option maxRecDepth 10000 in
theorem ms_Desk_chance : pm_Ms[146]? = some md_Desk_chance := rfl
set_option maxRecDepth 10000 in
theorem ms_Desk_boughtOff : pm_Ms[147]? = some md_Desk_boughtOff := rfl
set_option maxRecDepth 10000 in
theorem ms_Desk_bestLie : pm_Ms[148]? = some md_Desk_bestLie := rfl
set_option maxRecDepth 10000 in
theorem ms_Desk_surely : pm_Ms[149]? = some md_Desk_surely := rfl
set_option maxRecDepth 10000 in
theorem ms_Desk_ring : pm_Ms[150]? = some md_Desk_ring := rfl
set_option maxRecDepth 10000 in
theorem ms_Desk_usual : pm_Ms[151]? = some md_Desk_usual := rfl
set_option maxRecDepth 10000 in
theorem ms_Desk_breach : pm_Ms[152]? = some md_Desk_breach := rfl
set_option maxRecDepth 10000 in
theorem ms_Desk_finds : pm_Ms[153]? = some md_Desk_finds := rfl
set_option maxRecDepth 10000 in
theorem ms_Desk_image : pm_Ms[154]? = some md_Desk_image := rfl
set_option maxRecDepth 10000 in
theorem ms_Desk_restore : pm_Ms[155]? = some md_Desk_restore := rfl
set_option maxRecDepth 10000 in
theorem ms_Desk_count : pm_Ms[156]? = some md_Desk_count := rfl
set_option maxRecDepth 10000 in
theorem ms_Desk_keep : pm_Ms[157]? = some md_Desk_keep := rfl
set_option maxRecDepth 10000 in
theorem ms_Desk_row : pm_Ms[158]? = some md_Desk_row := rfl
set_option maxRecDepth 10000 in
theorem ms_Desk_put : pm_Ms[159]? = some md_Desk_put := rfl
set_option maxRecDepth 10000 in
theorem ms_Desk_copy : pm_Ms[160]? = some md_Desk_copy := rfl
set_option maxRecDepth 10000 in
theorem ms_Desk_heft : pm_Ms[161]? = some md_Desk_heft := rfl
set_option maxRecDepth 10000 in
theorem ms_Desk_toss : pm_Ms[162]? = some md_Desk_toss := rfl
set_option maxRecDepth 10000 in
theorem ms_Model_init : pm_Ms[163]? = some md_Model_init := rfl
set_option maxRecDepth 10000 in
theorem ms_Model_thrown : pm_Ms[164]? = some md_Model_thrown := rfl
set_option maxRecDepth 10000 in
theorem ms_Model_member : pm_Ms[167]? = some md_Model_member := rfl
set_option maxRecDepth 10000 in
theorem ms_Model_bought : pm_Ms[169]? = some md_Model_bought := rfl
set_option maxRecDepth 10000 in
theorem ms_Model_becomes : pm_Ms[172]? = some md_Model_becomes := rfl
set_option maxRecDepth 10000 in
theorem ms_Model_wish : pm_Ms[173]? = some md_Model_wish := rfl
set_option maxRecDepth 10000 in
theorem ms_Model_doubted : pm_Ms[175]? = some md_Model_doubted := rfl
set_option maxRecDepth 10000 in
theorem ms_Model_sure : pm_Ms[176]? = some md_Model_sure := rfl
set_option maxRecDepth 10000 in
theorem ms_Model_about : pm_Ms[177]? = some md_Model_about := rfl
set_option maxRecDepth 10000 in
theorem ms_Model_fault : pm_Ms[179]? = some md_Model_fault := rfl
set_option maxRecDepth 10000 in
theorem ms_Model_lacks : pm_Ms[180]? = some md_Model_lacks := rfl
set_option maxRecDepth 10000 in
theorem ms_Model_faultOf : pm_Ms[181]? = some md_Model_faultOf := rfl
set_option maxRecDepth 10000 in
theorem ms_Model_here : pm_Ms[182]? = some md_Model_here := rfl
set_option maxRecDepth 10000 in
theorem ms_Model_begin : pm_Ms[183]? = some md_Model_begin := rfl
set_option maxRecDepth 10000 in
theorem ms_Model_readEnd : pm_Ms[184]? = some md_Model_readEnd := rfl
set_option maxRecDepth 10000 in
theorem ms_Model_take : pm_Ms[185]? = some md_Model_take := rfl
set_option maxRecDepth 10000 in
theorem ms_Model_add : pm_Ms[186]? = some md_Model_add := rfl
set_option maxRecDepth 10000 in
theorem ms_Model_part : pm_Ms[187]? = some md_Model_part := rfl
set_option maxRecDepth 10000 in
theorem ms_Model_tree : pm_Ms[188]? = some md_Model_tree := rfl
set_option maxRecDepth 10000 in
theorem ms_Model_beat : pm_Ms[189]? = some md_Model_beat := rfl
set_option maxRecDepth 10000 in
theorem ms_Model_stands : pm_Ms[196]? = some md_Model_stands := rfl
set_option maxRecDepth 10000 in
theorem ms_Model_of : pm_Ms[199]? = some md_Model_of := rfl
set_option maxRecDepth 10000 in
theorem ms_Model_run : pm_Ms[211]? = some md_Model_run := rfl
set_option maxRecDepth 10000 in
theorem ms_Model_ask : pm_Ms[212]? = some md_Model_ask := rfl
set_option maxRecDepth 10000 in
theorem ms_Model_isQuestion : pm_Ms[213]? = some md_Model_isQuestion := rfl
set_option maxRecDepth 10000 in
theorem ms_Model_nodeOf : pm_Ms[214]? = some md_Model_nodeOf := rfl
set_option maxRecDepth 10000 in
theorem ms_Model_wonBy : pm_Ms[215]? = some md_Model_wonBy := rfl
set_option maxRecDepth 10000 in
theorem ms_Model_why : pm_Ms[216]? = some md_Model_why := rfl
set_option maxRecDepth 10000 in
theorem ms_Model_ifAll : pm_Ms[217]? = some md_Model_ifAll := rfl
set_option maxRecDepth 10000 in
theorem ms_Model_parts : pm_Ms[218]? = some md_Model_parts := rfl
set_option maxRecDepth 10000 in
theorem ms_Model_order : pm_Ms[219]? = some md_Model_order := rfl
set_option maxRecDepth 10000 in
theorem ms_Model_orderEnds : pm_Ms[221]? = some md_Model_orderEnds := rfl
set_option maxRecDepth 10000 in
theorem ms_Model_reach : pm_Ms[222]? = some md_Model_reach := rfl
set_option maxRecDepth 10000 in
theorem ms_Model_allOrders : pm_Ms[223]? = some md_Model_allOrders := rfl
set_option maxRecDepth 10000 in
theorem ms_Model_findOrder : pm_Ms[224]? = some md_Model_findOrder := rfl
set_option maxRecDepth 10000 in
theorem ms_Model_first : pm_Ms[225]? = some md_Model_first := rfl
set_option maxRecDepth 10000 in
theorem ms_Model_best : pm_Ms[226]? = some md_Model_best := rfl
set_option maxRecDepth 10000 in
theorem ms_Model_top : pm_Ms[227]? = some md_Model_top := rfl
set_option maxRecDepth 10000 in
theorem ms_Model_reachedFrom : pm_Ms[228]? = some md_Model_reachedFrom := rfl
set_option maxRecDepth 10000 in
theorem ms_Model_isCovered : pm_Ms[229]? = some md_Model_isCovered := rfl
set_option maxRecDepth 10000 in
theorem ms_Model_killers : pm_Ms[230]? = some md_Model_killers := rfl
set_option maxRecDepth 10000 in
theorem ms_Model_isKiller : pm_Ms[231]? = some md_Model_isKiller := rfl
set_option maxRecDepth 10000 in
theorem ms_Model_against : pm_Ms[232]? = some md_Model_against := rfl
set_option maxRecDepth 10000 in
theorem ms_Model_shields : pm_Ms[233]? = some md_Model_shields := rfl
set_option maxRecDepth 10000 in
theorem ms_Model_tell : pm_Ms[234]? = some md_Model_tell := rfl
set_option maxRecDepth 10000 in
theorem ms_Model_ones : pm_Ms[235]? = some md_Model_ones := rfl
set_option maxRecDepth 10000 in
theorem ms_Model_falseVote : pm_Ms[236]? = some md_Model_falseVote := rfl
set_option maxRecDepth 10000 in
theorem ms_Model_chance : pm_Ms[237]? = some md_Model_chance := rfl
set_option maxRecDepth 10000 in
theorem ms_Model_findUnsure : pm_Ms[238]? = some md_Model_findUnsure := rfl
set_option maxRecDepth 10000 in
theorem ms_Model_boughtOff : pm_Ms[239]? = some md_Model_boughtOff := rfl
set_option maxRecDepth 10000 in
theorem ms_Model_bestLie : pm_Ms[240]? = some md_Model_bestLie := rfl
set_option maxRecDepth 10000 in
theorem ms_Model_surely : pm_Ms[241]? = some md_Model_surely := rfl
set_option maxRecDepth 10000 in
theorem ms_Model_ring : pm_Ms[242]? = some md_Model_ring := rfl
set_option maxRecDepth 10000 in
theorem ms_Model_findRing : pm_Ms[243]? = some md_Model_findRing := rfl
set_option maxRecDepth 10000 in
theorem ms_Model_usual : pm_Ms[244]? = some md_Model_usual := rfl
set_option maxRecDepth 10000 in
theorem ms_Model_breach : pm_Ms[245]? = some md_Model_breach := rfl
set_option maxRecDepth 10000 in
theorem ms_Model_findChamber : pm_Ms[246]? = some md_Model_findChamber := rfl
set_option maxRecDepth 10000 in
theorem ms_Model_breaks : pm_Ms[247]? = some md_Model_breaks := rfl
set_option maxRecDepth 10000 in
theorem ms_Model_lifted : pm_Ms[248]? = some md_Model_lifted := rfl
set_option maxRecDepth 10000 in
theorem ms_Model_finds : pm_Ms[249]? = some md_Model_finds := rfl
set_option maxRecDepth 10000 in
theorem ms_Model_image : pm_Ms[250]? = some md_Model_image := rfl
set_option maxRecDepth 10000 in
theorem ms_Model_restore : pm_Ms[251]? = some md_Model_restore := rfl
set_option maxRecDepth 10000 in
theorem ms_Model_count : pm_Ms[252]? = some md_Model_count := rfl
set_option maxRecDepth 10000 in
theorem ms_Model_keep : pm_Ms[253]? = some md_Model_keep := rfl
set_option maxRecDepth 10000 in
theorem ms_Model_failureOf : pm_Ms[254]? = some md_Model_failureOf := rfl
set_option maxRecDepth 10000 in
theorem ms_Model_row : pm_Ms[255]? = some md_Model_row := rfl
set_option maxRecDepth 10000 in
theorem ms_Model_put : pm_Ms[256]? = some md_Model_put := rfl
set_option maxRecDepth 10000 in
theorem ms_Model_wrongRow : pm_Ms[257]? = some md_Model_wrongRow := rfl
set_option maxRecDepth 10000 in
theorem ms_Model_narrowed : pm_Ms[258]? = some md_Model_narrowed := rfl
set_option maxRecDepth 10000 in
theorem ms_Model_element : pm_Ms[259]? = some md_Model_element := rfl
set_option maxRecDepth 10000 in
theorem ms_Model_copy : pm_Ms[260]? = some md_Model_copy := rfl
set_option maxRecDepth 10000 in
theorem ms_Model_heft : pm_Ms[261]? = some md_Model_heft := rfl
set_option maxRecDepth 10000 in
theorem ms_Model_wrongShelf : pm_Ms[262]? = some md_Model_wrongShelf := rfl
set_option maxRecDepth 10000 in
theorem ms_Model_toss : pm_Ms[263]? = some md_Model_toss := rfl
set_option maxRecDepth 10000 in
theorem ms_Law_element : pm_Ms[264]? = some md_Law_element := rfl
theorem sg_Integer_signum : pm_sig pm_Ms 0 = some (1, 99) := by unfold pm_sig; rw [ms_Integer_signum]; rfl
theorem sg_Integer_bitCount : pm_sig pm_Ms 1 = some (1, 99) := by unfold pm_sig; rw [ms_Integer_bitCount]; rfl
theorem sg_Arrays_fill : pm_sig pm_Ms 2 = some (2, 99) := by unfold pm_sig; rw [ms_Arrays_fill]; rfl
theorem sg_Arrays_copyOf : pm_sig pm_Ms 3 = some (2, 99) := by unfold pm_sig; rw [ms_Arrays_copyOf]; rfl
theorem sg_Chamber_init : pm_sig pm_Ms 4 = some (0, 0) := by unfold pm_sig; rw [ms_Chamber_init]; rfl
theorem sg_Chamber_memberAt : pm_sig pm_Ms 5 = some (1, 0) := by unfold pm_sig; rw [ms_Chamber_memberAt]; rfl
theorem sg_Chamber_treeAt : pm_sig pm_Ms 6 = some (1, 0) := by unfold pm_sig; rw [ms_Chamber_treeAt]; rfl
theorem sg_Chamber_takeOver : pm_sig pm_Ms 7 = some (1, 0) := by unfold pm_sig; rw [ms_Chamber_takeOver]; rfl
theorem sg_Chamber_allVoices : pm_sig pm_Ms 8 = some (0, 0) := by unfold pm_sig; rw [ms_Chamber_allVoices]; rfl
theorem sg_Chamber_allQuestions : pm_sig pm_Ms 9 = some (0, 0) := by unfold pm_sig; rw [ms_Chamber_allQuestions]; rfl
theorem sg_Chamber_allWeight : pm_sig pm_Ms 10 = some (0, 0) := by unfold pm_sig; rw [ms_Chamber_allWeight]; rfl
theorem sg_Hall_init : pm_sig pm_Ms 11 = some (0, 1) := by unfold pm_sig; rw [ms_Hall_init]; rfl
theorem sg_Hall_seat : pm_sig pm_Ms 12 = some (1, 1) := by unfold pm_sig; rw [ms_Hall_seat]; rfl
theorem sg_Hall_settle : pm_sig pm_Ms 13 = some (1, 1) := by unfold pm_sig; rw [ms_Hall_settle]; rfl
theorem sg_Hall_settleQuestion : pm_sig pm_Ms 14 = some (3, 1) := by unfold pm_sig; rw [ms_Hall_settleQuestion]; rfl
theorem sg_Hall_votesFor : pm_sig pm_Ms 15 = some (2, 1) := by unfold pm_sig; rw [ms_Hall_votesFor]; rfl
theorem sg_Hall_drawLines : pm_sig pm_Ms 16 = some (2, 1) := by unfold pm_sig; rw [ms_Hall_drawLines]; rfl
theorem sg_Hall_voteOf : pm_sig pm_Ms 17 = some (3, 1) := by unfold pm_sig; rw [ms_Hall_voteOf]; rfl
theorem sg_Hall_sideOfBought : pm_sig pm_Ms 18 = some (3, 1) := by unfold pm_sig; rw [ms_Hall_sideOfBought]; rfl
theorem sg_Hall_chairsOf : pm_sig pm_Ms 19 = some (2, 1) := by unfold pm_sig; rw [ms_Hall_chairsOf]; rfl
theorem sg_Hall_better : pm_sig pm_Ms 20 = some (2, 1) := by unfold pm_sig; rw [ms_Hall_better]; rfl
theorem sg_Hall_margin : pm_sig pm_Ms 21 = some (2, 1) := by unfold pm_sig; rw [ms_Hall_margin]; rfl
theorem sg_Hall_beats : pm_sig pm_Ms 22 = some (2, 1) := by unfold pm_sig; rw [ms_Hall_beats]; rfl
theorem sg_Hall_settleChoice : pm_sig pm_Ms 23 = some (4, 1) := by unfold pm_sig; rw [ms_Hall_settleChoice]; rfl
theorem sg_Hall_settleEnd : pm_sig pm_Ms 24 = some (2, 1) := by unfold pm_sig; rw [ms_Hall_settleEnd]; rfl
theorem sg_Hall_voteIn : pm_sig pm_Ms 25 = some (3, 1) := by unfold pm_sig; rw [ms_Hall_voteIn]; rfl
theorem sg_Hall_makeAll : pm_sig pm_Ms 26 = some (1, 1) := by unfold pm_sig; rw [ms_Hall_makeAll]; rfl
theorem sg_Hall_rememberWinners : pm_sig pm_Ms 27 = some (1, 1) := by unfold pm_sig; rw [ms_Hall_rememberWinners]; rfl
theorem sg_Hall_firstOtherWinner : pm_sig pm_Ms 28 = some (1, 1) := by unfold pm_sig; rw [ms_Hall_firstOtherWinner]; rfl
theorem sg_Hall_killerBits : pm_sig pm_Ms 29 = some (2, 1) := by unfold pm_sig; rw [ms_Hall_killerBits]; rfl
theorem sg_Hall_putAgainst : pm_sig pm_Ms 30 = some (3, 1) := by unfold pm_sig; rw [ms_Hall_putAgainst]; rfl
theorem sg_Hall_shieldBits : pm_sig pm_Ms 31 = some (3, 1) := by unfold pm_sig; rw [ms_Hall_shieldBits]; rfl
theorem sg_Hall_seatOthers : pm_sig pm_Ms 32 = some (3, 1) := by unfold pm_sig; rw [ms_Hall_seatOthers]; rfl
theorem sg_Laws_init : pm_sig pm_Ms 33 = some (1, 2) := by unfold pm_sig; rw [ms_Laws_init]; rfl
theorem sg_Laws_assemble : pm_sig pm_Ms 34 = some (3, 2) := by unfold pm_sig; rw [ms_Laws_assemble]; rfl
theorem sg_Laws_reckonEnds : pm_sig pm_Ms 35 = some (1, 2) := by unfold pm_sig; rw [ms_Laws_reckonEnds]; rfl
theorem sg_Laws_like : pm_sig pm_Ms 36 = some (1, 2) := by unfold pm_sig; rw [ms_Laws_like]; rfl
theorem sg_Laws_firstBreach : pm_sig pm_Ms 37 = some (1, 2) := by unfold pm_sig; rw [ms_Laws_firstBreach]; rfl
theorem sg_Laws_missesBest : pm_sig pm_Ms 38 = some (1, 2) := by unfold pm_sig; rw [ms_Laws_missesBest]; rfl
theorem sg_Laws_isBrokenByOne : pm_sig pm_Ms 39 = some (2, 2) := by unfold pm_sig; rw [ms_Laws_isBrokenByOne]; rfl
theorem sg_Laws_fallsWhenLifted : pm_sig pm_Ms 40 = some (3, 2) := by unfold pm_sig; rw [ms_Laws_fallsWhenLifted]; rfl
theorem sg_Laws_gainsByLying : pm_sig pm_Ms 41 = some (3, 2) := by unfold pm_sig; rw [ms_Laws_gainsByLying]; rfl
theorem sg_Member_init : pm_sig pm_Ms 42 = some (0, 3) := by unfold pm_sig; rw [ms_Member_init]; rfl
theorem sg_Member_begin : pm_sig pm_Ms 43 = some (4, 3) := by unfold pm_sig; rw [ms_Member_begin]; rfl
theorem sg_Member_weight : pm_sig pm_Ms 44 = some (0, 3) := by unfold pm_sig; rw [ms_Member_weight]; rfl
theorem sg_Member_takeOver : pm_sig pm_Ms 45 = some (1, 3) := by unfold pm_sig; rw [ms_Member_takeOver]; rfl
theorem sg_Member_tellWishes : pm_sig pm_Ms 46 = some (1, 3) := by unfold pm_sig; rw [ms_Member_tellWishes]; rfl
theorem sg_Member_ofParty : pm_sig pm_Ms 47 = some (0, 3) := by unfold pm_sig; rw [ms_Member_ofParty]; rfl
theorem sg_Member_leaning : pm_sig pm_Ms 48 = some (2, 3) := by unfold pm_sig; rw [ms_Member_leaning]; rfl
theorem sg_Orders_init : pm_sig pm_Ms 49 = some (0, 4) := by unfold pm_sig; rw [ms_Orders_init]; rfl
theorem sg_Orders_weigh : pm_sig pm_Ms 50 = some (2, 4) := by unfold pm_sig; rw [ms_Orders_weigh]; rfl
theorem sg_Orders_lineUp : pm_sig pm_Ms 51 = some (2, 4) := by unfold pm_sig; rw [ms_Orders_lineUp]; rfl
theorem sg_Orders_comesOf : pm_sig pm_Ms 52 = some (2, 4) := by unfold pm_sig; rw [ms_Orders_comesOf]; rfl
theorem sg_Orders_comesDeep : pm_sig pm_Ms 53 = some (1, 4) := by unfold pm_sig; rw [ms_Orders_comesDeep]; rfl
theorem sg_Orders_comesPlain : pm_sig pm_Ms 54 = some (1, 4) := by unfold pm_sig; rw [ms_Orders_comesPlain]; rfl
theorem sg_Orders_reachBits : pm_sig pm_Ms 55 = some (1, 4) := by unfold pm_sig; rw [ms_Orders_reachBits]; rfl
theorem sg_Orders_peakBits : pm_sig pm_Ms 56 = some (0, 4) := by unfold pm_sig; rw [ms_Orders_peakBits]; rfl
theorem sg_Orders_peakOf : pm_sig pm_Ms 57 = some (1, 4) := by unfold pm_sig; rw [ms_Orders_peakOf]; rfl
theorem sg_Orders_isBeatenWhole : pm_sig pm_Ms 58 = some (1, 4) := by unfold pm_sig; rw [ms_Orders_isBeatenWhole]; rfl
theorem sg_Orders_topBits : pm_sig pm_Ms 59 = some (0, 4) := by unfold pm_sig; rw [ms_Orders_topBits]; rfl
theorem sg_Orders_reachedFrom : pm_sig pm_Ms 60 = some (1, 4) := by unfold pm_sig; rw [ms_Orders_reachedFrom]; rfl
theorem sg_Orders_firstFor : pm_sig pm_Ms 61 = some (2, 4) := by unfold pm_sig; rw [ms_Orders_firstFor]; rfl
theorem sg_Orders_spread : pm_sig pm_Ms 62 = some (2, 99) := by unfold pm_sig; rw [ms_Orders_spread]; rfl
theorem sg_Orders_digits : pm_sig pm_Ms 63 = some (2, 99) := by unfold pm_sig; rw [ms_Orders_digits]; rfl
theorem sg_Orders_nextRow : pm_sig pm_Ms 64 = some (3, 99) := by unfold pm_sig; rw [ms_Orders_nextRow]; rfl
theorem sg_Orders_change : pm_sig pm_Ms 65 = some (3, 99) := by unfold pm_sig; rw [ms_Orders_change]; rfl
theorem sg_Orders_beatsAll : pm_sig pm_Ms 66 = some (0, 4) := by unfold pm_sig; rw [ms_Orders_beatsAll]; rfl
theorem sg_Orders_uncoveredBits : pm_sig pm_Ms 67 = some (0, 4) := by unfold pm_sig; rw [ms_Orders_uncoveredBits]; rfl
theorem sg_Orders_ringAt : pm_sig pm_Ms 68 = some (1, 4) := by unfold pm_sig; rw [ms_Orders_ringAt]; rfl
theorem sg_Orders_isRing : pm_sig pm_Ms 69 = some (1, 4) := by unfold pm_sig; rw [ms_Orders_isRing]; rfl
theorem sg_Orders_byRanks : pm_sig pm_Ms 70 = some (2, 4) := by unfold pm_sig; rw [ms_Orders_byRanks]; rfl
theorem sg_Orders_greatestOf : pm_sig pm_Ms 71 = some (3, 99) := by unfold pm_sig; rw [ms_Orders_greatestOf]; rfl
theorem sg_Plots_init : pm_sig pm_Ms 72 = some (2, 5) := by unfold pm_sig; rw [ms_Plots_init]; rfl
theorem sg_Plots_plainOnes : pm_sig pm_Ms 73 = some (0, 5) := by unfold pm_sig; rw [ms_Plots_plainOnes]; rfl
theorem sg_Plots_fewestOf : pm_sig pm_Ms 74 = some (4, 5) := by unfold pm_sig; rw [ms_Plots_fewestOf]; rfl
theorem sg_Plots_makeOfKind : pm_sig pm_Ms 75 = some (3, 5) := by unfold pm_sig; rw [ms_Plots_makeOfKind]; rfl
theorem sg_Plots_firstGaining : pm_sig pm_Ms 76 = some (2, 5) := by unfold pm_sig; rw [ms_Plots_firstGaining]; rfl
theorem sg_Plots_chanceOf : pm_sig pm_Ms 77 = some (2, 5) := by unfold pm_sig; rw [ms_Plots_chanceOf]; rfl
theorem sg_Plots_seatDoubtful : pm_sig pm_Ms 78 = some (0, 5) := by unfold pm_sig; rw [ms_Plots_seatDoubtful]; rfl
theorem sg_Plots_suppose : pm_sig pm_Ms 79 = some (2, 5) := by unfold pm_sig; rw [ms_Plots_suppose]; rfl
theorem sg_Plots_allOnes : pm_sig pm_Ms 80 = some (0, 5) := by unfold pm_sig; rw [ms_Plots_allOnes]; rfl
theorem sg_Plots_findLie : pm_sig pm_Ms 81 = some (2, 5) := by unfold pm_sig; rw [ms_Plots_findLie]; rfl
theorem sg_Plots_mattering : pm_sig pm_Ms 82 = some (1, 5) := by unfold pm_sig; rw [ms_Plots_mattering]; rfl
theorem sg_Plots_there : pm_sig pm_Ms 83 = some (0, 5) := by unfold pm_sig; rw [ms_Plots_there]; rfl
theorem sg_Plots_leastWish : pm_sig pm_Ms 84 = some (2, 99) := by unfold pm_sig; rw [ms_Plots_leastWish]; rfl
theorem sg_Plots_lieDigits : pm_sig pm_Ms 85 = some (1, 5) := by unfold pm_sig; rw [ms_Plots_lieDigits]; rfl
theorem sg_Plots_beatsIn : pm_sig pm_Ms 86 = some (3, 5) := by unfold pm_sig; rw [ms_Plots_beatsIn]; rfl
theorem sg_Reader_init : pm_sig pm_Ms 87 = some (0, 6) := by unfold pm_sig; rw [ms_Reader_init]; rfl
theorem sg_Reader_faultOf : pm_sig pm_Ms 88 = some (3, 6) := by unfold pm_sig; rw [ms_Reader_faultOf]; rfl
theorem sg_Reader_readPart : pm_sig pm_Ms 89 = some (1, 6) := by unfold pm_sig; rw [ms_Reader_readPart]; rfl
theorem sg_Reader_readQuestion : pm_sig pm_Ms 90 = some (1, 6) := by unfold pm_sig; rw [ms_Reader_readQuestion]; rfl
theorem sg_Reader_addNode : pm_sig pm_Ms 91 = some (1, 6) := by unfold pm_sig; rw [ms_Reader_addNode]; rfl
theorem sg_Reader_readSign : pm_sig pm_Ms 92 = some (1, 6) := by unfold pm_sig; rw [ms_Reader_readSign]; rfl
theorem sg_Reader_readChoice : pm_sig pm_Ms 93 = some (1, 6) := by unfold pm_sig; rw [ms_Reader_readChoice]; rfl
theorem sg_Reader_readPair : pm_sig pm_Ms 94 = some (1, 6) := by unfold pm_sig; rw [ms_Reader_readPair]; rfl
theorem sg_Reader_readEnd : pm_sig pm_Ms 95 = some (0, 6) := by unfold pm_sig; rw [ms_Reader_readEnd]; rfl
theorem sg_Reader_treeRead : pm_sig pm_Ms 96 = some (0, 6) := by unfold pm_sig; rw [ms_Reader_treeRead]; rfl
theorem sg_Shelf_init : pm_sig pm_Ms 97 = some (0, 7) := by unfold pm_sig; rw [ms_Shelf_init]; rfl
theorem sg_Shelf_bytesRefusal : pm_sig pm_Ms 98 = some (0, 7) := by unfold pm_sig; rw [ms_Shelf_bytesRefusal]; rfl
theorem sg_Shelf_refusalUnless : pm_sig pm_Ms 99 = some (1, 7) := by unfold pm_sig; rw [ms_Shelf_refusalUnless]; rfl
theorem sg_Shelf_holdsWishes : pm_sig pm_Ms 100 = some (0, 7) := by unfold pm_sig; rw [ms_Shelf_holdsWishes]; rfl
theorem sg_Shelf_beginRow : pm_sig pm_Ms 101 = some (2, 7) := by unfold pm_sig; rw [ms_Shelf_beginRow]; rfl
theorem sg_Shelf_rowRefusal : pm_sig pm_Ms 102 = some (0, 7) := by unfold pm_sig; rw [ms_Shelf_rowRefusal]; rfl
theorem sg_Shelf_lowestBits : pm_sig pm_Ms 103 = some (1, 7) := by unfold pm_sig; rw [ms_Shelf_lowestBits]; rfl
theorem sg_Shelf_hasPlaces : pm_sig pm_Ms 104 = some (2, 7) := by unfold pm_sig; rw [ms_Shelf_hasPlaces]; rfl
theorem sg_Shelf_memberRefusal : pm_sig pm_Ms 105 = some (0, 7) := by unfold pm_sig; rw [ms_Shelf_memberRefusal]; rfl
theorem sg_Tree_init : pm_sig pm_Ms 106 = some (4, 8) := by unfold pm_sig; rw [ms_Tree_init]; rfl
theorem sg_Tree_nodeOf : pm_sig pm_Ms 107 = some (1, 8) := by unfold pm_sig; rw [ms_Tree_nodeOf]; rfl
theorem sg_Tree_questionsAhead : pm_sig pm_Ms 108 = some (1, 8) := by unfold pm_sig; rw [ms_Tree_questionsAhead]; rfl
theorem sg_Desk_init : pm_sig pm_Ms 109 = some (0, 9) := by unfold pm_sig; rw [ms_Desk_init]; rfl
theorem sg_Desk_set : pm_sig pm_Ms 110 = some (2, 9) := by unfold pm_sig; rw [ms_Desk_set]; rfl
theorem sg_Desk_within : pm_sig pm_Ms 111 = some (3, 99) := by unfold pm_sig; rw [ms_Desk_within]; rfl
theorem sg_Desk_member : pm_sig pm_Ms 112 = some (2, 9) := by unfold pm_sig; rw [ms_Desk_member]; rfl
theorem sg_Desk_fits : pm_sig pm_Ms 113 = some (2, 99) := by unfold pm_sig; rw [ms_Desk_fits]; rfl
theorem sg_Desk_bought : pm_sig pm_Ms 114 = some (2, 9) := by unfold pm_sig; rw [ms_Desk_bought]; rfl
theorem sg_Desk_isEnd : pm_sig pm_Ms 115 = some (1, 99) := by unfold pm_sig; rw [ms_Desk_isEnd]; rfl
theorem sg_Desk_becomes : pm_sig pm_Ms 116 = some (2, 9) := by unfold pm_sig; rw [ms_Desk_becomes]; rfl
theorem sg_Desk_wish : pm_sig pm_Ms 117 = some (3, 9) := by unfold pm_sig; rw [ms_Desk_wish]; rfl
theorem sg_Desk_changeWish : pm_sig pm_Ms 118 = some (4, 9) := by unfold pm_sig; rw [ms_Desk_changeWish]; rfl
theorem sg_Desk_doubted : pm_sig pm_Ms 119 = some (3, 9) := by unfold pm_sig; rw [ms_Desk_doubted]; rfl
theorem sg_Desk_sure : pm_sig pm_Ms 120 = some (2, 9) := by unfold pm_sig; rw [ms_Desk_sure]; rfl
theorem sg_Desk_about : pm_sig pm_Ms 121 = some (2, 9) := by unfold pm_sig; rw [ms_Desk_about]; rfl
theorem sg_Desk_fault : pm_sig pm_Ms 122 = some (1, 9) := by unfold pm_sig; rw [ms_Desk_fault]; rfl
theorem sg_Desk_shelfAt : pm_sig pm_Ms 123 = some (1, 9) := by unfold pm_sig; rw [ms_Desk_shelfAt]; rfl
theorem sg_Desk_tree : pm_sig pm_Ms 124 = some (1, 9) := by unfold pm_sig; rw [ms_Desk_tree]; rfl
theorem sg_Desk_of : pm_sig pm_Ms 125 = some (2, 9) := by unfold pm_sig; rw [ms_Desk_of]; rfl
theorem sg_Desk_beat : pm_sig pm_Ms 126 = some (2, 9) := by unfold pm_sig; rw [ms_Desk_beat]; rfl
theorem sg_Desk_stands : pm_sig pm_Ms 127 = some (2, 9) := by unfold pm_sig; rw [ms_Desk_stands]; rfl
theorem sg_Desk_run : pm_sig pm_Ms 128 = some (1, 9) := by unfold pm_sig; rw [ms_Desk_run]; rfl
theorem sg_Desk_ask : pm_sig pm_Ms 129 = some (3, 9) := by unfold pm_sig; rw [ms_Desk_ask]; rfl
theorem sg_Desk_wonBy : pm_sig pm_Ms 130 = some (2, 9) := by unfold pm_sig; rw [ms_Desk_wonBy]; rfl
theorem sg_Desk_why : pm_sig pm_Ms 131 = some (3, 9) := by unfold pm_sig; rw [ms_Desk_why]; rfl
theorem sg_Desk_ifAll : pm_sig pm_Ms 132 = some (2, 9) := by unfold pm_sig; rw [ms_Desk_ifAll]; rfl
theorem sg_Desk_comesIfAll : pm_sig pm_Ms 133 = some (2, 9) := by unfold pm_sig; rw [ms_Desk_comesIfAll]; rfl
theorem sg_Desk_parts : pm_sig pm_Ms 134 = some (1, 9) := by unfold pm_sig; rw [ms_Desk_parts]; rfl
theorem sg_Desk_order : pm_sig pm_Ms 135 = some (2, 9) := by unfold pm_sig; rw [ms_Desk_order]; rfl
theorem sg_Desk_weighOrders : pm_sig pm_Ms 136 = some (0, 9) := by unfold pm_sig; rw [ms_Desk_weighOrders]; rfl
theorem sg_Desk_reach : pm_sig pm_Ms 137 = some (1, 9) := by unfold pm_sig; rw [ms_Desk_reach]; rfl
theorem sg_Desk_first : pm_sig pm_Ms 138 = some (2, 9) := by unfold pm_sig; rw [ms_Desk_first]; rfl
theorem sg_Desk_isThere : pm_sig pm_Ms 139 = some (1, 9) := by unfold pm_sig; rw [ms_Desk_isThere]; rfl
theorem sg_Desk_best : pm_sig pm_Ms 140 = some (0, 9) := by unfold pm_sig; rw [ms_Desk_best]; rfl
theorem sg_Desk_top : pm_sig pm_Ms 141 = some (1, 9) := by unfold pm_sig; rw [ms_Desk_top]; rfl
theorem sg_Desk_killers : pm_sig pm_Ms 142 = some (1, 9) := by unfold pm_sig; rw [ms_Desk_killers]; rfl
theorem sg_Desk_shields : pm_sig pm_Ms 143 = some (2, 9) := by unfold pm_sig; rw [ms_Desk_shields]; rfl
theorem sg_Desk_tell : pm_sig pm_Ms 144 = some (2, 9) := by unfold pm_sig; rw [ms_Desk_tell]; rfl
theorem sg_Desk_falseVote : pm_sig pm_Ms 145 = some (2, 9) := by unfold pm_sig; rw [ms_Desk_falseVote]; rfl
theorem sg_Desk_chance : pm_sig pm_Ms 146 = some (2, 9) := by unfold pm_sig; rw [ms_Desk_chance]; rfl
theorem sg_Desk_boughtOff : pm_sig pm_Ms 147 = some (2, 9) := by unfold pm_sig; rw [ms_Desk_boughtOff]; rfl
theorem sg_Desk_bestLie : pm_sig pm_Ms 148 = some (3, 9) := by unfold pm_sig; rw [ms_Desk_bestLie]; rfl
theorem sg_Desk_surely : pm_sig pm_Ms 149 = some (3, 9) := by unfold pm_sig; rw [ms_Desk_surely]; rfl
theorem sg_Desk_ring : pm_sig pm_Ms 150 = some (1, 9) := by unfold pm_sig; rw [ms_Desk_ring]; rfl
theorem sg_Desk_usual : pm_sig pm_Ms 151 = some (1, 9) := by unfold pm_sig; rw [ms_Desk_usual]; rfl
theorem sg_Desk_breach : pm_sig pm_Ms 152 = some (4, 9) := by unfold pm_sig; rw [ms_Desk_breach]; rfl
theorem sg_Desk_finds : pm_sig pm_Ms 153 = some (2, 9) := by unfold pm_sig; rw [ms_Desk_finds]; rfl
theorem sg_Desk_image : pm_sig pm_Ms 154 = some (0, 9) := by unfold pm_sig; rw [ms_Desk_image]; rfl
theorem sg_Desk_restore : pm_sig pm_Ms 155 = some (0, 9) := by unfold pm_sig; rw [ms_Desk_restore]; rfl
theorem sg_Desk_count : pm_sig pm_Ms 156 = some (1, 9) := by unfold pm_sig; rw [ms_Desk_count]; rfl
theorem sg_Desk_keep : pm_sig pm_Ms 157 = some (3, 9) := by unfold pm_sig; rw [ms_Desk_keep]; rfl
theorem sg_Desk_row : pm_sig pm_Ms 158 = some (3, 9) := by unfold pm_sig; rw [ms_Desk_row]; rfl
theorem sg_Desk_put : pm_sig pm_Ms 159 = some (3, 9) := by unfold pm_sig; rw [ms_Desk_put]; rfl
theorem sg_Desk_copy : pm_sig pm_Ms 160 = some (5, 9) := by unfold pm_sig; rw [ms_Desk_copy]; rfl
theorem sg_Desk_heft : pm_sig pm_Ms 161 = some (1, 9) := by unfold pm_sig; rw [ms_Desk_heft]; rfl
theorem sg_Desk_toss : pm_sig pm_Ms 162 = some (1, 9) := by unfold pm_sig; rw [ms_Desk_toss]; rfl
theorem sg_Model_init : pm_sig pm_Ms 163 = some (0, 10) := by unfold pm_sig; rw [ms_Model_init]; rfl
theorem sg_Model_thrown : pm_sig pm_Ms 164 = some (0, 10) := by unfold pm_sig; rw [ms_Model_thrown]; rfl
theorem sg_Model_set : pm_sig pm_Ms 165 = some (2, 10) := by unfold pm_sig; rw [ms_Model_set]; rfl
theorem sg_Model_in : pm_sig pm_Ms 166 = some (3, 99) := by unfold pm_sig; rw [ms_Model_in]; rfl
theorem sg_Model_member : pm_sig pm_Ms 167 = some (2, 10) := by unfold pm_sig; rw [ms_Model_member]; rfl
theorem sg_Model_isNumber : pm_sig pm_Ms 168 = some (2, 99) := by unfold pm_sig; rw [ms_Model_isNumber]; rfl
theorem sg_Model_bought : pm_sig pm_Ms 169 = some (2, 10) := by unfold pm_sig; rw [ms_Model_bought]; rfl
theorem sg_Model_isMember : pm_sig pm_Ms 170 = some (1, 10) := by unfold pm_sig; rw [ms_Model_isMember]; rfl
theorem sg_Model_isEnd : pm_sig pm_Ms 171 = some (1, 99) := by unfold pm_sig; rw [ms_Model_isEnd]; rfl
theorem sg_Model_becomes : pm_sig pm_Ms 172 = some (2, 10) := by unfold pm_sig; rw [ms_Model_becomes]; rfl
theorem sg_Model_wish : pm_sig pm_Ms 173 = some (3, 10) := by unfold pm_sig; rw [ms_Model_wish]; rfl
theorem sg_Model_change : pm_sig pm_Ms 174 = some (2, 10) := by unfold pm_sig; rw [ms_Model_change]; rfl
theorem sg_Model_doubted : pm_sig pm_Ms 175 = some (3, 10) := by unfold pm_sig; rw [ms_Model_doubted]; rfl
theorem sg_Model_sure : pm_sig pm_Ms 176 = some (2, 10) := by unfold pm_sig; rw [ms_Model_sure]; rfl
theorem sg_Model_about : pm_sig pm_Ms 177 = some (2, 10) := by unfold pm_sig; rw [ms_Model_about]; rfl
theorem sg_Model_heftOf : pm_sig pm_Ms 178 = some (1, 10) := by unfold pm_sig; rw [ms_Model_heftOf]; rfl
theorem sg_Model_fault : pm_sig pm_Ms 179 = some (1, 10) := by unfold pm_sig; rw [ms_Model_fault]; rfl
theorem sg_Model_lacks : pm_sig pm_Ms 180 = some (1, 10) := by unfold pm_sig; rw [ms_Model_lacks]; rfl
theorem sg_Model_faultOf : pm_sig pm_Ms 181 = some (1, 10) := by unfold pm_sig; rw [ms_Model_faultOf]; rfl
theorem sg_Model_here : pm_sig pm_Ms 182 = some (0, 10) := by unfold pm_sig; rw [ms_Model_here]; rfl
theorem sg_Model_begin : pm_sig pm_Ms 183 = some (1, 10) := by unfold pm_sig; rw [ms_Model_begin]; rfl
theorem sg_Model_readEnd : pm_sig pm_Ms 184 = some (0, 10) := by unfold pm_sig; rw [ms_Model_readEnd]; rfl
theorem sg_Model_take : pm_sig pm_Ms 185 = some (1, 10) := by unfold pm_sig; rw [ms_Model_take]; rfl
theorem sg_Model_add : pm_sig pm_Ms 186 = some (5, 10) := by unfold pm_sig; rw [ms_Model_add]; rfl
theorem sg_Model_part : pm_sig pm_Ms 187 = some (1, 10) := by unfold pm_sig; rw [ms_Model_part]; rfl
theorem sg_Model_tree : pm_sig pm_Ms 188 = some (1, 10) := by unfold pm_sig; rw [ms_Model_tree]; rfl
theorem sg_Model_beat : pm_sig pm_Ms 189 = some (2, 10) := by unfold pm_sig; rw [ms_Model_beat]; rfl
theorem sg_Model_margin : pm_sig pm_Ms 190 = some (2, 10) := by unfold pm_sig; rw [ms_Model_margin]; rfl
theorem sg_Model_members : pm_sig pm_Ms 191 = some (0, 10) := by unfold pm_sig; rw [ms_Model_members]; rfl
theorem sg_Model_wishOf : pm_sig pm_Ms 192 = some (2, 10) := by unfold pm_sig; rw [ms_Model_wishOf]; rfl
theorem sg_Model_placeIn : pm_sig pm_Ms 193 = some (2, 99) := by unfold pm_sig; rw [ms_Model_placeIn]; rfl
theorem sg_Model_liked : pm_sig pm_Ms 194 = some (2, 99) := by unfold pm_sig; rw [ms_Model_liked]; rfl
theorem sg_Model_voicesOf : pm_sig pm_Ms 195 = some (1, 10) := by unfold pm_sig; rw [ms_Model_voicesOf]; rfl
theorem sg_Model_stands : pm_sig pm_Ms 196 = some (2, 10) := by unfold pm_sig; rw [ms_Model_stands]; rfl
theorem sg_Model_standing : pm_sig pm_Ms 197 = some (2, 10) := by unfold pm_sig; rw [ms_Model_standing]; rfl
theorem sg_Model_beats : pm_sig pm_Ms 198 = some (2, 10) := by unfold pm_sig; rw [ms_Model_beats]; rfl
theorem sg_Model_of : pm_sig pm_Ms 199 = some (2, 10) := by unfold pm_sig; rw [ms_Model_of]; rfl
theorem sg_Model_isTree : pm_sig pm_Ms 200 = some (1, 10) := by unfold pm_sig; rw [ms_Model_isTree]; rfl
theorem sg_Model_endOf : pm_sig pm_Ms 201 = some (1, 10) := by unfold pm_sig; rw [ms_Model_endOf]; rfl
theorem sg_Model_load : pm_sig pm_Ms 202 = some (1, 10) := by unfold pm_sig; rw [ms_Model_load]; rfl
theorem sg_Model_settle : pm_sig pm_Ms 203 = some (0, 10) := by unfold pm_sig; rw [ms_Model_settle]; rfl
theorem sg_Model_settleQuestion : pm_sig pm_Ms 204 = some (1, 10) := by unfold pm_sig; rw [ms_Model_settleQuestion]; rfl
theorem sg_Model_voteOf : pm_sig pm_Ms 205 = some (3, 10) := by unfold pm_sig; rw [ms_Model_voteOf]; rfl
theorem sg_Model_kindOf : pm_sig pm_Ms 206 = some (1, 10) := by unfold pm_sig; rw [ms_Model_kindOf]; rfl
theorem sg_Model_sign : pm_sig pm_Ms 207 = some (3, 10) := by unfold pm_sig; rw [ms_Model_sign]; rfl
theorem sg_Model_partyOf : pm_sig pm_Ms 208 = some (1, 10) := by unfold pm_sig; rw [ms_Model_partyOf]; rfl
theorem sg_Model_partySign : pm_sig pm_Ms 209 = some (3, 10) := by unfold pm_sig; rw [ms_Model_partySign]; rfl
theorem sg_Model_endFor : pm_sig pm_Ms 210 = some (1, 10) := by unfold pm_sig; rw [ms_Model_endFor]; rfl
theorem sg_Model_run : pm_sig pm_Ms 211 = some (1, 10) := by unfold pm_sig; rw [ms_Model_run]; rfl
theorem sg_Model_ask : pm_sig pm_Ms 212 = some (3, 10) := by unfold pm_sig; rw [ms_Model_ask]; rfl
theorem sg_Model_isQuestion : pm_sig pm_Ms 213 = some (2, 10) := by unfold pm_sig; rw [ms_Model_isQuestion]; rfl
theorem sg_Model_nodeOf : pm_sig pm_Ms 214 = some (1, 10) := by unfold pm_sig; rw [ms_Model_nodeOf]; rfl
theorem sg_Model_wonBy : pm_sig pm_Ms 215 = some (2, 10) := by unfold pm_sig; rw [ms_Model_wonBy]; rfl
theorem sg_Model_why : pm_sig pm_Ms 216 = some (3, 10) := by unfold pm_sig; rw [ms_Model_why]; rfl
theorem sg_Model_ifAll : pm_sig pm_Ms 217 = some (2, 10) := by unfold pm_sig; rw [ms_Model_ifAll]; rfl
theorem sg_Model_parts : pm_sig pm_Ms 218 = some (1, 10) := by unfold pm_sig; rw [ms_Model_parts]; rfl
theorem sg_Model_order : pm_sig pm_Ms 219 = some (2, 10) := by unfold pm_sig; rw [ms_Model_order]; rfl
theorem sg_Model_isThere : pm_sig pm_Ms 220 = some (1, 10) := by unfold pm_sig; rw [ms_Model_isThere]; rfl
theorem sg_Model_orderEnds : pm_sig pm_Ms 221 = some (1, 10) := by unfold pm_sig; rw [ms_Model_orderEnds]; rfl
theorem sg_Model_reach : pm_sig pm_Ms 222 = some (1, 10) := by unfold pm_sig; rw [ms_Model_reach]; rfl
theorem sg_Model_allOrders : pm_sig pm_Ms 223 = some (0, 10) := by unfold pm_sig; rw [ms_Model_allOrders]; rfl
theorem sg_Model_findOrder : pm_sig pm_Ms 224 = some (2, 10) := by unfold pm_sig; rw [ms_Model_findOrder]; rfl
theorem sg_Model_first : pm_sig pm_Ms 225 = some (2, 10) := by unfold pm_sig; rw [ms_Model_first]; rfl
theorem sg_Model_best : pm_sig pm_Ms 226 = some (0, 10) := by unfold pm_sig; rw [ms_Model_best]; rfl
theorem sg_Model_top : pm_sig pm_Ms 227 = some (1, 10) := by unfold pm_sig; rw [ms_Model_top]; rfl
theorem sg_Model_reachedFrom : pm_sig pm_Ms 228 = some (1, 10) := by unfold pm_sig; rw [ms_Model_reachedFrom]; rfl
theorem sg_Model_isCovered : pm_sig pm_Ms 229 = some (1, 10) := by unfold pm_sig; rw [ms_Model_isCovered]; rfl
theorem sg_Model_killers : pm_sig pm_Ms 230 = some (1, 10) := by unfold pm_sig; rw [ms_Model_killers]; rfl
theorem sg_Model_isKiller : pm_sig pm_Ms 231 = some (2, 10) := by unfold pm_sig; rw [ms_Model_isKiller]; rfl
theorem sg_Model_against : pm_sig pm_Ms 232 = some (1, 10) := by unfold pm_sig; rw [ms_Model_against]; rfl
theorem sg_Model_shields : pm_sig pm_Ms 233 = some (2, 10) := by unfold pm_sig; rw [ms_Model_shields]; rfl
theorem sg_Model_tell : pm_sig pm_Ms 234 = some (2, 10) := by unfold pm_sig; rw [ms_Model_tell]; rfl
theorem sg_Model_ones : pm_sig pm_Ms 235 = some (1, 99) := by unfold pm_sig; rw [ms_Model_ones]; rfl
theorem sg_Model_falseVote : pm_sig pm_Ms 236 = some (2, 10) := by unfold pm_sig; rw [ms_Model_falseVote]; rfl
theorem sg_Model_chance : pm_sig pm_Ms 237 = some (2, 10) := by unfold pm_sig; rw [ms_Model_chance]; rfl
theorem sg_Model_findUnsure : pm_sig pm_Ms 238 = some (0, 10) := by unfold pm_sig; rw [ms_Model_findUnsure]; rfl
theorem sg_Model_boughtOff : pm_sig pm_Ms 239 = some (2, 10) := by unfold pm_sig; rw [ms_Model_boughtOff]; rfl
theorem sg_Model_bestLie : pm_sig pm_Ms 240 = some (3, 10) := by unfold pm_sig; rw [ms_Model_bestLie]; rfl
theorem sg_Model_surely : pm_sig pm_Ms 241 = some (3, 10) := by unfold pm_sig; rw [ms_Model_surely]; rfl
theorem sg_Model_ring : pm_sig pm_Ms 242 = some (1, 10) := by unfold pm_sig; rw [ms_Model_ring]; rfl
theorem sg_Model_findRing : pm_sig pm_Ms 243 = some (1, 10) := by unfold pm_sig; rw [ms_Model_findRing]; rfl
theorem sg_Model_usual : pm_sig pm_Ms 244 = some (1, 10) := by unfold pm_sig; rw [ms_Model_usual]; rfl
theorem sg_Model_breach : pm_sig pm_Ms 245 = some (4, 10) := by unfold pm_sig; rw [ms_Model_breach]; rfl
theorem sg_Model_findChamber : pm_sig pm_Ms 246 = some (1, 10) := by unfold pm_sig; rw [ms_Model_findChamber]; rfl
theorem sg_Model_breaks : pm_sig pm_Ms 247 = some (2, 10) := by unfold pm_sig; rw [ms_Model_breaks]; rfl
theorem sg_Model_lifted : pm_sig pm_Ms 248 = some (2, 99) := by unfold pm_sig; rw [ms_Model_lifted]; rfl
theorem sg_Model_finds : pm_sig pm_Ms 249 = some (2, 10) := by unfold pm_sig; rw [ms_Model_finds]; rfl
theorem sg_Model_image : pm_sig pm_Ms 250 = some (0, 10) := by unfold pm_sig; rw [ms_Model_image]; rfl
theorem sg_Model_restore : pm_sig pm_Ms 251 = some (0, 10) := by unfold pm_sig; rw [ms_Model_restore]; rfl
theorem sg_Model_count : pm_sig pm_Ms 252 = some (1, 10) := by unfold pm_sig; rw [ms_Model_count]; rfl
theorem sg_Model_keep : pm_sig pm_Ms 253 = some (3, 10) := by unfold pm_sig; rw [ms_Model_keep]; rfl
theorem sg_Model_failureOf : pm_sig pm_Ms 254 = some (1, 10) := by unfold pm_sig; rw [ms_Model_failureOf]; rfl
theorem sg_Model_row : pm_sig pm_Ms 255 = some (3, 10) := by unfold pm_sig; rw [ms_Model_row]; rfl
theorem sg_Model_put : pm_sig pm_Ms 256 = some (3, 10) := by unfold pm_sig; rw [ms_Model_put]; rfl
theorem sg_Model_wrongRow : pm_sig pm_Ms 257 = some (1, 10) := by unfold pm_sig; rw [ms_Model_wrongRow]; rfl
theorem sg_Model_narrowed : pm_sig pm_Ms 258 = some (2, 99) := by unfold pm_sig; rw [ms_Model_narrowed]; rfl
theorem sg_Model_element : pm_sig pm_Ms 259 = some (2, 10) := by unfold pm_sig; rw [ms_Model_element]; rfl
theorem sg_Model_copy : pm_sig pm_Ms 260 = some (5, 10) := by unfold pm_sig; rw [ms_Model_copy]; rfl
theorem sg_Model_heft : pm_sig pm_Ms 261 = some (1, 10) := by unfold pm_sig; rw [ms_Model_heft]; rfl
theorem sg_Model_wrongShelf : pm_sig pm_Ms 262 = some (1, 10) := by unfold pm_sig; rw [ms_Model_wrongShelf]; rfl
theorem sg_Model_toss : pm_sig pm_Ms 263 = some (1, 10) := by unfold pm_sig; rw [ms_Model_toss]; rfl
theorem sg_Law_element : pm_sig pm_Ms 264 = some (4, 99) := by unfold pm_sig; rw [ms_Law_element]; rfl
end
section
/-! the reference's and the hall's pictures of the heap as a function of numbers -/
theorem MR_hp (s : QST) : MR (qhp s) (qF s 163) (fun k => qE s (164 + k)) (qL s 201) (qL s 202) := ⟨ly_163.o s, fun _ hk => (ly_ma hk).a s, ly_201.l s, ly_202.l s⟩
theorem MR_back {s : QST} {S' : pm_S} {i' : Nat → Int32} {a' : Nat → Nat → Int32} {r' bt' : Nat → Int64} (h : MR S' i' a' r' bt') (f : mfr (qhp s) S') : ∃ s', S' = qhp s' ∧ qF s' 163 = i' ∧ (∀ k, k < 37 → qE s' (164 + k) = a' k) ∧ qL s' 201 = r' ∧ qL s' 202 = bt' ∧ qfr 163 202 s s' := by
  obtain ⟨h1, h2, h3, h4⟩ := h
  obtain ⟨f1, f2, f3⟩ := f
  refine ⟨(qua (qF s) 163 i', fun c => if 164 ≤ c ∧ c ≤ 200 then a' (c - 164) else qE s c, fun c => if c = 201 then r' else if c = 202 then bt' else qL s c, qT s, qX s, qR s, qN s), ?_, ?_, ?_, ?_, ?_, ?_⟩
  · refine qhp_ext ?_ ?_ ?_ ?_
    · rw [f1, qhp_len]; rfl
    · exact f2
    · intro c c1 c2
      by_cases e1 : c = 163
      · subst e1; rw [qcel_1 ly_163]; exact h1
      by_cases e2 : 164 ≤ c ∧ c ≤ 200
      · obtain ⟨k, rfl⟩ : ∃ k, c = 164 + k := ⟨c - 164, by omega⟩
        rw [qcel_0 (ly_ma (k := k) (by omega))]
        have := h2 k (by omega)
        have e : qE ((qua (qF s) 163 i', fun c => if 164 ≤ c ∧ c ≤ 200 then a' (c - 164) else qE s c, fun c => if c = 201 then r' else if c = 202 then bt' else qL s c, qT s, qX s, qR s, qN s) : QST) (164 + k) = a' k := by
          show (if 164 ≤ 164 + k ∧ 164 + k ≤ 200 then a' (164 + k - 164) else _) = _
          rw [if_pos e2, Nat.add_sub_cancel_left]
        rw [e]
        exact this
      by_cases e3 : c = 201
      · subst e3; rw [qcel_4 ly_201]; exact h3
      by_cases e4 : c = 202
      · subst e4; rw [qcel_4 ly_202]; exact h4
      refine Eq.mpr (congrArg (pm_h S' c) (qcel_cg (s := s) ?_ ?_ ?_ rfl rfl)) (f3 c _ (by omega) (qhp_cell c1 c2))
      · show qua (qF s) 163 i' c = _
        unfold qua; rw [if_neg e1]
      · show (if 164 ≤ c ∧ c ≤ 200 then _ else _) = _
        rw [if_neg e2]
      · show (if c = 201 then _ else if c = 202 then _ else _) = _
        rw [if_neg e3, if_neg e4]
    · intro k e he
      exact f3 _ _ (by omega) (qhp_rest (by omega) (by rw [show 204 + k - 204 = k by omega]; exact he))
  · show qua (qF s) 163 i' 163 = _
    unfold qua; rw [if_pos rfl]
  · intro k hk
    show (if 164 ≤ 164 + k ∧ 164 + k ≤ 200 then a' (164 + k - 164) else _) = _
    rw [if_pos (by omega), Nat.add_sub_cancel_left]
  · rfl
  · rfl
  · refine ⟨fun c hc => ⟨?_, ?_, ?_, rfl⟩, rfl, rfl, rfl⟩
    · show qua (qF s) 163 i' c = _
      unfold qua; rw [if_neg (by omega)]
    · show (if 164 ≤ c ∧ c ≤ 200 then _ else _) = _
      rw [if_neg (by omega)]
    · show (if c = 201 then _ else if c = 202 then _ else _) = _
      rw [if_neg (by omega), if_neg (by omega)]
theorem qfs_mb {s : QST} {A : Nat} (h : 8 ≤ A) : qfs s A 0 [0, 0, 0, 0, 0, 0, A + 1, A + 2] = mbr (qF s A) A := by
  have e1 : ∀ x y : Value, (if A + 1 = 0 then x else if A + 1 = 1 then y else .ref (A + 1)) = .ref (A + 1) := fun x y => by rw [if_neg (by omega), if_neg (by omega)]
  have e2 : ∀ x y : Value, (if A + 2 = 0 then x else if A + 2 = 1 then y else .ref (A + 2)) = .ref (A + 2) := fun x y => by rw [if_neg (by omega), if_neg (by omega)]
  unfold mbr
  simp only [qfs]
  rw [e1, e2]
  rfl
theorem MB_hp {A : Nat} (h : qMB A) (s : QST) : MB (qhp s) A (qF s A) (qE s (A + 1)) (qE s (A + 2)) := by
  refine ⟨?_, h.2.1.a s, h.2.2.a s⟩
  have := h.1.o s
  rw [qfs_mb h.1.1] at this
  exact this
theorem ly_hb {k : Nat} (h : k < 8) : qLY (76 + k) (0, hsz k, []) := by
  rcases (show k = 0 ∨ k = 1 ∨ k = 2 ∨ k = 3 ∨ k = 4 ∨ k = 5 ∨ k = 6 ∨ k = 7 by omega) with rfl | rfl | rfl | rfl | rfl | rfl | rfl | rfl
  · exact ly_76
  · exact ly_77
  · exact ly_78
  · exact ly_79
  · exact ly_80
  · exact ly_81
  · exact ly_82
  · exact ly_83
theorem HR_hp (s : QST) : HR (qhp s) (qF s 74) (fun k => qE s (76 + k)) (fun m => qF s (84 + 3 * m)) (fun m => qE s (84 + 3 * m + 1)) (fun m => qE s (84 + 3 * m + 2)) := by
  refine ⟨ly_74.o s, ⟨_, ly_75.r s, fun m hm => ?_⟩, fun k hk => (ly_hb hk).a s, fun m hm => MB_hp (mb_seat hm) s⟩
  show (if m < 9 then some (84 + 3 * m) else none) = _
  rw [if_pos hm]
end
section
/-! who votes, for both sides: a view (how many, the chair, kinds, voices, parties, steps, ends, wishes); what comes of a node by it -/
abbrev VW : Type := Nat × Int32 × (Nat → Int32) × (Nat → Int32) × (Nat → Int32) × (Nat → Nat) × (Nat → Int32) × (Nat → Nat → Int32)
def gN (W : VW) : Nat := W.1
def gC (W : VW) : Int32 := W.2.1
def gK (W : VW) : Nat → Int32 := W.2.2.1
def gV (W : VW) : Nat → Int32 := W.2.2.2.1
def gP (W : VW) : Nat → Int32 := W.2.2.2.2.1
def gU (W : VW) : Nat → Nat := W.2.2.2.2.2.1
def gE (W : VW) : Nat → Int32 := W.2.2.2.2.2.2.1
def gW (W : VW) : Nat → Nat → Int32 := W.2.2.2.2.2.2.2
def gmar (W : VW) (x y : Nat) : Int32 := mgn (gW W) (gV W) x y (gN W)
abbrev gbts (W : VW) (x y : Nat) : Prop := sbt (gmar W x y) (gC W) x y
def gstd (W : VW) (x y : Nat) : Nat := if gbts W y x then y else x
def glin (W : VW) (party : Int32) (x y : Nat) : Int32 := sg0 (psm (gK W) (gP W) (gW W) (gV W) party x y (gN W))
def gvot (W : VW) (m n c : Nat) (s : Nat → Nat) (ins : Int32) (n' c' : Nat) (s' : Nat → Nat) (ins' : Int32) : Int32 :=
  if gK W m = 0 then gV W m * sgn (gW W m n) (gW W m n')
  else if gK W m = 1 then gV W m * sgn (gW W m c) (gW W m c')
  else if gK W m = 2 then gV W m * sgn (gW W m (s (gU W m))) (gW W m (s' (gU W m)))
  else if gK W m = 3 then gV W m * glin W (gP W m) n n'
  else if gK W m = 4 then (if (ins >>> (gE W m &&& 31)) &&& 1 = (ins' >>> (gE W m &&& 31)) &&& 1 then gV W m * glin W (gP W m) n n' else gV W m * (((ins >>> (gE W m &&& 31)) &&& 1) - ((ins' >>> (gE W m &&& 31)) &&& 1)))
  else gV W m / 2 * sgn (gW W m n) (gW W m n') + (gV W m - gV W m / 2) * sgn (gW W m c) (gW W m c')
def gvt (W : VW) (m : Nat) (A B : NV) : Int32 := gvot W m A.1 A.2.1 A.2.2.1 A.2.2.2.1 B.1 B.2.1 B.2.2.1 B.2.2.2.1
def gsum (W : VW) (A B : NV) : Int32 := sv (fun m => gvt W m A B) (gN W)
def gq (W : VW) (A B : NV) : NV := (A.1, (if q_fst (gsum W A B) (gC W) A.1 B.1 then A.2.1 else B.2.1), q_see (gstd W) A.1 A.2.2.1 B.2.2.1, A.2.2.2.1 ||| B.2.2.2.1, gsum W A B, (if q_fst (gsum W A B) (gC W) A.1 B.1 then 0 else 1))
def gc (W : VW) (x y : Nat) (A B : NV) : NV := if gbts W x y then (A.1, A.2.1, A.2.2.1, A.2.2.2.1 ||| B.2.2.2.1, 0, 0) else (B.1, B.2.1, B.2.2.1, A.2.2.2.1 ||| B.2.2.2.1, 0, 0)
def gvf (W : VW) (t : TR) : Nat → Nat → NV
  | 0, _ => nv_leaf 0
  | f + 1, n => if (t n).1 = 0 then nv_leaf (t n).2.2.2.1 else if (t n).1 = 1 then gq W (gvf W t f (t n).2.1) (gvf W t f (t n).2.2.1) else gc W (t n).2.2.2.1 (t n).2.2.2.2 (gvf W t f (t n).2.1) (gvf W t f (t n).2.2.1)
def gval (W : VW) (t : TR) (n : Nat) : NV := gvf W t (n + 1) n
/-- the reference's view -/
def rvw (i : Nat → Int32) (a : Nat → Nat → Int32) (N : Nat) : VW := (N, a 0 1, v_kin i a, v_voi i a, v_par i a, v_num a, v_end i a, v_wis i a)
theorem rvw_q (i : Nat → Int32) (a : Nat → Nat → Int32) (N : Nat) : nv_q i a N = gq (rvw i a N) := rfl
theorem rvw_c (i : Nat → Int32) (a : Nat → Nat → Int32) (N : Nat) : nv_c i a N = gc (rvw i a N) := rfl
theorem rvw_val (i : Nat → Int32) (a : Nat → Nat → Int32) (N : Nat) (t : TR) (n : Nat) : nval i a N t n = gval (rvw i a N) t n := by
  have h : ∀ f n, nvf i a N t f n = gvf (rvw i a N) t f n := by
    intro f
    induction f with
    | zero => intro n; rfl
    | succ f ih => intro n; unfold nvf gvf; rw [ih, ih, rvw_q, rvw_c]
  exact h _ _
theorem gvf_fuel {W : VW} {K : Nat} {t : TR} (ht : tr_ok t K) : ∀ (f g n : Nat), n < K → n < f → n < g → gvf W t f n = gvf W t g n := by
  intro f
  induction f with
  | zero => intro g n _ h; omega
  | succ f ih =>
    intro g n hn hf hg
    obtain ⟨g, rfl⟩ : ∃ k, g = k + 1 := ⟨g - 1, by omega⟩
    unfold gvf
    by_cases h0 : (t n).1 = 0
    · simp only [h0, if_true]
    · obtain ⟨h1, h2⟩ := (ht n hn).2.2.1 h0
      rw [ih g (t n).2.1 (by omega) (by omega) (by omega), ih g (t n).2.2.1 (by omega) (by omega) (by omega)]
theorem gval_0 {W : VW} {n : Nat} {t : TR} (h : (t n).1 = 0) : gval W t n = nv_leaf (t n).2.2.2.1 := by
  unfold gval gvf; rw [if_pos h]
theorem gval_1 {W : VW} {K n : Nat} {t : TR} (ht : tr_ok t K) (hn : n < K) (h : (t n).1 = 1) : gval W t n = gq W (gval W t (t n).2.1) (gval W t (t n).2.2.1) := by
  obtain ⟨h1, h2⟩ := (ht n hn).2.2.1 (by omega)
  unfold gval
  rw [gvf_fuel ht ((t n).2.1 + 1) n (t n).2.1 (by omega) (by omega) (by omega), gvf_fuel ht ((t n).2.2.1 + 1) n (t n).2.2.1 (by omega) (by omega) (by omega)]
  conv => lhs; unfold gvf
  rw [if_neg (by omega), if_pos h]
theorem gval_2 {W : VW} {K n : Nat} {t : TR} (ht : tr_ok t K) (hn : n < K) (h : (t n).1 = 2) : gval W t n = gc W (t n).2.2.2.1 (t n).2.2.2.2 (gval W t (t n).2.1) (gval W t (t n).2.2.1) := by
  obtain ⟨h1, h2⟩ := (ht n hn).2.2.1 (by omega)
  unfold gval
  rw [gvf_fuel ht ((t n).2.1 + 1) n (t n).2.1 (by omega) (by omega) (by omega), gvf_fuel ht ((t n).2.2.1 + 1) n (t n).2.2.1 (by omega) (by omega) (by omega)]
  conv => lhs; unfold gvf
  rw [if_neg (by omega), if_neg (by omega)]
/-! two views that are alike for the ENDS of a set -/
def veq (D : Nat → Prop) (W W' : VW) : Prop := gN W = gN W' ∧ gC W = gC W' ∧ ∀ m, m < gN W → gK W m = gK W' m ∧ gV W m = gV W' m ∧ ((gK W m = 3 ∨ gK W m = 4) → gP W m = gP W' m) ∧ (gK W m = 2 → gU W m = gU W' m) ∧ (gK W m = 4 → gE W m = gE W' m) ∧ ∀ x y, D x → D y → sgn (gW W m x) (gW W m y) = sgn (gW W' m x) (gW W' m y)
theorem sgn_lt {p q : Int32} : sgn p q = 1 ↔ p < q := by
  unfold sgn
  split
  · simp [*]
  · split
    · rename_i h1 h2; simp [h1]
    · rename_i h1 h2; simp [h1]
theorem sgn_gt {p q : Int32} : sgn p q = -1 ↔ q < p := by
  unfold sgn
  split
  · rename_i h; simp [Int32.not_lt.mpr (Int32.le_of_lt h)]
  · split
    · simp [*]
    · rename_i h1 h2; simp [h2]
theorem sgn_cg {p q p' q' : Int32} (h : sgn p q = sgn p' q') : ((p < q) ↔ (p' < q')) ∧ ((q < p) ↔ (q' < p')) := ⟨by rw [← sgn_lt, ← sgn_lt, h], by rw [← sgn_gt, ← sgn_gt, h]⟩
theorem mgn_cg {w w' : Nat → Nat → Int32} {v v' : Nat → Int32} {x y : Nat} : ∀ n, (∀ m, m < n → v m = v' m ∧ sgn (w m x) (w m y) = sgn (w' m x) (w' m y)) → mgn w v x y n = mgn w' v' x y n := by
  intro n
  induction n with
  | zero => intro _; rfl
  | succ n ih =>
    intro h
    obtain ⟨h1, h2⟩ := h n (by omega)
    obtain ⟨h3, h4⟩ := sgn_cg h2
    unfold mgn
    rw [ih (fun m hm => h m (by omega)), h1]
    simp only [h3, h4]
theorem psm_cg {k k' p p' : Nat → Int32} {w w' : Nat → Nat → Int32} {v v' : Nat → Int32} {party : Int32} {x y : Nat} : ∀ n, (∀ m, m < n → k m = k' m ∧ v m = v' m ∧ ((k m = 3 ∨ k m = 4) → p m = p' m) ∧ sgn (w m x) (w m y) = sgn (w' m x) (w' m y)) → psm k p w v party x y n = psm k' p' w' v' party x y n := by
  intro n
  induction n with
  | zero => intro _; rfl
  | succ n ih =>
    intro h
    obtain ⟨h1, h2, h3, h4⟩ := h n (by omega)
    unfold psm
    rw [ih (fun m hm => h m (by omega)), h4, h2]
    congr 1
    by_cases hk : k n = 3 ∨ k n = 4
    · rw [h3 hk, h1]
    · have hk' : ¬ (k' n = 3 ∨ k' n = 4) := by rw [← h1]; exact hk
      rw [if_neg (fun z => hk z.1), if_neg (fun z => hk' z.1)]
theorem sv_cg {f g : Nat → Int32} : ∀ n, (∀ m, m < n → f m = g m) → sv f n = sv g n := by
  intro n
  induction n with
  | zero => intro _; rfl
  | succ n ih => intro h; unfold sv; rw [ih (fun m hm => h m (by omega)), h n (by omega)]
theorem veq.mar {D : Nat → Prop} {W W' : VW} (h : veq D W W') {x y : Nat} (hx : D x) (hy : D y) : gmar W x y = gmar W' x y := by
  unfold gmar
  rw [← h.1]
  exact mgn_cg _ (fun m hm => ⟨(h.2.2 m hm).2.1, (h.2.2 m hm).2.2.2.2.2 x y hx hy⟩)
theorem veq.bts {D : Nat → Prop} {W W' : VW} (h : veq D W W') {x y : Nat} (hx : D x) (hy : D y) : gbts W x y ↔ gbts W' x y := by
  unfold gbts; rw [h.mar hx hy, h.2.1]
theorem veq.std {D : Nat → Prop} {W W' : VW} (h : veq D W W') {x y : Nat} (hx : D x) (hy : D y) : gstd W x y = gstd W' x y := by
  unfold gstd; simp only [h.bts hy hx]
theorem gstd_or {W : VW} {x y : Nat} : gstd W x y = x ∨ gstd W x y = y := by
  unfold gstd; split
  · exact Or.inr rfl
  · exact Or.inl rfl
theorem veq.lin {D : Nat → Prop} {W W' : VW} (h : veq D W W') {x y : Nat} (hx : D x) (hy : D y) (p : Int32) : glin W p x y = glin W' p x y := by
  unfold glin
  rw [← h.1, psm_cg _ (fun m hm => ⟨(h.2.2 m hm).1, (h.2.2 m hm).2.1, (h.2.2 m hm).2.2.1, (h.2.2 m hm).2.2.2.2.2 x y hx hy⟩)]
/-- a node's ENDS are in the set (what is seen with less than f steps) -/
def nvD (D : Nat → Prop) (A : NV) : Prop := D A.1 ∧ D A.2.1 ∧ ∀ q, q < 6 → D (A.2.2.1 q)
/-- two nodes of one value, what is seen so far as there are steps -/
def nve (A B : NV) : Prop := A.1 = B.1 ∧ A.2.1 = B.2.1 ∧ (∀ q, q < 6 → A.2.2.1 q = B.2.2.1 q) ∧ A.2.2.2 = B.2.2.2
theorem veq.vot {D : Nat → Prop} {W W' : VW} (h : veq D W W') {m : Nat} (hm : m < gN W) (hu : gK W m = 2 → gU W m < 6) {A B A' B' : NV} (hA : nvD D A) (hB : nvD D B) (eA : nve A A') (eB : nve B B') : gvt W m A B = gvt W' m A' B' := by
  obtain ⟨a1, a2, a3, a4⟩ := eA
  obtain ⟨b1, b2, b3, b4⟩ := eB
  obtain ⟨g1, g2, g3, g4, g5, g6⟩ := h.2.2 m hm
  unfold gvt gvot
  rw [← a1, ← a2, ← a4, ← b1, ← b2, ← b4, ← g1, ← g2]
  by_cases k0 : gK W m = 0
  · rw [if_pos k0, if_pos k0, g6 _ _ hA.1 hB.1]
  rw [if_neg k0, if_neg k0]
  by_cases k1 : gK W m = 1
  · rw [if_pos k1, if_pos k1, g6 _ _ hA.2.1 hB.2.1]
  rw [if_neg k1, if_neg k1]
  by_cases k2 : gK W m = 2
  · rw [if_pos k2, if_pos k2, ← g4 k2, ← a3 _ (hu k2), ← b3 _ (hu k2), g6 _ _ (hA.2.2 _ (hu k2)) (hB.2.2 _ (hu k2))]
  rw [if_neg k2, if_neg k2]
  by_cases k3 : gK W m = 3
  · rw [if_pos k3, if_pos k3, ← g3 (Or.inl k3), h.lin hA.1 hB.1]
  rw [if_neg k3, if_neg k3]
  by_cases k4 : gK W m = 4
  · rw [if_pos k4, if_pos k4, ← g3 (Or.inr k4), ← g5 k4, h.lin hA.1 hB.1]
  rw [if_neg k4, if_neg k4, g6 _ _ hA.1 hB.1, g6 _ _ hA.2.1 hB.2.1]
theorem veq.sum {D : Nat → Prop} {W W' : VW} (h : veq D W W') (hu : ∀ m, m < gN W → gK W m = 2 → gU W m < 6) {A B A' B' : NV} (hA : nvD D A) (hB : nvD D B) (eA : nve A A') (eB : nve B B') : gsum W A B = gsum W' A' B' := by
  unfold gsum
  rw [← h.1]
  exact sv_cg _ (fun m hm => h.vot hm (hu m hm) hA hB eA eB)
theorem veq.q {D : Nat → Prop} {W W' : VW} (h : veq D W W') (hu : ∀ m, m < gN W → gK W m = 2 → gU W m < 6) {A B A' B' : NV} (hA : nvD D A) (hB : nvD D B) (eA : nve A A') (eB : nve B B') : nve (gq W A B) (gq W' A' B') := by
  have hs := h.sum hu hA hB eA eB
  obtain ⟨a1, a2, a3, a4⟩ := eA
  obtain ⟨b1, b2, b3, b4⟩ := eB
  unfold gq nve
  rw [hs, h.2.1, a1, b1, a2, b2]
  refine ⟨rfl, rfl, fun q hq => ?_, ?_⟩
  · cases q with
    | zero => rfl
    | succ q =>
      show gstd W _ _ = gstd W' _ _
      rw [h.std (hA.2.2 q (by omega)) (hB.2.2 q (by omega)), a3 q (by omega), b3 q (by omega)]
  · show (A.2.2.2.1 ||| B.2.2.2.1, _, _) = (A'.2.2.2.1 ||| B'.2.2.2.1, _, _)
    rw [a4, b4]
theorem gq_D {D : Nat → Prop} {W : VW} {A B : NV} (hA : nvD D A) (hB : nvD D B) : nvD D (gq W A B) := by
  refine ⟨hA.1, ?_, fun q hq => ?_⟩
  · show D (if _ then _ else _)
    split
    · exact hA.2.1
    · exact hB.2.1
  · cases q with
    | zero => exact hA.1
    | succ q =>
      show D (gstd W _ _)
      rcases gstd_or (W := W) (x := A.2.2.1 q) (y := B.2.2.1 q) with e | e
      · rw [e]; exact hA.2.2 q (by omega)
      · rw [e]; exact hB.2.2 q (by omega)
theorem veq.c {D : Nat → Prop} {W W' : VW} (h : veq D W W') {x y : Nat} (hx : D x) (hy : D y) {A B A' B' : NV} (eA : nve A A') (eB : nve B B') : nve (gc W x y A B) (gc W' x y A' B') := by
  obtain ⟨a1, a2, a3, a4⟩ := eA
  obtain ⟨b1, b2, b3, b4⟩ := eB
  unfold gc
  by_cases hb : gbts W x y
  · rw [if_pos hb, if_pos ((h.bts hx hy).mp hb), a4, b4]
    exact ⟨a1, a2, a3, rfl⟩
  · rw [if_neg hb, if_neg (fun z => hb ((h.bts hx hy).mpr z)), a4, b4]
    exact ⟨b1, b2, b3, rfl⟩
theorem gc_D {D : Nat → Prop} {W : VW} {x y : Nat} {A B : NV} (hA : nvD D A) (hB : nvD D B) : nvD D (gc W x y A B) := by
  unfold gc
  split
  · exact hA
  · exact hB
theorem leaf_D {D : Nat → Prop} {x : Nat} (h : D x) : nvD D (nv_leaf x) := ⟨h, h, fun _ _ => h⟩
theorem nve.rf (A : NV) : nve A A := ⟨rfl, rfl, fun _ _ => rfl, rfl⟩
end
section
/-! the class: the hall settles a part -/
theorem psm_bd {k p : Nat → Int32} {w : Nat → Nat → Int32} {v : Nat → Int32} {party : Int32} {x y : Nat} : ∀ n, n ≤ 9 → (∀ m, m < n → ∃ k, k ≤ 9 ∧ v m = nI k) → -(9 * n : Int) ≤ (psm k p w v party x y n).toInt ∧ (psm k p w v party x y n).toInt ≤ 9 * n := by
  intro n
  induction n with
  | zero => intro _ _; exact ⟨by show _ ≤ (0 : Int32).toInt; decide, by show (0 : Int32).toInt ≤ _; decide⟩
  | succ n ih =>
    intro hn hv
    obtain ⟨i1, i2⟩ := ih (by omega) (fun m hm => hv m (by omega))
    obtain ⟨c, hc, ec⟩ := hv n (by omega)
    have hb : -(9 : Int) ≤ (if (k n = 3 ∨ k n = 4) ∧ p n = party then sgn (w n x) (w n y) * v n else 0).toInt ∧ (if (k n = 3 ∨ k n = 4) ∧ p n = party then sgn (w n x) (w n y) * v n else 0).toInt ≤ 9 := by
      rw [Int32.mul_comm, mul_sgn, ec]
      have e1 : (nI c).toInt = c := nI_toInt (by omega)
      have e2 : (-nI c).toInt = -(c : Int) := sb_negT (by omega)
      split
      · split
        · rw [e1]; omega
        · split
          · rw [e2]; omega
          · decide
      · decide
    unfold psm
    rw [add_toInt (by omega) (by omega)]
    omega
/-- the hall's view -/
def hvw (s : QST) (N : Nat) : VW := (N, qF s 74 1, fun m => qF s (84 + 3 * m) 1, fun m => qF s (84 + 3 * m) 2, fun m => qF s (84 + 3 * m) 3, fun m => (qF s (84 + 3 * m) 3).toNatClampNeg, fun m => qF s (84 + 3 * m) 4, fun m => qE s (84 + 3 * m + 1))
/-- the hall is well: N seats, p steps -/
def hok (s : QST) (N p : Nat) : Prop := qF s 74 0 = nI N ∧ N ≤ 9 ∧ qF s 74 2 = nI p ∧ p ≤ 5 ∧ ∀ m, m < N → (∃ k, k ≤ 5 ∧ qF s (84 + 3 * m) 1 = nI k) ∧ (∃ k, k ≤ 9 ∧ qF s (84 + 3 * m) 2 = nI k) ∧ ((qF s (84 + 3 * m) 1 = 3 ∨ qF s (84 + 3 * m) 1 = 4) → ∃ q, q < 3 ∧ qF s (84 + 3 * m) 3 = nI q) ∧ (qF s (84 + 3 * m) 1 = 2 → ∃ q, q ≤ p ∧ qF s (84 + 3 * m) 3 = nI q)
theorem hvw_cg {s s' : QST} {lo hi : Nat} (F : qfr lo hi s s') (h1 : 75 ≤ lo) (h2 : hi ≤ 83) (N : Nat) : hvw s' N = hvw s N := by
  unfold hvw
  have e : ∀ m, qF s' (84 + 3 * m) = qF s (84 + 3 * m) := fun m => F.F (by omega)
  have e2 : ∀ m, qE s' (84 + 3 * m + 1) = qE s (84 + 3 * m + 1) := fun m => F.E (by omega)
  simp only [e, e2, F.F (c := 74) (by omega)]
theorem hok.cg {s s' : QST} {lo hi N p : Nat} (h : hok s N p) (F : qfr lo hi s s') (h1 : 75 ≤ lo) (h2 : hi ≤ 83) : hok s' N p := by
  unfold hok
  have e : ∀ m, qF s' (84 + 3 * m) = qF s (84 + 3 * m) := fun m => F.F (by omega)
  simp only [e, F.F (c := 74) (by omega)]
  exact h
/-- the arrays hold what comes of node A -/
def hnd (s : QST) (p A : Nat) (v : NV) : Prop := A < 64 ∧ qE s 76 A = nI v.1 ∧ v.1 < 7 ∧ qE s 77 A = nI v.2.1 ∧ v.2.1 < 7 ∧ (∀ q, q ≤ p → qE s 81 (64 * q + A) = nI (v.2.2.1 q) ∧ v.2.2.1 q < 7) ∧ qE s 80 A = v.2.2.2.1
/-- but for node n the arrays are as they were -/
def hnf (n : Nat) (s s' : QST) : Prop := ∀ j, j < 64 → j ≠ n → (∀ c, 76 ≤ c → c ≤ 80 → qE s' c j = qE s c j) ∧ ∀ q, qE s' 81 (64 * q + j) = qE s 81 (64 * q + j)
theorem hnf.rf (n : Nat) (s : QST) : hnf n s s := fun _ _ _ => ⟨fun _ _ _ => rfl, fun _ => rfl⟩
theorem hnf.trans {n : Nat} {s t u : QST} (h : hnf n s t) (g : hnf n t u) : hnf n s u := fun j h1 h2 => ⟨fun c h3 h4 => ((g j h1 h2).1 c h3 h4).trans ((h j h1 h2).1 c h3 h4), fun q => ((g j h1 h2).2 q).trans ((h j h1 h2).2 q)⟩
theorem hnf.nd {n p A : Nat} {s t : QST} {v : NV} (h : hnf n s t) (hA : A ≠ n) (hv : hnd s p A v) : hnd t p A v := by
  obtain ⟨a1, a2, a3, a4, a5, a6, a7⟩ := hv
  obtain ⟨g1, g2⟩ := h A a1 hA
  exact ⟨a1, by rw [g1 76 (by omega) (by omega)]; exact a2, a3, by rw [g1 77 (by omega) (by omega)]; exact a4, a5, fun q hq => by rw [g2]; exact a6 q hq, by rw [g1 80 (by omega) (by omega)]; exact a7⟩
theorem hnf.sE {n c : Nat} {s t : QST} {v : Int32} (h : hnf n s t) (hc : c < 81) : hnf n s (uE t c n v) := h.trans (fun j h1 h2 => ⟨fun c' h3 h4 => by rw [qE_uE, if_neg (fun z => h2 z.2)], fun q => by rw [qE_uE, if_neg (by omega)]⟩)
theorem hnf.s81 {n e : Nat} {s t : QST} {v : Int32} (h : hnf n s t) (hn : n < 64) : hnf n s (uE t 81 (64 * e + n) v) := h.trans (fun j h1 h2 => ⟨fun c' h3 h4 => by rw [qE_uE, if_neg (by omega)], fun q => by rw [qE_uE, if_neg (by omega)]⟩)
theorem hnf.fr {n : Nat} {s t : QST} {lo hi : Nat} (F : qfr lo hi s t) (h1 : 82 ≤ lo) : hnf n s t := fun j _ _ => ⟨fun c _ _ => F.e (by omega), fun _ => F.e (by omega)⟩
theorem hnd.fr {p A : Nat} {s t : QST} {lo hi : Nat} {v : NV} (F : qfr lo hi s t) (h1 : 82 ≤ lo) (h : hnd s p A v) : hnd t p A v := hnf.nd (n := A + 1) (hnf.fr F h1) (by omega) h
theorem hnd.ve {p A : Nat} {s : QST} {v v' : NV} (h : hnd s p A v) (e : nve v v') (hp : p ≤ 5) : hnd s p A v' := by
  obtain ⟨a1, a2, a3, a4, a5, a6, a7⟩ := h
  obtain ⟨e1, e2, e3, e4⟩ := e
  exact ⟨a1, by rw [← e1]; exact a2, by rw [← e1]; exact a3, by rw [← e2]; exact a4, by rw [← e2]; exact a5, fun q hq => by rw [← e3 q (by omega)]; exact a6 q hq, by rw [← e4]; exact a7⟩
section
variable {X : pm_X} {PR : pm_P} {s : QST} {N p : Nat} {Q : QPost}
theorem w_fill (hP : pm_np PR) {d : Nat} (hd : 1 ≤ d) {c n : Nat} {ts : List Nat} (hl : qLY c (0, n, ts)) (hn : n < 2 ^ 31) (v : Int32) (hk : Q none (uA s c (fun j => if j < n then v else qE s c j))) : qP X PR d 2 [.ref c, .int v] s Q := by
  refine ⟨none, _, ?_, hk⟩
  rw [← qhp_uA hl]
  exact r_Arrays_fill hP hd (hl.a s) hn v
theorem r_seat_lean (hP : pm_np PR) {d : Nat} (hd : 1 ≤ d) {m x y : Nat} (hm : m < 9) (hx : x < 7) (hy : y < 7) : pm_run X pm_Ms PR d 48 [.ref (84 + 3 * m), .int (nI x), .int (nI y)] (qhp s) = some (some (.int (sgn (qE s (84 + 3 * m + 1) x) (qE s (84 + 3 * m + 1) y))), qhp s) := r_Member_leaning hP hd (MB_hp (mb_seat hm) s) hx hy
theorem w_Hall_drawLines (hP : pm_np PR) {d : Nat} (hd : 2 ≤ d) (hh : hok s N p) {A B x y : Nat} (hA : A < 64) (hB : B < 64) (eA : qE s 76 A = nI x) (eB : qE s 76 B = nI y) (hx : x < 7) (hy : y < 7) (hk : ∀ s', qfr 82 82 s s' → (∀ q, q < 3 → qE s' 82 q = glin (hvw s N) (nI q) x y) → Q none s') : qP X PR d 16 [.ref 74, .int (nI A), .int (nI B)] s Q := by
  obtain ⟨hz, hN, -, -, hm0⟩ := hh
  obtain ⟨g, hg⟩ : ∃ g : Nat → Nat → Int32, ∀ q m, g q m = psm (gK (hvw s N)) (gP (hvw s N)) (gW (hvw s N)) (gV (hvw s N)) (nI q) x y m := ⟨_, fun _ _ => rfl⟩
  have gl : ∀ q, glin (hvw s N) (nI q) x y = sg0 (g q N) := fun q => by rw [hg]; rfl
  have bd := fun q => psm_bd (k := gK (hvw s N)) (p := gP (hvw s N)) (w := gW (hvw s N)) (v := gV (hvw s N)) (party := nI q) (x := x) (y := y) N hN (fun m hm => (hm0 m hm).2.1)
  simp only [gl] at hk
  refine qP.of (L := [_, _, _, _, _]) (by omega) (hP _ rfl) ms_Hall_drawLines rfl ?_
  show qW X PR (d - 1) (none) cd_Hall_drawLines 0 _ _ _ _
  have last : ∀ (k e : Nat) (s1 : QST) (L4 : Option Value), e + k = 3 → qfr 82 82 s s1 → (∀ q, q < e → qE s1 82 q = sg0 (g q N)) → (∀ q, e ≤ q → q < 3 → qE s1 82 q = g q N) → qW X PR (d - 1) (none) cd_Hall_drawLines 6 [some (.ref (74)), some (.int (nI A)), some (.int (nI B)), some (.int (nI e)), L4] [] s1 Q := by
    intro k
    induction k with
    | zero =>
      intro e s1 L4 he F1 h1 h2
      have e3 : e = 3 := by omega
      subst e3
      refine qW.blk rfl ?_
      refine qv_iload rfl ?_
      refine qv_iconst (v := 3) rfl ?_
      refine qv_icmp_geNt (q := 3) rfl rfl (by omega) (by omega) (by omega) (tgt := 8) rfl ?_
      refine qW.blk rfl ?_
      refine qv_ret rfl ?_
      exact hk _ F1 h1
    | succ k ih =>
      intro e s1 L4 he F1 h1 h2
      have hge := h2 e (Nat.le_refl _) (by omega)
      refine qW.blk rfl ?_
      refine qv_iload rfl ?_
      refine qv_iconst (v := 3) rfl ?_
      refine qv_icmp_geNf (q := 3) rfl rfl (by omega) (by omega) (by omega) (nx := 7) rfl ?_
      refine qW.blk rfl ?_
      refine qv_aload rfl ?_
      refine qv_gr ly_74 ⟨rfl, rfl, rfl⟩ (by omega) ?_
      refine qv_iload rfl ?_
      refine qv_aload rfl ?_
      refine qv_gr ly_74 ⟨rfl, rfl, rfl⟩ (by omega) ?_
      refine qv_iload rfl ?_
      refine qv_ia ly_82 rfl (by omega) (by decide) rfl ?_
      refine qv_staticE sg_Integer_signum rfl (r_Integer_signum hP (by omega) (qE s1 82 e) (by rw [hge, hg]; have := bd e; omega)) ?_
      refine qv_is ly_82 rfl (by omega) (by decide) ?_
      refine qv_iinc (L' := [_, _, _, _, _]) rfl (nI_succ _).symm rfl ?_
      refine qv_goto (tgt := 6) rfl ?_
      refine ih (e + 1) _ L4 (by omega) (F1.uE (by omega)) (fun q hq => ?_) (fun q h3 h4 => ?_)
      · by_cases hqe : q = e
        · subst hqe; rw [qE_uEs, hge]
        · rw [qE_uEk hqe]; exact h1 q (by omega)
      · rw [qE_uEk (by omega)]; exact h2 q (by omega) h4
  have loop : ∀ (k m : Nat) (s1 : QST) (L4 : Option Value), m + k = N → qfr 82 82 s s1 → (∀ q, q < 3 → qE s1 82 q = g q m) → qW X PR (d - 1) (none) cd_Hall_drawLines 1 [some (.ref (74)), some (.int (nI A)), some (.int (nI B)), some (.int (nI m)), L4] [] s1 Q := by
    intro k
    induction k with
    | zero =>
      intro m s1 L4 hm F1 h1
      have e : m = N := by omega
      subst e
      refine qW.blk rfl ?_
      refine qv_iload rfl ?_
      refine qv_aload rfl ?_
      refine qv_gi ly_74 ⟨rfl, rfl, rfl⟩ ((F1.f (by omega)).trans hz) ?_
      refine qv_icmp_geNt rfl rfl (by omega) (by omega) (by omega) (tgt := 5) rfl ?_
      refine qW.blk rfl ?_
      refine qv_iconst (v := 0) rfl ?_
      refine qv_istore (L' := [_, _, _, _, _]) rfl ?_
      refine qv_nil (nx := 6) rfl ?_
      exact last 3 0 s1 L4 (by omega) F1 (fun q hq => by omega) (fun q _ hq => h1 q hq)
    | succ k ih =>
      intro m s1 L4 hm F1 h1
      have hm9 : m < 9 := by omega
      obtain ⟨-, -, hp, -⟩ := hm0 m (by omega)
      have eF : qF s1 (84 + 3 * m) = qF s (84 + 3 * m) := F1.F (by omega)
      have eW : qE s1 (84 + 3 * m + 1) = qE s (84 + 3 * m + 1) := F1.E (by omega)
      have gs : ∀ q, g q (m + 1) = g q m + (if (qF s (84 + 3 * m) 1 = 3 ∨ qF s (84 + 3 * m) 1 = 4) ∧ qF s (84 + 3 * m) 3 = nI q then sgn (qE s (84 + 3 * m + 1) x) (qE s (84 + 3 * m + 1) y) * qF s (84 + 3 * m) 2 else 0) := fun q => by rw [hg, hg]; rfl
      refine qW.blk rfl ?_
      refine qv_iload rfl ?_
      refine qv_aload rfl ?_
      refine qv_gi ly_74 ⟨rfl, rfl, rfl⟩ ((F1.f (by omega)).trans hz) ?_
      refine qv_icmp_geNf rfl rfl (by omega) (by omega) (by omega) (nx := 2) rfl ?_
      refine qW.blk rfl ?_
      refine qv_aload rfl ?_
      refine qv_gr ly_74 ⟨rfl, rfl, rfl⟩ (by omega) ?_
      refine qv_iload rfl ?_
      refine qv_aa (j := m) (r := 84 + 3 * m) ly_75 rfl (show _ < 9 by omega) (by decide) rfl ?_
      refine qv_astore (L' := [_, _, _, _, _]) rfl ?_
      refine qv_aload rfl ?_
      refine qv_virtE ((mb_seat (m := m) (by omega)).1.rcv _) sg_Member_ofParty rfl rfl (r_Member_ofParty hP (by omega) (MB_hp (mb_seat hm9) s1)) ?_
      refine qv_if_eqB (tgt := 4) (nx := 3) rfl rfl (fun hc2 => ?_) (fun hc2 => ?_)
      · rw [eF] at hc2
        refine qW.blk rfl ?_
        refine qv_iinc (L' := [_, _, _, _, _]) rfl (nI_succ _).symm rfl ?_
        refine qv_goto (tgt := 1) rfl ?_
        exact ih (m + 1) _ _ (by omega) F1 (fun q hq => by rw [gs, if_neg (fun z => hc2 z.1), Int32.add_zero]; exact h1 q hq)
      · rw [eF] at hc2
        obtain ⟨c, hc3, ec⟩ := hp hc2
        refine qW.blk rfl ?_
        refine qv_aload rfl ?_
        refine qv_gr ly_74 ⟨rfl, rfl, rfl⟩ (by omega) ?_
        refine qv_aload rfl ?_
        refine qv_gi (mb_seat (m := m) (by omega)).1 ⟨rfl, rfl, rfl⟩ ((congrFun eF 3).trans ec) ?_
        refine qv_dup2 rfl rfl ?_
        refine qv_ia ly_82 rfl (by omega) (by decide) rfl ?_
        refine qv_aload rfl ?_
        refine qv_gi (mb_seat (m := m) (by omega)).1 ⟨rfl, rfl, rfl⟩ rfl ?_
        refine qv_aload rfl ?_
        refine qv_aload rfl ?_
        refine qv_gr ly_74 ⟨rfl, rfl, rfl⟩ (by omega) ?_
        refine qv_iload rfl ?_
        refine qv_ia ly_76 rfl (by omega) (by decide) ((F1.e (by omega)).trans eA) ?_
        refine qv_aload rfl ?_
        refine qv_gr ly_74 ⟨rfl, rfl, rfl⟩ (by omega) ?_
        refine qv_iload rfl ?_
        refine qv_ia ly_76 rfl (by omega) (by decide) ((F1.e (by omega)).trans eB) ?_
        refine qv_virtE ((mb_seat (m := m) (by omega)).1.rcv _) sg_Member_leaning rfl rfl (r_seat_lean hP (by omega) hm9 hx hy) ?_
        refine qv_imul ?_
        refine qv_iadd ?_
        refine qv_is ly_82 rfl (by omega) (by decide) ?_
        refine qv_nil (nx := 4) rfl ?_
        refine qW.blk rfl ?_
        refine qv_iinc (L' := [_, _, _, _, _]) rfl (nI_succ _).symm rfl ?_
        refine qv_goto (tgt := 1) rfl ?_
        refine ih (m + 1) _ _ (by omega) (F1.uE (by omega)) (fun q hq => ?_)
        rw [gs, eF, eW]
        by_cases hqe : q = c
        · subst hqe
          rw [qE_uEs, if_pos ⟨hc2, ec⟩, h1 q hq, Int32.mul_comm]
        · rw [qE_uEk hqe, if_neg (fun z => hqe ((nI_eq (by omega) (by omega)).mp (z.2.symm.trans ec))), Int32.add_zero]
          exact h1 q hq
  refine qW.blk rfl ?_
  refine qv_aload rfl ?_
  refine qv_gr ly_74 ⟨rfl, rfl, rfl⟩ (by omega) ?_
  refine qv_iconst (v := 0) rfl ?_
  refine qv_static sg_Arrays_fill rfl (w_fill hP (by omega) ly_82 (by decide) 0 ?_) 
  refine qv_iconst (v := 0) rfl ?_
  refine qv_istore (L' := [_, _, _, _, _]) rfl ?_
  refine qv_nil (nx := 1) rfl ?_
  refine loop N 0 _ _ (by omega) ((qfr.rf s).uA (by omega)) (fun q hq => ?_)
  rw [qE_uAs, if_pos hq, hg]
  rfl
end
end
section
/-! the class: the hall's votes; a tree is settled -/
theorem tab15 {x : Int32} {d a b c e f : Int} : pm_tab d 1 5 #[a, b, c, e, f] x = some (if x = 1 then a else if x = 2 then b else if x = 3 then c else if x = 4 then e else if x = 5 then f else d) := by
  unfold pm_tab
  by_cases h1 : x = 1
  · subst h1; rfl
  by_cases h2 : x = 2
  · subst h2; rfl
  by_cases h3 : x = 3
  · subst h3; rfl
  by_cases h4 : x = 4
  · subst h4; rfl
  by_cases h5 : x = 5
  · subst h5; rfl
  rw [if_neg h1, if_neg h2, if_neg h3, if_neg h4, if_neg h5, if_pos]
  have key : ∀ (z : Int32), x.toInt = z.toInt → x = z := fun z h => Int32.toInt_inj.mp h
  have e1 : ¬ x.toInt = 1 := fun h => h1 (key 1 h)
  have e2 : ¬ x.toInt = 2 := fun h => h2 (key 2 h)
  have e3 : ¬ x.toInt = 3 := fun h => h3 (key 3 h)
  have e4 : ¬ x.toInt = 4 := fun h => h4 (key 4 h)
  have e5 : ¬ x.toInt = 5 := fun h => h5 (key 5 h)
  omega
section
variable {X : pm_X} {PR : pm_P} {s : QST} {N p : Nat} {Q : QPost}
theorem w_Hall_sideOfBought (hP : pm_np PR) {d : Nat} (hd : 1 ≤ d) {m A B q : Nat} (hm : m < 9) (hA : A < 64) (hB : B < 64) (hq : q < 3) (eq : qF s (84 + 3 * m) 3 = nI q) (hk : Q (some (.int (if (qE s 80 A >>> (qF s (84 + 3 * m) 4 &&& 31)) &&& 1 = (qE s 80 B >>> (qF s (84 + 3 * m) 4 &&& 31)) &&& 1 then qE s 82 q else ((qE s 80 A >>> (qF s (84 + 3 * m) 4 &&& 31)) &&& 1) - ((qE s 80 B >>> (qF s (84 + 3 * m) 4 &&& 31)) &&& 1)))) s) : qP X PR d 18 [.ref 74, .ref (84 + 3 * m), .int (nI A), .int (nI B)] s Q := by
  refine qP.of (L := [_, _, _, _, _, _]) (by omega) (hP _ rfl) ms_Hall_sideOfBought rfl ?_
  show qW X PR (d - 1) (some .int) cd_Hall_sideOfBought 0 _ _ _ _
  refine qW.blk rfl ?_
  refine qv_aload rfl ?_
  refine qv_gr ly_74 ⟨rfl, rfl, rfl⟩ (by omega) ?_
  refine qv_iload rfl ?_
  refine qv_ia ly_80 rfl (by omega) (by decide) rfl ?_
  refine qv_aload rfl ?_
  refine qv_gi (mb_seat (m := m) (by omega)).1 ⟨rfl, rfl, rfl⟩ rfl ?_
  refine qv_ishr ?_
  refine qv_iconst (v := 1) rfl ?_
  refine qv_iand ?_
  refine qv_istore (L' := [_, _, _, _, _, _]) rfl ?_
  refine qv_aload rfl ?_
  refine qv_gr ly_74 ⟨rfl, rfl, rfl⟩ (by omega) ?_
  refine qv_iload rfl ?_
  refine qv_ia ly_80 rfl (by omega) (by decide) rfl ?_
  refine qv_aload rfl ?_
  refine qv_gi (mb_seat (m := m) (by omega)).1 ⟨rfl, rfl, rfl⟩ rfl ?_
  refine qv_ishr ?_
  refine qv_iconst (v := 1) rfl ?_
  refine qv_iand ?_
  refine qv_istore (L' := [_, _, _, _, _, _]) rfl ?_
  refine qv_iload rfl ?_
  refine qv_iload rfl ?_
  refine qv_icmp_ne (tgt := 2) (nx := 1) rfl rfl (fun hc0 => ?_) (fun hc0 => ?_)
  · rw [if_neg hc0] at hk
    refine qW.blk rfl ?_
    refine qv_iload rfl ?_
    refine qv_iload rfl ?_
    refine qv_isub ?_
    refine qv_nil (nx := 3) rfl ?_
    refine qW.blk rfl ?_
    refine qv_iret (rfl) ?_
    exact hk
  · rw [if_pos (Decidable.not_not.mp hc0)] at hk
    refine qW.blk rfl ?_
    refine qv_aload rfl ?_
    refine qv_gr ly_74 ⟨rfl, rfl, rfl⟩ (by omega) ?_
    refine qv_aload rfl ?_
    refine qv_gi (mb_seat (m := m) (by omega)).1 ⟨rfl, rfl, rfl⟩ (eq) ?_
    refine qv_ia ly_82 rfl (by omega) (by decide) rfl ?_
    refine qv_goto (tgt := 3) rfl ?_
    refine qW.blk rfl ?_
    refine qv_iret (rfl) ?_
    exact hk
theorem nI_c {k : Nat} : (nI k = 0 ↔ k % 4294967296 = 0) := by
  constructor
  · intro h
    have := congrArg (fun x : Int32 => x.toBitVec.toNat) h
    simpa [nI] using this
  · intro h
    apply Int32.toBitVec_inj.mp
    apply BitVec.eq_of_toNat_eq
    simpa [nI] using h
theorem w_Hall_voteOf (hP : pm_np PR) {d : Nat} (hd : 2 ≤ d) (hh : hok s N p) {m : Nat} (hm : m < N) {A B : Nat} {vA vB : NV} (hA : hnd s p A vA) (hB : hnd s p B vB) (hl : ∀ q, q < 3 → qE s 82 q = glin (hvw s N) (nI q) vA.1 vB.1) (hk : Q (some (.int (gvt (hvw s N) m vA vB))) s) : qP X PR d 17 [.ref 74, .ref (84 + 3 * m), .int (nI A), .int (nI B)] s Q := by
  obtain ⟨hz, hN, hst, hp5, hm0⟩ := hh
  obtain ⟨hkd, hvo, hpa, hso⟩ := hm0 m hm
  obtain ⟨a1, a2, a3, a4, a5, a6, a7⟩ := hA
  obtain ⟨b1, b2, b3, b4, b5, b6, b7⟩ := hB
  have hm9 : m < 9 := by omega
  obtain ⟨K, hK⟩ : ∃ K, qF s (84 + 3 * m) 1 = K := ⟨_, rfl⟩
  have hgK : gK (hvw s N) m = K := hK
  rw [hK] at hkd hpa hso
  refine qP.of (L := [_, _, _, _, _, _]) (by omega) (hP _ rfl) ms_Hall_voteOf rfl ?_
  show qW X PR (d - 1) (some .int) cd_Hall_voteOf 0 _ _ _ _
  by_cases k0 : K = 0
  · have e : gvt (hvw s N) m vA vB = qF s (84 + 3 * m) 2 * sgn (qE s (84 + 3 * m + 1) vA.1) (qE s (84 + 3 * m + 1) vB.1) := by
      unfold gvt gvot; rw [hgK, if_pos k0]; rfl
    rw [e] at hk
    subst k0
    refine qW.blk rfl ?_
    refine qv_aload rfl ?_
    refine qv_gi (mb_seat (m := m) (by omega)).1 ⟨rfl, rfl, rfl⟩ (hK) ?_
    refine qv_table (tab15) (tgt := 6) rfl ?_
    refine qW.blk rfl ?_
    refine qv_aload rfl ?_
    refine qv_gi (mb_seat (m := m) (by omega)).1 ⟨rfl, rfl, rfl⟩ rfl ?_
    refine qv_aload rfl ?_
    refine qv_aload rfl ?_
    refine qv_gr ly_74 ⟨rfl, rfl, rfl⟩ (by omega) ?_
    refine qv_iload rfl ?_
    refine qv_ia ly_76 rfl (by omega) (by decide) (a2) ?_
    refine qv_aload rfl ?_
    refine qv_gr ly_74 ⟨rfl, rfl, rfl⟩ (by omega) ?_
    refine qv_iload rfl ?_
    refine qv_ia ly_76 rfl (by omega) (by decide) (b2) ?_
    refine qv_virtE ((mb_seat (m := m) (by omega)).1.rcv _) sg_Member_leaning rfl rfl (r_seat_lean hP (by omega) hm9 a3 b3) ?_
    refine qv_imul ?_
    refine qv_iret (rfl) ?_
    exact hk
  by_cases k1 : K = 1
  · have e : gvt (hvw s N) m vA vB = qF s (84 + 3 * m) 2 * sgn (qE s (84 + 3 * m + 1) vA.2.1) (qE s (84 + 3 * m + 1) vB.2.1) := by
      unfold gvt gvot; rw [hgK, if_neg k0, if_pos k1]; rfl
    rw [e] at hk
    subst k1
    refine qW.blk rfl ?_
    refine qv_aload rfl ?_
    refine qv_gi (mb_seat (m := m) (by omega)).1 ⟨rfl, rfl, rfl⟩ (hK) ?_
    refine qv_table (tab15) (tgt := 1) rfl ?_
    refine qW.blk rfl ?_
    refine qv_aload rfl ?_
    refine qv_gi (mb_seat (m := m) (by omega)).1 ⟨rfl, rfl, rfl⟩ rfl ?_
    refine qv_aload rfl ?_
    refine qv_aload rfl ?_
    refine qv_gr ly_74 ⟨rfl, rfl, rfl⟩ (by omega) ?_
    refine qv_iload rfl ?_
    refine qv_ia ly_77 rfl (by omega) (by decide) (a4) ?_
    refine qv_aload rfl ?_
    refine qv_gr ly_74 ⟨rfl, rfl, rfl⟩ (by omega) ?_
    refine qv_iload rfl ?_
    refine qv_ia ly_77 rfl (by omega) (by decide) (b4) ?_
    refine qv_virtE ((mb_seat (m := m) (by omega)).1.rcv _) sg_Member_leaning rfl rfl (r_seat_lean hP (by omega) hm9 a5 b5) ?_
    refine qv_imul ?_
    refine qv_iret (rfl) ?_
    exact hk
  by_cases k2 : K = 2
  · obtain ⟨q, hq, eq⟩ := hso k2
    have eU : gU (hvw s N) m = q := by
      show (qF s (84 + 3 * m) 3).toNatClampNeg = q
      rw [eq, nI_clamp (by omega)]
    have e : gvt (hvw s N) m vA vB = qF s (84 + 3 * m) 2 * sgn (qE s (84 + 3 * m + 1) (vA.2.2.1 q)) (qE s (84 + 3 * m + 1) (vB.2.2.1 q)) := by
      unfold gvt gvot; rw [hgK, if_neg k0, if_neg k1, if_pos k2, eU]; rfl
    rw [e] at hk
    subst k2
    have e3 : qE s 81 (q * 64 + A) = nI (vA.2.2.1 q) := by rw [Nat.mul_comm]; exact (a6 q hq).1
    have e4 : qE s 81 (q * 64 + B) = nI (vB.2.2.1 q) := by rw [Nat.mul_comm]; exact (b6 q hq).1
    refine qW.blk rfl ?_
    refine qv_aload rfl ?_
    refine qv_gi (mb_seat (m := m) (by omega)).1 ⟨rfl, rfl, rfl⟩ (hK) ?_
    refine qv_table (tab15) (tgt := 2) rfl ?_
    refine qW.blk rfl ?_
    refine qv_aload rfl ?_
    refine qv_gi (mb_seat (m := m) (by omega)).1 ⟨rfl, rfl, rfl⟩ (eq) ?_
    refine qv_iconst (v := 64) rfl ?_
    refine qv_imulN (q := 64) rfl rfl ?_
    refine qv_istore (L' := [_, _, _, _, _, _]) rfl ?_
    refine qv_aload rfl ?_
    refine qv_gi (mb_seat (m := m) (by omega)).1 ⟨rfl, rfl, rfl⟩ rfl ?_
    refine qv_aload rfl ?_
    refine qv_aload rfl ?_
    refine qv_gr ly_74 ⟨rfl, rfl, rfl⟩ (by omega) ?_
    refine qv_iload rfl ?_
    refine qv_iload rfl ?_
    refine qv_iaddN rfl rfl ?_
    refine qv_ia ly_81 rfl (by omega) (by decide) (e3) ?_
    refine qv_aload rfl ?_
    refine qv_gr ly_74 ⟨rfl, rfl, rfl⟩ (by omega) ?_
    refine qv_iload rfl ?_
    refine qv_iload rfl ?_
    refine qv_iaddN rfl rfl ?_
    refine qv_ia ly_81 rfl (by omega) (by decide) (e4) ?_
    refine qv_virtE ((mb_seat (m := m) (by omega)).1.rcv _) sg_Member_leaning rfl rfl (r_seat_lean hP (by omega) hm9 (a6 q hq).2 (b6 q hq).2) ?_
    refine qv_imul ?_
    refine qv_iret (rfl) ?_
    exact hk
  by_cases k3 : K = 3
  · obtain ⟨q, hq, eq⟩ := hpa (Or.inl k3)
    have e : gvt (hvw s N) m vA vB = qF s (84 + 3 * m) 2 * qE s 82 q := by
      unfold gvt gvot; rw [hgK, if_neg k0, if_neg k1, if_neg k2, if_pos k3, hl q hq, show gP (hvw s N) m = nI q from eq]; rfl
    rw [e] at hk
    subst k3
    refine qW.blk rfl ?_
    refine qv_aload rfl ?_
    refine qv_gi (mb_seat (m := m) (by omega)).1 ⟨rfl, rfl, rfl⟩ (hK) ?_
    refine qv_table (tab15) (tgt := 3) rfl ?_
    refine qW.blk rfl ?_
    refine qv_aload rfl ?_
    refine qv_gi (mb_seat (m := m) (by omega)).1 ⟨rfl, rfl, rfl⟩ rfl ?_
    refine qv_aload rfl ?_
    refine qv_gr ly_74 ⟨rfl, rfl, rfl⟩ (by omega) ?_
    refine qv_aload rfl ?_
    refine qv_gi (mb_seat (m := m) (by omega)).1 ⟨rfl, rfl, rfl⟩ (eq) ?_
    refine qv_ia ly_82 rfl (by omega) (by decide) rfl ?_
    refine qv_imul ?_
    refine qv_iret (rfl) ?_
    exact hk
  by_cases k4 : K = 4
  · obtain ⟨q, hq, eq⟩ := hpa (Or.inr k4)
    have e : gvt (hvw s N) m vA vB = qF s (84 + 3 * m) 2 * (if (qE s 80 A >>> (qF s (84 + 3 * m) 4 &&& 31)) &&& 1 = (qE s 80 B >>> (qF s (84 + 3 * m) 4 &&& 31)) &&& 1 then qE s 82 q else ((qE s 80 A >>> (qF s (84 + 3 * m) 4 &&& 31)) &&& 1) - ((qE s 80 B >>> (qF s (84 + 3 * m) 4 &&& 31)) &&& 1)) := by
      unfold gvt gvot
      rw [hgK, if_neg k0, if_neg k1, if_neg k2, if_neg k3, if_pos k4, hl q hq, a7, b7, show gP (hvw s N) m = nI q from eq]
      show (if (vA.2.2.2.1 >>> (qF s (84 + 3 * m) 4 &&& 31)) &&& 1 = (vB.2.2.2.1 >>> (qF s (84 + 3 * m) 4 &&& 31)) &&& 1 then qF s (84 + 3 * m) 2 * _ else qF s (84 + 3 * m) 2 * _) = _
      split <;> rfl
    rw [e] at hk
    subst k4
    refine qW.blk rfl ?_
    refine qv_aload rfl ?_
    refine qv_gi (mb_seat (m := m) (by omega)).1 ⟨rfl, rfl, rfl⟩ (hK) ?_
    refine qv_table (tab15) (tgt := 4) rfl ?_
    refine qW.blk rfl ?_
    refine qv_aload rfl ?_
    refine qv_gi (mb_seat (m := m) (by omega)).1 ⟨rfl, rfl, rfl⟩ rfl ?_
    refine qv_aload rfl ?_
    refine qv_aload rfl ?_
    refine qv_iload rfl ?_
    refine qv_iload rfl ?_
    refine qv_virt (ly_74.rcv _) sg_Hall_sideOfBought rfl rfl (w_Hall_sideOfBought hP (by omega) hm9 a1 b1 hq eq ?_) 
    refine qv_imul ?_
    refine qv_iret (rfl) ?_
    exact hk
  have k5 : K = 5 := by
    obtain ⟨k, hk5, ek⟩ := hkd
    rcases (show k = 0 ∨ k = 1 ∨ k = 2 ∨ k = 3 ∨ k = 4 ∨ k = 5 by omega) with rfl | rfl | rfl | rfl | rfl | rfl
    · exact absurd ek k0
    · exact absurd ek k1
    · exact absurd ek k2
    · exact absurd ek k3
    · exact absurd ek k4
    · exact ek
  have e : gvt (hvw s N) m vA vB = qF s (84 + 3 * m) 2 / 2 * sgn (qE s (84 + 3 * m + 1) vA.1) (qE s (84 + 3 * m + 1) vB.1) + (qF s (84 + 3 * m) 2 - qF s (84 + 3 * m) 2 / 2) * sgn (qE s (84 + 3 * m + 1) vA.2.1) (qE s (84 + 3 * m + 1) vB.2.1) := by
    unfold gvt gvot; rw [hgK, if_neg k0, if_neg k1, if_neg k2, if_neg k3, if_neg k4]; rfl
  rw [e] at hk
  subst k5
  refine qW.blk rfl ?_
  refine qv_aload rfl ?_
  refine qv_gi (mb_seat (m := m) (by omega)).1 ⟨rfl, rfl, rfl⟩ (hK) ?_
  refine qv_table (tab15) (tgt := 5) rfl ?_
  refine qW.blk rfl ?_
  refine qv_aload rfl ?_
  refine qv_gi (mb_seat (m := m) (by omega)).1 ⟨rfl, rfl, rfl⟩ rfl ?_
  refine qv_iconst (v := 2) rfl ?_
  refine qv_idiv (by decide) ?_
  refine qv_istore (L' := [_, _, _, _, _, _]) rfl ?_
  refine qv_iload rfl ?_
  refine qv_aload rfl ?_
  refine qv_aload rfl ?_
  refine qv_gr ly_74 ⟨rfl, rfl, rfl⟩ (by omega) ?_
  refine qv_iload rfl ?_
  refine qv_ia ly_76 rfl (by omega) (by decide) (a2) ?_
  refine qv_aload rfl ?_
  refine qv_gr ly_74 ⟨rfl, rfl, rfl⟩ (by omega) ?_
  refine qv_iload rfl ?_
  refine qv_ia ly_76 rfl (by omega) (by decide) (b2) ?_
  refine qv_virtE ((mb_seat (m := m) (by omega)).1.rcv _) sg_Member_leaning rfl rfl (r_seat_lean hP (by omega) hm9 a3 b3) ?_
  refine qv_imul ?_
  refine qv_aload rfl ?_
  refine qv_gi (mb_seat (m := m) (by omega)).1 ⟨rfl, rfl, rfl⟩ rfl ?_
  refine qv_iload rfl ?_
  refine qv_isub ?_
  refine qv_aload rfl ?_
  refine qv_aload rfl ?_
  refine qv_gr ly_74 ⟨rfl, rfl, rfl⟩ (by omega) ?_
  refine qv_iload rfl ?_
  refine qv_ia ly_77 rfl (by omega) (by decide) (a4) ?_
  refine qv_aload rfl ?_
  refine qv_gr ly_74 ⟨rfl, rfl, rfl⟩ (by omega) ?_
  refine qv_iload rfl ?_
  refine qv_ia ly_77 rfl (by omega) (by decide) (b4) ?_
  refine qv_virtE ((mb_seat (m := m) (by omega)).1.rcv _) sg_Member_leaning rfl rfl (r_seat_lean hP (by omega) hm9 a5 b5) ?_
  refine qv_imul ?_
  refine qv_iadd ?_
  refine qv_iret (rfl) ?_
  exact hk
theorem w_Hall_votesFor (hP : pm_np PR) {d : Nat} (hd : 3 ≤ d) (hh : hok s N p) {A B : Nat} {vA vB : NV} (hA : hnd s p A vA) (hB : hnd s p B vB) (hk : ∀ s', qfr 82 82 s s' → Q (some (.int (gsum (hvw s N) vA vB))) s') : qP X PR d 15 [.ref 74, .int (nI A), .int (nI B)] s Q := by
  refine qP.of (L := [_, _, _, _, _]) (by omega) (hP _ rfl) ms_Hall_votesFor rfl ?_
  show qW X PR (d - 1) (some .int) cd_Hall_votesFor 0 _ _ _ _
  refine qW.blk rfl ?_
  refine qv_aload rfl ?_
  refine qv_iload rfl ?_
  refine qv_iload rfl ?_
  refine qv_virt (ly_74.rcv _) sg_Hall_drawLines rfl rfl (w_Hall_drawLines hP (by omega) hh hA.1 hB.1 hA.2.1 hB.2.1 hA.2.2.1 hB.2.2.1 (fun s1 F1 hl => ?_)) 
  refine qv_iconst (v := 0) rfl ?_
  refine qv_istore (L' := [_, _, _, _, _]) rfl ?_
  refine qv_iconst (v := 0) rfl ?_
  refine qv_istore (L' := [_, _, _, _, _]) rfl ?_
  refine qv_nil (nx := 1) rfl ?_
  have hh1 := hh.cg F1 (by omega) (by omega)
  have ew := hvw_cg F1 (by omega) (by omega) N
  obtain ⟨hz, hN, -, -, -⟩ := hh1
  rw [← ew] at hl hk
  have loop : ∀ (k m : Nat), m + k = N → qW X PR (d - 1) (some .int) cd_Hall_votesFor 1 [some (.ref (74)), some (.int (nI A)), some (.int (nI B)), some (.int (sv (fun m => gvt (hvw s1 N) m vA vB) m)), some (.int (nI m))] [] s1 Q := by
    intro k
    induction k with
    | zero =>
      intro m hm
      have e : m = N := by omega
      subst e
      refine qW.blk rfl ?_
      refine qv_iload rfl ?_
      refine qv_aload rfl ?_
      refine qv_gi ly_74 ⟨rfl, rfl, rfl⟩ (hz) ?_
      refine qv_icmp_geNt rfl rfl (by omega) (by omega) (by omega) (tgt := 3) rfl ?_
      refine qW.blk rfl ?_
      refine qv_iload rfl ?_
      refine qv_iret (rfl) ?_
      exact hk s1 F1
    | succ k ih =>
      intro m hm
      refine qW.blk rfl ?_
      refine qv_iload rfl ?_
      refine qv_aload rfl ?_
      refine qv_gi ly_74 ⟨rfl, rfl, rfl⟩ (hz) ?_
      refine qv_icmp_geNf rfl rfl (by omega) (by omega) (by omega) (nx := 2) rfl ?_
      refine qW.blk rfl ?_
      refine qv_iload rfl ?_
      refine qv_aload rfl ?_
      refine qv_aload rfl ?_
      refine qv_gr ly_74 ⟨rfl, rfl, rfl⟩ (by omega) ?_
      refine qv_iload rfl ?_
      refine qv_aa (j := m) (r := 84 + 3 * m) ly_75 rfl (show _ < 9 by omega) (by decide) rfl ?_
      refine qv_iload rfl ?_
      refine qv_iload rfl ?_
      refine qv_virt (ly_74.rcv _) sg_Hall_voteOf rfl rfl (w_Hall_voteOf hP (by omega) (hh.cg F1 (by omega) (by omega)) (m := m) (by omega) (hA.fr F1 (by omega)) (hB.fr F1 (by omega)) hl ?_) 
      refine qv_iadd ?_
      refine qv_istore (L' := [_, _, _, _, _]) rfl ?_
      refine qv_iinc (L' := [_, _, _, _, _]) rfl (nI_succ _).symm rfl ?_
      refine qv_goto (tgt := 1) rfl ?_
      exact ih (m + 1) (by omega)
  exact loop N 0 (by omega)
theorem w_Hall_voteIn (hP : pm_np PR) {d : Nat} (hd : 3 ≤ d) (hh : hok s N p) {m : Nat} (hm : m < N) {A B : Nat} {vA vB : NV} (hA : hnd s p A vA) (hB : hnd s p B vB) (hk : ∀ s', qfr 82 82 s s' → Q (some (.int (gvt (hvw s N) m vA vB))) s') : qP X PR d 25 [.ref 74, .int (nI A), .int (nI B), .int (nI m)] s Q := by
  have hN := hh.2.1
  refine qP.of (L := [_, _, _, _]) (by omega) (hP _ rfl) ms_Hall_voteIn rfl ?_
  show qW X PR (d - 1) (some .int) cd_Hall_voteIn 0 _ _ _ _
  refine qW.blk rfl ?_
  refine qv_aload rfl ?_
  refine qv_iload rfl ?_
  refine qv_iload rfl ?_
  refine qv_virt (ly_74.rcv _) sg_Hall_drawLines rfl rfl (w_Hall_drawLines hP (by omega) hh hA.1 hB.1 hA.2.1 hB.2.1 hA.2.2.1 hB.2.2.1 (fun s1 F1 hl => ?_)) 
  refine qv_aload rfl ?_
  refine qv_aload rfl ?_
  refine qv_gr ly_74 ⟨rfl, rfl, rfl⟩ (by omega) ?_
  refine qv_iload rfl ?_
  refine qv_aa (j := m) (r := 84 + 3 * m) ly_75 rfl (show _ < 9 by omega) (by decide) rfl ?_
  refine qv_iload rfl ?_
  refine qv_iload rfl ?_
  refine qv_virt (ly_74.rcv _) sg_Hall_voteOf rfl rfl (w_Hall_voteOf hP (by omega) (hh.cg F1 (by omega) (by omega)) (m := m) hm (hA.fr F1 (by omega)) (hB.fr F1 (by omega)) (by rw [hvw_cg F1 (by omega) (by omega)]; exact hl) ?_) 
  refine qv_iret (rfl) ?_
  rw [hvw_cg F1 (by omega) (by omega)]
  exact hk s1 F1
theorem w_Hall_settleEnd (hP : pm_np PR) {d : Nat} (hd : 1 ≤ d) (hp : qF s 74 2 = nI p) (hp5 : p ≤ 5) {n x : Nat} (hn : n < 64) (hx : x < 7) (hk : ∀ s', qfr 76 81 s s' → hnf n s s' → hnd s' p n (nv_leaf x) → Q none s') : qP X PR d 24 [.ref 74, .int (nI n), .int (nI x)] s Q := by
  refine qP.of (L := [_, _, _, _]) (by omega) (hP _ rfl) ms_Hall_settleEnd rfl ?_
  show qW X PR (d - 1) (none) cd_Hall_settleEnd 0 _ _ _ _
  have loop : ∀ (k e : Nat) (s1 : QST), e + k = p + 1 → qfr 76 81 s s1 → hnf n s s1 → qE s1 76 n = nI x → qE s1 77 n = nI x → qE s1 80 n = 1 <<< (nI x &&& 31) → (∀ q, q < e → qE s1 81 (64 * q + n) = nI x) → qW X PR (d - 1) (none) cd_Hall_settleEnd 1 [some (.ref (74)), some (.int (nI n)), some (.int (nI x)), some (.int (nI e))] [] s1 Q := by
    intro k
    induction k with
    | zero =>
      intro e s1 he F1 F2 h1 h2 h3 h4
      refine qW.blk rfl ?_
      refine qv_iload rfl ?_
      refine qv_aload rfl ?_
      refine qv_gi ly_74 ⟨rfl, rfl, rfl⟩ ((F1.f (by omega)).trans hp) ?_
      refine qv_icmp_gtNt rfl rfl (by omega) (by omega) (by omega) (tgt := 3) rfl ?_
      refine qW.blk rfl ?_
      refine qv_ret rfl ?_
      exact hk s1 F1 F2 ⟨hn, h1, hx, h2, hx, fun q hq => ⟨h4 q (by omega), hx⟩, h3⟩
    | succ k ih =>
      intro e s1 he F1 F2 h1 h2 h3 h4
      refine qW.blk rfl ?_
      refine qv_iload rfl ?_
      refine qv_aload rfl ?_
      refine qv_gi ly_74 ⟨rfl, rfl, rfl⟩ ((F1.f (by omega)).trans hp) ?_
      refine qv_icmp_gtNf rfl rfl (by omega) (by omega) (by omega) (nx := 2) rfl ?_
      refine qW.blk rfl ?_
      refine qv_aload rfl ?_
      refine qv_gr ly_74 ⟨rfl, rfl, rfl⟩ (by omega) ?_
      refine qv_iload rfl ?_
      refine qv_iconst (v := 64) rfl ?_
      refine qv_imulN (q := 64) rfl rfl ?_
      refine qv_iload rfl ?_
      refine qv_iaddN rfl rfl ?_
      refine qv_iload rfl ?_
      refine qv_is ly_81 rfl (by omega) (by decide) ?_
      refine qv_iinc (L' := [_, _, _, _]) rfl (nI_succ _).symm rfl ?_
      refine qv_goto (tgt := 1) rfl ?_
      rw [Nat.mul_comm e 64]
      refine ih (e + 1) _ (by omega) (F1.uE (by omega)) (F2.s81 hn) ?_ ?_ ?_ (fun q hq => ?_)
      · rw [qE_uEc (by omega)]; exact h1
      · rw [qE_uEc (by omega)]; exact h2
      · rw [qE_uEc (by omega)]; exact h3
      · by_cases hqe : q = e
        · subst hqe; rw [qE_uEs]
        · rw [qE_uEk (by omega)]; exact h4 q (by omega)
  refine qW.blk rfl ?_
  refine qv_aload rfl ?_
  refine qv_gr ly_74 ⟨rfl, rfl, rfl⟩ (by omega) ?_
  refine qv_iload rfl ?_
  refine qv_iload rfl ?_
  refine qv_is ly_76 rfl (by omega) (by decide) ?_
  refine qv_aload rfl ?_
  refine qv_gr ly_74 ⟨rfl, rfl, rfl⟩ (by omega) ?_
  refine qv_iload rfl ?_
  refine qv_iload rfl ?_
  refine qv_is ly_77 rfl (by omega) (by decide) ?_
  refine qv_aload rfl ?_
  refine qv_gr ly_74 ⟨rfl, rfl, rfl⟩ (by omega) ?_
  refine qv_iload rfl ?_
  refine qv_iconst (v := 1) rfl ?_
  refine qv_iload rfl ?_
  refine qv_ishl ?_
  refine qv_is ly_80 rfl (by omega) (by decide) ?_
  refine qv_iconst (v := 0) rfl ?_
  refine qv_istore (L' := [_, _, _, _]) rfl ?_
  refine qv_nil (nx := 1) rfl ?_
  refine loop (p + 1) 0 _ (by omega) ((((qfr.rf s).uE (by omega)).uE (by omega)).uE (by omega)) ((((hnf.rf n s).sE (by omega)).sE (by omega)).sE (by omega)) ?_ ?_ ?_ (fun q hq => by omega)
  · rw [qE_uEc (by omega), qE_uEc (by omega), qE_uEs]
  · rw [qE_uEc (by omega), qE_uEs]
  · rw [qE_uEs]
theorem w_Hall_settleChoice (hP : pm_np PR) {d : Nat} (hd : 1 ≤ d) (hp : qF s 74 2 = nI p) (hp5 : p ≤ 5) {n A B x y : Nat} {W : VW} (hn : n < 64) {vA vB : NV} (hA : hnd s p A vA) (hB : hnd s p B vB) (hAn : A ≠ n) (hBn : B ≠ n) (hk : ∀ s', qfr 76 81 s s' → hnf n s s' → hnd s' p n (gc W x y vA vB) → Q none s') : qP X PR d 23 [.ref 74, .int (nI n), .int (nI A), .int (nI B), .int (bI (gbts W x y))] s Q := by
  obtain ⟨C, vC, hC, hCn, hCd, hcv⟩ : ∃ (C : Nat) (vC : NV), hnd s p C vC ∧ C ≠ n ∧ C = (if gbts W x y then A else B) ∧ gc W x y vA vB = (vC.1, vC.2.1, vC.2.2.1, vA.2.2.2.1 ||| vB.2.2.2.1, 0, 0) := by
    unfold gc
    by_cases hb : gbts W x y
    · exact ⟨A, vA, hA, hAn, by rw [if_pos hb], by rw [if_pos hb]⟩
    · exact ⟨B, vB, hB, hBn, by rw [if_neg hb], by rw [if_neg hb]⟩
  rw [hcv] at hk
  have hA1 := hA.1
  have hB1 := hB.1
  have iA := hA.2.2.2.2.2.2
  have iB := hB.2.2.2.2.2.2
  obtain ⟨c1, c2, c3, c4, c5, c6, c7⟩ := hC
  refine qP.of (L := [_, _, _, _, _, _, _]) (by omega) (hP _ rfl) ms_Hall_settleChoice rfl ?_
  show qW X PR (d - 1) (none) cd_Hall_settleChoice 0 _ _ _ _
  have loop : ∀ (k e : Nat) (s1 : QST), e + k = p + 1 → qfr 76 81 s s1 → hnf n s s1 → qE s1 76 n = nI vC.1 → qE s1 77 n = nI vC.2.1 → qE s1 80 n = vA.2.2.2.1 ||| vB.2.2.2.1 → (∀ q, q < e → qE s1 81 (64 * q + n) = nI (vC.2.2.1 q)) → qW X PR (d - 1) (none) cd_Hall_settleChoice 4 [some (.ref (74)), some (.int (nI n)), some (.int (nI A)), some (.int (nI B)), some (.int (bI (gbts W x y))), some (.int (nI C)), some (.int (nI e))] [] s1 Q := by
    intro k
    induction k with
    | zero =>
      intro e s1 he F1 F2 h1 h2 h3 h4
      refine qW.blk rfl ?_
      refine qv_iload rfl ?_
      refine qv_aload rfl ?_
      refine qv_gi ly_74 ⟨rfl, rfl, rfl⟩ ((F1.f (by omega)).trans hp) ?_
      refine qv_icmp_gtNt rfl rfl (by omega) (by omega) (by omega) (tgt := 6) rfl ?_
      refine qW.blk rfl ?_
      refine qv_ret rfl ?_
      exact hk s1 F1 F2 ⟨hn, h1, c3, h2, c5, fun q hq => ⟨h4 q (by omega), (c6 q hq).2⟩, h3⟩
    | succ k ih =>
      intro e s1 he F1 F2 h1 h2 h3 h4
      have e2 : qE s1 81 (e * 64 + C) = nI (vC.2.2.1 e) := by rw [Nat.mul_comm, (F2 C c1 hCn).2]; exact (c6 e (by omega)).1
      refine qW.blk rfl ?_
      refine qv_iload rfl ?_
      refine qv_aload rfl ?_
      refine qv_gi ly_74 ⟨rfl, rfl, rfl⟩ ((F1.f (by omega)).trans hp) ?_
      refine qv_icmp_gtNf rfl rfl (by omega) (by omega) (by omega) (nx := 5) rfl ?_
      refine qW.blk rfl ?_
      refine qv_aload rfl ?_
      refine qv_gr ly_74 ⟨rfl, rfl, rfl⟩ (by omega) ?_
      refine qv_iload rfl ?_
      refine qv_iconst (v := 64) rfl ?_
      refine qv_imulN (q := 64) rfl rfl ?_
      refine qv_iload rfl ?_
      refine qv_iaddN rfl rfl ?_
      refine qv_aload rfl ?_
      refine qv_gr ly_74 ⟨rfl, rfl, rfl⟩ (by omega) ?_
      refine qv_iload rfl ?_
      refine qv_iconst (v := 64) rfl ?_
      refine qv_imulN (q := 64) rfl rfl ?_
      refine qv_iload rfl ?_
      refine qv_iaddN rfl rfl ?_
      refine qv_ia ly_81 rfl (by omega) (by decide) (e2) ?_
      refine qv_is ly_81 rfl (by omega) (by decide) ?_
      refine qv_iinc (L' := [_, _, _, _, _, _, _]) rfl (nI_succ _).symm rfl ?_
      refine qv_goto (tgt := 4) rfl ?_
      rw [Nat.mul_comm e 64]
      refine ih (e + 1) _ (by omega) (F1.uE (by omega)) (F2.s81 hn) ?_ ?_ ?_ (fun q hq => ?_)
      · rw [qE_uEc (by omega)]; exact h1
      · rw [qE_uEc (by omega)]; exact h2
      · rw [qE_uEc (by omega)]; exact h3
      · by_cases hqe : q = e
        · subst hqe; rw [qE_uEs]
        · rw [qE_uEk (by omega)]; exact h4 q (by omega)
  have t3 : qW X PR (d - 1) (none) cd_Hall_settleChoice 3 [some (.ref (74)), some (.int (nI n)), some (.int (nI A)), some (.int (nI B)), some (.int (bI (gbts W x y))), none, none] [.int (nI C)] s Q := by
    have q2 : qE (uE s 76 n (nI vC.1)) 77 C = nI vC.2.1 := by rw [qE_uEc (by omega)]; exact c4
    have q3 : qE (uE (uE s 76 n (nI vC.1)) 77 n (nI vC.2.1)) 80 A = vA.2.2.2.1 := by rw [qE_uEc (by omega), qE_uEc (by omega)]; exact iA
    have q4 : qE (uE (uE s 76 n (nI vC.1)) 77 n (nI vC.2.1)) 80 B = vB.2.2.2.1 := by rw [qE_uEc (by omega), qE_uEc (by omega)]; exact iB
    refine qW.blk rfl ?_
    refine qv_istore (L' := [_, _, _, _, _, _, _]) rfl ?_
    refine qv_aload rfl ?_
    refine qv_gr ly_74 ⟨rfl, rfl, rfl⟩ (by omega) ?_
    refine qv_iload rfl ?_
    refine qv_aload rfl ?_
    refine qv_gr ly_74 ⟨rfl, rfl, rfl⟩ (by omega) ?_
    refine qv_iload rfl ?_
    refine qv_ia ly_76 rfl (by omega) (by decide) (c2) ?_
    refine qv_is ly_76 rfl (by omega) (by decide) ?_
    refine qv_aload rfl ?_
    refine qv_gr ly_74 ⟨rfl, rfl, rfl⟩ (by omega) ?_
    refine qv_iload rfl ?_
    refine qv_aload rfl ?_
    refine qv_gr ly_74 ⟨rfl, rfl, rfl⟩ (by omega) ?_
    refine qv_iload rfl ?_
    refine qv_ia ly_77 rfl (by omega) (by decide) (q2) ?_
    refine qv_is ly_77 rfl (by omega) (by decide) ?_
    refine qv_aload rfl ?_
    refine qv_gr ly_74 ⟨rfl, rfl, rfl⟩ (by omega) ?_
    refine qv_iload rfl ?_
    refine qv_aload rfl ?_
    refine qv_gr ly_74 ⟨rfl, rfl, rfl⟩ (by omega) ?_
    refine qv_iload rfl ?_
    refine qv_ia ly_80 rfl (by omega) (by decide) (q3) ?_
    refine qv_aload rfl ?_
    refine qv_gr ly_74 ⟨rfl, rfl, rfl⟩ (by omega) ?_
    refine qv_iload rfl ?_
    refine qv_ia ly_80 rfl (by omega) (by decide) (q4) ?_
    refine qv_ior ?_
    refine qv_is ly_80 rfl (by omega) (by decide) ?_
    refine qv_iconst (v := 0) rfl ?_
    refine qv_istore (L' := [_, _, _, _, _, _, _]) rfl ?_
    refine qv_nil (nx := 4) rfl ?_
    refine loop (p + 1) 0 _ (by omega) ((((qfr.rf s).uE (by omega)).uE (by omega)).uE (by omega)) ((((hnf.rf n s).sE (by omega)).sE (by omega)).sE (by omega)) ?_ ?_ ?_ (fun q hq => by omega)
    · rw [qE_uEc (by omega), qE_uEc (by omega), qE_uEs]
    · rw [qE_uEc (by omega), qE_uEs]
    · rw [qE_uEs]
  refine qW.blk rfl ?_
  refine qv_iload rfl ?_
  refine qv_if_eqB (tgt := 2) (nx := 1) rfl rfl (fun hc0 => ?_) (fun hc0 => ?_)
  · rw [if_neg hc0] at hCd
    subst hCd
    refine qW.blk rfl ?_
    refine qv_iload rfl ?_
    refine qv_nil (nx := 3) rfl ?_
    exact t3
  · rw [if_pos hc0] at hCd
    subst hCd
    refine qW.blk rfl ?_
    refine qv_iload rfl ?_
    refine qv_goto (tgt := 3) rfl ?_
    exact t3
end
end
