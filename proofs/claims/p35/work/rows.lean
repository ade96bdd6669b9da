section
-- ===== PART A: goes FIRST, ahead of the names: the tables' words, and 'selects' of the private methods out of them =====
/-- a private method of a class that the tables say can be made, by its rows of tables_1 -/
def lw_okq (q : MethodName × Nat) : Prop := (q.1.cls ≠ "java/lang/invoke/MethodHandle" ∧ q.1.cls ≠ "java/lang/invoke/VarHandle") ∧ Cond.instantiable q.1.cls q.2 ∈ tables_1 ∧ Cond.privateMethod q.1 ∈ tables_1 ∧ Cond.instanceMethod q.1 ∈ tables_1
theorem lw_p0 : lw_okq (⟨"CutInMay$Rooms", "layAcross", "(LCutInMay$World;II)V"⟩, 6) := ⟨⟨by decide +kernel, by decide +kernel⟩, List.mem_of_getElem? (i := 184) (by decide +kernel), List.mem_of_getElem? (i := 396) (by decide +kernel), List.mem_of_getElem? (i := 397) (by decide +kernel)⟩
theorem lw_p1 : lw_okq (⟨"CutInMay$Reader", "step", "()V"⟩, 18) := ⟨⟨by decide +kernel, by decide +kernel⟩, List.mem_of_getElem? (i := 211) (by decide +kernel), List.mem_of_getElem? (i := 469) (by decide +kernel), List.mem_of_getElem? (i := 470) (by decide +kernel)⟩
theorem lw_p2 : lw_okq (⟨"CutInMay$Reader", "byteAt", "(I)I"⟩, 18) := ⟨⟨by decide +kernel, by decide +kernel⟩, List.mem_of_getElem? (i := 211) (by decide +kernel), List.mem_of_getElem? (i := 473) (by decide +kernel), List.mem_of_getElem? (i := 474) (by decide +kernel)⟩
theorem lw_p3 : lw_okq (⟨"CutInMay$Reader", "readClause", "()Z"⟩, 18) := ⟨⟨by decide +kernel, by decide +kernel⟩, List.mem_of_getElem? (i := 211) (by decide +kernel), List.mem_of_getElem? (i := 488) (by decide +kernel), List.mem_of_getElem? (i := 489) (by decide +kernel)⟩
theorem lw_p4 : lw_okq (⟨"CutInMay$Reader", "wrong", "(I)Z"⟩, 18) := ⟨⟨by decide +kernel, by decide +kernel⟩, List.mem_of_getElem? (i := 211) (by decide +kernel), List.mem_of_getElem? (i := 493) (by decide +kernel), List.mem_of_getElem? (i := 494) (by decide +kernel)⟩
theorem lw_p5 : lw_okq (⟨"CutInMay$Reader", "addPart", "(I)V"⟩, 18) := ⟨⟨by decide +kernel, by decide +kernel⟩, List.mem_of_getElem? (i := 211) (by decide +kernel), List.mem_of_getElem? (i := 497) (by decide +kernel), List.mem_of_getElem? (i := 498) (by decide +kernel)⟩
theorem lw_p6 : lw_okq (⟨"CutInMay$Reader", "readLaw", "(I)Z"⟩, 18) := ⟨⟨by decide +kernel, by decide +kernel⟩, List.mem_of_getElem? (i := 211) (by decide +kernel), List.mem_of_getElem? (i := 501) (by decide +kernel), List.mem_of_getElem? (i := 502) (by decide +kernel)⟩
theorem lw_p7 : lw_okq (⟨"CutInMay$Reader", "readSum", "(I)Z"⟩, 18) := ⟨⟨by decide +kernel, by decide +kernel⟩, List.mem_of_getElem? (i := 211) (by decide +kernel), List.mem_of_getElem? (i := 505) (by decide +kernel), List.mem_of_getElem? (i := 506) (by decide +kernel)⟩
theorem lw_p8 : lw_okq (⟨"CutInMay$Reader", "readProduct", "(I)Z"⟩, 18) := ⟨⟨by decide +kernel, by decide +kernel⟩, List.mem_of_getElem? (i := 211) (by decide +kernel), List.mem_of_getElem? (i := 509) (by decide +kernel), List.mem_of_getElem? (i := 510) (by decide +kernel)⟩
theorem lw_p9 : lw_okq (⟨"CutInMay$Reader", "readOne", "(I)Z"⟩, 18) := ⟨⟨by decide +kernel, by decide +kernel⟩, List.mem_of_getElem? (i := 211) (by decide +kernel), List.mem_of_getElem? (i := 513) (by decide +kernel), List.mem_of_getElem? (i := 514) (by decide +kernel)⟩
theorem lw_p10 : lw_okq (⟨"CutInMay$Reader", "isSign", "(C)Z"⟩, 18) := ⟨⟨by decide +kernel, by decide +kernel⟩, List.mem_of_getElem? (i := 211) (by decide +kernel), List.mem_of_getElem? (i := 517) (by decide +kernel), List.mem_of_getElem? (i := 518) (by decide +kernel)⟩
theorem lw_p11 : lw_okq (⟨"CutInMay$Reader", "isWord", "(I)Z"⟩, 18) := ⟨⟨by decide +kernel, by decide +kernel⟩, List.mem_of_getElem? (i := 211) (by decide +kernel), List.mem_of_getElem? (i := 521) (by decide +kernel), List.mem_of_getElem? (i := 522) (by decide +kernel)⟩
theorem lw_p12 : lw_okq (⟨"CutInMay$Reader", "faultOfOne", "(ZZI)I"⟩, 18) := ⟨⟨by decide +kernel, by decide +kernel⟩, List.mem_of_getElem? (i := 211) (by decide +kernel), List.mem_of_getElem? (i := 525) (by decide +kernel), List.mem_of_getElem? (i := 526) (by decide +kernel)⟩
theorem lw_p13 : lw_okq (⟨"CutInMay$Reader", "make", "(II)Z"⟩, 18) := ⟨⟨by decide +kernel, by decide +kernel⟩, List.mem_of_getElem? (i := 211) (by decide +kernel), List.mem_of_getElem? (i := 529) (by decide +kernel), List.mem_of_getElem? (i := 530) (by decide +kernel)⟩
theorem lw_p14 : lw_okq (⟨"CutInMay$Reader", "readChoice", "(I)Z"⟩, 18) := ⟨⟨by decide +kernel, by decide +kernel⟩, List.mem_of_getElem? (i := 211) (by decide +kernel), List.mem_of_getElem? (i := 533) (by decide +kernel), List.mem_of_getElem? (i := 534) (by decide +kernel)⟩
theorem lw_p15 : lw_okq (⟨"CutInMay$Reader", "takeWord", "(I)Z"⟩, 18) := ⟨⟨by decide +kernel, by decide +kernel⟩, List.mem_of_getElem? (i := 211) (by decide +kernel), List.mem_of_getElem? (i := 537) (by decide +kernel), List.mem_of_getElem? (i := 538) (by decide +kernel)⟩
def lw_privs_1 : List (MethodName × Nat) := [(⟨"CutInMay$Rooms", "layAcross", "(LCutInMay$World;II)V"⟩, 6), (⟨"CutInMay$Reader", "step", "()V"⟩, 18), (⟨"CutInMay$Reader", "byteAt", "(I)I"⟩, 18), (⟨"CutInMay$Reader", "readClause", "()Z"⟩, 18), (⟨"CutInMay$Reader", "wrong", "(I)Z"⟩, 18), (⟨"CutInMay$Reader", "addPart", "(I)V"⟩, 18), (⟨"CutInMay$Reader", "readLaw", "(I)Z"⟩, 18), (⟨"CutInMay$Reader", "readSum", "(I)Z"⟩, 18), (⟨"CutInMay$Reader", "readProduct", "(I)Z"⟩, 18), (⟨"CutInMay$Reader", "readOne", "(I)Z"⟩, 18), (⟨"CutInMay$Reader", "isSign", "(C)Z"⟩, 18), (⟨"CutInMay$Reader", "isWord", "(I)Z"⟩, 18), (⟨"CutInMay$Reader", "faultOfOne", "(ZZI)I"⟩, 18), (⟨"CutInMay$Reader", "make", "(II)Z"⟩, 18), (⟨"CutInMay$Reader", "readChoice", "(I)Z"⟩, 18), (⟨"CutInMay$Reader", "takeWord", "(I)Z"⟩, 18)]
theorem lw_r1 : ∀ q ∈ lw_privs_1, lw_okq q := List.forall_mem_cons.mpr ⟨lw_p0, List.forall_mem_cons.mpr ⟨lw_p1, List.forall_mem_cons.mpr ⟨lw_p2, List.forall_mem_cons.mpr ⟨lw_p3, List.forall_mem_cons.mpr ⟨lw_p4, List.forall_mem_cons.mpr ⟨lw_p5, List.forall_mem_cons.mpr ⟨lw_p6, List.forall_mem_cons.mpr ⟨lw_p7, List.forall_mem_cons.mpr ⟨lw_p8, List.forall_mem_cons.mpr ⟨lw_p9, List.forall_mem_cons.mpr ⟨lw_p10, List.forall_mem_cons.mpr ⟨lw_p11, List.forall_mem_cons.mpr ⟨lw_p12, List.forall_mem_cons.mpr ⟨lw_p13, List.forall_mem_cons.mpr ⟨lw_p14, List.forall_mem_cons.mpr ⟨lw_p15, fun _ h => absurd h List.not_mem_nil⟩⟩⟩⟩⟩⟩⟩⟩⟩⟩⟩⟩⟩⟩⟩⟩
theorem lw_p16 : lw_okq (⟨"CutInMay$Reader", "takeSign", "(C)Z"⟩, 18) := ⟨⟨by decide +kernel, by decide +kernel⟩, List.mem_of_getElem? (i := 211) (by decide +kernel), List.mem_of_getElem? (i := 541) (by decide +kernel), List.mem_of_getElem? (i := 542) (by decide +kernel)⟩
theorem lw_p17 : lw_okq (⟨"CutInMay$Reader", "closeJumps", "(I)V"⟩, 18) := ⟨⟨by decide +kernel, by decide +kernel⟩, List.mem_of_getElem? (i := 211) (by decide +kernel), List.mem_of_getElem? (i := 545) (by decide +kernel), List.mem_of_getElem? (i := 546) (by decide +kernel)⟩
theorem lw_p18 : lw_okq (⟨"CutInMay$Reader", "lead", "(II)V"⟩, 18) := ⟨⟨by decide +kernel, by decide +kernel⟩, List.mem_of_getElem? (i := 211) (by decide +kernel), List.mem_of_getElem? (i := 549) (by decide +kernel), List.mem_of_getElem? (i := 550) (by decide +kernel)⟩
theorem lw_p19 : lw_okq (⟨"CutInMay$Reader", "readDeed", "(I)Z"⟩, 18) := ⟨⟨by decide +kernel, by decide +kernel⟩, List.mem_of_getElem? (i := 211) (by decide +kernel), List.mem_of_getElem? (i := 567) (by decide +kernel), List.mem_of_getElem? (i := 568) (by decide +kernel)⟩
theorem lw_p20 : lw_okq (⟨"CutInMay$Reader", "takeNumber", "(II)Z"⟩, 18) := ⟨⟨by decide +kernel, by decide +kernel⟩, List.mem_of_getElem? (i := 211) (by decide +kernel), List.mem_of_getElem? (i := 571) (by decide +kernel), List.mem_of_getElem? (i := 572) (by decide +kernel)⟩
theorem lw_p21 : lw_okq (⟨"CutInMay", "sawThrough", "(IZ)Z"⟩, 10) := ⟨⟨by decide +kernel, by decide +kernel⟩, List.mem_of_getElem? (i := 19) (by decide +kernel), List.mem_of_getElem? (i := 618) (by decide +kernel), List.mem_of_getElem? (i := 619) (by decide +kernel)⟩
theorem lw_p22 : lw_okq (⟨"CutInMay", "layByHand", "(II)Z"⟩, 10) := ⟨⟨by decide +kernel, by decide +kernel⟩, List.mem_of_getElem? (i := 19) (by decide +kernel), List.mem_of_getElem? (i := 640) (by decide +kernel), List.mem_of_getElem? (i := 641) (by decide +kernel)⟩
theorem lw_p23 : lw_okq (⟨"CutInMay", "canLay", "(II)Z"⟩, 10) := ⟨⟨by decide +kernel, by decide +kernel⟩, List.mem_of_getElem? (i := 19) (by decide +kernel), List.mem_of_getElem? (i := 644) (by decide +kernel), List.mem_of_getElem? (i := 645) (by decide +kernel)⟩
theorem lw_p24 : lw_okq (⟨"CutInMay", "isBlock", "(I)Z"⟩, 10) := ⟨⟨by decide +kernel, by decide +kernel⟩, List.mem_of_getElem? (i := 19) (by decide +kernel), List.mem_of_getElem? (i := 648) (by decide +kernel), List.mem_of_getElem? (i := 649) (by decide +kernel)⟩
theorem lw_p25 : lw_okq (⟨"CutInMay$Yard", "markOf", "(I)I"⟩, 8) := ⟨⟨by decide +kernel, by decide +kernel⟩, List.mem_of_getElem? (i := 35) (by decide +kernel), List.mem_of_getElem? (i := 656) (by decide +kernel), List.mem_of_getElem? (i := 657) (by decide +kernel)⟩
theorem lw_p26 : lw_okq (⟨"CutInMay", "layStraw", "(II)V"⟩, 10) := ⟨⟨by decide +kernel, by decide +kernel⟩, List.mem_of_getElem? (i := 19) (by decide +kernel), List.mem_of_getElem? (i := 664) (by decide +kernel), List.mem_of_getElem? (i := 665) (by decide +kernel)⟩
theorem lw_p27 : lw_okq (⟨"CutInMay", "passDays", "(I)Z"⟩, 10) := ⟨⟨by decide +kernel, by decide +kernel⟩, List.mem_of_getElem? (i := 19) (by decide +kernel), List.mem_of_getElem? (i := 681) (by decide +kernel), List.mem_of_getElem? (i := 682) (by decide +kernel)⟩
theorem lw_p28 : lw_okq (⟨"CutInMay", "passDay", "()V"⟩, 10) := ⟨⟨by decide +kernel, by decide +kernel⟩, List.mem_of_getElem? (i := 19) (by decide +kernel), List.mem_of_getElem? (i := 685) (by decide +kernel), List.mem_of_getElem? (i := 686) (by decide +kernel)⟩
theorem lw_p29 : lw_okq (⟨"CutInMay$Laws", "reckon", "([I)I"⟩, 2) := ⟨⟨by decide +kernel, by decide +kernel⟩, List.mem_of_getElem? (i := 278) (by decide +kernel), List.mem_of_getElem? (i := 732) (by decide +kernel), List.mem_of_getElem? (i := 733) (by decide +kernel)⟩
theorem lw_p30 : lw_okq (⟨"CutInMay", "sellByHand", "(I)I"⟩, 10) := ⟨⟨by decide +kernel, by decide +kernel⟩, List.mem_of_getElem? (i := 19) (by decide +kernel), List.mem_of_getElem? (i := 770) (by decide +kernel), List.mem_of_getElem? (i := 771) (by decide +kernel)⟩
theorem lw_p31 : lw_okq (⟨"CutInMay", "canSell", "(I)Z"⟩, 10) := ⟨⟨by decide +kernel, by decide +kernel⟩, List.mem_of_getElem? (i := 19) (by decide +kernel), List.mem_of_getElem? (i := 774) (by decide +kernel), List.mem_of_getElem? (i := 775) (by decide +kernel)⟩
def lw_privs_2 : List (MethodName × Nat) := [(⟨"CutInMay$Reader", "takeSign", "(C)Z"⟩, 18), (⟨"CutInMay$Reader", "closeJumps", "(I)V"⟩, 18), (⟨"CutInMay$Reader", "lead", "(II)V"⟩, 18), (⟨"CutInMay$Reader", "readDeed", "(I)Z"⟩, 18), (⟨"CutInMay$Reader", "takeNumber", "(II)Z"⟩, 18), (⟨"CutInMay", "sawThrough", "(IZ)Z"⟩, 10), (⟨"CutInMay", "layByHand", "(II)Z"⟩, 10), (⟨"CutInMay", "canLay", "(II)Z"⟩, 10), (⟨"CutInMay", "isBlock", "(I)Z"⟩, 10), (⟨"CutInMay$Yard", "markOf", "(I)I"⟩, 8), (⟨"CutInMay", "layStraw", "(II)V"⟩, 10), (⟨"CutInMay", "passDays", "(I)Z"⟩, 10), (⟨"CutInMay", "passDay", "()V"⟩, 10), (⟨"CutInMay$Laws", "reckon", "([I)I"⟩, 2), (⟨"CutInMay", "sellByHand", "(I)I"⟩, 10), (⟨"CutInMay", "canSell", "(I)Z"⟩, 10)]
theorem lw_r2 : ∀ q ∈ lw_privs_2, lw_okq q := List.forall_mem_cons.mpr ⟨lw_p16, List.forall_mem_cons.mpr ⟨lw_p17, List.forall_mem_cons.mpr ⟨lw_p18, List.forall_mem_cons.mpr ⟨lw_p19, List.forall_mem_cons.mpr ⟨lw_p20, List.forall_mem_cons.mpr ⟨lw_p21, List.forall_mem_cons.mpr ⟨lw_p22, List.forall_mem_cons.mpr ⟨lw_p23, List.forall_mem_cons.mpr ⟨lw_p24, List.forall_mem_cons.mpr ⟨lw_p25, List.forall_mem_cons.mpr ⟨lw_p26, List.forall_mem_cons.mpr ⟨lw_p27, List.forall_mem_cons.mpr ⟨lw_p28, List.forall_mem_cons.mpr ⟨lw_p29, List.forall_mem_cons.mpr ⟨lw_p30, List.forall_mem_cons.mpr ⟨lw_p31, fun _ h => absurd h List.not_mem_nil⟩⟩⟩⟩⟩⟩⟩⟩⟩⟩⟩⟩⟩⟩⟩⟩
theorem lw_p32 : lw_okq (⟨"CutInMay", "sellOff", "(I)I"⟩, 10) := ⟨⟨by decide +kernel, by decide +kernel⟩, List.mem_of_getElem? (i := 19) (by decide +kernel), List.mem_of_getElem? (i := 778) (by decide +kernel), List.mem_of_getElem? (i := 779) (by decide +kernel)⟩
theorem lw_p33 : lw_okq (⟨"CutInMay", "perform", "(LCutInMay$Text;I)Z"⟩, 10) := ⟨⟨by decide +kernel, by decide +kernel⟩, List.mem_of_getElem? (i := 19) (by decide +kernel), List.mem_of_getElem? (i := 823) (by decide +kernel), List.mem_of_getElem? (i := 824) (by decide +kernel)⟩
theorem lw_p34 : lw_okq (⟨"CutInMay", "meltsNow", "(I)I"⟩, 10) := ⟨⟨by decide +kernel, by decide +kernel⟩, List.mem_of_getElem? (i := 19) (by decide +kernel), List.mem_of_getElem? (i := 872) (by decide +kernel), List.mem_of_getElem? (i := 873) (by decide +kernel)⟩
theorem lw_p35 : lw_okq (⟨"CutInMay", "sellsNow", "(I)I"⟩, 10) := ⟨⟨by decide +kernel, by decide +kernel⟩, List.mem_of_getElem? (i := 19) (by decide +kernel), List.mem_of_getElem? (i := 884) (by decide +kernel), List.mem_of_getElem? (i := 885) (by decide +kernel)⟩
theorem lw_p36 : lw_okq (⟨"CutInMay", "isSight", "(I)Z"⟩, 10) := ⟨⟨by decide +kernel, by decide +kernel⟩, List.mem_of_getElem? (i := 19) (by decide +kernel), List.mem_of_getElem? (i := 896) (by decide +kernel), List.mem_of_getElem? (i := 897) (by decide +kernel)⟩
theorem lw_p37 : lw_okq (⟨"CutInMay", "wholeSights", "()I"⟩, 10) := ⟨⟨by decide +kernel, by decide +kernel⟩, List.mem_of_getElem? (i := 19) (by decide +kernel), List.mem_of_getElem? (i := 901) (by decide +kernel), List.mem_of_getElem? (i := 902) (by decide +kernel)⟩
theorem lw_p38 : lw_okq (⟨"CutInMay", "linesThrough", "(IZ)I"⟩, 10) := ⟨⟨by decide +kernel, by decide +kernel⟩, List.mem_of_getElem? (i := 19) (by decide +kernel), List.mem_of_getElem? (i := 905) (by decide +kernel), List.mem_of_getElem? (i := 906) (by decide +kernel)⟩
theorem lw_p39 : lw_okq (⟨"CutInMay", "showingNow", "()I"⟩, 10) := ⟨⟨by decide +kernel, by decide +kernel⟩, List.mem_of_getElem? (i := 19) (by decide +kernel), List.mem_of_getElem? (i := 909) (by decide +kernel), List.mem_of_getElem? (i := 910) (by decide +kernel)⟩
theorem lw_p40 : lw_okq (⟨"CutInMay", "findLevelSets", "(I)V"⟩, 10) := ⟨⟨by decide +kernel, by decide +kernel⟩, List.mem_of_getElem? (i := 19) (by decide +kernel), List.mem_of_getElem? (i := 929) (by decide +kernel), List.mem_of_getElem? (i := 930) (by decide +kernel)⟩
theorem lw_p41 : lw_okq (⟨"CutInMay", "levelSetFor", "(II)I"⟩, 10) := ⟨⟨by decide +kernel, by decide +kernel⟩, List.mem_of_getElem? (i := 19) (by decide +kernel), List.mem_of_getElem? (i := 940) (by decide +kernel), List.mem_of_getElem? (i := 941) (by decide +kernel)⟩
theorem lw_p42 : lw_okq (⟨"CutInMay", "showingBehind", "(I)I"⟩, 10) := ⟨⟨by decide +kernel, by decide +kernel⟩, List.mem_of_getElem? (i := 19) (by decide +kernel), List.mem_of_getElem? (i := 948) (by decide +kernel), List.mem_of_getElem? (i := 949) (by decide +kernel)⟩
theorem lw_p43 : lw_okq (⟨"CutInMay", "manyAhead", "(II)I"⟩, 10) := ⟨⟨by decide +kernel, by decide +kernel⟩, List.mem_of_getElem? (i := 19) (by decide +kernel), List.mem_of_getElem? (i := 967) (by decide +kernel), List.mem_of_getElem? (i := 968) (by decide +kernel)⟩
theorem lw_p44 : lw_okq (⟨"CutInMay$Odds", "spread", "(II)I"⟩, 5) := ⟨⟨by decide +kernel, by decide +kernel⟩, List.mem_of_getElem? (i := 338) (by decide +kernel), List.mem_of_getElem? (i := 1004) (by decide +kernel), List.mem_of_getElem? (i := 1005) (by decide +kernel)⟩
theorem lw_p45 : lw_okq (⟨"CutInMay$Odds", "behind", "(III)I"⟩, 5) := ⟨⟨by decide +kernel, by decide +kernel⟩, List.mem_of_getElem? (i := 338) (by decide +kernel), List.mem_of_getElem? (i := 1008) (by decide +kernel), List.mem_of_getElem? (i := 1009) (by decide +kernel)⟩
theorem lw_p46 : lw_okq (⟨"CutInMay$Odds", "gather", "(I)V"⟩, 5) := ⟨⟨by decide +kernel, by decide +kernel⟩, List.mem_of_getElem? (i := 338) (by decide +kernel), List.mem_of_getElem? (i := 1013) (by decide +kernel), List.mem_of_getElem? (i := 1014) (by decide +kernel)⟩
theorem lw_p47 : lw_okq (⟨"CutInMay$Odds", "leftOver", "(II)I"⟩, 5) := ⟨⟨by decide +kernel, by decide +kernel⟩, List.mem_of_getElem? (i := 338) (by decide +kernel), List.mem_of_getElem? (i := 1017) (by decide +kernel), List.mem_of_getElem? (i := 1018) (by decide +kernel)⟩
def lw_privs_3 : List (MethodName × Nat) := [(⟨"CutInMay", "sellOff", "(I)I"⟩, 10), (⟨"CutInMay", "perform", "(LCutInMay$Text;I)Z"⟩, 10), (⟨"CutInMay", "meltsNow", "(I)I"⟩, 10), (⟨"CutInMay", "sellsNow", "(I)I"⟩, 10), (⟨"CutInMay", "isSight", "(I)Z"⟩, 10), (⟨"CutInMay", "wholeSights", "()I"⟩, 10), (⟨"CutInMay", "linesThrough", "(IZ)I"⟩, 10), (⟨"CutInMay", "showingNow", "()I"⟩, 10), (⟨"CutInMay", "findLevelSets", "(I)V"⟩, 10), (⟨"CutInMay", "levelSetFor", "(II)I"⟩, 10), (⟨"CutInMay", "showingBehind", "(I)I"⟩, 10), (⟨"CutInMay", "manyAhead", "(II)I"⟩, 10), (⟨"CutInMay$Odds", "spread", "(II)I"⟩, 5), (⟨"CutInMay$Odds", "behind", "(III)I"⟩, 5), (⟨"CutInMay$Odds", "gather", "(I)V"⟩, 5), (⟨"CutInMay$Odds", "leftOver", "(II)I"⟩, 5)]
theorem lw_r3 : ∀ q ∈ lw_privs_3, lw_okq q := List.forall_mem_cons.mpr ⟨lw_p32, List.forall_mem_cons.mpr ⟨lw_p33, List.forall_mem_cons.mpr ⟨lw_p34, List.forall_mem_cons.mpr ⟨lw_p35, List.forall_mem_cons.mpr ⟨lw_p36, List.forall_mem_cons.mpr ⟨lw_p37, List.forall_mem_cons.mpr ⟨lw_p38, List.forall_mem_cons.mpr ⟨lw_p39, List.forall_mem_cons.mpr ⟨lw_p40, List.forall_mem_cons.mpr ⟨lw_p41, List.forall_mem_cons.mpr ⟨lw_p42, List.forall_mem_cons.mpr ⟨lw_p43, List.forall_mem_cons.mpr ⟨lw_p44, List.forall_mem_cons.mpr ⟨lw_p45, List.forall_mem_cons.mpr ⟨lw_p46, List.forall_mem_cons.mpr ⟨lw_p47, fun _ h => absurd h List.not_mem_nil⟩⟩⟩⟩⟩⟩⟩⟩⟩⟩⟩⟩⟩⟩⟩⟩
theorem lw_p48 : lw_okq (⟨"CutInMay", "hasLikeBefore", "(I)Z"⟩, 10) := ⟨⟨by decide +kernel, by decide +kernel⟩, List.mem_of_getElem? (i := 19) (by decide +kernel), List.mem_of_getElem? (i := 1033) (by decide +kernel), List.mem_of_getElem? (i := 1034) (by decide +kernel)⟩
theorem lw_p49 : lw_okq (⟨"CutInMay$Serving", "findLowest", "(I)V"⟩, 8) := ⟨⟨by decide +kernel, by decide +kernel⟩, List.mem_of_getElem? (i := 360) (by decide +kernel), List.mem_of_getElem? (i := 1061) (by decide +kernel), List.mem_of_getElem? (i := 1062) (by decide +kernel)⟩
theorem lw_p50 : lw_okq (⟨"CutInMay$Serving", "serves", "(II)Z"⟩, 8) := ⟨⟨by decide +kernel, by decide +kernel⟩, List.mem_of_getElem? (i := 360) (by decide +kernel), List.mem_of_getElem? (i := 1066) (by decide +kernel), List.mem_of_getElem? (i := 1067) (by decide +kernel)⟩
theorem lw_p51 : lw_okq (⟨"CutInMay$Serving", "deepestWhole", "(II)I"⟩, 8) := ⟨⟨by decide +kernel, by decide +kernel⟩, List.mem_of_getElem? (i := 360) (by decide +kernel), List.mem_of_getElem? (i := 1074) (by decide +kernel), List.mem_of_getElem? (i := 1075) (by decide +kernel)⟩
theorem lw_p52 : lw_okq (⟨"CutInMay$Serving", "choose", "(III)V"⟩, 8) := ⟨⟨by decide +kernel, by decide +kernel⟩, List.mem_of_getElem? (i := 360) (by decide +kernel), List.mem_of_getElem? (i := 1084) (by decide +kernel), List.mem_of_getElem? (i := 1085) (by decide +kernel)⟩
theorem lw_p53 : lw_okq (⟨"CutInMay$Serving", "isFree", "(II)Z"⟩, 8) := ⟨⟨by decide +kernel, by decide +kernel⟩, List.mem_of_getElem? (i := 360) (by decide +kernel), List.mem_of_getElem? (i := 1089) (by decide +kernel), List.mem_of_getElem? (i := 1090) (by decide +kernel)⟩
theorem lw_p54 : lw_okq (⟨"CutInMay", "mayLie", "(III)Z"⟩, 10) := ⟨⟨by decide +kernel, by decide +kernel⟩, List.mem_of_getElem? (i := 19) (by decide +kernel), List.mem_of_getElem? (i := 1105) (by decide +kernel), List.mem_of_getElem? (i := 1106) (by decide +kernel)⟩
theorem lw_p55 : lw_okq (⟨"CutInMay", "winner", "()I"⟩, 10) := ⟨⟨by decide +kernel, by decide +kernel⟩, List.mem_of_getElem? (i := 19) (by decide +kernel), List.mem_of_getElem? (i := 1118) (by decide +kernel), List.mem_of_getElem? (i := 1119) (by decide +kernel)⟩
theorem lw_p56 : lw_okq (⟨"CutInMay", "highestBut", "(I)I"⟩, 10) := ⟨⟨by decide +kernel, by decide +kernel⟩, List.mem_of_getElem? (i := 19) (by decide +kernel), List.mem_of_getElem? (i := 1122) (by decide +kernel), List.mem_of_getElem? (i := 1123) (by decide +kernel)⟩
theorem lw_p57 : lw_okq (⟨"CutInMay", "sightsOf", "(I)I"⟩, 10) := ⟨⟨by decide +kernel, by decide +kernel⟩, List.mem_of_getElem? (i := 19) (by decide +kernel), List.mem_of_getElem? (i := 1138) (by decide +kernel), List.mem_of_getElem? (i := 1139) (by decide +kernel)⟩
theorem lw_p58 : lw_okq (⟨"CutInMay", "bestPlay", "(IZ)I"⟩, 10) := ⟨⟨by decide +kernel, by decide +kernel⟩, List.mem_of_getElem? (i := 19) (by decide +kernel), List.mem_of_getElem? (i := 1155) (by decide +kernel), List.mem_of_getElem? (i := 1156) (by decide +kernel)⟩
theorem lw_p59 : lw_okq (⟨"CutInMay", "allSoBy", "(LCutInMay$Text;)Z"⟩, 10) := ⟨⟨by decide +kernel, by decide +kernel⟩, List.mem_of_getElem? (i := 19) (by decide +kernel), List.mem_of_getElem? (i := 1177) (by decide +kernel), List.mem_of_getElem? (i := 1178) (by decide +kernel)⟩
theorem lw_p60 : lw_okq (⟨"CutInMayModel", "four", "(I)V"⟩, 31) := ⟨⟨by decide +kernel, by decide +kernel⟩, List.mem_of_getElem? (i := 1213) (by decide +kernel), List.mem_of_getElem? (i := 1333) (by decide +kernel), List.mem_of_getElem? (i := 1334) (by decide +kernel)⟩
theorem lw_p61 : lw_okq (⟨"CutInMayModel", "readText", "()I"⟩, 31) := ⟨⟨by decide +kernel, by decide +kernel⟩, List.mem_of_getElem? (i := 1213) (by decide +kernel), List.mem_of_getElem? (i := 1345) (by decide +kernel), List.mem_of_getElem? (i := 1346) (by decide +kernel)⟩
theorem lw_p62 : lw_okq (⟨"CutInMayModel", "nextToken", "()V"⟩, 31) := ⟨⟨by decide +kernel, by decide +kernel⟩, List.mem_of_getElem? (i := 1213) (by decide +kernel), List.mem_of_getElem? (i := 1349) (by decide +kernel), List.mem_of_getElem? (i := 1350) (by decide +kernel)⟩
theorem lw_p63 : lw_okq (⟨"CutInMayModel", "byteAt", "(I)I"⟩, 31) := ⟨⟨by decide +kernel, by decide +kernel⟩, List.mem_of_getElem? (i := 1213) (by decide +kernel), List.mem_of_getElem? (i := 1353) (by decide +kernel), List.mem_of_getElem? (i := 1354) (by decide +kernel)⟩
def lw_privs_4 : List (MethodName × Nat) := [(⟨"CutInMay", "hasLikeBefore", "(I)Z"⟩, 10), (⟨"CutInMay$Serving", "findLowest", "(I)V"⟩, 8), (⟨"CutInMay$Serving", "serves", "(II)Z"⟩, 8), (⟨"CutInMay$Serving", "deepestWhole", "(II)I"⟩, 8), (⟨"CutInMay$Serving", "choose", "(III)V"⟩, 8), (⟨"CutInMay$Serving", "isFree", "(II)Z"⟩, 8), (⟨"CutInMay", "mayLie", "(III)Z"⟩, 10), (⟨"CutInMay", "winner", "()I"⟩, 10), (⟨"CutInMay", "highestBut", "(I)I"⟩, 10), (⟨"CutInMay", "sightsOf", "(I)I"⟩, 10), (⟨"CutInMay", "bestPlay", "(IZ)I"⟩, 10), (⟨"CutInMay", "allSoBy", "(LCutInMay$Text;)Z"⟩, 10), (⟨"CutInMayModel", "four", "(I)V"⟩, 31), (⟨"CutInMayModel", "readText", "()I"⟩, 31), (⟨"CutInMayModel", "nextToken", "()V"⟩, 31), (⟨"CutInMayModel", "byteAt", "(I)I"⟩, 31)]
theorem lw_r4 : ∀ q ∈ lw_privs_4, lw_okq q := List.forall_mem_cons.mpr ⟨lw_p48, List.forall_mem_cons.mpr ⟨lw_p49, List.forall_mem_cons.mpr ⟨lw_p50, List.forall_mem_cons.mpr ⟨lw_p51, List.forall_mem_cons.mpr ⟨lw_p52, List.forall_mem_cons.mpr ⟨lw_p53, List.forall_mem_cons.mpr ⟨lw_p54, List.forall_mem_cons.mpr ⟨lw_p55, List.forall_mem_cons.mpr ⟨lw_p56, List.forall_mem_cons.mpr ⟨lw_p57, List.forall_mem_cons.mpr ⟨lw_p58, List.forall_mem_cons.mpr ⟨lw_p59, List.forall_mem_cons.mpr ⟨lw_p60, List.forall_mem_cons.mpr ⟨lw_p61, List.forall_mem_cons.mpr ⟨lw_p62, List.forall_mem_cons.mpr ⟨lw_p63, fun _ h => absurd h List.not_mem_nil⟩⟩⟩⟩⟩⟩⟩⟩⟩⟩⟩⟩⟩⟩⟩⟩
theorem lw_p64 : lw_okq (⟨"CutInMayModel", "clause", "()I"⟩, 31) := ⟨⟨by decide +kernel, by decide +kernel⟩, List.mem_of_getElem? (i := 1213) (by decide +kernel), List.mem_of_getElem? (i := 1368) (by decide +kernel), List.mem_of_getElem? (i := 1369) (by decide +kernel)⟩
theorem lw_p65 : lw_okq (⟨"CutInMayModel", "sortOf", "()I"⟩, 31) := ⟨⟨by decide +kernel, by decide +kernel⟩, List.mem_of_getElem? (i := 1213) (by decide +kernel), List.mem_of_getElem? (i := 1372) (by decide +kernel), List.mem_of_getElem? (i := 1373) (by decide +kernel)⟩
theorem lw_p66 : lw_okq (⟨"CutInMayModel", "isWord", "(J)Z"⟩, 31) := ⟨⟨by decide +kernel, by decide +kernel⟩, List.mem_of_getElem? (i := 1213) (by decide +kernel), List.mem_of_getElem? (i := 1388) (by decide +kernel), List.mem_of_getElem? (i := 1389) (by decide +kernel)⟩
theorem lw_p67 : lw_okq (⟨"CutInMayModel", "body", "(II)I"⟩, 31) := ⟨⟨by decide +kernel, by decide +kernel⟩, List.mem_of_getElem? (i := 1213) (by decide +kernel), List.mem_of_getElem? (i := 1395) (by decide +kernel), List.mem_of_getElem? (i := 1396) (by decide +kernel)⟩
theorem lw_p68 : lw_okq (⟨"CutInMayModel", "pondClause", "(I)I"⟩, 31) := ⟨⟨by decide +kernel, by decide +kernel⟩, List.mem_of_getElem? (i := 1213) (by decide +kernel), List.mem_of_getElem? (i := 1399) (by decide +kernel), List.mem_of_getElem? (i := 1400) (by decide +kernel)⟩
theorem lw_p69 : lw_okq (⟨"CutInMayModel", "figure", "(III)I"⟩, 31) := ⟨⟨by decide +kernel, by decide +kernel⟩, List.mem_of_getElem? (i := 1213) (by decide +kernel), List.mem_of_getElem? (i := 1403) (by decide +kernel), List.mem_of_getElem? (i := 1404) (by decide +kernel)⟩
theorem lw_p70 : lw_okq (⟨"CutInMayModel", "worded", "(JIII)I"⟩, 31) := ⟨⟨by decide +kernel, by decide +kernel⟩, List.mem_of_getElem? (i := 1213) (by decide +kernel), List.mem_of_getElem? (i := 1407) (by decide +kernel), List.mem_of_getElem? (i := 1408) (by decide +kernel)⟩
theorem lw_p71 : lw_okq (⟨"CutInMayModel", "sightClause", "(I)I"⟩, 31) := ⟨⟨by decide +kernel, by decide +kernel⟩, List.mem_of_getElem? (i := 1213) (by decide +kernel), List.mem_of_getElem? (i := 1411) (by decide +kernel), List.mem_of_getElem? (i := 1412) (by decide +kernel)⟩
theorem lw_p72 : lw_okq (⟨"CutInMayModel", "signed", "(IIII)I"⟩, 31) := ⟨⟨by decide +kernel, by decide +kernel⟩, List.mem_of_getElem? (i := 1213) (by decide +kernel), List.mem_of_getElem? (i := 1415) (by decide +kernel), List.mem_of_getElem? (i := 1416) (by decide +kernel)⟩
theorem lw_p73 : lw_okq (⟨"CutInMayModel", "strawClause", "(I)I"⟩, 31) := ⟨⟨by decide +kernel, by decide +kernel⟩, List.mem_of_getElem? (i := 1213) (by decide +kernel), List.mem_of_getElem? (i := 1419) (by decide +kernel), List.mem_of_getElem? (i := 1420) (by decide +kernel)⟩
theorem lw_p74 : lw_okq (⟨"CutInMayModel", "lawClause", "(I)I"⟩, 31) := ⟨⟨by decide +kernel, by decide +kernel⟩, List.mem_of_getElem? (i := 1213) (by decide +kernel), List.mem_of_getElem? (i := 1423) (by decide +kernel), List.mem_of_getElem? (i := 1424) (by decide +kernel)⟩
theorem lw_p75 : lw_okq (⟨"CutInMayModel", "summed", "()I"⟩, 31) := ⟨⟨by decide +kernel, by decide +kernel⟩, List.mem_of_getElem? (i := 1213) (by decide +kernel), List.mem_of_getElem? (i := 1427) (by decide +kernel), List.mem_of_getElem? (i := 1428) (by decide +kernel)⟩
theorem lw_p76 : lw_okq (⟨"CutInMayModel", "behindOne", "()I"⟩, 31) := ⟨⟨by decide +kernel, by decide +kernel⟩, List.mem_of_getElem? (i := 1213) (by decide +kernel), List.mem_of_getElem? (i := 1431) (by decide +kernel), List.mem_of_getElem? (i := 1432) (by decide +kernel)⟩
theorem lw_p77 : lw_okq (⟨"CutInMayModel", "ofNth", "()I"⟩, 31) := ⟨⟨by decide +kernel, by decide +kernel⟩, List.mem_of_getElem? (i := 1213) (by decide +kernel), List.mem_of_getElem? (i := 1435) (by decide +kernel), List.mem_of_getElem? (i := 1436) (by decide +kernel)⟩
theorem lw_p78 : lw_okq (⟨"CutInMayModel", "settle", "(I)V"⟩, 31) := ⟨⟨by decide +kernel, by decide +kernel⟩, List.mem_of_getElem? (i := 1213) (by decide +kernel), List.mem_of_getElem? (i := 1442) (by decide +kernel), List.mem_of_getElem? (i := 1443) (by decide +kernel)⟩
theorem lw_p79 : lw_okq (⟨"CutInMayModel", "emit", "(II)V"⟩, 31) := ⟨⟨by decide +kernel, by decide +kernel⟩, List.mem_of_getElem? (i := 1213) (by decide +kernel), List.mem_of_getElem? (i := 1446) (by decide +kernel), List.mem_of_getElem? (i := 1447) (by decide +kernel)⟩
def lw_privs_5 : List (MethodName × Nat) := [(⟨"CutInMayModel", "clause", "()I"⟩, 31), (⟨"CutInMayModel", "sortOf", "()I"⟩, 31), (⟨"CutInMayModel", "isWord", "(J)Z"⟩, 31), (⟨"CutInMayModel", "body", "(II)I"⟩, 31), (⟨"CutInMayModel", "pondClause", "(I)I"⟩, 31), (⟨"CutInMayModel", "figure", "(III)I"⟩, 31), (⟨"CutInMayModel", "worded", "(JIII)I"⟩, 31), (⟨"CutInMayModel", "sightClause", "(I)I"⟩, 31), (⟨"CutInMayModel", "signed", "(IIII)I"⟩, 31), (⟨"CutInMayModel", "strawClause", "(I)I"⟩, 31), (⟨"CutInMayModel", "lawClause", "(I)I"⟩, 31), (⟨"CutInMayModel", "summed", "()I"⟩, 31), (⟨"CutInMayModel", "behindOne", "()I"⟩, 31), (⟨"CutInMayModel", "ofNth", "()I"⟩, 31), (⟨"CutInMayModel", "settle", "(I)V"⟩, 31), (⟨"CutInMayModel", "emit", "(II)V"⟩, 31)]
theorem lw_r5 : ∀ q ∈ lw_privs_5, lw_okq q := List.forall_mem_cons.mpr ⟨lw_p64, List.forall_mem_cons.mpr ⟨lw_p65, List.forall_mem_cons.mpr ⟨lw_p66, List.forall_mem_cons.mpr ⟨lw_p67, List.forall_mem_cons.mpr ⟨lw_p68, List.forall_mem_cons.mpr ⟨lw_p69, List.forall_mem_cons.mpr ⟨lw_p70, List.forall_mem_cons.mpr ⟨lw_p71, List.forall_mem_cons.mpr ⟨lw_p72, List.forall_mem_cons.mpr ⟨lw_p73, List.forall_mem_cons.mpr ⟨lw_p74, List.forall_mem_cons.mpr ⟨lw_p75, List.forall_mem_cons.mpr ⟨lw_p76, List.forall_mem_cons.mpr ⟨lw_p77, List.forall_mem_cons.mpr ⟨lw_p78, List.forall_mem_cons.mpr ⟨lw_p79, fun _ h => absurd h List.not_mem_nil⟩⟩⟩⟩⟩⟩⟩⟩⟩⟩⟩⟩⟩⟩⟩⟩
theorem lw_p80 : lw_okq (⟨"CutInMayModel", "openNow", "()I"⟩, 31) := ⟨⟨by decide +kernel, by decide +kernel⟩, List.mem_of_getElem? (i := 1213) (by decide +kernel), List.mem_of_getElem? (i := 1450) (by decide +kernel), List.mem_of_getElem? (i := 1451) (by decide +kernel)⟩
theorem lw_p81 : lw_okq (⟨"CutInMayModel", "nextOfNth", "()I"⟩, 31) := ⟨⟨by decide +kernel, by decide +kernel⟩, List.mem_of_getElem? (i := 1213) (by decide +kernel), List.mem_of_getElem? (i := 1454) (by decide +kernel), List.mem_of_getElem? (i := 1455) (by decide +kernel)⟩
theorem lw_p82 : lw_okq (⟨"CutInMayModel", "faultOfOne", "()I"⟩, 31) := ⟨⟨by decide +kernel, by decide +kernel⟩, List.mem_of_getElem? (i := 1213) (by decide +kernel), List.mem_of_getElem? (i := 1458) (by decide +kernel), List.mem_of_getElem? (i := 1459) (by decide +kernel)⟩
theorem lw_p83 : lw_okq (⟨"CutInMayModel", "nameOf", "()I"⟩, 31) := ⟨⟨by decide +kernel, by decide +kernel⟩, List.mem_of_getElem? (i := 1213) (by decide +kernel), List.mem_of_getElem? (i := 1462) (by decide +kernel), List.mem_of_getElem? (i := 1463) (by decide +kernel)⟩
theorem lw_p84 : lw_okq (⟨"CutInMayModel", "isOf", "(I)Z"⟩, 31) := ⟨⟨by decide +kernel, by decide +kernel⟩, List.mem_of_getElem? (i := 1213) (by decide +kernel), List.mem_of_getElem? (i := 1469) (by decide +kernel), List.mem_of_getElem? (i := 1470) (by decide +kernel)⟩
theorem lw_p85 : lw_okq (⟨"CutInMayModel", "isNth", "()Z"⟩, 31) := ⟨⟨by decide +kernel, by decide +kernel⟩, List.mem_of_getElem? (i := 1213) (by decide +kernel), List.mem_of_getElem? (i := 1473) (by decide +kernel), List.mem_of_getElem? (i := 1474) (by decide +kernel)⟩
theorem lw_p86 : lw_okq (⟨"CutInMayModel", "beginOne", "()I"⟩, 31) := ⟨⟨by decide +kernel, by decide +kernel⟩, List.mem_of_getElem? (i := 1213) (by decide +kernel), List.mem_of_getElem? (i := 1477) (by decide +kernel), List.mem_of_getElem? (i := 1478) (by decide +kernel)⟩
theorem lw_p87 : lw_okq (⟨"CutInMayModel", "set", "(III)V"⟩, 31) := ⟨⟨by decide +kernel, by decide +kernel⟩, List.mem_of_getElem? (i := 1213) (by decide +kernel), List.mem_of_getElem? (i := 1493) (by decide +kernel), List.mem_of_getElem? (i := 1494) (by decide +kernel)⟩
theorem lw_p88 : lw_okq (⟨"CutInMayModel", "keep", "()V"⟩, 31) := ⟨⟨by decide +kernel, by decide +kernel⟩, List.mem_of_getElem? (i := 1213) (by decide +kernel), List.mem_of_getElem? (i := 1501) (by decide +kernel), List.mem_of_getElem? (i := 1502) (by decide +kernel)⟩
theorem lw_p89 : lw_okq (⟨"CutInMayModel", "get", "(II)I"⟩, 31) := ⟨⟨by decide +kernel, by decide +kernel⟩, List.mem_of_getElem? (i := 1213) (by decide +kernel), List.mem_of_getElem? (i := 1505) (by decide +kernel), List.mem_of_getElem? (i := 1506) (by decide +kernel)⟩
theorem lw_p90 : lw_okq (⟨"CutInMayModel", "blocks", "()I"⟩, 31) := ⟨⟨by decide +kernel, by decide +kernel⟩, List.mem_of_getElem? (i := 1213) (by decide +kernel), List.mem_of_getElem? (i := 1509) (by decide +kernel), List.mem_of_getElem? (i := 1510) (by decide +kernel)⟩
theorem lw_p91 : lw_okq (⟨"CutInMayModel", "across", "()I"⟩, 31) := ⟨⟨by decide +kernel, by decide +kernel⟩, List.mem_of_getElem? (i := 1213) (by decide +kernel), List.mem_of_getElem? (i := 1513) (by decide +kernel), List.mem_of_getElem? (i := 1514) (by decide +kernel)⟩
theorem lw_p92 : lw_okq (⟨"CutInMayModel", "canLay", "(II)Z"⟩, 31) := ⟨⟨by decide +kernel, by decide +kernel⟩, List.mem_of_getElem? (i := 1213) (by decide +kernel), List.mem_of_getElem? (i := 1524) (by decide +kernel), List.mem_of_getElem? (i := 1525) (by decide +kernel)⟩
theorem lw_p93 : lw_okq (⟨"CutInMayModel", "isBlock", "(I)Z"⟩, 31) := ⟨⟨by decide +kernel, by decide +kernel⟩, List.mem_of_getElem? (i := 1213) (by decide +kernel), List.mem_of_getElem? (i := 1528) (by decide +kernel), List.mem_of_getElem? (i := 1529) (by decide +kernel)⟩
theorem lw_p94 : lw_okq (⟨"CutInMayModel", "isSold", "(I)Z"⟩, 31) := ⟨⟨by decide +kernel, by decide +kernel⟩, List.mem_of_getElem? (i := 1213) (by decide +kernel), List.mem_of_getElem? (i := 1532) (by decide +kernel), List.mem_of_getElem? (i := 1533) (by decide +kernel)⟩
theorem lw_p95 : lw_okq (⟨"CutInMayModel", "layNow", "(II)V"⟩, 31) := ⟨⟨by decide +kernel, by decide +kernel⟩, List.mem_of_getElem? (i := 1213) (by decide +kernel), List.mem_of_getElem? (i := 1536) (by decide +kernel), List.mem_of_getElem? (i := 1537) (by decide +kernel)⟩
def lw_privs_6 : List (MethodName × Nat) := [(⟨"CutInMayModel", "openNow", "()I"⟩, 31), (⟨"CutInMayModel", "nextOfNth", "()I"⟩, 31), (⟨"CutInMayModel", "faultOfOne", "()I"⟩, 31), (⟨"CutInMayModel", "nameOf", "()I"⟩, 31), (⟨"CutInMayModel", "isOf", "(I)Z"⟩, 31), (⟨"CutInMayModel", "isNth", "()Z"⟩, 31), (⟨"CutInMayModel", "beginOne", "()I"⟩, 31), (⟨"CutInMayModel", "set", "(III)V"⟩, 31), (⟨"CutInMayModel", "keep", "()V"⟩, 31), (⟨"CutInMayModel", "get", "(II)I"⟩, 31), (⟨"CutInMayModel", "blocks", "()I"⟩, 31), (⟨"CutInMayModel", "across", "()I"⟩, 31), (⟨"CutInMayModel", "canLay", "(II)Z"⟩, 31), (⟨"CutInMayModel", "isBlock", "(I)Z"⟩, 31), (⟨"CutInMayModel", "isSold", "(I)Z"⟩, 31), (⟨"CutInMayModel", "layNow", "(II)V"⟩, 31)]
theorem lw_r6 : ∀ q ∈ lw_privs_6, lw_okq q := List.forall_mem_cons.mpr ⟨lw_p80, List.forall_mem_cons.mpr ⟨lw_p81, List.forall_mem_cons.mpr ⟨lw_p82, List.forall_mem_cons.mpr ⟨lw_p83, List.forall_mem_cons.mpr ⟨lw_p84, List.forall_mem_cons.mpr ⟨lw_p85, List.forall_mem_cons.mpr ⟨lw_p86, List.forall_mem_cons.mpr ⟨lw_p87, List.forall_mem_cons.mpr ⟨lw_p88, List.forall_mem_cons.mpr ⟨lw_p89, List.forall_mem_cons.mpr ⟨lw_p90, List.forall_mem_cons.mpr ⟨lw_p91, List.forall_mem_cons.mpr ⟨lw_p92, List.forall_mem_cons.mpr ⟨lw_p93, List.forall_mem_cons.mpr ⟨lw_p94, List.forall_mem_cons.mpr ⟨lw_p95, fun _ h => absurd h List.not_mem_nil⟩⟩⟩⟩⟩⟩⟩⟩⟩⟩⟩⟩⟩⟩⟩⟩
theorem lw_p96 : lw_okq (⟨"CutInMayModel", "arePassed", "(I)Z"⟩, 31) := ⟨⟨by decide +kernel, by decide +kernel⟩, List.mem_of_getElem? (i := 1213) (by decide +kernel), List.mem_of_getElem? (i := 1544) (by decide +kernel), List.mem_of_getElem? (i := 1545) (by decide +kernel)⟩
theorem lw_p97 : lw_okq (⟨"CutInMayModel", "pass", "()V"⟩, 31) := ⟨⟨by decide +kernel, by decide +kernel⟩, List.mem_of_getElem? (i := 1213) (by decide +kernel), List.mem_of_getElem? (i := 1548) (by decide +kernel), List.mem_of_getElem? (i := 1549) (by decide +kernel)⟩
theorem lw_p98 : lw_okq (⟨"CutInMayModel", "meltsOf", "(I)I"⟩, 31) := ⟨⟨by decide +kernel, by decide +kernel⟩, List.mem_of_getElem? (i := 1213) (by decide +kernel), List.mem_of_getElem? (i := 1552) (by decide +kernel), List.mem_of_getElem? (i := 1553) (by decide +kernel)⟩
theorem lw_p99 : lw_okq (⟨"CutInMayModel", "meltsBy", "(IIIIII)I"⟩, 31) := ⟨⟨by decide +kernel, by decide +kernel⟩, List.mem_of_getElem? (i := 1213) (by decide +kernel), List.mem_of_getElem? (i := 1556) (by decide +kernel), List.mem_of_getElem? (i := 1557) (by decide +kernel)⟩
theorem lw_p100 : lw_okq (⟨"CutInMayModel", "name", "(IIIII)V"⟩, 31) := ⟨⟨by decide +kernel, by decide +kernel⟩, List.mem_of_getElem? (i := 1213) (by decide +kernel), List.mem_of_getElem? (i := 1560) (by decide +kernel), List.mem_of_getElem? (i := 1561) (by decide +kernel)⟩
theorem lw_p101 : lw_okq (⟨"CutInMayModel", "wideOf", "(I)I"⟩, 31) := ⟨⟨by decide +kernel, by decide +kernel⟩, List.mem_of_getElem? (i := 1213) (by decide +kernel), List.mem_of_getElem? (i := 1564) (by decide +kernel), List.mem_of_getElem? (i := 1565) (by decide +kernel)⟩
theorem lw_p102 : lw_okq (⟨"CutInMayModel", "highOf", "(I)I"⟩, 31) := ⟨⟨by decide +kernel, by decide +kernel⟩, List.mem_of_getElem? (i := 1213) (by decide +kernel), List.mem_of_getElem? (i := 1574) (by decide +kernel), List.mem_of_getElem? (i := 1575) (by decide +kernel)⟩
theorem lw_p103 : lw_okq (⟨"CutInMayModel", "edgeOf", "(I)I"⟩, 31) := ⟨⟨by decide +kernel, by decide +kernel⟩, List.mem_of_getElem? (i := 1213) (by decide +kernel), List.mem_of_getElem? (i := 1578) (by decide +kernel), List.mem_of_getElem? (i := 1579) (by decide +kernel)⟩
theorem lw_p104 : lw_okq (⟨"CutInMayModel", "leftOf", "(I)I"⟩, 31) := ⟨⟨by decide +kernel, by decide +kernel⟩, List.mem_of_getElem? (i := 1213) (by decide +kernel), List.mem_of_getElem? (i := 1582) (by decide +kernel), List.mem_of_getElem? (i := 1583) (by decide +kernel)⟩
theorem lw_p105 : lw_okq (⟨"CutInMayModel", "upperOf", "(I)I"⟩, 31) := ⟨⟨by decide +kernel, by decide +kernel⟩, List.mem_of_getElem? (i := 1213) (by decide +kernel), List.mem_of_getElem? (i := 1589) (by decide +kernel), List.mem_of_getElem? (i := 1590) (by decide +kernel)⟩
theorem lw_p106 : lw_okq (⟨"CutInMayModel", "says", "(IIJI)I"⟩, 31) := ⟨⟨by decide +kernel, by decide +kernel⟩, List.mem_of_getElem? (i := 1213) (by decide +kernel), List.mem_of_getElem? (i := 1593) (by decide +kernel), List.mem_of_getElem? (i := 1594) (by decide +kernel)⟩
theorem lw_p107 : lw_okq (⟨"CutInMayModel", "worked", "(II)J"⟩, 31) := ⟨⟨by decide +kernel, by decide +kernel⟩, List.mem_of_getElem? (i := 1213) (by decide +kernel), List.mem_of_getElem? (i := 1597) (by decide +kernel), List.mem_of_getElem? (i := 1598) (by decide +kernel)⟩
theorem lw_p108 : lw_okq (⟨"CutInMayModel", "drawn", "(I)I"⟩, 31) := ⟨⟨by decide +kernel, by decide +kernel⟩, List.mem_of_getElem? (i := 1213) (by decide +kernel), List.mem_of_getElem? (i := 1612) (by decide +kernel), List.mem_of_getElem? (i := 1613) (by decide +kernel)⟩
theorem lw_p109 : lw_okq (⟨"CutInMayModel", "anew", "()V"⟩, 31) := ⟨⟨by decide +kernel, by decide +kernel⟩, List.mem_of_getElem? (i := 1213) (by decide +kernel), List.mem_of_getElem? (i := 1616) (by decide +kernel), List.mem_of_getElem? (i := 1617) (by decide +kernel)⟩
theorem lw_p110 : lw_okq (⟨"CutInMayModel", "rotsBy", "(IIIII)I"⟩, 31) := ⟨⟨by decide +kernel, by decide +kernel⟩, List.mem_of_getElem? (i := 1213) (by decide +kernel), List.mem_of_getElem? (i := 1620) (by decide +kernel), List.mem_of_getElem? (i := 1621) (by decide +kernel)⟩
theorem lw_p111 : lw_okq (⟨"CutInMayModel", "canSell", "(I)Z"⟩, 31) := ⟨⟨by decide +kernel, by decide +kernel⟩, List.mem_of_getElem? (i := 1213) (by decide +kernel), List.mem_of_getElem? (i := 1628) (by decide +kernel), List.mem_of_getElem? (i := 1629) (by decide +kernel)⟩
def lw_privs_7 : List (MethodName × Nat) := [(⟨"CutInMayModel", "arePassed", "(I)Z"⟩, 31), (⟨"CutInMayModel", "pass", "()V"⟩, 31), (⟨"CutInMayModel", "meltsOf", "(I)I"⟩, 31), (⟨"CutInMayModel", "meltsBy", "(IIIIII)I"⟩, 31), (⟨"CutInMayModel", "name", "(IIIII)V"⟩, 31), (⟨"CutInMayModel", "wideOf", "(I)I"⟩, 31), (⟨"CutInMayModel", "highOf", "(I)I"⟩, 31), (⟨"CutInMayModel", "edgeOf", "(I)I"⟩, 31), (⟨"CutInMayModel", "leftOf", "(I)I"⟩, 31), (⟨"CutInMayModel", "upperOf", "(I)I"⟩, 31), (⟨"CutInMayModel", "says", "(IIJI)I"⟩, 31), (⟨"CutInMayModel", "worked", "(II)J"⟩, 31), (⟨"CutInMayModel", "drawn", "(I)I"⟩, 31), (⟨"CutInMayModel", "anew", "()V"⟩, 31), (⟨"CutInMayModel", "rotsBy", "(IIIII)I"⟩, 31), (⟨"CutInMayModel", "canSell", "(I)Z"⟩, 31)]
theorem lw_r7 : ∀ q ∈ lw_privs_7, lw_okq q := List.forall_mem_cons.mpr ⟨lw_p96, List.forall_mem_cons.mpr ⟨lw_p97, List.forall_mem_cons.mpr ⟨lw_p98, List.forall_mem_cons.mpr ⟨lw_p99, List.forall_mem_cons.mpr ⟨lw_p100, List.forall_mem_cons.mpr ⟨lw_p101, List.forall_mem_cons.mpr ⟨lw_p102, List.forall_mem_cons.mpr ⟨lw_p103, List.forall_mem_cons.mpr ⟨lw_p104, List.forall_mem_cons.mpr ⟨lw_p105, List.forall_mem_cons.mpr ⟨lw_p106, List.forall_mem_cons.mpr ⟨lw_p107, List.forall_mem_cons.mpr ⟨lw_p108, List.forall_mem_cons.mpr ⟨lw_p109, List.forall_mem_cons.mpr ⟨lw_p110, List.forall_mem_cons.mpr ⟨lw_p111, fun _ h => absurd h List.not_mem_nil⟩⟩⟩⟩⟩⟩⟩⟩⟩⟩⟩⟩⟩⟩⟩⟩
theorem lw_p112 : lw_okq (⟨"CutInMayModel", "isWater", "(I)Z"⟩, 31) := ⟨⟨by decide +kernel, by decide +kernel⟩, List.mem_of_getElem? (i := 1213) (by decide +kernel), List.mem_of_getElem? (i := 1632) (by decide +kernel), List.mem_of_getElem? (i := 1633) (by decide +kernel)⟩
theorem lw_p113 : lw_okq (⟨"CutInMayModel", "sellNow", "(I)I"⟩, 31) := ⟨⟨by decide +kernel, by decide +kernel⟩, List.mem_of_getElem? (i := 1213) (by decide +kernel), List.mem_of_getElem? (i := 1636) (by decide +kernel), List.mem_of_getElem? (i := 1637) (by decide +kernel)⟩
theorem lw_p114 : lw_okq (⟨"CutInMayModel", "sellsOf", "(I)I"⟩, 31) := ⟨⟨by decide +kernel, by decide +kernel⟩, List.mem_of_getElem? (i := 1213) (by decide +kernel), List.mem_of_getElem? (i := 1640) (by decide +kernel), List.mem_of_getElem? (i := 1641) (by decide +kernel)⟩
theorem lw_p115 : lw_okq (⟨"CutInMayModel", "sightsIn", "(I)I"⟩, 31) := ⟨⟨by decide +kernel, by decide +kernel⟩, List.mem_of_getElem? (i := 1213) (by decide +kernel), List.mem_of_getElem? (i := 1644) (by decide +kernel), List.mem_of_getElem? (i := 1645) (by decide +kernel)⟩
theorem lw_p116 : lw_okq (⟨"CutInMayModel", "cellsIn", "(II)I"⟩, 31) := ⟨⟨by decide +kernel, by decide +kernel⟩, List.mem_of_getElem? (i := 1213) (by decide +kernel), List.mem_of_getElem? (i := 1648) (by decide +kernel), List.mem_of_getElem? (i := 1649) (by decide +kernel)⟩
theorem lw_p117 : lw_okq (⟨"CutInMayModel", "sightOf", "(II)I"⟩, 31) := ⟨⟨by decide +kernel, by decide +kernel⟩, List.mem_of_getElem? (i := 1213) (by decide +kernel), List.mem_of_getElem? (i := 1652) (by decide +kernel), List.mem_of_getElem? (i := 1653) (by decide +kernel)⟩
theorem lw_p118 : lw_okq (⟨"CutInMayModel", "kindsIn", "(I)I"⟩, 31) := ⟨⟨by decide +kernel, by decide +kernel⟩, List.mem_of_getElem? (i := 1213) (by decide +kernel), List.mem_of_getElem? (i := 1659) (by decide +kernel), List.mem_of_getElem? (i := 1660) (by decide +kernel)⟩
theorem lw_p119 : lw_okq (⟨"CutInMayModel", "isPlayed", "(I)Z"⟩, 31) := ⟨⟨by decide +kernel, by decide +kernel⟩, List.mem_of_getElem? (i := 1213) (by decide +kernel), List.mem_of_getElem? (i := 1667) (by decide +kernel), List.mem_of_getElem? (i := 1668) (by decide +kernel)⟩
theorem lw_p120 : lw_okq (⟨"CutInMayModel", "happens", "(I)V"⟩, 31) := ⟨⟨by decide +kernel, by decide +kernel⟩, List.mem_of_getElem? (i := 1213) (by decide +kernel), List.mem_of_getElem? (i := 1680) (by decide +kernel), List.mem_of_getElem? (i := 1681) (by decide +kernel)⟩
theorem lw_p121 : lw_okq (⟨"CutInMayModel", "isSight", "(I)Z"⟩, 31) := ⟨⟨by decide +kernel, by decide +kernel⟩, List.mem_of_getElem? (i := 1213) (by decide +kernel), List.mem_of_getElem? (i := 1696) (by decide +kernel), List.mem_of_getElem? (i := 1697) (by decide +kernel)⟩
theorem lw_p122 : lw_okq (⟨"CutInMayModel", "isUncut", "(III)Z"⟩, 31) := ⟨⟨by decide +kernel, by decide +kernel⟩, List.mem_of_getElem? (i := 1213) (by decide +kernel), List.mem_of_getElem? (i := 1700) (by decide +kernel), List.mem_of_getElem? (i := 1701) (by decide +kernel)⟩
theorem lw_p123 : lw_okq (⟨"CutInMayModel", "isShowing", "(I)Z"⟩, 31) := ⟨⟨by decide +kernel, by decide +kernel⟩, List.mem_of_getElem? (i := 1213) (by decide +kernel), List.mem_of_getElem? (i := 1707) (by decide +kernel), List.mem_of_getElem? (i := 1708) (by decide +kernel)⟩
theorem lw_p124 : lw_okq (⟨"CutInMayModel", "wholeBy", "(II)I"⟩, 31) := ⟨⟨by decide +kernel, by decide +kernel⟩, List.mem_of_getElem? (i := 1213) (by decide +kernel), List.mem_of_getElem? (i := 1719) (by decide +kernel), List.mem_of_getElem? (i := 1720) (by decide +kernel)⟩
theorem lw_p125 : lw_okq (⟨"CutInMayModel", "begin", "()V"⟩, 31) := ⟨⟨by decide +kernel, by decide +kernel⟩, List.mem_of_getElem? (i := 1213) (by decide +kernel), List.mem_of_getElem? (i := 1734) (by decide +kernel), List.mem_of_getElem? (i := 1735) (by decide +kernel)⟩
theorem lw_p126 : lw_okq (⟨"CutInMayModel", "goOn", "()V"⟩, 31) := ⟨⟨by decide +kernel, by decide +kernel⟩, List.mem_of_getElem? (i := 1213) (by decide +kernel), List.mem_of_getElem? (i := 1738) (by decide +kernel), List.mem_of_getElem? (i := 1739) (by decide +kernel)⟩
theorem lw_p127 : lw_okq (⟨"CutInMayModel", "showing", "()I"⟩, 31) := ⟨⟨by decide +kernel, by decide +kernel⟩, List.mem_of_getElem? (i := 1213) (by decide +kernel), List.mem_of_getElem? (i := 1742) (by decide +kernel), List.mem_of_getElem? (i := 1743) (by decide +kernel)⟩
def lw_privs_8 : List (MethodName × Nat) := [(⟨"CutInMayModel", "isWater", "(I)Z"⟩, 31), (⟨"CutInMayModel", "sellNow", "(I)I"⟩, 31), (⟨"CutInMayModel", "sellsOf", "(I)I"⟩, 31), (⟨"CutInMayModel", "sightsIn", "(I)I"⟩, 31), (⟨"CutInMayModel", "cellsIn", "(II)I"⟩, 31), (⟨"CutInMayModel", "sightOf", "(II)I"⟩, 31), (⟨"CutInMayModel", "kindsIn", "(I)I"⟩, 31), (⟨"CutInMayModel", "isPlayed", "(I)Z"⟩, 31), (⟨"CutInMayModel", "happens", "(I)V"⟩, 31), (⟨"CutInMayModel", "isSight", "(I)Z"⟩, 31), (⟨"CutInMayModel", "isUncut", "(III)Z"⟩, 31), (⟨"CutInMayModel", "isShowing", "(I)Z"⟩, 31), (⟨"CutInMayModel", "wholeBy", "(II)I"⟩, 31), (⟨"CutInMayModel", "begin", "()V"⟩, 31), (⟨"CutInMayModel", "goOn", "()V"⟩, 31), (⟨"CutInMayModel", "showing", "()I"⟩, 31)]
theorem lw_r8 : ∀ q ∈ lw_privs_8, lw_okq q := List.forall_mem_cons.mpr ⟨lw_p112, List.forall_mem_cons.mpr ⟨lw_p113, List.forall_mem_cons.mpr ⟨lw_p114, List.forall_mem_cons.mpr ⟨lw_p115, List.forall_mem_cons.mpr ⟨lw_p116, List.forall_mem_cons.mpr ⟨lw_p117, List.forall_mem_cons.mpr ⟨lw_p118, List.forall_mem_cons.mpr ⟨lw_p119, List.forall_mem_cons.mpr ⟨lw_p120, List.forall_mem_cons.mpr ⟨lw_p121, List.forall_mem_cons.mpr ⟨lw_p122, List.forall_mem_cons.mpr ⟨lw_p123, List.forall_mem_cons.mpr ⟨lw_p124, List.forall_mem_cons.mpr ⟨lw_p125, List.forall_mem_cons.mpr ⟨lw_p126, List.forall_mem_cons.mpr ⟨lw_p127, fun _ h => absurd h List.not_mem_nil⟩⟩⟩⟩⟩⟩⟩⟩⟩⟩⟩⟩⟩⟩⟩⟩
theorem lw_p128 : lw_okq (⟨"CutInMayModel", "putBack", "()V"⟩, 31) := ⟨⟨by decide +kernel, by decide +kernel⟩, List.mem_of_getElem? (i := 1213) (by decide +kernel), List.mem_of_getElem? (i := 1746) (by decide +kernel), List.mem_of_getElem? (i := 1747) (by decide +kernel)⟩
theorem lw_p129 : lw_okq (⟨"CutInMayModel", "lasting", "(II)I"⟩, 31) := ⟨⟨by decide +kernel, by decide +kernel⟩, List.mem_of_getElem? (i := 1213) (by decide +kernel), List.mem_of_getElem? (i := 1778) (by decide +kernel), List.mem_of_getElem? (i := 1779) (by decide +kernel)⟩
theorem lw_p130 : lw_okq (⟨"CutInMayModel", "isLasting", "(III)Z"⟩, 31) := ⟨⟨by decide +kernel, by decide +kernel⟩, List.mem_of_getElem? (i := 1213) (by decide +kernel), List.mem_of_getElem? (i := 1785) (by decide +kernel), List.mem_of_getElem? (i := 1786) (by decide +kernel)⟩
theorem lw_p131 : lw_okq (⟨"CutInMayModel", "findServing", "()V"⟩, 31) := ⟨⟨by decide +kernel, by decide +kernel⟩, List.mem_of_getElem? (i := 1213) (by decide +kernel), List.mem_of_getElem? (i := 1808) (by decide +kernel), List.mem_of_getElem? (i := 1809) (by decide +kernel)⟩
theorem lw_p132 : lw_okq (⟨"CutInMayModel", "isServing", "(II)Z"⟩, 31) := ⟨⟨by decide +kernel, by decide +kernel⟩, List.mem_of_getElem? (i := 1213) (by decide +kernel), List.mem_of_getElem? (i := 1812) (by decide +kernel), List.mem_of_getElem? (i := 1813) (by decide +kernel)⟩
theorem lw_p133 : lw_okq (⟨"CutInMayModel", "areaOf", "(I)I"⟩, 31) := ⟨⟨by decide +kernel, by decide +kernel⟩, List.mem_of_getElem? (i := 1213) (by decide +kernel), List.mem_of_getElem? (i := 1816) (by decide +kernel), List.mem_of_getElem? (i := 1817) (by decide +kernel)⟩
theorem lw_p134 : lw_okq (⟨"CutInMayModel", "mostOf", "(I)I"⟩, 31) := ⟨⟨by decide +kernel, by decide +kernel⟩, List.mem_of_getElem? (i := 1213) (by decide +kernel), List.mem_of_getElem? (i := 1820) (by decide +kernel), List.mem_of_getElem? (i := 1821) (by decide +kernel)⟩
theorem lw_p135 : lw_okq (⟨"CutInMayModel", "serverOf", "(II)I"⟩, 31) := ⟨⟨by decide +kernel, by decide +kernel⟩, List.mem_of_getElem? (i := 1213) (by decide +kernel), List.mem_of_getElem? (i := 1824) (by decide +kernel), List.mem_of_getElem? (i := 1825) (by decide +kernel)⟩
theorem lw_p136 : lw_okq (⟨"CutInMayModel", "winner", "()I"⟩, 31) := ⟨⟨by decide +kernel, by decide +kernel⟩, List.mem_of_getElem? (i := 1213) (by decide +kernel), List.mem_of_getElem? (i := 1844) (by decide +kernel), List.mem_of_getElem? (i := 1845) (by decide +kernel)⟩
theorem lw_p137 : lw_okq (⟨"CutInMayModel", "paid", "()I"⟩, 31) := ⟨⟨by decide +kernel, by decide +kernel⟩, List.mem_of_getElem? (i := 1213) (by decide +kernel), List.mem_of_getElem? (i := 1848) (by decide +kernel), List.mem_of_getElem? (i := 1849) (by decide +kernel)⟩
theorem lw_p138 : lw_okq (⟨"CutInMayModel", "worthLater", "(I)I"⟩, 31) := ⟨⟨by decide +kernel, by decide +kernel⟩, List.mem_of_getElem? (i := 1213) (by decide +kernel), List.mem_of_getElem? (i := 1881) (by decide +kernel), List.mem_of_getElem? (i := 1882) (by decide +kernel)⟩
theorem lw_p139 : lw_okq (⟨"CutInMayModel", "isLaw", "(I)Z"⟩, 31) := ⟨⟨by decide +kernel, by decide +kernel⟩, List.mem_of_getElem? (i := 1213) (by decide +kernel), List.mem_of_getElem? (i := 1893) (by decide +kernel), List.mem_of_getElem? (i := 1894) (by decide +kernel)⟩
def lw_privs_9 : List (MethodName × Nat) := [(⟨"CutInMayModel", "putBack", "()V"⟩, 31), (⟨"CutInMayModel", "lasting", "(II)I"⟩, 31), (⟨"CutInMayModel", "isLasting", "(III)Z"⟩, 31), (⟨"CutInMayModel", "findServing", "()V"⟩, 31), (⟨"CutInMayModel", "isServing", "(II)Z"⟩, 31), (⟨"CutInMayModel", "areaOf", "(I)I"⟩, 31), (⟨"CutInMayModel", "mostOf", "(I)I"⟩, 31), (⟨"CutInMayModel", "serverOf", "(II)I"⟩, 31), (⟨"CutInMayModel", "winner", "()I"⟩, 31), (⟨"CutInMayModel", "paid", "()I"⟩, 31), (⟨"CutInMayModel", "worthLater", "(I)I"⟩, 31), (⟨"CutInMayModel", "isLaw", "(I)Z"⟩, 31)]
theorem lw_r9 : ∀ q ∈ lw_privs_9, lw_okq q := List.forall_mem_cons.mpr ⟨lw_p128, List.forall_mem_cons.mpr ⟨lw_p129, List.forall_mem_cons.mpr ⟨lw_p130, List.forall_mem_cons.mpr ⟨lw_p131, List.forall_mem_cons.mpr ⟨lw_p132, List.forall_mem_cons.mpr ⟨lw_p133, List.forall_mem_cons.mpr ⟨lw_p134, List.forall_mem_cons.mpr ⟨lw_p135, List.forall_mem_cons.mpr ⟨lw_p136, List.forall_mem_cons.mpr ⟨lw_p137, List.forall_mem_cons.mpr ⟨lw_p138, List.forall_mem_cons.mpr ⟨lw_p139, fun _ h => absurd h List.not_mem_nil⟩⟩⟩⟩⟩⟩⟩⟩⟩⟩⟩⟩
def lw_privs : List (MethodName × Nat) := lw_privs_1 ++ (lw_privs_2 ++ (lw_privs_3 ++ (lw_privs_4 ++ (lw_privs_5 ++ (lw_privs_6 ++ (lw_privs_7 ++ (lw_privs_8 ++ (lw_privs_9))))))))
def lw_tbl : List Cond := k2_sels lw_privs ++ tables_1
theorem lw_privs_ok : ∀ q ∈ lw_privs, lw_okq q := by
  show ∀ q ∈ lw_privs_1 ++ (lw_privs_2 ++ (lw_privs_3 ++ (lw_privs_4 ++ (lw_privs_5 ++ (lw_privs_6 ++ (lw_privs_7 ++ (lw_privs_8 ++ (lw_privs_9)))))))), lw_okq q
  exact List.forall_mem_append.mpr ⟨lw_r1, List.forall_mem_append.mpr ⟨lw_r2, List.forall_mem_append.mpr ⟨lw_r3, List.forall_mem_append.mpr ⟨lw_r4, List.forall_mem_append.mpr ⟨lw_r5, List.forall_mem_append.mpr ⟨lw_r6, List.forall_mem_append.mpr ⟨lw_r7, List.forall_mem_append.mpr ⟨lw_r8, lw_r9⟩⟩⟩⟩⟩⟩⟩⟩
-- ===== end of PART A; then your names; then what follows =====
end
section
def RX0 : String := "CutInMay$Course"
def TX0 : u_T := fun k => match k with
  | 0 => ("CutInMay$Course", "world", "LCutInMay$World;", true)
  | 1 => ("CutInMay$Course", "rooms", "LCutInMay$Rooms;", true)
  | 2 => ("CutInMay$Course", "laws", "LCutInMay$Laws;", true)
  | 3 => ("CutInMay$Course", "text", "LCutInMay$Text;", false)
  | 4 => ("CutInMay$Course", "block", "I", false)
  | 5 => ("CutInMay$Course", "x", "I", false)
  | 6 => ("CutInMay$Course", "day", "I", false)
  | 7 => ("CutInMay$Course", "heat", "I", false)
  | 8 => ("CutInMay$Course", "straw", "I", false)
  | 9 => ("CutInMay$Course", "melted", "I", false)
  | _ => ("CutInMay$Course", "sold", "Z", false)
def tyX0 : Nat → FieldType := fun k => match k with
  | 0 => .object "CutInMay$World"
  | 1 => .object "CutInMay$Rooms"
  | 2 => .object "CutInMay$Laws"
  | 3 => .object "CutInMay$Text"
  | 4 => .int
  | 5 => .int
  | 6 => .int
  | 7 => .int
  | 8 => .int
  | 9 => .int
  | _ => .boolean
theorem nmX0 : ∀ a, a < 11 → ∀ b, b < 11 → a ≠ b → (TX0 a).2.1 ≠ (TX0 b).2.1 := by decide +kernel
theorem tyX0_ok : ∀ k, k < 11 → parseFieldDescriptor (TX0 k).2.2.1 = some (tyX0 k) := by decide +kernel
def RX1 : String := "CutInMay$Laws"
def TX1 : u_T := fun k => match k with
  | 0 => ("CutInMay$Laws", "names", "[I", true)
  | _ => ("CutInMay$Laws", "stack", "[I", true)
def tyX1 : Nat → FieldType := fun k => match k with
  | 0 => .array .int
  | _ => .array .int
theorem nmX1 : ∀ a, a < 2 → ∀ b, b < 2 → a ≠ b → (TX1 a).2.1 ≠ (TX1 b).2.1 := by decide +kernel
theorem tyX1_ok : ∀ k, k < 2 → parseFieldDescriptor (TX1 k).2.2.1 = some (tyX1 k) := by decide +kernel
def RX2 : String := "CutInMay$Odds"
def TX2 : u_T := fun k => match k with
  | 0 => ("CutInMay$Odds", "course", "LCutInMay$Course;", true)
  | 1 => ("CutInMay$Odds", "waysTo", "[I", true)
  | 2 => ("CutInMay$Odds", "found", "[I", true)
  | 3 => ("CutInMay$Odds", "states", "[I", true)
  | _ => ("CutInMay$Odds", "ways", "[I", true)
def tyX2 : Nat → FieldType := fun k => match k with
  | 0 => .object "CutInMay$Course"
  | 1 => .array .int
  | 2 => .array .int
  | 3 => .array .int
  | _ => .array .int
theorem nmX2 : ∀ a, a < 5 → ∀ b, b < 5 → a ≠ b → (TX2 a).2.1 ≠ (TX2 b).2.1 := by decide +kernel
theorem tyX2_ok : ∀ k, k < 5 → parseFieldDescriptor (TX2 k).2.2.1 = some (tyX2 k) := by decide +kernel
def RX3 : String := "CutInMay$Reader"
def TX3 : u_T := fun k => match k with
  | 0 => ("CutInMay$Reader", "tape", "[B", true)
  | 1 => ("CutInMay$Reader", "length", "I", false)
  | 2 => ("CutInMay$Reader", "fault", "I", false)
  | 3 => ("CutInMay$Reader", "place", "I", false)
  | 4 => ("CutInMay$Reader", "at", "I", false)
  | 5 => ("CutInMay$Reader", "start", "I", false)
  | 6 => ("CutInMay$Reader", "sort", "I", false)
  | 7 => ("CutInMay$Reader", "value", "I", false)
  | 8 => ("CutInMay$Reader", "rows", "[I", true)
  | 9 => ("CutInMay$Reader", "clauses", "I", false)
  | 10 => ("CutInMay$Reader", "parts", "I", false)
  | 11 => ("CutInMay$Reader", "melts", "[I", false)
  | 12 => ("CutInMay$Reader", "sells", "[I", false)
  | 13 => ("CutInMay$Reader", "rots", "[I", false)
  | 14 => ("CutInMay$Reader", "code", "[I", true)
  | 15 => ("CutInMay$Reader", "used", "I", false)
  | 16 => ("CutInMay$Reader", "law", "I", false)
  | _ => ("CutInMay$Reader", "seventh", "Z", false)
def tyX3 : Nat → FieldType := fun k => match k with
  | 0 => .array .byte
  | 1 => .int
  | 2 => .int
  | 3 => .int
  | 4 => .int
  | 5 => .int
  | 6 => .int
  | 7 => .int
  | 8 => .array .int
  | 9 => .int
  | 10 => .int
  | 11 => .array .int
  | 12 => .array .int
  | 13 => .array .int
  | 14 => .array .int
  | 15 => .int
  | 16 => .int
  | _ => .boolean
theorem nmX3 : ∀ a, a < 18 → ∀ b, b < 18 → a ≠ b → (TX3 a).2.1 ≠ (TX3 b).2.1 := by decide +kernel
theorem tyX3_ok : ∀ k, k < 18 → parseFieldDescriptor (TX3 k).2.2.1 = some (tyX3 k) := by decide +kernel
def RX4 : String := "CutInMay$Rooms"
def TX4 : u_T := fun k => match k with
  | 0 => ("CutInMay$Rooms", "lefts", "[I", true)
  | 1 => ("CutInMay$Rooms", "tops", "[I", true)
  | 2 => ("CutInMay$Rooms", "wides", "[I", true)
  | 3 => ("CutInMay$Rooms", "highs", "[I", true)
  | 4 => ("CutInMay$Rooms", "edges", "[I", true)
  | _ => ("CutInMay$Rooms", "count", "I", false)
def tyX4 : Nat → FieldType := fun k => match k with
  | 0 => .array .int
  | 1 => .array .int
  | 2 => .array .int
  | 3 => .array .int
  | 4 => .array .int
  | _ => .int
theorem nmX4 : ∀ a, a < 6 → ∀ b, b < 6 → a ≠ b → (TX4 a).2.1 ≠ (TX4 b).2.1 := by decide +kernel
theorem tyX4_ok : ∀ k, k < 6 → parseFieldDescriptor (TX4 k).2.2.1 = some (tyX4 k) := by decide +kernel
def RX5 : String := "CutInMay$Serving"
def TX5 : u_T := fun k => match k with
  | 0 => ("CutInMay$Serving", "world", "LCutInMay$World;", true)
  | 1 => ("CutInMay$Serving", "rooms", "LCutInMay$Rooms;", true)
  | 2 => ("CutInMay$Serving", "course", "LCutInMay$Course;", true)
  | 3 => ("CutInMay$Serving", "lowest", "[I", true)
  | 4 => ("CutInMay$Serving", "manyFor", "[I", true)
  | 5 => ("CutInMay$Serving", "chosen", "[I", true)
  | 6 => ("CutInMay$Serving", "best", "[I", true)
  | _ => ("CutInMay$Serving", "most", "I", false)
def tyX5 : Nat → FieldType := fun k => match k with
  | 0 => .object "CutInMay$World"
  | 1 => .object "CutInMay$Rooms"
  | 2 => .object "CutInMay$Course"
  | 3 => .array .int
  | 4 => .array .int
  | 5 => .array .int
  | 6 => .array .int
  | _ => .int
theorem nmX5 : ∀ a, a < 8 → ∀ b, b < 8 → a ≠ b → (TX5 a).2.1 ≠ (TX5 b).2.1 := by decide +kernel
theorem tyX5_ok : ∀ k, k < 8 → parseFieldDescriptor (TX5 k).2.2.1 = some (tyX5 k) := by decide +kernel
def RX6 : String := "CutInMay$Steps"
def TX6 : u_T := fun k => match k with
  | 0 => ("CutInMay$Steps", "rows", "[I", true)
  | 1 => ("CutInMay$Steps", "next", "I", false)
  | _ => ("CutInMay$Steps", "count", "I", false)
def tyX6 : Nat → FieldType := fun k => match k with
  | 0 => .array .int
  | 1 => .int
  | _ => .int
theorem nmX6 : ∀ a, a < 3 → ∀ b, b < 3 → a ≠ b → (TX6 a).2.1 ≠ (TX6 b).2.1 := by decide +kernel
theorem tyX6_ok : ∀ k, k < 3 → parseFieldDescriptor (TX6 k).2.2.1 = some (tyX6 k) := by decide +kernel
def RX7 : String := "CutInMay$Text"
def TX7 : u_T := fun k => match k with
  | 0 => ("CutInMay$Text", "melts", "[I", true)
  | 1 => ("CutInMay$Text", "sells", "[I", true)
  | 2 => ("CutInMay$Text", "rots", "[I", true)
  | 3 => ("CutInMay$Text", "count", "I", true)
  | _ => ("CutInMay$Text", "rows", "[I", true)
def tyX7 : Nat → FieldType := fun k => match k with
  | 0 => .array .int
  | 1 => .array .int
  | 2 => .array .int
  | 3 => .int
  | _ => .array .int
theorem nmX7 : ∀ a, a < 5 → ∀ b, b < 5 → a ≠ b → (TX7 a).2.1 ≠ (TX7 b).2.1 := by decide +kernel
theorem tyX7_ok : ∀ k, k < 5 → parseFieldDescriptor (TX7 k).2.2.1 = some (tyX7 k) := by decide +kernel
def RX8 : String := "CutInMay$Told"
def TX8 : u_T := fun k => match k with
  | 0 => ("CutInMay$Told", "most", "I", true)
  | 1 => ("CutInMay$Told", "rows", "[I", true)
  | _ => ("CutInMay$Told", "count", "I", false)
def tyX8 : Nat → FieldType := fun k => match k with
  | 0 => .int
  | 1 => .array .int
  | _ => .int
theorem nmX8 : ∀ a, a < 3 → ∀ b, b < 3 → a ≠ b → (TX8 a).2.1 ≠ (TX8 b).2.1 := by decide +kernel
theorem tyX8_ok : ∀ k, k < 3 → parseFieldDescriptor (TX8 k).2.2.1 = some (tyX8 k) := by decide +kernel
def RX9 : String := "CutInMay$World"
def TX9 : u_T := fun k => match k with
  | 0 => ("CutInMay$World", "wide", "I", false)
  | 1 => ("CutInMay$World", "high", "I", false)
  | 2 => ("CutInMay$World", "told", "Z", false)
  | 3 => ("CutInMay$World", "sightCount", "I", false)
  | 4 => ("CutInMay$World", "sights", "[I", true)
  | 5 => ("CutInMay$World", "textCount", "I", false)
  | 6 => ("CutInMay$World", "ruling", "I", false)
  | 7 => ("CutInMay$World", "texts", "[LCutInMay$Text;", true)
  | 8 => ("CutInMay$World", "yard", "LCutInMay$Yard;", true)
  | 9 => ("CutInMay$World", "steps", "LCutInMay$Steps;", true)
  | 10 => ("CutInMay$World", "orders", "LCutInMay$Told;", true)
  | 11 => ("CutInMay$World", "glasses", "LCutInMay$Told;", true)
  | 12 => ("CutInMay$World", "bids", "LCutInMay$Told;", true)
  | 13 => ("CutInMay$World", "measures", "LCutInMay$Told;", true)
  | _ => ("CutInMay$World", "melts", "LCutInMay$Told;", true)
def tyX9 : Nat → FieldType := fun k => match k with
  | 0 => .int
  | 1 => .int
  | 2 => .boolean
  | 3 => .int
  | 4 => .array .int
  | 5 => .int
  | 6 => .int
  | 7 => .array (.object "CutInMay$Text")
  | 8 => .object "CutInMay$Yard"
  | 9 => .object "CutInMay$Steps"
  | 10 => .object "CutInMay$Told"
  | 11 => .object "CutInMay$Told"
  | 12 => .object "CutInMay$Told"
  | 13 => .object "CutInMay$Told"
  | _ => .object "CutInMay$Told"
theorem nmX9 : ∀ a, a < 15 → ∀ b, b < 15 → a ≠ b → (TX9 a).2.1 ≠ (TX9 b).2.1 := by decide +kernel
theorem tyX9_ok : ∀ k, k < 15 → parseFieldDescriptor (TX9 k).2.2.1 = some (tyX9 k) := by decide +kernel
def RX10 : String := "CutInMay$Yard"
def TX10 : u_T := fun k => match k with
  | 0 => ("CutInMay$Yard", "upright", "I", false)
  | 1 => ("CutInMay$Yard", "level", "I", false)
  | 2 => ("CutInMay$Yard", "heap", "I", false)
  | 3 => ("CutInMay$Yard", "day", "I", false)
  | 4 => ("CutInMay$Yard", "heat", "I", false)
  | 5 => ("CutInMay$Yard", "pence", "I", false)
  | 6 => ("CutInMay$Yard", "x", "I", false)
  | _ => ("CutInMay$Yard", "marks", "[I", true)
def tyX10 : Nat → FieldType := fun k => match k with
  | 0 => .int
  | 1 => .int
  | 2 => .int
  | 3 => .int
  | 4 => .int
  | 5 => .int
  | 6 => .int
  | _ => .array .int
theorem nmX10 : ∀ a, a < 8 → ∀ b, b < 8 → a ≠ b → (TX10 a).2.1 ≠ (TX10 b).2.1 := by decide +kernel
theorem tyX10_ok : ∀ k, k < 8 → parseFieldDescriptor (TX10 k).2.2.1 = some (tyX10 k) := by decide +kernel
def RX11 : String := "CutInMay"
def TX11 : u_T := fun k => match k with
  | 0 => ("CutInMay", "now", "LCutInMay$World;", true)
  | 1 => ("CutInMay", "kept", "LCutInMay$World;", true)
  | 2 => ("CutInMay", "rooms", "LCutInMay$Rooms;", true)
  | 3 => ("CutInMay", "reader", "LCutInMay$Reader;", true)
  | 4 => ("CutInMay", "course", "LCutInMay$Course;", true)
  | 5 => ("CutInMay", "odds", "LCutInMay$Odds;", true)
  | 6 => ("CutInMay", "serving", "LCutInMay$Serving;", true)
  | 7 => ("CutInMay", "worth", "[I", true)
  | 8 => ("CutInMay", "lead", "[I", true)
  | _ => ("CutInMay", "levelFor", "[I", true)
def tyX11 : Nat → FieldType := fun k => match k with
  | 0 => .object "CutInMay$World"
  | 1 => .object "CutInMay$World"
  | 2 => .object "CutInMay$Rooms"
  | 3 => .object "CutInMay$Reader"
  | 4 => .object "CutInMay$Course"
  | 5 => .object "CutInMay$Odds"
  | 6 => .object "CutInMay$Serving"
  | 7 => .array .int
  | 8 => .array .int
  | _ => .array .int
theorem nmX11 : ∀ a, a < 10 → ∀ b, b < 10 → a ≠ b → (TX11 a).2.1 ≠ (TX11 b).2.1 := by decide +kernel
theorem tyX11_ok : ∀ k, k < 10 → parseFieldDescriptor (TX11 k).2.2.1 = some (tyX11 k) := by decide +kernel
def RX12 : String := "CutInMayModel"
def TX12 : u_T := fun k => match k with
  | 0 => ("CutInMayModel", "a", "[I", true)
  | 1 => ("CutInMayModel", "image", "[I", true)
  | 2 => ("CutInMayModel", "texts", "[I", true)
  | 3 => ("CutInMayModel", "tape", "[I", true)
  | 4 => ("CutInMayModel", "taped", "I", false)
  | 5 => ("CutInMayModel", "fault", "I", false)
  | 6 => ("CutInMayModel", "faultPlace", "I", false)
  | 7 => ("CutInMayModel", "at", "I", false)
  | 8 => ("CutInMayModel", "place", "I", false)
  | 9 => ("CutInMayModel", "token", "I", false)
  | 10 => ("CutInMayModel", "number", "I", false)
  | 11 => ("CutInMayModel", "word", "J", false)
  | 12 => ("CutInMayModel", "text0", "I", false)
  | 13 => ("CutInMayModel", "written", "I", false)
  | 14 => ("CutInMayModel", "sort0", "I", false)
  | 15 => ("CutInMayModel", "pile", "[I", true)
  | 16 => ("CutInMayModel", "counts", "[I", true)
  | 17 => ("CutInMayModel", "piled", "I", false)
  | 18 => ("CutInMayModel", "opens", "I", false)
  | 19 => ("CutInMayModel", "nths", "I", false)
  | 20 => ("CutInMayModel", "isWhole", "Z", false)
  | 21 => ("CutInMayModel", "once", "I", false)
  | 22 => ("CutInMayModel", "named", "[I", true)
  | 23 => ("CutInMayModel", "values", "[J", true)
  | 24 => ("CutInMayModel", "aside", "[I", true)
  | 25 => ("CutInMayModel", "taken", "[Z", true)
  | 26 => ("CutInMayModel", "serves", "[Z", true)
  | 27 => ("CutInMayModel", "brings", "[I", true)
  | 28 => ("CutInMayModel", "server", "[I", true)
  | 29 => ("CutInMayModel", "worths", "[I", true)
  | _ => ("CutInMayModel", "ahead", "[I", true)
def tyX12 : Nat → FieldType := fun k => match k with
  | 0 => .array .int
  | 1 => .array .int
  | 2 => .array .int
  | 3 => .array .int
  | 4 => .int
  | 5 => .int
  | 6 => .int
  | 7 => .int
  | 8 => .int
  | 9 => .int
  | 10 => .int
  | 11 => .long
  | 12 => .int
  | 13 => .int
  | 14 => .int
  | 15 => .array .int
  | 16 => .array .int
  | 17 => .int
  | 18 => .int
  | 19 => .int
  | 20 => .boolean
  | 21 => .int
  | 22 => .array .int
  | 23 => .array .long
  | 24 => .array .int
  | 25 => .array .boolean
  | 26 => .array .boolean
  | 27 => .array .int
  | 28 => .array .int
  | 29 => .array .int
  | _ => .array .int
theorem nmX12 : ∀ a, a < 31 → ∀ b, b < 31 → a ≠ b → (TX12 a).2.1 ≠ (TX12 b).2.1 := by decide +kernel
theorem tyX12_ok : ∀ k, k < 31 → parseFieldDescriptor (TX12 k).2.2.1 = some (tyX12 k) := by decide +kernel
abbrev vwCl : List vw_C := [(RX0, TX0, 11), (RX1, TX1, 2), (RX2, TX2, 5), (RX3, TX3, 18), (RX4, TX4, 6), (RX5, TX5, 8), (RX6, TX6, 3), (RX7, TX7, 5), (RX8, TX8, 3), (RX9, TX9, 15), (RX10, TX10, 8), (RX11, TX11, 10), (RX12, TX12, 31)]
theorem p_iRX0 : ∀ w ∈ u_ws RX0 TX0 11, w ∈ lw_tbl := by decide +kernel
theorem p_iRX1 : ∀ w ∈ u_ws RX1 TX1 2, w ∈ lw_tbl := by decide +kernel
theorem p_iRX2 : ∀ w ∈ u_ws RX2 TX2 5, w ∈ lw_tbl := by decide +kernel
theorem p_iRX3 : ∀ w ∈ u_ws RX3 TX3 18, w ∈ lw_tbl := by decide +kernel
theorem p_iRX4 : ∀ w ∈ u_ws RX4 TX4 6, w ∈ lw_tbl := by decide +kernel
theorem p_iRX5 : ∀ w ∈ u_ws RX5 TX5 8, w ∈ lw_tbl := by decide +kernel
theorem p_iRX6 : ∀ w ∈ u_ws RX6 TX6 3, w ∈ lw_tbl := by decide +kernel
theorem p_iRX7 : ∀ w ∈ u_ws RX7 TX7 5, w ∈ lw_tbl := by decide +kernel
theorem p_iRX8 : ∀ w ∈ u_ws RX8 TX8 3, w ∈ lw_tbl := by decide +kernel
theorem p_iRX9 : ∀ w ∈ u_ws RX9 TX9 15, w ∈ lw_tbl := by decide +kernel
theorem p_iRX10 : ∀ w ∈ u_ws RX10 TX10 8, w ∈ lw_tbl := by decide +kernel
theorem p_iRX11 : ∀ w ∈ u_ws RX11 TX11 10, w ∈ lw_tbl := by decide +kernel
theorem p_iRX12 : ∀ w ∈ u_ws RX12 TX12 31, w ∈ lw_tbl := by decide +kernel
/-- the words that stay good in a callee -/
def p_big : List Cond := lw_tbl.filter goodWord
end
section
/-! THE PURE MACHINE: what the methods of the claim do, over a heap that is a list of cells. A cell: its sort (0 an object, 1 an array, 2 an array that is read alone), the number of its class or of its element type, its values. A reference is the place of a cell in the list. -/
abbrev p_C : Type := Nat × Nat × List Value
abbrev p_H : Type := List p_C
abbrev p_Ls : Type := List (Nat × Value)
/-- an entry of a constant pool: its index, what it is, a number, a number -/
abbrev p_P : Type := Nat × Nat × Nat × Int
abbrev p_I : Type := Nat × Instr × Nat
/-- a method: its name, bytes, number of variables, answer, instructions, pool; whether it is an <init>, and the number of its home -/
abbrev p_M : Type := MethodName × ByteArray × Nat × Option FieldType × List p_I × List p_P × Bool × Nat
/-- behind an instruction: it goes on; it returns; it calls -/
abbrev p_O : Type := (Nat × p_Ls × List Value × p_H) ⊕ (Option Value ⊕ (Nat × List Value × List Value))
/-- the field types of each kind of object, with whether they are final -/
abbrev p_G : Type := List (List (FieldType × Bool))
def p_lk (i : Nat) : p_Ls → Option Value
  | [] => none
  | q :: r => if Nat.beq q.1 i then some q.2 else p_lk i r
def p_s1 (ls : p_Ls) (i : Nat) (v : Value) : p_Ls := (i, v) :: ls.filter (fun q => !(q.1 == i) && !(q.1 + 1 == i && q.2.category == 2))
def p_s2 (ls : p_Ls) (i : Nat) (v : Value) : p_Ls := (i, v) :: ls.filter (fun q => !(q.1 == i) && (!(q.1 == i + 1) && !(q.1 + 1 == i && q.2.category == 2)))
def p_pk (x t : Nat) : List p_P → Option (Nat × Int)
  | [] => none
  | q :: r => if Nat.beq q.1 x && Nat.beq q.2.1 t then some q.2.2 else p_pk x t r
def p_at (pc : Nat) : List p_I → Option (Instr × Nat)
  | [] => none
  | q :: r => if Nat.beq q.1 pc then some q.2 else p_at pc r
def p_go (pc : Nat) (ls : p_Ls) (st : List Value) (h : p_H) : Option p_O := some (.inl (pc, ls, st, h))
def p_tg (pc : Nat) (off : Int) : Option Nat := match (pc : Int) + off with
  | .ofNat t => some t
  | .negSucc _ => none
def p_jm (pc : Nat) (off : Int) (ls : p_Ls) (st : List Value) (h : p_H) : Option p_O := match p_tg pc off with
  | some t => p_go t ls st h
  | none => none
def p_br (b : Bool) (pc : Nat) (off : Int) (ls : p_Ls) (st : List Value) (h : p_H) : Option p_O := match p_tg pc off with
  | some t => if b then p_go t ls st h else p_go (pc + 3) ls st h
  | none => none
def p_cd (c : ClassFile.Cond) (x y : Int32) : Bool := match c with
  | .eq => decide (x = y)
  | .ne => decide (¬ x = y)
  | .lt => decide (x < y)
  | .ge => decide (y ≤ x)
  | .gt => decide (y < x)
  | .le => decide (x ≤ y)
def p_ld (i : Nat) (t : Nat) (pc : Nat) (ls : p_Ls) (st : List Value) (h : p_H) : Option p_O := match t, p_lk i ls with
  | 0, some (.int v) => p_go pc ls (.int v :: st) h
  | 1, some (.long v) => p_go pc ls (.long v :: st) h
  | 2, some (.ref v) => p_go pc ls (.ref v :: st) h
  | 2, some .null => p_go pc ls (.null :: st) h
  | _, _ => none
/-- storing: the variables' number bounds it -/
def p_sv (nL i : Nat) (v : Value) (pc : Nat) (ls : p_Ls) (st : List Value) (h : p_H) : Option p_O := match v with
  | .int x => if i < nL then p_go pc (p_s1 ls i (.int x)) st h else none
  | .ref x => if i < nL then p_go pc (p_s1 ls i (.ref x)) st h else none
  | .null => if i < nL then p_go pc (p_s1 ls i .null) st h else none
  | .long x => if i + 1 < nL then p_go pc (p_s2 ls i (.long x)) st h else none
  | _ => none
def p_ix (i : Int32) (vs : List Value) : Option Value := if i < 0 then none else vs[i.toNatClampNeg]?
/-- reading a place of an array of element type t (t1 or t2) -/
def p_al (t1 t2 : Nat) (i : Int32) (a : Nat) (pc : Nat) (ls : p_Ls) (st : List Value) (h : p_H) : Option p_O := match h[a]? with
  | some (s, t, vs) => if (Nat.beq t t1 || Nat.beq t t2) && (Nat.beq s 1 || Nat.beq s 2) then (match p_ix i vs with
      | some v => p_go pc ls (v :: st) h
      | none => none) else none
  | none => none
/-- writing one -/
def p_as (t : Nat) (x : Value) (i : Int32) (a : Nat) (pc : Nat) (ls : p_Ls) (st : List Value) (h : p_H) : Option p_O := match h[a]? with
  | some (s, t', vs) => if Nat.beq t t' && Nat.beq s 1 then (match p_ix i vs with
      | some _ => p_go pc ls st (h.set a (1, t, vs.set i.toNatClampNeg x))
      | none => none) else none
  | none => none
def p_ty (a : ArrayType) : Option Nat := match a with
  | .int => some 0
  | .byte => some 1
  | .long => some 2
  | .boolean => some 3
  | _ => none
def p_fit (ty : FieldType) (v : Value) : Bool := fits ty v && (match ty, v with
  | .boolean, .int _ => true
  | .int, .int _ => true
  | .long, .long _ => true
  | .object _, _ => true
  | .array _, _ => true
  | _, _ => false)
def p_cpy (vs ws : List Value) (sp dp n : Nat) : List Value := ws.take dp ++ ((vs.drop sp).take n ++ ws.drop (dp + n))
def p_cat (st : List Value) : Nat := (st.map fun v => v.category).sum
def p_copy (n dp : Int32) (d : Nat) (sp : Int32) (s0 : Nat) (pc : Nat) (ls : p_Ls) (st : List Value) (h : p_H) : Option p_O := match h[s0]?, h[d]? with
  | some (1, 0, vs), some (1, 0, ws) => if ¬ sp < 0 ∧ ¬ dp < 0 ∧ ¬ n < 0 ∧ sp.toNatClampNeg + n.toNatClampNeg ≤ vs.length ∧ dp.toNatClampNeg + n.toNatClampNeg ≤ ws.length ∧ ((vs.drop sp.toNatClampNeg).take n.toNatClampNeg).all (fits .int) = true ∧ p_cat st ≤ 8
      then p_go pc ls st (h.set d (1, 0, p_cpy vs ws sp.toNatClampNeg dp.toNatClampNeg n.toNatClampNeg)) else none
  | _, _ => none
def p_getf (P : List p_P) (x a : Nat) (pc : Nat) (ls : p_Ls) (st : List Value) (h : p_H) : Option p_O := match p_pk x 0 P, h[a]? with
  | some (ci, k), some (0, ci', vs) => if Nat.beq ci ci' then (match vs[k.toNat]? with
      | some v => p_go pc ls (v :: st) h
      | none => none) else none
  | _, _ => none
def p_putf (G : p_G) (ini : Bool) (own : Nat) (P : List p_P) (x : Nat) (v : Value) (a : Nat) (pc : Nat) (ls : p_Ls) (st : List Value) (h : p_H) : Option p_O := match p_pk x 0 P, h[a]? with
  | some (ci, k), some (0, ci', vs) => if Nat.beq ci ci' then (match (G[ci]?).bind (fun r => r[k.toNat]?) with
      | some (ty, fin) => if p_fit ty v && (!fin || (ini && Nat.beq own ci)) && Nat.blt k.toNat vs.length then p_go pc ls st (h.set a (0, ci, vs.set k.toNat v)) else none
      | none => none) else none
  | _, _ => none
def p_new (G : p_G) (P : List p_P) (x : Nat) (pc : Nat) (ls : p_Ls) (st : List Value) (h : p_H) : Option p_O := match p_pk x 2 P with
  | some (ci, _) => (match G[ci]? with
      | some r => p_go pc ls (.ref h.length :: st) (h ++ [(0, ci, r.map (fun q => defaultValue q.1))])
      | none => none)
  | none => none
def p_newa (t : Nat) (v : Value) (n : Int32) (pc : Nat) (ls : p_Ls) (st : List Value) (h : p_H) : Option p_O :=
  if ¬ n < 0 ∧ n.toNatClampNeg ≤ 1000000 then p_go pc ls (.ref h.length :: st) (h ++ [(1, t, List.replicate n.toNatClampNeg v)]) else none
def p_inv (t : Nat) (P : List p_P) (x : Nat) (st : List Value) : Option p_O := match p_pk x t P with
  | some (m, n) => if n.toNat ≤ st.length ∧ p_cat (st.drop n.toNat) ≤ 8 then some (.inr (.inr (m, (st.take n.toNat).reverse, st.drop n.toNat))) else none
  | none => none
/-- the receiver's kind is the method's home -/
def p_invv (MT : List p_M) (P : List p_P) (x : Nat) (st : List Value) (h : p_H) : Option p_O := match p_inv 9 P x st with
  | some (.inr (.inr (m, .ref a :: as, rest))) => (match MT[m]?, h[a]? with
      | some M, some (0, ci, _) => if Nat.beq M.2.2.2.2.2.2.2 ci then some (.inr (.inr (m, .ref a :: as, rest))) else none
      | _, _ => none)
  | _ => none
def p_clone (a : Nat) (pc : Nat) (ls : p_Ls) (st : List Value) (h : p_H) : Option p_O := match h[a]? with
  | some (1, 0, vs) => if vs.all (fits .int) = true ∧ p_cat st ≤ 8 then p_go pc ls (.ref h.length :: st) (h ++ [(1, 0, vs)]) else none
  | _ => none
def p_vir (MT : List p_M) (P : List p_P) (x : Nat) (pc : Nat) (ls : p_Ls) (st : List Value) (h : p_H) : Option p_O := match p_pk x 12 P, st with
  | some _, .ref a :: st' => p_clone a pc ls st' h
  | some _, _ => none
  | none, _ => p_invv MT P x st h
def p_cc (P : List p_P) (x a : Nat) (pc : Nat) (ls : p_Ls) (st : List Value) (h : p_H) : Option p_O := match p_pk x 13 P, h[a]? with
  | some _, some (1, 0, _) => p_go pc ls (.ref a :: st) h
  | _, _ => none
def p_invi (P : List p_P) (x : Nat) (pc : Nat) (ls : p_Ls) (st : List Value) (h : p_H) : Option p_O := match p_pk x 8 P, st with
  | some _, .ref _ :: st' => if p_cat st' ≤ 8 then p_go pc ls st' h else none
  | some _, _ => none
  | none, _ => (match p_inv 10 P x st with
      | some (.inr (.inr (m, .ref a :: as, rest))) => some (.inr (.inr (m, .ref a :: as, rest)))
      | _ => none)
def p_invs (P : List p_P) (x : Nat) (pc : Nat) (ls : p_Ls) (st : List Value) (h : p_H) : Option p_O := match p_pk x 7 P, st with
  | some _, .int n :: .int dp :: .ref d :: .int sp :: .ref s0 :: st' => p_copy n dp d sp s0 pc ls st' h
  | some _, _ => none
  | none, _ => (match p_inv 1 P x st with
      | some o => some o
      | none => p_inv 11 P x st)
def p_ret (rt : Option FieldType) (v : Option Value) : Option p_O := match rt, v with
  | none, none => some (.inr (.inl none))
  | some ty, some (.int x) => if narrow ty (.int x) = .int x then some (.inr (.inl (some (.int x)))) else none
  | some .long, some (.long x) => some (.inr (.inl (some (.long x))))
  | some (.object _), some .null => some (.inr (.inl (some .null)))
  | some (.object _), some (.ref a) => some (.inr (.inl (some (.ref a))))
  | some (.array _), some .null => some (.inr (.inl (some .null)))
  | some (.array _), some (.ref a) => some (.inr (.inl (some (.ref a))))
  | _, _ => none
def p_cst (P : List p_P) (x t pc : Nat) (ls : p_Ls) (st : List Value) (h : p_H) : Option p_O := match p_pk x t P with
  | some (_, b) => if Nat.beq t 4 then p_go pc ls (.long (Int64.ofInt b) :: st) h else p_go pc ls (.int (Int32.ofInt b) :: st) h
  | none => none
def p_sw (pc : Nat) (dflt lo hi : Int) (offs : Array Int) (x : Int32) (ls : p_Ls) (st : List Value) (h : p_H) : Option p_O :=
  if x.toInt < lo ∨ hi < x.toInt then p_jm pc dflt ls st h else (match offs[(x.toInt - lo).toNat]? with
    | some off => p_jm pc off ls st h
    | none => none)
def p_step (G : p_G) (MT : List p_M) (M : p_M) (i : Instr) (pc : Nat) (ls : p_Ls) (st : List Value) (h : p_H) : Option p_O := match i, st with
  | .iconst v, st => p_go (pc + 1) ls (.int (Int32.ofInt v) :: st) h
  | .bipush v, st => p_go (pc + 2) ls (.int (Int8.ofInt v).toInt32 :: st) h
  | .sipush v, st => p_go (pc + 3) ls (.int (Int16.ofInt v).toInt32 :: st) h
  | .lconst k, st => p_go (pc + 1) ls (.long (Int64.ofNat k) :: st) h
  | .aconst_null, st => p_go (pc + 1) ls (.null :: st) h
  | .ldc x, st => p_cst M.2.2.2.2.2.1 x 3 (pc + 2) ls st h
  | .ldc_w x, st => p_cst M.2.2.2.2.2.1 x 3 (pc + 3) ls st h
  | .ldc2_w x, st => p_cst M.2.2.2.2.2.1 x 4 (pc + 3) ls st h
  | .iload_n k, st => p_ld k 0 (pc + 1) ls st h
  | .iload k, st => p_ld k 0 (pc + 2) ls st h
  | .lload_n k, st => p_ld k 1 (pc + 1) ls st h
  | .lload k, st => p_ld k 1 (pc + 2) ls st h
  | .aload_n k, st => p_ld k 2 (pc + 1) ls st h
  | .aload k, st => p_ld k 2 (pc + 2) ls st h
  | .istore_n k, .int v :: st => p_sv M.2.2.1 k (.int v) (pc + 1) ls st h
  | .istore k, .int v :: st => p_sv M.2.2.1 k (.int v) (pc + 2) ls st h
  | .lstore_n k, .long v :: st => p_sv M.2.2.1 k (.long v) (pc + 1) ls st h
  | .lstore k, .long v :: st => p_sv M.2.2.1 k (.long v) (pc + 2) ls st h
  | .astore_n k, .ref v :: st => p_sv M.2.2.1 k (.ref v) (pc + 1) ls st h
  | .astore k, .ref v :: st => p_sv M.2.2.1 k (.ref v) (pc + 2) ls st h
  | .astore_n k, .null :: st => p_sv M.2.2.1 k .null (pc + 1) ls st h
  | .astore k, .null :: st => p_sv M.2.2.1 k .null (pc + 2) ls st h
  | .iinc k d, st => (match p_lk k ls with
      | some (.int v) => p_sv M.2.2.1 k (.int (v + Int32.ofInt d)) (pc + 3) ls st h
      | _ => none)
  | .iadd, .int y :: .int x :: st => p_go (pc + 1) ls (.int (x + y) :: st) h
  | .isub, .int y :: .int x :: st => p_go (pc + 1) ls (.int (x - y) :: st) h
  | .imul, .int y :: .int x :: st => p_go (pc + 1) ls (.int (x * y) :: st) h
  | .iand, .int y :: .int x :: st => p_go (pc + 1) ls (.int (x &&& y) :: st) h
  | .ior, .int y :: .int x :: st => p_go (pc + 1) ls (.int (x ||| y) :: st) h
  | .ixor, .int y :: .int x :: st => p_go (pc + 1) ls (.int (x ^^^ y) :: st) h
  | .ishl, .int y :: .int x :: st => p_go (pc + 1) ls (.int (x <<< (y &&& 31)) :: st) h
  | .ishr, .int y :: .int x :: st => p_go (pc + 1) ls (.int (x >>> (y &&& 31)) :: st) h
  | .iushr, .int y :: .int x :: st => p_go (pc + 1) ls (.int (x.toUInt32 >>> (y.toUInt32 &&& Int32.toUInt32 31)).toInt32 :: st) h
  | .idiv, .int y :: .int x :: st => if y = 0 then none else p_go (pc + 1) ls (.int (x / y) :: st) h
  | .irem, .int y :: .int x :: st => if y = 0 then none else p_go (pc + 1) ls (.int (x - x / y * y) :: st) h
  | .ineg, .int x :: st => p_go (pc + 1) ls (.int (-x) :: st) h
  | .ladd, .long y :: .long x :: st => p_go (pc + 1) ls (.long (x + y) :: st) h
  | .lsub, .long y :: .long x :: st => p_go (pc + 1) ls (.long (x - y) :: st) h
  | .lmul, .long y :: .long x :: st => p_go (pc + 1) ls (.long (x * y) :: st) h
  | .lor, .long y :: .long x :: st => p_go (pc + 1) ls (.long (x ||| y) :: st) h
  | .ldiv, .long y :: .long x :: st => if y = 0 then none else p_go (pc + 1) ls (.long (x / y) :: st) h
  | .lrem, .long y :: .long x :: st => if y = 0 then none else p_go (pc + 1) ls (.long (x - x / y * y) :: st) h
  | .lneg, .long x :: st => p_go (pc + 1) ls (.long (-x) :: st) h
  | .lshl, .int y :: .long x :: st => p_go (pc + 1) ls (.long (x <<< (y.toInt64 &&& 63)) :: st) h
  | .lshr, .int y :: .long x :: st => p_go (pc + 1) ls (.long (x >>> (y.toInt64 &&& 63)) :: st) h
  | .lcmp, .long y :: .long x :: st => p_go (pc + 1) ls (.int (lg_cmp x y) :: st) h
  | .i2l, .int x :: st => p_go (pc + 1) ls (.long x.toInt64 :: st) h
  | .l2i, .long x :: st => p_go (pc + 1) ls (.int x.toInt32 :: st) h
  | .i2b, .int x :: st => p_go (pc + 1) ls (.int x.toInt8.toInt32 :: st) h
  | .dup, v :: st => if v.category = 1 then p_go (pc + 1) ls (v :: v :: st) h else none
  | .pop, v :: st => if v.category = 1 then p_go (pc + 1) ls st h else none
  | .dup2, v :: w :: st => if v.category = 1 ∧ w.category = 1 then p_go (pc + 1) ls (v :: w :: v :: w :: st) h else none
  | .pop2, .long _ :: st => p_go (pc + 1) ls st h
  | .ifCond c off, .int x :: st => p_br (p_cd c x 0) pc off ls st h
  | .if_icmp c off, .int y :: .int x :: st => p_br (p_cd c x y) pc off ls st h
  | .ifnull off, .null :: st => p_jm pc off ls st h
  | .ifnull _, .ref _ :: st => p_go (pc + 3) ls st h
  | .ifnonnull off, .ref _ :: st => p_jm pc off ls st h
  | .ifnonnull _, .null :: st => p_go (pc + 3) ls st h
  | .goto off, st => p_jm pc off ls st h
  | .tableswitch dflt lo hi offs, .int x :: st => p_sw pc dflt lo hi offs x ls st h
  | .lookupswitch dflt ps, .int x :: st => if (ps.toList.zip (ps.toList.drop 1)).all (fun (a, next) => a.1 < next.1) then p_jm pc (Op.lookupswitch.offset ps.toList dflt x.toInt) ls st h else none
  | .iaload, .int i :: .ref a :: st => p_al 0 0 i a (pc + 1) ls st h
  | .laload, .int i :: .ref a :: st => p_al 2 2 i a (pc + 1) ls st h
  | .baload, .int i :: .ref a :: st => p_al 1 3 i a (pc + 1) ls st h
  | .aaload, .int i :: .ref a :: st => p_al 4 4 i a (pc + 1) ls st h
  | .iastore, .int x :: .int i :: .ref a :: st => p_as 0 (.int x) i a (pc + 1) ls st h
  | .lastore, .long x :: .int i :: .ref a :: st => p_as 2 (.long x) i a (pc + 1) ls st h
  | .bastore, .int x :: .int i :: .ref a :: st => (match p_as 1 (narrow .byte (.int x)) i a (pc + 1) ls st h with
      | some o => some o
      | none => p_as 3 (narrow .boolean (.int x)) i a (pc + 1) ls st h)
  | .aastore, .null :: .int i :: .ref a :: st => p_as 4 .null i a (pc + 1) ls st h
  | .aastore, .ref v :: .int i :: .ref a :: st => (match h[v]? with
      | some (0, 7, _) => p_as 4 (.ref v) i a (pc + 1) ls st h
      | _ => none)
  | .arraylength, .ref a :: st => (match h[a]? with
      | some (s, _, vs) => if Nat.beq s 1 || Nat.beq s 2 then p_go (pc + 1) ls (.int (Int32.ofNat vs.length) :: st) h else none
      | none => none)
  | .newarray ty, .int n :: st => (match p_ty ty with
      | some t => p_newa t (defaultValue (newarray.typeOf ty)) n (pc + 2) ls st h
      | none => none)
  | .anewarray x, .int n :: st => (match p_pk x 5 M.2.2.2.2.2.1 with
      | some _ => p_newa 4 .null n (pc + 3) ls st h
      | none => none)
  | .new x, st => p_new G M.2.2.2.2.2.1 x (pc + 3) ls st h
  | .getfield x, .ref a :: st => p_getf M.2.2.2.2.2.1 x a (pc + 3) ls st h
  | .putfield x, v :: .ref a :: st => p_putf G M.2.2.2.2.2.2.1 M.2.2.2.2.2.2.2 M.2.2.2.2.2.1 x v a (pc + 3) ls st h
  | .getstatic x, st => (match p_pk x 6 M.2.2.2.2.2.1 with
      | some _ => p_go (pc + 3) ls (.ref 1 :: st) h
      | none => none)
  | .invokestatic x, st => p_invs M.2.2.2.2.2.1 x (pc + 3) ls st h
  | .invokevirtual x, st => p_vir MT M.2.2.2.2.2.1 x (pc + 3) ls st h
  | .checkcast x, .ref a :: st => p_cc M.2.2.2.2.2.1 x a (pc + 3) ls st h
  | .invokespecial x, st => p_invi M.2.2.2.2.2.1 x (pc + 3) ls st h
  | .return_, [] => p_ret M.2.2.2.1 none
  | .ireturn, [.int x] => p_ret M.2.2.2.1 (some (.int x))
  | .lreturn, [.long x] => p_ret M.2.2.2.1 (some (.long x))
  | .areturn, [.null] => p_ret M.2.2.2.1 (some .null)
  | .areturn, [.ref a] => p_ret M.2.2.2.1 (some (.ref a))
  | _, _ => none
/-- d calls deep at most, n steps at most on the longest road -/
def p_run (G : p_G) (MT : List p_M) : Nat → Nat → p_M → Nat → p_Ls → List Value → p_H → Option (Option Value × p_H)
  | 0, _, _, _, _, _, _ => none
  | n + 1, d, M, pc, ls, st, h => match p_at pc M.2.2.2.2.1 with
    | none => none
    | some (i, _) => match p_step G MT M i pc ls st h with
      | none => none
      | some (.inl (pc', ls', st', h')) => p_run G MT n d M pc' ls' st' h'
      | some (.inr (.inl v)) => some (v, h)
      | some (.inr (.inr (m, as, rest))) => match d, MT[m]? with
        | d' + 1, some M' => if p_cat as ≤ M'.2.2.1 then (match p_run G MT n d' M' 0 (lv_args 0 as) [] h with
          | some (v, h') => p_run G MT n d M (pc + 3) ls (v.toList ++ rest) h'
          | none => none) else none
        | _, _ => none
end
section
/-! How a heap of the pure machine lies in a heap of the machine: the cells that were made lie one behind the other from b0 on; the script and the one static array lie below. z: where the script is, where the static array is, b0. -/
def p_ad (z : Nat × Nat × Nat) : Nat → Nat
  | 0 => z.1
  | 1 => z.2.1
  | k + 2 => z.2.2 + k
def p_rv (z : Nat × Nat × Nat) (v : Value) : Value := match v with
  | .ref i => .ref (p_ad z i)
  | v => v
theorem p_rv_cat (z : Nat × Nat × Nat) (v : Value) : (p_rv z v).category = v.category := by cases v <;> rfl
theorem p_rv_fits (z : Nat × Nat × Nat) (ty : FieldType) (v : Value) : fits ty (p_rv z v) = fits ty v := by
  cases v <;> first | rfl | (cases ty <;> rfl)
def p_tyF : List FieldType := [.int, .byte, .long, .boolean, .object "CutInMay$Text"]
def p_cell (U : State) (z : Nat × Nat × Nat) (D : va_G) (tys : List (ClassId × FieldType)) (c : p_C) (a : Nat) (H : Heap) : Prop :=
  (c.1 = 0 ∧ z.2.2 ≤ a ∧ ∃ r : vw_C, vwCl[c.2.1]? = some r ∧ c.2.2.length = r.2.2 ∧ t_OB a (D.1 c.2.1) r.2.2 (D.2 c.2.1) H (vp_V (c.2.2.map (p_rv z)))) ∨
  (c.1 = 1 ∧ z.2.2 ≤ a ∧ ∃ q : ClassId × FieldType, tys[c.2.1]? = some q ∧ H[a]? = some (arrV q.1 c.2.2.length (fun j => p_rv z (c.2.2.getD j .null)))) ∨
  (c.1 = 2 ∧ a < z.2.2 ∧ ∃ (ty : FieldType) (cell : Cell), p_tyF[c.2.1]? = some ty ∧ H[a]? = some cell ∧ U.isArrayOf cell ty ∧ cell.vm ≠ .unknown ∧ cell.slots.size = c.2.2.length ∧ ∀ (j : Nat) (v : Value), c.2.2[j]? = some v → cell.slots[j]? = some (p_rv z v))
theorem p_cell.kept {U : State} {z : Nat × Nat × Nat} {D : va_G} {tys : List (ClassId × FieldType)} {c : p_C} {a : Nat} {H H1 : Heap} (h : p_cell U z D tys c a H) (h1 : H1[a]? = H[a]?) : p_cell U z D tys c a H1 := by
  rcases h with ⟨e, hb, r, h2, h3, h4⟩ | ⟨e, hb, q, h2, h3⟩ | ⟨e, hb, ty, cell, h2, h3, h4⟩
  · exact Or.inl ⟨e, hb, r, h2, h3, h4.kept h1⟩
  · exact Or.inr (Or.inl ⟨e, hb, q, h2, by rw [h1]; exact h3⟩)
  · exact Or.inr (Or.inr ⟨e, hb, ty, cell, h2, by rw [h1]; exact h3, h4⟩)
theorem p_cell.lt {U : State} {z : Nat × Nat × Nat} {D : va_G} {tys : List (ClassId × FieldType)} {c : p_C} {a : Nat} {H : Heap} (h : p_cell U z D tys c a H) : a < H.size := by
  rcases h with ⟨e, hb, r, h2, h3, cell, h4, -⟩ | ⟨e, hb, q, h2, h3⟩ | ⟨e, hb, ty, cell, h2, h3, h4⟩
  · exact (Array.getElem?_eq_some_iff.mp h4).1
  · exact (Array.getElem?_eq_some_iff.mp h3).1
  · exact (Array.getElem?_eq_some_iff.mp h3).1
theorem p_cell.moved {U U' : State} {z : Nat × Nat × Nat} {D : va_G} {tys : List (ClassId × FieldType)} {c : p_C} {a : Nat} {H : Heap} (hv : U.vm.Alike U'.vm) (h : p_cell U z D tys c a H) : p_cell U' z D tys c a H := by
  rcases h with h | h | ⟨e, hb, ty, cell, h2, h3, h4, h5⟩
  · exact Or.inl h
  · exact Or.inr (Or.inl h)
  · exact Or.inr (Or.inr ⟨e, hb, ty, cell, h2, h3, State.isArrayOf_alike hv h4, h5⟩)
def p_R (U : State) (z : Nat × Nat × Nat) (D : va_G) (tys : List (ClassId × FieldType)) (h : p_H) (H : Heap) : Prop :=
  z.1 < z.2.2 ∧ z.2.1 < z.2.2 ∧ 2 ≤ h.length ∧ H.size = z.2.2 + (h.length - 2) ∧ ∀ (i : Nat) (c : p_C), h[i]? = some c → p_cell U z D tys c (p_ad z i) H
theorem p_R.moved {U U' : State} {z : Nat × Nat × Nat} {D : va_G} {tys : List (ClassId × FieldType)} {h : p_H} {H : Heap} (hv : U.vm.Alike U'.vm) (hR : p_R U z D tys h H) : p_R U' z D tys h H :=
  ⟨hR.1, hR.2.1, hR.2.2.1, hR.2.2.2.1, fun i c hc => (hR.2.2.2.2 i c hc).moved hv⟩
theorem p_ad_len {z : Nat × Nat × Nat} {n : Nat} (hn : 2 ≤ n) : p_ad z n = z.2.2 + (n - 2) := by
  obtain ⟨k, rfl⟩ : ∃ k, n = k + 2 := ⟨n - 2, by omega⟩
  show z.2.2 + k = _
  omega
theorem p_ad_two {z : Nat × Nat × Nat} (h1 : z.1 < z.2.2) (h2 : z.2.1 < z.2.2) {i : Nat} (hi : z.2.2 ≤ p_ad z i) : 2 ≤ i := by
  match i, hi with
  | 0, hi => exact absurd hi (by show ¬ z.2.2 ≤ z.1; omega)
  | 1, hi => exact absurd hi (by show ¬ z.2.2 ≤ z.2.1; omega)
  | k + 2, _ => omega
theorem p_ad_inj {z : Nat × Nat × Nat} (h1 : z.1 < z.2.2) (h2 : z.2.1 < z.2.2) {i j : Nat} (hi : z.2.2 ≤ p_ad z i) (he : p_ad z j = p_ad z i) : j = i := by
  have hi2 := p_ad_two h1 h2 hi
  have hj2 := p_ad_two h1 h2 (i := j) (by rw [he]; exact hi)
  rw [p_ad_len hi2, p_ad_len hj2] at he
  omega
/-- a cell gets other values -/
theorem p_R.set {U : State} {z : Nat × Nat × Nat} {D : va_G} {tys : List (ClassId × FieldType)} {h : p_H} {H H1 : Heap} {i : Nat} {c1 : p_C} (hR : p_R U z D tys h H) (hi : z.2.2 ≤ p_ad z i) (hz : H1.size = H.size) (ho : ∀ q : Nat, q ≠ p_ad z i → H1[q]? = H[q]?) (hc : p_cell U z D tys c1 (p_ad z i) H1) : p_R U z D tys (h.set i c1) H1 := by
  obtain ⟨h1, h2, h3, h4, h5⟩ := hR
  refine ⟨h1, h2, by rw [List.length_set]; exact h3, by rw [List.length_set, hz]; exact h4, fun j c hj => ?_⟩
  by_cases e : i = j
  · subst e
    rw [List.getElem?_set] at hj
    split at hj
    · split at hj
      · cases hj; exact hc
      · cases hj
    · next hn => exact absurd rfl hn
  · rw [List.getElem?_set_ne e] at hj
    exact (h5 j c hj).kept (ho _ (fun q => e (p_ad_inj h1 h2 hi q).symm))
/-- a cell comes -/
theorem p_R.push {U : State} {z : Nat × Nat × Nat} {D : va_G} {tys : List (ClassId × FieldType)} {h : p_H} {H H1 : Heap} {c1 : p_C} (hR : p_R U z D tys h H) (hz : H1.size = H.size + 1) (ho : ∀ q : Nat, q < H.size → H1[q]? = H[q]?) (hc : p_cell U z D tys c1 (p_ad z h.length) H1) : p_R U z D tys (h ++ [c1]) H1 := by
  obtain ⟨h1, h2, h3, h4, h5⟩ := hR
  refine ⟨h1, h2, by rw [List.length_append]; omega, by rw [List.length_append, hz, h4]; simp only [List.length_cons, List.length_nil]; omega, fun j c hj => ?_⟩
  by_cases e : j < h.length
  · rw [List.getElem?_append_left e] at hj
    exact (h5 j c hj).kept (ho _ (h5 j c hj).lt)
  · rw [List.getElem?_append_right (by omega)] at hj
    have hl := (List.getElem?_eq_some_iff.mp hj).1
    simp only [List.length_cons, List.length_nil] at hl
    have ej : j = h.length := by omega
    subst ej
    simp at hj
    subst hj
    exact hc
theorem p_R.len {U : State} {z : Nat × Nat × Nat} {D : va_G} {tys : List (ClassId × FieldType)} {h : p_H} {H : Heap} (hR : p_R U z D tys h H) : p_ad z h.length = H.size := by
  rw [p_ad_len hR.2.2.1]; exact hR.2.2.2.1.symm
/-- an object -/
theorem p_R.obj {U : State} {z : Nat × Nat × Nat} {D : va_G} {tys : List (ClassId × FieldType)} {h : p_H} {H : Heap} (hR : p_R U z D tys h H) {i ci : Nat} {vs : List Value} (hi : h[i]? = some (0, ci, vs)) : z.2.2 ≤ p_ad z i ∧ ∃ r : vw_C, vwCl[ci]? = some r ∧ vs.length = r.2.2 ∧ t_OB (p_ad z i) (D.1 ci) r.2.2 (D.2 ci) H (vp_V (vs.map (p_rv z))) := by
  rcases hR.2.2.2.2 i _ hi with ⟨-, hb, h2⟩ | ⟨e, -⟩ | ⟨e, -⟩
  · exact ⟨hb, h2⟩
  · exact absurd e (by simp)
  · exact absurd e (by simp)
/-- an array that is written -/
theorem p_R.arr {U : State} {z : Nat × Nat × Nat} {D : va_G} {tys : List (ClassId × FieldType)} {h : p_H} {H : Heap} (hR : p_R U z D tys h H) {i t : Nat} {vs : List Value} (hi : h[i]? = some (1, t, vs)) : z.2.2 ≤ p_ad z i ∧ ∃ q : ClassId × FieldType, tys[t]? = some q ∧ H[p_ad z i]? = some (arrV q.1 vs.length (fun j => p_rv z (vs.getD j .null))) := by
  rcases hR.2.2.2.2 i _ hi with ⟨e, -⟩ | ⟨-, hb, h2⟩ | ⟨e, -⟩
  · exact absurd e (by simp)
  · exact ⟨hb, h2⟩
  · exact absurd e (by simp)
/-- what the tables say of the element types -/
def p_KT (tys : List (ClassId × FieldType)) : Prop := tys.map (fun q => q.2) = p_tyF
theorem p_KT.at {tys : List (ClassId × FieldType)} (h : p_KT tys) {t : Nat} {ty : FieldType} (ht : p_tyF[t]? = some ty) : ∃ cA, tys[t]? = some (cA, ty) := by
  rw [← h, List.getElem?_map] at ht
  cases hq : tys[t]? with
  | none => rw [hq] at ht; cases ht
  | some q => rw [hq] at ht; cases ht; exact ⟨q.1, rfl⟩
theorem p_KT.is {tys : List (ClassId × FieldType)} (h : p_KT tys) {t : Nat} {q : ClassId × FieldType} {ty : FieldType} (hq : tys[t]? = some q) (ht : p_tyF[t]? = some ty) : q.2 = ty := by
  rw [← h, List.getElem?_map, hq] at ht
  exact Option.some.inj ht
/-- any array is one of its element type, of its length, with its values -/
theorem p_R.any {s : State} {z : Nat × Nat × Nat} {D : va_G} {tys : List (ClassId × FieldType)} {h : p_H} {H : Heap} (hR : p_R s z D tys h H) (hK : va_K D vwCl tys s) (hT : p_KT tys) {i sort t : Nat} {vs : List Value} (hi : h[i]? = some (sort, t, vs)) (hs : sort = 1 ∨ sort = 2) {ty : FieldType} (hty : p_tyF[t]? = some ty) :
    ∃ cell : Cell, H[p_ad z i]? = some cell ∧ s.isArrayOf cell ty ∧ cell.vm ≠ .unknown ∧ cell.slots.size = vs.length ∧ ∀ (j : Nat) (v : Value), vs[j]? = some v → cell.slots[j]? = some (p_rv z v) := by
  rcases hR.2.2.2.2 i _ hi with ⟨e, -⟩ | ⟨-, -, q, h2, h3⟩ | ⟨-, -, ty', cell, h2, h3, h4, h5, h6, h7⟩
  · rcases hs with rfl | rfl <;> exact absurd e (by simp)
  · have e := hT.is h2 hty
    refine ⟨_, h3, e ▸ (hK.2 t q h2).1 _ _, (fun h => by cases h), arrV_size _ _ _, fun j v hj => ?_⟩
    have hl := (List.getElem?_eq_some_iff.mp hj).1
    rw [arrV_read _ _ hl]
    simp [List.getD_eq_getElem?_getD, hj]
  · have e : ty' = ty := Option.some.inj (h2.symm.trans hty)
    subst e
    exact ⟨cell, h3, h4, h5, h6, h7⟩
end
section
/-! What the tables must say of a method's pool, and that the listed instructions are those of its bytes -/
def p_big' : List Cond := p_big
def p_w1 (MT : List p_M) (M : p_M) (q : p_P) : List Cond := match q.2.1 with
  | 0 => (match vwCl[q.2.2.1]? with
      | some r => [.fieldLink M.1.cls q.1 (r.2.1 q.2.2.2.toNat).1 (r.2.1 q.2.2.2.toNat).2.1 (r.2.1 q.2.2.2.toNat).2.2.1]
      | none => [])
  | 1 => (match MT[q.2.2.1]? with
      | some N => [.methodLink M.1.cls q.1 N.1, .static N.1, .initialized N.1.cls, .code N.1 N.2.1 N.2.2.1 N.2.2.2.1]
      | none => [])
  | 11 => (match MT[q.2.2.1]? with
      | some N => [.static N.1, .initialized N.1.cls, .code N.1 N.2.1 N.2.2.1 N.2.2.2.1]
      | none => [])
  | 9 => (match MT[q.2.2.1]? with
      | some N => [.methodLink M.1.cls q.1 N.1, .instanceMethod N.1, .selects N.1.cls N.1 N.1, .initialized N.1.cls, .code N.1 N.2.1 N.2.2.1 N.2.2.2.1]
      | none => [])
  | 10 => (match MT[q.2.2.1]? with
      | some N => [.methodLink M.1.cls q.1 N.1, .instanceMethod N.1, .initialized N.1.cls, .code N.1 N.2.1 N.2.2.1 N.2.2.2.1]
      | none => [])
  | 2 => (match vwCl[q.2.2.1]? with
      | some r => [.classLink M.1.cls q.1 r.1, .instantiable r.1 r.2.2, .initialized r.1]
      | none => [])
  | 3 => [.constant M.1.cls q.1 (Int32.ofInt q.2.2.2)]
  | 4 => [.constantLong M.1.cls q.1 (Int64.ofInt q.2.2.2)]
  | 5 => [.classLink M.1.cls q.1 "CutInMay$Text", .arrayOver (.object "CutInMay$Text")]
  | 6 => [.fieldLink M.1.cls q.1 "CutInMay$Reader" "WORDS" "[J"]
  | 7 => [.methodLink M.1.cls q.1 arraycopyName, .native arraycopyName, .static arraycopyName, .initialized "java/lang/System"]
  | 12 => [.methodLink M.1.cls q.1 ⟨"[I", "clone", "()Ljava/lang/Object;"⟩, .sameMethod "[I" "java/lang/Object" "clone" "()Ljava/lang/Object;", .native ⟨"java/lang/Object", "clone", "()Ljava/lang/Object;"⟩, .instanceMethod ⟨"java/lang/Object", "clone", "()Ljava/lang/Object;"⟩, .selects "[I" ⟨"[I", "clone", "()Ljava/lang/Object;"⟩ ⟨"java/lang/Object", "clone", "()Ljava/lang/Object;"⟩]
  | 13 => [.classLink M.1.cls q.1 "[I"]
  | 8 => [.methodLink M.1.cls q.1 objectInit, .instanceMethod objectInit, .code objectInit ⟨#[0xb1]⟩ 1 none]
  | _ => []
/-- words that a callee can't take from its caller's: they go with the state -/
def p_w2 (MT : List p_M) (M : p_M) (q : p_P) : List Cond := match q.2.1 with
  | 11 => (match MT[q.2.2.1]? with
      | some N => [.methodLinkNest M.1.cls q.1 N.1 "CutInMay"]
      | none => [])
  | _ => []
def p_N (U : State) : Prop := (∀ (a : String) (i : Nat) (x : MethodName) (h : String), Cond.methodLinkNest a i x h ∈ lw_tbl → va_Nw (.methodLinkNest a i x h) U) ∧ va_Nw (.castable "[I" "java/lang/Cloneable") U
theorem p_N.moved {s U : State} (hW : s.WarmedH U.vm) (h : p_N s) : p_N U := ⟨fun a i x b hm => (h.1 a i x b hm).warmM hW, h.2.warmC hW⟩
theorem p_N.same {u U : State} (hv : u.vm = U.vm) (h : p_N u) : p_N U := ⟨fun a i x b hm => (h.1 a i x b hm).same rfl hv, h.2.same rfl hv⟩
def p_par (y : MethodName) (n : Nat) : Bool := decide (y.cls ≠ "java/lang/invoke/MethodHandle" ∧ y.cls ≠ "java/lang/invoke/VarHandle" ∧ (parseMethodDescriptor y.desc).map (fun d => d.parameters.length) = some n)
def p_o1 (MT : List p_M) (q : p_P) : Bool := match q.2.1 with
  | 0 => (match vwCl[q.2.2.1]? with
      | some r => Nat.blt q.2.2.2.toNat r.2.2
      | none => false)
  | 1 => (match MT[q.2.2.1]? with
      | some N => p_par N.1 q.2.2.2.toNat && Nat.ble N.2.2.1 40
      | none => false)
  | 11 => (match MT[q.2.2.1]? with
      | some N => p_par N.1 q.2.2.2.toNat && Nat.ble N.2.2.1 40
      | none => false)
  | 9 => (match MT[q.2.2.1]? with
      | some N => p_par N.1 (q.2.2.2.toNat - 1) && Nat.ble 1 q.2.2.2.toNat && Nat.ble N.2.2.1 40
      | none => false)
  | 10 => (match MT[q.2.2.1]? with
      | some N => p_par N.1 (q.2.2.2.toNat - 1) && Nat.ble 1 q.2.2.2.toNat && Nat.ble N.2.2.1 40 && decide (N.1.name = "<init>") && decide (N.2.2.2.1 = none)
      | none => false)
  | 2 => (match vwCl[q.2.2.1]? with
      | some _ => true
      | none => false)
  | _ => true
/-- how long an instruction is, but for the two switches -/
def p_ln (i : Instr) : Nat := match i with
  | .bipush _ => 2 | .sipush _ => 3 | .ldc _ => 2 | .ldc_w _ => 3 | .ldc2_w _ => 3
  | .iload _ => 2 | .lload _ => 2 | .aload _ => 2 | .istore _ => 2 | .lstore _ => 2 | .astore _ => 2
  | .iinc _ _ => 3 | .ifCond _ _ => 3 | .if_icmp _ _ => 3 | .ifnull _ => 3 | .ifnonnull _ => 3 | .goto _ => 3
  | .newarray _ => 2 | .anewarray _ => 3 | .new _ => 3 | .getfield _ => 3 | .putfield _ => 3 | .getstatic _ => 3
  | .invokestatic _ => 3 | .invokevirtual _ => 3 | .invokespecial _ => 3 | .checkcast _ => 3
  | .tableswitch _ _ _ _ => 0 | .lookupswitch _ _ => 0
  | _ => 1
def p_MO (MT : List p_M) (M : p_M) : Prop :=
  plainName M.1.cls = true ∧ M.2.2.1 ≤ 40 ∧ (∀ q ∈ M.2.2.2.2.1, decode M.2.1 q.1 = .ok q.2 ∧ (p_ln q.2.1 = 0 ∨ q.2.2 = p_ln q.2.1)) ∧ (∀ q ∈ M.2.2.2.2.2.1, p_o1 MT q = true ∧ ∀ w ∈ p_w1 MT M q, w ∈ p_big) ∧
  (M.2.2.2.2.2.2.1 = true → M.1.name = "<init>") ∧ (∀ r, vwCl[M.2.2.2.2.2.2.2]? = some r → r.1 = M.1.cls) ∧ ∀ q ∈ M.2.2.2.2.2.1, ∀ w ∈ p_w2 MT M q, w ∈ lw_tbl
/-- the kinds of objects -/
def p_GO (G : p_G) : Prop := ∀ (ci : Nat) (row : List (FieldType × Bool)), G[ci]? = some row → ∃ r : vw_C, vwCl[ci]? = some r ∧ row.length = r.2.2 ∧ (∀ w ∈ u_ws r.1 r.2.1 r.2.2, w ∈ p_big) ∧ (∀ a, a < r.2.2 → ∀ b, b < r.2.2 → a ≠ b → (r.2.1 a).2.1 ≠ (r.2.1 b).2.1) ∧
  ∀ (k : Nat) (x : FieldType × Bool), row[k]? = some x → parseFieldDescriptor (r.2.1 k).2.2.1 = some x.1 ∧ (r.2.1 k).2.2.2 = x.2 ∧ (r.2.1 k).1 = r.1
def p_TO (G : p_G) (MT : List p_M) : Prop := p_GO G ∧ (∀ M ∈ MT, p_MO MT M) ∧ ∀ (ci : Nat) (r : vw_C), vwCl[ci]? = some r → ∃ row, G[ci]? = some row
theorem p_at_mem {pc : Nat} {L : List p_I} {x : Instr × Nat} (h : p_at pc L = some x) : (pc, x) ∈ L := by
  induction L with
  | nil => simp [p_at] at h
  | cons q r ih =>
    simp only [p_at] at h
    split at h
    · next e =>
      cases h
      have e : q.1 = pc := Nat.eq_of_beq_eq_true e
      rw [← e]; exact List.mem_cons_self
    · exact List.mem_cons_of_mem _ (ih h)
theorem p_pk_mem {x t : Nat} {L : List p_P} {u : Nat × Int} (h : p_pk x t L = some u) : (x, t, u) ∈ L := by
  induction L with
  | nil => simp [p_pk] at h
  | cons q r ih =>
    simp only [p_pk] at h
    split at h
    · next e =>
      cases h
      rw [Bool.and_eq_true] at e
      have e1 : q.1 = x := Nat.eq_of_beq_eq_true e.1
      have e2 : q.2.1 = t := Nat.eq_of_beq_eq_true e.2
      rw [← e1, ← e2]; exact List.mem_cons_self
    · exact List.mem_cons_of_mem _ (ih h)
theorem p_lk_mem {i : Nat} {ls : p_Ls} {v : Value} (h : p_lk i ls = some v) : (i, v) ∈ ls := by
  induction ls with
  | nil => simp [p_lk] at h
  | cons q r ih =>
    simp only [p_lk] at h
    split at h
    · next e =>
      cases h
      have e : q.1 = i := Nat.eq_of_beq_eq_true e
      rw [← e]; exact List.mem_cons_self
    · exact List.mem_cons_of_mem _ (ih h)
def p_rq (z : Nat × Nat × Nat) (q : Nat × Value) : Nat × Value := (q.1, p_rv z q.2)
theorem p_s1_map (z : Nat × Nat × Nat) (ls : p_Ls) (i : Nat) (v : Value) : (p_s1 ls i v).map (p_rq z) = (i, p_rv z v) :: (ls.map (p_rq z)).filter (fun q => !(q.1 == i) && !(q.1 + 1 == i && q.2.category == 2)) := by
  simp only [p_s1, List.map_cons, List.filter_map]
  congr 2
  refine List.filter_congr (fun q _ => ?_)
  simp only [Function.comp, p_rq, p_rv_cat]
theorem p_s2_map (z : Nat × Nat × Nat) (ls : p_Ls) (i : Nat) (v : Value) : (p_s2 ls i v).map (p_rq z) = (i, p_rv z v) :: (ls.map (p_rq z)).filter (fun q => !(q.1 == i) && (!(q.1 == i + 1) && !(q.1 + 1 == i && q.2.category == 2))) := by
  simp only [p_s2, List.map_cons, List.filter_map]
  congr 2
  refine List.filter_congr (fun q _ => ?_)
  simp only [Function.comp, p_rq, p_rv_cat]
theorem p_lk_at {z : Nat × Nat × Nat} {rls : Array Slot} {nL : Nat} {ls : p_Ls} (h : lv_has rls nL (ls.map (p_rq z))) {i : Nat} {v : Value} (hk : p_lk i ls = some v) : rls[i]? = some (.val (p_rv z v)) :=
  h.2.2 (i, p_rv z v) (List.mem_map.mpr ⟨(i, v), p_lk_mem hk, rfl⟩)
theorem p_tg_eq {pc t : Nat} {off : Int} (h : p_tg pc off = some t) : (pc : Int) + off = (t : Int) := by
  simp only [p_tg] at h
  split at h
  · next k e => cases h; exact e
  · cases h
def p_sl (h : p_H) : Nat := (h.map (fun c => c.2.2.length)).sum
theorem p_sl_app (h : p_H) (c : p_C) : p_sl (h ++ [c]) = p_sl h + c.2.2.length := by simp [p_sl]
theorem p_sl_set {h : p_H} {i : Nat} {c c1 : p_C} (hi : h[i]? = some c) (hc : c1.2.2.length = c.2.2.length) : p_sl (h.set i c1) = p_sl h := by
  induction h generalizing i with
  | nil => rfl
  | cons x r ih =>
    cases i with
    | zero =>
      simp at hi
      subst hi
      simp [p_sl, hc]
    | succ k =>
      simp at hi
      have := ih hi
      simp only [p_sl, List.set_cons_succ, List.map_cons, List.sum_cons] at this ⊢
      omega
end
section
/-! The pure machine's doings on the heap, over the machine -/
/-- what stands for a whole method body -/
def p_X (M : p_M) (z : Nat × Nat × Nat) (D : va_G) (tys : List (ClassId × FieldType)) (p : Program) (s : State) (m : MethodId) (args : Array Value) (meth : Method) (c : Code) : Prop :=
  p.tables.exec = Jvm.exec ∧ c.code = M.2.1 ∧ c.maxLocals = M.2.2.1 ∧ s.vm.findClass M.1.cls = some m.cls ∧ (∀ w ∈ p_big, w.before args s = true) ∧ (M.2.2.2.2.2.2.1 = true → meth.name = M.1.name) ∧ va_K D vwCl tys s ∧ p_KT tys ∧ z.2.2 ≤ s.heap.size ∧ va_Z "CutInMay$Reader" "WORDS" "[J" (.ref z.2.1) (fun q => z.2.2 ≤ q) s s.heap ∧ p_N s
section PO
variable {p : Program} {l : Launch} {e : Env} {R : Room} {s : State} {m : MethodId} {args : Array Value} {below : List Frame} {meth : Method} {c : Code} {H : Heap} {locs : List Loc} {cells slots : Nat} {Q : State → Prop}
variable {G : p_G} {MT : List p_M} {M : p_M} {z : Nat × Nat × Nat} {D : va_G} {tys : List (ClassId × FieldType)} {h : p_H} {pc : Nat} {rls : Array Slot} {rest : List Value}
theorem p_ixT {i : Int32} {vs : List Value} {v : Value} (hi : p_ix i vs = some v) : ¬ i < 0 ∧ i.toNatClampNeg < vs.length ∧ vs[i.toNatClampNeg]? = some v := by
  simp only [p_ix] at hi
  split at hi
  · cases hi
  · next hn => exact ⟨hn, (List.getElem?_eq_some_iff.mp hi).1, hi⟩
theorem p_put_S {b0 a k : Nat} {H0 H H1 : Heap} {locs : List Loc} (hS : va_S (fun q => b0 ≤ q) H0 H locs) (hz : H1.size = H.size) (ho : ∀ q : Nat, q ≠ a → H1[q]? = H[q]?) (ha : b0 ≤ a) : va_S (fun q => b0 ≤ q) H0 H1 (locs ++ [⟨a, k⟩]) := by
  refine ⟨by rw [hz]; exact hS.1, fun q h1 h2 => ?_, fun q hq => ?_⟩
  · rw [ho q (fun e => h2 (by rw [e]; exact ha))]
    exact hS.2.1 q h1 h2
  · rcases List.mem_append.mp hq with g | g
    · exact hS.2.2 q g
    · rw [List.mem_singleton.mp g]; exact ha
theorem p_push_S {b0 : Nat} {H0 H H1 : Heap} {locs : List Loc} (hS : va_S (fun q => b0 ≤ q) H0 H locs) (hz : H1.size = H.size + 1) (ho : ∀ q : Nat, q < H.size → H1[q]? = H[q]?) : va_S (fun q => b0 ≤ q) H0 H1 locs :=
  ⟨by have := hS.1; omega, fun q h1 h2 => (ho q (Nat.lt_of_lt_of_le h1 hS.1)).trans (hS.2.1 q h1 h2), hS.2.2⟩
/-- an array's cell with a place written -/
theorem p_arr_set {U : State} {H1 : Heap} {a t k : Nat} {q : ClassId × FieldType} {vs : List Value} {x : Value} (hb : z.2.2 ≤ a) (hq : tys[t]? = some q) (hk : k < vs.length) (e : H1[a]? = some ((arrV q.1 vs.length (fun j => p_rv z (vs.getD j .null))).setSlot k (p_rv z x))) : p_cell U z D tys (1, t, vs.set k x) a H1 := by
  refine Or.inr (Or.inl ⟨rfl, hb, q, hq, ?_⟩)
  rw [e, arrV_store]
  show some (arrV q.1 vs.length _) = some (arrV q.1 (vs.set k x).length _)
  rw [List.length_set]
  congr 2
  funext j
  simp only [updV, List.getD_eq_getElem?_getD, List.getElem?_set]
  by_cases hj : j = k
  · subst hj
    simp [hk]
  · simp [hj, Ne.symm hj]
theorem p_i32_len {vs : List Value} {n : Nat} (hn : n = vs.length) : n.toInt32 = Int32.ofNat vs.length := by subst hn; rfl
/-- reading a field -/
theorem p_get_ok (hTO : p_TO G MT) (hMO : p_MO MT M) (X : p_X M z D tys p s m args meth c) (hR : p_R s z D tys h H) {x a ci : Nat} {k : Int} {vs : List Value} {v : Value} (hp : p_pk x 0 M.2.2.2.2.2.1 = some (ci, k)) (ha : h[a]? = some (0, ci, vs)) (hv : vs[k.toNat]? = some v) (hdg : decode M.2.1 pc = .ok (.getfield x, 3))
    (kk : W p l e R s m args below meth c H locs cells slots Q (F0 m (pc + 3) rls (p_rv z v :: rest))) : W p l e R s m args below meth c H locs cells slots Q (F0 m pc rls (.ref (p_ad z a) :: rest)) := by
  obtain ⟨hx, hb, hml, hown, hts, hnm, hK, hT, hz, hZ⟩ := X
  obtain ⟨hb0, r, hr, hlen, hOB⟩ := hR.obj ha
  obtain ⟨ho, hw⟩ := hMO.2.2.2.1 _ (p_pk_mem hp)
  obtain ⟨row, hrow⟩ := hTO.2.2 ci r hr
  obtain ⟨r', hr', hrl, hin, -, -⟩ := hTO.1 ci row hrow
  have er : r' = r := Option.some.inj (hr'.symm.trans hr)
  subst er
  have hk : k.toNat < r'.2.2 := by rw [← hlen]; exact (List.getElem?_eq_some_iff.mp hv).1
  have hlink : (Cond.fieldLink M.1.cls x (r'.2.1 k.toNat).1 (r'.2.1 k.toNat).2.1 (r'.2.1 k.toNat).2.2.1).before args s = true := hts _ (hw _ (by simp [p_w1, hr]))
  have hP : va_P D vwCl [(p_ad z a, .inr (ci, vs.map (p_rv z)))] H := by
    intro i q hi
    have hl : i < 1 := (List.getElem?_eq_some_iff.mp hi).1
    obtain rfl : i = 0 := by omega
    cases hi
    exact ⟨r', hr, hOB⟩
  exact va_get (D := D) (C := r'.1) (T := r'.2.1) (N := r'.2.2) hx hb hts hin hown hK hP 0 rfl hr k.toNat hk hlink (fun _ h9 => h9) (by rw [List.getElem?_map, hv]; rfl) hdg kk
theorem p_obj_set {U : State} {H1 : Heap} {a ci k : Nat} {r : vw_C} {vs : List Value} {v : Value} {cell : Cell} (hb : z.2.2 ≤ a) (hr : vwCl[ci]? = some r) (hlen : vs.length = r.2.2) (hk : k < r.2.2) (q2 : cell.cls = D.1 ci) (q3 : cell.vm = .none) (q4 : ∀ k, k < r.2.2 → cell.slots[D.2 ci k]? = some (vp_V (vs.map (p_rv z)) k)) (hap : ∀ x y, x < r.2.2 → y < r.2.2 → x ≠ y → (D.2 ci) x ≠ (D.2 ci) y)
    (e1 : H1[a]? = some (cell.setSlot (D.2 ci k) (p_rv z v))) : p_cell U z D tys (0, ci, vs.set k v) a H1 := by
  refine Or.inl ⟨rfl, hb, r, hr, by rw [List.length_set]; exact hlen, ?_⟩
  refine t_OB.to (V := updV (vp_V (vs.map (p_rv z))) k (p_rv z v)) ⟨_, e1, q2, q3, t_set q4 hap hk (p_rv z v)⟩ (fun j _ => ?_)
  rw [List.map_set]
  exact vp_updV_set (by rw [List.length_map, hlen]; exact hk) (p_rv z v) j
/-- writing one -/
theorem p_put_ok (hTO : p_TO G MT) (hMO : p_MO MT M) (X : p_X M z D tys p s m args meth c) (hR : p_R s z D tys h H) (hS : va_S (fun q => z.2.2 ≤ q) s.heap H locs) {x a ci : Nat} {k : Int} {vs : List Value} {v : Value} {ty : FieldType} {fin : Bool} (hp : p_pk x 0 M.2.2.2.2.2.1 = some (ci, k)) (ha : h[a]? = some (0, ci, vs))
    (hg : (G[ci]?).bind (fun r => r[k.toNat]?) = some (ty, fin)) (hfit : p_fit ty v = true) (hfin : fin = true → M.2.2.2.2.2.2.1 = true ∧ M.2.2.2.2.2.2.2 = ci) (hkl : k.toNat < vs.length) (hdg : decode M.2.1 pc = .ok (.putfield x, 3))
    (kk : ∀ (H1 : Heap) (locs1 : List Loc), p_R s z D tys (h.set a (0, ci, vs.set k.toNat v)) H1 → va_S (fun q => z.2.2 ≤ q) s.heap H1 locs1 → W p l e R s m args below meth c H1 locs1 cells slots Q (F0 m (pc + 3) rls rest)) : W p l e R s m args below meth c H locs cells slots Q (F0 m pc rls (p_rv z v :: .ref (p_ad z a) :: rest)) := by
  obtain ⟨hx, hb, hml, hown, hts, hnm, hK, hT, hz, hZ⟩ := X
  obtain ⟨hb0, r, hr, hlen, hOB⟩ := hR.obj ha
  obtain ⟨ho, hw⟩ := hMO.2.2.2.1 _ (p_pk_mem hp)
  cases hrow : G[ci]? with
  | none => rw [hrow] at hg; cases hg
  | some row =>
    rw [hrow] at hg
    have hg : row[k.toNat]? = some (ty, fin) := hg
    obtain ⟨r', hr', hrl, hin, hnd, hf⟩ := hTO.1 ci row hrow
    have er : r' = r := Option.some.inj (hr'.symm.trans hr)
    subst er
    have hk : k.toNat < r'.2.2 := by rw [← hlen]; exact hkl
    obtain ⟨f1, f2, f3⟩ := hf _ _ hg
    have hlink : (Cond.fieldLink M.1.cls x (r'.2.1 k.toNat).1 (r'.2.1 k.toNat).2.1 (r'.2.1 k.toNat).2.2.1).before args s = true := hts _ (hw _ (by simp [p_w1, hr]))
    have hty : ∀ j, j < r'.2.2 → parseFieldDescriptor (r'.2.1 j).2.2.1 = some ((row.getD j (.int, false)).1) := by
      intro j hj
      have hj' : j < row.length := by rw [hrl]; exact hj
      have := (hf j _ (List.getElem?_eq_getElem hj')).1
      rw [this, List.getD_eq_getElem?_getD, List.getElem?_eq_getElem hj']
      rfl
    have hap := va_apart (own := M.1.cls) hts hin (fun j => (row.getD j (.int, false)).1) hty hnd hK hr
    simp only [p_fit, Bool.and_eq_true] at hfit
    have hfits : fits ty (p_rv z v) = true := by rw [p_rv_fits]; exact hfit.1
    have hnar : narrow ty (p_rv z v) = p_rv z v := by
      have h1 := hfit.1
      have h2 := hfit.2
      cases v with
      | int x =>
        cases ty with
        | boolean =>
          simp only [fits, Bool.or_eq_true, beq_iff_eq] at h1
          rcases h1 with rfl | rfl <;> rfl
        | int => rfl
        | _ => first | rfl | (simp at h2)
      | _ => cases ty <;> first | rfl | (simp [fits] at h1)
    obtain ⟨cell, q1, q2, q3, q4⟩ := hOB
    obtain ⟨hS1, hfc, kC, hkC, hkind⟩ := hK.1 ci _ hr
    obtain ⟨cf, kf, fi, f, hi, hsl⟩ := hS1 k.toNat hk
    have hlay := hts _ (hin _ (u_in_lay hk))
    unfold u_lay at hlay
    have hst := (u_facts hfc hkC (u_lays hts hin hk) hi).1
    cases hfv : fin with
    | false =>
      rw [if_neg (by rw [f2, hfv]; simp)] at hlay
      have h6 := u_store hfc hkC hkind hlay hi f1 hnar hfits
      refine W.putK hx hb (f := f) ⟨hown, hlink, ⟨_, _, _, hi⟩, hst⟩ (by rw [q2]; exact h6) q1 q3 (by rw [hsl]; exact k2_hasslot (q4 k.toNat hk)) rfl rfl hdg fun H1 e1 e2 e3 => ?_
      rw [hsl] at e1
      exact kk H1 _ (hR.set hb0 e2 e3 (p_obj_set hb0 hr hlen hk q2 q3 q4 hap e1)) (p_put_S hS e2 e3 hb0)
    | true =>
      rw [if_pos (by rw [f2, hfv])] at hlay
      obtain ⟨g1, g2⟩ := hfin hfv
      have hcls : r'.1 = M.1.cls := hMO.2.2.2.2.2.1 r' (by rw [g2]; exact hr)
      have hcf : m.cls = cf := by
        obtain ⟨_, _, c', _, _, _, -, -, hf', -, -, -, hown2, -⟩ := Cond.laysFinal_spec hlay
        have e1 : c' = cf := by have := hi.symm.trans hf'; simp at this; exact this.1.symm
        rw [f3, hcls] at hown2
        rw [← e1]; exact Option.some.inj (hown.symm.trans hown2)
      have h6 := u_fits hfc hkC hkind (Or.inr hlay) hi f1 hnar hfits
      refine W.putFinK hx hb hown hlink hi hst hcf ((hnm g1).trans (hMO.2.2.2.2.1 g1)) (by rw [q2]; exact h6) q1 q3 (by rw [hsl]; exact k2_hasslot (q4 k.toNat hk)) rfl rfl hdg fun H1 e1 e2 e3 => ?_
      rw [hsl] at e1
      exact kk H1 _ (hR.set hb0 e2 e3 (p_obj_set hb0 hr hlen hk q2 q3 q4 hap e1)) (p_put_S hS e2 e3 hb0)
end PO
end
section
/-! Arrays and new cells -/
theorem p_rv_def (z : Nat × Nat × Nat) (t : FieldType) : p_rv z (defaultValue t) = defaultValue t := by cases t <;> rfl
theorem p_mbig {w : Cond} (h1 : w ∈ lw_tbl) (h2 : goodWord w = true) : w ∈ p_big := List.mem_filter.mpr ⟨h1, h2⟩
theorem p_acI : Cond.arrayClass .int ∈ p_big := p_mbig (by decide +kernel) (by decide +kernel)
theorem p_acB : Cond.arrayClass .byte ∈ p_big := p_mbig (by decide +kernel) (by decide +kernel)
theorem p_acL : Cond.arrayClass .long ∈ p_big := p_mbig (by decide +kernel) (by decide +kernel)
theorem p_acZ : Cond.arrayClass .boolean ∈ p_big := p_mbig (by decide +kernel) (by decide +kernel)
theorem p_ty_ok {ty : ArrayType} {t : Nat} (h : p_ty ty = some t) : p_tyF[t]? = some (newarray.typeOf ty) ∧ Cond.arrayClass (newarray.typeOf ty) ∈ p_big ∧ ∀ n : Nat, n ≤ 1000000 → n * componentBytes (newarray.typeOf ty) ≤ 536870912 := by
  cases ty <;> simp only [p_ty, reduceCtorEq, Option.some.injEq] at h <;> subst h
  · exact ⟨rfl, p_acZ, fun n hn => by show n * 1 ≤ _; omega⟩
  · exact ⟨rfl, p_acB, fun n hn => by show n * 1 ≤ _; omega⟩
  · exact ⟨rfl, p_acI, fun n hn => by show n * 4 ≤ _; omega⟩
  · exact ⟨rfl, p_acL, fun n hn => by show n * 8 ≤ _; omega⟩
section PA
variable {p : Program} {l : Launch} {e : Env} {R : Room} {s : State} {m : MethodId} {args : Array Value} {below : List Frame} {meth : Method} {c : Code} {H : Heap} {locs : List Loc} {cells slots : Nat} {Q : State → Prop}
variable {G : p_G} {MT : List p_M} {M : p_M} {z : Nat × Nat × Nat} {D : va_G} {tys : List (ClassId × FieldType)} {h : p_H} {pc : Nat} {rls : Array Slot} {rest : List Value}
theorem p_new_ok (hTO : p_TO G MT) (hMO : p_MO MT M) (X : p_X M z D tys p s m args meth c) (hR : p_R s z D tys h H) (hS : va_S (fun q => z.2.2 ≤ q) s.heap H locs) {x ci : Nat} {b : Int} {row : List (FieldType × Bool)} (hp : p_pk x 2 M.2.2.2.2.2.1 = some (ci, b)) (hrow : G[ci]? = some row) (hc : cells + 1 ≤ R.cells) (hsl : slots + row.length ≤ R.slots) (hdg : decode M.2.1 pc = .ok (.new x, 3))
    (kk : ∀ (H1 : Heap), p_R s z D tys (h ++ [(0, ci, row.map (fun q => defaultValue q.1))]) H1 → va_S (fun q => z.2.2 ≤ q) s.heap H1 locs → W p l e R s m args below meth c H1 locs (cells + 1) (slots + row.length) Q (F0 m (pc + 3) rls (.ref (p_ad z h.length) :: rest))) : W p l e R s m args below meth c H locs cells slots Q (F0 m pc rls rest) := by
  obtain ⟨hx, hb, hml, hown, hts, hnm, hK, hT, hz, hZ⟩ := X
  obtain ⟨ho, hw⟩ := hMO.2.2.2.1 _ (p_pk_mem hp)
  obtain ⟨r, hr, hrl, hin, hnd, hf⟩ := hTO.1 ci row hrow
  have h1 : (Cond.classLink M.1.cls x r.1).before args s = true := hts _ (hw _ (by simp [p_w1, hr]))
  have h2 : (Cond.instantiable r.1 r.2.2).before args s = true := hts _ (hw _ (by simp [p_w1, hr]))
  have h3 : (Cond.initialized r.1).before args s = true := hts _ (hw _ (by simp [p_w1, hr]))
  have hKn := hK.1 ci _ hr
  refine W.newcK hx hb hown h1 h2 h3 rfl hdg hc (by rw [← hrl]; exact hsl) hKn.2.1 rfl fun H1 kC hkC e1 e2 e3 => ?_
  have hty : ∀ j, j < r.2.2 → parseFieldDescriptor (r.2.1 j).2.2.1 = some ((row.getD j (.int, false)).1) := by
    intro j hj
    have hj' : j < row.length := by rw [hrl]; exact hj
    have := (hf j _ (List.getElem?_eq_getElem hj')).1
    rw [this, List.getD_eq_getElem?_getD, List.getElem?_eq_getElem hj']
    rfl
  have hOB := u_born (fun j => (row.getD j (.int, false)).1) hts hin hKn hkC e1 hty
  have hadr := hR.len
  have hb0 : z.2.2 ≤ p_ad z h.length := by rw [p_ad_len hR.2.2.1]; omega
  have hcell : p_cell s z D tys (0, ci, row.map (fun q => defaultValue q.1)) (p_ad z h.length) H1 := by
    refine Or.inl ⟨rfl, hb0, r, hr, by rw [List.length_map]; exact hrl, ?_⟩
    rw [hadr]
    refine t_OB.to hOB (fun k hk => ?_)
    have hk' : k < row.length := by rw [hrl]; exact hk
    simp [vp_V, List.getD_eq_getElem?_getD, List.getElem?_eq_getElem hk', p_rv_def]
  have := kk H1 (hR.push e2 e3 hcell) (p_push_S hS e2 e3)
  rw [hadr, hrl] at this
  exact this
theorem p_newa_ok (X : p_X M z D tys p s m args meth c) (hR : p_R s z D tys h H) (hS : va_S (fun q => z.2.2 ≤ q) s.heap H locs) {ty : ArrayType} {t : Nat} {n : Int32} (ht : p_ty ty = some t) (hn : ¬ n < 0) (hn2 : n.toNatClampNeg ≤ 1000000) (hc : cells + 1 ≤ R.cells) (hsl : slots + n.toNatClampNeg ≤ R.slots) (hdg : decode M.2.1 pc = .ok (.newarray ty, 2))
    (kk : ∀ (H1 : Heap), p_R s z D tys (h ++ [(1, t, List.replicate n.toNatClampNeg (defaultValue (newarray.typeOf ty)))]) H1 → va_S (fun q => z.2.2 ≤ q) s.heap H1 locs → W p l e R s m args below meth c H1 locs (cells + 1) (slots + n.toNatClampNeg) Q (F0 m (pc + 2) rls (.ref (p_ad z h.length) :: rest))) : W p l e R s m args below meth c H locs cells slots Q (F0 m pc rls (.int n :: rest)) := by
  obtain ⟨hx, hb, hml, hown, hts, hnm, hK, hT, hz, hZ⟩ := X
  obtain ⟨t1, t2, t3⟩ := p_ty_ok ht
  obtain ⟨cB, hcB⟩ := hT.at t1
  have hRA := (hK.2 t _ hcB).2
  refine W.newa hx hb (hts _ t2) rfl hdg rfl hn (t3 _ hn2) hc hsl fun cA kA comp f1 f2 f3 => ?_
  have ecA : cA = cB := by
    have h5 : s.vm.findClass ("[" ++ (newarray.typeOf ty).toString) = some cB := by
      cases ty <;> first | exact hRA | (simp [p_ty] at ht)
    exact Option.some.inj (f1.symm.trans h5)
  subst ecA
  have hadr := hR.len
  have hb0 : z.2.2 ≤ p_ad z h.length := by rw [p_ad_len hR.2.2.1]; omega
  generalize hH1 : H.push ({ cls := cA, slots := Array.replicate n.toNatClampNeg (defaultValue (newarray.typeOf ty)), vm := .none } : Cell) = H1
  have z1 : H1.size = H.size + 1 := by rw [← hH1, Array.size_push]
  have e1 : H1[H.size]? = some (arrV cA n.toNatClampNeg (fun _ => defaultValue (newarray.typeOf ty))) := by rw [← hH1, Array.getElem?_push_size, ← arrV_new]
  have o1 : ∀ q : Nat, q < H.size → H1[q]? = H[q]? := fun q hq => by rw [← hH1, Array.getElem?_push, if_neg (Nat.ne_of_lt hq)]
  have hcell : p_cell s z D tys (1, t, List.replicate n.toNatClampNeg (defaultValue (newarray.typeOf ty))) (p_ad z h.length) H1 := by
    refine Or.inr (Or.inl ⟨rfl, hb0, _, hcB, ?_⟩)
    rw [hadr, e1]
    show some (arrV cA n.toNatClampNeg _) = some (arrV cA (List.replicate n.toNatClampNeg _).length _)
    rw [List.length_replicate]
    congr 1
    have hgen : ∀ f g : Nat → Value, (∀ j, j < n.toNatClampNeg → f j = g j) → arrV cA n.toNatClampNeg f = arrV cA n.toNatClampNeg g := by
      intro f g hfg
      have : (Array.ofFn (n := n.toNatClampNeg) fun j => f j.val) = Array.ofFn (n := n.toNatClampNeg) fun j => g j.val := by
        congr 1
        funext j
        exact hfg j.val j.isLt
      show ({ cls := cA, slots := Array.ofFn (n := n.toNatClampNeg) fun j => f j.val, vm := .none } : Cell) = _
      rw [this]; rfl
    refine hgen _ _ (fun j hj => ?_)
    simp [List.getD_eq_getElem?_getD, hj, p_rv_def]
  have := kk H1 (hR.push z1 o1 hcell) (p_push_S hS z1 o1)
  rw [hadr] at this
  exact this
theorem p_newt_ok (hMO : p_MO MT M) (X : p_X M z D tys p s m args meth c) (hR : p_R s z D tys h H) (hS : va_S (fun q => z.2.2 ≤ q) s.heap H locs) {x : Nat} {u : Nat × Int} {n : Int32} (hp : p_pk x 5 M.2.2.2.2.2.1 = some u) (hn : ¬ n < 0) (hn2 : n.toNatClampNeg ≤ 1000000) (hc : cells + 1 ≤ R.cells) (hsl : slots + n.toNatClampNeg ≤ R.slots) (hdg : decode M.2.1 pc = .ok (.anewarray x, 3))
    (kk : ∀ (H1 : Heap), p_R s z D tys (h ++ [(1, 4, List.replicate n.toNatClampNeg .null)]) H1 → va_S (fun q => z.2.2 ≤ q) s.heap H1 locs → W p l e R s m args below meth c H1 locs (cells + 1) (slots + n.toNatClampNeg) Q (F0 m (pc + 3) rls (.ref (p_ad z h.length) :: rest))) : W p l e R s m args below meth c H locs cells slots Q (F0 m pc rls (.int n :: rest)) := by
  obtain ⟨hx, hb, hml, hown, hts, hnm, hK, hT, hz, hZ⟩ := X
  obtain ⟨ho, hw⟩ := hMO.2.2.2.1 _ (p_pk_mem hp)
  have h1 : (Cond.classLink M.1.cls x "CutInMay$Text").before args s = true := hts _ (hw _ (by simp [p_w1]))
  have h2 : (Cond.arrayOver (.object "CutInMay$Text")).before args s = true := hts _ (hw _ (by simp [p_w1]))
  obtain ⟨cB, hcB⟩ := hT.at (t := 4) rfl
  have hRA := (hK.2 4 _ hcB).2
  refine W.anew hx hb hown h1 h2 rfl hdg rfl hn (by omega) hc hsl fun cA kA comp f1 f2 f3 f4 => ?_
  have ecA : cA = cB := by
    obtain ⟨_, _, -, -, -, h5⟩ := hRA
    exact Option.some.inj (f1.symm.trans h5)
  subst ecA
  have hadr := hR.len
  have hb0 : z.2.2 ≤ p_ad z h.length := by rw [p_ad_len hR.2.2.1]; omega
  generalize hH1 : H.push ({ cls := cA, slots := Array.replicate n.toNatClampNeg .null, vm := .none } : Cell) = H1
  have z1 : H1.size = H.size + 1 := by rw [← hH1, Array.size_push]
  have e1 : H1[H.size]? = some (arrV cA n.toNatClampNeg (fun _ => .null)) := by rw [← hH1, Array.getElem?_push_size, ← arrV_new]
  have o1 : ∀ q : Nat, q < H.size → H1[q]? = H[q]? := fun q hq => by rw [← hH1, Array.getElem?_push, if_neg (Nat.ne_of_lt hq)]
  have hcell : p_cell s z D tys (1, 4, List.replicate n.toNatClampNeg .null) (p_ad z h.length) H1 := by
    refine Or.inr (Or.inl ⟨rfl, hb0, _, hcB, ?_⟩)
    rw [hadr, e1]
    show some (arrV cA n.toNatClampNeg _) = some (arrV cA (List.replicate n.toNatClampNeg _).length _)
    rw [List.length_replicate]
    congr 2
    funext j
    simp only [List.getD_eq_getElem?_getD, List.getElem?_replicate]
    split <;> rfl
  have := kk H1 (hR.push z1 o1 hcell) (p_push_S hS z1 o1)
  rw [hadr] at this
  exact this
theorem p_copy_ok (hMO : p_MO MT M) (X : p_X M z D tys p s m args meth c) (hR : p_R s z D tys h H) (hS : va_S (fun q => z.2.2 ≤ q) s.heap H locs) (hl : rls.size = M.2.2.1) {x : Nat} {u : Nat × Int} (hp : p_pk x 7 M.2.2.2.2.2.1 = some u) {n dp sp : Int32} {s0 d : Nat} {vs ws : List Value} (h0 : h[s0]? = some (1, 0, vs)) (h1 : h[d]? = some (1, 0, ws))
    (c1 : ¬ sp < 0) (c2 : ¬ dp < 0) (c3 : ¬ n < 0) (c4 : sp.toNatClampNeg + n.toNatClampNeg ≤ vs.length) (c5 : dp.toNatClampNeg + n.toNatClampNeg ≤ ws.length) (c6 : ((vs.drop sp.toNatClampNeg).take n.toNatClampNeg).all (fits .int) = true) (c7 : (rest.map fun v => v.category).sum ≤ 8) (hfr : 1 ≤ R.frames) (hlo : 60 ≤ R.locals) (hdg : decode M.2.1 pc = .ok (.invokestatic x, 3))
    (kk : ∀ (H1 : Heap) (locs1 : List Loc), p_R s z D tys (h.set d (1, 0, p_cpy vs ws sp.toNatClampNeg dp.toNatClampNeg n.toNatClampNeg)) H1 → va_S (fun q => z.2.2 ≤ q) s.heap H1 locs1 → W p l e R s m args below meth c H1 locs1 cells slots Q (F0 m (pc + 3) rls rest)) : W p l e R s m args below meth c H locs cells slots Q (F0 m pc rls (.int n :: .int dp :: .ref (p_ad z d) :: .int sp :: .ref (p_ad z s0) :: rest)) := by
  obtain ⟨hx, hb, hml, hown, hts, hnm, hK, hT, hz, hZ⟩ := X
  obtain ⟨ho, hw⟩ := hMO.2.2.2.1 _ (p_pk_mem hp)
  have w1 : (Cond.methodLink M.1.cls x arraycopyName).before args s = true := hts _ (hw _ (by simp [p_w1]))
  have w2 : (Cond.native arraycopyName).before args s = true := hts _ (hw _ (by simp [p_w1]))
  have w3 : (Cond.static arraycopyName).before args s = true := hts _ (hw _ (by simp [p_w1]))
  have w4 : (Cond.initialized "java/lang/System").before args s = true := hts _ (hw _ (by simp [p_w1]))
  obtain ⟨hb0, q0, t0, e0⟩ := hR.arr h0
  obtain ⟨hb1, q1, t1, e1⟩ := hR.arr h1
  have eq : q1 = q0 := Option.some.inj (t1.symm.trans t0)
  subst eq
  have ety : q1.2 = .int := hT.is t1 rfl
  have nn : ∀ z : Int32, ¬ z < 0 → z.toInt = (z.toNatClampNeg : Int) := by
    intro z hz
    have hz0 : (0 : Int) ≤ z.toInt := by
      have := Int32.not_lt.mp hz
      simpa using Int32.le_iff_toInt_le.mp this
    show z.toInt = ((z.toInt.toNat : Nat) : Int)
    omega
  intro T hT0 X0
  obtain ⟨-, k0, hk0, cm0, hkk0⟩ := (hK.2 0 _ t1).1 vs.length (fun j => p_rv z (vs.getD j .null))
  rw [ety] at hkk0
  obtain ⟨vm', X', step⟩ := X0.arraycopy hx hown w1 w2 w3 w4 (src := p_ad z s0) (dst := p_ad z d) (cs := arrV q1.1 vs.length (fun j => p_rv z (vs.getD j .null))) (cd := arrV q1.1 ws.length (fun j => p_rv z (ws.getD j .null))) (srcPos := sp) (destPos := dp) (n := n) (by rw [hT0]; exact e0) (by rw [hT0]; exact e1)
    (fun _ h => by cases h) (fun _ h => by cases h) (fun h => by cases h) (fun h => by cases h) hk0 hk0 hkk0 hkk0 (by decide) c1 c2 c3
    (by rw [nn sp c1, nn n c3, arrV_size]; omega)
    (by rw [nn dp c2, nn n c3, arrV_size]; omega)
    (fun vm₁ _ i hi => by
      have hlt : sp.toNatClampNeg + i < vs.length := by omega
      have e2 : (arrV q1.1 vs.length (fun j => p_rv z (vs.getD j .null))).slots.getD (sp.toNatClampNeg + i) .null = p_rv z vs[sp.toNatClampNeg + i] := by
        rw [Array.getD_eq_getD_getElem?, arrV_read _ _ hlt]
        simp [List.getD_eq_getElem?_getD, hlt]
      have hf : fits .int vs[sp.toNatClampNeg + i] = true := by
        refine List.all_eq_true.mp c6 _ ?_
        refine List.mem_of_getElem? (i := i) ?_
        rw [List.getElem?_take, if_pos hi, List.getElem?_drop, List.getElem?_eq_getElem hlt]
      rw [e2]
      cases hv : vs[sp.toNatClampNeg + i] with
      | int y => exact ⟨rfl, trivial⟩
      | _ => rw [hv] at hf; simp [fits] at hf)
    (g := F0 m pc rls (.int n :: .int dp :: .ref (p_ad z d) :: .int sp :: .ref (p_ad z s0) :: rest)) rfl (by rw [hml]; exact hl) (rest := rest) rfl (by rw [hb]; exact hdg) hfr (by
      have hn : nativeFrameWords "java/lang/System" "arraycopy" 5 + 11 ≤ 52 := by decide +kernel
      show 2 * 0 + _ + _ ≤ _; omega)
  have e3 : copied (arrV q1.1 vs.length (fun j => p_rv z (vs.getD j .null))) (arrV q1.1 ws.length (fun j => p_rv z (ws.getD j .null))) sp dp n = arrV q1.1 ws.length (va_cpy (fun j => p_rv z (vs.getD j .null)) (fun j => p_rv z (ws.getD j .null)) sp.toNatClampNeg dp.toNatClampNeg n.toNatClampNeg) := va_copied (fun z => z) q1.1 q1.1 (fun j => p_rv z (vs.getD j .null)) (fun j => p_rv z (ws.getD j .null)) c4
  rw [e3] at X' step
  have hlt : p_ad z d < H.size := (Array.getElem?_eq_some_iff.mp e1).1
  generalize hcv : arrV q1.1 ws.length (va_cpy (fun j => p_rv z (vs.getD j .null)) (fun j => p_rv z (ws.getD j .null)) sp.toNatClampNeg dp.toNatClampNeg n.toNatClampNeg) = cv at X' step
  have hheap : ((T.setVm vm').setCell (p_ad z d) cv).heap = H.setIfInBounds (p_ad z d) cv := by rw [← hT0]; rfl
  have oq : ∀ q : Nat, q ≠ p_ad z d → (H.setIfInBounds (p_ad z d) cv)[q]? = H[q]? := fun q hq => by simp [Array.getElem?_setIfInBounds, Ne.symm hq]
  have hcell : p_cell s z D tys (1, 0, p_cpy vs ws sp.toNatClampNeg dp.toNatClampNeg n.toNatClampNeg) (p_ad z d) (H.setIfInBounds (p_ad z d) cv) := by
    refine Or.inr (Or.inl ⟨rfl, hb1, _, t1, ?_⟩)
    have hlen : (p_cpy vs ws sp.toNatClampNeg dp.toNatClampNeg n.toNatClampNeg).length = ws.length := by
      simp only [p_cpy, List.length_append, List.length_take, List.length_drop]; omega
    show (H.setIfInBounds (p_ad z d) cv)[p_ad z d]? = some (arrV q1.1 (p_cpy vs ws sp.toNatClampNeg dp.toNatClampNeg n.toNatClampNeg).length _)
    rw [hlen, ← hcv]
    simp only [Array.getElem?_setIfInBounds, hlt, if_true]
    congr 1
    have hgen : ∀ f g : Nat → Value, (∀ j, j < ws.length → f j = g j) → arrV q1.1 ws.length f = arrV q1.1 ws.length g := by
      intro f g hfg
      have : (Array.ofFn (n := ws.length) fun j => f j.val) = Array.ofFn (n := ws.length) fun j => g j.val := by
        congr 1
        funext j
        exact hfg j.val j.isLt
      show ({ cls := q1.1, slots := Array.ofFn (n := ws.length) fun j => f j.val, vm := .none } : Cell) = _
      rw [this]; rfl
    refine hgen _ _ (fun j hj => ?_)
    simp only [va_cpy, p_cpy, List.getD_eq_getElem?_getD]
    by_cases g1 : j < dp.toNatClampNeg
    · rw [if_neg (by omega), List.getElem?_append_left (by rw [List.length_take]; omega), List.getElem?_take, if_pos g1]
    · have hlt2 : (ws.take dp.toNatClampNeg).length = dp.toNatClampNeg := by rw [List.length_take]; omega
      have hlt3 : ((vs.drop sp.toNatClampNeg).take n.toNatClampNeg).length = n.toNatClampNeg := by rw [List.length_take, List.length_drop]; omega
      rw [List.getElem?_append_right (by omega), hlt2]
      by_cases g2 : j < dp.toNatClampNeg + n.toNatClampNeg
      · rw [if_pos ⟨by omega, g2⟩, List.getElem?_append_left (by omega), List.getElem?_take, if_pos (by omega), List.getElem?_drop]
      · rw [if_neg (by omega), List.getElem?_append_right (by omega), hlt3, List.getElem?_drop]
        congr 3
        omega
  obtain ⟨t, a1, b1⟩ := kk _ _ (hR.set hb1 (by simp) oq hcell) ⟨by simp; exact hS.1, fun q g1 g2 => by
      rw [oq q (fun e => g2 (by rw [e]; exact hb1))]
      exact hS.2.1 q g1 g2, fun q hq => by
      rcases List.mem_append.mp hq with g | g
      · exact hS.2.2 q g
      · obtain ⟨y, -, hy⟩ := List.mem_map.mp g
        rw [← hy]
        exact hb1⟩ _ hheap X'
  exact ⟨t, step t a1, b1⟩
theorem p_cast_ok (hMO : p_MO MT M) (X : p_X M z D tys p s m args meth c) (hR : p_R s z D tys h H) {x a : Nat} {u : Nat × Int} {vs : List Value} (hp : p_pk x 13 M.2.2.2.2.2.1 = some u) (ha : h[a]? = some (1, 0, vs)) (hdg : decode M.2.1 pc = .ok (.checkcast x, 3))
    (kk : W p l e R s m args below meth c H locs cells slots Q (F0 m (pc + 3) rls (.ref (p_ad z a) :: rest))) : W p l e R s m args below meth c H locs cells slots Q (F0 m pc rls (.ref (p_ad z a) :: rest)) := by
  obtain ⟨hx, hb, hml, hown, hts, hnm, hK, hT, hz, hZ⟩ := X
  obtain ⟨ho, hw⟩ := hMO.2.2.2.1 _ (p_pk_mem hp)
  have w1 : (Cond.classLink M.1.cls x "[I").before args s = true := hts _ (hw _ (by simp [p_w1]))
  obtain ⟨hb0, q0, t0, e0⟩ := hR.arr ha
  have ety : q0.2 = .int := hT.is t0 rfl
  have hRA : va_RA s q0.1 .int := ety ▸ (hK.2 0 _ t0).2
  have hfc := va_nm_int hRA
  intro T hT0 X0
  obtain ⟨vm', X', st⟩ := X0.checkcastYes hx hown w1 (by rw [hT0]; exact e0) rfl hfc (va_asg _ _) (g := F0 m pc rls (.ref (p_ad z a) :: rest)) rfl rfl (by rw [hb]; exact hdg)
  obtain ⟨t, a1, b1⟩ := kk (T.setVm vm') hT0 X'
  exact ⟨t, st t a1, b1⟩
theorem p_clone_ok (hMO : p_MO MT M) (X : p_X M z D tys p s m args meth c) (hR : p_R s z D tys h H) (hS : va_S (fun q => z.2.2 ≤ q) s.heap H locs) (hl : rls.size = M.2.2.1) {x a : Nat} {u : Nat × Int} {vs : List Value} (hp : p_pk x 12 M.2.2.2.2.2.1 = some u) (ha : h[a]? = some (1, 0, vs)) (hall : vs.all (fits .int) = true) (c7 : (rest.map fun v => v.category).sum ≤ 8) (hfr : 1 ≤ R.frames) (hlo : 60 ≤ R.locals) (hc : cells + 1 ≤ R.cells) (hsl : slots + vs.length ≤ R.slots) (hdg : decode M.2.1 pc = .ok (.invokevirtual x, 3))
    (kk : ∀ (H1 : Heap), p_R s z D tys (h ++ [(1, 0, vs)]) H1 → va_S (fun q => z.2.2 ≤ q) s.heap H1 locs → W p l e R s m args below meth c H1 locs (cells + 1) (slots + vs.length) Q (F0 m (pc + 3) rls (.ref (p_ad z h.length) :: rest))) : W p l e R s m args below meth c H locs cells slots Q (F0 m pc rls (.ref (p_ad z a) :: rest)) := by
  obtain ⟨hx, hb, hml, hown, hts, hnm, hK, hT, hz, hZ⟩ := X
  obtain ⟨ho, hw⟩ := hMO.2.2.2.1 _ (p_pk_mem hp)
  have w1 := hts (.methodLink M.1.cls x ⟨"[I", "clone", "()Ljava/lang/Object;"⟩) (hw _ (by simp [p_w1]))
  have w2 := hts (.sameMethod "[I" "java/lang/Object" "clone" "()Ljava/lang/Object;") (hw _ (by simp [p_w1]))
  have w3 := hts (.native ⟨"java/lang/Object", "clone", "()Ljava/lang/Object;"⟩) (hw _ (by simp [p_w1]))
  have w4 := hts (.instanceMethod ⟨"java/lang/Object", "clone", "()Ljava/lang/Object;"⟩) (hw _ (by simp [p_w1]))
  have w5 := hts (.selects "[I" ⟨"[I", "clone", "()Ljava/lang/Object;"⟩ ⟨"java/lang/Object", "clone", "()Ljava/lang/Object;"⟩) (hw _ (by simp [p_w1]))
  have w6 : (Cond.castable "[I" "java/lang/Cloneable").before args s = true := va_Nw.use rfl hZ.2.2
  obtain ⟨hb0, q0, t0, e0⟩ := hR.arr ha
  have ety : q0.2 = .int := hT.is t0 rfl
  have hRA : va_RA s q0.1 .int := ety ▸ (hK.2 0 _ t0).2
  have hfc := va_nm_int hRA
  obtain ⟨c0, t0', f1, f2, f3⟩ := Cond.castable_spec w6
  cases hfc.symm.trans f1
  have hArr : ArrOfT s q0.1 .int := ety ▸ (hK.2 0 _ t0).1
  generalize hF : (fun j => p_rv z (vs.getD j .null)) = F at e0
  have hfit : ∀ (i : Nat) (v : Value), (arrV q0.1 vs.length F).slots[i]? = some v → fits .int v = true := by
    refine va_fit (fun i hi => ?_)
    rw [← hF]
    show fits .int (p_rv z (vs.getD i .null)) = true
    rw [p_rv_fits, List.getD_eq_getElem?_getD, List.getElem?_eq_getElem hi]
    exact List.all_eq_true.mp hall _ (List.getElem_mem hi)
  intro T hT0 X0
  have hcellT : T.heap[p_ad z a]? = some (arrV q0.1 vs.length F) := by rw [hT0]; exact e0
  obtain ⟨-, kA, hkA, comp, hkind⟩ := State.isArrayOf_alike X0.warmed.alike (hArr 0 (fun _ => .null))
  obtain ⟨-, kS, hkS, compS, hkindS⟩ := hArr 0 (fun _ => .null)
  obtain ⟨vm', X', st⟩ := X0.cloneArray hx hown w1 w2 w3 w4 w5 (a := p_ad z a) (cell := arrV q0.1 vs.length F) hcellT (fun k h => by cases h) (fun h => by cases h) hfc f2 f3
    (fun i v hv => by
      have hk' : T.vm.classes[q0.1]? = some kA := hkA
      show T.fitsSlot q0.1 _ i v = true
      simpa [State.fitsSlot, State.slotType?, hk', hkind] using hfit i v hv)
    (g := F0 m pc rls (.ref (p_ad z a) :: rest)) rfl (by rw [hml]; exact hl) rfl (by rw [hb]; exact hdg) hfr (by show 2 * 0 + _ + 14 ≤ _; omega) hc (by rw [arrV_size]; exact hsl) (hloader := Vm.clonesLoader_of_array hkS hkindS)
  rw [arrV_size] at X'
  have hcellE : ({ cls := (arrV q0.1 vs.length F).cls, slots := (arrV q0.1 vs.length F).slots } : Cell) = arrV q0.1 vs.length F := rfl
  rw [hcellE] at X' st
  have hadr := hR.len
  generalize hH1 : H.push (arrV q0.1 vs.length F) = H1
  have z1 : H1.size = H.size + 1 := by rw [← hH1, Array.size_push]
  have e1 : H1[H.size]? = some (arrV q0.1 vs.length F) := by rw [← hH1, Array.getElem?_push_size]
  have o1 : ∀ q : Nat, q < H.size → H1[q]? = H[q]? := fun q hq => by rw [← hH1, Array.getElem?_push, if_neg (Nat.ne_of_lt hq)]
  have hcell : p_cell s z D tys (1, 0, vs) (p_ad z h.length) H1 := by
    refine Or.inr (Or.inl ⟨rfl, by rw [p_ad_len hR.2.2.1]; omega, _, t0, ?_⟩)
    rw [hadr, e1, ← hF]
  obtain ⟨t, b1, b2⟩ := kk H1 (hR.push z1 o1 hcell) (p_push_S hS z1 o1) ((T.setVm vm').pushCell (arrV q0.1 vs.length F)) (by rw [← hH1, ← hT0]; rfl) X'
  refine ⟨t, st t ?_, b2⟩
  rw [hT0, ← hadr]
  exact b1
end PA
end
section
/-! One step of the pure machine that is no call and no return, over the machine -/
section PN
variable {p : Program} {l : Launch} {e : Env} {R : Room} {s : State} {m : MethodId} {args : Array Value} {below : List Frame} {meth : Method} {c : Code} {H : Heap} {locs : List Loc} {cells slots : Nat} {Q : State → Prop}
variable {G : p_G} {MT : List p_M} {M : p_M} {z : Nat × Nat × Nat} {D : va_G} {tys : List (ClassId × FieldType)} {h h1 : p_H} {pc pc1 : Nat} {rls : Array Slot} {ls ls1 : p_Ls} {st st1 : List Value}
/-- where the machine then stands -/
def p_Nx (M : p_M) (z : Nat × Nat × Nat) (D : va_G) (tys : List (ClassId × FieldType)) (p : Program) (l : Launch) (e : Env) (R : Room) (s : State) (m : MethodId) (args : Array Value) (below : List Frame) (meth : Method) (c : Code) (cells slots : Nat) (Q : State → Prop) (h : p_H) (pc1 : Nat) (ls1 : p_Ls) (st1 : List Value) (h1 : p_H) : Prop :=
  ∀ (rls1 : Array Slot) (H1 : Heap) (locs1 : List Loc), p_R s z D tys h1 H1 → va_S (fun q => z.2.2 ≤ q) s.heap H1 locs1 → lv_has rls1 M.2.2.1 (ls1.map (p_rq z)) → W p l e R s m args below meth c H1 locs1 (cells + (h1.length - h.length)) (slots + (p_sl h1 - p_sl h)) Q (F0 m pc1 rls1 (st1.map (p_rv z)))
theorem p_go_eq {pc pc1 : Nat} {ls ls1 : p_Ls} {st st1 : List Value} {h h1 : p_H} (hs : p_go pc ls st h = some (.inl (pc1, ls1, st1, h1))) : pc = pc1 ∧ ls = ls1 ∧ st = st1 ∧ h = h1 := by
  simp only [p_go, Option.some.injEq, Sum.inl.injEq, Prod.mk.injEq] at hs
  exact hs
theorem p_jm_eq {pc pc1 : Nat} {off : Int} {ls ls1 : p_Ls} {st st1 : List Value} {h h1 : p_H} (hs : p_jm pc off ls st h = some (.inl (pc1, ls1, st1, h1))) : (pc : Int) + off = (pc1 : Int) ∧ ls = ls1 ∧ st = st1 ∧ h = h1 := by
  simp only [p_jm] at hs
  split at hs
  · next t ht =>
    obtain ⟨rfl, h2⟩ := p_go_eq hs
    exact ⟨p_tg_eq ht, h2⟩
  · cases hs
/-- nothing of the heap has changed -/
theorem p_Nx.same (kk : p_Nx M z D tys p l e R s m args below meth c cells slots Q h pc1 ls1 st1 h) (hR : p_R s z D tys h H) (hS : va_S (fun q => z.2.2 ≤ q) s.heap H locs) : ∀ rls1 : Array Slot, lv_has rls1 M.2.2.1 (ls1.map (p_rq z)) → W p l e R s m args below meth c H locs cells slots Q (F0 m pc1 rls1 (st1.map (p_rv z))) := by
  intro rls1 hl
  have := kk rls1 H locs hR hS hl
  rw [Nat.sub_self, Nat.sub_self] at this
  exact this
theorem p_Nx.put {a : Nat} {c0 c1 : p_C} (kk : p_Nx M z D tys p l e R s m args below meth c cells slots Q h pc1 ls1 st1 (h.set a c1)) (ha : h[a]? = some c0) (hl0 : c1.2.2.length = c0.2.2.length) (hl : lv_has rls M.2.2.1 (ls1.map (p_rq z))) : ∀ (H1 : Heap) (locs1 : List Loc), p_R s z D tys (h.set a c1) H1 → va_S (fun q => z.2.2 ≤ q) s.heap H1 locs1 → W p l e R s m args below meth c H1 locs1 cells slots Q (F0 m pc1 rls (st1.map (p_rv z))) := by
  intro H1 locs1 hR hS
  have := kk rls H1 locs1 hR hS hl
  rw [List.length_set, Nat.sub_self, p_sl_set ha hl0, Nat.sub_self] at this
  exact this
theorem p_Nx.new {c1 : p_C} {n : Nat} (kk : p_Nx M z D tys p l e R s m args below meth c cells slots Q h pc1 ls1 st1 (h ++ [c1])) (hn : c1.2.2.length = n) (hl : lv_has rls M.2.2.1 (ls1.map (p_rq z))) : ∀ (H1 : Heap), p_R s z D tys (h ++ [c1]) H1 → va_S (fun q => z.2.2 ≤ q) s.heap H1 locs → W p l e R s m args below meth c H1 locs (cells + 1) (slots + n) Q (F0 m pc1 rls (st1.map (p_rv z))) := by
  intro H1 hR hS
  have := kk rls H1 locs hR hS hl
  rw [p_sl_app, hn] at this
  simp only [List.length_append, List.length_cons, List.length_nil, Nat.add_sub_cancel_left, Nat.zero_add] at this
  exact this
theorem p_al_ok (X : p_X M z D tys p s m args meth c) (hR : p_R s z D tys h H) {t1 t2 : Nat} {i : Int32} {a : Nat} {pc' : Nat} (hs : p_al t1 t2 i a pc' ls st h = some (.inl (pc1, ls1, st1, h1))) : pc' = pc1 ∧ ls = ls1 ∧ h = h1 ∧ ∃ (t : Nat) (v : Value), (t = t1 ∨ t = t2) ∧ st1 = v :: st ∧ ∀ ty, p_tyF[t]? = some ty → ∃ cell : Cell, H[p_ad z a]? = some cell ∧ s.isArrayOf cell ty ∧ cell.vm ≠ .unknown ∧ ¬ (i < 0 ∨ cell.slots.size ≤ i.toNatClampNeg) ∧ cell.slots[i.toNatClampNeg]? = some (p_rv z v) := by
  obtain ⟨hx, hb, hml, hown, hts, hnm, hK, hT, hz, hZ⟩ := X
  simp only [p_al] at hs
  split at hs
  · next sort t vs ha =>
    split at hs
    · next hc =>
      split at hs
      · next v hv =>
        obtain ⟨rfl, rfl, rfl, rfl⟩ := p_go_eq hs
        rw [Bool.and_eq_true, Bool.or_eq_true, Bool.or_eq_true] at hc
        obtain ⟨n1, n2, n3⟩ := p_ixT hv
        have hsort : sort = 1 ∨ sort = 2 := hc.2.elim (fun q => Or.inl (Nat.eq_of_beq_eq_true q)) (fun q => Or.inr (Nat.eq_of_beq_eq_true q))
        refine ⟨rfl, rfl, rfl, t, v, hc.1.elim (fun q => Or.inl (Nat.eq_of_beq_eq_true q)) (fun q => Or.inr (Nat.eq_of_beq_eq_true q)), rfl, fun ty hty => ?_⟩
        obtain ⟨cell, g1, g2, g3, g4, g5⟩ := hR.any hK hT ha hsort hty
        exact ⟨cell, g1, g2, g3, fun q => q.elim n1 (fun q => by omega), g5 _ _ n3⟩
      · cases hs
    · cases hs
  · cases hs
theorem p_as_ok (X : p_X M z D tys p s m args meth c) (hR : p_R s z D tys h H) (hS : va_S (fun q => z.2.2 ≤ q) s.heap H locs) (hl : lv_has rls M.2.2.1 (ls.map (p_rq z))) {t : Nat} {x : Value} {i : Int32} {a : Nat} {pc' : Nat} (hs : p_as t x i a pc' ls st h = some (.inl (pc1, ls1, st1, h1))) (kk : p_Nx M z D tys p l e R s m args below meth c cells slots Q h pc1 ls1 st1 h1) {ty : FieldType} (hty : p_tyF[t]? = some ty) :
    ∃ (cA : ClassId) (n : Nat) (f : Nat → Value), H[p_ad z a]? = some (arrV cA n f) ∧ tys[t]? = some (cA, ty) ∧ ¬ i < 0 ∧ i.toNatClampNeg < n ∧ ∀ (H1 : Heap), H1[p_ad z a]? = some ((arrV cA n f).setSlot i.toNatClampNeg (p_rv z x)) → H1.size = H.size → (∀ q, q ≠ p_ad z a → H1[q]? = H[q]?) → W p l e R s m args below meth c H1 (locs ++ [⟨p_ad z a, i.toNatClampNeg⟩]) cells slots Q (F0 m pc' rls (st.map (p_rv z))) := by
  obtain ⟨hx, hb, hml, hown, hts, hnm, hK, hT, hz, hZ⟩ := X
  simp only [p_as] at hs
  split at hs
  · next sort t' vs ha =>
    split at hs
    · next hc =>
      split at hs
      · next v hv =>
        obtain ⟨rfl, rfl, rfl, rfl⟩ := p_go_eq hs
        rw [Bool.and_eq_true] at hc
        obtain rfl : t = t' := Nat.eq_of_beq_eq_true hc.1
        obtain rfl : sort = 1 := Nat.eq_of_beq_eq_true hc.2
        obtain ⟨n1, n2, n3⟩ := p_ixT hv
        obtain ⟨hb0, q, t0, e0⟩ := hR.arr ha
        have ety := hT.is t0 hty
        refine ⟨q.1, vs.length, _, e0, by rw [t0, ← ety], n1, n2, fun H1 e1 e2 e3 => ?_⟩
        exact kk.put ha (by simp) hl H1 _ (hR.set hb0 e2 e3 (p_arr_set hb0 t0 n2 e1)) (p_put_S hS e2 e3 hb0)
      · cases hs
    · cases hs
  · cases hs
end PN
end
section
/-! A step that is no call and no return -/
section PN2
variable {p : Program} {l : Launch} {e : Env} {R : Room} {s : State} {m : MethodId} {args : Array Value} {below : List Frame} {meth : Method} {c : Code} {H : Heap} {locs : List Loc} {cells slots : Nat} {Q : State → Prop}
variable {G : p_G} {MT : List p_M} {M : p_M} {z : Nat × Nat × Nat} {D : va_G} {tys : List (ClassId × FieldType)} {h h1 : p_H} {pc pc1 : Nat} {rls : Array Slot} {ls ls1 : p_Ls} {st st1 : List Value}
set_option maxHeartbeats 4000000 in
set_option maxRecDepth 100000 in
theorem p_next (hTO : p_TO G MT) (hMO : p_MO MT M) (X : p_X M z D tys p s m args meth c) {i : Instr} {len : Nat} (hat : p_at pc M.2.2.2.2.1 = some (i, len)) (hs : p_step G MT M i pc ls st h = some (.inl (pc1, ls1, st1, h1))) (hR : p_R s z D tys h H) (hS : va_S (fun q => z.2.2 ≤ q) s.heap H locs) (hl : lv_has rls M.2.2.1 (ls.map (p_rq z))) (hfr : 1 ≤ R.frames) (hlo : 60 ≤ R.locals)
    (hc : cells + (h1.length - h.length) ≤ R.cells) (hsl : slots + (p_sl h1 - p_sl h) ≤ R.slots) (kk : p_Nx M z D tys p l e R s m args below meth c cells slots Q h pc1 ls1 st1 h1) : W p l e R s m args below meth c H locs cells slots Q (F0 m pc rls (st.map (p_rv z))) := by
  obtain ⟨hdg0, hln0⟩ := hMO.2.2.1 _ (p_at_mem hat)
  have hx := X.1
  have hb := X.2.1
  have hown := X.2.2.2.1
  have hts := X.2.2.2.2.1
  unfold p_step at hs
  split at hs
  · next v =>
    have hdg : decode M.2.1 pc = .ok (.iconst v, 1) := by
      have e1 : len = 1 := hln0.elim (fun q => by simp [p_ln] at q) (fun q => q)
      rw [← e1]; exact hdg0
    obtain ⟨rfl, rfl, rfl, rfl⟩ := p_go_eq hs
    have k0 := kk.same hR hS
    exact lv_iconst hx hb hdg rfl (k0 rls hl)
  · next v =>
    have hdg : decode M.2.1 pc = .ok (.bipush v, 2) := by
      have e1 : len = 2 := hln0.elim (fun q => by simp [p_ln] at q) (fun q => q)
      rw [← e1]; exact hdg0
    obtain ⟨rfl, rfl, rfl, rfl⟩ := p_go_eq hs
    have k0 := kk.same hR hS
    exact lv_bipush hx hb hdg rfl (k0 rls hl)
  · next v =>
    have hdg : decode M.2.1 pc = .ok (.sipush v, 3) := by
      have e1 : len = 3 := hln0.elim (fun q => by simp [p_ln] at q) (fun q => q)
      rw [← e1]; exact hdg0
    obtain ⟨rfl, rfl, rfl, rfl⟩ := p_go_eq hs
    have k0 := kk.same hR hS
    exact lv_sipush hx hb hdg rfl (k0 rls hl)
  · next k =>
    have hdg : decode M.2.1 pc = .ok (.lconst k, 1) := by
      have e1 : len = 1 := hln0.elim (fun q => by simp [p_ln] at q) (fun q => q)
      rw [← e1]; exact hdg0
    obtain ⟨rfl, rfl, rfl, rfl⟩ := p_go_eq hs
    have k0 := kk.same hR hS
    exact lv_lconst hx hb hdg rfl (k0 rls hl)
  ·
    have hdg : decode M.2.1 pc = .ok (.aconst_null, 1) := by
      have e1 : len = 1 := hln0.elim (fun q => by simp [p_ln] at q) (fun q => q)
      rw [← e1]; exact hdg0
    obtain ⟨rfl, rfl, rfl, rfl⟩ := p_go_eq hs
    have k0 := kk.same hR hS
    exact lv_null hx hb hdg (k0 rls hl)
  · next x =>
    have hdg : decode M.2.1 pc = .ok (.ldc x, 2) := by
      have e1 : len = 2 := hln0.elim (fun q => by simp [p_ln] at q) (fun q => q)
      rw [← e1]; exact hdg0
    simp only [p_cst] at hs
    split at hs
    · next u b hp =>
      obtain ⟨ho, hw⟩ := hMO.2.2.2.1 _ (p_pk_mem hp)
      rw [if_neg (by decide)] at hs
      obtain ⟨rfl, rfl, rfl, rfl⟩ := p_go_eq hs
      have k0 := kk.same hR hS
      exact lv_ldc hx hb hown (hts _ (hw _ (by simp [p_w1]))) hdg (k0 rls hl)
    · cases hs
  · next x =>
    have hdg : decode M.2.1 pc = .ok (.ldc_w x, 3) := by
      have e1 : len = 3 := hln0.elim (fun q => by simp [p_ln] at q) (fun q => q)
      rw [← e1]; exact hdg0
    simp only [p_cst] at hs
    split at hs
    · next u b hp =>
      obtain ⟨ho, hw⟩ := hMO.2.2.2.1 _ (p_pk_mem hp)
      rw [if_neg (by decide)] at hs
      obtain ⟨rfl, rfl, rfl, rfl⟩ := p_go_eq hs
      have k0 := kk.same hR hS
      exact lv_ldcw hx hb hown (hts _ (hw _ (by simp [p_w1]))) hdg (k0 rls hl)
    · cases hs
  · next x =>
    have hdg : decode M.2.1 pc = .ok (.ldc2_w x, 3) := by
      have e1 : len = 3 := hln0.elim (fun q => by simp [p_ln] at q) (fun q => q)
      rw [← e1]; exact hdg0
    simp only [p_cst] at hs
    split at hs
    · next u b hp =>
      obtain ⟨ho, hw⟩ := hMO.2.2.2.1 _ (p_pk_mem hp)
      rw [if_pos (by decide)] at hs
      obtain ⟨rfl, rfl, rfl, rfl⟩ := p_go_eq hs
      have k0 := kk.same hR hS
      exact lv_ldc2 hx hb hown (hts _ (hw _ (by simp [p_w1]))) hdg (k0 rls hl)
    · cases hs
  · next k =>
    have hdg : decode M.2.1 pc = .ok (.iload_n k, 1) := by
      have e1 : len = 1 := hln0.elim (fun q => by simp [p_ln] at q) (fun q => q)
      rw [← e1]; exact hdg0
    simp only [p_ld] at hs
    split at hs
    · next hv =>
      obtain ⟨rfl, rfl, rfl, rfl⟩ := p_go_eq hs
      have k0 := kk.same hR hS
      have hv := p_lk_at hl hv
      exact lv_iload_n hx hb hdg rfl hv (k0 rls hl)
    · next hq _ => exact absurd hq (by decide)
    · next hq _ => exact absurd hq (by decide)
    · next hq _ => exact absurd hq (by decide)
    · cases hs
  · next k =>
    have hdg : decode M.2.1 pc = .ok (.iload k, 2) := by
      have e1 : len = 2 := hln0.elim (fun q => by simp [p_ln] at q) (fun q => q)
      rw [← e1]; exact hdg0
    simp only [p_ld] at hs
    split at hs
    · next hv =>
      obtain ⟨rfl, rfl, rfl, rfl⟩ := p_go_eq hs
      have k0 := kk.same hR hS
      have hv := p_lk_at hl hv
      exact lv_iload hx hb hdg hv (k0 rls hl)
    · next hq _ => exact absurd hq (by decide)
    · next hq _ => exact absurd hq (by decide)
    · next hq _ => exact absurd hq (by decide)
    · cases hs
  · next k =>
    have hdg : decode M.2.1 pc = .ok (.lload_n k, 1) := by
      have e1 : len = 1 := hln0.elim (fun q => by simp [p_ln] at q) (fun q => q)
      rw [← e1]; exact hdg0
    simp only [p_ld] at hs
    split at hs
    · next hq _ => exact absurd hq (by decide)
    · next hv =>
      obtain ⟨rfl, rfl, rfl, rfl⟩ := p_go_eq hs
      have k0 := kk.same hR hS
      have hv := p_lk_at hl hv
      exact lv_lload_n hx hb hdg rfl hv (k0 rls hl)
    · next hq _ => exact absurd hq (by decide)
    · next hq _ => exact absurd hq (by decide)
    · cases hs
  · next k =>
    have hdg : decode M.2.1 pc = .ok (.lload k, 2) := by
      have e1 : len = 2 := hln0.elim (fun q => by simp [p_ln] at q) (fun q => q)
      rw [← e1]; exact hdg0
    simp only [p_ld] at hs
    split at hs
    · next hq _ => exact absurd hq (by decide)
    · next hv =>
      obtain ⟨rfl, rfl, rfl, rfl⟩ := p_go_eq hs
      have k0 := kk.same hR hS
      have hv := p_lk_at hl hv
      exact lv_lload hx hb hdg hv (k0 rls hl)
    · next hq _ => exact absurd hq (by decide)
    · next hq _ => exact absurd hq (by decide)
    · cases hs
  · next k =>
    have hdg : decode M.2.1 pc = .ok (.aload_n k, 1) := by
      have e1 : len = 1 := hln0.elim (fun q => by simp [p_ln] at q) (fun q => q)
      rw [← e1]; exact hdg0
    simp only [p_ld] at hs
    split at hs
    · next hq _ => exact absurd hq (by decide)
    · next hq _ => exact absurd hq (by decide)
    · next hv =>
      obtain ⟨rfl, rfl, rfl, rfl⟩ := p_go_eq hs
      have k0 := kk.same hR hS
      have hv := p_lk_at hl hv
      exact lv_aload_n hx hb hdg rfl hv (k0 rls hl)
    · next hv =>
      obtain ⟨rfl, rfl, rfl, rfl⟩ := p_go_eq hs
      have k0 := kk.same hR hS
      have hv := p_lk_at hl hv
      exact lv_aload_nN hx hb hdg rfl hv (k0 rls hl)
    · cases hs
  · next k =>
    have hdg : decode M.2.1 pc = .ok (.aload k, 2) := by
      have e1 : len = 2 := hln0.elim (fun q => by simp [p_ln] at q) (fun q => q)
      rw [← e1]; exact hdg0
    simp only [p_ld] at hs
    split at hs
    · next hq _ => exact absurd hq (by decide)
    · next hq _ => exact absurd hq (by decide)
    · next hv =>
      obtain ⟨rfl, rfl, rfl, rfl⟩ := p_go_eq hs
      have k0 := kk.same hR hS
      have hv := p_lk_at hl hv
      exact lv_aload hx hb hdg hv (k0 rls hl)
    · next hv =>
      obtain ⟨rfl, rfl, rfl, rfl⟩ := p_go_eq hs
      have k0 := kk.same hR hS
      have hv := p_lk_at hl hv
      exact lv_aloadN hx hb hdg hv (k0 rls hl)
    · cases hs
  · next k v st =>
    have hdg : decode M.2.1 pc = .ok (.istore_n k, 1) := by
      have e1 : len = 1 := hln0.elim (fun q => by simp [p_ln] at q) (fun q => q)
      rw [← e1]; exact hdg0
    simp only [p_sv] at hs
    split at hs
    · next hi =>
      obtain ⟨rfl, rfl, rfl, rfl⟩ := p_go_eq hs
      have k0 := kk.same hR hS
      exact lv_istore_n hx hb hdg rfl hl hi (p_s1_map z ls _ (.int v)).symm (fun rls1 hl1 => k0 rls1 hl1)
    · cases hs
  · next k v st =>
    have hdg : decode M.2.1 pc = .ok (.istore k, 2) := by
      have e1 : len = 2 := hln0.elim (fun q => by simp [p_ln] at q) (fun q => q)
      rw [← e1]; exact hdg0
    simp only [p_sv] at hs
    split at hs
    · next hi =>
      obtain ⟨rfl, rfl, rfl, rfl⟩ := p_go_eq hs
      have k0 := kk.same hR hS
      exact lv_istore hx hb hdg hl hi (p_s1_map z ls _ (.int v)).symm (fun rls1 hl1 => k0 rls1 hl1)
    · cases hs
  · next k v st =>
    have hdg : decode M.2.1 pc = .ok (.lstore_n k, 1) := by
      have e1 : len = 1 := hln0.elim (fun q => by simp [p_ln] at q) (fun q => q)
      rw [← e1]; exact hdg0
    simp only [p_sv] at hs
    split at hs
    · next hi =>
      obtain ⟨rfl, rfl, rfl, rfl⟩ := p_go_eq hs
      have k0 := kk.same hR hS
      exact lv_lstore_n hx hb hdg rfl hl hi (p_s2_map z ls _ (.long v)).symm (fun rls1 hl1 => k0 rls1 hl1)
    · cases hs
  · next k v st =>
    have hdg : decode M.2.1 pc = .ok (.lstore k, 2) := by
      have e1 : len = 2 := hln0.elim (fun q => by simp [p_ln] at q) (fun q => q)
      rw [← e1]; exact hdg0
    simp only [p_sv] at hs
    split at hs
    · next hi =>
      obtain ⟨rfl, rfl, rfl, rfl⟩ := p_go_eq hs
      have k0 := kk.same hR hS
      exact lv_lstore hx hb hdg hl hi (p_s2_map z ls _ (.long v)).symm (fun rls1 hl1 => k0 rls1 hl1)
    · cases hs
  · next k v st =>
    have hdg : decode M.2.1 pc = .ok (.astore_n k, 1) := by
      have e1 : len = 1 := hln0.elim (fun q => by simp [p_ln] at q) (fun q => q)
      rw [← e1]; exact hdg0
    simp only [p_sv] at hs
    split at hs
    · next hi =>
      obtain ⟨rfl, rfl, rfl, rfl⟩ := p_go_eq hs
      have k0 := kk.same hR hS
      exact lv_astore_n hx hb hdg rfl hl hi (p_s1_map z ls _ (.ref v)).symm (fun rls1 hl1 => k0 rls1 hl1)
    · cases hs
  · next k v st =>
    have hdg : decode M.2.1 pc = .ok (.astore k, 2) := by
      have e1 : len = 2 := hln0.elim (fun q => by simp [p_ln] at q) (fun q => q)
      rw [← e1]; exact hdg0
    simp only [p_sv] at hs
    split at hs
    · next hi =>
      obtain ⟨rfl, rfl, rfl, rfl⟩ := p_go_eq hs
      have k0 := kk.same hR hS
      exact lv_astore hx hb hdg hl hi (p_s1_map z ls _ (.ref v)).symm (fun rls1 hl1 => k0 rls1 hl1)
    · cases hs
  · next k st =>
    have hdg : decode M.2.1 pc = .ok (.astore_n k, 1) := by
      have e1 : len = 1 := hln0.elim (fun q => by simp [p_ln] at q) (fun q => q)
      rw [← e1]; exact hdg0
    simp only [p_sv] at hs
    split at hs
    · next hi =>
      obtain ⟨rfl, rfl, rfl, rfl⟩ := p_go_eq hs
      have k0 := kk.same hR hS
      exact lv_astore_nN hx hb hdg rfl hl hi (p_s1_map z ls _ (.null)).symm (fun rls1 hl1 => k0 rls1 hl1)
    · cases hs
  · next k st =>
    have hdg : decode M.2.1 pc = .ok (.astore k, 2) := by
      have e1 : len = 2 := hln0.elim (fun q => by simp [p_ln] at q) (fun q => q)
      rw [← e1]; exact hdg0
    simp only [p_sv] at hs
    split at hs
    · next hi =>
      obtain ⟨rfl, rfl, rfl, rfl⟩ := p_go_eq hs
      have k0 := kk.same hR hS
      exact lv_astoreN hx hb hdg hl hi (p_s1_map z ls _ (.null)).symm (fun rls1 hl1 => k0 rls1 hl1)
    · cases hs
  · next k d =>
    have hdg : decode M.2.1 pc = .ok (.iinc k d, 3) := by
      have e1 : len = 3 := hln0.elim (fun q => by simp [p_ln] at q) (fun q => q)
      rw [← e1]; exact hdg0
    split at hs
    · next v hv =>
      simp only [p_sv] at hs
      split at hs
      · next hi =>
        obtain ⟨rfl, rfl, rfl, rfl⟩ := p_go_eq hs
        have k0 := kk.same hR hS
        have hmem : (k, Value.int v) ∈ ls.map (p_rq z) := List.mem_map.mpr ⟨(k, .int v), p_lk_mem hv, rfl⟩
        obtain ⟨j, hj⟩ := List.getElem?_of_mem hmem
        exact lv_iinc hx hb hdg hl hj rfl hi (p_s1_map z ls _ (.int (v + Int32.ofInt d))).symm (fun rls1 hl1 => k0 rls1 hl1)
      · cases hs
    · cases hs
  · next y x st =>
    have hdg : decode M.2.1 pc = .ok (.iadd, 1) := by
      have e1 : len = 1 := hln0.elim (fun q => by simp [p_ln] at q) (fun q => q)
      rw [← e1]; exact hdg0
    obtain ⟨rfl, rfl, rfl, rfl⟩ := p_go_eq hs
    have k0 := kk.same hR hS
    exact lv_iadd hx hb hdg (k0 rls hl)
  · next y x st =>
    have hdg : decode M.2.1 pc = .ok (.isub, 1) := by
      have e1 : len = 1 := hln0.elim (fun q => by simp [p_ln] at q) (fun q => q)
      rw [← e1]; exact hdg0
    obtain ⟨rfl, rfl, rfl, rfl⟩ := p_go_eq hs
    have k0 := kk.same hR hS
    exact lv_isub hx hb hdg (k0 rls hl)
  · next y x st =>
    have hdg : decode M.2.1 pc = .ok (.imul, 1) := by
      have e1 : len = 1 := hln0.elim (fun q => by simp [p_ln] at q) (fun q => q)
      rw [← e1]; exact hdg0
    obtain ⟨rfl, rfl, rfl, rfl⟩ := p_go_eq hs
    have k0 := kk.same hR hS
    exact lv_imul hx hb hdg (k0 rls hl)
  · next y x st =>
    have hdg : decode M.2.1 pc = .ok (.iand, 1) := by
      have e1 : len = 1 := hln0.elim (fun q => by simp [p_ln] at q) (fun q => q)
      rw [← e1]; exact hdg0
    obtain ⟨rfl, rfl, rfl, rfl⟩ := p_go_eq hs
    have k0 := kk.same hR hS
    exact lv_iand hx hb hdg (k0 rls hl)
  · next y x st =>
    have hdg : decode M.2.1 pc = .ok (.ior, 1) := by
      have e1 : len = 1 := hln0.elim (fun q => by simp [p_ln] at q) (fun q => q)
      rw [← e1]; exact hdg0
    obtain ⟨rfl, rfl, rfl, rfl⟩ := p_go_eq hs
    have k0 := kk.same hR hS
    exact lv_ior hx hb hdg (k0 rls hl)
  · next y x st =>
    have hdg : decode M.2.1 pc = .ok (.ixor, 1) := by
      have e1 : len = 1 := hln0.elim (fun q => by simp [p_ln] at q) (fun q => q)
      rw [← e1]; exact hdg0
    obtain ⟨rfl, rfl, rfl, rfl⟩ := p_go_eq hs
    have k0 := kk.same hR hS
    exact lv_ixor hx hb hdg (k0 rls hl)
  · next y x st =>
    have hdg : decode M.2.1 pc = .ok (.ishl, 1) := by
      have e1 : len = 1 := hln0.elim (fun q => by simp [p_ln] at q) (fun q => q)
      rw [← e1]; exact hdg0
    obtain ⟨rfl, rfl, rfl, rfl⟩ := p_go_eq hs
    have k0 := kk.same hR hS
    exact lv_ishl hx hb hdg (k0 rls hl)
  · next y x st =>
    have hdg : decode M.2.1 pc = .ok (.ishr, 1) := by
      have e1 : len = 1 := hln0.elim (fun q => by simp [p_ln] at q) (fun q => q)
      rw [← e1]; exact hdg0
    obtain ⟨rfl, rfl, rfl, rfl⟩ := p_go_eq hs
    have k0 := kk.same hR hS
    exact lv_ishr hx hb hdg (k0 rls hl)
  · next y x st =>
    have hdg : decode M.2.1 pc = .ok (.iushr, 1) := by
      have e1 : len = 1 := hln0.elim (fun q => by simp [p_ln] at q) (fun q => q)
      rw [← e1]; exact hdg0
    obtain ⟨rfl, rfl, rfl, rfl⟩ := p_go_eq hs
    have k0 := kk.same hR hS
    exact lv_iushr hx hb hdg rfl (k0 rls hl)
  · next y x st =>
    have hdg : decode M.2.1 pc = .ok (.idiv, 1) := by
      have e1 : len = 1 := hln0.elim (fun q => by simp [p_ln] at q) (fun q => q)
      rw [← e1]; exact hdg0
    split at hs
    · cases hs
    · next hne =>
      obtain ⟨rfl, rfl, rfl, rfl⟩ := p_go_eq hs
      have k0 := kk.same hR hS
      exact lv_idiv hx hb hdg hne (k0 rls hl)
  · next y x st =>
    have hdg : decode M.2.1 pc = .ok (.irem, 1) := by
      have e1 : len = 1 := hln0.elim (fun q => by simp [p_ln] at q) (fun q => q)
      rw [← e1]; exact hdg0
    split at hs
    · cases hs
    · next hne =>
      obtain ⟨rfl, rfl, rfl, rfl⟩ := p_go_eq hs
      have k0 := kk.same hR hS
      exact lv_irem hx hb hdg hne (k0 rls hl)
  · next x st =>
    have hdg : decode M.2.1 pc = .ok (.ineg, 1) := by
      have e1 : len = 1 := hln0.elim (fun q => by simp [p_ln] at q) (fun q => q)
      rw [← e1]; exact hdg0
    obtain ⟨rfl, rfl, rfl, rfl⟩ := p_go_eq hs
    have k0 := kk.same hR hS
    exact lv_ineg hx hb hdg (k0 rls hl)
  · next y x st =>
    have hdg : decode M.2.1 pc = .ok (.ladd, 1) := by
      have e1 : len = 1 := hln0.elim (fun q => by simp [p_ln] at q) (fun q => q)
      rw [← e1]; exact hdg0
    obtain ⟨rfl, rfl, rfl, rfl⟩ := p_go_eq hs
    have k0 := kk.same hR hS
    exact lv_ladd hx hb hdg (k0 rls hl)
  · next y x st =>
    have hdg : decode M.2.1 pc = .ok (.lsub, 1) := by
      have e1 : len = 1 := hln0.elim (fun q => by simp [p_ln] at q) (fun q => q)
      rw [← e1]; exact hdg0
    obtain ⟨rfl, rfl, rfl, rfl⟩ := p_go_eq hs
    have k0 := kk.same hR hS
    exact lv_lsub hx hb hdg (k0 rls hl)
  · next y x st =>
    have hdg : decode M.2.1 pc = .ok (.lmul, 1) := by
      have e1 : len = 1 := hln0.elim (fun q => by simp [p_ln] at q) (fun q => q)
      rw [← e1]; exact hdg0
    obtain ⟨rfl, rfl, rfl, rfl⟩ := p_go_eq hs
    have k0 := kk.same hR hS
    exact lv_lmul hx hb hdg (k0 rls hl)
  · next y x st =>
    have hdg : decode M.2.1 pc = .ok (.lor, 1) := by
      have e1 : len = 1 := hln0.elim (fun q => by simp [p_ln] at q) (fun q => q)
      rw [← e1]; exact hdg0
    obtain ⟨rfl, rfl, rfl, rfl⟩ := p_go_eq hs
    have k0 := kk.same hR hS
    exact lv_lor hx hb hdg (k0 rls hl)
  · next y x st =>
    have hdg : decode M.2.1 pc = .ok (.ldiv, 1) := by
      have e1 : len = 1 := hln0.elim (fun q => by simp [p_ln] at q) (fun q => q)
      rw [← e1]; exact hdg0
    split at hs
    · cases hs
    · next hne =>
      obtain ⟨rfl, rfl, rfl, rfl⟩ := p_go_eq hs
      have k0 := kk.same hR hS
      exact lv_ldiv hx hb hdg hne (k0 rls hl)
  · next y x st =>
    have hdg : decode M.2.1 pc = .ok (.lrem, 1) := by
      have e1 : len = 1 := hln0.elim (fun q => by simp [p_ln] at q) (fun q => q)
      rw [← e1]; exact hdg0
    split at hs
    · cases hs
    · next hne =>
      obtain ⟨rfl, rfl, rfl, rfl⟩ := p_go_eq hs
      have k0 := kk.same hR hS
      exact lv_lrem hx hb hdg hne (k0 rls hl)
  · next x st =>
    have hdg : decode M.2.1 pc = .ok (.lneg, 1) := by
      have e1 : len = 1 := hln0.elim (fun q => by simp [p_ln] at q) (fun q => q)
      rw [← e1]; exact hdg0
    obtain ⟨rfl, rfl, rfl, rfl⟩ := p_go_eq hs
    have k0 := kk.same hR hS
    exact lv_lneg hx hb hdg (k0 rls hl)
  · next y x st =>
    have hdg : decode M.2.1 pc = .ok (.lshl, 1) := by
      have e1 : len = 1 := hln0.elim (fun q => by simp [p_ln] at q) (fun q => q)
      rw [← e1]; exact hdg0
    obtain ⟨rfl, rfl, rfl, rfl⟩ := p_go_eq hs
    have k0 := kk.same hR hS
    exact lv_lshl hx hb hdg rfl (k0 rls hl)
  · next y x st =>
    have hdg : decode M.2.1 pc = .ok (.lshr, 1) := by
      have e1 : len = 1 := hln0.elim (fun q => by simp [p_ln] at q) (fun q => q)
      rw [← e1]; exact hdg0
    obtain ⟨rfl, rfl, rfl, rfl⟩ := p_go_eq hs
    have k0 := kk.same hR hS
    exact lv_lshr hx hb hdg rfl (k0 rls hl)
  · next y x st =>
    have hdg : decode M.2.1 pc = .ok (.lcmp, 1) := by
      have e1 : len = 1 := hln0.elim (fun q => by simp [p_ln] at q) (fun q => q)
      rw [← e1]; exact hdg0
    obtain ⟨rfl, rfl, rfl, rfl⟩ := p_go_eq hs
    have k0 := kk.same hR hS
    exact W.lcmp hx hb hdg (k0 rls hl)
  · next x st =>
    have hdg : decode M.2.1 pc = .ok (.i2l, 1) := by
      have e1 : len = 1 := hln0.elim (fun q => by simp [p_ln] at q) (fun q => q)
      rw [← e1]; exact hdg0
    obtain ⟨rfl, rfl, rfl, rfl⟩ := p_go_eq hs
    have k0 := kk.same hR hS
    exact lv_i2l hx hb hdg rfl (k0 rls hl)
  · next x st =>
    have hdg : decode M.2.1 pc = .ok (.l2i, 1) := by
      have e1 : len = 1 := hln0.elim (fun q => by simp [p_ln] at q) (fun q => q)
      rw [← e1]; exact hdg0
    obtain ⟨rfl, rfl, rfl, rfl⟩ := p_go_eq hs
    have k0 := kk.same hR hS
    exact lv_l2i hx hb hdg rfl (k0 rls hl)
  · next x st =>
    have hdg : decode M.2.1 pc = .ok (.i2b, 1) := by
      have e1 : len = 1 := hln0.elim (fun q => by simp [p_ln] at q) (fun q => q)
      rw [← e1]; exact hdg0
    obtain ⟨rfl, rfl, rfl, rfl⟩ := p_go_eq hs
    have k0 := kk.same hR hS
    exact lv_i2b hx hb hdg rfl (k0 rls hl)
  · next v st =>
    have hdg : decode M.2.1 pc = .ok (.dup, 1) := by
      have e1 : len = 1 := hln0.elim (fun q => by simp [p_ln] at q) (fun q => q)
      rw [← e1]; exact hdg0
    split at hs
    · next hcat =>
      obtain ⟨rfl, rfl, rfl, rfl⟩ := p_go_eq hs
      have k0 := kk.same hR hS
      exact lv_dup hx hb hdg (by rw [p_rv_cat]; exact hcat) (k0 rls hl)
    · cases hs
  · next v st =>
    have hdg : decode M.2.1 pc = .ok (.pop, 1) := by
      have e1 : len = 1 := hln0.elim (fun q => by simp [p_ln] at q) (fun q => q)
      rw [← e1]; exact hdg0
    split at hs
    · next hcat =>
      obtain ⟨rfl, rfl, rfl, rfl⟩ := p_go_eq hs
      have k0 := kk.same hR hS
      exact lv_pop hx hb hdg (by rw [p_rv_cat]; exact hcat) (k0 rls hl)
    · cases hs
  · next v w st =>
    have hdg : decode M.2.1 pc = .ok (.dup2, 1) := by
      have e1 : len = 1 := hln0.elim (fun q => by simp [p_ln] at q) (fun q => q)
      rw [← e1]; exact hdg0
    split at hs
    · next hcat =>
      obtain ⟨rfl, rfl, rfl, rfl⟩ := p_go_eq hs
      have k0 := kk.same hR hS
      exact lv_dup2_11 hx hb hdg (by rw [p_rv_cat]; exact hcat.1) (by rw [p_rv_cat]; exact hcat.2) (k0 rls hl)
    · cases hs
  · next x st =>
    have hdg : decode M.2.1 pc = .ok (.pop2, 1) := by
      have e1 : len = 1 := hln0.elim (fun q => by simp [p_ln] at q) (fun q => q)
      rw [← e1]; exact hdg0
    obtain ⟨rfl, rfl, rfl, rfl⟩ := p_go_eq hs
    have k0 := kk.same hR hS
    exact lv_pop2_2 hx hb hdg rfl (k0 rls hl)
  · next cd off x st =>
    have e1 : len = 3 := hln0.elim (fun q => by simp [p_ln] at q) (fun q => q)
    subst e1
    simp only [p_br] at hs
    split at hs
    · next tg htg =>
      have htg := p_tg_eq htg
      split at hs
      · next hcd =>
        obtain ⟨rfl, rfl, rfl, rfl⟩ := p_go_eq hs
        have k0 := kk.same hR hS
        cases cd <;> simp only [p_cd, decide_eq_true_eq] at hcd
        · exact lv_if_eq hx hb hdg0 htg (fun _ => k0 rls hl) (fun q => absurd hcd q)
        · exact lv_if_ne hx hb hdg0 htg (fun _ => k0 rls hl) (fun q => absurd q hcd)
        · exact lv_if_lt hx hb hdg0 htg (fun _ => k0 rls hl) (fun q => absurd hcd q)
        · exact lv_if_ge hx hb hdg0 htg (fun _ => k0 rls hl) (fun q => absurd hcd q)
        · exact lv_if_gt hx hb hdg0 htg (fun _ => k0 rls hl) (fun q => absurd hcd q)
        · exact lv_if_le hx hb hdg0 htg (fun _ => k0 rls hl) (fun q => absurd hcd q)
      · next hcd =>
        obtain ⟨rfl, rfl, rfl, rfl⟩ := p_go_eq hs
        have k0 := kk.same hR hS
        cases cd <;> simp only [p_cd, decide_eq_true_eq, Decidable.not_not] at hcd
        · exact lv_if_eq hx hb hdg0 htg (fun q => absurd q hcd) (fun _ => k0 rls hl)
        · exact lv_if_ne hx hb hdg0 htg (fun q => absurd hcd q) (fun _ => k0 rls hl)
        · exact lv_if_lt hx hb hdg0 htg (fun q => absurd q hcd) (fun _ => k0 rls hl)
        · exact lv_if_ge hx hb hdg0 htg (fun q => absurd q hcd) (fun _ => k0 rls hl)
        · exact lv_if_gt hx hb hdg0 htg (fun q => absurd q hcd) (fun _ => k0 rls hl)
        · exact lv_if_le hx hb hdg0 htg (fun q => absurd q hcd) (fun _ => k0 rls hl)
    · cases hs
  · next cd off y x st =>
    have e1 : len = 3 := hln0.elim (fun q => by simp [p_ln] at q) (fun q => q)
    subst e1
    simp only [p_br] at hs
    split at hs
    · next tg htg =>
      have htg := p_tg_eq htg
      split at hs
      · next hcd =>
        obtain ⟨rfl, rfl, rfl, rfl⟩ := p_go_eq hs
        have k0 := kk.same hR hS
        cases cd <;> simp only [p_cd, decide_eq_true_eq] at hcd
        · exact lv_icmp_eq hx hb hdg0 htg (fun _ => k0 rls hl) (fun q => absurd hcd q)
        · exact lv_icmp_ne hx hb hdg0 htg (fun _ => k0 rls hl) (fun q => absurd q hcd)
        · exact lv_icmp_lt hx hb hdg0 htg (fun _ => k0 rls hl) (fun q => absurd hcd q)
        · exact lv_icmp_ge hx hb hdg0 htg (fun _ => k0 rls hl) (fun q => absurd hcd q)
        · exact lv_icmp_gt hx hb hdg0 htg (fun _ => k0 rls hl) (fun q => absurd hcd q)
        · exact lv_icmp_le hx hb hdg0 htg (fun _ => k0 rls hl) (fun q => absurd hcd q)
      · next hcd =>
        obtain ⟨rfl, rfl, rfl, rfl⟩ := p_go_eq hs
        have k0 := kk.same hR hS
        cases cd <;> simp only [p_cd, decide_eq_true_eq, Decidable.not_not] at hcd
        · exact lv_icmp_eq hx hb hdg0 htg (fun q => absurd q hcd) (fun _ => k0 rls hl)
        · exact lv_icmp_ne hx hb hdg0 htg (fun q => absurd hcd q) (fun _ => k0 rls hl)
        · exact lv_icmp_lt hx hb hdg0 htg (fun q => absurd q hcd) (fun _ => k0 rls hl)
        · exact lv_icmp_ge hx hb hdg0 htg (fun q => absurd q hcd) (fun _ => k0 rls hl)
        · exact lv_icmp_gt hx hb hdg0 htg (fun q => absurd q hcd) (fun _ => k0 rls hl)
        · exact lv_icmp_le hx hb hdg0 htg (fun q => absurd q hcd) (fun _ => k0 rls hl)
    · cases hs
  · next off st =>
    have hdg : decode M.2.1 pc = .ok (.ifnull off, 3) := by
      have e1 : len = 3 := hln0.elim (fun q => by simp [p_ln] at q) (fun q => q)
      rw [← e1]; exact hdg0
    obtain ⟨htg, rfl, rfl, rfl⟩ := p_jm_eq hs
    have k0 := kk.same hR hS
    exact lv_ifnullN hx hb hdg htg (k0 rls hl)
  · next off a st =>
    have hdg : decode M.2.1 pc = .ok (.ifnull off, 3) := by
      have e1 : len = 3 := hln0.elim (fun q => by simp [p_ln] at q) (fun q => q)
      rw [← e1]; exact hdg0
    obtain ⟨rfl, rfl, rfl, rfl⟩ := p_go_eq hs
    have k0 := kk.same hR hS
    exact lv_ifnull hx hb hdg (k0 rls hl)
  · next off a st =>
    have hdg : decode M.2.1 pc = .ok (.ifnonnull off, 3) := by
      have e1 : len = 3 := hln0.elim (fun q => by simp [p_ln] at q) (fun q => q)
      rw [← e1]; exact hdg0
    obtain ⟨htg, rfl, rfl, rfl⟩ := p_jm_eq hs
    have k0 := kk.same hR hS
    exact lv_ifnonnull hx hb hdg htg (k0 rls hl)
  · next off st =>
    have hdg : decode M.2.1 pc = .ok (.ifnonnull off, 3) := by
      have e1 : len = 3 := hln0.elim (fun q => by simp [p_ln] at q) (fun q => q)
      rw [← e1]; exact hdg0
    obtain ⟨rfl, rfl, rfl, rfl⟩ := p_go_eq hs
    have k0 := kk.same hR hS
    exact lv_ifnonnullN hx hb hdg (k0 rls hl)
  · next off =>
    have hdg : decode M.2.1 pc = .ok (.goto off, 3) := by
      have e1 : len = 3 := hln0.elim (fun q => by simp [p_ln] at q) (fun q => q)
      rw [← e1]; exact hdg0
    obtain ⟨htg, rfl, rfl, rfl⟩ := p_jm_eq hs
    have k0 := kk.same hR hS
    exact lv_goto hx hb hdg htg (k0 rls hl)
  · next dflt lo hi offs x st =>
    simp only [p_sw] at hs
    split at hs
    · next hout =>
      obtain ⟨htg, rfl, rfl, rfl⟩ := p_jm_eq hs
      exact lv_tableOut hx hb hdg0 hout htg (kk.same hR hS rls hl)
    · next hin =>
      split at hs
      · next off hoff =>
        obtain ⟨htg, rfl, rfl, rfl⟩ := p_jm_eq hs
        exact lv_tableIn hx hb hdg0 (fun q => hin (Or.inl q)) (fun q => hin (Or.inr q)) hoff htg (kk.same hR hS rls hl)
      · cases hs
  · next dflt ps x st =>
    split at hs
    · next hp =>
      obtain ⟨htg, rfl, rfl, rfl⟩ := p_jm_eq hs
      exact lv_lookup hx hb hdg0 hp rfl htg (kk.same hR hS rls hl)
    · cases hs
  · next i a st =>
    have hdg : decode M.2.1 pc = .ok (.iaload, 1) := by
      have e1 : len = 1 := hln0.elim (fun q => by simp [p_ln] at q) (fun q => q)
      rw [← e1]; exact hdg0
    obtain ⟨rfl, rfl, rfl, t, v, ht, rfl, hcell⟩ := p_al_ok X hR hs
    have k0 := kk.same hR hS
    obtain rfl : t = 0 := ht.elim id id
    obtain ⟨cell, g1, g2, g3, g4, g5⟩ := hcell _ rfl
    exact W.iald hx hb g1 g2 g3 g4 g5 rfl rfl hdg (k0 rls hl)
  · next i a st =>
    have hdg : decode M.2.1 pc = .ok (.laload, 1) := by
      have e1 : len = 1 := hln0.elim (fun q => by simp [p_ln] at q) (fun q => q)
      rw [← e1]; exact hdg0
    obtain ⟨rfl, rfl, rfl, t, v, ht, rfl, hcell⟩ := p_al_ok X hR hs
    have k0 := kk.same hR hS
    obtain rfl : t = 2 := ht.elim id id
    obtain ⟨cell, g1, g2, g3, g4, g5⟩ := hcell _ rfl
    exact W.lald hx hb g1 g2 g3 g4 g5 rfl rfl hdg (k0 rls hl)
  · next i a st =>
    have hdg : decode M.2.1 pc = .ok (.baload, 1) := by
      have e1 : len = 1 := hln0.elim (fun q => by simp [p_ln] at q) (fun q => q)
      rw [← e1]; exact hdg0
    obtain ⟨rfl, rfl, rfl, t, v, ht, rfl, hcell⟩ := p_al_ok X hR hs
    have k0 := kk.same hR hS
    rcases ht with rfl | rfl
    · obtain ⟨cell, g1, g2, g3, g4, g5⟩ := hcell _ rfl
      exact W.bald hx hb g1 g2 g3 g4 g5 rfl rfl hdg (k0 rls hl)
    · obtain ⟨cell, g1, g2, g3, g4, g5⟩ := hcell _ rfl
      exact W.zald hx hb g1 g2 g3 g4 g5 rfl rfl hdg (k0 rls hl)
  · next i a st =>
    have hdg : decode M.2.1 pc = .ok (.aaload, 1) := by
      have e1 : len = 1 := hln0.elim (fun q => by simp [p_ln] at q) (fun q => q)
      rw [← e1]; exact hdg0
    obtain ⟨rfl, rfl, rfl, t, v, ht, rfl, hcell⟩ := p_al_ok X hR hs
    have k0 := kk.same hR hS
    obtain rfl : t = 4 := ht.elim id id
    obtain ⟨cell, g1, g2, g3, g4, g5⟩ := hcell _ rfl
    exact W.aald hx hb g1 g2 rfl g3 g4 g5 rfl rfl hdg (k0 rls hl)
  · next x i a st =>
    have hdg : decode M.2.1 pc = .ok (.iastore, 1) := by
      have e1 : len = 1 := hln0.elim (fun q => by simp [p_ln] at q) (fun q => q)
      rw [← e1]; exact hdg0
    obtain ⟨cA, n, f, e0, t0, n1, n2, k1⟩ := p_as_ok X hR hS hl hs kk rfl
    exact W.iast hx hb e0 ((X.2.2.2.2.2.2.1.2 _ _ t0).1 n f) (fun q => by cases q) (by rw [arrV_size]; exact fun q => q.elim n1 (fun q => by omega)) rfl rfl hdg k1
  · next x i a st =>
    have hdg : decode M.2.1 pc = .ok (.lastore, 1) := by
      have e1 : len = 1 := hln0.elim (fun q => by simp [p_ln] at q) (fun q => q)
      rw [← e1]; exact hdg0
    obtain ⟨cA, n, f, e0, t0, n1, n2, k1⟩ := p_as_ok X hR hS hl hs kk rfl
    exact W.last hx hb e0 ((X.2.2.2.2.2.2.1.2 _ _ t0).1 n f) (fun q => by cases q) (by rw [arrV_size]; exact fun q => q.elim n1 (fun q => by omega)) rfl rfl hdg k1
  · next x i a st =>
    have hdg : decode M.2.1 pc = .ok (.bastore, 1) := by
      have e1 : len = 1 := hln0.elim (fun q => by simp [p_ln] at q) (fun q => q)
      rw [← e1]; exact hdg0
    split at hs
    · next o ho =>
      cases hs
      obtain ⟨cA, n, f, e0, t0, n1, n2, k1⟩ := p_as_ok X hR hS hl ho kk rfl
      exact W.bast hx hb e0 ((X.2.2.2.2.2.2.1.2 _ _ t0).1 n f) (fun q => by cases q) (by rw [arrV_size]; exact fun q => q.elim n1 (fun q => by omega)) rfl rfl hdg k1
    · obtain ⟨cA, n, f, e0, t0, n1, n2, k1⟩ := p_as_ok X hR hS hl hs kk rfl
      exact W.zast hx hb e0 ((X.2.2.2.2.2.2.1.2 _ _ t0).1 n f) (fun q => by cases q) (by rw [arrV_size]; exact fun q => q.elim n1 (fun q => by omega)) rfl rfl hdg k1
  · next i a st =>
    have hdg : decode M.2.1 pc = .ok (.aastore, 1) := by
      have e1 : len = 1 := hln0.elim (fun q => by simp [p_ln] at q) (fun q => q)
      rw [← e1]; exact hdg0
    obtain ⟨cA, n, f, e0, t0, n1, n2, k1⟩ := p_as_ok X hR hS hl hs kk rfl
    exact va_WaastN (C := "CutInMay$Text") hx hb e0 ((X.2.2.2.2.2.2.1.2 _ _ t0).1 n f) (fun q => by cases q) (by rw [arrV_size]; exact fun q => q.elim n1 (fun q => by omega)) rfl rfl hdg k1
  · next v i a st =>
    have hdg : decode M.2.1 pc = .ok (.aastore, 1) := by
      have e1 : len = 1 := hln0.elim (fun q => by simp [p_ln] at q) (fun q => q)
      rw [← e1]; exact hdg0
    split at hs
    · next vs hv =>
      obtain ⟨cA, n, f, e0, t0, n1, n2, k1⟩ := p_as_ok X hR hS hl hs kk rfl
      obtain ⟨hb0, r, hr, hlen, cellV, g1, g2, g3, -⟩ := hR.obj hv
      have hcls := (X.2.2.2.2.2.2.1.1 7 r hr).2
      obtain ⟨kA, comp, c1, c2, c3, -⟩ := (X.2.2.2.2.2.2.1.2 _ _ t0).2
      have hrn : r.1 = "CutInMay$Text" := by
        have : (vwCl[7]?).map (fun q => q.1) = some "CutInMay$Text" := by decide +kernel
        rw [hr] at this
        exact Option.some.inj this
      rw [hrn] at hcls
      have hcomp : comp = D.1 7 := Option.some.inj (c3.symm.trans hcls.1)
      subst hcomp
      obtain ⟨kC, hkC, -⟩ := hcls.2
      exact W.aast hx hb e0 (fun q h => by cases h) (fun h => by cases h) c1 c2 rfl hkC ⟨n1, by rw [arrV_size]; exact n2⟩ g1 (fun q h => by rw [g3] at h; cases h) (by rw [g2]; exact hkC) (by rw [g2]; exact va_assign hcls) rfl rfl hdg k1
    · cases hs
  · next a st =>
    have hdg : decode M.2.1 pc = .ok (.arraylength, 1) := by
      have e1 : len = 1 := hln0.elim (fun q => by simp [p_ln] at q) (fun q => q)
      rw [← e1]; exact hdg0
    split at hs
    · next sort t vs ha =>
      split at hs
      · next hsort =>
        obtain ⟨rfl, rfl, rfl, rfl⟩ := p_go_eq hs
        have k0 := kk.same hR hS
        rw [Bool.or_eq_true] at hsort
        rcases hR.2.2.2.2 a _ ha with ⟨e0, -⟩ | ⟨e0, hb0, q, t0, g1⟩ | ⟨e0, hb0, ty, cell, t0, g1, g2, g3, g4, g5⟩
        · exact absurd e0 (fun q => by have q : sort = 0 := q; subst q; simp at hsort)
        · exact W.alen hx hb g1 ((X.2.2.2.2.2.2.1.2 _ _ t0).1 _ _) (p_i32_len (arrV_size _ _ _)) rfl rfl hdg (k0 rls hl)
        · exact W.alen hx hb g1 g2 (p_i32_len g4) rfl rfl hdg (k0 rls hl)
      · cases hs
    · cases hs
  · next ty n st =>
    have hdg : decode M.2.1 pc = .ok (.newarray ty, 2) := by
      have e1 : len = 2 := hln0.elim (fun q => by simp [p_ln] at q) (fun q => q)
      rw [← e1]; exact hdg0
    split at hs
    · next t ht =>
      simp only [p_newa] at hs
      split at hs
      · next hn =>
        obtain ⟨rfl, rfl, rfl, rfl⟩ := p_go_eq hs
        have hc : cells + 1 ≤ R.cells := by simpa using hc
        have hsl : slots + n.toNatClampNeg ≤ R.slots := by rw [p_sl_app] at hsl; simpa using hsl
        exact p_newa_ok X hR hS ht hn.1 hn.2 hc hsl hdg (kk.new (by simp) hl)
      · cases hs
    · cases hs
  · next x n st =>
    have hdg : decode M.2.1 pc = .ok (.anewarray x, 3) := by
      have e1 : len = 3 := hln0.elim (fun q => by simp [p_ln] at q) (fun q => q)
      rw [← e1]; exact hdg0
    split at hs
    · next u hp =>
      simp only [p_newa] at hs
      split at hs
      · next hn =>
        obtain ⟨rfl, rfl, rfl, rfl⟩ := p_go_eq hs
        have hc : cells + 1 ≤ R.cells := by simpa using hc
        have hsl : slots + n.toNatClampNeg ≤ R.slots := by rw [p_sl_app] at hsl; simpa using hsl
        exact p_newt_ok hMO X hR hS hp hn.1 hn.2 hc hsl hdg (kk.new (by simp) hl)
      · cases hs
    · cases hs
  · next x =>
    have hdg : decode M.2.1 pc = .ok (.new x, 3) := by
      have e1 : len = 3 := hln0.elim (fun q => by simp [p_ln] at q) (fun q => q)
      rw [← e1]; exact hdg0
    simp only [p_new] at hs
    split at hs
    · next ci b hp =>
      split at hs
      · next row hrow =>
        obtain ⟨rfl, rfl, rfl, rfl⟩ := p_go_eq hs
        have hc : cells + 1 ≤ R.cells := by simpa using hc
        have hsl : slots + row.length ≤ R.slots := by rw [p_sl_app] at hsl; simpa using hsl
        exact p_new_ok hTO hMO X hR hS hp hrow hc hsl hdg (kk.new (by simp) hl)
      · cases hs
    · cases hs
  · next x a st =>
    have hdg : decode M.2.1 pc = .ok (.getfield x, 3) := by
      have e1 : len = 3 := hln0.elim (fun q => by simp [p_ln] at q) (fun q => q)
      rw [← e1]; exact hdg0
    simp only [p_getf] at hs
    split at hs
    · next ci k ci' vs hp ha =>
      split at hs
      · next hci =>
        obtain rfl : ci = ci' := Nat.eq_of_beq_eq_true hci
        split at hs
        · next v hv =>
          obtain ⟨rfl, rfl, rfl, rfl⟩ := p_go_eq hs
          exact p_get_ok hTO hMO X hR hp ha hv hdg (kk.same hR hS rls hl)
        · cases hs
      · cases hs
    · cases hs
  · next x v a st =>
    have hdg : decode M.2.1 pc = .ok (.putfield x, 3) := by
      have e1 : len = 3 := hln0.elim (fun q => by simp [p_ln] at q) (fun q => q)
      rw [← e1]; exact hdg0
    simp only [p_putf] at hs
    split at hs
    · next ci k ci' vs hp ha =>
      split at hs
      · next hci =>
        obtain rfl : ci = ci' := Nat.eq_of_beq_eq_true hci
        split at hs
        · next ty fin hg =>
          split at hs
          · next hcond =>
            obtain ⟨rfl, rfl, rfl, rfl⟩ := p_go_eq hs
            rw [Bool.and_eq_true, Bool.and_eq_true, Bool.or_eq_true, Bool.and_eq_true] at hcond
            exact p_put_ok hTO hMO X hR hS hp ha hg hcond.1.1 (fun q => hcond.1.2.elim (fun w => by rw [q] at w; cases w) (fun w => ⟨w.1, Nat.eq_of_beq_eq_true w.2⟩)) (Nat.le_of_ble_eq_true hcond.2) hdg (kk.put ha (by simp) hl)
          · cases hs
        · cases hs
      · cases hs
    · cases hs
  · next x =>
    have hdg : decode M.2.1 pc = .ok (.getstatic x, 3) := by
      have e1 : len = 3 := hln0.elim (fun q => by simp [p_ln] at q) (fun q => q)
      rw [← e1]; exact hdg0
    split at hs
    · next u hp =>
      obtain ⟨rfl, rfl, rfl, rfl⟩ := p_go_eq hs
      obtain ⟨ho, hw⟩ := hMO.2.2.2.1 _ (p_pk_mem hp)
      exact va_gets hx hb X.2.2.2.2.2.2.2.2.2.1 hS hown (hts _ (hw _ (by simp [p_w1]))) (fun _ h9 => h9) hdg (kk.same hR hS rls hl)
    · cases hs
  · next x =>
    have hdg : decode M.2.1 pc = .ok (.invokestatic x, 3) := by
      have e1 : len = 3 := hln0.elim (fun q => by simp [p_ln] at q) (fun q => q)
      rw [← e1]; exact hdg0
    simp only [p_invs] at hs
    split at hs
    · next u n dp d sp s0 st' hp =>
      simp only [p_copy] at hs
      split at hs
      · next vs ws h0 h1 =>
        split at hs
        · next hcond =>
          obtain ⟨rfl, rfl, rfl, rfl⟩ := p_go_eq hs
          obtain ⟨c1, c2, c3, c4, c5, c6, c7⟩ := hcond
          refine p_copy_ok hMO X hR hS hl.1 hp h0 h1 c1 c2 c3 c4 c5 c6 ?_ hfr hlo hdg (kk.put h1 ?_ hl)
          · rw [List.map_map]
            have : ((fun v => v.category) ∘ p_rv z) = fun v : Value => v.category := by funext v; exact p_rv_cat z v
            rw [this]; exact c7
          · simp only [p_cpy, List.length_append, List.length_take, List.length_drop]; omega
        · cases hs
      · cases hs
    · cases hs
    · split at hs
      · next o ho =>
        simp only [p_inv] at ho
        split at ho
        · split at ho
          · cases ho; cases hs
          · cases ho
        · cases ho
      · simp only [p_inv] at hs
        split at hs
        · split at hs
          · cases hs
          · cases hs
        · cases hs
  · next x =>
    have hdg : decode M.2.1 pc = .ok (.invokevirtual x, 3) := by
      have e1 : len = 3 := hln0.elim (fun q => by simp [p_ln] at q) (fun q => q)
      rw [← e1]; exact hdg0
    simp only [p_vir] at hs
    split at hs
    · next u a st' hp =>
      simp only [p_clone] at hs
      split at hs
      · next vs ha =>
        split at hs
        · next hcond =>
          obtain ⟨rfl, rfl, rfl, rfl⟩ := p_go_eq hs
          have hc : cells + 1 ≤ R.cells := by simpa using hc
          have hsl : slots + vs.length ≤ R.slots := by rw [p_sl_app] at hsl; simpa using hsl
          refine p_clone_ok hMO X hR hS hl.1 hp ha hcond.1 ?_ hfr hlo hc hsl hdg (kk.new rfl hl)
          rw [List.map_map]
          have : ((fun v => v.category) ∘ p_rv z) = fun v : Value => v.category := by funext v; exact p_rv_cat z v
          rw [this]; exact hcond.2
        · cases hs
      · cases hs
    · cases hs
    · simp only [p_invv] at hs
      split at hs
      · split at hs
        · split at hs
          · cases hs
          · cases hs
        · cases hs
      · cases hs
  · next x a st =>
    have hdg : decode M.2.1 pc = .ok (.checkcast x, 3) := by
      have e1 : len = 3 := hln0.elim (fun q => by simp [p_ln] at q) (fun q => q)
      rw [← e1]; exact hdg0
    simp only [p_cc] at hs
    split at hs
    · next u vs hp ha =>
      obtain ⟨rfl, rfl, rfl, rfl⟩ := p_go_eq hs
      exact p_cast_ok hMO X hR hp ha hdg (kk.same hR hS rls hl)
    · cases hs
  · next x =>
    have hdg : decode M.2.1 pc = .ok (.invokespecial x, 3) := by
      have e1 : len = 3 := hln0.elim (fun q => by simp [p_ln] at q) (fun q => q)
      rw [← e1]; exact hdg0
    simp only [p_invi] at hs
    split at hs
    · next u a st' hp =>
      split at hs
      · next hcat =>
        obtain ⟨rfl, rfl, rfl, rfl⟩ := p_go_eq hs
        obtain ⟨ho, hw⟩ := hMO.2.2.2.1 _ (p_pk_mem hp)
        refine W.objInit hx hb hown (hts _ (hw _ (by simp [p_w1]))) (hts _ (hw _ (by simp [p_w1]))) (hts _ (hw _ (by simp [p_w1]))) rfl (by rw [X.2.2.1]; exact hl.1) rfl hdg hfr ?_ (kk.same hR hS rls hl)
        show 2 * 0 + ((st'.map (p_rv z)).map fun v => v.category).sum + 12 ≤ _
        rw [List.map_map]
        have : ((fun v => v.category) ∘ p_rv z) = fun v : Value => v.category := by funext v; exact p_rv_cat z v
        rw [this]
        have : (st'.map fun v => v.category).sum ≤ 8 := hcat
        omega
      · cases hs
    · cases hs
    · split at hs
      · cases hs
      · cases hs
  ·
    simp only [p_ret] at hs
    repeat' split at hs
    all_goals cases hs
  · next x =>
    simp only [p_ret] at hs
    repeat' split at hs
    all_goals cases hs
  · next x =>
    simp only [p_ret] at hs
    repeat' split at hs
    all_goals cases hs
  ·
    simp only [p_ret] at hs
    repeat' split at hs
    all_goals cases hs
  · next a =>
    simp only [p_ret] at hs
    repeat' split at hs
    all_goals cases hs
  ·
    cases hs
end PN2
end
section
/-! Calls -/
theorem p_good {w : Cond} (h : w ∈ p_big) : GoodIn p_big (w :: p_big) := by
  intro u hu
  have hm : u ∈ p_big := (List.mem_cons.mp hu).elim (fun q => by rw [q]; exact h) id
  exact ⟨hm, good_of_word (List.mem_filter.mp hm).2⟩
def p_Pre (z : Nat × Nat × Nat) (D : va_G) (tys : List (ClassId × FieldType)) (as : List Value) (h : p_H) : Array Value → State → Prop := fun a U => a = (as.map (p_rv z)).toArray ∧ p_R U z D tys h U.heap ∧ va_K D vwCl tys U ∧ z.2.2 ≤ U.heap.size ∧ va_Z "CutInMay$Reader" "WORDS" "[J" (.ref z.2.1) (fun q => z.2.2 ≤ q) U U.heap ∧ p_N U
def p_Post (z : Nat × Nat × Nat) (D : va_G) (tys : List (ClassId × FieldType)) (v : Option Value) (h2 : p_H) : Array Value → State → Outcome → State → Prop := fun _ st o t => o = .returned (v.map (p_rv z)) ∧ p_R t z D tys h2 t.heap ∧ va_F (fun q => z.2.2 ≤ q) st t
def p_rm (d mc ms : Nat) : Room := { frames := d + 1, cells := mc, slots := ms, locals := 60 * (d + 1) }
/-- a method's contract at these arguments and this heap -/
def p_Met (l : Launch) (z : Nat × Nat × Nat) (D : va_G) (tys : List (ClassId × FieldType)) (d : Nat) (M : p_M) (as : List Value) (h : p_H) (v : Option Value) (h2 : p_H) : Prop :=
  Met l M.1 (.code M.1 M.2.1 M.2.2.1 M.2.2.2.1 :: p_big) (p_rm d (h2.length - h.length) (p_sl h2 - p_sl h)) (p_Pre z D tys as h) (p_Post z D tys v h2) (h2.length - h.length) (p_sl h2 - p_sl h) (fun q => z.2.2 ≤ q)
theorem p_blind {z : Nat × Nat × Nat} {D : va_G} {tys : List (ClassId × FieldType)} {as : List Value} {h : p_H} : FrameBlind (p_Pre z D tys as h) := by
  intro a U g mk ⟨h1, h2, h3, h4, h5, h6⟩
  exact ⟨h1, p_R.moved (U := U) (U' := U.calling g mk a) (Vm.Alike.refl U.vm) h2, va_K.moved (u := U) (U := U.calling g mk a) (Vm.Alike.refl U.vm) h3, h4, va_Z.moved (u := U) (U := U.calling g mk a) (Vm.Alike.refl U.vm) h5, p_N.same (u := U) (U := U.calling g mk a) rfl h6⟩
section PC
variable {p : Program} {l : Launch} {e : Env} {R : Room} {s : State} {m : MethodId} {args : Array Value} {below : List Frame} {meth : Method} {c : Code} {H : Heap} {locs : List Loc} {cells slots : Nat} {Q : State → Prop}
variable {G : p_G} {MT : List p_M} {M : p_M} {z : Nat × Nat × Nat} {D : va_G} {tys : List (ClassId × FieldType)} {h h2 : p_H} {pc : Nat} {rls : Array Slot} {ls : p_Ls} {st : List Value}
theorem p_pre {as : List Value} (X : p_X M z D tys p s m args meth c) (hR : p_R s z D tys h H) (hS : va_S (fun q => z.2.2 ≤ q) s.heap H locs) : ∀ U : State, U.heap = H → s.WarmedH U.vm → p_Pre z D tys as h (as.map (p_rv z)).toArray U := by
  intro U hU hW
  obtain ⟨hx, hb, hml, hown, hts, hnm, hK, hT, hz, hZ⟩ := X
  refine ⟨rfl, ?_, va_K.moved hW.alike hK, by rw [hU]; exact Nat.le_trans hz hS.1, ?_, hZ.2.moved hW⟩
  · rw [hU]; exact hR.moved hW.alike
  · rw [hU]; exact (hZ.1.kept hS.2.1).moved hW.alike
/-- behind a call -/
theorem p_after {v : Option Value} {mc ms : Nat} {a : Array Value} {rest st0 : List Value} (hr : va_Run p l e R s m args below meth c H locs cells slots mc ms (F0 m pc rls st0) rest (p_Post z D tys v h2 a) (fun q => z.2.2 ≤ q)) (hS : va_S (fun q => z.2.2 ≤ q) s.heap H locs)
    (kk : ∀ (H1 : Heap) (locs1 : List Loc), p_R s z D tys h2 H1 → va_S (fun q => z.2.2 ≤ q) s.heap H1 locs1 → W p l e R s m args below meth c H1 locs1 (cells + mc) (slots + ms) Q (F0 m (pc + 3) rls ((v.map (p_rv z)).toList ++ rest))) : W p l e R s m args below meth c H locs cells slots Q (F0 m pc rls st0) := by
  intro T hT X
  obtain ⟨w, st₀, t, T', L, h0, X', hL, e1, e2, ⟨hv, hR2, hz, hk⟩, stp⟩ := hr T hT X
  obtain rfl : w = v.map (p_rv z) := Outcome.returned.inj hv
  rw [h0] at hz hk
  have hvm : s.vm.Alike t.vm := by rw [← e2]; exact X'.warmed.alike
  obtain ⟨t2, a1, b1⟩ := kk T'.heap (locs ++ L) (by rw [e1]; exact hR2.moved hvm.symm)
    ⟨Nat.le_trans hS.1 (by rw [e1]; exact hz), fun q g1 g2 => by rw [e1, hk q (Nat.lt_of_lt_of_le g1 hS.1) g2]; exact hS.2.1 q g1 g2, fun q hq => by
      rcases List.mem_append.mp hq with g | g
      · exact hS.2.2 q g
      · exact hL q g⟩ T' rfl X'
  exact ⟨t2, stp t2 a1, b1⟩
theorem p_catm (st : List Value) : ((st.map (p_rv z)).map fun v => v.category).sum = p_cat st := by
  rw [List.map_map]
  have : ((fun v => v.category) ∘ p_rv z) = fun v : Value => v.category := by funext v; exact p_rv_cat z v
  rw [this]; rfl
theorem p_inv_eq {t x m' : Nat} {P : List p_P} {as rest : List Value} (hs : p_inv t P x st = some (.inr (.inr (m', as, rest)))) : ∃ n : Int, p_pk x t P = some (m', n) ∧ as.length = n.toNat ∧ st = as.reverse ++ rest ∧ p_cat rest ≤ 8 := by
  simp only [p_inv] at hs
  split at hs
  · next k n hp =>
    split at hs
    · next hc =>
      simp only [Option.some.injEq, Sum.inr.injEq, Prod.mk.injEq] at hs
      obtain ⟨rfl, rfl, rfl⟩ := hs
      refine ⟨n, hp, ?_, ?_, hc.2⟩
      · rw [List.length_reverse, List.length_take]; omega
      · rw [List.reverse_reverse, List.take_append_drop]
    · cases hs
  · cases hs
theorem p_par_ok {y : MethodName} {n : Nat} (h : p_par y n = true) : y.cls ≠ "java/lang/invoke/MethodHandle" ∧ y.cls ≠ "java/lang/invoke/VarHandle" ∧ (parseMethodDescriptor y.desc).map (fun d => d.parameters.length) = some n := of_decide_eq_true h
set_option maxHeartbeats 1000000 in
theorem p_call (hTO : p_TO G MT) (hMO : p_MO MT M) (X : p_X M z D tys p s m args meth c) {i : Instr} {len m' d' : Nat} {M' : p_M} {as rest : List Value} {v : Option Value} (hat : p_at pc M.2.2.2.2.1 = some (i, len)) (hs : p_step G MT M i pc ls st h = some (.inr (.inr (m', as, rest)))) (hM' : MT[m']? = some M') (hMet : p_Met l z D tys d' M' as h v h2) (hR : p_R s z D tys h H) (hS : va_S (fun q => z.2.2 ≤ q) s.heap H locs) (hl : rls.size = M.2.2.1)
    (hfr : d' + 2 ≤ R.frames) (hlo : 60 * (d' + 2) ≤ R.locals) (hc : cells + (h2.length - h.length) ≤ R.cells) (hsl : slots + (p_sl h2 - p_sl h) ≤ R.slots)
    (kk : ∀ (H1 : Heap) (locs1 : List Loc), p_R s z D tys h2 H1 → va_S (fun q => z.2.2 ≤ q) s.heap H1 locs1 → W p l e R s m args below meth c H1 locs1 (cells + (h2.length - h.length)) (slots + (p_sl h2 - p_sl h)) Q (F0 m (pc + 3) rls ((v.map (p_rv z)).toList ++ rest.map (p_rv z)))) : W p l e R s m args below meth c H locs cells slots Q (F0 m pc rls (st.map (p_rv z))) := by
  obtain ⟨hdg0, hln0⟩ := hMO.2.2.1 _ (p_at_mem hat)
  obtain ⟨hx, hb, hml, hown, hts, hnm, hK, hT, hz, hZ⟩ := id X
  have hpre := p_pre (as := as) X hR hS
  unfold p_step at hs
  split at hs
  all_goals first
    | (simp only [p_go] at hs; cases hs; done)
    | (simp only [p_cst, p_ld, p_sv, p_jm, p_br, p_sw, p_al, p_as, p_getf, p_putf, p_new, p_newa, p_ret, p_cc, p_go] at hs; (repeat' split at hs) <;> cases hs; done)
    | skip
  · split at hs
    · next o ho =>
      cases hs
      simp only [p_as, p_go] at ho
      (repeat' split at ho) <;> cases ho
    · simp only [p_as, p_go] at hs
      (repeat' split at hs) <;> cases hs
  · next x =>
    have hdg : decode M.2.1 pc = .ok (.invokestatic x, 3) := by
      have e1 : len = 3 := hln0.elim (fun q => by simp [p_ln] at q) (fun q => q)
      rw [← e1]; exact hdg0
    simp only [p_invs] at hs
    split at hs
    · simp only [p_copy, p_go] at hs
      (repeat' split at hs) <;> cases hs
    · cases hs
    · split at hs
      · next o ho =>
        cases hs
        obtain ⟨n, hp, hn, rfl, hcat⟩ := p_inv_eq ho
        obtain ⟨h1, hw⟩ := hMO.2.2.2.1 _ (p_pk_mem hp)
        simp only [p_o1, hM', Bool.and_eq_true] at h1
        simp only [p_w1, hM'] at hw
        refine p_after (va_runS (As := as.map (p_rv z)) (rest := rest.map (p_rv z)) (own := M.1.cls) ⟨hx, hb, hml, hown, hts⟩ hMet ⟨callB_of n.toNat hts (p_good (hw _ (by simp))) rfl rfl rfl (hts _ (hw _ (by simp))) (hts _ (hw _ (by simp))) (p_par_ok h1.1) ⟨by show d' + 1 + 1 ≤ _; omega, ?_⟩, hts _ (hw _ (by simp))⟩ ⟨p_blind, hpre⟩ rfl (by rw [List.length_map]; exact hn) hl (by show List.map _ _ = _; rw [List.map_append, List.map_reverse]) (by show 2 * 0 + _ ≤ 8; rw [p_catm]; omega) hdg ⟨hc, hsl⟩) hS kk
        have := Nat.le_of_ble_eq_true h1.2
        show 8 + (M'.2.2.1 + 11) + 60 * (d' + 1) ≤ _
        omega
      · obtain ⟨n, hp, hn, rfl, hcat⟩ := p_inv_eq hs
        obtain ⟨h1, hw⟩ := hMO.2.2.2.1 _ (p_pk_mem hp)
        simp only [p_o1, hM', Bool.and_eq_true] at h1
        simp only [p_w1, hM'] at hw
        refine p_after (va_runSN (As := as.map (p_rv z)) (rest := rest.map (p_rv z)) (own := M.1.cls) (host := "CutInMay") ⟨hx, hb, hml, hown, hts⟩ hMet ⟨va_cnB n.toNat hts (p_good (hw _ (by simp))) rfl rfl rfl (hZ.2.1 _ _ _ _ (hMO.2.2.2.2.2.2 _ (p_pk_mem hp) _ (by simp [p_w2, hM']))) (hts _ (hw _ (by simp))) (p_par_ok h1.1) ⟨by show d' + 1 + 1 ≤ _; omega, ?_⟩, hts _ (hw _ (by simp)), trivial⟩ ⟨p_blind, hpre⟩ rfl (by rw [List.length_map]; exact hn) hl (by show List.map _ _ = _; rw [List.map_append, List.map_reverse]) (by show 2 * 0 + _ ≤ 8; rw [p_catm]; omega) hdg ⟨hc, hsl⟩) hS kk
        have := Nat.le_of_ble_eq_true h1.2
        show 8 + (M'.2.2.1 + 11) + 60 * (d' + 1) ≤ _
        omega
  · next x =>
    have hdg : decode M.2.1 pc = .ok (.invokevirtual x, 3) := by
      have e1 : len = 3 := hln0.elim (fun q => by simp [p_ln] at q) (fun q => q)
      rw [← e1]; exact hdg0
    simp only [p_vir] at hs
    split at hs
    · simp only [p_clone, p_go] at hs
      (repeat' split at hs) <;> cases hs
    · cases hs
    simp only [p_invv] at hs
    split at hs
    · next k a as' rest' ho =>
      split at hs
      · next N ci vs hN ha =>
        split at hs
        · next hci =>
          simp only [Option.some.injEq, Sum.inr.injEq, Prod.mk.injEq] at hs
          obtain ⟨rfl, rfl, rfl⟩ := hs
          obtain rfl : N = M' := Option.some.inj (hN.symm.trans hM')
          obtain rfl : N.2.2.2.2.2.2.2 = ci := Nat.eq_of_beq_eq_true hci
          obtain ⟨n, hp, hn, rfl, hcat⟩ := p_inv_eq ho
          obtain ⟨h1, hw⟩ := hMO.2.2.2.1 _ (p_pk_mem hp)
          simp only [p_o1, hM', Bool.and_eq_true] at h1
          simp only [p_w1, hM'] at hw
          obtain ⟨hb0, r, hr, hlen, cellB, g1, g2, g3, -⟩ := hR.obj ha
          have hrn : r.1 = N.1.cls := (hTO.2.1 N (List.mem_of_getElem? hM')).2.2.2.2.2.1 r hr
          have hcls : s.vm.findClass N.1.cls = some cellB.cls := by rw [g2, ← hrn]; exact (hK.1 _ r hr).2.1
          have hn' : as'.length = n.toNat - 1 := by rw [List.length_cons] at hn; omega
          refine p_after (va_runV (As := as'.map (p_rv z)) (rest := rest'.map (p_rv z)) (own := M.1.cls) (C := N.1.cls) (b := p_ad z a) ⟨hx, hb, hml, hown, hts⟩ hMet ⟨callB_of (n.toNat - 1) hts (p_good (hw _ (by simp))) rfl rfl rfl (hts _ (hw _ (by simp))) (hts _ (hw _ (by simp))) (p_par_ok h1.1.1) ⟨by show d' + 1 + 1 ≤ _; omega, ?_⟩, hts _ (hw _ (by simp)), hts _ (hw _ (by simp))⟩ ⟨p_blind, ⟨cellB, g1, by rw [g3]; rfl, hcls⟩, hpre⟩ rfl (by rw [List.length_map]; exact hn') hl (by show List.map _ _ = _; rw [List.map_append, List.map_reverse, List.map_cons, List.reverse_cons, List.append_assoc]; rfl) (by show 2 * 0 + _ ≤ 8; rw [p_catm]; omega) hdg ⟨hc, hsl⟩) hS kk
          have := Nat.le_of_ble_eq_true h1.2
          show 8 + (N.2.2.1 + 11) + 60 * (d' + 1) ≤ _
          omega
        · cases hs
      · cases hs
    · cases hs
  · next x =>
    have hdg : decode M.2.1 pc = .ok (.invokespecial x, 3) := by
      have e1 : len = 3 := hln0.elim (fun q => by simp [p_ln] at q) (fun q => q)
      rw [← e1]; exact hdg0
    simp only [p_invi] at hs
    split at hs
    · simp only [p_go] at hs
      (repeat' split at hs) <;> cases hs
    · cases hs
    · split at hs
      · next k a as' rest' ho =>
        simp only [Option.some.injEq, Sum.inr.injEq, Prod.mk.injEq] at hs
        obtain ⟨rfl, rfl, rfl⟩ := hs
        obtain ⟨n, hp, hn, rfl, hcat⟩ := p_inv_eq ho
        obtain ⟨h1, hw⟩ := hMO.2.2.2.1 _ (p_pk_mem hp)
        simp only [p_o1, hM', Bool.and_eq_true, decide_eq_true_eq] at h1
        simp only [p_w1, hM'] at hw
        have hn' : as'.length = n.toNat - 1 := by rw [List.length_cons] at hn; omega
        have hMet' : Met l M'.1 (.code M'.1 M'.2.1 M'.2.2.1 none :: p_big) (p_rm d' (h2.length - h.length) (p_sl h2 - p_sl h)) (p_Pre z D tys (.ref a :: as') h) (p_Post z D tys v h2) (h2.length - h.length) (p_sl h2 - p_sl h) (fun q => z.2.2 ≤ q) := by
          rw [← h1.2]; exact hMet
        refine p_after (va_runI (As := as'.map (p_rv z)) (rest := rest'.map (p_rv z)) (own := M.1.cls) (b := p_ad z a) ⟨hx, hb, hml, hown, hts⟩ hMet' ⟨callB_of (n.toNat - 1) hts (p_good (by rw [← h1.2]; exact hw _ (by simp))) rfl rfl rfl (hts _ (hw _ (by simp))) (hts _ (hw _ (by simp))) (p_par_ok h1.1.1.1.1) ⟨by show d' + 1 + 1 ≤ _; omega, ?_⟩, h1.1.2, hts _ (hw _ (by simp))⟩ ⟨p_blind, hpre⟩ rfl (by rw [List.length_map]; exact hn') hl (by show List.map _ _ = _; rw [List.map_append, List.map_reverse, List.map_cons, List.reverse_cons, List.append_assoc]; rfl) (by show 2 * 0 + _ ≤ 8; rw [p_catm]; omega) hdg ⟨hc, hsl⟩) hS kk
        have := Nat.le_of_ble_eq_true h1.1.1.2
        show 8 + (M'.2.2.1 + 11) + 60 * (d' + 1) ≤ _
        omega
      · cases hs
  · cases hs
end PC
end
section
/-! A heap only grows; a whole body; a method -/
section PF
variable {G : p_G} {MT : List p_M} {M : p_M} {h h1 : p_H} {pc pc1 : Nat} {ls ls1 : p_Ls} {st st1 : List Value}
def p_le (h h1 : p_H) : Prop := h.length ≤ h1.length ∧ p_sl h ≤ p_sl h1
theorem p_le.rf : p_le h h := ⟨Nat.le_refl _, Nat.le_refl _⟩
theorem p_le.tr {h2 : p_H} (a : p_le h h1) (b : p_le h1 h2) : p_le h h2 := ⟨Nat.le_trans a.1 b.1, Nat.le_trans a.2 b.2⟩
theorem p_le.go {pc' : Nat} {ls' : p_Ls} {st' : List Value} (hs : p_go pc' ls' st' h = some (.inl (pc1, ls1, st1, h1))) : p_le h h1 := by
  obtain ⟨-, -, -, rfl⟩ := p_go_eq hs
  exact p_le.rf
theorem p_le.put {pc' a : Nat} {ls' : p_Ls} {st' : List Value} {c0 c1 : p_C} (ha : h[a]? = some c0) (hl : c1.2.2.length = c0.2.2.length) (hs : p_go pc' ls' st' (h.set a c1) = some (.inl (pc1, ls1, st1, h1))) : p_le h h1 := by
  obtain ⟨-, -, -, rfl⟩ := p_go_eq hs
  exact ⟨by rw [List.length_set]; exact Nat.le_refl _, by rw [p_sl_set ha hl]; exact Nat.le_refl _⟩
theorem p_le.new {pc' : Nat} {ls' : p_Ls} {st' : List Value} {c1 : p_C} (hs : p_go pc' ls' st' (h ++ [c1]) = some (.inl (pc1, ls1, st1, h1))) : p_le h h1 := by
  obtain ⟨-, -, -, rfl⟩ := p_go_eq hs
  exact ⟨by rw [List.length_append]; omega, by rw [p_sl_app]; omega⟩
theorem p_le.as {t : Nat} {x : Value} {i : Int32} {a pc' : Nat} (hs : p_as t x i a pc' ls st h = some (.inl (pc1, ls1, st1, h1))) : p_le h h1 := by
  simp only [p_as] at hs
  split at hs
  · next sort t' vs ha =>
    split at hs
    · split at hs
      · exact p_le.put ha (by simp) hs
      · cases hs
    · cases hs
  · cases hs
set_option maxHeartbeats 1000000 in
theorem p_le.step {i : Instr} (hs : p_step G MT M i pc ls st h = some (.inl (pc1, ls1, st1, h1))) : p_le h h1 := by
  unfold p_step at hs
  split at hs
  all_goals first
    | exact p_le.go hs
    | ((try simp only [p_cst, p_ld, p_sv, p_jm, p_br, p_sw, p_al, p_getf, p_ret, p_cc] at hs); (repeat' split at hs) <;> first | exact p_le.go hs | (cases hs; done))
    | exact p_le.as hs
    | (simp only [p_new, p_newa] at hs; (repeat' split at hs) <;> first | exact p_le.new hs | (cases hs; done))
    | ((repeat' split at hs) <;> first | exact p_le.as hs | (cases hs; done))
    | skip
  · split at hs
    · next o ho => cases hs; exact p_le.as ho
    · exact p_le.as hs
  · simp only [p_putf] at hs
    split at hs
    · next ci k ci' vs hp ha =>
      split at hs
      · next hci =>
        split at hs
        · split at hs
          · exact p_le.put ha (by simp) hs
          · cases hs
        · cases hs
      · cases hs
    · cases hs
  · simp only [p_invs] at hs
    split at hs
    · simp only [p_copy] at hs
      split at hs
      · next vs ws g0 g1 =>
        split at hs
        · next hc =>
          refine p_le.put g1 ?_ hs
          simp only [p_cpy, List.length_append, List.length_take, List.length_drop]; omega
        · cases hs
      · cases hs
    · cases hs
    · simp only [p_inv] at hs
      (repeat' split at hs) <;> first | (cases hs; done) | skip
      all_goals (next o ho => (repeat' split at ho) <;> (cases ho; try cases hs))
  · simp only [p_vir] at hs
    split at hs
    · simp only [p_clone] at hs
      (repeat' split at hs) <;> first | exact p_le.new hs | (cases hs; done)
    · cases hs
    · simp only [p_invv] at hs
      (repeat' split at hs) <;> cases hs
  · simp only [p_invi] at hs
    (repeat' split at hs) <;> first | exact p_le.go hs | (cases hs; done)
theorem p_le.run : ∀ (n d : Nat) (M : p_M) (pc : Nat) (ls : p_Ls) (st : List Value) (h : p_H) (v : Option Value) (h2 : p_H), p_run G MT n d M pc ls st h = some (v, h2) → p_le h h2 := by
  intro n
  induction n with
  | zero => intro d M pc ls st h v h2 hs; simp [p_run] at hs
  | succ n ih =>
    intro d M pc ls st h v h2 hs
    simp only [p_run] at hs
    split at hs
    · cases hs
    · next i len hat =>
      split at hs
      · cases hs
      · next pc1 ls1 st1 h1 hst => exact (p_le.step hst).tr (ih _ _ _ _ _ _ _ _ hs)
      · next w hst => cases hs; exact p_le.rf
      · next m' as rest hst =>
        split at hs
        · next d' M' hm =>
          split at hs
          · split at hs
            · next w h1 hc => exact (ih _ _ _ _ _ _ _ _ hc).tr (ih _ _ _ _ _ _ _ _ hs)
            · cases hs
          · cases hs
        · cases hs
end PF
end
section
/-! What the pure machine does, the machine does: of a body, and of a method at its arguments -/
def p_RI (i : Instr) (rt : Option FieldType) (v : Option Value) : Prop :=
  (i = .return_ ∧ v = none ∧ rt = none) ∨ (i = .ireturn ∧ ∃ x ty, v = some (.int x) ∧ rt = some ty ∧ narrow ty (.int x) = .int x) ∨ (i = .lreturn ∧ ∃ x, v = some (.long x) ∧ rt = some .long) ∨
  (i = .areturn ∧ ∃ w ty, v = some w ∧ rt = some ty ∧ ((∃ n, ty = .object n) ∨ ∃ t, ty = .array t) ∧ (w = .null ∨ ∃ a, w = .ref a))
set_option maxHeartbeats 1000000 in
theorem p_ret_ok {G : p_G} {MT : List p_M} {M : p_M} {i : Instr} {pc : Nat} {ls : p_Ls} {st : List Value} {h : p_H} {v : Option Value} (hs : p_step G MT M i pc ls st h = some (.inr (.inl v))) : st = v.toList ∧ p_RI i M.2.2.2.1 v := by
  unfold p_step at hs
  split at hs
  all_goals first
    | (simp only [p_go] at hs; cases hs; done)
    | ((try simp only [p_cst, p_ld, p_sv, p_jm, p_br, p_sw, p_al, p_as, p_getf, p_putf, p_new, p_newa, p_cc, p_go] at hs); (repeat' split at hs) <;> cases hs; done)
    | (simp only [p_invs, p_copy, p_inv, p_go] at hs; (repeat' split at hs) <;> first | (cases hs; done) | (next o ho => (repeat' split at ho) <;> (cases ho; try cases hs)))
    | (simp only [p_vir, p_clone, p_invv, p_invi, p_inv, p_go] at hs; (repeat' split at hs) <;> first | (cases hs; done) | (next o ho => (repeat' split at ho) <;> (cases ho; try cases hs)))
    | skip
  · split at hs
    · next o ho =>
      cases hs
      simp only [p_as, p_go] at ho
      (repeat' split at ho) <;> cases ho
    · simp only [p_as, p_go] at hs
      (repeat' split at hs) <;> cases hs
  all_goals
    generalize hrt : M.2.2.2.1 = rt at hs
    simp only [p_ret] at hs
    repeat' split at hs
  all_goals first | (cases hs; done) | skip
  all_goals (simp only [Option.some.injEq, Sum.inr.injEq, Sum.inl.injEq] at hs; subst hs; simp_all [p_RI])
theorem p_args_map (z : Nat × Nat × Nat) : ∀ (as : List Value) (i : Nat), lv_args i (as.map (p_rv z)) = (lv_args i as).map (p_rq z) := by
  intro as
  induction as with
  | nil => intro i; rfl
  | cons v vs ih =>
    intro i
    simp only [List.map_cons, lv_args, p_rv_cat, ih]
    rfl
theorem p_sl_len : ∀ vs : List Value, (lg_sl vs).length = p_cat vs := by
  intro vs
  induction vs with
  | nil => rfl
  | cons v vs ih =>
    simp only [lg_sl, List.flatMap_cons, List.length_append, p_cat, List.map_cons, List.sum_cons] at ih ⊢
    rw [ih]
    rcases lv_cat v with q | q <;> simp [q]
/-- the frame of a body -/
def p_Fr (G : p_G) (MT : List p_M) (n : Nat) : Prop := ∀ (d : Nat) (M : p_M) (pc : Nat) (ls : p_Ls) (st : List Value) (h : p_H) (v : Option Value) (h2 : p_H), p_run G MT n d M pc ls st h = some (v, h2) → p_MO MT M →
  ∀ (l : Launch) (z : Nat × Nat × Nat) (D : va_G) (tys : List (ClassId × FieldType)) (p : Program) (e : Env) (R : Room) (s : State) (m : MethodId) (args : Array Value) (below : List Frame) (meth : Method) (c : Code) (H : Heap) (locs : List Loc) (cells slots : Nat) (Q : State → Prop) (rls : Array Slot),
    p_X M z D tys p s m args meth c → p_R s z D tys h H → va_S (fun q => z.2.2 ≤ q) s.heap H locs → lv_has rls M.2.2.1 (ls.map (p_rq z)) → d + 1 ≤ R.frames → 60 * (d + 1) ≤ R.locals → cells + (h2.length - h.length) ≤ R.cells → slots + (p_sl h2 - p_sl h) ≤ R.slots →
    (∀ (pc' : Nat) (i : Instr) (rls' : Array Slot) (H' : Heap) (locs' : List Loc), decode M.2.1 pc' = .ok (i, 1) → p_RI i M.2.2.2.1 v → p_R s z D tys h2 H' → va_S (fun q => z.2.2 ≤ q) s.heap H' locs' → W p l e R s m args below meth c H' locs' (cells + (h2.length - h.length)) (slots + (p_sl h2 - p_sl h)) Q (F0 m pc' rls' (v.toList.map (p_rv z)))) →
    W p l e R s m args below meth c H locs cells slots Q (F0 m pc rls (st.map (p_rv z)))
theorem p_met {G : p_G} {MT : List p_M} {n : Nat} (hF : p_Fr G MT n) {d : Nat} {M : p_M} {as : List Value} {h : p_H} {v : Option Value} {h2 : p_H} (hrun : p_run G MT n d M 0 (lv_args 0 as) [] h = some (v, h2)) (hMO : p_MO MT M) (hcat : p_cat as ≤ M.2.2.1) {tys : List (ClassId × FieldType)} (hT : p_KT tys) (l : Launch) (z : Nat × Nat × Nat) (D : va_G) : p_Met l z D tys d M as h v h2 := by
  refine Met.ofW (cc := M.2.1) (maxL := M.2.2.1) (ret := M.2.2.2.1) hMO.1 rfl ?_
  intro p e s m args below meth c s₁ B hml hv
  obtain ⟨rfl, hR, hK, hz, hZ, hN⟩ := hv
  have hx := B.exec
  have hb := B.bytes
  have hr := B.returns
  have hts := atoms_spec (ws := .code M.1 M.2.1 M.2.2.1 M.2.2.2.1 :: p_big) B.pre
  have hown : s.vm.findClass M.1.cls = some m.cls := findClass_of_methodNamed B.named
  have hlocks := B.notSynchronized
  have hnm : meth.name = M.1.name := (name_of_methodNamed B.named B.method).1
  have hcat' : p_cat (as.map (p_rv z)) ≤ M.2.2.1 := by
    have : p_cat (as.map (p_rv z)) = p_cat as := p_catm as
    rw [this]; exact hcat
  have hl := lv_entry (as.map (p_rv z)) (n := M.2.2.1) (by rw [p_sl_len]; exact hcat')
  rw [p_args_map] at hl
  rw [lg_entry_eq]
  refine hF d M 0 (lv_args 0 as) [] h v h2 hrun hMO l z D tys p e _ s m _ below meth c s.heap [] 0 0 _ _ ⟨hx, hb, hml, hown, fun w hw => hts w (List.mem_cons_of_mem _ hw), (fun _ => hnm), hK, hT, hz, hZ, hN⟩ hR va_S.rf hl (Nat.le_refl _) (Nat.le_refl _) (by show 0 + _ ≤ h2.length - h.length; omega) (by show 0 + _ ≤ p_sl h2 - p_sl h; omega) ?_
  intro pc' i rls' H' locs' hdg hRI hR' hS'
  have hq : ∀ t : State, t.heap = H' → s.WarmedH t.vm → p_Post z D tys v h2 (as.map (p_rv z)).toArray s (.returned (v.map (p_rv z))) t := by
    intro t ht hW
    exact ⟨rfl, by rw [ht]; exact hR'.moved hW.alike, hS'.F ht⟩
  simp only [Nat.zero_add]
  rcases hRI with ⟨rfl, rfl, hrt⟩ | ⟨rfl, x, ty, rfl, hrt, hnar⟩ | ⟨rfl, x, rfl, hrt⟩ | ⟨rfl, w, ty, rfl, hrt, hty, hw⟩
  · exact W.vret hx hb (hr.trans hrt) hq hS'.2.2 hdg
  · exact W.zret hx hb (hr.trans hrt) hnar hq hS'.2.2 hdg
  · exact W.lret hx hb (hr.trans hrt) hq hS'.2.2 hdg
  · refine W.aret hx hb (hr.trans hrt) hty ?_ hq hS'.2.2 hdg
    rcases hw with rfl | ⟨a, rfl⟩
    · exact Or.inl rfl
    · exact Or.inr ⟨_, rfl⟩
set_option maxHeartbeats 1000000 in
theorem p_frame {G : p_G} {MT : List p_M} (hTO : p_TO G MT) : ∀ n, p_Fr G MT n := by
  intro n
  induction n with
  | zero => intro d M pc ls st h v h2 hs; simp [p_run] at hs
  | succ n ih =>
    intro d M pc ls st h v h2 hs hMO l z D tys p e R s m args below meth c H locs cells slots Q rls X hR hS hl hfr hlo hc hsl hret
    simp only [p_run] at hs
    split at hs
    · cases hs
    · next i len hat =>
      split at hs
      · cases hs
      · next pc1 ls1 st1 h1 hst =>
        have l1 := p_le.step hst
        have l2 := p_le.run _ _ _ _ _ _ _ _ _ hs
        refine p_next hTO hMO X hat hst hR hS hl (by omega) (by omega) (by have := l1.1; have := l2.1; omega) (by have := l1.2; have := l2.2; omega) ?_
        intro rls1 H1 locs1 hR1 hS1 hl1
        have e1 : cells + (h1.length - h.length) + (h2.length - h1.length) = cells + (h2.length - h.length) := by have := l1.1; have := l2.1; omega
        have e2 : slots + (p_sl h1 - p_sl h) + (p_sl h2 - p_sl h1) = slots + (p_sl h2 - p_sl h) := by have := l1.2; have := l2.2; omega
        refine ih d M pc1 ls1 st1 h1 v h2 hs hMO l z D tys p e R s m args below meth c H1 locs1 _ _ Q rls1 X hR1 hS1 hl1 hfr hlo (by rw [e1]; exact hc) (by rw [e2]; exact hsl) ?_
        rw [e1, e2]
        exact hret
      · next w hst =>
        cases hs
        obtain ⟨rfl, hRI⟩ := p_ret_ok hst
        obtain ⟨hdg0, hln0⟩ := hMO.2.2.1 _ (p_at_mem hat)
        have hdg : decode M.2.1 pc = .ok (i, 1) := by
          have e1 : len = 1 := by
            rcases hRI with ⟨rfl, -⟩ | ⟨rfl, -⟩ | ⟨rfl, -⟩ | ⟨rfl, -⟩ <;> exact hln0.elim (fun q => by simp [p_ln] at q) (fun q => q)
          rw [← e1]; exact hdg0
        have := hret pc i rls H locs hdg hRI hR hS
        rw [Nat.sub_self, Nat.sub_self] at this
        exact this
      · next m' as rest hst =>
        split at hs
        · next d' M' hm =>
          split at hs
          · next hcat =>
            split at hs
            · next w h1 hcal =>
              have l1 := p_le.run _ _ _ _ _ _ _ _ _ hcal
              have l2 := p_le.run _ _ _ _ _ _ _ _ _ hs
              have hMet := p_met ih hcal (hTO.2.1 M' (List.mem_of_getElem? hm)) hcat X.2.2.2.2.2.2.2.1 l z D
              refine p_call hTO hMO X hat hst hm hMet hR hS hl.1 (by omega) (by omega) (by have := l1.1; have := l2.1; omega) (by have := l1.2; have := l2.2; omega) ?_
              intro H1 locs1 hR1 hS1
              have e1 : cells + (h1.length - h.length) + (h2.length - h1.length) = cells + (h2.length - h.length) := by have := l1.1; have := l2.1; omega
              have e2 : slots + (p_sl h1 - p_sl h) + (p_sl h2 - p_sl h1) = slots + (p_sl h2 - p_sl h) := by have := l1.2; have := l2.2; omega
              have e3 : (w.map (p_rv z)).toList ++ rest.map (p_rv z) = (w.toList ++ rest).map (p_rv z) := by cases w <;> simp
              rw [e3]
              refine ih _ M (pc + 3) ls (w.toList ++ rest) h1 v h2 hs hMO l z D tys p e R s m args below meth c H1 locs1 _ _ Q rls X hR1 hS1 hl hfr hlo (by rw [e1]; exact hc) (by rw [e2]; exact hsl) ?_
              rw [e1, e2]
              exact hret
            · cases hs
          · cases hs
        · cases hs
end
