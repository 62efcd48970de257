-- ===== PART A: goes FIRST, ahead of the names: the tables' words, and 'selects' of the private methods out of them =====
/-- a private method of a class that the tables say can be made, by its rows of tables_1 -/
def lw_okq (q : MethodName × Nat) : Prop := (q.1.cls ≠ "java/lang/invoke/MethodHandle" ∧ q.1.cls ≠ "java/lang/invoke/VarHandle") ∧ Cond.instantiable q.1.cls q.2 ∈ tables_1 ∧ Cond.privateMethod q.1 ∈ tables_1 ∧ Cond.instanceMethod q.1 ∈ tables_1
theorem lw_p0 : lw_okq (⟨"HammockDeck$Berths", "takeAllDown", "()V"⟩, 5) := ⟨⟨by decide +kernel, by decide +kernel⟩, List.mem_of_getElem? (i := 63) (by decide +kernel), List.mem_of_getElem? (i := 83) (by decide +kernel), List.mem_of_getElem? (i := 84) (by decide +kernel)⟩
theorem lw_p1 : lw_okq (⟨"HammockDeck", "rowAt", "(I)LHammockDeck$Row;"⟩, 12) := ⟨⟨by decide +kernel, by decide +kernel⟩, List.mem_of_getElem? (i := 13) (by decide +kernel), List.mem_of_getElem? (i := 183) (by decide +kernel), List.mem_of_getElem? (i := 184) (by decide +kernel)⟩
theorem lw_p2 : lw_okq (⟨"HammockDeck", "renewed", "(LHammockDeck$Row;III)I"⟩, 12) := ⟨⟨by decide +kernel, by decide +kernel⟩, List.mem_of_getElem? (i := 13) (by decide +kernel), List.mem_of_getElem? (i := 187) (by decide +kernel), List.mem_of_getElem? (i := 188) (by decide +kernel)⟩
theorem lw_p3 : lw_okq (⟨"HammockDeck", "found", "(I)I"⟩, 12) := ⟨⟨by decide +kernel, by decide +kernel⟩, List.mem_of_getElem? (i := 13) (by decide +kernel), List.mem_of_getElem? (i := 191) (by decide +kernel), List.mem_of_getElem? (i := 192) (by decide +kernel)⟩
theorem lw_p4 : lw_okq (⟨"HammockDeck", "tell", "(I)V"⟩, 12) := ⟨⟨by decide +kernel, by decide +kernel⟩, List.mem_of_getElem? (i := 13) (by decide +kernel), List.mem_of_getElem? (i := 223) (by decide +kernel), List.mem_of_getElem? (i := 224) (by decide +kernel)⟩
theorem lw_p5 : lw_okq (⟨"HammockDeck", "textAt", "(I)LHammockDeck$Row;"⟩, 12) := ⟨⟨by decide +kernel, by decide +kernel⟩, List.mem_of_getElem? (i := 13) (by decide +kernel), List.mem_of_getElem? (i := 270) (by decide +kernel), List.mem_of_getElem? (i := 271) (by decide +kernel)⟩
theorem lw_p6 : lw_okq (⟨"HammockDeck$Reader", "skipBlanks", "()V"⟩, 3) := ⟨⟨by decide +kernel, by decide +kernel⟩, List.mem_of_getElem? (i := 282) (by decide +kernel), List.mem_of_getElem? (i := 302) (by decide +kernel), List.mem_of_getElem? (i := 303) (by decide +kernel)⟩
theorem lw_p7 : lw_okq (⟨"HammockDeck$Reader", "readHooks", "()Z"⟩, 3) := ⟨⟨by decide +kernel, by decide +kernel⟩, List.mem_of_getElem? (i := 282) (by decide +kernel), List.mem_of_getElem? (i := 307) (by decide +kernel), List.mem_of_getElem? (i := 308) (by decide +kernel)⟩
theorem lw_p8 : lw_okq (⟨"HammockDeck$Reader", "letterIn", "([C)I"⟩, 3) := ⟨⟨by decide +kernel, by decide +kernel⟩, List.mem_of_getElem? (i := 282) (by decide +kernel), List.mem_of_getElem? (i := 314) (by decide +kernel), List.mem_of_getElem? (i := 315) (by decide +kernel)⟩
theorem lw_p9 : lw_okq (⟨"HammockDeck$Reader", "readMan", "()Z"⟩, 3) := ⟨⟨by decide +kernel, by decide +kernel⟩, List.mem_of_getElem? (i := 282) (by decide +kernel), List.mem_of_getElem? (i := 327) (by decide +kernel), List.mem_of_getElem? (i := 328) (by decide +kernel)⟩
theorem lw_p10 : lw_okq (⟨"HammockDeck$Reader", "readFigure", "(II)I"⟩, 3) := ⟨⟨by decide +kernel, by decide +kernel⟩, List.mem_of_getElem? (i := 282) (by decide +kernel), List.mem_of_getElem? (i := 333) (by decide +kernel), List.mem_of_getElem? (i := 334) (by decide +kernel)⟩
theorem lw_p11 : lw_okq (⟨"HammockDeck$Berths", "bitOfWhoIsInAt", "(II)I"⟩, 5) := ⟨⟨by decide +kernel, by decide +kernel⟩, List.mem_of_getElem? (i := 63) (by decide +kernel), List.mem_of_getElem? (i := 396) (by decide +kernel), List.mem_of_getElem? (i := 397) (by decide +kernel)⟩
theorem lw_p12 : lw_okq (⟨"HammockDeck$Berths", "wakingsFrom", "(III)I"⟩, 5) := ⟨⟨by decide +kernel, by decide +kernel⟩, List.mem_of_getElem? (i := 63) (by decide +kernel), List.mem_of_getElem? (i := 426) (by decide +kernel), List.mem_of_getElem? (i := 427) (by decide +kernel)⟩
theorem lw_p13 : lw_okq (⟨"HammockDeck", "sleptThrough", "(I)I"⟩, 12) := ⟨⟨by decide +kernel, by decide +kernel⟩, List.mem_of_getElem? (i := 13) (by decide +kernel), List.mem_of_getElem? (i := 482) (by decide +kernel), List.mem_of_getElem? (i := 483) (by decide +kernel)⟩
theorem lw_p14 : lw_okq (⟨"HammockDeck", "isKeptPlace", "(I)Z"⟩, 12) := ⟨⟨by decide +kernel, by decide +kernel⟩, List.mem_of_getElem? (i := 13) (by decide +kernel), List.mem_of_getElem? (i := 508) (by decide +kernel), List.mem_of_getElem? (i := 509) (by decide +kernel)⟩
theorem lw_p15 : lw_okq (⟨"HammockDeck", "wakingsWithout", "(III)I"⟩, 12) := ⟨⟨by decide +kernel, by decide +kernel⟩, List.mem_of_getElem? (i := 13) (by decide +kernel), List.mem_of_getElem? (i := 554) (by decide +kernel), List.mem_of_getElem? (i := 555) (by decide +kernel)⟩
def lw_privs_1 : List (MethodName × Nat) := [(⟨"HammockDeck$Berths", "takeAllDown", "()V"⟩, 5), (⟨"HammockDeck", "rowAt", "(I)LHammockDeck$Row;"⟩, 12), (⟨"HammockDeck", "renewed", "(LHammockDeck$Row;III)I"⟩, 12), (⟨"HammockDeck", "found", "(I)I"⟩, 12), (⟨"HammockDeck", "tell", "(I)V"⟩, 12), (⟨"HammockDeck", "textAt", "(I)LHammockDeck$Row;"⟩, 12), (⟨"HammockDeck$Reader", "skipBlanks", "()V"⟩, 3), (⟨"HammockDeck$Reader", "readHooks", "()Z"⟩, 3), (⟨"HammockDeck$Reader", "letterIn", "([C)I"⟩, 3), (⟨"HammockDeck$Reader", "readMan", "()Z"⟩, 3), (⟨"HammockDeck$Reader", "readFigure", "(II)I"⟩, 3), (⟨"HammockDeck$Berths", "bitOfWhoIsInAt", "(II)I"⟩, 5), (⟨"HammockDeck$Berths", "wakingsFrom", "(III)I"⟩, 5), (⟨"HammockDeck", "sleptThrough", "(I)I"⟩, 12), (⟨"HammockDeck", "isKeptPlace", "(I)Z"⟩, 12), (⟨"HammockDeck", "wakingsWithout", "(III)I"⟩, 12)]
theorem lw_r1 : ∀ q ∈ lw_privs_1, lw_okq q := List.forall_mem_cons.mpr ⟨lw_p0, List.forall_mem_cons.mpr ⟨lw_p1, List.forall_mem_cons.mpr ⟨lw_p2, List.forall_mem_cons.mpr ⟨lw_p3, List.forall_mem_cons.mpr ⟨lw_p4, List.forall_mem_cons.mpr ⟨lw_p5, List.forall_mem_cons.mpr ⟨lw_p6, List.forall_mem_cons.mpr ⟨lw_p7, List.forall_mem_cons.mpr ⟨lw_p8, List.forall_mem_cons.mpr ⟨lw_p9, List.forall_mem_cons.mpr ⟨lw_p10, List.forall_mem_cons.mpr ⟨lw_p11, List.forall_mem_cons.mpr ⟨lw_p12, List.forall_mem_cons.mpr ⟨lw_p13, List.forall_mem_cons.mpr ⟨lw_p14, List.forall_mem_cons.mpr ⟨lw_p15, fun _ h => absurd h List.not_mem_nil⟩⟩⟩⟩⟩⟩⟩⟩⟩⟩⟩⟩⟩⟩⟩⟩
theorem lw_p16 : lw_okq (⟨"HammockDeck", "leastPlan", "(IILHammockDeck$Row;)I"⟩, 12) := ⟨⟨by decide +kernel, by decide +kernel⟩, List.mem_of_getElem? (i := 13) (by decide +kernel), List.mem_of_getElem? (i := 566) (by decide +kernel), List.mem_of_getElem? (i := 567) (by decide +kernel)⟩
theorem lw_p17 : lw_okq (⟨"HammockDeck", "beginPlans", "()V"⟩, 12) := ⟨⟨by decide +kernel, by decide +kernel⟩, List.mem_of_getElem? (i := 13) (by decide +kernel), List.mem_of_getElem? (i := 571) (by decide +kernel), List.mem_of_getElem? (i := 572) (by decide +kernel)⟩
theorem lw_p18 : lw_okq (⟨"HammockDeck", "weighed", "(II)I"⟩, 12) := ⟨⟨by decide +kernel, by decide +kernel⟩, List.mem_of_getElem? (i := 13) (by decide +kernel), List.mem_of_getElem? (i := 580) (by decide +kernel), List.mem_of_getElem? (i := 581) (by decide +kernel)⟩
theorem lw_p19 : lw_okq (⟨"HammockDeck$Berths", "moveOn", "(I)Z"⟩, 5) := ⟨⟨by decide +kernel, by decide +kernel⟩, List.mem_of_getElem? (i := 63) (by decide +kernel), List.mem_of_getElem? (i := 592) (by decide +kernel), List.mem_of_getElem? (i := 593) (by decide +kernel)⟩
theorem lw_p20 : lw_okq (⟨"HammockDeck", "firstGladPair", "(I)I"⟩, 12) := ⟨⟨by decide +kernel, by decide +kernel⟩, List.mem_of_getElem? (i := 13) (by decide +kernel), List.mem_of_getElem? (i := 622) (by decide +kernel), List.mem_of_getElem? (i := 623) (by decide +kernel)⟩
theorem lw_p21 : lw_okq (⟨"HammockDeck", "wouldBothGladlyChange", "(III)Z"⟩, 12) := ⟨⟨by decide +kernel, by decide +kernel⟩, List.mem_of_getElem? (i := 13) (by decide +kernel), List.mem_of_getElem? (i := 626) (by decide +kernel), List.mem_of_getElem? (i := 627) (by decide +kernel)⟩
theorem lw_p22 : lw_okq (⟨"HammockDeck$Berths", "hasBulkierNeighbour", "(II)Z"⟩, 5) := ⟨⟨by decide +kernel, by decide +kernel⟩, List.mem_of_getElem? (i := 63) (by decide +kernel), List.mem_of_getElem? (i := 651) (by decide +kernel), List.mem_of_getElem? (i := 652) (by decide +kernel)⟩
theorem lw_p23 : lw_okq (⟨"HammockDeck", "countFitting", "(LHammockDeck$Row;)V"⟩, 12) := ⟨⟨by decide +kernel, by decide +kernel⟩, List.mem_of_getElem? (i := 13) (by decide +kernel), List.mem_of_getElem? (i := 664) (by decide +kernel), List.mem_of_getElem? (i := 665) (by decide +kernel)⟩
theorem lw_p24 : lw_okq (⟨"HammockDeck", "fitsBook", "(LHammockDeck$Row;)Z"⟩, 12) := ⟨⟨by decide +kernel, by decide +kernel⟩, List.mem_of_getElem? (i := 13) (by decide +kernel), List.mem_of_getElem? (i := 668) (by decide +kernel), List.mem_of_getElem? (i := 669) (by decide +kernel)⟩
theorem lw_p25 : lw_okq (⟨"HammockDeck", "fitsBookBy", "(ILHammockDeck$Row;)Z"⟩, 12) := ⟨⟨by decide +kernel, by decide +kernel⟩, List.mem_of_getElem? (i := 13) (by decide +kernel), List.mem_of_getElem? (i := 672) (by decide +kernel), List.mem_of_getElem? (i := 673) (by decide +kernel)⟩
theorem lw_p26 : lw_okq (⟨"HammockDeck", "tellMean", "(JJ)V"⟩, 12) := ⟨⟨by decide +kernel, by decide +kernel⟩, List.mem_of_getElem? (i := 13) (by decide +kernel), List.mem_of_getElem? (i := 680) (by decide +kernel), List.mem_of_getElem? (i := 681) (by decide +kernel)⟩
theorem lw_p27 : lw_okq (⟨"HammockDeck", "counted", "(I)I"⟩, 12) := ⟨⟨by decide +kernel, by decide +kernel⟩, List.mem_of_getElem? (i := 13) (by decide +kernel), List.mem_of_getElem? (i := 717) (by decide +kernel), List.mem_of_getElem? (i := 718) (by decide +kernel)⟩
theorem lw_p28 : lw_okq (⟨"HammockDeck", "howManyKept", "()I"⟩, 12) := ⟨⟨by decide +kernel, by decide +kernel⟩, List.mem_of_getElem? (i := 13) (by decide +kernel), List.mem_of_getElem? (i := 728) (by decide +kernel), List.mem_of_getElem? (i := 729) (by decide +kernel)⟩
theorem lw_p29 : lw_okq (⟨"HammockDeckModel", "find", "(I)I"⟩, 26) := ⟨⟨by decide +kernel, by decide +kernel⟩, List.mem_of_getElem? (i := 751) (by decide +kernel), List.mem_of_getElem? (i := 847) (by decide +kernel), List.mem_of_getElem? (i := 848) (by decide +kernel)⟩
theorem lw_p30 : lw_okq (⟨"HammockDeckModel", "makeRow", "(II)V"⟩, 26) := ⟨⟨by decide +kernel, by decide +kernel⟩, List.mem_of_getElem? (i := 751) (by decide +kernel), List.mem_of_getElem? (i := 851) (by decide +kernel), List.mem_of_getElem? (i := 852) (by decide +kernel)⟩
theorem lw_p31 : lw_okq (⟨"HammockDeckModel", "refused", "(II)I"⟩, 26) := ⟨⟨by decide +kernel, by decide +kernel⟩, List.mem_of_getElem? (i := 751) (by decide +kernel), List.mem_of_getElem? (i := 859) (by decide +kernel), List.mem_of_getElem? (i := 860) (by decide +kernel)⟩
def lw_privs_2 : List (MethodName × Nat) := [(⟨"HammockDeck", "leastPlan", "(IILHammockDeck$Row;)I"⟩, 12), (⟨"HammockDeck", "beginPlans", "()V"⟩, 12), (⟨"HammockDeck", "weighed", "(II)I"⟩, 12), (⟨"HammockDeck$Berths", "moveOn", "(I)Z"⟩, 5), (⟨"HammockDeck", "firstGladPair", "(I)I"⟩, 12), (⟨"HammockDeck", "wouldBothGladlyChange", "(III)Z"⟩, 12), (⟨"HammockDeck$Berths", "hasBulkierNeighbour", "(II)Z"⟩, 5), (⟨"HammockDeck", "countFitting", "(LHammockDeck$Row;)V"⟩, 12), (⟨"HammockDeck", "fitsBook", "(LHammockDeck$Row;)Z"⟩, 12), (⟨"HammockDeck", "fitsBookBy", "(ILHammockDeck$Row;)Z"⟩, 12), (⟨"HammockDeck", "tellMean", "(JJ)V"⟩, 12), (⟨"HammockDeck", "counted", "(I)I"⟩, 12), (⟨"HammockDeck", "howManyKept", "()I"⟩, 12), (⟨"HammockDeckModel", "find", "(I)I"⟩, 26), (⟨"HammockDeckModel", "makeRow", "(II)V"⟩, 26), (⟨"HammockDeckModel", "refused", "(II)I"⟩, 26)]
theorem lw_r2 : ∀ q ∈ lw_privs_2, lw_okq q := List.forall_mem_cons.mpr ⟨lw_p16, List.forall_mem_cons.mpr ⟨lw_p17, List.forall_mem_cons.mpr ⟨lw_p18, List.forall_mem_cons.mpr ⟨lw_p19, List.forall_mem_cons.mpr ⟨lw_p20, List.forall_mem_cons.mpr ⟨lw_p21, List.forall_mem_cons.mpr ⟨lw_p22, List.forall_mem_cons.mpr ⟨lw_p23, List.forall_mem_cons.mpr ⟨lw_p24, List.forall_mem_cons.mpr ⟨lw_p25, List.forall_mem_cons.mpr ⟨lw_p26, List.forall_mem_cons.mpr ⟨lw_p27, List.forall_mem_cons.mpr ⟨lw_p28, List.forall_mem_cons.mpr ⟨lw_p29, List.forall_mem_cons.mpr ⟨lw_p30, List.forall_mem_cons.mpr ⟨lw_p31, fun _ h => absurd h List.not_mem_nil⟩⟩⟩⟩⟩⟩⟩⟩⟩⟩⟩⟩⟩⟩⟩⟩
theorem lw_p32 : lw_okq (⟨"HammockDeckModel", "tell", "(I)I"⟩, 26) := ⟨⟨by decide +kernel, by decide +kernel⟩, List.mem_of_getElem? (i := 751) (by decide +kernel), List.mem_of_getElem? (i := 863) (by decide +kernel), List.mem_of_getElem? (i := 864) (by decide +kernel)⟩
theorem lw_p33 : lw_okq (⟨"HammockDeckModel", "isSpan", "(III)Z"⟩, 26) := ⟨⟨by decide +kernel, by decide +kernel⟩, List.mem_of_getElem? (i := 751) (by decide +kernel), List.mem_of_getElem? (i := 879) (by decide +kernel), List.mem_of_getElem? (i := 880) (by decide +kernel)⟩
theorem lw_p34 : lw_okq (⟨"HammockDeckModel", "faultOf", "(I)I"⟩, 26) := ⟨⟨by decide +kernel, by decide +kernel⟩, List.mem_of_getElem? (i := 751) (by decide +kernel), List.mem_of_getElem? (i := 903) (by decide +kernel), List.mem_of_getElem? (i := 904) (by decide +kernel)⟩
theorem lw_p35 : lw_okq (⟨"HammockDeckModel", "readsHooks", "()Z"⟩, 26) := ⟨⟨by decide +kernel, by decide +kernel⟩, List.mem_of_getElem? (i := 751) (by decide +kernel), List.mem_of_getElem? (i := 907) (by decide +kernel), List.mem_of_getElem? (i := 908) (by decide +kernel)⟩
theorem lw_p36 : lw_okq (⟨"HammockDeckModel", "skip", "()V"⟩, 26) := ⟨⟨by decide +kernel, by decide +kernel⟩, List.mem_of_getElem? (i := 751) (by decide +kernel), List.mem_of_getElem? (i := 911) (by decide +kernel), List.mem_of_getElem? (i := 912) (by decide +kernel)⟩
theorem lw_p37 : lw_okq (⟨"HammockDeckModel", "here", "()I"⟩, 26) := ⟨⟨by decide +kernel, by decide +kernel⟩, List.mem_of_getElem? (i := 751) (by decide +kernel), List.mem_of_getElem? (i := 915) (by decide +kernel), List.mem_of_getElem? (i := 916) (by decide +kernel)⟩
theorem lw_p38 : lw_okq (⟨"HammockDeckModel", "readsMan", "()Z"⟩, 26) := ⟨⟨by decide +kernel, by decide +kernel⟩, List.mem_of_getElem? (i := 751) (by decide +kernel), List.mem_of_getElem? (i := 922) (by decide +kernel), List.mem_of_getElem? (i := 923) (by decide +kernel)⟩
theorem lw_p39 : lw_okq (⟨"HammockDeckModel", "figure", "(II)I"⟩, 26) := ⟨⟨by decide +kernel, by decide +kernel⟩, List.mem_of_getElem? (i := 751) (by decide +kernel), List.mem_of_getElem? (i := 929) (by decide +kernel), List.mem_of_getElem? (i := 930) (by decide +kernel)⟩
theorem lw_p40 : lw_okq (⟨"HammockDeckModel", "isMan", "(I)Z"⟩, 26) := ⟨⟨by decide +kernel, by decide +kernel⟩, List.mem_of_getElem? (i := 751) (by decide +kernel), List.mem_of_getElem? (i := 941) (by decide +kernel), List.mem_of_getElem? (i := 942) (by decide +kernel)⟩
theorem lw_p41 : lw_okq (⟨"HammockDeckModel", "toldOf", "(II)I"⟩, 26) := ⟨⟨by decide +kernel, by decide +kernel⟩, List.mem_of_getElem? (i := 751) (by decide +kernel), List.mem_of_getElem? (i := 945) (by decide +kernel), List.mem_of_getElem? (i := 946) (by decide +kernel)⟩
theorem lw_p42 : lw_okq (⟨"HammockDeckModel", "isHook", "(I)Z"⟩, 26) := ⟨⟨by decide +kernel, by decide +kernel⟩, List.mem_of_getElem? (i := 751) (by decide +kernel), List.mem_of_getElem? (i := 953) (by decide +kernel), List.mem_of_getElem? (i := 954) (by decide +kernel)⟩
theorem lw_p43 : lw_okq (⟨"HammockDeckModel", "whoAt", "(I)I"⟩, 26) := ⟨⟨by decide +kernel, by decide +kernel⟩, List.mem_of_getElem? (i := 751) (by decide +kernel), List.mem_of_getElem? (i := 957) (by decide +kernel), List.mem_of_getElem? (i := 958) (by decide +kernel)⟩
theorem lw_p44 : lw_okq (⟨"HammockDeckModel", "isOf", "(II)Z"⟩, 26) := ⟨⟨by decide +kernel, by decide +kernel⟩, List.mem_of_getElem? (i := 751) (by decide +kernel), List.mem_of_getElem? (i := 965) (by decide +kernel), List.mem_of_getElem? (i := 966) (by decide +kernel)⟩
theorem lw_p45 : lw_okq (⟨"HammockDeckModel", "layNow", "()V"⟩, 26) := ⟨⟨by decide +kernel, by decide +kernel⟩, List.mem_of_getElem? (i := 751) (by decide +kernel), List.mem_of_getElem? (i := 969) (by decide +kernel), List.mem_of_getElem? (i := 970) (by decide +kernel)⟩
theorem lw_p46 : lw_okq (⟨"HammockDeckModel", "beside", "(II)I"⟩, 26) := ⟨⟨by decide +kernel, by decide +kernel⟩, List.mem_of_getElem? (i := 751) (by decide +kernel), List.mem_of_getElem? (i := 973) (by decide +kernel), List.mem_of_getElem? (i := 974) (by decide +kernel)⟩
theorem lw_p47 : lw_okq (⟨"HammockDeckModel", "isBeside", "(III)Z"⟩, 26) := ⟨⟨by decide +kernel, by decide +kernel⟩, List.mem_of_getElem? (i := 751) (by decide +kernel), List.mem_of_getElem? (i := 977) (by decide +kernel), List.mem_of_getElem? (i := 978) (by decide +kernel)⟩
def lw_privs_3 : List (MethodName × Nat) := [(⟨"HammockDeckModel", "tell", "(I)I"⟩, 26), (⟨"HammockDeckModel", "isSpan", "(III)Z"⟩, 26), (⟨"HammockDeckModel", "faultOf", "(I)I"⟩, 26), (⟨"HammockDeckModel", "readsHooks", "()Z"⟩, 26), (⟨"HammockDeckModel", "skip", "()V"⟩, 26), (⟨"HammockDeckModel", "here", "()I"⟩, 26), (⟨"HammockDeckModel", "readsMan", "()Z"⟩, 26), (⟨"HammockDeckModel", "figure", "(II)I"⟩, 26), (⟨"HammockDeckModel", "isMan", "(I)Z"⟩, 26), (⟨"HammockDeckModel", "toldOf", "(II)I"⟩, 26), (⟨"HammockDeckModel", "isHook", "(I)Z"⟩, 26), (⟨"HammockDeckModel", "whoAt", "(I)I"⟩, 26), (⟨"HammockDeckModel", "isOf", "(II)Z"⟩, 26), (⟨"HammockDeckModel", "layNow", "()V"⟩, 26), (⟨"HammockDeckModel", "beside", "(II)I"⟩, 26), (⟨"HammockDeckModel", "isBeside", "(III)Z"⟩, 26)]
theorem lw_r3 : ∀ q ∈ lw_privs_3, lw_okq q := List.forall_mem_cons.mpr ⟨lw_p32, List.forall_mem_cons.mpr ⟨lw_p33, List.forall_mem_cons.mpr ⟨lw_p34, List.forall_mem_cons.mpr ⟨lw_p35, List.forall_mem_cons.mpr ⟨lw_p36, List.forall_mem_cons.mpr ⟨lw_p37, List.forall_mem_cons.mpr ⟨lw_p38, List.forall_mem_cons.mpr ⟨lw_p39, List.forall_mem_cons.mpr ⟨lw_p40, List.forall_mem_cons.mpr ⟨lw_p41, List.forall_mem_cons.mpr ⟨lw_p42, List.forall_mem_cons.mpr ⟨lw_p43, List.forall_mem_cons.mpr ⟨lw_p44, List.forall_mem_cons.mpr ⟨lw_p45, List.forall_mem_cons.mpr ⟨lw_p46, List.forall_mem_cons.mpr ⟨lw_p47, fun _ h => absurd h List.not_mem_nil⟩⟩⟩⟩⟩⟩⟩⟩⟩⟩⟩⟩⟩⟩⟩⟩
theorem lw_p48 : lw_okq (⟨"HammockDeckModel", "isIn", "(II)Z"⟩, 26) := ⟨⟨by decide +kernel, by decide +kernel⟩, List.mem_of_getElem? (i := 751) (by decide +kernel), List.mem_of_getElem? (i := 981) (by decide +kernel), List.mem_of_getElem? (i := 982) (by decide +kernel)⟩
theorem lw_p49 : lw_okq (⟨"HammockDeckModel", "besideOf", "(IIZ)I"⟩, 26) := ⟨⟨by decide +kernel, by decide +kernel⟩, List.mem_of_getElem? (i := 751) (by decide +kernel), List.mem_of_getElem? (i := 988) (by decide +kernel), List.mem_of_getElem? (i := 989) (by decide +kernel)⟩
theorem lw_p50 : lw_okq (⟨"HammockDeckModel", "tallMany", "()I"⟩, 26) := ⟨⟨by decide +kernel, by decide +kernel⟩, List.mem_of_getElem? (i := 751) (by decide +kernel), List.mem_of_getElem? (i := 992) (by decide +kernel), List.mem_of_getElem? (i := 993) (by decide +kernel)⟩
theorem lw_p51 : lw_okq (⟨"HammockDeckModel", "wokenBut", "(III)I"⟩, 26) := ⟨⟨by decide +kernel, by decide +kernel⟩, List.mem_of_getElem? (i := 751) (by decide +kernel), List.mem_of_getElem? (i := 996) (by decide +kernel), List.mem_of_getElem? (i := 997) (by decide +kernel)⟩
theorem lw_p52 : lw_okq (⟨"HammockDeckModel", "wakes", "(II)I"⟩, 26) := ⟨⟨by decide +kernel, by decide +kernel⟩, List.mem_of_getElem? (i := 751) (by decide +kernel), List.mem_of_getElem? (i := 1003) (by decide +kernel), List.mem_of_getElem? (i := 1004) (by decide +kernel)⟩
theorem lw_p53 : lw_okq (⟨"HammockDeckModel", "keepPast", "()V"⟩, 26) := ⟨⟨by decide +kernel, by decide +kernel⟩, List.mem_of_getElem? (i := 751) (by decide +kernel), List.mem_of_getElem? (i := 1014) (by decide +kernel), List.mem_of_getElem? (i := 1015) (by decide +kernel)⟩
theorem lw_p54 : lw_okq (⟨"HammockDeckModel", "areTwo", "(II)Z"⟩, 26) := ⟨⟨by decide +kernel, by decide +kernel⟩, List.mem_of_getElem? (i := 751) (by decide +kernel), List.mem_of_getElem? (i := 1026) (by decide +kernel), List.mem_of_getElem? (i := 1027) (by decide +kernel)⟩
theorem lw_p55 : lw_okq (⟨"HammockDeckModel", "pass", "(I)I"⟩, 26) := ⟨⟨by decide +kernel, by decide +kernel⟩, List.mem_of_getElem? (i := 751) (by decide +kernel), List.mem_of_getElem? (i := 1043) (by decide +kernel), List.mem_of_getElem? (i := 1044) (by decide +kernel)⟩
theorem lw_p56 : lw_okq (⟨"HammockDeckModel", "copyDeck", "(II)V"⟩, 26) := ⟨⟨by decide +kernel, by decide +kernel⟩, List.mem_of_getElem? (i := 751) (by decide +kernel), List.mem_of_getElem? (i := 1055) (by decide +kernel), List.mem_of_getElem? (i := 1056) (by decide +kernel)⟩
theorem lw_p57 : lw_okq (⟨"HammockDeckModel", "inMany", "(I)I"⟩, 26) := ⟨⟨by decide +kernel, by decide +kernel⟩, List.mem_of_getElem? (i := 751) (by decide +kernel), List.mem_of_getElem? (i := 1075) (by decide +kernel), List.mem_of_getElem? (i := 1076) (by decide +kernel)⟩
theorem lw_p58 : lw_okq (⟨"HammockDeckModel", "allWoken", "(I)I"⟩, 26) := ⟨⟨by decide +kernel, by decide +kernel⟩, List.mem_of_getElem? (i := 751) (by decide +kernel), List.mem_of_getElem? (i := 1079) (by decide +kernel), List.mem_of_getElem? (i := 1080) (by decide +kernel)⟩
theorem lw_p59 : lw_okq (⟨"HammockDeckModel", "toBest", "(III)I"⟩, 26) := ⟨⟨by decide +kernel, by decide +kernel⟩, List.mem_of_getElem? (i := 751) (by decide +kernel), List.mem_of_getElem? (i := 1095) (by decide +kernel), List.mem_of_getElem? (i := 1096) (by decide +kernel)⟩
theorem lw_p60 : lw_okq (⟨"HammockDeckModel", "firstPlan", "()V"⟩, 26) := ⟨⟨by decide +kernel, by decide +kernel⟩, List.mem_of_getElem? (i := 751) (by decide +kernel), List.mem_of_getElem? (i := 1099) (by decide +kernel), List.mem_of_getElem? (i := 1100) (by decide +kernel)⟩
theorem lw_p61 : lw_okq (⟨"HammockDeckModel", "valueOf", "(II)I"⟩, 26) := ⟨⟨by decide +kernel, by decide +kernel⟩, List.mem_of_getElem? (i := 751) (by decide +kernel), List.mem_of_getElem? (i := 1103) (by decide +kernel), List.mem_of_getElem? (i := 1104) (by decide +kernel)⟩
theorem lw_p62 : lw_okq (⟨"HammockDeckModel", "mostWoken", "(I)I"⟩, 26) := ⟨⟨by decide +kernel, by decide +kernel⟩, List.mem_of_getElem? (i := 751) (by decide +kernel), List.mem_of_getElem? (i := 1107) (by decide +kernel), List.mem_of_getElem? (i := 1108) (by decide +kernel)⟩
theorem lw_p63 : lw_okq (⟨"HammockDeckModel", "nextPlan", "()Z"⟩, 26) := ⟨⟨by decide +kernel, by decide +kernel⟩, List.mem_of_getElem? (i := 751) (by decide +kernel), List.mem_of_getElem? (i := 1111) (by decide +kernel), List.mem_of_getElem? (i := 1112) (by decide +kernel)⟩
def lw_privs_4 : List (MethodName × Nat) := [(⟨"HammockDeckModel", "isIn", "(II)Z"⟩, 26), (⟨"HammockDeckModel", "besideOf", "(IIZ)I"⟩, 26), (⟨"HammockDeckModel", "tallMany", "()I"⟩, 26), (⟨"HammockDeckModel", "wokenBut", "(III)I"⟩, 26), (⟨"HammockDeckModel", "wakes", "(II)I"⟩, 26), (⟨"HammockDeckModel", "keepPast", "()V"⟩, 26), (⟨"HammockDeckModel", "areTwo", "(II)Z"⟩, 26), (⟨"HammockDeckModel", "pass", "(I)I"⟩, 26), (⟨"HammockDeckModel", "copyDeck", "(II)V"⟩, 26), (⟨"HammockDeckModel", "inMany", "(I)I"⟩, 26), (⟨"HammockDeckModel", "allWoken", "(I)I"⟩, 26), (⟨"HammockDeckModel", "toBest", "(III)I"⟩, 26), (⟨"HammockDeckModel", "firstPlan", "()V"⟩, 26), (⟨"HammockDeckModel", "valueOf", "(II)I"⟩, 26), (⟨"HammockDeckModel", "mostWoken", "(I)I"⟩, 26), (⟨"HammockDeckModel", "nextPlan", "()Z"⟩, 26)]
theorem lw_r4 : ∀ q ∈ lw_privs_4, lw_okq q := List.forall_mem_cons.mpr ⟨lw_p48, List.forall_mem_cons.mpr ⟨lw_p49, List.forall_mem_cons.mpr ⟨lw_p50, List.forall_mem_cons.mpr ⟨lw_p51, List.forall_mem_cons.mpr ⟨lw_p52, List.forall_mem_cons.mpr ⟨lw_p53, List.forall_mem_cons.mpr ⟨lw_p54, List.forall_mem_cons.mpr ⟨lw_p55, List.forall_mem_cons.mpr ⟨lw_p56, List.forall_mem_cons.mpr ⟨lw_p57, List.forall_mem_cons.mpr ⟨lw_p58, List.forall_mem_cons.mpr ⟨lw_p59, List.forall_mem_cons.mpr ⟨lw_p60, List.forall_mem_cons.mpr ⟨lw_p61, List.forall_mem_cons.mpr ⟨lw_p62, List.forall_mem_cons.mpr ⟨lw_p63, fun _ h => absurd h List.not_mem_nil⟩⟩⟩⟩⟩⟩⟩⟩⟩⟩⟩⟩⟩⟩⟩⟩
theorem lw_p64 : lw_okq (⟨"HammockDeckModel", "areUnlike", "()Z"⟩, 26) := ⟨⟨by decide +kernel, by decide +kernel⟩, List.mem_of_getElem? (i := 751) (by decide +kernel), List.mem_of_getElem? (i := 1115) (by decide +kernel), List.mem_of_getElem? (i := 1116) (by decide +kernel)⟩
theorem lw_p65 : lw_okq (⟨"HammockDeckModel", "isPlan", "(I)Z"⟩, 26) := ⟨⟨by decide +kernel, by decide +kernel⟩, List.mem_of_getElem? (i := 751) (by decide +kernel), List.mem_of_getElem? (i := 1131) (by decide +kernel), List.mem_of_getElem? (i := 1132) (by decide +kernel)⟩
theorem lw_p66 : lw_okq (⟨"HammockDeckModel", "swap", "(II)V"⟩, 26) := ⟨⟨by decide +kernel, by decide +kernel⟩, List.mem_of_getElem? (i := 751) (by decide +kernel), List.mem_of_getElem? (i := 1139) (by decide +kernel), List.mem_of_getElem? (i := 1140) (by decide +kernel)⟩
theorem lw_p67 : lw_okq (⟨"HammockDeckModel", "wouldChange", "(III)Z"⟩, 26) := ⟨⟨by decide +kernel, by decide +kernel⟩, List.mem_of_getElem? (i := 751) (by decide +kernel), List.mem_of_getElem? (i := 1147) (by decide +kernel), List.mem_of_getElem? (i := 1148) (by decide +kernel)⟩
theorem lw_p68 : lw_okq (⟨"HammockDeckModel", "matesTried", "()I"⟩, 26) := ⟨⟨by decide +kernel, by decide +kernel⟩, List.mem_of_getElem? (i := 751) (by decide +kernel), List.mem_of_getElem? (i := 1155) (by decide +kernel), List.mem_of_getElem? (i := 1156) (by decide +kernel)⟩
theorem lw_p69 : lw_okq (⟨"HammockDeckModel", "inTheWay", "(II)I"⟩, 26) := ⟨⟨by decide +kernel, by decide +kernel⟩, List.mem_of_getElem? (i := 751) (by decide +kernel), List.mem_of_getElem? (i := 1167) (by decide +kernel), List.mem_of_getElem? (i := 1168) (by decide +kernel)⟩
theorem lw_p70 : lw_okq (⟨"HammockDeckModel", "nextOrder", "(I)Z"⟩, 26) := ⟨⟨by decide +kernel, by decide +kernel⟩, List.mem_of_getElem? (i := 751) (by decide +kernel), List.mem_of_getElem? (i := 1171) (by decide +kernel), List.mem_of_getElem? (i := 1172) (by decide +kernel)⟩
theorem lw_p71 : lw_okq (⟨"HammockDeckModel", "areWhens", "(I)Z"⟩, 26) := ⟨⟨by decide +kernel, by decide +kernel⟩, List.mem_of_getElem? (i := 751) (by decide +kernel), List.mem_of_getElem? (i := 1179) (by decide +kernel), List.mem_of_getElem? (i := 1180) (by decide +kernel)⟩
theorem lw_p72 : lw_okq (⟨"HammockDeckModel", "isSo", "(I)Z"⟩, 26) := ⟨⟨by decide +kernel, by decide +kernel⟩, List.mem_of_getElem? (i := 751) (by decide +kernel), List.mem_of_getElem? (i := 1183) (by decide +kernel), List.mem_of_getElem? (i := 1184) (by decide +kernel)⟩
theorem lw_p73 : lw_okq (⟨"HammockDeckModel", "countOf", "(I)I"⟩, 26) := ⟨⟨by decide +kernel, by decide +kernel⟩, List.mem_of_getElem? (i := 751) (by decide +kernel), List.mem_of_getElem? (i := 1217) (by decide +kernel), List.mem_of_getElem? (i := 1218) (by decide +kernel)⟩
theorem lw_p74 : lw_okq (⟨"HammockDeckModel", "hungMany", "()I"⟩, 26) := ⟨⟨by decide +kernel, by decide +kernel⟩, List.mem_of_getElem? (i := 751) (by decide +kernel), List.mem_of_getElem? (i := 1221) (by decide +kernel), List.mem_of_getElem? (i := 1222) (by decide +kernel)⟩
theorem lw_p75 : lw_okq (⟨"HammockDeckModel", "tiredAll", "()I"⟩, 26) := ⟨⟨by decide +kernel, by decide +kernel⟩, List.mem_of_getElem? (i := 751) (by decide +kernel), List.mem_of_getElem? (i := 1225) (by decide +kernel), List.mem_of_getElem? (i := 1226) (by decide +kernel)⟩
theorem lw_p76 : lw_okq (⟨"HammockDeckModel", "thereOf", "(I)I"⟩, 26) := ⟨⟨by decide +kernel, by decide +kernel⟩, List.mem_of_getElem? (i := 751) (by decide +kernel), List.mem_of_getElem? (i := 1229) (by decide +kernel), List.mem_of_getElem? (i := 1230) (by decide +kernel)⟩
def lw_privs_5 : List (MethodName × Nat) := [(⟨"HammockDeckModel", "areUnlike", "()Z"⟩, 26), (⟨"HammockDeckModel", "isPlan", "(I)Z"⟩, 26), (⟨"HammockDeckModel", "swap", "(II)V"⟩, 26), (⟨"HammockDeckModel", "wouldChange", "(III)Z"⟩, 26), (⟨"HammockDeckModel", "matesTried", "()I"⟩, 26), (⟨"HammockDeckModel", "inTheWay", "(II)I"⟩, 26), (⟨"HammockDeckModel", "nextOrder", "(I)Z"⟩, 26), (⟨"HammockDeckModel", "areWhens", "(I)Z"⟩, 26), (⟨"HammockDeckModel", "isSo", "(I)Z"⟩, 26), (⟨"HammockDeckModel", "countOf", "(I)I"⟩, 26), (⟨"HammockDeckModel", "hungMany", "()I"⟩, 26), (⟨"HammockDeckModel", "tiredAll", "()I"⟩, 26), (⟨"HammockDeckModel", "thereOf", "(I)I"⟩, 26)]
theorem lw_r5 : ∀ q ∈ lw_privs_5, lw_okq q := List.forall_mem_cons.mpr ⟨lw_p64, List.forall_mem_cons.mpr ⟨lw_p65, List.forall_mem_cons.mpr ⟨lw_p66, List.forall_mem_cons.mpr ⟨lw_p67, List.forall_mem_cons.mpr ⟨lw_p68, List.forall_mem_cons.mpr ⟨lw_p69, List.forall_mem_cons.mpr ⟨lw_p70, List.forall_mem_cons.mpr ⟨lw_p71, List.forall_mem_cons.mpr ⟨lw_p72, List.forall_mem_cons.mpr ⟨lw_p73, List.forall_mem_cons.mpr ⟨lw_p74, List.forall_mem_cons.mpr ⟨lw_p75, List.forall_mem_cons.mpr ⟨lw_p76, fun _ h => absurd h List.not_mem_nil⟩⟩⟩⟩⟩⟩⟩⟩⟩⟩⟩⟩⟩
def lw_privs : List (MethodName × Nat) := lw_privs_1 ++ (lw_privs_2 ++ (lw_privs_3 ++ (lw_privs_4 ++ (lw_privs_5))))
def lw_tbl : List Cond := k2_sels lw_privs ++ tables_1
theorem lw_privs_ok : ∀ q ∈ lw_privs, lw_okq q := by
  show ∀ q ∈ lw_privs_1 ++ (lw_privs_2 ++ (lw_privs_3 ++ (lw_privs_4 ++ (lw_privs_5)))), lw_okq q
  exact List.forall_mem_append.mpr ⟨lw_r1, List.forall_mem_append.mpr ⟨lw_r2, List.forall_mem_append.mpr ⟨lw_r3, List.forall_mem_append.mpr ⟨lw_r4, lw_r5⟩⟩⟩⟩

/-! the class and method names (printed) -/
def RX0 : String := "HammockDeck$Berths"
def TX0 : u_T := fun k => match k with
  | 0 => ("HammockDeck$Berths", "crew", "LHammockDeck$Crew;", false)
  | 1 => ("HammockDeck$Berths", "hooks", "[I", true)
  | 2 => ("HammockDeck$Berths", "holders", "[I", true)
  | 3 => ("HammockDeck$Berths", "lines", "[I", true)
  | _ => ("HammockDeck$Berths", "tired", "[I", true)
def tyX0 : Nat → FieldType := fun k => match k with
  | 0 => .object "HammockDeck$Crew"
  | 1 => .array .int
  | 2 => .array .int
  | 3 => .array .int
  | _ => .array .int
abbrev wsX00 : List Cond := u_ws RX0 TX0 5
theorem nmX0 : ∀ a, a < 5 → ∀ b, b < 5 → a ≠ b → (TX0 a).2.1 ≠ (TX0 b).2.1 := by decide +kernel
theorem tyX0_ok : ∀ k, k < 5 → parseFieldDescriptor (TX0 k).2.2.1 = some (tyX0 k) := by decide +kernel
abbrev cX0_init : ByteArray := prog_2_method_1_code
def yX0_init : MethodName := ⟨RX0, "<init>", "(LHammockDeck$Crew;)V"⟩
abbrev cX0_begin : ByteArray := prog_2_method_2_code
def yX0_begin : MethodName := ⟨RX0, "begin", "(LHammockDeck$Crew;)V"⟩
abbrev cX0_copyFrom : ByteArray := prog_2_method_3_code
def yX0_copyFrom : MethodName := ⟨RX0, "copyFrom", "(LHammockDeck$Berths;)V"⟩
abbrev cX0_manDetail : ByteArray := prog_2_method_4_code
def yX0_manDetail : MethodName := ⟨RX0, "manDetail", "(II)I"⟩
abbrev cX0_hookDetail : ByteArray := prog_2_method_5_code
def yX0_hookDetail : MethodName := ⟨RX0, "hookDetail", "(II)I"⟩
abbrev cX0_tiredTogether : ByteArray := prog_2_method_6_code
def yX0_tiredTogether : MethodName := ⟨RX0, "tiredTogether", "()I"⟩
abbrev cX0_writeTo : ByteArray := prog_2_method_7_code
def yX0_writeTo : MethodName := ⟨RX0, "writeTo", "([II)V"⟩
abbrev cX0_readFrom : ByteArray := prog_2_method_8_code
def yX0_readFrom : MethodName := ⟨RX0, "readFrom", "([II)V"⟩
abbrev cX0_isFree : ByteArray := prog_2_method_9_code
def yX0_isFree : MethodName := ⟨RX0, "isFree", "(I)Z"⟩
abbrev cX0_hangs : ByteArray := prog_2_method_10_code
def yX0_hangs : MethodName := ⟨RX0, "hangs", "(I)Z"⟩
abbrev cX0_move : ByteArray := prog_2_method_11_code
def yX0_move : MethodName := ⟨RX0, "move", "(II)V"⟩
abbrev cX0_swap : ByteArray := prog_2_method_12_code
def yX0_swap : MethodName := ⟨RX0, "swap", "(II)V"⟩
abbrev cX0_takeAllDown : ByteArray := prog_2_method_13_code
def yX0_takeAllDown : MethodName := ⟨RX0, "takeAllDown", "()V"⟩
abbrev cX0_hangBy : ByteArray := prog_2_method_14_code
def yX0_hangBy : MethodName := ⟨RX0, "hangBy", "(LHammockDeck$Row;)Z"⟩
abbrev cX0_hangByFirstPlan : ByteArray := prog_2_method_15_code
def yX0_hangByFirstPlan : MethodName := ⟨RX0, "hangByFirstPlan", "()V"⟩
abbrev cX0_hangByNextPlan : ByteArray := prog_2_method_16_code
def yX0_hangByNextPlan : MethodName := ⟨RX0, "hangByNextPlan", "()V"⟩
abbrev cX0_moveOn : ByteArray := prog_2_method_17_code
def yX0_moveOn : MethodName := ⟨RX0, "moveOn", "(I)Z"⟩
abbrev cX0_messmatePairs : ByteArray := prog_2_method_18_code
def yX0_messmatePairs : MethodName := ⟨RX0, "messmatePairs", "()I"⟩
abbrev cX0_isIn : ByteArray := prog_2_method_19_code
def yX0_isIn : MethodName := ⟨RX0, "isIn", "(II)Z"⟩
abbrev cX0_howManyIn : ByteArray := prog_2_method_20_code
def yX0_howManyIn : MethodName := ⟨RX0, "howManyIn", "(I)I"⟩
abbrev cX0_bitOfWhoIsInAt : ByteArray := prog_2_method_21_code
def yX0_bitOfWhoIsInAt : MethodName := ⟨RX0, "bitOfWhoIsInAt", "(II)I"⟩
abbrev cX0_neighbourBits : ByteArray := prog_2_method_22_code
def yX0_neighbourBits : MethodName := ⟨RX0, "neighbourBits", "(II)I"⟩
abbrev cX0_wakings : ByteArray := prog_2_method_23_code
def yX0_wakings : MethodName := ⟨RX0, "wakings", "(II)I"⟩
abbrev cX0_wakingsFrom : ByteArray := prog_2_method_24_code
def yX0_wakingsFrom : MethodName := ⟨RX0, "wakingsFrom", "(III)I"⟩
abbrev cX0_allWakings : ByteArray := prog_2_method_25_code
def yX0_allWakings : MethodName := ⟨RX0, "allWakings", "(I)I"⟩
abbrev cX0_mostWakings : ByteArray := prog_2_method_26_code
def yX0_mostWakings : MethodName := ⟨RX0, "mostWakings", "(I)I"⟩
abbrev cX0_tire : ByteArray := prog_2_method_27_code
def yX0_tire : MethodName := ⟨RX0, "tire", "(I)I"⟩
abbrev cX0_inTheWayOf : ByteArray := prog_2_method_28_code
def yX0_inTheWayOf : MethodName := ⟨RX0, "inTheWayOf", "(II)I"⟩
abbrev cX0_firstToGetUp : ByteArray := prog_2_method_29_code
def yX0_firstToGetUp : MethodName := ⟨RX0, "firstToGetUp", "(I)I"⟩
abbrev cX0_hasBulkierNeighbour : ByteArray := prog_2_method_30_code
def yX0_hasBulkierNeighbour : MethodName := ⟨RX0, "hasBulkierNeighbour", "(II)Z"⟩
def RX1 : String := "HammockDeck$Crew"
def TX1 : u_T := fun k => match k with
  | 0 => ("HammockDeck$Crew", "hooks", "I", false)
  | 1 => ("HammockDeck$Crew", "men", "I", false)
  | 2 => ("HammockDeck$Crew", "places", "[I", true)
  | 3 => ("HammockDeck$Crew", "kinds", "[I", true)
  | 4 => ("HammockDeck$Crew", "firstLines", "[I", true)
  | 5 => ("HammockDeck$Crew", "watches", "[I", true)
  | _ => ("HammockDeck$Crew", "messes", "[I", true)
def tyX1 : Nat → FieldType := fun k => match k with
  | 0 => .int
  | 1 => .int
  | 2 => .array .int
  | 3 => .array .int
  | 4 => .array .int
  | 5 => .array .int
  | _ => .array .int
abbrev wsX10 : List Cond := u_ws RX1 TX1 7
theorem nmX1 : ∀ a, a < 7 → ∀ b, b < 7 → a ≠ b → (TX1 a).2.1 ≠ (TX1 b).2.1 := by decide +kernel
theorem tyX1_ok : ∀ k, k < 7 → parseFieldDescriptor (TX1 k).2.2.1 = some (tyX1 k) := by decide +kernel
abbrev cX1_init : ByteArray := prog_3_method_1_code
def yX1_init : MethodName := ⟨RX1, "<init>", "()V"⟩
abbrev cX1_hasHook : ByteArray := prog_3_method_2_code
def yX1_hasHook : MethodName := ⟨RX1, "hasHook", "(I)Z"⟩
abbrev cX1_hasMan : ByteArray := prog_3_method_3_code
def yX1_hasMan : MethodName := ⟨RX1, "hasMan", "(I)Z"⟩
abbrev cX1_addHook : ByteArray := prog_3_method_4_code
def yX1_addHook : MethodName := ⟨RX1, "addHook", "(I)V"⟩
abbrev cX1_addMan : ByteArray := prog_3_method_5_code
def yX1_addMan : MethodName := ⟨RX1, "addMan", "(IIII)V"⟩
abbrev cX1_mostMen : ByteArray := prog_3_method_6_code
def yX1_mostMen : MethodName := ⟨RX1, "mostMen", "()I"⟩
abbrev cX1_planCount : ByteArray := prog_3_method_7_code
def yX1_planCount : MethodName := ⟨RX1, "planCount", "()I"⟩
abbrev cX1_isOf : ByteArray := prog_3_method_8_code
def yX1_isOf : MethodName := ⟨RX1, "isOf", "(II)Z"⟩
abbrev cX1_bitsOf : ByteArray := prog_3_method_9_code
def yX1_bitsOf : MethodName := ⟨RX1, "bitsOf", "(I)I"⟩
abbrev cX1_bulk : ByteArray := prog_3_method_10_code
def yX1_bulk : MethodName := ⟨RX1, "bulk", "(I)I"⟩
abbrev cX1_placeWakes : ByteArray := prog_3_method_11_code
def yX1_placeWakes : MethodName := ⟨RX1, "placeWakes", "(I)I"⟩
def RX2 : String := "HammockDeck$Log"
def TX2 : u_T := fun k => match k with
  | 0 => ("HammockDeck$Log", "moments", "[I", true)
  | _ => ("HammockDeck$Log", "deeds", "I", false)
def tyX2 : Nat → FieldType := fun k => match k with
  | 0 => .array .int
  | _ => .int
abbrev wsX20 : List Cond := u_ws RX2 TX2 2
theorem nmX2 : ∀ a, a < 2 → ∀ b, b < 2 → a ≠ b → (TX2 a).2.1 ≠ (TX2 b).2.1 := by decide +kernel
theorem tyX2_ok : ∀ k, k < 2 → parseFieldDescriptor (TX2 k).2.2.1 = some (tyX2 k) := by decide +kernel
abbrev cX2_init : ByteArray := prog_4_method_1_code
def yX2_init : MethodName := ⟨RX2, "<init>", "(I)V"⟩
abbrev cX2_isMissing : ByteArray := prog_4_method_2_code
def yX2_isMissing : MethodName := ⟨RX2, "isMissing", "()Z"⟩
abbrev cX2_hasRoomFor : ByteArray := prog_4_method_3_code
def yX2_hasRoomFor : MethodName := ⟨RX2, "hasRoomFor", "(I)Z"⟩
abbrev cX2_begin : ByteArray := prog_4_method_4_code
def yX2_begin : MethodName := ⟨RX2, "begin", "(LHammockDeck$Berths;)V"⟩
abbrev cX2_add : ByteArray := prog_4_method_5_code
def yX2_add : MethodName := ⟨RX2, "add", "(LHammockDeck$Berths;)V"⟩
abbrev cX2_discard : ByteArray := prog_4_method_6_code
def yX2_discard : MethodName := ⟨RX2, "discard", "()V"⟩
abbrev cX2_copyFrom : ByteArray := prog_4_method_7_code
def yX2_copyFrom : MethodName := ⟨RX2, "copyFrom", "(LHammockDeck$Log;)V"⟩
abbrev cX2_goBackTo : ByteArray := prog_4_method_8_code
def yX2_goBackTo : MethodName := ⟨RX2, "goBackTo", "(ILHammockDeck$Berths;)V"⟩
def RX3 : String := "HammockDeck$Reader"
def TX3 : u_T := fun k => match k with
  | 0 => ("HammockDeck$Reader", "text", "LHammockDeck$Row;", true)
  | 1 => ("HammockDeck$Reader", "crew", "LHammockDeck$Crew;", true)
  | _ => ("HammockDeck$Reader", "place", "I", false)
def tyX3 : Nat → FieldType := fun k => match k with
  | 0 => .object "HammockDeck$Row"
  | 1 => .object "HammockDeck$Crew"
  | _ => .int
abbrev wsX30 : List Cond := u_ws RX3 TX3 3
theorem nmX3 : ∀ a, a < 3 → ∀ b, b < 3 → a ≠ b → (TX3 a).2.1 ≠ (TX3 b).2.1 := by decide +kernel
theorem tyX3_ok : ∀ k, k < 3 → parseFieldDescriptor (TX3 k).2.2.1 = some (tyX3 k) := by decide +kernel
abbrev cX3_init : ByteArray := prog_5_method_1_code
def yX3_init : MethodName := ⟨RX3, "<init>", "(LHammockDeck$Row;LHammockDeck$Crew;)V"⟩
abbrev cX3_read : ByteArray := prog_5_method_2_code
def yX3_read : MethodName := ⟨RX3, "read", "()I"⟩
abbrev cX3_skipBlanks : ByteArray := prog_5_method_3_code
def yX3_skipBlanks : MethodName := ⟨RX3, "skipBlanks", "()V"⟩
abbrev cX3_readHooks : ByteArray := prog_5_method_4_code
def yX3_readHooks : MethodName := ⟨RX3, "readHooks", "()Z"⟩
abbrev cX3_readMan : ByteArray := prog_5_method_5_code
def yX3_readMan : MethodName := ⟨RX3, "readMan", "()Z"⟩
abbrev cX3_letterIn : ByteArray := prog_5_method_6_code
def yX3_letterIn : MethodName := ⟨RX3, "letterIn", "([C)I"⟩
abbrev cX3_readFigure : ByteArray := prog_5_method_7_code
def yX3_readFigure : MethodName := ⟨RX3, "readFigure", "(II)I"⟩
def RX4 : String := "HammockDeck$Row"
def TX4 : u_T := fun k => match k with
  | 0 => ("HammockDeck$Row", "values", "[I", true)
  | _ => ("HammockDeck$Row", "size", "I", false)
def tyX4 : Nat → FieldType := fun k => match k with
  | 0 => .array .int
  | _ => .int
abbrev wsX40 : List Cond := u_ws RX4 TX4 2
theorem nmX4 : ∀ a, a < 2 → ∀ b, b < 2 → a ≠ b → (TX4 a).2.1 ≠ (TX4 b).2.1 := by decide +kernel
theorem tyX4_ok : ∀ k, k < 2 → parseFieldDescriptor (TX4 k).2.2.1 = some (tyX4 k) := by decide +kernel
abbrev cX4_init : ByteArray := prog_6_method_1_code
def yX4_init : MethodName := ⟨RX4, "<init>", "()V"⟩
abbrev cX4_isMissing : ByteArray := prog_6_method_2_code
def yX4_isMissing : MethodName := ⟨RX4, "isMissing", "()Z"⟩
abbrev cX4_has : ByteArray := prog_6_method_3_code
def yX4_has : MethodName := ⟨RX4, "has", "(I)Z"⟩
abbrev cX4_spans : ByteArray := prog_6_method_4_code
def yX4_spans : MethodName := ⟨RX4, "spans", "(II)Z"⟩
abbrev cX4_get : ByteArray := prog_6_method_5_code
def yX4_get : MethodName := ⟨RX4, "get", "(I)I"⟩
abbrev cX4_set : ByteArray := prog_6_method_6_code
def yX4_set : MethodName := ⟨RX4, "set", "(II)V"⟩
abbrev cX4_renew : ByteArray := prog_6_method_7_code
def yX4_renew : MethodName := ⟨RX4, "renew", "(II)V"⟩
abbrev cX4_discard : ByteArray := prog_6_method_8_code
def yX4_discard : MethodName := ⟨RX4, "discard", "()V"⟩
abbrev cX4_copyTo : ByteArray := prog_6_method_9_code
def yX4_copyTo : MethodName := ⟨RX4, "copyTo", "(ILHammockDeck$Row;II)V"⟩
abbrev cX4_sum : ByteArray := prog_6_method_10_code
def yX4_sum : MethodName := ⟨RX4, "sum", "()J"⟩
abbrev cX4_digestedOnto : ByteArray := prog_6_method_11_code
def yX4_digestedOnto : MethodName := ⟨RX4, "digestedOnto", "(J)J"⟩
def RX5 : String := "HammockDeck"
def TX5 : u_T := fun k => match k with
  | 0 => ("HammockDeck", "rows", "[LHammockDeck$Row;", true)
  | 1 => ("HammockDeck", "texts", "[LHammockDeck$Row;", true)
  | 2 => ("HammockDeck", "crew", "LHammockDeck$Crew;", false)
  | 3 => ("HammockDeck", "now", "LHammockDeck$Berths;", true)
  | 4 => ("HammockDeck", "aside", "LHammockDeck$Berths;", true)
  | 5 => ("HammockDeck", "log", "LHammockDeck$Log;", true)
  | 6 => ("HammockDeck", "kept", "[LHammockDeck$Log;", true)
  | 7 => ("HammockDeck", "told", "I", false)
  | 8 => ("HammockDeck", "upperTold", "J", false)
  | 9 => ("HammockDeck", "lowerTold", "J", false)
  | 10 => ("HammockDeck", "latestFinding", "I", false)
  | _ => ("HammockDeck", "findingCounts", "[I", true)
def tyX5 : Nat → FieldType := fun k => match k with
  | 0 => .array (.object "HammockDeck$Row")
  | 1 => .array (.object "HammockDeck$Row")
  | 2 => .object "HammockDeck$Crew"
  | 3 => .object "HammockDeck$Berths"
  | 4 => .object "HammockDeck$Berths"
  | 5 => .object "HammockDeck$Log"
  | 6 => .array (.object "HammockDeck$Log")
  | 7 => .int
  | 8 => .long
  | 9 => .long
  | 10 => .int
  | _ => .array .int
abbrev wsX50 : List Cond := u_ws RX5 TX5 12
theorem nmX5 : ∀ a, a < 12 → ∀ b, b < 12 → a ≠ b → (TX5 a).2.1 ≠ (TX5 b).2.1 := by decide +kernel
theorem tyX5_ok : ∀ k, k < 12 → parseFieldDescriptor (TX5 k).2.2.1 = some (tyX5 k) := by decide +kernel
abbrev cX5_init : ByteArray := prog_1_method_1_code
def yX5_init : MethodName := ⟨RX5, "<init>", "()V"⟩
abbrev cX5_row : ByteArray := prog_1_method_2_code
def yX5_row : MethodName := ⟨RX5, "row", "(II)I"⟩
abbrev cX5_lay : ByteArray := prog_1_method_3_code
def yX5_lay : MethodName := ⟨RX5, "lay", "(III)I"⟩
abbrev cX5_at : ByteArray := prog_1_method_4_code
def yX5_at : MethodName := ⟨RX5, "at", "(II)I"⟩
abbrev cX5_tear : ByteArray := prog_1_method_5_code
def yX5_tear : MethodName := ⟨RX5, "tear", "(I)I"⟩
abbrev cX5_copy : ByteArray := prog_1_method_6_code
def yX5_copy : MethodName := ⟨RX5, "copy", "(IIIII)I"⟩
abbrev cX5_mean : ByteArray := prog_1_method_7_code
def yX5_mean : MethodName := ⟨RX5, "mean", "(I)I"⟩
abbrev cX5_text : ByteArray := prog_1_method_8_code
def yX5_text : MethodName := ⟨RX5, "text", "(II)I"⟩
abbrev cX5_put : ByteArray := prog_1_method_9_code
def yX5_put : MethodName := ⟨RX5, "put", "(III)I"⟩
abbrev cX5_fault : ByteArray := prog_1_method_10_code
def yX5_fault : MethodName := ⟨RX5, "fault", "(I)I"⟩
abbrev cX5_deck : ByteArray := prog_1_method_11_code
def yX5_deck : MethodName := ⟨RX5, "deck", "(I)I"⟩
abbrev cX5_man : ByteArray := prog_1_method_12_code
def yX5_man : MethodName := ⟨RX5, "man", "(II)I"⟩
abbrev cX5_hook : ByteArray := prog_1_method_13_code
def yX5_hook : MethodName := ⟨RX5, "hook", "(II)I"⟩
abbrev cX5_mark : ByteArray := prog_1_method_14_code
def yX5_mark : MethodName := ⟨RX5, "mark", "(II)I"⟩
abbrev cX5_hang : ByteArray := prog_1_method_15_code
def yX5_hang : MethodName := ⟨RX5, "hang", "(II)I"⟩
abbrev cX5_down : ByteArray := prog_1_method_16_code
def yX5_down : MethodName := ⟨RX5, "down", "(I)I"⟩
abbrev cX5_change : ByteArray := prog_1_method_17_code
def yX5_change : MethodName := ⟨RX5, "change", "(II)I"⟩
abbrev cX5_line : ByteArray := prog_1_method_18_code
def yX5_line : MethodName := ⟨RX5, "line", "(II)I"⟩
abbrev cX5_night : ByteArray := prog_1_method_19_code
def yX5_night : MethodName := ⟨RX5, "night", "(I)I"⟩
abbrev cX5_undo : ByteArray := prog_1_method_20_code
def yX5_undo : MethodName := ⟨RX5, "undo", "(I)I"⟩
abbrev cX5_keep : ByteArray := prog_1_method_21_code
def yX5_keep : MethodName := ⟨RX5, "keep", "(I)I"⟩
abbrev cX5_on : ByteArray := prog_1_method_22_code
def yX5_on : MethodName := ⟨RX5, "on", "(I)I"⟩
abbrev cX5_neighbours : ByteArray := prog_1_method_23_code
def yX5_neighbours : MethodName := ⟨RX5, "neighbours", "(II)I"⟩
abbrev cX5_woken : ByteArray := prog_1_method_24_code
def yX5_woken : MethodName := ⟨RX5, "woken", "(II)I"⟩
abbrev cX5_all : ByteArray := prog_1_method_25_code
def yX5_all : MethodName := ⟨RX5, "all", "(I)I"⟩
abbrev cX5_worst : ByteArray := prog_1_method_26_code
def yX5_worst : MethodName := ⟨RX5, "worst", "(I)I"⟩
abbrev cX5_by : ByteArray := prog_1_method_27_code
def yX5_by : MethodName := ⟨RX5, "by", "(II)I"⟩
abbrev cX5_best : ByteArray := prog_1_method_28_code
def yX5_best : MethodName := ⟨RX5, "best", "(II)I"⟩
abbrev cX5_fair : ByteArray := prog_1_method_29_code
def yX5_fair : MethodName := ⟨RX5, "fair", "(II)I"⟩
abbrev cX5_mixed : ByteArray := prog_1_method_30_code
def yX5_mixed : MethodName := ⟨RX5, "mixed", "(I)I"⟩
abbrev cX5_judge : ByteArray := prog_1_method_31_code
def yX5_judge : MethodName := ⟨RX5, "judge", "(II)I"⟩
abbrev cX5_gain : ByteArray := prog_1_method_32_code
def yX5_gain : MethodName := ⟨RX5, "gain", "(III)I"⟩
abbrev cX5_calm : ByteArray := prog_1_method_33_code
def yX5_calm : MethodName := ⟨RX5, "calm", "(I)I"⟩
abbrev cX5_mates : ByteArray := prog_1_method_34_code
def yX5_mates : MethodName := ⟨RX5, "mates", "()I"⟩
abbrev cX5_cut : ByteArray := prog_1_method_35_code
def yX5_cut : MethodName := ⟨RX5, "cut", "(II)I"⟩
abbrev cX5_up : ByteArray := prog_1_method_36_code
def yX5_up : MethodName := ⟨RX5, "up", "(II)I"⟩
abbrev cX5_fits : ByteArray := prog_1_method_37_code
def yX5_fits : MethodName := ⟨RX5, "fits", "(I)I"⟩
abbrev cX5_mid : ByteArray := prog_1_method_38_code
def yX5_mid : MethodName := ⟨RX5, "mid", "(I)I"⟩
abbrev cX5_lots : ByteArray := prog_1_method_39_code
def yX5_lots : MethodName := ⟨RX5, "lots", "(II)I"⟩
abbrev cX5_asked : ByteArray := prog_1_method_40_code
def yX5_asked : MethodName := ⟨RX5, "asked", "()I"⟩
abbrev cX5_upper : ByteArray := prog_1_method_41_code
def yX5_upper : MethodName := ⟨RX5, "upper", "()J"⟩
abbrev cX5_lower : ByteArray := prog_1_method_42_code
def yX5_lower : MethodName := ⟨RX5, "lower", "()J"⟩
abbrev cX5_count : ByteArray := prog_1_method_43_code
def yX5_count : MethodName := ⟨RX5, "count", "(I)I"⟩
abbrev cX5_finding : ByteArray := prog_1_method_44_code
def yX5_finding : MethodName := ⟨RX5, "finding", "()I"⟩
abbrev cX5_findings : ByteArray := prog_1_method_45_code
def yX5_findings : MethodName := ⟨RX5, "findings", "(I)I"⟩
abbrev cX5_digest : ByteArray := prog_1_method_46_code
def yX5_digest : MethodName := ⟨RX5, "digest", "()J"⟩
abbrev cX5_rowAt : ByteArray := prog_1_method_47_code
def yX5_rowAt : MethodName := ⟨RX5, "rowAt", "(I)LHammockDeck$Row;"⟩
abbrev cX5_textAt : ByteArray := prog_1_method_48_code
def yX5_textAt : MethodName := ⟨RX5, "textAt", "(I)LHammockDeck$Row;"⟩
abbrev cX5_isWhen : ByteArray := prog_1_method_49_code
def yX5_isWhen : MethodName := ⟨RX5, "isWhen", "(I)Z"⟩
abbrev cX5_isKeptPlace : ByteArray := prog_1_method_50_code
def yX5_isKeptPlace : MethodName := ⟨RX5, "isKeptPlace", "(I)Z"⟩
abbrev cX5_found : ByteArray := prog_1_method_51_code
def yX5_found : MethodName := ⟨RX5, "found", "(I)I"⟩
abbrev cX5_tell : ByteArray := prog_1_method_52_code
def yX5_tell : MethodName := ⟨RX5, "tell", "(I)V"⟩
abbrev cX5_tellMean : ByteArray := prog_1_method_53_code
def yX5_tellMean : MethodName := ⟨RX5, "tellMean", "(JJ)V"⟩
abbrev cX5_commonDivisor : ByteArray := prog_1_method_54_code
def yX5_commonDivisor : MethodName := ⟨RX5, "commonDivisor", "(JJ)J"⟩
abbrev cX5_renewed : ByteArray := prog_1_method_55_code
def yX5_renewed : MethodName := ⟨RX5, "renewed", "(LHammockDeck$Row;III)I"⟩
abbrev cX5_sleptThrough : ByteArray := prog_1_method_56_code
def yX5_sleptThrough : MethodName := ⟨RX5, "sleptThrough", "(I)I"⟩
abbrev cX5_wakingsWithout : ByteArray := prog_1_method_57_code
def yX5_wakingsWithout : MethodName := ⟨RX5, "wakingsWithout", "(III)I"⟩
abbrev cX5_beginPlans : ByteArray := prog_1_method_58_code
def yX5_beginPlans : MethodName := ⟨RX5, "beginPlans", "()V"⟩
abbrev cX5_leastPlan : ByteArray := prog_1_method_59_code
def yX5_leastPlan : MethodName := ⟨RX5, "leastPlan", "(IILHammockDeck$Row;)I"⟩
abbrev cX5_weighed : ByteArray := prog_1_method_60_code
def yX5_weighed : MethodName := ⟨RX5, "weighed", "(II)I"⟩
abbrev cX5_firstGladPair : ByteArray := prog_1_method_61_code
def yX5_firstGladPair : MethodName := ⟨RX5, "firstGladPair", "(I)I"⟩
abbrev cX5_wouldBothGladlyChange : ByteArray := prog_1_method_62_code
def yX5_wouldBothGladlyChange : MethodName := ⟨RX5, "wouldBothGladlyChange", "(III)Z"⟩
abbrev cX5_countFitting : ByteArray := prog_1_method_63_code
def yX5_countFitting : MethodName := ⟨RX5, "countFitting", "(LHammockDeck$Row;)V"⟩
abbrev cX5_fitsBook : ByteArray := prog_1_method_64_code
def yX5_fitsBook : MethodName := ⟨RX5, "fitsBook", "(LHammockDeck$Row;)Z"⟩
abbrev cX5_fitsBookBy : ByteArray := prog_1_method_65_code
def yX5_fitsBookBy : MethodName := ⟨RX5, "fitsBookBy", "(ILHammockDeck$Row;)Z"⟩
abbrev cX5_counted : ByteArray := prog_1_method_66_code
def yX5_counted : MethodName := ⟨RX5, "counted", "(I)I"⟩
abbrev cX5_howManyThere : ByteArray := prog_1_method_67_code
def yX5_howManyThere : MethodName := ⟨RX5, "howManyThere", "([LHammockDeck$Row;)I"⟩
abbrev cX5_howManyKept : ByteArray := prog_1_method_68_code
def yX5_howManyKept : MethodName := ⟨RX5, "howManyKept", "()I"⟩
def RX6 : String := "HammockDeckModel"
def TX6 : u_T := fun k => match k with
  | 0 => ("HammockDeckModel", "row", "[I", true)
  | 1 => ("HammockDeckModel", "hooks", "I", false)
  | 2 => ("HammockDeckModel", "places", "[I", true)
  | 3 => ("HammockDeckModel", "men", "I", false)
  | 4 => ("HammockDeckModel", "kinds", "[I", true)
  | 5 => ("HammockDeckModel", "watches", "[I", true)
  | 6 => ("HammockDeckModel", "messes", "[I", true)
  | 7 => ("HammockDeckModel", "sizes", "[I", true)
  | 8 => ("HammockDeckModel", "items", "[I", true)
  | 9 => ("HammockDeckModel", "lengths", "[I", true)
  | 10 => ("HammockDeckModel", "bytes", "[I", true)
  | 11 => ("HammockDeckModel", "asked", "I", false)
  | 12 => ("HammockDeckModel", "upper", "J", false)
  | 13 => ("HammockDeckModel", "lower", "J", false)
  | 14 => ("HammockDeckModel", "finding", "I", false)
  | 15 => ("HammockDeckModel", "findings", "[I", true)
  | 16 => ("HammockDeckModel", "from", "I", false)
  | 17 => ("HammockDeckModel", "place", "I", false)
  | 18 => ("HammockDeckModel", "end", "I", false)
  | 19 => ("HammockDeckModel", "readPlaces", "[I", true)
  | 20 => ("HammockDeckModel", "readHooks", "I", false)
  | 21 => ("HammockDeckModel", "readMen", "[I", true)
  | 22 => ("HammockDeckModel", "readMany", "I", false)
  | 23 => ("HammockDeckModel", "hung", "[I", true)
  | 24 => ("HammockDeckModel", "lines", "[I", true)
  | _ => ("HammockDeckModel", "order", "[I", true)
def tyX6 : Nat → FieldType := fun k => match k with
  | 0 => .array .int
  | 1 => .int
  | 2 => .array .int
  | 3 => .int
  | 4 => .array .int
  | 5 => .array .int
  | 6 => .array .int
  | 7 => .array .int
  | 8 => .array .int
  | 9 => .array .int
  | 10 => .array .int
  | 11 => .int
  | 12 => .long
  | 13 => .long
  | 14 => .int
  | 15 => .array .int
  | 16 => .int
  | 17 => .int
  | 18 => .int
  | 19 => .array .int
  | 20 => .int
  | 21 => .array .int
  | 22 => .int
  | 23 => .array .int
  | 24 => .array .int
  | _ => .array .int
abbrev wsX60 : List Cond := u_ws RX6 TX6 26
theorem nmX6 : ∀ a, a < 26 → ∀ b, b < 26 → a ≠ b → (TX6 a).2.1 ≠ (TX6 b).2.1 := by decide +kernel
theorem tyX6_ok : ∀ k, k < 26 → parseFieldDescriptor (TX6 k).2.2.1 = some (tyX6 k) := by decide +kernel
abbrev cX6_init : ByteArray := prog_8_method_1_code
def yX6_init : MethodName := ⟨RX6, "<init>", "()V"⟩
abbrev cX6_in : ByteArray := prog_8_method_2_code
def yX6_in : MethodName := ⟨RX6, "in", "(JJJ)Z"⟩
abbrev cX6_find : ByteArray := prog_8_method_4_code
def yX6_find : MethodName := ⟨RX6, "find", "(I)I"⟩
abbrev cX6_tell : ByteArray := prog_8_method_5_code
def yX6_tell : MethodName := ⟨RX6, "tell", "(I)I"⟩
abbrev cX6_isRow : ByteArray := prog_8_method_6_code
def yX6_isRow : MethodName := ⟨RX6, "isRow", "(I)Z"⟩
abbrev cX6_isText : ByteArray := prog_8_method_7_code
def yX6_isText : MethodName := ⟨RX6, "isText", "(I)Z"⟩
abbrev cX6_row : ByteArray := prog_8_method_8_code
def yX6_row : MethodName := ⟨RX6, "row", "(II)I"⟩
abbrev cX6_makeRow : ByteArray := prog_8_method_9_code
def yX6_makeRow : MethodName := ⟨RX6, "makeRow", "(II)V"⟩
abbrev cX6_refused : ByteArray := prog_8_method_10_code
def yX6_refused : MethodName := ⟨RX6, "refused", "(II)I"⟩
abbrev cX6_lay : ByteArray := prog_8_method_11_code
def yX6_lay : MethodName := ⟨RX6, "lay", "(III)I"⟩
abbrev cX6_at : ByteArray := prog_8_method_12_code
def yX6_at : MethodName := ⟨RX6, "at", "(II)I"⟩
abbrev cX6_tear : ByteArray := prog_8_method_13_code
def yX6_tear : MethodName := ⟨RX6, "tear", "(I)I"⟩
abbrev cX6_isSpan : ByteArray := prog_8_method_14_code
def yX6_isSpan : MethodName := ⟨RX6, "isSpan", "(III)Z"⟩
abbrev cX6_copy : ByteArray := prog_8_method_15_code
def yX6_copy : MethodName := ⟨RX6, "copy", "(IIIII)I"⟩
abbrev cX6_mean : ByteArray := prog_8_method_16_code
def yX6_mean : MethodName := ⟨RX6, "mean", "(I)I"⟩
abbrev cX6_text : ByteArray := prog_8_method_17_code
def yX6_text : MethodName := ⟨RX6, "text", "(II)I"⟩
abbrev cX6_put : ByteArray := prog_8_method_18_code
def yX6_put : MethodName := ⟨RX6, "put", "(III)I"⟩
abbrev cX6_here : ByteArray := prog_8_method_19_code
def yX6_here : MethodName := ⟨RX6, "here", "()I"⟩
abbrev cX6_skip : ByteArray := prog_8_method_20_code
def yX6_skip : MethodName := ⟨RX6, "skip", "()V"⟩
abbrev cX6_figure : ByteArray := prog_8_method_21_code
def yX6_figure : MethodName := ⟨RX6, "figure", "(II)I"⟩
abbrev cX6_placeOfLetter : ByteArray := prog_8_method_22_code
def yX6_placeOfLetter : MethodName := ⟨RX6, "placeOfLetter", "(I)I"⟩
abbrev cX6_kindOfLetter : ByteArray := prog_8_method_23_code
def yX6_kindOfLetter : MethodName := ⟨RX6, "kindOfLetter", "(I)I"⟩
abbrev cX6_readsHooks : ByteArray := prog_8_method_24_code
def yX6_readsHooks : MethodName := ⟨RX6, "readsHooks", "()Z"⟩
abbrev cX6_readsMan : ByteArray := prog_8_method_25_code
def yX6_readsMan : MethodName := ⟨RX6, "readsMan", "()Z"⟩
abbrev cX6_faultOf : ByteArray := prog_8_method_26_code
def yX6_faultOf : MethodName := ⟨RX6, "faultOf", "(I)I"⟩
abbrev cX6_fault : ByteArray := prog_8_method_27_code
def yX6_fault : MethodName := ⟨RX6, "fault", "(I)I"⟩
abbrev cX6_deck : ByteArray := prog_8_method_28_code
def yX6_deck : MethodName := ⟨RX6, "deck", "(I)I"⟩
abbrev cX6_layNow : ByteArray := prog_8_method_29_code
def yX6_layNow : MethodName := ⟨RX6, "layNow", "()V"⟩
abbrev cX6_isMan : ByteArray := prog_8_method_30_code
def yX6_isMan : MethodName := ⟨RX6, "isMan", "(I)Z"⟩
abbrev cX6_isHook : ByteArray := prog_8_method_31_code
def yX6_isHook : MethodName := ⟨RX6, "isHook", "(I)Z"⟩
abbrev cX6_isWhen : ByteArray := prog_8_method_32_code
def yX6_isWhen : MethodName := ⟨RX6, "isWhen", "(I)Z"⟩
abbrev cX6_isIn : ByteArray := prog_8_method_33_code
def yX6_isIn : MethodName := ⟨RX6, "isIn", "(II)Z"⟩
abbrev cX6_isBeside : ByteArray := prog_8_method_34_code
def yX6_isBeside : MethodName := ⟨RX6, "isBeside", "(III)Z"⟩
abbrev cX6_beside : ByteArray := prog_8_method_35_code
def yX6_beside : MethodName := ⟨RX6, "beside", "(II)I"⟩
abbrev cX6_height : ByteArray := prog_8_method_36_code
def yX6_height : MethodName := ⟨RX6, "height", "(I)I"⟩
abbrev cX6_wakes : ByteArray := prog_8_method_37_code
def yX6_wakes : MethodName := ⟨RX6, "wakes", "(II)I"⟩
abbrev cX6_placeWorth : ByteArray := prog_8_method_38_code
def yX6_placeWorth : MethodName := ⟨RX6, "placeWorth", "(I)I"⟩
abbrev cX6_wokenBut : ByteArray := prog_8_method_39_code
def yX6_wokenBut : MethodName := ⟨RX6, "wokenBut", "(III)I"⟩
abbrev cX6_allWoken : ByteArray := prog_8_method_40_code
def yX6_allWoken : MethodName := ⟨RX6, "allWoken", "(I)I"⟩
abbrev cX6_mostWoken : ByteArray := prog_8_method_41_code
def yX6_mostWoken : MethodName := ⟨RX6, "mostWoken", "(I)I"⟩
abbrev cX6_toldOf : ByteArray := prog_8_method_42_code
def yX6_toldOf : MethodName := ⟨RX6, "toldOf", "(II)I"⟩
abbrev cX6_man : ByteArray := prog_8_method_43_code
def yX6_man : MethodName := ⟨RX6, "man", "(II)I"⟩
abbrev cX6_whoAt : ByteArray := prog_8_method_44_code
def yX6_whoAt : MethodName := ⟨RX6, "whoAt", "(I)I"⟩
abbrev cX6_hook : ByteArray := prog_8_method_45_code
def yX6_hook : MethodName := ⟨RX6, "hook", "(II)I"⟩
abbrev cX6_bits : ByteArray := prog_8_method_46_code
def yX6_bits : MethodName := ⟨RX6, "bits", "(I)I"⟩
abbrev cX6_isOf : ByteArray := prog_8_method_47_code
def yX6_isOf : MethodName := ⟨RX6, "isOf", "(II)Z"⟩
abbrev cX6_besideOf : ByteArray := prog_8_method_48_code
def yX6_besideOf : MethodName := ⟨RX6, "besideOf", "(IIZ)I"⟩
abbrev cX6_tallMany : ByteArray := prog_8_method_49_code
def yX6_tallMany : MethodName := ⟨RX6, "tallMany", "()I"⟩
abbrev cX6_mark : ByteArray := prog_8_method_50_code
def yX6_mark : MethodName := ⟨RX6, "mark", "(II)I"⟩
abbrev cX6_keepPast : ByteArray := prog_8_method_51_code
def yX6_keepPast : MethodName := ⟨RX6, "keepPast", "()V"⟩
abbrev cX6_hang : ByteArray := prog_8_method_52_code
def yX6_hang : MethodName := ⟨RX6, "hang", "(II)I"⟩
abbrev cX6_down : ByteArray := prog_8_method_53_code
def yX6_down : MethodName := ⟨RX6, "down", "(I)I"⟩
abbrev cX6_areTwo : ByteArray := prog_8_method_54_code
def yX6_areTwo : MethodName := ⟨RX6, "areTwo", "(II)Z"⟩
abbrev cX6_change : ByteArray := prog_8_method_55_code
def yX6_change : MethodName := ⟨RX6, "change", "(II)I"⟩
abbrev cX6_line : ByteArray := prog_8_method_56_code
def yX6_line : MethodName := ⟨RX6, "line", "(II)I"⟩
abbrev cX6_pass : ByteArray := prog_8_method_57_code
def yX6_pass : MethodName := ⟨RX6, "pass", "(I)I"⟩
abbrev cX6_night : ByteArray := prog_8_method_58_code
def yX6_night : MethodName := ⟨RX6, "night", "(I)I"⟩
abbrev cX6_undo : ByteArray := prog_8_method_59_code
def yX6_undo : MethodName := ⟨RX6, "undo", "(I)I"⟩
abbrev cX6_copyDeck : ByteArray := prog_8_method_60_code
def yX6_copyDeck : MethodName := ⟨RX6, "copyDeck", "(II)V"⟩
abbrev cX6_keep : ByteArray := prog_8_method_61_code
def yX6_keep : MethodName := ⟨RX6, "keep", "(I)I"⟩
abbrev cX6_on : ByteArray := prog_8_method_62_code
def yX6_on : MethodName := ⟨RX6, "on", "(I)I"⟩
abbrev cX6_neighbours : ByteArray := prog_8_method_63_code
def yX6_neighbours : MethodName := ⟨RX6, "neighbours", "(II)I"⟩
abbrev cX6_woken : ByteArray := prog_8_method_64_code
def yX6_woken : MethodName := ⟨RX6, "woken", "(II)I"⟩
abbrev cX6_inMany : ByteArray := prog_8_method_65_code
def yX6_inMany : MethodName := ⟨RX6, "inMany", "(I)I"⟩
abbrev cX6_all : ByteArray := prog_8_method_66_code
def yX6_all : MethodName := ⟨RX6, "all", "(I)I"⟩
abbrev cX6_worst : ByteArray := prog_8_method_67_code
def yX6_worst : MethodName := ⟨RX6, "worst", "(I)I"⟩
abbrev cX6_by : ByteArray := prog_8_method_68_code
def yX6_by : MethodName := ⟨RX6, "by", "(II)I"⟩
abbrev cX6_firstPlan : ByteArray := prog_8_method_69_code
def yX6_firstPlan : MethodName := ⟨RX6, "firstPlan", "()V"⟩
abbrev cX6_areUnlike : ByteArray := prog_8_method_70_code
def yX6_areUnlike : MethodName := ⟨RX6, "areUnlike", "()Z"⟩
abbrev cX6_nextPlan : ByteArray := prog_8_method_71_code
def yX6_nextPlan : MethodName := ⟨RX6, "nextPlan", "()Z"⟩
abbrev cX6_valueOf : ByteArray := prog_8_method_72_code
def yX6_valueOf : MethodName := ⟨RX6, "valueOf", "(II)I"⟩
abbrev cX6_toBest : ByteArray := prog_8_method_73_code
def yX6_toBest : MethodName := ⟨RX6, "toBest", "(III)I"⟩
abbrev cX6_best : ByteArray := prog_8_method_74_code
def yX6_best : MethodName := ⟨RX6, "best", "(II)I"⟩
abbrev cX6_fair : ByteArray := prog_8_method_75_code
def yX6_fair : MethodName := ⟨RX6, "fair", "(II)I"⟩
abbrev cX6_mixed : ByteArray := prog_8_method_76_code
def yX6_mixed : MethodName := ⟨RX6, "mixed", "(I)I"⟩
abbrev cX6_isPlan : ByteArray := prog_8_method_77_code
def yX6_isPlan : MethodName := ⟨RX6, "isPlan", "(I)Z"⟩
abbrev cX6_judge : ByteArray := prog_8_method_78_code
def yX6_judge : MethodName := ⟨RX6, "judge", "(II)I"⟩
abbrev cX6_swap : ByteArray := prog_8_method_79_code
def yX6_swap : MethodName := ⟨RX6, "swap", "(II)V"⟩
abbrev cX6_gain : ByteArray := prog_8_method_80_code
def yX6_gain : MethodName := ⟨RX6, "gain", "(III)I"⟩
abbrev cX6_wouldChange : ByteArray := prog_8_method_81_code
def yX6_wouldChange : MethodName := ⟨RX6, "wouldChange", "(III)Z"⟩
abbrev cX6_calm : ByteArray := prog_8_method_82_code
def yX6_calm : MethodName := ⟨RX6, "calm", "(I)I"⟩
abbrev cX6_matesTried : ByteArray := prog_8_method_83_code
def yX6_matesTried : MethodName := ⟨RX6, "matesTried", "()I"⟩
abbrev cX6_mates : ByteArray := prog_8_method_84_code
def yX6_mates : MethodName := ⟨RX6, "mates", "()I"⟩
abbrev cX6_cut : ByteArray := prog_8_method_85_code
def yX6_cut : MethodName := ⟨RX6, "cut", "(II)I"⟩
abbrev cX6_nextOrder : ByteArray := prog_8_method_86_code
def yX6_nextOrder : MethodName := ⟨RX6, "nextOrder", "(I)Z"⟩
abbrev cX6_inTheWay : ByteArray := prog_8_method_87_code
def yX6_inTheWay : MethodName := ⟨RX6, "inTheWay", "(II)I"⟩
abbrev cX6_up : ByteArray := prog_8_method_88_code
def yX6_up : MethodName := ⟨RX6, "up", "(II)I"⟩
abbrev cX6_areWhens : ByteArray := prog_8_method_89_code
def yX6_areWhens : MethodName := ⟨RX6, "areWhens", "(I)Z"⟩
abbrev cX6_isSo : ByteArray := prog_8_method_90_code
def yX6_isSo : MethodName := ⟨RX6, "isSo", "(I)Z"⟩
abbrev cX6_fits : ByteArray := prog_8_method_91_code
def yX6_fits : MethodName := ⟨RX6, "fits", "(I)I"⟩
abbrev cX6_mid : ByteArray := prog_8_method_92_code
def yX6_mid : MethodName := ⟨RX6, "mid", "(I)I"⟩
abbrev cX6_lots : ByteArray := prog_8_method_93_code
def yX6_lots : MethodName := ⟨RX6, "lots", "(II)I"⟩
abbrev cX6_asked : ByteArray := prog_8_method_94_code
def yX6_asked : MethodName := ⟨RX6, "asked", "()I"⟩
abbrev cX6_upper : ByteArray := prog_8_method_95_code
def yX6_upper : MethodName := ⟨RX6, "upper", "()J"⟩
abbrev cX6_lower : ByteArray := prog_8_method_96_code
def yX6_lower : MethodName := ⟨RX6, "lower", "()J"⟩
abbrev cX6_hungMany : ByteArray := prog_8_method_97_code
def yX6_hungMany : MethodName := ⟨RX6, "hungMany", "()I"⟩
abbrev cX6_tiredAll : ByteArray := prog_8_method_98_code
def yX6_tiredAll : MethodName := ⟨RX6, "tiredAll", "()I"⟩
abbrev cX6_thereOf : ByteArray := prog_8_method_99_code
def yX6_thereOf : MethodName := ⟨RX6, "thereOf", "(I)I"⟩
abbrev cX6_countOf : ByteArray := prog_8_method_100_code
def yX6_countOf : MethodName := ⟨RX6, "countOf", "(I)I"⟩
abbrev cX6_count : ByteArray := prog_8_method_101_code
def yX6_count : MethodName := ⟨RX6, "count", "(I)I"⟩
abbrev cX6_finding : ByteArray := prog_8_method_102_code
def yX6_finding : MethodName := ⟨RX6, "finding", "()I"⟩
abbrev cX6_findings : ByteArray := prog_8_method_103_code
def yX6_findings : MethodName := ⟨RX6, "findings", "(I)I"⟩
abbrev cX6_digest : ByteArray := prog_8_method_104_code
def yX6_digest : MethodName := ⟨RX6, "digest", "()J"⟩
def RJ6 : String := "java/lang/Integer"
def TJ6 : u_T := fun k => match k with
  | _ => ("", "", "", false)
def tyJ6 : Nat → FieldType := fun k => match k with
  | _ => .int
abbrev wsJ60 : List Cond := u_ws RJ6 TJ6 0
theorem nmJ6 : ∀ a, a < 0 → ∀ b, b < 0 → a ≠ b → (TJ6 a).2.1 ≠ (TJ6 b).2.1 := by decide +kernel
theorem tyJ6_ok : ∀ k, k < 0 → parseFieldDescriptor (TJ6 k).2.2.1 = some (tyJ6 k) := by decide +kernel
abbrev cJ6_bitCount_0f7a4 : ByteArray := prog_9_method_49_code
def yJ6_bitCount_0f7a4 : MethodName := ⟨RJ6, "bitCount", "(I)I"⟩
def RJ9 : String := "java/lang/Math"
def TJ9 : u_T := fun k => match k with
  | _ => ("", "", "", false)
def tyJ9 : Nat → FieldType := fun k => match k with
  | _ => .int
abbrev wsJ90 : List Cond := u_ws RJ9 TJ9 0
theorem nmJ9 : ∀ a, a < 0 → ∀ b, b < 0 → a ≠ b → (TJ9 a).2.1 ≠ (TJ9 b).2.1 := by decide +kernel
theorem tyJ9_ok : ∀ k, k < 0 → parseFieldDescriptor (TJ9 k).2.2.1 = some (tyJ9 k) := by decide +kernel
abbrev cJ9_abs_0f7a4 : ByteArray := prog_10_method_59_code
def yJ9_abs_0f7a4 : MethodName := ⟨RJ9, "abs", "(I)I"⟩
abbrev cJ9_abs_067f4 : ByteArray := prog_10_method_61_code
def yJ9_abs_067f4 : MethodName := ⟨RJ9, "abs", "(J)J"⟩
abbrev cJ9_max_7cf53 : ByteArray := prog_10_method_65_code
def yJ9_max_7cf53 : MethodName := ⟨RJ9, "max", "(II)I"⟩
abbrev cJ9_max_f86c9 : ByteArray := prog_10_method_66_code
def yJ9_max_f86c9 : MethodName := ⟨RJ9, "max", "(JJ)J"⟩
abbrev cJ9_min_7cf53 : ByteArray := prog_10_method_69_code
def yJ9_min_7cf53 : MethodName := ⟨RJ9, "min", "(II)I"⟩
def RJ10 : String := "java/lang/System"
def TJ10 : u_T := fun k => match k with
  | _ => ("", "", "", false)
def tyJ10 : Nat → FieldType := fun k => match k with
  | _ => .int
abbrev wsJ100 : List Cond := u_ws RJ10 TJ10 0
theorem nmJ10 : ∀ a, a < 0 → ∀ b, b < 0 → a ≠ b → (TJ10 a).2.1 ≠ (TJ10 b).2.1 := by decide +kernel
theorem tyJ10_ok : ∀ k, k < 0 → parseFieldDescriptor (TJ10 k).2.2.1 = some (tyJ10 k) := by decide +kernel
def RJ7 : String := "java/util/Arrays"
def TJ7 : u_T := fun k => match k with
  | _ => ("", "", "", false)
def tyJ7 : Nat → FieldType := fun k => match k with
  | _ => .int
abbrev wsJ70 : List Cond := u_ws RJ7 TJ7 0
theorem nmJ7 : ∀ a, a < 0 → ∀ b, b < 0 → a ≠ b → (TJ7 a).2.1 ≠ (TJ7 b).2.1 := by decide +kernel
theorem tyJ7_ok : ∀ k, k < 0 → parseFieldDescriptor (TJ7 k).2.2.1 = some (tyJ7 k) := by decide +kernel
abbrev cJ7_fill_53178 : ByteArray := prog_12_method_103_code
def yJ7_fill_53178 : MethodName := ⟨RJ7, "fill", "([II)V"⟩
def RL : String := "HammockDeckLaw"
abbrev cL_law : ByteArray := code
def yL_law : MethodName := ⟨RL, "law", "([I)Z"⟩
