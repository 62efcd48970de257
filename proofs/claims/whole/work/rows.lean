section
-- ===== PART A: goes FIRST, ahead of the names: the tables' words, and 'selects' of the private methods out of them =====
/-- a private method of a class that the tables say can be made, by its rows of tables_1 -/
def lw_okq (q : MethodName × Nat) : Prop := (q.1.cls ≠ "java/lang/invoke/MethodHandle" ∧ q.1.cls ≠ "java/lang/invoke/VarHandle") ∧ Cond.instantiable q.1.cls q.2 ∈ tables_1 ∧ Cond.privateMethod q.1 ∈ tables_1 ∧ Cond.instanceMethod q.1 ∈ tables_1
theorem lw_p0 : lw_okq (⟨"HammockDeck$Berths", "takeAllDown", "()V"⟩, 5) := ⟨⟨by decide +kernel, by decide +kernel⟩, List.mem_of_getElem? (i := 63) (by decide +kernel), List.mem_of_getElem? (i := 83) (by decide +kernel), List.mem_of_getElem? (i := 84) (by decide +kernel)⟩
theorem lw_p1 : lw_okq (⟨"HammockDeck", "rowAt", "(I)LHammockDeck$Row;"⟩, 12) := ⟨⟨by decide +kernel, by decide +kernel⟩, List.mem_of_getElem? (i := 13) (by decide +kernel), List.mem_of_getElem? (i := 183) (by decide +kernel), List.mem_of_getElem? (i := 184) (by decide +kernel)⟩
theorem lw_p2 : lw_okq (⟨"HammockDeck", "renewed", "(LHammockDeck$Row;III)I"⟩, 12) := ⟨⟨by decide +kernel, by decide +kernel⟩, List.mem_of_getElem? (i := 13) (by decide +kernel), List.mem_of_getElem? (i := 187) (by decide +kernel), List.mem_of_getElem? (i := 188) (by decide +kernel)⟩
theorem lw_p3 : lw_okq (⟨"HammockDeck", "found", "(I)I"⟩, 12) := ⟨⟨by decide +kernel, by decide +kernel⟩, List.mem_of_getElem? (i := 13) (by decide +kernel), List.mem_of_getElem? (i := 191) (by decide +kernel), List.mem_of_getElem? (i := 192) (by decide +kernel)⟩
theorem lw_p4 : lw_okq (⟨"HammockDeck", "tell", "(I)V"⟩, 12) := ⟨⟨by decide +kernel, by decide +kernel⟩, List.mem_of_getElem? (i := 13) (by decide +kernel), List.mem_of_getElem? (i := 223) (by decide +kernel), List.mem_of_getElem? (i := 224) (by decide +kernel)⟩
theorem lw_p5 : lw_okq (⟨"HammockDeck", "textAt", "(I)LHammockDeck$Row;"⟩, 12) := ⟨⟨by decide +kernel, by decide +kernel⟩, List.mem_of_getElem? (i := 13) (by decide +kernel), List.mem_of_getElem? (i := 270) (by decide +kernel), List.mem_of_getElem? (i := 271) (by decide +kernel)⟩
theorem lw_p6 : lw_okq (⟨"HammockDeck$Reader", "skipBlanks", "()V"⟩, 3) := ⟨⟨by decide +kernel, by decide +kernel⟩, List.mem_of_getElem? (i := 282) (by decide +kernel), List.mem_of_getElem? (i := 302) (by decide +kernel), List.mem_of_getElem? (i := 303) (by decide +kernel)⟩
theorem lw_p7 : lw_okq (⟨"HammockDeck$Reader", "readHooks", "()Z"⟩, 3) := ⟨⟨by decide +kernel, by decide +kernel⟩, List.mem_of_getElem? (i := 282) (by decide +kernel), List.mem_of_getElem? (i := 307) (by decide +kernel), List.mem_of_getElem? (i := 308) (by decide +kernel)⟩
theorem lw_p8 : lw_okq (⟨"HammockDeck$Reader", "letterIn", "([C)I"⟩, 3) := ⟨⟨by decide +kernel, by decide +kernel⟩, List.mem_of_getElem? (i := 282) (by decide +kernel), List.mem_of_getElem? (i := 314) (by decide +kernel), List.mem_of_getElem? (i := 315) (by decide +kernel)⟩
theorem lw_p9 : lw_okq (⟨"HammockDeck$Reader", "readMan", "()Z"⟩, 3) := ⟨⟨by decide +kernel, by decide +kernel⟩, List.mem_of_getElem? (i := 282) (by decide +kernel), List.mem_of_getElem? (i := 327) (by decide +kernel), List.mem_of_getElem? (i := 328) (by decide +kernel)⟩
theorem lw_p10 : lw_okq (⟨"HammockDeck$Reader", "readFigure", "(II)I"⟩, 3) := ⟨⟨by decide +kernel, by decide +kernel⟩, List.mem_of_getElem? (i := 282) (by decide +kernel), List.mem_of_getElem? (i := 333) (by decide +kernel), List.mem_of_getElem? (i := 334) (by decide +kernel)⟩
theorem lw_p11 : lw_okq (⟨"HammockDeck$Berths", "bitOfWhoIsInAt", "(II)I"⟩, 5) := ⟨⟨by decide +kernel, by decide +kernel⟩, List.mem_of_getElem? (i := 63) (by decide +kernel), List.mem_of_getElem? (i := 396) (by decide +kernel), List.mem_of_getElem? (i := 397) (by decide +kernel)⟩
theorem lw_p12 : lw_okq (⟨"HammockDeck$Berths", "wakingsFrom", "(III)I"⟩, 5) := ⟨⟨by decide +kernel, by decide +kernel⟩, List.mem_of_getElem? (i := 63) (by decide +kernel), List.mem_of_getElem? (i := 426) (by decide +kernel), List.mem_of_getElem? (i := 427) (by decide +kernel)⟩
theorem lw_p13 : lw_okq (⟨"HammockDeck", "sleptThrough", "(I)I"⟩, 12) := ⟨⟨by decide +kernel, by decide +kernel⟩, List.mem_of_getElem? (i := 13) (by decide +kernel), List.mem_of_getElem? (i := 482) (by decide +kernel), List.mem_of_getElem? (i := 483) (by decide +kernel)⟩
theorem lw_p14 : lw_okq (⟨"HammockDeck", "isKeptPlace", "(I)Z"⟩, 12) := ⟨⟨by decide +kernel, by decide +kernel⟩, List.mem_of_getElem? (i := 13) (by decide +kernel), List.mem_of_getElem? (i := 508) (by decide +kernel), List.mem_of_getElem? (i := 509) (by decide +kernel)⟩
theorem lw_p15 : lw_okq (⟨"HammockDeck", "wakingsWithout", "(III)I"⟩, 12) := ⟨⟨by decide +kernel, by decide +kernel⟩, List.mem_of_getElem? (i := 13) (by decide +kernel), List.mem_of_getElem? (i := 554) (by decide +kernel), List.mem_of_getElem? (i := 555) (by decide +kernel)⟩
def lw_privs_1 : List (MethodName × Nat) := [(⟨"HammockDeck$Berths", "takeAllDown", "()V"⟩, 5), (⟨"HammockDeck", "rowAt", "(I)LHammockDeck$Row;"⟩, 12), (⟨"HammockDeck", "renewed", "(LHammockDeck$Row;III)I"⟩, 12), (⟨"HammockDeck", "found", "(I)I"⟩, 12), (⟨"HammockDeck", "tell", "(I)V"⟩, 12), (⟨"HammockDeck", "textAt", "(I)LHammockDeck$Row;"⟩, 12), (⟨"HammockDeck$Reader", "skipBlanks", "()V"⟩, 3), (⟨"HammockDeck$Reader", "readHooks", "()Z"⟩, 3), (⟨"HammockDeck$Reader", "letterIn", "([C)I"⟩, 3), (⟨"HammockDeck$Reader", "readMan", "()Z"⟩, 3), (⟨"HammockDeck$Reader", "readFigure", "(II)I"⟩, 3), (⟨"HammockDeck$Berths", "bitOfWhoIsInAt", "(II)I"⟩, 5), (⟨"HammockDeck$Berths", "wakingsFrom", "(III)I"⟩, 5), (⟨"HammockDeck", "sleptThrough", "(I)I"⟩, 12), (⟨"HammockDeck", "isKeptPlace", "(I)Z"⟩, 12), (⟨"HammockDeck", "wakingsWithout", "(III)I"⟩, 12)]
theorem lw_r1 : ∀ q ∈ lw_privs_1, lw_okq q := List.forall_mem_cons.mpr ⟨lw_p0, List.forall_mem_cons.mpr ⟨lw_p1, List.forall_mem_cons.mpr ⟨lw_p2, List.forall_mem_cons.mpr ⟨lw_p3, List.forall_mem_cons.mpr ⟨lw_p4, List.forall_mem_cons.mpr ⟨lw_p5, List.forall_mem_cons.mpr ⟨lw_p6, List.forall_mem_cons.mpr ⟨lw_p7, List.forall_mem_cons.mpr ⟨lw_p8, List.forall_mem_cons.mpr ⟨lw_p9, List.forall_mem_cons.mpr ⟨lw_p10, List.forall_mem_cons.mpr ⟨lw_p11, List.forall_mem_cons.mpr ⟨lw_p12, List.forall_mem_cons.mpr ⟨lw_p13, List.forall_mem_cons.mpr ⟨lw_p14, List.forall_mem_cons.mpr ⟨lw_p15, fun _ h => absurd h List.not_mem_nil⟩⟩⟩⟩⟩⟩⟩⟩⟩⟩⟩⟩⟩⟩⟩⟩
theorem lw_p16 : lw_okq (⟨"HammockDeck", "leastPlan", "(IILHammockDeck$Row;)I"⟩, 12) := ⟨⟨by decide +kernel, by decide +kernel⟩, List.mem_of_getElem? (i := 13) (by decide +kernel), List.mem_of_getElem? (i := 566) (by decide +kernel), List.mem_of_getElem? (i := 567) (by decide +kernel)⟩
theorem lw_p17 : lw_okq (⟨"HammockDeck", "beginPlans", "()V"⟩, 12) := ⟨⟨by decide +kernel, by decide +kernel⟩, List.mem_of_getElem? (i := 13) (by decide +kernel), List.mem_of_getElem? (i := 571) (by decide +kernel), List.mem_of_getElem? (i := 572) (by decide +kernel)⟩
theorem lw_p18 : lw_okq (⟨"HammockDeck", "weighed", "(II)I"⟩, 12) := ⟨⟨by decide +kernel, by decide +kernel⟩, List.mem_of_getElem? (i := 13) (by decide +kernel), List.mem_of_getElem? (i := 580) (by decide +kernel), List.mem_of_getElem? (i := 581) (by decide +kernel)⟩
theorem lw_p19 : lw_okq (⟨"HammockDeck$Berths", "moveOn", "(I)Z"⟩, 5) := ⟨⟨by decide +kernel, by decide +kernel⟩, List.mem_of_getElem? (i := 63) (by decide +kernel), List.mem_of_getElem? (i := 592) (by decide +kernel), List.mem_of_getElem? (i := 593) (by decide +kernel)⟩
theorem lw_p20 : lw_okq (⟨"HammockDeck", "firstGladPair", "(I)I"⟩, 12) := ⟨⟨by decide +kernel, by decide +kernel⟩, List.mem_of_getElem? (i := 13) (by decide +kernel), List.mem_of_getElem? (i := 622) (by decide +kernel), List.mem_of_getElem? (i := 623) (by decide +kernel)⟩
theorem lw_p21 : lw_okq (⟨"HammockDeck", "wouldBothGladlyChange", "(III)Z"⟩, 12) := ⟨⟨by decide +kernel, by decide +kernel⟩, List.mem_of_getElem? (i := 13) (by decide +kernel), List.mem_of_getElem? (i := 626) (by decide +kernel), List.mem_of_getElem? (i := 627) (by decide +kernel)⟩
theorem lw_p22 : lw_okq (⟨"HammockDeck$Berths", "hasBulkierNeighbour", "(II)Z"⟩, 5) := ⟨⟨by decide +kernel, by decide +kernel⟩, List.mem_of_getElem? (i := 63) (by decide +kernel), List.mem_of_getElem? (i := 651) (by decide +kernel), List.mem_of_getElem? (i := 652) (by decide +kernel)⟩
theorem lw_p23 : lw_okq (⟨"HammockDeck", "countFitting", "(LHammockDeck$Row;)V"⟩, 12) := ⟨⟨by decide +kernel, by decide +kernel⟩, List.mem_of_getElem? (i := 13) (by decide +kernel), List.mem_of_getElem? (i := 664) (by decide +kernel), List.mem_of_getElem? (i := 665) (by decide +kernel)⟩
theorem lw_p24 : lw_okq (⟨"HammockDeck", "fitsBook", "(LHammockDeck$Row;)Z"⟩, 12) := ⟨⟨by decide +kernel, by decide +kernel⟩, List.mem_of_getElem? (i := 13) (by decide +kernel), List.mem_of_getElem? (i := 668) (by decide +kernel), List.mem_of_getElem? (i := 669) (by decide +kernel)⟩
theorem lw_p25 : lw_okq (⟨"HammockDeck", "fitsBookBy", "(ILHammockDeck$Row;)Z"⟩, 12) := ⟨⟨by decide +kernel, by decide +kernel⟩, List.mem_of_getElem? (i := 13) (by decide +kernel), List.mem_of_getElem? (i := 672) (by decide +kernel), List.mem_of_getElem? (i := 673) (by decide +kernel)⟩
theorem lw_p26 : lw_okq (⟨"HammockDeck", "tellMean", "(JJ)V"⟩, 12) := ⟨⟨by decide +kernel, by decide +kernel⟩, List.mem_of_getElem? (i := 13) (by decide +kernel), List.mem_of_getElem? (i := 680) (by decide +kernel), List.mem_of_getElem? (i := 681) (by decide +kernel)⟩
theorem lw_p27 : lw_okq (⟨"HammockDeck", "counted", "(I)I"⟩, 12) := ⟨⟨by decide +kernel, by decide +kernel⟩, List.mem_of_getElem? (i := 13) (by decide +kernel), List.mem_of_getElem? (i := 717) (by decide +kernel), List.mem_of_getElem? (i := 718) (by decide +kernel)⟩
theorem lw_p28 : lw_okq (⟨"HammockDeck", "howManyKept", "()I"⟩, 12) := ⟨⟨by decide +kernel, by decide +kernel⟩, List.mem_of_getElem? (i := 13) (by decide +kernel), List.mem_of_getElem? (i := 728) (by decide +kernel), List.mem_of_getElem? (i := 729) (by decide +kernel)⟩
theorem lw_p29 : lw_okq (⟨"HammockDeckModel", "find", "(I)I"⟩, 26) := ⟨⟨by decide +kernel, by decide +kernel⟩, List.mem_of_getElem? (i := 751) (by decide +kernel), List.mem_of_getElem? (i := 847) (by decide +kernel), List.mem_of_getElem? (i := 848) (by decide +kernel)⟩
theorem lw_p30 : lw_okq (⟨"HammockDeckModel", "makeRow", "(II)V"⟩, 26) := ⟨⟨by decide +kernel, by decide +kernel⟩, List.mem_of_getElem? (i := 751) (by decide +kernel), List.mem_of_getElem? (i := 851) (by decide +kernel), List.mem_of_getElem? (i := 852) (by decide +kernel)⟩
theorem lw_p31 : lw_okq (⟨"HammockDeckModel", "refused", "(II)I"⟩, 26) := ⟨⟨by decide +kernel, by decide +kernel⟩, List.mem_of_getElem? (i := 751) (by decide +kernel), List.mem_of_getElem? (i := 859) (by decide +kernel), List.mem_of_getElem? (i := 860) (by decide +kernel)⟩
def lw_privs_2 : List (MethodName × Nat) := [(⟨"HammockDeck", "leastPlan", "(IILHammockDeck$Row;)I"⟩, 12), (⟨"HammockDeck", "beginPlans", "()V"⟩, 12), (⟨"HammockDeck", "weighed", "(II)I"⟩, 12), (⟨"HammockDeck$Berths", "moveOn", "(I)Z"⟩, 5), (⟨"HammockDeck", "firstGladPair", "(I)I"⟩, 12), (⟨"HammockDeck", "wouldBothGladlyChange", "(III)Z"⟩, 12), (⟨"HammockDeck$Berths", "hasBulkierNeighbour", "(II)Z"⟩, 5), (⟨"HammockDeck", "countFitting", "(LHammockDeck$Row;)V"⟩, 12), (⟨"HammockDeck", "fitsBook", "(LHammockDeck$Row;)Z"⟩, 12), (⟨"HammockDeck", "fitsBookBy", "(ILHammockDeck$Row;)Z"⟩, 12), (⟨"HammockDeck", "tellMean", "(JJ)V"⟩, 12), (⟨"HammockDeck", "counted", "(I)I"⟩, 12), (⟨"HammockDeck", "howManyKept", "()I"⟩, 12), (⟨"HammockDeckModel", "find", "(I)I"⟩, 26), (⟨"HammockDeckModel", "makeRow", "(II)V"⟩, 26), (⟨"HammockDeckModel", "refused", "(II)I"⟩, 26)]
theorem lw_r2 : ∀ q ∈ lw_privs_2, lw_okq q := List.forall_mem_cons.mpr ⟨lw_p16, List.forall_mem_cons.mpr ⟨lw_p17, List.forall_mem_cons.mpr ⟨lw_p18, List.forall_mem_cons.mpr ⟨lw_p19, List.forall_mem_cons.mpr ⟨lw_p20, List.forall_mem_cons.mpr ⟨lw_p21, List.forall_mem_cons.mpr ⟨lw_p22, List.forall_mem_cons.mpr ⟨lw_p23, List.forall_mem_cons.mpr ⟨lw_p24, List.forall_mem_cons.mpr ⟨lw_p25, List.forall_mem_cons.mpr ⟨lw_p26, List.forall_mem_cons.mpr ⟨lw_p27, List.forall_mem_cons.mpr ⟨lw_p28, List.forall_mem_cons.mpr ⟨lw_p29, List.forall_mem_cons.mpr ⟨lw_p30, List.forall_mem_cons.mpr ⟨lw_p31, fun _ h => absurd h List.not_mem_nil⟩⟩⟩⟩⟩⟩⟩⟩⟩⟩⟩⟩⟩⟩⟩⟩
theorem lw_p32 : lw_okq (⟨"HammockDeckModel", "tell", "(I)I"⟩, 26) := ⟨⟨by decide +kernel, by decide +kernel⟩, List.mem_of_getElem? (i := 751) (by decide +kernel), List.mem_of_getElem? (i := 863) (by decide +kernel), List.mem_of_getElem? (i := 864) (by decide +kernel)⟩
theorem lw_p33 : lw_okq (⟨"HammockDeckModel", "isSpan", "(III)Z"⟩, 26) := ⟨⟨by decide +kernel, by decide +kernel⟩, List.mem_of_getElem? (i := 751) (by decide +kernel), List.mem_of_getElem? (i := 879) (by decide +kernel), List.mem_of_getElem? (i := 880) (by decide +kernel)⟩
theorem lw_p34 : lw_okq (⟨"HammockDeckModel", "faultOf", "(I)I"⟩, 26) := ⟨⟨by decide +kernel, by decide +kernel⟩, List.mem_of_getElem? (i := 751) (by decide +kernel), List.mem_of_getElem? (i := 903) (by decide +kernel), List.mem_of_getElem? (i := 904) (by decide +kernel)⟩
theorem lw_p35 : lw_okq (⟨"HammockDeckModel", "readsHooks", "()Z"⟩, 26) := ⟨⟨by decide +kernel, by decide +kernel⟩, List.mem_of_getElem? (i := 751) (by decide +kernel), List.mem_of_getElem? (i := 907) (by decide +kernel), List.mem_of_getElem? (i := 908) (by decide +kernel)⟩
theorem lw_p36 : lw_okq (⟨"HammockDeckModel", "skip", "()V"⟩, 26) := ⟨⟨by decide +kernel, by decide +kernel⟩, List.mem_of_getElem? (i := 751) (by decide +kernel), List.mem_of_getElem? (i := 911) (by decide +kernel), List.mem_of_getElem? (i := 912) (by decide +kernel)⟩
theorem lw_p37 : lw_okq (⟨"HammockDeckModel", "here", "()I"⟩, 26) := ⟨⟨by decide +kernel, by decide +kernel⟩, List.mem_of_getElem? (i := 751) (by decide +kernel), List.mem_of_getElem? (i := 915) (by decide +kernel), List.mem_of_getElem? (i := 916) (by decide +kernel)⟩
theorem lw_p38 : lw_okq (⟨"HammockDeckModel", "readsMan", "()Z"⟩, 26) := ⟨⟨by decide +kernel, by decide +kernel⟩, List.mem_of_getElem? (i := 751) (by decide +kernel), List.mem_of_getElem? (i := 922) (by decide +kernel), List.mem_of_getElem? (i := 923) (by decide +kernel)⟩
theorem lw_p39 : lw_okq (⟨"HammockDeckModel", "figure", "(II)I"⟩, 26) := ⟨⟨by decide +kernel, by decide +kernel⟩, List.mem_of_getElem? (i := 751) (by decide +kernel), List.mem_of_getElem? (i := 929) (by decide +kernel), List.mem_of_getElem? (i := 930) (by decide +kernel)⟩
theorem lw_p40 : lw_okq (⟨"HammockDeckModel", "isMan", "(I)Z"⟩, 26) := ⟨⟨by decide +kernel, by decide +kernel⟩, List.mem_of_getElem? (i := 751) (by decide +kernel), List.mem_of_getElem? (i := 941) (by decide +kernel), List.mem_of_getElem? (i := 942) (by decide +kernel)⟩
theorem lw_p41 : lw_okq (⟨"HammockDeckModel", "toldOf", "(II)I"⟩, 26) := ⟨⟨by decide +kernel, by decide +kernel⟩, List.mem_of_getElem? (i := 751) (by decide +kernel), List.mem_of_getElem? (i := 945) (by decide +kernel), List.mem_of_getElem? (i := 946) (by decide +kernel)⟩
theorem lw_p42 : lw_okq (⟨"HammockDeckModel", "isHook", "(I)Z"⟩, 26) := ⟨⟨by decide +kernel, by decide +kernel⟩, List.mem_of_getElem? (i := 751) (by decide +kernel), List.mem_of_getElem? (i := 953) (by decide +kernel), List.mem_of_getElem? (i := 954) (by decide +kernel)⟩
theorem lw_p43 : lw_okq (⟨"HammockDeckModel", "whoAt", "(I)I"⟩, 26) := ⟨⟨by decide +kernel, by decide +kernel⟩, List.mem_of_getElem? (i := 751) (by decide +kernel), List.mem_of_getElem? (i := 957) (by decide +kernel), List.mem_of_getElem? (i := 958) (by decide +kernel)⟩
theorem lw_p44 : lw_okq (⟨"HammockDeckModel", "isOf", "(II)Z"⟩, 26) := ⟨⟨by decide +kernel, by decide +kernel⟩, List.mem_of_getElem? (i := 751) (by decide +kernel), List.mem_of_getElem? (i := 965) (by decide +kernel), List.mem_of_getElem? (i := 966) (by decide +kernel)⟩
theorem lw_p45 : lw_okq (⟨"HammockDeckModel", "layNow", "()V"⟩, 26) := ⟨⟨by decide +kernel, by decide +kernel⟩, List.mem_of_getElem? (i := 751) (by decide +kernel), List.mem_of_getElem? (i := 969) (by decide +kernel), List.mem_of_getElem? (i := 970) (by decide +kernel)⟩
theorem lw_p46 : lw_okq (⟨"HammockDeckModel", "beside", "(II)I"⟩, 26) := ⟨⟨by decide +kernel, by decide +kernel⟩, List.mem_of_getElem? (i := 751) (by decide +kernel), List.mem_of_getElem? (i := 973) (by decide +kernel), List.mem_of_getElem? (i := 974) (by decide +kernel)⟩
theorem lw_p47 : lw_okq (⟨"HammockDeckModel", "isBeside", "(III)Z"⟩, 26) := ⟨⟨by decide +kernel, by decide +kernel⟩, List.mem_of_getElem? (i := 751) (by decide +kernel), List.mem_of_getElem? (i := 977) (by decide +kernel), List.mem_of_getElem? (i := 978) (by decide +kernel)⟩
def lw_privs_3 : List (MethodName × Nat) := [(⟨"HammockDeckModel", "tell", "(I)I"⟩, 26), (⟨"HammockDeckModel", "isSpan", "(III)Z"⟩, 26), (⟨"HammockDeckModel", "faultOf", "(I)I"⟩, 26), (⟨"HammockDeckModel", "readsHooks", "()Z"⟩, 26), (⟨"HammockDeckModel", "skip", "()V"⟩, 26), (⟨"HammockDeckModel", "here", "()I"⟩, 26), (⟨"HammockDeckModel", "readsMan", "()Z"⟩, 26), (⟨"HammockDeckModel", "figure", "(II)I"⟩, 26), (⟨"HammockDeckModel", "isMan", "(I)Z"⟩, 26), (⟨"HammockDeckModel", "toldOf", "(II)I"⟩, 26), (⟨"HammockDeckModel", "isHook", "(I)Z"⟩, 26), (⟨"HammockDeckModel", "whoAt", "(I)I"⟩, 26), (⟨"HammockDeckModel", "isOf", "(II)Z"⟩, 26), (⟨"HammockDeckModel", "layNow", "()V"⟩, 26), (⟨"HammockDeckModel", "beside", "(II)I"⟩, 26), (⟨"HammockDeckModel", "isBeside", "(III)Z"⟩, 26)]
theorem lw_r3 : ∀ q ∈ lw_privs_3, lw_okq q := List.forall_mem_cons.mpr ⟨lw_p32, List.forall_mem_cons.mpr ⟨lw_p33, List.forall_mem_cons.mpr ⟨lw_p34, List.forall_mem_cons.mpr ⟨lw_p35, List.forall_mem_cons.mpr ⟨lw_p36, List.forall_mem_cons.mpr ⟨lw_p37, List.forall_mem_cons.mpr ⟨lw_p38, List.forall_mem_cons.mpr ⟨lw_p39, List.forall_mem_cons.mpr ⟨lw_p40, List.forall_mem_cons.mpr ⟨lw_p41, List.forall_mem_cons.mpr ⟨lw_p42, List.forall_mem_cons.mpr ⟨lw_p43, List.forall_mem_cons.mpr ⟨lw_p44, List.forall_mem_cons.mpr ⟨lw_p45, List.forall_mem_cons.mpr ⟨lw_p46, List.forall_mem_cons.mpr ⟨lw_p47, fun _ h => absurd h List.not_mem_nil⟩⟩⟩⟩⟩⟩⟩⟩⟩⟩⟩⟩⟩⟩⟩⟩
theorem lw_p48 : lw_okq (⟨"HammockDeckModel", "isIn", "(II)Z"⟩, 26) := ⟨⟨by decide +kernel, by decide +kernel⟩, List.mem_of_getElem? (i := 751) (by decide +kernel), List.mem_of_getElem? (i := 981) (by decide +kernel), List.mem_of_getElem? (i := 982) (by decide +kernel)⟩
theorem lw_p49 : lw_okq (⟨"HammockDeckModel", "besideOf", "(IIZ)I"⟩, 26) := ⟨⟨by decide +kernel, by decide +kernel⟩, List.mem_of_getElem? (i := 751) (by decide +kernel), List.mem_of_getElem? (i := 988) (by decide +kernel), List.mem_of_getElem? (i := 989) (by decide +kernel)⟩
theorem lw_p50 : lw_okq (⟨"HammockDeckModel", "tallMany", "()I"⟩, 26) := ⟨⟨by decide +kernel, by decide +kernel⟩, List.mem_of_getElem? (i := 751) (by decide +kernel), List.mem_of_getElem? (i := 992) (by decide +kernel), List.mem_of_getElem? (i := 993) (by decide +kernel)⟩
theorem lw_p51 : lw_okq (⟨"HammockDeckModel", "wokenBut", "(III)I"⟩, 26) := ⟨⟨by decide +kernel, by decide +kernel⟩, List.mem_of_getElem? (i := 751) (by decide +kernel), List.mem_of_getElem? (i := 996) (by decide +kernel), List.mem_of_getElem? (i := 997) (by decide +kernel)⟩
theorem lw_p52 : lw_okq (⟨"HammockDeckModel", "wakes", "(II)I"⟩, 26) := ⟨⟨by decide +kernel, by decide +kernel⟩, List.mem_of_getElem? (i := 751) (by decide +kernel), List.mem_of_getElem? (i := 1003) (by decide +kernel), List.mem_of_getElem? (i := 1004) (by decide +kernel)⟩
theorem lw_p53 : lw_okq (⟨"HammockDeckModel", "keepPast", "()V"⟩, 26) := ⟨⟨by decide +kernel, by decide +kernel⟩, List.mem_of_getElem? (i := 751) (by decide +kernel), List.mem_of_getElem? (i := 1014) (by decide +kernel), List.mem_of_getElem? (i := 1015) (by decide +kernel)⟩
theorem lw_p54 : lw_okq (⟨"HammockDeckModel", "areTwo", "(II)Z"⟩, 26) := ⟨⟨by decide +kernel, by decide +kernel⟩, List.mem_of_getElem? (i := 751) (by decide +kernel), List.mem_of_getElem? (i := 1026) (by decide +kernel), List.mem_of_getElem? (i := 1027) (by decide +kernel)⟩
theorem lw_p55 : lw_okq (⟨"HammockDeckModel", "pass", "(I)I"⟩, 26) := ⟨⟨by decide +kernel, by decide +kernel⟩, List.mem_of_getElem? (i := 751) (by decide +kernel), List.mem_of_getElem? (i := 1043) (by decide +kernel), List.mem_of_getElem? (i := 1044) (by decide +kernel)⟩
theorem lw_p56 : lw_okq (⟨"HammockDeckModel", "copyDeck", "(II)V"⟩, 26) := ⟨⟨by decide +kernel, by decide +kernel⟩, List.mem_of_getElem? (i := 751) (by decide +kernel), List.mem_of_getElem? (i := 1055) (by decide +kernel), List.mem_of_getElem? (i := 1056) (by decide +kernel)⟩
theorem lw_p57 : lw_okq (⟨"HammockDeckModel", "inMany", "(I)I"⟩, 26) := ⟨⟨by decide +kernel, by decide +kernel⟩, List.mem_of_getElem? (i := 751) (by decide +kernel), List.mem_of_getElem? (i := 1075) (by decide +kernel), List.mem_of_getElem? (i := 1076) (by decide +kernel)⟩
theorem lw_p58 : lw_okq (⟨"HammockDeckModel", "allWoken", "(I)I"⟩, 26) := ⟨⟨by decide +kernel, by decide +kernel⟩, List.mem_of_getElem? (i := 751) (by decide +kernel), List.mem_of_getElem? (i := 1079) (by decide +kernel), List.mem_of_getElem? (i := 1080) (by decide +kernel)⟩
theorem lw_p59 : lw_okq (⟨"HammockDeckModel", "toBest", "(III)I"⟩, 26) := ⟨⟨by decide +kernel, by decide +kernel⟩, List.mem_of_getElem? (i := 751) (by decide +kernel), List.mem_of_getElem? (i := 1095) (by decide +kernel), List.mem_of_getElem? (i := 1096) (by decide +kernel)⟩
theorem lw_p60 : lw_okq (⟨"HammockDeckModel", "firstPlan", "()V"⟩, 26) := ⟨⟨by decide +kernel, by decide +kernel⟩, List.mem_of_getElem? (i := 751) (by decide +kernel), List.mem_of_getElem? (i := 1099) (by decide +kernel), List.mem_of_getElem? (i := 1100) (by decide +kernel)⟩
theorem lw_p61 : lw_okq (⟨"HammockDeckModel", "valueOf", "(II)I"⟩, 26) := ⟨⟨by decide +kernel, by decide +kernel⟩, List.mem_of_getElem? (i := 751) (by decide +kernel), List.mem_of_getElem? (i := 1103) (by decide +kernel), List.mem_of_getElem? (i := 1104) (by decide +kernel)⟩
theorem lw_p62 : lw_okq (⟨"HammockDeckModel", "mostWoken", "(I)I"⟩, 26) := ⟨⟨by decide +kernel, by decide +kernel⟩, List.mem_of_getElem? (i := 751) (by decide +kernel), List.mem_of_getElem? (i := 1107) (by decide +kernel), List.mem_of_getElem? (i := 1108) (by decide +kernel)⟩
theorem lw_p63 : lw_okq (⟨"HammockDeckModel", "nextPlan", "()Z"⟩, 26) := ⟨⟨by decide +kernel, by decide +kernel⟩, List.mem_of_getElem? (i := 751) (by decide +kernel), List.mem_of_getElem? (i := 1111) (by decide +kernel), List.mem_of_getElem? (i := 1112) (by decide +kernel)⟩
def lw_privs_4 : List (MethodName × Nat) := [(⟨"HammockDeckModel", "isIn", "(II)Z"⟩, 26), (⟨"HammockDeckModel", "besideOf", "(IIZ)I"⟩, 26), (⟨"HammockDeckModel", "tallMany", "()I"⟩, 26), (⟨"HammockDeckModel", "wokenBut", "(III)I"⟩, 26), (⟨"HammockDeckModel", "wakes", "(II)I"⟩, 26), (⟨"HammockDeckModel", "keepPast", "()V"⟩, 26), (⟨"HammockDeckModel", "areTwo", "(II)Z"⟩, 26), (⟨"HammockDeckModel", "pass", "(I)I"⟩, 26), (⟨"HammockDeckModel", "copyDeck", "(II)V"⟩, 26), (⟨"HammockDeckModel", "inMany", "(I)I"⟩, 26), (⟨"HammockDeckModel", "allWoken", "(I)I"⟩, 26), (⟨"HammockDeckModel", "toBest", "(III)I"⟩, 26), (⟨"HammockDeckModel", "firstPlan", "()V"⟩, 26), (⟨"HammockDeckModel", "valueOf", "(II)I"⟩, 26), (⟨"HammockDeckModel", "mostWoken", "(I)I"⟩, 26), (⟨"HammockDeckModel", "nextPlan", "()Z"⟩, 26)]
theorem lw_r4 : ∀ q ∈ lw_privs_4, lw_okq q := List.forall_mem_cons.mpr ⟨lw_p48, List.forall_mem_cons.mpr ⟨lw_p49, List.forall_mem_cons.mpr ⟨lw_p50, List.forall_mem_cons.mpr ⟨lw_p51, List.forall_mem_cons.mpr ⟨lw_p52, List.forall_mem_cons.mpr ⟨lw_p53, List.forall_mem_cons.mpr ⟨lw_p54, List.forall_mem_cons.mpr ⟨lw_p55, List.forall_mem_cons.mpr ⟨lw_p56, List.forall_mem_cons.mpr ⟨lw_p57, List.forall_mem_cons.mpr ⟨lw_p58, List.forall_mem_cons.mpr ⟨lw_p59, List.forall_mem_cons.mpr ⟨lw_p60, List.forall_mem_cons.mpr ⟨lw_p61, List.forall_mem_cons.mpr ⟨lw_p62, List.forall_mem_cons.mpr ⟨lw_p63, fun _ h => absurd h List.not_mem_nil⟩⟩⟩⟩⟩⟩⟩⟩⟩⟩⟩⟩⟩⟩⟩⟩
theorem lw_p64 : lw_okq (⟨"HammockDeckModel", "areUnlike", "()Z"⟩, 26) := ⟨⟨by decide +kernel, by decide +kernel⟩, List.mem_of_getElem? (i := 751) (by decide +kernel), List.mem_of_getElem? (i := 1115) (by decide +kernel), List.mem_of_getElem? (i := 1116) (by decide +kernel)⟩
theorem lw_p65 : lw_okq (⟨"HammockDeckModel", "isPlan", "(I)Z"⟩, 26) := ⟨⟨by decide +kernel, by decide +kernel⟩, List.mem_of_getElem? (i := 751) (by decide +kernel), List.mem_of_getElem? (i := 1131) (by decide +kernel), List.mem_of_getElem? (i := 1132) (by decide +kernel)⟩
theorem lw_p66 : lw_okq (⟨"HammockDeckModel", "swap", "(II)V"⟩, 26) := ⟨⟨by decide +kernel, by decide +kernel⟩, List.mem_of_getElem? (i := 751) (by decide +kernel), List.mem_of_getElem? (i := 1139) (by decide +kernel), List.mem_of_getElem? (i := 1140) (by decide +kernel)⟩
theorem lw_p67 : lw_okq (⟨"HammockDeckModel", "wouldChange", "(III)Z"⟩, 26) := ⟨⟨by decide +kernel, by decide +kernel⟩, List.mem_of_getElem? (i := 751) (by decide +kernel), List.mem_of_getElem? (i := 1147) (by decide +kernel), List.mem_of_getElem? (i := 1148) (by decide +kernel)⟩
theorem lw_p68 : lw_okq (⟨"HammockDeckModel", "matesTried", "()I"⟩, 26) := ⟨⟨by decide +kernel, by decide +kernel⟩, List.mem_of_getElem? (i := 751) (by decide +kernel), List.mem_of_getElem? (i := 1155) (by decide +kernel), List.mem_of_getElem? (i := 1156) (by decide +kernel)⟩
theorem lw_p69 : lw_okq (⟨"HammockDeckModel", "inTheWay", "(II)I"⟩, 26) := ⟨⟨by decide +kernel, by decide +kernel⟩, List.mem_of_getElem? (i := 751) (by decide +kernel), List.mem_of_getElem? (i := 1167) (by decide +kernel), List.mem_of_getElem? (i := 1168) (by decide +kernel)⟩
theorem lw_p70 : lw_okq (⟨"HammockDeckModel", "nextOrder", "(I)Z"⟩, 26) := ⟨⟨by decide +kernel, by decide +kernel⟩, List.mem_of_getElem? (i := 751) (by decide +kernel), List.mem_of_getElem? (i := 1171) (by decide +kernel), List.mem_of_getElem? (i := 1172) (by decide +kernel)⟩
theorem lw_p71 : lw_okq (⟨"HammockDeckModel", "areWhens", "(I)Z"⟩, 26) := ⟨⟨by decide +kernel, by decide +kernel⟩, List.mem_of_getElem? (i := 751) (by decide +kernel), List.mem_of_getElem? (i := 1179) (by decide +kernel), List.mem_of_getElem? (i := 1180) (by decide +kernel)⟩
theorem lw_p72 : lw_okq (⟨"HammockDeckModel", "isSo", "(I)Z"⟩, 26) := ⟨⟨by decide +kernel, by decide +kernel⟩, List.mem_of_getElem? (i := 751) (by decide +kernel), List.mem_of_getElem? (i := 1183) (by decide +kernel), List.mem_of_getElem? (i := 1184) (by decide +kernel)⟩
theorem lw_p73 : lw_okq (⟨"HammockDeckModel", "countOf", "(I)I"⟩, 26) := ⟨⟨by decide +kernel, by decide +kernel⟩, List.mem_of_getElem? (i := 751) (by decide +kernel), List.mem_of_getElem? (i := 1217) (by decide +kernel), List.mem_of_getElem? (i := 1218) (by decide +kernel)⟩
theorem lw_p74 : lw_okq (⟨"HammockDeckModel", "hungMany", "()I"⟩, 26) := ⟨⟨by decide +kernel, by decide +kernel⟩, List.mem_of_getElem? (i := 751) (by decide +kernel), List.mem_of_getElem? (i := 1221) (by decide +kernel), List.mem_of_getElem? (i := 1222) (by decide +kernel)⟩
theorem lw_p75 : lw_okq (⟨"HammockDeckModel", "tiredAll", "()I"⟩, 26) := ⟨⟨by decide +kernel, by decide +kernel⟩, List.mem_of_getElem? (i := 751) (by decide +kernel), List.mem_of_getElem? (i := 1225) (by decide +kernel), List.mem_of_getElem? (i := 1226) (by decide +kernel)⟩
theorem lw_p76 : lw_okq (⟨"HammockDeckModel", "thereOf", "(I)I"⟩, 26) := ⟨⟨by decide +kernel, by decide +kernel⟩, List.mem_of_getElem? (i := 751) (by decide +kernel), List.mem_of_getElem? (i := 1229) (by decide +kernel), List.mem_of_getElem? (i := 1230) (by decide +kernel)⟩
def lw_privs_5 : List (MethodName × Nat) := [(⟨"HammockDeckModel", "areUnlike", "()Z"⟩, 26), (⟨"HammockDeckModel", "isPlan", "(I)Z"⟩, 26), (⟨"HammockDeckModel", "swap", "(II)V"⟩, 26), (⟨"HammockDeckModel", "wouldChange", "(III)Z"⟩, 26), (⟨"HammockDeckModel", "matesTried", "()I"⟩, 26), (⟨"HammockDeckModel", "inTheWay", "(II)I"⟩, 26), (⟨"HammockDeckModel", "nextOrder", "(I)Z"⟩, 26), (⟨"HammockDeckModel", "areWhens", "(I)Z"⟩, 26), (⟨"HammockDeckModel", "isSo", "(I)Z"⟩, 26), (⟨"HammockDeckModel", "countOf", "(I)I"⟩, 26), (⟨"HammockDeckModel", "hungMany", "()I"⟩, 26), (⟨"HammockDeckModel", "tiredAll", "()I"⟩, 26), (⟨"HammockDeckModel", "thereOf", "(I)I"⟩, 26)]
theorem lw_r5 : ∀ q ∈ lw_privs_5, lw_okq q := List.forall_mem_cons.mpr ⟨lw_p64, List.forall_mem_cons.mpr ⟨lw_p65, List.forall_mem_cons.mpr ⟨lw_p66, List.forall_mem_cons.mpr ⟨lw_p67, List.forall_mem_cons.mpr ⟨lw_p68, List.forall_mem_cons.mpr ⟨lw_p69, List.forall_mem_cons.mpr ⟨lw_p70, List.forall_mem_cons.mpr ⟨lw_p71, List.forall_mem_cons.mpr ⟨lw_p72, List.forall_mem_cons.mpr ⟨lw_p73, List.forall_mem_cons.mpr ⟨lw_p74, List.forall_mem_cons.mpr ⟨lw_p75, List.forall_mem_cons.mpr ⟨lw_p76, fun _ h => absurd h List.not_mem_nil⟩⟩⟩⟩⟩⟩⟩⟩⟩⟩⟩⟩⟩
def lw_privs : List (MethodName × Nat) := lw_privs_1 ++ (lw_privs_2 ++ (lw_privs_3 ++ (lw_privs_4 ++ (lw_privs_5))))
def lw_tbl : List Cond := k2_sels lw_privs ++ tables_1
theorem lw_privs_ok : ∀ q ∈ lw_privs, lw_okq q := by
  show ∀ q ∈ lw_privs_1 ++ (lw_privs_2 ++ (lw_privs_3 ++ (lw_privs_4 ++ (lw_privs_5)))), lw_okq q
  exact List.forall_mem_append.mpr ⟨lw_r1, List.forall_mem_append.mpr ⟨lw_r2, List.forall_mem_append.mpr ⟨lw_r3, List.forall_mem_append.mpr ⟨lw_r4, lw_r5⟩⟩⟩⟩

/-! the class and method names (printed) -/
def RX0 : String := "HammockDeck$Berths"
def TX0 : u_T := fun k => match k with
  | 0 => ("HammockDeck$Berths", "crew", "LHammockDeck$Crew;", false)
  | 1 => ("HammockDeck$Berths", "hooks", "[I", true)
  | 2 => ("HammockDeck$Berths", "holders", "[I", true)
  | 3 => ("HammockDeck$Berths", "lines", "[I", true)
  | _ => ("HammockDeck$Berths", "tired", "[I", true)
def tyX0 : Nat → FieldType := fun k => match k with
  | 0 => .object "HammockDeck$Crew"
  | 1 => .array .int
  | 2 => .array .int
  | 3 => .array .int
  | _ => .array .int
abbrev wsX00 : List Cond := u_ws RX0 TX0 5
theorem nmX0 : ∀ a, a < 5 → ∀ b, b < 5 → a ≠ b → (TX0 a).2.1 ≠ (TX0 b).2.1 := by decide +kernel
theorem tyX0_ok : ∀ k, k < 5 → parseFieldDescriptor (TX0 k).2.2.1 = some (tyX0 k) := by decide +kernel
abbrev cX0_init : ByteArray := prog_2_method_1_code
def yX0_init : MethodName := ⟨RX0, "<init>", "(LHammockDeck$Crew;)V"⟩
abbrev cX0_begin : ByteArray := prog_2_method_2_code
def yX0_begin : MethodName := ⟨RX0, "begin", "(LHammockDeck$Crew;)V"⟩
abbrev cX0_copyFrom : ByteArray := prog_2_method_3_code
def yX0_copyFrom : MethodName := ⟨RX0, "copyFrom", "(LHammockDeck$Berths;)V"⟩
abbrev cX0_manDetail : ByteArray := prog_2_method_4_code
def yX0_manDetail : MethodName := ⟨RX0, "manDetail", "(II)I"⟩
abbrev cX0_hookDetail : ByteArray := prog_2_method_5_code
def yX0_hookDetail : MethodName := ⟨RX0, "hookDetail", "(II)I"⟩
abbrev cX0_tiredTogether : ByteArray := prog_2_method_6_code
def yX0_tiredTogether : MethodName := ⟨RX0, "tiredTogether", "()I"⟩
abbrev cX0_writeTo : ByteArray := prog_2_method_7_code
def yX0_writeTo : MethodName := ⟨RX0, "writeTo", "([II)V"⟩
abbrev cX0_readFrom : ByteArray := prog_2_method_8_code
def yX0_readFrom : MethodName := ⟨RX0, "readFrom", "([II)V"⟩
abbrev cX0_isFree : ByteArray := prog_2_method_9_code
def yX0_isFree : MethodName := ⟨RX0, "isFree", "(I)Z"⟩
abbrev cX0_hangs : ByteArray := prog_2_method_10_code
def yX0_hangs : MethodName := ⟨RX0, "hangs", "(I)Z"⟩
abbrev cX0_move : ByteArray := prog_2_method_11_code
def yX0_move : MethodName := ⟨RX0, "move", "(II)V"⟩
abbrev cX0_swap : ByteArray := prog_2_method_12_code
def yX0_swap : MethodName := ⟨RX0, "swap", "(II)V"⟩
abbrev cX0_takeAllDown : ByteArray := prog_2_method_13_code
def yX0_takeAllDown : MethodName := ⟨RX0, "takeAllDown", "()V"⟩
abbrev cX0_hangBy : ByteArray := prog_2_method_14_code
def yX0_hangBy : MethodName := ⟨RX0, "hangBy", "(LHammockDeck$Row;)Z"⟩
abbrev cX0_hangByFirstPlan : ByteArray := prog_2_method_15_code
def yX0_hangByFirstPlan : MethodName := ⟨RX0, "hangByFirstPlan", "()V"⟩
abbrev cX0_hangByNextPlan : ByteArray := prog_2_method_16_code
def yX0_hangByNextPlan : MethodName := ⟨RX0, "hangByNextPlan", "()V"⟩
abbrev cX0_moveOn : ByteArray := prog_2_method_17_code
def yX0_moveOn : MethodName := ⟨RX0, "moveOn", "(I)Z"⟩
abbrev cX0_messmatePairs : ByteArray := prog_2_method_18_code
def yX0_messmatePairs : MethodName := ⟨RX0, "messmatePairs", "()I"⟩
abbrev cX0_isIn : ByteArray := prog_2_method_19_code
def yX0_isIn : MethodName := ⟨RX0, "isIn", "(II)Z"⟩
abbrev cX0_howManyIn : ByteArray := prog_2_method_20_code
def yX0_howManyIn : MethodName := ⟨RX0, "howManyIn", "(I)I"⟩
abbrev cX0_bitOfWhoIsInAt : ByteArray := prog_2_method_21_code
def yX0_bitOfWhoIsInAt : MethodName := ⟨RX0, "bitOfWhoIsInAt", "(II)I"⟩
abbrev cX0_neighbourBits : ByteArray := prog_2_method_22_code
def yX0_neighbourBits : MethodName := ⟨RX0, "neighbourBits", "(II)I"⟩
abbrev cX0_wakings : ByteArray := prog_2_method_23_code
def yX0_wakings : MethodName := ⟨RX0, "wakings", "(II)I"⟩
abbrev cX0_wakingsFrom : ByteArray := prog_2_method_24_code
def yX0_wakingsFrom : MethodName := ⟨RX0, "wakingsFrom", "(III)I"⟩
abbrev cX0_allWakings : ByteArray := prog_2_method_25_code
def yX0_allWakings : MethodName := ⟨RX0, "allWakings", "(I)I"⟩
abbrev cX0_mostWakings : ByteArray := prog_2_method_26_code
def yX0_mostWakings : MethodName := ⟨RX0, "mostWakings", "(I)I"⟩
abbrev cX0_tire : ByteArray := prog_2_method_27_code
def yX0_tire : MethodName := ⟨RX0, "tire", "(I)I"⟩
abbrev cX0_inTheWayOf : ByteArray := prog_2_method_28_code
def yX0_inTheWayOf : MethodName := ⟨RX0, "inTheWayOf", "(II)I"⟩
abbrev cX0_firstToGetUp : ByteArray := prog_2_method_29_code
def yX0_firstToGetUp : MethodName := ⟨RX0, "firstToGetUp", "(I)I"⟩
abbrev cX0_hasBulkierNeighbour : ByteArray := prog_2_method_30_code
def yX0_hasBulkierNeighbour : MethodName := ⟨RX0, "hasBulkierNeighbour", "(II)Z"⟩
def RX1 : String := "HammockDeck$Crew"
def TX1 : u_T := fun k => match k with
  | 0 => ("HammockDeck$Crew", "hooks", "I", false)
  | 1 => ("HammockDeck$Crew", "men", "I", false)
  | 2 => ("HammockDeck$Crew", "places", "[I", true)
  | 3 => ("HammockDeck$Crew", "kinds", "[I", true)
  | 4 => ("HammockDeck$Crew", "firstLines", "[I", true)
  | 5 => ("HammockDeck$Crew", "watches", "[I", true)
  | _ => ("HammockDeck$Crew", "messes", "[I", true)
def tyX1 : Nat → FieldType := fun k => match k with
  | 0 => .int
  | 1 => .int
  | 2 => .array .int
  | 3 => .array .int
  | 4 => .array .int
  | 5 => .array .int
  | _ => .array .int
abbrev wsX10 : List Cond := u_ws RX1 TX1 7
theorem nmX1 : ∀ a, a < 7 → ∀ b, b < 7 → a ≠ b → (TX1 a).2.1 ≠ (TX1 b).2.1 := by decide +kernel
theorem tyX1_ok : ∀ k, k < 7 → parseFieldDescriptor (TX1 k).2.2.1 = some (tyX1 k) := by decide +kernel
abbrev cX1_init : ByteArray := prog_3_method_1_code
def yX1_init : MethodName := ⟨RX1, "<init>", "()V"⟩
abbrev cX1_hasHook : ByteArray := prog_3_method_2_code
def yX1_hasHook : MethodName := ⟨RX1, "hasHook", "(I)Z"⟩
abbrev cX1_hasMan : ByteArray := prog_3_method_3_code
def yX1_hasMan : MethodName := ⟨RX1, "hasMan", "(I)Z"⟩
abbrev cX1_addHook : ByteArray := prog_3_method_4_code
def yX1_addHook : MethodName := ⟨RX1, "addHook", "(I)V"⟩
abbrev cX1_addMan : ByteArray := prog_3_method_5_code
def yX1_addMan : MethodName := ⟨RX1, "addMan", "(IIII)V"⟩
abbrev cX1_mostMen : ByteArray := prog_3_method_6_code
def yX1_mostMen : MethodName := ⟨RX1, "mostMen", "()I"⟩
abbrev cX1_planCount : ByteArray := prog_3_method_7_code
def yX1_planCount : MethodName := ⟨RX1, "planCount", "()I"⟩
abbrev cX1_isOf : ByteArray := prog_3_method_8_code
def yX1_isOf : MethodName := ⟨RX1, "isOf", "(II)Z"⟩
abbrev cX1_bitsOf : ByteArray := prog_3_method_9_code
def yX1_bitsOf : MethodName := ⟨RX1, "bitsOf", "(I)I"⟩
abbrev cX1_bulk : ByteArray := prog_3_method_10_code
def yX1_bulk : MethodName := ⟨RX1, "bulk", "(I)I"⟩
abbrev cX1_placeWakes : ByteArray := prog_3_method_11_code
def yX1_placeWakes : MethodName := ⟨RX1, "placeWakes", "(I)I"⟩
def RX2 : String := "HammockDeck$Log"
def TX2 : u_T := fun k => match k with
  | 0 => ("HammockDeck$Log", "moments", "[I", true)
  | _ => ("HammockDeck$Log", "deeds", "I", false)
def tyX2 : Nat → FieldType := fun k => match k with
  | 0 => .array .int
  | _ => .int
abbrev wsX20 : List Cond := u_ws RX2 TX2 2
theorem nmX2 : ∀ a, a < 2 → ∀ b, b < 2 → a ≠ b → (TX2 a).2.1 ≠ (TX2 b).2.1 := by decide +kernel
theorem tyX2_ok : ∀ k, k < 2 → parseFieldDescriptor (TX2 k).2.2.1 = some (tyX2 k) := by decide +kernel
abbrev cX2_init : ByteArray := prog_4_method_1_code
def yX2_init : MethodName := ⟨RX2, "<init>", "(I)V"⟩
abbrev cX2_isMissing : ByteArray := prog_4_method_2_code
def yX2_isMissing : MethodName := ⟨RX2, "isMissing", "()Z"⟩
abbrev cX2_hasRoomFor : ByteArray := prog_4_method_3_code
def yX2_hasRoomFor : MethodName := ⟨RX2, "hasRoomFor", "(I)Z"⟩
abbrev cX2_begin : ByteArray := prog_4_method_4_code
def yX2_begin : MethodName := ⟨RX2, "begin", "(LHammockDeck$Berths;)V"⟩
abbrev cX2_add : ByteArray := prog_4_method_5_code
def yX2_add : MethodName := ⟨RX2, "add", "(LHammockDeck$Berths;)V"⟩
abbrev cX2_discard : ByteArray := prog_4_method_6_code
def yX2_discard : MethodName := ⟨RX2, "discard", "()V"⟩
abbrev cX2_copyFrom : ByteArray := prog_4_method_7_code
def yX2_copyFrom : MethodName := ⟨RX2, "copyFrom", "(LHammockDeck$Log;)V"⟩
abbrev cX2_goBackTo : ByteArray := prog_4_method_8_code
def yX2_goBackTo : MethodName := ⟨RX2, "goBackTo", "(ILHammockDeck$Berths;)V"⟩
def RX3 : String := "HammockDeck$Reader"
def TX3 : u_T := fun k => match k with
  | 0 => ("HammockDeck$Reader", "text", "LHammockDeck$Row;", true)
  | 1 => ("HammockDeck$Reader", "crew", "LHammockDeck$Crew;", true)
  | _ => ("HammockDeck$Reader", "place", "I", false)
def tyX3 : Nat → FieldType := fun k => match k with
  | 0 => .object "HammockDeck$Row"
  | 1 => .object "HammockDeck$Crew"
  | _ => .int
abbrev wsX30 : List Cond := u_ws RX3 TX3 3
theorem nmX3 : ∀ a, a < 3 → ∀ b, b < 3 → a ≠ b → (TX3 a).2.1 ≠ (TX3 b).2.1 := by decide +kernel
theorem tyX3_ok : ∀ k, k < 3 → parseFieldDescriptor (TX3 k).2.2.1 = some (tyX3 k) := by decide +kernel
abbrev cX3_init : ByteArray := prog_5_method_1_code
def yX3_init : MethodName := ⟨RX3, "<init>", "(LHammockDeck$Row;LHammockDeck$Crew;)V"⟩
abbrev cX3_read : ByteArray := prog_5_method_2_code
def yX3_read : MethodName := ⟨RX3, "read", "()I"⟩
abbrev cX3_skipBlanks : ByteArray := prog_5_method_3_code
def yX3_skipBlanks : MethodName := ⟨RX3, "skipBlanks", "()V"⟩
abbrev cX3_readHooks : ByteArray := prog_5_method_4_code
def yX3_readHooks : MethodName := ⟨RX3, "readHooks", "()Z"⟩
abbrev cX3_readMan : ByteArray := prog_5_method_5_code
def yX3_readMan : MethodName := ⟨RX3, "readMan", "()Z"⟩
abbrev cX3_letterIn : ByteArray := prog_5_method_6_code
def yX3_letterIn : MethodName := ⟨RX3, "letterIn", "([C)I"⟩
abbrev cX3_readFigure : ByteArray := prog_5_method_7_code
def yX3_readFigure : MethodName := ⟨RX3, "readFigure", "(II)I"⟩
def RX4 : String := "HammockDeck$Row"
def TX4 : u_T := fun k => match k with
  | 0 => ("HammockDeck$Row", "values", "[I", true)
  | _ => ("HammockDeck$Row", "size", "I", false)
def tyX4 : Nat → FieldType := fun k => match k with
  | 0 => .array .int
  | _ => .int
abbrev wsX40 : List Cond := u_ws RX4 TX4 2
theorem nmX4 : ∀ a, a < 2 → ∀ b, b < 2 → a ≠ b → (TX4 a).2.1 ≠ (TX4 b).2.1 := by decide +kernel
theorem tyX4_ok : ∀ k, k < 2 → parseFieldDescriptor (TX4 k).2.2.1 = some (tyX4 k) := by decide +kernel
abbrev cX4_init : ByteArray := prog_6_method_1_code
def yX4_init : MethodName := ⟨RX4, "<init>", "()V"⟩
abbrev cX4_isMissing : ByteArray := prog_6_method_2_code
def yX4_isMissing : MethodName := ⟨RX4, "isMissing", "()Z"⟩
abbrev cX4_has : ByteArray := prog_6_method_3_code
def yX4_has : MethodName := ⟨RX4, "has", "(I)Z"⟩
abbrev cX4_spans : ByteArray := prog_6_method_4_code
def yX4_spans : MethodName := ⟨RX4, "spans", "(II)Z"⟩
abbrev cX4_get : ByteArray := prog_6_method_5_code
def yX4_get : MethodName := ⟨RX4, "get", "(I)I"⟩
abbrev cX4_set : ByteArray := prog_6_method_6_code
def yX4_set : MethodName := ⟨RX4, "set", "(II)V"⟩
abbrev cX4_renew : ByteArray := prog_6_method_7_code
def yX4_renew : MethodName := ⟨RX4, "renew", "(II)V"⟩
abbrev cX4_discard : ByteArray := prog_6_method_8_code
def yX4_discard : MethodName := ⟨RX4, "discard", "()V"⟩
abbrev cX4_copyTo : ByteArray := prog_6_method_9_code
def yX4_copyTo : MethodName := ⟨RX4, "copyTo", "(ILHammockDeck$Row;II)V"⟩
abbrev cX4_sum : ByteArray := prog_6_method_10_code
def yX4_sum : MethodName := ⟨RX4, "sum", "()J"⟩
abbrev cX4_digestedOnto : ByteArray := prog_6_method_11_code
def yX4_digestedOnto : MethodName := ⟨RX4, "digestedOnto", "(J)J"⟩
def RX5 : String := "HammockDeck"
def TX5 : u_T := fun k => match k with
  | 0 => ("HammockDeck", "rows", "[LHammockDeck$Row;", true)
  | 1 => ("HammockDeck", "texts", "[LHammockDeck$Row;", true)
  | 2 => ("HammockDeck", "crew", "LHammockDeck$Crew;", false)
  | 3 => ("HammockDeck", "now", "LHammockDeck$Berths;", true)
  | 4 => ("HammockDeck", "aside", "LHammockDeck$Berths;", true)
  | 5 => ("HammockDeck", "log", "LHammockDeck$Log;", true)
  | 6 => ("HammockDeck", "kept", "[LHammockDeck$Log;", true)
  | 7 => ("HammockDeck", "told", "I", false)
  | 8 => ("HammockDeck", "upperTold", "J", false)
  | 9 => ("HammockDeck", "lowerTold", "J", false)
  | 10 => ("HammockDeck", "latestFinding", "I", false)
  | _ => ("HammockDeck", "findingCounts", "[I", true)
def tyX5 : Nat → FieldType := fun k => match k with
  | 0 => .array (.object "HammockDeck$Row")
  | 1 => .array (.object "HammockDeck$Row")
  | 2 => .object "HammockDeck$Crew"
  | 3 => .object "HammockDeck$Berths"
  | 4 => .object "HammockDeck$Berths"
  | 5 => .object "HammockDeck$Log"
  | 6 => .array (.object "HammockDeck$Log")
  | 7 => .int
  | 8 => .long
  | 9 => .long
  | 10 => .int
  | _ => .array .int
abbrev wsX50 : List Cond := u_ws RX5 TX5 12
theorem nmX5 : ∀ a, a < 12 → ∀ b, b < 12 → a ≠ b → (TX5 a).2.1 ≠ (TX5 b).2.1 := by decide +kernel
theorem tyX5_ok : ∀ k, k < 12 → parseFieldDescriptor (TX5 k).2.2.1 = some (tyX5 k) := by decide +kernel
abbrev cX5_init : ByteArray := prog_1_method_1_code
def yX5_init : MethodName := ⟨RX5, "<init>", "()V"⟩
abbrev cX5_row : ByteArray := prog_1_method_2_code
def yX5_row : MethodName := ⟨RX5, "row", "(II)I"⟩
abbrev cX5_lay : ByteArray := prog_1_method_3_code
def yX5_lay : MethodName := ⟨RX5, "lay", "(III)I"⟩
abbrev cX5_at : ByteArray := prog_1_method_4_code
def yX5_at : MethodName := ⟨RX5, "at", "(II)I"⟩
abbrev cX5_tear : ByteArray := prog_1_method_5_code
def yX5_tear : MethodName := ⟨RX5, "tear", "(I)I"⟩
abbrev cX5_copy : ByteArray := prog_1_method_6_code
def yX5_copy : MethodName := ⟨RX5, "copy", "(IIIII)I"⟩
abbrev cX5_mean : ByteArray := prog_1_method_7_code
def yX5_mean : MethodName := ⟨RX5, "mean", "(I)I"⟩
abbrev cX5_text : ByteArray := prog_1_method_8_code
def yX5_text : MethodName := ⟨RX5, "text", "(II)I"⟩
abbrev cX5_put : ByteArray := prog_1_method_9_code
def yX5_put : MethodName := ⟨RX5, "put", "(III)I"⟩
abbrev cX5_fault : ByteArray := prog_1_method_10_code
def yX5_fault : MethodName := ⟨RX5, "fault", "(I)I"⟩
abbrev cX5_deck : ByteArray := prog_1_method_11_code
def yX5_deck : MethodName := ⟨RX5, "deck", "(I)I"⟩
abbrev cX5_man : ByteArray := prog_1_method_12_code
def yX5_man : MethodName := ⟨RX5, "man", "(II)I"⟩
abbrev cX5_hook : ByteArray := prog_1_method_13_code
def yX5_hook : MethodName := ⟨RX5, "hook", "(II)I"⟩
abbrev cX5_mark : ByteArray := prog_1_method_14_code
def yX5_mark : MethodName := ⟨RX5, "mark", "(II)I"⟩
abbrev cX5_hang : ByteArray := prog_1_method_15_code
def yX5_hang : MethodName := ⟨RX5, "hang", "(II)I"⟩
abbrev cX5_down : ByteArray := prog_1_method_16_code
def yX5_down : MethodName := ⟨RX5, "down", "(I)I"⟩
abbrev cX5_change : ByteArray := prog_1_method_17_code
def yX5_change : MethodName := ⟨RX5, "change", "(II)I"⟩
abbrev cX5_line : ByteArray := prog_1_method_18_code
def yX5_line : MethodName := ⟨RX5, "line", "(II)I"⟩
abbrev cX5_night : ByteArray := prog_1_method_19_code
def yX5_night : MethodName := ⟨RX5, "night", "(I)I"⟩
abbrev cX5_undo : ByteArray := prog_1_method_20_code
def yX5_undo : MethodName := ⟨RX5, "undo", "(I)I"⟩
abbrev cX5_keep : ByteArray := prog_1_method_21_code
def yX5_keep : MethodName := ⟨RX5, "keep", "(I)I"⟩
abbrev cX5_on : ByteArray := prog_1_method_22_code
def yX5_on : MethodName := ⟨RX5, "on", "(I)I"⟩
abbrev cX5_neighbours : ByteArray := prog_1_method_23_code
def yX5_neighbours : MethodName := ⟨RX5, "neighbours", "(II)I"⟩
abbrev cX5_woken : ByteArray := prog_1_method_24_code
def yX5_woken : MethodName := ⟨RX5, "woken", "(II)I"⟩
abbrev cX5_all : ByteArray := prog_1_method_25_code
def yX5_all : MethodName := ⟨RX5, "all", "(I)I"⟩
abbrev cX5_worst : ByteArray := prog_1_method_26_code
def yX5_worst : MethodName := ⟨RX5, "worst", "(I)I"⟩
abbrev cX5_by : ByteArray := prog_1_method_27_code
def yX5_by : MethodName := ⟨RX5, "by", "(II)I"⟩
abbrev cX5_best : ByteArray := prog_1_method_28_code
def yX5_best : MethodName := ⟨RX5, "best", "(II)I"⟩
abbrev cX5_fair : ByteArray := prog_1_method_29_code
def yX5_fair : MethodName := ⟨RX5, "fair", "(II)I"⟩
abbrev cX5_mixed : ByteArray := prog_1_method_30_code
def yX5_mixed : MethodName := ⟨RX5, "mixed", "(I)I"⟩
abbrev cX5_judge : ByteArray := prog_1_method_31_code
def yX5_judge : MethodName := ⟨RX5, "judge", "(II)I"⟩
abbrev cX5_gain : ByteArray := prog_1_method_32_code
def yX5_gain : MethodName := ⟨RX5, "gain", "(III)I"⟩
abbrev cX5_calm : ByteArray := prog_1_method_33_code
def yX5_calm : MethodName := ⟨RX5, "calm", "(I)I"⟩
abbrev cX5_mates : ByteArray := prog_1_method_34_code
def yX5_mates : MethodName := ⟨RX5, "mates", "()I"⟩
abbrev cX5_cut : ByteArray := prog_1_method_35_code
def yX5_cut : MethodName := ⟨RX5, "cut", "(II)I"⟩
abbrev cX5_up : ByteArray := prog_1_method_36_code
def yX5_up : MethodName := ⟨RX5, "up", "(II)I"⟩
abbrev cX5_fits : ByteArray := prog_1_method_37_code
def yX5_fits : MethodName := ⟨RX5, "fits", "(I)I"⟩
abbrev cX5_mid : ByteArray := prog_1_method_38_code
def yX5_mid : MethodName := ⟨RX5, "mid", "(I)I"⟩
abbrev cX5_lots : ByteArray := prog_1_method_39_code
def yX5_lots : MethodName := ⟨RX5, "lots", "(II)I"⟩
abbrev cX5_asked : ByteArray := prog_1_method_40_code
def yX5_asked : MethodName := ⟨RX5, "asked", "()I"⟩
abbrev cX5_upper : ByteArray := prog_1_method_41_code
def yX5_upper : MethodName := ⟨RX5, "upper", "()J"⟩
abbrev cX5_lower : ByteArray := prog_1_method_42_code
def yX5_lower : MethodName := ⟨RX5, "lower", "()J"⟩
abbrev cX5_count : ByteArray := prog_1_method_43_code
def yX5_count : MethodName := ⟨RX5, "count", "(I)I"⟩
abbrev cX5_finding : ByteArray := prog_1_method_44_code
def yX5_finding : MethodName := ⟨RX5, "finding", "()I"⟩
abbrev cX5_findings : ByteArray := prog_1_method_45_code
def yX5_findings : MethodName := ⟨RX5, "findings", "(I)I"⟩
abbrev cX5_digest : ByteArray := prog_1_method_46_code
def yX5_digest : MethodName := ⟨RX5, "digest", "()J"⟩
abbrev cX5_rowAt : ByteArray := prog_1_method_47_code
def yX5_rowAt : MethodName := ⟨RX5, "rowAt", "(I)LHammockDeck$Row;"⟩
abbrev cX5_textAt : ByteArray := prog_1_method_48_code
def yX5_textAt : MethodName := ⟨RX5, "textAt", "(I)LHammockDeck$Row;"⟩
abbrev cX5_isWhen : ByteArray := prog_1_method_49_code
def yX5_isWhen : MethodName := ⟨RX5, "isWhen", "(I)Z"⟩
abbrev cX5_isKeptPlace : ByteArray := prog_1_method_50_code
def yX5_isKeptPlace : MethodName := ⟨RX5, "isKeptPlace", "(I)Z"⟩
abbrev cX5_found : ByteArray := prog_1_method_51_code
def yX5_found : MethodName := ⟨RX5, "found", "(I)I"⟩
abbrev cX5_tell : ByteArray := prog_1_method_52_code
def yX5_tell : MethodName := ⟨RX5, "tell", "(I)V"⟩
abbrev cX5_tellMean : ByteArray := prog_1_method_53_code
def yX5_tellMean : MethodName := ⟨RX5, "tellMean", "(JJ)V"⟩
abbrev cX5_commonDivisor : ByteArray := prog_1_method_54_code
def yX5_commonDivisor : MethodName := ⟨RX5, "commonDivisor", "(JJ)J"⟩
abbrev cX5_renewed : ByteArray := prog_1_method_55_code
def yX5_renewed : MethodName := ⟨RX5, "renewed", "(LHammockDeck$Row;III)I"⟩
abbrev cX5_sleptThrough : ByteArray := prog_1_method_56_code
def yX5_sleptThrough : MethodName := ⟨RX5, "sleptThrough", "(I)I"⟩
abbrev cX5_wakingsWithout : ByteArray := prog_1_method_57_code
def yX5_wakingsWithout : MethodName := ⟨RX5, "wakingsWithout", "(III)I"⟩
abbrev cX5_beginPlans : ByteArray := prog_1_method_58_code
def yX5_beginPlans : MethodName := ⟨RX5, "beginPlans", "()V"⟩
abbrev cX5_leastPlan : ByteArray := prog_1_method_59_code
def yX5_leastPlan : MethodName := ⟨RX5, "leastPlan", "(IILHammockDeck$Row;)I"⟩
abbrev cX5_weighed : ByteArray := prog_1_method_60_code
def yX5_weighed : MethodName := ⟨RX5, "weighed", "(II)I"⟩
abbrev cX5_firstGladPair : ByteArray := prog_1_method_61_code
def yX5_firstGladPair : MethodName := ⟨RX5, "firstGladPair", "(I)I"⟩
abbrev cX5_wouldBothGladlyChange : ByteArray := prog_1_method_62_code
def yX5_wouldBothGladlyChange : MethodName := ⟨RX5, "wouldBothGladlyChange", "(III)Z"⟩
abbrev cX5_countFitting : ByteArray := prog_1_method_63_code
def yX5_countFitting : MethodName := ⟨RX5, "countFitting", "(LHammockDeck$Row;)V"⟩
abbrev cX5_fitsBook : ByteArray := prog_1_method_64_code
def yX5_fitsBook : MethodName := ⟨RX5, "fitsBook", "(LHammockDeck$Row;)Z"⟩
abbrev cX5_fitsBookBy : ByteArray := prog_1_method_65_code
def yX5_fitsBookBy : MethodName := ⟨RX5, "fitsBookBy", "(ILHammockDeck$Row;)Z"⟩
abbrev cX5_counted : ByteArray := prog_1_method_66_code
def yX5_counted : MethodName := ⟨RX5, "counted", "(I)I"⟩
abbrev cX5_howManyThere : ByteArray := prog_1_method_67_code
def yX5_howManyThere : MethodName := ⟨RX5, "howManyThere", "([LHammockDeck$Row;)I"⟩
abbrev cX5_howManyKept : ByteArray := prog_1_method_68_code
def yX5_howManyKept : MethodName := ⟨RX5, "howManyKept", "()I"⟩
def RX6 : String := "HammockDeckModel"
def TX6 : u_T := fun k => match k with
  | 0 => ("HammockDeckModel", "row", "[I", true)
  | 1 => ("HammockDeckModel", "hooks", "I", false)
  | 2 => ("HammockDeckModel", "places", "[I", true)
  | 3 => ("HammockDeckModel", "men", "I", false)
  | 4 => ("HammockDeckModel", "kinds", "[I", true)
  | 5 => ("HammockDeckModel", "watches", "[I", true)
  | 6 => ("HammockDeckModel", "messes", "[I", true)
  | 7 => ("HammockDeckModel", "sizes", "[I", true)
  | 8 => ("HammockDeckModel", "items", "[I", true)
  | 9 => ("HammockDeckModel", "lengths", "[I", true)
  | 10 => ("HammockDeckModel", "bytes", "[I", true)
  | 11 => ("HammockDeckModel", "asked", "I", false)
  | 12 => ("HammockDeckModel", "upper", "J", false)
  | 13 => ("HammockDeckModel", "lower", "J", false)
  | 14 => ("HammockDeckModel", "finding", "I", false)
  | 15 => ("HammockDeckModel", "findings", "[I", true)
  | 16 => ("HammockDeckModel", "from", "I", false)
  | 17 => ("HammockDeckModel", "place", "I", false)
  | 18 => ("HammockDeckModel", "end", "I", false)
  | 19 => ("HammockDeckModel", "readPlaces", "[I", true)
  | 20 => ("HammockDeckModel", "readHooks", "I", false)
  | 21 => ("HammockDeckModel", "readMen", "[I", true)
  | 22 => ("HammockDeckModel", "readMany", "I", false)
  | 23 => ("HammockDeckModel", "hung", "[I", true)
  | 24 => ("HammockDeckModel", "lines", "[I", true)
  | _ => ("HammockDeckModel", "order", "[I", true)
def tyX6 : Nat → FieldType := fun k => match k with
  | 0 => .array .int
  | 1 => .int
  | 2 => .array .int
  | 3 => .int
  | 4 => .array .int
  | 5 => .array .int
  | 6 => .array .int
  | 7 => .array .int
  | 8 => .array .int
  | 9 => .array .int
  | 10 => .array .int
  | 11 => .int
  | 12 => .long
  | 13 => .long
  | 14 => .int
  | 15 => .array .int
  | 16 => .int
  | 17 => .int
  | 18 => .int
  | 19 => .array .int
  | 20 => .int
  | 21 => .array .int
  | 22 => .int
  | 23 => .array .int
  | 24 => .array .int
  | _ => .array .int
abbrev wsX60 : List Cond := u_ws RX6 TX6 26
theorem nmX6 : ∀ a, a < 26 → ∀ b, b < 26 → a ≠ b → (TX6 a).2.1 ≠ (TX6 b).2.1 := by decide +kernel
theorem tyX6_ok : ∀ k, k < 26 → parseFieldDescriptor (TX6 k).2.2.1 = some (tyX6 k) := by decide +kernel
abbrev cX6_init : ByteArray := prog_8_method_1_code
def yX6_init : MethodName := ⟨RX6, "<init>", "()V"⟩
abbrev cX6_in : ByteArray := prog_8_method_2_code
def yX6_in : MethodName := ⟨RX6, "in", "(JJJ)Z"⟩
abbrev cX6_find : ByteArray := prog_8_method_4_code
def yX6_find : MethodName := ⟨RX6, "find", "(I)I"⟩
abbrev cX6_tell : ByteArray := prog_8_method_5_code
def yX6_tell : MethodName := ⟨RX6, "tell", "(I)I"⟩
abbrev cX6_isRow : ByteArray := prog_8_method_6_code
def yX6_isRow : MethodName := ⟨RX6, "isRow", "(I)Z"⟩
abbrev cX6_isText : ByteArray := prog_8_method_7_code
def yX6_isText : MethodName := ⟨RX6, "isText", "(I)Z"⟩
abbrev cX6_row : ByteArray := prog_8_method_8_code
def yX6_row : MethodName := ⟨RX6, "row", "(II)I"⟩
abbrev cX6_makeRow : ByteArray := prog_8_method_9_code
def yX6_makeRow : MethodName := ⟨RX6, "makeRow", "(II)V"⟩
abbrev cX6_refused : ByteArray := prog_8_method_10_code
def yX6_refused : MethodName := ⟨RX6, "refused", "(II)I"⟩
abbrev cX6_lay : ByteArray := prog_8_method_11_code
def yX6_lay : MethodName := ⟨RX6, "lay", "(III)I"⟩
abbrev cX6_at : ByteArray := prog_8_method_12_code
def yX6_at : MethodName := ⟨RX6, "at", "(II)I"⟩
abbrev cX6_tear : ByteArray := prog_8_method_13_code
def yX6_tear : MethodName := ⟨RX6, "tear", "(I)I"⟩
abbrev cX6_isSpan : ByteArray := prog_8_method_14_code
def yX6_isSpan : MethodName := ⟨RX6, "isSpan", "(III)Z"⟩
abbrev cX6_copy : ByteArray := prog_8_method_15_code
def yX6_copy : MethodName := ⟨RX6, "copy", "(IIIII)I"⟩
abbrev cX6_mean : ByteArray := prog_8_method_16_code
def yX6_mean : MethodName := ⟨RX6, "mean", "(I)I"⟩
abbrev cX6_text : ByteArray := prog_8_method_17_code
def yX6_text : MethodName := ⟨RX6, "text", "(II)I"⟩
abbrev cX6_put : ByteArray := prog_8_method_18_code
def yX6_put : MethodName := ⟨RX6, "put", "(III)I"⟩
abbrev cX6_here : ByteArray := prog_8_method_19_code
def yX6_here : MethodName := ⟨RX6, "here", "()I"⟩
abbrev cX6_skip : ByteArray := prog_8_method_20_code
def yX6_skip : MethodName := ⟨RX6, "skip", "()V"⟩
abbrev cX6_figure : ByteArray := prog_8_method_21_code
def yX6_figure : MethodName := ⟨RX6, "figure", "(II)I"⟩
abbrev cX6_placeOfLetter : ByteArray := prog_8_method_22_code
def yX6_placeOfLetter : MethodName := ⟨RX6, "placeOfLetter", "(I)I"⟩
abbrev cX6_kindOfLetter : ByteArray := prog_8_method_23_code
def yX6_kindOfLetter : MethodName := ⟨RX6, "kindOfLetter", "(I)I"⟩
abbrev cX6_readsHooks : ByteArray := prog_8_method_24_code
def yX6_readsHooks : MethodName := ⟨RX6, "readsHooks", "()Z"⟩
abbrev cX6_readsMan : ByteArray := prog_8_method_25_code
def yX6_readsMan : MethodName := ⟨RX6, "readsMan", "()Z"⟩
abbrev cX6_faultOf : ByteArray := prog_8_method_26_code
def yX6_faultOf : MethodName := ⟨RX6, "faultOf", "(I)I"⟩
abbrev cX6_fault : ByteArray := prog_8_method_27_code
def yX6_fault : MethodName := ⟨RX6, "fault", "(I)I"⟩
abbrev cX6_deck : ByteArray := prog_8_method_28_code
def yX6_deck : MethodName := ⟨RX6, "deck", "(I)I"⟩
abbrev cX6_layNow : ByteArray := prog_8_method_29_code
def yX6_layNow : MethodName := ⟨RX6, "layNow", "()V"⟩
abbrev cX6_isMan : ByteArray := prog_8_method_30_code
def yX6_isMan : MethodName := ⟨RX6, "isMan", "(I)Z"⟩
abbrev cX6_isHook : ByteArray := prog_8_method_31_code
def yX6_isHook : MethodName := ⟨RX6, "isHook", "(I)Z"⟩
abbrev cX6_isWhen : ByteArray := prog_8_method_32_code
def yX6_isWhen : MethodName := ⟨RX6, "isWhen", "(I)Z"⟩
abbrev cX6_isIn : ByteArray := prog_8_method_33_code
def yX6_isIn : MethodName := ⟨RX6, "isIn", "(II)Z"⟩
abbrev cX6_isBeside : ByteArray := prog_8_method_34_code
def yX6_isBeside : MethodName := ⟨RX6, "isBeside", "(III)Z"⟩
abbrev cX6_beside : ByteArray := prog_8_method_35_code
def yX6_beside : MethodName := ⟨RX6, "beside", "(II)I"⟩
abbrev cX6_height : ByteArray := prog_8_method_36_code
def yX6_height : MethodName := ⟨RX6, "height", "(I)I"⟩
abbrev cX6_wakes : ByteArray := prog_8_method_37_code
def yX6_wakes : MethodName := ⟨RX6, "wakes", "(II)I"⟩
abbrev cX6_placeWorth : ByteArray := prog_8_method_38_code
def yX6_placeWorth : MethodName := ⟨RX6, "placeWorth", "(I)I"⟩
abbrev cX6_wokenBut : ByteArray := prog_8_method_39_code
def yX6_wokenBut : MethodName := ⟨RX6, "wokenBut", "(III)I"⟩
abbrev cX6_allWoken : ByteArray := prog_8_method_40_code
def yX6_allWoken : MethodName := ⟨RX6, "allWoken", "(I)I"⟩
abbrev cX6_mostWoken : ByteArray := prog_8_method_41_code
def yX6_mostWoken : MethodName := ⟨RX6, "mostWoken", "(I)I"⟩
abbrev cX6_toldOf : ByteArray := prog_8_method_42_code
def yX6_toldOf : MethodName := ⟨RX6, "toldOf", "(II)I"⟩
abbrev cX6_man : ByteArray := prog_8_method_43_code
def yX6_man : MethodName := ⟨RX6, "man", "(II)I"⟩
abbrev cX6_whoAt : ByteArray := prog_8_method_44_code
def yX6_whoAt : MethodName := ⟨RX6, "whoAt", "(I)I"⟩
abbrev cX6_hook : ByteArray := prog_8_method_45_code
def yX6_hook : MethodName := ⟨RX6, "hook", "(II)I"⟩
abbrev cX6_bits : ByteArray := prog_8_method_46_code
def yX6_bits : MethodName := ⟨RX6, "bits", "(I)I"⟩
abbrev cX6_isOf : ByteArray := prog_8_method_47_code
def yX6_isOf : MethodName := ⟨RX6, "isOf", "(II)Z"⟩
abbrev cX6_besideOf : ByteArray := prog_8_method_48_code
def yX6_besideOf : MethodName := ⟨RX6, "besideOf", "(IIZ)I"⟩
abbrev cX6_tallMany : ByteArray := prog_8_method_49_code
def yX6_tallMany : MethodName := ⟨RX6, "tallMany", "()I"⟩
abbrev cX6_mark : ByteArray := prog_8_method_50_code
def yX6_mark : MethodName := ⟨RX6, "mark", "(II)I"⟩
abbrev cX6_keepPast : ByteArray := prog_8_method_51_code
def yX6_keepPast : MethodName := ⟨RX6, "keepPast", "()V"⟩
abbrev cX6_hang : ByteArray := prog_8_method_52_code
def yX6_hang : MethodName := ⟨RX6, "hang", "(II)I"⟩
abbrev cX6_down : ByteArray := prog_8_method_53_code
def yX6_down : MethodName := ⟨RX6, "down", "(I)I"⟩
abbrev cX6_areTwo : ByteArray := prog_8_method_54_code
def yX6_areTwo : MethodName := ⟨RX6, "areTwo", "(II)Z"⟩
abbrev cX6_change : ByteArray := prog_8_method_55_code
def yX6_change : MethodName := ⟨RX6, "change", "(II)I"⟩
abbrev cX6_line : ByteArray := prog_8_method_56_code
def yX6_line : MethodName := ⟨RX6, "line", "(II)I"⟩
abbrev cX6_pass : ByteArray := prog_8_method_57_code
def yX6_pass : MethodName := ⟨RX6, "pass", "(I)I"⟩
abbrev cX6_night : ByteArray := prog_8_method_58_code
def yX6_night : MethodName := ⟨RX6, "night", "(I)I"⟩
abbrev cX6_undo : ByteArray := prog_8_method_59_code
def yX6_undo : MethodName := ⟨RX6, "undo", "(I)I"⟩
abbrev cX6_copyDeck : ByteArray := prog_8_method_60_code
def yX6_copyDeck : MethodName := ⟨RX6, "copyDeck", "(II)V"⟩
abbrev cX6_keep : ByteArray := prog_8_method_61_code
def yX6_keep : MethodName := ⟨RX6, "keep", "(I)I"⟩
abbrev cX6_on : ByteArray := prog_8_method_62_code
def yX6_on : MethodName := ⟨RX6, "on", "(I)I"⟩
abbrev cX6_neighbours : ByteArray := prog_8_method_63_code
def yX6_neighbours : MethodName := ⟨RX6, "neighbours", "(II)I"⟩
abbrev cX6_woken : ByteArray := prog_8_method_64_code
def yX6_woken : MethodName := ⟨RX6, "woken", "(II)I"⟩
abbrev cX6_inMany : ByteArray := prog_8_method_65_code
def yX6_inMany : MethodName := ⟨RX6, "inMany", "(I)I"⟩
abbrev cX6_all : ByteArray := prog_8_method_66_code
def yX6_all : MethodName := ⟨RX6, "all", "(I)I"⟩
abbrev cX6_worst : ByteArray := prog_8_method_67_code
def yX6_worst : MethodName := ⟨RX6, "worst", "(I)I"⟩
abbrev cX6_by : ByteArray := prog_8_method_68_code
def yX6_by : MethodName := ⟨RX6, "by", "(II)I"⟩
abbrev cX6_firstPlan : ByteArray := prog_8_method_69_code
def yX6_firstPlan : MethodName := ⟨RX6, "firstPlan", "()V"⟩
abbrev cX6_areUnlike : ByteArray := prog_8_method_70_code
def yX6_areUnlike : MethodName := ⟨RX6, "areUnlike", "()Z"⟩
abbrev cX6_nextPlan : ByteArray := prog_8_method_71_code
def yX6_nextPlan : MethodName := ⟨RX6, "nextPlan", "()Z"⟩
abbrev cX6_valueOf : ByteArray := prog_8_method_72_code
def yX6_valueOf : MethodName := ⟨RX6, "valueOf", "(II)I"⟩
abbrev cX6_toBest : ByteArray := prog_8_method_73_code
def yX6_toBest : MethodName := ⟨RX6, "toBest", "(III)I"⟩
abbrev cX6_best : ByteArray := prog_8_method_74_code
def yX6_best : MethodName := ⟨RX6, "best", "(II)I"⟩
abbrev cX6_fair : ByteArray := prog_8_method_75_code
def yX6_fair : MethodName := ⟨RX6, "fair", "(II)I"⟩
abbrev cX6_mixed : ByteArray := prog_8_method_76_code
def yX6_mixed : MethodName := ⟨RX6, "mixed", "(I)I"⟩
abbrev cX6_isPlan : ByteArray := prog_8_method_77_code
def yX6_isPlan : MethodName := ⟨RX6, "isPlan", "(I)Z"⟩
abbrev cX6_judge : ByteArray := prog_8_method_78_code
def yX6_judge : MethodName := ⟨RX6, "judge", "(II)I"⟩
abbrev cX6_swap : ByteArray := prog_8_method_79_code
def yX6_swap : MethodName := ⟨RX6, "swap", "(II)V"⟩
abbrev cX6_gain : ByteArray := prog_8_method_80_code
def yX6_gain : MethodName := ⟨RX6, "gain", "(III)I"⟩
abbrev cX6_wouldChange : ByteArray := prog_8_method_81_code
def yX6_wouldChange : MethodName := ⟨RX6, "wouldChange", "(III)Z"⟩
abbrev cX6_calm : ByteArray := prog_8_method_82_code
def yX6_calm : MethodName := ⟨RX6, "calm", "(I)I"⟩
abbrev cX6_matesTried : ByteArray := prog_8_method_83_code
def yX6_matesTried : MethodName := ⟨RX6, "matesTried", "()I"⟩
abbrev cX6_mates : ByteArray := prog_8_method_84_code
def yX6_mates : MethodName := ⟨RX6, "mates", "()I"⟩
abbrev cX6_cut : ByteArray := prog_8_method_85_code
def yX6_cut : MethodName := ⟨RX6, "cut", "(II)I"⟩
abbrev cX6_nextOrder : ByteArray := prog_8_method_86_code
def yX6_nextOrder : MethodName := ⟨RX6, "nextOrder", "(I)Z"⟩
abbrev cX6_inTheWay : ByteArray := prog_8_method_87_code
def yX6_inTheWay : MethodName := ⟨RX6, "inTheWay", "(II)I"⟩
abbrev cX6_up : ByteArray := prog_8_method_88_code
def yX6_up : MethodName := ⟨RX6, "up", "(II)I"⟩
abbrev cX6_areWhens : ByteArray := prog_8_method_89_code
def yX6_areWhens : MethodName := ⟨RX6, "areWhens", "(I)Z"⟩
abbrev cX6_isSo : ByteArray := prog_8_method_90_code
def yX6_isSo : MethodName := ⟨RX6, "isSo", "(I)Z"⟩
abbrev cX6_fits : ByteArray := prog_8_method_91_code
def yX6_fits : MethodName := ⟨RX6, "fits", "(I)I"⟩
abbrev cX6_mid : ByteArray := prog_8_method_92_code
def yX6_mid : MethodName := ⟨RX6, "mid", "(I)I"⟩
abbrev cX6_lots : ByteArray := prog_8_method_93_code
def yX6_lots : MethodName := ⟨RX6, "lots", "(II)I"⟩
abbrev cX6_asked : ByteArray := prog_8_method_94_code
def yX6_asked : MethodName := ⟨RX6, "asked", "()I"⟩
abbrev cX6_upper : ByteArray := prog_8_method_95_code
def yX6_upper : MethodName := ⟨RX6, "upper", "()J"⟩
abbrev cX6_lower : ByteArray := prog_8_method_96_code
def yX6_lower : MethodName := ⟨RX6, "lower", "()J"⟩
abbrev cX6_hungMany : ByteArray := prog_8_method_97_code
def yX6_hungMany : MethodName := ⟨RX6, "hungMany", "()I"⟩
abbrev cX6_tiredAll : ByteArray := prog_8_method_98_code
def yX6_tiredAll : MethodName := ⟨RX6, "tiredAll", "()I"⟩
abbrev cX6_thereOf : ByteArray := prog_8_method_99_code
def yX6_thereOf : MethodName := ⟨RX6, "thereOf", "(I)I"⟩
abbrev cX6_countOf : ByteArray := prog_8_method_100_code
def yX6_countOf : MethodName := ⟨RX6, "countOf", "(I)I"⟩
abbrev cX6_count : ByteArray := prog_8_method_101_code
def yX6_count : MethodName := ⟨RX6, "count", "(I)I"⟩
abbrev cX6_finding : ByteArray := prog_8_method_102_code
def yX6_finding : MethodName := ⟨RX6, "finding", "()I"⟩
abbrev cX6_findings : ByteArray := prog_8_method_103_code
def yX6_findings : MethodName := ⟨RX6, "findings", "(I)I"⟩
abbrev cX6_digest : ByteArray := prog_8_method_104_code
def yX6_digest : MethodName := ⟨RX6, "digest", "()J"⟩
def RJ6 : String := "java/lang/Integer"
def TJ6 : u_T := fun k => match k with
  | _ => ("", "", "", false)
def tyJ6 : Nat → FieldType := fun k => match k with
  | _ => .int
abbrev wsJ60 : List Cond := u_ws RJ6 TJ6 0
theorem nmJ6 : ∀ a, a < 0 → ∀ b, b < 0 → a ≠ b → (TJ6 a).2.1 ≠ (TJ6 b).2.1 := by decide +kernel
theorem tyJ6_ok : ∀ k, k < 0 → parseFieldDescriptor (TJ6 k).2.2.1 = some (tyJ6 k) := by decide +kernel
abbrev cJ6_bitCount_0f7a4 : ByteArray := prog_9_method_49_code
def yJ6_bitCount_0f7a4 : MethodName := ⟨RJ6, "bitCount", "(I)I"⟩
def RJ9 : String := "java/lang/Math"
def TJ9 : u_T := fun k => match k with
  | _ => ("", "", "", false)
def tyJ9 : Nat → FieldType := fun k => match k with
  | _ => .int
abbrev wsJ90 : List Cond := u_ws RJ9 TJ9 0
theorem nmJ9 : ∀ a, a < 0 → ∀ b, b < 0 → a ≠ b → (TJ9 a).2.1 ≠ (TJ9 b).2.1 := by decide +kernel
theorem tyJ9_ok : ∀ k, k < 0 → parseFieldDescriptor (TJ9 k).2.2.1 = some (tyJ9 k) := by decide +kernel
abbrev cJ9_abs_0f7a4 : ByteArray := prog_10_method_59_code
def yJ9_abs_0f7a4 : MethodName := ⟨RJ9, "abs", "(I)I"⟩
abbrev cJ9_abs_067f4 : ByteArray := prog_10_method_61_code
def yJ9_abs_067f4 : MethodName := ⟨RJ9, "abs", "(J)J"⟩
abbrev cJ9_max_7cf53 : ByteArray := prog_10_method_65_code
def yJ9_max_7cf53 : MethodName := ⟨RJ9, "max", "(II)I"⟩
abbrev cJ9_max_f86c9 : ByteArray := prog_10_method_66_code
def yJ9_max_f86c9 : MethodName := ⟨RJ9, "max", "(JJ)J"⟩
abbrev cJ9_min_7cf53 : ByteArray := prog_10_method_69_code
def yJ9_min_7cf53 : MethodName := ⟨RJ9, "min", "(II)I"⟩
def RJ10 : String := "java/lang/System"
def TJ10 : u_T := fun k => match k with
  | _ => ("", "", "", false)
def tyJ10 : Nat → FieldType := fun k => match k with
  | _ => .int
abbrev wsJ100 : List Cond := u_ws RJ10 TJ10 0
theorem nmJ10 : ∀ a, a < 0 → ∀ b, b < 0 → a ≠ b → (TJ10 a).2.1 ≠ (TJ10 b).2.1 := by decide +kernel
theorem tyJ10_ok : ∀ k, k < 0 → parseFieldDescriptor (TJ10 k).2.2.1 = some (tyJ10 k) := by decide +kernel
def RJ7 : String := "java/util/Arrays"
def TJ7 : u_T := fun k => match k with
  | _ => ("", "", "", false)
def tyJ7 : Nat → FieldType := fun k => match k with
  | _ => .int
abbrev wsJ70 : List Cond := u_ws RJ7 TJ7 0
theorem nmJ7 : ∀ a, a < 0 → ∀ b, b < 0 → a ≠ b → (TJ7 a).2.1 ≠ (TJ7 b).2.1 := by decide +kernel
theorem tyJ7_ok : ∀ k, k < 0 → parseFieldDescriptor (TJ7 k).2.2.1 = some (tyJ7 k) := by decide +kernel
abbrev cJ7_fill_53178 : ByteArray := prog_12_method_103_code
def yJ7_fill_53178 : MethodName := ⟨RJ7, "fill", "([II)V"⟩
def RL : String := "HammockDeckLaw"
abbrev cL_law : ByteArray := code
def yL_law : MethodName := ⟨RL, "law", "([I)Z"⟩
end
section
/-! THE PURE MACHINE: a heap is a list of cells, counted from a base address; a method is run as a function -/
/-- an int array; an array of references (its class's number); an object (class number, fields) -/
abbrev zC : Type := (Nat × (Nat → Int32)) ⊕ ((Nat × Nat × (Nat → Option Nat)) ⊕ (Nat × List Value))
abbrev zH : Type := List zC
/-- base address; what the old arrays hold (true: chars); where the static arrays are -/
abbrev zE : Type := Nat × (Nat → Option (Bool × Nat × (Nat → Int32))) × (Nat → Nat)
abbrev zRes : Type := Option Value × zH
abbrev zK : Type := Nat → Nat → List (Option Value) → List Value → zH → Option zRes
abbrev zL : Type := Nat × Nat × Nat × Nat × Nat × Int
abbrev zI : Type := Nat × Nat × Instr × zL
def zget (r : zE) (h : zH) (a : Nat) : Option zC := if r.1 ≤ a then h[a - r.1]? else none
def zgI (r : zE) (h : zH) (a ci k : Nat) : Option Int32 := match zget r h a with
  | some (.inr (.inr (c, fs))) => if c = ci then (match fs[k]? with | some (.int x) => some x | _ => none) else none
  | _ => none
def zgL (r : zE) (h : zH) (a ci k : Nat) : Option Int64 := match zget r h a with
  | some (.inr (.inr (c, fs))) => if c = ci then (match fs[k]? with | some (.long x) => some x | _ => none) else none
  | _ => none
def zgR (r : zE) (h : zH) (a ci k : Nat) : Option Nat := match zget r h a with
  | some (.inr (.inr (c, fs))) => if c = ci then (match fs[k]? with | some (.ref x) => some x | _ => none) else none
  | _ => none
def zpF (r : zE) (h : zH) (a ci k : Nat) (v : Value) : Option zH := match zget r h a with
  | some (.inr (.inr (c, fs))) => if c = ci ∧ k < fs.length then some (h.set (a - r.1) (.inr (.inr (c, fs.set k v)))) else none
  | _ => none
def zix (i : Int32) (n : Nat) : Option Nat := if i < 0 ∨ n ≤ i.toNatClampNeg then none else some i.toNatClampNeg
def zaI (r : zE) (h : zH) (a : Nat) (i : Int32) : Option Int32 := if r.1 ≤ a then
    (match h[a - r.1]? with | some (.inl (n, f)) => (zix i n).map f | _ => none)
  else (match r.2.1 a with | some (false, n, f) => (zix i n).map f | _ => none)
def zaC (r : zE) (a : Nat) (i : Int32) : Option Int32 := if r.1 ≤ a then none
  else (match r.2.1 a with | some (true, n, f) => (zix i n).map f | _ => none)
def zaQ (r : zE) (h : zH) (a : Nat) (i : Int32) : Option (Option Nat) := match zget r h a with
  | some (.inr (.inl (c, n, f))) => if c = 4 ∨ c = 2 then (zix i n).map f else none
  | _ => none
def zaN (r : zE) (h : zH) (a : Nat) : Option Nat := if r.1 ≤ a then
    (match h[a - r.1]? with | some (.inl (n, _)) => some n | some (.inr (.inl (c, n, _))) => if c = 4 ∨ c = 2 then some n else none | _ => none)
  else (match r.2.1 a with | some (_, n, _) => some n | _ => none)
def zsI (r : zE) (h : zH) (a : Nat) (i x : Int32) : Option zH := match zget r h a with
  | some (.inl (n, f)) => (zix i n).map fun j => h.set (a - r.1) (.inl (n, upd f j x))
  | _ => none
def zob (r : zE) (h : zH) (a ci : Nat) : Bool := match zget r h a with
  | some (.inr (.inr (c, _))) => c == ci
  | _ => false
def zsQ (r : zE) (h : zH) (a : Nat) (i : Int32) (v : Nat) : Option zH := match zget r h a with
  | some (.inr (.inl (c, n, f))) => if zob r h v c = true ∧ (c = 4 ∨ c = 2) then (zix i n).map fun j => h.set (a - r.1) (.inr (.inl (c, n, va_up f j (some v)))) else none
  | _ => none
def zcp (r : zE) (h : zH) (a0 : Nat) (sp : Int32) (a1 : Nat) (dp n : Int32) : Option zH := match zget r h a0, zget r h a1 with
  | some (.inl (n0, f)), some (.inl (n1, g)) =>
    if sp < 0 ∨ dp < 0 ∨ n < 0 ∨ n0 < sp.toNatClampNeg + n.toNatClampNeg ∨ n1 < dp.toNatClampNeg + n.toNatClampNeg then none
    else some (h.set (a1 - r.1) (.inl (n1, va_cpy f g sp.toNatClampNeg dp.toNatClampNeg n.toNatClampNeg)))
  | _, _ => none
/-! operands -/
section ZP
variable {X : Type}
def zp1i (st : List Value) (k : Int32 → List Value → Option X) : Option X := match st with | .int x :: t => k x t | _ => none
def zp2i (st : List Value) (k : Int32 → Int32 → List Value → Option X) : Option X := match st with | .int y :: .int x :: t => k x y t | _ => none
def zp1l (st : List Value) (k : Int64 → List Value → Option X) : Option X := match st with | .long x :: t => k x t | _ => none
def zp2l (st : List Value) (k : Int64 → Int64 → List Value → Option X) : Option X := match st with | .long y :: .long x :: t => k x y t | _ => none
def zp1r (st : List Value) (k : Nat → List Value → Option X) : Option X := match st with | .ref a :: t => k a t | _ => none
def zp1q (st : List Value) (k : Option Nat → List Value → Option X) : Option X := match st with | .ref a :: t => k (some a) t | .null :: t => k none t | _ => none
def zpia (st : List Value) (k : Nat → Int32 → List Value → Option X) : Option X := match st with | .int i :: .ref a :: t => k a i t | _ => none
def zpla (st : List Value) (k : Nat → Int64 → List Value → Option X) : Option X := match st with | .long i :: .ref a :: t => k a i t | _ => none
def zpra (st : List Value) (k : Nat → Nat → List Value → Option X) : Option X := match st with | .ref i :: .ref a :: t => k a i t | _ => none
def zpiia (st : List Value) (k : Nat → Int32 → Int32 → List Value → Option X) : Option X := match st with | .int x :: .int i :: .ref a :: t => k a i x t | _ => none
def zpria (st : List Value) (k : Nat → Int32 → Nat → List Value → Option X) : Option X := match st with | .ref x :: .int i :: .ref a :: t => k a i x t | _ => none
def zp1v (st : List Value) (k : Value → List Value → Option X) : Option X := match st with | v :: t => (if v.category = 1 then k v t else none) | _ => none
def zp2v (st : List Value) (k : Value → Value → List Value → Option X) : Option X := match st with | v :: w :: t => (if v.category = 1 ∧ w.category = 1 then k v w t else none) | _ => none
def zpcp (st : List Value) (k : Nat → Int32 → Nat → Int32 → Int32 → List Value → Option X) : Option X := match st with | .int n :: .int dp :: .ref a1 :: .int sp :: .ref a0 :: t => k a0 sp a1 dp n t | _ => none
def zpop (st : List Value) (n : Nat) (k : List Value → List Value → Option X) : Option X := if n ≤ st.length ∧ ((st.drop n).map fun v => v.category).sum ≤ 8 then k (st.take n).reverse (st.drop n) else none
def zli (lv : List (Option Value)) (i : Nat) (k : Int32 → Option X) : Option X := match lv[i]? with | some (some (.int x)) => k x | _ => none
def zll (lv : List (Option Value)) (i : Nat) (k : Int64 → Option X) : Option X := match lv[i]? with | some (some (.long x)) => k x | _ => none
def zlq (lv : List (Option Value)) (i : Nat) (k : Value → Option X) : Option X := match lv[i]? with | some (some (.ref x)) => k (.ref x) | some (some .null) => k .null | _ => none
def zcV (q : Option zRes) (k : zH → Option X) : Option X := match q with | some (none, h) => k h | _ => none
def zcI (q : Option zRes) (k : Int32 → zH → Option X) : Option X := match q with | some (some (.int x), h) => k x h | _ => none
def zcL (q : Option zRes) (k : Int64 → zH → Option X) : Option X := match q with | some (some (.long x), h) => k x h | _ => none
def zcQ (q : Option zRes) (k : Option Nat → zH → Option X) : Option X := match q with | some (some (.ref a), h) => k (some a) h | some (some .null, h) => k none h | _ => none
def zcl (lv : List (Option Value)) (i : Nat) : List (Option Value) := match i with
  | 0 => lv
  | j + 1 => match lv[j]? with
    | some (some v) => if v.category = 2 then lv.set j none else lv
    | _ => lv
def zs1 (lv : List (Option Value)) (i : Nat) (v : Value) (k : List (Option Value) → Option X) : Option X := if i < lv.length then k ((zcl lv i).set i (some v)) else none
def zs2 (lv : List (Option Value)) (i : Nat) (v : Value) (k : List (Option Value) → Option X) : Option X := if i + 1 < lv.length then k (((zcl lv i).set i (some v)).set (i + 1) none) else none
def zenl (vs : List Value) : List (Option Value) := vs.flatMap fun v => if v.category = 2 then [some v, none] else [some v]
def zent (n : Nat) (vs : List Value) : List (Option Value) := zenl vs ++ List.replicate (n - (zenl vs).length) none
def zt (pc : Nat) (off : Int) : Nat := ((pc : Int) + off).toNat
def zts (pc : Nat) (k : Nat → Option X) (x : Int32) : Int → List Int → Int → Option X
  | _, [], d => k (zt pc d)
  | lo, o :: os, d => if x = Int32.ofInt lo then k (zt pc o) else zts pc k x (lo + 1) os d
def zls (pc : Nat) (k : Nat → Option X) (x : Int32) : List (Int × Int) → Int → Option X
  | [], d => k (zt pc d)
  | o :: os, d => if x = Int32.ofInt o.1 then k (zt pc o.2) else zls pc k x os d
end ZP
/-- locals forgotten, by the bits of a number -/
def zfg : Nat → List (Option Value) → List (Option Value)
  | _, [] => []
  | m, v :: l => (if m % 2 = 1 then none else v) :: zfg (m / 2) l
/-- default fields of the classes, by number -/
def zdf (ci : Nat) : List Value := match ci with
  | 0 => [.null, .null, .null, .null, .null]
  | 1 => [.int 0, .int 0, .null, .null, .null, .null, .null]
  | 2 => [.null, .int 0]
  | 3 => [.null, .null, .int 0]
  | 4 => [.null, .int 0]
  | 5 => (List.range 12).map (fun j => defaultValue (tyX5 j))
  | _ => (List.range 26).map (fun j => defaultValue (tyX6 j))
/-- a call, by the kind of its answer -/
def zca (kind : Nat) (q : Option zRes) (k : List Value → zH → Option zRes) : Option zRes := match kind with
  | 0 => zcV q fun h => k [] h
  | 1 => zcI q fun x h => k [.int x] h
  | 2 => zcL q fun x h => k [.long x] h
  | _ => zcQ q fun x h => match x with | none => k [.null] h | some a => k [.ref a] h
/-- one instruction: Kc runs a callee, K goes on -/
def zx (r : zE) (Kc K : zK) (mi pc n : Nat) (ins : Instr) (w : zL) (lv : List (Option Value)) (st : List Value) (h : zH) : Option zRes := match ins with
  | .iconst i => K mi (pc + n) lv (.int (Int32.ofInt i) :: st) h
  | .bipush i => K mi (pc + n) lv (.int (Int32.ofInt i) :: st) h
  | .sipush i => K mi (pc + n) lv (.int (Int32.ofInt i) :: st) h
  | .lconst i => K mi (pc + n) lv (.long (Int64.ofNat i) :: st) h
  | .ldc_w _ => K mi (pc + n) lv (.int (Int32.ofInt w.2.2.2.2.2) :: st) h
  | .ldc2_w _ => K mi (pc + n) lv (.long (Int64.ofInt w.2.2.2.2.2) :: st) h
  | .aconst_null => K mi (pc + n) lv (.null :: st) h
  | .iload i => zli lv i fun x => K mi (pc + n) lv (.int x :: st) h
  | .iload_n i => zli lv i fun x => K mi (pc + n) lv (.int x :: st) h
  | .lload i => zll lv i fun x => K mi (pc + n) lv (.long x :: st) h
  | .lload_n i => zll lv i fun x => K mi (pc + n) lv (.long x :: st) h
  | .aload i => zlq lv i fun x => K mi (pc + n) lv (x :: st) h
  | .aload_n i => zlq lv i fun x => K mi (pc + n) lv (x :: st) h
  | .istore i => zp1i st fun x t => zs1 lv i (.int x) fun lv => K mi (pc + n) lv t h
  | .istore_n i => zp1i st fun x t => zs1 lv i (.int x) fun lv => K mi (pc + n) lv t h
  | .lstore i => zp1l st fun x t => zs2 lv i (.long x) fun lv => K mi (pc + n) lv t h
  | .lstore_n i => zp1l st fun x t => zs2 lv i (.long x) fun lv => K mi (pc + n) lv t h
  | .astore i => zp1q st fun x t => zs1 lv i (va_rf x) fun lv => K mi (pc + n) lv t h
  | .astore_n i => zp1q st fun x t => zs1 lv i (va_rf x) fun lv => K mi (pc + n) lv t h
  | .iinc i c => zli lv i fun x => zs1 lv i (.int (x + Int32.ofInt c)) fun lv => K mi (pc + n) lv st h
  | .iadd => zp2i st fun x y t => K mi (pc + n) lv (.int (x + y) :: t) h
  | .isub => zp2i st fun x y t => K mi (pc + n) lv (.int (x - y) :: t) h
  | .imul => zp2i st fun x y t => K mi (pc + n) lv (.int (x * y) :: t) h
  | .iand => zp2i st fun x y t => K mi (pc + n) lv (.int (x &&& y) :: t) h
  | .ior => zp2i st fun x y t => K mi (pc + n) lv (.int (x ||| y) :: t) h
  | .ixor => zp2i st fun x y t => K mi (pc + n) lv (.int (x ^^^ y) :: t) h
  | .idiv => zp2i st fun x y t => if y = 0 then none else K mi (pc + n) lv (.int (x / y) :: t) h
  | .irem => zp2i st fun x y t => if y = 0 then none else K mi (pc + n) lv (.int (x - x / y * y) :: t) h
  | .ineg => zp1i st fun x t => K mi (pc + n) lv (.int (-x) :: t) h
  | .ishl => zp2i st fun x y t => K mi (pc + n) lv (.int (x <<< (y &&& 31)) :: t) h
  | .ishr => zp2i st fun x y t => K mi (pc + n) lv (.int (x >>> (y &&& 31)) :: t) h
  | .iushr => zp2i st fun x y t => K mi (pc + n) lv (.int ((x.toUInt32 >>> (y.toUInt32 &&& Int32.toUInt32 31)).toInt32) :: t) h
  | .ladd => zp2l st fun x y t => K mi (pc + n) lv (.long (x + y) :: t) h
  | .lmul => zp2l st fun x y t => K mi (pc + n) lv (.long (x * y) :: t) h
  | .ldiv => zp2l st fun x y t => if y = 0 then none else K mi (pc + n) lv (.long (x / y) :: t) h
  | .lrem => zp2l st fun x y t => if y = 0 then none else K mi (pc + n) lv (.long (x - x / y * y) :: t) h
  | .lneg => zp1l st fun x t => K mi (pc + n) lv (.long (-x) :: t) h
  | .lcmp => zp2l st fun x y t => K mi (pc + n) lv (.int (lg_cmp x y) :: t) h
  | .i2l => zp1i st fun x t => K mi (pc + n) lv (.long x.toInt64 :: t) h
  | .l2i => zp1l st fun x t => K mi (pc + n) lv (.int x.toInt32 :: t) h
  | .i2b => zp1i st fun x t => K mi (pc + n) lv (.int x.toInt8.toInt32 :: t) h
  | .dup => zp1v st fun v t => K mi (pc + n) lv (v :: v :: t) h
  | .pop => zp1v st fun _ t => K mi (pc + n) lv t h
  | .dup2 => zp2v st fun v u t => K mi (pc + n) lv (v :: u :: v :: u :: t) h
  | .goto _ => K mi w.1 (zfg w.2.1 lv) st h
  | .ifCond .eq _ => zp1i st fun x t => if x = 0 then K mi w.1 lv t h else K mi (pc + n) lv t h
  | .ifCond .ne _ => zp1i st fun x t => if x = 0 then K mi (pc + n) lv t h else K mi w.1 lv t h
  | .ifCond .lt _ => zp1i st fun x t => if x < 0 then K mi w.1 lv t h else K mi (pc + n) lv t h
  | .ifCond .ge _ => zp1i st fun x t => if x < 0 then K mi (pc + n) lv t h else K mi w.1 lv t h
  | .ifCond .gt _ => zp1i st fun x t => if 0 < x then K mi w.1 lv t h else K mi (pc + n) lv t h
  | .ifCond .le _ => zp1i st fun x t => if 0 < x then K mi (pc + n) lv t h else K mi w.1 lv t h
  | .if_icmp .eq _ => zp2i st fun x y t => if x = y then K mi w.1 lv t h else K mi (pc + n) lv t h
  | .if_icmp .ne _ => zp2i st fun x y t => if x = y then K mi (pc + n) lv t h else K mi w.1 lv t h
  | .if_icmp .lt _ => zp2i st fun x y t => if x < y then K mi w.1 lv t h else K mi (pc + n) lv t h
  | .if_icmp .ge _ => zp2i st fun x y t => if x < y then K mi (pc + n) lv t h else K mi w.1 lv t h
  | .if_icmp .gt _ => zp2i st fun x y t => if y < x then K mi w.1 lv t h else K mi (pc + n) lv t h
  | .if_icmp .le _ => zp2i st fun x y t => if y < x then K mi (pc + n) lv t h else K mi w.1 lv t h
  | .ifnull _ => zp1q st fun x t => match x with | none => K mi w.1 lv t h | some _ => K mi (pc + n) lv t h
  | .ifnonnull _ => zp1q st fun x t => match x with | none => K mi (pc + n) lv t h | some _ => K mi w.1 lv t h
  | .tableswitch d lo _ os => zp1i st fun x t => zts pc (fun q => K mi q lv t h) x lo os.toList d
  | .lookupswitch d ps => zp1i st fun x t => zls pc (fun q => K mi q lv t h) x ps.toList d
  | .getfield _ => zp1r st fun a t => match w.2.2.1 with
    | 0 => (zgI r h a w.1 w.2.1).bind fun x => K mi (pc + n) lv (.int x :: t) h
    | 1 => (zgL r h a w.1 w.2.1).bind fun x => K mi (pc + n) lv (.long x :: t) h
    | _ => (zgR r h a w.1 w.2.1).bind fun x => K mi (pc + n) lv (.ref x :: t) h
  | .putfield _ => match w.2.2.1 with
    | 0 => zpia st fun a x t => (zpF r h a w.1 w.2.1 (.int x)).bind fun h => K mi (pc + n) lv t h
    | 1 => zpla st fun a x t => (zpF r h a w.1 w.2.1 (.long x)).bind fun h => K mi (pc + n) lv t h
    | _ => zpra st fun a x t => (zpF r h a w.1 w.2.1 (.ref x)).bind fun h => K mi (pc + n) lv t h
  | .getstatic _ => K mi (pc + n) lv (.ref (r.2.2 w.1) :: st) h
  | .new _ => K mi (pc + n) lv (.ref (r.1 + h.length) :: st) (h ++ [.inr (.inr (w.1, zdf w.1))])
  | .newarray .int => zp1i st fun x t => if x < 0 ∨ 100000 < x.toNatClampNeg then none else K mi (pc + n) lv (.ref (r.1 + h.length) :: t) (h ++ [.inl (x.toNatClampNeg, fun _ => 0)])
  | .anewarray _ => zp1i st fun x t => if x < 0 ∨ 100000 < x.toNatClampNeg then none else K mi (pc + n) lv (.ref (r.1 + h.length) :: t) (h ++ [.inr (.inl (w.1, x.toNatClampNeg, fun _ => none))])
  | .iaload => zpia st fun a i t => (zaI r h a i).bind fun x => K mi (pc + n) lv (.int x :: t) h
  | .caload => zpia st fun a i t => (zaC r a i).bind fun x => K mi (pc + n) lv (.int x :: t) h
  | .aaload => zpia st fun a i t => (zaQ r h a i).bind fun x => match x with | none => K mi (pc + n) lv (.null :: t) h | some b => K mi (pc + n) lv (.ref b :: t) h
  | .iastore => zpiia st fun a i x t => (zsI r h a i x).bind fun h => K mi (pc + n) lv t h
  | .aastore => zpria st fun a i x t => (zsQ r h a i x).bind fun h => K mi (pc + n) lv t h
  | .arraylength => zp1r st fun a t => (zaN r h a).bind fun x => K mi (pc + n) lv (.int (Int32.ofNat x) :: t) h
  | .invokevirtual _ => zpop st w.2.2.1 fun as t => zp1r t fun b t => if zob r h b w.2.2.2.2.2.toNat = true then (if (zenl (.ref b :: as)).length ≤ w.2.2.2.2.1 then
      zca w.2.2.2.1 (Kc w.1 0 (zent w.2.2.2.2.1 (.ref b :: as)) [] h) fun v h => K mi (pc + n) lv (v ++ t) h else none) else none
  | .invokespecial _ => match w.2.1 with
    | 4 => zp1r st fun _ t => if (t.map fun v => v.category).sum ≤ 8 then K mi (pc + n) lv t h else none
    | _ => zpop st w.2.2.1 fun as t => zp1r t fun b t => if (zenl (.ref b :: as)).length ≤ w.2.2.2.2.1 then
      zca w.2.2.2.1 (Kc w.1 0 (zent w.2.2.2.2.1 (.ref b :: as)) [] h) fun v h => K mi (pc + n) lv (v ++ t) h else none
  | .invokestatic _ => match w.2.1 with
    | 3 => zpcp st fun a0 sp a1 dp m t => if (t.map fun v => v.category).sum ≤ 8 then (zcp r h a0 sp a1 dp m).bind fun h => K mi (pc + n) lv t h else none
    | 5 => zp1i st fun x t => if (t.map fun v => v.category).sum ≤ 8 then K mi (pc + n) lv (.int (if 0 ≤ x then x else 0 - x) :: t) h else none
    | 6 => zp2i st fun x y t => if (t.map fun v => v.category).sum ≤ 8 then K mi (pc + n) lv (.int (if x < y then y else x) :: t) h else none
    | 7 => zp2i st fun x y t => if (t.map fun v => v.category).sum ≤ 8 then K mi (pc + n) lv (.int (if y < x then y else x) :: t) h else none
    | 8 => zp1l st fun x t => if (t.map fun v => v.category).sum ≤ 8 then K mi (pc + n) lv (.long (if 0 < x then x else -x) :: t) h else none
    | 9 => zp2l st fun x y t => if (t.map fun v => v.category).sum ≤ 8 then K mi (pc + n) lv (.long (if y < x then x else y) :: t) h else none
    | _ => zpop st w.2.2.1 fun as t => if (zenl as).length ≤ w.2.2.2.2.1 then
      zca w.2.2.2.1 (Kc w.1 0 (zent w.2.2.2.2.1 as) [] h) fun v h => K mi (pc + n) lv (v ++ t) h else none
  | .ireturn => match st with
    | [.int x] => (match w.1 with | 0 => some (some (.int x), h) | _ => if x = 0 ∨ x = 1 then some (some (.int x), h) else none)
    | _ => none
  | .lreturn => match st with | [.long x] => some (some (.long x), h) | _ => none
  | .areturn => match st with | [.ref x] => some (some (.ref x), h) | [.null] => some (some .null, h) | _ => none
  | .return_ => match st with | [] => some (none, h) | _ => none
  | _ => none
def zlk : List zI → Nat → Option (Nat × Instr × zL)
  | [], _ => none
  | q :: l, pc => if q.1 = pc then some q.2 else zlk l pc
end
section
/-! the code of every method: place, length, instruction, what it links (target; class, field, type; callee, kind, how many arguments, answer, locals, receiver) -/
def z_L_law_0 : List zI := [
  (0, 3, .new 7, (5, 0, 0, 0, 0, 0)), (3, 1, .dup, (0, 0, 0, 0, 0, 0)), (4, 3, .invokespecial 9, (68, 1, 0, 0, 2, 0)), (7, 1, .astore_n 1, (0, 0, 0, 0, 0, 0)), (8, 3, .new 10, (6, 0, 0, 0, 0, 0)), (11, 1, .dup, (0, 0, 0, 0, 0, 0)),
  (12, 3, .invokespecial 12, (136, 1, 0, 0, 2, 0)), (15, 1, .astore_n 2, (0, 0, 0, 0, 0, 0)), (16, 1, .iconst 0, (0, 0, 0, 0, 0, 0)), (17, 1, .istore_n 3, (0, 0, 0, 0, 0, 0)), (18, 1, .iload_n 3, (0, 0, 0, 0, 0, 0)), (19, 1, .aload_n 0, (0, 0, 0, 0, 0, 0)),
  (20, 1, .arraylength, (0, 0, 0, 0, 0, 0)), (21, 2, .bipush 6, (0, 0, 0, 0, 0, 0)), (23, 1, .isub, (0, 0, 0, 0, 0, 0)), (24, 3, .if_icmp .gt 1468, (1492, 0, 0, 0, 0, 0)), (27, 1, .aload_n 0, (0, 0, 0, 0, 0, 0)), (28, 1, .iload_n 3, (0, 0, 0, 0, 0, 0)),
  (29, 1, .iaload, (0, 0, 0, 0, 0, 0)), (30, 2, .bipush 63, (0, 0, 0, 0, 0, 0)), (32, 1, .iand, (0, 0, 0, 0, 0, 0)), (33, 195, .tableswitch 1453 0 44 #[195, 228, 271, 304, 327, 390, 413, 446, 489, 512, 535, 568, 601, 634, 667, 690, 723, 756, 779, 802, 825, 848, 881, 914, 937, 960, 993, 1026, 1059, 1082, 1115, 1158, 1181, 1194, 1227, 1260, 1283, 1306, 1339, 1352, 1366, 1380, 1403, 1416, 1439], (0, 0, 0, 0, 0, 0)), (228, 1, .aload_n 1, (0, 0, 0, 0, 0, 0)), (229, 1, .aload_n 0, (0, 0, 0, 0, 0, 0)),
  (230, 1, .iload_n 3, (0, 0, 0, 0, 0, 0)), (231, 1, .iconst 1, (0, 0, 0, 0, 0, 0)), (232, 1, .iadd, (0, 0, 0, 0, 0, 0)), (233, 1, .iaload, (0, 0, 0, 0, 0, 0)), (234, 1, .aload_n 0, (0, 0, 0, 0, 0, 0)), (235, 1, .iload_n 3, (0, 0, 0, 0, 0, 0)),
  (236, 1, .iconst 2, (0, 0, 0, 0, 0, 0)), (237, 1, .iadd, (0, 0, 0, 0, 0, 0)), (238, 1, .iaload, (0, 0, 0, 0, 0, 0)), (239, 3, .invokevirtual 13, (69, 0, 2, 1, 3, 5)), (242, 1, .aload_n 2, (0, 0, 0, 0, 0, 0)), (243, 1, .aload_n 0, (0, 0, 0, 0, 0, 0)),
  (244, 1, .iload_n 3, (0, 0, 0, 0, 0, 0)), (245, 1, .iconst 1, (0, 0, 0, 0, 0, 0)), (246, 1, .iadd, (0, 0, 0, 0, 0, 0)), (247, 1, .iaload, (0, 0, 0, 0, 0, 0)), (248, 1, .aload_n 0, (0, 0, 0, 0, 0, 0)), (249, 1, .iload_n 3, (0, 0, 0, 0, 0, 0)),
  (250, 1, .iconst 2, (0, 0, 0, 0, 0, 0)), (251, 1, .iadd, (0, 0, 0, 0, 0, 0)), (252, 1, .iaload, (0, 0, 0, 0, 0, 0)), (253, 3, .invokevirtual 17, (142, 0, 2, 1, 3, 6)), (256, 3, .if_icmp .eq 1230, (1486, 0, 0, 0, 0, 0)), (259, 1, .iconst 0, (0, 0, 0, 0, 0, 0))]
def z_L_law_1 : List zI := [
  (260, 1, .ireturn, (1, 0, 0, 0, 0, 0)), (261, 1, .aload_n 1, (0, 0, 0, 0, 0, 0)), (262, 1, .aload_n 0, (0, 0, 0, 0, 0, 0)), (263, 1, .iload_n 3, (0, 0, 0, 0, 0, 0)), (264, 1, .iconst 1, (0, 0, 0, 0, 0, 0)), (265, 1, .iadd, (0, 0, 0, 0, 0, 0)),
  (266, 1, .iaload, (0, 0, 0, 0, 0, 0)), (267, 1, .aload_n 0, (0, 0, 0, 0, 0, 0)), (268, 1, .iload_n 3, (0, 0, 0, 0, 0, 0)), (269, 1, .iconst 2, (0, 0, 0, 0, 0, 0)), (270, 1, .iadd, (0, 0, 0, 0, 0, 0)), (271, 1, .iaload, (0, 0, 0, 0, 0, 0)),
  (272, 1, .aload_n 0, (0, 0, 0, 0, 0, 0)), (273, 1, .iload_n 3, (0, 0, 0, 0, 0, 0)), (274, 1, .iconst 3, (0, 0, 0, 0, 0, 0)), (275, 1, .iadd, (0, 0, 0, 0, 0, 0)), (276, 1, .iaload, (0, 0, 0, 0, 0, 0)), (277, 3, .invokevirtual 18, (70, 0, 3, 1, 5, 5)),
  (280, 1, .aload_n 2, (0, 0, 0, 0, 0, 0)), (281, 1, .aload_n 0, (0, 0, 0, 0, 0, 0)), (282, 1, .iload_n 3, (0, 0, 0, 0, 0, 0)), (283, 1, .iconst 1, (0, 0, 0, 0, 0, 0)), (284, 1, .iadd, (0, 0, 0, 0, 0, 0)), (285, 1, .iaload, (0, 0, 0, 0, 0, 0)),
  (286, 1, .aload_n 0, (0, 0, 0, 0, 0, 0)), (287, 1, .iload_n 3, (0, 0, 0, 0, 0, 0)), (288, 1, .iconst 2, (0, 0, 0, 0, 0, 0)), (289, 1, .iadd, (0, 0, 0, 0, 0, 0)), (290, 1, .iaload, (0, 0, 0, 0, 0, 0)), (291, 1, .aload_n 0, (0, 0, 0, 0, 0, 0)),
  (292, 1, .iload_n 3, (0, 0, 0, 0, 0, 0)), (293, 1, .iconst 3, (0, 0, 0, 0, 0, 0)), (294, 1, .iadd, (0, 0, 0, 0, 0, 0)), (295, 1, .iaload, (0, 0, 0, 0, 0, 0)), (296, 3, .invokevirtual 22, (145, 0, 3, 1, 6, 6)), (299, 3, .if_icmp .eq 1187, (1486, 0, 0, 0, 0, 0)),
  (302, 1, .iconst 0, (0, 0, 0, 0, 0, 0)), (303, 1, .ireturn, (1, 0, 0, 0, 0, 0)), (304, 1, .aload_n 1, (0, 0, 0, 0, 0, 0)), (305, 1, .aload_n 0, (0, 0, 0, 0, 0, 0)), (306, 1, .iload_n 3, (0, 0, 0, 0, 0, 0)), (307, 1, .iconst 1, (0, 0, 0, 0, 0, 0)),
  (308, 1, .iadd, (0, 0, 0, 0, 0, 0)), (309, 1, .iaload, (0, 0, 0, 0, 0, 0)), (310, 1, .aload_n 0, (0, 0, 0, 0, 0, 0)), (311, 1, .iload_n 3, (0, 0, 0, 0, 0, 0)), (312, 1, .iconst 2, (0, 0, 0, 0, 0, 0)), (313, 1, .iadd, (0, 0, 0, 0, 0, 0))]
def z_L_law_2 : List zI := [
  (314, 1, .iaload, (0, 0, 0, 0, 0, 0)), (315, 3, .invokevirtual 23, (71, 0, 2, 1, 4, 5)), (318, 1, .aload_n 2, (0, 0, 0, 0, 0, 0)), (319, 1, .aload_n 0, (0, 0, 0, 0, 0, 0)), (320, 1, .iload_n 3, (0, 0, 0, 0, 0, 0)), (321, 1, .iconst 1, (0, 0, 0, 0, 0, 0)),
  (322, 1, .iadd, (0, 0, 0, 0, 0, 0)), (323, 1, .iaload, (0, 0, 0, 0, 0, 0)), (324, 1, .aload_n 0, (0, 0, 0, 0, 0, 0)), (325, 1, .iload_n 3, (0, 0, 0, 0, 0, 0)), (326, 1, .iconst 2, (0, 0, 0, 0, 0, 0)), (327, 1, .iadd, (0, 0, 0, 0, 0, 0)),
  (328, 1, .iaload, (0, 0, 0, 0, 0, 0)), (329, 3, .invokevirtual 26, (146, 0, 2, 1, 4, 6)), (332, 3, .if_icmp .eq 1154, (1486, 0, 0, 0, 0, 0)), (335, 1, .iconst 0, (0, 0, 0, 0, 0, 0)), (336, 1, .ireturn, (1, 0, 0, 0, 0, 0)), (337, 1, .aload_n 1, (0, 0, 0, 0, 0, 0)),
  (338, 1, .aload_n 0, (0, 0, 0, 0, 0, 0)), (339, 1, .iload_n 3, (0, 0, 0, 0, 0, 0)), (340, 1, .iconst 1, (0, 0, 0, 0, 0, 0)), (341, 1, .iadd, (0, 0, 0, 0, 0, 0)), (342, 1, .iaload, (0, 0, 0, 0, 0, 0)), (343, 3, .invokevirtual 27, (72, 0, 1, 1, 3, 5)),
  (346, 1, .aload_n 2, (0, 0, 0, 0, 0, 0)), (347, 1, .aload_n 0, (0, 0, 0, 0, 0, 0)), (348, 1, .iload_n 3, (0, 0, 0, 0, 0, 0)), (349, 1, .iconst 1, (0, 0, 0, 0, 0, 0)), (350, 1, .iadd, (0, 0, 0, 0, 0, 0)), (351, 1, .iaload, (0, 0, 0, 0, 0, 0)),
  (352, 3, .invokevirtual 31, (147, 0, 1, 1, 2, 6)), (355, 3, .if_icmp .eq 1131, (1486, 0, 0, 0, 0, 0)), (358, 1, .iconst 0, (0, 0, 0, 0, 0, 0)), (359, 1, .ireturn, (1, 0, 0, 0, 0, 0)), (360, 1, .aload_n 1, (0, 0, 0, 0, 0, 0)), (361, 1, .aload_n 0, (0, 0, 0, 0, 0, 0)),
  (362, 1, .iload_n 3, (0, 0, 0, 0, 0, 0)), (363, 1, .iconst 1, (0, 0, 0, 0, 0, 0)), (364, 1, .iadd, (0, 0, 0, 0, 0, 0)), (365, 1, .iaload, (0, 0, 0, 0, 0, 0)), (366, 1, .aload_n 0, (0, 0, 0, 0, 0, 0)), (367, 1, .iload_n 3, (0, 0, 0, 0, 0, 0)),
  (368, 1, .iconst 2, (0, 0, 0, 0, 0, 0)), (369, 1, .iadd, (0, 0, 0, 0, 0, 0)), (370, 1, .iaload, (0, 0, 0, 0, 0, 0)), (371, 1, .aload_n 0, (0, 0, 0, 0, 0, 0)), (372, 1, .iload_n 3, (0, 0, 0, 0, 0, 0)), (373, 1, .iconst 3, (0, 0, 0, 0, 0, 0))]
def z_L_law_3 : List zI := [
  (374, 1, .iadd, (0, 0, 0, 0, 0, 0)), (375, 1, .iaload, (0, 0, 0, 0, 0, 0)), (376, 1, .aload_n 0, (0, 0, 0, 0, 0, 0)), (377, 1, .iload_n 3, (0, 0, 0, 0, 0, 0)), (378, 1, .iconst 4, (0, 0, 0, 0, 0, 0)), (379, 1, .iadd, (0, 0, 0, 0, 0, 0)),
  (380, 1, .iaload, (0, 0, 0, 0, 0, 0)), (381, 1, .aload_n 0, (0, 0, 0, 0, 0, 0)), (382, 1, .iload_n 3, (0, 0, 0, 0, 0, 0)), (383, 1, .iconst 5, (0, 0, 0, 0, 0, 0)), (384, 1, .iadd, (0, 0, 0, 0, 0, 0)), (385, 1, .iaload, (0, 0, 0, 0, 0, 0)),
  (386, 3, .invokevirtual 32, (73, 0, 5, 1, 8, 5)), (389, 1, .aload_n 2, (0, 0, 0, 0, 0, 0)), (390, 1, .aload_n 0, (0, 0, 0, 0, 0, 0)), (391, 1, .iload_n 3, (0, 0, 0, 0, 0, 0)), (392, 1, .iconst 1, (0, 0, 0, 0, 0, 0)), (393, 1, .iadd, (0, 0, 0, 0, 0, 0)),
  (394, 1, .iaload, (0, 0, 0, 0, 0, 0)), (395, 1, .aload_n 0, (0, 0, 0, 0, 0, 0)), (396, 1, .iload_n 3, (0, 0, 0, 0, 0, 0)), (397, 1, .iconst 2, (0, 0, 0, 0, 0, 0)), (398, 1, .iadd, (0, 0, 0, 0, 0, 0)), (399, 1, .iaload, (0, 0, 0, 0, 0, 0)),
  (400, 1, .aload_n 0, (0, 0, 0, 0, 0, 0)), (401, 1, .iload_n 3, (0, 0, 0, 0, 0, 0)), (402, 1, .iconst 3, (0, 0, 0, 0, 0, 0)), (403, 1, .iadd, (0, 0, 0, 0, 0, 0)), (404, 1, .iaload, (0, 0, 0, 0, 0, 0)), (405, 1, .aload_n 0, (0, 0, 0, 0, 0, 0)),
  (406, 1, .iload_n 3, (0, 0, 0, 0, 0, 0)), (407, 1, .iconst 4, (0, 0, 0, 0, 0, 0)), (408, 1, .iadd, (0, 0, 0, 0, 0, 0)), (409, 1, .iaload, (0, 0, 0, 0, 0, 0)), (410, 1, .aload_n 0, (0, 0, 0, 0, 0, 0)), (411, 1, .iload_n 3, (0, 0, 0, 0, 0, 0)),
  (412, 1, .iconst 5, (0, 0, 0, 0, 0, 0)), (413, 1, .iadd, (0, 0, 0, 0, 0, 0)), (414, 1, .iaload, (0, 0, 0, 0, 0, 0)), (415, 3, .invokevirtual 36, (149, 0, 5, 1, 9, 6)), (418, 3, .if_icmp .eq 1068, (1486, 0, 0, 0, 0, 0)), (421, 1, .iconst 0, (0, 0, 0, 0, 0, 0)),
  (422, 1, .ireturn, (1, 0, 0, 0, 0, 0)), (423, 1, .aload_n 1, (0, 0, 0, 0, 0, 0)), (424, 1, .aload_n 0, (0, 0, 0, 0, 0, 0)), (425, 1, .iload_n 3, (0, 0, 0, 0, 0, 0)), (426, 1, .iconst 1, (0, 0, 0, 0, 0, 0)), (427, 1, .iadd, (0, 0, 0, 0, 0, 0))]
def z_L_law_4 : List zI := [
  (428, 1, .iaload, (0, 0, 0, 0, 0, 0)), (429, 3, .invokevirtual 37, (74, 0, 1, 1, 3, 5)), (432, 1, .aload_n 2, (0, 0, 0, 0, 0, 0)), (433, 1, .aload_n 0, (0, 0, 0, 0, 0, 0)), (434, 1, .iload_n 3, (0, 0, 0, 0, 0, 0)), (435, 1, .iconst 1, (0, 0, 0, 0, 0, 0)),
  (436, 1, .iadd, (0, 0, 0, 0, 0, 0)), (437, 1, .iaload, (0, 0, 0, 0, 0, 0)), (438, 3, .invokevirtual 40, (150, 0, 1, 1, 5, 6)), (441, 3, .if_icmp .eq 1045, (1486, 0, 0, 0, 0, 0)), (444, 1, .iconst 0, (0, 0, 0, 0, 0, 0)), (445, 1, .ireturn, (1, 0, 0, 0, 0, 0)),
  (446, 1, .aload_n 1, (0, 0, 0, 0, 0, 0)), (447, 1, .aload_n 0, (0, 0, 0, 0, 0, 0)), (448, 1, .iload_n 3, (0, 0, 0, 0, 0, 0)), (449, 1, .iconst 1, (0, 0, 0, 0, 0, 0)), (450, 1, .iadd, (0, 0, 0, 0, 0, 0)), (451, 1, .iaload, (0, 0, 0, 0, 0, 0)),
  (452, 1, .aload_n 0, (0, 0, 0, 0, 0, 0)), (453, 1, .iload_n 3, (0, 0, 0, 0, 0, 0)), (454, 1, .iconst 2, (0, 0, 0, 0, 0, 0)), (455, 1, .iadd, (0, 0, 0, 0, 0, 0)), (456, 1, .iaload, (0, 0, 0, 0, 0, 0)), (457, 3, .invokevirtual 41, (75, 0, 2, 1, 3, 5)),
  (460, 1, .aload_n 2, (0, 0, 0, 0, 0, 0)), (461, 1, .aload_n 0, (0, 0, 0, 0, 0, 0)), (462, 1, .iload_n 3, (0, 0, 0, 0, 0, 0)), (463, 1, .iconst 1, (0, 0, 0, 0, 0, 0)), (464, 1, .iadd, (0, 0, 0, 0, 0, 0)), (465, 1, .iaload, (0, 0, 0, 0, 0, 0)),
  (466, 1, .aload_n 0, (0, 0, 0, 0, 0, 0)), (467, 1, .iload_n 3, (0, 0, 0, 0, 0, 0)), (468, 1, .iconst 2, (0, 0, 0, 0, 0, 0)), (469, 1, .iadd, (0, 0, 0, 0, 0, 0)), (470, 1, .iaload, (0, 0, 0, 0, 0, 0)), (471, 3, .invokevirtual 44, (151, 0, 2, 1, 4, 6)),
  (474, 3, .if_icmp .eq 1012, (1486, 0, 0, 0, 0, 0)), (477, 1, .iconst 0, (0, 0, 0, 0, 0, 0)), (478, 1, .ireturn, (1, 0, 0, 0, 0, 0)), (479, 1, .aload_n 1, (0, 0, 0, 0, 0, 0)), (480, 1, .aload_n 0, (0, 0, 0, 0, 0, 0)), (481, 1, .iload_n 3, (0, 0, 0, 0, 0, 0)),
  (482, 1, .iconst 1, (0, 0, 0, 0, 0, 0)), (483, 1, .iadd, (0, 0, 0, 0, 0, 0)), (484, 1, .iaload, (0, 0, 0, 0, 0, 0)), (485, 1, .aload_n 0, (0, 0, 0, 0, 0, 0)), (486, 1, .iload_n 3, (0, 0, 0, 0, 0, 0)), (487, 1, .iconst 2, (0, 0, 0, 0, 0, 0))]
def z_L_law_5 : List zI := [
  (488, 1, .iadd, (0, 0, 0, 0, 0, 0)), (489, 1, .iaload, (0, 0, 0, 0, 0, 0)), (490, 1, .aload_n 0, (0, 0, 0, 0, 0, 0)), (491, 1, .iload_n 3, (0, 0, 0, 0, 0, 0)), (492, 1, .iconst 3, (0, 0, 0, 0, 0, 0)), (493, 1, .iadd, (0, 0, 0, 0, 0, 0)),
  (494, 1, .iaload, (0, 0, 0, 0, 0, 0)), (495, 3, .invokevirtual 45, (76, 0, 3, 1, 6, 5)), (498, 1, .aload_n 2, (0, 0, 0, 0, 0, 0)), (499, 1, .aload_n 0, (0, 0, 0, 0, 0, 0)), (500, 1, .iload_n 3, (0, 0, 0, 0, 0, 0)), (501, 1, .iconst 1, (0, 0, 0, 0, 0, 0)),
  (502, 1, .iadd, (0, 0, 0, 0, 0, 0)), (503, 1, .iaload, (0, 0, 0, 0, 0, 0)), (504, 1, .aload_n 0, (0, 0, 0, 0, 0, 0)), (505, 1, .iload_n 3, (0, 0, 0, 0, 0, 0)), (506, 1, .iconst 2, (0, 0, 0, 0, 0, 0)), (507, 1, .iadd, (0, 0, 0, 0, 0, 0)),
  (508, 1, .iaload, (0, 0, 0, 0, 0, 0)), (509, 1, .aload_n 0, (0, 0, 0, 0, 0, 0)), (510, 1, .iload_n 3, (0, 0, 0, 0, 0, 0)), (511, 1, .iconst 3, (0, 0, 0, 0, 0, 0)), (512, 1, .iadd, (0, 0, 0, 0, 0, 0)), (513, 1, .iaload, (0, 0, 0, 0, 0, 0)),
  (514, 3, .invokevirtual 48, (152, 0, 3, 1, 5, 6)), (517, 3, .if_icmp .eq 969, (1486, 0, 0, 0, 0, 0)), (520, 1, .iconst 0, (0, 0, 0, 0, 0, 0)), (521, 1, .ireturn, (1, 0, 0, 0, 0, 0)), (522, 1, .aload_n 1, (0, 0, 0, 0, 0, 0)), (523, 1, .aload_n 0, (0, 0, 0, 0, 0, 0)),
  (524, 1, .iload_n 3, (0, 0, 0, 0, 0, 0)), (525, 1, .iconst 1, (0, 0, 0, 0, 0, 0)), (526, 1, .iadd, (0, 0, 0, 0, 0, 0)), (527, 1, .iaload, (0, 0, 0, 0, 0, 0)), (528, 3, .invokevirtual 49, (77, 0, 1, 1, 3, 5)), (531, 1, .aload_n 2, (0, 0, 0, 0, 0, 0)),
  (532, 1, .aload_n 0, (0, 0, 0, 0, 0, 0)), (533, 1, .iload_n 3, (0, 0, 0, 0, 0, 0)), (534, 1, .iconst 1, (0, 0, 0, 0, 0, 0)), (535, 1, .iadd, (0, 0, 0, 0, 0, 0)), (536, 1, .iaload, (0, 0, 0, 0, 0, 0)), (537, 3, .invokevirtual 52, (161, 0, 1, 1, 2, 6)),
  (540, 3, .if_icmp .eq 946, (1486, 0, 0, 0, 0, 0)), (543, 1, .iconst 0, (0, 0, 0, 0, 0, 0)), (544, 1, .ireturn, (1, 0, 0, 0, 0, 0)), (545, 1, .aload_n 1, (0, 0, 0, 0, 0, 0)), (546, 1, .aload_n 0, (0, 0, 0, 0, 0, 0)), (547, 1, .iload_n 3, (0, 0, 0, 0, 0, 0))]
def z_L_law_6 : List zI := [
  (548, 1, .iconst 1, (0, 0, 0, 0, 0, 0)), (549, 1, .iadd, (0, 0, 0, 0, 0, 0)), (550, 1, .iaload, (0, 0, 0, 0, 0, 0)), (551, 3, .invokevirtual 53, (78, 0, 1, 1, 5, 5)), (554, 1, .aload_n 2, (0, 0, 0, 0, 0, 0)), (555, 1, .aload_n 0, (0, 0, 0, 0, 0, 0)),
  (556, 1, .iload_n 3, (0, 0, 0, 0, 0, 0)), (557, 1, .iconst 1, (0, 0, 0, 0, 0, 0)), (558, 1, .iadd, (0, 0, 0, 0, 0, 0)), (559, 1, .iaload, (0, 0, 0, 0, 0, 0)), (560, 3, .invokevirtual 56, (162, 0, 1, 1, 4, 6)), (563, 3, .if_icmp .eq 923, (1486, 0, 0, 0, 0, 0)),
  (566, 1, .iconst 0, (0, 0, 0, 0, 0, 0)), (567, 1, .ireturn, (1, 0, 0, 0, 0, 0)), (568, 1, .aload_n 1, (0, 0, 0, 0, 0, 0)), (569, 1, .aload_n 0, (0, 0, 0, 0, 0, 0)), (570, 1, .iload_n 3, (0, 0, 0, 0, 0, 0)), (571, 1, .iconst 1, (0, 0, 0, 0, 0, 0)),
  (572, 1, .iadd, (0, 0, 0, 0, 0, 0)), (573, 1, .iaload, (0, 0, 0, 0, 0, 0)), (574, 1, .aload_n 0, (0, 0, 0, 0, 0, 0)), (575, 1, .iload_n 3, (0, 0, 0, 0, 0, 0)), (576, 1, .iconst 2, (0, 0, 0, 0, 0, 0)), (577, 1, .iadd, (0, 0, 0, 0, 0, 0)),
  (578, 1, .iaload, (0, 0, 0, 0, 0, 0)), (579, 3, .invokevirtual 57, (79, 0, 2, 1, 3, 5)), (582, 1, .aload_n 2, (0, 0, 0, 0, 0, 0)), (583, 1, .aload_n 0, (0, 0, 0, 0, 0, 0)), (584, 1, .iload_n 3, (0, 0, 0, 0, 0, 0)), (585, 1, .iconst 1, (0, 0, 0, 0, 0, 0)),
  (586, 1, .iadd, (0, 0, 0, 0, 0, 0)), (587, 1, .iaload, (0, 0, 0, 0, 0, 0)), (588, 1, .aload_n 0, (0, 0, 0, 0, 0, 0)), (589, 1, .iload_n 3, (0, 0, 0, 0, 0, 0)), (590, 1, .iconst 2, (0, 0, 0, 0, 0, 0)), (591, 1, .iadd, (0, 0, 0, 0, 0, 0)),
  (592, 1, .iaload, (0, 0, 0, 0, 0, 0)), (593, 3, .invokevirtual 60, (177, 0, 2, 1, 3, 6)), (596, 3, .if_icmp .eq 890, (1486, 0, 0, 0, 0, 0)), (599, 1, .iconst 0, (0, 0, 0, 0, 0, 0)), (600, 1, .ireturn, (1, 0, 0, 0, 0, 0)), (601, 1, .aload_n 1, (0, 0, 0, 0, 0, 0)),
  (602, 1, .aload_n 0, (0, 0, 0, 0, 0, 0)), (603, 1, .iload_n 3, (0, 0, 0, 0, 0, 0)), (604, 1, .iconst 1, (0, 0, 0, 0, 0, 0)), (605, 1, .iadd, (0, 0, 0, 0, 0, 0)), (606, 1, .iaload, (0, 0, 0, 0, 0, 0)), (607, 1, .aload_n 0, (0, 0, 0, 0, 0, 0))]
def z_L_law_7 : List zI := [
  (608, 1, .iload_n 3, (0, 0, 0, 0, 0, 0)), (609, 1, .iconst 2, (0, 0, 0, 0, 0, 0)), (610, 1, .iadd, (0, 0, 0, 0, 0, 0)), (611, 1, .iaload, (0, 0, 0, 0, 0, 0)), (612, 3, .invokevirtual 61, (80, 0, 2, 1, 3, 5)), (615, 1, .aload_n 2, (0, 0, 0, 0, 0, 0)),
  (616, 1, .aload_n 0, (0, 0, 0, 0, 0, 0)), (617, 1, .iload_n 3, (0, 0, 0, 0, 0, 0)), (618, 1, .iconst 1, (0, 0, 0, 0, 0, 0)), (619, 1, .iadd, (0, 0, 0, 0, 0, 0)), (620, 1, .iaload, (0, 0, 0, 0, 0, 0)), (621, 1, .aload_n 0, (0, 0, 0, 0, 0, 0)),
  (622, 1, .iload_n 3, (0, 0, 0, 0, 0, 0)), (623, 1, .iconst 2, (0, 0, 0, 0, 0, 0)), (624, 1, .iadd, (0, 0, 0, 0, 0, 0)), (625, 1, .iaload, (0, 0, 0, 0, 0, 0)), (626, 3, .invokevirtual 64, (179, 0, 2, 1, 3, 6)), (629, 3, .if_icmp .eq 857, (1486, 0, 0, 0, 0, 0)),
  (632, 1, .iconst 0, (0, 0, 0, 0, 0, 0)), (633, 1, .ireturn, (1, 0, 0, 0, 0, 0)), (634, 1, .aload_n 1, (0, 0, 0, 0, 0, 0)), (635, 1, .aload_n 0, (0, 0, 0, 0, 0, 0)), (636, 1, .iload_n 3, (0, 0, 0, 0, 0, 0)), (637, 1, .iconst 1, (0, 0, 0, 0, 0, 0)),
  (638, 1, .iadd, (0, 0, 0, 0, 0, 0)), (639, 1, .iaload, (0, 0, 0, 0, 0, 0)), (640, 1, .aload_n 0, (0, 0, 0, 0, 0, 0)), (641, 1, .iload_n 3, (0, 0, 0, 0, 0, 0)), (642, 1, .iconst 2, (0, 0, 0, 0, 0, 0)), (643, 1, .iadd, (0, 0, 0, 0, 0, 0)),
  (644, 1, .iaload, (0, 0, 0, 0, 0, 0)), (645, 3, .invokevirtual 65, (81, 0, 2, 1, 4, 5)), (648, 1, .aload_n 2, (0, 0, 0, 0, 0, 0)), (649, 1, .aload_n 0, (0, 0, 0, 0, 0, 0)), (650, 1, .iload_n 3, (0, 0, 0, 0, 0, 0)), (651, 1, .iconst 1, (0, 0, 0, 0, 0, 0)),
  (652, 1, .iadd, (0, 0, 0, 0, 0, 0)), (653, 1, .iaload, (0, 0, 0, 0, 0, 0)), (654, 1, .aload_n 0, (0, 0, 0, 0, 0, 0)), (655, 1, .iload_n 3, (0, 0, 0, 0, 0, 0)), (656, 1, .iconst 2, (0, 0, 0, 0, 0, 0)), (657, 1, .iadd, (0, 0, 0, 0, 0, 0)),
  (658, 1, .iaload, (0, 0, 0, 0, 0, 0)), (659, 3, .invokevirtual 68, (184, 0, 2, 1, 3, 6)), (662, 3, .if_icmp .eq 824, (1486, 0, 0, 0, 0, 0)), (665, 1, .iconst 0, (0, 0, 0, 0, 0, 0)), (666, 1, .ireturn, (1, 0, 0, 0, 0, 0)), (667, 1, .aload_n 1, (0, 0, 0, 0, 0, 0))]
def z_L_law_8 : List zI := [
  (668, 1, .aload_n 0, (0, 0, 0, 0, 0, 0)), (669, 1, .iload_n 3, (0, 0, 0, 0, 0, 0)), (670, 1, .iconst 1, (0, 0, 0, 0, 0, 0)), (671, 1, .iadd, (0, 0, 0, 0, 0, 0)), (672, 1, .iaload, (0, 0, 0, 0, 0, 0)), (673, 1, .aload_n 0, (0, 0, 0, 0, 0, 0)),
  (674, 1, .iload_n 3, (0, 0, 0, 0, 0, 0)), (675, 1, .iconst 2, (0, 0, 0, 0, 0, 0)), (676, 1, .iadd, (0, 0, 0, 0, 0, 0)), (677, 1, .iaload, (0, 0, 0, 0, 0, 0)), (678, 3, .invokevirtual 69, (82, 0, 2, 1, 3, 5)), (681, 1, .aload_n 2, (0, 0, 0, 0, 0, 0)),
  (682, 1, .aload_n 0, (0, 0, 0, 0, 0, 0)), (683, 1, .iload_n 3, (0, 0, 0, 0, 0, 0)), (684, 1, .iconst 1, (0, 0, 0, 0, 0, 0)), (685, 1, .iadd, (0, 0, 0, 0, 0, 0)), (686, 1, .iaload, (0, 0, 0, 0, 0, 0)), (687, 1, .aload_n 0, (0, 0, 0, 0, 0, 0)),
  (688, 1, .iload_n 3, (0, 0, 0, 0, 0, 0)), (689, 1, .iconst 2, (0, 0, 0, 0, 0, 0)), (690, 1, .iadd, (0, 0, 0, 0, 0, 0)), (691, 1, .iaload, (0, 0, 0, 0, 0, 0)), (692, 3, .invokevirtual 72, (186, 0, 2, 1, 3, 6)), (695, 3, .if_icmp .eq 791, (1486, 0, 0, 0, 0, 0)),
  (698, 1, .iconst 0, (0, 0, 0, 0, 0, 0)), (699, 1, .ireturn, (1, 0, 0, 0, 0, 0)), (700, 1, .aload_n 1, (0, 0, 0, 0, 0, 0)), (701, 1, .aload_n 0, (0, 0, 0, 0, 0, 0)), (702, 1, .iload_n 3, (0, 0, 0, 0, 0, 0)), (703, 1, .iconst 1, (0, 0, 0, 0, 0, 0)),
  (704, 1, .iadd, (0, 0, 0, 0, 0, 0)), (705, 1, .iaload, (0, 0, 0, 0, 0, 0)), (706, 3, .invokevirtual 73, (83, 0, 1, 1, 3, 5)), (709, 1, .aload_n 2, (0, 0, 0, 0, 0, 0)), (710, 1, .aload_n 0, (0, 0, 0, 0, 0, 0)), (711, 1, .iload_n 3, (0, 0, 0, 0, 0, 0)),
  (712, 1, .iconst 1, (0, 0, 0, 0, 0, 0)), (713, 1, .iadd, (0, 0, 0, 0, 0, 0)), (714, 1, .iaload, (0, 0, 0, 0, 0, 0)), (715, 3, .invokevirtual 76, (187, 0, 1, 1, 3, 6)), (718, 3, .if_icmp .eq 768, (1486, 0, 0, 0, 0, 0)), (721, 1, .iconst 0, (0, 0, 0, 0, 0, 0)),
  (722, 1, .ireturn, (1, 0, 0, 0, 0, 0)), (723, 1, .aload_n 1, (0, 0, 0, 0, 0, 0)), (724, 1, .aload_n 0, (0, 0, 0, 0, 0, 0)), (725, 1, .iload_n 3, (0, 0, 0, 0, 0, 0)), (726, 1, .iconst 1, (0, 0, 0, 0, 0, 0)), (727, 1, .iadd, (0, 0, 0, 0, 0, 0))]
def z_L_law_9 : List zI := [
  (728, 1, .iaload, (0, 0, 0, 0, 0, 0)), (729, 1, .aload_n 0, (0, 0, 0, 0, 0, 0)), (730, 1, .iload_n 3, (0, 0, 0, 0, 0, 0)), (731, 1, .iconst 2, (0, 0, 0, 0, 0, 0)), (732, 1, .iadd, (0, 0, 0, 0, 0, 0)), (733, 1, .iaload, (0, 0, 0, 0, 0, 0)),
  (734, 3, .invokevirtual 77, (84, 0, 2, 1, 3, 5)), (737, 1, .aload_n 2, (0, 0, 0, 0, 0, 0)), (738, 1, .aload_n 0, (0, 0, 0, 0, 0, 0)), (739, 1, .iload_n 3, (0, 0, 0, 0, 0, 0)), (740, 1, .iconst 1, (0, 0, 0, 0, 0, 0)), (741, 1, .iadd, (0, 0, 0, 0, 0, 0)),
  (742, 1, .iaload, (0, 0, 0, 0, 0, 0)), (743, 1, .aload_n 0, (0, 0, 0, 0, 0, 0)), (744, 1, .iload_n 3, (0, 0, 0, 0, 0, 0)), (745, 1, .iconst 2, (0, 0, 0, 0, 0, 0)), (746, 1, .iadd, (0, 0, 0, 0, 0, 0)), (747, 1, .iaload, (0, 0, 0, 0, 0, 0)),
  (748, 3, .invokevirtual 80, (189, 0, 2, 1, 4, 6)), (751, 3, .if_icmp .eq 735, (1486, 0, 0, 0, 0, 0)), (754, 1, .iconst 0, (0, 0, 0, 0, 0, 0)), (755, 1, .ireturn, (1, 0, 0, 0, 0, 0)), (756, 1, .aload_n 1, (0, 0, 0, 0, 0, 0)), (757, 1, .aload_n 0, (0, 0, 0, 0, 0, 0)),
  (758, 1, .iload_n 3, (0, 0, 0, 0, 0, 0)), (759, 1, .iconst 1, (0, 0, 0, 0, 0, 0)), (760, 1, .iadd, (0, 0, 0, 0, 0, 0)), (761, 1, .iaload, (0, 0, 0, 0, 0, 0)), (762, 1, .aload_n 0, (0, 0, 0, 0, 0, 0)), (763, 1, .iload_n 3, (0, 0, 0, 0, 0, 0)),
  (764, 1, .iconst 2, (0, 0, 0, 0, 0, 0)), (765, 1, .iadd, (0, 0, 0, 0, 0, 0)), (766, 1, .iaload, (0, 0, 0, 0, 0, 0)), (767, 3, .invokevirtual 81, (85, 0, 2, 1, 4, 5)), (770, 1, .aload_n 2, (0, 0, 0, 0, 0, 0)), (771, 1, .aload_n 0, (0, 0, 0, 0, 0, 0)),
  (772, 1, .iload_n 3, (0, 0, 0, 0, 0, 0)), (773, 1, .iconst 1, (0, 0, 0, 0, 0, 0)), (774, 1, .iadd, (0, 0, 0, 0, 0, 0)), (775, 1, .iaload, (0, 0, 0, 0, 0, 0)), (776, 1, .aload_n 0, (0, 0, 0, 0, 0, 0)), (777, 1, .iload_n 3, (0, 0, 0, 0, 0, 0)),
  (778, 1, .iconst 2, (0, 0, 0, 0, 0, 0)), (779, 1, .iadd, (0, 0, 0, 0, 0, 0)), (780, 1, .iaload, (0, 0, 0, 0, 0, 0)), (781, 3, .invokevirtual 84, (190, 0, 2, 1, 4, 6)), (784, 3, .if_icmp .eq 702, (1486, 0, 0, 0, 0, 0)), (787, 1, .iconst 0, (0, 0, 0, 0, 0, 0))]
def z_L_law_10 : List zI := [
  (788, 1, .ireturn, (1, 0, 0, 0, 0, 0)), (789, 1, .aload_n 1, (0, 0, 0, 0, 0, 0)), (790, 1, .aload_n 0, (0, 0, 0, 0, 0, 0)), (791, 1, .iload_n 3, (0, 0, 0, 0, 0, 0)), (792, 1, .iconst 1, (0, 0, 0, 0, 0, 0)), (793, 1, .iadd, (0, 0, 0, 0, 0, 0)),
  (794, 1, .iaload, (0, 0, 0, 0, 0, 0)), (795, 3, .invokevirtual 85, (86, 0, 1, 1, 2, 5)), (798, 1, .aload_n 2, (0, 0, 0, 0, 0, 0)), (799, 1, .aload_n 0, (0, 0, 0, 0, 0, 0)), (800, 1, .iload_n 3, (0, 0, 0, 0, 0, 0)), (801, 1, .iconst 1, (0, 0, 0, 0, 0, 0)),
  (802, 1, .iadd, (0, 0, 0, 0, 0, 0)), (803, 1, .iaload, (0, 0, 0, 0, 0, 0)), (804, 3, .invokevirtual 88, (192, 0, 1, 1, 2, 6)), (807, 3, .if_icmp .eq 679, (1486, 0, 0, 0, 0, 0)), (810, 1, .iconst 0, (0, 0, 0, 0, 0, 0)), (811, 1, .ireturn, (1, 0, 0, 0, 0, 0)),
  (812, 1, .aload_n 1, (0, 0, 0, 0, 0, 0)), (813, 1, .aload_n 0, (0, 0, 0, 0, 0, 0)), (814, 1, .iload_n 3, (0, 0, 0, 0, 0, 0)), (815, 1, .iconst 1, (0, 0, 0, 0, 0, 0)), (816, 1, .iadd, (0, 0, 0, 0, 0, 0)), (817, 1, .iaload, (0, 0, 0, 0, 0, 0)),
  (818, 3, .invokevirtual 89, (87, 0, 1, 1, 3, 5)), (821, 1, .aload_n 2, (0, 0, 0, 0, 0, 0)), (822, 1, .aload_n 0, (0, 0, 0, 0, 0, 0)), (823, 1, .iload_n 3, (0, 0, 0, 0, 0, 0)), (824, 1, .iconst 1, (0, 0, 0, 0, 0, 0)), (825, 1, .iadd, (0, 0, 0, 0, 0, 0)),
  (826, 1, .iaload, (0, 0, 0, 0, 0, 0)), (827, 3, .invokevirtual 92, (193, 0, 1, 1, 4, 6)), (830, 3, .if_icmp .eq 656, (1486, 0, 0, 0, 0, 0)), (833, 1, .iconst 0, (0, 0, 0, 0, 0, 0)), (834, 1, .ireturn, (1, 0, 0, 0, 0, 0)), (835, 1, .aload_n 1, (0, 0, 0, 0, 0, 0)),
  (836, 1, .aload_n 0, (0, 0, 0, 0, 0, 0)), (837, 1, .iload_n 3, (0, 0, 0, 0, 0, 0)), (838, 1, .iconst 1, (0, 0, 0, 0, 0, 0)), (839, 1, .iadd, (0, 0, 0, 0, 0, 0)), (840, 1, .iaload, (0, 0, 0, 0, 0, 0)), (841, 3, .invokevirtual 93, (88, 0, 1, 1, 2, 5)),
  (844, 1, .aload_n 2, (0, 0, 0, 0, 0, 0)), (845, 1, .aload_n 0, (0, 0, 0, 0, 0, 0)), (846, 1, .iload_n 3, (0, 0, 0, 0, 0, 0)), (847, 1, .iconst 1, (0, 0, 0, 0, 0, 0)), (848, 1, .iadd, (0, 0, 0, 0, 0, 0)), (849, 1, .iaload, (0, 0, 0, 0, 0, 0))]
def z_L_law_11 : List zI := [
  (850, 3, .invokevirtual 96, (195, 0, 1, 1, 2, 6)), (853, 3, .if_icmp .eq 633, (1486, 0, 0, 0, 0, 0)), (856, 1, .iconst 0, (0, 0, 0, 0, 0, 0)), (857, 1, .ireturn, (1, 0, 0, 0, 0, 0)), (858, 1, .aload_n 1, (0, 0, 0, 0, 0, 0)), (859, 1, .aload_n 0, (0, 0, 0, 0, 0, 0)),
  (860, 1, .iload_n 3, (0, 0, 0, 0, 0, 0)), (861, 1, .iconst 1, (0, 0, 0, 0, 0, 0)), (862, 1, .iadd, (0, 0, 0, 0, 0, 0)), (863, 1, .iaload, (0, 0, 0, 0, 0, 0)), (864, 3, .invokevirtual 97, (89, 0, 1, 1, 2, 5)), (867, 1, .aload_n 2, (0, 0, 0, 0, 0, 0)),
  (868, 1, .aload_n 0, (0, 0, 0, 0, 0, 0)), (869, 1, .iload_n 3, (0, 0, 0, 0, 0, 0)), (870, 1, .iconst 1, (0, 0, 0, 0, 0, 0)), (871, 1, .iadd, (0, 0, 0, 0, 0, 0)), (872, 1, .iaload, (0, 0, 0, 0, 0, 0)), (873, 3, .invokevirtual 100, (196, 0, 1, 1, 2, 6)),
  (876, 3, .if_icmp .eq 610, (1486, 0, 0, 0, 0, 0)), (879, 1, .iconst 0, (0, 0, 0, 0, 0, 0)), (880, 1, .ireturn, (1, 0, 0, 0, 0, 0)), (881, 1, .aload_n 1, (0, 0, 0, 0, 0, 0)), (882, 1, .aload_n 0, (0, 0, 0, 0, 0, 0)), (883, 1, .iload_n 3, (0, 0, 0, 0, 0, 0)),
  (884, 1, .iconst 1, (0, 0, 0, 0, 0, 0)), (885, 1, .iadd, (0, 0, 0, 0, 0, 0)), (886, 1, .iaload, (0, 0, 0, 0, 0, 0)), (887, 1, .aload_n 0, (0, 0, 0, 0, 0, 0)), (888, 1, .iload_n 3, (0, 0, 0, 0, 0, 0)), (889, 1, .iconst 2, (0, 0, 0, 0, 0, 0)),
  (890, 1, .iadd, (0, 0, 0, 0, 0, 0)), (891, 1, .iaload, (0, 0, 0, 0, 0, 0)), (892, 3, .invokevirtual 101, (90, 0, 2, 1, 3, 5)), (895, 1, .aload_n 2, (0, 0, 0, 0, 0, 0)), (896, 1, .aload_n 0, (0, 0, 0, 0, 0, 0)), (897, 1, .iload_n 3, (0, 0, 0, 0, 0, 0)),
  (898, 1, .iconst 1, (0, 0, 0, 0, 0, 0)), (899, 1, .iadd, (0, 0, 0, 0, 0, 0)), (900, 1, .iaload, (0, 0, 0, 0, 0, 0)), (901, 1, .aload_n 0, (0, 0, 0, 0, 0, 0)), (902, 1, .iload_n 3, (0, 0, 0, 0, 0, 0)), (903, 1, .iconst 2, (0, 0, 0, 0, 0, 0)),
  (904, 1, .iadd, (0, 0, 0, 0, 0, 0)), (905, 1, .iaload, (0, 0, 0, 0, 0, 0)), (906, 3, .invokevirtual 104, (197, 0, 2, 1, 3, 6)), (909, 3, .if_icmp .eq 577, (1486, 0, 0, 0, 0, 0)), (912, 1, .iconst 0, (0, 0, 0, 0, 0, 0)), (913, 1, .ireturn, (1, 0, 0, 0, 0, 0))]
def z_L_law_12 : List zI := [
  (914, 1, .aload_n 1, (0, 0, 0, 0, 0, 0)), (915, 1, .aload_n 0, (0, 0, 0, 0, 0, 0)), (916, 1, .iload_n 3, (0, 0, 0, 0, 0, 0)), (917, 1, .iconst 1, (0, 0, 0, 0, 0, 0)), (918, 1, .iadd, (0, 0, 0, 0, 0, 0)), (919, 1, .iaload, (0, 0, 0, 0, 0, 0)),
  (920, 1, .aload_n 0, (0, 0, 0, 0, 0, 0)), (921, 1, .iload_n 3, (0, 0, 0, 0, 0, 0)), (922, 1, .iconst 2, (0, 0, 0, 0, 0, 0)), (923, 1, .iadd, (0, 0, 0, 0, 0, 0)), (924, 1, .iaload, (0, 0, 0, 0, 0, 0)), (925, 3, .invokevirtual 105, (91, 0, 2, 1, 3, 5)),
  (928, 1, .aload_n 2, (0, 0, 0, 0, 0, 0)), (929, 1, .aload_n 0, (0, 0, 0, 0, 0, 0)), (930, 1, .iload_n 3, (0, 0, 0, 0, 0, 0)), (931, 1, .iconst 1, (0, 0, 0, 0, 0, 0)), (932, 1, .iadd, (0, 0, 0, 0, 0, 0)), (933, 1, .iaload, (0, 0, 0, 0, 0, 0)),
  (934, 1, .aload_n 0, (0, 0, 0, 0, 0, 0)), (935, 1, .iload_n 3, (0, 0, 0, 0, 0, 0)), (936, 1, .iconst 2, (0, 0, 0, 0, 0, 0)), (937, 1, .iadd, (0, 0, 0, 0, 0, 0)), (938, 1, .iaload, (0, 0, 0, 0, 0, 0)), (939, 3, .invokevirtual 108, (198, 0, 2, 1, 3, 6)),
  (942, 3, .if_icmp .eq 544, (1486, 0, 0, 0, 0, 0)), (945, 1, .iconst 0, (0, 0, 0, 0, 0, 0)), (946, 1, .ireturn, (1, 0, 0, 0, 0, 0)), (947, 1, .aload_n 1, (0, 0, 0, 0, 0, 0)), (948, 1, .aload_n 0, (0, 0, 0, 0, 0, 0)), (949, 1, .iload_n 3, (0, 0, 0, 0, 0, 0)),
  (950, 1, .iconst 1, (0, 0, 0, 0, 0, 0)), (951, 1, .iadd, (0, 0, 0, 0, 0, 0)), (952, 1, .iaload, (0, 0, 0, 0, 0, 0)), (953, 3, .invokevirtual 109, (92, 0, 1, 1, 2, 5)), (956, 1, .aload_n 2, (0, 0, 0, 0, 0, 0)), (957, 1, .aload_n 0, (0, 0, 0, 0, 0, 0)),
  (958, 1, .iload_n 3, (0, 0, 0, 0, 0, 0)), (959, 1, .iconst 1, (0, 0, 0, 0, 0, 0)), (960, 1, .iadd, (0, 0, 0, 0, 0, 0)), (961, 1, .iaload, (0, 0, 0, 0, 0, 0)), (962, 3, .invokevirtual 112, (200, 0, 1, 1, 2, 6)), (965, 3, .if_icmp .eq 521, (1486, 0, 0, 0, 0, 0)),
  (968, 1, .iconst 0, (0, 0, 0, 0, 0, 0)), (969, 1, .ireturn, (1, 0, 0, 0, 0, 0)), (970, 1, .aload_n 1, (0, 0, 0, 0, 0, 0)), (971, 1, .aload_n 0, (0, 0, 0, 0, 0, 0)), (972, 1, .iload_n 3, (0, 0, 0, 0, 0, 0)), (973, 1, .iconst 1, (0, 0, 0, 0, 0, 0))]
def z_L_law_13 : List zI := [
  (974, 1, .iadd, (0, 0, 0, 0, 0, 0)), (975, 1, .iaload, (0, 0, 0, 0, 0, 0)), (976, 3, .invokevirtual 113, (93, 0, 1, 1, 6, 5)), (979, 1, .aload_n 2, (0, 0, 0, 0, 0, 0)), (980, 1, .aload_n 0, (0, 0, 0, 0, 0, 0)), (981, 1, .iload_n 3, (0, 0, 0, 0, 0, 0)),
  (982, 1, .iconst 1, (0, 0, 0, 0, 0, 0)), (983, 1, .iadd, (0, 0, 0, 0, 0, 0)), (984, 1, .iaload, (0, 0, 0, 0, 0, 0)), (985, 3, .invokevirtual 116, (201, 0, 1, 1, 6, 6)), (988, 3, .if_icmp .eq 498, (1486, 0, 0, 0, 0, 0)), (991, 1, .iconst 0, (0, 0, 0, 0, 0, 0)),
  (992, 1, .ireturn, (1, 0, 0, 0, 0, 0)), (993, 1, .aload_n 1, (0, 0, 0, 0, 0, 0)), (994, 1, .aload_n 0, (0, 0, 0, 0, 0, 0)), (995, 1, .iload_n 3, (0, 0, 0, 0, 0, 0)), (996, 1, .iconst 1, (0, 0, 0, 0, 0, 0)), (997, 1, .iadd, (0, 0, 0, 0, 0, 0)),
  (998, 1, .iaload, (0, 0, 0, 0, 0, 0)), (999, 1, .aload_n 0, (0, 0, 0, 0, 0, 0)), (1000, 1, .iload_n 3, (0, 0, 0, 0, 0, 0)), (1001, 1, .iconst 2, (0, 0, 0, 0, 0, 0)), (1002, 1, .iadd, (0, 0, 0, 0, 0, 0)), (1003, 1, .iaload, (0, 0, 0, 0, 0, 0)),
  (1004, 3, .invokevirtual 117, (94, 0, 2, 1, 8, 5)), (1007, 1, .aload_n 2, (0, 0, 0, 0, 0, 0)), (1008, 1, .aload_n 0, (0, 0, 0, 0, 0, 0)), (1009, 1, .iload_n 3, (0, 0, 0, 0, 0, 0)), (1010, 1, .iconst 1, (0, 0, 0, 0, 0, 0)), (1011, 1, .iadd, (0, 0, 0, 0, 0, 0)),
  (1012, 1, .iaload, (0, 0, 0, 0, 0, 0)), (1013, 1, .aload_n 0, (0, 0, 0, 0, 0, 0)), (1014, 1, .iload_n 3, (0, 0, 0, 0, 0, 0)), (1015, 1, .iconst 2, (0, 0, 0, 0, 0, 0)), (1016, 1, .iadd, (0, 0, 0, 0, 0, 0)), (1017, 1, .iaload, (0, 0, 0, 0, 0, 0)),
  (1018, 3, .invokevirtual 120, (202, 0, 2, 1, 8, 6)), (1021, 3, .if_icmp .eq 465, (1486, 0, 0, 0, 0, 0)), (1024, 1, .iconst 0, (0, 0, 0, 0, 0, 0)), (1025, 1, .ireturn, (1, 0, 0, 0, 0, 0)), (1026, 1, .aload_n 1, (0, 0, 0, 0, 0, 0)), (1027, 1, .aload_n 0, (0, 0, 0, 0, 0, 0)),
  (1028, 1, .iload_n 3, (0, 0, 0, 0, 0, 0)), (1029, 1, .iconst 1, (0, 0, 0, 0, 0, 0)), (1030, 1, .iadd, (0, 0, 0, 0, 0, 0)), (1031, 1, .iaload, (0, 0, 0, 0, 0, 0)), (1032, 1, .aload_n 0, (0, 0, 0, 0, 0, 0)), (1033, 1, .iload_n 3, (0, 0, 0, 0, 0, 0))]
def z_L_law_14 : List zI := [
  (1034, 1, .iconst 2, (0, 0, 0, 0, 0, 0)), (1035, 1, .iadd, (0, 0, 0, 0, 0, 0)), (1036, 1, .iaload, (0, 0, 0, 0, 0, 0)), (1037, 3, .invokevirtual 121, (95, 0, 2, 1, 3, 5)), (1040, 1, .aload_n 2, (0, 0, 0, 0, 0, 0)), (1041, 1, .aload_n 0, (0, 0, 0, 0, 0, 0)),
  (1042, 1, .iload_n 3, (0, 0, 0, 0, 0, 0)), (1043, 1, .iconst 1, (0, 0, 0, 0, 0, 0)), (1044, 1, .iadd, (0, 0, 0, 0, 0, 0)), (1045, 1, .iaload, (0, 0, 0, 0, 0, 0)), (1046, 1, .aload_n 0, (0, 0, 0, 0, 0, 0)), (1047, 1, .iload_n 3, (0, 0, 0, 0, 0, 0)),
  (1048, 1, .iconst 2, (0, 0, 0, 0, 0, 0)), (1049, 1, .iadd, (0, 0, 0, 0, 0, 0)), (1050, 1, .iaload, (0, 0, 0, 0, 0, 0)), (1051, 3, .invokevirtual 124, (208, 0, 2, 1, 3, 6)), (1054, 3, .if_icmp .eq 432, (1486, 0, 0, 0, 0, 0)), (1057, 1, .iconst 0, (0, 0, 0, 0, 0, 0)),
  (1058, 1, .ireturn, (1, 0, 0, 0, 0, 0)), (1059, 1, .aload_n 1, (0, 0, 0, 0, 0, 0)), (1060, 1, .aload_n 0, (0, 0, 0, 0, 0, 0)), (1061, 1, .iload_n 3, (0, 0, 0, 0, 0, 0)), (1062, 1, .iconst 1, (0, 0, 0, 0, 0, 0)), (1063, 1, .iadd, (0, 0, 0, 0, 0, 0)),
  (1064, 1, .iaload, (0, 0, 0, 0, 0, 0)), (1065, 1, .aload_n 0, (0, 0, 0, 0, 0, 0)), (1066, 1, .iload_n 3, (0, 0, 0, 0, 0, 0)), (1067, 1, .iconst 2, (0, 0, 0, 0, 0, 0)), (1068, 1, .iadd, (0, 0, 0, 0, 0, 0)), (1069, 1, .iaload, (0, 0, 0, 0, 0, 0)),
  (1070, 3, .invokevirtual 125, (96, 0, 2, 1, 3, 5)), (1073, 1, .aload_n 2, (0, 0, 0, 0, 0, 0)), (1074, 1, .aload_n 0, (0, 0, 0, 0, 0, 0)), (1075, 1, .iload_n 3, (0, 0, 0, 0, 0, 0)), (1076, 1, .iconst 1, (0, 0, 0, 0, 0, 0)), (1077, 1, .iadd, (0, 0, 0, 0, 0, 0)),
  (1078, 1, .iaload, (0, 0, 0, 0, 0, 0)), (1079, 1, .aload_n 0, (0, 0, 0, 0, 0, 0)), (1080, 1, .iload_n 3, (0, 0, 0, 0, 0, 0)), (1081, 1, .iconst 2, (0, 0, 0, 0, 0, 0)), (1082, 1, .iadd, (0, 0, 0, 0, 0, 0)), (1083, 1, .iaload, (0, 0, 0, 0, 0, 0)),
  (1084, 3, .invokevirtual 128, (209, 0, 2, 1, 3, 6)), (1087, 3, .if_icmp .eq 399, (1486, 0, 0, 0, 0, 0)), (1090, 1, .iconst 0, (0, 0, 0, 0, 0, 0)), (1091, 1, .ireturn, (1, 0, 0, 0, 0, 0)), (1092, 1, .aload_n 1, (0, 0, 0, 0, 0, 0)), (1093, 1, .aload_n 0, (0, 0, 0, 0, 0, 0))]
def z_L_law_15 : List zI := [
  (1094, 1, .iload_n 3, (0, 0, 0, 0, 0, 0)), (1095, 1, .iconst 1, (0, 0, 0, 0, 0, 0)), (1096, 1, .iadd, (0, 0, 0, 0, 0, 0)), (1097, 1, .iaload, (0, 0, 0, 0, 0, 0)), (1098, 3, .invokevirtual 129, (97, 0, 1, 1, 2, 5)), (1101, 1, .aload_n 2, (0, 0, 0, 0, 0, 0)),
  (1102, 1, .aload_n 0, (0, 0, 0, 0, 0, 0)), (1103, 1, .iload_n 3, (0, 0, 0, 0, 0, 0)), (1104, 1, .iconst 1, (0, 0, 0, 0, 0, 0)), (1105, 1, .iadd, (0, 0, 0, 0, 0, 0)), (1106, 1, .iaload, (0, 0, 0, 0, 0, 0)), (1107, 3, .invokevirtual 132, (210, 0, 1, 1, 2, 6)),
  (1110, 3, .if_icmp .eq 376, (1486, 0, 0, 0, 0, 0)), (1113, 1, .iconst 0, (0, 0, 0, 0, 0, 0)), (1114, 1, .ireturn, (1, 0, 0, 0, 0, 0)), (1115, 1, .aload_n 1, (0, 0, 0, 0, 0, 0)), (1116, 1, .aload_n 0, (0, 0, 0, 0, 0, 0)), (1117, 1, .iload_n 3, (0, 0, 0, 0, 0, 0)),
  (1118, 1, .iconst 1, (0, 0, 0, 0, 0, 0)), (1119, 1, .iadd, (0, 0, 0, 0, 0, 0)), (1120, 1, .iaload, (0, 0, 0, 0, 0, 0)), (1121, 1, .aload_n 0, (0, 0, 0, 0, 0, 0)), (1122, 1, .iload_n 3, (0, 0, 0, 0, 0, 0)), (1123, 1, .iconst 2, (0, 0, 0, 0, 0, 0)),
  (1124, 1, .iadd, (0, 0, 0, 0, 0, 0)), (1125, 1, .iaload, (0, 0, 0, 0, 0, 0)), (1126, 3, .invokevirtual 133, (98, 0, 2, 1, 4, 5)), (1129, 1, .aload_n 2, (0, 0, 0, 0, 0, 0)), (1130, 1, .aload_n 0, (0, 0, 0, 0, 0, 0)), (1131, 1, .iload_n 3, (0, 0, 0, 0, 0, 0)),
  (1132, 1, .iconst 1, (0, 0, 0, 0, 0, 0)), (1133, 1, .iadd, (0, 0, 0, 0, 0, 0)), (1134, 1, .iaload, (0, 0, 0, 0, 0, 0)), (1135, 1, .aload_n 0, (0, 0, 0, 0, 0, 0)), (1136, 1, .iload_n 3, (0, 0, 0, 0, 0, 0)), (1137, 1, .iconst 2, (0, 0, 0, 0, 0, 0)),
  (1138, 1, .iadd, (0, 0, 0, 0, 0, 0)), (1139, 1, .iaload, (0, 0, 0, 0, 0, 0)), (1140, 3, .invokevirtual 136, (212, 0, 2, 1, 3, 6)), (1143, 3, .if_icmp .eq 343, (1486, 0, 0, 0, 0, 0)), (1146, 1, .iconst 0, (0, 0, 0, 0, 0, 0)), (1147, 1, .ireturn, (1, 0, 0, 0, 0, 0)),
  (1148, 1, .aload_n 1, (0, 0, 0, 0, 0, 0)), (1149, 1, .aload_n 0, (0, 0, 0, 0, 0, 0)), (1150, 1, .iload_n 3, (0, 0, 0, 0, 0, 0)), (1151, 1, .iconst 1, (0, 0, 0, 0, 0, 0)), (1152, 1, .iadd, (0, 0, 0, 0, 0, 0)), (1153, 1, .iaload, (0, 0, 0, 0, 0, 0))]
def z_L_law_16 : List zI := [
  (1154, 1, .aload_n 0, (0, 0, 0, 0, 0, 0)), (1155, 1, .iload_n 3, (0, 0, 0, 0, 0, 0)), (1156, 1, .iconst 2, (0, 0, 0, 0, 0, 0)), (1157, 1, .iadd, (0, 0, 0, 0, 0, 0)), (1158, 1, .iaload, (0, 0, 0, 0, 0, 0)), (1159, 1, .aload_n 0, (0, 0, 0, 0, 0, 0)),
  (1160, 1, .iload_n 3, (0, 0, 0, 0, 0, 0)), (1161, 1, .iconst 3, (0, 0, 0, 0, 0, 0)), (1162, 1, .iadd, (0, 0, 0, 0, 0, 0)), (1163, 1, .iaload, (0, 0, 0, 0, 0, 0)), (1164, 3, .invokevirtual 137, (99, 0, 3, 1, 4, 5)), (1167, 1, .aload_n 2, (0, 0, 0, 0, 0, 0)),
  (1168, 1, .aload_n 0, (0, 0, 0, 0, 0, 0)), (1169, 1, .iload_n 3, (0, 0, 0, 0, 0, 0)), (1170, 1, .iconst 1, (0, 0, 0, 0, 0, 0)), (1171, 1, .iadd, (0, 0, 0, 0, 0, 0)), (1172, 1, .iaload, (0, 0, 0, 0, 0, 0)), (1173, 1, .aload_n 0, (0, 0, 0, 0, 0, 0)),
  (1174, 1, .iload_n 3, (0, 0, 0, 0, 0, 0)), (1175, 1, .iconst 2, (0, 0, 0, 0, 0, 0)), (1176, 1, .iadd, (0, 0, 0, 0, 0, 0)), (1177, 1, .iaload, (0, 0, 0, 0, 0, 0)), (1178, 1, .aload_n 0, (0, 0, 0, 0, 0, 0)), (1179, 1, .iload_n 3, (0, 0, 0, 0, 0, 0)),
  (1180, 1, .iconst 3, (0, 0, 0, 0, 0, 0)), (1181, 1, .iadd, (0, 0, 0, 0, 0, 0)), (1182, 1, .iaload, (0, 0, 0, 0, 0, 0)), (1183, 3, .invokevirtual 140, (214, 0, 3, 1, 5, 6)), (1186, 3, .if_icmp .eq 300, (1486, 0, 0, 0, 0, 0)), (1189, 1, .iconst 0, (0, 0, 0, 0, 0, 0)),
  (1190, 1, .ireturn, (1, 0, 0, 0, 0, 0)), (1191, 1, .aload_n 1, (0, 0, 0, 0, 0, 0)), (1192, 1, .aload_n 0, (0, 0, 0, 0, 0, 0)), (1193, 1, .iload_n 3, (0, 0, 0, 0, 0, 0)), (1194, 1, .iconst 1, (0, 0, 0, 0, 0, 0)), (1195, 1, .iadd, (0, 0, 0, 0, 0, 0)),
  (1196, 1, .iaload, (0, 0, 0, 0, 0, 0)), (1197, 3, .invokevirtual 141, (100, 0, 1, 1, 3, 5)), (1200, 1, .aload_n 2, (0, 0, 0, 0, 0, 0)), (1201, 1, .aload_n 0, (0, 0, 0, 0, 0, 0)), (1202, 1, .iload_n 3, (0, 0, 0, 0, 0, 0)), (1203, 1, .iconst 1, (0, 0, 0, 0, 0, 0)),
  (1204, 1, .iadd, (0, 0, 0, 0, 0, 0)), (1205, 1, .iaload, (0, 0, 0, 0, 0, 0)), (1206, 3, .invokevirtual 144, (216, 0, 1, 1, 4, 6)), (1209, 3, .if_icmp .eq 277, (1486, 0, 0, 0, 0, 0)), (1212, 1, .iconst 0, (0, 0, 0, 0, 0, 0)), (1213, 1, .ireturn, (1, 0, 0, 0, 0, 0))]
def z_L_law_17 : List zI := [
  (1214, 1, .aload_n 1, (0, 0, 0, 0, 0, 0)), (1215, 3, .invokevirtual 145, (101, 0, 0, 1, 3, 5)), (1218, 1, .aload_n 2, (0, 0, 0, 0, 0, 0)), (1219, 3, .invokevirtual 149, (218, 0, 0, 1, 4, 6)), (1222, 3, .if_icmp .eq 264, (1486, 0, 0, 0, 0, 0)), (1225, 1, .iconst 0, (0, 0, 0, 0, 0, 0)),
  (1226, 1, .ireturn, (1, 0, 0, 0, 0, 0)), (1227, 1, .aload_n 1, (0, 0, 0, 0, 0, 0)), (1228, 1, .aload_n 0, (0, 0, 0, 0, 0, 0)), (1229, 1, .iload_n 3, (0, 0, 0, 0, 0, 0)), (1230, 1, .iconst 1, (0, 0, 0, 0, 0, 0)), (1231, 1, .iadd, (0, 0, 0, 0, 0, 0)),
  (1232, 1, .iaload, (0, 0, 0, 0, 0, 0)), (1233, 1, .aload_n 0, (0, 0, 0, 0, 0, 0)), (1234, 1, .iload_n 3, (0, 0, 0, 0, 0, 0)), (1235, 1, .iconst 2, (0, 0, 0, 0, 0, 0)), (1236, 1, .iadd, (0, 0, 0, 0, 0, 0)), (1237, 1, .iaload, (0, 0, 0, 0, 0, 0)),
  (1238, 3, .invokevirtual 150, (102, 0, 2, 1, 7, 5)), (1241, 1, .aload_n 2, (0, 0, 0, 0, 0, 0)), (1242, 1, .aload_n 0, (0, 0, 0, 0, 0, 0)), (1243, 1, .iload_n 3, (0, 0, 0, 0, 0, 0)), (1244, 1, .iconst 1, (0, 0, 0, 0, 0, 0)), (1245, 1, .iadd, (0, 0, 0, 0, 0, 0)),
  (1246, 1, .iaload, (0, 0, 0, 0, 0, 0)), (1247, 1, .aload_n 0, (0, 0, 0, 0, 0, 0)), (1248, 1, .iload_n 3, (0, 0, 0, 0, 0, 0)), (1249, 1, .iconst 2, (0, 0, 0, 0, 0, 0)), (1250, 1, .iadd, (0, 0, 0, 0, 0, 0)), (1251, 1, .iaload, (0, 0, 0, 0, 0, 0)),
  (1252, 3, .invokevirtual 153, (219, 0, 2, 1, 7, 6)), (1255, 3, .if_icmp .eq 231, (1486, 0, 0, 0, 0, 0)), (1258, 1, .iconst 0, (0, 0, 0, 0, 0, 0)), (1259, 1, .ireturn, (1, 0, 0, 0, 0, 0)), (1260, 1, .aload_n 1, (0, 0, 0, 0, 0, 0)), (1261, 1, .aload_n 0, (0, 0, 0, 0, 0, 0)),
  (1262, 1, .iload_n 3, (0, 0, 0, 0, 0, 0)), (1263, 1, .iconst 1, (0, 0, 0, 0, 0, 0)), (1264, 1, .iadd, (0, 0, 0, 0, 0, 0)), (1265, 1, .iaload, (0, 0, 0, 0, 0, 0)), (1266, 1, .aload_n 0, (0, 0, 0, 0, 0, 0)), (1267, 1, .iload_n 3, (0, 0, 0, 0, 0, 0)),
  (1268, 1, .iconst 2, (0, 0, 0, 0, 0, 0)), (1269, 1, .iadd, (0, 0, 0, 0, 0, 0)), (1270, 1, .iaload, (0, 0, 0, 0, 0, 0)), (1271, 3, .invokevirtual 154, (103, 0, 2, 1, 8, 5)), (1274, 1, .aload_n 2, (0, 0, 0, 0, 0, 0)), (1275, 1, .aload_n 0, (0, 0, 0, 0, 0, 0))]
def z_L_law_18 : List zI := [
  (1276, 1, .iload_n 3, (0, 0, 0, 0, 0, 0)), (1277, 1, .iconst 1, (0, 0, 0, 0, 0, 0)), (1278, 1, .iadd, (0, 0, 0, 0, 0, 0)), (1279, 1, .iaload, (0, 0, 0, 0, 0, 0)), (1280, 1, .aload_n 0, (0, 0, 0, 0, 0, 0)), (1281, 1, .iload_n 3, (0, 0, 0, 0, 0, 0)),
  (1282, 1, .iconst 2, (0, 0, 0, 0, 0, 0)), (1283, 1, .iadd, (0, 0, 0, 0, 0, 0)), (1284, 1, .iaload, (0, 0, 0, 0, 0, 0)), (1285, 3, .invokevirtual 157, (222, 0, 2, 1, 8, 6)), (1288, 3, .if_icmp .eq 198, (1486, 0, 0, 0, 0, 0)), (1291, 1, .iconst 0, (0, 0, 0, 0, 0, 0)),
  (1292, 1, .ireturn, (1, 0, 0, 0, 0, 0)), (1293, 1, .aload_n 1, (0, 0, 0, 0, 0, 0)), (1294, 1, .aload_n 0, (0, 0, 0, 0, 0, 0)), (1295, 1, .iload_n 3, (0, 0, 0, 0, 0, 0)), (1296, 1, .iconst 1, (0, 0, 0, 0, 0, 0)), (1297, 1, .iadd, (0, 0, 0, 0, 0, 0)),
  (1298, 1, .iaload, (0, 0, 0, 0, 0, 0)), (1299, 3, .invokevirtual 158, (104, 0, 1, 1, 4, 5)), (1302, 1, .aload_n 2, (0, 0, 0, 0, 0, 0)), (1303, 1, .aload_n 0, (0, 0, 0, 0, 0, 0)), (1304, 1, .iload_n 3, (0, 0, 0, 0, 0, 0)), (1305, 1, .iconst 1, (0, 0, 0, 0, 0, 0)),
  (1306, 1, .iadd, (0, 0, 0, 0, 0, 0)), (1307, 1, .iaload, (0, 0, 0, 0, 0, 0)), (1308, 3, .invokevirtual 161, (225, 0, 1, 1, 5, 6)), (1311, 3, .if_icmp .eq 175, (1486, 0, 0, 0, 0, 0)), (1314, 1, .iconst 0, (0, 0, 0, 0, 0, 0)), (1315, 1, .ireturn, (1, 0, 0, 0, 0, 0)),
  (1316, 1, .aload_n 1, (0, 0, 0, 0, 0, 0)), (1317, 1, .aload_n 0, (0, 0, 0, 0, 0, 0)), (1318, 1, .iload_n 3, (0, 0, 0, 0, 0, 0)), (1319, 1, .iconst 1, (0, 0, 0, 0, 0, 0)), (1320, 1, .iadd, (0, 0, 0, 0, 0, 0)), (1321, 1, .iaload, (0, 0, 0, 0, 0, 0)),
  (1322, 3, .invokevirtual 162, (105, 0, 1, 1, 5, 5)), (1325, 1, .aload_n 2, (0, 0, 0, 0, 0, 0)), (1326, 1, .aload_n 0, (0, 0, 0, 0, 0, 0)), (1327, 1, .iload_n 3, (0, 0, 0, 0, 0, 0)), (1328, 1, .iconst 1, (0, 0, 0, 0, 0, 0)), (1329, 1, .iadd, (0, 0, 0, 0, 0, 0)),
  (1330, 1, .iaload, (0, 0, 0, 0, 0, 0)), (1331, 3, .invokevirtual 165, (226, 0, 1, 1, 13, 6)), (1334, 3, .if_icmp .eq 152, (1486, 0, 0, 0, 0, 0)), (1337, 1, .iconst 0, (0, 0, 0, 0, 0, 0)), (1338, 1, .ireturn, (1, 0, 0, 0, 0, 0)), (1339, 1, .aload_n 1, (0, 0, 0, 0, 0, 0))]
def z_L_law_19 : List zI := [
  (1340, 1, .aload_n 0, (0, 0, 0, 0, 0, 0)), (1341, 1, .iload_n 3, (0, 0, 0, 0, 0, 0)), (1342, 1, .iconst 1, (0, 0, 0, 0, 0, 0)), (1343, 1, .iadd, (0, 0, 0, 0, 0, 0)), (1344, 1, .iaload, (0, 0, 0, 0, 0, 0)), (1345, 1, .aload_n 0, (0, 0, 0, 0, 0, 0)),
  (1346, 1, .iload_n 3, (0, 0, 0, 0, 0, 0)), (1347, 1, .iconst 2, (0, 0, 0, 0, 0, 0)), (1348, 1, .iadd, (0, 0, 0, 0, 0, 0)), (1349, 1, .iaload, (0, 0, 0, 0, 0, 0)), (1350, 3, .invokevirtual 166, (106, 0, 2, 1, 7, 5)), (1353, 1, .aload_n 2, (0, 0, 0, 0, 0, 0)),
  (1354, 1, .aload_n 0, (0, 0, 0, 0, 0, 0)), (1355, 1, .iload_n 3, (0, 0, 0, 0, 0, 0)), (1356, 1, .iconst 1, (0, 0, 0, 0, 0, 0)), (1357, 1, .iadd, (0, 0, 0, 0, 0, 0)), (1358, 1, .iaload, (0, 0, 0, 0, 0, 0)), (1359, 1, .aload_n 0, (0, 0, 0, 0, 0, 0)),
  (1360, 1, .iload_n 3, (0, 0, 0, 0, 0, 0)), (1361, 1, .iconst 2, (0, 0, 0, 0, 0, 0)), (1362, 1, .iadd, (0, 0, 0, 0, 0, 0)), (1363, 1, .iaload, (0, 0, 0, 0, 0, 0)), (1364, 3, .invokevirtual 169, (227, 0, 2, 1, 7, 6)), (1367, 3, .if_icmp .eq 119, (1486, 0, 0, 0, 0, 0)),
  (1370, 1, .iconst 0, (0, 0, 0, 0, 0, 0)), (1371, 1, .ireturn, (1, 0, 0, 0, 0, 0)), (1372, 1, .aload_n 1, (0, 0, 0, 0, 0, 0)), (1373, 3, .invokevirtual 170, (107, 0, 0, 1, 1, 5)), (1376, 1, .aload_n 2, (0, 0, 0, 0, 0, 0)), (1377, 3, .invokevirtual 173, (228, 0, 0, 1, 1, 6)),
  (1380, 3, .if_icmp .eq 106, (1486, 0, 0, 0, 0, 0)), (1383, 1, .iconst 0, (0, 0, 0, 0, 0, 0)), (1384, 1, .ireturn, (1, 0, 0, 0, 0, 0)), (1385, 1, .aload_n 1, (0, 0, 0, 0, 0, 0)), (1386, 3, .invokevirtual 174, (108, 0, 0, 2, 1, 5)), (1389, 1, .aload_n 2, (0, 0, 0, 0, 0, 0)),
  (1390, 3, .invokevirtual 178, (229, 0, 0, 2, 1, 6)), (1393, 1, .lcmp, (0, 0, 0, 0, 0, 0)), (1394, 3, .ifCond .eq 92, (1486, 0, 0, 0, 0, 0)), (1397, 1, .iconst 0, (0, 0, 0, 0, 0, 0)), (1398, 1, .ireturn, (1, 0, 0, 0, 0, 0)), (1399, 1, .aload_n 1, (0, 0, 0, 0, 0, 0)),
  (1400, 3, .invokevirtual 179, (109, 0, 0, 2, 1, 5)), (1403, 1, .aload_n 2, (0, 0, 0, 0, 0, 0)), (1404, 3, .invokevirtual 182, (230, 0, 0, 2, 1, 6)), (1407, 1, .lcmp, (0, 0, 0, 0, 0, 0)), (1408, 3, .ifCond .eq 78, (1486, 0, 0, 0, 0, 0)), (1411, 1, .iconst 0, (0, 0, 0, 0, 0, 0))]
def z_L_law_20 : List zI := [
  (1412, 1, .ireturn, (1, 0, 0, 0, 0, 0)), (1413, 1, .aload_n 1, (0, 0, 0, 0, 0, 0)), (1414, 1, .aload_n 0, (0, 0, 0, 0, 0, 0)), (1415, 1, .iload_n 3, (0, 0, 0, 0, 0, 0)), (1416, 1, .iconst 1, (0, 0, 0, 0, 0, 0)), (1417, 1, .iadd, (0, 0, 0, 0, 0, 0)),
  (1418, 1, .iaload, (0, 0, 0, 0, 0, 0)), (1419, 3, .invokevirtual 183, (110, 0, 1, 1, 2, 5)), (1422, 1, .aload_n 2, (0, 0, 0, 0, 0, 0)), (1423, 1, .aload_n 0, (0, 0, 0, 0, 0, 0)), (1424, 1, .iload_n 3, (0, 0, 0, 0, 0, 0)), (1425, 1, .iconst 1, (0, 0, 0, 0, 0, 0)),
  (1426, 1, .iadd, (0, 0, 0, 0, 0, 0)), (1427, 1, .iaload, (0, 0, 0, 0, 0, 0)), (1428, 3, .invokevirtual 186, (235, 0, 1, 1, 2, 6)), (1431, 3, .if_icmp .eq 55, (1486, 0, 0, 0, 0, 0)), (1434, 1, .iconst 0, (0, 0, 0, 0, 0, 0)), (1435, 1, .ireturn, (1, 0, 0, 0, 0, 0)),
  (1436, 1, .aload_n 1, (0, 0, 0, 0, 0, 0)), (1437, 3, .invokevirtual 187, (111, 0, 0, 1, 1, 5)), (1440, 1, .aload_n 2, (0, 0, 0, 0, 0, 0)), (1441, 3, .invokevirtual 190, (236, 0, 0, 1, 1, 6)), (1444, 3, .if_icmp .eq 42, (1486, 0, 0, 0, 0, 0)), (1447, 1, .iconst 0, (0, 0, 0, 0, 0, 0)),
  (1448, 1, .ireturn, (1, 0, 0, 0, 0, 0)), (1449, 1, .aload_n 1, (0, 0, 0, 0, 0, 0)), (1450, 1, .aload_n 0, (0, 0, 0, 0, 0, 0)), (1451, 1, .iload_n 3, (0, 0, 0, 0, 0, 0)), (1452, 1, .iconst 1, (0, 0, 0, 0, 0, 0)), (1453, 1, .iadd, (0, 0, 0, 0, 0, 0)),
  (1454, 1, .iaload, (0, 0, 0, 0, 0, 0)), (1455, 3, .invokevirtual 191, (112, 0, 1, 1, 2, 5)), (1458, 1, .aload_n 2, (0, 0, 0, 0, 0, 0)), (1459, 1, .aload_n 0, (0, 0, 0, 0, 0, 0)), (1460, 1, .iload_n 3, (0, 0, 0, 0, 0, 0)), (1461, 1, .iconst 1, (0, 0, 0, 0, 0, 0)),
  (1462, 1, .iadd, (0, 0, 0, 0, 0, 0)), (1463, 1, .iaload, (0, 0, 0, 0, 0, 0)), (1464, 3, .invokevirtual 194, (237, 0, 1, 1, 2, 6)), (1467, 3, .if_icmp .eq 19, (1486, 0, 0, 0, 0, 0)), (1470, 1, .iconst 0, (0, 0, 0, 0, 0, 0)), (1471, 1, .ireturn, (1, 0, 0, 0, 0, 0)),
  (1472, 1, .aload_n 1, (0, 0, 0, 0, 0, 0)), (1473, 3, .invokevirtual 195, (113, 0, 0, 2, 5, 5)), (1476, 1, .aload_n 2, (0, 0, 0, 0, 0, 0)), (1477, 3, .invokevirtual 198, (238, 0, 0, 2, 5, 6)), (1480, 1, .lcmp, (0, 0, 0, 0, 0, 0)), (1481, 3, .ifCond .eq 5, (1486, 0, 0, 0, 0, 0))]
def z_L_law_21 : List zI := [
  (1484, 1, .iconst 0, (0, 0, 0, 0, 0, 0)), (1485, 1, .ireturn, (1, 0, 0, 0, 0, 0)), (1486, 3, .iinc 3 6, (0, 0, 0, 0, 0, 0)), (1489, 3, .goto (-1471), (18, 0, 0, 0, 0, 0)), (1492, 1, .iconst 1, (0, 0, 0, 0, 0, 0)), (1493, 1, .ireturn, (1, 0, 0, 0, 0, 0))]
def z_L_law : List zI := z_L_law_0 ++ (z_L_law_1 ++ (z_L_law_2 ++ (z_L_law_3 ++ (z_L_law_4 ++ (z_L_law_5 ++ (z_L_law_6 ++ (z_L_law_7 ++ (z_L_law_8 ++ (z_L_law_9 ++ (z_L_law_10 ++ (z_L_law_11 ++ (z_L_law_12 ++ (z_L_law_13 ++ (z_L_law_14 ++ (z_L_law_15 ++ (z_L_law_16 ++ (z_L_law_17 ++ (z_L_law_18 ++ (z_L_law_19 ++ (z_L_law_20 ++ (z_L_law_21)))))))))))))))))))))
def z_X0_init : List zI := [
  (0, 1, .aload_n 0, (0, 0, 0, 0, 0, 0)), (1, 3, .invokespecial 3, (0, 4, 0, 0, 0, 0)), (4, 1, .aload_n 0, (0, 0, 0, 0, 0, 0)), (5, 2, .bipush 6, (0, 0, 0, 0, 0, 0)), (7, 2, .newarray .int, (0, 0, 0, 0, 0, 0)), (9, 3, .putfield 9, (0, 1, 2, 0, 0, 0)),
  (12, 1, .aload_n 0, (0, 0, 0, 0, 0, 0)), (13, 2, .bipush 7, (0, 0, 0, 0, 0, 0)), (15, 2, .newarray .int, (0, 0, 0, 0, 0, 0)), (17, 3, .putfield 15, (0, 2, 2, 0, 0, 0)), (20, 1, .aload_n 0, (0, 0, 0, 0, 0, 0)), (21, 2, .bipush 6, (0, 0, 0, 0, 0, 0)),
  (23, 2, .newarray .int, (0, 0, 0, 0, 0, 0)), (25, 3, .putfield 18, (0, 3, 2, 0, 0, 0)), (28, 1, .aload_n 0, (0, 0, 0, 0, 0, 0)), (29, 2, .bipush 6, (0, 0, 0, 0, 0, 0)), (31, 2, .newarray .int, (0, 0, 0, 0, 0, 0)), (33, 3, .putfield 21, (0, 4, 2, 0, 0, 0)),
  (36, 1, .aload_n 0, (0, 0, 0, 0, 0, 0)), (37, 1, .aload_n 1, (0, 0, 0, 0, 0, 0)), (38, 3, .invokevirtual 24, (2, 0, 1, 0, 2, 0)), (41, 1, .return_, (0, 0, 0, 0, 0, 0))]
def z_X0_begin : List zI := [
  (0, 1, .aload_n 0, (0, 0, 0, 0, 0, 0)), (1, 1, .aload_n 1, (0, 0, 0, 0, 0, 0)), (2, 3, .putfield 28, (0, 0, 2, 0, 0, 0)), (5, 1, .aload_n 1, (0, 0, 0, 0, 0, 0)), (6, 3, .getfield 32, (1, 4, 2, 1, 0, 0)), (9, 1, .iconst 0, (0, 0, 0, 0, 0, 0)),
  (10, 1, .aload_n 0, (0, 0, 0, 0, 0, 0)), (11, 3, .getfield 18, (0, 3, 2, 0, 0, 0)), (14, 1, .iconst 0, (0, 0, 0, 0, 0, 0)), (15, 2, .bipush 6, (0, 0, 0, 0, 0, 0)), (17, 3, .invokestatic 37, (0, 3, 0, 0, 0, 0)), (20, 1, .aload_n 0, (0, 0, 0, 0, 0, 0)),
  (21, 3, .getfield 21, (0, 4, 2, 0, 0, 0)), (24, 1, .iconst 0, (0, 0, 0, 0, 0, 0)), (25, 3, .invokestatic 43, (240, 2, 2, 0, 4, 0)), (28, 1, .aload_n 0, (0, 0, 0, 0, 0, 0)), (29, 3, .invokevirtual 49, (15, 0, 0, 0, 2, 0)), (32, 1, .return_, (0, 0, 0, 0, 0, 0))]
def z_X0_copyFrom : List zI := [
  (0, 1, .aload_n 0, (0, 0, 0, 0, 0, 0)), (1, 1, .aload_n 1, (0, 0, 0, 0, 0, 0)), (2, 3, .getfield 28, (0, 0, 2, 0, 0, 0)), (5, 3, .putfield 28, (0, 0, 2, 0, 0, 0)), (8, 1, .aload_n 1, (0, 0, 0, 0, 0, 0)), (9, 3, .getfield 9, (0, 1, 2, 0, 0, 0)),
  (12, 1, .iconst 0, (0, 0, 0, 0, 0, 0)), (13, 1, .aload_n 0, (0, 0, 0, 0, 0, 0)), (14, 3, .getfield 9, (0, 1, 2, 0, 0, 0)), (17, 1, .iconst 0, (0, 0, 0, 0, 0, 0)), (18, 2, .bipush 6, (0, 0, 0, 0, 0, 0)), (20, 3, .invokestatic 37, (0, 3, 0, 0, 0, 0)),
  (23, 1, .aload_n 1, (0, 0, 0, 0, 0, 0)), (24, 3, .getfield 15, (0, 2, 2, 0, 0, 0)), (27, 1, .iconst 0, (0, 0, 0, 0, 0, 0)), (28, 1, .aload_n 0, (0, 0, 0, 0, 0, 0)), (29, 3, .getfield 15, (0, 2, 2, 0, 0, 0)), (32, 1, .iconst 0, (0, 0, 0, 0, 0, 0)),
  (33, 2, .bipush 7, (0, 0, 0, 0, 0, 0)), (35, 3, .invokestatic 37, (0, 3, 0, 0, 0, 0)), (38, 1, .aload_n 1, (0, 0, 0, 0, 0, 0)), (39, 3, .getfield 18, (0, 3, 2, 0, 0, 0)), (42, 1, .iconst 0, (0, 0, 0, 0, 0, 0)), (43, 1, .aload_n 0, (0, 0, 0, 0, 0, 0)),
  (44, 3, .getfield 18, (0, 3, 2, 0, 0, 0)), (47, 1, .iconst 0, (0, 0, 0, 0, 0, 0)), (48, 2, .bipush 6, (0, 0, 0, 0, 0, 0)), (50, 3, .invokestatic 37, (0, 3, 0, 0, 0, 0)), (53, 1, .aload_n 1, (0, 0, 0, 0, 0, 0)), (54, 3, .getfield 21, (0, 4, 2, 0, 0, 0)),
  (57, 1, .iconst 0, (0, 0, 0, 0, 0, 0)), (58, 1, .aload_n 0, (0, 0, 0, 0, 0, 0)), (59, 3, .getfield 21, (0, 4, 2, 0, 0, 0)), (62, 1, .iconst 0, (0, 0, 0, 0, 0, 0)), (63, 2, .bipush 6, (0, 0, 0, 0, 0, 0)), (65, 3, .invokestatic 37, (0, 3, 0, 0, 0, 0)),
  (68, 1, .return_, (0, 0, 0, 0, 0, 0))]
def z_X0_manDetail : List zI := [
  (0, 1, .iload_n 2, (0, 0, 0, 0, 0, 0)), (1, 35, .tableswitch 79 0 4 #[35, 45, 52, 62, 72], (0, 0, 0, 0, 0, 0)), (36, 1, .aload_n 0, (0, 0, 0, 0, 0, 0)), (37, 3, .getfield 28, (0, 0, 2, 0, 0, 0)), (40, 3, .getfield 52, (1, 3, 2, 1, 0, 0)), (43, 1, .iload_n 1, (0, 0, 0, 0, 0, 0)),
  (44, 1, .iaload, (0, 0, 0, 0, 0, 0)), (45, 1, .ireturn, (0, 0, 0, 0, 0, 0)), (46, 1, .aload_n 0, (0, 0, 0, 0, 0, 0)), (47, 3, .getfield 18, (0, 3, 2, 0, 0, 0)), (50, 1, .iload_n 1, (0, 0, 0, 0, 0, 0)), (51, 1, .iaload, (0, 0, 0, 0, 0, 0)),
  (52, 1, .ireturn, (0, 0, 0, 0, 0, 0)), (53, 1, .aload_n 0, (0, 0, 0, 0, 0, 0)), (54, 3, .getfield 28, (0, 0, 2, 0, 0, 0)), (57, 3, .getfield 55, (1, 5, 2, 1, 0, 0)), (60, 1, .iload_n 1, (0, 0, 0, 0, 0, 0)), (61, 1, .iaload, (0, 0, 0, 0, 0, 0)),
  (62, 1, .ireturn, (0, 0, 0, 0, 0, 0)), (63, 1, .aload_n 0, (0, 0, 0, 0, 0, 0)), (64, 3, .getfield 28, (0, 0, 2, 0, 0, 0)), (67, 3, .getfield 58, (1, 6, 2, 1, 0, 0)), (70, 1, .iload_n 1, (0, 0, 0, 0, 0, 0)), (71, 1, .iaload, (0, 0, 0, 0, 0, 0)),
  (72, 1, .ireturn, (0, 0, 0, 0, 0, 0)), (73, 1, .aload_n 0, (0, 0, 0, 0, 0, 0)), (74, 3, .getfield 9, (0, 1, 2, 0, 0, 0)), (77, 1, .iload_n 1, (0, 0, 0, 0, 0, 0)), (78, 1, .iaload, (0, 0, 0, 0, 0, 0)), (79, 1, .ireturn, (0, 0, 0, 0, 0, 0)),
  (80, 1, .aload_n 0, (0, 0, 0, 0, 0, 0)), (81, 3, .getfield 21, (0, 4, 2, 0, 0, 0)), (84, 1, .iload_n 1, (0, 0, 0, 0, 0, 0)), (85, 1, .iaload, (0, 0, 0, 0, 0, 0)), (86, 1, .ireturn, (0, 0, 0, 0, 0, 0))]
def z_X0_hookDetail : List zI := [
  (0, 1, .iload_n 2, (0, 0, 0, 0, 0, 0)), (1, 3, .ifCond .ne 15, (16, 0, 0, 0, 0, 0)), (4, 1, .aload_n 0, (0, 0, 0, 0, 0, 0)), (5, 3, .getfield 28, (0, 0, 2, 0, 0, 0)), (8, 3, .getfield 61, (1, 2, 2, 1, 0, 0)), (11, 1, .iload_n 1, (0, 0, 0, 0, 0, 0)),
  (12, 1, .iaload, (0, 0, 0, 0, 0, 0)), (13, 3, .goto 9, (22, 0, 0, 0, 0, 0)), (16, 1, .aload_n 0, (0, 0, 0, 0, 0, 0)), (17, 3, .getfield 15, (0, 2, 2, 0, 0, 0)), (20, 1, .iload_n 1, (0, 0, 0, 0, 0, 0)), (21, 1, .iaload, (0, 0, 0, 0, 0, 0)),
  (22, 1, .ireturn, (0, 0, 0, 0, 0, 0))]
def z_X0_tiredTogether : List zI := [
  (0, 1, .iconst 0, (0, 0, 0, 0, 0, 0)), (1, 1, .istore_n 1, (0, 0, 0, 0, 0, 0)), (2, 1, .iconst 0, (0, 0, 0, 0, 0, 0)), (3, 1, .istore_n 2, (0, 0, 0, 0, 0, 0)), (4, 1, .iload_n 2, (0, 0, 0, 0, 0, 0)), (5, 1, .aload_n 0, (0, 0, 0, 0, 0, 0)),
  (6, 3, .getfield 28, (0, 0, 2, 0, 0, 0)), (9, 3, .getfield 64, (1, 1, 0, 1, 0, 0)), (12, 3, .if_icmp .ge 18, (30, 0, 0, 0, 0, 0)), (15, 1, .iload_n 1, (0, 0, 0, 0, 0, 0)), (16, 1, .aload_n 0, (0, 0, 0, 0, 0, 0)), (17, 3, .getfield 21, (0, 4, 2, 0, 0, 0)),
  (20, 1, .iload_n 2, (0, 0, 0, 0, 0, 0)), (21, 1, .iaload, (0, 0, 0, 0, 0, 0)), (22, 1, .iadd, (0, 0, 0, 0, 0, 0)), (23, 1, .istore_n 1, (0, 0, 0, 0, 0, 0)), (24, 3, .iinc 2 1, (0, 0, 0, 0, 0, 0)), (27, 3, .goto (-23), (4, 0, 0, 0, 0, 0)),
  (30, 1, .iload_n 1, (0, 0, 0, 0, 0, 0)), (31, 1, .ireturn, (0, 0, 0, 0, 0, 0))]
def z_X0_writeTo : List zI := [
  (0, 1, .iload_n 2, (0, 0, 0, 0, 0, 0)), (1, 3, .ifCond .lt 12, (13, 0, 0, 0, 0, 0)), (4, 1, .iload_n 2, (0, 0, 0, 0, 0, 0)), (5, 1, .aload_n 1, (0, 0, 0, 0, 0, 0)), (6, 1, .arraylength, (0, 0, 0, 0, 0, 0)), (7, 2, .bipush 18, (0, 0, 0, 0, 0, 0)),
  (9, 1, .isub, (0, 0, 0, 0, 0, 0)), (10, 3, .if_icmp .le 4, (14, 0, 0, 0, 0, 0)), (13, 1, .return_, (0, 0, 0, 0, 0, 0)), (14, 1, .aload_n 0, (0, 0, 0, 0, 0, 0)), (15, 3, .getfield 9, (0, 1, 2, 0, 0, 0)), (18, 1, .iconst 0, (0, 0, 0, 0, 0, 0)),
  (19, 1, .aload_n 1, (0, 0, 0, 0, 0, 0)), (20, 1, .iload_n 2, (0, 0, 0, 0, 0, 0)), (21, 2, .bipush 6, (0, 0, 0, 0, 0, 0)), (23, 3, .invokestatic 37, (0, 3, 0, 0, 0, 0)), (26, 1, .aload_n 0, (0, 0, 0, 0, 0, 0)), (27, 3, .getfield 18, (0, 3, 2, 0, 0, 0)),
  (30, 1, .iconst 0, (0, 0, 0, 0, 0, 0)), (31, 1, .aload_n 1, (0, 0, 0, 0, 0, 0)), (32, 1, .iload_n 2, (0, 0, 0, 0, 0, 0)), (33, 2, .bipush 6, (0, 0, 0, 0, 0, 0)), (35, 1, .iadd, (0, 0, 0, 0, 0, 0)), (36, 2, .bipush 6, (0, 0, 0, 0, 0, 0)),
  (38, 3, .invokestatic 37, (0, 3, 0, 0, 0, 0)), (41, 1, .aload_n 0, (0, 0, 0, 0, 0, 0)), (42, 3, .getfield 21, (0, 4, 2, 0, 0, 0)), (45, 1, .iconst 0, (0, 0, 0, 0, 0, 0)), (46, 1, .aload_n 1, (0, 0, 0, 0, 0, 0)), (47, 1, .iload_n 2, (0, 0, 0, 0, 0, 0)),
  (48, 2, .bipush 12, (0, 0, 0, 0, 0, 0)), (50, 1, .iadd, (0, 0, 0, 0, 0, 0)), (51, 2, .bipush 6, (0, 0, 0, 0, 0, 0)), (53, 3, .invokestatic 37, (0, 3, 0, 0, 0, 0)), (56, 1, .return_, (0, 0, 0, 0, 0, 0))]
def z_X0_readFrom : List zI := [
  (0, 1, .iload_n 2, (0, 0, 0, 0, 0, 0)), (1, 3, .ifCond .lt 12, (13, 0, 0, 0, 0, 0)), (4, 1, .iload_n 2, (0, 0, 0, 0, 0, 0)), (5, 1, .aload_n 1, (0, 0, 0, 0, 0, 0)), (6, 1, .arraylength, (0, 0, 0, 0, 0, 0)), (7, 2, .bipush 18, (0, 0, 0, 0, 0, 0)),
  (9, 1, .isub, (0, 0, 0, 0, 0, 0)), (10, 3, .if_icmp .le 4, (14, 0, 0, 0, 0, 0)), (13, 1, .return_, (0, 0, 0, 0, 0, 0)), (14, 1, .aload_n 0, (0, 0, 0, 0, 0, 0)), (15, 3, .invokevirtual 68, (13, 0, 0, 0, 1, 0)), (18, 1, .iconst 0, (0, 0, 0, 0, 0, 0)),
  (19, 1, .istore_n 3, (0, 0, 0, 0, 0, 0)), (20, 1, .iload_n 3, (0, 0, 0, 0, 0, 0)), (21, 1, .aload_n 0, (0, 0, 0, 0, 0, 0)), (22, 3, .getfield 28, (0, 0, 2, 0, 0, 0)), (25, 3, .getfield 64, (1, 1, 0, 1, 0, 0)), (28, 3, .if_icmp .ge 19, (47, 0, 0, 0, 0, 0)),
  (31, 1, .aload_n 0, (0, 0, 0, 0, 0, 0)), (32, 1, .iload_n 3, (0, 0, 0, 0, 0, 0)), (33, 1, .aload_n 1, (0, 0, 0, 0, 0, 0)), (34, 1, .iload_n 2, (0, 0, 0, 0, 0, 0)), (35, 1, .iload_n 3, (0, 0, 0, 0, 0, 0)), (36, 1, .iadd, (0, 0, 0, 0, 0, 0)),
  (37, 1, .iaload, (0, 0, 0, 0, 0, 0)), (38, 3, .invokevirtual 71, (11, 0, 2, 0, 3, 0)), (41, 3, .iinc 3 1, (0, 0, 0, 0, 0, 0)), (44, 3, .goto (-24), (20, 0, 0, 0, 0, 0)), (47, 1, .aload_n 1, (0, 0, 0, 0, 0, 0)), (48, 1, .iload_n 2, (0, 0, 0, 0, 0, 0)),
  (49, 2, .bipush 6, (0, 0, 0, 0, 0, 0)), (51, 1, .iadd, (0, 0, 0, 0, 0, 0)), (52, 1, .aload_n 0, (0, 0, 0, 0, 0, 0)), (53, 3, .getfield 18, (0, 3, 2, 0, 0, 0)), (56, 1, .iconst 0, (0, 0, 0, 0, 0, 0)), (57, 2, .bipush 6, (0, 0, 0, 0, 0, 0)),
  (59, 3, .invokestatic 37, (0, 3, 0, 0, 0, 0)), (62, 1, .aload_n 1, (0, 0, 0, 0, 0, 0)), (63, 1, .iload_n 2, (0, 0, 0, 0, 0, 0)), (64, 2, .bipush 12, (0, 0, 0, 0, 0, 0)), (66, 1, .iadd, (0, 0, 0, 0, 0, 0)), (67, 1, .aload_n 0, (0, 0, 0, 0, 0, 0)),
  (68, 3, .getfield 21, (0, 4, 2, 0, 0, 0)), (71, 1, .iconst 0, (0, 0, 0, 0, 0, 0)), (72, 2, .bipush 6, (0, 0, 0, 0, 0, 0)), (74, 3, .invokestatic 37, (0, 3, 0, 0, 0, 0)), (77, 1, .return_, (0, 0, 0, 0, 0, 0))]
def z_X0_isFree : List zI := [
  (0, 1, .aload_n 0, (0, 0, 0, 0, 0, 0)), (1, 3, .getfield 28, (0, 0, 2, 0, 0, 0)), (4, 1, .iload_n 1, (0, 0, 0, 0, 0, 0)), (5, 3, .invokevirtual 75, (32, 0, 1, 1, 2, 1)), (8, 3, .ifCond .eq 18, (26, 0, 0, 0, 0, 0)), (11, 1, .aload_n 0, (0, 0, 0, 0, 0, 0)),
  (12, 3, .getfield 15, (0, 2, 2, 0, 0, 0)), (15, 1, .iload_n 1, (0, 0, 0, 0, 0, 0)), (16, 1, .iaload, (0, 0, 0, 0, 0, 0)), (17, 2, .bipush (-9), (0, 0, 0, 0, 0, 0)), (19, 3, .if_icmp .ne 7, (26, 0, 0, 0, 0, 0)), (22, 1, .iconst 1, (0, 0, 0, 0, 0, 0)),
  (23, 3, .goto 4, (27, 0, 0, 0, 0, 0)), (26, 1, .iconst 0, (0, 0, 0, 0, 0, 0)), (27, 1, .ireturn, (1, 0, 0, 0, 0, 0))]
def z_X0_hangs : List zI := [
  (0, 1, .aload_n 0, (0, 0, 0, 0, 0, 0)), (1, 3, .getfield 9, (0, 1, 2, 0, 0, 0)), (4, 1, .iload_n 1, (0, 0, 0, 0, 0, 0)), (5, 1, .iaload, (0, 0, 0, 0, 0, 0)), (6, 2, .bipush (-9), (0, 0, 0, 0, 0, 0)), (8, 3, .if_icmp .eq 7, (15, 0, 0, 0, 0, 0)),
  (11, 1, .iconst 1, (0, 0, 0, 0, 0, 0)), (12, 3, .goto 4, (16, 0, 0, 0, 0, 0)), (15, 1, .iconst 0, (0, 0, 0, 0, 0, 0)), (16, 1, .ireturn, (1, 0, 0, 0, 0, 0))]
def z_X0_move : List zI := [
  (0, 1, .aload_n 0, (0, 0, 0, 0, 0, 0)), (1, 3, .getfield 28, (0, 0, 2, 0, 0, 0)), (4, 1, .aload_n 0, (0, 0, 0, 0, 0, 0)), (5, 3, .getfield 9, (0, 1, 2, 0, 0, 0)), (8, 1, .iload_n 1, (0, 0, 0, 0, 0, 0)), (9, 1, .iaload, (0, 0, 0, 0, 0, 0)),
  (10, 3, .invokevirtual 75, (32, 0, 1, 1, 2, 1)), (13, 3, .ifCond .eq 16, (29, 0, 0, 0, 0, 0)), (16, 1, .aload_n 0, (0, 0, 0, 0, 0, 0)), (17, 3, .getfield 15, (0, 2, 2, 0, 0, 0)), (20, 1, .aload_n 0, (0, 0, 0, 0, 0, 0)), (21, 3, .getfield 9, (0, 1, 2, 0, 0, 0)),
  (24, 1, .iload_n 1, (0, 0, 0, 0, 0, 0)), (25, 1, .iaload, (0, 0, 0, 0, 0, 0)), (26, 2, .bipush (-9), (0, 0, 0, 0, 0, 0)), (28, 1, .iastore, (0, 0, 0, 0, 0, 0)), (29, 1, .aload_n 0, (0, 0, 0, 0, 0, 0)), (30, 3, .getfield 9, (0, 1, 2, 0, 0, 0)),
  (33, 1, .iload_n 1, (0, 0, 0, 0, 0, 0)), (34, 1, .iload_n 2, (0, 0, 0, 0, 0, 0)), (35, 1, .iastore, (0, 0, 0, 0, 0, 0)), (36, 1, .aload_n 0, (0, 0, 0, 0, 0, 0)), (37, 3, .getfield 28, (0, 0, 2, 0, 0, 0)), (40, 1, .iload_n 2, (0, 0, 0, 0, 0, 0)),
  (41, 3, .invokevirtual 75, (32, 0, 1, 1, 2, 1)), (44, 3, .ifCond .eq 10, (54, 0, 0, 0, 0, 0)), (47, 1, .aload_n 0, (0, 0, 0, 0, 0, 0)), (48, 3, .getfield 15, (0, 2, 2, 0, 0, 0)), (51, 1, .iload_n 2, (0, 0, 0, 0, 0, 0)), (52, 1, .iload_n 1, (0, 0, 0, 0, 0, 0)),
  (53, 1, .iastore, (0, 0, 0, 0, 0, 0)), (54, 1, .return_, (0, 0, 0, 0, 0, 0))]
def z_X0_swap : List zI := [
  (0, 1, .aload_n 0, (0, 0, 0, 0, 0, 0)), (1, 3, .getfield 9, (0, 1, 2, 0, 0, 0)), (4, 1, .iload_n 1, (0, 0, 0, 0, 0, 0)), (5, 1, .iaload, (0, 0, 0, 0, 0, 0)), (6, 1, .istore_n 3, (0, 0, 0, 0, 0, 0)), (7, 1, .aload_n 0, (0, 0, 0, 0, 0, 0)),
  (8, 3, .getfield 9, (0, 1, 2, 0, 0, 0)), (11, 1, .iload_n 2, (0, 0, 0, 0, 0, 0)), (12, 1, .iaload, (0, 0, 0, 0, 0, 0)), (13, 2, .istore 4, (0, 0, 0, 0, 0, 0)), (15, 1, .aload_n 0, (0, 0, 0, 0, 0, 0)), (16, 1, .iload_n 1, (0, 0, 0, 0, 0, 0)),
  (17, 2, .bipush (-9), (0, 0, 0, 0, 0, 0)), (19, 3, .invokevirtual 71, (11, 0, 2, 0, 3, 0)), (22, 1, .aload_n 0, (0, 0, 0, 0, 0, 0)), (23, 1, .iload_n 2, (0, 0, 0, 0, 0, 0)), (24, 1, .iload_n 3, (0, 0, 0, 0, 0, 0)), (25, 3, .invokevirtual 71, (11, 0, 2, 0, 3, 0)),
  (28, 1, .aload_n 0, (0, 0, 0, 0, 0, 0)), (29, 1, .iload_n 1, (0, 0, 0, 0, 0, 0)), (30, 2, .iload 4, (0, 0, 0, 0, 0, 0)), (32, 3, .invokevirtual 71, (11, 0, 2, 0, 3, 0)), (35, 1, .return_, (0, 0, 0, 0, 0, 0))]
def z_X0_takeAllDown : List zI := [
  (0, 1, .aload_n 0, (0, 0, 0, 0, 0, 0)), (1, 3, .getfield 9, (0, 1, 2, 0, 0, 0)), (4, 2, .bipush (-9), (0, 0, 0, 0, 0, 0)), (6, 3, .invokestatic 43, (240, 2, 2, 0, 4, 0)), (9, 1, .aload_n 0, (0, 0, 0, 0, 0, 0)), (10, 3, .getfield 15, (0, 2, 2, 0, 0, 0)),
  (13, 2, .bipush (-9), (0, 0, 0, 0, 0, 0)), (15, 3, .invokestatic 43, (240, 2, 2, 0, 4, 0)), (18, 1, .return_, (0, 0, 0, 0, 0, 0))]
def z_X0_hangBy : List zI := [
  (0, 1, .aload_n 0, (0, 0, 0, 0, 0, 0)), (1, 3, .invokevirtual 68, (13, 0, 0, 0, 1, 0)), (4, 1, .iconst 0, (0, 0, 0, 0, 0, 0)), (5, 1, .istore_n 2, (0, 0, 0, 0, 0, 0)), (6, 1, .iload_n 2, (0, 0, 0, 0, 0, 0)), (7, 1, .aload_n 0, (0, 0, 0, 0, 0, 0)),
  (8, 3, .getfield 28, (0, 0, 2, 0, 0, 0)), (11, 3, .getfield 64, (1, 1, 0, 1, 0, 0)), (14, 3, .if_icmp .ge 31, (45, 0, 0, 0, 0, 0)), (17, 1, .aload_n 1, (0, 0, 0, 0, 0, 0)), (18, 1, .iload_n 2, (0, 0, 0, 0, 0, 0)), (19, 3, .invokevirtual 79, (61, 0, 1, 1, 2, 4)),
  (22, 1, .istore_n 3, (0, 0, 0, 0, 0, 0)), (23, 1, .aload_n 0, (0, 0, 0, 0, 0, 0)), (24, 1, .iload_n 3, (0, 0, 0, 0, 0, 0)), (25, 3, .invokevirtual 85, (9, 0, 1, 1, 2, 0)), (28, 3, .ifCond .ne 5, (33, 0, 0, 0, 0, 0)), (31, 1, .iconst 0, (0, 0, 0, 0, 0, 0)),
  (32, 1, .ireturn, (1, 0, 0, 0, 0, 0)), (33, 1, .aload_n 0, (0, 0, 0, 0, 0, 0)), (34, 1, .iload_n 2, (0, 0, 0, 0, 0, 0)), (35, 1, .iload_n 3, (0, 0, 0, 0, 0, 0)), (36, 3, .invokevirtual 71, (11, 0, 2, 0, 3, 0)), (39, 3, .iinc 2 1, (0, 0, 0, 0, 0, 0)),
  (42, 3, .goto (-36), (6, 8, 0, 0, 0, 0)), (45, 1, .iconst 1, (0, 0, 0, 0, 0, 0)), (46, 1, .ireturn, (1, 0, 0, 0, 0, 0))]
def z_X0_hangByFirstPlan : List zI := [
  (0, 1, .aload_n 0, (0, 0, 0, 0, 0, 0)), (1, 3, .invokevirtual 68, (13, 0, 0, 0, 1, 0)), (4, 1, .iconst 0, (0, 0, 0, 0, 0, 0)), (5, 1, .istore_n 1, (0, 0, 0, 0, 0, 0)), (6, 1, .iload_n 1, (0, 0, 0, 0, 0, 0)), (7, 1, .aload_n 0, (0, 0, 0, 0, 0, 0)),
  (8, 3, .getfield 28, (0, 0, 2, 0, 0, 0)), (11, 3, .getfield 64, (1, 1, 0, 1, 0, 0)), (14, 3, .if_icmp .ge 15, (29, 0, 0, 0, 0, 0)), (17, 1, .aload_n 0, (0, 0, 0, 0, 0, 0)), (18, 1, .iload_n 1, (0, 0, 0, 0, 0, 0)), (19, 1, .iload_n 1, (0, 0, 0, 0, 0, 0)),
  (20, 3, .invokevirtual 71, (11, 0, 2, 0, 3, 0)), (23, 3, .iinc 1 1, (0, 0, 0, 0, 0, 0)), (26, 3, .goto (-20), (6, 0, 0, 0, 0, 0)), (29, 1, .return_, (0, 0, 0, 0, 0, 0))]
def z_X0_hangByNextPlan : List zI := [
  (0, 1, .aload_n 0, (0, 0, 0, 0, 0, 0)), (1, 3, .getfield 28, (0, 0, 2, 0, 0, 0)), (4, 3, .getfield 64, (1, 1, 0, 1, 0, 0)), (7, 1, .iconst 1, (0, 0, 0, 0, 0, 0)), (8, 1, .isub, (0, 0, 0, 0, 0, 0)), (9, 1, .istore_n 1, (0, 0, 0, 0, 0, 0)),
  (10, 1, .iload_n 1, (0, 0, 0, 0, 0, 0)), (11, 3, .ifCond .lt 17, (28, 0, 0, 0, 0, 0)), (14, 1, .aload_n 0, (0, 0, 0, 0, 0, 0)), (15, 1, .iload_n 1, (0, 0, 0, 0, 0, 0)), (16, 3, .invokevirtual 88, (17, 0, 1, 1, 3, 0)), (19, 3, .ifCond .ne 9, (28, 0, 0, 0, 0, 0)),
  (22, 3, .iinc 1 (-1), (0, 0, 0, 0, 0, 0)), (25, 3, .goto (-15), (10, 0, 0, 0, 0, 0)), (28, 1, .iload_n 1, (0, 0, 0, 0, 0, 0)), (29, 1, .iconst 1, (0, 0, 0, 0, 0, 0)), (30, 1, .iadd, (0, 0, 0, 0, 0, 0)), (31, 1, .istore_n 2, (0, 0, 0, 0, 0, 0)),
  (32, 1, .iload_n 2, (0, 0, 0, 0, 0, 0)), (33, 1, .aload_n 0, (0, 0, 0, 0, 0, 0)), (34, 3, .getfield 28, (0, 0, 2, 0, 0, 0)), (37, 3, .getfield 64, (1, 1, 0, 1, 0, 0)), (40, 3, .if_icmp .ge 15, (55, 0, 0, 0, 0, 0)), (43, 1, .aload_n 0, (0, 0, 0, 0, 0, 0)),
  (44, 1, .iload_n 2, (0, 0, 0, 0, 0, 0)), (45, 3, .invokevirtual 88, (17, 0, 1, 1, 3, 0)), (48, 1, .pop, (0, 0, 0, 0, 0, 0)), (49, 3, .iinc 2 1, (0, 0, 0, 0, 0, 0)), (52, 3, .goto (-20), (32, 0, 0, 0, 0, 0)), (55, 1, .return_, (0, 0, 0, 0, 0, 0))]
def z_X0_moveOn : List zI := [
  (0, 1, .iconst (-1), (0, 0, 0, 0, 0, 0)), (1, 1, .aload_n 0, (0, 0, 0, 0, 0, 0)), (2, 3, .getfield 9, (0, 1, 2, 0, 0, 0)), (5, 1, .iload_n 1, (0, 0, 0, 0, 0, 0)), (6, 1, .iaload, (0, 0, 0, 0, 0, 0)), (7, 3, .invokestatic 91, (0, 6, 0, 0, 0, 0)),
  (10, 1, .iconst 1, (0, 0, 0, 0, 0, 0)), (11, 1, .iadd, (0, 0, 0, 0, 0, 0)), (12, 1, .istore_n 2, (0, 0, 0, 0, 0, 0)), (13, 1, .iload_n 2, (0, 0, 0, 0, 0, 0)), (14, 1, .aload_n 0, (0, 0, 0, 0, 0, 0)), (15, 3, .getfield 28, (0, 0, 2, 0, 0, 0)),
  (18, 3, .getfield 97, (1, 0, 0, 1, 0, 0)), (21, 3, .if_icmp .ge 25, (46, 0, 0, 0, 0, 0)), (24, 1, .aload_n 0, (0, 0, 0, 0, 0, 0)), (25, 1, .iload_n 2, (0, 0, 0, 0, 0, 0)), (26, 3, .invokevirtual 85, (9, 0, 1, 1, 2, 0)), (29, 3, .ifCond .eq 11, (40, 0, 0, 0, 0, 0)),
  (32, 1, .aload_n 0, (0, 0, 0, 0, 0, 0)), (33, 1, .iload_n 1, (0, 0, 0, 0, 0, 0)), (34, 1, .iload_n 2, (0, 0, 0, 0, 0, 0)), (35, 3, .invokevirtual 71, (11, 0, 2, 0, 3, 0)), (38, 1, .iconst 1, (0, 0, 0, 0, 0, 0)), (39, 1, .ireturn, (1, 0, 0, 0, 0, 0)),
  (40, 3, .iinc 2 1, (0, 0, 0, 0, 0, 0)), (43, 3, .goto (-30), (13, 0, 0, 0, 0, 0)), (46, 1, .aload_n 0, (0, 0, 0, 0, 0, 0)), (47, 1, .iload_n 1, (0, 0, 0, 0, 0, 0)), (48, 2, .bipush (-9), (0, 0, 0, 0, 0, 0)), (50, 3, .invokevirtual 71, (11, 0, 2, 0, 3, 0)),
  (53, 1, .iconst 0, (0, 0, 0, 0, 0, 0)), (54, 1, .ireturn, (1, 0, 0, 0, 0, 0))]
def z_X0_messmatePairs : List zI := [
  (0, 1, .iconst 0, (0, 0, 0, 0, 0, 0)), (1, 1, .istore_n 1, (0, 0, 0, 0, 0, 0)), (2, 1, .iconst 0, (0, 0, 0, 0, 0, 0)), (3, 1, .istore_n 2, (0, 0, 0, 0, 0, 0)), (4, 1, .iload_n 2, (0, 0, 0, 0, 0, 0)), (5, 1, .iconst 1, (0, 0, 0, 0, 0, 0)),
  (6, 1, .iadd, (0, 0, 0, 0, 0, 0)), (7, 1, .aload_n 0, (0, 0, 0, 0, 0, 0)), (8, 3, .getfield 28, (0, 0, 2, 0, 0, 0)), (11, 3, .getfield 97, (1, 0, 0, 1, 0, 0)), (14, 3, .if_icmp .ge 74, (88, 0, 0, 0, 0, 0)), (17, 1, .aload_n 0, (0, 0, 0, 0, 0, 0)),
  (18, 3, .getfield 15, (0, 2, 2, 0, 0, 0)), (21, 1, .iload_n 2, (0, 0, 0, 0, 0, 0)), (22, 1, .iaload, (0, 0, 0, 0, 0, 0)), (23, 1, .istore_n 3, (0, 0, 0, 0, 0, 0)), (24, 1, .aload_n 0, (0, 0, 0, 0, 0, 0)), (25, 3, .getfield 15, (0, 2, 2, 0, 0, 0)),
  (28, 1, .iload_n 2, (0, 0, 0, 0, 0, 0)), (29, 1, .iconst 1, (0, 0, 0, 0, 0, 0)), (30, 1, .iadd, (0, 0, 0, 0, 0, 0)), (31, 1, .iaload, (0, 0, 0, 0, 0, 0)), (32, 2, .istore 4, (0, 0, 0, 0, 0, 0)), (34, 1, .aload_n 0, (0, 0, 0, 0, 0, 0)),
  (35, 3, .getfield 28, (0, 0, 2, 0, 0, 0)), (38, 1, .iload_n 3, (0, 0, 0, 0, 0, 0)), (39, 3, .invokevirtual 99, (33, 0, 1, 1, 2, 1)), (42, 3, .ifCond .eq 40, (82, 0, 0, 0, 0, 0)), (45, 1, .aload_n 0, (0, 0, 0, 0, 0, 0)), (46, 3, .getfield 28, (0, 0, 2, 0, 0, 0)),
  (49, 2, .iload 4, (0, 0, 0, 0, 0, 0)), (51, 3, .invokevirtual 99, (33, 0, 1, 1, 2, 1)), (54, 3, .ifCond .eq 28, (82, 0, 0, 0, 0, 0)), (57, 1, .aload_n 0, (0, 0, 0, 0, 0, 0)), (58, 3, .getfield 28, (0, 0, 2, 0, 0, 0)), (61, 3, .getfield 58, (1, 6, 2, 1, 0, 0)),
  (64, 1, .iload_n 3, (0, 0, 0, 0, 0, 0)), (65, 1, .iaload, (0, 0, 0, 0, 0, 0)), (66, 1, .aload_n 0, (0, 0, 0, 0, 0, 0)), (67, 3, .getfield 28, (0, 0, 2, 0, 0, 0)), (70, 3, .getfield 58, (1, 6, 2, 1, 0, 0)), (73, 2, .iload 4, (0, 0, 0, 0, 0, 0)),
  (75, 1, .iaload, (0, 0, 0, 0, 0, 0)), (76, 3, .if_icmp .ne 6, (82, 0, 0, 0, 0, 0)), (79, 3, .iinc 1 1, (0, 0, 0, 0, 0, 0)), (82, 3, .iinc 2 1, (0, 0, 0, 0, 0, 0)), (85, 3, .goto (-81), (4, 24, 0, 0, 0, 0)), (88, 1, .iload_n 1, (0, 0, 0, 0, 0, 0)),
  (89, 1, .ireturn, (0, 0, 0, 0, 0, 0))]
def z_X0_isIn : List zI := [
  (0, 1, .aload_n 0, (0, 0, 0, 0, 0, 0)), (1, 3, .getfield 9, (0, 1, 2, 0, 0, 0)), (4, 1, .iload_n 1, (0, 0, 0, 0, 0, 0)), (5, 1, .iaload, (0, 0, 0, 0, 0, 0)), (6, 2, .bipush (-9), (0, 0, 0, 0, 0, 0)), (8, 3, .if_icmp .eq 26, (34, 0, 0, 0, 0, 0)),
  (11, 1, .iload_n 2, (0, 0, 0, 0, 0, 0)), (12, 3, .ifCond .eq 18, (30, 0, 0, 0, 0, 0)), (15, 1, .aload_n 0, (0, 0, 0, 0, 0, 0)), (16, 3, .getfield 28, (0, 0, 2, 0, 0, 0)), (19, 3, .getfield 55, (1, 5, 2, 1, 0, 0)), (22, 1, .iload_n 1, (0, 0, 0, 0, 0, 0)),
  (23, 1, .iaload, (0, 0, 0, 0, 0, 0)), (24, 1, .iload_n 2, (0, 0, 0, 0, 0, 0)), (25, 1, .iconst 1, (0, 0, 0, 0, 0, 0)), (26, 1, .isub, (0, 0, 0, 0, 0, 0)), (27, 3, .if_icmp .eq 7, (34, 0, 0, 0, 0, 0)), (30, 1, .iconst 1, (0, 0, 0, 0, 0, 0)),
  (31, 3, .goto 4, (35, 0, 0, 0, 0, 0)), (34, 1, .iconst 0, (0, 0, 0, 0, 0, 0)), (35, 1, .ireturn, (1, 0, 0, 0, 0, 0))]
def z_X0_howManyIn : List zI := [
  (0, 1, .iconst 0, (0, 0, 0, 0, 0, 0)), (1, 1, .istore_n 2, (0, 0, 0, 0, 0, 0)), (2, 1, .iconst 0, (0, 0, 0, 0, 0, 0)), (3, 1, .istore_n 3, (0, 0, 0, 0, 0, 0)), (4, 1, .iload_n 3, (0, 0, 0, 0, 0, 0)), (5, 1, .aload_n 0, (0, 0, 0, 0, 0, 0)),
  (6, 3, .getfield 28, (0, 0, 2, 0, 0, 0)), (9, 3, .getfield 64, (1, 1, 0, 1, 0, 0)), (12, 3, .if_icmp .ge 21, (33, 0, 0, 0, 0, 0)), (15, 1, .aload_n 0, (0, 0, 0, 0, 0, 0)), (16, 1, .iload_n 3, (0, 0, 0, 0, 0, 0)), (17, 1, .iload_n 1, (0, 0, 0, 0, 0, 0)),
  (18, 3, .invokevirtual 102, (19, 0, 2, 1, 3, 0)), (21, 3, .ifCond .eq 6, (27, 0, 0, 0, 0, 0)), (24, 3, .iinc 2 1, (0, 0, 0, 0, 0, 0)), (27, 3, .iinc 3 1, (0, 0, 0, 0, 0, 0)), (30, 3, .goto (-26), (4, 0, 0, 0, 0, 0)), (33, 1, .iload_n 2, (0, 0, 0, 0, 0, 0)),
  (34, 1, .ireturn, (0, 0, 0, 0, 0, 0))]
def z_X0_bitOfWhoIsInAt : List zI := [
  (0, 1, .aload_n 0, (0, 0, 0, 0, 0, 0)), (1, 3, .getfield 28, (0, 0, 2, 0, 0, 0)), (4, 1, .iload_n 1, (0, 0, 0, 0, 0, 0)), (5, 3, .invokevirtual 75, (32, 0, 1, 1, 2, 1)), (8, 3, .ifCond .ne 5, (13, 0, 0, 0, 0, 0)), (11, 1, .iconst 0, (0, 0, 0, 0, 0, 0)),
  (12, 1, .ireturn, (0, 0, 0, 0, 0, 0)), (13, 1, .aload_n 0, (0, 0, 0, 0, 0, 0)), (14, 3, .getfield 15, (0, 2, 2, 0, 0, 0)), (17, 1, .iload_n 1, (0, 0, 0, 0, 0, 0)), (18, 1, .iaload, (0, 0, 0, 0, 0, 0)), (19, 1, .istore_n 3, (0, 0, 0, 0, 0, 0)),
  (20, 1, .aload_n 0, (0, 0, 0, 0, 0, 0)), (21, 3, .getfield 28, (0, 0, 2, 0, 0, 0)), (24, 1, .iload_n 3, (0, 0, 0, 0, 0, 0)), (25, 3, .invokevirtual 99, (33, 0, 1, 1, 2, 1)), (28, 3, .ifCond .eq 18, (46, 0, 0, 0, 0, 0)), (31, 1, .aload_n 0, (0, 0, 0, 0, 0, 0)),
  (32, 1, .iload_n 3, (0, 0, 0, 0, 0, 0)), (33, 1, .iload_n 2, (0, 0, 0, 0, 0, 0)), (34, 3, .invokevirtual 102, (19, 0, 2, 1, 3, 0)), (37, 3, .ifCond .eq 9, (46, 0, 0, 0, 0, 0)), (40, 1, .iconst 1, (0, 0, 0, 0, 0, 0)), (41, 1, .iload_n 3, (0, 0, 0, 0, 0, 0)),
  (42, 1, .ishl, (0, 0, 0, 0, 0, 0)), (43, 3, .goto 4, (47, 0, 0, 0, 0, 0)), (46, 1, .iconst 0, (0, 0, 0, 0, 0, 0)), (47, 1, .ireturn, (0, 0, 0, 0, 0, 0))]
def z_X0_neighbourBits : List zI := [
  (0, 1, .aload_n 0, (0, 0, 0, 0, 0, 0)), (1, 1, .iload_n 1, (0, 0, 0, 0, 0, 0)), (2, 3, .invokevirtual 106, (10, 0, 1, 1, 2, 0)), (5, 3, .ifCond .ne 5, (10, 0, 0, 0, 0, 0)), (8, 1, .iconst 0, (0, 0, 0, 0, 0, 0)), (9, 1, .ireturn, (0, 0, 0, 0, 0, 0)),
  (10, 1, .aload_n 0, (0, 0, 0, 0, 0, 0)), (11, 1, .aload_n 0, (0, 0, 0, 0, 0, 0)), (12, 3, .getfield 9, (0, 1, 2, 0, 0, 0)), (15, 1, .iload_n 1, (0, 0, 0, 0, 0, 0)), (16, 1, .iaload, (0, 0, 0, 0, 0, 0)), (17, 1, .iconst 1, (0, 0, 0, 0, 0, 0)),
  (18, 1, .isub, (0, 0, 0, 0, 0, 0)), (19, 1, .iload_n 2, (0, 0, 0, 0, 0, 0)), (20, 3, .invokevirtual 109, (21, 0, 2, 1, 4, 0)), (23, 1, .aload_n 0, (0, 0, 0, 0, 0, 0)), (24, 1, .aload_n 0, (0, 0, 0, 0, 0, 0)), (25, 3, .getfield 9, (0, 1, 2, 0, 0, 0)),
  (28, 1, .iload_n 1, (0, 0, 0, 0, 0, 0)), (29, 1, .iaload, (0, 0, 0, 0, 0, 0)), (30, 1, .iconst 1, (0, 0, 0, 0, 0, 0)), (31, 1, .iadd, (0, 0, 0, 0, 0, 0)), (32, 1, .iload_n 2, (0, 0, 0, 0, 0, 0)), (33, 3, .invokevirtual 109, (21, 0, 2, 1, 4, 0)),
  (36, 1, .ior, (0, 0, 0, 0, 0, 0)), (37, 1, .ireturn, (0, 0, 0, 0, 0, 0))]
def z_X0_wakings : List zI := [
  (0, 1, .aload_n 0, (0, 0, 0, 0, 0, 0)), (1, 1, .iload_n 1, (0, 0, 0, 0, 0, 0)), (2, 1, .iload_n 2, (0, 0, 0, 0, 0, 0)), (3, 3, .invokevirtual 102, (19, 0, 2, 1, 3, 0)), (6, 3, .ifCond .ne 5, (11, 0, 0, 0, 0, 0)), (9, 1, .iconst 0, (0, 0, 0, 0, 0, 0)),
  (10, 1, .ireturn, (0, 0, 0, 0, 0, 0)), (11, 1, .aload_n 0, (0, 0, 0, 0, 0, 0)), (12, 3, .getfield 9, (0, 1, 2, 0, 0, 0)), (15, 1, .iload_n 1, (0, 0, 0, 0, 0, 0)), (16, 1, .iaload, (0, 0, 0, 0, 0, 0)), (17, 1, .istore_n 3, (0, 0, 0, 0, 0, 0)),
  (18, 1, .aload_n 0, (0, 0, 0, 0, 0, 0)), (19, 3, .getfield 28, (0, 0, 2, 0, 0, 0)), (22, 1, .iload_n 3, (0, 0, 0, 0, 0, 0)), (23, 3, .invokevirtual 112, (41, 0, 1, 1, 2, 1)), (26, 1, .aload_n 0, (0, 0, 0, 0, 0, 0)), (27, 1, .iload_n 3, (0, 0, 0, 0, 0, 0)),
  (28, 1, .iconst 1, (0, 0, 0, 0, 0, 0)), (29, 1, .isub, (0, 0, 0, 0, 0, 0)), (30, 1, .iload_n 1, (0, 0, 0, 0, 0, 0)), (31, 1, .iload_n 2, (0, 0, 0, 0, 0, 0)), (32, 3, .invokevirtual 115, (24, 0, 3, 1, 6, 0)), (35, 1, .iadd, (0, 0, 0, 0, 0, 0)),
  (36, 1, .aload_n 0, (0, 0, 0, 0, 0, 0)), (37, 1, .iload_n 3, (0, 0, 0, 0, 0, 0)), (38, 1, .iconst 1, (0, 0, 0, 0, 0, 0)), (39, 1, .iadd, (0, 0, 0, 0, 0, 0)), (40, 1, .iload_n 1, (0, 0, 0, 0, 0, 0)), (41, 1, .iload_n 2, (0, 0, 0, 0, 0, 0)),
  (42, 3, .invokevirtual 115, (24, 0, 3, 1, 6, 0)), (45, 1, .iadd, (0, 0, 0, 0, 0, 0)), (46, 2, .istore 4, (0, 0, 0, 0, 0, 0)), (48, 1, .aload_n 0, (0, 0, 0, 0, 0, 0)), (49, 3, .getfield 28, (0, 0, 2, 0, 0, 0)), (52, 3, .getfield 52, (1, 3, 2, 1, 0, 0)),
  (55, 1, .iload_n 1, (0, 0, 0, 0, 0, 0)), (56, 1, .iaload, (0, 0, 0, 0, 0, 0)), (57, 1, .iconst 5, (0, 0, 0, 0, 0, 0)), (58, 3, .if_icmp .ne 14, (72, 0, 0, 0, 0, 0)), (61, 1, .iconst 2, (0, 0, 0, 0, 0, 0)), (62, 1, .iconst 0, (0, 0, 0, 0, 0, 0)),
  (63, 2, .iload 4, (0, 0, 0, 0, 0, 0)), (65, 3, .invokestatic 91, (0, 6, 0, 0, 0, 0)), (68, 1, .imul, (0, 0, 0, 0, 0, 0)), (69, 3, .goto 9, (78, 0, 0, 0, 0, 0)), (72, 1, .iconst 0, (0, 0, 0, 0, 0, 0)), (73, 2, .iload 4, (0, 0, 0, 0, 0, 0)),
  (75, 3, .invokestatic 91, (0, 6, 0, 0, 0, 0)), (78, 1, .ireturn, (0, 0, 0, 0, 0, 0))]
def z_X0_wakingsFrom : List zI := [
  (0, 1, .aload_n 0, (0, 0, 0, 0, 0, 0)), (1, 3, .getfield 28, (0, 0, 2, 0, 0, 0)), (4, 1, .iload_n 1, (0, 0, 0, 0, 0, 0)), (5, 3, .invokevirtual 75, (32, 0, 1, 1, 2, 1)), (8, 3, .ifCond .ne 5, (13, 0, 0, 0, 0, 0)), (11, 1, .iconst 0, (0, 0, 0, 0, 0, 0)),
  (12, 1, .ireturn, (0, 0, 0, 0, 0, 0)), (13, 1, .aload_n 0, (0, 0, 0, 0, 0, 0)), (14, 3, .getfield 15, (0, 2, 2, 0, 0, 0)), (17, 1, .iload_n 1, (0, 0, 0, 0, 0, 0)), (18, 1, .iaload, (0, 0, 0, 0, 0, 0)), (19, 2, .istore 4, (0, 0, 0, 0, 0, 0)),
  (21, 1, .aload_n 0, (0, 0, 0, 0, 0, 0)), (22, 3, .getfield 28, (0, 0, 2, 0, 0, 0)), (25, 2, .iload 4, (0, 0, 0, 0, 0, 0)), (27, 3, .invokevirtual 99, (33, 0, 1, 1, 2, 1)), (30, 3, .ifCond .eq 13, (43, 0, 0, 0, 0, 0)), (33, 1, .aload_n 0, (0, 0, 0, 0, 0, 0)),
  (34, 2, .iload 4, (0, 0, 0, 0, 0, 0)), (36, 1, .iload_n 3, (0, 0, 0, 0, 0, 0)), (37, 3, .invokevirtual 102, (19, 0, 2, 1, 3, 0)), (40, 3, .ifCond .ne 5, (45, 0, 0, 0, 0, 0)), (43, 1, .iconst 0, (0, 0, 0, 0, 0, 0)), (44, 1, .ireturn, (0, 0, 0, 0, 0, 0)),
  (45, 1, .aload_n 0, (0, 0, 0, 0, 0, 0)), (46, 3, .getfield 28, (0, 0, 2, 0, 0, 0)), (49, 3, .getfield 52, (1, 3, 2, 1, 0, 0)), (52, 2, .iload 4, (0, 0, 0, 0, 0, 0)), (54, 1, .iaload, (0, 0, 0, 0, 0, 0)), (55, 1, .iconst 2, (0, 0, 0, 0, 0, 0)),
  (56, 3, .if_icmp .ne 20, (76, 0, 0, 0, 0, 0)), (59, 1, .aload_n 0, (0, 0, 0, 0, 0, 0)), (60, 3, .getfield 28, (0, 0, 2, 0, 0, 0)), (63, 3, .getfield 52, (1, 3, 2, 1, 0, 0)), (66, 1, .iload_n 2, (0, 0, 0, 0, 0, 0)), (67, 1, .iaload, (0, 0, 0, 0, 0, 0)),
  (68, 1, .iconst 3, (0, 0, 0, 0, 0, 0)), (69, 3, .if_icmp .eq 7, (76, 0, 0, 0, 0, 0)), (72, 1, .iconst 1, (0, 0, 0, 0, 0, 0)), (73, 3, .goto 4, (77, 0, 0, 0, 0, 0)), (76, 1, .iconst 0, (0, 0, 0, 0, 0, 0)), (77, 2, .istore 5, (0, 0, 0, 0, 0, 0)),
  (79, 1, .aload_n 0, (0, 0, 0, 0, 0, 0)), (80, 3, .getfield 18, (0, 3, 2, 0, 0, 0)), (83, 1, .iload_n 2, (0, 0, 0, 0, 0, 0)), (84, 1, .iaload, (0, 0, 0, 0, 0, 0)), (85, 1, .aload_n 0, (0, 0, 0, 0, 0, 0)), (86, 3, .getfield 18, (0, 3, 2, 0, 0, 0)),
  (89, 2, .iload 4, (0, 0, 0, 0, 0, 0)), (91, 1, .iaload, (0, 0, 0, 0, 0, 0)), (92, 1, .isub, (0, 0, 0, 0, 0, 0)), (93, 3, .invokestatic 119, (0, 5, 0, 0, 0, 0)), (96, 1, .aload_n 0, (0, 0, 0, 0, 0, 0)), (97, 3, .getfield 28, (0, 0, 2, 0, 0, 0)),
  (100, 1, .iload_n 2, (0, 0, 0, 0, 0, 0)), (101, 3, .invokevirtual 122, (40, 0, 1, 1, 2, 1)), (104, 1, .iadd, (0, 0, 0, 0, 0, 0)), (105, 1, .aload_n 0, (0, 0, 0, 0, 0, 0)), (106, 3, .getfield 28, (0, 0, 2, 0, 0, 0)), (109, 2, .iload 4, (0, 0, 0, 0, 0, 0)),
  (111, 3, .invokevirtual 122, (40, 0, 1, 1, 2, 1)), (114, 1, .iadd, (0, 0, 0, 0, 0, 0)), (115, 2, .iload 5, (0, 0, 0, 0, 0, 0)), (117, 3, .ifCond .eq 7, (124, 0, 0, 0, 0, 0)), (120, 1, .iconst 2, (0, 0, 0, 0, 0, 0)), (121, 3, .goto 4, (125, 0, 0, 0, 0, 0)),
  (124, 1, .iconst 0, (0, 0, 0, 0, 0, 0)), (125, 1, .iadd, (0, 0, 0, 0, 0, 0)), (126, 1, .ireturn, (0, 0, 0, 0, 0, 0))]
def z_X0_allWakings : List zI := [
  (0, 1, .iconst 0, (0, 0, 0, 0, 0, 0)), (1, 1, .istore_n 2, (0, 0, 0, 0, 0, 0)), (2, 1, .iconst 0, (0, 0, 0, 0, 0, 0)), (3, 1, .istore_n 3, (0, 0, 0, 0, 0, 0)), (4, 1, .iload_n 3, (0, 0, 0, 0, 0, 0)), (5, 1, .aload_n 0, (0, 0, 0, 0, 0, 0)),
  (6, 3, .getfield 28, (0, 0, 2, 0, 0, 0)), (9, 3, .getfield 64, (1, 1, 0, 1, 0, 0)), (12, 3, .if_icmp .ge 18, (30, 0, 0, 0, 0, 0)), (15, 1, .iload_n 2, (0, 0, 0, 0, 0, 0)), (16, 1, .aload_n 0, (0, 0, 0, 0, 0, 0)), (17, 1, .iload_n 3, (0, 0, 0, 0, 0, 0)),
  (18, 1, .iload_n 1, (0, 0, 0, 0, 0, 0)), (19, 3, .invokevirtual 125, (23, 0, 2, 1, 5, 0)), (22, 1, .iadd, (0, 0, 0, 0, 0, 0)), (23, 1, .istore_n 2, (0, 0, 0, 0, 0, 0)), (24, 3, .iinc 3 1, (0, 0, 0, 0, 0, 0)), (27, 3, .goto (-23), (4, 0, 0, 0, 0, 0)),
  (30, 1, .iload_n 2, (0, 0, 0, 0, 0, 0)), (31, 1, .ireturn, (0, 0, 0, 0, 0, 0))]
def z_X0_mostWakings : List zI := [
  (0, 1, .iconst 0, (0, 0, 0, 0, 0, 0)), (1, 1, .istore_n 2, (0, 0, 0, 0, 0, 0)), (2, 1, .iconst 0, (0, 0, 0, 0, 0, 0)), (3, 1, .istore_n 3, (0, 0, 0, 0, 0, 0)), (4, 1, .iload_n 3, (0, 0, 0, 0, 0, 0)), (5, 1, .aload_n 0, (0, 0, 0, 0, 0, 0)),
  (6, 3, .getfield 28, (0, 0, 2, 0, 0, 0)), (9, 3, .getfield 64, (1, 1, 0, 1, 0, 0)), (12, 3, .if_icmp .ge 20, (32, 0, 0, 0, 0, 0)), (15, 1, .iload_n 2, (0, 0, 0, 0, 0, 0)), (16, 1, .aload_n 0, (0, 0, 0, 0, 0, 0)), (17, 1, .iload_n 3, (0, 0, 0, 0, 0, 0)),
  (18, 1, .iload_n 1, (0, 0, 0, 0, 0, 0)), (19, 3, .invokevirtual 125, (23, 0, 2, 1, 5, 0)), (22, 3, .invokestatic 91, (0, 6, 0, 0, 0, 0)), (25, 1, .istore_n 2, (0, 0, 0, 0, 0, 0)), (26, 3, .iinc 3 1, (0, 0, 0, 0, 0, 0)), (29, 3, .goto (-25), (4, 0, 0, 0, 0, 0)),
  (32, 1, .iload_n 2, (0, 0, 0, 0, 0, 0)), (33, 1, .ireturn, (0, 0, 0, 0, 0, 0))]
def z_X0_tire : List zI := [
  (0, 1, .iconst 0, (0, 0, 0, 0, 0, 0)), (1, 1, .istore_n 2, (0, 0, 0, 0, 0, 0)), (2, 1, .iconst 0, (0, 0, 0, 0, 0, 0)), (3, 1, .istore_n 3, (0, 0, 0, 0, 0, 0)), (4, 1, .iload_n 3, (0, 0, 0, 0, 0, 0)), (5, 1, .aload_n 0, (0, 0, 0, 0, 0, 0)),
  (6, 3, .getfield 28, (0, 0, 2, 0, 0, 0)), (9, 3, .getfield 64, (1, 1, 0, 1, 0, 0)), (12, 3, .if_icmp .ge 49, (61, 0, 0, 0, 0, 0)), (15, 1, .aload_n 0, (0, 0, 0, 0, 0, 0)), (16, 3, .getfield 21, (0, 4, 2, 0, 0, 0)), (19, 1, .iload_n 3, (0, 0, 0, 0, 0, 0)),
  (20, 1, .iaload, (0, 0, 0, 0, 0, 0)), (21, 2, .istore 4, (0, 0, 0, 0, 0, 0)), (23, 1, .aload_n 0, (0, 0, 0, 0, 0, 0)), (24, 3, .getfield 21, (0, 4, 2, 0, 0, 0)), (27, 1, .iload_n 3, (0, 0, 0, 0, 0, 0)), (28, 2, .bipush 99, (0, 0, 0, 0, 0, 0)),
  (30, 2, .iload 4, (0, 0, 0, 0, 0, 0)), (32, 1, .aload_n 0, (0, 0, 0, 0, 0, 0)), (33, 1, .iload_n 3, (0, 0, 0, 0, 0, 0)), (34, 1, .iload_n 1, (0, 0, 0, 0, 0, 0)), (35, 3, .invokevirtual 125, (23, 0, 2, 1, 5, 0)), (38, 1, .iadd, (0, 0, 0, 0, 0, 0)),
  (39, 3, .invokestatic 128, (0, 7, 0, 0, 0, 0)), (42, 1, .iastore, (0, 0, 0, 0, 0, 0)), (43, 1, .iload_n 2, (0, 0, 0, 0, 0, 0)), (44, 1, .aload_n 0, (0, 0, 0, 0, 0, 0)), (45, 3, .getfield 21, (0, 4, 2, 0, 0, 0)), (48, 1, .iload_n 3, (0, 0, 0, 0, 0, 0)),
  (49, 1, .iaload, (0, 0, 0, 0, 0, 0)), (50, 2, .iload 4, (0, 0, 0, 0, 0, 0)), (52, 1, .isub, (0, 0, 0, 0, 0, 0)), (53, 1, .iadd, (0, 0, 0, 0, 0, 0)), (54, 1, .istore_n 2, (0, 0, 0, 0, 0, 0)), (55, 3, .iinc 3 1, (0, 0, 0, 0, 0, 0)),
  (58, 3, .goto (-54), (4, 16, 0, 0, 0, 0)), (61, 1, .iload_n 2, (0, 0, 0, 0, 0, 0)), (62, 1, .ireturn, (0, 0, 0, 0, 0, 0))]
def z_X0_inTheWayOf : List zI := [
  (0, 1, .aload_n 0, (0, 0, 0, 0, 0, 0)), (1, 1, .iload_n 1, (0, 0, 0, 0, 0, 0)), (2, 1, .iload_n 2, (0, 0, 0, 0, 0, 0)), (3, 3, .invokevirtual 131, (22, 0, 2, 1, 3, 0)), (6, 1, .istore_n 3, (0, 0, 0, 0, 0, 0)), (7, 1, .iconst 0, (0, 0, 0, 0, 0, 0)),
  (8, 2, .istore 4, (0, 0, 0, 0, 0, 0)), (10, 1, .iconst 0, (0, 0, 0, 0, 0, 0)), (11, 2, .istore 5, (0, 0, 0, 0, 0, 0)), (13, 2, .iload 5, (0, 0, 0, 0, 0, 0)), (15, 1, .aload_n 0, (0, 0, 0, 0, 0, 0)), (16, 3, .getfield 28, (0, 0, 2, 0, 0, 0)),
  (19, 3, .getfield 64, (1, 1, 0, 1, 0, 0)), (22, 3, .if_icmp .ge 34, (56, 0, 0, 0, 0, 0)), (25, 1, .iload_n 3, (0, 0, 0, 0, 0, 0)), (26, 1, .iconst 1, (0, 0, 0, 0, 0, 0)), (27, 2, .iload 5, (0, 0, 0, 0, 0, 0)), (29, 1, .ishl, (0, 0, 0, 0, 0, 0)),
  (30, 1, .iand, (0, 0, 0, 0, 0, 0)), (31, 3, .ifCond .eq 19, (50, 0, 0, 0, 0, 0)), (34, 2, .iload 4, (0, 0, 0, 0, 0, 0)), (36, 1, .iconst 1, (0, 0, 0, 0, 0, 0)), (37, 1, .aload_n 0, (0, 0, 0, 0, 0, 0)), (38, 3, .getfield 28, (0, 0, 2, 0, 0, 0)),
  (41, 2, .iload 5, (0, 0, 0, 0, 0, 0)), (43, 3, .invokevirtual 122, (40, 0, 1, 1, 2, 1)), (46, 1, .iadd, (0, 0, 0, 0, 0, 0)), (47, 1, .iadd, (0, 0, 0, 0, 0, 0)), (48, 2, .istore 4, (0, 0, 0, 0, 0, 0)), (50, 3, .iinc 5 1, (0, 0, 0, 0, 0, 0)),
  (53, 3, .goto (-40), (13, 0, 0, 0, 0, 0)), (56, 2, .iload 4, (0, 0, 0, 0, 0, 0)), (58, 1, .ireturn, (0, 0, 0, 0, 0, 0))]
def z_X0_firstToGetUp : List zI := [
  (0, 1, .iconst 0, (0, 0, 0, 0, 0, 0)), (1, 1, .istore_n 2, (0, 0, 0, 0, 0, 0)), (2, 1, .iload_n 2, (0, 0, 0, 0, 0, 0)), (3, 1, .aload_n 0, (0, 0, 0, 0, 0, 0)), (4, 3, .getfield 28, (0, 0, 2, 0, 0, 0)), (7, 3, .getfield 64, (1, 1, 0, 1, 0, 0)),
  (10, 3, .if_icmp .ge 29, (39, 0, 0, 0, 0, 0)), (13, 1, .aload_n 0, (0, 0, 0, 0, 0, 0)), (14, 1, .iload_n 2, (0, 0, 0, 0, 0, 0)), (15, 1, .iload_n 1, (0, 0, 0, 0, 0, 0)), (16, 3, .invokevirtual 102, (19, 0, 2, 1, 3, 0)), (19, 3, .ifCond .eq 14, (33, 0, 0, 0, 0, 0)),
  (22, 1, .aload_n 0, (0, 0, 0, 0, 0, 0)), (23, 1, .iload_n 2, (0, 0, 0, 0, 0, 0)), (24, 1, .iload_n 1, (0, 0, 0, 0, 0, 0)), (25, 3, .invokevirtual 134, (30, 0, 2, 1, 5, 0)), (28, 3, .ifCond .ne 5, (33, 0, 0, 0, 0, 0)), (31, 1, .iload_n 2, (0, 0, 0, 0, 0, 0)),
  (32, 1, .ireturn, (0, 0, 0, 0, 0, 0)), (33, 3, .iinc 2 1, (0, 0, 0, 0, 0, 0)), (36, 3, .goto (-34), (2, 0, 0, 0, 0, 0)), (39, 2, .bipush (-9), (0, 0, 0, 0, 0, 0)), (41, 1, .ireturn, (0, 0, 0, 0, 0, 0))]
def z_X0_hasBulkierNeighbour : List zI := [
  (0, 1, .aload_n 0, (0, 0, 0, 0, 0, 0)), (1, 1, .iload_n 1, (0, 0, 0, 0, 0, 0)), (2, 1, .iload_n 2, (0, 0, 0, 0, 0, 0)), (3, 3, .invokevirtual 131, (22, 0, 2, 1, 3, 0)), (6, 1, .istore_n 3, (0, 0, 0, 0, 0, 0)), (7, 1, .iconst 0, (0, 0, 0, 0, 0, 0)),
  (8, 2, .istore 4, (0, 0, 0, 0, 0, 0)), (10, 2, .iload 4, (0, 0, 0, 0, 0, 0)), (12, 1, .aload_n 0, (0, 0, 0, 0, 0, 0)), (13, 3, .getfield 28, (0, 0, 2, 0, 0, 0)), (16, 3, .getfield 64, (1, 1, 0, 1, 0, 0)), (19, 3, .if_icmp .ge 40, (59, 0, 0, 0, 0, 0)),
  (22, 1, .iload_n 3, (0, 0, 0, 0, 0, 0)), (23, 1, .iconst 1, (0, 0, 0, 0, 0, 0)), (24, 2, .iload 4, (0, 0, 0, 0, 0, 0)), (26, 1, .ishl, (0, 0, 0, 0, 0, 0)), (27, 1, .iand, (0, 0, 0, 0, 0, 0)), (28, 3, .ifCond .eq 25, (53, 0, 0, 0, 0, 0)),
  (31, 1, .aload_n 0, (0, 0, 0, 0, 0, 0)), (32, 3, .getfield 28, (0, 0, 2, 0, 0, 0)), (35, 2, .iload 4, (0, 0, 0, 0, 0, 0)), (37, 3, .invokevirtual 122, (40, 0, 1, 1, 2, 1)), (40, 1, .aload_n 0, (0, 0, 0, 0, 0, 0)), (41, 3, .getfield 28, (0, 0, 2, 0, 0, 0)),
  (44, 1, .iload_n 1, (0, 0, 0, 0, 0, 0)), (45, 3, .invokevirtual 122, (40, 0, 1, 1, 2, 1)), (48, 3, .if_icmp .le 5, (53, 0, 0, 0, 0, 0)), (51, 1, .iconst 1, (0, 0, 0, 0, 0, 0)), (52, 1, .ireturn, (1, 0, 0, 0, 0, 0)), (53, 3, .iinc 4 1, (0, 0, 0, 0, 0, 0)),
  (56, 3, .goto (-46), (10, 0, 0, 0, 0, 0)), (59, 1, .iconst 0, (0, 0, 0, 0, 0, 0)), (60, 1, .ireturn, (1, 0, 0, 0, 0, 0))]
def z_X1_init : List zI := [
  (0, 1, .aload_n 0, (0, 0, 0, 0, 0, 0)), (1, 3, .invokespecial 3, (0, 4, 0, 0, 0, 0)), (4, 1, .aload_n 0, (0, 0, 0, 0, 0, 0)), (5, 1, .iconst 0, (0, 0, 0, 0, 0, 0)), (6, 3, .putfield 9, (1, 0, 0, 0, 0, 0)), (9, 1, .aload_n 0, (0, 0, 0, 0, 0, 0)),
  (10, 1, .iconst 0, (0, 0, 0, 0, 0, 0)), (11, 3, .putfield 15, (1, 1, 0, 0, 0, 0)), (14, 1, .aload_n 0, (0, 0, 0, 0, 0, 0)), (15, 2, .bipush 7, (0, 0, 0, 0, 0, 0)), (17, 2, .newarray .int, (0, 0, 0, 0, 0, 0)), (19, 3, .putfield 18, (1, 2, 2, 0, 0, 0)),
  (22, 1, .aload_n 0, (0, 0, 0, 0, 0, 0)), (23, 2, .bipush 6, (0, 0, 0, 0, 0, 0)), (25, 2, .newarray .int, (0, 0, 0, 0, 0, 0)), (27, 3, .putfield 22, (1, 3, 2, 0, 0, 0)), (30, 1, .aload_n 0, (0, 0, 0, 0, 0, 0)), (31, 2, .bipush 6, (0, 0, 0, 0, 0, 0)),
  (33, 2, .newarray .int, (0, 0, 0, 0, 0, 0)), (35, 3, .putfield 25, (1, 4, 2, 0, 0, 0)), (38, 1, .aload_n 0, (0, 0, 0, 0, 0, 0)), (39, 2, .bipush 6, (0, 0, 0, 0, 0, 0)), (41, 2, .newarray .int, (0, 0, 0, 0, 0, 0)), (43, 3, .putfield 28, (1, 5, 2, 0, 0, 0)),
  (46, 1, .aload_n 0, (0, 0, 0, 0, 0, 0)), (47, 2, .bipush 6, (0, 0, 0, 0, 0, 0)), (49, 2, .newarray .int, (0, 0, 0, 0, 0, 0)), (51, 3, .putfield 31, (1, 6, 2, 0, 0, 0)), (54, 1, .return_, (0, 0, 0, 0, 0, 0))]
def z_X1_hasHook : List zI := [
  (0, 1, .iload_n 1, (0, 0, 0, 0, 0, 0)), (1, 3, .ifCond .lt 15, (16, 0, 0, 0, 0, 0)), (4, 1, .iload_n 1, (0, 0, 0, 0, 0, 0)), (5, 1, .aload_n 0, (0, 0, 0, 0, 0, 0)), (6, 3, .getfield 9, (1, 0, 0, 0, 0, 0)), (9, 3, .if_icmp .ge 7, (16, 0, 0, 0, 0, 0)),
  (12, 1, .iconst 1, (0, 0, 0, 0, 0, 0)), (13, 3, .goto 4, (17, 0, 0, 0, 0, 0)), (16, 1, .iconst 0, (0, 0, 0, 0, 0, 0)), (17, 1, .ireturn, (1, 0, 0, 0, 0, 0))]
def z_X1_hasMan : List zI := [
  (0, 1, .iload_n 1, (0, 0, 0, 0, 0, 0)), (1, 3, .ifCond .lt 15, (16, 0, 0, 0, 0, 0)), (4, 1, .iload_n 1, (0, 0, 0, 0, 0, 0)), (5, 1, .aload_n 0, (0, 0, 0, 0, 0, 0)), (6, 3, .getfield 15, (1, 1, 0, 0, 0, 0)), (9, 3, .if_icmp .ge 7, (16, 0, 0, 0, 0, 0)),
  (12, 1, .iconst 1, (0, 0, 0, 0, 0, 0)), (13, 3, .goto 4, (17, 0, 0, 0, 0, 0)), (16, 1, .iconst 0, (0, 0, 0, 0, 0, 0)), (17, 1, .ireturn, (1, 0, 0, 0, 0, 0))]
def z_X1_addHook : List zI := [
  (0, 1, .aload_n 0, (0, 0, 0, 0, 0, 0)), (1, 3, .getfield 9, (1, 0, 0, 0, 0, 0)), (4, 2, .bipush 7, (0, 0, 0, 0, 0, 0)), (6, 3, .if_icmp .lt 4, (10, 0, 0, 0, 0, 0)), (9, 1, .return_, (0, 0, 0, 0, 0, 0)), (10, 1, .aload_n 0, (0, 0, 0, 0, 0, 0)),
  (11, 3, .getfield 18, (1, 2, 2, 0, 0, 0)), (14, 1, .aload_n 0, (0, 0, 0, 0, 0, 0)), (15, 3, .getfield 9, (1, 0, 0, 0, 0, 0)), (18, 1, .iload_n 1, (0, 0, 0, 0, 0, 0)), (19, 1, .iastore, (0, 0, 0, 0, 0, 0)), (20, 1, .aload_n 0, (0, 0, 0, 0, 0, 0)),
  (21, 1, .dup, (0, 0, 0, 0, 0, 0)), (22, 3, .getfield 9, (1, 0, 0, 0, 0, 0)), (25, 1, .iconst 1, (0, 0, 0, 0, 0, 0)), (26, 1, .iadd, (0, 0, 0, 0, 0, 0)), (27, 3, .putfield 9, (1, 0, 0, 0, 0, 0)), (30, 1, .return_, (0, 0, 0, 0, 0, 0))]
def z_X1_addMan : List zI := [
  (0, 1, .aload_n 0, (0, 0, 0, 0, 0, 0)), (1, 3, .getfield 15, (1, 1, 0, 0, 0, 0)), (4, 1, .aload_n 0, (0, 0, 0, 0, 0, 0)), (5, 3, .invokevirtual 34, (36, 0, 0, 1, 1, 1)), (8, 3, .if_icmp .lt 4, (12, 0, 0, 0, 0, 0)), (11, 1, .return_, (0, 0, 0, 0, 0, 0)),
  (12, 1, .aload_n 0, (0, 0, 0, 0, 0, 0)), (13, 3, .getfield 22, (1, 3, 2, 0, 0, 0)), (16, 1, .aload_n 0, (0, 0, 0, 0, 0, 0)), (17, 3, .getfield 15, (1, 1, 0, 0, 0, 0)), (20, 1, .iload_n 1, (0, 0, 0, 0, 0, 0)), (21, 1, .iastore, (0, 0, 0, 0, 0, 0)),
  (22, 1, .aload_n 0, (0, 0, 0, 0, 0, 0)), (23, 3, .getfield 25, (1, 4, 2, 0, 0, 0)), (26, 1, .aload_n 0, (0, 0, 0, 0, 0, 0)), (27, 3, .getfield 15, (1, 1, 0, 0, 0, 0)), (30, 1, .iload_n 2, (0, 0, 0, 0, 0, 0)), (31, 1, .iastore, (0, 0, 0, 0, 0, 0)),
  (32, 1, .aload_n 0, (0, 0, 0, 0, 0, 0)), (33, 3, .getfield 28, (1, 5, 2, 0, 0, 0)), (36, 1, .aload_n 0, (0, 0, 0, 0, 0, 0)), (37, 3, .getfield 15, (1, 1, 0, 0, 0, 0)), (40, 1, .iload_n 3, (0, 0, 0, 0, 0, 0)), (41, 1, .iastore, (0, 0, 0, 0, 0, 0)),
  (42, 1, .aload_n 0, (0, 0, 0, 0, 0, 0)), (43, 3, .getfield 31, (1, 6, 2, 0, 0, 0)), (46, 1, .aload_n 0, (0, 0, 0, 0, 0, 0)), (47, 3, .getfield 15, (1, 1, 0, 0, 0, 0)), (50, 2, .iload 4, (0, 0, 0, 0, 0, 0)), (52, 1, .iastore, (0, 0, 0, 0, 0, 0)),
  (53, 1, .aload_n 0, (0, 0, 0, 0, 0, 0)), (54, 1, .dup, (0, 0, 0, 0, 0, 0)), (55, 3, .getfield 15, (1, 1, 0, 0, 0, 0)), (58, 1, .iconst 1, (0, 0, 0, 0, 0, 0)), (59, 1, .iadd, (0, 0, 0, 0, 0, 0)), (60, 3, .putfield 15, (1, 1, 0, 0, 0, 0)),
  (63, 1, .return_, (0, 0, 0, 0, 0, 0))]
def z_X1_mostMen : List zI := [
  (0, 2, .bipush 6, (0, 0, 0, 0, 0, 0)), (2, 1, .aload_n 0, (0, 0, 0, 0, 0, 0)), (3, 3, .getfield 9, (1, 0, 0, 0, 0, 0)), (6, 3, .invokestatic 38, (0, 7, 0, 0, 0, 0)), (9, 1, .ireturn, (0, 0, 0, 0, 0, 0))]
def z_X1_planCount : List zI := [
  (0, 1, .iconst 1, (0, 0, 0, 0, 0, 0)), (1, 1, .istore_n 1, (0, 0, 0, 0, 0, 0)), (2, 1, .iconst 0, (0, 0, 0, 0, 0, 0)), (3, 1, .istore_n 2, (0, 0, 0, 0, 0, 0)), (4, 1, .iload_n 2, (0, 0, 0, 0, 0, 0)), (5, 1, .aload_n 0, (0, 0, 0, 0, 0, 0)),
  (6, 3, .getfield 15, (1, 1, 0, 0, 0, 0)), (9, 3, .if_icmp .ge 18, (27, 0, 0, 0, 0, 0)), (12, 1, .iload_n 1, (0, 0, 0, 0, 0, 0)), (13, 1, .aload_n 0, (0, 0, 0, 0, 0, 0)), (14, 3, .getfield 9, (1, 0, 0, 0, 0, 0)), (17, 1, .iload_n 2, (0, 0, 0, 0, 0, 0)),
  (18, 1, .isub, (0, 0, 0, 0, 0, 0)), (19, 1, .imul, (0, 0, 0, 0, 0, 0)), (20, 1, .istore_n 1, (0, 0, 0, 0, 0, 0)), (21, 3, .iinc 2 1, (0, 0, 0, 0, 0, 0)), (24, 3, .goto (-20), (4, 0, 0, 0, 0, 0)), (27, 1, .iload_n 1, (0, 0, 0, 0, 0, 0)),
  (28, 1, .ireturn, (0, 0, 0, 0, 0, 0))]
def z_X1_isOf : List zI := [
  (0, 1, .aload_n 0, (0, 0, 0, 0, 0, 0)), (1, 3, .getfield 22, (1, 3, 2, 0, 0, 0)), (4, 1, .iload_n 1, (0, 0, 0, 0, 0, 0)), (5, 1, .iaload, (0, 0, 0, 0, 0, 0)), (6, 1, .iload_n 2, (0, 0, 0, 0, 0, 0)), (7, 3, .if_icmp .eq 18, (25, 0, 0, 0, 0, 0)),
  (10, 1, .iload_n 2, (0, 0, 0, 0, 0, 0)), (11, 1, .iconst 1, (0, 0, 0, 0, 0, 0)), (12, 3, .if_icmp .ne 17, (29, 0, 0, 0, 0, 0)), (15, 1, .aload_n 0, (0, 0, 0, 0, 0, 0)), (16, 3, .getfield 22, (1, 3, 2, 0, 0, 0)), (19, 1, .iload_n 1, (0, 0, 0, 0, 0, 0)),
  (20, 1, .iaload, (0, 0, 0, 0, 0, 0)), (21, 1, .iconst 4, (0, 0, 0, 0, 0, 0)), (22, 3, .if_icmp .ne 7, (29, 0, 0, 0, 0, 0)), (25, 1, .iconst 1, (0, 0, 0, 0, 0, 0)), (26, 3, .goto 4, (30, 0, 0, 0, 0, 0)), (29, 1, .iconst 0, (0, 0, 0, 0, 0, 0)),
  (30, 1, .ireturn, (1, 0, 0, 0, 0, 0))]
def z_X1_bitsOf : List zI := [
  (0, 1, .iconst 0, (0, 0, 0, 0, 0, 0)), (1, 1, .istore_n 2, (0, 0, 0, 0, 0, 0)), (2, 1, .iconst 0, (0, 0, 0, 0, 0, 0)), (3, 1, .istore_n 3, (0, 0, 0, 0, 0, 0)), (4, 1, .iload_n 3, (0, 0, 0, 0, 0, 0)), (5, 1, .aload_n 0, (0, 0, 0, 0, 0, 0)),
  (6, 3, .getfield 15, (1, 1, 0, 0, 0, 0)), (9, 3, .if_icmp .ge 24, (33, 0, 0, 0, 0, 0)), (12, 1, .aload_n 0, (0, 0, 0, 0, 0, 0)), (13, 1, .iload_n 3, (0, 0, 0, 0, 0, 0)), (14, 1, .iload_n 1, (0, 0, 0, 0, 0, 0)), (15, 3, .invokevirtual 44, (38, 0, 2, 1, 3, 1)),
  (18, 3, .ifCond .eq 9, (27, 0, 0, 0, 0, 0)), (21, 1, .iload_n 2, (0, 0, 0, 0, 0, 0)), (22, 1, .iconst 1, (0, 0, 0, 0, 0, 0)), (23, 1, .iload_n 3, (0, 0, 0, 0, 0, 0)), (24, 1, .ishl, (0, 0, 0, 0, 0, 0)), (25, 1, .ior, (0, 0, 0, 0, 0, 0)),
  (26, 1, .istore_n 2, (0, 0, 0, 0, 0, 0)), (27, 3, .iinc 3 1, (0, 0, 0, 0, 0, 0)), (30, 3, .goto (-26), (4, 0, 0, 0, 0, 0)), (33, 1, .iload_n 2, (0, 0, 0, 0, 0, 0)), (34, 1, .ireturn, (0, 0, 0, 0, 0, 0))]
def z_X1_bulk : List zI := [
  (0, 3, .getstatic 48, (0, 0, 0, 1, 0, 0)), (3, 1, .aload_n 0, (0, 0, 0, 0, 0, 0)), (4, 3, .getfield 22, (1, 3, 2, 0, 0, 0)), (7, 1, .iload_n 1, (0, 0, 0, 0, 0, 0)), (8, 1, .iaload, (0, 0, 0, 0, 0, 0)), (9, 1, .iaload, (0, 0, 0, 0, 0, 0)),
  (10, 1, .ireturn, (0, 0, 0, 0, 0, 0))]
def z_X1_placeWakes : List zI := [
  (0, 3, .getstatic 51, (3, 0, 0, 1, 0, 0)), (3, 1, .aload_n 0, (0, 0, 0, 0, 0, 0)), (4, 3, .getfield 18, (1, 2, 2, 0, 0, 0)), (7, 1, .iload_n 1, (0, 0, 0, 0, 0, 0)), (8, 1, .iaload, (0, 0, 0, 0, 0, 0)), (9, 1, .iaload, (0, 0, 0, 0, 0, 0)),
  (10, 1, .ireturn, (0, 0, 0, 0, 0, 0))]
def z_X2_init : List zI := [
  (0, 1, .aload_n 0, (0, 0, 0, 0, 0, 0)), (1, 3, .invokespecial 3, (0, 4, 0, 0, 0, 0)), (4, 1, .aload_n 0, (0, 0, 0, 0, 0, 0)), (5, 3, .sipush 1098, (0, 0, 0, 0, 0, 0)), (8, 2, .newarray .int, (0, 0, 0, 0, 0, 0)), (10, 3, .putfield 11, (2, 0, 2, 0, 0, 0)),
  (13, 1, .aload_n 0, (0, 0, 0, 0, 0, 0)), (14, 1, .iload_n 1, (0, 0, 0, 0, 0, 0)), (15, 3, .putfield 17, (2, 1, 0, 0, 0, 0)), (18, 1, .return_, (0, 0, 0, 0, 0, 0))]
def z_X2_isMissing : List zI := [
  (0, 1, .aload_n 0, (0, 0, 0, 0, 0, 0)), (1, 3, .getfield 17, (2, 1, 0, 0, 0, 0)), (4, 1, .iconst (-1), (0, 0, 0, 0, 0, 0)), (5, 3, .if_icmp .ne 7, (12, 0, 0, 0, 0, 0)), (8, 1, .iconst 1, (0, 0, 0, 0, 0, 0)), (9, 3, .goto 4, (13, 0, 0, 0, 0, 0)),
  (12, 1, .iconst 0, (0, 0, 0, 0, 0, 0)), (13, 1, .ireturn, (1, 0, 0, 0, 0, 0))]
def z_X2_hasRoomFor : List zI := [
  (0, 1, .iload_n 1, (0, 0, 0, 0, 0, 0)), (1, 2, .bipush 60, (0, 0, 0, 0, 0, 0)), (3, 1, .aload_n 0, (0, 0, 0, 0, 0, 0)), (4, 3, .getfield 17, (2, 1, 0, 0, 0, 0)), (7, 1, .isub, (0, 0, 0, 0, 0, 0)), (8, 3, .if_icmp .gt 7, (15, 0, 0, 0, 0, 0)),
  (11, 1, .iconst 1, (0, 0, 0, 0, 0, 0)), (12, 3, .goto 4, (16, 0, 0, 0, 0, 0)), (15, 1, .iconst 0, (0, 0, 0, 0, 0, 0)), (16, 1, .ireturn, (1, 0, 0, 0, 0, 0))]
def z_X2_begin : List zI := [
  (0, 1, .aload_n 0, (0, 0, 0, 0, 0, 0)), (1, 1, .iconst 0, (0, 0, 0, 0, 0, 0)), (2, 3, .putfield 17, (2, 1, 0, 0, 0, 0)), (5, 1, .aload_n 1, (0, 0, 0, 0, 0, 0)), (6, 1, .aload_n 0, (0, 0, 0, 0, 0, 0)), (7, 3, .getfield 11, (2, 0, 2, 0, 0, 0)),
  (10, 1, .iconst 0, (0, 0, 0, 0, 0, 0)), (11, 3, .invokevirtual 21, (7, 0, 2, 0, 3, 0)), (14, 1, .return_, (0, 0, 0, 0, 0, 0))]
def z_X2_add : List zI := [
  (0, 1, .aload_n 0, (0, 0, 0, 0, 0, 0)), (1, 1, .iconst 1, (0, 0, 0, 0, 0, 0)), (2, 3, .invokevirtual 25, (44, 0, 1, 1, 2, 2)), (5, 3, .ifCond .ne 4, (9, 0, 0, 0, 0, 0)), (8, 1, .return_, (0, 0, 0, 0, 0, 0)), (9, 1, .aload_n 0, (0, 0, 0, 0, 0, 0)),
  (10, 1, .dup, (0, 0, 0, 0, 0, 0)), (11, 3, .getfield 17, (2, 1, 0, 0, 0, 0)), (14, 1, .iconst 1, (0, 0, 0, 0, 0, 0)), (15, 1, .iadd, (0, 0, 0, 0, 0, 0)), (16, 3, .putfield 17, (2, 1, 0, 0, 0, 0)), (19, 1, .aload_n 1, (0, 0, 0, 0, 0, 0)),
  (20, 1, .aload_n 0, (0, 0, 0, 0, 0, 0)), (21, 3, .getfield 11, (2, 0, 2, 0, 0, 0)), (24, 1, .aload_n 0, (0, 0, 0, 0, 0, 0)), (25, 3, .getfield 17, (2, 1, 0, 0, 0, 0)), (28, 2, .bipush 18, (0, 0, 0, 0, 0, 0)), (30, 1, .imul, (0, 0, 0, 0, 0, 0)),
  (31, 3, .invokevirtual 21, (7, 0, 2, 0, 3, 0)), (34, 1, .return_, (0, 0, 0, 0, 0, 0))]
def z_X2_discard : List zI := [
  (0, 1, .aload_n 0, (0, 0, 0, 0, 0, 0)), (1, 1, .iconst (-1), (0, 0, 0, 0, 0, 0)), (2, 3, .putfield 17, (2, 1, 0, 0, 0, 0)), (5, 1, .return_, (0, 0, 0, 0, 0, 0))]
def z_X2_copyFrom : List zI := [
  (0, 1, .aload_n 0, (0, 0, 0, 0, 0, 0)), (1, 1, .aload_n 1, (0, 0, 0, 0, 0, 0)), (2, 3, .getfield 17, (2, 1, 0, 0, 0, 0)), (5, 3, .putfield 17, (2, 1, 0, 0, 0, 0)), (8, 1, .aload_n 1, (0, 0, 0, 0, 0, 0)), (9, 3, .getfield 11, (2, 0, 2, 0, 0, 0)),
  (12, 1, .iconst 0, (0, 0, 0, 0, 0, 0)), (13, 1, .aload_n 0, (0, 0, 0, 0, 0, 0)), (14, 3, .getfield 11, (2, 0, 2, 0, 0, 0)), (17, 1, .iconst 0, (0, 0, 0, 0, 0, 0)), (18, 1, .aload_n 0, (0, 0, 0, 0, 0, 0)), (19, 3, .getfield 11, (2, 0, 2, 0, 0, 0)),
  (22, 1, .arraylength, (0, 0, 0, 0, 0, 0)), (23, 3, .invokestatic 29, (0, 3, 0, 0, 0, 0)), (26, 1, .return_, (0, 0, 0, 0, 0, 0))]
def z_X2_goBackTo : List zI := [
  (0, 1, .iload_n 1, (0, 0, 0, 0, 0, 0)), (1, 3, .ifCond .lt 11, (12, 0, 0, 0, 0, 0)), (4, 1, .iload_n 1, (0, 0, 0, 0, 0, 0)), (5, 1, .aload_n 0, (0, 0, 0, 0, 0, 0)), (6, 3, .getfield 17, (2, 1, 0, 0, 0, 0)), (9, 3, .if_icmp .le 4, (13, 0, 0, 0, 0, 0)),
  (12, 1, .return_, (0, 0, 0, 0, 0, 0)), (13, 1, .aload_n 0, (0, 0, 0, 0, 0, 0)), (14, 1, .iload_n 1, (0, 0, 0, 0, 0, 0)), (15, 3, .putfield 17, (2, 1, 0, 0, 0, 0)), (18, 1, .aload_n 2, (0, 0, 0, 0, 0, 0)), (19, 1, .aload_n 0, (0, 0, 0, 0, 0, 0)),
  (20, 3, .getfield 11, (2, 0, 2, 0, 0, 0)), (23, 1, .iload_n 1, (0, 0, 0, 0, 0, 0)), (24, 2, .bipush 18, (0, 0, 0, 0, 0, 0)), (26, 1, .imul, (0, 0, 0, 0, 0, 0)), (27, 3, .invokevirtual 35, (8, 0, 2, 0, 4, 0)), (30, 1, .return_, (0, 0, 0, 0, 0, 0))]
def z_X3_init : List zI := [
  (0, 1, .aload_n 0, (0, 0, 0, 0, 0, 0)), (1, 3, .invokespecial 3, (0, 4, 0, 0, 0, 0)), (4, 1, .aload_n 0, (0, 0, 0, 0, 0, 0)), (5, 1, .iconst 0, (0, 0, 0, 0, 0, 0)), (6, 3, .putfield 9, (3, 2, 0, 0, 0, 0)), (9, 1, .aload_n 0, (0, 0, 0, 0, 0, 0)),
  (10, 1, .aload_n 1, (0, 0, 0, 0, 0, 0)), (11, 3, .putfield 15, (3, 0, 2, 0, 0, 0)), (14, 1, .aload_n 0, (0, 0, 0, 0, 0, 0)), (15, 1, .aload_n 2, (0, 0, 0, 0, 0, 0)), (16, 3, .putfield 19, (3, 1, 2, 0, 0, 0)), (19, 1, .return_, (0, 0, 0, 0, 0, 0))]
def z_X3_read : List zI := [
  (0, 1, .aload_n 0, (0, 0, 0, 0, 0, 0)), (1, 3, .invokevirtual 23, (52, 0, 0, 0, 1, 3)), (4, 1, .aload_n 0, (0, 0, 0, 0, 0, 0)), (5, 3, .invokevirtual 26, (53, 0, 0, 1, 2, 3)), (8, 3, .ifCond .ne 8, (16, 0, 0, 0, 0, 0)), (11, 1, .aload_n 0, (0, 0, 0, 0, 0, 0)),
  (12, 3, .getfield 9, (3, 2, 0, 0, 0, 0)), (15, 1, .ireturn, (0, 0, 0, 0, 0, 0)), (16, 1, .aload_n 0, (0, 0, 0, 0, 0, 0)), (17, 3, .invokevirtual 23, (52, 0, 0, 0, 1, 3)), (20, 1, .aload_n 0, (0, 0, 0, 0, 0, 0)), (21, 3, .getfield 19, (3, 1, 2, 0, 0, 0)),
  (24, 3, .invokevirtual 30, (36, 0, 0, 1, 1, 1)), (27, 1, .istore_n 1, (0, 0, 0, 0, 0, 0)), (28, 1, .iconst 0, (0, 0, 0, 0, 0, 0)), (29, 1, .istore_n 2, (0, 0, 0, 0, 0, 0)), (30, 1, .iload_n 2, (0, 0, 0, 0, 0, 0)), (31, 1, .iload_n 1, (0, 0, 0, 0, 0, 0)),
  (32, 3, .if_icmp .ge 39, (71, 0, 0, 0, 0, 0)), (35, 1, .aload_n 0, (0, 0, 0, 0, 0, 0)), (36, 3, .getfield 9, (3, 2, 0, 0, 0, 0)), (39, 1, .aload_n 0, (0, 0, 0, 0, 0, 0)), (40, 3, .getfield 15, (3, 0, 2, 0, 0, 0)), (43, 3, .getfield 36, (4, 1, 0, 1, 0, 0)),
  (46, 3, .if_icmp .ge 25, (71, 0, 0, 0, 0, 0)), (49, 1, .aload_n 0, (0, 0, 0, 0, 0, 0)), (50, 3, .invokevirtual 41, (54, 0, 0, 1, 5, 3)), (53, 3, .ifCond .ne 8, (61, 0, 0, 0, 0, 0)), (56, 1, .aload_n 0, (0, 0, 0, 0, 0, 0)), (57, 3, .getfield 9, (3, 2, 0, 0, 0, 0)),
  (60, 1, .ireturn, (0, 0, 0, 0, 0, 0)), (61, 1, .aload_n 0, (0, 0, 0, 0, 0, 0)), (62, 3, .invokevirtual 23, (52, 0, 0, 0, 1, 3)), (65, 3, .iinc 2 1, (0, 0, 0, 0, 0, 0)), (68, 3, .goto (-38), (30, 0, 0, 0, 0, 0)), (71, 1, .aload_n 0, (0, 0, 0, 0, 0, 0)),
  (72, 3, .getfield 19, (3, 1, 2, 0, 0, 0)), (75, 3, .getfield 44, (1, 1, 0, 1, 0, 0)), (78, 3, .ifCond .le 22, (100, 0, 0, 0, 0, 0)), (81, 1, .aload_n 0, (0, 0, 0, 0, 0, 0)), (82, 3, .getfield 9, (3, 2, 0, 0, 0, 0)), (85, 1, .aload_n 0, (0, 0, 0, 0, 0, 0)),
  (86, 3, .getfield 15, (3, 0, 2, 0, 0, 0)), (89, 3, .getfield 36, (4, 1, 0, 1, 0, 0)), (92, 3, .if_icmp .ne 8, (100, 0, 0, 0, 0, 0)), (95, 2, .bipush (-9), (0, 0, 0, 0, 0, 0)), (97, 3, .goto 7, (104, 0, 0, 0, 0, 0)), (100, 1, .aload_n 0, (0, 0, 0, 0, 0, 0)),
  (101, 3, .getfield 9, (3, 2, 0, 0, 0, 0)), (104, 1, .ireturn, (0, 0, 0, 0, 0, 0))]
def z_X3_skipBlanks : List zI := [
  (0, 1, .aload_n 0, (0, 0, 0, 0, 0, 0)), (1, 3, .getfield 9, (3, 2, 0, 0, 0, 0)), (4, 1, .aload_n 0, (0, 0, 0, 0, 0, 0)), (5, 3, .getfield 15, (3, 0, 2, 0, 0, 0)), (8, 3, .getfield 36, (4, 1, 0, 1, 0, 0)), (11, 3, .if_icmp .ge 32, (43, 0, 0, 0, 0, 0)),
  (14, 1, .aload_n 0, (0, 0, 0, 0, 0, 0)), (15, 3, .getfield 15, (3, 0, 2, 0, 0, 0)), (18, 1, .aload_n 0, (0, 0, 0, 0, 0, 0)), (19, 3, .getfield 9, (3, 2, 0, 0, 0, 0)), (22, 3, .invokevirtual 47, (61, 0, 1, 1, 2, 4)), (25, 2, .bipush 32, (0, 0, 0, 0, 0, 0)),
  (27, 3, .if_icmp .ne 16, (43, 0, 0, 0, 0, 0)), (30, 1, .aload_n 0, (0, 0, 0, 0, 0, 0)), (31, 1, .dup, (0, 0, 0, 0, 0, 0)), (32, 3, .getfield 9, (3, 2, 0, 0, 0, 0)), (35, 1, .iconst 1, (0, 0, 0, 0, 0, 0)), (36, 1, .iadd, (0, 0, 0, 0, 0, 0)),
  (37, 3, .putfield 9, (3, 2, 0, 0, 0, 0)), (40, 3, .goto (-40), (0, 0, 0, 0, 0, 0)), (43, 1, .return_, (0, 0, 0, 0, 0, 0))]
def z_X3_readHooks : List zI := [
  (0, 1, .aload_n 0, (0, 0, 0, 0, 0, 0)), (1, 3, .getfield 15, (3, 0, 2, 0, 0, 0)), (4, 1, .aload_n 0, (0, 0, 0, 0, 0, 0)), (5, 3, .getfield 9, (3, 2, 0, 0, 0, 0)), (8, 3, .invokevirtual 51, (59, 0, 1, 1, 2, 4)), (11, 3, .ifCond .eq 19, (30, 0, 0, 0, 0, 0)),
  (14, 1, .aload_n 0, (0, 0, 0, 0, 0, 0)), (15, 3, .getfield 15, (3, 0, 2, 0, 0, 0)), (18, 1, .aload_n 0, (0, 0, 0, 0, 0, 0)), (19, 3, .getfield 9, (3, 2, 0, 0, 0, 0)), (22, 3, .invokevirtual 47, (61, 0, 1, 1, 2, 4)), (25, 2, .bipush 107, (0, 0, 0, 0, 0, 0)),
  (27, 3, .if_icmp .eq 5, (32, 0, 0, 0, 0, 0)), (30, 1, .iconst 0, (0, 0, 0, 0, 0, 0)), (31, 1, .ireturn, (1, 0, 0, 0, 0, 0)), (32, 1, .aload_n 0, (0, 0, 0, 0, 0, 0)), (33, 1, .dup, (0, 0, 0, 0, 0, 0)), (34, 3, .getfield 9, (3, 2, 0, 0, 0, 0)),
  (37, 1, .iconst 1, (0, 0, 0, 0, 0, 0)), (38, 1, .iadd, (0, 0, 0, 0, 0, 0)), (39, 3, .putfield 9, (3, 2, 0, 0, 0, 0)), (42, 1, .aload_n 0, (0, 0, 0, 0, 0, 0)), (43, 3, .getfield 9, (3, 2, 0, 0, 0, 0)), (46, 1, .aload_n 0, (0, 0, 0, 0, 0, 0)),
  (47, 3, .getfield 15, (3, 0, 2, 0, 0, 0)), (50, 3, .getfield 36, (4, 1, 0, 1, 0, 0)), (53, 3, .if_icmp .ge 55, (108, 0, 0, 0, 0, 0)), (56, 1, .aload_n 0, (0, 0, 0, 0, 0, 0)), (57, 3, .getstatic 55, (2, 0, 0, 1, 0, 0)), (60, 3, .invokevirtual 59, (55, 0, 1, 1, 3, 3)),
  (63, 1, .istore_n 1, (0, 0, 0, 0, 0, 0)), (64, 1, .iload_n 1, (0, 0, 0, 0, 0, 0)), (65, 2, .bipush (-9), (0, 0, 0, 0, 0, 0)), (67, 3, .if_icmp .ne 6, (73, 0, 0, 0, 0, 0)), (70, 3, .goto 38, (108, 0, 0, 0, 0, 0)), (73, 1, .aload_n 0, (0, 0, 0, 0, 0, 0)),
  (74, 3, .getfield 19, (3, 1, 2, 0, 0, 0)), (77, 3, .getfield 63, (1, 0, 0, 1, 0, 0)), (80, 2, .bipush 7, (0, 0, 0, 0, 0, 0)), (82, 3, .if_icmp .ne 5, (87, 0, 0, 0, 0, 0)), (85, 1, .iconst 0, (0, 0, 0, 0, 0, 0)), (86, 1, .ireturn, (1, 0, 0, 0, 0, 0)),
  (87, 1, .aload_n 0, (0, 0, 0, 0, 0, 0)), (88, 3, .getfield 19, (3, 1, 2, 0, 0, 0)), (91, 1, .iload_n 1, (0, 0, 0, 0, 0, 0)), (92, 3, .invokevirtual 66, (34, 0, 1, 0, 2, 1)), (95, 1, .aload_n 0, (0, 0, 0, 0, 0, 0)), (96, 1, .dup, (0, 0, 0, 0, 0, 0)),
  (97, 3, .getfield 9, (3, 2, 0, 0, 0, 0)), (100, 1, .iconst 1, (0, 0, 0, 0, 0, 0)), (101, 1, .iadd, (0, 0, 0, 0, 0, 0)), (102, 3, .putfield 9, (3, 2, 0, 0, 0, 0)), (105, 3, .goto (-63), (42, 2, 0, 0, 0, 0)), (108, 1, .aload_n 0, (0, 0, 0, 0, 0, 0)),
  (109, 3, .getfield 19, (3, 1, 2, 0, 0, 0)), (112, 3, .getfield 63, (1, 0, 0, 1, 0, 0)), (115, 1, .iconst 2, (0, 0, 0, 0, 0, 0)), (116, 3, .if_icmp .lt 7, (123, 0, 0, 0, 0, 0)), (119, 1, .iconst 1, (0, 0, 0, 0, 0, 0)), (120, 3, .goto 4, (124, 0, 0, 0, 0, 0)),
  (123, 1, .iconst 0, (0, 0, 0, 0, 0, 0)), (124, 1, .ireturn, (1, 0, 0, 0, 0, 0))]
def z_X3_readMan : List zI := [
  (0, 1, .aload_n 0, (0, 0, 0, 0, 0, 0)), (1, 3, .getstatic 70, (1, 0, 0, 1, 0, 0)), (4, 3, .invokevirtual 59, (55, 0, 1, 1, 3, 3)), (7, 1, .istore_n 1, (0, 0, 0, 0, 0, 0)), (8, 1, .iload_n 1, (0, 0, 0, 0, 0, 0)), (9, 2, .bipush (-9), (0, 0, 0, 0, 0, 0)),
  (11, 3, .if_icmp .ne 5, (16, 0, 0, 0, 0, 0)), (14, 1, .iconst 0, (0, 0, 0, 0, 0, 0)), (15, 1, .ireturn, (1, 0, 0, 0, 0, 0)), (16, 1, .aload_n 0, (0, 0, 0, 0, 0, 0)), (17, 1, .dup, (0, 0, 0, 0, 0, 0)), (18, 3, .getfield 9, (3, 2, 0, 0, 0, 0)),
  (21, 1, .iconst 1, (0, 0, 0, 0, 0, 0)), (22, 1, .iadd, (0, 0, 0, 0, 0, 0)), (23, 3, .putfield 9, (3, 2, 0, 0, 0, 0)), (26, 1, .aload_n 0, (0, 0, 0, 0, 0, 0)), (27, 1, .iconst 1, (0, 0, 0, 0, 0, 0)), (28, 2, .bipush 9, (0, 0, 0, 0, 0, 0)),
  (30, 3, .invokevirtual 73, (56, 0, 2, 1, 4, 3)), (33, 1, .istore_n 2, (0, 0, 0, 0, 0, 0)), (34, 1, .iload_n 2, (0, 0, 0, 0, 0, 0)), (35, 2, .bipush (-9), (0, 0, 0, 0, 0, 0)), (37, 3, .if_icmp .ne 5, (42, 0, 0, 0, 0, 0)), (40, 1, .iconst 0, (0, 0, 0, 0, 0, 0)),
  (41, 1, .ireturn, (1, 0, 0, 0, 0, 0)), (42, 1, .aload_n 0, (0, 0, 0, 0, 0, 0)), (43, 1, .iconst 0, (0, 0, 0, 0, 0, 0)), (44, 1, .iconst 1, (0, 0, 0, 0, 0, 0)), (45, 3, .invokevirtual 73, (56, 0, 2, 1, 4, 3)), (48, 1, .istore_n 3, (0, 0, 0, 0, 0, 0)),
  (49, 1, .iload_n 3, (0, 0, 0, 0, 0, 0)), (50, 2, .bipush (-9), (0, 0, 0, 0, 0, 0)), (52, 3, .if_icmp .ne 5, (57, 0, 0, 0, 0, 0)), (55, 1, .iconst 0, (0, 0, 0, 0, 0, 0)), (56, 1, .ireturn, (1, 0, 0, 0, 0, 0)), (57, 1, .aload_n 0, (0, 0, 0, 0, 0, 0)),
  (58, 1, .iconst 0, (0, 0, 0, 0, 0, 0)), (59, 1, .iconst 3, (0, 0, 0, 0, 0, 0)), (60, 3, .invokevirtual 73, (56, 0, 2, 1, 4, 3)), (63, 2, .istore 4, (0, 0, 0, 0, 0, 0)), (65, 2, .iload 4, (0, 0, 0, 0, 0, 0)), (67, 2, .bipush (-9), (0, 0, 0, 0, 0, 0)),
  (69, 3, .if_icmp .ne 5, (74, 0, 0, 0, 0, 0)), (72, 1, .iconst 0, (0, 0, 0, 0, 0, 0)), (73, 1, .ireturn, (1, 0, 0, 0, 0, 0)), (74, 1, .aload_n 0, (0, 0, 0, 0, 0, 0)), (75, 3, .getfield 19, (3, 1, 2, 0, 0, 0)), (78, 1, .iload_n 1, (0, 0, 0, 0, 0, 0)),
  (79, 1, .iload_n 2, (0, 0, 0, 0, 0, 0)), (80, 1, .iload_n 3, (0, 0, 0, 0, 0, 0)), (81, 2, .iload 4, (0, 0, 0, 0, 0, 0)), (83, 3, .invokevirtual 77, (35, 0, 4, 0, 5, 1)), (86, 1, .iconst 1, (0, 0, 0, 0, 0, 0)), (87, 1, .ireturn, (1, 0, 0, 0, 0, 0))]
def z_X3_letterIn : List zI := [
  (0, 1, .iconst 0, (0, 0, 0, 0, 0, 0)), (1, 1, .istore_n 2, (0, 0, 0, 0, 0, 0)), (2, 1, .iload_n 2, (0, 0, 0, 0, 0, 0)), (3, 1, .aload_n 1, (0, 0, 0, 0, 0, 0)), (4, 1, .arraylength, (0, 0, 0, 0, 0, 0)), (5, 3, .if_icmp .ge 42, (47, 0, 0, 0, 0, 0)),
  (8, 1, .aload_n 0, (0, 0, 0, 0, 0, 0)), (9, 3, .getfield 15, (3, 0, 2, 0, 0, 0)), (12, 1, .aload_n 0, (0, 0, 0, 0, 0, 0)), (13, 3, .getfield 9, (3, 2, 0, 0, 0, 0)), (16, 3, .invokevirtual 51, (59, 0, 1, 1, 2, 4)), (19, 3, .ifCond .eq 22, (41, 0, 0, 0, 0, 0)),
  (22, 1, .aload_n 0, (0, 0, 0, 0, 0, 0)), (23, 3, .getfield 15, (3, 0, 2, 0, 0, 0)), (26, 1, .aload_n 0, (0, 0, 0, 0, 0, 0)), (27, 3, .getfield 9, (3, 2, 0, 0, 0, 0)), (30, 3, .invokevirtual 47, (61, 0, 1, 1, 2, 4)), (33, 1, .aload_n 1, (0, 0, 0, 0, 0, 0)),
  (34, 1, .iload_n 2, (0, 0, 0, 0, 0, 0)), (35, 1, .caload, (0, 0, 0, 0, 0, 0)), (36, 3, .if_icmp .ne 5, (41, 0, 0, 0, 0, 0)), (39, 1, .iload_n 2, (0, 0, 0, 0, 0, 0)), (40, 1, .ireturn, (0, 0, 0, 0, 0, 0)), (41, 3, .iinc 2 1, (0, 0, 0, 0, 0, 0)),
  (44, 3, .goto (-42), (2, 0, 0, 0, 0, 0)), (47, 2, .bipush (-9), (0, 0, 0, 0, 0, 0)), (49, 1, .ireturn, (0, 0, 0, 0, 0, 0))]
def z_X3_readFigure : List zI := [
  (0, 1, .aload_n 0, (0, 0, 0, 0, 0, 0)), (1, 3, .getfield 15, (3, 0, 2, 0, 0, 0)), (4, 1, .aload_n 0, (0, 0, 0, 0, 0, 0)), (5, 3, .getfield 9, (3, 2, 0, 0, 0, 0)), (8, 3, .invokevirtual 51, (59, 0, 1, 1, 2, 4)), (11, 3, .ifCond .eq 20, (31, 0, 0, 0, 0, 0)),
  (14, 1, .aload_n 0, (0, 0, 0, 0, 0, 0)), (15, 3, .getfield 15, (3, 0, 2, 0, 0, 0)), (18, 1, .aload_n 0, (0, 0, 0, 0, 0, 0)), (19, 3, .getfield 9, (3, 2, 0, 0, 0, 0)), (22, 3, .invokevirtual 47, (61, 0, 1, 1, 2, 4)), (25, 2, .bipush 48, (0, 0, 0, 0, 0, 0)),
  (27, 1, .isub, (0, 0, 0, 0, 0, 0)), (28, 3, .goto 5, (33, 0, 0, 0, 0, 0)), (31, 2, .bipush (-9), (0, 0, 0, 0, 0, 0)), (33, 1, .istore_n 3, (0, 0, 0, 0, 0, 0)), (34, 1, .iload_n 3, (0, 0, 0, 0, 0, 0)), (35, 1, .iload_n 1, (0, 0, 0, 0, 0, 0)),
  (36, 3, .if_icmp .lt 8, (44, 0, 0, 0, 0, 0)), (39, 1, .iload_n 3, (0, 0, 0, 0, 0, 0)), (40, 1, .iload_n 2, (0, 0, 0, 0, 0, 0)), (41, 3, .if_icmp .le 6, (47, 0, 0, 0, 0, 0)), (44, 2, .bipush (-9), (0, 0, 0, 0, 0, 0)), (46, 1, .ireturn, (0, 0, 0, 0, 0, 0)),
  (47, 1, .aload_n 0, (0, 0, 0, 0, 0, 0)), (48, 1, .dup, (0, 0, 0, 0, 0, 0)), (49, 3, .getfield 9, (3, 2, 0, 0, 0, 0)), (52, 1, .iconst 1, (0, 0, 0, 0, 0, 0)), (53, 1, .iadd, (0, 0, 0, 0, 0, 0)), (54, 3, .putfield 9, (3, 2, 0, 0, 0, 0)),
  (57, 1, .iload_n 3, (0, 0, 0, 0, 0, 0)), (58, 1, .ireturn, (0, 0, 0, 0, 0, 0))]
def z_X4_init : List zI := [
  (0, 1, .aload_n 0, (0, 0, 0, 0, 0, 0)), (1, 3, .invokespecial 3, (0, 4, 0, 0, 0, 0)), (4, 1, .aload_n 0, (0, 0, 0, 0, 0, 0)), (5, 2, .bipush 60, (0, 0, 0, 0, 0, 0)), (7, 2, .newarray .int, (0, 0, 0, 0, 0, 0)), (9, 3, .putfield 9, (4, 0, 2, 0, 0, 0)),
  (12, 1, .aload_n 0, (0, 0, 0, 0, 0, 0)), (13, 1, .iconst (-1), (0, 0, 0, 0, 0, 0)), (14, 3, .putfield 15, (4, 1, 0, 0, 0, 0)), (17, 1, .return_, (0, 0, 0, 0, 0, 0))]
def z_X4_isMissing : List zI := [
  (0, 1, .aload_n 0, (0, 0, 0, 0, 0, 0)), (1, 3, .getfield 15, (4, 1, 0, 0, 0, 0)), (4, 1, .iconst (-1), (0, 0, 0, 0, 0, 0)), (5, 3, .if_icmp .ne 7, (12, 0, 0, 0, 0, 0)), (8, 1, .iconst 1, (0, 0, 0, 0, 0, 0)), (9, 3, .goto 4, (13, 0, 0, 0, 0, 0)),
  (12, 1, .iconst 0, (0, 0, 0, 0, 0, 0)), (13, 1, .ireturn, (1, 0, 0, 0, 0, 0))]
def z_X4_has : List zI := [
  (0, 1, .iload_n 1, (0, 0, 0, 0, 0, 0)), (1, 3, .ifCond .lt 15, (16, 0, 0, 0, 0, 0)), (4, 1, .iload_n 1, (0, 0, 0, 0, 0, 0)), (5, 1, .aload_n 0, (0, 0, 0, 0, 0, 0)), (6, 3, .getfield 15, (4, 1, 0, 0, 0, 0)), (9, 3, .if_icmp .ge 7, (16, 0, 0, 0, 0, 0)),
  (12, 1, .iconst 1, (0, 0, 0, 0, 0, 0)), (13, 3, .goto 4, (17, 0, 0, 0, 0, 0)), (16, 1, .iconst 0, (0, 0, 0, 0, 0, 0)), (17, 1, .ireturn, (1, 0, 0, 0, 0, 0))]
def z_X4_spans : List zI := [
  (0, 1, .iload_n 1, (0, 0, 0, 0, 0, 0)), (1, 3, .ifCond .lt 29, (30, 0, 0, 0, 0, 0)), (4, 1, .iload_n 1, (0, 0, 0, 0, 0, 0)), (5, 1, .aload_n 0, (0, 0, 0, 0, 0, 0)), (6, 3, .getfield 15, (4, 1, 0, 0, 0, 0)), (9, 3, .if_icmp .gt 21, (30, 0, 0, 0, 0, 0)),
  (12, 1, .iload_n 2, (0, 0, 0, 0, 0, 0)), (13, 3, .ifCond .lt 17, (30, 0, 0, 0, 0, 0)), (16, 1, .iload_n 2, (0, 0, 0, 0, 0, 0)), (17, 1, .aload_n 0, (0, 0, 0, 0, 0, 0)), (18, 3, .getfield 15, (4, 1, 0, 0, 0, 0)), (21, 1, .iload_n 1, (0, 0, 0, 0, 0, 0)),
  (22, 1, .isub, (0, 0, 0, 0, 0, 0)), (23, 3, .if_icmp .gt 7, (30, 0, 0, 0, 0, 0)), (26, 1, .iconst 1, (0, 0, 0, 0, 0, 0)), (27, 3, .goto 4, (31, 0, 0, 0, 0, 0)), (30, 1, .iconst 0, (0, 0, 0, 0, 0, 0)), (31, 1, .ireturn, (1, 0, 0, 0, 0, 0))]
def z_X4_get : List zI := [
  (0, 1, .aload_n 0, (0, 0, 0, 0, 0, 0)), (1, 1, .iload_n 1, (0, 0, 0, 0, 0, 0)), (2, 3, .invokevirtual 19, (59, 0, 1, 1, 2, 4)), (5, 3, .ifCond .eq 12, (17, 0, 0, 0, 0, 0)), (8, 1, .aload_n 0, (0, 0, 0, 0, 0, 0)), (9, 3, .getfield 9, (4, 0, 2, 0, 0, 0)),
  (12, 1, .iload_n 1, (0, 0, 0, 0, 0, 0)), (13, 1, .iaload, (0, 0, 0, 0, 0, 0)), (14, 3, .goto 4, (18, 0, 0, 0, 0, 0)), (17, 1, .iconst 0, (0, 0, 0, 0, 0, 0)), (18, 1, .ireturn, (0, 0, 0, 0, 0, 0))]
def z_X4_set : List zI := [
  (0, 1, .aload_n 0, (0, 0, 0, 0, 0, 0)), (1, 1, .iload_n 1, (0, 0, 0, 0, 0, 0)), (2, 3, .invokevirtual 19, (59, 0, 1, 1, 2, 4)), (5, 3, .ifCond .eq 10, (15, 0, 0, 0, 0, 0)), (8, 1, .aload_n 0, (0, 0, 0, 0, 0, 0)), (9, 3, .getfield 9, (4, 0, 2, 0, 0, 0)),
  (12, 1, .iload_n 1, (0, 0, 0, 0, 0, 0)), (13, 1, .iload_n 2, (0, 0, 0, 0, 0, 0)), (14, 1, .iastore, (0, 0, 0, 0, 0, 0)), (15, 1, .return_, (0, 0, 0, 0, 0, 0))]
def z_X4_renew : List zI := [
  (0, 1, .aload_n 0, (0, 0, 0, 0, 0, 0)), (1, 1, .iconst 0, (0, 0, 0, 0, 0, 0)), (2, 1, .iload_n 1, (0, 0, 0, 0, 0, 0)), (3, 1, .aload_n 0, (0, 0, 0, 0, 0, 0)), (4, 3, .getfield 9, (4, 0, 2, 0, 0, 0)), (7, 1, .arraylength, (0, 0, 0, 0, 0, 0)),
  (8, 3, .invokestatic 23, (0, 7, 0, 0, 0, 0)), (11, 3, .invokestatic 29, (0, 6, 0, 0, 0, 0)), (14, 3, .putfield 15, (4, 1, 0, 0, 0, 0)), (17, 1, .aload_n 0, (0, 0, 0, 0, 0, 0)), (18, 3, .getfield 9, (4, 0, 2, 0, 0, 0)), (21, 1, .iload_n 2, (0, 0, 0, 0, 0, 0)),
  (22, 3, .invokestatic 32, (240, 2, 2, 0, 4, 0)), (25, 1, .return_, (0, 0, 0, 0, 0, 0))]
def z_X4_discard : List zI := [
  (0, 1, .aload_n 0, (0, 0, 0, 0, 0, 0)), (1, 1, .iconst (-1), (0, 0, 0, 0, 0, 0)), (2, 3, .putfield 15, (4, 1, 0, 0, 0, 0)), (5, 1, .return_, (0, 0, 0, 0, 0, 0))]
def z_X4_copyTo : List zI := [
  (0, 1, .aload_n 0, (0, 0, 0, 0, 0, 0)), (1, 1, .iload_n 1, (0, 0, 0, 0, 0, 0)), (2, 2, .iload 4, (0, 0, 0, 0, 0, 0)), (4, 3, .invokevirtual 38, (60, 0, 2, 1, 3, 4)), (7, 3, .ifCond .eq 28, (35, 0, 0, 0, 0, 0)), (10, 1, .aload_n 2, (0, 0, 0, 0, 0, 0)),
  (11, 1, .iload_n 3, (0, 0, 0, 0, 0, 0)), (12, 2, .iload 4, (0, 0, 0, 0, 0, 0)), (14, 3, .invokevirtual 38, (60, 0, 2, 1, 3, 4)), (17, 3, .ifCond .eq 18, (35, 0, 0, 0, 0, 0)), (20, 1, .aload_n 0, (0, 0, 0, 0, 0, 0)), (21, 3, .getfield 9, (4, 0, 2, 0, 0, 0)),
  (24, 1, .iload_n 1, (0, 0, 0, 0, 0, 0)), (25, 1, .aload_n 2, (0, 0, 0, 0, 0, 0)), (26, 3, .getfield 9, (4, 0, 2, 0, 0, 0)), (29, 1, .iload_n 3, (0, 0, 0, 0, 0, 0)), (30, 2, .iload 4, (0, 0, 0, 0, 0, 0)), (32, 3, .invokestatic 42, (0, 3, 0, 0, 0, 0)),
  (35, 1, .return_, (0, 0, 0, 0, 0, 0))]
def z_X4_sum : List zI := [
  (0, 1, .lconst 0, (0, 0, 0, 0, 0, 0)), (1, 1, .lstore_n 1, (0, 0, 0, 0, 0, 0)), (2, 1, .iconst 0, (0, 0, 0, 0, 0, 0)), (3, 1, .istore_n 3, (0, 0, 0, 0, 0, 0)), (4, 1, .iload_n 3, (0, 0, 0, 0, 0, 0)), (5, 1, .aload_n 0, (0, 0, 0, 0, 0, 0)),
  (6, 3, .getfield 15, (4, 1, 0, 0, 0, 0)), (9, 3, .if_icmp .ge 18, (27, 0, 0, 0, 0, 0)), (12, 1, .lload_n 1, (0, 0, 0, 0, 0, 0)), (13, 1, .aload_n 0, (0, 0, 0, 0, 0, 0)), (14, 1, .iload_n 3, (0, 0, 0, 0, 0, 0)), (15, 3, .invokevirtual 48, (61, 0, 1, 1, 2, 4)),
  (18, 1, .i2l, (0, 0, 0, 0, 0, 0)), (19, 1, .ladd, (0, 0, 0, 0, 0, 0)), (20, 1, .lstore_n 1, (0, 0, 0, 0, 0, 0)), (21, 3, .iinc 3 1, (0, 0, 0, 0, 0, 0)), (24, 3, .goto (-20), (4, 0, 0, 0, 0, 0)), (27, 1, .lload_n 1, (0, 0, 0, 0, 0, 0)),
  (28, 1, .lreturn, (0, 0, 0, 0, 0, 0))]
def z_X4_digestedOnto : List zI := [
  (0, 3, .ldc2_w 52, (0, 0, 0, 0, 0, 31)), (3, 1, .lload_n 1, (0, 0, 0, 0, 0, 0)), (4, 1, .lmul, (0, 0, 0, 0, 0, 0)), (5, 1, .aload_n 0, (0, 0, 0, 0, 0, 0)), (6, 3, .getfield 15, (4, 1, 0, 0, 0, 0)), (9, 1, .i2l, (0, 0, 0, 0, 0, 0)),
  (10, 1, .ladd, (0, 0, 0, 0, 0, 0)), (11, 1, .lstore_n 3, (0, 0, 0, 0, 0, 0)), (12, 1, .iconst 0, (0, 0, 0, 0, 0, 0)), (13, 2, .istore 5, (0, 0, 0, 0, 0, 0)), (15, 2, .iload 5, (0, 0, 0, 0, 0, 0)), (17, 1, .aload_n 0, (0, 0, 0, 0, 0, 0)),
  (18, 3, .getfield 15, (4, 1, 0, 0, 0, 0)), (21, 3, .if_icmp .ge 23, (44, 0, 0, 0, 0, 0)), (24, 3, .ldc2_w 52, (0, 0, 0, 0, 0, 31)), (27, 1, .lload_n 3, (0, 0, 0, 0, 0, 0)), (28, 1, .lmul, (0, 0, 0, 0, 0, 0)), (29, 1, .aload_n 0, (0, 0, 0, 0, 0, 0)),
  (30, 2, .iload 5, (0, 0, 0, 0, 0, 0)), (32, 3, .invokevirtual 48, (61, 0, 1, 1, 2, 4)), (35, 1, .i2l, (0, 0, 0, 0, 0, 0)), (36, 1, .ladd, (0, 0, 0, 0, 0, 0)), (37, 1, .lstore_n 3, (0, 0, 0, 0, 0, 0)), (38, 3, .iinc 5 1, (0, 0, 0, 0, 0, 0)),
  (41, 3, .goto (-26), (15, 0, 0, 0, 0, 0)), (44, 1, .lload_n 3, (0, 0, 0, 0, 0, 0)), (45, 1, .lreturn, (0, 0, 0, 0, 0, 0))]
def z_X5_init : List zI := [
  (0, 1, .aload_n 0, (0, 0, 0, 0, 0, 0)), (1, 3, .invokespecial 1, (0, 4, 0, 0, 0, 0)), (4, 1, .aload_n 0, (0, 0, 0, 0, 0, 0)), (5, 2, .bipush 6, (0, 0, 0, 0, 0, 0)), (7, 3, .anewarray 9, (4, 0, 0, 0, 0, 0)), (10, 3, .putfield 11, (5, 0, 2, 0, 0, 0)),
  (13, 1, .aload_n 0, (0, 0, 0, 0, 0, 0)), (14, 1, .iconst 4, (0, 0, 0, 0, 0, 0)), (15, 3, .anewarray 9, (4, 0, 0, 0, 0, 0)), (18, 3, .putfield 15, (5, 1, 2, 0, 0, 0)), (21, 1, .aload_n 0, (0, 0, 0, 0, 0, 0)), (22, 3, .new 18, (1, 0, 0, 0, 0, 0)),
  (25, 1, .dup, (0, 0, 0, 0, 0, 0)), (26, 3, .invokespecial 20, (31, 1, 0, 0, 1, 0)), (29, 3, .putfield 21, (5, 2, 2, 0, 0, 0)), (32, 1, .aload_n 0, (0, 0, 0, 0, 0, 0)), (33, 3, .new 25, (0, 0, 0, 0, 0, 0)), (36, 1, .dup, (0, 0, 0, 0, 0, 0)),
  (37, 1, .aload_n 0, (0, 0, 0, 0, 0, 0)), (38, 3, .getfield 21, (5, 2, 2, 0, 0, 0)), (41, 3, .invokespecial 27, (1, 1, 1, 0, 2, 0)), (44, 3, .putfield 30, (5, 3, 2, 0, 0, 0)), (47, 1, .aload_n 0, (0, 0, 0, 0, 0, 0)), (48, 3, .new 25, (0, 0, 0, 0, 0, 0)),
  (51, 1, .dup, (0, 0, 0, 0, 0, 0)), (52, 1, .aload_n 0, (0, 0, 0, 0, 0, 0)), (53, 3, .getfield 21, (5, 2, 2, 0, 0, 0)), (56, 3, .invokespecial 27, (1, 1, 1, 0, 2, 0)), (59, 3, .putfield 34, (5, 4, 2, 0, 0, 0)), (62, 1, .aload_n 0, (0, 0, 0, 0, 0, 0)),
  (63, 3, .new 37, (2, 0, 0, 0, 0, 0)), (66, 1, .dup, (0, 0, 0, 0, 0, 0)), (67, 1, .iconst 0, (0, 0, 0, 0, 0, 0)), (68, 3, .invokespecial 39, (42, 1, 1, 0, 2, 0)), (71, 3, .putfield 42, (5, 5, 2, 0, 0, 0)), (74, 1, .aload_n 0, (0, 0, 0, 0, 0, 0)),
  (75, 1, .iconst 3, (0, 0, 0, 0, 0, 0)), (76, 3, .anewarray 37, (2, 0, 0, 0, 0, 0)), (79, 3, .putfield 46, (5, 6, 2, 0, 0, 0)), (82, 1, .aload_n 0, (0, 0, 0, 0, 0, 0)), (83, 1, .iconst 0, (0, 0, 0, 0, 0, 0)), (84, 3, .putfield 50, (5, 7, 0, 0, 0, 0)),
  (87, 1, .aload_n 0, (0, 0, 0, 0, 0, 0)), (88, 1, .lconst 0, (0, 0, 0, 0, 0, 0)), (89, 3, .putfield 54, (5, 8, 1, 0, 0, 0)), (92, 1, .aload_n 0, (0, 0, 0, 0, 0, 0)), (93, 1, .lconst 1, (0, 0, 0, 0, 0, 0)), (94, 3, .putfield 58, (5, 9, 1, 0, 0, 0)),
  (97, 1, .aload_n 0, (0, 0, 0, 0, 0, 0)), (98, 1, .iconst 0, (0, 0, 0, 0, 0, 0)), (99, 3, .putfield 61, (5, 10, 0, 0, 0, 0)), (102, 1, .aload_n 0, (0, 0, 0, 0, 0, 0)), (103, 2, .bipush 6, (0, 0, 0, 0, 0, 0)), (105, 2, .newarray .int, (0, 0, 0, 0, 0, 0)),
  (107, 3, .putfield 64, (5, 11, 2, 0, 0, 0)), (110, 1, .iconst 0, (0, 0, 0, 0, 0, 0)), (111, 1, .istore_n 1, (0, 0, 0, 0, 0, 0)), (112, 1, .iload_n 1, (0, 0, 0, 0, 0, 0)), (113, 1, .aload_n 0, (0, 0, 0, 0, 0, 0)), (114, 3, .getfield 11, (5, 0, 2, 0, 0, 0)),
  (117, 1, .arraylength, (0, 0, 0, 0, 0, 0)), (118, 3, .if_icmp .ge 22, (140, 0, 0, 0, 0, 0)), (121, 1, .aload_n 0, (0, 0, 0, 0, 0, 0)), (122, 3, .getfield 11, (5, 0, 2, 0, 0, 0)), (125, 1, .iload_n 1, (0, 0, 0, 0, 0, 0)), (126, 3, .new 9, (4, 0, 0, 0, 0, 0)),
  (129, 1, .dup, (0, 0, 0, 0, 0, 0)), (130, 3, .invokespecial 68, (57, 1, 0, 0, 1, 0)), (133, 1, .aastore, (0, 0, 0, 0, 0, 0)), (134, 3, .iinc 1 1, (0, 0, 0, 0, 0, 0)), (137, 3, .goto (-25), (112, 0, 0, 0, 0, 0)), (140, 1, .iconst 0, (0, 0, 0, 0, 0, 0)),
  (141, 1, .istore_n 1, (0, 0, 0, 0, 0, 0)), (142, 1, .iload_n 1, (0, 0, 0, 0, 0, 0)), (143, 1, .aload_n 0, (0, 0, 0, 0, 0, 0)), (144, 3, .getfield 15, (5, 1, 2, 0, 0, 0)), (147, 1, .arraylength, (0, 0, 0, 0, 0, 0)), (148, 3, .if_icmp .ge 22, (170, 0, 0, 0, 0, 0)),
  (151, 1, .aload_n 0, (0, 0, 0, 0, 0, 0)), (152, 3, .getfield 15, (5, 1, 2, 0, 0, 0)), (155, 1, .iload_n 1, (0, 0, 0, 0, 0, 0)), (156, 3, .new 9, (4, 0, 0, 0, 0, 0)), (159, 1, .dup, (0, 0, 0, 0, 0, 0)), (160, 3, .invokespecial 68, (57, 1, 0, 0, 1, 0)),
  (163, 1, .aastore, (0, 0, 0, 0, 0, 0)), (164, 3, .iinc 1 1, (0, 0, 0, 0, 0, 0)), (167, 3, .goto (-25), (142, 0, 0, 0, 0, 0)), (170, 1, .iconst 0, (0, 0, 0, 0, 0, 0)), (171, 1, .istore_n 1, (0, 0, 0, 0, 0, 0)), (172, 1, .iload_n 1, (0, 0, 0, 0, 0, 0)),
  (173, 1, .aload_n 0, (0, 0, 0, 0, 0, 0)), (174, 3, .getfield 46, (5, 6, 2, 0, 0, 0)), (177, 1, .arraylength, (0, 0, 0, 0, 0, 0)), (178, 3, .if_icmp .ge 23, (201, 0, 0, 0, 0, 0)), (181, 1, .aload_n 0, (0, 0, 0, 0, 0, 0)), (182, 3, .getfield 46, (5, 6, 2, 0, 0, 0)),
  (185, 1, .iload_n 1, (0, 0, 0, 0, 0, 0)), (186, 3, .new 37, (2, 0, 0, 0, 0, 0)), (189, 1, .dup, (0, 0, 0, 0, 0, 0)), (190, 1, .iconst (-1), (0, 0, 0, 0, 0, 0)), (191, 3, .invokespecial 39, (42, 1, 1, 0, 2, 0)), (194, 1, .aastore, (0, 0, 0, 0, 0, 0)),
  (195, 3, .iinc 1 1, (0, 0, 0, 0, 0, 0)), (198, 3, .goto (-26), (172, 0, 0, 0, 0, 0)), (201, 1, .return_, (0, 0, 0, 0, 0, 0))]
def z_X5_row : List zI := [
  (0, 1, .aload_n 0, (0, 0, 0, 0, 0, 0)), (1, 1, .aload_n 0, (0, 0, 0, 0, 0, 0)), (2, 1, .iload_n 1, (0, 0, 0, 0, 0, 0)), (3, 3, .invokevirtual 69, (114, 0, 1, 3, 2, 5)), (6, 1, .iload_n 2, (0, 0, 0, 0, 0, 0)), (7, 2, .bipush 40, (0, 0, 0, 0, 0, 0)),
  (9, 1, .iconst 0, (0, 0, 0, 0, 0, 0)), (10, 3, .invokevirtual 73, (122, 0, 4, 1, 5, 5)), (13, 1, .ireturn, (0, 0, 0, 0, 0, 0))]
def z_X5_lay : List zI := [
  (0, 1, .aload_n 0, (0, 0, 0, 0, 0, 0)), (1, 1, .iload_n 1, (0, 0, 0, 0, 0, 0)), (2, 3, .invokevirtual 69, (114, 0, 1, 3, 2, 5)), (5, 2, .astore 4, (0, 0, 0, 0, 0, 0)), (7, 2, .aload 4, (0, 0, 0, 0, 0, 0)), (9, 3, .ifnonnull 5, (14, 0, 0, 0, 0, 0)),
  (12, 1, .iconst (-1), (0, 0, 0, 0, 0, 0)), (13, 1, .ireturn, (0, 0, 0, 0, 0, 0)), (14, 2, .aload 4, (0, 0, 0, 0, 0, 0)), (16, 3, .invokevirtual 77, (58, 0, 0, 1, 1, 4)), (19, 3, .ifCond .eq 9, (28, 0, 0, 0, 0, 0)), (22, 1, .aload_n 0, (0, 0, 0, 0, 0, 0)),
  (23, 1, .iconst 1, (0, 0, 0, 0, 0, 0)), (24, 3, .invokevirtual 81, (118, 0, 1, 1, 2, 5)), (27, 1, .ireturn, (0, 0, 0, 0, 0, 0)), (28, 2, .aload 4, (0, 0, 0, 0, 0, 0)), (30, 1, .iload_n 2, (0, 0, 0, 0, 0, 0)), (31, 3, .invokevirtual 85, (59, 0, 1, 1, 2, 4)),
  (34, 3, .ifCond .ne 9, (43, 0, 0, 0, 0, 0)), (37, 1, .aload_n 0, (0, 0, 0, 0, 0, 0)), (38, 1, .iconst 2, (0, 0, 0, 0, 0, 0)), (39, 3, .invokevirtual 81, (118, 0, 1, 1, 2, 5)), (42, 1, .ireturn, (0, 0, 0, 0, 0, 0)), (43, 1, .aload_n 0, (0, 0, 0, 0, 0, 0)),
  (44, 2, .aload 4, (0, 0, 0, 0, 0, 0)), (46, 1, .iload_n 2, (0, 0, 0, 0, 0, 0)), (47, 3, .invokevirtual 89, (61, 0, 1, 1, 2, 4)), (50, 3, .invokevirtual 92, (119, 0, 1, 0, 2, 5)), (53, 2, .aload 4, (0, 0, 0, 0, 0, 0)), (55, 1, .iload_n 2, (0, 0, 0, 0, 0, 0)),
  (56, 1, .iload_n 3, (0, 0, 0, 0, 0, 0)), (57, 3, .invokevirtual 95, (62, 0, 2, 0, 3, 4)), (60, 1, .iconst 1, (0, 0, 0, 0, 0, 0)), (61, 1, .ireturn, (0, 0, 0, 0, 0, 0))]
def z_X5_at : List zI := [
  (0, 1, .aload_n 0, (0, 0, 0, 0, 0, 0)), (1, 1, .iload_n 1, (0, 0, 0, 0, 0, 0)), (2, 3, .invokevirtual 69, (114, 0, 1, 3, 2, 5)), (5, 1, .astore_n 3, (0, 0, 0, 0, 0, 0)), (6, 1, .aload_n 3, (0, 0, 0, 0, 0, 0)), (7, 3, .ifnonnull 5, (12, 0, 0, 0, 0, 0)),
  (10, 1, .iconst (-1), (0, 0, 0, 0, 0, 0)), (11, 1, .ireturn, (0, 0, 0, 0, 0, 0)), (12, 1, .aload_n 3, (0, 0, 0, 0, 0, 0)), (13, 3, .invokevirtual 77, (58, 0, 0, 1, 1, 4)), (16, 3, .ifCond .eq 9, (25, 0, 0, 0, 0, 0)), (19, 1, .aload_n 0, (0, 0, 0, 0, 0, 0)),
  (20, 1, .iconst 1, (0, 0, 0, 0, 0, 0)), (21, 3, .invokevirtual 81, (118, 0, 1, 1, 2, 5)), (24, 1, .ireturn, (0, 0, 0, 0, 0, 0)), (25, 1, .aload_n 3, (0, 0, 0, 0, 0, 0)), (26, 1, .iload_n 2, (0, 0, 0, 0, 0, 0)), (27, 3, .invokevirtual 85, (59, 0, 1, 1, 2, 4)),
  (30, 3, .ifCond .ne 9, (39, 0, 0, 0, 0, 0)), (33, 1, .aload_n 0, (0, 0, 0, 0, 0, 0)), (34, 1, .iconst 2, (0, 0, 0, 0, 0, 0)), (35, 3, .invokevirtual 81, (118, 0, 1, 1, 2, 5)), (38, 1, .ireturn, (0, 0, 0, 0, 0, 0)), (39, 1, .aload_n 0, (0, 0, 0, 0, 0, 0)),
  (40, 1, .aload_n 3, (0, 0, 0, 0, 0, 0)), (41, 1, .iload_n 2, (0, 0, 0, 0, 0, 0)), (42, 3, .invokevirtual 89, (61, 0, 1, 1, 2, 4)), (45, 3, .invokevirtual 92, (119, 0, 1, 0, 2, 5)), (48, 1, .iconst 1, (0, 0, 0, 0, 0, 0)), (49, 1, .ireturn, (0, 0, 0, 0, 0, 0))]
def z_X5_tear : List zI := [
  (0, 1, .aload_n 0, (0, 0, 0, 0, 0, 0)), (1, 1, .iload_n 1, (0, 0, 0, 0, 0, 0)), (2, 3, .invokevirtual 69, (114, 0, 1, 3, 2, 5)), (5, 1, .astore_n 2, (0, 0, 0, 0, 0, 0)), (6, 1, .aload_n 2, (0, 0, 0, 0, 0, 0)), (7, 3, .ifnonnull 5, (12, 0, 0, 0, 0, 0)),
  (10, 1, .iconst (-1), (0, 0, 0, 0, 0, 0)), (11, 1, .ireturn, (0, 0, 0, 0, 0, 0)), (12, 1, .aload_n 2, (0, 0, 0, 0, 0, 0)), (13, 3, .invokevirtual 77, (58, 0, 0, 1, 1, 4)), (16, 3, .ifCond .eq 9, (25, 0, 0, 0, 0, 0)), (19, 1, .aload_n 0, (0, 0, 0, 0, 0, 0)),
  (20, 1, .iconst 1, (0, 0, 0, 0, 0, 0)), (21, 3, .invokevirtual 81, (118, 0, 1, 1, 2, 5)), (24, 1, .ireturn, (0, 0, 0, 0, 0, 0)), (25, 1, .aload_n 2, (0, 0, 0, 0, 0, 0)), (26, 3, .invokevirtual 99, (64, 0, 0, 0, 1, 4)), (29, 1, .iconst 1, (0, 0, 0, 0, 0, 0)),
  (30, 1, .ireturn, (0, 0, 0, 0, 0, 0))]
def z_X5_copy : List zI := [
  (0, 1, .aload_n 0, (0, 0, 0, 0, 0, 0)), (1, 1, .iload_n 1, (0, 0, 0, 0, 0, 0)), (2, 3, .invokevirtual 69, (114, 0, 1, 3, 2, 5)), (5, 2, .astore 6, (0, 0, 0, 0, 0, 0)), (7, 1, .aload_n 0, (0, 0, 0, 0, 0, 0)), (8, 1, .iload_n 3, (0, 0, 0, 0, 0, 0)),
  (9, 3, .invokevirtual 69, (114, 0, 1, 3, 2, 5)), (12, 2, .astore 7, (0, 0, 0, 0, 0, 0)), (14, 2, .aload 6, (0, 0, 0, 0, 0, 0)), (16, 3, .ifnull 8, (24, 0, 0, 0, 0, 0)), (19, 2, .aload 7, (0, 0, 0, 0, 0, 0)), (21, 3, .ifnonnull 5, (26, 0, 0, 0, 0, 0)),
  (24, 1, .iconst (-1), (0, 0, 0, 0, 0, 0)), (25, 1, .ireturn, (0, 0, 0, 0, 0, 0)), (26, 2, .iload 5, (0, 0, 0, 0, 0, 0)), (28, 3, .ifCond .ge 9, (37, 0, 0, 0, 0, 0)), (31, 1, .aload_n 0, (0, 0, 0, 0, 0, 0)), (32, 1, .iconst 5, (0, 0, 0, 0, 0, 0)),
  (33, 3, .invokevirtual 81, (118, 0, 1, 1, 2, 5)), (36, 1, .ireturn, (0, 0, 0, 0, 0, 0)), (37, 2, .aload 6, (0, 0, 0, 0, 0, 0)), (39, 3, .invokevirtual 77, (58, 0, 0, 1, 1, 4)), (42, 3, .ifCond .ne 11, (53, 0, 0, 0, 0, 0)), (45, 2, .aload 7, (0, 0, 0, 0, 0, 0)),
  (47, 3, .invokevirtual 77, (58, 0, 0, 1, 1, 4)), (50, 3, .ifCond .eq 9, (59, 0, 0, 0, 0, 0)), (53, 1, .aload_n 0, (0, 0, 0, 0, 0, 0)), (54, 1, .iconst 1, (0, 0, 0, 0, 0, 0)), (55, 3, .invokevirtual 81, (118, 0, 1, 1, 2, 5)), (58, 1, .ireturn, (0, 0, 0, 0, 0, 0)),
  (59, 2, .aload 6, (0, 0, 0, 0, 0, 0)), (61, 1, .iload_n 2, (0, 0, 0, 0, 0, 0)), (62, 2, .iload 5, (0, 0, 0, 0, 0, 0)), (64, 3, .invokevirtual 102, (60, 0, 2, 1, 3, 4)), (67, 3, .ifCond .eq 15, (82, 0, 0, 0, 0, 0)), (70, 2, .aload 7, (0, 0, 0, 0, 0, 0)),
  (72, 2, .iload 4, (0, 0, 0, 0, 0, 0)), (74, 2, .iload 5, (0, 0, 0, 0, 0, 0)), (76, 3, .invokevirtual 102, (60, 0, 2, 1, 3, 4)), (79, 3, .ifCond .ne 9, (88, 0, 0, 0, 0, 0)), (82, 1, .aload_n 0, (0, 0, 0, 0, 0, 0)), (83, 1, .iconst 2, (0, 0, 0, 0, 0, 0)),
  (84, 3, .invokevirtual 81, (118, 0, 1, 1, 2, 5)), (87, 1, .ireturn, (0, 0, 0, 0, 0, 0)), (88, 2, .aload 6, (0, 0, 0, 0, 0, 0)), (90, 1, .iload_n 2, (0, 0, 0, 0, 0, 0)), (91, 2, .aload 7, (0, 0, 0, 0, 0, 0)), (93, 2, .iload 4, (0, 0, 0, 0, 0, 0)),
  (95, 2, .iload 5, (0, 0, 0, 0, 0, 0)), (97, 3, .invokevirtual 106, (65, 0, 4, 0, 5, 4)), (100, 1, .iconst 1, (0, 0, 0, 0, 0, 0)), (101, 1, .ireturn, (0, 0, 0, 0, 0, 0))]
def z_X5_mean : List zI := [
  (0, 1, .aload_n 0, (0, 0, 0, 0, 0, 0)), (1, 1, .iload_n 1, (0, 0, 0, 0, 0, 0)), (2, 3, .invokevirtual 69, (114, 0, 1, 3, 2, 5)), (5, 1, .astore_n 2, (0, 0, 0, 0, 0, 0)), (6, 1, .aload_n 2, (0, 0, 0, 0, 0, 0)), (7, 3, .ifnonnull 5, (12, 0, 0, 0, 0, 0)),
  (10, 1, .iconst (-1), (0, 0, 0, 0, 0, 0)), (11, 1, .ireturn, (0, 0, 0, 0, 0, 0)), (12, 1, .aload_n 2, (0, 0, 0, 0, 0, 0)), (13, 3, .invokevirtual 77, (58, 0, 0, 1, 1, 4)), (16, 3, .ifCond .eq 9, (25, 0, 0, 0, 0, 0)), (19, 1, .aload_n 0, (0, 0, 0, 0, 0, 0)),
  (20, 1, .iconst 1, (0, 0, 0, 0, 0, 0)), (21, 3, .invokevirtual 81, (118, 0, 1, 1, 2, 5)), (24, 1, .ireturn, (0, 0, 0, 0, 0, 0)), (25, 1, .aload_n 2, (0, 0, 0, 0, 0, 0)), (26, 3, .getfield 110, (4, 1, 0, 1, 0, 0)), (29, 3, .ifCond .ne 9, (38, 0, 0, 0, 0, 0)),
  (32, 1, .aload_n 0, (0, 0, 0, 0, 0, 0)), (33, 1, .iconst 4, (0, 0, 0, 0, 0, 0)), (34, 3, .invokevirtual 81, (118, 0, 1, 1, 2, 5)), (37, 1, .ireturn, (0, 0, 0, 0, 0, 0)), (38, 1, .aload_n 0, (0, 0, 0, 0, 0, 0)), (39, 1, .aload_n 2, (0, 0, 0, 0, 0, 0)),
  (40, 3, .invokevirtual 113, (66, 0, 0, 2, 4, 4)), (43, 1, .aload_n 2, (0, 0, 0, 0, 0, 0)), (44, 3, .getfield 110, (4, 1, 0, 1, 0, 0)), (47, 1, .i2l, (0, 0, 0, 0, 0, 0)), (48, 1, .ldiv, (0, 0, 0, 0, 0, 0)), (49, 1, .l2i, (0, 0, 0, 0, 0, 0)),
  (50, 3, .invokevirtual 92, (119, 0, 1, 0, 2, 5)), (53, 1, .iconst 1, (0, 0, 0, 0, 0, 0)), (54, 1, .ireturn, (0, 0, 0, 0, 0, 0))]
def z_X5_text : List zI := [
  (0, 1, .aload_n 0, (0, 0, 0, 0, 0, 0)), (1, 1, .aload_n 0, (0, 0, 0, 0, 0, 0)), (2, 1, .iload_n 1, (0, 0, 0, 0, 0, 0)), (3, 3, .invokevirtual 117, (115, 0, 1, 3, 2, 5)), (6, 1, .iload_n 2, (0, 0, 0, 0, 0, 0)), (7, 2, .bipush 60, (0, 0, 0, 0, 0, 0)),
  (9, 2, .bipush 32, (0, 0, 0, 0, 0, 0)), (11, 3, .invokevirtual 73, (122, 0, 4, 1, 5, 5)), (14, 1, .ireturn, (0, 0, 0, 0, 0, 0))]
def z_X5_put : List zI := [
  (0, 1, .aload_n 0, (0, 0, 0, 0, 0, 0)), (1, 1, .iload_n 1, (0, 0, 0, 0, 0, 0)), (2, 3, .invokevirtual 117, (115, 0, 1, 3, 2, 5)), (5, 2, .astore 4, (0, 0, 0, 0, 0, 0)), (7, 2, .aload 4, (0, 0, 0, 0, 0, 0)), (9, 3, .ifnonnull 5, (14, 0, 0, 0, 0, 0)),
  (12, 1, .iconst (-1), (0, 0, 0, 0, 0, 0)), (13, 1, .ireturn, (0, 0, 0, 0, 0, 0)), (14, 2, .aload 4, (0, 0, 0, 0, 0, 0)), (16, 3, .invokevirtual 77, (58, 0, 0, 1, 1, 4)), (19, 3, .ifCond .eq 9, (28, 0, 0, 0, 0, 0)), (22, 1, .aload_n 0, (0, 0, 0, 0, 0, 0)),
  (23, 1, .iconst 1, (0, 0, 0, 0, 0, 0)), (24, 3, .invokevirtual 81, (118, 0, 1, 1, 2, 5)), (27, 1, .ireturn, (0, 0, 0, 0, 0, 0)), (28, 2, .aload 4, (0, 0, 0, 0, 0, 0)), (30, 1, .iload_n 2, (0, 0, 0, 0, 0, 0)), (31, 3, .invokevirtual 85, (59, 0, 1, 1, 2, 4)),
  (34, 3, .ifCond .ne 9, (43, 0, 0, 0, 0, 0)), (37, 1, .aload_n 0, (0, 0, 0, 0, 0, 0)), (38, 1, .iconst 2, (0, 0, 0, 0, 0, 0)), (39, 3, .invokevirtual 81, (118, 0, 1, 1, 2, 5)), (42, 1, .ireturn, (0, 0, 0, 0, 0, 0)), (43, 2, .aload 4, (0, 0, 0, 0, 0, 0)),
  (45, 1, .iload_n 2, (0, 0, 0, 0, 0, 0)), (46, 3, .invokevirtual 89, (61, 0, 1, 1, 2, 4)), (49, 2, .istore 5, (0, 0, 0, 0, 0, 0)), (51, 2, .aload 4, (0, 0, 0, 0, 0, 0)), (53, 1, .iload_n 2, (0, 0, 0, 0, 0, 0)), (54, 1, .iload_n 3, (0, 0, 0, 0, 0, 0)),
  (55, 1, .i2b, (0, 0, 0, 0, 0, 0)), (56, 3, .invokevirtual 95, (62, 0, 2, 0, 3, 4)), (59, 2, .iload 5, (0, 0, 0, 0, 0, 0)), (61, 3, .sipush 1000, (0, 0, 0, 0, 0, 0)), (64, 1, .iadd, (0, 0, 0, 0, 0, 0)), (65, 1, .ireturn, (0, 0, 0, 0, 0, 0))]
def z_X5_fault : List zI := [
  (0, 1, .aload_n 0, (0, 0, 0, 0, 0, 0)), (1, 1, .iload_n 1, (0, 0, 0, 0, 0, 0)), (2, 3, .invokevirtual 117, (115, 0, 1, 3, 2, 5)), (5, 1, .astore_n 2, (0, 0, 0, 0, 0, 0)), (6, 1, .aload_n 2, (0, 0, 0, 0, 0, 0)), (7, 3, .ifnonnull 5, (12, 0, 0, 0, 0, 0)),
  (10, 1, .iconst (-1), (0, 0, 0, 0, 0, 0)), (11, 1, .ireturn, (0, 0, 0, 0, 0, 0)), (12, 1, .aload_n 2, (0, 0, 0, 0, 0, 0)), (13, 3, .invokevirtual 77, (58, 0, 0, 1, 1, 4)), (16, 3, .ifCond .eq 9, (25, 0, 0, 0, 0, 0)), (19, 1, .aload_n 0, (0, 0, 0, 0, 0, 0)),
  (20, 1, .iconst 1, (0, 0, 0, 0, 0, 0)), (21, 3, .invokevirtual 81, (118, 0, 1, 1, 2, 5)), (24, 1, .ireturn, (0, 0, 0, 0, 0, 0)), (25, 3, .new 120, (3, 0, 0, 0, 0, 0)), (28, 1, .dup, (0, 0, 0, 0, 0, 0)), (29, 1, .aload_n 2, (0, 0, 0, 0, 0, 0)),
  (30, 3, .new 18, (1, 0, 0, 0, 0, 0)), (33, 1, .dup, (0, 0, 0, 0, 0, 0)), (34, 3, .invokespecial 20, (31, 1, 0, 0, 1, 0)), (37, 3, .invokespecial 122, (50, 1, 2, 0, 3, 0)), (40, 3, .invokevirtual 125, (51, 0, 0, 1, 3, 3)), (43, 1, .ireturn, (0, 0, 0, 0, 0, 0))]
def z_X5_deck : List zI := [
  (0, 1, .aload_n 0, (0, 0, 0, 0, 0, 0)), (1, 1, .iload_n 1, (0, 0, 0, 0, 0, 0)), (2, 3, .invokevirtual 117, (115, 0, 1, 3, 2, 5)), (5, 1, .astore_n 2, (0, 0, 0, 0, 0, 0)), (6, 1, .aload_n 2, (0, 0, 0, 0, 0, 0)), (7, 3, .ifnonnull 5, (12, 0, 0, 0, 0, 0)),
  (10, 1, .iconst (-1), (0, 0, 0, 0, 0, 0)), (11, 1, .ireturn, (0, 0, 0, 0, 0, 0)), (12, 1, .aload_n 2, (0, 0, 0, 0, 0, 0)), (13, 3, .invokevirtual 77, (58, 0, 0, 1, 1, 4)), (16, 3, .ifCond .eq 9, (25, 0, 0, 0, 0, 0)), (19, 1, .aload_n 0, (0, 0, 0, 0, 0, 0)),
  (20, 1, .iconst 1, (0, 0, 0, 0, 0, 0)), (21, 3, .invokevirtual 81, (118, 0, 1, 1, 2, 5)), (24, 1, .ireturn, (0, 0, 0, 0, 0, 0)), (25, 3, .new 18, (1, 0, 0, 0, 0, 0)), (28, 1, .dup, (0, 0, 0, 0, 0, 0)), (29, 3, .invokespecial 20, (31, 1, 0, 0, 1, 0)),
  (32, 1, .astore_n 3, (0, 0, 0, 0, 0, 0)), (33, 3, .new 120, (3, 0, 0, 0, 0, 0)), (36, 1, .dup, (0, 0, 0, 0, 0, 0)), (37, 1, .aload_n 2, (0, 0, 0, 0, 0, 0)), (38, 1, .aload_n 3, (0, 0, 0, 0, 0, 0)), (39, 3, .invokespecial 122, (50, 1, 2, 0, 3, 0)),
  (42, 3, .invokevirtual 125, (51, 0, 0, 1, 3, 3)), (45, 2, .bipush (-9), (0, 0, 0, 0, 0, 0)), (47, 3, .if_icmp .eq 6, (53, 0, 0, 0, 0, 0)), (50, 2, .bipush (-4), (0, 0, 0, 0, 0, 0)), (52, 1, .ireturn, (0, 0, 0, 0, 0, 0)), (53, 1, .aload_n 0, (0, 0, 0, 0, 0, 0)),
  (54, 1, .aload_n 3, (0, 0, 0, 0, 0, 0)), (55, 3, .putfield 21, (5, 2, 2, 0, 0, 0)), (58, 1, .aload_n 0, (0, 0, 0, 0, 0, 0)), (59, 3, .getfield 30, (5, 3, 2, 0, 0, 0)), (62, 1, .aload_n 3, (0, 0, 0, 0, 0, 0)), (63, 3, .invokevirtual 129, (2, 0, 1, 0, 2, 0)),
  (66, 1, .aload_n 0, (0, 0, 0, 0, 0, 0)), (67, 3, .getfield 42, (5, 5, 2, 0, 0, 0)), (70, 1, .aload_n 0, (0, 0, 0, 0, 0, 0)), (71, 3, .getfield 30, (5, 3, 2, 0, 0, 0)), (74, 3, .invokevirtual 132, (45, 0, 1, 0, 2, 2)), (77, 1, .iconst 0, (0, 0, 0, 0, 0, 0)),
  (78, 2, .istore 4, (0, 0, 0, 0, 0, 0)), (80, 2, .iload 4, (0, 0, 0, 0, 0, 0)), (82, 1, .aload_n 0, (0, 0, 0, 0, 0, 0)), (83, 3, .getfield 46, (5, 6, 2, 0, 0, 0)), (86, 1, .arraylength, (0, 0, 0, 0, 0, 0)), (87, 3, .if_icmp .ge 19, (106, 0, 0, 0, 0, 0)),
  (90, 1, .aload_n 0, (0, 0, 0, 0, 0, 0)), (91, 3, .getfield 46, (5, 6, 2, 0, 0, 0)), (94, 2, .iload 4, (0, 0, 0, 0, 0, 0)), (96, 1, .aaload, (0, 0, 0, 0, 0, 0)), (97, 3, .invokevirtual 135, (47, 0, 0, 0, 1, 2)), (100, 3, .iinc 4 1, (0, 0, 0, 0, 0, 0)),
  (103, 3, .goto (-23), (80, 0, 0, 0, 0, 0)), (106, 1, .aload_n 3, (0, 0, 0, 0, 0, 0)), (107, 3, .getfield 136, (1, 1, 0, 1, 0, 0)), (110, 1, .ireturn, (0, 0, 0, 0, 0, 0))]
def z_X5_man : List zI := [
  (0, 1, .aload_n 0, (0, 0, 0, 0, 0, 0)), (1, 3, .getfield 21, (5, 2, 2, 0, 0, 0)), (4, 1, .iload_n 1, (0, 0, 0, 0, 0, 0)), (5, 3, .invokevirtual 139, (33, 0, 1, 1, 2, 1)), (8, 3, .ifCond .eq 13, (21, 0, 0, 0, 0, 0)), (11, 1, .iload_n 2, (0, 0, 0, 0, 0, 0)),
  (12, 3, .ifCond .lt 9, (21, 0, 0, 0, 0, 0)), (15, 1, .iload_n 2, (0, 0, 0, 0, 0, 0)), (16, 2, .bipush 6, (0, 0, 0, 0, 0, 0)), (18, 3, .if_icmp .lt 5, (23, 0, 0, 0, 0, 0)), (21, 1, .iconst (-1), (0, 0, 0, 0, 0, 0)), (22, 1, .ireturn, (0, 0, 0, 0, 0, 0)),
  (23, 1, .aload_n 0, (0, 0, 0, 0, 0, 0)), (24, 1, .aload_n 0, (0, 0, 0, 0, 0, 0)), (25, 3, .getfield 30, (5, 3, 2, 0, 0, 0)), (28, 1, .iload_n 1, (0, 0, 0, 0, 0, 0)), (29, 1, .iload_n 2, (0, 0, 0, 0, 0, 0)), (30, 3, .invokevirtual 142, (4, 0, 2, 1, 3, 0)),
  (33, 3, .invokevirtual 92, (119, 0, 1, 0, 2, 5)), (36, 1, .iconst 1, (0, 0, 0, 0, 0, 0)), (37, 1, .ireturn, (0, 0, 0, 0, 0, 0))]
def z_X5_hook : List zI := [
  (0, 1, .aload_n 0, (0, 0, 0, 0, 0, 0)), (1, 3, .getfield 21, (5, 2, 2, 0, 0, 0)), (4, 1, .iload_n 1, (0, 0, 0, 0, 0, 0)), (5, 3, .invokevirtual 146, (32, 0, 1, 1, 2, 1)), (8, 3, .ifCond .eq 12, (20, 0, 0, 0, 0, 0)), (11, 1, .iload_n 2, (0, 0, 0, 0, 0, 0)),
  (12, 3, .ifCond .lt 8, (20, 0, 0, 0, 0, 0)), (15, 1, .iload_n 2, (0, 0, 0, 0, 0, 0)), (16, 1, .iconst 2, (0, 0, 0, 0, 0, 0)), (17, 3, .if_icmp .lt 5, (22, 0, 0, 0, 0, 0)), (20, 1, .iconst (-1), (0, 0, 0, 0, 0, 0)), (21, 1, .ireturn, (0, 0, 0, 0, 0, 0)),
  (22, 1, .aload_n 0, (0, 0, 0, 0, 0, 0)), (23, 1, .aload_n 0, (0, 0, 0, 0, 0, 0)), (24, 3, .getfield 30, (5, 3, 2, 0, 0, 0)), (27, 1, .iload_n 1, (0, 0, 0, 0, 0, 0)), (28, 1, .iload_n 2, (0, 0, 0, 0, 0, 0)), (29, 3, .invokevirtual 149, (5, 0, 2, 1, 3, 0)),
  (32, 3, .invokevirtual 92, (119, 0, 1, 0, 2, 5)), (35, 1, .iconst 1, (0, 0, 0, 0, 0, 0)), (36, 1, .ireturn, (0, 0, 0, 0, 0, 0))]
def z_X5_mark : List zI := [
  (0, 1, .aload_n 0, (0, 0, 0, 0, 0, 0)), (1, 3, .getfield 21, (5, 2, 2, 0, 0, 0)), (4, 1, .iload_n 1, (0, 0, 0, 0, 0, 0)), (5, 3, .invokevirtual 139, (33, 0, 1, 1, 2, 1)), (8, 3, .ifCond .eq 13, (21, 0, 0, 0, 0, 0)), (11, 1, .iload_n 2, (0, 0, 0, 0, 0, 0)),
  (12, 1, .iconst 1, (0, 0, 0, 0, 0, 0)), (13, 3, .if_icmp .lt 8, (21, 0, 0, 0, 0, 0)), (16, 1, .iload_n 2, (0, 0, 0, 0, 0, 0)), (17, 1, .iconst 5, (0, 0, 0, 0, 0, 0)), (18, 3, .if_icmp .le 5, (23, 0, 0, 0, 0, 0)), (21, 1, .iconst (-1), (0, 0, 0, 0, 0, 0)),
  (22, 1, .ireturn, (0, 0, 0, 0, 0, 0)), (23, 1, .aload_n 0, (0, 0, 0, 0, 0, 0)), (24, 3, .getfield 21, (5, 2, 2, 0, 0, 0)), (27, 1, .iload_n 1, (0, 0, 0, 0, 0, 0)), (28, 1, .iload_n 2, (0, 0, 0, 0, 0, 0)), (29, 3, .invokevirtual 152, (38, 0, 2, 1, 3, 1)),
  (32, 3, .ifCond .ne 9, (41, 0, 0, 0, 0, 0)), (35, 1, .aload_n 0, (0, 0, 0, 0, 0, 0)), (36, 1, .iconst 3, (0, 0, 0, 0, 0, 0)), (37, 3, .invokevirtual 81, (118, 0, 1, 1, 2, 5)), (40, 1, .ireturn, (0, 0, 0, 0, 0, 0)), (41, 1, .aload_n 0, (0, 0, 0, 0, 0, 0)),
  (42, 3, .getfield 30, (5, 3, 2, 0, 0, 0)), (45, 1, .iload_n 1, (0, 0, 0, 0, 0, 0)), (46, 1, .iconst 0, (0, 0, 0, 0, 0, 0)), (47, 3, .invokevirtual 155, (22, 0, 2, 1, 3, 0)), (50, 1, .istore_n 3, (0, 0, 0, 0, 0, 0)), (51, 1, .iload_n 2, (0, 0, 0, 0, 0, 0)),
  (52, 32, .tableswitch 81 1 4 #[32, 37, 53, 67], (0, 0, 0, 0, 0, 0)), (84, 1, .iload_n 3, (0, 0, 0, 0, 0, 0)), (85, 3, .invokestatic 158, (239, 2, 1, 1, 1, 0)), (88, 1, .ireturn, (0, 0, 0, 0, 0, 0)), (89, 1, .iload_n 3, (0, 0, 0, 0, 0, 0)), (90, 1, .aload_n 0, (0, 0, 0, 0, 0, 0)),
  (91, 3, .getfield 21, (5, 2, 2, 0, 0, 0)), (94, 1, .iconst 3, (0, 0, 0, 0, 0, 0)), (95, 3, .invokevirtual 163, (39, 0, 1, 1, 4, 1)), (98, 1, .iconst (-1), (0, 0, 0, 0, 0, 0)), (99, 1, .ixor, (0, 0, 0, 0, 0, 0)), (100, 1, .iand, (0, 0, 0, 0, 0, 0)),
  (101, 3, .invokestatic 158, (239, 2, 1, 1, 1, 0)), (104, 1, .ireturn, (0, 0, 0, 0, 0, 0)), (105, 1, .iload_n 3, (0, 0, 0, 0, 0, 0)), (106, 1, .aload_n 0, (0, 0, 0, 0, 0, 0)), (107, 3, .getfield 21, (5, 2, 2, 0, 0, 0)), (110, 1, .iconst 2, (0, 0, 0, 0, 0, 0)),
  (111, 3, .invokevirtual 163, (39, 0, 1, 1, 4, 1)), (114, 1, .iand, (0, 0, 0, 0, 0, 0)), (115, 3, .invokestatic 158, (239, 2, 1, 1, 1, 0)), (118, 1, .ireturn, (0, 0, 0, 0, 0, 0)), (119, 1, .aload_n 0, (0, 0, 0, 0, 0, 0)), (120, 3, .getfield 21, (5, 2, 2, 0, 0, 0)),
  (123, 1, .iconst 1, (0, 0, 0, 0, 0, 0)), (124, 3, .invokevirtual 163, (39, 0, 1, 1, 4, 1)), (127, 3, .invokestatic 158, (239, 2, 1, 1, 1, 0)), (130, 1, .iconst 1, (0, 0, 0, 0, 0, 0)), (131, 1, .isub, (0, 0, 0, 0, 0, 0)), (132, 1, .ireturn, (0, 0, 0, 0, 0, 0)),
  (133, 1, .aload_n 0, (0, 0, 0, 0, 0, 0)), (134, 3, .getfield 30, (5, 3, 2, 0, 0, 0)), (137, 1, .iload_n 1, (0, 0, 0, 0, 0, 0)), (138, 1, .iconst 0, (0, 0, 0, 0, 0, 0)), (139, 3, .invokevirtual 166, (23, 0, 2, 1, 5, 0)), (142, 1, .iconst 2, (0, 0, 0, 0, 0, 0)),
  (143, 1, .idiv, (0, 0, 0, 0, 0, 0)), (144, 1, .ireturn, (0, 0, 0, 0, 0, 0))]
def z_X5_hang : List zI := [
  (0, 1, .aload_n 0, (0, 0, 0, 0, 0, 0)), (1, 3, .getfield 21, (5, 2, 2, 0, 0, 0)), (4, 1, .iload_n 1, (0, 0, 0, 0, 0, 0)), (5, 3, .invokevirtual 139, (33, 0, 1, 1, 2, 1)), (8, 3, .ifCond .eq 14, (22, 0, 0, 0, 0, 0)), (11, 1, .aload_n 0, (0, 0, 0, 0, 0, 0)),
  (12, 3, .getfield 21, (5, 2, 2, 0, 0, 0)), (15, 1, .iload_n 2, (0, 0, 0, 0, 0, 0)), (16, 3, .invokevirtual 146, (32, 0, 1, 1, 2, 1)), (19, 3, .ifCond .ne 5, (24, 0, 0, 0, 0, 0)), (22, 1, .iconst (-1), (0, 0, 0, 0, 0, 0)), (23, 1, .ireturn, (0, 0, 0, 0, 0, 0)),
  (24, 1, .aload_n 0, (0, 0, 0, 0, 0, 0)), (25, 3, .getfield 30, (5, 3, 2, 0, 0, 0)), (28, 1, .iload_n 2, (0, 0, 0, 0, 0, 0)), (29, 3, .invokevirtual 169, (9, 0, 1, 1, 2, 0)), (32, 3, .ifCond .ne 6, (38, 0, 0, 0, 0, 0)), (35, 2, .bipush (-4), (0, 0, 0, 0, 0, 0)),
  (37, 1, .ireturn, (0, 0, 0, 0, 0, 0)), (38, 1, .aload_n 0, (0, 0, 0, 0, 0, 0)), (39, 3, .getfield 42, (5, 5, 2, 0, 0, 0)), (42, 1, .iconst 1, (0, 0, 0, 0, 0, 0)), (43, 3, .invokevirtual 172, (44, 0, 1, 1, 2, 2)), (46, 3, .ifCond .ne 6, (52, 0, 0, 0, 0, 0)),
  (49, 2, .bipush (-2), (0, 0, 0, 0, 0, 0)), (51, 1, .ireturn, (0, 0, 0, 0, 0, 0)), (52, 1, .aload_n 0, (0, 0, 0, 0, 0, 0)), (53, 3, .getfield 30, (5, 3, 2, 0, 0, 0)), (56, 1, .iload_n 1, (0, 0, 0, 0, 0, 0)), (57, 1, .iload_n 2, (0, 0, 0, 0, 0, 0)),
  (58, 3, .invokevirtual 175, (11, 0, 2, 0, 3, 0)), (61, 1, .aload_n 0, (0, 0, 0, 0, 0, 0)), (62, 3, .getfield 42, (5, 5, 2, 0, 0, 0)), (65, 1, .aload_n 0, (0, 0, 0, 0, 0, 0)), (66, 3, .getfield 30, (5, 3, 2, 0, 0, 0)), (69, 3, .invokevirtual 178, (46, 0, 1, 0, 2, 2)),
  (72, 1, .iload_n 2, (0, 0, 0, 0, 0, 0)), (73, 1, .ireturn, (0, 0, 0, 0, 0, 0))]
def z_X5_down : List zI := [
  (0, 1, .aload_n 0, (0, 0, 0, 0, 0, 0)), (1, 3, .getfield 21, (5, 2, 2, 0, 0, 0)), (4, 1, .iload_n 1, (0, 0, 0, 0, 0, 0)), (5, 3, .invokevirtual 139, (33, 0, 1, 1, 2, 1)), (8, 3, .ifCond .ne 5, (13, 0, 0, 0, 0, 0)), (11, 1, .iconst (-1), (0, 0, 0, 0, 0, 0)),
  (12, 1, .ireturn, (0, 0, 0, 0, 0, 0)), (13, 1, .aload_n 0, (0, 0, 0, 0, 0, 0)), (14, 3, .getfield 30, (5, 3, 2, 0, 0, 0)), (17, 1, .iload_n 1, (0, 0, 0, 0, 0, 0)), (18, 3, .invokevirtual 181, (10, 0, 1, 1, 2, 0)), (21, 3, .ifCond .ne 6, (27, 0, 0, 0, 0, 0)),
  (24, 2, .bipush (-4), (0, 0, 0, 0, 0, 0)), (26, 1, .ireturn, (0, 0, 0, 0, 0, 0)), (27, 1, .aload_n 0, (0, 0, 0, 0, 0, 0)), (28, 3, .getfield 42, (5, 5, 2, 0, 0, 0)), (31, 1, .iconst 1, (0, 0, 0, 0, 0, 0)), (32, 3, .invokevirtual 172, (44, 0, 1, 1, 2, 2)),
  (35, 3, .ifCond .ne 6, (41, 0, 0, 0, 0, 0)), (38, 2, .bipush (-2), (0, 0, 0, 0, 0, 0)), (40, 1, .ireturn, (0, 0, 0, 0, 0, 0)), (41, 1, .aload_n 0, (0, 0, 0, 0, 0, 0)), (42, 3, .getfield 30, (5, 3, 2, 0, 0, 0)), (45, 3, .getfield 184, (0, 1, 2, 1, 0, 0)),
  (48, 1, .iload_n 1, (0, 0, 0, 0, 0, 0)), (49, 1, .iaload, (0, 0, 0, 0, 0, 0)), (50, 1, .istore_n 2, (0, 0, 0, 0, 0, 0)), (51, 1, .aload_n 0, (0, 0, 0, 0, 0, 0)), (52, 3, .getfield 30, (5, 3, 2, 0, 0, 0)), (55, 1, .iload_n 1, (0, 0, 0, 0, 0, 0)),
  (56, 2, .bipush (-9), (0, 0, 0, 0, 0, 0)), (58, 3, .invokevirtual 175, (11, 0, 2, 0, 3, 0)), (61, 1, .aload_n 0, (0, 0, 0, 0, 0, 0)), (62, 3, .getfield 42, (5, 5, 2, 0, 0, 0)), (65, 1, .aload_n 0, (0, 0, 0, 0, 0, 0)), (66, 3, .getfield 30, (5, 3, 2, 0, 0, 0)),
  (69, 3, .invokevirtual 178, (46, 0, 1, 0, 2, 2)), (72, 1, .iload_n 2, (0, 0, 0, 0, 0, 0)), (73, 1, .ireturn, (0, 0, 0, 0, 0, 0))]
def z_X5_change : List zI := [
  (0, 1, .aload_n 0, (0, 0, 0, 0, 0, 0)), (1, 3, .getfield 21, (5, 2, 2, 0, 0, 0)), (4, 1, .iload_n 1, (0, 0, 0, 0, 0, 0)), (5, 3, .invokevirtual 139, (33, 0, 1, 1, 2, 1)), (8, 3, .ifCond .eq 19, (27, 0, 0, 0, 0, 0)), (11, 1, .aload_n 0, (0, 0, 0, 0, 0, 0)),
  (12, 3, .getfield 21, (5, 2, 2, 0, 0, 0)), (15, 1, .iload_n 2, (0, 0, 0, 0, 0, 0)), (16, 3, .invokevirtual 139, (33, 0, 1, 1, 2, 1)), (19, 3, .ifCond .eq 8, (27, 0, 0, 0, 0, 0)), (22, 1, .iload_n 1, (0, 0, 0, 0, 0, 0)), (23, 1, .iload_n 2, (0, 0, 0, 0, 0, 0)),
  (24, 3, .if_icmp .ne 5, (29, 0, 0, 0, 0, 0)), (27, 1, .iconst (-1), (0, 0, 0, 0, 0, 0)), (28, 1, .ireturn, (0, 0, 0, 0, 0, 0)), (29, 1, .aload_n 0, (0, 0, 0, 0, 0, 0)), (30, 3, .getfield 30, (5, 3, 2, 0, 0, 0)), (33, 1, .iload_n 1, (0, 0, 0, 0, 0, 0)),
  (34, 3, .invokevirtual 181, (10, 0, 1, 1, 2, 0)), (37, 3, .ifCond .ne 17, (54, 0, 0, 0, 0, 0)), (40, 1, .aload_n 0, (0, 0, 0, 0, 0, 0)), (41, 3, .getfield 30, (5, 3, 2, 0, 0, 0)), (44, 1, .iload_n 2, (0, 0, 0, 0, 0, 0)), (45, 3, .invokevirtual 181, (10, 0, 1, 1, 2, 0)),
  (48, 3, .ifCond .ne 6, (54, 0, 0, 0, 0, 0)), (51, 2, .bipush (-4), (0, 0, 0, 0, 0, 0)), (53, 1, .ireturn, (0, 0, 0, 0, 0, 0)), (54, 1, .aload_n 0, (0, 0, 0, 0, 0, 0)), (55, 3, .getfield 42, (5, 5, 2, 0, 0, 0)), (58, 1, .iconst 1, (0, 0, 0, 0, 0, 0)),
  (59, 3, .invokevirtual 172, (44, 0, 1, 1, 2, 2)), (62, 3, .ifCond .ne 6, (68, 0, 0, 0, 0, 0)), (65, 2, .bipush (-2), (0, 0, 0, 0, 0, 0)), (67, 1, .ireturn, (0, 0, 0, 0, 0, 0)), (68, 1, .aload_n 0, (0, 0, 0, 0, 0, 0)), (69, 3, .getfield 30, (5, 3, 2, 0, 0, 0)),
  (72, 1, .iload_n 1, (0, 0, 0, 0, 0, 0)), (73, 1, .iload_n 2, (0, 0, 0, 0, 0, 0)), (74, 3, .invokevirtual 187, (12, 0, 2, 0, 5, 0)), (77, 1, .aload_n 0, (0, 0, 0, 0, 0, 0)), (78, 3, .getfield 42, (5, 5, 2, 0, 0, 0)), (81, 1, .aload_n 0, (0, 0, 0, 0, 0, 0)),
  (82, 3, .getfield 30, (5, 3, 2, 0, 0, 0)), (85, 3, .invokevirtual 178, (46, 0, 1, 0, 2, 2)), (88, 1, .iconst 1, (0, 0, 0, 0, 0, 0)), (89, 1, .ireturn, (0, 0, 0, 0, 0, 0))]
def z_X5_line : List zI := [
  (0, 1, .aload_n 0, (0, 0, 0, 0, 0, 0)), (1, 3, .getfield 21, (5, 2, 2, 0, 0, 0)), (4, 1, .iload_n 1, (0, 0, 0, 0, 0, 0)), (5, 3, .invokevirtual 139, (33, 0, 1, 1, 2, 1)), (8, 3, .ifCond .eq 14, (22, 0, 0, 0, 0, 0)), (11, 1, .iload_n 2, (0, 0, 0, 0, 0, 0)),
  (12, 1, .iconst 1, (0, 0, 0, 0, 0, 0)), (13, 3, .if_icmp .lt 9, (22, 0, 0, 0, 0, 0)), (16, 1, .iload_n 2, (0, 0, 0, 0, 0, 0)), (17, 2, .bipush 9, (0, 0, 0, 0, 0, 0)), (19, 3, .if_icmp .le 5, (24, 0, 0, 0, 0, 0)), (22, 1, .iconst (-1), (0, 0, 0, 0, 0, 0)),
  (23, 1, .ireturn, (0, 0, 0, 0, 0, 0)), (24, 1, .aload_n 0, (0, 0, 0, 0, 0, 0)), (25, 3, .getfield 30, (5, 3, 2, 0, 0, 0)), (28, 3, .getfield 190, (0, 3, 2, 1, 0, 0)), (31, 1, .iload_n 1, (0, 0, 0, 0, 0, 0)), (32, 1, .iaload, (0, 0, 0, 0, 0, 0)),
  (33, 1, .istore_n 3, (0, 0, 0, 0, 0, 0)), (34, 1, .iload_n 3, (0, 0, 0, 0, 0, 0)), (35, 1, .iload_n 2, (0, 0, 0, 0, 0, 0)), (36, 3, .if_icmp .ne 6, (42, 0, 0, 0, 0, 0)), (39, 2, .bipush (-4), (0, 0, 0, 0, 0, 0)), (41, 1, .ireturn, (0, 0, 0, 0, 0, 0)),
  (42, 1, .aload_n 0, (0, 0, 0, 0, 0, 0)), (43, 3, .getfield 42, (5, 5, 2, 0, 0, 0)), (46, 1, .iconst 1, (0, 0, 0, 0, 0, 0)), (47, 3, .invokevirtual 172, (44, 0, 1, 1, 2, 2)), (50, 3, .ifCond .ne 6, (56, 0, 0, 0, 0, 0)), (53, 2, .bipush (-2), (0, 0, 0, 0, 0, 0)),
  (55, 1, .ireturn, (0, 0, 0, 0, 0, 0)), (56, 1, .aload_n 0, (0, 0, 0, 0, 0, 0)), (57, 3, .getfield 30, (5, 3, 2, 0, 0, 0)), (60, 3, .getfield 190, (0, 3, 2, 1, 0, 0)), (63, 1, .iload_n 1, (0, 0, 0, 0, 0, 0)), (64, 1, .iload_n 2, (0, 0, 0, 0, 0, 0)),
  (65, 1, .iastore, (0, 0, 0, 0, 0, 0)), (66, 1, .aload_n 0, (0, 0, 0, 0, 0, 0)), (67, 3, .getfield 42, (5, 5, 2, 0, 0, 0)), (70, 1, .aload_n 0, (0, 0, 0, 0, 0, 0)), (71, 3, .getfield 30, (5, 3, 2, 0, 0, 0)), (74, 3, .invokevirtual 178, (46, 0, 1, 0, 2, 2)),
  (77, 1, .iload_n 3, (0, 0, 0, 0, 0, 0)), (78, 1, .ireturn, (0, 0, 0, 0, 0, 0))]
def z_X5_night : List zI := [
  (0, 1, .iload_n 1, (0, 0, 0, 0, 0, 0)), (1, 3, .invokestatic 193, (116, 2, 1, 1, 1, 0)), (4, 3, .ifCond .ne 5, (9, 0, 0, 0, 0, 0)), (7, 1, .iconst (-1), (0, 0, 0, 0, 0, 0)), (8, 1, .ireturn, (0, 0, 0, 0, 0, 0)), (9, 1, .aload_n 0, (0, 0, 0, 0, 0, 0)),
  (10, 3, .getfield 21, (5, 2, 2, 0, 0, 0)), (13, 3, .getfield 136, (1, 1, 0, 1, 0, 0)), (16, 3, .ifCond .ne 6, (22, 0, 0, 0, 0, 0)), (19, 2, .bipush (-4), (0, 0, 0, 0, 0, 0)), (21, 1, .ireturn, (0, 0, 0, 0, 0, 0)), (22, 1, .aload_n 0, (0, 0, 0, 0, 0, 0)),
  (23, 3, .getfield 42, (5, 5, 2, 0, 0, 0)), (26, 1, .iconst 1, (0, 0, 0, 0, 0, 0)), (27, 3, .invokevirtual 172, (44, 0, 1, 1, 2, 2)), (30, 3, .ifCond .ne 6, (36, 0, 0, 0, 0, 0)), (33, 2, .bipush (-2), (0, 0, 0, 0, 0, 0)), (35, 1, .ireturn, (0, 0, 0, 0, 0, 0)),
  (36, 1, .aload_n 0, (0, 0, 0, 0, 0, 0)), (37, 1, .iload_n 1, (0, 0, 0, 0, 0, 0)), (38, 3, .invokevirtual 196, (123, 0, 1, 1, 3, 5)), (41, 1, .ireturn, (0, 0, 0, 0, 0, 0))]
def z_X5_undo : List zI := [
  (0, 1, .iload_n 1, (0, 0, 0, 0, 0, 0)), (1, 3, .ifCond .lt 14, (15, 0, 0, 0, 0, 0)), (4, 1, .iload_n 1, (0, 0, 0, 0, 0, 0)), (5, 1, .aload_n 0, (0, 0, 0, 0, 0, 0)), (6, 3, .getfield 42, (5, 5, 2, 0, 0, 0)), (9, 3, .getfield 199, (2, 1, 0, 1, 0, 0)),
  (12, 3, .if_icmp .le 5, (17, 0, 0, 0, 0, 0)), (15, 1, .iconst (-1), (0, 0, 0, 0, 0, 0)), (16, 1, .ireturn, (0, 0, 0, 0, 0, 0)), (17, 1, .aload_n 0, (0, 0, 0, 0, 0, 0)), (18, 3, .getfield 42, (5, 5, 2, 0, 0, 0)), (21, 3, .getfield 199, (2, 1, 0, 1, 0, 0)),
  (24, 1, .iload_n 1, (0, 0, 0, 0, 0, 0)), (25, 1, .isub, (0, 0, 0, 0, 0, 0)), (26, 1, .istore_n 2, (0, 0, 0, 0, 0, 0)), (27, 1, .aload_n 0, (0, 0, 0, 0, 0, 0)), (28, 3, .getfield 42, (5, 5, 2, 0, 0, 0)), (31, 1, .iload_n 1, (0, 0, 0, 0, 0, 0)),
  (32, 1, .aload_n 0, (0, 0, 0, 0, 0, 0)), (33, 3, .getfield 30, (5, 3, 2, 0, 0, 0)), (36, 3, .invokevirtual 202, (49, 0, 2, 0, 3, 2)), (39, 1, .iload_n 2, (0, 0, 0, 0, 0, 0)), (40, 1, .ireturn, (0, 0, 0, 0, 0, 0))]
def z_X5_keep : List zI := [
  (0, 1, .aload_n 0, (0, 0, 0, 0, 0, 0)), (1, 1, .iload_n 1, (0, 0, 0, 0, 0, 0)), (2, 3, .invokevirtual 206, (117, 0, 1, 1, 2, 5)), (5, 3, .ifCond .ne 5, (10, 0, 0, 0, 0, 0)), (8, 1, .iconst (-1), (0, 0, 0, 0, 0, 0)), (9, 1, .ireturn, (0, 0, 0, 0, 0, 0)),
  (10, 1, .aload_n 0, (0, 0, 0, 0, 0, 0)), (11, 3, .getfield 21, (5, 2, 2, 0, 0, 0)), (14, 3, .getfield 136, (1, 1, 0, 1, 0, 0)), (17, 3, .ifCond .ne 6, (23, 0, 0, 0, 0, 0)), (20, 2, .bipush (-4), (0, 0, 0, 0, 0, 0)), (22, 1, .ireturn, (0, 0, 0, 0, 0, 0)),
  (23, 1, .aload_n 0, (0, 0, 0, 0, 0, 0)), (24, 3, .getfield 46, (5, 6, 2, 0, 0, 0)), (27, 1, .iload_n 1, (0, 0, 0, 0, 0, 0)), (28, 1, .aaload, (0, 0, 0, 0, 0, 0)), (29, 1, .aload_n 0, (0, 0, 0, 0, 0, 0)), (30, 3, .getfield 42, (5, 5, 2, 0, 0, 0)),
  (33, 3, .invokevirtual 209, (48, 0, 1, 0, 2, 2)), (36, 1, .aload_n 0, (0, 0, 0, 0, 0, 0)), (37, 3, .getfield 42, (5, 5, 2, 0, 0, 0)), (40, 3, .getfield 199, (2, 1, 0, 1, 0, 0)), (43, 1, .ireturn, (0, 0, 0, 0, 0, 0))]
def z_X5_on : List zI := [
  (0, 1, .aload_n 0, (0, 0, 0, 0, 0, 0)), (1, 1, .iload_n 1, (0, 0, 0, 0, 0, 0)), (2, 3, .invokevirtual 206, (117, 0, 1, 1, 2, 5)), (5, 3, .ifCond .ne 5, (10, 0, 0, 0, 0, 0)), (8, 1, .iconst (-1), (0, 0, 0, 0, 0, 0)), (9, 1, .ireturn, (0, 0, 0, 0, 0, 0)),
  (10, 1, .aload_n 0, (0, 0, 0, 0, 0, 0)), (11, 3, .getfield 46, (5, 6, 2, 0, 0, 0)), (14, 1, .iload_n 1, (0, 0, 0, 0, 0, 0)), (15, 1, .aaload, (0, 0, 0, 0, 0, 0)), (16, 3, .invokevirtual 213, (43, 0, 0, 1, 1, 2)), (19, 3, .ifCond .eq 9, (28, 0, 0, 0, 0, 0)),
  (22, 1, .aload_n 0, (0, 0, 0, 0, 0, 0)), (23, 1, .iconst 1, (0, 0, 0, 0, 0, 0)), (24, 3, .invokevirtual 81, (118, 0, 1, 1, 2, 5)), (27, 1, .ireturn, (0, 0, 0, 0, 0, 0)), (28, 1, .aload_n 0, (0, 0, 0, 0, 0, 0)), (29, 3, .getfield 42, (5, 5, 2, 0, 0, 0)),
  (32, 1, .aload_n 0, (0, 0, 0, 0, 0, 0)), (33, 3, .getfield 46, (5, 6, 2, 0, 0, 0)), (36, 1, .iload_n 1, (0, 0, 0, 0, 0, 0)), (37, 1, .aaload, (0, 0, 0, 0, 0, 0)), (38, 3, .invokevirtual 209, (48, 0, 1, 0, 2, 2)), (41, 1, .aload_n 0, (0, 0, 0, 0, 0, 0)),
  (42, 3, .getfield 42, (5, 5, 2, 0, 0, 0)), (45, 1, .aload_n 0, (0, 0, 0, 0, 0, 0)), (46, 3, .getfield 42, (5, 5, 2, 0, 0, 0)), (49, 3, .getfield 199, (2, 1, 0, 1, 0, 0)), (52, 1, .aload_n 0, (0, 0, 0, 0, 0, 0)), (53, 3, .getfield 30, (5, 3, 2, 0, 0, 0)),
  (56, 3, .invokevirtual 202, (49, 0, 2, 0, 3, 2)), (59, 1, .aload_n 0, (0, 0, 0, 0, 0, 0)), (60, 3, .getfield 42, (5, 5, 2, 0, 0, 0)), (63, 3, .getfield 199, (2, 1, 0, 1, 0, 0)), (66, 1, .ireturn, (0, 0, 0, 0, 0, 0))]
def z_X5_neighbours : List zI := [
  (0, 1, .aload_n 0, (0, 0, 0, 0, 0, 0)), (1, 3, .getfield 21, (5, 2, 2, 0, 0, 0)), (4, 1, .iload_n 1, (0, 0, 0, 0, 0, 0)), (5, 3, .invokevirtual 139, (33, 0, 1, 1, 2, 1)), (8, 3, .ifCond .eq 10, (18, 0, 0, 0, 0, 0)), (11, 1, .iload_n 2, (0, 0, 0, 0, 0, 0)),
  (12, 3, .invokestatic 193, (116, 2, 1, 1, 1, 0)), (15, 3, .ifCond .ne 5, (20, 0, 0, 0, 0, 0)), (18, 1, .iconst (-1), (0, 0, 0, 0, 0, 0)), (19, 1, .ireturn, (0, 0, 0, 0, 0, 0)), (20, 1, .aload_n 0, (0, 0, 0, 0, 0, 0)), (21, 3, .getfield 30, (5, 3, 2, 0, 0, 0)),
  (24, 1, .iload_n 1, (0, 0, 0, 0, 0, 0)), (25, 1, .iload_n 2, (0, 0, 0, 0, 0, 0)), (26, 3, .invokevirtual 155, (22, 0, 2, 1, 3, 0)), (29, 1, .ireturn, (0, 0, 0, 0, 0, 0))]
def z_X5_woken : List zI := [
  (0, 1, .aload_n 0, (0, 0, 0, 0, 0, 0)), (1, 3, .getfield 21, (5, 2, 2, 0, 0, 0)), (4, 1, .iload_n 1, (0, 0, 0, 0, 0, 0)), (5, 3, .invokevirtual 139, (33, 0, 1, 1, 2, 1)), (8, 3, .ifCond .eq 10, (18, 0, 0, 0, 0, 0)), (11, 1, .iload_n 2, (0, 0, 0, 0, 0, 0)),
  (12, 3, .invokestatic 193, (116, 2, 1, 1, 1, 0)), (15, 3, .ifCond .ne 5, (20, 0, 0, 0, 0, 0)), (18, 1, .iconst (-1), (0, 0, 0, 0, 0, 0)), (19, 1, .ireturn, (0, 0, 0, 0, 0, 0)), (20, 1, .aload_n 0, (0, 0, 0, 0, 0, 0)), (21, 3, .getfield 30, (5, 3, 2, 0, 0, 0)),
  (24, 1, .iload_n 1, (0, 0, 0, 0, 0, 0)), (25, 1, .iload_n 2, (0, 0, 0, 0, 0, 0)), (26, 3, .invokevirtual 166, (23, 0, 2, 1, 5, 0)), (29, 1, .ireturn, (0, 0, 0, 0, 0, 0))]
def z_X5_all : List zI := [
  (0, 1, .iload_n 1, (0, 0, 0, 0, 0, 0)), (1, 3, .invokestatic 193, (116, 2, 1, 1, 1, 0)), (4, 3, .ifCond .ne 5, (9, 0, 0, 0, 0, 0)), (7, 1, .iconst (-1), (0, 0, 0, 0, 0, 0)), (8, 1, .ireturn, (0, 0, 0, 0, 0, 0)), (9, 1, .aload_n 0, (0, 0, 0, 0, 0, 0)),
  (10, 1, .aload_n 0, (0, 0, 0, 0, 0, 0)), (11, 3, .getfield 30, (5, 3, 2, 0, 0, 0)), (14, 1, .iload_n 1, (0, 0, 0, 0, 0, 0)), (15, 3, .invokevirtual 214, (20, 0, 1, 1, 4, 0)), (18, 3, .invokevirtual 92, (119, 0, 1, 0, 2, 5)), (21, 1, .aload_n 0, (0, 0, 0, 0, 0, 0)),
  (22, 3, .getfield 30, (5, 3, 2, 0, 0, 0)), (25, 1, .iload_n 1, (0, 0, 0, 0, 0, 0)), (26, 3, .invokevirtual 217, (25, 0, 1, 1, 4, 0)), (29, 1, .ireturn, (0, 0, 0, 0, 0, 0))]
def z_X5_worst : List zI := [
  (0, 1, .iload_n 1, (0, 0, 0, 0, 0, 0)), (1, 3, .invokestatic 193, (116, 2, 1, 1, 1, 0)), (4, 3, .ifCond .ne 5, (9, 0, 0, 0, 0, 0)), (7, 1, .iconst (-1), (0, 0, 0, 0, 0, 0)), (8, 1, .ireturn, (0, 0, 0, 0, 0, 0)), (9, 2, .bipush (-9), (0, 0, 0, 0, 0, 0)),
  (11, 1, .istore_n 2, (0, 0, 0, 0, 0, 0)), (12, 1, .iconst (-1), (0, 0, 0, 0, 0, 0)), (13, 1, .istore_n 3, (0, 0, 0, 0, 0, 0)), (14, 1, .iconst 0, (0, 0, 0, 0, 0, 0)), (15, 2, .istore 4, (0, 0, 0, 0, 0, 0)), (17, 2, .iload 4, (0, 0, 0, 0, 0, 0)),
  (19, 1, .aload_n 0, (0, 0, 0, 0, 0, 0)), (20, 3, .getfield 21, (5, 2, 2, 0, 0, 0)), (23, 3, .getfield 136, (1, 1, 0, 1, 0, 0)), (26, 3, .if_icmp .ge 46, (72, 0, 0, 0, 0, 0)), (29, 1, .aload_n 0, (0, 0, 0, 0, 0, 0)), (30, 3, .getfield 30, (5, 3, 2, 0, 0, 0)),
  (33, 2, .iload 4, (0, 0, 0, 0, 0, 0)), (35, 1, .iload_n 1, (0, 0, 0, 0, 0, 0)), (36, 3, .invokevirtual 166, (23, 0, 2, 1, 5, 0)), (39, 2, .istore 5, (0, 0, 0, 0, 0, 0)), (41, 1, .aload_n 0, (0, 0, 0, 0, 0, 0)), (42, 3, .getfield 30, (5, 3, 2, 0, 0, 0)),
  (45, 2, .iload 4, (0, 0, 0, 0, 0, 0)), (47, 1, .iload_n 1, (0, 0, 0, 0, 0, 0)), (48, 3, .invokevirtual 220, (19, 0, 2, 1, 3, 0)), (51, 3, .ifCond .eq 15, (66, 0, 0, 0, 0, 0)), (54, 2, .iload 5, (0, 0, 0, 0, 0, 0)), (56, 1, .iload_n 3, (0, 0, 0, 0, 0, 0)),
  (57, 3, .if_icmp .le 9, (66, 0, 0, 0, 0, 0)), (60, 2, .iload 4, (0, 0, 0, 0, 0, 0)), (62, 1, .istore_n 2, (0, 0, 0, 0, 0, 0)), (63, 2, .iload 5, (0, 0, 0, 0, 0, 0)), (65, 1, .istore_n 3, (0, 0, 0, 0, 0, 0)), (66, 3, .iinc 4 1, (0, 0, 0, 0, 0, 0)),
  (69, 3, .goto (-52), (17, 32, 0, 0, 0, 0)), (72, 1, .iload_n 2, (0, 0, 0, 0, 0, 0)), (73, 2, .bipush (-9), (0, 0, 0, 0, 0, 0)), (75, 3, .if_icmp .eq 8, (83, 0, 0, 0, 0, 0)), (78, 1, .aload_n 0, (0, 0, 0, 0, 0, 0)), (79, 1, .iload_n 3, (0, 0, 0, 0, 0, 0)),
  (80, 3, .invokevirtual 92, (119, 0, 1, 0, 2, 5)), (83, 1, .iload_n 2, (0, 0, 0, 0, 0, 0)), (84, 1, .ireturn, (0, 0, 0, 0, 0, 0))]
def z_X5_by : List zI := [
  (0, 1, .aload_n 0, (0, 0, 0, 0, 0, 0)), (1, 3, .getfield 21, (5, 2, 2, 0, 0, 0)), (4, 1, .iload_n 1, (0, 0, 0, 0, 0, 0)), (5, 3, .invokevirtual 139, (33, 0, 1, 1, 2, 1)), (8, 3, .ifCond .eq 10, (18, 0, 0, 0, 0, 0)), (11, 1, .iload_n 2, (0, 0, 0, 0, 0, 0)),
  (12, 3, .invokestatic 193, (116, 2, 1, 1, 1, 0)), (15, 3, .ifCond .ne 5, (20, 0, 0, 0, 0, 0)), (18, 1, .iconst (-1), (0, 0, 0, 0, 0, 0)), (19, 1, .ireturn, (0, 0, 0, 0, 0, 0)), (20, 1, .aload_n 0, (0, 0, 0, 0, 0, 0)), (21, 3, .getfield 30, (5, 3, 2, 0, 0, 0)),
  (24, 1, .iload_n 1, (0, 0, 0, 0, 0, 0)), (25, 1, .iload_n 2, (0, 0, 0, 0, 0, 0)), (26, 3, .invokevirtual 220, (19, 0, 2, 1, 3, 0)), (29, 3, .ifCond .ne 6, (35, 0, 0, 0, 0, 0)), (32, 2, .bipush (-9), (0, 0, 0, 0, 0, 0)), (34, 1, .ireturn, (0, 0, 0, 0, 0, 0)),
  (35, 1, .aload_n 0, (0, 0, 0, 0, 0, 0)), (36, 3, .getfield 30, (5, 3, 2, 0, 0, 0)), (39, 1, .iload_n 1, (0, 0, 0, 0, 0, 0)), (40, 1, .iload_n 2, (0, 0, 0, 0, 0, 0)), (41, 3, .invokevirtual 155, (22, 0, 2, 1, 3, 0)), (44, 1, .istore_n 3, (0, 0, 0, 0, 0, 0)),
  (45, 2, .bipush (-9), (0, 0, 0, 0, 0, 0)), (47, 2, .istore 4, (0, 0, 0, 0, 0, 0)), (49, 1, .iconst (-1), (0, 0, 0, 0, 0, 0)), (50, 2, .istore 5, (0, 0, 0, 0, 0, 0)), (52, 1, .iconst 0, (0, 0, 0, 0, 0, 0)), (53, 2, .istore 6, (0, 0, 0, 0, 0, 0)),
  (55, 2, .iload 6, (0, 0, 0, 0, 0, 0)), (57, 1, .aload_n 0, (0, 0, 0, 0, 0, 0)), (58, 3, .getfield 21, (5, 2, 2, 0, 0, 0)), (61, 3, .getfield 136, (1, 1, 0, 1, 0, 0)), (64, 3, .if_icmp .ge 56, (120, 0, 0, 0, 0, 0)), (67, 1, .iload_n 3, (0, 0, 0, 0, 0, 0)),
  (68, 1, .iconst 1, (0, 0, 0, 0, 0, 0)), (69, 2, .iload 6, (0, 0, 0, 0, 0, 0)), (71, 1, .ishl, (0, 0, 0, 0, 0, 0)), (72, 1, .iand, (0, 0, 0, 0, 0, 0)), (73, 3, .ifCond .ne 6, (79, 0, 0, 0, 0, 0)), (76, 3, .goto 38, (114, 0, 0, 0, 0, 0)),
  (79, 1, .aload_n 0, (0, 0, 0, 0, 0, 0)), (80, 3, .getfield 30, (5, 3, 2, 0, 0, 0)), (83, 1, .iload_n 1, (0, 0, 0, 0, 0, 0)), (84, 1, .iload_n 2, (0, 0, 0, 0, 0, 0)), (85, 3, .invokevirtual 166, (23, 0, 2, 1, 5, 0)), (88, 1, .aload_n 0, (0, 0, 0, 0, 0, 0)),
  (89, 2, .iload 6, (0, 0, 0, 0, 0, 0)), (91, 1, .iload_n 1, (0, 0, 0, 0, 0, 0)), (92, 1, .iload_n 2, (0, 0, 0, 0, 0, 0)), (93, 3, .invokevirtual 223, (124, 0, 3, 1, 4, 5)), (96, 1, .isub, (0, 0, 0, 0, 0, 0)), (97, 2, .istore 7, (0, 0, 0, 0, 0, 0)),
  (99, 2, .iload 7, (0, 0, 0, 0, 0, 0)), (101, 2, .iload 5, (0, 0, 0, 0, 0, 0)), (103, 3, .if_icmp .le 11, (114, 0, 0, 0, 0, 0)), (106, 2, .iload 6, (0, 0, 0, 0, 0, 0)), (108, 2, .istore 4, (0, 0, 0, 0, 0, 0)), (110, 2, .iload 7, (0, 0, 0, 0, 0, 0)),
  (112, 2, .istore 5, (0, 0, 0, 0, 0, 0)), (114, 3, .iinc 6 1, (0, 0, 0, 0, 0, 0)), (117, 3, .goto (-62), (55, 128, 0, 0, 0, 0)), (120, 2, .iload 4, (0, 0, 0, 0, 0, 0)), (122, 2, .bipush (-9), (0, 0, 0, 0, 0, 0)), (124, 3, .if_icmp .eq 9, (133, 0, 0, 0, 0, 0)),
  (127, 1, .aload_n 0, (0, 0, 0, 0, 0, 0)), (128, 2, .iload 5, (0, 0, 0, 0, 0, 0)), (130, 3, .invokevirtual 92, (119, 0, 1, 0, 2, 5)), (133, 2, .iload 4, (0, 0, 0, 0, 0, 0)), (135, 1, .ireturn, (0, 0, 0, 0, 0, 0))]
def z_X5_best : List zI := [
  (0, 1, .iload_n 1, (0, 0, 0, 0, 0, 0)), (1, 3, .invokestatic 193, (116, 2, 1, 1, 1, 0)), (4, 3, .ifCond .eq 17, (21, 0, 0, 0, 0, 0)), (7, 1, .aload_n 0, (0, 0, 0, 0, 0, 0)), (8, 1, .iconst 0, (0, 0, 0, 0, 0, 0)), (9, 1, .iload_n 1, (0, 0, 0, 0, 0, 0)),
  (10, 1, .aload_n 0, (0, 0, 0, 0, 0, 0)), (11, 1, .iload_n 2, (0, 0, 0, 0, 0, 0)), (12, 3, .invokevirtual 69, (114, 0, 1, 3, 2, 5)), (15, 3, .invokevirtual 227, (126, 0, 3, 1, 8, 5)), (18, 3, .goto 4, (22, 0, 0, 0, 0, 0)), (21, 1, .iconst (-1), (0, 0, 0, 0, 0, 0)),
  (22, 1, .ireturn, (0, 0, 0, 0, 0, 0))]
def z_X5_fair : List zI := [
  (0, 1, .iload_n 1, (0, 0, 0, 0, 0, 0)), (1, 3, .invokestatic 193, (116, 2, 1, 1, 1, 0)), (4, 3, .ifCond .eq 17, (21, 0, 0, 0, 0, 0)), (7, 1, .aload_n 0, (0, 0, 0, 0, 0, 0)), (8, 1, .iconst 1, (0, 0, 0, 0, 0, 0)), (9, 1, .iload_n 1, (0, 0, 0, 0, 0, 0)),
  (10, 1, .aload_n 0, (0, 0, 0, 0, 0, 0)), (11, 1, .iload_n 2, (0, 0, 0, 0, 0, 0)), (12, 3, .invokevirtual 69, (114, 0, 1, 3, 2, 5)), (15, 3, .invokevirtual 227, (126, 0, 3, 1, 8, 5)), (18, 3, .goto 4, (22, 0, 0, 0, 0, 0)), (21, 1, .iconst (-1), (0, 0, 0, 0, 0, 0)),
  (22, 1, .ireturn, (0, 0, 0, 0, 0, 0))]
def z_X5_mixed : List zI := [
  (0, 1, .aload_n 0, (0, 0, 0, 0, 0, 0)), (1, 1, .iconst 2, (0, 0, 0, 0, 0, 0)), (2, 1, .iconst 0, (0, 0, 0, 0, 0, 0)), (3, 1, .aload_n 0, (0, 0, 0, 0, 0, 0)), (4, 1, .iload_n 1, (0, 0, 0, 0, 0, 0)), (5, 3, .invokevirtual 69, (114, 0, 1, 3, 2, 5)),
  (8, 3, .invokevirtual 227, (126, 0, 3, 1, 8, 5)), (11, 1, .ireturn, (0, 0, 0, 0, 0, 0))]
def z_X5_judge : List zI := [
  (0, 1, .aload_n 0, (0, 0, 0, 0, 0, 0)), (1, 1, .iload_n 1, (0, 0, 0, 0, 0, 0)), (2, 3, .invokevirtual 69, (114, 0, 1, 3, 2, 5)), (5, 1, .astore_n 3, (0, 0, 0, 0, 0, 0)), (6, 1, .aload_n 3, (0, 0, 0, 0, 0, 0)), (7, 3, .ifnull 10, (17, 0, 0, 0, 0, 0)),
  (10, 1, .iload_n 2, (0, 0, 0, 0, 0, 0)), (11, 3, .invokestatic 193, (116, 2, 1, 1, 1, 0)), (14, 3, .ifCond .ne 5, (19, 0, 0, 0, 0, 0)), (17, 1, .iconst (-1), (0, 0, 0, 0, 0, 0)), (18, 1, .ireturn, (0, 0, 0, 0, 0, 0)), (19, 1, .aload_n 0, (0, 0, 0, 0, 0, 0)),
  (20, 3, .getfield 21, (5, 2, 2, 0, 0, 0)), (23, 3, .getfield 136, (1, 1, 0, 1, 0, 0)), (26, 3, .ifCond .ne 6, (32, 0, 0, 0, 0, 0)), (29, 2, .bipush (-4), (0, 0, 0, 0, 0, 0)), (31, 1, .ireturn, (0, 0, 0, 0, 0, 0)), (32, 1, .aload_n 3, (0, 0, 0, 0, 0, 0)),
  (33, 3, .invokevirtual 77, (58, 0, 0, 1, 1, 4)), (36, 3, .ifCond .eq 9, (45, 0, 0, 0, 0, 0)), (39, 1, .aload_n 0, (0, 0, 0, 0, 0, 0)), (40, 1, .iconst 1, (0, 0, 0, 0, 0, 0)), (41, 3, .invokevirtual 81, (118, 0, 1, 1, 2, 5)), (44, 1, .ireturn, (0, 0, 0, 0, 0, 0)),
  (45, 1, .aload_n 3, (0, 0, 0, 0, 0, 0)), (46, 3, .getfield 110, (4, 1, 0, 1, 0, 0)), (49, 1, .aload_n 0, (0, 0, 0, 0, 0, 0)), (50, 3, .getfield 21, (5, 2, 2, 0, 0, 0)), (53, 3, .getfield 136, (1, 1, 0, 1, 0, 0)), (56, 3, .if_icmp .eq 9, (65, 0, 0, 0, 0, 0)),
  (59, 1, .aload_n 0, (0, 0, 0, 0, 0, 0)), (60, 1, .iconst 5, (0, 0, 0, 0, 0, 0)), (61, 3, .invokevirtual 81, (118, 0, 1, 1, 2, 5)), (64, 1, .ireturn, (0, 0, 0, 0, 0, 0)), (65, 1, .aload_n 0, (0, 0, 0, 0, 0, 0)), (66, 3, .getfield 34, (5, 4, 2, 0, 0, 0)),
  (69, 1, .aload_n 0, (0, 0, 0, 0, 0, 0)), (70, 3, .getfield 30, (5, 3, 2, 0, 0, 0)), (73, 3, .invokevirtual 231, (3, 0, 1, 0, 2, 0)), (76, 1, .aload_n 0, (0, 0, 0, 0, 0, 0)), (77, 3, .getfield 34, (5, 4, 2, 0, 0, 0)), (80, 1, .aload_n 3, (0, 0, 0, 0, 0, 0)),
  (81, 3, .invokevirtual 233, (14, 0, 1, 1, 4, 0)), (84, 3, .ifCond .ne 9, (93, 0, 0, 0, 0, 0)), (87, 1, .aload_n 0, (0, 0, 0, 0, 0, 0)), (88, 1, .iconst 3, (0, 0, 0, 0, 0, 0)), (89, 3, .invokevirtual 81, (118, 0, 1, 1, 2, 5)), (92, 1, .ireturn, (0, 0, 0, 0, 0, 0)),
  (93, 1, .aload_n 0, (0, 0, 0, 0, 0, 0)), (94, 3, .getfield 34, (5, 4, 2, 0, 0, 0)), (97, 1, .iload_n 2, (0, 0, 0, 0, 0, 0)), (98, 3, .invokevirtual 217, (25, 0, 1, 1, 4, 0)), (101, 1, .ireturn, (0, 0, 0, 0, 0, 0))]
def z_X5_gain : List zI := [
  (0, 1, .aload_n 0, (0, 0, 0, 0, 0, 0)), (1, 3, .getfield 21, (5, 2, 2, 0, 0, 0)), (4, 1, .iload_n 1, (0, 0, 0, 0, 0, 0)), (5, 3, .invokevirtual 139, (33, 0, 1, 1, 2, 1)), (8, 3, .ifCond .eq 26, (34, 0, 0, 0, 0, 0)), (11, 1, .aload_n 0, (0, 0, 0, 0, 0, 0)),
  (12, 3, .getfield 21, (5, 2, 2, 0, 0, 0)), (15, 1, .iload_n 2, (0, 0, 0, 0, 0, 0)), (16, 3, .invokevirtual 139, (33, 0, 1, 1, 2, 1)), (19, 3, .ifCond .eq 15, (34, 0, 0, 0, 0, 0)), (22, 1, .iload_n 1, (0, 0, 0, 0, 0, 0)), (23, 1, .iload_n 2, (0, 0, 0, 0, 0, 0)),
  (24, 3, .if_icmp .eq 10, (34, 0, 0, 0, 0, 0)), (27, 1, .iload_n 3, (0, 0, 0, 0, 0, 0)), (28, 3, .invokestatic 193, (116, 2, 1, 1, 1, 0)), (31, 3, .ifCond .ne 5, (36, 0, 0, 0, 0, 0)), (34, 1, .iconst (-1), (0, 0, 0, 0, 0, 0)), (35, 1, .ireturn, (0, 0, 0, 0, 0, 0)),
  (36, 1, .aload_n 0, (0, 0, 0, 0, 0, 0)), (37, 3, .getfield 34, (5, 4, 2, 0, 0, 0)), (40, 1, .aload_n 0, (0, 0, 0, 0, 0, 0)), (41, 3, .getfield 30, (5, 3, 2, 0, 0, 0)), (44, 3, .invokevirtual 231, (3, 0, 1, 0, 2, 0)), (47, 1, .aload_n 0, (0, 0, 0, 0, 0, 0)),
  (48, 3, .getfield 34, (5, 4, 2, 0, 0, 0)), (51, 1, .iload_n 1, (0, 0, 0, 0, 0, 0)), (52, 1, .iload_n 2, (0, 0, 0, 0, 0, 0)), (53, 3, .invokevirtual 187, (12, 0, 2, 0, 5, 0)), (56, 2, .bipush 100, (0, 0, 0, 0, 0, 0)), (58, 1, .aload_n 0, (0, 0, 0, 0, 0, 0)),
  (59, 3, .getfield 30, (5, 3, 2, 0, 0, 0)), (62, 1, .iload_n 3, (0, 0, 0, 0, 0, 0)), (63, 3, .invokevirtual 217, (25, 0, 1, 1, 4, 0)), (66, 1, .iadd, (0, 0, 0, 0, 0, 0)), (67, 1, .aload_n 0, (0, 0, 0, 0, 0, 0)), (68, 3, .getfield 34, (5, 4, 2, 0, 0, 0)),
  (71, 1, .iload_n 3, (0, 0, 0, 0, 0, 0)), (72, 3, .invokevirtual 217, (25, 0, 1, 1, 4, 0)), (75, 1, .isub, (0, 0, 0, 0, 0, 0)), (76, 1, .ireturn, (0, 0, 0, 0, 0, 0))]
def z_X5_calm : List zI := [
  (0, 1, .iload_n 1, (0, 0, 0, 0, 0, 0)), (1, 3, .invokestatic 193, (116, 2, 1, 1, 1, 0)), (4, 3, .ifCond .ne 5, (9, 0, 0, 0, 0, 0)), (7, 1, .iconst (-1), (0, 0, 0, 0, 0, 0)), (8, 1, .ireturn, (0, 0, 0, 0, 0, 0)), (9, 1, .aload_n 0, (0, 0, 0, 0, 0, 0)),
  (10, 1, .iload_n 1, (0, 0, 0, 0, 0, 0)), (11, 3, .invokevirtual 237, (128, 0, 1, 1, 4, 5)), (14, 1, .istore_n 2, (0, 0, 0, 0, 0, 0)), (15, 1, .aload_n 0, (0, 0, 0, 0, 0, 0)), (16, 1, .iload_n 2, (0, 0, 0, 0, 0, 0)), (17, 3, .invokevirtual 92, (119, 0, 1, 0, 2, 5)),
  (20, 1, .iload_n 2, (0, 0, 0, 0, 0, 0)), (21, 2, .bipush (-9), (0, 0, 0, 0, 0, 0)), (23, 3, .if_icmp .ne 7, (30, 0, 0, 0, 0, 0)), (26, 1, .iconst 1, (0, 0, 0, 0, 0, 0)), (27, 3, .goto 4, (31, 0, 0, 0, 0, 0)), (30, 1, .iconst 0, (0, 0, 0, 0, 0, 0)),
  (31, 1, .ireturn, (0, 0, 0, 0, 0, 0))]
def z_X5_mates : List zI := [
  (0, 1, .aload_n 0, (0, 0, 0, 0, 0, 0)), (1, 3, .getfield 21, (5, 2, 2, 0, 0, 0)), (4, 3, .getfield 136, (1, 1, 0, 1, 0, 0)), (7, 3, .ifCond .ne 6, (13, 0, 0, 0, 0, 0)), (10, 2, .bipush (-4), (0, 0, 0, 0, 0, 0)), (12, 1, .ireturn, (0, 0, 0, 0, 0, 0)),
  (13, 1, .iconst 0, (0, 0, 0, 0, 0, 0)), (14, 1, .istore_n 1, (0, 0, 0, 0, 0, 0)), (15, 1, .aload_n 0, (0, 0, 0, 0, 0, 0)), (16, 3, .invokevirtual 240, (125, 0, 0, 0, 1, 5)), (19, 1, .aload_n 0, (0, 0, 0, 0, 0, 0)), (20, 3, .getfield 21, (5, 2, 2, 0, 0, 0)),
  (23, 3, .invokevirtual 243, (37, 0, 0, 1, 3, 1)), (26, 1, .istore_n 2, (0, 0, 0, 0, 0, 0)), (27, 1, .iload_n 2, (0, 0, 0, 0, 0, 0)), (28, 3, .ifCond .le 28, (56, 0, 0, 0, 0, 0)), (31, 1, .iload_n 1, (0, 0, 0, 0, 0, 0)), (32, 1, .aload_n 0, (0, 0, 0, 0, 0, 0)),
  (33, 3, .getfield 34, (5, 4, 2, 0, 0, 0)), (36, 3, .invokevirtual 246, (18, 0, 0, 1, 5, 0)), (39, 3, .invokestatic 249, (0, 6, 0, 0, 0, 0)), (42, 1, .istore_n 1, (0, 0, 0, 0, 0, 0)), (43, 1, .aload_n 0, (0, 0, 0, 0, 0, 0)), (44, 3, .getfield 34, (5, 4, 2, 0, 0, 0)),
  (47, 3, .invokevirtual 254, (16, 0, 0, 0, 3, 0)), (50, 3, .iinc 2 (-1), (0, 0, 0, 0, 0, 0)), (53, 3, .goto (-26), (27, 0, 0, 0, 0, 0)), (56, 1, .aload_n 0, (0, 0, 0, 0, 0, 0)), (57, 1, .iload_n 1, (0, 0, 0, 0, 0, 0)), (58, 3, .invokevirtual 92, (119, 0, 1, 0, 2, 5)),
  (61, 1, .aload_n 0, (0, 0, 0, 0, 0, 0)), (62, 3, .getfield 30, (5, 3, 2, 0, 0, 0)), (65, 3, .invokevirtual 246, (18, 0, 0, 1, 5, 0)), (68, 1, .ireturn, (0, 0, 0, 0, 0, 0))]
def z_X5_cut : List zI := [
  (0, 1, .aload_n 0, (0, 0, 0, 0, 0, 0)), (1, 3, .getfield 21, (5, 2, 2, 0, 0, 0)), (4, 1, .iload_n 1, (0, 0, 0, 0, 0, 0)), (5, 3, .invokevirtual 139, (33, 0, 1, 1, 2, 1)), (8, 3, .ifCond .eq 10, (18, 0, 0, 0, 0, 0)), (11, 1, .iload_n 2, (0, 0, 0, 0, 0, 0)),
  (12, 3, .invokestatic 193, (116, 2, 1, 1, 1, 0)), (15, 3, .ifCond .ne 5, (20, 0, 0, 0, 0, 0)), (18, 1, .iconst (-1), (0, 0, 0, 0, 0, 0)), (19, 1, .ireturn, (0, 0, 0, 0, 0, 0)), (20, 2, .bipush (-9), (0, 0, 0, 0, 0, 0)), (22, 1, .istore_n 3, (0, 0, 0, 0, 0, 0)),
  (23, 3, .ldc_w 257, (0, 0, 0, 0, 0, 1000000)), (26, 2, .istore 4, (0, 0, 0, 0, 0, 0)), (28, 1, .aload_n 0, (0, 0, 0, 0, 0, 0)), (29, 3, .getfield 34, (5, 4, 2, 0, 0, 0)), (32, 1, .aload_n 0, (0, 0, 0, 0, 0, 0)), (33, 3, .getfield 30, (5, 3, 2, 0, 0, 0)),
  (36, 3, .invokevirtual 231, (3, 0, 1, 0, 2, 0)), (39, 1, .iconst 1, (0, 0, 0, 0, 0, 0)), (40, 2, .istore 5, (0, 0, 0, 0, 0, 0)), (42, 2, .iload 5, (0, 0, 0, 0, 0, 0)), (44, 2, .bipush 9, (0, 0, 0, 0, 0, 0)), (46, 3, .if_icmp .gt 44, (90, 0, 0, 0, 0, 0)),
  (49, 1, .aload_n 0, (0, 0, 0, 0, 0, 0)), (50, 3, .getfield 34, (5, 4, 2, 0, 0, 0)), (53, 3, .getfield 190, (0, 3, 2, 1, 0, 0)), (56, 1, .iload_n 1, (0, 0, 0, 0, 0, 0)), (57, 2, .iload 5, (0, 0, 0, 0, 0, 0)), (59, 1, .iastore, (0, 0, 0, 0, 0, 0)),
  (60, 1, .aload_n 0, (0, 0, 0, 0, 0, 0)), (61, 3, .getfield 34, (5, 4, 2, 0, 0, 0)), (64, 1, .iload_n 2, (0, 0, 0, 0, 0, 0)), (65, 3, .invokevirtual 217, (25, 0, 1, 1, 4, 0)), (68, 2, .istore 6, (0, 0, 0, 0, 0, 0)), (70, 2, .iload 6, (0, 0, 0, 0, 0, 0)),
  (72, 2, .iload 4, (0, 0, 0, 0, 0, 0)), (74, 3, .if_icmp .ge 10, (84, 0, 0, 0, 0, 0)), (77, 2, .iload 5, (0, 0, 0, 0, 0, 0)), (79, 1, .istore_n 3, (0, 0, 0, 0, 0, 0)), (80, 2, .iload 6, (0, 0, 0, 0, 0, 0)), (82, 2, .istore 4, (0, 0, 0, 0, 0, 0)),
  (84, 3, .iinc 5 1, (0, 0, 0, 0, 0, 0)), (87, 3, .goto (-45), (42, 64, 0, 0, 0, 0)), (90, 1, .aload_n 0, (0, 0, 0, 0, 0, 0)), (91, 2, .iload 4, (0, 0, 0, 0, 0, 0)), (93, 3, .invokevirtual 92, (119, 0, 1, 0, 2, 5)), (96, 1, .iload_n 3, (0, 0, 0, 0, 0, 0)),
  (97, 1, .ireturn, (0, 0, 0, 0, 0, 0))]
def z_X5_up : List zI := [
  (0, 1, .aload_n 0, (0, 0, 0, 0, 0, 0)), (1, 1, .iload_n 2, (0, 0, 0, 0, 0, 0)), (2, 3, .invokevirtual 69, (114, 0, 1, 3, 2, 5)), (5, 1, .astore_n 3, (0, 0, 0, 0, 0, 0)), (6, 1, .aload_n 3, (0, 0, 0, 0, 0, 0)), (7, 3, .ifnull 10, (17, 0, 0, 0, 0, 0)),
  (10, 1, .iload_n 1, (0, 0, 0, 0, 0, 0)), (11, 3, .invokestatic 193, (116, 2, 1, 1, 1, 0)), (14, 3, .ifCond .ne 5, (19, 0, 0, 0, 0, 0)), (17, 1, .iconst (-1), (0, 0, 0, 0, 0, 0)), (18, 1, .ireturn, (0, 0, 0, 0, 0, 0)), (19, 1, .aload_n 0, (0, 0, 0, 0, 0, 0)),
  (20, 3, .getfield 21, (5, 2, 2, 0, 0, 0)), (23, 3, .getfield 136, (1, 1, 0, 1, 0, 0)), (26, 3, .ifCond .ne 6, (32, 0, 0, 0, 0, 0)), (29, 2, .bipush (-4), (0, 0, 0, 0, 0, 0)), (31, 1, .ireturn, (0, 0, 0, 0, 0, 0)), (32, 1, .aload_n 0, (0, 0, 0, 0, 0, 0)),
  (33, 3, .getfield 34, (5, 4, 2, 0, 0, 0)), (36, 1, .aload_n 0, (0, 0, 0, 0, 0, 0)), (37, 3, .getfield 30, (5, 3, 2, 0, 0, 0)), (40, 3, .invokevirtual 231, (3, 0, 1, 0, 2, 0)), (43, 1, .aload_n 0, (0, 0, 0, 0, 0, 0)), (44, 3, .getfield 34, (5, 4, 2, 0, 0, 0)),
  (47, 1, .iload_n 1, (0, 0, 0, 0, 0, 0)), (48, 3, .invokevirtual 214, (20, 0, 1, 1, 4, 0)), (51, 2, .istore 4, (0, 0, 0, 0, 0, 0)), (53, 1, .aload_n 3, (0, 0, 0, 0, 0, 0)), (54, 2, .iload 4, (0, 0, 0, 0, 0, 0)), (56, 1, .iconst 0, (0, 0, 0, 0, 0, 0)),
  (57, 3, .invokevirtual 258, (63, 0, 2, 0, 3, 4)), (60, 1, .iconst 0, (0, 0, 0, 0, 0, 0)), (61, 2, .istore 5, (0, 0, 0, 0, 0, 0)), (63, 1, .iconst 0, (0, 0, 0, 0, 0, 0)), (64, 2, .istore 6, (0, 0, 0, 0, 0, 0)), (66, 2, .iload 6, (0, 0, 0, 0, 0, 0)),
  (68, 2, .iload 4, (0, 0, 0, 0, 0, 0)), (70, 3, .if_icmp .ge 68, (138, 0, 0, 0, 0, 0)), (73, 1, .aload_n 0, (0, 0, 0, 0, 0, 0)), (74, 3, .getfield 34, (5, 4, 2, 0, 0, 0)), (77, 1, .iload_n 1, (0, 0, 0, 0, 0, 0)), (78, 3, .invokevirtual 261, (29, 0, 1, 1, 3, 0)),
  (81, 2, .istore 7, (0, 0, 0, 0, 0, 0)), (83, 1, .aload_n 0, (0, 0, 0, 0, 0, 0)), (84, 3, .getfield 21, (5, 2, 2, 0, 0, 0)), (87, 2, .iload 7, (0, 0, 0, 0, 0, 0)), (89, 3, .invokevirtual 139, (33, 0, 1, 1, 2, 1)), (92, 3, .ifCond .ne 6, (98, 0, 0, 0, 0, 0)),
  (95, 3, .goto 43, (138, 0, 0, 0, 0, 0)), (98, 2, .iload 5, (0, 0, 0, 0, 0, 0)), (100, 1, .aload_n 0, (0, 0, 0, 0, 0, 0)), (101, 3, .getfield 34, (5, 4, 2, 0, 0, 0)), (104, 2, .iload 7, (0, 0, 0, 0, 0, 0)), (106, 1, .iload_n 1, (0, 0, 0, 0, 0, 0)),
  (107, 3, .invokevirtual 264, (28, 0, 2, 1, 6, 0)), (110, 1, .iadd, (0, 0, 0, 0, 0, 0)), (111, 2, .istore 5, (0, 0, 0, 0, 0, 0)), (113, 1, .aload_n 3, (0, 0, 0, 0, 0, 0)), (114, 2, .iload 6, (0, 0, 0, 0, 0, 0)), (116, 2, .iload 7, (0, 0, 0, 0, 0, 0)),
  (118, 3, .invokevirtual 95, (62, 0, 2, 0, 3, 4)), (121, 1, .aload_n 0, (0, 0, 0, 0, 0, 0)), (122, 3, .getfield 34, (5, 4, 2, 0, 0, 0)), (125, 2, .iload 7, (0, 0, 0, 0, 0, 0)), (127, 2, .bipush (-9), (0, 0, 0, 0, 0, 0)), (129, 3, .invokevirtual 175, (11, 0, 2, 0, 3, 0)),
  (132, 3, .iinc 6 1, (0, 0, 0, 0, 0, 0)), (135, 3, .goto (-69), (66, 128, 0, 0, 0, 0)), (138, 2, .iload 5, (0, 0, 0, 0, 0, 0)), (140, 1, .ireturn, (0, 0, 0, 0, 0, 0))]
def z_X5_fits : List zI := [
  (0, 1, .aload_n 0, (0, 0, 0, 0, 0, 0)), (1, 1, .iload_n 1, (0, 0, 0, 0, 0, 0)), (2, 3, .invokevirtual 69, (114, 0, 1, 3, 2, 5)), (5, 1, .astore_n 2, (0, 0, 0, 0, 0, 0)), (6, 1, .aload_n 2, (0, 0, 0, 0, 0, 0)), (7, 3, .ifnonnull 5, (12, 0, 0, 0, 0, 0)),
  (10, 1, .iconst (-1), (0, 0, 0, 0, 0, 0)), (11, 1, .ireturn, (0, 0, 0, 0, 0, 0)), (12, 1, .aload_n 0, (0, 0, 0, 0, 0, 0)), (13, 3, .getfield 21, (5, 2, 2, 0, 0, 0)), (16, 3, .getfield 136, (1, 1, 0, 1, 0, 0)), (19, 3, .ifCond .ne 6, (25, 0, 0, 0, 0, 0)),
  (22, 2, .bipush (-4), (0, 0, 0, 0, 0, 0)), (24, 1, .ireturn, (0, 0, 0, 0, 0, 0)), (25, 1, .aload_n 2, (0, 0, 0, 0, 0, 0)), (26, 3, .invokevirtual 77, (58, 0, 0, 1, 1, 4)), (29, 3, .ifCond .eq 9, (38, 0, 0, 0, 0, 0)), (32, 1, .aload_n 0, (0, 0, 0, 0, 0, 0)),
  (33, 1, .iconst 1, (0, 0, 0, 0, 0, 0)), (34, 3, .invokevirtual 81, (118, 0, 1, 1, 2, 5)), (37, 1, .ireturn, (0, 0, 0, 0, 0, 0)), (38, 1, .aload_n 2, (0, 0, 0, 0, 0, 0)), (39, 3, .getfield 110, (4, 1, 0, 1, 0, 0)), (42, 1, .iconst 2, (0, 0, 0, 0, 0, 0)),
  (43, 1, .irem, (0, 0, 0, 0, 0, 0)), (44, 3, .ifCond .eq 9, (53, 0, 0, 0, 0, 0)), (47, 1, .aload_n 0, (0, 0, 0, 0, 0, 0)), (48, 1, .iconst 5, (0, 0, 0, 0, 0, 0)), (49, 3, .invokevirtual 81, (118, 0, 1, 1, 2, 5)), (52, 1, .ireturn, (0, 0, 0, 0, 0, 0)),
  (53, 1, .iconst 0, (0, 0, 0, 0, 0, 0)), (54, 1, .istore_n 3, (0, 0, 0, 0, 0, 0)), (55, 1, .iload_n 3, (0, 0, 0, 0, 0, 0)), (56, 1, .aload_n 2, (0, 0, 0, 0, 0, 0)), (57, 3, .getfield 110, (4, 1, 0, 1, 0, 0)), (60, 3, .if_icmp .ge 26, (86, 0, 0, 0, 0, 0)),
  (63, 1, .aload_n 2, (0, 0, 0, 0, 0, 0)), (64, 1, .iload_n 3, (0, 0, 0, 0, 0, 0)), (65, 3, .invokevirtual 89, (61, 0, 1, 1, 2, 4)), (68, 3, .invokestatic 193, (116, 2, 1, 1, 1, 0)), (71, 3, .ifCond .ne 9, (80, 0, 0, 0, 0, 0)), (74, 1, .aload_n 0, (0, 0, 0, 0, 0, 0)),
  (75, 1, .iconst 3, (0, 0, 0, 0, 0, 0)), (76, 3, .invokevirtual 81, (118, 0, 1, 1, 2, 5)), (79, 1, .ireturn, (0, 0, 0, 0, 0, 0)), (80, 3, .iinc 3 2, (0, 0, 0, 0, 0, 0)), (83, 3, .goto (-28), (55, 0, 0, 0, 0, 0)), (86, 1, .aload_n 0, (0, 0, 0, 0, 0, 0)),
  (87, 1, .aload_n 2, (0, 0, 0, 0, 0, 0)), (88, 3, .invokevirtual 267, (130, 0, 1, 0, 6, 5)), (91, 1, .iconst 1, (0, 0, 0, 0, 0, 0)), (92, 1, .ireturn, (0, 0, 0, 0, 0, 0))]
def z_X5_mid : List zI := [
  (0, 1, .iload_n 1, (0, 0, 0, 0, 0, 0)), (1, 3, .invokestatic 193, (116, 2, 1, 1, 1, 0)), (4, 3, .ifCond .ne 5, (9, 0, 0, 0, 0, 0)), (7, 1, .iconst (-1), (0, 0, 0, 0, 0, 0)), (8, 1, .ireturn, (0, 0, 0, 0, 0, 0)), (9, 1, .aload_n 0, (0, 0, 0, 0, 0, 0)),
  (10, 3, .getfield 21, (5, 2, 2, 0, 0, 0)), (13, 3, .getfield 136, (1, 1, 0, 1, 0, 0)), (16, 3, .ifCond .ne 6, (22, 0, 0, 0, 0, 0)), (19, 2, .bipush (-4), (0, 0, 0, 0, 0, 0)), (21, 1, .ireturn, (0, 0, 0, 0, 0, 0)), (22, 1, .lconst 0, (0, 0, 0, 0, 0, 0)),
  (23, 1, .lstore_n 2, (0, 0, 0, 0, 0, 0)), (24, 1, .aload_n 0, (0, 0, 0, 0, 0, 0)), (25, 3, .invokevirtual 240, (125, 0, 0, 0, 1, 5)), (28, 1, .aload_n 0, (0, 0, 0, 0, 0, 0)), (29, 3, .getfield 21, (5, 2, 2, 0, 0, 0)), (32, 3, .invokevirtual 243, (37, 0, 0, 1, 3, 1)),
  (35, 2, .istore 4, (0, 0, 0, 0, 0, 0)), (37, 2, .iload 4, (0, 0, 0, 0, 0, 0)), (39, 3, .ifCond .le 28, (67, 0, 0, 0, 0, 0)), (42, 1, .lload_n 2, (0, 0, 0, 0, 0, 0)), (43, 1, .aload_n 0, (0, 0, 0, 0, 0, 0)), (44, 3, .getfield 34, (5, 4, 2, 0, 0, 0)),
  (47, 1, .iload_n 1, (0, 0, 0, 0, 0, 0)), (48, 3, .invokevirtual 217, (25, 0, 1, 1, 4, 0)), (51, 1, .i2l, (0, 0, 0, 0, 0, 0)), (52, 1, .ladd, (0, 0, 0, 0, 0, 0)), (53, 1, .lstore_n 2, (0, 0, 0, 0, 0, 0)), (54, 1, .aload_n 0, (0, 0, 0, 0, 0, 0)),
  (55, 3, .getfield 34, (5, 4, 2, 0, 0, 0)), (58, 3, .invokevirtual 254, (16, 0, 0, 0, 3, 0)), (61, 3, .iinc 4 (-1), (0, 0, 0, 0, 0, 0)), (64, 3, .goto (-27), (37, 0, 0, 0, 0, 0)), (67, 1, .aload_n 0, (0, 0, 0, 0, 0, 0)), (68, 1, .lload_n 2, (0, 0, 0, 0, 0, 0)),
  (69, 1, .aload_n 0, (0, 0, 0, 0, 0, 0)), (70, 3, .getfield 21, (5, 2, 2, 0, 0, 0)), (73, 3, .invokevirtual 243, (37, 0, 0, 1, 3, 1)), (76, 1, .i2l, (0, 0, 0, 0, 0, 0)), (77, 3, .invokevirtual 271, (120, 0, 2, 0, 7, 5)), (80, 1, .iconst 1, (0, 0, 0, 0, 0, 0)),
  (81, 1, .ireturn, (0, 0, 0, 0, 0, 0))]
def z_X5_lots : List zI := [
  (0, 1, .iload_n 1, (0, 0, 0, 0, 0, 0)), (1, 1, .iconst 1, (0, 0, 0, 0, 0, 0)), (2, 3, .if_icmp .lt 23, (25, 0, 0, 0, 0, 0)), (5, 1, .iload_n 1, (0, 0, 0, 0, 0, 0)), (6, 2, .bipush 20, (0, 0, 0, 0, 0, 0)), (8, 3, .if_icmp .gt 17, (25, 0, 0, 0, 0, 0)),
  (11, 1, .iload_n 2, (0, 0, 0, 0, 0, 0)), (12, 1, .iconst 1, (0, 0, 0, 0, 0, 0)), (13, 3, .if_icmp .lt 12, (25, 0, 0, 0, 0, 0)), (16, 1, .iload_n 2, (0, 0, 0, 0, 0, 0)), (17, 1, .i2l, (0, 0, 0, 0, 0, 0)), (18, 3, .ldc2_w 275, (0, 0, 0, 0, 0, 2147483647)),
  (21, 1, .lcmp, (0, 0, 0, 0, 0, 0)), (22, 3, .ifCond .lt 5, (27, 0, 0, 0, 0, 0)), (25, 1, .iconst (-1), (0, 0, 0, 0, 0, 0)), (26, 1, .ireturn, (0, 0, 0, 0, 0, 0)), (27, 1, .aload_n 0, (0, 0, 0, 0, 0, 0)), (28, 3, .getfield 21, (5, 2, 2, 0, 0, 0)),
  (31, 3, .getfield 136, (1, 1, 0, 1, 0, 0)), (34, 3, .ifCond .ne 6, (40, 0, 0, 0, 0, 0)), (37, 2, .bipush (-4), (0, 0, 0, 0, 0, 0)), (39, 1, .ireturn, (0, 0, 0, 0, 0, 0)), (40, 1, .aload_n 0, (0, 0, 0, 0, 0, 0)), (41, 3, .getfield 42, (5, 5, 2, 0, 0, 0)),
  (44, 1, .iload_n 1, (0, 0, 0, 0, 0, 0)), (45, 3, .invokevirtual 172, (44, 0, 1, 1, 2, 2)), (48, 3, .ifCond .ne 6, (54, 0, 0, 0, 0, 0)), (51, 2, .bipush (-2), (0, 0, 0, 0, 0, 0)), (53, 1, .ireturn, (0, 0, 0, 0, 0, 0)), (54, 1, .iload_n 2, (0, 0, 0, 0, 0, 0)),
  (55, 1, .i2l, (0, 0, 0, 0, 0, 0)), (56, 1, .lstore_n 3, (0, 0, 0, 0, 0, 0)), (57, 1, .iconst 0, (0, 0, 0, 0, 0, 0)), (58, 2, .istore 5, (0, 0, 0, 0, 0, 0)), (60, 1, .iconst 0, (0, 0, 0, 0, 0, 0)), (61, 2, .istore 6, (0, 0, 0, 0, 0, 0)),
  (63, 2, .iload 6, (0, 0, 0, 0, 0, 0)), (65, 1, .iload_n 1, (0, 0, 0, 0, 0, 0)), (66, 3, .if_icmp .ge 38, (104, 0, 0, 0, 0, 0)), (69, 1, .lload_n 3, (0, 0, 0, 0, 0, 0)), (70, 3, .ldc2_w 277, (0, 0, 0, 0, 0, 48271)), (73, 1, .lmul, (0, 0, 0, 0, 0, 0)),
  (74, 3, .ldc2_w 275, (0, 0, 0, 0, 0, 2147483647)), (77, 1, .lrem, (0, 0, 0, 0, 0, 0)), (78, 1, .lstore_n 3, (0, 0, 0, 0, 0, 0)), (79, 2, .iload 5, (0, 0, 0, 0, 0, 0)), (81, 1, .aload_n 0, (0, 0, 0, 0, 0, 0)), (82, 1, .lload_n 3, (0, 0, 0, 0, 0, 0)),
  (83, 3, .ldc2_w 279, (0, 0, 0, 0, 0, 16)), (86, 1, .ldiv, (0, 0, 0, 0, 0, 0)), (87, 3, .ldc2_w 281, (0, 0, 0, 0, 0, 3)), (90, 1, .lrem, (0, 0, 0, 0, 0, 0)), (91, 1, .l2i, (0, 0, 0, 0, 0, 0)), (92, 3, .invokevirtual 196, (123, 0, 1, 1, 3, 5)),
  (95, 1, .iadd, (0, 0, 0, 0, 0, 0)), (96, 2, .istore 5, (0, 0, 0, 0, 0, 0)), (98, 3, .iinc 6 1, (0, 0, 0, 0, 0, 0)), (101, 3, .goto (-38), (63, 0, 0, 0, 0, 0)), (104, 2, .iload 5, (0, 0, 0, 0, 0, 0)), (106, 1, .ireturn, (0, 0, 0, 0, 0, 0))]
def z_X5_asked : List zI := [
  (0, 1, .aload_n 0, (0, 0, 0, 0, 0, 0)), (1, 3, .getfield 50, (5, 7, 0, 0, 0, 0)), (4, 1, .ireturn, (0, 0, 0, 0, 0, 0))]
def z_X5_upper : List zI := [
  (0, 1, .aload_n 0, (0, 0, 0, 0, 0, 0)), (1, 3, .getfield 54, (5, 8, 1, 0, 0, 0)), (4, 1, .lreturn, (0, 0, 0, 0, 0, 0))]
def z_X5_lower : List zI := [
  (0, 1, .aload_n 0, (0, 0, 0, 0, 0, 0)), (1, 3, .getfield 58, (5, 9, 1, 0, 0, 0)), (4, 1, .lreturn, (0, 0, 0, 0, 0, 0))]
def z_X5_count : List zI := [
  (0, 1, .iload_n 1, (0, 0, 0, 0, 0, 0)), (1, 3, .ifCond .lt 9, (10, 0, 0, 0, 0, 0)), (4, 1, .iload_n 1, (0, 0, 0, 0, 0, 0)), (5, 2, .bipush 9, (0, 0, 0, 0, 0, 0)), (7, 3, .if_icmp .lt 7, (14, 0, 0, 0, 0, 0)), (10, 1, .iconst (-1), (0, 0, 0, 0, 0, 0)),
  (11, 3, .goto 8, (19, 0, 0, 0, 0, 0)), (14, 1, .aload_n 0, (0, 0, 0, 0, 0, 0)), (15, 1, .iload_n 1, (0, 0, 0, 0, 0, 0)), (16, 3, .invokevirtual 283, (133, 0, 1, 1, 2, 5)), (19, 1, .ireturn, (0, 0, 0, 0, 0, 0))]
def z_X5_finding : List zI := [
  (0, 1, .aload_n 0, (0, 0, 0, 0, 0, 0)), (1, 3, .getfield 61, (5, 10, 0, 0, 0, 0)), (4, 1, .ireturn, (0, 0, 0, 0, 0, 0))]
def z_X5_findings : List zI := [
  (0, 1, .iload_n 1, (0, 0, 0, 0, 0, 0)), (1, 1, .iconst 1, (0, 0, 0, 0, 0, 0)), (2, 3, .if_icmp .lt 8, (10, 0, 0, 0, 0, 0)), (5, 1, .iload_n 1, (0, 0, 0, 0, 0, 0)), (6, 1, .iconst 5, (0, 0, 0, 0, 0, 0)), (7, 3, .if_icmp .le 7, (14, 0, 0, 0, 0, 0)),
  (10, 1, .iconst (-1), (0, 0, 0, 0, 0, 0)), (11, 3, .goto 9, (20, 0, 0, 0, 0, 0)), (14, 1, .aload_n 0, (0, 0, 0, 0, 0, 0)), (15, 3, .getfield 64, (5, 11, 2, 0, 0, 0)), (18, 1, .iload_n 1, (0, 0, 0, 0, 0, 0)), (19, 1, .iaload, (0, 0, 0, 0, 0, 0)),
  (20, 1, .ireturn, (0, 0, 0, 0, 0, 0))]
def z_X5_digest : List zI := [
  (0, 3, .ldc2_w 286, (0, 0, 0, 0, 0, 17)), (3, 1, .lstore_n 1, (0, 0, 0, 0, 0, 0)), (4, 1, .iconst 0, (0, 0, 0, 0, 0, 0)), (5, 1, .istore_n 3, (0, 0, 0, 0, 0, 0)), (6, 1, .iload_n 3, (0, 0, 0, 0, 0, 0)), (7, 2, .bipush 9, (0, 0, 0, 0, 0, 0)),
  (9, 3, .if_icmp .ge 22, (31, 0, 0, 0, 0, 0)), (12, 3, .ldc2_w 288, (0, 0, 0, 0, 0, 31)), (15, 1, .lload_n 1, (0, 0, 0, 0, 0, 0)), (16, 1, .lmul, (0, 0, 0, 0, 0, 0)), (17, 1, .aload_n 0, (0, 0, 0, 0, 0, 0)), (18, 1, .iload_n 3, (0, 0, 0, 0, 0, 0)),
  (19, 3, .invokevirtual 283, (133, 0, 1, 1, 2, 5)), (22, 1, .i2l, (0, 0, 0, 0, 0, 0)), (23, 1, .ladd, (0, 0, 0, 0, 0, 0)), (24, 1, .lstore_n 1, (0, 0, 0, 0, 0, 0)), (25, 3, .iinc 3 1, (0, 0, 0, 0, 0, 0)), (28, 3, .goto (-22), (6, 0, 0, 0, 0, 0)),
  (31, 1, .iconst 0, (0, 0, 0, 0, 0, 0)), (32, 1, .istore_n 3, (0, 0, 0, 0, 0, 0)), (33, 1, .iload_n 3, (0, 0, 0, 0, 0, 0)), (34, 1, .aload_n 0, (0, 0, 0, 0, 0, 0)), (35, 3, .getfield 21, (5, 2, 2, 0, 0, 0)), (38, 3, .getfield 290, (1, 0, 0, 1, 0, 0)),
  (41, 3, .if_icmp .ge 42, (83, 0, 0, 0, 0, 0)), (44, 1, .iconst 0, (0, 0, 0, 0, 0, 0)), (45, 2, .istore 4, (0, 0, 0, 0, 0, 0)), (47, 2, .iload 4, (0, 0, 0, 0, 0, 0)), (49, 1, .iconst 2, (0, 0, 0, 0, 0, 0)), (50, 3, .if_icmp .ge 27, (77, 0, 0, 0, 0, 0)),
  (53, 3, .ldc2_w 288, (0, 0, 0, 0, 0, 31)), (56, 1, .lload_n 1, (0, 0, 0, 0, 0, 0)), (57, 1, .lmul, (0, 0, 0, 0, 0, 0)), (58, 1, .aload_n 0, (0, 0, 0, 0, 0, 0)), (59, 3, .getfield 30, (5, 3, 2, 0, 0, 0)), (62, 1, .iload_n 3, (0, 0, 0, 0, 0, 0)),
  (63, 2, .iload 4, (0, 0, 0, 0, 0, 0)), (65, 3, .invokevirtual 149, (5, 0, 2, 1, 3, 0)), (68, 1, .i2l, (0, 0, 0, 0, 0, 0)), (69, 1, .ladd, (0, 0, 0, 0, 0, 0)), (70, 1, .lstore_n 1, (0, 0, 0, 0, 0, 0)), (71, 3, .iinc 4 1, (0, 0, 0, 0, 0, 0)),
  (74, 3, .goto (-27), (47, 0, 0, 0, 0, 0)), (77, 3, .iinc 3 1, (0, 0, 0, 0, 0, 0)), (80, 3, .goto (-47), (33, 16, 0, 0, 0, 0)), (83, 1, .iconst 0, (0, 0, 0, 0, 0, 0)), (84, 1, .istore_n 3, (0, 0, 0, 0, 0, 0)), (85, 1, .iload_n 3, (0, 0, 0, 0, 0, 0)),
  (86, 1, .aload_n 0, (0, 0, 0, 0, 0, 0)), (87, 3, .getfield 21, (5, 2, 2, 0, 0, 0)), (90, 3, .getfield 136, (1, 1, 0, 1, 0, 0)), (93, 3, .if_icmp .ge 43, (136, 0, 0, 0, 0, 0)), (96, 1, .iconst 0, (0, 0, 0, 0, 0, 0)), (97, 2, .istore 4, (0, 0, 0, 0, 0, 0)),
  (99, 2, .iload 4, (0, 0, 0, 0, 0, 0)), (101, 2, .bipush 6, (0, 0, 0, 0, 0, 0)), (103, 3, .if_icmp .ge 27, (130, 0, 0, 0, 0, 0)), (106, 3, .ldc2_w 288, (0, 0, 0, 0, 0, 31)), (109, 1, .lload_n 1, (0, 0, 0, 0, 0, 0)), (110, 1, .lmul, (0, 0, 0, 0, 0, 0)),
  (111, 1, .aload_n 0, (0, 0, 0, 0, 0, 0)), (112, 3, .getfield 30, (5, 3, 2, 0, 0, 0)), (115, 1, .iload_n 3, (0, 0, 0, 0, 0, 0)), (116, 2, .iload 4, (0, 0, 0, 0, 0, 0)), (118, 3, .invokevirtual 142, (4, 0, 2, 1, 3, 0)), (121, 1, .i2l, (0, 0, 0, 0, 0, 0)),
  (122, 1, .ladd, (0, 0, 0, 0, 0, 0)), (123, 1, .lstore_n 1, (0, 0, 0, 0, 0, 0)), (124, 3, .iinc 4 1, (0, 0, 0, 0, 0, 0)), (127, 3, .goto (-28), (99, 0, 0, 0, 0, 0)), (130, 3, .iinc 3 1, (0, 0, 0, 0, 0, 0)), (133, 3, .goto (-48), (85, 16, 0, 0, 0, 0)),
  (136, 1, .iconst 0, (0, 0, 0, 0, 0, 0)), (137, 1, .istore_n 3, (0, 0, 0, 0, 0, 0)), (138, 1, .iload_n 3, (0, 0, 0, 0, 0, 0)), (139, 1, .aload_n 0, (0, 0, 0, 0, 0, 0)), (140, 3, .getfield 46, (5, 6, 2, 0, 0, 0)), (143, 1, .arraylength, (0, 0, 0, 0, 0, 0)),
  (144, 3, .if_icmp .ge 26, (170, 0, 0, 0, 0, 0)), (147, 3, .ldc2_w 288, (0, 0, 0, 0, 0, 31)), (150, 1, .lload_n 1, (0, 0, 0, 0, 0, 0)), (151, 1, .lmul, (0, 0, 0, 0, 0, 0)), (152, 1, .aload_n 0, (0, 0, 0, 0, 0, 0)), (153, 3, .getfield 46, (5, 6, 2, 0, 0, 0)),
  (156, 1, .iload_n 3, (0, 0, 0, 0, 0, 0)), (157, 1, .aaload, (0, 0, 0, 0, 0, 0)), (158, 3, .getfield 199, (2, 1, 0, 1, 0, 0)), (161, 1, .i2l, (0, 0, 0, 0, 0, 0)), (162, 1, .ladd, (0, 0, 0, 0, 0, 0)), (163, 1, .lstore_n 1, (0, 0, 0, 0, 0, 0)),
  (164, 3, .iinc 3 1, (0, 0, 0, 0, 0, 0)), (167, 3, .goto (-29), (138, 0, 0, 0, 0, 0)), (170, 1, .iconst 0, (0, 0, 0, 0, 0, 0)), (171, 1, .istore_n 3, (0, 0, 0, 0, 0, 0)), (172, 1, .iload_n 3, (0, 0, 0, 0, 0, 0)), (173, 1, .aload_n 0, (0, 0, 0, 0, 0, 0)),
  (174, 3, .getfield 11, (5, 0, 2, 0, 0, 0)), (177, 1, .arraylength, (0, 0, 0, 0, 0, 0)), (178, 3, .if_icmp .ge 20, (198, 0, 0, 0, 0, 0)), (181, 1, .aload_n 0, (0, 0, 0, 0, 0, 0)), (182, 3, .getfield 11, (5, 0, 2, 0, 0, 0)), (185, 1, .iload_n 3, (0, 0, 0, 0, 0, 0)),
  (186, 1, .aaload, (0, 0, 0, 0, 0, 0)), (187, 1, .lload_n 1, (0, 0, 0, 0, 0, 0)), (188, 3, .invokevirtual 292, (67, 0, 1, 2, 6, 4)), (191, 1, .lstore_n 1, (0, 0, 0, 0, 0, 0)), (192, 3, .iinc 3 1, (0, 0, 0, 0, 0, 0)), (195, 3, .goto (-23), (172, 0, 0, 0, 0, 0)),
  (198, 1, .iconst 0, (0, 0, 0, 0, 0, 0)), (199, 1, .istore_n 3, (0, 0, 0, 0, 0, 0)), (200, 1, .iload_n 3, (0, 0, 0, 0, 0, 0)), (201, 1, .aload_n 0, (0, 0, 0, 0, 0, 0)), (202, 3, .getfield 15, (5, 1, 2, 0, 0, 0)), (205, 1, .arraylength, (0, 0, 0, 0, 0, 0)),
  (206, 3, .if_icmp .ge 20, (226, 0, 0, 0, 0, 0)), (209, 1, .aload_n 0, (0, 0, 0, 0, 0, 0)), (210, 3, .getfield 15, (5, 1, 2, 0, 0, 0)), (213, 1, .iload_n 3, (0, 0, 0, 0, 0, 0)), (214, 1, .aaload, (0, 0, 0, 0, 0, 0)), (215, 1, .lload_n 1, (0, 0, 0, 0, 0, 0)),
  (216, 3, .invokevirtual 292, (67, 0, 1, 2, 6, 4)), (219, 1, .lstore_n 1, (0, 0, 0, 0, 0, 0)), (220, 3, .iinc 3 1, (0, 0, 0, 0, 0, 0)), (223, 3, .goto (-23), (200, 0, 0, 0, 0, 0)), (226, 1, .lload_n 1, (0, 0, 0, 0, 0, 0)), (227, 1, .lreturn, (0, 0, 0, 0, 0, 0))]
def z_X5_rowAt : List zI := [
  (0, 1, .iload_n 1, (0, 0, 0, 0, 0, 0)), (1, 3, .ifCond .lt 21, (22, 0, 0, 0, 0, 0)), (4, 1, .iload_n 1, (0, 0, 0, 0, 0, 0)), (5, 1, .aload_n 0, (0, 0, 0, 0, 0, 0)), (6, 3, .getfield 11, (5, 0, 2, 0, 0, 0)), (9, 1, .arraylength, (0, 0, 0, 0, 0, 0)),
  (10, 3, .if_icmp .ge 12, (22, 0, 0, 0, 0, 0)), (13, 1, .aload_n 0, (0, 0, 0, 0, 0, 0)), (14, 3, .getfield 11, (5, 0, 2, 0, 0, 0)), (17, 1, .iload_n 1, (0, 0, 0, 0, 0, 0)), (18, 1, .aaload, (0, 0, 0, 0, 0, 0)), (19, 3, .goto 4, (23, 0, 0, 0, 0, 0)),
  (22, 1, .aconst_null, (0, 0, 0, 0, 0, 0)), (23, 1, .areturn, (0, 0, 0, 0, 0, 0))]
def z_X5_textAt : List zI := [
  (0, 1, .iload_n 1, (0, 0, 0, 0, 0, 0)), (1, 3, .ifCond .lt 21, (22, 0, 0, 0, 0, 0)), (4, 1, .iload_n 1, (0, 0, 0, 0, 0, 0)), (5, 1, .aload_n 0, (0, 0, 0, 0, 0, 0)), (6, 3, .getfield 15, (5, 1, 2, 0, 0, 0)), (9, 1, .arraylength, (0, 0, 0, 0, 0, 0)),
  (10, 3, .if_icmp .ge 12, (22, 0, 0, 0, 0, 0)), (13, 1, .aload_n 0, (0, 0, 0, 0, 0, 0)), (14, 3, .getfield 15, (5, 1, 2, 0, 0, 0)), (17, 1, .iload_n 1, (0, 0, 0, 0, 0, 0)), (18, 1, .aaload, (0, 0, 0, 0, 0, 0)), (19, 3, .goto 4, (23, 0, 0, 0, 0, 0)),
  (22, 1, .aconst_null, (0, 0, 0, 0, 0, 0)), (23, 1, .areturn, (0, 0, 0, 0, 0, 0))]
def z_X5_isWhen : List zI := [
  (0, 1, .iload_n 0, (0, 0, 0, 0, 0, 0)), (1, 3, .ifCond .lt 12, (13, 0, 0, 0, 0, 0)), (4, 1, .iload_n 0, (0, 0, 0, 0, 0, 0)), (5, 1, .iconst 2, (0, 0, 0, 0, 0, 0)), (6, 3, .if_icmp .gt 7, (13, 0, 0, 0, 0, 0)), (9, 1, .iconst 1, (0, 0, 0, 0, 0, 0)),
  (10, 3, .goto 4, (14, 0, 0, 0, 0, 0)), (13, 1, .iconst 0, (0, 0, 0, 0, 0, 0)), (14, 1, .ireturn, (1, 0, 0, 0, 0, 0))]
def z_X5_isKeptPlace : List zI := [
  (0, 1, .iload_n 1, (0, 0, 0, 0, 0, 0)), (1, 3, .ifCond .lt 16, (17, 0, 0, 0, 0, 0)), (4, 1, .iload_n 1, (0, 0, 0, 0, 0, 0)), (5, 1, .aload_n 0, (0, 0, 0, 0, 0, 0)), (6, 3, .getfield 46, (5, 6, 2, 0, 0, 0)), (9, 1, .arraylength, (0, 0, 0, 0, 0, 0)),
  (10, 3, .if_icmp .ge 7, (17, 0, 0, 0, 0, 0)), (13, 1, .iconst 1, (0, 0, 0, 0, 0, 0)), (14, 3, .goto 4, (18, 0, 0, 0, 0, 0)), (17, 1, .iconst 0, (0, 0, 0, 0, 0, 0)), (18, 1, .ireturn, (1, 0, 0, 0, 0, 0))]
def z_X5_found : List zI := [
  (0, 1, .iload_n 1, (0, 0, 0, 0, 0, 0)), (1, 1, .iconst 1, (0, 0, 0, 0, 0, 0)), (2, 3, .if_icmp .lt 18, (20, 0, 0, 0, 0, 0)), (5, 1, .iload_n 1, (0, 0, 0, 0, 0, 0)), (6, 1, .iconst 5, (0, 0, 0, 0, 0, 0)), (7, 3, .if_icmp .gt 13, (20, 0, 0, 0, 0, 0)),
  (10, 1, .aload_n 0, (0, 0, 0, 0, 0, 0)), (11, 3, .getfield 64, (5, 11, 2, 0, 0, 0)), (14, 1, .iload_n 1, (0, 0, 0, 0, 0, 0)), (15, 1, .dup2, (0, 0, 0, 0, 0, 0)), (16, 1, .iaload, (0, 0, 0, 0, 0, 0)), (17, 1, .iconst 1, (0, 0, 0, 0, 0, 0)),
  (18, 1, .iadd, (0, 0, 0, 0, 0, 0)), (19, 1, .iastore, (0, 0, 0, 0, 0, 0)), (20, 1, .aload_n 0, (0, 0, 0, 0, 0, 0)), (21, 1, .iload_n 1, (0, 0, 0, 0, 0, 0)), (22, 3, .putfield 61, (5, 10, 0, 0, 0, 0)), (25, 2, .bipush (-3), (0, 0, 0, 0, 0, 0)),
  (27, 1, .ireturn, (0, 0, 0, 0, 0, 0))]
def z_X5_tell : List zI := [
  (0, 1, .aload_n 0, (0, 0, 0, 0, 0, 0)), (1, 1, .iload_n 1, (0, 0, 0, 0, 0, 0)), (2, 3, .putfield 50, (5, 7, 0, 0, 0, 0)), (5, 1, .return_, (0, 0, 0, 0, 0, 0))]
def z_X5_tellMean : List zI := [
  (0, 1, .lconst 1, (0, 0, 0, 0, 0, 0)), (1, 1, .lload_n 1, (0, 0, 0, 0, 0, 0)), (2, 1, .lload_n 3, (0, 0, 0, 0, 0, 0)), (3, 3, .invokestatic 296, (121, 2, 2, 2, 11, 0)), (6, 3, .invokestatic 300, (0, 9, 0, 0, 0, 0)), (9, 2, .lstore 5, (0, 0, 0, 0, 0, 0)),
  (11, 1, .aload_n 0, (0, 0, 0, 0, 0, 0)), (12, 1, .lload_n 1, (0, 0, 0, 0, 0, 0)), (13, 2, .lload 5, (0, 0, 0, 0, 0, 0)), (15, 1, .ldiv, (0, 0, 0, 0, 0, 0)), (16, 3, .putfield 54, (5, 8, 1, 0, 0, 0)), (19, 1, .aload_n 0, (0, 0, 0, 0, 0, 0)),
  (20, 1, .lload_n 3, (0, 0, 0, 0, 0, 0)), (21, 2, .lload 5, (0, 0, 0, 0, 0, 0)), (23, 1, .ldiv, (0, 0, 0, 0, 0, 0)), (24, 3, .putfield 58, (5, 9, 1, 0, 0, 0)), (27, 1, .return_, (0, 0, 0, 0, 0, 0))]
def z_X5_commonDivisor : List zI := [
  (0, 1, .lload_n 0, (0, 0, 0, 0, 0, 0)), (1, 2, .lstore 4, (0, 0, 0, 0, 0, 0)), (3, 1, .lload_n 2, (0, 0, 0, 0, 0, 0)), (4, 2, .lstore 6, (0, 0, 0, 0, 0, 0)), (6, 1, .iconst 0, (0, 0, 0, 0, 0, 0)), (7, 2, .istore 8, (0, 0, 0, 0, 0, 0)),
  (9, 2, .iload 8, (0, 0, 0, 0, 0, 0)), (11, 3, .sipush 130, (0, 0, 0, 0, 0, 0)), (14, 3, .if_icmp .ge 31, (45, 0, 0, 0, 0, 0)), (17, 2, .lload 6, (0, 0, 0, 0, 0, 0)), (19, 1, .lconst 0, (0, 0, 0, 0, 0, 0)), (20, 1, .lcmp, (0, 0, 0, 0, 0, 0)),
  (21, 3, .ifCond .eq 24, (45, 0, 0, 0, 0, 0)), (24, 2, .lload 4, (0, 0, 0, 0, 0, 0)), (26, 2, .lload 6, (0, 0, 0, 0, 0, 0)), (28, 1, .lrem, (0, 0, 0, 0, 0, 0)), (29, 2, .lstore 9, (0, 0, 0, 0, 0, 0)), (31, 2, .lload 6, (0, 0, 0, 0, 0, 0)),
  (33, 2, .lstore 4, (0, 0, 0, 0, 0, 0)), (35, 2, .lload 9, (0, 0, 0, 0, 0, 0)), (37, 2, .lstore 6, (0, 0, 0, 0, 0, 0)), (39, 3, .iinc 8 1, (0, 0, 0, 0, 0, 0)), (42, 3, .goto (-33), (9, 512, 0, 0, 0, 0)), (45, 2, .lload 4, (0, 0, 0, 0, 0, 0)),
  (47, 3, .invokestatic 302, (0, 8, 0, 0, 0, 0)), (50, 1, .lreturn, (0, 0, 0, 0, 0, 0))]
def z_X5_renewed : List zI := [
  (0, 1, .aload_n 1, (0, 0, 0, 0, 0, 0)), (1, 3, .ifnull 8, (9, 0, 0, 0, 0, 0)), (4, 1, .iload_n 2, (0, 0, 0, 0, 0, 0)), (5, 1, .iload_n 3, (0, 0, 0, 0, 0, 0)), (6, 3, .if_icmp .le 5, (11, 0, 0, 0, 0, 0)), (9, 1, .iconst (-1), (0, 0, 0, 0, 0, 0)),
  (10, 1, .ireturn, (0, 0, 0, 0, 0, 0)), (11, 1, .iload_n 2, (0, 0, 0, 0, 0, 0)), (12, 3, .ifCond .ge 9, (21, 0, 0, 0, 0, 0)), (15, 1, .aload_n 0, (0, 0, 0, 0, 0, 0)), (16, 1, .iconst 5, (0, 0, 0, 0, 0, 0)), (17, 3, .invokevirtual 81, (118, 0, 1, 1, 2, 5)),
  (20, 1, .ireturn, (0, 0, 0, 0, 0, 0)), (21, 1, .aload_n 1, (0, 0, 0, 0, 0, 0)), (22, 1, .iload_n 2, (0, 0, 0, 0, 0, 0)), (23, 2, .iload 4, (0, 0, 0, 0, 0, 0)), (25, 3, .invokevirtual 258, (63, 0, 2, 0, 3, 4)), (28, 1, .iload_n 2, (0, 0, 0, 0, 0, 0)),
  (29, 1, .ireturn, (0, 0, 0, 0, 0, 0))]
def z_X5_sleptThrough : List zI := [
  (0, 1, .aload_n 0, (0, 0, 0, 0, 0, 0)), (1, 3, .getfield 30, (5, 3, 2, 0, 0, 0)), (4, 1, .iload_n 1, (0, 0, 0, 0, 0, 0)), (5, 3, .invokevirtual 305, (27, 0, 1, 1, 5, 0)), (8, 1, .istore_n 2, (0, 0, 0, 0, 0, 0)), (9, 1, .aload_n 0, (0, 0, 0, 0, 0, 0)),
  (10, 3, .getfield 42, (5, 5, 2, 0, 0, 0)), (13, 1, .aload_n 0, (0, 0, 0, 0, 0, 0)), (14, 3, .getfield 30, (5, 3, 2, 0, 0, 0)), (17, 3, .invokevirtual 178, (46, 0, 1, 0, 2, 2)), (20, 1, .iload_n 2, (0, 0, 0, 0, 0, 0)), (21, 1, .ireturn, (0, 0, 0, 0, 0, 0))]
def z_X5_wakingsWithout : List zI := [
  (0, 1, .aload_n 0, (0, 0, 0, 0, 0, 0)), (1, 3, .getfield 34, (5, 4, 2, 0, 0, 0)), (4, 1, .aload_n 0, (0, 0, 0, 0, 0, 0)), (5, 3, .getfield 30, (5, 3, 2, 0, 0, 0)), (8, 3, .invokevirtual 231, (3, 0, 1, 0, 2, 0)), (11, 1, .aload_n 0, (0, 0, 0, 0, 0, 0)),
  (12, 3, .getfield 34, (5, 4, 2, 0, 0, 0)), (15, 1, .iload_n 1, (0, 0, 0, 0, 0, 0)), (16, 2, .bipush (-9), (0, 0, 0, 0, 0, 0)), (18, 3, .invokevirtual 175, (11, 0, 2, 0, 3, 0)), (21, 1, .aload_n 0, (0, 0, 0, 0, 0, 0)), (22, 3, .getfield 34, (5, 4, 2, 0, 0, 0)),
  (25, 1, .iload_n 2, (0, 0, 0, 0, 0, 0)), (26, 1, .iload_n 3, (0, 0, 0, 0, 0, 0)), (27, 3, .invokevirtual 166, (23, 0, 2, 1, 5, 0)), (30, 1, .ireturn, (0, 0, 0, 0, 0, 0))]
def z_X5_beginPlans : List zI := [
  (0, 1, .aload_n 0, (0, 0, 0, 0, 0, 0)), (1, 3, .getfield 34, (5, 4, 2, 0, 0, 0)), (4, 1, .aload_n 0, (0, 0, 0, 0, 0, 0)), (5, 3, .getfield 30, (5, 3, 2, 0, 0, 0)), (8, 3, .invokevirtual 231, (3, 0, 1, 0, 2, 0)), (11, 1, .aload_n 0, (0, 0, 0, 0, 0, 0)),
  (12, 3, .getfield 34, (5, 4, 2, 0, 0, 0)), (15, 3, .invokevirtual 308, (15, 0, 0, 0, 2, 0)), (18, 1, .return_, (0, 0, 0, 0, 0, 0))]
def z_X5_leastPlan : List zI := [
  (0, 1, .aload_n 3, (0, 0, 0, 0, 0, 0)), (1, 3, .ifnonnull 5, (6, 0, 0, 0, 0, 0)), (4, 1, .iconst (-1), (0, 0, 0, 0, 0, 0)), (5, 1, .ireturn, (0, 0, 0, 0, 0, 0)), (6, 1, .aload_n 0, (0, 0, 0, 0, 0, 0)), (7, 3, .getfield 21, (5, 2, 2, 0, 0, 0)),
  (10, 3, .getfield 136, (1, 1, 0, 1, 0, 0)), (13, 3, .ifCond .ne 6, (19, 0, 0, 0, 0, 0)), (16, 2, .bipush (-4), (0, 0, 0, 0, 0, 0)), (18, 1, .ireturn, (0, 0, 0, 0, 0, 0)), (19, 1, .aload_n 3, (0, 0, 0, 0, 0, 0)), (20, 1, .aload_n 0, (0, 0, 0, 0, 0, 0)),
  (21, 3, .getfield 21, (5, 2, 2, 0, 0, 0)), (24, 3, .getfield 136, (1, 1, 0, 1, 0, 0)), (27, 1, .iconst 0, (0, 0, 0, 0, 0, 0)), (28, 3, .invokevirtual 258, (63, 0, 2, 0, 3, 4)), (31, 3, .ldc_w 257, (0, 0, 0, 0, 0, 1000000)), (34, 2, .istore 4, (0, 0, 0, 0, 0, 0)),
  (36, 1, .aload_n 0, (0, 0, 0, 0, 0, 0)), (37, 3, .invokevirtual 240, (125, 0, 0, 0, 1, 5)), (40, 1, .aload_n 0, (0, 0, 0, 0, 0, 0)), (41, 3, .getfield 21, (5, 2, 2, 0, 0, 0)), (44, 3, .invokevirtual 243, (37, 0, 0, 1, 3, 1)), (47, 2, .istore 5, (0, 0, 0, 0, 0, 0)),
  (49, 2, .iload 5, (0, 0, 0, 0, 0, 0)), (51, 3, .ifCond .le 72, (123, 0, 0, 0, 0, 0)), (54, 1, .aload_n 0, (0, 0, 0, 0, 0, 0)), (55, 1, .iload_n 1, (0, 0, 0, 0, 0, 0)), (56, 1, .iload_n 2, (0, 0, 0, 0, 0, 0)), (57, 3, .invokevirtual 311, (127, 0, 2, 1, 3, 5)),
  (60, 2, .istore 6, (0, 0, 0, 0, 0, 0)), (62, 2, .iload 6, (0, 0, 0, 0, 0, 0)), (64, 2, .iload 4, (0, 0, 0, 0, 0, 0)), (66, 3, .if_icmp .ge 44, (110, 0, 0, 0, 0, 0)), (69, 2, .iload 6, (0, 0, 0, 0, 0, 0)), (71, 2, .istore 4, (0, 0, 0, 0, 0, 0)),
  (73, 1, .iconst 0, (0, 0, 0, 0, 0, 0)), (74, 2, .istore 7, (0, 0, 0, 0, 0, 0)), (76, 2, .iload 7, (0, 0, 0, 0, 0, 0)), (78, 1, .aload_n 0, (0, 0, 0, 0, 0, 0)), (79, 3, .getfield 21, (5, 2, 2, 0, 0, 0)), (82, 3, .getfield 136, (1, 1, 0, 1, 0, 0)),
  (85, 3, .if_icmp .ge 25, (110, 0, 0, 0, 0, 0)), (88, 1, .aload_n 3, (0, 0, 0, 0, 0, 0)), (89, 2, .iload 7, (0, 0, 0, 0, 0, 0)), (91, 1, .aload_n 0, (0, 0, 0, 0, 0, 0)), (92, 3, .getfield 34, (5, 4, 2, 0, 0, 0)), (95, 3, .getfield 184, (0, 1, 2, 1, 0, 0)),
  (98, 2, .iload 7, (0, 0, 0, 0, 0, 0)), (100, 1, .iaload, (0, 0, 0, 0, 0, 0)), (101, 3, .invokevirtual 95, (62, 0, 2, 0, 3, 4)), (104, 3, .iinc 7 1, (0, 0, 0, 0, 0, 0)), (107, 3, .goto (-31), (76, 0, 0, 0, 0, 0)), (110, 1, .aload_n 0, (0, 0, 0, 0, 0, 0)),
  (111, 3, .getfield 34, (5, 4, 2, 0, 0, 0)), (114, 3, .invokevirtual 254, (16, 0, 0, 0, 3, 0)), (117, 3, .iinc 5 (-1), (0, 0, 0, 0, 0, 0)), (120, 3, .goto (-71), (49, 192, 0, 0, 0, 0)), (123, 2, .iload 4, (0, 0, 0, 0, 0, 0)), (125, 1, .ireturn, (0, 0, 0, 0, 0, 0))]
def z_X5_weighed : List zI := [
  (0, 1, .iload_n 1, (0, 0, 0, 0, 0, 0)), (1, 27, .lookupswitch 45 #[(0, 27), (1, 36)], (0, 0, 0, 0, 0, 0)), (28, 1, .aload_n 0, (0, 0, 0, 0, 0, 0)), (29, 3, .getfield 34, (5, 4, 2, 0, 0, 0)), (32, 1, .iload_n 2, (0, 0, 0, 0, 0, 0)), (33, 3, .invokevirtual 217, (25, 0, 1, 1, 4, 0)),
  (36, 1, .ireturn, (0, 0, 0, 0, 0, 0)), (37, 1, .aload_n 0, (0, 0, 0, 0, 0, 0)), (38, 3, .getfield 34, (5, 4, 2, 0, 0, 0)), (41, 1, .iload_n 2, (0, 0, 0, 0, 0, 0)), (42, 3, .invokevirtual 314, (26, 0, 1, 1, 4, 0)), (45, 1, .ireturn, (0, 0, 0, 0, 0, 0)),
  (46, 1, .aload_n 0, (0, 0, 0, 0, 0, 0)), (47, 3, .getfield 34, (5, 4, 2, 0, 0, 0)), (50, 1, .iconst 1, (0, 0, 0, 0, 0, 0)), (51, 3, .invokevirtual 217, (25, 0, 1, 1, 4, 0)), (54, 1, .aload_n 0, (0, 0, 0, 0, 0, 0)), (55, 3, .getfield 34, (5, 4, 2, 0, 0, 0)),
  (58, 1, .iconst 2, (0, 0, 0, 0, 0, 0)), (59, 3, .invokevirtual 217, (25, 0, 1, 1, 4, 0)), (62, 1, .iadd, (0, 0, 0, 0, 0, 0)), (63, 1, .ireturn, (0, 0, 0, 0, 0, 0))]
def z_X5_firstGladPair : List zI := [
  (0, 1, .iconst 0, (0, 0, 0, 0, 0, 0)), (1, 1, .istore_n 2, (0, 0, 0, 0, 0, 0)), (2, 1, .iload_n 2, (0, 0, 0, 0, 0, 0)), (3, 1, .aload_n 0, (0, 0, 0, 0, 0, 0)), (4, 3, .getfield 21, (5, 2, 2, 0, 0, 0)), (7, 3, .getfield 136, (1, 1, 0, 1, 0, 0)),
  (10, 3, .if_icmp .ge 47, (57, 0, 0, 0, 0, 0)), (13, 1, .iload_n 2, (0, 0, 0, 0, 0, 0)), (14, 1, .iconst 1, (0, 0, 0, 0, 0, 0)), (15, 1, .iadd, (0, 0, 0, 0, 0, 0)), (16, 1, .istore_n 3, (0, 0, 0, 0, 0, 0)), (17, 1, .iload_n 3, (0, 0, 0, 0, 0, 0)),
  (18, 1, .aload_n 0, (0, 0, 0, 0, 0, 0)), (19, 3, .getfield 21, (5, 2, 2, 0, 0, 0)), (22, 3, .getfield 136, (1, 1, 0, 1, 0, 0)), (25, 3, .if_icmp .ge 26, (51, 0, 0, 0, 0, 0)), (28, 1, .aload_n 0, (0, 0, 0, 0, 0, 0)), (29, 1, .iload_n 2, (0, 0, 0, 0, 0, 0)),
  (30, 1, .iload_n 3, (0, 0, 0, 0, 0, 0)), (31, 1, .iload_n 1, (0, 0, 0, 0, 0, 0)), (32, 3, .invokevirtual 317, (129, 0, 3, 1, 4, 5)), (35, 3, .ifCond .eq 10, (45, 0, 0, 0, 0, 0)), (38, 2, .bipush 6, (0, 0, 0, 0, 0, 0)), (40, 1, .iload_n 2, (0, 0, 0, 0, 0, 0)),
  (41, 1, .imul, (0, 0, 0, 0, 0, 0)), (42, 1, .iload_n 3, (0, 0, 0, 0, 0, 0)), (43, 1, .iadd, (0, 0, 0, 0, 0, 0)), (44, 1, .ireturn, (0, 0, 0, 0, 0, 0)), (45, 3, .iinc 3 1, (0, 0, 0, 0, 0, 0)), (48, 3, .goto (-31), (17, 0, 0, 0, 0, 0)),
  (51, 3, .iinc 2 1, (0, 0, 0, 0, 0, 0)), (54, 3, .goto (-52), (2, 8, 0, 0, 0, 0)), (57, 2, .bipush (-9), (0, 0, 0, 0, 0, 0)), (59, 1, .ireturn, (0, 0, 0, 0, 0, 0))]
def z_X5_wouldBothGladlyChange : List zI := [
  (0, 1, .aload_n 0, (0, 0, 0, 0, 0, 0)), (1, 3, .getfield 30, (5, 3, 2, 0, 0, 0)), (4, 1, .iload_n 1, (0, 0, 0, 0, 0, 0)), (5, 1, .iload_n 3, (0, 0, 0, 0, 0, 0)), (6, 3, .invokevirtual 220, (19, 0, 2, 1, 3, 0)), (9, 3, .ifCond .eq 15, (24, 0, 0, 0, 0, 0)),
  (12, 1, .aload_n 0, (0, 0, 0, 0, 0, 0)), (13, 3, .getfield 30, (5, 3, 2, 0, 0, 0)), (16, 1, .iload_n 2, (0, 0, 0, 0, 0, 0)), (17, 1, .iload_n 3, (0, 0, 0, 0, 0, 0)), (18, 3, .invokevirtual 220, (19, 0, 2, 1, 3, 0)), (21, 3, .ifCond .ne 5, (26, 0, 0, 0, 0, 0)),
  (24, 1, .iconst 0, (0, 0, 0, 0, 0, 0)), (25, 1, .ireturn, (1, 0, 0, 0, 0, 0)), (26, 1, .aload_n 0, (0, 0, 0, 0, 0, 0)), (27, 3, .getfield 34, (5, 4, 2, 0, 0, 0)), (30, 1, .aload_n 0, (0, 0, 0, 0, 0, 0)), (31, 3, .getfield 30, (5, 3, 2, 0, 0, 0)),
  (34, 3, .invokevirtual 231, (3, 0, 1, 0, 2, 0)), (37, 1, .aload_n 0, (0, 0, 0, 0, 0, 0)), (38, 3, .getfield 34, (5, 4, 2, 0, 0, 0)), (41, 1, .iload_n 1, (0, 0, 0, 0, 0, 0)), (42, 1, .iload_n 2, (0, 0, 0, 0, 0, 0)), (43, 3, .invokevirtual 187, (12, 0, 2, 0, 5, 0)),
  (46, 1, .aload_n 0, (0, 0, 0, 0, 0, 0)), (47, 3, .getfield 34, (5, 4, 2, 0, 0, 0)), (50, 1, .iload_n 1, (0, 0, 0, 0, 0, 0)), (51, 1, .iload_n 3, (0, 0, 0, 0, 0, 0)), (52, 3, .invokevirtual 166, (23, 0, 2, 1, 5, 0)), (55, 1, .aload_n 0, (0, 0, 0, 0, 0, 0)),
  (56, 3, .getfield 30, (5, 3, 2, 0, 0, 0)), (59, 1, .iload_n 1, (0, 0, 0, 0, 0, 0)), (60, 1, .iload_n 3, (0, 0, 0, 0, 0, 0)), (61, 3, .invokevirtual 166, (23, 0, 2, 1, 5, 0)), (64, 3, .if_icmp .ge 28, (92, 0, 0, 0, 0, 0)), (67, 1, .aload_n 0, (0, 0, 0, 0, 0, 0)),
  (68, 3, .getfield 34, (5, 4, 2, 0, 0, 0)), (71, 1, .iload_n 2, (0, 0, 0, 0, 0, 0)), (72, 1, .iload_n 3, (0, 0, 0, 0, 0, 0)), (73, 3, .invokevirtual 166, (23, 0, 2, 1, 5, 0)), (76, 1, .aload_n 0, (0, 0, 0, 0, 0, 0)), (77, 3, .getfield 30, (5, 3, 2, 0, 0, 0)),
  (80, 1, .iload_n 2, (0, 0, 0, 0, 0, 0)), (81, 1, .iload_n 3, (0, 0, 0, 0, 0, 0)), (82, 3, .invokevirtual 166, (23, 0, 2, 1, 5, 0)), (85, 3, .if_icmp .ge 7, (92, 0, 0, 0, 0, 0)), (88, 1, .iconst 1, (0, 0, 0, 0, 0, 0)), (89, 3, .goto 4, (93, 0, 0, 0, 0, 0)),
  (92, 1, .iconst 0, (0, 0, 0, 0, 0, 0)), (93, 1, .ireturn, (1, 0, 0, 0, 0, 0))]
def z_X5_countFitting : List zI := [
  (0, 1, .iconst 0, (0, 0, 0, 0, 0, 0)), (1, 1, .istore_n 2, (0, 0, 0, 0, 0, 0)), (2, 2, .bipush (-9), (0, 0, 0, 0, 0, 0)), (4, 1, .istore_n 3, (0, 0, 0, 0, 0, 0)), (5, 1, .aload_n 0, (0, 0, 0, 0, 0, 0)), (6, 3, .invokevirtual 240, (125, 0, 0, 0, 1, 5)),
  (9, 1, .aload_n 0, (0, 0, 0, 0, 0, 0)), (10, 3, .getfield 21, (5, 2, 2, 0, 0, 0)), (13, 3, .invokevirtual 243, (37, 0, 0, 1, 3, 1)), (16, 2, .istore 4, (0, 0, 0, 0, 0, 0)), (18, 2, .iload 4, (0, 0, 0, 0, 0, 0)), (20, 3, .ifCond .le 56, (76, 0, 0, 0, 0, 0)),
  (23, 1, .aload_n 0, (0, 0, 0, 0, 0, 0)), (24, 1, .aload_n 1, (0, 0, 0, 0, 0, 0)), (25, 3, .invokevirtual 321, (131, 0, 1, 1, 3, 5)), (28, 3, .ifCond .eq 35, (63, 0, 0, 0, 0, 0)), (31, 1, .aload_n 0, (0, 0, 0, 0, 0, 0)), (32, 3, .getfield 34, (5, 4, 2, 0, 0, 0)),
  (35, 3, .getfield 184, (0, 1, 2, 1, 0, 0)), (38, 1, .iconst 0, (0, 0, 0, 0, 0, 0)), (39, 1, .iaload, (0, 0, 0, 0, 0, 0)), (40, 2, .istore 5, (0, 0, 0, 0, 0, 0)), (42, 1, .iload_n 2, (0, 0, 0, 0, 0, 0)), (43, 3, .ifCond .eq 9, (52, 0, 0, 0, 0, 0)),
  (46, 1, .iload_n 3, (0, 0, 0, 0, 0, 0)), (47, 2, .iload 5, (0, 0, 0, 0, 0, 0)), (49, 3, .if_icmp .ne 8, (57, 0, 0, 0, 0, 0)), (52, 2, .iload 5, (0, 0, 0, 0, 0, 0)), (54, 3, .goto 5, (59, 0, 0, 0, 0, 0)), (57, 2, .bipush (-9), (0, 0, 0, 0, 0, 0)),
  (59, 1, .istore_n 3, (0, 0, 0, 0, 0, 0)), (60, 3, .iinc 2 1, (0, 0, 0, 0, 0, 0)), (63, 1, .aload_n 0, (0, 0, 0, 0, 0, 0)), (64, 3, .getfield 34, (5, 4, 2, 0, 0, 0)), (67, 3, .invokevirtual 254, (16, 0, 0, 0, 3, 0)), (70, 3, .iinc 4 (-1), (0, 0, 0, 0, 0, 0)),
  (73, 3, .goto (-55), (18, 32, 0, 0, 0, 0)), (76, 1, .aload_n 0, (0, 0, 0, 0, 0, 0)), (77, 1, .iload_n 2, (0, 0, 0, 0, 0, 0)), (78, 1, .i2l, (0, 0, 0, 0, 0, 0)), (79, 3, .putfield 54, (5, 8, 1, 0, 0, 0)), (82, 1, .aload_n 0, (0, 0, 0, 0, 0, 0)),
  (83, 1, .lconst 1, (0, 0, 0, 0, 0, 0)), (84, 3, .putfield 58, (5, 9, 1, 0, 0, 0)), (87, 1, .aload_n 0, (0, 0, 0, 0, 0, 0)), (88, 1, .iload_n 3, (0, 0, 0, 0, 0, 0)), (89, 3, .invokevirtual 92, (119, 0, 1, 0, 2, 5)), (92, 1, .return_, (0, 0, 0, 0, 0, 0))]
def z_X5_fitsBook : List zI := [
  (0, 1, .iconst 0, (0, 0, 0, 0, 0, 0)), (1, 1, .istore_n 2, (0, 0, 0, 0, 0, 0)), (2, 1, .iload_n 2, (0, 0, 0, 0, 0, 0)), (3, 1, .iconst 2, (0, 0, 0, 0, 0, 0)), (4, 3, .if_icmp .gt 20, (24, 0, 0, 0, 0, 0)), (7, 1, .aload_n 0, (0, 0, 0, 0, 0, 0)),
  (8, 1, .iload_n 2, (0, 0, 0, 0, 0, 0)), (9, 1, .aload_n 1, (0, 0, 0, 0, 0, 0)), (10, 3, .invokevirtual 324, (132, 0, 2, 1, 5, 5)), (13, 3, .ifCond .ne 5, (18, 0, 0, 0, 0, 0)), (16, 1, .iconst 0, (0, 0, 0, 0, 0, 0)), (17, 1, .ireturn, (1, 0, 0, 0, 0, 0)),
  (18, 3, .iinc 2 1, (0, 0, 0, 0, 0, 0)), (21, 3, .goto (-19), (2, 0, 0, 0, 0, 0)), (24, 1, .iconst 1, (0, 0, 0, 0, 0, 0)), (25, 1, .ireturn, (1, 0, 0, 0, 0, 0))]
def z_X5_fitsBookBy : List zI := [
  (0, 2, .bipush (-9), (0, 0, 0, 0, 0, 0)), (2, 1, .istore_n 3, (0, 0, 0, 0, 0, 0)), (3, 1, .iconst 0, (0, 0, 0, 0, 0, 0)), (4, 2, .istore 4, (0, 0, 0, 0, 0, 0)), (6, 2, .iload 4, (0, 0, 0, 0, 0, 0)), (8, 1, .aload_n 2, (0, 0, 0, 0, 0, 0)),
  (9, 3, .getfield 110, (4, 1, 0, 1, 0, 0)), (12, 3, .if_icmp .ge 51, (63, 0, 0, 0, 0, 0)), (15, 1, .aload_n 2, (0, 0, 0, 0, 0, 0)), (16, 2, .iload 4, (0, 0, 0, 0, 0, 0)), (18, 3, .invokevirtual 89, (61, 0, 1, 1, 2, 4)), (21, 1, .iload_n 1, (0, 0, 0, 0, 0, 0)),
  (22, 3, .if_icmp .eq 6, (28, 0, 0, 0, 0, 0)), (25, 3, .goto 32, (57, 0, 0, 0, 0, 0)), (28, 1, .iload_n 3, (0, 0, 0, 0, 0, 0)), (29, 2, .bipush (-9), (0, 0, 0, 0, 0, 0)), (31, 3, .if_icmp .ne 12, (43, 0, 0, 0, 0, 0)), (34, 1, .aload_n 0, (0, 0, 0, 0, 0, 0)),
  (35, 3, .getfield 34, (5, 4, 2, 0, 0, 0)), (38, 1, .iload_n 1, (0, 0, 0, 0, 0, 0)), (39, 3, .invokevirtual 217, (25, 0, 1, 1, 4, 0)), (42, 1, .istore_n 3, (0, 0, 0, 0, 0, 0)), (43, 1, .iload_n 3, (0, 0, 0, 0, 0, 0)), (44, 1, .aload_n 2, (0, 0, 0, 0, 0, 0)),
  (45, 2, .iload 4, (0, 0, 0, 0, 0, 0)), (47, 1, .iconst 1, (0, 0, 0, 0, 0, 0)), (48, 1, .iadd, (0, 0, 0, 0, 0, 0)), (49, 3, .invokevirtual 89, (61, 0, 1, 1, 2, 4)), (52, 3, .if_icmp .eq 5, (57, 0, 0, 0, 0, 0)), (55, 1, .iconst 0, (0, 0, 0, 0, 0, 0)),
  (56, 1, .ireturn, (1, 0, 0, 0, 0, 0)), (57, 3, .iinc 4 2, (0, 0, 0, 0, 0, 0)), (60, 3, .goto (-54), (6, 0, 0, 0, 0, 0)), (63, 1, .iconst 1, (0, 0, 0, 0, 0, 0)), (64, 1, .ireturn, (1, 0, 0, 0, 0, 0))]
def z_X5_counted : List zI := [
  (0, 1, .iload_n 1, (0, 0, 0, 0, 0, 0)), (1, 47, .tableswitch 116 0 7 #[47, 55, 63, 71, 80, 88, 100, 108], (0, 0, 0, 0, 0, 0)), (48, 1, .aload_n 0, (0, 0, 0, 0, 0, 0)), (49, 3, .getfield 21, (5, 2, 2, 0, 0, 0)), (52, 3, .getfield 136, (1, 1, 0, 1, 0, 0)), (55, 1, .ireturn, (0, 0, 0, 0, 0, 0)),
  (56, 1, .aload_n 0, (0, 0, 0, 0, 0, 0)), (57, 3, .getfield 21, (5, 2, 2, 0, 0, 0)), (60, 3, .getfield 290, (1, 0, 0, 1, 0, 0)), (63, 1, .ireturn, (0, 0, 0, 0, 0, 0)), (64, 1, .aload_n 0, (0, 0, 0, 0, 0, 0)), (65, 3, .getfield 42, (5, 5, 2, 0, 0, 0)),
  (68, 3, .getfield 199, (2, 1, 0, 1, 0, 0)), (71, 1, .ireturn, (0, 0, 0, 0, 0, 0)), (72, 1, .aload_n 0, (0, 0, 0, 0, 0, 0)), (73, 3, .getfield 30, (5, 3, 2, 0, 0, 0)), (76, 1, .iconst 0, (0, 0, 0, 0, 0, 0)), (77, 3, .invokevirtual 214, (20, 0, 1, 1, 4, 0)),
  (80, 1, .ireturn, (0, 0, 0, 0, 0, 0)), (81, 1, .aload_n 0, (0, 0, 0, 0, 0, 0)), (82, 3, .getfield 30, (5, 3, 2, 0, 0, 0)), (85, 3, .invokevirtual 328, (6, 0, 0, 1, 3, 0)), (88, 1, .ireturn, (0, 0, 0, 0, 0, 0)), (89, 1, .aload_n 0, (0, 0, 0, 0, 0, 0)),
  (90, 3, .getfield 21, (5, 2, 2, 0, 0, 0)), (93, 1, .iconst 1, (0, 0, 0, 0, 0, 0)), (94, 3, .invokevirtual 163, (39, 0, 1, 1, 4, 1)), (97, 3, .invokestatic 158, (239, 2, 1, 1, 1, 0)), (100, 1, .ireturn, (0, 0, 0, 0, 0, 0)), (101, 1, .aload_n 0, (0, 0, 0, 0, 0, 0)),
  (102, 3, .getfield 11, (5, 0, 2, 0, 0, 0)), (105, 3, .invokestatic 331, (134, 2, 1, 1, 3, 0)), (108, 1, .ireturn, (0, 0, 0, 0, 0, 0)), (109, 1, .aload_n 0, (0, 0, 0, 0, 0, 0)), (110, 3, .getfield 15, (5, 1, 2, 0, 0, 0)), (113, 3, .invokestatic 331, (134, 2, 1, 1, 3, 0)),
  (116, 1, .ireturn, (0, 0, 0, 0, 0, 0)), (117, 1, .aload_n 0, (0, 0, 0, 0, 0, 0)), (118, 3, .invokevirtual 335, (135, 0, 0, 1, 3, 5)), (121, 1, .ireturn, (0, 0, 0, 0, 0, 0))]
def z_X5_howManyThere : List zI := [
  (0, 1, .iconst 0, (0, 0, 0, 0, 0, 0)), (1, 1, .istore_n 1, (0, 0, 0, 0, 0, 0)), (2, 1, .iconst 0, (0, 0, 0, 0, 0, 0)), (3, 1, .istore_n 2, (0, 0, 0, 0, 0, 0)), (4, 1, .iload_n 2, (0, 0, 0, 0, 0, 0)), (5, 1, .aload_n 0, (0, 0, 0, 0, 0, 0)),
  (6, 1, .arraylength, (0, 0, 0, 0, 0, 0)), (7, 3, .if_icmp .ge 21, (28, 0, 0, 0, 0, 0)), (10, 1, .aload_n 0, (0, 0, 0, 0, 0, 0)), (11, 1, .iload_n 2, (0, 0, 0, 0, 0, 0)), (12, 1, .aaload, (0, 0, 0, 0, 0, 0)), (13, 3, .invokevirtual 77, (58, 0, 0, 1, 1, 4)),
  (16, 3, .ifCond .ne 6, (22, 0, 0, 0, 0, 0)), (19, 3, .iinc 1 1, (0, 0, 0, 0, 0, 0)), (22, 3, .iinc 2 1, (0, 0, 0, 0, 0, 0)), (25, 3, .goto (-21), (4, 0, 0, 0, 0, 0)), (28, 1, .iload_n 1, (0, 0, 0, 0, 0, 0)), (29, 1, .ireturn, (0, 0, 0, 0, 0, 0))]
def z_X5_howManyKept : List zI := [
  (0, 1, .iconst 0, (0, 0, 0, 0, 0, 0)), (1, 1, .istore_n 1, (0, 0, 0, 0, 0, 0)), (2, 1, .iconst 0, (0, 0, 0, 0, 0, 0)), (3, 1, .istore_n 2, (0, 0, 0, 0, 0, 0)), (4, 1, .iload_n 2, (0, 0, 0, 0, 0, 0)), (5, 1, .aload_n 0, (0, 0, 0, 0, 0, 0)),
  (6, 3, .getfield 46, (5, 6, 2, 0, 0, 0)), (9, 1, .arraylength, (0, 0, 0, 0, 0, 0)), (10, 3, .if_icmp .ge 24, (34, 0, 0, 0, 0, 0)), (13, 1, .aload_n 0, (0, 0, 0, 0, 0, 0)), (14, 3, .getfield 46, (5, 6, 2, 0, 0, 0)), (17, 1, .iload_n 2, (0, 0, 0, 0, 0, 0)),
  (18, 1, .aaload, (0, 0, 0, 0, 0, 0)), (19, 3, .invokevirtual 213, (43, 0, 0, 1, 1, 2)), (22, 3, .ifCond .ne 6, (28, 0, 0, 0, 0, 0)), (25, 3, .iinc 1 1, (0, 0, 0, 0, 0, 0)), (28, 3, .iinc 2 1, (0, 0, 0, 0, 0, 0)), (31, 3, .goto (-27), (4, 0, 0, 0, 0, 0)),
  (34, 1, .iload_n 1, (0, 0, 0, 0, 0, 0)), (35, 1, .ireturn, (0, 0, 0, 0, 0, 0))]
def z_X6_init : List zI := [
  (0, 1, .aload_n 0, (0, 0, 0, 0, 0, 0)), (1, 3, .invokespecial 1, (0, 4, 0, 0, 0, 0)), (4, 1, .aload_n 0, (0, 0, 0, 0, 0, 0)), (5, 3, .sipush 4396, (0, 0, 0, 0, 0, 0)), (8, 2, .newarray .int, (0, 0, 0, 0, 0, 0)), (10, 3, .putfield 7, (6, 0, 2, 0, 0, 0)),
  (13, 1, .aload_n 0, (0, 0, 0, 0, 0, 0)), (14, 2, .bipush 7, (0, 0, 0, 0, 0, 0)), (16, 2, .newarray .int, (0, 0, 0, 0, 0, 0)), (18, 3, .putfield 13, (6, 2, 2, 0, 0, 0)), (21, 1, .aload_n 0, (0, 0, 0, 0, 0, 0)), (22, 2, .bipush 6, (0, 0, 0, 0, 0, 0)),
  (24, 2, .newarray .int, (0, 0, 0, 0, 0, 0)), (26, 3, .putfield 16, (6, 4, 2, 0, 0, 0)), (29, 1, .aload_n 0, (0, 0, 0, 0, 0, 0)), (30, 2, .bipush 6, (0, 0, 0, 0, 0, 0)), (32, 2, .newarray .int, (0, 0, 0, 0, 0, 0)), (34, 3, .putfield 19, (6, 5, 2, 0, 0, 0)),
  (37, 1, .aload_n 0, (0, 0, 0, 0, 0, 0)), (38, 2, .bipush 6, (0, 0, 0, 0, 0, 0)), (40, 2, .newarray .int, (0, 0, 0, 0, 0, 0)), (42, 3, .putfield 22, (6, 6, 2, 0, 0, 0)), (45, 1, .aload_n 0, (0, 0, 0, 0, 0, 0)), (46, 2, .bipush 6, (0, 0, 0, 0, 0, 0)),
  (48, 2, .newarray .int, (0, 0, 0, 0, 0, 0)), (50, 1, .dup, (0, 0, 0, 0, 0, 0)), (51, 1, .iconst 0, (0, 0, 0, 0, 0, 0)), (52, 1, .iconst (-1), (0, 0, 0, 0, 0, 0)), (53, 1, .iastore, (0, 0, 0, 0, 0, 0)), (54, 1, .dup, (0, 0, 0, 0, 0, 0)),
  (55, 1, .iconst 1, (0, 0, 0, 0, 0, 0)), (56, 1, .iconst (-1), (0, 0, 0, 0, 0, 0)), (57, 1, .iastore, (0, 0, 0, 0, 0, 0)), (58, 1, .dup, (0, 0, 0, 0, 0, 0)), (59, 1, .iconst 2, (0, 0, 0, 0, 0, 0)), (60, 1, .iconst (-1), (0, 0, 0, 0, 0, 0)),
  (61, 1, .iastore, (0, 0, 0, 0, 0, 0)), (62, 1, .dup, (0, 0, 0, 0, 0, 0)), (63, 1, .iconst 3, (0, 0, 0, 0, 0, 0)), (64, 1, .iconst (-1), (0, 0, 0, 0, 0, 0)), (65, 1, .iastore, (0, 0, 0, 0, 0, 0)), (66, 1, .dup, (0, 0, 0, 0, 0, 0)),
  (67, 1, .iconst 4, (0, 0, 0, 0, 0, 0)), (68, 1, .iconst (-1), (0, 0, 0, 0, 0, 0)), (69, 1, .iastore, (0, 0, 0, 0, 0, 0)), (70, 1, .dup, (0, 0, 0, 0, 0, 0)), (71, 1, .iconst 5, (0, 0, 0, 0, 0, 0)), (72, 1, .iconst (-1), (0, 0, 0, 0, 0, 0)),
  (73, 1, .iastore, (0, 0, 0, 0, 0, 0)), (74, 3, .putfield 25, (6, 7, 2, 0, 0, 0)), (77, 1, .aload_n 0, (0, 0, 0, 0, 0, 0)), (78, 3, .sipush 240, (0, 0, 0, 0, 0, 0)), (81, 2, .newarray .int, (0, 0, 0, 0, 0, 0)), (83, 3, .putfield 28, (6, 8, 2, 0, 0, 0)),
  (86, 1, .aload_n 0, (0, 0, 0, 0, 0, 0)), (87, 1, .iconst 4, (0, 0, 0, 0, 0, 0)), (88, 2, .newarray .int, (0, 0, 0, 0, 0, 0)), (90, 1, .dup, (0, 0, 0, 0, 0, 0)), (91, 1, .iconst 0, (0, 0, 0, 0, 0, 0)), (92, 1, .iconst (-1), (0, 0, 0, 0, 0, 0)),
  (93, 1, .iastore, (0, 0, 0, 0, 0, 0)), (94, 1, .dup, (0, 0, 0, 0, 0, 0)), (95, 1, .iconst 1, (0, 0, 0, 0, 0, 0)), (96, 1, .iconst (-1), (0, 0, 0, 0, 0, 0)), (97, 1, .iastore, (0, 0, 0, 0, 0, 0)), (98, 1, .dup, (0, 0, 0, 0, 0, 0)),
  (99, 1, .iconst 2, (0, 0, 0, 0, 0, 0)), (100, 1, .iconst (-1), (0, 0, 0, 0, 0, 0)), (101, 1, .iastore, (0, 0, 0, 0, 0, 0)), (102, 1, .dup, (0, 0, 0, 0, 0, 0)), (103, 1, .iconst 3, (0, 0, 0, 0, 0, 0)), (104, 1, .iconst (-1), (0, 0, 0, 0, 0, 0)),
  (105, 1, .iastore, (0, 0, 0, 0, 0, 0)), (106, 3, .putfield 31, (6, 9, 2, 0, 0, 0)), (109, 1, .aload_n 0, (0, 0, 0, 0, 0, 0)), (110, 3, .sipush 240, (0, 0, 0, 0, 0, 0)), (113, 2, .newarray .int, (0, 0, 0, 0, 0, 0)), (115, 3, .putfield 34, (6, 10, 2, 0, 0, 0)),
  (118, 1, .aload_n 0, (0, 0, 0, 0, 0, 0)), (119, 1, .lconst 1, (0, 0, 0, 0, 0, 0)), (120, 3, .putfield 37, (6, 13, 1, 0, 0, 0)), (123, 1, .aload_n 0, (0, 0, 0, 0, 0, 0)), (124, 2, .bipush 6, (0, 0, 0, 0, 0, 0)), (126, 2, .newarray .int, (0, 0, 0, 0, 0, 0)),
  (128, 3, .putfield 41, (6, 15, 2, 0, 0, 0)), (131, 1, .aload_n 0, (0, 0, 0, 0, 0, 0)), (132, 2, .bipush 7, (0, 0, 0, 0, 0, 0)), (134, 2, .newarray .int, (0, 0, 0, 0, 0, 0)), (136, 3, .putfield 44, (6, 19, 2, 0, 0, 0)), (139, 1, .aload_n 0, (0, 0, 0, 0, 0, 0)),
  (140, 2, .bipush 24, (0, 0, 0, 0, 0, 0)), (142, 2, .newarray .int, (0, 0, 0, 0, 0, 0)), (144, 3, .putfield 47, (6, 21, 2, 0, 0, 0)), (147, 1, .aload_n 0, (0, 0, 0, 0, 0, 0)), (148, 2, .bipush 6, (0, 0, 0, 0, 0, 0)), (150, 2, .newarray .int, (0, 0, 0, 0, 0, 0)),
  (152, 3, .putfield 50, (6, 23, 2, 0, 0, 0)), (155, 1, .aload_n 0, (0, 0, 0, 0, 0, 0)), (156, 2, .bipush 6, (0, 0, 0, 0, 0, 0)), (158, 2, .newarray .int, (0, 0, 0, 0, 0, 0)), (160, 3, .putfield 53, (6, 24, 2, 0, 0, 0)), (163, 1, .aload_n 0, (0, 0, 0, 0, 0, 0)),
  (164, 2, .bipush 6, (0, 0, 0, 0, 0, 0)), (166, 2, .newarray .int, (0, 0, 0, 0, 0, 0)), (168, 3, .putfield 56, (6, 25, 2, 0, 0, 0)), (171, 1, .iconst 1, (0, 0, 0, 0, 0, 0)), (172, 1, .istore_n 1, (0, 0, 0, 0, 0, 0)), (173, 1, .iload_n 1, (0, 0, 0, 0, 0, 0)),
  (174, 1, .iconst 4, (0, 0, 0, 0, 0, 0)), (175, 3, .if_icmp .ge 22, (197, 0, 0, 0, 0, 0)), (178, 1, .aload_n 0, (0, 0, 0, 0, 0, 0)), (179, 3, .getfield 7, (6, 0, 2, 0, 0, 0)), (182, 3, .sipush 1099, (0, 0, 0, 0, 0, 0)), (185, 1, .iload_n 1, (0, 0, 0, 0, 0, 0)),
  (186, 1, .imul, (0, 0, 0, 0, 0, 0)), (187, 1, .iconst 0, (0, 0, 0, 0, 0, 0)), (188, 1, .iadd, (0, 0, 0, 0, 0, 0)), (189, 1, .iconst (-1), (0, 0, 0, 0, 0, 0)), (190, 1, .iastore, (0, 0, 0, 0, 0, 0)), (191, 3, .iinc 1 1, (0, 0, 0, 0, 0, 0)),
  (194, 3, .goto (-21), (173, 0, 0, 0, 0, 0)), (197, 1, .return_, (0, 0, 0, 0, 0, 0))]
def z_X6_in : List zI := [
  (0, 1, .lload_n 0, (0, 0, 0, 0, 0, 0)), (1, 1, .lload_n 2, (0, 0, 0, 0, 0, 0)), (2, 1, .lcmp, (0, 0, 0, 0, 0, 0)), (3, 3, .ifCond .lt 14, (17, 0, 0, 0, 0, 0)), (6, 1, .lload_n 0, (0, 0, 0, 0, 0, 0)), (7, 2, .lload 4, (0, 0, 0, 0, 0, 0)),
  (9, 1, .lcmp, (0, 0, 0, 0, 0, 0)), (10, 3, .ifCond .gt 7, (17, 0, 0, 0, 0, 0)), (13, 1, .iconst 1, (0, 0, 0, 0, 0, 0)), (14, 3, .goto 4, (18, 0, 0, 0, 0, 0)), (17, 1, .iconst 0, (0, 0, 0, 0, 0, 0)), (18, 1, .ireturn, (1, 0, 0, 0, 0, 0))]
def z_X6_find : List zI := [
  (0, 1, .aload_n 0, (0, 0, 0, 0, 0, 0)), (1, 1, .iload_n 1, (0, 0, 0, 0, 0, 0)), (2, 3, .putfield 59, (6, 14, 0, 0, 0, 0)), (5, 1, .aload_n 0, (0, 0, 0, 0, 0, 0)), (6, 3, .getfield 41, (6, 15, 2, 0, 0, 0)), (9, 1, .iload_n 1, (0, 0, 0, 0, 0, 0)),
  (10, 1, .dup2, (0, 0, 0, 0, 0, 0)), (11, 1, .iaload, (0, 0, 0, 0, 0, 0)), (12, 1, .iconst 1, (0, 0, 0, 0, 0, 0)), (13, 1, .iadd, (0, 0, 0, 0, 0, 0)), (14, 1, .iastore, (0, 0, 0, 0, 0, 0)), (15, 2, .bipush (-3), (0, 0, 0, 0, 0, 0)),
  (17, 1, .ireturn, (0, 0, 0, 0, 0, 0))]
def z_X6_tell : List zI := [
  (0, 1, .aload_n 0, (0, 0, 0, 0, 0, 0)), (1, 1, .iload_n 1, (0, 0, 0, 0, 0, 0)), (2, 3, .putfield 63, (6, 11, 0, 0, 0, 0)), (5, 1, .iconst 1, (0, 0, 0, 0, 0, 0)), (6, 1, .ireturn, (0, 0, 0, 0, 0, 0))]
def z_X6_isRow : List zI := [
  (0, 1, .iload_n 0, (0, 0, 0, 0, 0, 0)), (1, 1, .i2l, (0, 0, 0, 0, 0, 0)), (2, 1, .lconst 0, (0, 0, 0, 0, 0, 0)), (3, 3, .ldc2_w 66, (0, 0, 0, 0, 0, 5)), (6, 3, .invokestatic 68, (137, 2, 3, 1, 6, 0)), (9, 1, .ireturn, (1, 0, 0, 0, 0, 0))]
def z_X6_isText : List zI := [
  (0, 1, .iload_n 0, (0, 0, 0, 0, 0, 0)), (1, 1, .i2l, (0, 0, 0, 0, 0, 0)), (2, 1, .lconst 0, (0, 0, 0, 0, 0, 0)), (3, 3, .ldc2_w 72, (0, 0, 0, 0, 0, 3)), (6, 3, .invokestatic 68, (137, 2, 3, 1, 6, 0)), (9, 1, .ireturn, (1, 0, 0, 0, 0, 0))]
def z_X6_row : List zI := [
  (0, 1, .iload_n 1, (0, 0, 0, 0, 0, 0)), (1, 3, .invokestatic 74, (140, 2, 1, 1, 1, 0)), (4, 3, .ifCond .eq 9, (13, 0, 0, 0, 0, 0)), (7, 1, .iload_n 2, (0, 0, 0, 0, 0, 0)), (8, 2, .bipush 40, (0, 0, 0, 0, 0, 0)), (10, 3, .if_icmp .le 5, (15, 0, 0, 0, 0, 0)),
  (13, 1, .iconst (-1), (0, 0, 0, 0, 0, 0)), (14, 1, .ireturn, (0, 0, 0, 0, 0, 0)), (15, 1, .iload_n 2, (0, 0, 0, 0, 0, 0)), (16, 3, .ifCond .ge 9, (25, 0, 0, 0, 0, 0)), (19, 1, .aload_n 0, (0, 0, 0, 0, 0, 0)), (20, 1, .iconst 5, (0, 0, 0, 0, 0, 0)),
  (21, 3, .invokevirtual 78, (138, 0, 1, 1, 2, 6)), (24, 1, .ireturn, (0, 0, 0, 0, 0, 0)), (25, 1, .aload_n 0, (0, 0, 0, 0, 0, 0)), (26, 1, .iload_n 1, (0, 0, 0, 0, 0, 0)), (27, 1, .iload_n 2, (0, 0, 0, 0, 0, 0)), (28, 3, .invokevirtual 82, (143, 0, 2, 0, 4, 6)),
  (31, 1, .iload_n 2, (0, 0, 0, 0, 0, 0)), (32, 1, .ireturn, (0, 0, 0, 0, 0, 0))]
def z_X6_makeRow : List zI := [
  (0, 1, .aload_n 0, (0, 0, 0, 0, 0, 0)), (1, 3, .getfield 25, (6, 7, 2, 0, 0, 0)), (4, 1, .iload_n 1, (0, 0, 0, 0, 0, 0)), (5, 1, .iload_n 2, (0, 0, 0, 0, 0, 0)), (6, 1, .iastore, (0, 0, 0, 0, 0, 0)), (7, 1, .iconst 0, (0, 0, 0, 0, 0, 0)),
  (8, 1, .istore_n 3, (0, 0, 0, 0, 0, 0)), (9, 1, .iload_n 3, (0, 0, 0, 0, 0, 0)), (10, 2, .bipush 40, (0, 0, 0, 0, 0, 0)), (12, 3, .if_icmp .ge 21, (33, 0, 0, 0, 0, 0)), (15, 1, .aload_n 0, (0, 0, 0, 0, 0, 0)), (16, 3, .getfield 28, (6, 8, 2, 0, 0, 0)),
  (19, 2, .bipush 40, (0, 0, 0, 0, 0, 0)), (21, 1, .iload_n 1, (0, 0, 0, 0, 0, 0)), (22, 1, .imul, (0, 0, 0, 0, 0, 0)), (23, 1, .iload_n 3, (0, 0, 0, 0, 0, 0)), (24, 1, .iadd, (0, 0, 0, 0, 0, 0)), (25, 1, .iconst 0, (0, 0, 0, 0, 0, 0)),
  (26, 1, .iastore, (0, 0, 0, 0, 0, 0)), (27, 3, .iinc 3 1, (0, 0, 0, 0, 0, 0)), (30, 3, .goto (-21), (9, 0, 0, 0, 0, 0)), (33, 1, .return_, (0, 0, 0, 0, 0, 0))]
def z_X6_refused : List zI := [
  (0, 1, .iload_n 1, (0, 0, 0, 0, 0, 0)), (1, 3, .invokestatic 74, (140, 2, 1, 1, 1, 0)), (4, 3, .ifCond .ne 7, (11, 0, 0, 0, 0, 0)), (7, 1, .iconst (-1), (0, 0, 0, 0, 0, 0)), (8, 3, .goto 47, (55, 0, 0, 0, 0, 0)), (11, 1, .aload_n 0, (0, 0, 0, 0, 0, 0)),
  (12, 3, .getfield 25, (6, 7, 2, 0, 0, 0)), (15, 1, .iload_n 1, (0, 0, 0, 0, 0, 0)), (16, 1, .iaload, (0, 0, 0, 0, 0, 0)), (17, 3, .ifCond .ge 11, (28, 0, 0, 0, 0, 0)), (20, 1, .aload_n 0, (0, 0, 0, 0, 0, 0)), (21, 1, .iconst 1, (0, 0, 0, 0, 0, 0)),
  (22, 3, .invokevirtual 78, (138, 0, 1, 1, 2, 6)), (25, 3, .goto 30, (55, 0, 0, 0, 0, 0)), (28, 1, .iload_n 2, (0, 0, 0, 0, 0, 0)), (29, 1, .i2l, (0, 0, 0, 0, 0, 0)), (30, 1, .lconst 0, (0, 0, 0, 0, 0, 0)), (31, 1, .aload_n 0, (0, 0, 0, 0, 0, 0)),
  (32, 3, .getfield 25, (6, 7, 2, 0, 0, 0)), (35, 1, .iload_n 1, (0, 0, 0, 0, 0, 0)), (36, 1, .iaload, (0, 0, 0, 0, 0, 0)), (37, 1, .iconst 1, (0, 0, 0, 0, 0, 0)), (38, 1, .isub, (0, 0, 0, 0, 0, 0)), (39, 1, .i2l, (0, 0, 0, 0, 0, 0)),
  (40, 3, .invokestatic 68, (137, 2, 3, 1, 6, 0)), (43, 3, .ifCond .eq 7, (50, 0, 0, 0, 0, 0)), (46, 1, .iconst 0, (0, 0, 0, 0, 0, 0)), (47, 3, .goto 8, (55, 0, 0, 0, 0, 0)), (50, 1, .aload_n 0, (0, 0, 0, 0, 0, 0)), (51, 1, .iconst 2, (0, 0, 0, 0, 0, 0)),
  (52, 3, .invokevirtual 78, (138, 0, 1, 1, 2, 6)), (55, 1, .ireturn, (0, 0, 0, 0, 0, 0))]
def z_X6_lay : List zI := [
  (0, 1, .aload_n 0, (0, 0, 0, 0, 0, 0)), (1, 1, .iload_n 1, (0, 0, 0, 0, 0, 0)), (2, 1, .iload_n 2, (0, 0, 0, 0, 0, 0)), (3, 3, .invokevirtual 86, (144, 0, 2, 1, 3, 6)), (6, 2, .istore 4, (0, 0, 0, 0, 0, 0)), (8, 2, .iload 4, (0, 0, 0, 0, 0, 0)),
  (10, 3, .ifCond .eq 6, (16, 0, 0, 0, 0, 0)), (13, 2, .iload 4, (0, 0, 0, 0, 0, 0)), (15, 1, .ireturn, (0, 0, 0, 0, 0, 0)), (16, 1, .aload_n 0, (0, 0, 0, 0, 0, 0)), (17, 3, .getfield 28, (6, 8, 2, 0, 0, 0)), (20, 2, .bipush 40, (0, 0, 0, 0, 0, 0)),
  (22, 1, .iload_n 1, (0, 0, 0, 0, 0, 0)), (23, 1, .imul, (0, 0, 0, 0, 0, 0)), (24, 1, .iload_n 2, (0, 0, 0, 0, 0, 0)), (25, 1, .iadd, (0, 0, 0, 0, 0, 0)), (26, 1, .iaload, (0, 0, 0, 0, 0, 0)), (27, 2, .istore 5, (0, 0, 0, 0, 0, 0)),
  (29, 1, .aload_n 0, (0, 0, 0, 0, 0, 0)), (30, 3, .getfield 28, (6, 8, 2, 0, 0, 0)), (33, 2, .bipush 40, (0, 0, 0, 0, 0, 0)), (35, 1, .iload_n 1, (0, 0, 0, 0, 0, 0)), (36, 1, .imul, (0, 0, 0, 0, 0, 0)), (37, 1, .iload_n 2, (0, 0, 0, 0, 0, 0)),
  (38, 1, .iadd, (0, 0, 0, 0, 0, 0)), (39, 1, .iload_n 3, (0, 0, 0, 0, 0, 0)), (40, 1, .iastore, (0, 0, 0, 0, 0, 0)), (41, 1, .aload_n 0, (0, 0, 0, 0, 0, 0)), (42, 2, .iload 5, (0, 0, 0, 0, 0, 0)), (44, 3, .invokevirtual 90, (139, 0, 1, 1, 2, 6)),
  (47, 1, .ireturn, (0, 0, 0, 0, 0, 0))]
def z_X6_at : List zI := [
  (0, 1, .aload_n 0, (0, 0, 0, 0, 0, 0)), (1, 1, .iload_n 1, (0, 0, 0, 0, 0, 0)), (2, 1, .iload_n 2, (0, 0, 0, 0, 0, 0)), (3, 3, .invokevirtual 86, (144, 0, 2, 1, 3, 6)), (6, 1, .istore_n 3, (0, 0, 0, 0, 0, 0)), (7, 1, .iload_n 3, (0, 0, 0, 0, 0, 0)),
  (8, 3, .ifCond .eq 7, (15, 0, 0, 0, 0, 0)), (11, 1, .iload_n 3, (0, 0, 0, 0, 0, 0)), (12, 3, .goto 18, (30, 0, 0, 0, 0, 0)), (15, 1, .aload_n 0, (0, 0, 0, 0, 0, 0)), (16, 1, .aload_n 0, (0, 0, 0, 0, 0, 0)), (17, 3, .getfield 28, (6, 8, 2, 0, 0, 0)),
  (20, 2, .bipush 40, (0, 0, 0, 0, 0, 0)), (22, 1, .iload_n 1, (0, 0, 0, 0, 0, 0)), (23, 1, .imul, (0, 0, 0, 0, 0, 0)), (24, 1, .iload_n 2, (0, 0, 0, 0, 0, 0)), (25, 1, .iadd, (0, 0, 0, 0, 0, 0)), (26, 1, .iaload, (0, 0, 0, 0, 0, 0)),
  (27, 3, .invokevirtual 90, (139, 0, 1, 1, 2, 6)), (30, 1, .ireturn, (0, 0, 0, 0, 0, 0))]
def z_X6_tear : List zI := [
  (0, 1, .iload_n 1, (0, 0, 0, 0, 0, 0)), (1, 3, .invokestatic 74, (140, 2, 1, 1, 1, 0)), (4, 3, .ifCond .ne 5, (9, 0, 0, 0, 0, 0)), (7, 1, .iconst (-1), (0, 0, 0, 0, 0, 0)), (8, 1, .ireturn, (0, 0, 0, 0, 0, 0)), (9, 1, .aload_n 0, (0, 0, 0, 0, 0, 0)),
  (10, 3, .getfield 25, (6, 7, 2, 0, 0, 0)), (13, 1, .iload_n 1, (0, 0, 0, 0, 0, 0)), (14, 1, .iaload, (0, 0, 0, 0, 0, 0)), (15, 3, .ifCond .ge 9, (24, 0, 0, 0, 0, 0)), (18, 1, .aload_n 0, (0, 0, 0, 0, 0, 0)), (19, 1, .iconst 1, (0, 0, 0, 0, 0, 0)),
  (20, 3, .invokevirtual 78, (138, 0, 1, 1, 2, 6)), (23, 1, .ireturn, (0, 0, 0, 0, 0, 0)), (24, 1, .aload_n 0, (0, 0, 0, 0, 0, 0)), (25, 3, .getfield 25, (6, 7, 2, 0, 0, 0)), (28, 1, .iload_n 1, (0, 0, 0, 0, 0, 0)), (29, 1, .iconst (-1), (0, 0, 0, 0, 0, 0)),
  (30, 1, .iastore, (0, 0, 0, 0, 0, 0)), (31, 1, .iconst 1, (0, 0, 0, 0, 0, 0)), (32, 1, .ireturn, (0, 0, 0, 0, 0, 0))]
def z_X6_isSpan : List zI := [
  (0, 1, .iload_n 2, (0, 0, 0, 0, 0, 0)), (1, 3, .ifCond .lt 23, (24, 0, 0, 0, 0, 0)), (4, 1, .iload_n 2, (0, 0, 0, 0, 0, 0)), (5, 1, .i2l, (0, 0, 0, 0, 0, 0)), (6, 1, .iload_n 3, (0, 0, 0, 0, 0, 0)), (7, 1, .i2l, (0, 0, 0, 0, 0, 0)),
  (8, 1, .ladd, (0, 0, 0, 0, 0, 0)), (9, 1, .aload_n 0, (0, 0, 0, 0, 0, 0)), (10, 3, .getfield 25, (6, 7, 2, 0, 0, 0)), (13, 1, .iload_n 1, (0, 0, 0, 0, 0, 0)), (14, 1, .iaload, (0, 0, 0, 0, 0, 0)), (15, 1, .i2l, (0, 0, 0, 0, 0, 0)),
  (16, 1, .lcmp, (0, 0, 0, 0, 0, 0)), (17, 3, .ifCond .gt 7, (24, 0, 0, 0, 0, 0)), (20, 1, .iconst 1, (0, 0, 0, 0, 0, 0)), (21, 3, .goto 4, (25, 0, 0, 0, 0, 0)), (24, 1, .iconst 0, (0, 0, 0, 0, 0, 0)), (25, 1, .ireturn, (1, 0, 0, 0, 0, 0))]
def z_X6_copy : List zI := [
  (0, 1, .iload_n 1, (0, 0, 0, 0, 0, 0)), (1, 3, .invokestatic 74, (140, 2, 1, 1, 1, 0)), (4, 3, .ifCond .eq 10, (14, 0, 0, 0, 0, 0)), (7, 1, .iload_n 3, (0, 0, 0, 0, 0, 0)), (8, 3, .invokestatic 74, (140, 2, 1, 1, 1, 0)), (11, 3, .ifCond .ne 5, (16, 0, 0, 0, 0, 0)),
  (14, 1, .iconst (-1), (0, 0, 0, 0, 0, 0)), (15, 1, .ireturn, (0, 0, 0, 0, 0, 0)), (16, 2, .iload 5, (0, 0, 0, 0, 0, 0)), (18, 3, .ifCond .ge 9, (27, 0, 0, 0, 0, 0)), (21, 1, .aload_n 0, (0, 0, 0, 0, 0, 0)), (22, 1, .iconst 5, (0, 0, 0, 0, 0, 0)),
  (23, 3, .invokevirtual 78, (138, 0, 1, 1, 2, 6)), (26, 1, .ireturn, (0, 0, 0, 0, 0, 0)), (27, 1, .aload_n 0, (0, 0, 0, 0, 0, 0)), (28, 3, .getfield 25, (6, 7, 2, 0, 0, 0)), (31, 1, .iload_n 1, (0, 0, 0, 0, 0, 0)), (32, 1, .iaload, (0, 0, 0, 0, 0, 0)),
  (33, 3, .ifCond .lt 12, (45, 0, 0, 0, 0, 0)), (36, 1, .aload_n 0, (0, 0, 0, 0, 0, 0)), (37, 3, .getfield 25, (6, 7, 2, 0, 0, 0)), (40, 1, .iload_n 3, (0, 0, 0, 0, 0, 0)), (41, 1, .iaload, (0, 0, 0, 0, 0, 0)), (42, 3, .ifCond .ge 9, (51, 0, 0, 0, 0, 0)),
  (45, 1, .aload_n 0, (0, 0, 0, 0, 0, 0)), (46, 1, .iconst 1, (0, 0, 0, 0, 0, 0)), (47, 3, .invokevirtual 78, (138, 0, 1, 1, 2, 6)), (50, 1, .ireturn, (0, 0, 0, 0, 0, 0)), (51, 1, .aload_n 0, (0, 0, 0, 0, 0, 0)), (52, 1, .iload_n 1, (0, 0, 0, 0, 0, 0)),
  (53, 1, .iload_n 2, (0, 0, 0, 0, 0, 0)), (54, 2, .iload 5, (0, 0, 0, 0, 0, 0)), (56, 3, .invokevirtual 93, (148, 0, 3, 1, 4, 6)), (59, 3, .ifCond .eq 15, (74, 0, 0, 0, 0, 0)), (62, 1, .aload_n 0, (0, 0, 0, 0, 0, 0)), (63, 1, .iload_n 3, (0, 0, 0, 0, 0, 0)),
  (64, 2, .iload 4, (0, 0, 0, 0, 0, 0)), (66, 2, .iload 5, (0, 0, 0, 0, 0, 0)), (68, 3, .invokevirtual 93, (148, 0, 3, 1, 4, 6)), (71, 3, .ifCond .ne 9, (80, 0, 0, 0, 0, 0)), (74, 1, .aload_n 0, (0, 0, 0, 0, 0, 0)), (75, 1, .iconst 2, (0, 0, 0, 0, 0, 0)),
  (76, 3, .invokevirtual 78, (138, 0, 1, 1, 2, 6)), (79, 1, .ireturn, (0, 0, 0, 0, 0, 0)), (80, 1, .iload_n 2, (0, 0, 0, 0, 0, 0)), (81, 2, .iload 4, (0, 0, 0, 0, 0, 0)), (83, 3, .if_icmp .ge 7, (90, 0, 0, 0, 0, 0)), (86, 1, .iconst 1, (0, 0, 0, 0, 0, 0)),
  (87, 3, .goto 4, (91, 0, 0, 0, 0, 0)), (90, 1, .iconst 0, (0, 0, 0, 0, 0, 0)), (91, 2, .istore 6, (0, 0, 0, 0, 0, 0)), (93, 1, .iconst 0, (0, 0, 0, 0, 0, 0)), (94, 2, .istore 7, (0, 0, 0, 0, 0, 0)), (96, 2, .iload 7, (0, 0, 0, 0, 0, 0)),
  (98, 2, .iload 5, (0, 0, 0, 0, 0, 0)), (100, 3, .if_icmp .ge 57, (157, 0, 0, 0, 0, 0)), (103, 2, .iload 6, (0, 0, 0, 0, 0, 0)), (105, 3, .ifCond .eq 13, (118, 0, 0, 0, 0, 0)), (108, 2, .iload 5, (0, 0, 0, 0, 0, 0)), (110, 1, .iconst 1, (0, 0, 0, 0, 0, 0)),
  (111, 1, .isub, (0, 0, 0, 0, 0, 0)), (112, 2, .iload 7, (0, 0, 0, 0, 0, 0)), (114, 1, .isub, (0, 0, 0, 0, 0, 0)), (115, 3, .goto 5, (120, 0, 0, 0, 0, 0)), (118, 2, .iload 7, (0, 0, 0, 0, 0, 0)), (120, 2, .istore 8, (0, 0, 0, 0, 0, 0)),
  (122, 1, .aload_n 0, (0, 0, 0, 0, 0, 0)), (123, 3, .getfield 28, (6, 8, 2, 0, 0, 0)), (126, 2, .bipush 40, (0, 0, 0, 0, 0, 0)), (128, 1, .iload_n 3, (0, 0, 0, 0, 0, 0)), (129, 1, .imul, (0, 0, 0, 0, 0, 0)), (130, 2, .iload 4, (0, 0, 0, 0, 0, 0)),
  (132, 1, .iadd, (0, 0, 0, 0, 0, 0)), (133, 2, .iload 8, (0, 0, 0, 0, 0, 0)), (135, 1, .iadd, (0, 0, 0, 0, 0, 0)), (136, 1, .aload_n 0, (0, 0, 0, 0, 0, 0)), (137, 3, .getfield 28, (6, 8, 2, 0, 0, 0)), (140, 2, .bipush 40, (0, 0, 0, 0, 0, 0)),
  (142, 1, .iload_n 1, (0, 0, 0, 0, 0, 0)), (143, 1, .imul, (0, 0, 0, 0, 0, 0)), (144, 1, .iload_n 2, (0, 0, 0, 0, 0, 0)), (145, 1, .iadd, (0, 0, 0, 0, 0, 0)), (146, 2, .iload 8, (0, 0, 0, 0, 0, 0)), (148, 1, .iadd, (0, 0, 0, 0, 0, 0)),
  (149, 1, .iaload, (0, 0, 0, 0, 0, 0)), (150, 1, .iastore, (0, 0, 0, 0, 0, 0)), (151, 3, .iinc 7 1, (0, 0, 0, 0, 0, 0)), (154, 3, .goto (-58), (96, 256, 0, 0, 0, 0)), (157, 1, .iconst 1, (0, 0, 0, 0, 0, 0)), (158, 1, .ireturn, (0, 0, 0, 0, 0, 0))]
def z_X6_mean : List zI := [
  (0, 1, .iload_n 1, (0, 0, 0, 0, 0, 0)), (1, 3, .invokestatic 74, (140, 2, 1, 1, 1, 0)), (4, 3, .ifCond .ne 5, (9, 0, 0, 0, 0, 0)), (7, 1, .iconst (-1), (0, 0, 0, 0, 0, 0)), (8, 1, .ireturn, (0, 0, 0, 0, 0, 0)), (9, 1, .aload_n 0, (0, 0, 0, 0, 0, 0)),
  (10, 3, .getfield 25, (6, 7, 2, 0, 0, 0)), (13, 1, .iload_n 1, (0, 0, 0, 0, 0, 0)), (14, 1, .iaload, (0, 0, 0, 0, 0, 0)), (15, 3, .ifCond .ge 9, (24, 0, 0, 0, 0, 0)), (18, 1, .aload_n 0, (0, 0, 0, 0, 0, 0)), (19, 1, .iconst 1, (0, 0, 0, 0, 0, 0)),
  (20, 3, .invokevirtual 78, (138, 0, 1, 1, 2, 6)), (23, 1, .ireturn, (0, 0, 0, 0, 0, 0)), (24, 1, .aload_n 0, (0, 0, 0, 0, 0, 0)), (25, 3, .getfield 25, (6, 7, 2, 0, 0, 0)), (28, 1, .iload_n 1, (0, 0, 0, 0, 0, 0)), (29, 1, .iaload, (0, 0, 0, 0, 0, 0)),
  (30, 3, .ifCond .ne 9, (39, 0, 0, 0, 0, 0)), (33, 1, .aload_n 0, (0, 0, 0, 0, 0, 0)), (34, 1, .iconst 4, (0, 0, 0, 0, 0, 0)), (35, 3, .invokevirtual 78, (138, 0, 1, 1, 2, 6)), (38, 1, .ireturn, (0, 0, 0, 0, 0, 0)), (39, 1, .lconst 0, (0, 0, 0, 0, 0, 0)),
  (40, 1, .lstore_n 2, (0, 0, 0, 0, 0, 0)), (41, 1, .iconst 0, (0, 0, 0, 0, 0, 0)), (42, 2, .istore 4, (0, 0, 0, 0, 0, 0)), (44, 2, .iload 4, (0, 0, 0, 0, 0, 0)), (46, 1, .aload_n 0, (0, 0, 0, 0, 0, 0)), (47, 3, .getfield 25, (6, 7, 2, 0, 0, 0)),
  (50, 1, .iload_n 1, (0, 0, 0, 0, 0, 0)), (51, 1, .iaload, (0, 0, 0, 0, 0, 0)), (52, 3, .if_icmp .ge 25, (77, 0, 0, 0, 0, 0)), (55, 1, .lload_n 2, (0, 0, 0, 0, 0, 0)), (56, 1, .aload_n 0, (0, 0, 0, 0, 0, 0)), (57, 3, .getfield 28, (6, 8, 2, 0, 0, 0)),
  (60, 2, .bipush 40, (0, 0, 0, 0, 0, 0)), (62, 1, .iload_n 1, (0, 0, 0, 0, 0, 0)), (63, 1, .imul, (0, 0, 0, 0, 0, 0)), (64, 2, .iload 4, (0, 0, 0, 0, 0, 0)), (66, 1, .iadd, (0, 0, 0, 0, 0, 0)), (67, 1, .iaload, (0, 0, 0, 0, 0, 0)),
  (68, 1, .i2l, (0, 0, 0, 0, 0, 0)), (69, 1, .ladd, (0, 0, 0, 0, 0, 0)), (70, 1, .lstore_n 2, (0, 0, 0, 0, 0, 0)), (71, 3, .iinc 4 1, (0, 0, 0, 0, 0, 0)), (74, 3, .goto (-30), (44, 0, 0, 0, 0, 0)), (77, 1, .aload_n 0, (0, 0, 0, 0, 0, 0)),
  (78, 1, .lload_n 2, (0, 0, 0, 0, 0, 0)), (79, 1, .aload_n 0, (0, 0, 0, 0, 0, 0)), (80, 3, .getfield 25, (6, 7, 2, 0, 0, 0)), (83, 1, .iload_n 1, (0, 0, 0, 0, 0, 0)), (84, 1, .iaload, (0, 0, 0, 0, 0, 0)), (85, 1, .i2l, (0, 0, 0, 0, 0, 0)),
  (86, 1, .ldiv, (0, 0, 0, 0, 0, 0)), (87, 1, .l2i, (0, 0, 0, 0, 0, 0)), (88, 3, .invokevirtual 90, (139, 0, 1, 1, 2, 6)), (91, 1, .ireturn, (0, 0, 0, 0, 0, 0))]
def z_X6_text : List zI := [
  (0, 1, .iload_n 1, (0, 0, 0, 0, 0, 0)), (1, 3, .invokestatic 97, (141, 2, 1, 1, 1, 0)), (4, 3, .ifCond .eq 9, (13, 0, 0, 0, 0, 0)), (7, 1, .iload_n 2, (0, 0, 0, 0, 0, 0)), (8, 2, .bipush 60, (0, 0, 0, 0, 0, 0)), (10, 3, .if_icmp .le 5, (15, 0, 0, 0, 0, 0)),
  (13, 1, .iconst (-1), (0, 0, 0, 0, 0, 0)), (14, 1, .ireturn, (0, 0, 0, 0, 0, 0)), (15, 1, .iload_n 2, (0, 0, 0, 0, 0, 0)), (16, 3, .ifCond .ge 9, (25, 0, 0, 0, 0, 0)), (19, 1, .aload_n 0, (0, 0, 0, 0, 0, 0)), (20, 1, .iconst 5, (0, 0, 0, 0, 0, 0)),
  (21, 3, .invokevirtual 78, (138, 0, 1, 1, 2, 6)), (24, 1, .ireturn, (0, 0, 0, 0, 0, 0)), (25, 1, .aload_n 0, (0, 0, 0, 0, 0, 0)), (26, 3, .getfield 31, (6, 9, 2, 0, 0, 0)), (29, 1, .iload_n 1, (0, 0, 0, 0, 0, 0)), (30, 1, .iload_n 2, (0, 0, 0, 0, 0, 0)),
  (31, 1, .iastore, (0, 0, 0, 0, 0, 0)), (32, 1, .iconst 0, (0, 0, 0, 0, 0, 0)), (33, 1, .istore_n 3, (0, 0, 0, 0, 0, 0)), (34, 1, .iload_n 3, (0, 0, 0, 0, 0, 0)), (35, 2, .bipush 60, (0, 0, 0, 0, 0, 0)), (37, 3, .if_icmp .ge 22, (59, 0, 0, 0, 0, 0)),
  (40, 1, .aload_n 0, (0, 0, 0, 0, 0, 0)), (41, 3, .getfield 34, (6, 10, 2, 0, 0, 0)), (44, 2, .bipush 60, (0, 0, 0, 0, 0, 0)), (46, 1, .iload_n 1, (0, 0, 0, 0, 0, 0)), (47, 1, .imul, (0, 0, 0, 0, 0, 0)), (48, 1, .iload_n 3, (0, 0, 0, 0, 0, 0)),
  (49, 1, .iadd, (0, 0, 0, 0, 0, 0)), (50, 2, .bipush 32, (0, 0, 0, 0, 0, 0)), (52, 1, .iastore, (0, 0, 0, 0, 0, 0)), (53, 3, .iinc 3 1, (0, 0, 0, 0, 0, 0)), (56, 3, .goto (-22), (34, 0, 0, 0, 0, 0)), (59, 1, .iload_n 2, (0, 0, 0, 0, 0, 0)),
  (60, 1, .ireturn, (0, 0, 0, 0, 0, 0))]
def z_X6_put : List zI := [
  (0, 1, .iload_n 1, (0, 0, 0, 0, 0, 0)), (1, 3, .invokestatic 97, (141, 2, 1, 1, 1, 0)), (4, 3, .ifCond .ne 5, (9, 0, 0, 0, 0, 0)), (7, 1, .iconst (-1), (0, 0, 0, 0, 0, 0)), (8, 1, .ireturn, (0, 0, 0, 0, 0, 0)), (9, 1, .aload_n 0, (0, 0, 0, 0, 0, 0)),
  (10, 3, .getfield 31, (6, 9, 2, 0, 0, 0)), (13, 1, .iload_n 1, (0, 0, 0, 0, 0, 0)), (14, 1, .iaload, (0, 0, 0, 0, 0, 0)), (15, 3, .ifCond .ge 9, (24, 0, 0, 0, 0, 0)), (18, 1, .aload_n 0, (0, 0, 0, 0, 0, 0)), (19, 1, .iconst 1, (0, 0, 0, 0, 0, 0)),
  (20, 3, .invokevirtual 78, (138, 0, 1, 1, 2, 6)), (23, 1, .ireturn, (0, 0, 0, 0, 0, 0)), (24, 1, .iload_n 2, (0, 0, 0, 0, 0, 0)), (25, 1, .i2l, (0, 0, 0, 0, 0, 0)), (26, 1, .lconst 0, (0, 0, 0, 0, 0, 0)), (27, 1, .aload_n 0, (0, 0, 0, 0, 0, 0)),
  (28, 3, .getfield 31, (6, 9, 2, 0, 0, 0)), (31, 1, .iload_n 1, (0, 0, 0, 0, 0, 0)), (32, 1, .iaload, (0, 0, 0, 0, 0, 0)), (33, 1, .iconst 1, (0, 0, 0, 0, 0, 0)), (34, 1, .isub, (0, 0, 0, 0, 0, 0)), (35, 1, .i2l, (0, 0, 0, 0, 0, 0)),
  (36, 3, .invokestatic 68, (137, 2, 3, 1, 6, 0)), (39, 3, .ifCond .ne 9, (48, 0, 0, 0, 0, 0)), (42, 1, .aload_n 0, (0, 0, 0, 0, 0, 0)), (43, 1, .iconst 2, (0, 0, 0, 0, 0, 0)), (44, 3, .invokevirtual 78, (138, 0, 1, 1, 2, 6)), (47, 1, .ireturn, (0, 0, 0, 0, 0, 0)),
  (48, 1, .aload_n 0, (0, 0, 0, 0, 0, 0)), (49, 3, .getfield 34, (6, 10, 2, 0, 0, 0)), (52, 2, .bipush 60, (0, 0, 0, 0, 0, 0)), (54, 1, .iload_n 1, (0, 0, 0, 0, 0, 0)), (55, 1, .imul, (0, 0, 0, 0, 0, 0)), (56, 1, .iload_n 2, (0, 0, 0, 0, 0, 0)),
  (57, 1, .iadd, (0, 0, 0, 0, 0, 0)), (58, 1, .iaload, (0, 0, 0, 0, 0, 0)), (59, 2, .istore 4, (0, 0, 0, 0, 0, 0)), (61, 1, .aload_n 0, (0, 0, 0, 0, 0, 0)), (62, 3, .getfield 34, (6, 10, 2, 0, 0, 0)), (65, 2, .bipush 60, (0, 0, 0, 0, 0, 0)),
  (67, 1, .iload_n 1, (0, 0, 0, 0, 0, 0)), (68, 1, .imul, (0, 0, 0, 0, 0, 0)), (69, 1, .iload_n 2, (0, 0, 0, 0, 0, 0)), (70, 1, .iadd, (0, 0, 0, 0, 0, 0)), (71, 1, .iload_n 3, (0, 0, 0, 0, 0, 0)), (72, 1, .i2b, (0, 0, 0, 0, 0, 0)),
  (73, 1, .iastore, (0, 0, 0, 0, 0, 0)), (74, 2, .iload 4, (0, 0, 0, 0, 0, 0)), (76, 3, .sipush 1000, (0, 0, 0, 0, 0, 0)), (79, 1, .iadd, (0, 0, 0, 0, 0, 0)), (80, 1, .ireturn, (0, 0, 0, 0, 0, 0))]
def z_X6_here : List zI := [
  (0, 1, .aload_n 0, (0, 0, 0, 0, 0, 0)), (1, 3, .getfield 34, (6, 10, 2, 0, 0, 0)), (4, 1, .aload_n 0, (0, 0, 0, 0, 0, 0)), (5, 3, .getfield 100, (6, 16, 0, 0, 0, 0)), (8, 1, .aload_n 0, (0, 0, 0, 0, 0, 0)), (9, 3, .getfield 103, (6, 17, 0, 0, 0, 0)),
  (12, 1, .iadd, (0, 0, 0, 0, 0, 0)), (13, 1, .iaload, (0, 0, 0, 0, 0, 0)), (14, 1, .ireturn, (0, 0, 0, 0, 0, 0))]
def z_X6_skip : List zI := [
  (0, 1, .aload_n 0, (0, 0, 0, 0, 0, 0)), (1, 3, .getfield 103, (6, 17, 0, 0, 0, 0)), (4, 1, .aload_n 0, (0, 0, 0, 0, 0, 0)), (5, 3, .getfield 106, (6, 18, 0, 0, 0, 0)), (8, 3, .if_icmp .ge 25, (33, 0, 0, 0, 0, 0)), (11, 1, .aload_n 0, (0, 0, 0, 0, 0, 0)),
  (12, 3, .invokevirtual 109, (153, 0, 0, 1, 1, 6)), (15, 2, .bipush 32, (0, 0, 0, 0, 0, 0)), (17, 3, .if_icmp .ne 16, (33, 0, 0, 0, 0, 0)), (20, 1, .aload_n 0, (0, 0, 0, 0, 0, 0)), (21, 1, .dup, (0, 0, 0, 0, 0, 0)), (22, 3, .getfield 103, (6, 17, 0, 0, 0, 0)),
  (25, 1, .iconst 1, (0, 0, 0, 0, 0, 0)), (26, 1, .iadd, (0, 0, 0, 0, 0, 0)), (27, 3, .putfield 103, (6, 17, 0, 0, 0, 0)), (30, 3, .goto (-30), (0, 0, 0, 0, 0, 0)), (33, 1, .return_, (0, 0, 0, 0, 0, 0))]
def z_X6_figure : List zI := [
  (0, 1, .aload_n 0, (0, 0, 0, 0, 0, 0)), (1, 3, .getfield 103, (6, 17, 0, 0, 0, 0)), (4, 1, .aload_n 0, (0, 0, 0, 0, 0, 0)), (5, 3, .getfield 106, (6, 18, 0, 0, 0, 0)), (8, 3, .if_icmp .eq 24, (32, 0, 0, 0, 0, 0)), (11, 1, .aload_n 0, (0, 0, 0, 0, 0, 0)),
  (12, 3, .invokevirtual 109, (153, 0, 0, 1, 1, 6)), (15, 1, .i2l, (0, 0, 0, 0, 0, 0)), (16, 2, .bipush 48, (0, 0, 0, 0, 0, 0)), (18, 1, .iload_n 1, (0, 0, 0, 0, 0, 0)), (19, 1, .iadd, (0, 0, 0, 0, 0, 0)), (20, 1, .i2l, (0, 0, 0, 0, 0, 0)),
  (21, 2, .bipush 48, (0, 0, 0, 0, 0, 0)), (23, 1, .iload_n 2, (0, 0, 0, 0, 0, 0)), (24, 1, .iadd, (0, 0, 0, 0, 0, 0)), (25, 1, .i2l, (0, 0, 0, 0, 0, 0)), (26, 3, .invokestatic 68, (137, 2, 3, 1, 6, 0)), (29, 3, .ifCond .ne 6, (35, 0, 0, 0, 0, 0)),
  (32, 2, .bipush (-9), (0, 0, 0, 0, 0, 0)), (34, 1, .ireturn, (0, 0, 0, 0, 0, 0)), (35, 1, .aload_n 0, (0, 0, 0, 0, 0, 0)), (36, 1, .dup, (0, 0, 0, 0, 0, 0)), (37, 3, .getfield 103, (6, 17, 0, 0, 0, 0)), (40, 1, .iconst 1, (0, 0, 0, 0, 0, 0)),
  (41, 1, .iadd, (0, 0, 0, 0, 0, 0)), (42, 3, .putfield 103, (6, 17, 0, 0, 0, 0)), (45, 1, .aload_n 0, (0, 0, 0, 0, 0, 0)), (46, 3, .getfield 34, (6, 10, 2, 0, 0, 0)), (49, 1, .aload_n 0, (0, 0, 0, 0, 0, 0)), (50, 3, .getfield 100, (6, 16, 0, 0, 0, 0)),
  (53, 1, .aload_n 0, (0, 0, 0, 0, 0, 0)), (54, 3, .getfield 103, (6, 17, 0, 0, 0, 0)), (57, 1, .iadd, (0, 0, 0, 0, 0, 0)), (58, 1, .iconst 1, (0, 0, 0, 0, 0, 0)), (59, 1, .isub, (0, 0, 0, 0, 0, 0)), (60, 1, .iaload, (0, 0, 0, 0, 0, 0)),
  (61, 2, .bipush 48, (0, 0, 0, 0, 0, 0)), (63, 1, .isub, (0, 0, 0, 0, 0, 0)), (64, 1, .ireturn, (0, 0, 0, 0, 0, 0))]
def z_X6_placeOfLetter : List zI := [
  (0, 1, .iload_n 0, (0, 0, 0, 0, 0, 0)), (1, 2, .bipush 46, (0, 0, 0, 0, 0, 0)), (3, 3, .if_icmp .ne 7, (10, 0, 0, 0, 0, 0)), (6, 1, .iconst 0, (0, 0, 0, 0, 0, 0)), (7, 3, .goto 45, (52, 0, 0, 0, 0, 0)), (10, 1, .iload_n 0, (0, 0, 0, 0, 0, 0)),
  (11, 2, .bipush 100, (0, 0, 0, 0, 0, 0)), (13, 3, .if_icmp .ne 7, (20, 0, 0, 0, 0, 0)), (16, 1, .iconst 1, (0, 0, 0, 0, 0, 0)), (17, 3, .goto 35, (52, 0, 0, 0, 0, 0)), (20, 1, .iload_n 0, (0, 0, 0, 0, 0, 0)), (21, 2, .bipush 108, (0, 0, 0, 0, 0, 0)),
  (23, 3, .if_icmp .ne 7, (30, 0, 0, 0, 0, 0)), (26, 1, .iconst 2, (0, 0, 0, 0, 0, 0)), (27, 3, .goto 25, (52, 0, 0, 0, 0, 0)), (30, 1, .iload_n 0, (0, 0, 0, 0, 0, 0)), (31, 2, .bipush 117, (0, 0, 0, 0, 0, 0)), (33, 3, .if_icmp .ne 7, (40, 0, 0, 0, 0, 0)),
  (36, 1, .iconst 3, (0, 0, 0, 0, 0, 0)), (37, 3, .goto 15, (52, 0, 0, 0, 0, 0)), (40, 1, .iload_n 0, (0, 0, 0, 0, 0, 0)), (41, 2, .bipush 103, (0, 0, 0, 0, 0, 0)), (43, 3, .if_icmp .ne 7, (50, 0, 0, 0, 0, 0)), (46, 1, .iconst 4, (0, 0, 0, 0, 0, 0)),
  (47, 3, .goto 5, (52, 0, 0, 0, 0, 0)), (50, 2, .bipush (-9), (0, 0, 0, 0, 0, 0)), (52, 1, .ireturn, (0, 0, 0, 0, 0, 0))]
def z_X6_kindOfLetter : List zI := [
  (0, 1, .iload_n 0, (0, 0, 0, 0, 0, 0)), (1, 2, .bipush 109, (0, 0, 0, 0, 0, 0)), (3, 3, .if_icmp .ne 7, (10, 0, 0, 0, 0, 0)), (6, 1, .iconst 0, (0, 0, 0, 0, 0, 0)), (7, 3, .goto 55, (62, 0, 0, 0, 0, 0)), (10, 1, .iload_n 0, (0, 0, 0, 0, 0, 0)),
  (11, 2, .bipush 116, (0, 0, 0, 0, 0, 0)), (13, 3, .if_icmp .ne 7, (20, 0, 0, 0, 0, 0)), (16, 1, .iconst 1, (0, 0, 0, 0, 0, 0)), (17, 3, .goto 45, (62, 0, 0, 0, 0, 0)), (20, 1, .iload_n 0, (0, 0, 0, 0, 0, 0)), (21, 2, .bipush 115, (0, 0, 0, 0, 0, 0)),
  (23, 3, .if_icmp .ne 7, (30, 0, 0, 0, 0, 0)), (26, 1, .iconst 2, (0, 0, 0, 0, 0, 0)), (27, 3, .goto 35, (62, 0, 0, 0, 0, 0)), (30, 1, .iload_n 0, (0, 0, 0, 0, 0, 0)), (31, 2, .bipush 102, (0, 0, 0, 0, 0, 0)), (33, 3, .if_icmp .ne 7, (40, 0, 0, 0, 0, 0)),
  (36, 1, .iconst 3, (0, 0, 0, 0, 0, 0)), (37, 3, .goto 25, (62, 0, 0, 0, 0, 0)), (40, 1, .iload_n 0, (0, 0, 0, 0, 0, 0)), (41, 2, .bipush 110, (0, 0, 0, 0, 0, 0)), (43, 3, .if_icmp .ne 7, (50, 0, 0, 0, 0, 0)), (46, 1, .iconst 4, (0, 0, 0, 0, 0, 0)),
  (47, 3, .goto 15, (62, 0, 0, 0, 0, 0)), (50, 1, .iload_n 0, (0, 0, 0, 0, 0, 0)), (51, 2, .bipush 105, (0, 0, 0, 0, 0, 0)), (53, 3, .if_icmp .ne 7, (60, 0, 0, 0, 0, 0)), (56, 1, .iconst 5, (0, 0, 0, 0, 0, 0)), (57, 3, .goto 5, (62, 0, 0, 0, 0, 0)),
  (60, 2, .bipush (-9), (0, 0, 0, 0, 0, 0)), (62, 1, .ireturn, (0, 0, 0, 0, 0, 0))]
def z_X6_readsHooks : List zI := [
  (0, 1, .aload_n 0, (0, 0, 0, 0, 0, 0)), (1, 3, .invokevirtual 113, (154, 0, 0, 0, 1, 6)), (4, 1, .aload_n 0, (0, 0, 0, 0, 0, 0)), (5, 3, .getfield 103, (6, 17, 0, 0, 0, 0)), (8, 1, .aload_n 0, (0, 0, 0, 0, 0, 0)), (9, 3, .getfield 106, (6, 18, 0, 0, 0, 0)),
  (12, 3, .if_icmp .eq 12, (24, 0, 0, 0, 0, 0)), (15, 1, .aload_n 0, (0, 0, 0, 0, 0, 0)), (16, 3, .invokevirtual 109, (153, 0, 0, 1, 1, 6)), (19, 2, .bipush 107, (0, 0, 0, 0, 0, 0)), (21, 3, .if_icmp .eq 5, (26, 0, 0, 0, 0, 0)), (24, 1, .iconst 0, (0, 0, 0, 0, 0, 0)),
  (25, 1, .ireturn, (1, 0, 0, 0, 0, 0)), (26, 1, .aload_n 0, (0, 0, 0, 0, 0, 0)), (27, 1, .dup, (0, 0, 0, 0, 0, 0)), (28, 3, .getfield 103, (6, 17, 0, 0, 0, 0)), (31, 1, .iconst 1, (0, 0, 0, 0, 0, 0)), (32, 1, .iadd, (0, 0, 0, 0, 0, 0)),
  (33, 3, .putfield 103, (6, 17, 0, 0, 0, 0)), (36, 1, .aload_n 0, (0, 0, 0, 0, 0, 0)), (37, 3, .getfield 103, (6, 17, 0, 0, 0, 0)), (40, 1, .aload_n 0, (0, 0, 0, 0, 0, 0)), (41, 3, .getfield 106, (6, 18, 0, 0, 0, 0)), (44, 3, .if_icmp .ge 65, (109, 0, 0, 0, 0, 0)),
  (47, 1, .aload_n 0, (0, 0, 0, 0, 0, 0)), (48, 3, .invokevirtual 109, (153, 0, 0, 1, 1, 6)), (51, 3, .invokestatic 116, (156, 2, 1, 1, 1, 0)), (54, 2, .bipush (-9), (0, 0, 0, 0, 0, 0)), (56, 3, .if_icmp .eq 53, (109, 0, 0, 0, 0, 0)), (59, 1, .aload_n 0, (0, 0, 0, 0, 0, 0)),
  (60, 3, .getfield 119, (6, 20, 0, 0, 0, 0)), (63, 2, .bipush 7, (0, 0, 0, 0, 0, 0)), (65, 3, .if_icmp .ne 5, (70, 0, 0, 0, 0, 0)), (68, 1, .iconst 0, (0, 0, 0, 0, 0, 0)), (69, 1, .ireturn, (1, 0, 0, 0, 0, 0)), (70, 1, .aload_n 0, (0, 0, 0, 0, 0, 0)),
  (71, 3, .getfield 44, (6, 19, 2, 0, 0, 0)), (74, 1, .aload_n 0, (0, 0, 0, 0, 0, 0)), (75, 3, .getfield 119, (6, 20, 0, 0, 0, 0)), (78, 1, .aload_n 0, (0, 0, 0, 0, 0, 0)), (79, 3, .invokevirtual 109, (153, 0, 0, 1, 1, 6)), (82, 3, .invokestatic 116, (156, 2, 1, 1, 1, 0)),
  (85, 1, .iastore, (0, 0, 0, 0, 0, 0)), (86, 1, .aload_n 0, (0, 0, 0, 0, 0, 0)), (87, 1, .dup, (0, 0, 0, 0, 0, 0)), (88, 3, .getfield 119, (6, 20, 0, 0, 0, 0)), (91, 1, .iconst 1, (0, 0, 0, 0, 0, 0)), (92, 1, .iadd, (0, 0, 0, 0, 0, 0)),
  (93, 3, .putfield 119, (6, 20, 0, 0, 0, 0)), (96, 1, .aload_n 0, (0, 0, 0, 0, 0, 0)), (97, 1, .dup, (0, 0, 0, 0, 0, 0)), (98, 3, .getfield 103, (6, 17, 0, 0, 0, 0)), (101, 1, .iconst 1, (0, 0, 0, 0, 0, 0)), (102, 1, .iadd, (0, 0, 0, 0, 0, 0)),
  (103, 3, .putfield 103, (6, 17, 0, 0, 0, 0)), (106, 3, .goto (-70), (36, 0, 0, 0, 0, 0)), (109, 1, .aload_n 0, (0, 0, 0, 0, 0, 0)), (110, 3, .getfield 119, (6, 20, 0, 0, 0, 0)), (113, 1, .iconst 1, (0, 0, 0, 0, 0, 0)), (114, 3, .if_icmp .le 7, (121, 0, 0, 0, 0, 0)),
  (117, 1, .iconst 1, (0, 0, 0, 0, 0, 0)), (118, 3, .goto 4, (122, 0, 0, 0, 0, 0)), (121, 1, .iconst 0, (0, 0, 0, 0, 0, 0)), (122, 1, .ireturn, (1, 0, 0, 0, 0, 0))]
def z_X6_readsMan : List zI := [
  (0, 1, .aload_n 0, (0, 0, 0, 0, 0, 0)), (1, 3, .invokevirtual 109, (153, 0, 0, 1, 1, 6)), (4, 3, .invokestatic 122, (157, 2, 1, 1, 1, 0)), (7, 1, .istore_n 1, (0, 0, 0, 0, 0, 0)), (8, 1, .iload_n 1, (0, 0, 0, 0, 0, 0)), (9, 2, .bipush (-9), (0, 0, 0, 0, 0, 0)),
  (11, 3, .if_icmp .eq 23, (34, 0, 0, 0, 0, 0)), (14, 1, .aload_n 0, (0, 0, 0, 0, 0, 0)), (15, 3, .getfield 125, (6, 22, 0, 0, 0, 0)), (18, 2, .bipush 6, (0, 0, 0, 0, 0, 0)), (20, 3, .if_icmp .eq 14, (34, 0, 0, 0, 0, 0)), (23, 1, .aload_n 0, (0, 0, 0, 0, 0, 0)),
  (24, 3, .getfield 125, (6, 22, 0, 0, 0, 0)), (27, 1, .aload_n 0, (0, 0, 0, 0, 0, 0)), (28, 3, .getfield 119, (6, 20, 0, 0, 0, 0)), (31, 3, .if_icmp .ne 5, (36, 0, 0, 0, 0, 0)), (34, 1, .iconst 0, (0, 0, 0, 0, 0, 0)), (35, 1, .ireturn, (1, 0, 0, 0, 0, 0)),
  (36, 1, .aload_n 0, (0, 0, 0, 0, 0, 0)), (37, 1, .dup, (0, 0, 0, 0, 0, 0)), (38, 3, .getfield 103, (6, 17, 0, 0, 0, 0)), (41, 1, .iconst 1, (0, 0, 0, 0, 0, 0)), (42, 1, .iadd, (0, 0, 0, 0, 0, 0)), (43, 3, .putfield 103, (6, 17, 0, 0, 0, 0)),
  (46, 1, .aload_n 0, (0, 0, 0, 0, 0, 0)), (47, 1, .iconst 1, (0, 0, 0, 0, 0, 0)), (48, 2, .bipush 9, (0, 0, 0, 0, 0, 0)), (50, 3, .invokevirtual 128, (155, 0, 2, 1, 3, 6)), (53, 1, .istore_n 2, (0, 0, 0, 0, 0, 0)), (54, 1, .iload_n 2, (0, 0, 0, 0, 0, 0)),
  (55, 2, .bipush (-9), (0, 0, 0, 0, 0, 0)), (57, 3, .if_icmp .ne 8, (65, 0, 0, 0, 0, 0)), (60, 2, .bipush (-9), (0, 0, 0, 0, 0, 0)), (62, 3, .goto 9, (71, 0, 0, 0, 0, 0)), (65, 1, .aload_n 0, (0, 0, 0, 0, 0, 0)), (66, 1, .iconst 0, (0, 0, 0, 0, 0, 0)),
  (67, 1, .iconst 1, (0, 0, 0, 0, 0, 0)), (68, 3, .invokevirtual 128, (155, 0, 2, 1, 3, 6)), (71, 1, .istore_n 3, (0, 0, 0, 0, 0, 0)), (72, 1, .iload_n 3, (0, 0, 0, 0, 0, 0)), (73, 2, .bipush (-9), (0, 0, 0, 0, 0, 0)), (75, 3, .if_icmp .ne 8, (83, 0, 0, 0, 0, 0)),
  (78, 2, .bipush (-9), (0, 0, 0, 0, 0, 0)), (80, 3, .goto 9, (89, 0, 0, 0, 0, 0)), (83, 1, .aload_n 0, (0, 0, 0, 0, 0, 0)), (84, 1, .iconst 0, (0, 0, 0, 0, 0, 0)), (85, 1, .iconst 3, (0, 0, 0, 0, 0, 0)), (86, 3, .invokevirtual 128, (155, 0, 2, 1, 3, 6)),
  (89, 2, .istore 4, (0, 0, 0, 0, 0, 0)), (91, 2, .iload 4, (0, 0, 0, 0, 0, 0)), (93, 2, .bipush (-9), (0, 0, 0, 0, 0, 0)), (95, 3, .if_icmp .ne 5, (100, 0, 0, 0, 0, 0)), (98, 1, .iconst 0, (0, 0, 0, 0, 0, 0)), (99, 1, .ireturn, (1, 0, 0, 0, 0, 0)),
  (100, 1, .aload_n 0, (0, 0, 0, 0, 0, 0)), (101, 3, .getfield 47, (6, 21, 2, 0, 0, 0)), (104, 1, .iconst 4, (0, 0, 0, 0, 0, 0)), (105, 1, .aload_n 0, (0, 0, 0, 0, 0, 0)), (106, 3, .getfield 125, (6, 22, 0, 0, 0, 0)), (109, 1, .imul, (0, 0, 0, 0, 0, 0)),
  (110, 1, .iload_n 1, (0, 0, 0, 0, 0, 0)), (111, 1, .iastore, (0, 0, 0, 0, 0, 0)), (112, 1, .aload_n 0, (0, 0, 0, 0, 0, 0)), (113, 3, .getfield 47, (6, 21, 2, 0, 0, 0)), (116, 1, .iconst 4, (0, 0, 0, 0, 0, 0)), (117, 1, .aload_n 0, (0, 0, 0, 0, 0, 0)),
  (118, 3, .getfield 125, (6, 22, 0, 0, 0, 0)), (121, 1, .imul, (0, 0, 0, 0, 0, 0)), (122, 1, .iconst 1, (0, 0, 0, 0, 0, 0)), (123, 1, .iadd, (0, 0, 0, 0, 0, 0)), (124, 1, .iload_n 2, (0, 0, 0, 0, 0, 0)), (125, 1, .iastore, (0, 0, 0, 0, 0, 0)),
  (126, 1, .aload_n 0, (0, 0, 0, 0, 0, 0)), (127, 3, .getfield 47, (6, 21, 2, 0, 0, 0)), (130, 1, .iconst 4, (0, 0, 0, 0, 0, 0)), (131, 1, .aload_n 0, (0, 0, 0, 0, 0, 0)), (132, 3, .getfield 125, (6, 22, 0, 0, 0, 0)), (135, 1, .imul, (0, 0, 0, 0, 0, 0)),
  (136, 1, .iconst 2, (0, 0, 0, 0, 0, 0)), (137, 1, .iadd, (0, 0, 0, 0, 0, 0)), (138, 1, .iload_n 3, (0, 0, 0, 0, 0, 0)), (139, 1, .iastore, (0, 0, 0, 0, 0, 0)), (140, 1, .aload_n 0, (0, 0, 0, 0, 0, 0)), (141, 3, .getfield 47, (6, 21, 2, 0, 0, 0)),
  (144, 1, .iconst 4, (0, 0, 0, 0, 0, 0)), (145, 1, .aload_n 0, (0, 0, 0, 0, 0, 0)), (146, 3, .getfield 125, (6, 22, 0, 0, 0, 0)), (149, 1, .imul, (0, 0, 0, 0, 0, 0)), (150, 1, .iconst 3, (0, 0, 0, 0, 0, 0)), (151, 1, .iadd, (0, 0, 0, 0, 0, 0)),
  (152, 2, .iload 4, (0, 0, 0, 0, 0, 0)), (154, 1, .iastore, (0, 0, 0, 0, 0, 0)), (155, 1, .aload_n 0, (0, 0, 0, 0, 0, 0)), (156, 1, .dup, (0, 0, 0, 0, 0, 0)), (157, 3, .getfield 125, (6, 22, 0, 0, 0, 0)), (160, 1, .iconst 1, (0, 0, 0, 0, 0, 0)),
  (161, 1, .iadd, (0, 0, 0, 0, 0, 0)), (162, 3, .putfield 125, (6, 22, 0, 0, 0, 0)), (165, 1, .iconst 1, (0, 0, 0, 0, 0, 0)), (166, 1, .ireturn, (1, 0, 0, 0, 0, 0))]
def z_X6_faultOf : List zI := [
  (0, 1, .aload_n 0, (0, 0, 0, 0, 0, 0)), (1, 2, .bipush 60, (0, 0, 0, 0, 0, 0)), (3, 1, .iload_n 1, (0, 0, 0, 0, 0, 0)), (4, 1, .imul, (0, 0, 0, 0, 0, 0)), (5, 3, .putfield 100, (6, 16, 0, 0, 0, 0)), (8, 1, .aload_n 0, (0, 0, 0, 0, 0, 0)),
  (9, 1, .iconst 0, (0, 0, 0, 0, 0, 0)), (10, 3, .putfield 103, (6, 17, 0, 0, 0, 0)), (13, 1, .aload_n 0, (0, 0, 0, 0, 0, 0)), (14, 1, .aload_n 0, (0, 0, 0, 0, 0, 0)), (15, 3, .getfield 31, (6, 9, 2, 0, 0, 0)), (18, 1, .iload_n 1, (0, 0, 0, 0, 0, 0)),
  (19, 1, .iaload, (0, 0, 0, 0, 0, 0)), (20, 3, .putfield 106, (6, 18, 0, 0, 0, 0)), (23, 1, .aload_n 0, (0, 0, 0, 0, 0, 0)), (24, 1, .iconst 0, (0, 0, 0, 0, 0, 0)), (25, 3, .putfield 119, (6, 20, 0, 0, 0, 0)), (28, 1, .aload_n 0, (0, 0, 0, 0, 0, 0)),
  (29, 1, .iconst 0, (0, 0, 0, 0, 0, 0)), (30, 3, .putfield 125, (6, 22, 0, 0, 0, 0)), (33, 1, .aload_n 0, (0, 0, 0, 0, 0, 0)), (34, 3, .invokevirtual 131, (158, 0, 0, 1, 1, 6)), (37, 1, .istore_n 2, (0, 0, 0, 0, 0, 0)), (38, 1, .iload_n 2, (0, 0, 0, 0, 0, 0)),
  (39, 3, .ifCond .eq 7, (46, 0, 0, 0, 0, 0)), (42, 1, .aload_n 0, (0, 0, 0, 0, 0, 0)), (43, 3, .invokevirtual 113, (154, 0, 0, 0, 1, 6)), (46, 1, .iload_n 2, (0, 0, 0, 0, 0, 0)), (47, 3, .ifCond .eq 30, (77, 0, 0, 0, 0, 0)), (50, 1, .aload_n 0, (0, 0, 0, 0, 0, 0)),
  (51, 3, .getfield 103, (6, 17, 0, 0, 0, 0)), (54, 1, .aload_n 0, (0, 0, 0, 0, 0, 0)), (55, 3, .getfield 106, (6, 18, 0, 0, 0, 0)), (58, 3, .if_icmp .ge 19, (77, 0, 0, 0, 0, 0)), (61, 1, .aload_n 0, (0, 0, 0, 0, 0, 0)), (62, 3, .invokevirtual 135, (159, 0, 0, 1, 5, 6)),
  (65, 1, .istore_n 2, (0, 0, 0, 0, 0, 0)), (66, 1, .iload_n 2, (0, 0, 0, 0, 0, 0)), (67, 3, .ifCond .eq (-21), (46, 0, 0, 0, 0, 0)), (70, 1, .aload_n 0, (0, 0, 0, 0, 0, 0)), (71, 3, .invokevirtual 113, (154, 0, 0, 0, 1, 6)), (74, 3, .goto (-28), (46, 0, 0, 0, 0, 0)),
  (77, 1, .iload_n 2, (0, 0, 0, 0, 0, 0)), (78, 3, .ifCond .eq 15, (93, 0, 0, 0, 0, 0)), (81, 1, .aload_n 0, (0, 0, 0, 0, 0, 0)), (82, 3, .getfield 125, (6, 22, 0, 0, 0, 0)), (85, 3, .ifCond .le 8, (93, 0, 0, 0, 0, 0)), (88, 2, .bipush (-9), (0, 0, 0, 0, 0, 0)),
  (90, 3, .goto 7, (97, 0, 0, 0, 0, 0)), (93, 1, .aload_n 0, (0, 0, 0, 0, 0, 0)), (94, 3, .getfield 103, (6, 17, 0, 0, 0, 0)), (97, 1, .ireturn, (0, 0, 0, 0, 0, 0))]
def z_X6_fault : List zI := [
  (0, 1, .iload_n 1, (0, 0, 0, 0, 0, 0)), (1, 3, .invokestatic 97, (141, 2, 1, 1, 1, 0)), (4, 3, .ifCond .ne 5, (9, 0, 0, 0, 0, 0)), (7, 1, .iconst (-1), (0, 0, 0, 0, 0, 0)), (8, 1, .ireturn, (0, 0, 0, 0, 0, 0)), (9, 1, .aload_n 0, (0, 0, 0, 0, 0, 0)),
  (10, 3, .getfield 31, (6, 9, 2, 0, 0, 0)), (13, 1, .iload_n 1, (0, 0, 0, 0, 0, 0)), (14, 1, .iaload, (0, 0, 0, 0, 0, 0)), (15, 3, .ifCond .ge 11, (26, 0, 0, 0, 0, 0)), (18, 1, .aload_n 0, (0, 0, 0, 0, 0, 0)), (19, 1, .iconst 1, (0, 0, 0, 0, 0, 0)),
  (20, 3, .invokevirtual 78, (138, 0, 1, 1, 2, 6)), (23, 3, .goto 8, (31, 0, 0, 0, 0, 0)), (26, 1, .aload_n 0, (0, 0, 0, 0, 0, 0)), (27, 1, .iload_n 1, (0, 0, 0, 0, 0, 0)), (28, 3, .invokevirtual 138, (160, 0, 1, 1, 3, 6)), (31, 1, .ireturn, (0, 0, 0, 0, 0, 0))]
def z_X6_deck_0 : List zI := [
  (0, 1, .iload_n 1, (0, 0, 0, 0, 0, 0)), (1, 3, .invokestatic 97, (141, 2, 1, 1, 1, 0)), (4, 3, .ifCond .ne 5, (9, 0, 0, 0, 0, 0)), (7, 1, .iconst (-1), (0, 0, 0, 0, 0, 0)), (8, 1, .ireturn, (0, 0, 0, 0, 0, 0)), (9, 1, .aload_n 0, (0, 0, 0, 0, 0, 0)),
  (10, 3, .getfield 31, (6, 9, 2, 0, 0, 0)), (13, 1, .iload_n 1, (0, 0, 0, 0, 0, 0)), (14, 1, .iaload, (0, 0, 0, 0, 0, 0)), (15, 3, .ifCond .ge 9, (24, 0, 0, 0, 0, 0)), (18, 1, .aload_n 0, (0, 0, 0, 0, 0, 0)), (19, 1, .iconst 1, (0, 0, 0, 0, 0, 0)),
  (20, 3, .invokevirtual 78, (138, 0, 1, 1, 2, 6)), (23, 1, .ireturn, (0, 0, 0, 0, 0, 0)), (24, 1, .aload_n 0, (0, 0, 0, 0, 0, 0)), (25, 1, .iload_n 1, (0, 0, 0, 0, 0, 0)), (26, 3, .invokevirtual 138, (160, 0, 1, 1, 3, 6)), (29, 2, .bipush (-9), (0, 0, 0, 0, 0, 0)),
  (31, 3, .if_icmp .eq 6, (37, 0, 0, 0, 0, 0)), (34, 2, .bipush (-4), (0, 0, 0, 0, 0, 0)), (36, 1, .ireturn, (0, 0, 0, 0, 0, 0)), (37, 1, .aload_n 0, (0, 0, 0, 0, 0, 0)), (38, 1, .aload_n 0, (0, 0, 0, 0, 0, 0)), (39, 3, .getfield 119, (6, 20, 0, 0, 0, 0)),
  (42, 3, .putfield 141, (6, 1, 0, 0, 0, 0)), (45, 1, .aload_n 0, (0, 0, 0, 0, 0, 0)), (46, 1, .aload_n 0, (0, 0, 0, 0, 0, 0)), (47, 3, .getfield 125, (6, 22, 0, 0, 0, 0)), (50, 3, .putfield 144, (6, 3, 0, 0, 0, 0)), (53, 1, .iconst 0, (0, 0, 0, 0, 0, 0)),
  (54, 1, .istore_n 2, (0, 0, 0, 0, 0, 0)), (55, 1, .iload_n 2, (0, 0, 0, 0, 0, 0)), (56, 1, .aload_n 0, (0, 0, 0, 0, 0, 0)), (57, 3, .getfield 141, (6, 1, 0, 0, 0, 0)), (60, 3, .if_icmp .ge 21, (81, 0, 0, 0, 0, 0)), (63, 1, .aload_n 0, (0, 0, 0, 0, 0, 0)),
  (64, 3, .getfield 13, (6, 2, 2, 0, 0, 0)), (67, 1, .iload_n 2, (0, 0, 0, 0, 0, 0)), (68, 1, .aload_n 0, (0, 0, 0, 0, 0, 0)), (69, 3, .getfield 44, (6, 19, 2, 0, 0, 0)), (72, 1, .iload_n 2, (0, 0, 0, 0, 0, 0)), (73, 1, .iaload, (0, 0, 0, 0, 0, 0)),
  (74, 1, .iastore, (0, 0, 0, 0, 0, 0)), (75, 3, .iinc 2 1, (0, 0, 0, 0, 0, 0)), (78, 3, .goto (-23), (55, 0, 0, 0, 0, 0)), (81, 1, .iconst 0, (0, 0, 0, 0, 0, 0)), (82, 1, .istore_n 2, (0, 0, 0, 0, 0, 0)), (83, 1, .iload_n 2, (0, 0, 0, 0, 0, 0))]
def z_X6_deck_1 : List zI := [
  (84, 3, .sipush 1099, (0, 0, 0, 0, 0, 0)), (87, 3, .if_icmp .ge 16, (103, 0, 0, 0, 0, 0)), (90, 1, .aload_n 0, (0, 0, 0, 0, 0, 0)), (91, 3, .getfield 7, (6, 0, 2, 0, 0, 0)), (94, 1, .iload_n 2, (0, 0, 0, 0, 0, 0)), (95, 1, .iconst 0, (0, 0, 0, 0, 0, 0)),
  (96, 1, .iastore, (0, 0, 0, 0, 0, 0)), (97, 3, .iinc 2 1, (0, 0, 0, 0, 0, 0)), (100, 3, .goto (-17), (83, 0, 0, 0, 0, 0)), (103, 1, .iconst 0, (0, 0, 0, 0, 0, 0)), (104, 1, .istore_n 2, (0, 0, 0, 0, 0, 0)), (105, 1, .iload_n 2, (0, 0, 0, 0, 0, 0)),
  (106, 2, .bipush 6, (0, 0, 0, 0, 0, 0)), (108, 3, .if_icmp .ge 138, (246, 0, 0, 0, 0, 0)), (111, 1, .iload_n 2, (0, 0, 0, 0, 0, 0)), (112, 1, .aload_n 0, (0, 0, 0, 0, 0, 0)), (113, 3, .getfield 144, (6, 3, 0, 0, 0, 0)), (116, 3, .if_icmp .ge 7, (123, 0, 0, 0, 0, 0)),
  (119, 1, .iconst 1, (0, 0, 0, 0, 0, 0)), (120, 3, .goto 4, (124, 0, 0, 0, 0, 0)), (123, 1, .iconst 0, (0, 0, 0, 0, 0, 0)), (124, 1, .istore_n 3, (0, 0, 0, 0, 0, 0)), (125, 1, .aload_n 0, (0, 0, 0, 0, 0, 0)), (126, 3, .getfield 16, (6, 4, 2, 0, 0, 0)),
  (129, 1, .iload_n 2, (0, 0, 0, 0, 0, 0)), (130, 1, .iload_n 3, (0, 0, 0, 0, 0, 0)), (131, 3, .ifCond .eq 14, (145, 0, 0, 0, 0, 0)), (134, 1, .aload_n 0, (0, 0, 0, 0, 0, 0)), (135, 3, .getfield 47, (6, 21, 2, 0, 0, 0)), (138, 1, .iconst 4, (0, 0, 0, 0, 0, 0)),
  (139, 1, .iload_n 2, (0, 0, 0, 0, 0, 0)), (140, 1, .imul, (0, 0, 0, 0, 0, 0)), (141, 1, .iaload, (0, 0, 0, 0, 0, 0)), (142, 3, .goto 4, (146, 0, 0, 0, 0, 0)), (145, 1, .iconst 0, (0, 0, 0, 0, 0, 0)), (146, 1, .iastore, (0, 0, 0, 0, 0, 0)),
  (147, 1, .aload_n 0, (0, 0, 0, 0, 0, 0)), (148, 3, .getfield 19, (6, 5, 2, 0, 0, 0)), (151, 1, .iload_n 2, (0, 0, 0, 0, 0, 0)), (152, 1, .iload_n 3, (0, 0, 0, 0, 0, 0)), (153, 3, .ifCond .eq 16, (169, 0, 0, 0, 0, 0)), (156, 1, .aload_n 0, (0, 0, 0, 0, 0, 0)),
  (157, 3, .getfield 47, (6, 21, 2, 0, 0, 0)), (160, 1, .iconst 4, (0, 0, 0, 0, 0, 0)), (161, 1, .iload_n 2, (0, 0, 0, 0, 0, 0)), (162, 1, .imul, (0, 0, 0, 0, 0, 0)), (163, 1, .iconst 2, (0, 0, 0, 0, 0, 0)), (164, 1, .iadd, (0, 0, 0, 0, 0, 0))]
def z_X6_deck_2 : List zI := [
  (165, 1, .iaload, (0, 0, 0, 0, 0, 0)), (166, 3, .goto 4, (170, 0, 0, 0, 0, 0)), (169, 1, .iconst 0, (0, 0, 0, 0, 0, 0)), (170, 1, .iastore, (0, 0, 0, 0, 0, 0)), (171, 1, .aload_n 0, (0, 0, 0, 0, 0, 0)), (172, 3, .getfield 22, (6, 6, 2, 0, 0, 0)),
  (175, 1, .iload_n 2, (0, 0, 0, 0, 0, 0)), (176, 1, .iload_n 3, (0, 0, 0, 0, 0, 0)), (177, 3, .ifCond .eq 16, (193, 0, 0, 0, 0, 0)), (180, 1, .aload_n 0, (0, 0, 0, 0, 0, 0)), (181, 3, .getfield 47, (6, 21, 2, 0, 0, 0)), (184, 1, .iconst 4, (0, 0, 0, 0, 0, 0)),
  (185, 1, .iload_n 2, (0, 0, 0, 0, 0, 0)), (186, 1, .imul, (0, 0, 0, 0, 0, 0)), (187, 1, .iconst 3, (0, 0, 0, 0, 0, 0)), (188, 1, .iadd, (0, 0, 0, 0, 0, 0)), (189, 1, .iaload, (0, 0, 0, 0, 0, 0)), (190, 3, .goto 4, (194, 0, 0, 0, 0, 0)),
  (193, 1, .iconst 0, (0, 0, 0, 0, 0, 0)), (194, 1, .iastore, (0, 0, 0, 0, 0, 0)), (195, 1, .aload_n 0, (0, 0, 0, 0, 0, 0)), (196, 3, .getfield 7, (6, 0, 2, 0, 0, 0)), (199, 2, .bipush 7, (0, 0, 0, 0, 0, 0)), (201, 1, .iload_n 2, (0, 0, 0, 0, 0, 0)),
  (202, 1, .iadd, (0, 0, 0, 0, 0, 0)), (203, 1, .iload_n 3, (0, 0, 0, 0, 0, 0)), (204, 3, .ifCond .eq 16, (220, 0, 0, 0, 0, 0)), (207, 1, .aload_n 0, (0, 0, 0, 0, 0, 0)), (208, 3, .getfield 47, (6, 21, 2, 0, 0, 0)), (211, 1, .iconst 4, (0, 0, 0, 0, 0, 0)),
  (212, 1, .iload_n 2, (0, 0, 0, 0, 0, 0)), (213, 1, .imul, (0, 0, 0, 0, 0, 0)), (214, 1, .iconst 1, (0, 0, 0, 0, 0, 0)), (215, 1, .iadd, (0, 0, 0, 0, 0, 0)), (216, 1, .iaload, (0, 0, 0, 0, 0, 0)), (217, 3, .goto 4, (221, 0, 0, 0, 0, 0)),
  (220, 1, .iconst 0, (0, 0, 0, 0, 0, 0)), (221, 1, .iastore, (0, 0, 0, 0, 0, 0)), (222, 1, .aload_n 0, (0, 0, 0, 0, 0, 0)), (223, 3, .getfield 7, (6, 0, 2, 0, 0, 0)), (226, 1, .iconst 1, (0, 0, 0, 0, 0, 0)), (227, 1, .iload_n 2, (0, 0, 0, 0, 0, 0)),
  (228, 1, .iadd, (0, 0, 0, 0, 0, 0)), (229, 1, .iload_n 3, (0, 0, 0, 0, 0, 0)), (230, 3, .ifCond .eq 7, (237, 0, 0, 0, 0, 0)), (233, 1, .iload_n 2, (0, 0, 0, 0, 0, 0)), (234, 3, .goto 5, (239, 0, 0, 0, 0, 0)), (237, 2, .bipush (-9), (0, 0, 0, 0, 0, 0))]
def z_X6_deck_3 : List zI := [
  (239, 1, .iastore, (0, 0, 0, 0, 0, 0)), (240, 3, .iinc 2 1, (0, 0, 0, 0, 0, 0)), (243, 3, .goto (-138), (105, 8, 0, 0, 0, 0)), (246, 1, .iconst 1, (0, 0, 0, 0, 0, 0)), (247, 1, .istore_n 2, (0, 0, 0, 0, 0, 0)), (248, 1, .iload_n 2, (0, 0, 0, 0, 0, 0)),
  (249, 1, .iconst 4, (0, 0, 0, 0, 0, 0)), (250, 3, .if_icmp .ge 22, (272, 0, 0, 0, 0, 0)), (253, 1, .aload_n 0, (0, 0, 0, 0, 0, 0)), (254, 3, .getfield 7, (6, 0, 2, 0, 0, 0)), (257, 3, .sipush 1099, (0, 0, 0, 0, 0, 0)), (260, 1, .iload_n 2, (0, 0, 0, 0, 0, 0)),
  (261, 1, .imul, (0, 0, 0, 0, 0, 0)), (262, 1, .iconst 0, (0, 0, 0, 0, 0, 0)), (263, 1, .iadd, (0, 0, 0, 0, 0, 0)), (264, 1, .iconst (-1), (0, 0, 0, 0, 0, 0)), (265, 1, .iastore, (0, 0, 0, 0, 0, 0)), (266, 3, .iinc 2 1, (0, 0, 0, 0, 0, 0)),
  (269, 3, .goto (-21), (248, 0, 0, 0, 0, 0)), (272, 1, .aload_n 0, (0, 0, 0, 0, 0, 0)), (273, 3, .getfield 144, (6, 3, 0, 0, 0, 0)), (276, 1, .ireturn, (0, 0, 0, 0, 0, 0))]
def z_X6_deck : List zI := z_X6_deck_0 ++ (z_X6_deck_1 ++ (z_X6_deck_2 ++ (z_X6_deck_3)))
def z_X6_layNow : List zI := [
  (0, 1, .iconst 0, (0, 0, 0, 0, 0, 0)), (1, 1, .istore_n 1, (0, 0, 0, 0, 0, 0)), (2, 1, .iload_n 1, (0, 0, 0, 0, 0, 0)), (3, 2, .bipush 6, (0, 0, 0, 0, 0, 0)), (5, 3, .if_icmp .ge 38, (43, 0, 0, 0, 0, 0)), (8, 1, .aload_n 0, (0, 0, 0, 0, 0, 0)),
  (9, 3, .getfield 50, (6, 23, 2, 0, 0, 0)), (12, 1, .iload_n 1, (0, 0, 0, 0, 0, 0)), (13, 1, .aload_n 0, (0, 0, 0, 0, 0, 0)), (14, 3, .getfield 7, (6, 0, 2, 0, 0, 0)), (17, 1, .iconst 1, (0, 0, 0, 0, 0, 0)), (18, 1, .iload_n 1, (0, 0, 0, 0, 0, 0)),
  (19, 1, .iadd, (0, 0, 0, 0, 0, 0)), (20, 1, .iaload, (0, 0, 0, 0, 0, 0)), (21, 1, .iastore, (0, 0, 0, 0, 0, 0)), (22, 1, .aload_n 0, (0, 0, 0, 0, 0, 0)), (23, 3, .getfield 53, (6, 24, 2, 0, 0, 0)), (26, 1, .iload_n 1, (0, 0, 0, 0, 0, 0)),
  (27, 1, .aload_n 0, (0, 0, 0, 0, 0, 0)), (28, 3, .getfield 7, (6, 0, 2, 0, 0, 0)), (31, 2, .bipush 7, (0, 0, 0, 0, 0, 0)), (33, 1, .iload_n 1, (0, 0, 0, 0, 0, 0)), (34, 1, .iadd, (0, 0, 0, 0, 0, 0)), (35, 1, .iaload, (0, 0, 0, 0, 0, 0)),
  (36, 1, .iastore, (0, 0, 0, 0, 0, 0)), (37, 3, .iinc 1 1, (0, 0, 0, 0, 0, 0)), (40, 3, .goto (-38), (2, 0, 0, 0, 0, 0)), (43, 1, .return_, (0, 0, 0, 0, 0, 0))]
def z_X6_isMan : List zI := [
  (0, 1, .iload_n 1, (0, 0, 0, 0, 0, 0)), (1, 1, .i2l, (0, 0, 0, 0, 0, 0)), (2, 1, .lconst 0, (0, 0, 0, 0, 0, 0)), (3, 1, .aload_n 0, (0, 0, 0, 0, 0, 0)), (4, 3, .getfield 144, (6, 3, 0, 0, 0, 0)), (7, 1, .iconst 1, (0, 0, 0, 0, 0, 0)),
  (8, 1, .isub, (0, 0, 0, 0, 0, 0)), (9, 1, .i2l, (0, 0, 0, 0, 0, 0)), (10, 3, .invokestatic 68, (137, 2, 3, 1, 6, 0)), (13, 1, .ireturn, (1, 0, 0, 0, 0, 0))]
def z_X6_isHook : List zI := [
  (0, 1, .iload_n 1, (0, 0, 0, 0, 0, 0)), (1, 1, .i2l, (0, 0, 0, 0, 0, 0)), (2, 1, .lconst 0, (0, 0, 0, 0, 0, 0)), (3, 1, .aload_n 0, (0, 0, 0, 0, 0, 0)), (4, 3, .getfield 141, (6, 1, 0, 0, 0, 0)), (7, 1, .iconst 1, (0, 0, 0, 0, 0, 0)),
  (8, 1, .isub, (0, 0, 0, 0, 0, 0)), (9, 1, .i2l, (0, 0, 0, 0, 0, 0)), (10, 3, .invokestatic 68, (137, 2, 3, 1, 6, 0)), (13, 1, .ireturn, (1, 0, 0, 0, 0, 0))]
def z_X6_isWhen : List zI := [
  (0, 1, .iload_n 0, (0, 0, 0, 0, 0, 0)), (1, 1, .i2l, (0, 0, 0, 0, 0, 0)), (2, 1, .lconst 0, (0, 0, 0, 0, 0, 0)), (3, 3, .ldc2_w 147, (0, 0, 0, 0, 0, 2)), (6, 3, .invokestatic 68, (137, 2, 3, 1, 6, 0)), (9, 1, .ireturn, (1, 0, 0, 0, 0, 0))]
def z_X6_isIn : List zI := [
  (0, 1, .aload_n 0, (0, 0, 0, 0, 0, 0)), (1, 3, .getfield 50, (6, 23, 2, 0, 0, 0)), (4, 1, .iload_n 1, (0, 0, 0, 0, 0, 0)), (5, 1, .iaload, (0, 0, 0, 0, 0, 0)), (6, 2, .bipush (-9), (0, 0, 0, 0, 0, 0)), (8, 3, .if_icmp .eq 23, (31, 0, 0, 0, 0, 0)),
  (11, 1, .iload_n 2, (0, 0, 0, 0, 0, 0)), (12, 3, .ifCond .eq 15, (27, 0, 0, 0, 0, 0)), (15, 1, .aload_n 0, (0, 0, 0, 0, 0, 0)), (16, 3, .getfield 19, (6, 5, 2, 0, 0, 0)), (19, 1, .iload_n 1, (0, 0, 0, 0, 0, 0)), (20, 1, .iaload, (0, 0, 0, 0, 0, 0)),
  (21, 1, .iload_n 2, (0, 0, 0, 0, 0, 0)), (22, 1, .iconst 1, (0, 0, 0, 0, 0, 0)), (23, 1, .isub, (0, 0, 0, 0, 0, 0)), (24, 3, .if_icmp .eq 7, (31, 0, 0, 0, 0, 0)), (27, 1, .iconst 1, (0, 0, 0, 0, 0, 0)), (28, 3, .goto 4, (32, 0, 0, 0, 0, 0)),
  (31, 1, .iconst 0, (0, 0, 0, 0, 0, 0)), (32, 1, .ireturn, (1, 0, 0, 0, 0, 0))]
def z_X6_isBeside : List zI := [
  (0, 1, .aload_n 0, (0, 0, 0, 0, 0, 0)), (1, 3, .getfield 50, (6, 23, 2, 0, 0, 0)), (4, 1, .iload_n 1, (0, 0, 0, 0, 0, 0)), (5, 1, .iaload, (0, 0, 0, 0, 0, 0)), (6, 1, .aload_n 0, (0, 0, 0, 0, 0, 0)), (7, 3, .getfield 50, (6, 23, 2, 0, 0, 0)),
  (10, 1, .iload_n 2, (0, 0, 0, 0, 0, 0)), (11, 1, .iaload, (0, 0, 0, 0, 0, 0)), (12, 1, .isub, (0, 0, 0, 0, 0, 0)), (13, 2, .istore 4, (0, 0, 0, 0, 0, 0)), (15, 1, .aload_n 0, (0, 0, 0, 0, 0, 0)), (16, 3, .getfield 50, (6, 23, 2, 0, 0, 0)),
  (19, 1, .iload_n 2, (0, 0, 0, 0, 0, 0)), (20, 1, .iaload, (0, 0, 0, 0, 0, 0)), (21, 2, .bipush (-9), (0, 0, 0, 0, 0, 0)), (23, 3, .if_icmp .eq 28, (51, 0, 0, 0, 0, 0)), (26, 1, .aload_n 0, (0, 0, 0, 0, 0, 0)), (27, 1, .iload_n 1, (0, 0, 0, 0, 0, 0)),
  (28, 1, .iload_n 3, (0, 0, 0, 0, 0, 0)), (29, 3, .invokevirtual 149, (167, 0, 2, 1, 3, 6)), (32, 3, .ifCond .eq 19, (51, 0, 0, 0, 0, 0)), (35, 2, .iload 4, (0, 0, 0, 0, 0, 0)), (37, 1, .iconst 1, (0, 0, 0, 0, 0, 0)), (38, 3, .if_icmp .eq 9, (47, 0, 0, 0, 0, 0)),
  (41, 2, .iload 4, (0, 0, 0, 0, 0, 0)), (43, 1, .iconst (-1), (0, 0, 0, 0, 0, 0)), (44, 3, .if_icmp .ne 7, (51, 0, 0, 0, 0, 0)), (47, 1, .iconst 1, (0, 0, 0, 0, 0, 0)), (48, 3, .goto 4, (52, 0, 0, 0, 0, 0)), (51, 1, .iconst 0, (0, 0, 0, 0, 0, 0)),
  (52, 1, .ireturn, (1, 0, 0, 0, 0, 0))]
def z_X6_beside : List zI := [
  (0, 1, .iconst 0, (0, 0, 0, 0, 0, 0)), (1, 1, .istore_n 3, (0, 0, 0, 0, 0, 0)), (2, 1, .iconst 0, (0, 0, 0, 0, 0, 0)), (3, 2, .istore 4, (0, 0, 0, 0, 0, 0)), (5, 2, .iload 4, (0, 0, 0, 0, 0, 0)), (7, 1, .aload_n 0, (0, 0, 0, 0, 0, 0)),
  (8, 3, .getfield 144, (6, 3, 0, 0, 0, 0)), (11, 3, .if_icmp .ge 31, (42, 0, 0, 0, 0, 0)), (14, 1, .iload_n 3, (0, 0, 0, 0, 0, 0)), (15, 1, .aload_n 0, (0, 0, 0, 0, 0, 0)), (16, 2, .iload 4, (0, 0, 0, 0, 0, 0)), (18, 1, .iload_n 1, (0, 0, 0, 0, 0, 0)),
  (19, 1, .iload_n 2, (0, 0, 0, 0, 0, 0)), (20, 3, .invokevirtual 153, (168, 0, 3, 1, 5, 6)), (23, 3, .ifCond .eq 10, (33, 0, 0, 0, 0, 0)), (26, 1, .iconst 1, (0, 0, 0, 0, 0, 0)), (27, 2, .iload 4, (0, 0, 0, 0, 0, 0)), (29, 1, .ishl, (0, 0, 0, 0, 0, 0)),
  (30, 3, .goto 4, (34, 0, 0, 0, 0, 0)), (33, 1, .iconst 0, (0, 0, 0, 0, 0, 0)), (34, 1, .ior, (0, 0, 0, 0, 0, 0)), (35, 1, .istore_n 3, (0, 0, 0, 0, 0, 0)), (36, 3, .iinc 4 1, (0, 0, 0, 0, 0, 0)), (39, 3, .goto (-34), (5, 0, 0, 0, 0, 0)),
  (42, 1, .iload_n 3, (0, 0, 0, 0, 0, 0)), (43, 1, .ireturn, (0, 0, 0, 0, 0, 0))]
def z_X6_height : List zI := [
  (0, 1, .iload_n 0, (0, 0, 0, 0, 0, 0)), (1, 1, .iconst 4, (0, 0, 0, 0, 0, 0)), (2, 3, .if_icmp .ne 7, (9, 0, 0, 0, 0, 0)), (5, 1, .iconst 2, (0, 0, 0, 0, 0, 0)), (6, 3, .goto 13, (19, 0, 0, 0, 0, 0)), (9, 1, .iload_n 0, (0, 0, 0, 0, 0, 0)),
  (10, 1, .iconst 1, (0, 0, 0, 0, 0, 0)), (11, 3, .if_icmp .ne 7, (18, 0, 0, 0, 0, 0)), (14, 1, .iconst 1, (0, 0, 0, 0, 0, 0)), (15, 3, .goto 4, (19, 0, 0, 0, 0, 0)), (18, 1, .iconst 0, (0, 0, 0, 0, 0, 0)), (19, 1, .ireturn, (0, 0, 0, 0, 0, 0))]
def z_X6_wakes : List zI := [
  (0, 1, .aload_n 0, (0, 0, 0, 0, 0, 0)), (1, 3, .getfield 53, (6, 24, 2, 0, 0, 0)), (4, 1, .iload_n 1, (0, 0, 0, 0, 0, 0)), (5, 1, .iaload, (0, 0, 0, 0, 0, 0)), (6, 1, .aload_n 0, (0, 0, 0, 0, 0, 0)), (7, 3, .getfield 53, (6, 24, 2, 0, 0, 0)),
  (10, 1, .iload_n 2, (0, 0, 0, 0, 0, 0)), (11, 1, .iaload, (0, 0, 0, 0, 0, 0)), (12, 3, .if_icmp .le 19, (31, 0, 0, 0, 0, 0)), (15, 1, .aload_n 0, (0, 0, 0, 0, 0, 0)), (16, 3, .getfield 53, (6, 24, 2, 0, 0, 0)), (19, 1, .iload_n 1, (0, 0, 0, 0, 0, 0)),
  (20, 1, .iaload, (0, 0, 0, 0, 0, 0)), (21, 1, .aload_n 0, (0, 0, 0, 0, 0, 0)), (22, 3, .getfield 53, (6, 24, 2, 0, 0, 0)), (25, 1, .iload_n 2, (0, 0, 0, 0, 0, 0)), (26, 1, .iaload, (0, 0, 0, 0, 0, 0)), (27, 1, .isub, (0, 0, 0, 0, 0, 0)),
  (28, 3, .goto 16, (44, 0, 0, 0, 0, 0)), (31, 1, .aload_n 0, (0, 0, 0, 0, 0, 0)), (32, 3, .getfield 53, (6, 24, 2, 0, 0, 0)), (35, 1, .iload_n 2, (0, 0, 0, 0, 0, 0)), (36, 1, .iaload, (0, 0, 0, 0, 0, 0)), (37, 1, .aload_n 0, (0, 0, 0, 0, 0, 0)),
  (38, 3, .getfield 53, (6, 24, 2, 0, 0, 0)), (41, 1, .iload_n 1, (0, 0, 0, 0, 0, 0)), (42, 1, .iaload, (0, 0, 0, 0, 0, 0)), (43, 1, .isub, (0, 0, 0, 0, 0, 0)), (44, 1, .istore_n 3, (0, 0, 0, 0, 0, 0)), (45, 1, .iload_n 3, (0, 0, 0, 0, 0, 0)),
  (46, 1, .aload_n 0, (0, 0, 0, 0, 0, 0)), (47, 3, .getfield 16, (6, 4, 2, 0, 0, 0)), (50, 1, .iload_n 1, (0, 0, 0, 0, 0, 0)), (51, 1, .iaload, (0, 0, 0, 0, 0, 0)), (52, 3, .invokestatic 156, (170, 2, 1, 1, 1, 0)), (55, 1, .iadd, (0, 0, 0, 0, 0, 0)),
  (56, 1, .aload_n 0, (0, 0, 0, 0, 0, 0)), (57, 3, .getfield 16, (6, 4, 2, 0, 0, 0)), (60, 1, .iload_n 2, (0, 0, 0, 0, 0, 0)), (61, 1, .iaload, (0, 0, 0, 0, 0, 0)), (62, 3, .invokestatic 156, (170, 2, 1, 1, 1, 0)), (65, 1, .iadd, (0, 0, 0, 0, 0, 0)),
  (66, 1, .aload_n 0, (0, 0, 0, 0, 0, 0)), (67, 3, .getfield 16, (6, 4, 2, 0, 0, 0)), (70, 1, .iload_n 1, (0, 0, 0, 0, 0, 0)), (71, 1, .iaload, (0, 0, 0, 0, 0, 0)), (72, 1, .iconst 2, (0, 0, 0, 0, 0, 0)), (73, 3, .if_icmp .ne 17, (90, 0, 0, 0, 0, 0)),
  (76, 1, .aload_n 0, (0, 0, 0, 0, 0, 0)), (77, 3, .getfield 16, (6, 4, 2, 0, 0, 0)), (80, 1, .iload_n 2, (0, 0, 0, 0, 0, 0)), (81, 1, .iaload, (0, 0, 0, 0, 0, 0)), (82, 1, .iconst 3, (0, 0, 0, 0, 0, 0)), (83, 3, .if_icmp .eq 7, (90, 0, 0, 0, 0, 0)),
  (86, 1, .iconst 2, (0, 0, 0, 0, 0, 0)), (87, 3, .goto 4, (91, 0, 0, 0, 0, 0)), (90, 1, .iconst 0, (0, 0, 0, 0, 0, 0)), (91, 1, .iadd, (0, 0, 0, 0, 0, 0)), (92, 1, .ireturn, (0, 0, 0, 0, 0, 0))]
def z_X6_placeWorth : List zI := [
  (0, 1, .iload_n 0, (0, 0, 0, 0, 0, 0)), (1, 1, .iconst 1, (0, 0, 0, 0, 0, 0)), (2, 3, .if_icmp .ne 7, (9, 0, 0, 0, 0, 0)), (5, 1, .iconst 1, (0, 0, 0, 0, 0, 0)), (6, 3, .goto 31, (37, 0, 0, 0, 0, 0)), (9, 1, .iload_n 0, (0, 0, 0, 0, 0, 0)),
  (10, 1, .iconst 2, (0, 0, 0, 0, 0, 0)), (11, 3, .if_icmp .ne 7, (18, 0, 0, 0, 0, 0)), (14, 1, .iconst 3, (0, 0, 0, 0, 0, 0)), (15, 3, .goto 22, (37, 0, 0, 0, 0, 0)), (18, 1, .iload_n 0, (0, 0, 0, 0, 0, 0)), (19, 1, .iconst 3, (0, 0, 0, 0, 0, 0)),
  (20, 3, .if_icmp .ne 7, (27, 0, 0, 0, 0, 0)), (23, 1, .iconst 2, (0, 0, 0, 0, 0, 0)), (24, 3, .goto 13, (37, 0, 0, 0, 0, 0)), (27, 1, .iload_n 0, (0, 0, 0, 0, 0, 0)), (28, 1, .iconst 4, (0, 0, 0, 0, 0, 0)), (29, 3, .if_icmp .ne 7, (36, 0, 0, 0, 0, 0)),
  (32, 1, .iconst (-1), (0, 0, 0, 0, 0, 0)), (33, 3, .goto 4, (37, 0, 0, 0, 0, 0)), (36, 1, .iconst 0, (0, 0, 0, 0, 0, 0)), (37, 1, .ireturn, (0, 0, 0, 0, 0, 0))]
def z_X6_wokenBut : List zI := [
  (0, 1, .aload_n 0, (0, 0, 0, 0, 0, 0)), (1, 1, .iload_n 1, (0, 0, 0, 0, 0, 0)), (2, 1, .iload_n 2, (0, 0, 0, 0, 0, 0)), (3, 3, .invokevirtual 149, (167, 0, 2, 1, 3, 6)), (6, 3, .ifCond .ne 5, (11, 0, 0, 0, 0, 0)), (9, 1, .iconst 0, (0, 0, 0, 0, 0, 0)),
  (10, 1, .ireturn, (0, 0, 0, 0, 0, 0)), (11, 1, .aload_n 0, (0, 0, 0, 0, 0, 0)), (12, 3, .getfield 13, (6, 2, 2, 0, 0, 0)), (15, 1, .aload_n 0, (0, 0, 0, 0, 0, 0)), (16, 3, .getfield 50, (6, 23, 2, 0, 0, 0)), (19, 1, .iload_n 1, (0, 0, 0, 0, 0, 0)),
  (20, 1, .iaload, (0, 0, 0, 0, 0, 0)), (21, 1, .iaload, (0, 0, 0, 0, 0, 0)), (22, 3, .invokestatic 159, (172, 2, 1, 1, 1, 0)), (25, 2, .istore 4, (0, 0, 0, 0, 0, 0)), (27, 1, .iconst 0, (0, 0, 0, 0, 0, 0)), (28, 2, .istore 5, (0, 0, 0, 0, 0, 0)),
  (30, 2, .iload 5, (0, 0, 0, 0, 0, 0)), (32, 1, .aload_n 0, (0, 0, 0, 0, 0, 0)), (33, 3, .getfield 144, (6, 3, 0, 0, 0, 0)), (36, 3, .if_icmp .ge 42, (78, 0, 0, 0, 0, 0)), (39, 2, .iload 4, (0, 0, 0, 0, 0, 0)), (41, 2, .iload 5, (0, 0, 0, 0, 0, 0)),
  (43, 1, .iload_n 3, (0, 0, 0, 0, 0, 0)), (44, 3, .if_icmp .eq 24, (68, 0, 0, 0, 0, 0)), (47, 1, .aload_n 0, (0, 0, 0, 0, 0, 0)), (48, 2, .iload 5, (0, 0, 0, 0, 0, 0)), (50, 1, .iload_n 1, (0, 0, 0, 0, 0, 0)), (51, 1, .iload_n 2, (0, 0, 0, 0, 0, 0)),
  (52, 3, .invokevirtual 153, (168, 0, 3, 1, 5, 6)), (55, 3, .ifCond .eq 13, (68, 0, 0, 0, 0, 0)), (58, 1, .aload_n 0, (0, 0, 0, 0, 0, 0)), (59, 2, .iload 5, (0, 0, 0, 0, 0, 0)), (61, 1, .iload_n 1, (0, 0, 0, 0, 0, 0)), (62, 3, .invokevirtual 162, (171, 0, 2, 1, 4, 6)),
  (65, 3, .goto 4, (69, 0, 0, 0, 0, 0)), (68, 1, .iconst 0, (0, 0, 0, 0, 0, 0)), (69, 1, .iadd, (0, 0, 0, 0, 0, 0)), (70, 2, .istore 4, (0, 0, 0, 0, 0, 0)), (72, 3, .iinc 5 1, (0, 0, 0, 0, 0, 0)), (75, 3, .goto (-45), (30, 0, 0, 0, 0, 0)),
  (78, 2, .iload 4, (0, 0, 0, 0, 0, 0)), (80, 3, .ifCond .ge 7, (87, 0, 0, 0, 0, 0)), (83, 1, .iconst 0, (0, 0, 0, 0, 0, 0)), (84, 3, .goto 5, (89, 0, 0, 0, 0, 0)), (87, 2, .iload 4, (0, 0, 0, 0, 0, 0)), (89, 2, .istore 4, (0, 0, 0, 0, 0, 0)),
  (91, 1, .aload_n 0, (0, 0, 0, 0, 0, 0)), (92, 3, .getfield 16, (6, 4, 2, 0, 0, 0)), (95, 1, .iload_n 1, (0, 0, 0, 0, 0, 0)), (96, 1, .iaload, (0, 0, 0, 0, 0, 0)), (97, 1, .iconst 5, (0, 0, 0, 0, 0, 0)), (98, 3, .if_icmp .ne 10, (108, 0, 0, 0, 0, 0)),
  (101, 1, .iconst 2, (0, 0, 0, 0, 0, 0)), (102, 2, .iload 4, (0, 0, 0, 0, 0, 0)), (104, 1, .imul, (0, 0, 0, 0, 0, 0)), (105, 3, .goto 5, (110, 0, 0, 0, 0, 0)), (108, 2, .iload 4, (0, 0, 0, 0, 0, 0)), (110, 1, .ireturn, (0, 0, 0, 0, 0, 0))]
def z_X6_allWoken : List zI := [
  (0, 1, .iconst 0, (0, 0, 0, 0, 0, 0)), (1, 1, .istore_n 2, (0, 0, 0, 0, 0, 0)), (2, 1, .iconst 0, (0, 0, 0, 0, 0, 0)), (3, 1, .istore_n 3, (0, 0, 0, 0, 0, 0)), (4, 1, .iload_n 3, (0, 0, 0, 0, 0, 0)), (5, 1, .aload_n 0, (0, 0, 0, 0, 0, 0)),
  (6, 3, .getfield 144, (6, 3, 0, 0, 0, 0)), (9, 3, .if_icmp .ge 20, (29, 0, 0, 0, 0, 0)), (12, 1, .iload_n 2, (0, 0, 0, 0, 0, 0)), (13, 1, .aload_n 0, (0, 0, 0, 0, 0, 0)), (14, 1, .iload_n 3, (0, 0, 0, 0, 0, 0)), (15, 1, .iload_n 1, (0, 0, 0, 0, 0, 0)),
  (16, 2, .bipush (-9), (0, 0, 0, 0, 0, 0)), (18, 3, .invokevirtual 165, (173, 0, 3, 1, 6, 6)), (21, 1, .iadd, (0, 0, 0, 0, 0, 0)), (22, 1, .istore_n 2, (0, 0, 0, 0, 0, 0)), (23, 3, .iinc 3 1, (0, 0, 0, 0, 0, 0)), (26, 3, .goto (-22), (4, 0, 0, 0, 0, 0)),
  (29, 1, .iload_n 2, (0, 0, 0, 0, 0, 0)), (30, 1, .ireturn, (0, 0, 0, 0, 0, 0))]
def z_X6_mostWoken : List zI := [
  (0, 1, .iconst 0, (0, 0, 0, 0, 0, 0)), (1, 1, .istore_n 2, (0, 0, 0, 0, 0, 0)), (2, 1, .iconst 0, (0, 0, 0, 0, 0, 0)), (3, 1, .istore_n 3, (0, 0, 0, 0, 0, 0)), (4, 1, .iload_n 3, (0, 0, 0, 0, 0, 0)), (5, 1, .aload_n 0, (0, 0, 0, 0, 0, 0)),
  (6, 3, .getfield 144, (6, 3, 0, 0, 0, 0)), (9, 3, .if_icmp .ge 32, (41, 0, 0, 0, 0, 0)), (12, 1, .aload_n 0, (0, 0, 0, 0, 0, 0)), (13, 1, .iload_n 3, (0, 0, 0, 0, 0, 0)), (14, 1, .iload_n 1, (0, 0, 0, 0, 0, 0)), (15, 2, .bipush (-9), (0, 0, 0, 0, 0, 0)),
  (17, 3, .invokevirtual 165, (173, 0, 3, 1, 6, 6)), (20, 2, .istore 4, (0, 0, 0, 0, 0, 0)), (22, 2, .iload 4, (0, 0, 0, 0, 0, 0)), (24, 1, .iload_n 2, (0, 0, 0, 0, 0, 0)), (25, 3, .if_icmp .le 8, (33, 0, 0, 0, 0, 0)), (28, 2, .iload 4, (0, 0, 0, 0, 0, 0)),
  (30, 3, .goto 4, (34, 0, 0, 0, 0, 0)), (33, 1, .iload_n 2, (0, 0, 0, 0, 0, 0)), (34, 1, .istore_n 2, (0, 0, 0, 0, 0, 0)), (35, 3, .iinc 3 1, (0, 0, 0, 0, 0, 0)), (38, 3, .goto (-34), (4, 16, 0, 0, 0, 0)), (41, 1, .iload_n 2, (0, 0, 0, 0, 0, 0)),
  (42, 1, .ireturn, (0, 0, 0, 0, 0, 0))]
def z_X6_toldOf : List zI := [
  (0, 1, .iload_n 2, (0, 0, 0, 0, 0, 0)), (1, 35, .tableswitch 75 0 4 #[35, 42, 52, 59, 66], (0, 0, 0, 0, 0, 0)), (36, 1, .aload_n 0, (0, 0, 0, 0, 0, 0)), (37, 3, .getfield 16, (6, 4, 2, 0, 0, 0)), (40, 1, .iload_n 1, (0, 0, 0, 0, 0, 0)), (41, 1, .iaload, (0, 0, 0, 0, 0, 0)),
  (42, 1, .ireturn, (0, 0, 0, 0, 0, 0)), (43, 1, .aload_n 0, (0, 0, 0, 0, 0, 0)), (44, 3, .getfield 7, (6, 0, 2, 0, 0, 0)), (47, 2, .bipush 7, (0, 0, 0, 0, 0, 0)), (49, 1, .iload_n 1, (0, 0, 0, 0, 0, 0)), (50, 1, .iadd, (0, 0, 0, 0, 0, 0)),
  (51, 1, .iaload, (0, 0, 0, 0, 0, 0)), (52, 1, .ireturn, (0, 0, 0, 0, 0, 0)), (53, 1, .aload_n 0, (0, 0, 0, 0, 0, 0)), (54, 3, .getfield 19, (6, 5, 2, 0, 0, 0)), (57, 1, .iload_n 1, (0, 0, 0, 0, 0, 0)), (58, 1, .iaload, (0, 0, 0, 0, 0, 0)),
  (59, 1, .ireturn, (0, 0, 0, 0, 0, 0)), (60, 1, .aload_n 0, (0, 0, 0, 0, 0, 0)), (61, 3, .getfield 22, (6, 6, 2, 0, 0, 0)), (64, 1, .iload_n 1, (0, 0, 0, 0, 0, 0)), (65, 1, .iaload, (0, 0, 0, 0, 0, 0)), (66, 1, .ireturn, (0, 0, 0, 0, 0, 0)),
  (67, 1, .aload_n 0, (0, 0, 0, 0, 0, 0)), (68, 3, .getfield 7, (6, 0, 2, 0, 0, 0)), (71, 1, .iconst 1, (0, 0, 0, 0, 0, 0)), (72, 1, .iload_n 1, (0, 0, 0, 0, 0, 0)), (73, 1, .iadd, (0, 0, 0, 0, 0, 0)), (74, 1, .iaload, (0, 0, 0, 0, 0, 0)),
  (75, 1, .ireturn, (0, 0, 0, 0, 0, 0)), (76, 1, .aload_n 0, (0, 0, 0, 0, 0, 0)), (77, 3, .getfield 7, (6, 0, 2, 0, 0, 0)), (80, 2, .bipush 13, (0, 0, 0, 0, 0, 0)), (82, 1, .iload_n 1, (0, 0, 0, 0, 0, 0)), (83, 1, .iadd, (0, 0, 0, 0, 0, 0)),
  (84, 1, .iaload, (0, 0, 0, 0, 0, 0)), (85, 1, .ireturn, (0, 0, 0, 0, 0, 0))]
def z_X6_man : List zI := [
  (0, 1, .aload_n 0, (0, 0, 0, 0, 0, 0)), (1, 1, .iload_n 1, (0, 0, 0, 0, 0, 0)), (2, 3, .invokevirtual 169, (164, 0, 1, 1, 2, 6)), (5, 3, .ifCond .eq 28, (33, 0, 0, 0, 0, 0)), (8, 1, .iload_n 2, (0, 0, 0, 0, 0, 0)), (9, 1, .i2l, (0, 0, 0, 0, 0, 0)),
  (10, 1, .lconst 0, (0, 0, 0, 0, 0, 0)), (11, 3, .ldc2_w 66, (0, 0, 0, 0, 0, 5)), (14, 3, .invokestatic 68, (137, 2, 3, 1, 6, 0)), (17, 3, .ifCond .eq 16, (33, 0, 0, 0, 0, 0)), (20, 1, .aload_n 0, (0, 0, 0, 0, 0, 0)), (21, 1, .aload_n 0, (0, 0, 0, 0, 0, 0)),
  (22, 1, .iload_n 1, (0, 0, 0, 0, 0, 0)), (23, 1, .iload_n 2, (0, 0, 0, 0, 0, 0)), (24, 3, .invokevirtual 172, (176, 0, 2, 1, 3, 6)), (27, 3, .invokevirtual 90, (139, 0, 1, 1, 2, 6)), (30, 3, .goto 4, (34, 0, 0, 0, 0, 0)), (33, 1, .iconst (-1), (0, 0, 0, 0, 0, 0)),
  (34, 1, .ireturn, (0, 0, 0, 0, 0, 0))]
def z_X6_whoAt : List zI := [
  (0, 1, .iconst 0, (0, 0, 0, 0, 0, 0)), (1, 1, .istore_n 2, (0, 0, 0, 0, 0, 0)), (2, 1, .iload_n 2, (0, 0, 0, 0, 0, 0)), (3, 1, .aload_n 0, (0, 0, 0, 0, 0, 0)), (4, 3, .getfield 144, (6, 3, 0, 0, 0, 0)), (7, 3, .if_icmp .ge 23, (30, 0, 0, 0, 0, 0)),
  (10, 1, .aload_n 0, (0, 0, 0, 0, 0, 0)), (11, 3, .getfield 7, (6, 0, 2, 0, 0, 0)), (14, 1, .iconst 1, (0, 0, 0, 0, 0, 0)), (15, 1, .iload_n 2, (0, 0, 0, 0, 0, 0)), (16, 1, .iadd, (0, 0, 0, 0, 0, 0)), (17, 1, .iaload, (0, 0, 0, 0, 0, 0)),
  (18, 1, .iload_n 1, (0, 0, 0, 0, 0, 0)), (19, 3, .if_icmp .ne 5, (24, 0, 0, 0, 0, 0)), (22, 1, .iload_n 2, (0, 0, 0, 0, 0, 0)), (23, 1, .ireturn, (0, 0, 0, 0, 0, 0)), (24, 3, .iinc 2 1, (0, 0, 0, 0, 0, 0)), (27, 3, .goto (-25), (2, 0, 0, 0, 0, 0)),
  (30, 2, .bipush (-9), (0, 0, 0, 0, 0, 0)), (32, 1, .ireturn, (0, 0, 0, 0, 0, 0))]
def z_X6_hook : List zI := [
  (0, 1, .aload_n 0, (0, 0, 0, 0, 0, 0)), (1, 1, .iload_n 1, (0, 0, 0, 0, 0, 0)), (2, 3, .invokevirtual 175, (165, 0, 1, 1, 2, 6)), (5, 3, .ifCond .eq 38, (43, 0, 0, 0, 0, 0)), (8, 1, .iload_n 2, (0, 0, 0, 0, 0, 0)), (9, 1, .i2l, (0, 0, 0, 0, 0, 0)),
  (10, 1, .lconst 0, (0, 0, 0, 0, 0, 0)), (11, 1, .lconst 1, (0, 0, 0, 0, 0, 0)), (12, 3, .invokestatic 68, (137, 2, 3, 1, 6, 0)), (15, 3, .ifCond .eq 28, (43, 0, 0, 0, 0, 0)), (18, 1, .aload_n 0, (0, 0, 0, 0, 0, 0)), (19, 1, .iload_n 2, (0, 0, 0, 0, 0, 0)),
  (20, 3, .ifCond .ne 12, (32, 0, 0, 0, 0, 0)), (23, 1, .aload_n 0, (0, 0, 0, 0, 0, 0)), (24, 3, .getfield 13, (6, 2, 2, 0, 0, 0)), (27, 1, .iload_n 1, (0, 0, 0, 0, 0, 0)), (28, 1, .iaload, (0, 0, 0, 0, 0, 0)), (29, 3, .goto 8, (37, 0, 0, 0, 0, 0)),
  (32, 1, .aload_n 0, (0, 0, 0, 0, 0, 0)), (33, 1, .iload_n 1, (0, 0, 0, 0, 0, 0)), (34, 3, .invokevirtual 178, (178, 0, 1, 1, 3, 6)), (37, 3, .invokevirtual 90, (139, 0, 1, 1, 2, 6)), (40, 3, .goto 4, (44, 0, 0, 0, 0, 0)), (43, 1, .iconst (-1), (0, 0, 0, 0, 0, 0)),
  (44, 1, .ireturn, (0, 0, 0, 0, 0, 0))]
def z_X6_bits : List zI := [
  (0, 1, .iconst 0, (0, 0, 0, 0, 0, 0)), (1, 1, .istore_n 1, (0, 0, 0, 0, 0, 0)), (2, 1, .iconst 0, (0, 0, 0, 0, 0, 0)), (3, 1, .istore_n 2, (0, 0, 0, 0, 0, 0)), (4, 1, .iload_n 2, (0, 0, 0, 0, 0, 0)), (5, 2, .bipush 6, (0, 0, 0, 0, 0, 0)),
  (7, 3, .if_icmp .ge 17, (24, 0, 0, 0, 0, 0)), (10, 1, .iload_n 1, (0, 0, 0, 0, 0, 0)), (11, 1, .iload_n 0, (0, 0, 0, 0, 0, 0)), (12, 1, .iload_n 2, (0, 0, 0, 0, 0, 0)), (13, 1, .ishr, (0, 0, 0, 0, 0, 0)), (14, 1, .iconst 1, (0, 0, 0, 0, 0, 0)),
  (15, 1, .iand, (0, 0, 0, 0, 0, 0)), (16, 1, .iadd, (0, 0, 0, 0, 0, 0)), (17, 1, .istore_n 1, (0, 0, 0, 0, 0, 0)), (18, 3, .iinc 2 1, (0, 0, 0, 0, 0, 0)), (21, 3, .goto (-17), (4, 0, 0, 0, 0, 0)), (24, 1, .iload_n 1, (0, 0, 0, 0, 0, 0)),
  (25, 1, .ireturn, (0, 0, 0, 0, 0, 0))]
def z_X6_isOf : List zI := [
  (0, 1, .aload_n 0, (0, 0, 0, 0, 0, 0)), (1, 3, .getfield 16, (6, 4, 2, 0, 0, 0)), (4, 1, .iload_n 1, (0, 0, 0, 0, 0, 0)), (5, 1, .iaload, (0, 0, 0, 0, 0, 0)), (6, 1, .iload_n 2, (0, 0, 0, 0, 0, 0)), (7, 3, .if_icmp .eq 18, (25, 0, 0, 0, 0, 0)),
  (10, 1, .iload_n 2, (0, 0, 0, 0, 0, 0)), (11, 1, .iconst 1, (0, 0, 0, 0, 0, 0)), (12, 3, .if_icmp .ne 17, (29, 0, 0, 0, 0, 0)), (15, 1, .aload_n 0, (0, 0, 0, 0, 0, 0)), (16, 3, .getfield 16, (6, 4, 2, 0, 0, 0)), (19, 1, .iload_n 1, (0, 0, 0, 0, 0, 0)),
  (20, 1, .iaload, (0, 0, 0, 0, 0, 0)), (21, 1, .iconst 4, (0, 0, 0, 0, 0, 0)), (22, 3, .if_icmp .ne 7, (29, 0, 0, 0, 0, 0)), (25, 1, .iconst 1, (0, 0, 0, 0, 0, 0)), (26, 3, .goto 4, (30, 0, 0, 0, 0, 0)), (29, 1, .iconst 0, (0, 0, 0, 0, 0, 0)),
  (30, 1, .ireturn, (1, 0, 0, 0, 0, 0))]
def z_X6_besideOf : List zI := [
  (0, 1, .iconst 0, (0, 0, 0, 0, 0, 0)), (1, 2, .istore 4, (0, 0, 0, 0, 0, 0)), (3, 1, .iconst 0, (0, 0, 0, 0, 0, 0)), (4, 2, .istore 5, (0, 0, 0, 0, 0, 0)), (6, 2, .iload 5, (0, 0, 0, 0, 0, 0)), (8, 1, .aload_n 0, (0, 0, 0, 0, 0, 0)),
  (9, 3, .getfield 144, (6, 3, 0, 0, 0, 0)), (12, 3, .if_icmp .ge 50, (62, 0, 0, 0, 0, 0)), (15, 2, .iload 4, (0, 0, 0, 0, 0, 0)), (17, 1, .aload_n 0, (0, 0, 0, 0, 0, 0)), (18, 2, .iload 5, (0, 0, 0, 0, 0, 0)), (20, 1, .iload_n 1, (0, 0, 0, 0, 0, 0)),
  (21, 1, .iconst 0, (0, 0, 0, 0, 0, 0)), (22, 3, .invokevirtual 153, (168, 0, 3, 1, 5, 6)), (25, 3, .ifCond .eq 27, (52, 0, 0, 0, 0, 0)), (28, 1, .aload_n 0, (0, 0, 0, 0, 0, 0)), (29, 3, .getfield 16, (6, 4, 2, 0, 0, 0)), (32, 2, .iload 5, (0, 0, 0, 0, 0, 0)),
  (34, 1, .iaload, (0, 0, 0, 0, 0, 0)), (35, 1, .iload_n 2, (0, 0, 0, 0, 0, 0)), (36, 3, .if_icmp .ne 7, (43, 0, 0, 0, 0, 0)), (39, 1, .iconst 1, (0, 0, 0, 0, 0, 0)), (40, 3, .goto 4, (44, 0, 0, 0, 0, 0)), (43, 1, .iconst 0, (0, 0, 0, 0, 0, 0)),
  (44, 1, .iload_n 3, (0, 0, 0, 0, 0, 0)), (45, 3, .if_icmp .ne 7, (52, 0, 0, 0, 0, 0)), (48, 1, .iconst 1, (0, 0, 0, 0, 0, 0)), (49, 3, .goto 4, (53, 0, 0, 0, 0, 0)), (52, 1, .iconst 0, (0, 0, 0, 0, 0, 0)), (53, 1, .iadd, (0, 0, 0, 0, 0, 0)),
  (54, 2, .istore 4, (0, 0, 0, 0, 0, 0)), (56, 3, .iinc 5 1, (0, 0, 0, 0, 0, 0)), (59, 3, .goto (-53), (6, 0, 0, 0, 0, 0)), (62, 2, .iload 4, (0, 0, 0, 0, 0, 0)), (64, 1, .ireturn, (0, 0, 0, 0, 0, 0))]
def z_X6_tallMany : List zI := [
  (0, 1, .iconst 0, (0, 0, 0, 0, 0, 0)), (1, 1, .istore_n 1, (0, 0, 0, 0, 0, 0)), (2, 1, .iconst 0, (0, 0, 0, 0, 0, 0)), (3, 1, .istore_n 2, (0, 0, 0, 0, 0, 0)), (4, 1, .iload_n 2, (0, 0, 0, 0, 0, 0)), (5, 1, .aload_n 0, (0, 0, 0, 0, 0, 0)),
  (6, 3, .getfield 144, (6, 3, 0, 0, 0, 0)), (9, 3, .if_icmp .ge 26, (35, 0, 0, 0, 0, 0)), (12, 1, .iload_n 1, (0, 0, 0, 0, 0, 0)), (13, 1, .aload_n 0, (0, 0, 0, 0, 0, 0)), (14, 1, .iload_n 2, (0, 0, 0, 0, 0, 0)), (15, 1, .iconst 1, (0, 0, 0, 0, 0, 0)),
  (16, 3, .invokevirtual 181, (181, 0, 2, 1, 3, 6)), (19, 3, .ifCond .eq 7, (26, 0, 0, 0, 0, 0)), (22, 1, .iconst 1, (0, 0, 0, 0, 0, 0)), (23, 3, .goto 4, (27, 0, 0, 0, 0, 0)), (26, 1, .iconst 0, (0, 0, 0, 0, 0, 0)), (27, 1, .iadd, (0, 0, 0, 0, 0, 0)),
  (28, 1, .istore_n 1, (0, 0, 0, 0, 0, 0)), (29, 3, .iinc 2 1, (0, 0, 0, 0, 0, 0)), (32, 3, .goto (-28), (4, 0, 0, 0, 0, 0)), (35, 1, .iload_n 1, (0, 0, 0, 0, 0, 0)), (36, 1, .ireturn, (0, 0, 0, 0, 0, 0))]
def z_X6_mark : List zI := [
  (0, 1, .aload_n 0, (0, 0, 0, 0, 0, 0)), (1, 1, .iload_n 1, (0, 0, 0, 0, 0, 0)), (2, 3, .invokevirtual 169, (164, 0, 1, 1, 2, 6)), (5, 3, .ifCond .eq 15, (20, 0, 0, 0, 0, 0)), (8, 1, .iload_n 2, (0, 0, 0, 0, 0, 0)), (9, 1, .i2l, (0, 0, 0, 0, 0, 0)),
  (10, 1, .lconst 1, (0, 0, 0, 0, 0, 0)), (11, 3, .ldc2_w 66, (0, 0, 0, 0, 0, 5)), (14, 3, .invokestatic 68, (137, 2, 3, 1, 6, 0)), (17, 3, .ifCond .ne 5, (22, 0, 0, 0, 0, 0)), (20, 1, .iconst (-1), (0, 0, 0, 0, 0, 0)), (21, 1, .ireturn, (0, 0, 0, 0, 0, 0)),
  (22, 1, .aload_n 0, (0, 0, 0, 0, 0, 0)), (23, 1, .iload_n 1, (0, 0, 0, 0, 0, 0)), (24, 1, .iload_n 2, (0, 0, 0, 0, 0, 0)), (25, 3, .invokevirtual 181, (181, 0, 2, 1, 3, 6)), (28, 3, .ifCond .ne 9, (37, 0, 0, 0, 0, 0)), (31, 1, .aload_n 0, (0, 0, 0, 0, 0, 0)),
  (32, 1, .iconst 3, (0, 0, 0, 0, 0, 0)), (33, 3, .invokevirtual 78, (138, 0, 1, 1, 2, 6)), (36, 1, .ireturn, (0, 0, 0, 0, 0, 0)), (37, 1, .aload_n 0, (0, 0, 0, 0, 0, 0)), (38, 3, .invokevirtual 184, (163, 0, 0, 0, 2, 6)), (41, 1, .iload_n 2, (0, 0, 0, 0, 0, 0)),
  (42, 30, .tableswitch 63 1 4 #[30, 40, 48, 56], (0, 0, 0, 0, 0, 0)), (72, 1, .aload_n 0, (0, 0, 0, 0, 0, 0)), (73, 1, .iload_n 1, (0, 0, 0, 0, 0, 0)), (74, 1, .iconst 0, (0, 0, 0, 0, 0, 0)), (75, 3, .invokevirtual 187, (169, 0, 2, 1, 5, 6)), (78, 3, .invokestatic 190, (180, 2, 1, 1, 3, 0)),
  (81, 1, .ireturn, (0, 0, 0, 0, 0, 0)), (82, 1, .aload_n 0, (0, 0, 0, 0, 0, 0)), (83, 1, .iload_n 1, (0, 0, 0, 0, 0, 0)), (84, 1, .iconst 3, (0, 0, 0, 0, 0, 0)), (85, 1, .iconst 0, (0, 0, 0, 0, 0, 0)), (86, 3, .invokevirtual 193, (182, 0, 3, 1, 6, 6)),
  (89, 1, .ireturn, (0, 0, 0, 0, 0, 0)), (90, 1, .aload_n 0, (0, 0, 0, 0, 0, 0)), (91, 1, .iload_n 1, (0, 0, 0, 0, 0, 0)), (92, 1, .iconst 2, (0, 0, 0, 0, 0, 0)), (93, 1, .iconst 1, (0, 0, 0, 0, 0, 0)), (94, 3, .invokevirtual 193, (182, 0, 3, 1, 6, 6)),
  (97, 1, .ireturn, (0, 0, 0, 0, 0, 0)), (98, 1, .aload_n 0, (0, 0, 0, 0, 0, 0)), (99, 3, .invokevirtual 197, (183, 0, 0, 1, 3, 6)), (102, 1, .iconst 1, (0, 0, 0, 0, 0, 0)), (103, 1, .isub, (0, 0, 0, 0, 0, 0)), (104, 1, .ireturn, (0, 0, 0, 0, 0, 0)),
  (105, 1, .aload_n 0, (0, 0, 0, 0, 0, 0)), (106, 1, .iload_n 1, (0, 0, 0, 0, 0, 0)), (107, 1, .iconst 0, (0, 0, 0, 0, 0, 0)), (108, 2, .bipush (-9), (0, 0, 0, 0, 0, 0)), (110, 3, .invokevirtual 165, (173, 0, 3, 1, 6, 6)), (113, 1, .iconst 2, (0, 0, 0, 0, 0, 0)),
  (114, 1, .idiv, (0, 0, 0, 0, 0, 0)), (115, 1, .ireturn, (0, 0, 0, 0, 0, 0))]
def z_X6_keepPast : List zI := [
  (0, 1, .iconst 0, (0, 0, 0, 0, 0, 0)), (1, 1, .istore_n 1, (0, 0, 0, 0, 0, 0)), (2, 1, .iload_n 1, (0, 0, 0, 0, 0, 0)), (3, 2, .bipush 18, (0, 0, 0, 0, 0, 0)), (5, 3, .if_icmp .ge 36, (41, 0, 0, 0, 0, 0)), (8, 1, .aload_n 0, (0, 0, 0, 0, 0, 0)),
  (9, 3, .getfield 7, (6, 0, 2, 0, 0, 0)), (12, 2, .bipush 19, (0, 0, 0, 0, 0, 0)), (14, 2, .bipush 18, (0, 0, 0, 0, 0, 0)), (16, 1, .aload_n 0, (0, 0, 0, 0, 0, 0)), (17, 3, .getfield 7, (6, 0, 2, 0, 0, 0)), (20, 1, .iconst 0, (0, 0, 0, 0, 0, 0)),
  (21, 1, .iaload, (0, 0, 0, 0, 0, 0)), (22, 1, .imul, (0, 0, 0, 0, 0, 0)), (23, 1, .iadd, (0, 0, 0, 0, 0, 0)), (24, 1, .iload_n 1, (0, 0, 0, 0, 0, 0)), (25, 1, .iadd, (0, 0, 0, 0, 0, 0)), (26, 1, .aload_n 0, (0, 0, 0, 0, 0, 0)),
  (27, 3, .getfield 7, (6, 0, 2, 0, 0, 0)), (30, 1, .iconst 1, (0, 0, 0, 0, 0, 0)), (31, 1, .iload_n 1, (0, 0, 0, 0, 0, 0)), (32, 1, .iadd, (0, 0, 0, 0, 0, 0)), (33, 1, .iaload, (0, 0, 0, 0, 0, 0)), (34, 1, .iastore, (0, 0, 0, 0, 0, 0)),
  (35, 3, .iinc 1 1, (0, 0, 0, 0, 0, 0)), (38, 3, .goto (-36), (2, 0, 0, 0, 0, 0)), (41, 1, .aload_n 0, (0, 0, 0, 0, 0, 0)), (42, 3, .getfield 7, (6, 0, 2, 0, 0, 0)), (45, 1, .iconst 0, (0, 0, 0, 0, 0, 0)), (46, 1, .dup2, (0, 0, 0, 0, 0, 0)),
  (47, 1, .iaload, (0, 0, 0, 0, 0, 0)), (48, 1, .iconst 1, (0, 0, 0, 0, 0, 0)), (49, 1, .iadd, (0, 0, 0, 0, 0, 0)), (50, 1, .iastore, (0, 0, 0, 0, 0, 0)), (51, 1, .return_, (0, 0, 0, 0, 0, 0))]
def z_X6_hang : List zI := [
  (0, 1, .aload_n 0, (0, 0, 0, 0, 0, 0)), (1, 1, .iload_n 1, (0, 0, 0, 0, 0, 0)), (2, 3, .invokevirtual 169, (164, 0, 1, 1, 2, 6)), (5, 3, .ifCond .eq 11, (16, 0, 0, 0, 0, 0)), (8, 1, .aload_n 0, (0, 0, 0, 0, 0, 0)), (9, 1, .iload_n 2, (0, 0, 0, 0, 0, 0)),
  (10, 3, .invokevirtual 175, (165, 0, 1, 1, 2, 6)), (13, 3, .ifCond .ne 5, (18, 0, 0, 0, 0, 0)), (16, 1, .iconst (-1), (0, 0, 0, 0, 0, 0)), (17, 1, .ireturn, (0, 0, 0, 0, 0, 0)), (18, 1, .aload_n 0, (0, 0, 0, 0, 0, 0)), (19, 1, .iload_n 2, (0, 0, 0, 0, 0, 0)),
  (20, 3, .invokevirtual 178, (178, 0, 1, 1, 3, 6)), (23, 2, .bipush (-9), (0, 0, 0, 0, 0, 0)), (25, 3, .if_icmp .eq 6, (31, 0, 0, 0, 0, 0)), (28, 2, .bipush (-4), (0, 0, 0, 0, 0, 0)), (30, 1, .ireturn, (0, 0, 0, 0, 0, 0)), (31, 1, .aload_n 0, (0, 0, 0, 0, 0, 0)),
  (32, 3, .getfield 7, (6, 0, 2, 0, 0, 0)), (35, 1, .iconst 0, (0, 0, 0, 0, 0, 0)), (36, 1, .iaload, (0, 0, 0, 0, 0, 0)), (37, 2, .bipush 60, (0, 0, 0, 0, 0, 0)), (39, 3, .if_icmp .ne 6, (45, 0, 0, 0, 0, 0)), (42, 2, .bipush (-2), (0, 0, 0, 0, 0, 0)),
  (44, 1, .ireturn, (0, 0, 0, 0, 0, 0)), (45, 1, .aload_n 0, (0, 0, 0, 0, 0, 0)), (46, 3, .invokevirtual 200, (185, 0, 0, 0, 2, 6)), (49, 1, .aload_n 0, (0, 0, 0, 0, 0, 0)), (50, 3, .getfield 7, (6, 0, 2, 0, 0, 0)), (53, 1, .iconst 1, (0, 0, 0, 0, 0, 0)),
  (54, 1, .iload_n 1, (0, 0, 0, 0, 0, 0)), (55, 1, .iadd, (0, 0, 0, 0, 0, 0)), (56, 1, .iload_n 2, (0, 0, 0, 0, 0, 0)), (57, 1, .iastore, (0, 0, 0, 0, 0, 0)), (58, 1, .iload_n 2, (0, 0, 0, 0, 0, 0)), (59, 1, .ireturn, (0, 0, 0, 0, 0, 0))]
def z_X6_down : List zI := [
  (0, 1, .aload_n 0, (0, 0, 0, 0, 0, 0)), (1, 1, .iload_n 1, (0, 0, 0, 0, 0, 0)), (2, 3, .invokevirtual 169, (164, 0, 1, 1, 2, 6)), (5, 3, .ifCond .ne 5, (10, 0, 0, 0, 0, 0)), (8, 1, .iconst (-1), (0, 0, 0, 0, 0, 0)), (9, 1, .ireturn, (0, 0, 0, 0, 0, 0)),
  (10, 1, .aload_n 0, (0, 0, 0, 0, 0, 0)), (11, 3, .getfield 7, (6, 0, 2, 0, 0, 0)), (14, 1, .iconst 1, (0, 0, 0, 0, 0, 0)), (15, 1, .iload_n 1, (0, 0, 0, 0, 0, 0)), (16, 1, .iadd, (0, 0, 0, 0, 0, 0)), (17, 1, .iaload, (0, 0, 0, 0, 0, 0)),
  (18, 2, .bipush (-9), (0, 0, 0, 0, 0, 0)), (20, 3, .if_icmp .ne 6, (26, 0, 0, 0, 0, 0)), (23, 2, .bipush (-4), (0, 0, 0, 0, 0, 0)), (25, 1, .ireturn, (0, 0, 0, 0, 0, 0)), (26, 1, .aload_n 0, (0, 0, 0, 0, 0, 0)), (27, 3, .getfield 7, (6, 0, 2, 0, 0, 0)),
  (30, 1, .iconst 0, (0, 0, 0, 0, 0, 0)), (31, 1, .iaload, (0, 0, 0, 0, 0, 0)), (32, 2, .bipush 60, (0, 0, 0, 0, 0, 0)), (34, 3, .if_icmp .ne 6, (40, 0, 0, 0, 0, 0)), (37, 2, .bipush (-2), (0, 0, 0, 0, 0, 0)), (39, 1, .ireturn, (0, 0, 0, 0, 0, 0)),
  (40, 1, .aload_n 0, (0, 0, 0, 0, 0, 0)), (41, 3, .invokevirtual 200, (185, 0, 0, 0, 2, 6)), (44, 1, .aload_n 0, (0, 0, 0, 0, 0, 0)), (45, 3, .getfield 7, (6, 0, 2, 0, 0, 0)), (48, 1, .iconst 1, (0, 0, 0, 0, 0, 0)), (49, 1, .iload_n 1, (0, 0, 0, 0, 0, 0)),
  (50, 1, .iadd, (0, 0, 0, 0, 0, 0)), (51, 1, .iaload, (0, 0, 0, 0, 0, 0)), (52, 1, .istore_n 2, (0, 0, 0, 0, 0, 0)), (53, 1, .aload_n 0, (0, 0, 0, 0, 0, 0)), (54, 3, .getfield 7, (6, 0, 2, 0, 0, 0)), (57, 1, .iconst 1, (0, 0, 0, 0, 0, 0)),
  (58, 1, .iload_n 1, (0, 0, 0, 0, 0, 0)), (59, 1, .iadd, (0, 0, 0, 0, 0, 0)), (60, 2, .bipush (-9), (0, 0, 0, 0, 0, 0)), (62, 1, .iastore, (0, 0, 0, 0, 0, 0)), (63, 1, .iload_n 2, (0, 0, 0, 0, 0, 0)), (64, 1, .ireturn, (0, 0, 0, 0, 0, 0))]
def z_X6_areTwo : List zI := [
  (0, 1, .aload_n 0, (0, 0, 0, 0, 0, 0)), (1, 1, .iload_n 1, (0, 0, 0, 0, 0, 0)), (2, 3, .invokevirtual 169, (164, 0, 1, 1, 2, 6)), (5, 3, .ifCond .eq 20, (25, 0, 0, 0, 0, 0)), (8, 1, .aload_n 0, (0, 0, 0, 0, 0, 0)), (9, 1, .iload_n 2, (0, 0, 0, 0, 0, 0)),
  (10, 3, .invokevirtual 169, (164, 0, 1, 1, 2, 6)), (13, 3, .ifCond .eq 12, (25, 0, 0, 0, 0, 0)), (16, 1, .iload_n 1, (0, 0, 0, 0, 0, 0)), (17, 1, .iload_n 2, (0, 0, 0, 0, 0, 0)), (18, 3, .if_icmp .eq 7, (25, 0, 0, 0, 0, 0)), (21, 1, .iconst 1, (0, 0, 0, 0, 0, 0)),
  (22, 3, .goto 4, (26, 0, 0, 0, 0, 0)), (25, 1, .iconst 0, (0, 0, 0, 0, 0, 0)), (26, 1, .ireturn, (1, 0, 0, 0, 0, 0))]
def z_X6_change : List zI := [
  (0, 1, .aload_n 0, (0, 0, 0, 0, 0, 0)), (1, 1, .iload_n 1, (0, 0, 0, 0, 0, 0)), (2, 1, .iload_n 2, (0, 0, 0, 0, 0, 0)), (3, 3, .invokevirtual 203, (188, 0, 2, 1, 3, 6)), (6, 3, .ifCond .ne 5, (11, 0, 0, 0, 0, 0)), (9, 1, .iconst (-1), (0, 0, 0, 0, 0, 0)),
  (10, 1, .ireturn, (0, 0, 0, 0, 0, 0)), (11, 1, .aload_n 0, (0, 0, 0, 0, 0, 0)), (12, 3, .getfield 7, (6, 0, 2, 0, 0, 0)), (15, 1, .iconst 1, (0, 0, 0, 0, 0, 0)), (16, 1, .iload_n 1, (0, 0, 0, 0, 0, 0)), (17, 1, .iadd, (0, 0, 0, 0, 0, 0)),
  (18, 1, .iaload, (0, 0, 0, 0, 0, 0)), (19, 1, .istore_n 3, (0, 0, 0, 0, 0, 0)), (20, 1, .iload_n 3, (0, 0, 0, 0, 0, 0)), (21, 2, .bipush (-9), (0, 0, 0, 0, 0, 0)), (23, 3, .if_icmp .ne 19, (42, 0, 0, 0, 0, 0)), (26, 1, .aload_n 0, (0, 0, 0, 0, 0, 0)),
  (27, 3, .getfield 7, (6, 0, 2, 0, 0, 0)), (30, 1, .iconst 1, (0, 0, 0, 0, 0, 0)), (31, 1, .iload_n 2, (0, 0, 0, 0, 0, 0)), (32, 1, .iadd, (0, 0, 0, 0, 0, 0)), (33, 1, .iaload, (0, 0, 0, 0, 0, 0)), (34, 2, .bipush (-9), (0, 0, 0, 0, 0, 0)),
  (36, 3, .if_icmp .ne 6, (42, 0, 0, 0, 0, 0)), (39, 2, .bipush (-4), (0, 0, 0, 0, 0, 0)), (41, 1, .ireturn, (0, 0, 0, 0, 0, 0)), (42, 1, .aload_n 0, (0, 0, 0, 0, 0, 0)), (43, 3, .getfield 7, (6, 0, 2, 0, 0, 0)), (46, 1, .iconst 0, (0, 0, 0, 0, 0, 0)),
  (47, 1, .iaload, (0, 0, 0, 0, 0, 0)), (48, 2, .bipush 60, (0, 0, 0, 0, 0, 0)), (50, 3, .if_icmp .ne 6, (56, 0, 0, 0, 0, 0)), (53, 2, .bipush (-2), (0, 0, 0, 0, 0, 0)), (55, 1, .ireturn, (0, 0, 0, 0, 0, 0)), (56, 1, .aload_n 0, (0, 0, 0, 0, 0, 0)),
  (57, 3, .invokevirtual 200, (185, 0, 0, 0, 2, 6)), (60, 1, .aload_n 0, (0, 0, 0, 0, 0, 0)), (61, 3, .getfield 7, (6, 0, 2, 0, 0, 0)), (64, 1, .iconst 1, (0, 0, 0, 0, 0, 0)), (65, 1, .iload_n 1, (0, 0, 0, 0, 0, 0)), (66, 1, .iadd, (0, 0, 0, 0, 0, 0)),
  (67, 1, .aload_n 0, (0, 0, 0, 0, 0, 0)), (68, 3, .getfield 7, (6, 0, 2, 0, 0, 0)), (71, 1, .iconst 1, (0, 0, 0, 0, 0, 0)), (72, 1, .iload_n 2, (0, 0, 0, 0, 0, 0)), (73, 1, .iadd, (0, 0, 0, 0, 0, 0)), (74, 1, .iaload, (0, 0, 0, 0, 0, 0)),
  (75, 1, .iastore, (0, 0, 0, 0, 0, 0)), (76, 1, .aload_n 0, (0, 0, 0, 0, 0, 0)), (77, 3, .getfield 7, (6, 0, 2, 0, 0, 0)), (80, 1, .iconst 1, (0, 0, 0, 0, 0, 0)), (81, 1, .iload_n 2, (0, 0, 0, 0, 0, 0)), (82, 1, .iadd, (0, 0, 0, 0, 0, 0)),
  (83, 1, .iload_n 3, (0, 0, 0, 0, 0, 0)), (84, 1, .iastore, (0, 0, 0, 0, 0, 0)), (85, 1, .iconst 1, (0, 0, 0, 0, 0, 0)), (86, 1, .ireturn, (0, 0, 0, 0, 0, 0))]
def z_X6_line : List zI := [
  (0, 1, .aload_n 0, (0, 0, 0, 0, 0, 0)), (1, 1, .iload_n 1, (0, 0, 0, 0, 0, 0)), (2, 3, .invokevirtual 169, (164, 0, 1, 1, 2, 6)), (5, 3, .ifCond .eq 15, (20, 0, 0, 0, 0, 0)), (8, 1, .iload_n 2, (0, 0, 0, 0, 0, 0)), (9, 1, .i2l, (0, 0, 0, 0, 0, 0)),
  (10, 1, .lconst 1, (0, 0, 0, 0, 0, 0)), (11, 3, .ldc2_w 206, (0, 0, 0, 0, 0, 9)), (14, 3, .invokestatic 68, (137, 2, 3, 1, 6, 0)), (17, 3, .ifCond .ne 5, (22, 0, 0, 0, 0, 0)), (20, 1, .iconst (-1), (0, 0, 0, 0, 0, 0)), (21, 1, .ireturn, (0, 0, 0, 0, 0, 0)),
  (22, 1, .aload_n 0, (0, 0, 0, 0, 0, 0)), (23, 3, .getfield 7, (6, 0, 2, 0, 0, 0)), (26, 2, .bipush 7, (0, 0, 0, 0, 0, 0)), (28, 1, .iload_n 1, (0, 0, 0, 0, 0, 0)), (29, 1, .iadd, (0, 0, 0, 0, 0, 0)), (30, 1, .iaload, (0, 0, 0, 0, 0, 0)),
  (31, 1, .istore_n 3, (0, 0, 0, 0, 0, 0)), (32, 1, .iload_n 3, (0, 0, 0, 0, 0, 0)), (33, 1, .iload_n 2, (0, 0, 0, 0, 0, 0)), (34, 3, .if_icmp .ne 6, (40, 0, 0, 0, 0, 0)), (37, 2, .bipush (-4), (0, 0, 0, 0, 0, 0)), (39, 1, .ireturn, (0, 0, 0, 0, 0, 0)),
  (40, 1, .aload_n 0, (0, 0, 0, 0, 0, 0)), (41, 3, .getfield 7, (6, 0, 2, 0, 0, 0)), (44, 1, .iconst 0, (0, 0, 0, 0, 0, 0)), (45, 1, .iaload, (0, 0, 0, 0, 0, 0)), (46, 2, .bipush 60, (0, 0, 0, 0, 0, 0)), (48, 3, .if_icmp .ne 6, (54, 0, 0, 0, 0, 0)),
  (51, 2, .bipush (-2), (0, 0, 0, 0, 0, 0)), (53, 1, .ireturn, (0, 0, 0, 0, 0, 0)), (54, 1, .aload_n 0, (0, 0, 0, 0, 0, 0)), (55, 3, .invokevirtual 200, (185, 0, 0, 0, 2, 6)), (58, 1, .aload_n 0, (0, 0, 0, 0, 0, 0)), (59, 3, .getfield 7, (6, 0, 2, 0, 0, 0)),
  (62, 2, .bipush 7, (0, 0, 0, 0, 0, 0)), (64, 1, .iload_n 1, (0, 0, 0, 0, 0, 0)), (65, 1, .iadd, (0, 0, 0, 0, 0, 0)), (66, 1, .iload_n 2, (0, 0, 0, 0, 0, 0)), (67, 1, .iastore, (0, 0, 0, 0, 0, 0)), (68, 1, .iload_n 3, (0, 0, 0, 0, 0, 0)),
  (69, 1, .ireturn, (0, 0, 0, 0, 0, 0))]
def z_X6_pass : List zI := [
  (0, 1, .aload_n 0, (0, 0, 0, 0, 0, 0)), (1, 3, .invokevirtual 200, (185, 0, 0, 0, 2, 6)), (4, 1, .aload_n 0, (0, 0, 0, 0, 0, 0)), (5, 3, .invokevirtual 184, (163, 0, 0, 0, 2, 6)), (8, 1, .iconst 0, (0, 0, 0, 0, 0, 0)), (9, 1, .istore_n 2, (0, 0, 0, 0, 0, 0)),
  (10, 1, .iconst 0, (0, 0, 0, 0, 0, 0)), (11, 1, .istore_n 3, (0, 0, 0, 0, 0, 0)), (12, 1, .iload_n 3, (0, 0, 0, 0, 0, 0)), (13, 1, .aload_n 0, (0, 0, 0, 0, 0, 0)), (14, 3, .getfield 144, (6, 3, 0, 0, 0, 0)), (17, 3, .if_icmp .ge 71, (88, 0, 0, 0, 0, 0)),
  (20, 1, .aload_n 0, (0, 0, 0, 0, 0, 0)), (21, 3, .getfield 7, (6, 0, 2, 0, 0, 0)), (24, 2, .bipush 13, (0, 0, 0, 0, 0, 0)), (26, 1, .iload_n 3, (0, 0, 0, 0, 0, 0)), (27, 1, .iadd, (0, 0, 0, 0, 0, 0)), (28, 1, .iaload, (0, 0, 0, 0, 0, 0)),
  (29, 1, .aload_n 0, (0, 0, 0, 0, 0, 0)), (30, 1, .iload_n 3, (0, 0, 0, 0, 0, 0)), (31, 1, .iload_n 1, (0, 0, 0, 0, 0, 0)), (32, 2, .bipush (-9), (0, 0, 0, 0, 0, 0)), (34, 3, .invokevirtual 165, (173, 0, 3, 1, 6, 6)), (37, 1, .iadd, (0, 0, 0, 0, 0, 0)),
  (38, 2, .istore 4, (0, 0, 0, 0, 0, 0)), (40, 2, .iload 4, (0, 0, 0, 0, 0, 0)), (42, 2, .bipush 99, (0, 0, 0, 0, 0, 0)), (44, 3, .if_icmp .le 8, (52, 0, 0, 0, 0, 0)), (47, 2, .bipush 99, (0, 0, 0, 0, 0, 0)), (49, 3, .goto 5, (54, 0, 0, 0, 0, 0)),
  (52, 2, .iload 4, (0, 0, 0, 0, 0, 0)), (54, 2, .istore 4, (0, 0, 0, 0, 0, 0)), (56, 1, .iload_n 2, (0, 0, 0, 0, 0, 0)), (57, 2, .iload 4, (0, 0, 0, 0, 0, 0)), (59, 1, .aload_n 0, (0, 0, 0, 0, 0, 0)), (60, 3, .getfield 7, (6, 0, 2, 0, 0, 0)),
  (63, 2, .bipush 13, (0, 0, 0, 0, 0, 0)), (65, 1, .iload_n 3, (0, 0, 0, 0, 0, 0)), (66, 1, .iadd, (0, 0, 0, 0, 0, 0)), (67, 1, .iaload, (0, 0, 0, 0, 0, 0)), (68, 1, .isub, (0, 0, 0, 0, 0, 0)), (69, 1, .iadd, (0, 0, 0, 0, 0, 0)),
  (70, 1, .istore_n 2, (0, 0, 0, 0, 0, 0)), (71, 1, .aload_n 0, (0, 0, 0, 0, 0, 0)), (72, 3, .getfield 7, (6, 0, 2, 0, 0, 0)), (75, 2, .bipush 13, (0, 0, 0, 0, 0, 0)), (77, 1, .iload_n 3, (0, 0, 0, 0, 0, 0)), (78, 1, .iadd, (0, 0, 0, 0, 0, 0)),
  (79, 2, .iload 4, (0, 0, 0, 0, 0, 0)), (81, 1, .iastore, (0, 0, 0, 0, 0, 0)), (82, 3, .iinc 3 1, (0, 0, 0, 0, 0, 0)), (85, 3, .goto (-73), (12, 16, 0, 0, 0, 0)), (88, 1, .iload_n 2, (0, 0, 0, 0, 0, 0)), (89, 1, .ireturn, (0, 0, 0, 0, 0, 0))]
def z_X6_night : List zI := [
  (0, 1, .iload_n 1, (0, 0, 0, 0, 0, 0)), (1, 3, .invokestatic 208, (166, 2, 1, 1, 1, 0)), (4, 3, .ifCond .ne 5, (9, 0, 0, 0, 0, 0)), (7, 1, .iconst (-1), (0, 0, 0, 0, 0, 0)), (8, 1, .ireturn, (0, 0, 0, 0, 0, 0)), (9, 1, .aload_n 0, (0, 0, 0, 0, 0, 0)),
  (10, 3, .getfield 144, (6, 3, 0, 0, 0, 0)), (13, 3, .ifCond .ne 6, (19, 0, 0, 0, 0, 0)), (16, 2, .bipush (-4), (0, 0, 0, 0, 0, 0)), (18, 1, .ireturn, (0, 0, 0, 0, 0, 0)), (19, 1, .aload_n 0, (0, 0, 0, 0, 0, 0)), (20, 3, .getfield 7, (6, 0, 2, 0, 0, 0)),
  (23, 1, .iconst 0, (0, 0, 0, 0, 0, 0)), (24, 1, .iaload, (0, 0, 0, 0, 0, 0)), (25, 2, .bipush 60, (0, 0, 0, 0, 0, 0)), (27, 3, .if_icmp .ne 8, (35, 0, 0, 0, 0, 0)), (30, 2, .bipush (-2), (0, 0, 0, 0, 0, 0)), (32, 3, .goto 8, (40, 0, 0, 0, 0, 0)),
  (35, 1, .aload_n 0, (0, 0, 0, 0, 0, 0)), (36, 1, .iload_n 1, (0, 0, 0, 0, 0, 0)), (37, 3, .invokevirtual 211, (191, 0, 1, 1, 5, 6)), (40, 1, .ireturn, (0, 0, 0, 0, 0, 0))]
def z_X6_undo : List zI := [
  (0, 1, .iload_n 1, (0, 0, 0, 0, 0, 0)), (1, 1, .i2l, (0, 0, 0, 0, 0, 0)), (2, 1, .lconst 0, (0, 0, 0, 0, 0, 0)), (3, 1, .aload_n 0, (0, 0, 0, 0, 0, 0)), (4, 3, .getfield 7, (6, 0, 2, 0, 0, 0)), (7, 1, .iconst 0, (0, 0, 0, 0, 0, 0)),
  (8, 1, .iaload, (0, 0, 0, 0, 0, 0)), (9, 1, .i2l, (0, 0, 0, 0, 0, 0)), (10, 3, .invokestatic 68, (137, 2, 3, 1, 6, 0)), (13, 3, .ifCond .ne 5, (18, 0, 0, 0, 0, 0)), (16, 1, .iconst (-1), (0, 0, 0, 0, 0, 0)), (17, 1, .ireturn, (0, 0, 0, 0, 0, 0)),
  (18, 1, .aload_n 0, (0, 0, 0, 0, 0, 0)), (19, 3, .getfield 7, (6, 0, 2, 0, 0, 0)), (22, 1, .iconst 0, (0, 0, 0, 0, 0, 0)), (23, 1, .iaload, (0, 0, 0, 0, 0, 0)), (24, 1, .iload_n 1, (0, 0, 0, 0, 0, 0)), (25, 1, .isub, (0, 0, 0, 0, 0, 0)),
  (26, 1, .istore_n 2, (0, 0, 0, 0, 0, 0)), (27, 1, .iconst 0, (0, 0, 0, 0, 0, 0)), (28, 1, .istore_n 3, (0, 0, 0, 0, 0, 0)), (29, 1, .iload_n 3, (0, 0, 0, 0, 0, 0)), (30, 2, .bipush 18, (0, 0, 0, 0, 0, 0)), (32, 3, .if_icmp .ge 35, (67, 0, 0, 0, 0, 0)),
  (35, 1, .iload_n 2, (0, 0, 0, 0, 0, 0)), (36, 3, .ifCond .le 31, (67, 0, 0, 0, 0, 0)), (39, 1, .aload_n 0, (0, 0, 0, 0, 0, 0)), (40, 3, .getfield 7, (6, 0, 2, 0, 0, 0)), (43, 1, .iconst 1, (0, 0, 0, 0, 0, 0)), (44, 1, .iload_n 3, (0, 0, 0, 0, 0, 0)),
  (45, 1, .iadd, (0, 0, 0, 0, 0, 0)), (46, 1, .aload_n 0, (0, 0, 0, 0, 0, 0)), (47, 3, .getfield 7, (6, 0, 2, 0, 0, 0)), (50, 2, .bipush 19, (0, 0, 0, 0, 0, 0)), (52, 2, .bipush 18, (0, 0, 0, 0, 0, 0)), (54, 1, .iload_n 1, (0, 0, 0, 0, 0, 0)),
  (55, 1, .imul, (0, 0, 0, 0, 0, 0)), (56, 1, .iadd, (0, 0, 0, 0, 0, 0)), (57, 1, .iload_n 3, (0, 0, 0, 0, 0, 0)), (58, 1, .iadd, (0, 0, 0, 0, 0, 0)), (59, 1, .iaload, (0, 0, 0, 0, 0, 0)), (60, 1, .iastore, (0, 0, 0, 0, 0, 0)),
  (61, 3, .iinc 3 1, (0, 0, 0, 0, 0, 0)), (64, 3, .goto (-35), (29, 0, 0, 0, 0, 0)), (67, 1, .aload_n 0, (0, 0, 0, 0, 0, 0)), (68, 3, .getfield 7, (6, 0, 2, 0, 0, 0)), (71, 1, .iconst 0, (0, 0, 0, 0, 0, 0)), (72, 1, .iload_n 1, (0, 0, 0, 0, 0, 0)),
  (73, 1, .iastore, (0, 0, 0, 0, 0, 0)), (74, 1, .iload_n 2, (0, 0, 0, 0, 0, 0)), (75, 1, .ireturn, (0, 0, 0, 0, 0, 0))]
def z_X6_copyDeck : List zI := [
  (0, 1, .iconst 0, (0, 0, 0, 0, 0, 0)), (1, 1, .istore_n 3, (0, 0, 0, 0, 0, 0)), (2, 1, .iload_n 3, (0, 0, 0, 0, 0, 0)), (3, 3, .sipush 1099, (0, 0, 0, 0, 0, 0)), (6, 3, .if_icmp .ge 25, (31, 0, 0, 0, 0, 0)), (9, 1, .aload_n 0, (0, 0, 0, 0, 0, 0)),
  (10, 3, .getfield 7, (6, 0, 2, 0, 0, 0)), (13, 1, .iload_n 2, (0, 0, 0, 0, 0, 0)), (14, 1, .iload_n 3, (0, 0, 0, 0, 0, 0)), (15, 1, .iadd, (0, 0, 0, 0, 0, 0)), (16, 1, .aload_n 0, (0, 0, 0, 0, 0, 0)), (17, 3, .getfield 7, (6, 0, 2, 0, 0, 0)),
  (20, 1, .iload_n 1, (0, 0, 0, 0, 0, 0)), (21, 1, .iload_n 3, (0, 0, 0, 0, 0, 0)), (22, 1, .iadd, (0, 0, 0, 0, 0, 0)), (23, 1, .iaload, (0, 0, 0, 0, 0, 0)), (24, 1, .iastore, (0, 0, 0, 0, 0, 0)), (25, 3, .iinc 3 1, (0, 0, 0, 0, 0, 0)),
  (28, 3, .goto (-26), (2, 0, 0, 0, 0, 0)), (31, 1, .return_, (0, 0, 0, 0, 0, 0))]
def z_X6_keep : List zI := [
  (0, 1, .iload_n 1, (0, 0, 0, 0, 0, 0)), (1, 1, .i2l, (0, 0, 0, 0, 0, 0)), (2, 1, .lconst 0, (0, 0, 0, 0, 0, 0)), (3, 3, .ldc2_w 147, (0, 0, 0, 0, 0, 2)), (6, 3, .invokestatic 68, (137, 2, 3, 1, 6, 0)), (9, 3, .ifCond .ne 5, (14, 0, 0, 0, 0, 0)),
  (12, 1, .iconst (-1), (0, 0, 0, 0, 0, 0)), (13, 1, .ireturn, (0, 0, 0, 0, 0, 0)), (14, 1, .aload_n 0, (0, 0, 0, 0, 0, 0)), (15, 3, .getfield 144, (6, 3, 0, 0, 0, 0)), (18, 3, .ifCond .ne 6, (24, 0, 0, 0, 0, 0)), (21, 2, .bipush (-4), (0, 0, 0, 0, 0, 0)),
  (23, 1, .ireturn, (0, 0, 0, 0, 0, 0)), (24, 1, .aload_n 0, (0, 0, 0, 0, 0, 0)), (25, 1, .iconst 0, (0, 0, 0, 0, 0, 0)), (26, 3, .sipush 1099, (0, 0, 0, 0, 0, 0)), (29, 1, .iconst 1, (0, 0, 0, 0, 0, 0)), (30, 1, .iload_n 1, (0, 0, 0, 0, 0, 0)),
  (31, 1, .iadd, (0, 0, 0, 0, 0, 0)), (32, 1, .imul, (0, 0, 0, 0, 0, 0)), (33, 3, .invokevirtual 214, (194, 0, 2, 0, 4, 6)), (36, 1, .aload_n 0, (0, 0, 0, 0, 0, 0)), (37, 3, .getfield 7, (6, 0, 2, 0, 0, 0)), (40, 1, .iconst 0, (0, 0, 0, 0, 0, 0)),
  (41, 1, .iaload, (0, 0, 0, 0, 0, 0)), (42, 1, .ireturn, (0, 0, 0, 0, 0, 0))]
def z_X6_on : List zI := [
  (0, 1, .iload_n 1, (0, 0, 0, 0, 0, 0)), (1, 1, .i2l, (0, 0, 0, 0, 0, 0)), (2, 1, .lconst 0, (0, 0, 0, 0, 0, 0)), (3, 3, .ldc2_w 147, (0, 0, 0, 0, 0, 2)), (6, 3, .invokestatic 68, (137, 2, 3, 1, 6, 0)), (9, 3, .ifCond .ne 5, (14, 0, 0, 0, 0, 0)),
  (12, 1, .iconst (-1), (0, 0, 0, 0, 0, 0)), (13, 1, .ireturn, (0, 0, 0, 0, 0, 0)), (14, 1, .aload_n 0, (0, 0, 0, 0, 0, 0)), (15, 3, .getfield 7, (6, 0, 2, 0, 0, 0)), (18, 3, .sipush 1099, (0, 0, 0, 0, 0, 0)), (21, 1, .iconst 1, (0, 0, 0, 0, 0, 0)),
  (22, 1, .iload_n 1, (0, 0, 0, 0, 0, 0)), (23, 1, .iadd, (0, 0, 0, 0, 0, 0)), (24, 1, .imul, (0, 0, 0, 0, 0, 0)), (25, 1, .iconst 0, (0, 0, 0, 0, 0, 0)), (26, 1, .iadd, (0, 0, 0, 0, 0, 0)), (27, 1, .iaload, (0, 0, 0, 0, 0, 0)),
  (28, 3, .ifCond .ge 9, (37, 0, 0, 0, 0, 0)), (31, 1, .aload_n 0, (0, 0, 0, 0, 0, 0)), (32, 1, .iconst 1, (0, 0, 0, 0, 0, 0)), (33, 3, .invokevirtual 78, (138, 0, 1, 1, 2, 6)), (36, 1, .ireturn, (0, 0, 0, 0, 0, 0)), (37, 1, .aload_n 0, (0, 0, 0, 0, 0, 0)),
  (38, 3, .sipush 1099, (0, 0, 0, 0, 0, 0)), (41, 1, .iconst 1, (0, 0, 0, 0, 0, 0)), (42, 1, .iload_n 1, (0, 0, 0, 0, 0, 0)), (43, 1, .iadd, (0, 0, 0, 0, 0, 0)), (44, 1, .imul, (0, 0, 0, 0, 0, 0)), (45, 1, .iconst 0, (0, 0, 0, 0, 0, 0)),
  (46, 3, .invokevirtual 214, (194, 0, 2, 0, 4, 6)), (49, 1, .aload_n 0, (0, 0, 0, 0, 0, 0)), (50, 3, .getfield 7, (6, 0, 2, 0, 0, 0)), (53, 1, .iconst 0, (0, 0, 0, 0, 0, 0)), (54, 1, .iaload, (0, 0, 0, 0, 0, 0)), (55, 1, .ireturn, (0, 0, 0, 0, 0, 0))]
def z_X6_neighbours : List zI := [
  (0, 1, .aload_n 0, (0, 0, 0, 0, 0, 0)), (1, 1, .iload_n 1, (0, 0, 0, 0, 0, 0)), (2, 3, .invokevirtual 169, (164, 0, 1, 1, 2, 6)), (5, 3, .ifCond .eq 10, (15, 0, 0, 0, 0, 0)), (8, 1, .iload_n 2, (0, 0, 0, 0, 0, 0)), (9, 3, .invokestatic 208, (166, 2, 1, 1, 1, 0)),
  (12, 3, .ifCond .ne 5, (17, 0, 0, 0, 0, 0)), (15, 1, .iconst (-1), (0, 0, 0, 0, 0, 0)), (16, 1, .ireturn, (0, 0, 0, 0, 0, 0)), (17, 1, .aload_n 0, (0, 0, 0, 0, 0, 0)), (18, 3, .invokevirtual 184, (163, 0, 0, 0, 2, 6)), (21, 1, .aload_n 0, (0, 0, 0, 0, 0, 0)),
  (22, 1, .iload_n 1, (0, 0, 0, 0, 0, 0)), (23, 1, .iload_n 2, (0, 0, 0, 0, 0, 0)), (24, 3, .invokevirtual 187, (169, 0, 2, 1, 5, 6)), (27, 1, .ireturn, (0, 0, 0, 0, 0, 0))]
def z_X6_woken : List zI := [
  (0, 1, .aload_n 0, (0, 0, 0, 0, 0, 0)), (1, 1, .iload_n 1, (0, 0, 0, 0, 0, 0)), (2, 3, .invokevirtual 169, (164, 0, 1, 1, 2, 6)), (5, 3, .ifCond .eq 10, (15, 0, 0, 0, 0, 0)), (8, 1, .iload_n 2, (0, 0, 0, 0, 0, 0)), (9, 3, .invokestatic 208, (166, 2, 1, 1, 1, 0)),
  (12, 3, .ifCond .ne 5, (17, 0, 0, 0, 0, 0)), (15, 1, .iconst (-1), (0, 0, 0, 0, 0, 0)), (16, 1, .ireturn, (0, 0, 0, 0, 0, 0)), (17, 1, .aload_n 0, (0, 0, 0, 0, 0, 0)), (18, 3, .invokevirtual 184, (163, 0, 0, 0, 2, 6)), (21, 1, .aload_n 0, (0, 0, 0, 0, 0, 0)),
  (22, 1, .iload_n 1, (0, 0, 0, 0, 0, 0)), (23, 1, .iload_n 2, (0, 0, 0, 0, 0, 0)), (24, 2, .bipush (-9), (0, 0, 0, 0, 0, 0)), (26, 3, .invokevirtual 165, (173, 0, 3, 1, 6, 6)), (29, 1, .ireturn, (0, 0, 0, 0, 0, 0))]
def z_X6_inMany : List zI := [
  (0, 1, .iconst 0, (0, 0, 0, 0, 0, 0)), (1, 1, .istore_n 2, (0, 0, 0, 0, 0, 0)), (2, 1, .iconst 0, (0, 0, 0, 0, 0, 0)), (3, 1, .istore_n 3, (0, 0, 0, 0, 0, 0)), (4, 1, .iload_n 3, (0, 0, 0, 0, 0, 0)), (5, 1, .aload_n 0, (0, 0, 0, 0, 0, 0)),
  (6, 3, .getfield 144, (6, 3, 0, 0, 0, 0)), (9, 3, .if_icmp .ge 26, (35, 0, 0, 0, 0, 0)), (12, 1, .iload_n 2, (0, 0, 0, 0, 0, 0)), (13, 1, .aload_n 0, (0, 0, 0, 0, 0, 0)), (14, 1, .iload_n 3, (0, 0, 0, 0, 0, 0)), (15, 1, .iload_n 1, (0, 0, 0, 0, 0, 0)),
  (16, 3, .invokevirtual 149, (167, 0, 2, 1, 3, 6)), (19, 3, .ifCond .eq 7, (26, 0, 0, 0, 0, 0)), (22, 1, .iconst 1, (0, 0, 0, 0, 0, 0)), (23, 3, .goto 4, (27, 0, 0, 0, 0, 0)), (26, 1, .iconst 0, (0, 0, 0, 0, 0, 0)), (27, 1, .iadd, (0, 0, 0, 0, 0, 0)),
  (28, 1, .istore_n 2, (0, 0, 0, 0, 0, 0)), (29, 3, .iinc 3 1, (0, 0, 0, 0, 0, 0)), (32, 3, .goto (-28), (4, 0, 0, 0, 0, 0)), (35, 1, .iload_n 2, (0, 0, 0, 0, 0, 0)), (36, 1, .ireturn, (0, 0, 0, 0, 0, 0))]
def z_X6_all : List zI := [
  (0, 1, .iload_n 1, (0, 0, 0, 0, 0, 0)), (1, 3, .invokestatic 208, (166, 2, 1, 1, 1, 0)), (4, 3, .ifCond .ne 5, (9, 0, 0, 0, 0, 0)), (7, 1, .iconst (-1), (0, 0, 0, 0, 0, 0)), (8, 1, .ireturn, (0, 0, 0, 0, 0, 0)), (9, 1, .aload_n 0, (0, 0, 0, 0, 0, 0)),
  (10, 3, .invokevirtual 184, (163, 0, 0, 0, 2, 6)), (13, 1, .aload_n 0, (0, 0, 0, 0, 0, 0)), (14, 1, .aload_n 0, (0, 0, 0, 0, 0, 0)), (15, 1, .iload_n 1, (0, 0, 0, 0, 0, 0)), (16, 3, .invokevirtual 217, (199, 0, 1, 1, 4, 6)), (19, 3, .putfield 63, (6, 11, 0, 0, 0, 0)),
  (22, 1, .aload_n 0, (0, 0, 0, 0, 0, 0)), (23, 1, .iload_n 1, (0, 0, 0, 0, 0, 0)), (24, 3, .invokevirtual 220, (174, 0, 1, 1, 4, 6)), (27, 1, .ireturn, (0, 0, 0, 0, 0, 0))]
def z_X6_worst : List zI := [
  (0, 1, .iload_n 1, (0, 0, 0, 0, 0, 0)), (1, 3, .invokestatic 208, (166, 2, 1, 1, 1, 0)), (4, 3, .ifCond .ne 5, (9, 0, 0, 0, 0, 0)), (7, 1, .iconst (-1), (0, 0, 0, 0, 0, 0)), (8, 1, .ireturn, (0, 0, 0, 0, 0, 0)), (9, 1, .aload_n 0, (0, 0, 0, 0, 0, 0)),
  (10, 3, .invokevirtual 184, (163, 0, 0, 0, 2, 6)), (13, 2, .bipush (-9), (0, 0, 0, 0, 0, 0)), (15, 1, .istore_n 2, (0, 0, 0, 0, 0, 0)), (16, 1, .iconst (-1), (0, 0, 0, 0, 0, 0)), (17, 1, .istore_n 3, (0, 0, 0, 0, 0, 0)), (18, 1, .iconst 0, (0, 0, 0, 0, 0, 0)),
  (19, 2, .istore 4, (0, 0, 0, 0, 0, 0)), (21, 2, .iload 4, (0, 0, 0, 0, 0, 0)), (23, 1, .aload_n 0, (0, 0, 0, 0, 0, 0)), (24, 3, .getfield 144, (6, 3, 0, 0, 0, 0)), (27, 3, .if_icmp .ge 60, (87, 0, 0, 0, 0, 0)), (30, 1, .aload_n 0, (0, 0, 0, 0, 0, 0)),
  (31, 2, .iload 4, (0, 0, 0, 0, 0, 0)), (33, 1, .iload_n 1, (0, 0, 0, 0, 0, 0)), (34, 3, .invokevirtual 149, (167, 0, 2, 1, 3, 6)), (37, 3, .ifCond .eq 15, (52, 0, 0, 0, 0, 0)), (40, 1, .aload_n 0, (0, 0, 0, 0, 0, 0)), (41, 2, .iload 4, (0, 0, 0, 0, 0, 0)),
  (43, 1, .iload_n 1, (0, 0, 0, 0, 0, 0)), (44, 2, .bipush (-9), (0, 0, 0, 0, 0, 0)), (46, 3, .invokevirtual 165, (173, 0, 3, 1, 6, 6)), (49, 3, .goto 4, (53, 0, 0, 0, 0, 0)), (52, 1, .iconst (-1), (0, 0, 0, 0, 0, 0)), (53, 2, .istore 5, (0, 0, 0, 0, 0, 0)),
  (55, 2, .iload 5, (0, 0, 0, 0, 0, 0)), (57, 1, .iload_n 3, (0, 0, 0, 0, 0, 0)), (58, 3, .if_icmp .le 8, (66, 0, 0, 0, 0, 0)), (61, 2, .iload 4, (0, 0, 0, 0, 0, 0)), (63, 3, .goto 4, (67, 0, 0, 0, 0, 0)), (66, 1, .iload_n 2, (0, 0, 0, 0, 0, 0)),
  (67, 1, .istore_n 2, (0, 0, 0, 0, 0, 0)), (68, 2, .iload 5, (0, 0, 0, 0, 0, 0)), (70, 1, .iload_n 3, (0, 0, 0, 0, 0, 0)), (71, 3, .if_icmp .le 8, (79, 0, 0, 0, 0, 0)), (74, 2, .iload 5, (0, 0, 0, 0, 0, 0)), (76, 3, .goto 4, (80, 0, 0, 0, 0, 0)),
  (79, 1, .iload_n 3, (0, 0, 0, 0, 0, 0)), (80, 1, .istore_n 3, (0, 0, 0, 0, 0, 0)), (81, 3, .iinc 4 1, (0, 0, 0, 0, 0, 0)), (84, 3, .goto (-63), (21, 32, 0, 0, 0, 0)), (87, 1, .aload_n 0, (0, 0, 0, 0, 0, 0)), (88, 1, .iload_n 2, (0, 0, 0, 0, 0, 0)),
  (89, 2, .bipush (-9), (0, 0, 0, 0, 0, 0)), (91, 3, .if_icmp .ne 10, (101, 0, 0, 0, 0, 0)), (94, 1, .aload_n 0, (0, 0, 0, 0, 0, 0)), (95, 3, .getfield 63, (6, 11, 0, 0, 0, 0)), (98, 3, .goto 4, (102, 0, 0, 0, 0, 0)), (101, 1, .iload_n 3, (0, 0, 0, 0, 0, 0)),
  (102, 3, .putfield 63, (6, 11, 0, 0, 0, 0)), (105, 1, .iload_n 2, (0, 0, 0, 0, 0, 0)), (106, 1, .ireturn, (0, 0, 0, 0, 0, 0))]
def z_X6_by : List zI := [
  (0, 1, .aload_n 0, (0, 0, 0, 0, 0, 0)), (1, 1, .iload_n 1, (0, 0, 0, 0, 0, 0)), (2, 3, .invokevirtual 169, (164, 0, 1, 1, 2, 6)), (5, 3, .ifCond .eq 10, (15, 0, 0, 0, 0, 0)), (8, 1, .iload_n 2, (0, 0, 0, 0, 0, 0)), (9, 3, .invokestatic 208, (166, 2, 1, 1, 1, 0)),
  (12, 3, .ifCond .ne 5, (17, 0, 0, 0, 0, 0)), (15, 1, .iconst (-1), (0, 0, 0, 0, 0, 0)), (16, 1, .ireturn, (0, 0, 0, 0, 0, 0)), (17, 1, .aload_n 0, (0, 0, 0, 0, 0, 0)), (18, 3, .invokevirtual 184, (163, 0, 0, 0, 2, 6)), (21, 2, .bipush (-9), (0, 0, 0, 0, 0, 0)),
  (23, 1, .istore_n 3, (0, 0, 0, 0, 0, 0)), (24, 1, .iconst (-1), (0, 0, 0, 0, 0, 0)), (25, 2, .istore 4, (0, 0, 0, 0, 0, 0)), (27, 1, .aload_n 0, (0, 0, 0, 0, 0, 0)), (28, 1, .iload_n 1, (0, 0, 0, 0, 0, 0)), (29, 1, .iload_n 2, (0, 0, 0, 0, 0, 0)),
  (30, 2, .bipush (-9), (0, 0, 0, 0, 0, 0)), (32, 3, .invokevirtual 165, (173, 0, 3, 1, 6, 6)), (35, 2, .istore 5, (0, 0, 0, 0, 0, 0)), (37, 1, .iconst 0, (0, 0, 0, 0, 0, 0)), (38, 2, .istore 6, (0, 0, 0, 0, 0, 0)), (40, 2, .iload 6, (0, 0, 0, 0, 0, 0)),
  (42, 1, .aload_n 0, (0, 0, 0, 0, 0, 0)), (43, 3, .getfield 144, (6, 3, 0, 0, 0, 0)), (46, 3, .if_icmp .ge 76, (122, 0, 0, 0, 0, 0)), (49, 1, .aload_n 0, (0, 0, 0, 0, 0, 0)), (50, 1, .iload_n 1, (0, 0, 0, 0, 0, 0)), (51, 1, .iload_n 2, (0, 0, 0, 0, 0, 0)),
  (52, 3, .invokevirtual 149, (167, 0, 2, 1, 3, 6)), (55, 3, .ifCond .eq 28, (83, 0, 0, 0, 0, 0)), (58, 1, .aload_n 0, (0, 0, 0, 0, 0, 0)), (59, 2, .iload 6, (0, 0, 0, 0, 0, 0)), (61, 1, .iload_n 1, (0, 0, 0, 0, 0, 0)), (62, 1, .iload_n 2, (0, 0, 0, 0, 0, 0)),
  (63, 3, .invokevirtual 153, (168, 0, 3, 1, 5, 6)), (66, 3, .ifCond .eq 17, (83, 0, 0, 0, 0, 0)), (69, 2, .iload 5, (0, 0, 0, 0, 0, 0)), (71, 1, .aload_n 0, (0, 0, 0, 0, 0, 0)), (72, 1, .iload_n 1, (0, 0, 0, 0, 0, 0)), (73, 1, .iload_n 2, (0, 0, 0, 0, 0, 0)),
  (74, 2, .iload 6, (0, 0, 0, 0, 0, 0)), (76, 3, .invokevirtual 165, (173, 0, 3, 1, 6, 6)), (79, 1, .isub, (0, 0, 0, 0, 0, 0)), (80, 3, .goto 4, (84, 0, 0, 0, 0, 0)), (83, 1, .iconst (-1), (0, 0, 0, 0, 0, 0)), (84, 2, .istore 7, (0, 0, 0, 0, 0, 0)),
  (86, 2, .iload 7, (0, 0, 0, 0, 0, 0)), (88, 2, .iload 4, (0, 0, 0, 0, 0, 0)), (90, 3, .if_icmp .le 8, (98, 0, 0, 0, 0, 0)), (93, 2, .iload 6, (0, 0, 0, 0, 0, 0)), (95, 3, .goto 4, (99, 0, 0, 0, 0, 0)), (98, 1, .iload_n 3, (0, 0, 0, 0, 0, 0)),
  (99, 1, .istore_n 3, (0, 0, 0, 0, 0, 0)), (100, 2, .iload 7, (0, 0, 0, 0, 0, 0)), (102, 2, .iload 4, (0, 0, 0, 0, 0, 0)), (104, 3, .if_icmp .le 8, (112, 0, 0, 0, 0, 0)), (107, 2, .iload 7, (0, 0, 0, 0, 0, 0)), (109, 3, .goto 5, (114, 0, 0, 0, 0, 0)),
  (112, 2, .iload 4, (0, 0, 0, 0, 0, 0)), (114, 2, .istore 4, (0, 0, 0, 0, 0, 0)), (116, 3, .iinc 6 1, (0, 0, 0, 0, 0, 0)), (119, 3, .goto (-79), (40, 128, 0, 0, 0, 0)), (122, 1, .aload_n 0, (0, 0, 0, 0, 0, 0)), (123, 1, .iload_n 3, (0, 0, 0, 0, 0, 0)),
  (124, 2, .bipush (-9), (0, 0, 0, 0, 0, 0)), (126, 3, .if_icmp .ne 10, (136, 0, 0, 0, 0, 0)), (129, 1, .aload_n 0, (0, 0, 0, 0, 0, 0)), (130, 3, .getfield 63, (6, 11, 0, 0, 0, 0)), (133, 3, .goto 5, (138, 0, 0, 0, 0, 0)), (136, 2, .iload 4, (0, 0, 0, 0, 0, 0)),
  (138, 3, .putfield 63, (6, 11, 0, 0, 0, 0)), (141, 1, .iload_n 3, (0, 0, 0, 0, 0, 0)), (142, 1, .ireturn, (0, 0, 0, 0, 0, 0))]
def z_X6_firstPlan : List zI := [
  (0, 1, .aload_n 0, (0, 0, 0, 0, 0, 0)), (1, 3, .invokevirtual 184, (163, 0, 0, 0, 2, 6)), (4, 1, .iconst 0, (0, 0, 0, 0, 0, 0)), (5, 1, .istore_n 1, (0, 0, 0, 0, 0, 0)), (6, 1, .iload_n 1, (0, 0, 0, 0, 0, 0)), (7, 1, .aload_n 0, (0, 0, 0, 0, 0, 0)),
  (8, 3, .getfield 144, (6, 3, 0, 0, 0, 0)), (11, 3, .if_icmp .ge 16, (27, 0, 0, 0, 0, 0)), (14, 1, .aload_n 0, (0, 0, 0, 0, 0, 0)), (15, 3, .getfield 50, (6, 23, 2, 0, 0, 0)), (18, 1, .iload_n 1, (0, 0, 0, 0, 0, 0)), (19, 1, .iload_n 1, (0, 0, 0, 0, 0, 0)),
  (20, 1, .iastore, (0, 0, 0, 0, 0, 0)), (21, 3, .iinc 1 1, (0, 0, 0, 0, 0, 0)), (24, 3, .goto (-18), (6, 0, 0, 0, 0, 0)), (27, 1, .return_, (0, 0, 0, 0, 0, 0))]
def z_X6_areUnlike : List zI := [
  (0, 1, .iconst 0, (0, 0, 0, 0, 0, 0)), (1, 1, .istore_n 1, (0, 0, 0, 0, 0, 0)), (2, 1, .iconst 0, (0, 0, 0, 0, 0, 0)), (3, 1, .istore_n 2, (0, 0, 0, 0, 0, 0)), (4, 1, .iload_n 2, (0, 0, 0, 0, 0, 0)), (5, 1, .aload_n 0, (0, 0, 0, 0, 0, 0)),
  (6, 3, .getfield 144, (6, 3, 0, 0, 0, 0)), (9, 3, .if_icmp .ge 20, (29, 0, 0, 0, 0, 0)), (12, 1, .iload_n 1, (0, 0, 0, 0, 0, 0)), (13, 1, .iconst 1, (0, 0, 0, 0, 0, 0)), (14, 1, .aload_n 0, (0, 0, 0, 0, 0, 0)), (15, 3, .getfield 50, (6, 23, 2, 0, 0, 0)),
  (18, 1, .iload_n 2, (0, 0, 0, 0, 0, 0)), (19, 1, .iaload, (0, 0, 0, 0, 0, 0)), (20, 1, .ishl, (0, 0, 0, 0, 0, 0)), (21, 1, .ior, (0, 0, 0, 0, 0, 0)), (22, 1, .istore_n 1, (0, 0, 0, 0, 0, 0)), (23, 3, .iinc 2 1, (0, 0, 0, 0, 0, 0)),
  (26, 3, .goto (-22), (4, 0, 0, 0, 0, 0)), (29, 1, .iconst 0, (0, 0, 0, 0, 0, 0)), (30, 1, .istore_n 2, (0, 0, 0, 0, 0, 0)), (31, 1, .iconst 0, (0, 0, 0, 0, 0, 0)), (32, 1, .istore_n 3, (0, 0, 0, 0, 0, 0)), (33, 1, .iload_n 3, (0, 0, 0, 0, 0, 0)),
  (34, 1, .aload_n 0, (0, 0, 0, 0, 0, 0)), (35, 3, .getfield 141, (6, 1, 0, 0, 0, 0)), (38, 3, .if_icmp .ge 17, (55, 0, 0, 0, 0, 0)), (41, 1, .iload_n 2, (0, 0, 0, 0, 0, 0)), (42, 1, .iload_n 1, (0, 0, 0, 0, 0, 0)), (43, 1, .iload_n 3, (0, 0, 0, 0, 0, 0)),
  (44, 1, .ishr, (0, 0, 0, 0, 0, 0)), (45, 1, .iconst 1, (0, 0, 0, 0, 0, 0)), (46, 1, .iand, (0, 0, 0, 0, 0, 0)), (47, 1, .iadd, (0, 0, 0, 0, 0, 0)), (48, 1, .istore_n 2, (0, 0, 0, 0, 0, 0)), (49, 3, .iinc 3 1, (0, 0, 0, 0, 0, 0)),
  (52, 3, .goto (-19), (33, 0, 0, 0, 0, 0)), (55, 1, .iload_n 2, (0, 0, 0, 0, 0, 0)), (56, 1, .aload_n 0, (0, 0, 0, 0, 0, 0)), (57, 3, .getfield 144, (6, 3, 0, 0, 0, 0)), (60, 3, .if_icmp .ne 7, (67, 0, 0, 0, 0, 0)), (63, 1, .iconst 1, (0, 0, 0, 0, 0, 0)),
  (64, 3, .goto 4, (68, 0, 0, 0, 0, 0)), (67, 1, .iconst 0, (0, 0, 0, 0, 0, 0)), (68, 1, .ireturn, (1, 0, 0, 0, 0, 0))]
def z_X6_nextPlan : List zI := [
  (0, 1, .iconst 0, (0, 0, 0, 0, 0, 0)), (1, 1, .istore_n 1, (0, 0, 0, 0, 0, 0)), (2, 1, .iload_n 1, (0, 0, 0, 0, 0, 0)), (3, 3, .ifCond .ne 66, (69, 0, 0, 0, 0, 0)), (6, 1, .aload_n 0, (0, 0, 0, 0, 0, 0)), (7, 3, .getfield 144, (6, 3, 0, 0, 0, 0)),
  (10, 1, .iconst 1, (0, 0, 0, 0, 0, 0)), (11, 1, .isub, (0, 0, 0, 0, 0, 0)), (12, 1, .istore_n 2, (0, 0, 0, 0, 0, 0)), (13, 1, .iload_n 2, (0, 0, 0, 0, 0, 0)), (14, 3, .ifCond .lt 31, (45, 0, 0, 0, 0, 0)), (17, 1, .aload_n 0, (0, 0, 0, 0, 0, 0)),
  (18, 3, .getfield 50, (6, 23, 2, 0, 0, 0)), (21, 1, .iload_n 2, (0, 0, 0, 0, 0, 0)), (22, 1, .iaload, (0, 0, 0, 0, 0, 0)), (23, 1, .aload_n 0, (0, 0, 0, 0, 0, 0)), (24, 3, .getfield 141, (6, 1, 0, 0, 0, 0)), (27, 1, .iconst 1, (0, 0, 0, 0, 0, 0)),
  (28, 1, .isub, (0, 0, 0, 0, 0, 0)), (29, 3, .if_icmp .ne 16, (45, 0, 0, 0, 0, 0)), (32, 1, .aload_n 0, (0, 0, 0, 0, 0, 0)), (33, 3, .getfield 50, (6, 23, 2, 0, 0, 0)), (36, 1, .iload_n 2, (0, 0, 0, 0, 0, 0)), (37, 1, .iconst 0, (0, 0, 0, 0, 0, 0)),
  (38, 1, .iastore, (0, 0, 0, 0, 0, 0)), (39, 3, .iinc 2 (-1), (0, 0, 0, 0, 0, 0)), (42, 3, .goto (-29), (13, 0, 0, 0, 0, 0)), (45, 1, .iload_n 2, (0, 0, 0, 0, 0, 0)), (46, 3, .ifCond .ge 5, (51, 0, 0, 0, 0, 0)), (49, 1, .iconst 0, (0, 0, 0, 0, 0, 0)),
  (50, 1, .ireturn, (1, 0, 0, 0, 0, 0)), (51, 1, .aload_n 0, (0, 0, 0, 0, 0, 0)), (52, 3, .getfield 50, (6, 23, 2, 0, 0, 0)), (55, 1, .iload_n 2, (0, 0, 0, 0, 0, 0)), (56, 1, .dup2, (0, 0, 0, 0, 0, 0)), (57, 1, .iaload, (0, 0, 0, 0, 0, 0)),
  (58, 1, .iconst 1, (0, 0, 0, 0, 0, 0)), (59, 1, .iadd, (0, 0, 0, 0, 0, 0)), (60, 1, .iastore, (0, 0, 0, 0, 0, 0)), (61, 1, .aload_n 0, (0, 0, 0, 0, 0, 0)), (62, 3, .invokevirtual 223, (204, 0, 0, 1, 4, 6)), (65, 1, .istore_n 1, (0, 0, 0, 0, 0, 0)),
  (66, 3, .goto (-64), (2, 4, 0, 0, 0, 0)), (69, 1, .iconst 1, (0, 0, 0, 0, 0, 0)), (70, 1, .ireturn, (1, 0, 0, 0, 0, 0))]
def z_X6_valueOf : List zI := [
  (0, 1, .iload_n 1, (0, 0, 0, 0, 0, 0)), (1, 3, .ifCond .ne 11, (12, 0, 0, 0, 0, 0)), (4, 1, .aload_n 0, (0, 0, 0, 0, 0, 0)), (5, 1, .iload_n 2, (0, 0, 0, 0, 0, 0)), (6, 3, .invokevirtual 220, (174, 0, 1, 1, 4, 6)), (9, 3, .goto 27, (36, 0, 0, 0, 0, 0)),
  (12, 1, .iload_n 1, (0, 0, 0, 0, 0, 0)), (13, 1, .iconst 1, (0, 0, 0, 0, 0, 0)), (14, 3, .if_icmp .ne 11, (25, 0, 0, 0, 0, 0)), (17, 1, .aload_n 0, (0, 0, 0, 0, 0, 0)), (18, 1, .iload_n 2, (0, 0, 0, 0, 0, 0)), (19, 3, .invokevirtual 226, (175, 0, 1, 1, 5, 6)),
  (22, 3, .goto 14, (36, 0, 0, 0, 0, 0)), (25, 1, .aload_n 0, (0, 0, 0, 0, 0, 0)), (26, 1, .iconst 1, (0, 0, 0, 0, 0, 0)), (27, 3, .invokevirtual 220, (174, 0, 1, 1, 4, 6)), (30, 1, .aload_n 0, (0, 0, 0, 0, 0, 0)), (31, 1, .iconst 2, (0, 0, 0, 0, 0, 0)),
  (32, 3, .invokevirtual 220, (174, 0, 1, 1, 4, 6)), (35, 1, .iadd, (0, 0, 0, 0, 0, 0)), (36, 1, .ireturn, (0, 0, 0, 0, 0, 0))]
def z_X6_toBest : List zI := [
  (0, 1, .aload_n 0, (0, 0, 0, 0, 0, 0)), (1, 3, .getfield 144, (6, 3, 0, 0, 0, 0)), (4, 3, .ifCond .ne 6, (10, 0, 0, 0, 0, 0)), (7, 2, .bipush (-4), (0, 0, 0, 0, 0, 0)), (9, 1, .ireturn, (0, 0, 0, 0, 0, 0)), (10, 2, .bipush (-9), (0, 0, 0, 0, 0, 0)),
  (12, 2, .istore 4, (0, 0, 0, 0, 0, 0)), (14, 1, .aload_n 0, (0, 0, 0, 0, 0, 0)), (15, 3, .invokevirtual 229, (203, 0, 0, 0, 2, 6)), (18, 1, .iconst 1, (0, 0, 0, 0, 0, 0)), (19, 2, .istore 5, (0, 0, 0, 0, 0, 0)), (21, 2, .iload 5, (0, 0, 0, 0, 0, 0)),
  (23, 3, .ifCond .eq 84, (107, 0, 0, 0, 0, 0)), (26, 1, .aload_n 0, (0, 0, 0, 0, 0, 0)), (27, 1, .iload_n 1, (0, 0, 0, 0, 0, 0)), (28, 1, .iload_n 2, (0, 0, 0, 0, 0, 0)), (29, 3, .invokevirtual 232, (206, 0, 2, 1, 3, 6)), (32, 2, .istore 6, (0, 0, 0, 0, 0, 0)),
  (34, 2, .iload 4, (0, 0, 0, 0, 0, 0)), (36, 2, .bipush (-9), (0, 0, 0, 0, 0, 0)), (38, 3, .if_icmp .eq 10, (48, 0, 0, 0, 0, 0)), (41, 2, .iload 6, (0, 0, 0, 0, 0, 0)), (43, 2, .iload 4, (0, 0, 0, 0, 0, 0)), (45, 3, .if_icmp .ge 53, (98, 0, 0, 0, 0, 0)),
  (48, 2, .iload 6, (0, 0, 0, 0, 0, 0)), (50, 2, .istore 4, (0, 0, 0, 0, 0, 0)), (52, 1, .aload_n 0, (0, 0, 0, 0, 0, 0)), (53, 1, .iload_n 3, (0, 0, 0, 0, 0, 0)), (54, 1, .aload_n 0, (0, 0, 0, 0, 0, 0)), (55, 3, .getfield 144, (6, 3, 0, 0, 0, 0)),
  (58, 3, .invokevirtual 82, (143, 0, 2, 0, 4, 6)), (61, 1, .iconst 0, (0, 0, 0, 0, 0, 0)), (62, 2, .istore 7, (0, 0, 0, 0, 0, 0)), (64, 2, .iload 7, (0, 0, 0, 0, 0, 0)), (66, 1, .aload_n 0, (0, 0, 0, 0, 0, 0)), (67, 3, .getfield 144, (6, 3, 0, 0, 0, 0)),
  (70, 3, .if_icmp .ge 28, (98, 0, 0, 0, 0, 0)), (73, 1, .aload_n 0, (0, 0, 0, 0, 0, 0)), (74, 3, .getfield 28, (6, 8, 2, 0, 0, 0)), (77, 2, .bipush 40, (0, 0, 0, 0, 0, 0)), (79, 1, .iload_n 3, (0, 0, 0, 0, 0, 0)), (80, 1, .imul, (0, 0, 0, 0, 0, 0)),
  (81, 2, .iload 7, (0, 0, 0, 0, 0, 0)), (83, 1, .iadd, (0, 0, 0, 0, 0, 0)), (84, 1, .aload_n 0, (0, 0, 0, 0, 0, 0)), (85, 3, .getfield 50, (6, 23, 2, 0, 0, 0)), (88, 2, .iload 7, (0, 0, 0, 0, 0, 0)), (90, 1, .iaload, (0, 0, 0, 0, 0, 0)),
  (91, 1, .iastore, (0, 0, 0, 0, 0, 0)), (92, 3, .iinc 7 1, (0, 0, 0, 0, 0, 0)), (95, 3, .goto (-31), (64, 0, 0, 0, 0, 0)), (98, 1, .aload_n 0, (0, 0, 0, 0, 0, 0)), (99, 3, .invokevirtual 235, (205, 0, 0, 1, 3, 6)), (102, 2, .istore 5, (0, 0, 0, 0, 0, 0)),
  (104, 3, .goto (-83), (21, 192, 0, 0, 0, 0)), (107, 2, .iload 4, (0, 0, 0, 0, 0, 0)), (109, 1, .ireturn, (0, 0, 0, 0, 0, 0))]
def z_X6_best : List zI := [
  (0, 1, .iload_n 1, (0, 0, 0, 0, 0, 0)), (1, 3, .invokestatic 208, (166, 2, 1, 1, 1, 0)), (4, 3, .ifCond .eq 20, (24, 0, 0, 0, 0, 0)), (7, 1, .iload_n 2, (0, 0, 0, 0, 0, 0)), (8, 3, .invokestatic 74, (140, 2, 1, 1, 1, 0)), (11, 3, .ifCond .eq 13, (24, 0, 0, 0, 0, 0)),
  (14, 1, .aload_n 0, (0, 0, 0, 0, 0, 0)), (15, 1, .iconst 0, (0, 0, 0, 0, 0, 0)), (16, 1, .iload_n 1, (0, 0, 0, 0, 0, 0)), (17, 1, .iload_n 2, (0, 0, 0, 0, 0, 0)), (18, 3, .invokevirtual 238, (207, 0, 3, 1, 8, 6)), (21, 3, .goto 4, (25, 0, 0, 0, 0, 0)),
  (24, 1, .iconst (-1), (0, 0, 0, 0, 0, 0)), (25, 1, .ireturn, (0, 0, 0, 0, 0, 0))]
def z_X6_fair : List zI := [
  (0, 1, .iload_n 1, (0, 0, 0, 0, 0, 0)), (1, 3, .invokestatic 208, (166, 2, 1, 1, 1, 0)), (4, 3, .ifCond .eq 20, (24, 0, 0, 0, 0, 0)), (7, 1, .iload_n 2, (0, 0, 0, 0, 0, 0)), (8, 3, .invokestatic 74, (140, 2, 1, 1, 1, 0)), (11, 3, .ifCond .eq 13, (24, 0, 0, 0, 0, 0)),
  (14, 1, .aload_n 0, (0, 0, 0, 0, 0, 0)), (15, 1, .iconst 1, (0, 0, 0, 0, 0, 0)), (16, 1, .iload_n 1, (0, 0, 0, 0, 0, 0)), (17, 1, .iload_n 2, (0, 0, 0, 0, 0, 0)), (18, 3, .invokevirtual 238, (207, 0, 3, 1, 8, 6)), (21, 3, .goto 4, (25, 0, 0, 0, 0, 0)),
  (24, 1, .iconst (-1), (0, 0, 0, 0, 0, 0)), (25, 1, .ireturn, (0, 0, 0, 0, 0, 0))]
def z_X6_mixed : List zI := [
  (0, 1, .iload_n 1, (0, 0, 0, 0, 0, 0)), (1, 3, .invokestatic 74, (140, 2, 1, 1, 1, 0)), (4, 3, .ifCond .eq 13, (17, 0, 0, 0, 0, 0)), (7, 1, .aload_n 0, (0, 0, 0, 0, 0, 0)), (8, 1, .iconst 2, (0, 0, 0, 0, 0, 0)), (9, 1, .iconst 0, (0, 0, 0, 0, 0, 0)),
  (10, 1, .iload_n 1, (0, 0, 0, 0, 0, 0)), (11, 3, .invokevirtual 238, (207, 0, 3, 1, 8, 6)), (14, 3, .goto 4, (18, 0, 0, 0, 0, 0)), (17, 1, .iconst (-1), (0, 0, 0, 0, 0, 0)), (18, 1, .ireturn, (0, 0, 0, 0, 0, 0))]
def z_X6_isPlan : List zI := [
  (0, 1, .iconst 1, (0, 0, 0, 0, 0, 0)), (1, 1, .istore_n 2, (0, 0, 0, 0, 0, 0)), (2, 1, .iconst 0, (0, 0, 0, 0, 0, 0)), (3, 1, .istore_n 3, (0, 0, 0, 0, 0, 0)), (4, 1, .iload_n 3, (0, 0, 0, 0, 0, 0)), (5, 1, .aload_n 0, (0, 0, 0, 0, 0, 0)),
  (6, 3, .getfield 144, (6, 3, 0, 0, 0, 0)), (9, 3, .if_icmp .ge 54, (63, 0, 0, 0, 0, 0)), (12, 1, .iload_n 2, (0, 0, 0, 0, 0, 0)), (13, 3, .ifCond .eq 25, (38, 0, 0, 0, 0, 0)), (16, 1, .aload_n 0, (0, 0, 0, 0, 0, 0)), (17, 1, .aload_n 0, (0, 0, 0, 0, 0, 0)),
  (18, 3, .getfield 28, (6, 8, 2, 0, 0, 0)), (21, 2, .bipush 40, (0, 0, 0, 0, 0, 0)), (23, 1, .iload_n 1, (0, 0, 0, 0, 0, 0)), (24, 1, .imul, (0, 0, 0, 0, 0, 0)), (25, 1, .iload_n 3, (0, 0, 0, 0, 0, 0)), (26, 1, .iadd, (0, 0, 0, 0, 0, 0)),
  (27, 1, .iaload, (0, 0, 0, 0, 0, 0)), (28, 3, .invokevirtual 175, (165, 0, 1, 1, 2, 6)), (31, 3, .ifCond .eq 7, (38, 0, 0, 0, 0, 0)), (34, 1, .iconst 1, (0, 0, 0, 0, 0, 0)), (35, 3, .goto 4, (39, 0, 0, 0, 0, 0)), (38, 1, .iconst 0, (0, 0, 0, 0, 0, 0)),
  (39, 1, .istore_n 2, (0, 0, 0, 0, 0, 0)), (40, 1, .aload_n 0, (0, 0, 0, 0, 0, 0)), (41, 3, .getfield 50, (6, 23, 2, 0, 0, 0)), (44, 1, .iload_n 3, (0, 0, 0, 0, 0, 0)), (45, 1, .aload_n 0, (0, 0, 0, 0, 0, 0)), (46, 3, .getfield 28, (6, 8, 2, 0, 0, 0)),
  (49, 2, .bipush 40, (0, 0, 0, 0, 0, 0)), (51, 1, .iload_n 1, (0, 0, 0, 0, 0, 0)), (52, 1, .imul, (0, 0, 0, 0, 0, 0)), (53, 1, .iload_n 3, (0, 0, 0, 0, 0, 0)), (54, 1, .iadd, (0, 0, 0, 0, 0, 0)), (55, 1, .iaload, (0, 0, 0, 0, 0, 0)),
  (56, 1, .iastore, (0, 0, 0, 0, 0, 0)), (57, 3, .iinc 3 1, (0, 0, 0, 0, 0, 0)), (60, 3, .goto (-56), (4, 0, 0, 0, 0, 0)), (63, 1, .iload_n 2, (0, 0, 0, 0, 0, 0)), (64, 3, .ifCond .eq 14, (78, 0, 0, 0, 0, 0)), (67, 1, .aload_n 0, (0, 0, 0, 0, 0, 0)),
  (68, 3, .invokevirtual 223, (204, 0, 0, 1, 4, 6)), (71, 3, .ifCond .eq 7, (78, 0, 0, 0, 0, 0)), (74, 1, .iconst 1, (0, 0, 0, 0, 0, 0)), (75, 3, .goto 4, (79, 0, 0, 0, 0, 0)), (78, 1, .iconst 0, (0, 0, 0, 0, 0, 0)), (79, 1, .ireturn, (1, 0, 0, 0, 0, 0))]
def z_X6_judge : List zI := [
  (0, 1, .iload_n 1, (0, 0, 0, 0, 0, 0)), (1, 3, .invokestatic 74, (140, 2, 1, 1, 1, 0)), (4, 3, .ifCond .eq 10, (14, 0, 0, 0, 0, 0)), (7, 1, .iload_n 2, (0, 0, 0, 0, 0, 0)), (8, 3, .invokestatic 208, (166, 2, 1, 1, 1, 0)), (11, 3, .ifCond .ne 5, (16, 0, 0, 0, 0, 0)),
  (14, 1, .iconst (-1), (0, 0, 0, 0, 0, 0)), (15, 1, .ireturn, (0, 0, 0, 0, 0, 0)), (16, 1, .aload_n 0, (0, 0, 0, 0, 0, 0)), (17, 3, .getfield 144, (6, 3, 0, 0, 0, 0)), (20, 3, .ifCond .ne 6, (26, 0, 0, 0, 0, 0)), (23, 2, .bipush (-4), (0, 0, 0, 0, 0, 0)),
  (25, 1, .ireturn, (0, 0, 0, 0, 0, 0)), (26, 1, .aload_n 0, (0, 0, 0, 0, 0, 0)), (27, 3, .getfield 25, (6, 7, 2, 0, 0, 0)), (30, 1, .iload_n 1, (0, 0, 0, 0, 0, 0)), (31, 1, .iaload, (0, 0, 0, 0, 0, 0)), (32, 3, .ifCond .ge 9, (41, 0, 0, 0, 0, 0)),
  (35, 1, .aload_n 0, (0, 0, 0, 0, 0, 0)), (36, 1, .iconst 1, (0, 0, 0, 0, 0, 0)), (37, 3, .invokevirtual 78, (138, 0, 1, 1, 2, 6)), (40, 1, .ireturn, (0, 0, 0, 0, 0, 0)), (41, 1, .aload_n 0, (0, 0, 0, 0, 0, 0)), (42, 3, .getfield 25, (6, 7, 2, 0, 0, 0)),
  (45, 1, .iload_n 1, (0, 0, 0, 0, 0, 0)), (46, 1, .iaload, (0, 0, 0, 0, 0, 0)), (47, 1, .aload_n 0, (0, 0, 0, 0, 0, 0)), (48, 3, .getfield 144, (6, 3, 0, 0, 0, 0)), (51, 3, .if_icmp .eq 9, (60, 0, 0, 0, 0, 0)), (54, 1, .aload_n 0, (0, 0, 0, 0, 0, 0)),
  (55, 1, .iconst 5, (0, 0, 0, 0, 0, 0)), (56, 3, .invokevirtual 78, (138, 0, 1, 1, 2, 6)), (59, 1, .ireturn, (0, 0, 0, 0, 0, 0)), (60, 1, .aload_n 0, (0, 0, 0, 0, 0, 0)), (61, 3, .invokevirtual 184, (163, 0, 0, 0, 2, 6)), (64, 1, .aload_n 0, (0, 0, 0, 0, 0, 0)),
  (65, 1, .iload_n 1, (0, 0, 0, 0, 0, 0)), (66, 3, .invokevirtual 241, (211, 0, 1, 1, 4, 6)), (69, 3, .ifCond .eq 11, (80, 0, 0, 0, 0, 0)), (72, 1, .aload_n 0, (0, 0, 0, 0, 0, 0)), (73, 1, .iload_n 2, (0, 0, 0, 0, 0, 0)), (74, 3, .invokevirtual 220, (174, 0, 1, 1, 4, 6)),
  (77, 3, .goto 8, (85, 0, 0, 0, 0, 0)), (80, 1, .aload_n 0, (0, 0, 0, 0, 0, 0)), (81, 1, .iconst 3, (0, 0, 0, 0, 0, 0)), (82, 3, .invokevirtual 78, (138, 0, 1, 1, 2, 6)), (85, 1, .ireturn, (0, 0, 0, 0, 0, 0))]
def z_X6_swap : List zI := [
  (0, 1, .aload_n 0, (0, 0, 0, 0, 0, 0)), (1, 3, .getfield 50, (6, 23, 2, 0, 0, 0)), (4, 1, .iload_n 1, (0, 0, 0, 0, 0, 0)), (5, 1, .iaload, (0, 0, 0, 0, 0, 0)), (6, 1, .istore_n 3, (0, 0, 0, 0, 0, 0)), (7, 1, .aload_n 0, (0, 0, 0, 0, 0, 0)),
  (8, 3, .getfield 50, (6, 23, 2, 0, 0, 0)), (11, 1, .iload_n 1, (0, 0, 0, 0, 0, 0)), (12, 1, .aload_n 0, (0, 0, 0, 0, 0, 0)), (13, 3, .getfield 50, (6, 23, 2, 0, 0, 0)), (16, 1, .iload_n 2, (0, 0, 0, 0, 0, 0)), (17, 1, .iaload, (0, 0, 0, 0, 0, 0)),
  (18, 1, .iastore, (0, 0, 0, 0, 0, 0)), (19, 1, .aload_n 0, (0, 0, 0, 0, 0, 0)), (20, 3, .getfield 50, (6, 23, 2, 0, 0, 0)), (23, 1, .iload_n 2, (0, 0, 0, 0, 0, 0)), (24, 1, .iload_n 3, (0, 0, 0, 0, 0, 0)), (25, 1, .iastore, (0, 0, 0, 0, 0, 0)),
  (26, 1, .return_, (0, 0, 0, 0, 0, 0))]
def z_X6_gain : List zI := [
  (0, 1, .aload_n 0, (0, 0, 0, 0, 0, 0)), (1, 1, .iload_n 1, (0, 0, 0, 0, 0, 0)), (2, 1, .iload_n 2, (0, 0, 0, 0, 0, 0)), (3, 3, .invokevirtual 203, (188, 0, 2, 1, 3, 6)), (6, 3, .ifCond .eq 10, (16, 0, 0, 0, 0, 0)), (9, 1, .iload_n 3, (0, 0, 0, 0, 0, 0)),
  (10, 3, .invokestatic 208, (166, 2, 1, 1, 1, 0)), (13, 3, .ifCond .ne 5, (18, 0, 0, 0, 0, 0)), (16, 1, .iconst (-1), (0, 0, 0, 0, 0, 0)), (17, 1, .ireturn, (0, 0, 0, 0, 0, 0)), (18, 1, .aload_n 0, (0, 0, 0, 0, 0, 0)), (19, 3, .invokevirtual 184, (163, 0, 0, 0, 2, 6)),
  (22, 1, .aload_n 0, (0, 0, 0, 0, 0, 0)), (23, 1, .iload_n 3, (0, 0, 0, 0, 0, 0)), (24, 3, .invokevirtual 220, (174, 0, 1, 1, 4, 6)), (27, 2, .istore 4, (0, 0, 0, 0, 0, 0)), (29, 1, .aload_n 0, (0, 0, 0, 0, 0, 0)), (30, 1, .iload_n 1, (0, 0, 0, 0, 0, 0)),
  (31, 1, .iload_n 2, (0, 0, 0, 0, 0, 0)), (32, 3, .invokevirtual 244, (213, 0, 2, 0, 4, 6)), (35, 2, .bipush 100, (0, 0, 0, 0, 0, 0)), (37, 2, .iload 4, (0, 0, 0, 0, 0, 0)), (39, 1, .iadd, (0, 0, 0, 0, 0, 0)), (40, 1, .aload_n 0, (0, 0, 0, 0, 0, 0)),
  (41, 1, .iload_n 3, (0, 0, 0, 0, 0, 0)), (42, 3, .invokevirtual 220, (174, 0, 1, 1, 4, 6)), (45, 1, .isub, (0, 0, 0, 0, 0, 0)), (46, 1, .ireturn, (0, 0, 0, 0, 0, 0))]
def z_X6_wouldChange : List zI := [
  (0, 1, .aload_n 0, (0, 0, 0, 0, 0, 0)), (1, 1, .iload_n 1, (0, 0, 0, 0, 0, 0)), (2, 1, .iload_n 3, (0, 0, 0, 0, 0, 0)), (3, 3, .invokevirtual 149, (167, 0, 2, 1, 3, 6)), (6, 3, .ifCond .eq 12, (18, 0, 0, 0, 0, 0)), (9, 1, .aload_n 0, (0, 0, 0, 0, 0, 0)),
  (10, 1, .iload_n 2, (0, 0, 0, 0, 0, 0)), (11, 1, .iload_n 3, (0, 0, 0, 0, 0, 0)), (12, 3, .invokevirtual 149, (167, 0, 2, 1, 3, 6)), (15, 3, .ifCond .ne 5, (20, 0, 0, 0, 0, 0)), (18, 1, .iconst 0, (0, 0, 0, 0, 0, 0)), (19, 1, .ireturn, (1, 0, 0, 0, 0, 0)),
  (20, 1, .aload_n 0, (0, 0, 0, 0, 0, 0)), (21, 1, .iload_n 1, (0, 0, 0, 0, 0, 0)), (22, 1, .iload_n 3, (0, 0, 0, 0, 0, 0)), (23, 2, .bipush (-9), (0, 0, 0, 0, 0, 0)), (25, 3, .invokevirtual 165, (173, 0, 3, 1, 6, 6)), (28, 2, .istore 4, (0, 0, 0, 0, 0, 0)),
  (30, 1, .aload_n 0, (0, 0, 0, 0, 0, 0)), (31, 1, .iload_n 2, (0, 0, 0, 0, 0, 0)), (32, 1, .iload_n 3, (0, 0, 0, 0, 0, 0)), (33, 2, .bipush (-9), (0, 0, 0, 0, 0, 0)), (35, 3, .invokevirtual 165, (173, 0, 3, 1, 6, 6)), (38, 2, .istore 5, (0, 0, 0, 0, 0, 0)),
  (40, 1, .aload_n 0, (0, 0, 0, 0, 0, 0)), (41, 1, .iload_n 1, (0, 0, 0, 0, 0, 0)), (42, 1, .iload_n 2, (0, 0, 0, 0, 0, 0)), (43, 3, .invokevirtual 244, (213, 0, 2, 0, 4, 6)), (46, 1, .aload_n 0, (0, 0, 0, 0, 0, 0)), (47, 1, .iload_n 1, (0, 0, 0, 0, 0, 0)),
  (48, 1, .iload_n 3, (0, 0, 0, 0, 0, 0)), (49, 2, .bipush (-9), (0, 0, 0, 0, 0, 0)), (51, 3, .invokevirtual 165, (173, 0, 3, 1, 6, 6)), (54, 2, .iload 4, (0, 0, 0, 0, 0, 0)), (56, 3, .if_icmp .ge 20, (76, 0, 0, 0, 0, 0)), (59, 1, .aload_n 0, (0, 0, 0, 0, 0, 0)),
  (60, 1, .iload_n 2, (0, 0, 0, 0, 0, 0)), (61, 1, .iload_n 3, (0, 0, 0, 0, 0, 0)), (62, 2, .bipush (-9), (0, 0, 0, 0, 0, 0)), (64, 3, .invokevirtual 165, (173, 0, 3, 1, 6, 6)), (67, 2, .iload 5, (0, 0, 0, 0, 0, 0)), (69, 3, .if_icmp .ge 7, (76, 0, 0, 0, 0, 0)),
  (72, 1, .iconst 1, (0, 0, 0, 0, 0, 0)), (73, 3, .goto 4, (77, 0, 0, 0, 0, 0)), (76, 1, .iconst 0, (0, 0, 0, 0, 0, 0)), (77, 2, .istore 6, (0, 0, 0, 0, 0, 0)), (79, 1, .aload_n 0, (0, 0, 0, 0, 0, 0)), (80, 1, .iload_n 1, (0, 0, 0, 0, 0, 0)),
  (81, 1, .iload_n 2, (0, 0, 0, 0, 0, 0)), (82, 3, .invokevirtual 244, (213, 0, 2, 0, 4, 6)), (85, 2, .iload 6, (0, 0, 0, 0, 0, 0)), (87, 1, .ireturn, (1, 0, 0, 0, 0, 0))]
def z_X6_calm : List zI := [
  (0, 1, .iload_n 1, (0, 0, 0, 0, 0, 0)), (1, 3, .invokestatic 208, (166, 2, 1, 1, 1, 0)), (4, 3, .ifCond .ne 5, (9, 0, 0, 0, 0, 0)), (7, 1, .iconst (-1), (0, 0, 0, 0, 0, 0)), (8, 1, .ireturn, (0, 0, 0, 0, 0, 0)), (9, 1, .aload_n 0, (0, 0, 0, 0, 0, 0)),
  (10, 3, .invokevirtual 184, (163, 0, 0, 0, 2, 6)), (13, 1, .aload_n 0, (0, 0, 0, 0, 0, 0)), (14, 2, .bipush (-9), (0, 0, 0, 0, 0, 0)), (16, 3, .putfield 63, (6, 11, 0, 0, 0, 0)), (19, 1, .iconst 0, (0, 0, 0, 0, 0, 0)), (20, 1, .istore_n 2, (0, 0, 0, 0, 0, 0)),
  (21, 1, .iload_n 2, (0, 0, 0, 0, 0, 0)), (22, 1, .aload_n 0, (0, 0, 0, 0, 0, 0)), (23, 3, .getfield 144, (6, 3, 0, 0, 0, 0)), (26, 3, .if_icmp .ge 63, (89, 0, 0, 0, 0, 0)), (29, 1, .iload_n 2, (0, 0, 0, 0, 0, 0)), (30, 1, .iconst 1, (0, 0, 0, 0, 0, 0)),
  (31, 1, .iadd, (0, 0, 0, 0, 0, 0)), (32, 1, .istore_n 3, (0, 0, 0, 0, 0, 0)), (33, 1, .iload_n 3, (0, 0, 0, 0, 0, 0)), (34, 1, .aload_n 0, (0, 0, 0, 0, 0, 0)), (35, 3, .getfield 144, (6, 3, 0, 0, 0, 0)), (38, 3, .if_icmp .ge 45, (83, 0, 0, 0, 0, 0)),
  (41, 1, .aload_n 0, (0, 0, 0, 0, 0, 0)), (42, 1, .aload_n 0, (0, 0, 0, 0, 0, 0)), (43, 3, .getfield 63, (6, 11, 0, 0, 0, 0)), (46, 2, .bipush (-9), (0, 0, 0, 0, 0, 0)), (48, 3, .if_icmp .ne 22, (70, 0, 0, 0, 0, 0)), (51, 1, .aload_n 0, (0, 0, 0, 0, 0, 0)),
  (52, 1, .iload_n 2, (0, 0, 0, 0, 0, 0)), (53, 1, .iload_n 3, (0, 0, 0, 0, 0, 0)), (54, 1, .iload_n 1, (0, 0, 0, 0, 0, 0)), (55, 3, .invokevirtual 247, (215, 0, 3, 1, 7, 6)), (58, 3, .ifCond .eq 12, (70, 0, 0, 0, 0, 0)), (61, 2, .bipush 6, (0, 0, 0, 0, 0, 0)),
  (63, 1, .iload_n 2, (0, 0, 0, 0, 0, 0)), (64, 1, .imul, (0, 0, 0, 0, 0, 0)), (65, 1, .iload_n 3, (0, 0, 0, 0, 0, 0)), (66, 1, .iadd, (0, 0, 0, 0, 0, 0)), (67, 3, .goto 7, (74, 0, 0, 0, 0, 0)), (70, 1, .aload_n 0, (0, 0, 0, 0, 0, 0)),
  (71, 3, .getfield 63, (6, 11, 0, 0, 0, 0)), (74, 3, .putfield 63, (6, 11, 0, 0, 0, 0)), (77, 3, .iinc 3 1, (0, 0, 0, 0, 0, 0)), (80, 3, .goto (-47), (33, 0, 0, 0, 0, 0)), (83, 3, .iinc 2 1, (0, 0, 0, 0, 0, 0)), (86, 3, .goto (-65), (21, 8, 0, 0, 0, 0)),
  (89, 1, .aload_n 0, (0, 0, 0, 0, 0, 0)), (90, 3, .getfield 63, (6, 11, 0, 0, 0, 0)), (93, 2, .bipush (-9), (0, 0, 0, 0, 0, 0)), (95, 3, .if_icmp .ne 7, (102, 0, 0, 0, 0, 0)), (98, 1, .iconst 1, (0, 0, 0, 0, 0, 0)), (99, 3, .goto 4, (103, 0, 0, 0, 0, 0)),
  (102, 1, .iconst 0, (0, 0, 0, 0, 0, 0)), (103, 1, .ireturn, (0, 0, 0, 0, 0, 0))]
def z_X6_matesTried : List zI := [
  (0, 1, .iconst 0, (0, 0, 0, 0, 0, 0)), (1, 1, .istore_n 1, (0, 0, 0, 0, 0, 0)), (2, 1, .iconst 0, (0, 0, 0, 0, 0, 0)), (3, 1, .istore_n 2, (0, 0, 0, 0, 0, 0)), (4, 1, .iload_n 2, (0, 0, 0, 0, 0, 0)), (5, 1, .aload_n 0, (0, 0, 0, 0, 0, 0)),
  (6, 3, .getfield 144, (6, 3, 0, 0, 0, 0)), (9, 3, .if_icmp .ge 55, (64, 0, 0, 0, 0, 0)), (12, 1, .iconst 0, (0, 0, 0, 0, 0, 0)), (13, 1, .istore_n 3, (0, 0, 0, 0, 0, 0)), (14, 1, .iload_n 3, (0, 0, 0, 0, 0, 0)), (15, 1, .iload_n 2, (0, 0, 0, 0, 0, 0)),
  (16, 3, .if_icmp .ge 42, (58, 0, 0, 0, 0, 0)), (19, 1, .iload_n 1, (0, 0, 0, 0, 0, 0)), (20, 1, .aload_n 0, (0, 0, 0, 0, 0, 0)), (21, 3, .getfield 22, (6, 6, 2, 0, 0, 0)), (24, 1, .iload_n 2, (0, 0, 0, 0, 0, 0)), (25, 1, .iaload, (0, 0, 0, 0, 0, 0)),
  (26, 1, .aload_n 0, (0, 0, 0, 0, 0, 0)), (27, 3, .getfield 22, (6, 6, 2, 0, 0, 0)), (30, 1, .iload_n 3, (0, 0, 0, 0, 0, 0)), (31, 1, .iaload, (0, 0, 0, 0, 0, 0)), (32, 3, .if_icmp .ne 17, (49, 0, 0, 0, 0, 0)), (35, 1, .aload_n 0, (0, 0, 0, 0, 0, 0)),
  (36, 1, .iload_n 3, (0, 0, 0, 0, 0, 0)), (37, 1, .iload_n 2, (0, 0, 0, 0, 0, 0)), (38, 1, .iconst 0, (0, 0, 0, 0, 0, 0)), (39, 3, .invokevirtual 153, (168, 0, 3, 1, 5, 6)), (42, 3, .ifCond .eq 7, (49, 0, 0, 0, 0, 0)), (45, 1, .iconst 1, (0, 0, 0, 0, 0, 0)),
  (46, 3, .goto 4, (50, 0, 0, 0, 0, 0)), (49, 1, .iconst 0, (0, 0, 0, 0, 0, 0)), (50, 1, .iadd, (0, 0, 0, 0, 0, 0)), (51, 1, .istore_n 1, (0, 0, 0, 0, 0, 0)), (52, 3, .iinc 3 1, (0, 0, 0, 0, 0, 0)), (55, 3, .goto (-41), (14, 0, 0, 0, 0, 0)),
  (58, 3, .iinc 2 1, (0, 0, 0, 0, 0, 0)), (61, 3, .goto (-57), (4, 8, 0, 0, 0, 0)), (64, 1, .iload_n 1, (0, 0, 0, 0, 0, 0)), (65, 1, .ireturn, (0, 0, 0, 0, 0, 0))]
def z_X6_mates : List zI := [
  (0, 1, .aload_n 0, (0, 0, 0, 0, 0, 0)), (1, 3, .getfield 144, (6, 3, 0, 0, 0, 0)), (4, 3, .ifCond .ne 6, (10, 0, 0, 0, 0, 0)), (7, 2, .bipush (-4), (0, 0, 0, 0, 0, 0)), (9, 1, .ireturn, (0, 0, 0, 0, 0, 0)), (10, 1, .aload_n 0, (0, 0, 0, 0, 0, 0)),
  (11, 3, .invokevirtual 184, (163, 0, 0, 0, 2, 6)), (14, 1, .aload_n 0, (0, 0, 0, 0, 0, 0)), (15, 3, .invokevirtual 250, (217, 0, 0, 1, 4, 6)), (18, 1, .istore_n 1, (0, 0, 0, 0, 0, 0)), (19, 1, .aload_n 0, (0, 0, 0, 0, 0, 0)), (20, 1, .iconst 0, (0, 0, 0, 0, 0, 0)),
  (21, 3, .putfield 63, (6, 11, 0, 0, 0, 0)), (24, 1, .aload_n 0, (0, 0, 0, 0, 0, 0)), (25, 3, .invokevirtual 229, (203, 0, 0, 0, 2, 6)), (28, 1, .iconst 1, (0, 0, 0, 0, 0, 0)), (29, 1, .istore_n 2, (0, 0, 0, 0, 0, 0)), (30, 1, .iload_n 2, (0, 0, 0, 0, 0, 0)),
  (31, 3, .ifCond .eq 36, (67, 0, 0, 0, 0, 0)), (34, 1, .aload_n 0, (0, 0, 0, 0, 0, 0)), (35, 3, .invokevirtual 250, (217, 0, 0, 1, 4, 6)), (38, 1, .istore_n 3, (0, 0, 0, 0, 0, 0)), (39, 1, .aload_n 0, (0, 0, 0, 0, 0, 0)), (40, 1, .iload_n 3, (0, 0, 0, 0, 0, 0)),
  (41, 1, .aload_n 0, (0, 0, 0, 0, 0, 0)), (42, 3, .getfield 63, (6, 11, 0, 0, 0, 0)), (45, 3, .if_icmp .le 7, (52, 0, 0, 0, 0, 0)), (48, 1, .iload_n 3, (0, 0, 0, 0, 0, 0)), (49, 3, .goto 7, (56, 0, 0, 0, 0, 0)), (52, 1, .aload_n 0, (0, 0, 0, 0, 0, 0)),
  (53, 3, .getfield 63, (6, 11, 0, 0, 0, 0)), (56, 3, .putfield 63, (6, 11, 0, 0, 0, 0)), (59, 1, .aload_n 0, (0, 0, 0, 0, 0, 0)), (60, 3, .invokevirtual 235, (205, 0, 0, 1, 3, 6)), (63, 1, .istore_n 2, (0, 0, 0, 0, 0, 0)), (64, 3, .goto (-34), (30, 8, 0, 0, 0, 0)),
  (67, 1, .iload_n 1, (0, 0, 0, 0, 0, 0)), (68, 1, .ireturn, (0, 0, 0, 0, 0, 0))]
def z_X6_cut : List zI := [
  (0, 1, .aload_n 0, (0, 0, 0, 0, 0, 0)), (1, 1, .iload_n 1, (0, 0, 0, 0, 0, 0)), (2, 3, .invokevirtual 169, (164, 0, 1, 1, 2, 6)), (5, 3, .ifCond .eq 10, (15, 0, 0, 0, 0, 0)), (8, 1, .iload_n 2, (0, 0, 0, 0, 0, 0)), (9, 3, .invokestatic 208, (166, 2, 1, 1, 1, 0)),
  (12, 3, .ifCond .ne 5, (17, 0, 0, 0, 0, 0)), (15, 1, .iconst (-1), (0, 0, 0, 0, 0, 0)), (16, 1, .ireturn, (0, 0, 0, 0, 0, 0)), (17, 1, .aload_n 0, (0, 0, 0, 0, 0, 0)), (18, 3, .invokevirtual 184, (163, 0, 0, 0, 2, 6)), (21, 2, .bipush (-9), (0, 0, 0, 0, 0, 0)),
  (23, 1, .istore_n 3, (0, 0, 0, 0, 0, 0)), (24, 1, .iconst 1, (0, 0, 0, 0, 0, 0)), (25, 2, .istore 4, (0, 0, 0, 0, 0, 0)), (27, 2, .iload 4, (0, 0, 0, 0, 0, 0)), (29, 2, .bipush 10, (0, 0, 0, 0, 0, 0)), (31, 3, .if_icmp .ge 76, (107, 0, 0, 0, 0, 0)),
  (34, 1, .aload_n 0, (0, 0, 0, 0, 0, 0)), (35, 3, .getfield 53, (6, 24, 2, 0, 0, 0)), (38, 1, .iload_n 1, (0, 0, 0, 0, 0, 0)), (39, 2, .iload 4, (0, 0, 0, 0, 0, 0)), (41, 1, .iastore, (0, 0, 0, 0, 0, 0)), (42, 1, .aload_n 0, (0, 0, 0, 0, 0, 0)),
  (43, 1, .iload_n 2, (0, 0, 0, 0, 0, 0)), (44, 3, .invokevirtual 220, (174, 0, 1, 1, 4, 6)), (47, 2, .istore 5, (0, 0, 0, 0, 0, 0)), (49, 1, .iload_n 3, (0, 0, 0, 0, 0, 0)), (50, 2, .bipush (-9), (0, 0, 0, 0, 0, 0)), (52, 3, .if_icmp .eq 12, (64, 0, 0, 0, 0, 0)),
  (55, 2, .iload 5, (0, 0, 0, 0, 0, 0)), (57, 1, .aload_n 0, (0, 0, 0, 0, 0, 0)), (58, 3, .getfield 63, (6, 11, 0, 0, 0, 0)), (61, 3, .if_icmp .ge 7, (68, 0, 0, 0, 0, 0)), (64, 1, .iconst 1, (0, 0, 0, 0, 0, 0)), (65, 3, .goto 4, (69, 0, 0, 0, 0, 0)),
  (68, 1, .iconst 0, (0, 0, 0, 0, 0, 0)), (69, 2, .istore 6, (0, 0, 0, 0, 0, 0)), (71, 2, .iload 6, (0, 0, 0, 0, 0, 0)), (73, 3, .ifCond .eq 8, (81, 0, 0, 0, 0, 0)), (76, 2, .iload 4, (0, 0, 0, 0, 0, 0)), (78, 3, .goto 4, (82, 0, 0, 0, 0, 0)),
  (81, 1, .iload_n 3, (0, 0, 0, 0, 0, 0)), (82, 1, .istore_n 3, (0, 0, 0, 0, 0, 0)), (83, 1, .aload_n 0, (0, 0, 0, 0, 0, 0)), (84, 2, .iload 6, (0, 0, 0, 0, 0, 0)), (86, 3, .ifCond .eq 8, (94, 0, 0, 0, 0, 0)), (89, 2, .iload 5, (0, 0, 0, 0, 0, 0)),
  (91, 3, .goto 7, (98, 0, 0, 0, 0, 0)), (94, 1, .aload_n 0, (0, 0, 0, 0, 0, 0)), (95, 3, .getfield 63, (6, 11, 0, 0, 0, 0)), (98, 3, .putfield 63, (6, 11, 0, 0, 0, 0)), (101, 3, .iinc 4 1, (0, 0, 0, 0, 0, 0)), (104, 3, .goto (-77), (27, 96, 0, 0, 0, 0)),
  (107, 1, .iload_n 3, (0, 0, 0, 0, 0, 0)), (108, 1, .ireturn, (0, 0, 0, 0, 0, 0))]
def z_X6_nextOrder : List zI := [
  (0, 1, .iload_n 1, (0, 0, 0, 0, 0, 0)), (1, 1, .iconst 2, (0, 0, 0, 0, 0, 0)), (2, 1, .isub, (0, 0, 0, 0, 0, 0)), (3, 1, .istore_n 2, (0, 0, 0, 0, 0, 0)), (4, 1, .iload_n 2, (0, 0, 0, 0, 0, 0)), (5, 3, .ifCond .lt 26, (31, 0, 0, 0, 0, 0)),
  (8, 1, .aload_n 0, (0, 0, 0, 0, 0, 0)), (9, 3, .getfield 56, (6, 25, 2, 0, 0, 0)), (12, 1, .iload_n 2, (0, 0, 0, 0, 0, 0)), (13, 1, .iaload, (0, 0, 0, 0, 0, 0)), (14, 1, .aload_n 0, (0, 0, 0, 0, 0, 0)), (15, 3, .getfield 56, (6, 25, 2, 0, 0, 0)),
  (18, 1, .iload_n 2, (0, 0, 0, 0, 0, 0)), (19, 1, .iconst 1, (0, 0, 0, 0, 0, 0)), (20, 1, .iadd, (0, 0, 0, 0, 0, 0)), (21, 1, .iaload, (0, 0, 0, 0, 0, 0)), (22, 3, .if_icmp .le 9, (31, 0, 0, 0, 0, 0)), (25, 3, .iinc 2 (-1), (0, 0, 0, 0, 0, 0)),
  (28, 3, .goto (-24), (4, 0, 0, 0, 0, 0)), (31, 1, .iload_n 2, (0, 0, 0, 0, 0, 0)), (32, 3, .ifCond .ge 5, (37, 0, 0, 0, 0, 0)), (35, 1, .iconst 0, (0, 0, 0, 0, 0, 0)), (36, 1, .ireturn, (1, 0, 0, 0, 0, 0)), (37, 1, .iload_n 1, (0, 0, 0, 0, 0, 0)),
  (38, 1, .iconst 1, (0, 0, 0, 0, 0, 0)), (39, 1, .isub, (0, 0, 0, 0, 0, 0)), (40, 1, .istore_n 3, (0, 0, 0, 0, 0, 0)), (41, 1, .aload_n 0, (0, 0, 0, 0, 0, 0)), (42, 3, .getfield 56, (6, 25, 2, 0, 0, 0)), (45, 1, .iload_n 3, (0, 0, 0, 0, 0, 0)),
  (46, 1, .iaload, (0, 0, 0, 0, 0, 0)), (47, 1, .aload_n 0, (0, 0, 0, 0, 0, 0)), (48, 3, .getfield 56, (6, 25, 2, 0, 0, 0)), (51, 1, .iload_n 2, (0, 0, 0, 0, 0, 0)), (52, 1, .iaload, (0, 0, 0, 0, 0, 0)), (53, 3, .if_icmp .ge 9, (62, 0, 0, 0, 0, 0)),
  (56, 3, .iinc 3 (-1), (0, 0, 0, 0, 0, 0)), (59, 3, .goto (-18), (41, 0, 0, 0, 0, 0)), (62, 1, .aload_n 0, (0, 0, 0, 0, 0, 0)), (63, 3, .getfield 56, (6, 25, 2, 0, 0, 0)), (66, 1, .iload_n 2, (0, 0, 0, 0, 0, 0)), (67, 1, .iaload, (0, 0, 0, 0, 0, 0)),
  (68, 2, .istore 4, (0, 0, 0, 0, 0, 0)), (70, 1, .aload_n 0, (0, 0, 0, 0, 0, 0)), (71, 3, .getfield 56, (6, 25, 2, 0, 0, 0)), (74, 1, .iload_n 2, (0, 0, 0, 0, 0, 0)), (75, 1, .aload_n 0, (0, 0, 0, 0, 0, 0)), (76, 3, .getfield 56, (6, 25, 2, 0, 0, 0)),
  (79, 1, .iload_n 3, (0, 0, 0, 0, 0, 0)), (80, 1, .iaload, (0, 0, 0, 0, 0, 0)), (81, 1, .iastore, (0, 0, 0, 0, 0, 0)), (82, 1, .aload_n 0, (0, 0, 0, 0, 0, 0)), (83, 3, .getfield 56, (6, 25, 2, 0, 0, 0)), (86, 1, .iload_n 3, (0, 0, 0, 0, 0, 0)),
  (87, 2, .iload 4, (0, 0, 0, 0, 0, 0)), (89, 1, .iastore, (0, 0, 0, 0, 0, 0)), (90, 1, .iload_n 2, (0, 0, 0, 0, 0, 0)), (91, 1, .iconst 1, (0, 0, 0, 0, 0, 0)), (92, 1, .iadd, (0, 0, 0, 0, 0, 0)), (93, 2, .istore 5, (0, 0, 0, 0, 0, 0)),
  (95, 1, .iload_n 1, (0, 0, 0, 0, 0, 0)), (96, 1, .iconst 1, (0, 0, 0, 0, 0, 0)), (97, 1, .isub, (0, 0, 0, 0, 0, 0)), (98, 2, .istore 6, (0, 0, 0, 0, 0, 0)), (100, 2, .iload 5, (0, 0, 0, 0, 0, 0)), (102, 2, .iload 6, (0, 0, 0, 0, 0, 0)),
  (104, 3, .if_icmp .ge 44, (148, 0, 0, 0, 0, 0)), (107, 1, .aload_n 0, (0, 0, 0, 0, 0, 0)), (108, 3, .getfield 56, (6, 25, 2, 0, 0, 0)), (111, 2, .iload 5, (0, 0, 0, 0, 0, 0)), (113, 1, .iaload, (0, 0, 0, 0, 0, 0)), (114, 2, .istore 4, (0, 0, 0, 0, 0, 0)),
  (116, 1, .aload_n 0, (0, 0, 0, 0, 0, 0)), (117, 3, .getfield 56, (6, 25, 2, 0, 0, 0)), (120, 2, .iload 5, (0, 0, 0, 0, 0, 0)), (122, 1, .aload_n 0, (0, 0, 0, 0, 0, 0)), (123, 3, .getfield 56, (6, 25, 2, 0, 0, 0)), (126, 2, .iload 6, (0, 0, 0, 0, 0, 0)),
  (128, 1, .iaload, (0, 0, 0, 0, 0, 0)), (129, 1, .iastore, (0, 0, 0, 0, 0, 0)), (130, 1, .aload_n 0, (0, 0, 0, 0, 0, 0)), (131, 3, .getfield 56, (6, 25, 2, 0, 0, 0)), (134, 2, .iload 6, (0, 0, 0, 0, 0, 0)), (136, 2, .iload 4, (0, 0, 0, 0, 0, 0)),
  (138, 1, .iastore, (0, 0, 0, 0, 0, 0)), (139, 3, .iinc 5 1, (0, 0, 0, 0, 0, 0)), (142, 3, .iinc 6 (-1), (0, 0, 0, 0, 0, 0)), (145, 3, .goto (-45), (100, 0, 0, 0, 0, 0)), (148, 1, .iconst 1, (0, 0, 0, 0, 0, 0)), (149, 1, .ireturn, (1, 0, 0, 0, 0, 0))]
def z_X6_inTheWay : List zI := [
  (0, 1, .iconst 0, (0, 0, 0, 0, 0, 0)), (1, 1, .istore_n 3, (0, 0, 0, 0, 0, 0)), (2, 1, .iconst 0, (0, 0, 0, 0, 0, 0)), (3, 2, .istore 4, (0, 0, 0, 0, 0, 0)), (5, 2, .iload 4, (0, 0, 0, 0, 0, 0)), (7, 1, .iload_n 1, (0, 0, 0, 0, 0, 0)),
  (8, 3, .if_icmp .ge 73, (81, 0, 0, 0, 0, 0)), (11, 2, .iload 4, (0, 0, 0, 0, 0, 0)), (13, 1, .iconst 1, (0, 0, 0, 0, 0, 0)), (14, 1, .iadd, (0, 0, 0, 0, 0, 0)), (15, 2, .istore 5, (0, 0, 0, 0, 0, 0)), (17, 2, .iload 5, (0, 0, 0, 0, 0, 0)),
  (19, 1, .iload_n 1, (0, 0, 0, 0, 0, 0)), (20, 3, .if_icmp .ge 55, (75, 0, 0, 0, 0, 0)), (23, 1, .iload_n 3, (0, 0, 0, 0, 0, 0)), (24, 1, .aload_n 0, (0, 0, 0, 0, 0, 0)), (25, 1, .aload_n 0, (0, 0, 0, 0, 0, 0)), (26, 3, .getfield 56, (6, 25, 2, 0, 0, 0)),
  (29, 2, .iload 5, (0, 0, 0, 0, 0, 0)), (31, 1, .iaload, (0, 0, 0, 0, 0, 0)), (32, 1, .aload_n 0, (0, 0, 0, 0, 0, 0)), (33, 3, .getfield 56, (6, 25, 2, 0, 0, 0)), (36, 2, .iload 4, (0, 0, 0, 0, 0, 0)), (38, 1, .iaload, (0, 0, 0, 0, 0, 0)),
  (39, 1, .iload_n 2, (0, 0, 0, 0, 0, 0)), (40, 3, .invokevirtual 153, (168, 0, 3, 1, 5, 6)), (43, 3, .ifCond .eq 23, (66, 0, 0, 0, 0, 0)), (46, 1, .iconst 1, (0, 0, 0, 0, 0, 0)), (47, 1, .aload_n 0, (0, 0, 0, 0, 0, 0)), (48, 3, .getfield 16, (6, 4, 2, 0, 0, 0)),
  (51, 1, .aload_n 0, (0, 0, 0, 0, 0, 0)), (52, 3, .getfield 56, (6, 25, 2, 0, 0, 0)), (55, 2, .iload 5, (0, 0, 0, 0, 0, 0)), (57, 1, .iaload, (0, 0, 0, 0, 0, 0)), (58, 1, .iaload, (0, 0, 0, 0, 0, 0)), (59, 3, .invokestatic 156, (170, 2, 1, 1, 1, 0)),
  (62, 1, .iadd, (0, 0, 0, 0, 0, 0)), (63, 3, .goto 4, (67, 0, 0, 0, 0, 0)), (66, 1, .iconst 0, (0, 0, 0, 0, 0, 0)), (67, 1, .iadd, (0, 0, 0, 0, 0, 0)), (68, 1, .istore_n 3, (0, 0, 0, 0, 0, 0)), (69, 3, .iinc 5 1, (0, 0, 0, 0, 0, 0)),
  (72, 3, .goto (-55), (17, 0, 0, 0, 0, 0)), (75, 3, .iinc 4 1, (0, 0, 0, 0, 0, 0)), (78, 3, .goto (-73), (5, 32, 0, 0, 0, 0)), (81, 1, .iload_n 3, (0, 0, 0, 0, 0, 0)), (82, 1, .ireturn, (0, 0, 0, 0, 0, 0))]
def z_X6_up : List zI := [
  (0, 1, .iload_n 1, (0, 0, 0, 0, 0, 0)), (1, 3, .invokestatic 208, (166, 2, 1, 1, 1, 0)), (4, 3, .ifCond .eq 10, (14, 0, 0, 0, 0, 0)), (7, 1, .iload_n 2, (0, 0, 0, 0, 0, 0)), (8, 3, .invokestatic 74, (140, 2, 1, 1, 1, 0)), (11, 3, .ifCond .ne 5, (16, 0, 0, 0, 0, 0)),
  (14, 1, .iconst (-1), (0, 0, 0, 0, 0, 0)), (15, 1, .ireturn, (0, 0, 0, 0, 0, 0)), (16, 1, .aload_n 0, (0, 0, 0, 0, 0, 0)), (17, 3, .getfield 144, (6, 3, 0, 0, 0, 0)), (20, 3, .ifCond .ne 6, (26, 0, 0, 0, 0, 0)), (23, 2, .bipush (-4), (0, 0, 0, 0, 0, 0)),
  (25, 1, .ireturn, (0, 0, 0, 0, 0, 0)), (26, 1, .aload_n 0, (0, 0, 0, 0, 0, 0)), (27, 3, .invokevirtual 184, (163, 0, 0, 0, 2, 6)), (30, 1, .iconst 0, (0, 0, 0, 0, 0, 0)), (31, 1, .istore_n 3, (0, 0, 0, 0, 0, 0)), (32, 1, .iconst 0, (0, 0, 0, 0, 0, 0)),
  (33, 2, .istore 4, (0, 0, 0, 0, 0, 0)), (35, 2, .iload 4, (0, 0, 0, 0, 0, 0)), (37, 1, .aload_n 0, (0, 0, 0, 0, 0, 0)), (38, 3, .getfield 144, (6, 3, 0, 0, 0, 0)), (41, 3, .if_icmp .ge 30, (71, 0, 0, 0, 0, 0)), (44, 1, .aload_n 0, (0, 0, 0, 0, 0, 0)),
  (45, 2, .iload 4, (0, 0, 0, 0, 0, 0)), (47, 1, .iload_n 1, (0, 0, 0, 0, 0, 0)), (48, 3, .invokevirtual 149, (167, 0, 2, 1, 3, 6)), (51, 3, .ifCond .eq 14, (65, 0, 0, 0, 0, 0)), (54, 1, .aload_n 0, (0, 0, 0, 0, 0, 0)), (55, 3, .getfield 56, (6, 25, 2, 0, 0, 0)),
  (58, 1, .iload_n 3, (0, 0, 0, 0, 0, 0)), (59, 2, .iload 4, (0, 0, 0, 0, 0, 0)), (61, 1, .iastore, (0, 0, 0, 0, 0, 0)), (62, 3, .iinc 3 1, (0, 0, 0, 0, 0, 0)), (65, 3, .iinc 4 1, (0, 0, 0, 0, 0, 0)), (68, 3, .goto (-33), (35, 0, 0, 0, 0, 0)),
  (71, 2, .bipush (-9), (0, 0, 0, 0, 0, 0)), (73, 2, .istore 4, (0, 0, 0, 0, 0, 0)), (75, 1, .iconst 1, (0, 0, 0, 0, 0, 0)), (76, 2, .istore 5, (0, 0, 0, 0, 0, 0)), (78, 2, .iload 5, (0, 0, 0, 0, 0, 0)), (80, 3, .ifCond .eq 79, (159, 0, 0, 0, 0, 0)),
  (83, 1, .aload_n 0, (0, 0, 0, 0, 0, 0)), (84, 1, .iload_n 3, (0, 0, 0, 0, 0, 0)), (85, 1, .iload_n 1, (0, 0, 0, 0, 0, 0)), (86, 3, .invokevirtual 253, (221, 0, 2, 1, 6, 6)), (89, 2, .istore 6, (0, 0, 0, 0, 0, 0)), (91, 2, .iload 4, (0, 0, 0, 0, 0, 0)),
  (93, 2, .bipush (-9), (0, 0, 0, 0, 0, 0)), (95, 3, .if_icmp .eq 10, (105, 0, 0, 0, 0, 0)), (98, 2, .iload 6, (0, 0, 0, 0, 0, 0)), (100, 2, .iload 4, (0, 0, 0, 0, 0, 0)), (102, 3, .if_icmp .ge 47, (149, 0, 0, 0, 0, 0)), (105, 2, .iload 6, (0, 0, 0, 0, 0, 0)),
  (107, 2, .istore 4, (0, 0, 0, 0, 0, 0)), (109, 1, .aload_n 0, (0, 0, 0, 0, 0, 0)), (110, 1, .iload_n 2, (0, 0, 0, 0, 0, 0)), (111, 1, .iload_n 3, (0, 0, 0, 0, 0, 0)), (112, 3, .invokevirtual 82, (143, 0, 2, 0, 4, 6)), (115, 1, .iconst 0, (0, 0, 0, 0, 0, 0)),
  (116, 2, .istore 7, (0, 0, 0, 0, 0, 0)), (118, 2, .iload 7, (0, 0, 0, 0, 0, 0)), (120, 1, .iload_n 3, (0, 0, 0, 0, 0, 0)), (121, 3, .if_icmp .ge 28, (149, 0, 0, 0, 0, 0)), (124, 1, .aload_n 0, (0, 0, 0, 0, 0, 0)), (125, 3, .getfield 28, (6, 8, 2, 0, 0, 0)),
  (128, 2, .bipush 40, (0, 0, 0, 0, 0, 0)), (130, 1, .iload_n 2, (0, 0, 0, 0, 0, 0)), (131, 1, .imul, (0, 0, 0, 0, 0, 0)), (132, 2, .iload 7, (0, 0, 0, 0, 0, 0)), (134, 1, .iadd, (0, 0, 0, 0, 0, 0)), (135, 1, .aload_n 0, (0, 0, 0, 0, 0, 0)),
  (136, 3, .getfield 56, (6, 25, 2, 0, 0, 0)), (139, 2, .iload 7, (0, 0, 0, 0, 0, 0)), (141, 1, .iaload, (0, 0, 0, 0, 0, 0)), (142, 1, .iastore, (0, 0, 0, 0, 0, 0)), (143, 3, .iinc 7 1, (0, 0, 0, 0, 0, 0)), (146, 3, .goto (-28), (118, 0, 0, 0, 0, 0)),
  (149, 1, .aload_n 0, (0, 0, 0, 0, 0, 0)), (150, 1, .iload_n 3, (0, 0, 0, 0, 0, 0)), (151, 3, .invokevirtual 256, (220, 0, 1, 1, 7, 6)), (154, 2, .istore 5, (0, 0, 0, 0, 0, 0)), (156, 3, .goto (-78), (78, 192, 0, 0, 0, 0)), (159, 2, .iload 4, (0, 0, 0, 0, 0, 0)),
  (161, 1, .ireturn, (0, 0, 0, 0, 0, 0))]
def z_X6_areWhens : List zI := [
  (0, 1, .iconst 1, (0, 0, 0, 0, 0, 0)), (1, 1, .istore_n 2, (0, 0, 0, 0, 0, 0)), (2, 1, .iconst 0, (0, 0, 0, 0, 0, 0)), (3, 1, .istore_n 3, (0, 0, 0, 0, 0, 0)), (4, 1, .iload_n 3, (0, 0, 0, 0, 0, 0)), (5, 1, .aload_n 0, (0, 0, 0, 0, 0, 0)),
  (6, 3, .getfield 25, (6, 7, 2, 0, 0, 0)), (9, 1, .iload_n 1, (0, 0, 0, 0, 0, 0)), (10, 1, .iaload, (0, 0, 0, 0, 0, 0)), (11, 3, .if_icmp .ge 36, (47, 0, 0, 0, 0, 0)), (14, 1, .iload_n 2, (0, 0, 0, 0, 0, 0)), (15, 3, .ifCond .eq 24, (39, 0, 0, 0, 0, 0)),
  (18, 1, .aload_n 0, (0, 0, 0, 0, 0, 0)), (19, 3, .getfield 28, (6, 8, 2, 0, 0, 0)), (22, 2, .bipush 40, (0, 0, 0, 0, 0, 0)), (24, 1, .iload_n 1, (0, 0, 0, 0, 0, 0)), (25, 1, .imul, (0, 0, 0, 0, 0, 0)), (26, 1, .iload_n 3, (0, 0, 0, 0, 0, 0)),
  (27, 1, .iadd, (0, 0, 0, 0, 0, 0)), (28, 1, .iaload, (0, 0, 0, 0, 0, 0)), (29, 3, .invokestatic 208, (166, 2, 1, 1, 1, 0)), (32, 3, .ifCond .eq 7, (39, 0, 0, 0, 0, 0)), (35, 1, .iconst 1, (0, 0, 0, 0, 0, 0)), (36, 3, .goto 4, (40, 0, 0, 0, 0, 0)),
  (39, 1, .iconst 0, (0, 0, 0, 0, 0, 0)), (40, 1, .istore_n 2, (0, 0, 0, 0, 0, 0)), (41, 3, .iinc 3 2, (0, 0, 0, 0, 0, 0)), (44, 3, .goto (-40), (4, 0, 0, 0, 0, 0)), (47, 1, .iload_n 2, (0, 0, 0, 0, 0, 0)), (48, 1, .ireturn, (1, 0, 0, 0, 0, 0))]
def z_X6_isSo : List zI := [
  (0, 1, .iconst 1, (0, 0, 0, 0, 0, 0)), (1, 1, .istore_n 2, (0, 0, 0, 0, 0, 0)), (2, 1, .iconst 0, (0, 0, 0, 0, 0, 0)), (3, 1, .istore_n 3, (0, 0, 0, 0, 0, 0)), (4, 1, .iload_n 3, (0, 0, 0, 0, 0, 0)), (5, 1, .aload_n 0, (0, 0, 0, 0, 0, 0)),
  (6, 3, .getfield 25, (6, 7, 2, 0, 0, 0)), (9, 1, .iload_n 1, (0, 0, 0, 0, 0, 0)), (10, 1, .iaload, (0, 0, 0, 0, 0, 0)), (11, 3, .if_icmp .ge 50, (61, 0, 0, 0, 0, 0)), (14, 1, .iload_n 2, (0, 0, 0, 0, 0, 0)), (15, 3, .ifCond .eq 46, (61, 0, 0, 0, 0, 0)),
  (18, 1, .aload_n 0, (0, 0, 0, 0, 0, 0)), (19, 1, .aload_n 0, (0, 0, 0, 0, 0, 0)), (20, 3, .getfield 28, (6, 8, 2, 0, 0, 0)), (23, 2, .bipush 40, (0, 0, 0, 0, 0, 0)), (25, 1, .iload_n 1, (0, 0, 0, 0, 0, 0)), (26, 1, .imul, (0, 0, 0, 0, 0, 0)),
  (27, 1, .iload_n 3, (0, 0, 0, 0, 0, 0)), (28, 1, .iadd, (0, 0, 0, 0, 0, 0)), (29, 1, .iaload, (0, 0, 0, 0, 0, 0)), (30, 3, .invokevirtual 220, (174, 0, 1, 1, 4, 6)), (33, 1, .aload_n 0, (0, 0, 0, 0, 0, 0)), (34, 3, .getfield 28, (6, 8, 2, 0, 0, 0)),
  (37, 2, .bipush 40, (0, 0, 0, 0, 0, 0)), (39, 1, .iload_n 1, (0, 0, 0, 0, 0, 0)), (40, 1, .imul, (0, 0, 0, 0, 0, 0)), (41, 1, .iload_n 3, (0, 0, 0, 0, 0, 0)), (42, 1, .iadd, (0, 0, 0, 0, 0, 0)), (43, 1, .iconst 1, (0, 0, 0, 0, 0, 0)),
  (44, 1, .iadd, (0, 0, 0, 0, 0, 0)), (45, 1, .iaload, (0, 0, 0, 0, 0, 0)), (46, 3, .if_icmp .ne 7, (53, 0, 0, 0, 0, 0)), (49, 1, .iconst 1, (0, 0, 0, 0, 0, 0)), (50, 3, .goto 4, (54, 0, 0, 0, 0, 0)), (53, 1, .iconst 0, (0, 0, 0, 0, 0, 0)),
  (54, 1, .istore_n 2, (0, 0, 0, 0, 0, 0)), (55, 3, .iinc 3 2, (0, 0, 0, 0, 0, 0)), (58, 3, .goto (-54), (4, 0, 0, 0, 0, 0)), (61, 1, .iload_n 2, (0, 0, 0, 0, 0, 0)), (62, 1, .ireturn, (1, 0, 0, 0, 0, 0))]
def z_X6_fits : List zI := [
  (0, 1, .iload_n 1, (0, 0, 0, 0, 0, 0)), (1, 3, .invokestatic 74, (140, 2, 1, 1, 1, 0)), (4, 3, .ifCond .ne 5, (9, 0, 0, 0, 0, 0)), (7, 1, .iconst (-1), (0, 0, 0, 0, 0, 0)), (8, 1, .ireturn, (0, 0, 0, 0, 0, 0)), (9, 1, .aload_n 0, (0, 0, 0, 0, 0, 0)),
  (10, 3, .getfield 144, (6, 3, 0, 0, 0, 0)), (13, 3, .ifCond .ne 6, (19, 0, 0, 0, 0, 0)), (16, 2, .bipush (-4), (0, 0, 0, 0, 0, 0)), (18, 1, .ireturn, (0, 0, 0, 0, 0, 0)), (19, 1, .aload_n 0, (0, 0, 0, 0, 0, 0)), (20, 3, .getfield 25, (6, 7, 2, 0, 0, 0)),
  (23, 1, .iload_n 1, (0, 0, 0, 0, 0, 0)), (24, 1, .iaload, (0, 0, 0, 0, 0, 0)), (25, 3, .ifCond .ge 9, (34, 0, 0, 0, 0, 0)), (28, 1, .aload_n 0, (0, 0, 0, 0, 0, 0)), (29, 1, .iconst 1, (0, 0, 0, 0, 0, 0)), (30, 3, .invokevirtual 78, (138, 0, 1, 1, 2, 6)),
  (33, 1, .ireturn, (0, 0, 0, 0, 0, 0)), (34, 1, .aload_n 0, (0, 0, 0, 0, 0, 0)), (35, 3, .getfield 25, (6, 7, 2, 0, 0, 0)), (38, 1, .iload_n 1, (0, 0, 0, 0, 0, 0)), (39, 1, .iaload, (0, 0, 0, 0, 0, 0)), (40, 1, .iconst 2, (0, 0, 0, 0, 0, 0)),
  (41, 1, .irem, (0, 0, 0, 0, 0, 0)), (42, 3, .ifCond .eq 9, (51, 0, 0, 0, 0, 0)), (45, 1, .aload_n 0, (0, 0, 0, 0, 0, 0)), (46, 1, .iconst 5, (0, 0, 0, 0, 0, 0)), (47, 3, .invokevirtual 78, (138, 0, 1, 1, 2, 6)), (50, 1, .ireturn, (0, 0, 0, 0, 0, 0)),
  (51, 1, .aload_n 0, (0, 0, 0, 0, 0, 0)), (52, 1, .iload_n 1, (0, 0, 0, 0, 0, 0)), (53, 3, .invokevirtual 259, (223, 0, 1, 1, 4, 6)), (56, 3, .ifCond .ne 9, (65, 0, 0, 0, 0, 0)), (59, 1, .aload_n 0, (0, 0, 0, 0, 0, 0)), (60, 1, .iconst 3, (0, 0, 0, 0, 0, 0)),
  (61, 3, .invokevirtual 78, (138, 0, 1, 1, 2, 6)), (64, 1, .ireturn, (0, 0, 0, 0, 0, 0)), (65, 1, .iconst 0, (0, 0, 0, 0, 0, 0)), (66, 1, .istore_n 2, (0, 0, 0, 0, 0, 0)), (67, 2, .bipush (-9), (0, 0, 0, 0, 0, 0)), (69, 1, .istore_n 3, (0, 0, 0, 0, 0, 0)),
  (70, 1, .aload_n 0, (0, 0, 0, 0, 0, 0)), (71, 3, .invokevirtual 229, (203, 0, 0, 0, 2, 6)), (74, 1, .iconst 1, (0, 0, 0, 0, 0, 0)), (75, 2, .istore 4, (0, 0, 0, 0, 0, 0)), (77, 2, .iload 4, (0, 0, 0, 0, 0, 0)), (79, 3, .ifCond .eq 49, (128, 0, 0, 0, 0, 0)),
  (82, 1, .aload_n 0, (0, 0, 0, 0, 0, 0)), (83, 1, .iload_n 1, (0, 0, 0, 0, 0, 0)), (84, 3, .invokevirtual 262, (224, 0, 1, 1, 4, 6)), (87, 3, .ifCond .eq 32, (119, 0, 0, 0, 0, 0)), (90, 1, .iload_n 2, (0, 0, 0, 0, 0, 0)), (91, 3, .ifCond .eq 13, (104, 0, 0, 0, 0, 0)),
  (94, 1, .iload_n 3, (0, 0, 0, 0, 0, 0)), (95, 1, .aload_n 0, (0, 0, 0, 0, 0, 0)), (96, 3, .getfield 50, (6, 23, 2, 0, 0, 0)), (99, 1, .iconst 0, (0, 0, 0, 0, 0, 0)), (100, 1, .iaload, (0, 0, 0, 0, 0, 0)), (101, 3, .if_icmp .ne 12, (113, 0, 0, 0, 0, 0)),
  (104, 1, .aload_n 0, (0, 0, 0, 0, 0, 0)), (105, 3, .getfield 50, (6, 23, 2, 0, 0, 0)), (108, 1, .iconst 0, (0, 0, 0, 0, 0, 0)), (109, 1, .iaload, (0, 0, 0, 0, 0, 0)), (110, 3, .goto 5, (115, 0, 0, 0, 0, 0)), (113, 2, .bipush (-9), (0, 0, 0, 0, 0, 0)),
  (115, 1, .istore_n 3, (0, 0, 0, 0, 0, 0)), (116, 3, .iinc 2 1, (0, 0, 0, 0, 0, 0)), (119, 1, .aload_n 0, (0, 0, 0, 0, 0, 0)), (120, 3, .invokevirtual 235, (205, 0, 0, 1, 3, 6)), (123, 2, .istore 4, (0, 0, 0, 0, 0, 0)), (125, 3, .goto (-48), (77, 0, 0, 0, 0, 0)),
  (128, 1, .aload_n 0, (0, 0, 0, 0, 0, 0)), (129, 1, .iload_n 3, (0, 0, 0, 0, 0, 0)), (130, 3, .putfield 63, (6, 11, 0, 0, 0, 0)), (133, 1, .aload_n 0, (0, 0, 0, 0, 0, 0)), (134, 1, .iload_n 2, (0, 0, 0, 0, 0, 0)), (135, 1, .i2l, (0, 0, 0, 0, 0, 0)),
  (136, 3, .putfield 265, (6, 12, 1, 0, 0, 0)), (139, 1, .aload_n 0, (0, 0, 0, 0, 0, 0)), (140, 1, .lconst 1, (0, 0, 0, 0, 0, 0)), (141, 3, .putfield 37, (6, 13, 1, 0, 0, 0)), (144, 1, .iconst 1, (0, 0, 0, 0, 0, 0)), (145, 1, .ireturn, (0, 0, 0, 0, 0, 0))]
def z_X6_mid : List zI := [
  (0, 1, .iload_n 1, (0, 0, 0, 0, 0, 0)), (1, 3, .invokestatic 208, (166, 2, 1, 1, 1, 0)), (4, 3, .ifCond .ne 5, (9, 0, 0, 0, 0, 0)), (7, 1, .iconst (-1), (0, 0, 0, 0, 0, 0)), (8, 1, .ireturn, (0, 0, 0, 0, 0, 0)), (9, 1, .aload_n 0, (0, 0, 0, 0, 0, 0)),
  (10, 3, .getfield 144, (6, 3, 0, 0, 0, 0)), (13, 3, .ifCond .ne 6, (19, 0, 0, 0, 0, 0)), (16, 2, .bipush (-4), (0, 0, 0, 0, 0, 0)), (18, 1, .ireturn, (0, 0, 0, 0, 0, 0)), (19, 1, .lconst 0, (0, 0, 0, 0, 0, 0)), (20, 1, .lstore_n 2, (0, 0, 0, 0, 0, 0)),
  (21, 1, .lconst 0, (0, 0, 0, 0, 0, 0)), (22, 2, .lstore 4, (0, 0, 0, 0, 0, 0)), (24, 1, .aload_n 0, (0, 0, 0, 0, 0, 0)), (25, 3, .invokevirtual 229, (203, 0, 0, 0, 2, 6)), (28, 1, .iconst 1, (0, 0, 0, 0, 0, 0)), (29, 2, .istore 6, (0, 0, 0, 0, 0, 0)),
  (31, 2, .iload 6, (0, 0, 0, 0, 0, 0)), (33, 3, .ifCond .eq 27, (60, 0, 0, 0, 0, 0)), (36, 1, .lload_n 2, (0, 0, 0, 0, 0, 0)), (37, 1, .aload_n 0, (0, 0, 0, 0, 0, 0)), (38, 1, .iload_n 1, (0, 0, 0, 0, 0, 0)), (39, 3, .invokevirtual 220, (174, 0, 1, 1, 4, 6)),
  (42, 1, .i2l, (0, 0, 0, 0, 0, 0)), (43, 1, .ladd, (0, 0, 0, 0, 0, 0)), (44, 1, .lstore_n 2, (0, 0, 0, 0, 0, 0)), (45, 2, .lload 4, (0, 0, 0, 0, 0, 0)), (47, 1, .lconst 1, (0, 0, 0, 0, 0, 0)), (48, 1, .ladd, (0, 0, 0, 0, 0, 0)),
  (49, 2, .lstore 4, (0, 0, 0, 0, 0, 0)), (51, 1, .aload_n 0, (0, 0, 0, 0, 0, 0)), (52, 3, .invokevirtual 235, (205, 0, 0, 1, 3, 6)), (55, 2, .istore 6, (0, 0, 0, 0, 0, 0)), (57, 3, .goto (-26), (31, 0, 0, 0, 0, 0)), (60, 1, .lload_n 2, (0, 0, 0, 0, 0, 0)),
  (61, 2, .lstore 7, (0, 0, 0, 0, 0, 0)), (63, 2, .lload 4, (0, 0, 0, 0, 0, 0)), (65, 2, .lstore 9, (0, 0, 0, 0, 0, 0)), (67, 2, .lload 9, (0, 0, 0, 0, 0, 0)), (69, 1, .lconst 0, (0, 0, 0, 0, 0, 0)), (70, 1, .lcmp, (0, 0, 0, 0, 0, 0)),
  (71, 3, .ifCond .eq 21, (92, 0, 0, 0, 0, 0)), (74, 2, .lload 7, (0, 0, 0, 0, 0, 0)), (76, 2, .lload 9, (0, 0, 0, 0, 0, 0)), (78, 1, .lrem, (0, 0, 0, 0, 0, 0)), (79, 2, .lstore 11, (0, 0, 0, 0, 0, 0)), (81, 2, .lload 9, (0, 0, 0, 0, 0, 0)),
  (83, 2, .lstore 7, (0, 0, 0, 0, 0, 0)), (85, 2, .lload 11, (0, 0, 0, 0, 0, 0)), (87, 2, .lstore 9, (0, 0, 0, 0, 0, 0)), (89, 3, .goto (-22), (67, 2048, 0, 0, 0, 0)), (92, 1, .aload_n 0, (0, 0, 0, 0, 0, 0)), (93, 1, .lload_n 2, (0, 0, 0, 0, 0, 0)),
  (94, 2, .lload 7, (0, 0, 0, 0, 0, 0)), (96, 1, .ldiv, (0, 0, 0, 0, 0, 0)), (97, 3, .putfield 265, (6, 12, 1, 0, 0, 0)), (100, 1, .aload_n 0, (0, 0, 0, 0, 0, 0)), (101, 2, .lload 4, (0, 0, 0, 0, 0, 0)), (103, 2, .lload 7, (0, 0, 0, 0, 0, 0)),
  (105, 1, .ldiv, (0, 0, 0, 0, 0, 0)), (106, 3, .putfield 37, (6, 13, 1, 0, 0, 0)), (109, 1, .iconst 1, (0, 0, 0, 0, 0, 0)), (110, 1, .ireturn, (0, 0, 0, 0, 0, 0))]
def z_X6_lots : List zI := [
  (0, 1, .iload_n 1, (0, 0, 0, 0, 0, 0)), (1, 1, .i2l, (0, 0, 0, 0, 0, 0)), (2, 1, .lconst 1, (0, 0, 0, 0, 0, 0)), (3, 3, .ldc2_w 268, (0, 0, 0, 0, 0, 20)), (6, 3, .invokestatic 68, (137, 2, 3, 1, 6, 0)), (9, 3, .ifCond .eq 15, (24, 0, 0, 0, 0, 0)),
  (12, 1, .iload_n 2, (0, 0, 0, 0, 0, 0)), (13, 1, .i2l, (0, 0, 0, 0, 0, 0)), (14, 1, .lconst 1, (0, 0, 0, 0, 0, 0)), (15, 3, .ldc2_w 270, (0, 0, 0, 0, 0, 2147483646)), (18, 3, .invokestatic 68, (137, 2, 3, 1, 6, 0)), (21, 3, .ifCond .ne 5, (26, 0, 0, 0, 0, 0)),
  (24, 1, .iconst (-1), (0, 0, 0, 0, 0, 0)), (25, 1, .ireturn, (0, 0, 0, 0, 0, 0)), (26, 1, .aload_n 0, (0, 0, 0, 0, 0, 0)), (27, 3, .getfield 144, (6, 3, 0, 0, 0, 0)), (30, 3, .ifCond .ne 6, (36, 0, 0, 0, 0, 0)), (33, 2, .bipush (-4), (0, 0, 0, 0, 0, 0)),
  (35, 1, .ireturn, (0, 0, 0, 0, 0, 0)), (36, 1, .aload_n 0, (0, 0, 0, 0, 0, 0)), (37, 3, .getfield 7, (6, 0, 2, 0, 0, 0)), (40, 1, .iconst 0, (0, 0, 0, 0, 0, 0)), (41, 1, .iaload, (0, 0, 0, 0, 0, 0)), (42, 1, .iload_n 1, (0, 0, 0, 0, 0, 0)),
  (43, 1, .iadd, (0, 0, 0, 0, 0, 0)), (44, 2, .bipush 60, (0, 0, 0, 0, 0, 0)), (46, 3, .if_icmp .le 6, (52, 0, 0, 0, 0, 0)), (49, 2, .bipush (-2), (0, 0, 0, 0, 0, 0)), (51, 1, .ireturn, (0, 0, 0, 0, 0, 0)), (52, 1, .iload_n 2, (0, 0, 0, 0, 0, 0)),
  (53, 1, .i2l, (0, 0, 0, 0, 0, 0)), (54, 1, .lstore_n 3, (0, 0, 0, 0, 0, 0)), (55, 1, .iconst 0, (0, 0, 0, 0, 0, 0)), (56, 2, .istore 5, (0, 0, 0, 0, 0, 0)), (58, 1, .iconst 0, (0, 0, 0, 0, 0, 0)), (59, 2, .istore 6, (0, 0, 0, 0, 0, 0)),
  (61, 2, .iload 6, (0, 0, 0, 0, 0, 0)), (63, 1, .iload_n 1, (0, 0, 0, 0, 0, 0)), (64, 3, .if_icmp .ge 38, (102, 0, 0, 0, 0, 0)), (67, 1, .lload_n 3, (0, 0, 0, 0, 0, 0)), (68, 3, .ldc2_w 272, (0, 0, 0, 0, 0, 48271)), (71, 1, .lmul, (0, 0, 0, 0, 0, 0)),
  (72, 3, .ldc2_w 274, (0, 0, 0, 0, 0, 2147483647)), (75, 1, .lrem, (0, 0, 0, 0, 0, 0)), (76, 1, .lstore_n 3, (0, 0, 0, 0, 0, 0)), (77, 2, .iload 5, (0, 0, 0, 0, 0, 0)), (79, 1, .aload_n 0, (0, 0, 0, 0, 0, 0)), (80, 1, .lload_n 3, (0, 0, 0, 0, 0, 0)),
  (81, 3, .ldc2_w 276, (0, 0, 0, 0, 0, 16)), (84, 1, .ldiv, (0, 0, 0, 0, 0, 0)), (85, 3, .ldc2_w 72, (0, 0, 0, 0, 0, 3)), (88, 1, .lrem, (0, 0, 0, 0, 0, 0)), (89, 1, .l2i, (0, 0, 0, 0, 0, 0)), (90, 3, .invokevirtual 211, (191, 0, 1, 1, 5, 6)),
  (93, 1, .iadd, (0, 0, 0, 0, 0, 0)), (94, 2, .istore 5, (0, 0, 0, 0, 0, 0)), (96, 3, .iinc 6 1, (0, 0, 0, 0, 0, 0)), (99, 3, .goto (-38), (61, 0, 0, 0, 0, 0)), (102, 2, .iload 5, (0, 0, 0, 0, 0, 0)), (104, 1, .ireturn, (0, 0, 0, 0, 0, 0))]
def z_X6_asked : List zI := [
  (0, 1, .aload_n 0, (0, 0, 0, 0, 0, 0)), (1, 3, .getfield 63, (6, 11, 0, 0, 0, 0)), (4, 1, .ireturn, (0, 0, 0, 0, 0, 0))]
def z_X6_upper : List zI := [
  (0, 1, .aload_n 0, (0, 0, 0, 0, 0, 0)), (1, 3, .getfield 265, (6, 12, 1, 0, 0, 0)), (4, 1, .lreturn, (0, 0, 0, 0, 0, 0))]
def z_X6_lower : List zI := [
  (0, 1, .aload_n 0, (0, 0, 0, 0, 0, 0)), (1, 3, .getfield 37, (6, 13, 1, 0, 0, 0)), (4, 1, .lreturn, (0, 0, 0, 0, 0, 0))]
def z_X6_hungMany : List zI := [
  (0, 1, .iconst 0, (0, 0, 0, 0, 0, 0)), (1, 1, .istore_n 1, (0, 0, 0, 0, 0, 0)), (2, 1, .iconst 0, (0, 0, 0, 0, 0, 0)), (3, 1, .istore_n 2, (0, 0, 0, 0, 0, 0)), (4, 1, .iload_n 2, (0, 0, 0, 0, 0, 0)), (5, 1, .aload_n 0, (0, 0, 0, 0, 0, 0)),
  (6, 3, .getfield 144, (6, 3, 0, 0, 0, 0)), (9, 3, .if_icmp .ge 30, (39, 0, 0, 0, 0, 0)), (12, 1, .iload_n 1, (0, 0, 0, 0, 0, 0)), (13, 1, .aload_n 0, (0, 0, 0, 0, 0, 0)), (14, 3, .getfield 7, (6, 0, 2, 0, 0, 0)), (17, 1, .iconst 1, (0, 0, 0, 0, 0, 0)),
  (18, 1, .iload_n 2, (0, 0, 0, 0, 0, 0)), (19, 1, .iadd, (0, 0, 0, 0, 0, 0)), (20, 1, .iaload, (0, 0, 0, 0, 0, 0)), (21, 2, .bipush (-9), (0, 0, 0, 0, 0, 0)), (23, 3, .if_icmp .ne 7, (30, 0, 0, 0, 0, 0)), (26, 1, .iconst 0, (0, 0, 0, 0, 0, 0)),
  (27, 3, .goto 4, (31, 0, 0, 0, 0, 0)), (30, 1, .iconst 1, (0, 0, 0, 0, 0, 0)), (31, 1, .iadd, (0, 0, 0, 0, 0, 0)), (32, 1, .istore_n 1, (0, 0, 0, 0, 0, 0)), (33, 3, .iinc 2 1, (0, 0, 0, 0, 0, 0)), (36, 3, .goto (-32), (4, 0, 0, 0, 0, 0)),
  (39, 1, .iload_n 1, (0, 0, 0, 0, 0, 0)), (40, 1, .ireturn, (0, 0, 0, 0, 0, 0))]
def z_X6_tiredAll : List zI := [
  (0, 1, .iconst 0, (0, 0, 0, 0, 0, 0)), (1, 1, .istore_n 1, (0, 0, 0, 0, 0, 0)), (2, 1, .iconst 0, (0, 0, 0, 0, 0, 0)), (3, 1, .istore_n 2, (0, 0, 0, 0, 0, 0)), (4, 1, .iload_n 2, (0, 0, 0, 0, 0, 0)), (5, 1, .aload_n 0, (0, 0, 0, 0, 0, 0)),
  (6, 3, .getfield 144, (6, 3, 0, 0, 0, 0)), (9, 3, .if_icmp .ge 21, (30, 0, 0, 0, 0, 0)), (12, 1, .iload_n 1, (0, 0, 0, 0, 0, 0)), (13, 1, .aload_n 0, (0, 0, 0, 0, 0, 0)), (14, 3, .getfield 7, (6, 0, 2, 0, 0, 0)), (17, 2, .bipush 13, (0, 0, 0, 0, 0, 0)),
  (19, 1, .iload_n 2, (0, 0, 0, 0, 0, 0)), (20, 1, .iadd, (0, 0, 0, 0, 0, 0)), (21, 1, .iaload, (0, 0, 0, 0, 0, 0)), (22, 1, .iadd, (0, 0, 0, 0, 0, 0)), (23, 1, .istore_n 1, (0, 0, 0, 0, 0, 0)), (24, 3, .iinc 2 1, (0, 0, 0, 0, 0, 0)),
  (27, 3, .goto (-23), (4, 0, 0, 0, 0, 0)), (30, 1, .iload_n 1, (0, 0, 0, 0, 0, 0)), (31, 1, .ireturn, (0, 0, 0, 0, 0, 0))]
def z_X6_thereOf : List zI := [
  (0, 1, .iconst 0, (0, 0, 0, 0, 0, 0)), (1, 1, .istore_n 2, (0, 0, 0, 0, 0, 0)), (2, 1, .iconst 0, (0, 0, 0, 0, 0, 0)), (3, 1, .istore_n 3, (0, 0, 0, 0, 0, 0)), (4, 1, .iload_n 3, (0, 0, 0, 0, 0, 0)), (5, 2, .bipush 6, (0, 0, 0, 0, 0, 0)),
  (7, 3, .if_icmp .ge 90, (97, 0, 0, 0, 0, 0)), (10, 1, .iload_n 2, (0, 0, 0, 0, 0, 0)), (11, 1, .iload_n 1, (0, 0, 0, 0, 0, 0)), (12, 2, .bipush 6, (0, 0, 0, 0, 0, 0)), (14, 3, .if_icmp .ne 20, (34, 0, 0, 0, 0, 0)), (17, 1, .aload_n 0, (0, 0, 0, 0, 0, 0)),
  (18, 3, .getfield 25, (6, 7, 2, 0, 0, 0)), (21, 1, .iload_n 3, (0, 0, 0, 0, 0, 0)), (22, 1, .iaload, (0, 0, 0, 0, 0, 0)), (23, 3, .ifCond .ge 7, (30, 0, 0, 0, 0, 0)), (26, 1, .iconst 0, (0, 0, 0, 0, 0, 0)), (27, 3, .goto 62, (89, 0, 0, 0, 0, 0)),
  (30, 1, .iconst 1, (0, 0, 0, 0, 0, 0)), (31, 3, .goto 58, (89, 0, 0, 0, 0, 0)), (34, 1, .iload_n 1, (0, 0, 0, 0, 0, 0)), (35, 2, .bipush 7, (0, 0, 0, 0, 0, 0)), (37, 3, .if_icmp .ne 25, (62, 0, 0, 0, 0, 0)), (40, 1, .iload_n 3, (0, 0, 0, 0, 0, 0)),
  (41, 1, .iconst 4, (0, 0, 0, 0, 0, 0)), (42, 3, .if_icmp .ge 16, (58, 0, 0, 0, 0, 0)), (45, 1, .aload_n 0, (0, 0, 0, 0, 0, 0)), (46, 3, .getfield 31, (6, 9, 2, 0, 0, 0)), (49, 1, .iload_n 3, (0, 0, 0, 0, 0, 0)), (50, 1, .iaload, (0, 0, 0, 0, 0, 0)),
  (51, 3, .ifCond .lt 7, (58, 0, 0, 0, 0, 0)), (54, 1, .iconst 1, (0, 0, 0, 0, 0, 0)), (55, 3, .goto 34, (89, 0, 0, 0, 0, 0)), (58, 1, .iconst 0, (0, 0, 0, 0, 0, 0)), (59, 3, .goto 30, (89, 0, 0, 0, 0, 0)), (62, 1, .iload_n 3, (0, 0, 0, 0, 0, 0)),
  (63, 1, .iconst 3, (0, 0, 0, 0, 0, 0)), (64, 3, .if_icmp .ge 24, (88, 0, 0, 0, 0, 0)), (67, 1, .aload_n 0, (0, 0, 0, 0, 0, 0)), (68, 3, .getfield 7, (6, 0, 2, 0, 0, 0)), (71, 3, .sipush 1099, (0, 0, 0, 0, 0, 0)), (74, 1, .iconst 1, (0, 0, 0, 0, 0, 0)),
  (75, 1, .iload_n 3, (0, 0, 0, 0, 0, 0)), (76, 1, .iadd, (0, 0, 0, 0, 0, 0)), (77, 1, .imul, (0, 0, 0, 0, 0, 0)), (78, 1, .iconst 0, (0, 0, 0, 0, 0, 0)), (79, 1, .iadd, (0, 0, 0, 0, 0, 0)), (80, 1, .iaload, (0, 0, 0, 0, 0, 0)),
  (81, 3, .ifCond .lt 7, (88, 0, 0, 0, 0, 0)), (84, 1, .iconst 1, (0, 0, 0, 0, 0, 0)), (85, 3, .goto 4, (89, 0, 0, 0, 0, 0)), (88, 1, .iconst 0, (0, 0, 0, 0, 0, 0)), (89, 1, .iadd, (0, 0, 0, 0, 0, 0)), (90, 1, .istore_n 2, (0, 0, 0, 0, 0, 0)),
  (91, 3, .iinc 3 1, (0, 0, 0, 0, 0, 0)), (94, 3, .goto (-90), (4, 0, 0, 0, 0, 0)), (97, 1, .iload_n 2, (0, 0, 0, 0, 0, 0)), (98, 1, .ireturn, (0, 0, 0, 0, 0, 0))]
def z_X6_countOf : List zI := [
  (0, 1, .iload_n 1, (0, 0, 0, 0, 0, 0)), (1, 39, .tableswitch 71 0 5 #[39, 44, 49, 56, 61, 66], (0, 0, 0, 0, 0, 0)), (40, 1, .aload_n 0, (0, 0, 0, 0, 0, 0)), (41, 3, .getfield 144, (6, 3, 0, 0, 0, 0)), (44, 1, .ireturn, (0, 0, 0, 0, 0, 0)), (45, 1, .aload_n 0, (0, 0, 0, 0, 0, 0)),
  (46, 3, .getfield 141, (6, 1, 0, 0, 0, 0)), (49, 1, .ireturn, (0, 0, 0, 0, 0, 0)), (50, 1, .aload_n 0, (0, 0, 0, 0, 0, 0)), (51, 3, .getfield 7, (6, 0, 2, 0, 0, 0)), (54, 1, .iconst 0, (0, 0, 0, 0, 0, 0)), (55, 1, .iaload, (0, 0, 0, 0, 0, 0)),
  (56, 1, .ireturn, (0, 0, 0, 0, 0, 0)), (57, 1, .aload_n 0, (0, 0, 0, 0, 0, 0)), (58, 3, .invokevirtual 278, (231, 0, 0, 1, 3, 6)), (61, 1, .ireturn, (0, 0, 0, 0, 0, 0)), (62, 1, .aload_n 0, (0, 0, 0, 0, 0, 0)), (63, 3, .invokevirtual 281, (232, 0, 0, 1, 3, 6)),
  (66, 1, .ireturn, (0, 0, 0, 0, 0, 0)), (67, 1, .aload_n 0, (0, 0, 0, 0, 0, 0)), (68, 3, .invokevirtual 197, (183, 0, 0, 1, 3, 6)), (71, 1, .ireturn, (0, 0, 0, 0, 0, 0)), (72, 1, .aload_n 0, (0, 0, 0, 0, 0, 0)), (73, 1, .iload_n 1, (0, 0, 0, 0, 0, 0)),
  (74, 3, .invokevirtual 284, (233, 0, 1, 1, 4, 6)), (77, 1, .ireturn, (0, 0, 0, 0, 0, 0))]
def z_X6_count : List zI := [
  (0, 1, .iload_n 1, (0, 0, 0, 0, 0, 0)), (1, 1, .i2l, (0, 0, 0, 0, 0, 0)), (2, 1, .lconst 0, (0, 0, 0, 0, 0, 0)), (3, 3, .ldc2_w 287, (0, 0, 0, 0, 0, 8)), (6, 3, .invokestatic 68, (137, 2, 3, 1, 6, 0)), (9, 3, .ifCond .eq 11, (20, 0, 0, 0, 0, 0)),
  (12, 1, .aload_n 0, (0, 0, 0, 0, 0, 0)), (13, 1, .iload_n 1, (0, 0, 0, 0, 0, 0)), (14, 3, .invokevirtual 289, (234, 0, 1, 1, 2, 6)), (17, 3, .goto 4, (21, 0, 0, 0, 0, 0)), (20, 1, .iconst (-1), (0, 0, 0, 0, 0, 0)), (21, 1, .ireturn, (0, 0, 0, 0, 0, 0))]
def z_X6_finding : List zI := [
  (0, 1, .aload_n 0, (0, 0, 0, 0, 0, 0)), (1, 3, .getfield 59, (6, 14, 0, 0, 0, 0)), (4, 1, .ireturn, (0, 0, 0, 0, 0, 0))]
def z_X6_findings : List zI := [
  (0, 1, .iload_n 1, (0, 0, 0, 0, 0, 0)), (1, 1, .i2l, (0, 0, 0, 0, 0, 0)), (2, 1, .lconst 1, (0, 0, 0, 0, 0, 0)), (3, 3, .ldc2_w 66, (0, 0, 0, 0, 0, 5)), (6, 3, .invokestatic 68, (137, 2, 3, 1, 6, 0)), (9, 3, .ifCond .eq 12, (21, 0, 0, 0, 0, 0)),
  (12, 1, .aload_n 0, (0, 0, 0, 0, 0, 0)), (13, 3, .getfield 41, (6, 15, 2, 0, 0, 0)), (16, 1, .iload_n 1, (0, 0, 0, 0, 0, 0)), (17, 1, .iaload, (0, 0, 0, 0, 0, 0)), (18, 3, .goto 4, (22, 0, 0, 0, 0, 0)), (21, 1, .iconst (-1), (0, 0, 0, 0, 0, 0)),
  (22, 1, .ireturn, (0, 0, 0, 0, 0, 0))]
def z_X6_digest_0 : List zI := [
  (0, 3, .ldc2_w 292, (0, 0, 0, 0, 0, 17)), (3, 1, .lstore_n 1, (0, 0, 0, 0, 0, 0)), (4, 1, .iconst 0, (0, 0, 0, 0, 0, 0)), (5, 1, .istore_n 3, (0, 0, 0, 0, 0, 0)), (6, 1, .iload_n 3, (0, 0, 0, 0, 0, 0)), (7, 2, .bipush 9, (0, 0, 0, 0, 0, 0)),
  (9, 3, .if_icmp .ge 22, (31, 0, 0, 0, 0, 0)), (12, 3, .ldc2_w 294, (0, 0, 0, 0, 0, 31)), (15, 1, .lload_n 1, (0, 0, 0, 0, 0, 0)), (16, 1, .lmul, (0, 0, 0, 0, 0, 0)), (17, 1, .aload_n 0, (0, 0, 0, 0, 0, 0)), (18, 1, .iload_n 3, (0, 0, 0, 0, 0, 0)),
  (19, 3, .invokevirtual 289, (234, 0, 1, 1, 2, 6)), (22, 1, .i2l, (0, 0, 0, 0, 0, 0)), (23, 1, .ladd, (0, 0, 0, 0, 0, 0)), (24, 1, .lstore_n 1, (0, 0, 0, 0, 0, 0)), (25, 3, .iinc 3 1, (0, 0, 0, 0, 0, 0)), (28, 3, .goto (-22), (6, 0, 0, 0, 0, 0)),
  (31, 1, .iconst 0, (0, 0, 0, 0, 0, 0)), (32, 1, .istore_n 3, (0, 0, 0, 0, 0, 0)), (33, 1, .iload_n 3, (0, 0, 0, 0, 0, 0)), (34, 1, .aload_n 0, (0, 0, 0, 0, 0, 0)), (35, 3, .getfield 141, (6, 1, 0, 0, 0, 0)), (38, 3, .if_icmp .ge 36, (74, 0, 0, 0, 0, 0)),
  (41, 3, .ldc2_w 294, (0, 0, 0, 0, 0, 31)), (44, 1, .lload_n 1, (0, 0, 0, 0, 0, 0)), (45, 1, .lmul, (0, 0, 0, 0, 0, 0)), (46, 1, .aload_n 0, (0, 0, 0, 0, 0, 0)), (47, 3, .getfield 13, (6, 2, 2, 0, 0, 0)), (50, 1, .iload_n 3, (0, 0, 0, 0, 0, 0)),
  (51, 1, .iaload, (0, 0, 0, 0, 0, 0)), (52, 1, .i2l, (0, 0, 0, 0, 0, 0)), (53, 1, .ladd, (0, 0, 0, 0, 0, 0)), (54, 1, .lstore_n 1, (0, 0, 0, 0, 0, 0)), (55, 3, .ldc2_w 294, (0, 0, 0, 0, 0, 31)), (58, 1, .lload_n 1, (0, 0, 0, 0, 0, 0)),
  (59, 1, .lmul, (0, 0, 0, 0, 0, 0)), (60, 1, .aload_n 0, (0, 0, 0, 0, 0, 0)), (61, 1, .iload_n 3, (0, 0, 0, 0, 0, 0)), (62, 3, .invokevirtual 178, (178, 0, 1, 1, 3, 6)), (65, 1, .i2l, (0, 0, 0, 0, 0, 0)), (66, 1, .ladd, (0, 0, 0, 0, 0, 0)),
  (67, 1, .lstore_n 1, (0, 0, 0, 0, 0, 0)), (68, 3, .iinc 3 1, (0, 0, 0, 0, 0, 0)), (71, 3, .goto (-38), (33, 0, 0, 0, 0, 0)), (74, 1, .iconst 0, (0, 0, 0, 0, 0, 0)), (75, 1, .istore_n 3, (0, 0, 0, 0, 0, 0)), (76, 1, .iload_n 3, (0, 0, 0, 0, 0, 0))]
def z_X6_digest_1 : List zI := [
  (77, 2, .bipush 6, (0, 0, 0, 0, 0, 0)), (79, 1, .aload_n 0, (0, 0, 0, 0, 0, 0)), (80, 3, .getfield 144, (6, 3, 0, 0, 0, 0)), (83, 1, .imul, (0, 0, 0, 0, 0, 0)), (84, 3, .if_icmp .ge 29, (113, 0, 0, 0, 0, 0)), (87, 3, .ldc2_w 294, (0, 0, 0, 0, 0, 31)),
  (90, 1, .lload_n 1, (0, 0, 0, 0, 0, 0)), (91, 1, .lmul, (0, 0, 0, 0, 0, 0)), (92, 1, .aload_n 0, (0, 0, 0, 0, 0, 0)), (93, 1, .iload_n 3, (0, 0, 0, 0, 0, 0)), (94, 2, .bipush 6, (0, 0, 0, 0, 0, 0)), (96, 1, .idiv, (0, 0, 0, 0, 0, 0)),
  (97, 1, .iload_n 3, (0, 0, 0, 0, 0, 0)), (98, 2, .bipush 6, (0, 0, 0, 0, 0, 0)), (100, 1, .irem, (0, 0, 0, 0, 0, 0)), (101, 3, .invokevirtual 172, (176, 0, 2, 1, 3, 6)), (104, 1, .i2l, (0, 0, 0, 0, 0, 0)), (105, 1, .ladd, (0, 0, 0, 0, 0, 0)),
  (106, 1, .lstore_n 1, (0, 0, 0, 0, 0, 0)), (107, 3, .iinc 3 1, (0, 0, 0, 0, 0, 0)), (110, 3, .goto (-34), (76, 0, 0, 0, 0, 0)), (113, 1, .iconst 1, (0, 0, 0, 0, 0, 0)), (114, 1, .istore_n 3, (0, 0, 0, 0, 0, 0)), (115, 1, .iload_n 3, (0, 0, 0, 0, 0, 0)),
  (116, 1, .iconst 4, (0, 0, 0, 0, 0, 0)), (117, 3, .if_icmp .ge 29, (146, 0, 0, 0, 0, 0)), (120, 3, .ldc2_w 294, (0, 0, 0, 0, 0, 31)), (123, 1, .lload_n 1, (0, 0, 0, 0, 0, 0)), (124, 1, .lmul, (0, 0, 0, 0, 0, 0)), (125, 1, .aload_n 0, (0, 0, 0, 0, 0, 0)),
  (126, 3, .getfield 7, (6, 0, 2, 0, 0, 0)), (129, 3, .sipush 1099, (0, 0, 0, 0, 0, 0)), (132, 1, .iload_n 3, (0, 0, 0, 0, 0, 0)), (133, 1, .imul, (0, 0, 0, 0, 0, 0)), (134, 1, .iconst 0, (0, 0, 0, 0, 0, 0)), (135, 1, .iadd, (0, 0, 0, 0, 0, 0)),
  (136, 1, .iaload, (0, 0, 0, 0, 0, 0)), (137, 1, .i2l, (0, 0, 0, 0, 0, 0)), (138, 1, .ladd, (0, 0, 0, 0, 0, 0)), (139, 1, .lstore_n 1, (0, 0, 0, 0, 0, 0)), (140, 3, .iinc 3 1, (0, 0, 0, 0, 0, 0)), (143, 3, .goto (-28), (115, 0, 0, 0, 0, 0)),
  (146, 1, .iconst 0, (0, 0, 0, 0, 0, 0)), (147, 1, .istore_n 3, (0, 0, 0, 0, 0, 0)), (148, 1, .iload_n 3, (0, 0, 0, 0, 0, 0)), (149, 2, .bipush 6, (0, 0, 0, 0, 0, 0)), (151, 3, .if_icmp .ge 63, (214, 0, 0, 0, 0, 0)), (154, 3, .ldc2_w 294, (0, 0, 0, 0, 0, 31))]
def z_X6_digest_2 : List zI := [
  (157, 1, .lload_n 1, (0, 0, 0, 0, 0, 0)), (158, 1, .lmul, (0, 0, 0, 0, 0, 0)), (159, 1, .aload_n 0, (0, 0, 0, 0, 0, 0)), (160, 3, .getfield 25, (6, 7, 2, 0, 0, 0)), (163, 1, .iload_n 3, (0, 0, 0, 0, 0, 0)), (164, 1, .iaload, (0, 0, 0, 0, 0, 0)),
  (165, 1, .i2l, (0, 0, 0, 0, 0, 0)), (166, 1, .ladd, (0, 0, 0, 0, 0, 0)), (167, 1, .lstore_n 1, (0, 0, 0, 0, 0, 0)), (168, 1, .iconst 0, (0, 0, 0, 0, 0, 0)), (169, 2, .istore 4, (0, 0, 0, 0, 0, 0)), (171, 2, .iload 4, (0, 0, 0, 0, 0, 0)),
  (173, 1, .aload_n 0, (0, 0, 0, 0, 0, 0)), (174, 3, .getfield 25, (6, 7, 2, 0, 0, 0)), (177, 1, .iload_n 3, (0, 0, 0, 0, 0, 0)), (178, 1, .iaload, (0, 0, 0, 0, 0, 0)), (179, 3, .if_icmp .ge 29, (208, 0, 0, 0, 0, 0)), (182, 3, .ldc2_w 294, (0, 0, 0, 0, 0, 31)),
  (185, 1, .lload_n 1, (0, 0, 0, 0, 0, 0)), (186, 1, .lmul, (0, 0, 0, 0, 0, 0)), (187, 1, .aload_n 0, (0, 0, 0, 0, 0, 0)), (188, 3, .getfield 28, (6, 8, 2, 0, 0, 0)), (191, 2, .bipush 40, (0, 0, 0, 0, 0, 0)), (193, 1, .iload_n 3, (0, 0, 0, 0, 0, 0)),
  (194, 1, .imul, (0, 0, 0, 0, 0, 0)), (195, 2, .iload 4, (0, 0, 0, 0, 0, 0)), (197, 1, .iadd, (0, 0, 0, 0, 0, 0)), (198, 1, .iaload, (0, 0, 0, 0, 0, 0)), (199, 1, .i2l, (0, 0, 0, 0, 0, 0)), (200, 1, .ladd, (0, 0, 0, 0, 0, 0)),
  (201, 1, .lstore_n 1, (0, 0, 0, 0, 0, 0)), (202, 3, .iinc 4 1, (0, 0, 0, 0, 0, 0)), (205, 3, .goto (-34), (171, 0, 0, 0, 0, 0)), (208, 3, .iinc 3 1, (0, 0, 0, 0, 0, 0)), (211, 3, .goto (-63), (148, 16, 0, 0, 0, 0)), (214, 1, .iconst 0, (0, 0, 0, 0, 0, 0)),
  (215, 1, .istore_n 3, (0, 0, 0, 0, 0, 0)), (216, 1, .iload_n 3, (0, 0, 0, 0, 0, 0)), (217, 1, .iconst 4, (0, 0, 0, 0, 0, 0)), (218, 3, .if_icmp .ge 63, (281, 0, 0, 0, 0, 0)), (221, 3, .ldc2_w 294, (0, 0, 0, 0, 0, 31)), (224, 1, .lload_n 1, (0, 0, 0, 0, 0, 0)),
  (225, 1, .lmul, (0, 0, 0, 0, 0, 0)), (226, 1, .aload_n 0, (0, 0, 0, 0, 0, 0)), (227, 3, .getfield 31, (6, 9, 2, 0, 0, 0)), (230, 1, .iload_n 3, (0, 0, 0, 0, 0, 0)), (231, 1, .iaload, (0, 0, 0, 0, 0, 0)), (232, 1, .i2l, (0, 0, 0, 0, 0, 0))]
def z_X6_digest_3 : List zI := [
  (233, 1, .ladd, (0, 0, 0, 0, 0, 0)), (234, 1, .lstore_n 1, (0, 0, 0, 0, 0, 0)), (235, 1, .iconst 0, (0, 0, 0, 0, 0, 0)), (236, 2, .istore 4, (0, 0, 0, 0, 0, 0)), (238, 2, .iload 4, (0, 0, 0, 0, 0, 0)), (240, 1, .aload_n 0, (0, 0, 0, 0, 0, 0)),
  (241, 3, .getfield 31, (6, 9, 2, 0, 0, 0)), (244, 1, .iload_n 3, (0, 0, 0, 0, 0, 0)), (245, 1, .iaload, (0, 0, 0, 0, 0, 0)), (246, 3, .if_icmp .ge 29, (275, 0, 0, 0, 0, 0)), (249, 3, .ldc2_w 294, (0, 0, 0, 0, 0, 31)), (252, 1, .lload_n 1, (0, 0, 0, 0, 0, 0)),
  (253, 1, .lmul, (0, 0, 0, 0, 0, 0)), (254, 1, .aload_n 0, (0, 0, 0, 0, 0, 0)), (255, 3, .getfield 34, (6, 10, 2, 0, 0, 0)), (258, 2, .bipush 60, (0, 0, 0, 0, 0, 0)), (260, 1, .iload_n 3, (0, 0, 0, 0, 0, 0)), (261, 1, .imul, (0, 0, 0, 0, 0, 0)),
  (262, 2, .iload 4, (0, 0, 0, 0, 0, 0)), (264, 1, .iadd, (0, 0, 0, 0, 0, 0)), (265, 1, .iaload, (0, 0, 0, 0, 0, 0)), (266, 1, .i2l, (0, 0, 0, 0, 0, 0)), (267, 1, .ladd, (0, 0, 0, 0, 0, 0)), (268, 1, .lstore_n 1, (0, 0, 0, 0, 0, 0)),
  (269, 3, .iinc 4 1, (0, 0, 0, 0, 0, 0)), (272, 3, .goto (-34), (238, 0, 0, 0, 0, 0)), (275, 3, .iinc 3 1, (0, 0, 0, 0, 0, 0)), (278, 3, .goto (-62), (216, 16, 0, 0, 0, 0)), (281, 1, .lload_n 1, (0, 0, 0, 0, 0, 0)), (282, 1, .lreturn, (0, 0, 0, 0, 0, 0))]
def z_X6_digest : List zI := z_X6_digest_0 ++ (z_X6_digest_1 ++ (z_X6_digest_2 ++ (z_X6_digest_3)))
def z_J6_bitCount_0f7a4 : List zI := [
  (0, 1, .iload_n 0, (0, 0, 0, 0, 0, 0)), (1, 1, .iload_n 0, (0, 0, 0, 0, 0, 0)), (2, 1, .iconst 1, (0, 0, 0, 0, 0, 0)), (3, 1, .iushr, (0, 0, 0, 0, 0, 0)), (4, 3, .ldc_w 265, (0, 0, 0, 0, 0, 1431655765)), (7, 1, .iand, (0, 0, 0, 0, 0, 0)),
  (8, 1, .isub, (0, 0, 0, 0, 0, 0)), (9, 1, .istore_n 0, (0, 0, 0, 0, 0, 0)), (10, 1, .iload_n 0, (0, 0, 0, 0, 0, 0)), (11, 3, .ldc_w 266, (0, 0, 0, 0, 0, 858993459)), (14, 1, .iand, (0, 0, 0, 0, 0, 0)), (15, 1, .iload_n 0, (0, 0, 0, 0, 0, 0)),
  (16, 1, .iconst 2, (0, 0, 0, 0, 0, 0)), (17, 1, .iushr, (0, 0, 0, 0, 0, 0)), (18, 3, .ldc_w 266, (0, 0, 0, 0, 0, 858993459)), (21, 1, .iand, (0, 0, 0, 0, 0, 0)), (22, 1, .iadd, (0, 0, 0, 0, 0, 0)), (23, 1, .istore_n 0, (0, 0, 0, 0, 0, 0)),
  (24, 1, .iload_n 0, (0, 0, 0, 0, 0, 0)), (25, 1, .iload_n 0, (0, 0, 0, 0, 0, 0)), (26, 1, .iconst 4, (0, 0, 0, 0, 0, 0)), (27, 1, .iushr, (0, 0, 0, 0, 0, 0)), (28, 1, .iadd, (0, 0, 0, 0, 0, 0)), (29, 3, .ldc_w 267, (0, 0, 0, 0, 0, 252645135)),
  (32, 1, .iand, (0, 0, 0, 0, 0, 0)), (33, 1, .istore_n 0, (0, 0, 0, 0, 0, 0)), (34, 1, .iload_n 0, (0, 0, 0, 0, 0, 0)), (35, 1, .iload_n 0, (0, 0, 0, 0, 0, 0)), (36, 2, .bipush 8, (0, 0, 0, 0, 0, 0)), (38, 1, .iushr, (0, 0, 0, 0, 0, 0)),
  (39, 1, .iadd, (0, 0, 0, 0, 0, 0)), (40, 1, .istore_n 0, (0, 0, 0, 0, 0, 0)), (41, 1, .iload_n 0, (0, 0, 0, 0, 0, 0)), (42, 1, .iload_n 0, (0, 0, 0, 0, 0, 0)), (43, 2, .bipush 16, (0, 0, 0, 0, 0, 0)), (45, 1, .iushr, (0, 0, 0, 0, 0, 0)),
  (46, 1, .iadd, (0, 0, 0, 0, 0, 0)), (47, 1, .istore_n 0, (0, 0, 0, 0, 0, 0)), (48, 1, .iload_n 0, (0, 0, 0, 0, 0, 0)), (49, 2, .bipush 63, (0, 0, 0, 0, 0, 0)), (51, 1, .iand, (0, 0, 0, 0, 0, 0)), (52, 1, .ireturn, (0, 0, 0, 0, 0, 0))]
def z_J7_fill_53178 : List zI := [
  (0, 1, .iconst 0, (0, 0, 0, 0, 0, 0)), (1, 1, .istore_n 2, (0, 0, 0, 0, 0, 0)), (2, 1, .aload_n 0, (0, 0, 0, 0, 0, 0)), (3, 1, .arraylength, (0, 0, 0, 0, 0, 0)), (4, 1, .istore_n 3, (0, 0, 0, 0, 0, 0)), (5, 1, .iload_n 2, (0, 0, 0, 0, 0, 0)),
  (6, 1, .iload_n 3, (0, 0, 0, 0, 0, 0)), (7, 3, .if_icmp .ge 13, (20, 0, 0, 0, 0, 0)), (10, 1, .aload_n 0, (0, 0, 0, 0, 0, 0)), (11, 1, .iload_n 2, (0, 0, 0, 0, 0, 0)), (12, 1, .iload_n 1, (0, 0, 0, 0, 0, 0)), (13, 1, .iastore, (0, 0, 0, 0, 0, 0)),
  (14, 3, .iinc 2 1, (0, 0, 0, 0, 0, 0)), (17, 3, .goto (-12), (5, 0, 0, 0, 0, 0)), (20, 1, .return_, (0, 0, 0, 0, 0, 0))]
def zcds : List (List zI) := [z_L_law, z_X0_init, z_X0_begin, z_X0_copyFrom, z_X0_manDetail, z_X0_hookDetail, z_X0_tiredTogether, z_X0_writeTo, z_X0_readFrom, z_X0_isFree, z_X0_hangs, z_X0_move, z_X0_swap, z_X0_takeAllDown, z_X0_hangBy, z_X0_hangByFirstPlan, z_X0_hangByNextPlan, z_X0_moveOn, z_X0_messmatePairs, z_X0_isIn, z_X0_howManyIn, z_X0_bitOfWhoIsInAt, z_X0_neighbourBits, z_X0_wakings, z_X0_wakingsFrom, z_X0_allWakings, z_X0_mostWakings, z_X0_tire, z_X0_inTheWayOf, z_X0_firstToGetUp, z_X0_hasBulkierNeighbour, z_X1_init, z_X1_hasHook, z_X1_hasMan, z_X1_addHook, z_X1_addMan, z_X1_mostMen, z_X1_planCount, z_X1_isOf, z_X1_bitsOf, z_X1_bulk, z_X1_placeWakes, z_X2_init, z_X2_isMissing, z_X2_hasRoomFor, z_X2_begin, z_X2_add, z_X2_discard, z_X2_copyFrom, z_X2_goBackTo, z_X3_init, z_X3_read, z_X3_skipBlanks, z_X3_readHooks, z_X3_readMan, z_X3_letterIn, z_X3_readFigure, z_X4_init, z_X4_isMissing, z_X4_has, z_X4_spans, z_X4_get, z_X4_set, z_X4_renew, z_X4_discard, z_X4_copyTo, z_X4_sum, z_X4_digestedOnto, z_X5_init, z_X5_row, z_X5_lay, z_X5_at, z_X5_tear, z_X5_copy, z_X5_mean, z_X5_text, z_X5_put, z_X5_fault, z_X5_deck, z_X5_man, z_X5_hook, z_X5_mark, z_X5_hang, z_X5_down, z_X5_change, z_X5_line, z_X5_night, z_X5_undo, z_X5_keep, z_X5_on, z_X5_neighbours, z_X5_woken, z_X5_all, z_X5_worst, z_X5_by, z_X5_best, z_X5_fair, z_X5_mixed, z_X5_judge, z_X5_gain, z_X5_calm, z_X5_mates, z_X5_cut, z_X5_up, z_X5_fits, z_X5_mid, z_X5_lots, z_X5_asked, z_X5_upper, z_X5_lower, z_X5_count, z_X5_finding, z_X5_findings, z_X5_digest, z_X5_rowAt, z_X5_textAt, z_X5_isWhen, z_X5_isKeptPlace, z_X5_found, z_X5_tell, z_X5_tellMean, z_X5_commonDivisor, z_X5_renewed, z_X5_sleptThrough, z_X5_wakingsWithout, z_X5_beginPlans, z_X5_leastPlan, z_X5_weighed, z_X5_firstGladPair, z_X5_wouldBothGladlyChange, z_X5_countFitting, z_X5_fitsBook, z_X5_fitsBookBy, z_X5_counted, z_X5_howManyThere, z_X5_howManyKept, z_X6_init, z_X6_in, z_X6_find, z_X6_tell, z_X6_isRow, z_X6_isText, z_X6_row, z_X6_makeRow, z_X6_refused, z_X6_lay, z_X6_at, z_X6_tear, z_X6_isSpan, z_X6_copy, z_X6_mean, z_X6_text, z_X6_put, z_X6_here, z_X6_skip, z_X6_figure, z_X6_placeOfLetter, z_X6_kindOfLetter, z_X6_readsHooks, z_X6_readsMan, z_X6_faultOf, z_X6_fault, z_X6_deck, z_X6_layNow, z_X6_isMan, z_X6_isHook, z_X6_isWhen, z_X6_isIn, z_X6_isBeside, z_X6_beside, z_X6_height, z_X6_wakes, z_X6_placeWorth, z_X6_wokenBut, z_X6_allWoken, z_X6_mostWoken, z_X6_toldOf, z_X6_man, z_X6_whoAt, z_X6_hook, z_X6_bits, z_X6_isOf, z_X6_besideOf, z_X6_tallMany, z_X6_mark, z_X6_keepPast, z_X6_hang, z_X6_down, z_X6_areTwo, z_X6_change, z_X6_line, z_X6_pass, z_X6_night, z_X6_undo, z_X6_copyDeck, z_X6_keep, z_X6_on, z_X6_neighbours, z_X6_woken, z_X6_inMany, z_X6_all, z_X6_worst, z_X6_by, z_X6_firstPlan, z_X6_areUnlike, z_X6_nextPlan, z_X6_valueOf, z_X6_toBest, z_X6_best, z_X6_fair, z_X6_mixed, z_X6_isPlan, z_X6_judge, z_X6_swap, z_X6_gain, z_X6_wouldChange, z_X6_calm, z_X6_matesTried, z_X6_mates, z_X6_cut, z_X6_nextOrder, z_X6_inTheWay, z_X6_up, z_X6_areWhens, z_X6_isSo, z_X6_fits, z_X6_mid, z_X6_lots, z_X6_asked, z_X6_upper, z_X6_lower, z_X6_hungMany, z_X6_tiredAll, z_X6_thereOf, z_X6_countOf, z_X6_count, z_X6_finding, z_X6_findings, z_X6_digest, z_J6_bitCount_0f7a4, z_J7_fill_53178]
def zcd (mi : Nat) : List zI := zcds.getD mi []
abbrev i_L_law : Nat := 0
abbrev i_X0_init : Nat := 1
abbrev i_X0_begin : Nat := 2
abbrev i_X0_copyFrom : Nat := 3
abbrev i_X0_manDetail : Nat := 4
abbrev i_X0_hookDetail : Nat := 5
abbrev i_X0_tiredTogether : Nat := 6
abbrev i_X0_writeTo : Nat := 7
abbrev i_X0_readFrom : Nat := 8
abbrev i_X0_isFree : Nat := 9
abbrev i_X0_hangs : Nat := 10
abbrev i_X0_move : Nat := 11
abbrev i_X0_swap : Nat := 12
abbrev i_X0_takeAllDown : Nat := 13
abbrev i_X0_hangBy : Nat := 14
abbrev i_X0_hangByFirstPlan : Nat := 15
abbrev i_X0_hangByNextPlan : Nat := 16
abbrev i_X0_moveOn : Nat := 17
abbrev i_X0_messmatePairs : Nat := 18
abbrev i_X0_isIn : Nat := 19
abbrev i_X0_howManyIn : Nat := 20
abbrev i_X0_bitOfWhoIsInAt : Nat := 21
abbrev i_X0_neighbourBits : Nat := 22
abbrev i_X0_wakings : Nat := 23
abbrev i_X0_wakingsFrom : Nat := 24
abbrev i_X0_allWakings : Nat := 25
abbrev i_X0_mostWakings : Nat := 26
abbrev i_X0_tire : Nat := 27
abbrev i_X0_inTheWayOf : Nat := 28
abbrev i_X0_firstToGetUp : Nat := 29
abbrev i_X0_hasBulkierNeighbour : Nat := 30
abbrev i_X1_init : Nat := 31
abbrev i_X1_hasHook : Nat := 32
abbrev i_X1_hasMan : Nat := 33
abbrev i_X1_addHook : Nat := 34
abbrev i_X1_addMan : Nat := 35
abbrev i_X1_mostMen : Nat := 36
abbrev i_X1_planCount : Nat := 37
abbrev i_X1_isOf : Nat := 38
abbrev i_X1_bitsOf : Nat := 39
abbrev i_X1_bulk : Nat := 40
abbrev i_X1_placeWakes : Nat := 41
abbrev i_X2_init : Nat := 42
abbrev i_X2_isMissing : Nat := 43
abbrev i_X2_hasRoomFor : Nat := 44
abbrev i_X2_begin : Nat := 45
abbrev i_X2_add : Nat := 46
abbrev i_X2_discard : Nat := 47
abbrev i_X2_copyFrom : Nat := 48
abbrev i_X2_goBackTo : Nat := 49
abbrev i_X3_init : Nat := 50
abbrev i_X3_read : Nat := 51
abbrev i_X3_skipBlanks : Nat := 52
abbrev i_X3_readHooks : Nat := 53
abbrev i_X3_readMan : Nat := 54
abbrev i_X3_letterIn : Nat := 55
abbrev i_X3_readFigure : Nat := 56
abbrev i_X4_init : Nat := 57
abbrev i_X4_isMissing : Nat := 58
abbrev i_X4_has : Nat := 59
abbrev i_X4_spans : Nat := 60
abbrev i_X4_get : Nat := 61
abbrev i_X4_set : Nat := 62
abbrev i_X4_renew : Nat := 63
abbrev i_X4_discard : Nat := 64
abbrev i_X4_copyTo : Nat := 65
abbrev i_X4_sum : Nat := 66
abbrev i_X4_digestedOnto : Nat := 67
abbrev i_X5_init : Nat := 68
abbrev i_X5_row : Nat := 69
abbrev i_X5_lay : Nat := 70
abbrev i_X5_at : Nat := 71
abbrev i_X5_tear : Nat := 72
abbrev i_X5_copy : Nat := 73
abbrev i_X5_mean : Nat := 74
abbrev i_X5_text : Nat := 75
abbrev i_X5_put : Nat := 76
abbrev i_X5_fault : Nat := 77
abbrev i_X5_deck : Nat := 78
abbrev i_X5_man : Nat := 79
abbrev i_X5_hook : Nat := 80
abbrev i_X5_mark : Nat := 81
abbrev i_X5_hang : Nat := 82
abbrev i_X5_down : Nat := 83
abbrev i_X5_change : Nat := 84
abbrev i_X5_line : Nat := 85
abbrev i_X5_night : Nat := 86
abbrev i_X5_undo : Nat := 87
abbrev i_X5_keep : Nat := 88
abbrev i_X5_on : Nat := 89
abbrev i_X5_neighbours : Nat := 90
abbrev i_X5_woken : Nat := 91
abbrev i_X5_all : Nat := 92
abbrev i_X5_worst : Nat := 93
abbrev i_X5_by : Nat := 94
abbrev i_X5_best : Nat := 95
abbrev i_X5_fair : Nat := 96
abbrev i_X5_mixed : Nat := 97
abbrev i_X5_judge : Nat := 98
abbrev i_X5_gain : Nat := 99
abbrev i_X5_calm : Nat := 100
abbrev i_X5_mates : Nat := 101
abbrev i_X5_cut : Nat := 102
abbrev i_X5_up : Nat := 103
abbrev i_X5_fits : Nat := 104
abbrev i_X5_mid : Nat := 105
abbrev i_X5_lots : Nat := 106
abbrev i_X5_asked : Nat := 107
abbrev i_X5_upper : Nat := 108
abbrev i_X5_lower : Nat := 109
abbrev i_X5_count : Nat := 110
abbrev i_X5_finding : Nat := 111
abbrev i_X5_findings : Nat := 112
abbrev i_X5_digest : Nat := 113
abbrev i_X5_rowAt : Nat := 114
abbrev i_X5_textAt : Nat := 115
abbrev i_X5_isWhen : Nat := 116
abbrev i_X5_isKeptPlace : Nat := 117
abbrev i_X5_found : Nat := 118
abbrev i_X5_tell : Nat := 119
abbrev i_X5_tellMean : Nat := 120
abbrev i_X5_commonDivisor : Nat := 121
abbrev i_X5_renewed : Nat := 122
abbrev i_X5_sleptThrough : Nat := 123
abbrev i_X5_wakingsWithout : Nat := 124
abbrev i_X5_beginPlans : Nat := 125
abbrev i_X5_leastPlan : Nat := 126
abbrev i_X5_weighed : Nat := 127
abbrev i_X5_firstGladPair : Nat := 128
abbrev i_X5_wouldBothGladlyChange : Nat := 129
abbrev i_X5_countFitting : Nat := 130
abbrev i_X5_fitsBook : Nat := 131
abbrev i_X5_fitsBookBy : Nat := 132
abbrev i_X5_counted : Nat := 133
abbrev i_X5_howManyThere : Nat := 134
abbrev i_X5_howManyKept : Nat := 135
abbrev i_X6_init : Nat := 136
abbrev i_X6_in : Nat := 137
abbrev i_X6_find : Nat := 138
abbrev i_X6_tell : Nat := 139
abbrev i_X6_isRow : Nat := 140
abbrev i_X6_isText : Nat := 141
abbrev i_X6_row : Nat := 142
abbrev i_X6_makeRow : Nat := 143
abbrev i_X6_refused : Nat := 144
abbrev i_X6_lay : Nat := 145
abbrev i_X6_at : Nat := 146
abbrev i_X6_tear : Nat := 147
abbrev i_X6_isSpan : Nat := 148
abbrev i_X6_copy : Nat := 149
abbrev i_X6_mean : Nat := 150
abbrev i_X6_text : Nat := 151
abbrev i_X6_put : Nat := 152
abbrev i_X6_here : Nat := 153
abbrev i_X6_skip : Nat := 154
abbrev i_X6_figure : Nat := 155
abbrev i_X6_placeOfLetter : Nat := 156
abbrev i_X6_kindOfLetter : Nat := 157
abbrev i_X6_readsHooks : Nat := 158
abbrev i_X6_readsMan : Nat := 159
abbrev i_X6_faultOf : Nat := 160
abbrev i_X6_fault : Nat := 161
abbrev i_X6_deck : Nat := 162
abbrev i_X6_layNow : Nat := 163
abbrev i_X6_isMan : Nat := 164
abbrev i_X6_isHook : Nat := 165
abbrev i_X6_isWhen : Nat := 166
abbrev i_X6_isIn : Nat := 167
abbrev i_X6_isBeside : Nat := 168
abbrev i_X6_beside : Nat := 169
abbrev i_X6_height : Nat := 170
abbrev i_X6_wakes : Nat := 171
abbrev i_X6_placeWorth : Nat := 172
abbrev i_X6_wokenBut : Nat := 173
abbrev i_X6_allWoken : Nat := 174
abbrev i_X6_mostWoken : Nat := 175
abbrev i_X6_toldOf : Nat := 176
abbrev i_X6_man : Nat := 177
abbrev i_X6_whoAt : Nat := 178
abbrev i_X6_hook : Nat := 179
abbrev i_X6_bits : Nat := 180
abbrev i_X6_isOf : Nat := 181
abbrev i_X6_besideOf : Nat := 182
abbrev i_X6_tallMany : Nat := 183
abbrev i_X6_mark : Nat := 184
abbrev i_X6_keepPast : Nat := 185
abbrev i_X6_hang : Nat := 186
abbrev i_X6_down : Nat := 187
abbrev i_X6_areTwo : Nat := 188
abbrev i_X6_change : Nat := 189
abbrev i_X6_line : Nat := 190
abbrev i_X6_pass : Nat := 191
abbrev i_X6_night : Nat := 192
abbrev i_X6_undo : Nat := 193
abbrev i_X6_copyDeck : Nat := 194
abbrev i_X6_keep : Nat := 195
abbrev i_X6_on : Nat := 196
abbrev i_X6_neighbours : Nat := 197
abbrev i_X6_woken : Nat := 198
abbrev i_X6_inMany : Nat := 199
abbrev i_X6_all : Nat := 200
abbrev i_X6_worst : Nat := 201
abbrev i_X6_by : Nat := 202
abbrev i_X6_firstPlan : Nat := 203
abbrev i_X6_areUnlike : Nat := 204
abbrev i_X6_nextPlan : Nat := 205
abbrev i_X6_valueOf : Nat := 206
abbrev i_X6_toBest : Nat := 207
abbrev i_X6_best : Nat := 208
abbrev i_X6_fair : Nat := 209
abbrev i_X6_mixed : Nat := 210
abbrev i_X6_isPlan : Nat := 211
abbrev i_X6_judge : Nat := 212
abbrev i_X6_swap : Nat := 213
abbrev i_X6_gain : Nat := 214
abbrev i_X6_wouldChange : Nat := 215
abbrev i_X6_calm : Nat := 216
abbrev i_X6_matesTried : Nat := 217
abbrev i_X6_mates : Nat := 218
abbrev i_X6_cut : Nat := 219
abbrev i_X6_nextOrder : Nat := 220
abbrev i_X6_inTheWay : Nat := 221
abbrev i_X6_up : Nat := 222
abbrev i_X6_areWhens : Nat := 223
abbrev i_X6_isSo : Nat := 224
abbrev i_X6_fits : Nat := 225
abbrev i_X6_mid : Nat := 226
abbrev i_X6_lots : Nat := 227
abbrev i_X6_asked : Nat := 228
abbrev i_X6_upper : Nat := 229
abbrev i_X6_lower : Nat := 230
abbrev i_X6_hungMany : Nat := 231
abbrev i_X6_tiredAll : Nat := 232
abbrev i_X6_thereOf : Nat := 233
abbrev i_X6_countOf : Nat := 234
abbrev i_X6_count : Nat := 235
abbrev i_X6_finding : Nat := 236
abbrev i_X6_findings : Nat := 237
abbrev i_X6_digest : Nat := 238
abbrev i_J6_bitCount_0f7a4 : Nat := 239
abbrev i_J7_fill_53178 : Nat := 240
end
section
/-! running the pure machine: with fuel, then without -/
def zst (r : zE) (Kc K : zK) : zK := fun mi pc lv st h => match zlk (zcd mi) pc with
  | none => none
  | some q => zx r Kc K mi pc q.1 q.2.1 q.2.2 lv st h
def zrun (r : zE) : Nat → zK
  | 0 => fun _ _ _ _ _ => none
  | n + 1 => zst r (zrun r n) (zrun r n)
def zle (K K' : zK) : Prop := ∀ a b c d e q, K a b c d e = some q → K' a b c d e = some q
def zAd (G : zK → Option zRes) : Prop := (∀ K K', zle K K' → ∀ q, G K = some q → G K' = some q) ∧ (∀ Kn : Nat → zK, (∀ i j, i ≤ j → zle (Kn i) (Kn j)) → ∀ E : zK, (∀ a b c d e q, E a b c d e = some q → ∃ n, Kn n a b c d e = some q) → ∀ q, G E = some q → ∃ n, G (Kn n) = some q)
section INV
variable {X : Type} {q : X}
theorem zp1i_inv {st : List Value} {k : Int32 → List Value → Option X} (h : zp1i st k = some q) : ∃ x t, st = .int x :: t ∧ k x t = some q := by
  unfold zp1i at h; split at h
  · exact ⟨_, _, rfl, h⟩
  · cases h
theorem zp2i_inv {st : List Value} {k : Int32 → Int32 → List Value → Option X} (h : zp2i st k = some q) : ∃ x y t, st = .int y :: .int x :: t ∧ k x y t = some q := by
  unfold zp2i at h; split at h
  · exact ⟨_, _, _, rfl, h⟩
  · cases h
theorem zp1l_inv {st : List Value} {k : Int64 → List Value → Option X} (h : zp1l st k = some q) : ∃ x t, st = .long x :: t ∧ k x t = some q := by
  unfold zp1l at h; split at h
  · exact ⟨_, _, rfl, h⟩
  · cases h
theorem zp2l_inv {st : List Value} {k : Int64 → Int64 → List Value → Option X} (h : zp2l st k = some q) : ∃ x y t, st = .long y :: .long x :: t ∧ k x y t = some q := by
  unfold zp2l at h; split at h
  · exact ⟨_, _, _, rfl, h⟩
  · cases h
theorem zp1r_inv {st : List Value} {k : Nat → List Value → Option X} (h : zp1r st k = some q) : ∃ x t, st = .ref x :: t ∧ k x t = some q := by
  unfold zp1r at h; split at h
  · exact ⟨_, _, rfl, h⟩
  · cases h
theorem zp1q_inv {st : List Value} {k : Option Nat → List Value → Option X} (h : zp1q st k = some q) : ∃ x t, st = va_rf x :: t ∧ k x t = some q := by
  unfold zp1q at h; split at h
  · exact ⟨some _, _, rfl, h⟩
  · exact ⟨none, _, rfl, h⟩
  · cases h
theorem zpia_inv {st : List Value} {k : Nat → Int32 → List Value → Option X} (h : zpia st k = some q) : ∃ a x t, st = .int x :: .ref a :: t ∧ k a x t = some q := by
  unfold zpia at h; split at h
  · exact ⟨_, _, _, rfl, h⟩
  · cases h
theorem zpla_inv {st : List Value} {k : Nat → Int64 → List Value → Option X} (h : zpla st k = some q) : ∃ a x t, st = .long x :: .ref a :: t ∧ k a x t = some q := by
  unfold zpla at h; split at h
  · exact ⟨_, _, _, rfl, h⟩
  · cases h
theorem zpra_inv {st : List Value} {k : Nat → Nat → List Value → Option X} (h : zpra st k = some q) : ∃ a x t, st = .ref x :: .ref a :: t ∧ k a x t = some q := by
  unfold zpra at h; split at h
  · exact ⟨_, _, _, rfl, h⟩
  · cases h
theorem zpiia_inv {st : List Value} {k : Nat → Int32 → Int32 → List Value → Option X} (h : zpiia st k = some q) : ∃ a i x t, st = .int x :: .int i :: .ref a :: t ∧ k a i x t = some q := by
  unfold zpiia at h; split at h
  · exact ⟨_, _, _, _, rfl, h⟩
  · cases h
theorem zpria_inv {st : List Value} {k : Nat → Int32 → Nat → List Value → Option X} (h : zpria st k = some q) : ∃ a i x t, st = .ref x :: .int i :: .ref a :: t ∧ k a i x t = some q := by
  unfold zpria at h; split at h
  · exact ⟨_, _, _, _, rfl, h⟩
  · cases h
theorem zpcp_inv {st : List Value} {k : Nat → Int32 → Nat → Int32 → Int32 → List Value → Option X} (h : zpcp st k = some q) : ∃ a0 sp a1 dp n t, st = .int n :: .int dp :: .ref a1 :: .int sp :: .ref a0 :: t ∧ k a0 sp a1 dp n t = some q := by
  unfold zpcp at h; split at h
  · exact ⟨_, _, _, _, _, _, rfl, h⟩
  · cases h
theorem zp1v_inv {st : List Value} {k : Value → List Value → Option X} (h : zp1v st k = some q) : ∃ v t, st = v :: t ∧ v.category = 1 ∧ k v t = some q := by
  unfold zp1v at h; split at h
  · split at h
    · exact ⟨_, _, rfl, by assumption, h⟩
    · cases h
  · cases h
theorem zp2v_inv {st : List Value} {k : Value → Value → List Value → Option X} (h : zp2v st k = some q) : ∃ v u t, st = v :: u :: t ∧ (v.category = 1 ∧ u.category = 1) ∧ k v u t = some q := by
  unfold zp2v at h; split at h
  · split at h
    · exact ⟨_, _, _, rfl, by assumption, h⟩
    · cases h
  · cases h
theorem zpop_inv {st : List Value} {n : Nat} {k : List Value → List Value → Option X} (h : zpop st n k = some q) : ∃ as t, st = as.reverse ++ t ∧ as.length = n ∧ (t.map fun v => v.category).sum ≤ 8 ∧ (n ≤ st.length ∧ as = (st.take n).reverse ∧ t = st.drop n) ∧ k as t = some q := by
  unfold zpop at h; split at h
  · rename_i c
    refine ⟨_, _, ?_, ?_, c.2, ⟨c.1, rfl, rfl⟩, h⟩
    · simp
    · simp; omega
  · cases h
theorem zli_inv {lv : List (Option Value)} {i : Nat} {k : Int32 → Option X} (h : zli lv i k = some q) : ∃ x, lv[i]? = some (some (.int x)) ∧ k x = some q := by
  unfold zli at h; split at h
  · exact ⟨_, by assumption, h⟩
  · cases h
theorem zll_inv {lv : List (Option Value)} {i : Nat} {k : Int64 → Option X} (h : zll lv i k = some q) : ∃ x, lv[i]? = some (some (.long x)) ∧ k x = some q := by
  unfold zll at h; split at h
  · exact ⟨_, by assumption, h⟩
  · cases h
theorem zlq_inv {lv : List (Option Value)} {i : Nat} {k : Value → Option X} (h : zlq lv i k = some q) : ∃ x, lv[i]? = some (some (va_rf x)) ∧ k (va_rf x) = some q := by
  unfold zlq at h; split at h
  · exact ⟨some _, by assumption, h⟩
  · exact ⟨none, by assumption, h⟩
  · cases h
theorem zs1_inv {lv : List (Option Value)} {i : Nat} {v : Value} {k : List (Option Value) → Option X} (h : zs1 lv i v k = some q) : i < lv.length ∧ k ((zcl lv i).set i (some v)) = some q := by
  unfold zs1 at h; split at h
  · exact ⟨by assumption, h⟩
  · cases h
theorem zs2_inv {lv : List (Option Value)} {i : Nat} {v : Value} {k : List (Option Value) → Option X} (h : zs2 lv i v k = some q) : i + 1 < lv.length ∧ k (((zcl lv i).set i (some v)).set (i + 1) none) = some q := by
  unfold zs2 at h; split at h
  · exact ⟨by assumption, h⟩
  · cases h
end INV
theorem zca_inv {kind : Nat} {o : Option zRes} {k : List Value → zH → Option zRes} {q : zRes} (h : zca kind o k = some q) : ∃ (v : Option Value) (g : zH), o = some (v, g) ∧ (∀ k', zca kind (some (v, g)) k' = k' v.toList g) ∧ k v.toList g = some q := by
  match kind with
  | 0 =>
    simp only [zca, zcV] at h
    split at h
    · exact ⟨none, _, rfl, fun _ => rfl, h⟩
    · cases h
  | 1 =>
    simp only [zca, zcI] at h
    split at h
    · exact ⟨some _, _, rfl, fun _ => rfl, h⟩
    · cases h
  | 2 =>
    simp only [zca, zcL] at h
    split at h
    · exact ⟨some _, _, rfl, fun _ => rfl, h⟩
    · cases h
  | _ + 3 =>
    simp only [zca, zcQ] at h
    split at h
    · exact ⟨some _, _, rfl, fun _ => rfl, h⟩
    · exact ⟨some _, _, rfl, fun _ => rfl, h⟩
    · cases h
section ADM
theorem zAd_c (c : Option zRes) : zAd (fun _ => c) := ⟨fun _ _ _ _ h => h, fun _ _ _ _ _ h => ⟨0, h⟩⟩
theorem zAd_K (a b c d e) : zAd (fun K => K a b c d e) := ⟨fun _ _ h _ hq => h _ _ _ _ _ _ hq, fun _ _ _ hE _ hq => hE _ _ _ _ _ _ hq⟩
theorem zAd_ite {c : Prop} [Decidable c] {G1 G2 : zK → Option zRes} (h1 : zAd G1) (h2 : zAd G2) : zAd (fun K => if c then G1 K else G2 K) := by
  by_cases hc : c
  · simpa only [if_pos hc] using h1
  · simpa only [if_neg hc] using h2
theorem zAd_bind {α : Type} {o : Option α} {G : α → zK → Option zRes} (h : ∀ v, zAd (G v)) : zAd (fun K => o.bind fun v => G v K) := by
  cases o with
  | none => exact zAd_c none
  | some v => exact h v
theorem zAd_ca {kind : Nat} {a b c d e} {G : List Value → zH → zK → Option zRes} (h : ∀ v g, zAd (G v g)) : zAd (fun K => zca kind (K a b c d e) fun v g => G v g K) := by
  refine ⟨fun K K' hK q hq => ?_, fun Kn hm E hE q hq => ?_⟩
  · obtain ⟨v, g, e1, e2, e3⟩ := zca_inv hq
    show zca kind (K' a b c d e) _ = _
    rw [hK _ _ _ _ _ _ e1, e2]
    exact (h _ _).1 K K' hK q e3
  · obtain ⟨v, g, e1, e2, e3⟩ := zca_inv hq
    obtain ⟨n1, h1⟩ := hE _ _ _ _ _ _ e1
    obtain ⟨n2, h2⟩ := (h _ _).2 Kn hm E hE q e3
    refine ⟨n1 + n2, ?_⟩
    show zca kind (Kn (n1 + n2) a b c d e) _ = _
    rw [hm n1 (n1 + n2) (by omega) _ _ _ _ _ _ h1, e2]
    exact (h _ _).1 _ _ (hm n2 (n1 + n2) (by omega)) q h2
variable {st : List Value} {lv : List (Option Value)} {i n pc : Nat} {v : Value}
theorem zAd_1i {G : Int32 → List Value → zK → Option zRes} (h : ∀ x t, zAd (G x t)) : zAd (fun K => zp1i st fun x t => G x t K) :=
  ⟨fun K K' hK q hq => by obtain ⟨_, _, rfl, hq⟩ := zp1i_inv hq; exact (h _ _).1 K K' hK q hq, fun Kn hm E hE q hq => by obtain ⟨_, _, rfl, hq⟩ := zp1i_inv hq; exact (h _ _).2 Kn hm E hE q hq⟩
theorem zAd_2i {G : Int32 → Int32 → List Value → zK → Option zRes} (h : ∀ x y t, zAd (G x y t)) : zAd (fun K => zp2i st fun x y t => G x y t K) :=
  ⟨fun K K' hK q hq => by obtain ⟨_, _, _, rfl, hq⟩ := zp2i_inv hq; exact (h _ _ _).1 K K' hK q hq, fun Kn hm E hE q hq => by obtain ⟨_, _, _, rfl, hq⟩ := zp2i_inv hq; exact (h _ _ _).2 Kn hm E hE q hq⟩
theorem zAd_1l {G : Int64 → List Value → zK → Option zRes} (h : ∀ x t, zAd (G x t)) : zAd (fun K => zp1l st fun x t => G x t K) :=
  ⟨fun K K' hK q hq => by obtain ⟨_, _, rfl, hq⟩ := zp1l_inv hq; exact (h _ _).1 K K' hK q hq, fun Kn hm E hE q hq => by obtain ⟨_, _, rfl, hq⟩ := zp1l_inv hq; exact (h _ _).2 Kn hm E hE q hq⟩
theorem zAd_2l {G : Int64 → Int64 → List Value → zK → Option zRes} (h : ∀ x y t, zAd (G x y t)) : zAd (fun K => zp2l st fun x y t => G x y t K) :=
  ⟨fun K K' hK q hq => by obtain ⟨_, _, _, rfl, hq⟩ := zp2l_inv hq; exact (h _ _ _).1 K K' hK q hq, fun Kn hm E hE q hq => by obtain ⟨_, _, _, rfl, hq⟩ := zp2l_inv hq; exact (h _ _ _).2 Kn hm E hE q hq⟩
theorem zAd_1r {G : Nat → List Value → zK → Option zRes} (h : ∀ x t, zAd (G x t)) : zAd (fun K => zp1r st fun x t => G x t K) :=
  ⟨fun K K' hK q hq => by obtain ⟨_, _, rfl, hq⟩ := zp1r_inv hq; exact (h _ _).1 K K' hK q hq, fun Kn hm E hE q hq => by obtain ⟨_, _, rfl, hq⟩ := zp1r_inv hq; exact (h _ _).2 Kn hm E hE q hq⟩
theorem zp1q_k {X : Type} {x : Option Nat} {t : List Value} {k : Option Nat → List Value → Option X} : zp1q (va_rf x :: t) k = k x t := by cases x <;> rfl
theorem zAd_1q {G : Option Nat → List Value → zK → Option zRes} (h : ∀ x t, zAd (G x t)) : zAd (fun K => zp1q st fun x t => G x t K) :=
  ⟨fun K K' hK q hq => by obtain ⟨_, _, rfl, hq2⟩ := zp1q_inv hq; simp only [zp1q_k]; exact (h _ _).1 K K' hK q hq2, fun Kn hm E hE q hq => by obtain ⟨_, _, rfl, hq2⟩ := zp1q_inv hq; simp only [zp1q_k]; exact (h _ _).2 Kn hm E hE q hq2⟩
theorem zAd_ia {G : Nat → Int32 → List Value → zK → Option zRes} (h : ∀ x y t, zAd (G x y t)) : zAd (fun K => zpia st fun x y t => G x y t K) :=
  ⟨fun K K' hK q hq => by obtain ⟨_, _, _, rfl, hq⟩ := zpia_inv hq; exact (h _ _ _).1 K K' hK q hq, fun Kn hm E hE q hq => by obtain ⟨_, _, _, rfl, hq⟩ := zpia_inv hq; exact (h _ _ _).2 Kn hm E hE q hq⟩
theorem zAd_la {G : Nat → Int64 → List Value → zK → Option zRes} (h : ∀ x y t, zAd (G x y t)) : zAd (fun K => zpla st fun x y t => G x y t K) :=
  ⟨fun K K' hK q hq => by obtain ⟨_, _, _, rfl, hq⟩ := zpla_inv hq; exact (h _ _ _).1 K K' hK q hq, fun Kn hm E hE q hq => by obtain ⟨_, _, _, rfl, hq⟩ := zpla_inv hq; exact (h _ _ _).2 Kn hm E hE q hq⟩
theorem zAd_ra {G : Nat → Nat → List Value → zK → Option zRes} (h : ∀ x y t, zAd (G x y t)) : zAd (fun K => zpra st fun x y t => G x y t K) :=
  ⟨fun K K' hK q hq => by obtain ⟨_, _, _, rfl, hq⟩ := zpra_inv hq; exact (h _ _ _).1 K K' hK q hq, fun Kn hm E hE q hq => by obtain ⟨_, _, _, rfl, hq⟩ := zpra_inv hq; exact (h _ _ _).2 Kn hm E hE q hq⟩
theorem zAd_iia {G : Nat → Int32 → Int32 → List Value → zK → Option zRes} (h : ∀ x y z t, zAd (G x y z t)) : zAd (fun K => zpiia st fun x y z t => G x y z t K) :=
  ⟨fun K K' hK q hq => by obtain ⟨_, _, _, _, rfl, hq⟩ := zpiia_inv hq; exact (h _ _ _ _).1 K K' hK q hq, fun Kn hm E hE q hq => by obtain ⟨_, _, _, _, rfl, hq⟩ := zpiia_inv hq; exact (h _ _ _ _).2 Kn hm E hE q hq⟩
theorem zAd_ria {G : Nat → Int32 → Nat → List Value → zK → Option zRes} (h : ∀ x y z t, zAd (G x y z t)) : zAd (fun K => zpria st fun x y z t => G x y z t K) :=
  ⟨fun K K' hK q hq => by obtain ⟨_, _, _, _, rfl, hq⟩ := zpria_inv hq; exact (h _ _ _ _).1 K K' hK q hq, fun Kn hm E hE q hq => by obtain ⟨_, _, _, _, rfl, hq⟩ := zpria_inv hq; exact (h _ _ _ _).2 Kn hm E hE q hq⟩
theorem zAd_cp {G : Nat → Int32 → Nat → Int32 → Int32 → List Value → zK → Option zRes} (h : ∀ a b c d e t, zAd (G a b c d e t)) : zAd (fun K => zpcp st fun a b c d e t => G a b c d e t K) :=
  ⟨fun K K' hK q hq => by obtain ⟨_, _, _, _, _, _, rfl, hq⟩ := zpcp_inv hq; exact (h _ _ _ _ _ _).1 K K' hK q hq, fun Kn hm E hE q hq => by obtain ⟨_, _, _, _, _, _, rfl, hq⟩ := zpcp_inv hq; exact (h _ _ _ _ _ _).2 Kn hm E hE q hq⟩
theorem zAd_1v {G : Value → List Value → zK → Option zRes} (h : ∀ x t, zAd (G x t)) : zAd (fun K => zp1v st fun x t => G x t K) :=
  ⟨fun K K' hK q hq => by obtain ⟨_, _, rfl, hc, hq⟩ := zp1v_inv hq; simp only [zp1v, if_pos hc]; exact (h _ _).1 K K' hK q hq, fun Kn hm E hE q hq => by obtain ⟨_, _, rfl, hc, hq⟩ := zp1v_inv hq; simp only [zp1v, if_pos hc]; exact (h _ _).2 Kn hm E hE q hq⟩
theorem zAd_2v {G : Value → Value → List Value → zK → Option zRes} (h : ∀ x y t, zAd (G x y t)) : zAd (fun K => zp2v st fun x y t => G x y t K) :=
  ⟨fun K K' hK q hq => by obtain ⟨_, _, _, rfl, hc, hq⟩ := zp2v_inv hq; simp only [zp2v, if_pos hc]; exact (h _ _ _).1 K K' hK q hq, fun Kn hm E hE q hq => by obtain ⟨_, _, _, rfl, hc, hq⟩ := zp2v_inv hq; simp only [zp2v, if_pos hc]; exact (h _ _ _).2 Kn hm E hE q hq⟩
theorem zAd_pop {G : List Value → List Value → zK → Option zRes} (h : ∀ x t, zAd (G x t)) : zAd (fun K => zpop st n fun x t => G x t K) := by
  unfold zpop
  exact zAd_ite (h _ _) (zAd_c none)
theorem zAd_li {G : Int32 → zK → Option zRes} (h : ∀ x, zAd (G x)) : zAd (fun K => zli lv i fun x => G x K) :=
  ⟨fun K K' hK q hq => by obtain ⟨_, e, hq⟩ := zli_inv hq; simp only [zli, e]; exact (h _).1 K K' hK q hq, fun Kn hm E hE q hq => by obtain ⟨_, e, hq⟩ := zli_inv hq; simp only [zli, e]; exact (h _).2 Kn hm E hE q hq⟩
theorem zAd_ll {G : Int64 → zK → Option zRes} (h : ∀ x, zAd (G x)) : zAd (fun K => zll lv i fun x => G x K) :=
  ⟨fun K K' hK q hq => by obtain ⟨_, e, hq⟩ := zll_inv hq; simp only [zll, e]; exact (h _).1 K K' hK q hq, fun Kn hm E hE q hq => by obtain ⟨_, e, hq⟩ := zll_inv hq; simp only [zll, e]; exact (h _).2 Kn hm E hE q hq⟩
theorem zlq_k {X : Type} {x : Option Nat} {k : Value → Option X} (e : lv[i]? = some (some (va_rf x))) : zlq lv i k = k (va_rf x) := by cases x <;> simp only [zlq, e, va_rf]
theorem zAd_lq {G : Value → zK → Option zRes} (h : ∀ x, zAd (G x)) : zAd (fun K => zlq lv i fun x => G x K) :=
  ⟨fun K K' hK q hq => by obtain ⟨_, e, hq2⟩ := zlq_inv hq; simp only [zlq_k e]; exact (h _).1 K K' hK q hq2, fun Kn hm E hE q hq => by obtain ⟨_, e, hq2⟩ := zlq_inv hq; simp only [zlq_k e]; exact (h _).2 Kn hm E hE q hq2⟩
theorem zAd_s1 {G : List (Option Value) → zK → Option zRes} (h : ∀ x, zAd (G x)) : zAd (fun K => zs1 lv i v fun x => G x K) := by
  unfold zs1
  exact zAd_ite (h _) (zAd_c none)
theorem zAd_s2 {G : List (Option Value) → zK → Option zRes} (h : ∀ x, zAd (G x)) : zAd (fun K => zs2 lv i v fun x => G x K) := by
  unfold zs2
  exact zAd_ite (h _) (zAd_c none)
theorem zAd_ts {G : Nat → zK → Option zRes} (h : ∀ x, zAd (G x)) (x : Int32) (d : Int) : ∀ (os : List Int) (lo : Int), zAd (fun K => zts pc (fun q => G q K) x lo os d)
  | [], _ => h _
  | o :: os, lo => by
    simp only [zts]
    exact zAd_ite (h _) (zAd_ts h x d os _)
theorem zAd_ls {G : Nat → zK → Option zRes} (h : ∀ x, zAd (G x)) (x : Int32) (d : Int) : ∀ (os : List (Int × Int)), zAd (fun K => zls pc (fun q => G q K) x os d)
  | [] => h _
  | o :: os => by
    simp only [zls]
    exact zAd_ite (h _) (zAd_ls h x d os)
theorem zAd_on {x : Option Nat} {G1 : zK → Option zRes} {G2 : Nat → zK → Option zRes} (h1 : zAd G1) (h2 : ∀ b, zAd (G2 b)) : zAd (fun K => match x with | none => G1 K | some b => G2 b K) := by
  cases x with
  | none => exact h1
  | some b => exact h2 b
end ADM
set_option maxHeartbeats 4000000 in
theorem zAd_x (r : zE) (mi pc n : Nat) (ins : Instr) (w : zL) (lv : List (Option Value)) (st : List Value) (h : zH) : zAd (fun K => zx r K K mi pc n ins w lv st h) := by
  unfold zx
  split <;> (try split) <;> (try split) <;> first
    | exact zAd_c _
    | exact zAd_K _ _ _ _ _
    | (repeat' (first | exact zAd_c _ | exact zAd_K _ _ _ _ _ | refine zAd_on ?_ (fun _ => ?_) | refine zAd_1i (fun _ _ => ?_) | refine zAd_2i (fun _ _ _ => ?_) | refine zAd_1l (fun _ _ => ?_) | refine zAd_2l (fun _ _ _ => ?_) | refine zAd_1r (fun _ _ => ?_) | refine zAd_1q (fun _ _ => ?_) | refine zAd_ia (fun _ _ _ => ?_) | refine zAd_la (fun _ _ _ => ?_) | refine zAd_ra (fun _ _ _ => ?_) | refine zAd_iia (fun _ _ _ _ => ?_) | refine zAd_ria (fun _ _ _ _ => ?_) | refine zAd_cp (fun _ _ _ _ _ _ => ?_) | refine zAd_1v (fun _ _ => ?_) | refine zAd_2v (fun _ _ _ => ?_) | refine zAd_pop (fun _ _ => ?_) | refine zAd_li (fun _ => ?_) | refine zAd_ll (fun _ => ?_) | refine zAd_lq (fun _ => ?_) | refine zAd_s1 (fun _ => ?_) | refine zAd_s2 (fun _ => ?_) | refine zAd_ca (fun _ _ => ?_) | exact zAd_ts (fun _ => zAd_K _ _ _ _ _) _ _ _ _ | exact zAd_ls (fun _ => zAd_K _ _ _ _ _) _ _ _ | refine zAd_bind (fun _ => ?_) | refine zAd_ite ?_ ?_ | split))
end
section
/-! what a run comes to, without fuel; and runs up to chosen places -/
theorem zAd_st (r : zE) (mi pc : Nat) (lv : List (Option Value)) (st : List Value) (h : zH) : zAd (fun K => zst r K K mi pc lv st h) := by
  unfold zst
  cases zlk (zcd mi) pc with
  | none => exact zAd_c none
  | some q => exact zAd_x r mi pc q.1 q.2.1 q.2.2 lv st h
theorem zrun_succ (r : zE) : ∀ n, zle (zrun r n) (zrun r (n + 1))
  | 0 => fun _ _ _ _ _ _ h => by cases h
  | n + 1 => fun a b c d e q h => (zAd_st r a b c d e).1 _ _ (zrun_succ r n) q h
theorem zrun_le (r : zE) (i : Nat) : ∀ j, i ≤ j → zle (zrun r i) (zrun r j)
  | 0, h => by
    have : i = 0 := by omega
    subst this
    exact fun _ _ _ _ _ _ h => h
  | j + 1, h => by
    by_cases hij : i = j + 1
    · subst hij
      exact fun _ _ _ _ _ _ h => h
    · exact fun a b c d e q hq => zrun_succ r j _ _ _ _ _ _ (zrun_le r i j (by omega) _ _ _ _ _ _ hq)
noncomputable def zev (r : zE) : zK := fun mi pc lv st h => @dite _ (∃ q, ∃ n, zrun r n mi pc lv st h = some q) (Classical.propDecidable _) (fun hq => some (Classical.choose hq)) (fun _ => none)
theorem zev_iff {r : zE} {mi pc : Nat} {lv : List (Option Value)} {st : List Value} {h : zH} {q : zRes} : zev r mi pc lv st h = some q ↔ ∃ n, zrun r n mi pc lv st h = some q := by
  unfold zev
  constructor
  · intro e
    split at e
    · rename_i hq
      cases e
      exact Classical.choose_spec hq
    · cases e
  · rintro ⟨n, hn⟩
    have hq : ∃ q, ∃ n, zrun r n mi pc lv st h = some q := ⟨q, n, hn⟩
    rw [dif_pos hq]
    obtain ⟨m, hm⟩ := Classical.choose_spec hq
    have h1 := zrun_le r n (n + m) (by omega) _ _ _ _ _ _ hn
    have h2 := zrun_le r m (n + m) (by omega) _ _ _ _ _ _ hm
    exact h2.symm.trans h1
theorem zev_st (r : zE) (mi pc : Nat) (lv : List (Option Value)) (st : List Value) (h : zH) : zev r mi pc lv st h = zst r (zev r) (zev r) mi pc lv st h := by
  have key : ∀ q, zev r mi pc lv st h = some q ↔ zst r (zev r) (zev r) mi pc lv st h = some q := by
    intro q
    rw [zev_iff]
    constructor
    · rintro ⟨n, hn⟩
      cases n with
      | zero => cases hn
      | succ n => exact (zAd_st r mi pc lv st h).1 (zrun r n) (zev r) (fun _ _ _ _ _ _ e => zev_iff.mpr ⟨n, e⟩) q hn
    · intro hq
      obtain ⟨n, hn⟩ := (zAd_st r mi pc lv st h).2 (zrun r) (zrun_le r) (zev r) (fun _ _ _ _ _ _ e => zev_iff.mp e) q hq
      exact ⟨n + 1, hn⟩
  cases e1 : zev r mi pc lv st h with
  | some q => exact ((key q).mp e1).symm
  | none =>
    cases e2 : zst r (zev r) (zev r) mi pc lv st h with
    | none => rfl
    | some q => rw [(key q).mpr e2] at e1; cases e1
noncomputable def zevS (r : zE) (stop : List Nat) : Nat → zK
  | 0 => zev r
  | k + 1 => fun mi pc lv st h => match stop.elem pc with
    | true => zev r mi pc lv st h
    | false => zst r (zev r) (zevS r stop k) mi pc lv st h
theorem zevS_eq (r : zE) (stop : List Nat) : ∀ k, zevS r stop k = zev r
  | 0 => rfl
  | k + 1 => by
    funext mi pc lv st h
    show (match stop.elem pc with | true => _ | false => _) = _
    rw [zevS_eq r stop k]
    split
    · rfl
    · exact (zev_st r mi pc lv st h).symm
theorem zblk (r : zE) (stop : List Nat) (k mi pc : Nat) (lv : List (Option Value)) (st : List Value) (h : zH) : zev r mi pc lv st h = zst r (zev r) (zevS r stop k) mi pc lv st h := by
  rw [zevS_eq]
  exact zev_st r mi pc lv st h
theorem tst_1 (r : zE) (h : zH) (x : Nat) (i : Int32) : zev r i_X4_get 0 [some (.ref x), some (.int i)] [] h =
    (if zob r h x 4 = true then zcI (zev r i_X4_has 0 [some (.ref x), some (.int i)] [] h) fun b h => if b = 0 then some (some (.int 0), h) else (zgR r h x 4 0).bind fun a => (zaI r h a i).bind fun v => some (some (.int v), h) else none) := zblk r [] 40 _ _ _ _ _
theorem tst_2 (r : zE) (h : zH) (x : Nat) (m w : Int32) : zev r i_X6_isIn 0 [some (.ref x), some (.int m), some (.int w)] [] h =
    (zgR r h x 6 23).bind fun a => (zaI r h a m).bind fun v => if v = -9 then some (some (.int 0), h) else if w = 0 then some (some (.int 1), h) else (zgR r h x 6 5).bind fun a => (zaI r h a m).bind fun v => if v = w - 1 then some (some (.int 0), h) else some (some (.int 1), h) := zblk r [] 40 _ _ _ _ _
end
section
/-! what the tables say of every method, and the check of the code against them -/
def zcls : List vw_C := [(RX0, TX0, 5), (RX1, TX1, 7), (RX2, TX2, 2), (RX3, TX3, 3), (RX4, TX4, 2), (RX5, TX5, 12), (RX6, TX6, 26)]
def zty (ci : Nat) : Nat → FieldType := match ci with
  | 0 => tyX0
  | 1 => tyX1
  | 2 => tyX2
  | 3 => tyX3
  | 4 => tyX4
  | 5 => tyX5
  | _ => tyX6
def zstat : List (String × String × String) := [("HammockDeck", "KIND_BULK", "[I"), ("HammockDeck", "KIND_LETTERS", "[C"), ("HammockDeck", "PLACE_LETTERS", "[C"), ("HammockDeck", "PLACE_WAKES", "[I")]
def zYs : List MethodName := [yL_law, yX0_init, yX0_begin, yX0_copyFrom, yX0_manDetail, yX0_hookDetail, yX0_tiredTogether, yX0_writeTo, yX0_readFrom, yX0_isFree, yX0_hangs, yX0_move, yX0_swap, yX0_takeAllDown, yX0_hangBy, yX0_hangByFirstPlan, yX0_hangByNextPlan, yX0_moveOn, yX0_messmatePairs, yX0_isIn, yX0_howManyIn, yX0_bitOfWhoIsInAt, yX0_neighbourBits, yX0_wakings, yX0_wakingsFrom, yX0_allWakings, yX0_mostWakings, yX0_tire, yX0_inTheWayOf, yX0_firstToGetUp, yX0_hasBulkierNeighbour, yX1_init, yX1_hasHook, yX1_hasMan, yX1_addHook, yX1_addMan, yX1_mostMen, yX1_planCount, yX1_isOf, yX1_bitsOf, yX1_bulk, yX1_placeWakes, yX2_init, yX2_isMissing, yX2_hasRoomFor, yX2_begin, yX2_add, yX2_discard, yX2_copyFrom, yX2_goBackTo, yX3_init, yX3_read, yX3_skipBlanks, yX3_readHooks, yX3_readMan, yX3_letterIn, yX3_readFigure, yX4_init, yX4_isMissing, yX4_has, yX4_spans, yX4_get, yX4_set, yX4_renew, yX4_discard, yX4_copyTo, yX4_sum, yX4_digestedOnto, yX5_init, yX5_row, yX5_lay, yX5_at, yX5_tear, yX5_copy, yX5_mean, yX5_text, yX5_put, yX5_fault, yX5_deck, yX5_man, yX5_hook, yX5_mark, yX5_hang, yX5_down, yX5_change, yX5_line, yX5_night, yX5_undo, yX5_keep, yX5_on, yX5_neighbours, yX5_woken, yX5_all, yX5_worst, yX5_by, yX5_best, yX5_fair, yX5_mixed, yX5_judge, yX5_gain, yX5_calm, yX5_mates, yX5_cut, yX5_up, yX5_fits, yX5_mid, yX5_lots, yX5_asked, yX5_upper, yX5_lower, yX5_count, yX5_finding, yX5_findings, yX5_digest, yX5_rowAt, yX5_textAt, yX5_isWhen, yX5_isKeptPlace, yX5_found, yX5_tell, yX5_tellMean, yX5_commonDivisor, yX5_renewed, yX5_sleptThrough, yX5_wakingsWithout, yX5_beginPlans, yX5_leastPlan, yX5_weighed, yX5_firstGladPair, yX5_wouldBothGladlyChange, yX5_countFitting, yX5_fitsBook, yX5_fitsBookBy, yX5_counted, yX5_howManyThere, yX5_howManyKept, yX6_init, yX6_in, yX6_find, yX6_tell, yX6_isRow, yX6_isText, yX6_row, yX6_makeRow, yX6_refused, yX6_lay, yX6_at, yX6_tear, yX6_isSpan, yX6_copy, yX6_mean, yX6_text, yX6_put, yX6_here, yX6_skip, yX6_figure, yX6_placeOfLetter, yX6_kindOfLetter, yX6_readsHooks, yX6_readsMan, yX6_faultOf, yX6_fault, yX6_deck, yX6_layNow, yX6_isMan, yX6_isHook, yX6_isWhen, yX6_isIn, yX6_isBeside, yX6_beside, yX6_height, yX6_wakes, yX6_placeWorth, yX6_wokenBut, yX6_allWoken, yX6_mostWoken, yX6_toldOf, yX6_man, yX6_whoAt, yX6_hook, yX6_bits, yX6_isOf, yX6_besideOf, yX6_tallMany, yX6_mark, yX6_keepPast, yX6_hang, yX6_down, yX6_areTwo, yX6_change, yX6_line, yX6_pass, yX6_night, yX6_undo, yX6_copyDeck, yX6_keep, yX6_on, yX6_neighbours, yX6_woken, yX6_inMany, yX6_all, yX6_worst, yX6_by, yX6_firstPlan, yX6_areUnlike, yX6_nextPlan, yX6_valueOf, yX6_toBest, yX6_best, yX6_fair, yX6_mixed, yX6_isPlan, yX6_judge, yX6_swap, yX6_gain, yX6_wouldChange, yX6_calm, yX6_matesTried, yX6_mates, yX6_cut, yX6_nextOrder, yX6_inTheWay, yX6_up, yX6_areWhens, yX6_isSo, yX6_fits, yX6_mid, yX6_lots, yX6_asked, yX6_upper, yX6_lower, yX6_hungMany, yX6_tiredAll, yX6_thereOf, yX6_countOf, yX6_count, yX6_finding, yX6_findings, yX6_digest, yJ6_bitCount_0f7a4, yJ7_fill_53178]
def zY (mi : Nat) : MethodName := zYs.getD mi yL_law
def zBs : List ByteArray := [cL_law, cX0_init, cX0_begin, cX0_copyFrom, cX0_manDetail, cX0_hookDetail, cX0_tiredTogether, cX0_writeTo, cX0_readFrom, cX0_isFree, cX0_hangs, cX0_move, cX0_swap, cX0_takeAllDown, cX0_hangBy, cX0_hangByFirstPlan, cX0_hangByNextPlan, cX0_moveOn, cX0_messmatePairs, cX0_isIn, cX0_howManyIn, cX0_bitOfWhoIsInAt, cX0_neighbourBits, cX0_wakings, cX0_wakingsFrom, cX0_allWakings, cX0_mostWakings, cX0_tire, cX0_inTheWayOf, cX0_firstToGetUp, cX0_hasBulkierNeighbour, cX1_init, cX1_hasHook, cX1_hasMan, cX1_addHook, cX1_addMan, cX1_mostMen, cX1_planCount, cX1_isOf, cX1_bitsOf, cX1_bulk, cX1_placeWakes, cX2_init, cX2_isMissing, cX2_hasRoomFor, cX2_begin, cX2_add, cX2_discard, cX2_copyFrom, cX2_goBackTo, cX3_init, cX3_read, cX3_skipBlanks, cX3_readHooks, cX3_readMan, cX3_letterIn, cX3_readFigure, cX4_init, cX4_isMissing, cX4_has, cX4_spans, cX4_get, cX4_set, cX4_renew, cX4_discard, cX4_copyTo, cX4_sum, cX4_digestedOnto, cX5_init, cX5_row, cX5_lay, cX5_at, cX5_tear, cX5_copy, cX5_mean, cX5_text, cX5_put, cX5_fault, cX5_deck, cX5_man, cX5_hook, cX5_mark, cX5_hang, cX5_down, cX5_change, cX5_line, cX5_night, cX5_undo, cX5_keep, cX5_on, cX5_neighbours, cX5_woken, cX5_all, cX5_worst, cX5_by, cX5_best, cX5_fair, cX5_mixed, cX5_judge, cX5_gain, cX5_calm, cX5_mates, cX5_cut, cX5_up, cX5_fits, cX5_mid, cX5_lots, cX5_asked, cX5_upper, cX5_lower, cX5_count, cX5_finding, cX5_findings, cX5_digest, cX5_rowAt, cX5_textAt, cX5_isWhen, cX5_isKeptPlace, cX5_found, cX5_tell, cX5_tellMean, cX5_commonDivisor, cX5_renewed, cX5_sleptThrough, cX5_wakingsWithout, cX5_beginPlans, cX5_leastPlan, cX5_weighed, cX5_firstGladPair, cX5_wouldBothGladlyChange, cX5_countFitting, cX5_fitsBook, cX5_fitsBookBy, cX5_counted, cX5_howManyThere, cX5_howManyKept, cX6_init, cX6_in, cX6_find, cX6_tell, cX6_isRow, cX6_isText, cX6_row, cX6_makeRow, cX6_refused, cX6_lay, cX6_at, cX6_tear, cX6_isSpan, cX6_copy, cX6_mean, cX6_text, cX6_put, cX6_here, cX6_skip, cX6_figure, cX6_placeOfLetter, cX6_kindOfLetter, cX6_readsHooks, cX6_readsMan, cX6_faultOf, cX6_fault, cX6_deck, cX6_layNow, cX6_isMan, cX6_isHook, cX6_isWhen, cX6_isIn, cX6_isBeside, cX6_beside, cX6_height, cX6_wakes, cX6_placeWorth, cX6_wokenBut, cX6_allWoken, cX6_mostWoken, cX6_toldOf, cX6_man, cX6_whoAt, cX6_hook, cX6_bits, cX6_isOf, cX6_besideOf, cX6_tallMany, cX6_mark, cX6_keepPast, cX6_hang, cX6_down, cX6_areTwo, cX6_change, cX6_line, cX6_pass, cX6_night, cX6_undo, cX6_copyDeck, cX6_keep, cX6_on, cX6_neighbours, cX6_woken, cX6_inMany, cX6_all, cX6_worst, cX6_by, cX6_firstPlan, cX6_areUnlike, cX6_nextPlan, cX6_valueOf, cX6_toBest, cX6_best, cX6_fair, cX6_mixed, cX6_isPlan, cX6_judge, cX6_swap, cX6_gain, cX6_wouldChange, cX6_calm, cX6_matesTried, cX6_mates, cX6_cut, cX6_nextOrder, cX6_inTheWay, cX6_up, cX6_areWhens, cX6_isSo, cX6_fits, cX6_mid, cX6_lots, cX6_asked, cX6_upper, cX6_lower, cX6_hungMany, cX6_tiredAll, cX6_thereOf, cX6_countOf, cX6_count, cX6_finding, cX6_findings, cX6_digest, cJ6_bitCount_0f7a4, cJ7_fill_53178]
def zB (mi : Nat) : ByteArray := zBs.getD mi cL_law
def zMls : List Nat := [4, 2, 2, 2, 3, 3, 3, 3, 4, 2, 2, 3, 5, 1, 4, 2, 3, 3, 5, 3, 4, 4, 3, 5, 6, 4, 4, 5, 6, 3, 5, 1, 2, 2, 2, 5, 1, 3, 3, 4, 2, 2, 2, 1, 2, 2, 2, 1, 2, 3, 3, 3, 1, 2, 5, 3, 4, 1, 1, 2, 3, 2, 3, 3, 1, 5, 4, 6, 2, 3, 5, 4, 3, 8, 3, 3, 6, 3, 5, 3, 3, 4, 3, 3, 3, 4, 2, 3, 2, 2, 3, 3, 2, 6, 8, 3, 3, 2, 4, 4, 3, 3, 7, 8, 4, 5, 7, 1, 1, 1, 2, 1, 2, 5, 2, 2, 1, 2, 2, 2, 7, 11, 5, 3, 4, 1, 8, 3, 4, 4, 6, 3, 5, 2, 3, 3, 2, 6, 2, 2, 1, 1, 3, 4, 3, 6, 4, 2, 4, 9, 5, 4, 5, 1, 1, 3, 1, 1, 1, 5, 3, 2, 4, 2, 2, 2, 1, 3, 5, 5, 1, 4, 1, 6, 4, 5, 3, 3, 3, 3, 3, 3, 6, 3, 3, 2, 3, 3, 3, 4, 4, 5, 2, 4, 4, 2, 2, 3, 3, 4, 2, 6, 8, 2, 4, 3, 3, 8, 3, 3, 2, 4, 3, 4, 5, 7, 4, 4, 4, 7, 7, 6, 8, 4, 4, 5, 13, 7, 1, 1, 1, 3, 3, 4, 2, 2, 1, 2, 5, 1, 4]
def zMl (mi : Nat) : Nat := zMls.getD mi 0
def zRts : List (Option FieldType) := [(some .boolean), none, none, none, (some .int), (some .int), (some .int), none, none, (some .boolean), (some .boolean), none, none, none, (some .boolean), none, none, (some .boolean), (some .int), (some .boolean), (some .int), (some .int), (some .int), (some .int), (some .int), (some .int), (some .int), (some .int), (some .int), (some .int), (some .boolean), none, (some .boolean), (some .boolean), none, none, (some .int), (some .int), (some .boolean), (some .int), (some .int), (some .int), none, (some .boolean), (some .boolean), none, none, none, none, none, none, (some .int), none, (some .boolean), (some .boolean), (some .int), (some .int), none, (some .boolean), (some .boolean), (some .boolean), (some .int), none, none, none, none, (some .long), (some .long), none, (some .int), (some .int), (some .int), (some .int), (some .int), (some .int), (some .int), (some .int), (some .int), (some .int), (some .int), (some .int), (some .int), (some .int), (some .int), (some .int), (some .int), (some .int), (some .int), (some .int), (some .int), (some .int), (some .int), (some .int), (some .int), (some .int), (some .int), (some .int), (some .int), (some .int), (some .int), (some .int), (some .int), (some .int), (some .int), (some .int), (some .int), (some .int), (some .int), (some .long), (some .long), (some .int), (some .int), (some .int), (some .long), (some (.object "HammockDeck$Row")), (some (.object "HammockDeck$Row")), (some .boolean), (some .boolean), (some .int), none, none, (some .long), (some .int), (some .int), (some .int), none, (some .int), (some .int), (some .int), (some .boolean), none, (some .boolean), (some .boolean), (some .int), (some .int), (some .int), none, (some .boolean), (some .int), (some .int), (some .boolean), (some .boolean), (some .int), none, (some .int), (some .int), (some .int), (some .int), (some .boolean), (some .int), (some .int), (some .int), (some .int), (some .int), none, (some .int), (some .int), (some .int), (some .boolean), (some .boolean), (some .int), (some .int), (some .int), none, (some .boolean), (some .boolean), (some .boolean), (some .boolean), (some .boolean), (some .int), (some .int), (some .int), (some .int), (some .int), (some .int), (some .int), (some .int), (some .int), (some .int), (some .int), (some .int), (some .boolean), (some .int), (some .int), (some .int), none, (some .int), (some .int), (some .boolean), (some .int), (some .int), (some .int), (some .int), (some .int), none, (some .int), (some .int), (some .int), (some .int), (some .int), (some .int), (some .int), (some .int), none, (some .boolean), (some .boolean), (some .int), (some .int), (some .int), (some .int), (some .int), (some .boolean), (some .int), none, (some .int), (some .boolean), (some .int), (some .int), (some .int), (some .int), (some .boolean), (some .int), (some .int), (some .boolean), (some .boolean), (some .int), (some .int), (some .int), (some .int), (some .long), (some .long), (some .int), (some .int), (some .int), (some .int), (some .int), (some .int), (some .int), (some .long), (some .int), none]
def zRt (mi : Nat) : (Option FieldType) := zRts.getD mi none
def zFrs : List Nat := [8, 4, 3, 1, 0, 0, 0, 1, 2, 1, 0, 1, 2, 1, 2, 2, 3, 2, 1, 0, 1, 1, 2, 2, 1, 3, 3, 3, 3, 4, 3, 1, 0, 0, 0, 2, 1, 0, 0, 1, 0, 0, 1, 0, 0, 2, 2, 0, 1, 3, 1, 4, 2, 3, 3, 2, 2, 1, 0, 0, 0, 1, 1, 1, 0, 1, 2, 2, 5, 3, 2, 2, 1, 2, 3, 3, 2, 5, 5, 1, 1, 3, 3, 3, 3, 3, 5, 4, 2, 4, 3, 3, 4, 3, 4, 6, 6, 6, 4, 4, 5, 4, 4, 5, 7, 4, 5, 0, 0, 0, 3, 0, 0, 3, 0, 0, 0, 0, 0, 0, 2, 1, 2, 4, 3, 3, 5, 4, 4, 3, 6, 5, 4, 2, 1, 1, 1, 0, 0, 0, 1, 1, 2, 0, 2, 3, 3, 2, 0, 2, 2, 2, 2, 0, 1, 1, 0, 0, 2, 2, 3, 4, 4, 0, 1, 1, 1, 0, 1, 2, 0, 1, 0, 2, 3, 3, 0, 2, 0, 2, 0, 0, 2, 1, 3, 0, 2, 2, 2, 3, 2, 3, 4, 1, 0, 1, 1, 3, 3, 1, 4, 3, 3, 1, 0, 1, 4, 5, 6, 6, 6, 2, 4, 0, 4, 3, 4, 2, 3, 4, 0, 2, 3, 2, 4, 5, 4, 4, 0, 0, 0, 0, 0, 0, 2, 3, 0, 1, 3, 0, 0]
def zFr (mi : Nat) : Nat := zFrs.getD mi 0
def zLos : List Nat := [189, 85, 64, 26, 0, 0, 0, 26, 43, 21, 0, 21, 43, 23, 43, 43, 65, 43, 21, 0, 22, 22, 45, 48, 23, 72, 72, 72, 67, 91, 67, 20, 0, 0, 0, 43, 23, 0, 0, 22, 0, 0, 20, 0, 0, 48, 48, 0, 26, 66, 20, 91, 42, 64, 67, 42, 42, 20, 0, 0, 0, 21, 21, 23, 0, 26, 42, 42, 106, 69, 43, 42, 21, 50, 65, 69, 43, 113, 113, 22, 22, 72, 69, 69, 69, 69, 118, 88, 47, 88, 67, 72, 95, 72, 95, 144, 144, 144, 95, 95, 118, 87, 95, 113, 166, 95, 118, 0, 0, 0, 66, 0, 0, 67, 0, 0, 0, 0, 0, 0, 53, 23, 45, 96, 72, 64, 117, 95, 95, 72, 141, 119, 95, 45, 20, 20, 20, 0, 0, 0, 25, 25, 45, 0, 45, 67, 67, 45, 0, 45, 45, 45, 45, 0, 20, 25, 0, 0, 40, 47, 71, 93, 93, 0, 25, 25, 25, 0, 22, 46, 0, 20, 0, 46, 71, 71, 0, 46, 0, 46, 0, 0, 46, 22, 71, 0, 46, 46, 46, 68, 46, 71, 95, 25, 0, 25, 25, 70, 71, 22, 94, 71, 71, 21, 0, 23, 95, 117, 144, 144, 144, 46, 94, 0, 94, 71, 97, 46, 69, 94, 0, 46, 71, 45, 94, 117, 94, 95, 0, 0, 0, 0, 0, 0, 44, 65, 0, 25, 65, 0, 0]
def zLo (mi : Nat) : Nat := zLos.getD mi 0
def zmem (i : Nat) (w : Cond) : Bool := decide (lw_tbl[i]? = some w)
theorem zmem_in {i : Nat} {w : Cond} (h : zmem i w = true) : w ∈ lw_tbl := List.mem_of_getElem? (of_decide_eq_true h)
def zlen (ins : Instr) (n : Nat) : Bool := match ins with
  | .bipush _ | .iload _ | .lload _ | .aload _ | .istore _ | .lstore _ | .astore _ | .newarray _ => n == 2
  | .sipush _ | .ldc_w _ | .ldc2_w _ | .iinc _ _ | .goto _ | .ifCond _ _ | .if_icmp _ _ | .ifnull _ | .ifnonnull _ | .getfield _ | .putfield _ | .getstatic _ | .new _ | .anewarray _ | .invokevirtual _ | .invokespecial _ | .invokestatic _ => n == 3
  | .tableswitch _ _ _ _ | .lookupswitch _ _ => true
  | _ => n == 1
/-- numbers -/
def zokA (mi pc n : Nat) (ins : Instr) (w : zL) : Bool := zlen ins n && match ins with
  | .bipush i => decide ((Int8.ofInt i).toInt32 = Int32.ofInt i)
  | .sipush i => decide ((Int16.ofInt i).toInt32 = Int32.ofInt i)
  | .goto off => decide ((pc : Int) + off = (w.1 : Int))
  | .ifCond _ off => decide ((pc : Int) + off = (w.1 : Int))
  | .if_icmp _ off => decide ((pc : Int) + off = (w.1 : Int))
  | .ifnull off => decide ((pc : Int) + off = (w.1 : Int))
  | .ifnonnull off => decide ((pc : Int) + off = (w.1 : Int))
  | .tableswitch d lo hi os => decide (0 ≤ (pc : Int) + d ∧ hi + 1 = lo + os.toList.length ∧ -1000 ≤ lo ∧ lo ≤ 1000 ∧ os.toList.length ≤ 1000) && os.toList.all fun x => decide (0 ≤ (pc : Int) + x)
  | .lookupswitch d ps => decide (0 ≤ (pc : Int) + d) && ps.toList.all (fun x => decide (0 ≤ (pc : Int) + x.2 ∧ -1000 ≤ x.1 ∧ x.1 ≤ 1000)) && (ps.toList.zip (ps.toList.drop 1)).all (fun (a, next) => a.1 < next.1)
  | .ireturn => if w.1 = 0 then decide (zRt mi = some .int) else decide (zRt mi = some .boolean)
  | .lreturn => decide (zRt mi = some .long)
  | .areturn => decide (zRt mi = some (.object RX4))
  | .return_ => decide (zRt mi = none)
  | _ => true
def zcal (mi : Nat) (w : zL) (i j : Nat) : Bool := zmem i (.code (zY w.1) (zB w.1) (zMl w.1) (zRt w.1)) && zmem j (.initialized (zY w.1).cls) && decide (zMl w.1 = w.2.2.2.2.1 ∧ ((zY w.1).cls ≠ "java/lang/invoke/MethodHandle" ∧ (zY w.1).cls ≠ "java/lang/invoke/VarHandle" ∧ (parseMethodDescriptor (zY w.1).desc).map (fun d => d.parameters.length) = some w.2.2.1) ∧ zFr w.1 + 1 ≤ zFr mi ∧ 8 + (zMl w.1 + 11) + zLo w.1 ≤ zLo mi)
/-- links -/
def zokB (mi : Nat) (ins : Instr) (w : zL) (u : List Nat) : Bool := match ins with
  | .ldc_w ix => zmem (u.getD 0 0) (.constant (zY mi).cls ix (Int32.ofInt w.2.2.2.2.2))
  | .ldc2_w ix => zmem (u.getD 0 0) (.constantLong (zY mi).cls ix (Int64.ofInt w.2.2.2.2.2))
  | .getfield ix => match zcls[w.1]? with
    | some q => decide (w.2.1 < q.2.2) && (zmem (u.getD 0 0) (.fieldLink (zY mi).cls ix q.1 (q.2.1 w.2.1).2.1 (q.2.1 w.2.1).2.2.1) || zmem (u.getD 0 0) (.fieldLinkNest (zY mi).cls ix q.1 (q.2.1 w.2.1).2.1 (q.2.1 w.2.1).2.2.1 "HammockDeck"))
    | none => false
  | .putfield ix => match zcls[w.1]? with
    | some q => decide (w.2.1 < q.2.2) && (zmem (u.getD 0 0) (.fieldLink (zY mi).cls ix q.1 (q.2.1 w.2.1).2.1 (q.2.1 w.2.1).2.2.1) && (decide ((q.2.1 w.2.1).2.2.2 = false) || decide (q.1 = (zY mi).cls ∧ (zY mi).name = "<init>"))
        || zmem (u.getD 0 0) (.fieldLinkNest (zY mi).cls ix q.1 (q.2.1 w.2.1).2.1 (q.2.1 w.2.1).2.2.1 "HammockDeck") && decide ((q.2.1 w.2.1).2.2.2 = false))
      && (match w.2.2.1 with | 0 => decide (zty w.1 w.2.1 = .int) | 1 => decide (zty w.1 w.2.1 = .long) | _ => (match zty w.1 w.2.1 with | .object _ => true | .array _ => true | _ => false))
    | none => false
  | .getstatic ix => match zstat[w.1]? with
    | some q => zmem (u.getD 0 0) (.fieldLink (zY mi).cls ix q.1 q.2.1 q.2.2) || zmem (u.getD 0 0) (.fieldLinkNest (zY mi).cls ix q.1 q.2.1 q.2.2 "HammockDeck")
    | none => false
  | .new ix => match zcls[w.1]? with
    | some q => zmem (u.getD 0 0) (.classLink (zY mi).cls ix q.1)
    | none => false
  | .anewarray ix => match zcls[w.1]? with
    | some q => zmem (u.getD 0 0) (.classLink (zY mi).cls ix q.1) && zmem (u.getD 1 0) (.arrayOver (.object q.1)) && decide (w.1 = 4 ∨ w.1 = 2)
    | none => false
  | .invokevirtual ix => zmem (u.getD 0 0) (.methodLink (zY mi).cls ix (zY w.1)) && zcal mi w (u.getD 1 0) (u.getD 2 0) && zmem (u.getD 3 0) (.instanceMethod (zY w.1)) && (match zcls[w.2.2.2.2.2.toNat]? with
    | some q => zmem (u.getD 4 0) (.selects q.1 (zY w.1) (zY w.1))
    | none => false)
  | .invokespecial ix => match w.2.1 with
    | 4 => zmem (u.getD 0 0) (.methodLink (zY mi).cls ix Lib.objectInit) && zmem (u.getD 1 0) (.instanceMethod Lib.objectInit) && zmem (u.getD 2 0) (.code Lib.objectInit ⟨#[0xb1]⟩ 1 none) && decide (1 ≤ zFr mi ∧ 20 ≤ zLo mi)
    | _ => (zmem (u.getD 0 0) (.methodLink (zY mi).cls ix (zY w.1)) || zmem (u.getD 0 0) (.methodLinkNest (zY mi).cls ix (zY w.1) "HammockDeck")) && zcal mi w (u.getD 1 0) (u.getD 2 0) && zmem (u.getD 3 0) (.instanceMethod (zY w.1)) && decide ((zY w.1).name = "<init>" ∧ zRt w.1 = none)
  | .invokestatic ix => match w.2.1 with
    | 3 => zmem (u.getD 0 0) (.methodLink (zY mi).cls ix arraycopyName) && zmem (u.getD 1 0) (.native arraycopyName) && zmem (u.getD 2 0) (.static arraycopyName) && zmem (u.getD 3 0) (.initialized "java/lang/System") && decide (1 ≤ zFr mi ∧ 26 ≤ zLo mi)
    | 5 => zmem (u.getD 0 0) (.methodLink (zY mi).cls ix Lib.Math.abs.name) && zmem (u.getD 1 0) (.static Lib.Math.abs.name) && zmem (u.getD 2 0) (.initialized "java/lang/Math") && zmem (u.getD 3 0) (.code Lib.Math.abs.name Lib.Math.abs.code 1 (some .int)) && decide (1 ≤ zFr mi ∧ 23 ≤ zLo mi)
    | 6 => zmem (u.getD 0 0) (.methodLink (zY mi).cls ix Lib.Math.max.name) && zmem (u.getD 1 0) (.static Lib.Math.max.name) && zmem (u.getD 2 0) (.initialized "java/lang/Math") && zmem (u.getD 3 0) (.code Lib.Math.max.name Lib.Math.max.code 2 (some .int)) && decide (1 ≤ zFr mi ∧ 23 ≤ zLo mi)
    | 7 => zmem (u.getD 0 0) (.methodLink (zY mi).cls ix Lib.Math.min.name) && zmem (u.getD 1 0) (.static Lib.Math.min.name) && zmem (u.getD 2 0) (.initialized "java/lang/Math") && zmem (u.getD 3 0) (.code Lib.Math.min.name Lib.Math.min.code 2 (some .int)) && decide (1 ≤ zFr mi ∧ 23 ≤ zLo mi)
    | 8 => zmem (u.getD 0 0) (.methodLink (zY mi).cls ix Lib.MathLoose.abs_long.x) && zmem (u.getD 1 0) (.static Lib.MathLoose.abs_long.x) && zmem (u.getD 2 0) (.initialized "java/lang/Math") && zmem (u.getD 3 0) (.code Lib.MathLoose.abs_long.x Lib.MathLoose.abs_long.code 2 (some .long)) && decide (1 ≤ zFr mi ∧ 23 ≤ zLo mi)
    | 9 => zmem (u.getD 0 0) (.methodLink (zY mi).cls ix Lib.MathLoose.max_long.x) && zmem (u.getD 1 0) (.static Lib.MathLoose.max_long.x) && zmem (u.getD 2 0) (.initialized "java/lang/Math") && zmem (u.getD 3 0) (.code Lib.MathLoose.max_long.x Lib.MathLoose.max_long.code 4 (some .long)) && decide (1 ≤ zFr mi ∧ 23 ≤ zLo mi)
    | _ => zmem (u.getD 0 0) (.methodLink (zY mi).cls ix (zY w.1)) && zcal mi w (u.getD 1 0) (u.getD 2 0) && zmem (u.getD 3 0) (.static (zY w.1))
  | _ => true
def zchk (mi : Nat) : Bool → List zI → List (List Nat) → Bool
  | _, [], _ => true
  | b, e :: l, u => decide (decode (zB mi) e.1 = .ok (e.2.2.1, e.2.1)) && zokA mi e.1 e.2.1 e.2.2.1 e.2.2.2 && zokB mi e.2.2.1 e.2.2.2 (u.headD []) && zchk mi b l u.tail
theorem zchk_at {mi : Nat} : ∀ {l : List zI} {u : List (List Nat)}, zchk mi true l u = true → ∀ {pc : Nat} {q : Nat × Instr × zL}, zlk l pc = some q → decode (zB mi) pc = .ok (q.2.1, q.1) ∧ zokA mi pc q.1 q.2.1 q.2.2 = true ∧ ∃ u, zokB mi q.2.1 q.2.2 u = true
  | [], _, _, _, _, hq => by cases hq
  | e :: l, u, h, pc, q, hq => by
    simp only [zchk, Bool.and_eq_true] at h
    obtain ⟨⟨⟨h1, h2⟩, h3⟩, h4⟩ := h
    unfold zlk at hq
    split at hq
    · rename_i hp
      cases hq
      rw [← hp]
      exact ⟨of_decide_eq_true h1, h2, _, h3⟩
    · exact zchk_at h4 hq
def zu_0_0 : List (List Nat) := [[89], [], [91, 93, 78, 92], [], [827], [], [829, 831, 85, 830], [], [], [], [], [], [], [], [], [], [], [], [], [], [], [], [], [], [], [], [], [], [], [], [], [], [], [255, 258, 78, 256, 257], [], [], [], [], [], [], [], [], [], [], [], [912, 915, 85, 913, 914], [], []]
def zu_0_1 : List (List Nat) := [[], [], [], [], [], [], [], [], [], [], [], [], [], [], [], [], [], [282, 285, 78, 283, 284], [], [], [], [], [], [], [], [], [], [], [], [], [], [], [], [], [931, 934, 85, 932, 933], [], [], [], [], [], [], [], [], [], [], [], [], []]
def zu_0_2 : List (List Nat) := [[], [307, 310, 78, 308, 309], [], [], [], [], [], [], [], [], [], [], [], [943, 946, 85, 944, 945], [], [], [], [], [], [], [], [], [], [311, 314, 78, 312, 313], [], [], [], [], [], [], [947, 950, 85, 948, 949], [], [], [], [], [], [], [], [], [], [], [], [], [], [], [], [], []]
def zu_0_3 : List (List Nat) := [[], [], [], [], [], [], [], [], [], [], [], [], [319, 322, 78, 320, 321], [], [], [], [], [], [], [], [], [], [], [], [], [], [], [], [], [], [], [], [], [], [], [], [], [], [], [951, 954, 85, 952, 953], [], [], [], [], [], [], [], []]
def zu_0_4 : List (List Nat) := [[], [333, 336, 78, 334, 335], [], [], [], [], [], [], [959, 962, 85, 960, 961], [], [], [], [], [], [], [], [], [], [], [], [], [], [], [342, 345, 78, 343, 344], [], [], [], [], [], [], [], [], [], [], [], [963, 966, 85, 964, 965], [], [], [], [], [], [], [], [], [], [], [], []]
def zu_0_5 : List (List Nat) := [[], [], [], [], [], [], [], [350, 353, 78, 351, 352], [], [], [], [], [], [], [], [], [], [], [], [], [], [], [], [], [971, 974, 85, 972, 973], [], [], [], [], [], [], [], [], [], [354, 357, 78, 355, 356], [], [], [], [], [], [], [975, 978, 85, 976, 977], [], [], [], [], [], []]
def zu_0_6 : List (List Nat) := [[], [], [], [418, 421, 78, 419, 420], [], [], [], [], [], [], [1009, 1012, 85, 1010, 1011], [], [], [], [], [], [], [], [], [], [], [], [], [], [], [435, 438, 78, 436, 437], [], [], [], [], [], [], [], [], [], [], [], [1013, 1016, 85, 1014, 1015], [], [], [], [], [], [], [], [], [], []]
def zu_0_7 : List (List Nat) := [[], [], [], [], [447, 450, 78, 448, 449], [], [], [], [], [], [], [], [], [], [], [], [1025, 1028, 85, 1026, 1027], [], [], [], [], [], [], [], [], [], [], [], [], [], [], [456, 459, 78, 457, 458], [], [], [], [], [], [], [], [], [], [], [], [1037, 1040, 85, 1038, 1039], [], [], [], []]
def zu_0_8 : List (List Nat) := [[], [], [], [], [], [], [], [], [], [], [516, 519, 78, 517, 518], [], [], [], [], [], [], [], [], [], [], [], [1086, 1089, 85, 1087, 1088], [], [], [], [], [], [], [], [], [], [534, 537, 78, 535, 536], [], [], [], [], [], [], [1094, 1097, 85, 1095, 1096], [], [], [], [], [], [], [], []]
def zu_0_9 : List (List Nat) := [[], [], [], [], [], [], [539, 542, 78, 540, 541], [], [], [], [], [], [], [], [], [], [], [], [1098, 1101, 85, 1099, 1100], [], [], [], [], [], [], [], [], [], [], [], [], [], [], [547, 550, 78, 548, 549], [], [], [], [], [], [], [], [], [], [], [], [1106, 1109, 85, 1107, 1108], [], []]
def zu_0_10 : List (List Nat) := [[], [], [], [], [], [], [], [551, 554, 78, 552, 553], [], [], [], [], [], [], [1111, 1114, 85, 1112, 1113], [], [], [], [], [], [], [], [], [], [568, 571, 78, 569, 570], [], [], [], [], [], [], [1123, 1126, 85, 1124, 1125], [], [], [], [], [], [], [], [], [], [580, 583, 78, 581, 582], [], [], [], [], [], []]
def zu_0_11 : List (List Nat) := [[1127, 1130, 85, 1128, 1129], [], [], [], [], [], [], [], [], [], [593, 596, 78, 594, 595], [], [], [], [], [], [], [1135, 1138, 85, 1136, 1137], [], [], [], [], [], [], [], [], [], [], [], [], [], [], [601, 604, 78, 602, 603], [], [], [], [], [], [], [], [], [], [], [], [1139, 1142, 85, 1140, 1141], [], [], []]
def zu_0_12 : List (List Nat) := [[], [], [], [], [], [], [], [], [], [], [], [605, 608, 78, 606, 607], [], [], [], [], [], [], [], [], [], [], [], [1143, 1146, 85, 1144, 1145], [], [], [], [], [], [], [], [], [], [609, 612, 78, 610, 611], [], [], [], [], [], [], [1147, 1150, 85, 1148, 1149], [], [], [], [], [], [], []]
def zu_0_13 : List (List Nat) := [[], [], [621, 624, 78, 622, 623], [], [], [], [], [], [], [1159, 1162, 85, 1160, 1161], [], [], [], [], [], [], [], [], [], [], [], [], [], [], [626, 629, 78, 627, 628], [], [], [], [], [], [], [], [], [], [], [], [1163, 1166, 85, 1164, 1165], [], [], [], [], [], [], [], [], [], [], []]
def zu_0_14 : List (List Nat) := [[], [], [], [638, 641, 78, 639, 640], [], [], [], [], [], [], [], [], [], [], [], [1167, 1170, 85, 1168, 1169], [], [], [], [], [], [], [], [], [], [], [], [], [], [], [673, 676, 78, 674, 675], [], [], [], [], [], [], [], [], [], [], [], [1195, 1198, 85, 1196, 1197], [], [], [], [], []]
def zu_0_15 : List (List Nat) := [[], [], [], [], [677, 680, 78, 678, 679], [], [], [], [], [], [], [1199, 1202, 85, 1200, 1201], [], [], [], [], [], [], [], [], [], [], [], [], [], [], [681, 684, 78, 682, 683], [], [], [], [], [], [], [], [], [], [], [], [1203, 1206, 85, 1204, 1205], [], [], [], [], [], [], [], [], []]
def zu_0_16 : List (List Nat) := [[], [], [], [], [], [], [], [], [], [], [690, 693, 78, 691, 692], [], [], [], [], [], [], [], [], [], [], [], [], [], [], [], [], [1211, 1214, 85, 1212, 1213], [], [], [], [], [], [], [], [], [], [694, 697, 78, 695, 696], [], [], [], [], [], [], [1219, 1222, 85, 1220, 1221], [], [], []]
def zu_0_17 : List (List Nat) := [[], [706, 709, 78, 707, 708], [], [1227, 1230, 85, 1228, 1229], [], [], [], [], [], [], [], [], [], [], [], [], [], [], [715, 718, 78, 716, 717], [], [], [], [], [], [], [], [], [], [], [], [1235, 1238, 85, 1236, 1237], [], [], [], [], [], [], [], [], [], [], [], [], [], [], [719, 722, 78, 720, 721], [], []]
def zu_0_18 : List (List Nat) := [[], [], [], [], [], [], [], [], [], [1239, 1242, 85, 1240, 1241], [], [], [], [], [], [], [], [], [], [736, 739, 78, 737, 738], [], [], [], [], [], [], [1251, 1254, 85, 1252, 1253], [], [], [], [], [], [], [], [], [], [752, 755, 78, 753, 754], [], [], [], [], [], [], [1263, 1266, 85, 1264, 1265], [], [], [], []]
def zu_0_19 : List (List Nat) := [[], [], [], [], [], [], [], [], [], [], [769, 772, 78, 770, 771], [], [], [], [], [], [], [], [], [], [], [], [1267, 1270, 85, 1268, 1269], [], [], [], [], [777, 780, 78, 778, 779], [], [1276, 1279, 85, 1277, 1278], [], [], [], [], [781, 784, 78, 782, 783], [], [1280, 1283, 85, 1281, 1282], [], [], [], [], [], [785, 788, 78, 786, 787], [], [1284, 1287, 85, 1285, 1286], [], [], []]
def zu_0_20 : List (List Nat) := [[], [], [], [], [], [], [], [789, 792, 78, 790, 791], [], [], [], [], [], [], [1288, 1291, 85, 1289, 1290], [], [], [], [], [808, 811, 78, 809, 810], [], [1309, 1312, 85, 1310, 1311], [], [], [], [], [], [], [], [], [], [812, 815, 78, 813, 814], [], [], [], [], [], [], [1313, 1316, 85, 1314, 1315], [], [], [], [], [816, 819, 78, 817, 818], [], [1317, 1320, 85, 1318, 1319], [], []]
def zu_0_21 : List (List Nat) := [[], [], [], [], [], []]
def zu_0 : List (List Nat) := zu_0_0 ++ (zu_0_1 ++ (zu_0_2 ++ (zu_0_3 ++ (zu_0_4 ++ (zu_0_5 ++ (zu_0_6 ++ (zu_0_7 ++ (zu_0_8 ++ (zu_0_9 ++ (zu_0_10 ++ (zu_0_11 ++ (zu_0_12 ++ (zu_0_13 ++ (zu_0_14 ++ (zu_0_15 ++ (zu_0_16 ++ (zu_0_17 ++ (zu_0_18 ++ (zu_0_19 ++ (zu_0_20 ++ (zu_0_21)))))))))))))))))))))
def zu_1 : List (List Nat) := [[], [144, 95, 96], [], [], [], [172], [], [], [], [174], [], [], [], [175], [], [], [], [177], [], [], [145, 148, 80, 146, 147], []]
def zu_2 : List (List Nat) := [[], [], [171], [], [118], [], [], [175], [], [], [149, 151, 150, 81], [], [177], [], [152, 154, 82, 153], [], [155, 158, 80, 156, 157], []]
def zu_3 : List (List Nat) := [[], [], [171], [171], [], [172], [], [], [172], [], [], [149, 151, 150, 81], [], [174], [], [], [174], [], [], [149, 151, 150, 81], [], [175], [], [], [175], [], [], [149, 151, 150, 81], [], [177], [], [], [177], [], [], [149, 151, 150, 81], []]
def zu_4 : List (List Nat) := [[], [], [], [171], [116], [], [], [], [], [175], [], [], [], [], [171], [120], [], [], [], [], [171], [122], [], [], [], [], [172], [], [], [], [], [177], [], [], []]
def zu_5 : List (List Nat) := [[], [], [], [171], [114], [], [], [], [], [174], [], [], []]
def zu_6 : List (List Nat) := [[], [], [], [], [], [], [171], [111], [], [], [], [177], [], [], [], [], [], [], [], []]
def zu_7 : List (List Nat) := [[], [], [], [], [], [], [], [], [], [], [172], [], [], [], [], [149, 151, 150, 81], [], [175], [], [], [], [], [], [], [149, 151, 150, 81], [], [177], [], [], [], [], [], [], [149, 151, 150, 81], []]
def zu_8 : List (List Nat) := [[], [], [], [], [], [], [], [], [], [], [159, 162, 80, 161, 0], [], [], [], [], [171], [111], [], [], [], [], [], [], [], [], [163, 166, 80, 164, 165], [], [], [], [], [], [], [], [175], [], [], [149, 151, 150, 81], [], [], [], [], [], [177], [], [], [149, 151, 150, 81], []]
def zu_9 : List (List Nat) := [[], [171], [], [167, 170, 79, 168, 169], [], [], [174], [], [], [], [], [], [], [], []]
def zu_10 : List (List Nat) := [[], [172], [], [], [], [], [], [], [], []]
def zu_11 : List (List Nat) := [[], [171], [], [172], [], [], [167, 170, 79, 168, 169], [], [], [174], [], [172], [], [], [], [], [], [172], [], [], [], [], [171], [], [167, 170, 79, 168, 169], [], [], [174], [], [], [], []]
def zu_12 : List (List Nat) := [[], [172], [], [], [], [], [172], [], [], [], [], [], [], [163, 166, 80, 164, 165], [], [], [], [163, 166, 80, 164, 165], [], [], [], [163, 166, 80, 164, 165], []]
def zu_13 : List (List Nat) := [[], [172], [], [152, 154, 82, 153], [], [174], [], [152, 154, 82, 153], []]
def zu_14 : List (List Nat) := [[], [159, 162, 80, 161, 0], [], [], [], [], [171], [111], [], [], [], [689, 297, 84, 295, 296], [], [], [], [672, 523, 80, 521, 522], [], [], [], [], [], [], [163, 166, 80, 164, 165], [], [], [], []]
def zu_15 : List (List Nat) := [[], [159, 162, 80, 161, 0], [], [], [], [], [171], [111], [], [], [], [], [163, 166, 80, 164, 165], [], [], []]
def zu_16 : List (List Nat) := [[], [171], [111], [], [], [], [], [], [], [], [668, 671, 80, 670, 19], [], [], [], [], [], [], [], [], [], [171], [111], [], [], [], [668, 671, 80, 670, 19], [], [], [], []]
def zu_17 : List (List Nat) := [[], [], [172], [], [], [515, 279, 86, 280], [], [], [], [], [], [171], [107], [], [], [], [672, 523, 80, 521, 522], [], [], [], [], [163, 166, 80, 164, 165], [], [], [], [], [], [], [], [163, 166, 80, 164, 165], [], []]
def zu_18 : List (List Nat) := [[], [], [], [], [], [], [], [], [171], [107], [], [], [174], [], [], [], [], [174], [], [], [], [], [], [], [171], [], [476, 442, 79, 440, 441], [], [], [171], [], [476, 442, 79, 440, 441], [], [], [171], [122], [], [], [], [171], [122], [], [], [], [], [], [], [], []]
def zu_19 : List (List Nat) := [[], [172], [], [], [], [], [], [], [], [171], [120], [], [], [], [], [], [], [], [], [], []]
def zu_20 : List (List Nat) := [[], [], [], [], [], [], [171], [111], [], [], [], [], [477, 480, 80, 478, 479], [], [], [], [], [], []]
def zu_21 : List (List Nat) := [[], [171], [], [167, 170, 79, 168, 169], [], [], [], [], [174], [], [], [], [], [171], [], [476, 442, 79, 440, 441], [], [], [], [], [477, 480, 80, 478, 479], [], [], [], [], [], [], []]
def zu_22 : List (List Nat) := [[], [], [468, 471, 80, 469, 470], [], [], [], [], [], [172], [], [], [], [], [], [472, 475, 80, 474, 11], [], [], [172], [], [], [], [], [], [472, 475, 80, 474, 11], [], []]
def zu_23 : List (List Nat) := [[], [], [], [477, 480, 80, 478, 479], [], [], [], [], [172], [], [], [], [], [171], [], [496, 499, 79, 497, 498], [], [], [], [], [], [], [502, 505, 80, 504, 12], [], [], [], [], [], [], [], [502, 505, 80, 504, 12], [], [], [], [171], [116], [], [], [], [], [], [], [], [515, 279, 86, 280], [], [], [], [], [515, 279, 86, 280], []]
def zu_24 : List (List Nat) := [[], [171], [], [167, 170, 79, 168, 169], [], [], [], [], [174], [], [], [], [], [171], [], [476, 442, 79, 440, 441], [], [], [], [], [477, 480, 80, 478, 479], [], [], [], [], [171], [116], [], [], [], [], [], [171], [116], [], [], [], [], [], [], [], [], [], [175], [], [], [], [175], [], [], [], [506, 507, 86, 508], [], [171], [], [509, 512, 79, 510, 511], [], [], [171], [], [509, 512, 79, 510, 511], [], [], [], [], [], [], [], []]
def zu_25 : List (List Nat) := [[], [], [], [], [], [], [171], [111], [], [], [], [], [], [566, 495, 80, 493, 494], [], [], [], [], [], []]
def zu_26 : List (List Nat) := [[], [], [], [], [], [], [171], [111], [], [], [], [], [], [566, 495, 80, 493, 494], [515, 279, 86, 280], [], [], [], [], []]
def zu_27 : List (List Nat) := [[], [], [], [], [], [], [171], [111], [], [], [177], [], [], [], [], [177], [], [], [], [], [], [], [566, 495, 80, 493, 494], [], [567, 276, 86, 277], [], [], [], [177], [], [], [], [], [], [], [], [], [], []]
def zu_28 : List (List Nat) := [[], [], [], [731, 467, 80, 465, 466], [], [], [], [], [], [], [], [171], [111], [], [], [], [], [], [], [], [], [], [], [171], [], [509, 512, 79, 510, 511], [], [], [], [], [], [], []]
def zu_29 : List (List Nat) := [[], [], [], [], [171], [111], [], [], [], [], [477, 480, 80, 478, 479], [], [], [], [], [727, 730, 80, 729, 22], [], [], [], [], [], [], []]
def zu_30 : List (List Nat) := [[], [], [], [731, 467, 80, 465, 466], [], [], [], [], [], [171], [111], [], [], [], [], [], [], [], [], [171], [], [509, 512, 79, 510, 511], [], [171], [], [509, 512, 79, 510, 511], [], [], [], [], [], [], []]
def zu_31 : List (List Nat) := [[], [104, 95, 96], [], [], [105], [], [], [109], [], [], [], [113], [], [], [], [115], [], [], [], [117], [], [], [], [119], [], [], [], [121], []]
def zu_32 : List (List Nat) := [[], [], [], [], [105], [], [], [], [], []]
def zu_33 : List (List Nat) := [[], [], [], [], [109], [], [], [], [], []]
def zu_34 : List (List Nat) := [[], [105], [], [], [], [], [113], [], [105], [], [], [], [], [105], [], [], [105], []]
def zu_35 : List (List Nat) := [[], [109], [], [417, 401, 79, 399, 400], [], [], [], [115], [], [109], [], [], [], [117], [], [109], [], [], [], [119], [], [109], [], [], [], [121], [], [109], [], [], [], [], [109], [], [], [109], []]
def zu_36 : List (List Nat) := [[], [], [105], [402, 276, 86, 277], []]
def zu_37 : List (List Nat) := [[], [], [], [], [], [], [109], [], [], [], [105], [], [], [], [], [], [], [], []]
def zu_38 : List (List Nat) := [[], [115], [], [], [], [], [], [], [], [], [115], [], [], [], [], [], [], [], []]
def zu_39 : List (List Nat) := [[], [], [], [], [], [], [109], [], [], [], [], [491, 463, 79, 461, 462], [], [], [], [], [], [], [], [], [], [], []]
def zu_40 : List (List Nat) := [[513], [], [115], [], [], [], []]
def zu_41 : List (List Nat) := [[500], [], [113], [], [], [], []]
def zu_42 : List (List Nat) := [[], [194, 95, 96], [], [], [], [195], [], [], [196], []]
def zu_43 : List (List Nat) := [[], [196], [], [], [], [], [], []]
def zu_44 : List (List Nat) := [[], [], [], [196], [], [], [], [], [], []]
def zu_45 : List (List Nat) := [[], [], [196], [], [], [195], [], [427, 430, 80, 428, 429], []]
def zu_46 : List (List Nat) := [[], [], [533, 527, 83, 525, 526], [], [], [], [], [196], [], [], [196], [], [], [195], [], [196], [], [], [427, 430, 80, 428, 429], []]
def zu_47 : List (List Nat) := [[], [], [196], []]
def zu_48 : List (List Nat) := [[], [], [196], [196], [], [195], [], [], [195], [], [], [195], [], [592, 151, 150, 81], []]
def zu_49 : List (List Nat) := [[], [], [], [], [196], [], [], [], [], [196], [], [], [195], [], [], [], [576, 579, 80, 577, 578], []]
def zu_50 : List (List Nat) := [[], [363, 95, 96], [], [], [366], [], [], [364], [], [], [365], []]
def zu_51 : List (List Nat) := [[], [378, 381, 87, 380, 6], [], [383, 386, 87, 385, 7], [], [], [366], [], [], [378, 381, 87, 380, 6], [], [365], [398, 401, 79, 399, 400], [], [], [], [], [], [], [], [366], [], [364], [211], [], [], [403, 406, 87, 405, 9], [], [], [366], [], [], [378, 381, 87, 380, 6], [], [], [], [365], [110], [], [], [366], [], [364], [211], [], [], [], [], [366], []]
def zu_52 : List (List Nat) := [[], [366], [], [364], [211], [], [], [364], [], [366], [382, 297, 84, 295, 296], [], [], [], [], [366], [], [], [366], [], []]
def zu_53 : List (List Nat) := [[], [364], [], [366], [387, 293, 84, 291, 292], [], [], [364], [], [366], [382, 297, 84, 295, 296], [], [], [], [], [], [], [366], [], [], [366], [], [366], [], [364], [211], [], [], [388], [390, 393, 87, 392, 8], [], [], [], [], [], [], [365], [106], [], [], [], [], [], [365], [], [394, 397, 79, 395, 396], [], [], [366], [], [], [366], [], [], [365], [106], [], [], [], [], [], []]
def zu_54 : List (List Nat) := [[], [407], [390, 393, 87, 392, 8], [], [], [], [], [], [], [], [], [366], [], [], [366], [], [], [], [409, 412, 87, 411, 10], [], [], [], [], [], [], [], [], [], [409, 412, 87, 411, 10], [], [], [], [], [], [], [], [], [], [409, 412, 87, 411, 10], [], [], [], [], [], [], [], [365], [], [], [], [], [413, 416, 79, 414, 415], [], []]
def zu_55 : List (List Nat) := [[], [], [], [], [], [], [], [364], [], [366], [387, 293, 84, 291, 292], [], [], [364], [], [366], [382, 297, 84, 295, 296], [], [], [], [], [], [], [], [], [], []]
def zu_56 : List (List Nat) := [[], [364], [], [366], [387, 293, 84, 291, 292], [], [], [364], [], [366], [382, 297, 84, 295, 296], [], [], [], [], [], [], [], [], [], [], [], [], [], [], [], [366], [], [], [366], [], []]
def zu_57 : List (List Nat) := [[], [208, 95, 96], [], [], [], [209], [], [], [210], []]
def zu_58 : List (List Nat) := [[], [210], [], [], [], [], [], []]
def zu_59 : List (List Nat) := [[], [], [], [], [210], [], [], [], [], []]
def zu_60 : List (List Nat) := [[], [], [], [], [210], [], [], [], [], [], [210], [], [], [], [], [], [], []]
def zu_61 : List (List Nat) := [[], [], [298, 293, 84, 291, 292], [], [], [209], [], [], [], [], []]
def zu_62 : List (List Nat) := [[], [], [298, 293, 84, 291, 292], [], [], [209], [], [], [], []]
def zu_63 : List (List Nat) := [[], [], [], [], [209], [], [275, 276, 86, 277], [278, 279, 86, 280], [210], [], [209], [], [281, 154, 82, 153], []]
def zu_64 : List (List Nat) := [[], [], [210], []]
def zu_65 : List (List Nat) := [[], [], [], [331, 326, 84, 324, 325], [], [], [], [], [331, 326, 84, 324, 325], [], [], [209], [], [], [209], [], [], [332, 151, 150, 81], []]
def zu_66 : List (List Nat) := [[], [], [], [], [], [], [210], [], [], [], [], [341, 297, 84, 295, 296], [], [], [], [], [], [], []]
def zu_67 : List (List Nat) := [[826], [], [], [], [210], [], [], [], [], [], [], [], [210], [], [826], [], [], [], [], [341, 297, 84, 295, 296], [], [], [], [], [], [], []]
def zu_68 : List (List Nat) := [[], [94, 95, 96], [], [], [97, 98], [218], [], [], [97, 98], [219], [], [99], [], [101, 103, 79, 102], [220], [], [139], [], [], [220], [141, 143, 80, 142], [221], [], [139], [], [], [220], [141, 143, 80, 142], [222], [], [189], [], [], [191, 193, 83, 192], [223], [], [], [189, 203], [224], [], [], [225], [], [], [226], [], [], [227], [], [], [228], [], [], [], [229], [], [], [], [], [218], [], [], [], [218], [], [97], [], [205, 207, 84, 206], [], [], [], [], [], [], [], [219], [], [], [], [219], [], [97], [], [205, 207, 84, 206], [], [], [], [], [], [], [], [224], [], [], [], [224], [], [189], [], [], [191, 193, 83, 192], [], [], [], []]
def zu_69 : List (List Nat) := [[], [], [], [259, 262, 78, 261, 1], [], [], [], [263, 266, 78, 265, 2], []]
def zu_70 : List (List Nat) := [[], [], [259, 262, 78, 261, 1], [], [], [], [], [], [], [286, 289, 84, 287, 288], [], [], [], [267, 270, 78, 269, 3], [], [], [], [290, 293, 84, 291, 292], [], [], [], [267, 270, 78, 269, 3], [], [], [], [], [294, 297, 84, 295, 296], [299, 302, 78, 301, 4], [], [], [], [303, 306, 84, 304, 305], [], []]
def zu_71 : List (List Nat) := [[], [], [259, 262, 78, 261, 1], [], [], [], [], [], [], [286, 289, 84, 287, 288], [], [], [], [267, 270, 78, 269, 3], [], [], [], [290, 293, 84, 291, 292], [], [], [], [267, 270, 78, 269, 3], [], [], [], [], [294, 297, 84, 295, 296], [299, 302, 78, 301, 4], [], []]
def zu_72 : List (List Nat) := [[], [], [259, 262, 78, 261, 1], [], [], [], [], [], [], [286, 289, 84, 287, 288], [], [], [], [267, 270, 78, 269, 3], [], [], [315, 318, 84, 316, 317], [], []]
def zu_73 : List (List Nat) := [[], [], [259, 262, 78, 261, 1], [], [], [], [259, 262, 78, 261, 1], [], [], [], [], [], [], [], [], [], [], [], [267, 270, 78, 269, 3], [], [], [286, 289, 84, 287, 288], [], [], [286, 289, 84, 287, 288], [], [], [], [267, 270, 78, 269, 3], [], [], [], [], [323, 326, 84, 324, 325], [], [], [], [], [323, 326, 84, 324, 325], [], [], [], [267, 270, 78, 269, 3], [], [], [], [], [], [], [327, 330, 84, 328, 329], [], []]
def zu_74 : List (List Nat) := [[], [], [259, 262, 78, 261, 1], [], [], [], [], [], [], [286, 289, 84, 287, 288], [], [], [], [267, 270, 78, 269, 3], [], [], [212], [], [], [], [267, 270, 78, 269, 3], [], [], [], [337, 340, 84, 338, 339], [], [212], [], [], [], [299, 302, 78, 301, 4], [], []]
def zu_75 : List (List Nat) := [[], [], [], [346, 349, 78, 348, 5], [], [], [], [263, 266, 78, 265, 2], []]
def zu_76 : List (List Nat) := [[], [], [346, 349, 78, 348, 5], [], [], [], [], [], [], [286, 289, 84, 287, 288], [], [], [], [267, 270, 78, 269, 3], [], [], [], [290, 293, 84, 291, 292], [], [], [], [267, 270, 78, 269, 3], [], [], [], [294, 297, 84, 295, 296], [], [], [], [], [], [303, 306, 84, 304, 305], [], [], [], []]
def zu_77 : List (List Nat) := [[], [], [346, 349, 78, 348, 5], [], [], [], [], [], [], [286, 289, 84, 287, 288], [], [], [], [267, 270, 78, 269, 3], [], [358], [], [], [99], [], [101, 103, 79, 102], [360, 362, 87, 361], [374, 377, 87, 375, 376], []]
def zu_78 : List (List Nat) := [[], [], [346, 349, 78, 348, 5], [], [], [], [], [], [], [286, 289, 84, 287, 288], [], [], [], [267, 270, 78, 269, 3], [], [99], [], [101, 103, 79, 102], [], [358], [], [], [], [360, 362, 87, 361], [374, 377, 87, 375, 376], [], [], [], [], [], [], [220], [], [221], [], [422, 148, 80, 146, 147], [], [223], [], [221], [423, 426, 83, 424, 425], [], [], [], [], [224], [], [], [], [224], [], [], [431, 434, 83, 432, 433], [], [], [], [112], []]
def zu_79 : List (List Nat) := [[], [220], [], [439, 442, 79, 440, 441], [], [], [], [], [], [], [], [], [], [], [221], [], [], [443, 446, 80, 444, 445], [299, 302, 78, 301, 4], [], []]
def zu_80 : List (List Nat) := [[], [220], [], [451, 170, 79, 168, 169], [], [], [], [], [], [], [], [], [], [], [221], [], [], [452, 455, 80, 453, 454], [299, 302, 78, 301, 4], [], []]
def zu_81 : List (List Nat) := [[], [220], [], [439, 442, 79, 440, 441], [], [], [], [], [], [], [], [], [], [], [220], [], [], [460, 463, 79, 461, 462], [], [], [], [267, 270, 78, 269, 3], [], [], [221], [], [], [464, 467, 80, 465, 466], [], [], [], [], [481, 483, 88, 482], [], [], [], [220], [], [487, 490, 79, 488, 489], [], [], [], [481, 483, 88, 482], [], [], [], [220], [], [487, 490, 79, 488, 489], [], [481, 483, 88, 482], [], [], [220], [], [487, 490, 79, 488, 489], [481, 483, 88, 482], [], [], [], [], [221], [], [], [492, 495, 80, 493, 494], [], [], []]
def zu_82 : List (List Nat) := [[], [220], [], [439, 442, 79, 440, 441], [], [], [220], [], [451, 170, 79, 168, 169], [], [], [], [], [221], [], [520, 523, 80, 521, 522], [], [], [], [], [223], [], [524, 527, 83, 525, 526], [], [], [], [], [221], [], [], [528, 166, 80, 164, 165], [], [223], [], [221], [529, 532, 83, 530, 531], [], []]
def zu_83 : List (List Nat) := [[], [220], [], [439, 442, 79, 440, 441], [], [], [], [], [221], [], [538, 471, 80, 469, 470], [], [], [], [], [223], [], [524, 527, 83, 525, 526], [], [], [], [], [221], [173], [], [], [], [], [221], [], [], [528, 166, 80, 164, 165], [], [223], [], [221], [529, 532, 83, 530, 531], [], []]
def zu_84 : List (List Nat) := [[], [220], [], [439, 442, 79, 440, 441], [], [], [220], [], [439, 442, 79, 440, 441], [], [], [], [], [], [], [], [221], [], [538, 471, 80, 469, 470], [], [], [221], [], [538, 471, 80, 469, 470], [], [], [], [], [223], [], [524, 527, 83, 525, 526], [], [], [], [], [221], [], [], [543, 546, 80, 544, 545], [], [223], [], [221], [529, 532, 83, 530, 531], [], []]
def zu_85 : List (List Nat) := [[], [220], [], [439, 442, 79, 440, 441], [], [], [], [], [], [], [], [], [], [], [221], [176], [], [], [], [], [], [], [], [], [], [223], [], [524, 527, 83, 525, 526], [], [], [], [], [221], [176], [], [], [], [], [223], [], [221], [529, 532, 83, 530, 531], [], []]
def zu_86 : List (List Nat) := [[], [555, 557, 78, 556], [], [], [], [], [220], [112], [], [], [], [], [223], [], [524, 527, 83, 525, 526], [], [], [], [], [], [558, 561, 78, 560, 13], []]
def zu_87 : List (List Nat) := [[], [], [], [], [223], [197], [], [], [], [], [223], [197], [], [], [], [], [223], [], [], [221], [572, 575, 83, 573, 574], [], []]
def zu_88 : List (List Nat) := [[], [], [584, 587, 78, 586, 14], [], [], [], [], [220], [112], [], [], [], [], [224], [], [], [], [223], [588, 591, 83, 589, 590], [], [223], [197], []]
def zu_89 : List (List Nat) := [[], [], [584, 587, 78, 586, 14], [], [], [], [], [224], [], [], [597, 600, 83, 598, 599], [], [], [], [267, 270, 78, 269, 3], [], [], [223], [], [224], [], [], [588, 591, 83, 589, 590], [], [223], [], [223], [197], [], [221], [572, 575, 83, 573, 574], [], [223], [197], []]
def zu_90 : List (List Nat) := [[], [220], [], [439, 442, 79, 440, 441], [], [], [555, 557, 78, 556], [], [], [], [], [221], [], [], [464, 467, 80, 465, 466], []]
def zu_91 : List (List Nat) := [[], [220], [], [439, 442, 79, 440, 441], [], [], [555, 557, 78, 556], [], [], [], [], [221], [], [], [492, 495, 80, 493, 494], []]
def zu_92 : List (List Nat) := [[], [555, 557, 78, 556], [], [], [], [], [], [221], [], [613, 616, 80, 614, 615], [299, 302, 78, 301, 4], [], [221], [], [617, 620, 80, 618, 619], []]
def zu_93 : List (List Nat) := [[], [555, 557, 78, 556], [], [], [], [], [], [], [], [], [], [], [], [220], [112], [], [], [221], [], [], [492, 495, 80, 493, 494], [], [], [221], [], [], [625, 480, 80, 478, 479], [], [], [], [], [], [], [], [], [], [], [], [], [], [], [], [299, 302, 78, 301, 4], [], []]
def zu_94 : List (List Nat) := [[], [220], [], [439, 442, 79, 440, 441], [], [], [555, 557, 78, 556], [], [], [], [], [221], [], [], [625, 480, 80, 478, 479], [], [], [], [], [221], [], [], [464, 467, 80, 465, 466], [], [], [], [], [], [], [], [], [], [220], [112], [], [], [], [], [], [], [], [], [], [221], [], [], [492, 495, 80, 493, 494], [], [], [], [], [630, 633, 78, 632, 15], [], [], [], [], [], [], [], [], [], [], [], [], [], [], [], [], [299, 302, 78, 301, 4], [], []]
def zu_95 : List (List Nat) := [[], [555, 557, 78, 556], [], [], [], [], [], [], [259, 262, 78, 261, 1], [642, 645, 78, 644, 16], [], [], []]
def zu_96 : List (List Nat) := [[], [555, 557, 78, 556], [], [], [], [], [], [], [259, 262, 78, 261, 1], [642, 645, 78, 644, 16], [], [], []]
def zu_97 : List (List Nat) := [[], [], [], [], [], [259, 262, 78, 261, 1], [642, 645, 78, 644, 16], []]
def zu_98 : List (List Nat) := [[], [], [259, 262, 78, 261, 1], [], [], [], [], [555, 557, 78, 556], [], [], [], [], [220], [112], [], [], [], [], [286, 289, 84, 287, 288], [], [], [], [267, 270, 78, 269, 3], [], [], [212], [], [220], [112], [], [], [], [267, 270, 78, 269, 3], [], [], [222], [], [221], [634, 637, 80, 635, 636], [], [222], [], [685, 688, 80, 686, 687], [], [], [], [267, 270, 78, 269, 3], [], [], [222], [], [617, 620, 80, 618, 619], []]
def zu_99 : List (List Nat) := [[], [220], [], [439, 442, 79, 440, 441], [], [], [220], [], [439, 442, 79, 440, 441], [], [], [], [], [], [555, 557, 78, 556], [], [], [], [], [222], [], [221], [634, 637, 80, 635, 636], [], [222], [], [], [543, 546, 80, 544, 545], [], [], [221], [], [617, 620, 80, 618, 619], [], [], [222], [], [617, 620, 80, 618, 619], [], []]
def zu_100 : List (List Nat) := [[], [555, 557, 78, 556], [], [], [], [], [], [698, 701, 78, 700, 20], [], [], [], [299, 302, 78, 301, 4], [], [], [], [], [], [], []]
def zu_101 : List (List Nat) := [[], [220], [112], [], [], [], [], [], [], [647, 650, 78, 649, 17], [], [220], [652, 655, 79, 653, 654], [], [], [], [], [], [222], [710, 713, 80, 711, 712], [714, 279, 86, 280], [], [], [222], [664, 667, 80, 665, 666], [], [], [], [], [299, 302, 78, 301, 4], [], [221], [710, 713, 80, 711, 712], []]
def zu_102 : List (List Nat) := [[], [220], [], [439, 442, 79, 440, 441], [], [], [555, 557, 78, 556], [], [], [], [], [], [646], [], [], [222], [], [221], [634, 637, 80, 635, 636], [], [], [], [], [], [], [222], [176], [], [], [], [], [222], [], [617, 620, 80, 618, 619], [], [], [], [], [], [], [], [], [], [], [], [], [299, 302, 78, 301, 4], [], []]
def zu_103 : List (List Nat) := [[], [], [259, 262, 78, 261, 1], [], [], [], [], [555, 557, 78, 556], [], [], [], [], [220], [112], [], [], [], [], [222], [], [221], [634, 637, 80, 635, 636], [], [222], [], [613, 616, 80, 614, 615], [], [], [], [], [271, 274, 84, 272, 273], [], [], [], [], [], [], [], [], [222], [], [723, 726, 80, 724, 725], [], [], [220], [], [439, 442, 79, 440, 441], [], [], [], [], [222], [], [], [732, 735, 80, 733, 734], [], [], [], [], [], [303, 306, 84, 304, 305], [], [222], [], [], [528, 166, 80, 164, 165], [], [], [], []]
def zu_104 : List (List Nat) := [[], [], [259, 262, 78, 261, 1], [], [], [], [], [], [], [220], [112], [], [], [], [], [286, 289, 84, 287, 288], [], [], [], [267, 270, 78, 269, 3], [], [], [212], [], [], [], [], [], [267, 270, 78, 269, 3], [], [], [], [], [], [212], [], [], [], [294, 297, 84, 295, 296], [555, 557, 78, 556], [], [], [], [267, 270, 78, 269, 3], [], [], [], [], [], [740, 743, 78, 742, 23], [], []]
def zu_105 : List (List Nat) := [[], [555, 557, 78, 556], [], [], [], [], [220], [112], [], [], [], [], [], [], [647, 650, 78, 649, 17], [], [220], [652, 655, 79, 653, 654], [], [], [], [], [], [222], [], [617, 620, 80, 618, 619], [], [], [], [], [222], [664, 667, 80, 665, 666], [], [], [], [], [], [220], [652, 655, 79, 653, 654], [], [756, 759, 78, 758, 26], [], []]
def zu_106 : List (List Nat) := [[], [], [], [], [], [], [], [], [], [], [], [773], [], [], [], [], [], [220], [112], [], [], [], [], [223], [], [524, 527, 83, 525, 526], [], [], [], [], [], [], [], [], [], [], [], [], [], [], [774], [], [773], [], [], [], [], [], [775], [], [776], [], [], [558, 561, 78, 560, 13], [], [], [], [], [], []]
def zu_107 : List (List Nat) := [[], [225], []]
def zu_108 : List (List Nat) := [[], [226], []]
def zu_109 : List (List Nat) := [[], [227], []]
def zu_110 : List (List Nat) := [[], [], [], [], [], [], [], [], [], [793, 796, 78, 795, 27], []]
def zu_111 : List (List Nat) := [[], [228], []]
def zu_112 : List (List Nat) := [[], [], [], [], [], [], [], [], [], [229], [], [], []]
def zu_113 : List (List Nat) := [[820], [], [], [], [], [], [], [821], [], [], [], [], [793, 796, 78, 795, 27], [], [], [], [], [], [], [], [], [], [220], [108], [], [], [], [], [], [], [821], [], [], [], [221], [], [], [452, 455, 80, 453, 454], [], [], [], [], [], [], [], [], [], [], [], [220], [112], [], [], [], [], [], [], [821], [], [], [], [221], [], [], [443, 446, 80, 444, 445], [], [], [], [], [], [], [], [], [], [], [], [224], [], [], [821], [], [], [], [224], [], [], [197], [], [], [], [], [], [], [], [], [], [218], [], [], [], [218], [], [], [], [822, 825, 84, 823, 824], [], [], [], [], [], [], [], [219], [], [], [], [219], [], [], [], [822, 825, 84, 823, 824], [], [], [], [], []]
def zu_114 : List (List Nat) := [[], [], [], [], [218], [], [], [], [218], [], [], [], [], []]
def zu_115 : List (List Nat) := [[], [], [], [], [219], [], [], [], [219], [], [], [], [], []]
def zu_116 : List (List Nat) := [[], [], [], [], [], [], [], [], []]
def zu_117 : List (List Nat) := [[], [], [], [], [224], [], [], [], [], [], []]
def zu_118 : List (List Nat) := [[], [], [], [], [], [], [], [229], [], [], [], [], [], [], [], [], [228], [], []]
def zu_119 : List (List Nat) := [[], [], [225], []]
def zu_120 : List (List Nat) := [[], [], [], [760, 762, 78, 761], [766, 767, 86, 768], [], [], [], [], [], [226], [], [], [], [], [227], []]
def zu_121 : List (List Nat) := [[], [], [], [], [], [], [], [], [], [], [], [], [], [], [], [], [], [], [], [], [], [], [], [], [763, 764, 86, 765], []]
def zu_122 : List (List Nat) := [[], [], [], [], [], [], [], [], [], [], [], [267, 270, 78, 269, 3], [], [], [], [], [271, 274, 84, 272, 273], [], []]
def zu_123 : List (List Nat) := [[], [221], [], [562, 565, 80, 563, 564], [], [], [223], [], [221], [529, 532, 83, 530, 531], [], []]
def zu_124 : List (List Nat) := [[], [222], [], [221], [634, 637, 80, 635, 636], [], [222], [], [], [528, 166, 80, 164, 165], [], [222], [], [], [492, 495, 80, 493, 494], []]
def zu_125 : List (List Nat) := [[], [222], [], [221], [634, 637, 80, 635, 636], [], [222], [651, 158, 80, 156, 157], []]
def zu_126 : List (List Nat) := [[], [], [], [], [], [220], [112], [], [], [], [], [], [220], [112], [], [271, 274, 84, 272, 273], [646], [], [], [647, 650, 78, 649, 17], [], [220], [652, 655, 79, 653, 654], [], [], [], [], [], [], [656, 659, 78, 658, 18], [], [], [], [], [], [], [], [], [], [], [220], [112], [], [], [], [], [222], [173], [], [], [303, 306, 84, 304, 305], [], [], [], [222], [664, 667, 80, 665, 666], [], [], [], []]
def zu_127 : List (List Nat) := [[], [], [], [222], [], [617, 620, 80, 618, 619], [], [], [222], [], [660, 663, 80, 661, 662], [], [], [222], [], [617, 620, 80, 618, 619], [], [222], [], [617, 620, 80, 618, 619], [], []]
def zu_128 : List (List Nat) := [[], [], [], [], [220], [112], [], [], [], [], [], [], [], [220], [112], [], [], [], [], [], [702, 705, 78, 704, 21], [], [], [], [], [], [], [], [], [], [], [], [], []]
def zu_129 : List (List Nat) := [[], [221], [], [], [625, 480, 80, 478, 479], [], [], [221], [], [], [625, 480, 80, 478, 479], [], [], [], [], [222], [], [221], [634, 637, 80, 635, 636], [], [222], [], [], [543, 546, 80, 544, 545], [], [222], [], [], [492, 495, 80, 493, 494], [], [221], [], [], [492, 495, 80, 493, 494], [], [], [222], [], [], [492, 495, 80, 493, 494], [], [221], [], [], [492, 495, 80, 493, 494], [], [], [], [], []]
def zu_130 : List (List Nat) := [[], [], [], [], [], [647, 650, 78, 649, 17], [], [220], [652, 655, 79, 653, 654], [], [], [], [], [], [744, 747, 78, 746, 24], [], [], [222], [173], [], [], [], [], [], [], [], [], [], [], [], [], [], [], [222], [664, 667, 80, 665, 666], [], [], [], [], [], [226], [], [], [227], [], [], [299, 302, 78, 301, 4], []]
def zu_131 : List (List Nat) := [[], [], [], [], [], [], [], [], [748, 751, 78, 750, 25], [], [], [], [], [], [], []]
def zu_132 : List (List Nat) := [[], [], [], [], [], [], [212], [], [], [], [294, 297, 84, 295, 296], [], [], [], [], [], [], [], [222], [], [617, 620, 80, 618, 619], [], [], [], [], [], [], [294, 297, 84, 295, 296], [], [], [], [], [], [], []]
def zu_133 : List (List Nat) := [[], [], [], [220], [112], [], [], [220], [108], [], [], [223], [197], [], [], [221], [], [613, 616, 80, 614, 615], [], [], [221], [797, 800, 80, 798, 799], [], [], [220], [], [487, 490, 79, 488, 489], [481, 483, 88, 482], [], [], [218], [801, 803, 78, 802], [], [], [219], [801, 803, 78, 802], [], [], [804, 807, 78, 806, 28], []]
def zu_134 : List (List Nat) := [[], [], [], [], [], [], [], [], [], [], [], [286, 289, 84, 287, 288], [], [], [], [], [], []]
def zu_135 : List (List Nat) := [[], [], [], [], [], [], [224], [], [], [], [224], [], [], [597, 600, 83, 598, 599], [], [], [], [], [], []]
def zu_136 : List (List Nat) := [[], [832, 95, 96], [], [], [], [833], [], [], [], [835], [], [], [], [837], [], [], [], [838], [], [], [], [839], [], [], [], [], [], [], [], [], [], [], [], [], [], [], [], [], [], [], [], [], [], [], [], [], [], [], [], [840], [], [], [], [841], [], [], [], [], [], [], [], [], [], [], [], [], [], [], [], [], [], [], [], [842], [], [], [], [843], [], [], [846], [], [], [], [848], [], [], [], [852], [], [], [], [854], [], [], [], [856], [], [], [], [857], [], [], [], [858], [], [], [], [], [], [], [833], [], [], [], [], [], [], [], [], [], []]
def zu_137 : List (List Nat) := [[], [], [], [], [], [], [], [], [], [], [], []]
def zu_138 : List (List Nat) := [[], [], [847], [], [848], [], [], [], [], [], [], [], []]
def zu_139 : List (List Nat) := [[], [], [844], [], []]
def zu_140 : List (List Nat) := [[], [], [], [919], [920, 922, 85, 921], []]
def zu_141 : List (List Nat) := [[], [], [], [970], [920, 922, 85, 921], []]
def zu_142 : List (List Nat) := [[], [916, 918, 85, 917], [], [], [], [], [], [], [], [], [], [], [923, 926, 85, 925, 29], [], [], [], [], [927, 930, 85, 929, 30], [], []]
def zu_143 : List (List Nat) := [[], [840], [], [], [], [], [], [], [], [], [], [841], [], [], [], [], [], [], [], [], [], []]
def zu_144 : List (List Nat) := [[], [916, 918, 85, 917], [], [], [], [], [840], [], [], [], [], [], [923, 926, 85, 925, 29], [], [], [], [], [], [840], [], [], [], [], [], [920, 922, 85, 921], [], [], [], [], [], [923, 926, 85, 925, 29], []]
def zu_145 : List (List Nat) := [[], [], [], [935, 938, 85, 937, 31], [], [], [], [], [], [], [841], [], [], [], [], [], [], [], [], [841], [], [], [], [], [], [], [], [], [], [939, 942, 85, 941, 32], []]
def zu_146 : List (List Nat) := [[], [], [], [935, 938, 85, 937, 31], [], [], [], [], [], [], [], [841], [], [], [], [], [], [], [939, 942, 85, 941, 32], []]
def zu_147 : List (List Nat) := [[], [916, 918, 85, 917], [], [], [], [], [840], [], [], [], [], [], [923, 926, 85, 925, 29], [], [], [840], [], [], [], [], []]
def zu_148 : List (List Nat) := [[], [], [], [], [], [], [], [], [840], [], [], [], [], [], [], [], [], []]
def zu_149 : List (List Nat) := [[], [916, 918, 85, 917], [], [], [916, 918, 85, 917], [], [], [], [], [], [], [], [923, 926, 85, 925, 29], [], [], [840], [], [], [], [], [840], [], [], [], [], [], [923, 926, 85, 925, 29], [], [], [], [], [], [955, 958, 85, 957, 33], [], [], [], [], [], [955, 958, 85, 957, 33], [], [], [], [923, 926, 85, 925, 29], [], [], [], [], [], [], [], [], [], [], [], [], [], [], [], [], [], [], [], [], [], [], [], [], [841], [], [], [], [], [], [], [], [], [841], [], [], [], [], [], [], [], [], [], [], [], [], []]
def zu_150 : List (List Nat) := [[], [916, 918, 85, 917], [], [], [], [], [840], [], [], [], [], [], [923, 926, 85, 925, 29], [], [], [840], [], [], [], [], [], [923, 926, 85, 925, 29], [], [], [], [], [], [], [], [840], [], [], [], [], [], [841], [], [], [], [], [], [], [], [], [], [], [], [], [], [], [840], [], [], [], [], [], [939, 942, 85, 941, 32], []]
def zu_151 : List (List Nat) := [[], [967, 969, 85, 968], [], [], [], [], [], [], [], [], [], [], [923, 926, 85, 925, 29], [], [], [842], [], [], [], [], [], [], [], [], [], [843], [], [], [], [], [], [], [], [], [], [], []]
def zu_152 : List (List Nat) := [[], [967, 969, 85, 968], [], [], [], [], [842], [], [], [], [], [], [923, 926, 85, 925, 29], [], [], [], [], [], [842], [], [], [], [], [], [920, 922, 85, 921], [], [], [], [923, 926, 85, 925, 29], [], [], [843], [], [], [], [], [], [], [], [], [843], [], [], [], [], [], [], [], [], [], [], [], []]
def zu_153 : List (List Nat) := [[], [843], [], [849], [], [850], [], [], []]
def zu_154 : List (List Nat) := [[], [850], [], [851], [], [], [991, 994, 85, 993, 37], [], [], [], [], [850], [], [], [850], [], []]
def zu_155 : List (List Nat) := [[], [850], [], [851], [], [], [991, 994, 85, 993, 37], [], [], [], [], [], [], [], [], [], [920, 922, 85, 921], [], [], [], [], [], [850], [], [], [850], [], [843], [], [849], [], [850], [], [], [], [], [], [], []]
def zu_156 : List (List Nat) := [[], [], [], [], [], [], [], [], [], [], [], [], [], [], [], [], [], [], [], [], [], [], [], [], [], [], []]
def zu_157 : List (List Nat) := [[], [], [], [], [], [], [], [], [], [], [], [], [], [], [], [], [], [], [], [], [], [], [], [], [], [], [], [], [], [], [], []]
def zu_158 : List (List Nat) := [[], [987, 990, 85, 989, 36], [], [850], [], [851], [], [], [991, 994, 85, 993, 37], [], [], [], [], [], [], [850], [], [], [850], [], [850], [], [851], [], [], [991, 994, 85, 993, 37], [995, 997, 85, 996], [], [], [], [853], [], [], [], [], [], [852], [], [853], [], [991, 994, 85, 993, 37], [995, 997, 85, 996], [], [], [], [853], [], [], [853], [], [], [850], [], [], [850], [], [], [853], [], [], [], [], [], []]
def zu_159 : List (List Nat) := [[], [991, 994, 85, 993, 37], [1002, 1004, 85, 1003], [], [], [], [], [], [855], [], [], [], [855], [], [853], [], [], [], [], [], [850], [], [], [850], [], [], [], [1005, 1008, 85, 1007, 39], [], [], [], [], [], [], [], [], [], [1005, 1008, 85, 1007, 39], [], [], [], [], [], [], [], [], [], [1005, 1008, 85, 1007, 39], [], [], [], [], [], [], [], [854], [], [], [855], [], [], [], [], [854], [], [], [855], [], [], [], [], [], [], [854], [], [], [855], [], [], [], [], [], [], [854], [], [], [855], [], [], [], [], [], [], [], [855], [], [], [855], [], []]
def zu_160 : List (List Nat) := [[], [], [], [], [849], [], [], [850], [], [], [842], [], [], [851], [], [], [853], [], [], [855], [], [983, 986, 85, 985, 35], [], [], [], [], [987, 990, 85, 989, 36], [], [], [], [850], [], [851], [], [], [998, 1001, 85, 1000, 38], [], [], [], [], [987, 990, 85, 989, 36], [], [], [], [], [855], [], [], [], [], [850], []]
def zu_161 : List (List Nat) := [[], [967, 969, 85, 968], [], [], [], [], [842], [], [], [], [], [], [923, 926, 85, 925, 29], [], [], [], [979, 982, 85, 981, 34], []]
def zu_162_0 : List (List Nat) := [[], [967, 969, 85, 968], [], [], [], [], [842], [], [], [], [], [], [923, 926, 85, 925, 29], [], [], [], [979, 982, 85, 981, 34], [], [], [], [], [], [], [853], [834], [], [], [855], [836], [], [], [], [], [834], [], [], [835], [], [], [852], [], [], [], [], [], [], [], []]
def zu_162_1 : List (List Nat) := [[], [], [], [833], [], [], [], [], [], [], [], [], [], [], [], [], [836], [], [], [], [], [], [], [837], [], [], [], [], [854], [], [], [], [], [], [], [], [], [838], [], [], [], [], [854], [], [], [], [], []]
def zu_162_2 : List (List Nat) := [[], [], [], [], [], [839], [], [], [], [], [854], [], [], [], [], [], [], [], [], [], [], [833], [], [], [], [], [], [], [854], [], [], [], [], [], [], [], [], [], [], [833], [], [], [], [], [], [], [], []]
def zu_162_3 : List (List Nat) := [[], [], [], [], [], [], [], [], [], [833], [], [], [], [], [], [], [], [], [], [], [836], []]
def zu_162 : List (List Nat) := zu_162_0 ++ (zu_162_1 ++ (zu_162_2 ++ (zu_162_3)))
def zu_163 : List (List Nat) := [[], [], [], [], [], [], [856], [], [], [833], [], [], [], [], [], [], [857], [], [], [833], [], [], [], [], [], [], [], []]
def zu_164 : List (List Nat) := [[], [], [], [], [836], [], [], [], [920, 922, 85, 921], []]
def zu_165 : List (List Nat) := [[], [], [], [], [834], [], [], [], [920, 922, 85, 921], []]
def zu_166 : List (List Nat) := [[], [], [], [1118], [920, 922, 85, 921], []]
def zu_167 : List (List Nat) := [[], [856], [], [], [], [], [], [], [], [838], [], [], [], [], [], [], [], [], [], []]
def zu_168 : List (List Nat) := [[], [856], [], [], [], [856], [], [], [], [], [], [856], [], [], [], [], [], [], [], [1057, 1060, 85, 1059, 48], [], [], [], [], [], [], [], [], [], [], []]
def zu_169 : List (List Nat) := [[], [], [], [], [], [], [836], [], [], [], [], [], [], [1053, 1056, 85, 1055, 47], [], [], [], [], [], [], [], [], [], [], [], []]
def zu_170 : List (List Nat) := [[], [], [], [], [], [], [], [], [], [], [], []]
def zu_171 : List (List Nat) := [[], [857], [], [], [], [857], [], [], [], [], [857], [], [], [], [857], [], [], [], [], [], [857], [], [], [], [857], [], [], [], [], [], [], [837], [], [], [1083, 1085, 85, 1084], [], [], [837], [], [], [1083, 1085, 85, 1084], [], [], [837], [], [], [], [], [], [837], [], [], [], [], [], [], [], [], []]
def zu_172 : List (List Nat) := [[], [], [], [], [], [], [], [], [], [], [], [], [], [], [], [], [], [], [], [], [], []]
def zu_173 : List (List Nat) := [[], [], [], [1057, 1060, 85, 1059, 48], [], [], [], [], [835], [], [856], [], [], [], [1076, 1078, 85, 1077], [], [], [], [], [], [836], [], [], [], [], [], [], [], [], [], [1053, 1056, 85, 1055, 47], [], [], [], [], [1079, 1082, 85, 1081, 52], [], [], [], [], [], [], [], [], [], [], [], [], [], [837], [], [], [], [], [], [], [], [], [], []]
def zu_174 : List (List Nat) := [[], [], [], [], [], [], [836], [], [], [], [], [], [], [1072, 1075, 85, 1074, 51], [], [], [], [], [], []]
def zu_175 : List (List Nat) := [[], [], [], [], [], [], [836], [], [], [], [], [], [1072, 1075, 85, 1074, 51], [], [], [], [], [], [], [], [], [], [], [], []]
def zu_176 : List (List Nat) := [[], [], [], [837], [], [], [], [], [833], [], [], [], [], [], [], [838], [], [], [], [], [839], [], [], [], [], [833], [], [], [], [], [], [], [833], [], [], [], [], []]
def zu_177 : List (List Nat) := [[], [], [1017, 1020, 85, 1019, 40], [], [], [], [], [919], [920, 922, 85, 921], [], [], [], [], [], [1021, 1024, 85, 1023, 41], [939, 942, 85, 941, 32], [], [], []]
def zu_178 : List (List Nat) := [[], [], [], [], [836], [], [], [833], [], [], [], [], [], [], [], [], [], [], [], []]
def zu_179 : List (List Nat) := [[], [], [1029, 1032, 85, 1031, 42], [], [], [], [], [], [920, 922, 85, 921], [], [], [], [], [], [835], [], [], [], [], [], [1033, 1036, 85, 1035, 43], [939, 942, 85, 941, 32], [], [], []]
def zu_180 : List (List Nat) := [[], [], [], [], [], [], [], [], [], [], [], [], [], [], [], [], [], [], []]
def zu_181 : List (List Nat) := [[], [837], [], [], [], [], [], [], [], [], [837], [], [], [], [], [], [], [], []]
def zu_182 : List (List Nat) := [[], [], [], [], [], [], [836], [], [], [], [], [], [], [1053, 1056, 85, 1055, 47], [], [], [837], [], [], [], [], [], [], [], [], [], [], [], [], [], [], [], [], [], []]
def zu_183 : List (List Nat) := [[], [], [], [], [], [], [836], [], [], [], [], [], [1041, 1044, 85, 1043, 44], [], [], [], [], [], [], [], [], [], []]
def zu_184 : List (List Nat) := [[], [], [1017, 1020, 85, 1019, 40], [], [], [], [], [919], [920, 922, 85, 921], [], [], [], [], [], [], [1041, 1044, 85, 1043, 44], [], [], [], [923, 926, 85, 925, 29], [], [], [1045, 1048, 85, 1047, 45], [], [], [], [], [], [1049, 1052, 85, 1051, 46], [1061, 1063, 85, 1062], [], [], [], [], [], [1064, 1067, 85, 1066, 49], [], [], [], [], [], [1064, 1067, 85, 1066, 49], [], [], [1068, 1071, 85, 1070, 50], [], [], [], [], [], [], [], [1072, 1075, 85, 1074, 51], [], [], []]
def zu_185 : List (List Nat) := [[], [], [], [], [], [], [833], [], [], [], [833], [], [], [], [], [], [], [], [833], [], [], [], [], [], [], [], [], [833], [], [], [], [], [], [], []]
def zu_186 : List (List Nat) := [[], [], [1017, 1020, 85, 1019, 40], [], [], [], [1029, 1032, 85, 1031, 42], [], [], [], [], [], [1033, 1036, 85, 1035, 43], [], [], [], [], [], [833], [], [], [], [], [], [], [], [1090, 1093, 85, 1092, 53], [], [833], [], [], [], [], [], [], []]
def zu_187 : List (List Nat) := [[], [], [1017, 1020, 85, 1019, 40], [], [], [], [], [833], [], [], [], [], [], [], [], [], [], [833], [], [], [], [], [], [], [], [1090, 1093, 85, 1092, 53], [], [833], [], [], [], [], [], [], [833], [], [], [], [], [], [], []]
def zu_188 : List (List Nat) := [[], [], [1017, 1020, 85, 1019, 40], [], [], [], [1017, 1020, 85, 1019, 40], [], [], [], [], [], [], [], []]
def zu_189 : List (List Nat) := [[], [], [], [1102, 1105, 85, 1104, 54], [], [], [], [], [833], [], [], [], [], [], [], [], [], [], [833], [], [], [], [], [], [], [], [], [], [833], [], [], [], [], [], [], [], [1090, 1093, 85, 1092, 53], [], [833], [], [], [], [], [833], [], [], [], [], [], [], [833], [], [], [], [], [], [], []]
def zu_190 : List (List Nat) := [[], [], [1017, 1020, 85, 1019, 40], [], [], [], [], [1110], [920, 922, 85, 921], [], [], [], [], [833], [], [], [], [], [], [], [], [], [], [], [], [833], [], [], [], [], [], [], [], [1090, 1093, 85, 1092, 53], [], [833], [], [], [], [], [], [], []]
def zu_191 : List (List Nat) := [[], [1090, 1093, 85, 1092, 53], [], [1045, 1048, 85, 1047, 45], [], [], [], [], [], [], [836], [], [], [833], [], [], [], [], [], [], [], [], [1072, 1075, 85, 1074, 51], [], [], [], [], [], [], [], [], [], [], [], [], [833], [], [], [], [], [], [], [], [], [833], [], [], [], [], [], [], [], [], []]
def zu_192 : List (List Nat) := [[], [1115, 1117, 85, 1116], [], [], [], [], [836], [], [], [], [], [833], [], [], [], [], [], [], [], [], [1119, 1122, 85, 1121, 55], []]
def zu_193 : List (List Nat) := [[], [], [], [], [833], [], [], [], [920, 922, 85, 921], [], [], [], [], [833], [], [], [], [], [], [], [], [], [], [], [], [], [], [833], [], [], [], [], [833], [], [], [], [], [], [], [], [], [], [], [], [], [833], [], [], [], [], []]
def zu_194 : List (List Nat) := [[], [], [], [], [], [], [833], [], [], [], [], [833], [], [], [], [], [], [], [], []]
def zu_195 : List (List Nat) := [[], [], [], [1118], [920, 922, 85, 921], [], [], [], [], [836], [], [], [], [], [], [], [], [], [], [], [1131, 1134, 85, 1133, 56], [], [833], [], [], []]
def zu_196 : List (List Nat) := [[], [], [], [1118], [920, 922, 85, 921], [], [], [], [], [833], [], [], [], [], [], [], [], [], [], [], [], [923, 926, 85, 925, 29], [], [], [], [], [], [], [], [], [1131, 1134, 85, 1133, 56], [], [833], [], [], []]
def zu_197 : List (List Nat) := [[], [], [1017, 1020, 85, 1019, 40], [], [], [1115, 1117, 85, 1116], [], [], [], [], [1045, 1048, 85, 1047, 45], [], [], [], [1049, 1052, 85, 1051, 46], []]
def zu_198 : List (List Nat) := [[], [], [1017, 1020, 85, 1019, 40], [], [], [1115, 1117, 85, 1116], [], [], [], [], [1045, 1048, 85, 1047, 45], [], [], [], [], [1072, 1075, 85, 1074, 51], []]
def zu_199 : List (List Nat) := [[], [], [], [], [], [], [836], [], [], [], [], [], [1057, 1060, 85, 1059, 48], [], [], [], [], [], [], [], [], [], []]
def zu_200 : List (List Nat) := [[], [1115, 1117, 85, 1116], [], [], [], [], [1045, 1048, 85, 1047, 45], [], [], [], [1151, 1154, 85, 1153, 57], [844], [], [], [1155, 1158, 85, 1157, 58], []]
def zu_201 : List (List Nat) := [[], [1115, 1117, 85, 1116], [], [], [], [], [1045, 1048, 85, 1047, 45], [], [], [], [], [], [], [], [], [836], [], [], [], [], [1057, 1060, 85, 1059, 48], [], [], [], [], [], [1072, 1075, 85, 1074, 51], [], [], [], [], [], [], [], [], [], [], [], [], [], [], [], [], [], [], [], [], [], [], [], [], [844], [], [], [844], [], []]
def zu_202 : List (List Nat) := [[], [], [1017, 1020, 85, 1019, 40], [], [], [1115, 1117, 85, 1116], [], [], [], [], [1045, 1048, 85, 1047, 45], [], [], [], [], [], [], [], [], [1072, 1075, 85, 1074, 51], [], [], [], [], [], [836], [], [], [], [], [1057, 1060, 85, 1059, 48], [], [], [], [], [], [1053, 1056, 85, 1055, 47], [], [], [], [], [], [], [1072, 1075, 85, 1074, 51], [], [], [], [], [], [], [], [], [], [], [], [], [], [], [], [], [], [], [], [], [], [], [], [], [], [844], [], [], [844], [], []]
def zu_203 : List (List Nat) := [[], [1045, 1048, 85, 1047, 45], [], [], [], [], [836], [], [], [856], [], [], [], [], [], []]
def zu_204 : List (List Nat) := [[], [], [], [], [], [], [836], [], [], [], [], [856], [], [], [], [], [], [], [], [], [], [], [], [], [], [834], [], [], [], [], [], [], [], [], [], [], [], [], [], [836], [], [], [], [], []]
def zu_205 : List (List Nat) := [[], [], [], [], [], [836], [], [], [], [], [], [], [856], [], [], [], [834], [], [], [], [], [856], [], [], [], [], [], [], [], [], [], [], [856], [], [], [], [], [], [], [], [1191, 1194, 85, 1193, 64], [], [], [], []]
def zu_206 : List (List Nat) := [[], [], [], [], [1155, 1158, 85, 1157, 58], [], [], [], [], [], [], [1183, 1186, 85, 1185, 62], [], [], [], [1155, 1158, 85, 1157, 58], [], [], [1155, 1158, 85, 1157, 58], [], []]
def zu_207 : List (List Nat) := [[], [836], [], [], [], [], [], [], [1175, 1178, 85, 1177, 60], [], [], [], [], [], [], [], [1179, 1182, 85, 1181, 61], [], [], [], [], [], [], [], [], [], [], [], [], [836], [927, 930, 85, 929, 30], [], [], [], [], [836], [], [], [841], [], [], [], [], [], [], [856], [], [], [], [], [], [], [1187, 1190, 85, 1189, 63], [], [], [], []]
def zu_208 : List (List Nat) := [[], [1115, 1117, 85, 1116], [], [], [916, 918, 85, 917], [], [], [], [], [], [1171, 1174, 85, 1173, 59], [], [], []]
def zu_209 : List (List Nat) := [[], [1115, 1117, 85, 1116], [], [], [916, 918, 85, 917], [], [], [], [], [], [1171, 1174, 85, 1173, 59], [], [], []]
def zu_210 : List (List Nat) := [[], [916, 918, 85, 917], [], [], [], [], [], [1171, 1174, 85, 1173, 59], [], [], []]
def zu_211 : List (List Nat) := [[], [], [], [], [], [], [836], [], [], [], [], [], [841], [], [], [], [], [], [], [1029, 1032, 85, 1031, 42], [], [], [], [], [], [], [856], [], [], [841], [], [], [], [], [], [], [], [], [], [], [], [], [1191, 1194, 85, 1193, 64], [], [], [], [], []]
def zu_212 : List (List Nat) := [[], [916, 918, 85, 917], [], [], [1115, 1117, 85, 1116], [], [], [], [], [836], [], [], [], [], [840], [], [], [], [], [], [923, 926, 85, 925, 29], [], [], [840], [], [], [], [836], [], [], [], [923, 926, 85, 925, 29], [], [], [1045, 1048, 85, 1047, 45], [], [], [1207, 1210, 85, 1209, 65], [], [], [], [1155, 1158, 85, 1157, 58], [], [], [], [923, 926, 85, 925, 29], []]
def zu_213 : List (List Nat) := [[], [856], [], [], [], [], [856], [], [], [856], [], [], [], [], [856], [], [], [], []]
def zu_214 : List (List Nat) := [[], [], [], [1102, 1105, 85, 1104, 54], [], [], [1115, 1117, 85, 1116], [], [], [], [], [1045, 1048, 85, 1047, 45], [], [], [1155, 1158, 85, 1157, 58], [], [], [], [], [1215, 1218, 85, 1217, 66], [], [], [], [], [], [1155, 1158, 85, 1157, 58], [], []]
def zu_215 : List (List Nat) := [[], [], [], [1057, 1060, 85, 1059, 48], [], [], [], [], [1057, 1060, 85, 1059, 48], [], [], [], [], [], [], [], [1072, 1075, 85, 1074, 51], [], [], [], [], [], [1072, 1075, 85, 1074, 51], [], [], [], [], [1215, 1218, 85, 1217, 66], [], [], [], [], [1072, 1075, 85, 1074, 51], [], [], [], [], [], [], [1072, 1075, 85, 1074, 51], [], [], [], [], [], [], [], [], [], [1215, 1218, 85, 1217, 66], [], []]
def zu_216 : List (List Nat) := [[], [1115, 1117, 85, 1116], [], [], [], [], [1045, 1048, 85, 1047, 45], [], [], [844], [], [], [], [], [836], [], [], [], [], [], [], [], [836], [], [], [], [844], [], [], [], [], [], [], [1223, 1226, 85, 1225, 67], [], [], [], [], [], [], [], [], [844], [844], [], [], [], [], [], [844], [], [], [], [], [], []]
def zu_217 : List (List Nat) := [[], [], [], [], [], [], [836], [], [], [], [], [], [], [], [], [839], [], [], [], [839], [], [], [], [], [], [], [], [1053, 1056, 85, 1055, 47], [], [], [], [], [], [], [], [], [], [], [], []]
def zu_218 : List (List Nat) := [[], [836], [], [], [], [], [1045, 1048, 85, 1047, 45], [], [1231, 1234, 85, 1233, 68], [], [], [], [844], [], [1175, 1178, 85, 1177, 60], [], [], [], [], [], [1231, 1234, 85, 1233, 68], [], [], [], [], [844], [], [], [], [], [844], [844], [], [1187, 1190, 85, 1189, 63], [], [], [], []]
def zu_219 : List (List Nat) := [[], [], [1017, 1020, 85, 1019, 40], [], [], [1115, 1117, 85, 1116], [], [], [], [], [1045, 1048, 85, 1047, 45], [], [], [], [], [], [], [], [], [857], [], [], [], [], [], [1155, 1158, 85, 1157, 58], [], [], [], [], [], [], [844], [], [], [], [], [], [], [], [], [], [], [], [], [], [], [], [], [], [844], [844], [], [], [], []]
def zu_220 : List (List Nat) := [[], [], [], [], [], [], [], [858], [], [], [], [858], [], [], [], [], [], [], [], [], [], [], [], [], [], [], [], [], [858], [], [], [], [858], [], [], [], [], [], [], [858], [], [], [], [], [858], [], [], [858], [], [], [], [], [858], [], [], [], [], [], [], [], [], [], [], [], [], [], [], [], [858], [], [], [], [], [858], [], [], [858], [], [], [], [], [858], [], [], [], [], [], [], [], []]
def zu_221 : List (List Nat) := [[], [], [], [], [], [], [], [], [], [], [], [], [], [], [], [], [], [858], [], [], [], [858], [], [], [], [1053, 1056, 85, 1055, 47], [], [], [], [837], [], [858], [], [], [], [1083, 1085, 85, 1084], [], [], [], [], [], [], [], [], [], [], []]
def zu_222 : List (List Nat) := [[], [1115, 1117, 85, 1116], [], [], [916, 918, 85, 917], [], [], [], [], [836], [], [], [], [], [1045, 1048, 85, 1047, 45], [], [], [], [], [], [], [836], [], [], [], [], [1057, 1060, 85, 1059, 48], [], [], [858], [], [], [], [], [], [], [], [], [], [], [], [], [], [], [], [1243, 1246, 85, 1245, 69], [], [], [], [], [], [], [], [], [], [], [], [], [927, 930, 85, 929, 30], [], [], [], [], [], [], [841], [], [], [], [], [], [], [858], [], [], [], [], [], [], [], [1247, 1250, 85, 1249, 70], [], [], [], []]
def zu_223 : List (List Nat) := [[], [], [], [], [], [], [840], [], [], [], [], [], [], [841], [], [], [], [], [], [], [1115, 1117, 85, 1116], [], [], [], [], [], [], [], [], []]
def zu_224 : List (List Nat) := [[], [], [], [], [], [], [840], [], [], [], [], [], [], [], [841], [], [], [], [], [], [], [1155, 1158, 85, 1157, 58], [], [841], [], [], [], [], [], [], [], [], [], [], [], [], [], [], [], [], []]
def zu_225 : List (List Nat) := [[], [916, 918, 85, 917], [], [], [], [], [836], [], [], [], [], [840], [], [], [], [], [], [923, 926, 85, 925, 29], [], [], [840], [], [], [], [], [], [], [], [923, 926, 85, 925, 29], [], [], [], [1255, 1258, 85, 1257, 71], [], [], [], [923, 926, 85, 925, 29], [], [], [], [], [], [], [1175, 1178, 85, 1177, 60], [], [], [], [], [], [], [1259, 1262, 85, 1261, 72], [], [], [], [], [], [856], [], [], [], [], [856], [], [], [], [], [], [], [], [1187, 1190, 85, 1189, 63], [], [], [], [], [844], [], [], [], [845], [], [], [846], [], []]
def zu_226 : List (List Nat) := [[], [1115, 1117, 85, 1116], [], [], [], [], [836], [], [], [], [], [], [], [], [], [1175, 1178, 85, 1177, 60], [], [], [], [], [], [], [], [1155, 1158, 85, 1157, 58], [], [], [], [], [], [], [], [], [1187, 1190, 85, 1189, 63], [], [], [], [], [], [], [], [], [], [], [], [], [], [], [], [], [], [], [], [], [], [], [], [845], [], [], [], [], [846], [], []]
def zu_227 : List (List Nat) := [[], [], [], [1271], [920, 922, 85, 921], [], [], [], [], [1272], [920, 922, 85, 921], [], [], [], [], [836], [], [], [], [], [833], [], [], [], [], [], [], [], [], [], [], [], [], [], [], [], [], [], [], [], [1273], [], [1274], [], [], [], [], [], [1275], [], [970], [], [], [1119, 1122, 85, 1121, 55], [], [], [], [], [], []]
def zu_228 : List (List Nat) := [[], [844], []]
def zu_229 : List (List Nat) := [[], [845], []]
def zu_230 : List (List Nat) := [[], [846], []]
def zu_231 : List (List Nat) := [[], [], [], [], [], [], [836], [], [], [], [833], [], [], [], [], [], [], [], [], [], [], [], [], [], [], []]
def zu_232 : List (List Nat) := [[], [], [], [], [], [], [836], [], [], [], [833], [], [], [], [], [], [], [], [], [], []]
def zu_233 : List (List Nat) := [[], [], [], [], [], [], [], [], [], [], [], [], [840], [], [], [], [], [], [], [], [], [], [], [], [], [], [], [842], [], [], [], [], [], [], [], [], [], [], [], [833], [], [], [], [], [], [], [], [], [], [], [], [], [], [], [], [], [], []]
def zu_234 : List (List Nat) := [[], [], [], [836], [], [], [834], [], [], [833], [], [], [], [], [1297, 1300, 85, 1299, 74], [], [], [1301, 1304, 85, 1303, 75], [], [], [1068, 1071, 85, 1070, 50], [], [], [], [1305, 1308, 85, 1307, 76], []]
def zu_235 : List (List Nat) := [[], [], [], [1292], [920, 922, 85, 921], [], [], [], [1293, 1296, 85, 1295, 73], [], [], []]
def zu_236 : List (List Nat) := [[], [847], []]
def zu_237 : List (List Nat) := [[], [], [], [919], [920, 922, 85, 921], [], [], [848], [], [], [], [], []]
def zu_238_0 : List (List Nat) := [[1321], [], [], [], [], [], [], [1322], [], [], [], [], [1293, 1296, 85, 1295, 73], [], [], [], [], [], [], [], [], [], [834], [], [1322], [], [], [], [835], [], [], [], [], [], [1322], [], [], [], [], [1033, 1036, 85, 1035, 43], [], [], [], [], [], [], [], []]
def zu_238_1 : List (List Nat) := [[], [], [836], [], [], [1322], [], [], [], [], [], [], [], [], [], [1021, 1024, 85, 1023, 41], [], [], [], [], [], [], [], [], [], [], [1322], [], [], [], [833], [], [], [], [], [], [], [], [], [], [], [], [], [], [], [], [], [1322]]
def zu_238_2 : List (List Nat) := [[], [], [], [840], [], [], [], [], [], [], [], [], [], [840], [], [], [], [1322], [], [], [], [841], [], [], [], [], [], [], [], [], [], [], [], [], [], [], [], [], [], [], [1322], [], [], [], [842], [], [], []]
def zu_238_3 : List (List Nat) := [[], [], [], [], [], [], [842], [], [], [], [1322], [], [], [], [843], [], [], [], [], [], [], [], [], [], [], [], [], [], [], []]
def zu_238 : List (List Nat) := zu_238_0 ++ (zu_238_1 ++ (zu_238_2 ++ (zu_238_3)))
def zu_239 : List (List Nat) := [[], [], [], [], [484], [], [], [], [], [485], [], [], [], [], [485], [], [], [], [], [], [], [], [], [486], [], [], [], [], [], [], [], [], [], [], [], [], [], [], [], [], [], []]
def zu_240 : List (List Nat) := [[], [], [], [], [], [], [], [], [], [], [], [], [], [], []]
def zus : List (List (List Nat)) := [zu_0, zu_1, zu_2, zu_3, zu_4, zu_5, zu_6, zu_7, zu_8, zu_9, zu_10, zu_11, zu_12, zu_13, zu_14, zu_15, zu_16, zu_17, zu_18, zu_19, zu_20, zu_21, zu_22, zu_23, zu_24, zu_25, zu_26, zu_27, zu_28, zu_29, zu_30, zu_31, zu_32, zu_33, zu_34, zu_35, zu_36, zu_37, zu_38, zu_39, zu_40, zu_41, zu_42, zu_43, zu_44, zu_45, zu_46, zu_47, zu_48, zu_49, zu_50, zu_51, zu_52, zu_53, zu_54, zu_55, zu_56, zu_57, zu_58, zu_59, zu_60, zu_61, zu_62, zu_63, zu_64, zu_65, zu_66, zu_67, zu_68, zu_69, zu_70, zu_71, zu_72, zu_73, zu_74, zu_75, zu_76, zu_77, zu_78, zu_79, zu_80, zu_81, zu_82, zu_83, zu_84, zu_85, zu_86, zu_87, zu_88, zu_89, zu_90, zu_91, zu_92, zu_93, zu_94, zu_95, zu_96, zu_97, zu_98, zu_99, zu_100, zu_101, zu_102, zu_103, zu_104, zu_105, zu_106, zu_107, zu_108, zu_109, zu_110, zu_111, zu_112, zu_113, zu_114, zu_115, zu_116, zu_117, zu_118, zu_119, zu_120, zu_121, zu_122, zu_123, zu_124, zu_125, zu_126, zu_127, zu_128, zu_129, zu_130, zu_131, zu_132, zu_133, zu_134, zu_135, zu_136, zu_137, zu_138, zu_139, zu_140, zu_141, zu_142, zu_143, zu_144, zu_145, zu_146, zu_147, zu_148, zu_149, zu_150, zu_151, zu_152, zu_153, zu_154, zu_155, zu_156, zu_157, zu_158, zu_159, zu_160, zu_161, zu_162, zu_163, zu_164, zu_165, zu_166, zu_167, zu_168, zu_169, zu_170, zu_171, zu_172, zu_173, zu_174, zu_175, zu_176, zu_177, zu_178, zu_179, zu_180, zu_181, zu_182, zu_183, zu_184, zu_185, zu_186, zu_187, zu_188, zu_189, zu_190, zu_191, zu_192, zu_193, zu_194, zu_195, zu_196, zu_197, zu_198, zu_199, zu_200, zu_201, zu_202, zu_203, zu_204, zu_205, zu_206, zu_207, zu_208, zu_209, zu_210, zu_211, zu_212, zu_213, zu_214, zu_215, zu_216, zu_217, zu_218, zu_219, zu_220, zu_221, zu_222, zu_223, zu_224, zu_225, zu_226, zu_227, zu_228, zu_229, zu_230, zu_231, zu_232, zu_233, zu_234, zu_235, zu_236, zu_237, zu_238, zu_239, zu_240]
end
section
/-! every method's code is checked -/
theorem zchk_app {mi : Nat} : ∀ {l1 l2 : List zI} {u1 u2 : List (List Nat)}, u1.length = l1.length → zchk mi true l1 u1 = true → zchk mi true l2 u2 = true → zchk mi true (l1 ++ l2) (u1 ++ u2) = true
  | [], _, [], _, _, _, h => h
  | [], _, _ :: _, _, hl, _, _ => by simp at hl
  | _ :: _, _, [], _, hl, _, _ => by simp at hl
  | e :: l, l2, u :: us, u2, hl, h1, h2 => by
    simp only [zchk, Bool.and_eq_true, List.cons_append, List.headD_cons, List.tail_cons] at h1 ⊢
    exact ⟨h1.1, zchk_app (by simpa using hl) h1.2 h2⟩
theorem zck_0_0 : zchk 0 true z_L_law_0 zu_0_0 = true := by decide +kernel
theorem zck_0_1 : zchk 0 true z_L_law_1 zu_0_1 = true := by decide +kernel
theorem zck_0_2 : zchk 0 true z_L_law_2 zu_0_2 = true := by decide +kernel
theorem zck_0_3 : zchk 0 true z_L_law_3 zu_0_3 = true := by decide +kernel
theorem zck_0_4 : zchk 0 true z_L_law_4 zu_0_4 = true := by decide +kernel
theorem zck_0_5 : zchk 0 true z_L_law_5 zu_0_5 = true := by decide +kernel
theorem zck_0_6 : zchk 0 true z_L_law_6 zu_0_6 = true := by decide +kernel
theorem zck_0_7 : zchk 0 true z_L_law_7 zu_0_7 = true := by decide +kernel
theorem zck_0_8 : zchk 0 true z_L_law_8 zu_0_8 = true := by decide +kernel
theorem zck_0_9 : zchk 0 true z_L_law_9 zu_0_9 = true := by decide +kernel
theorem zck_0_10 : zchk 0 true z_L_law_10 zu_0_10 = true := by decide +kernel
theorem zck_0_11 : zchk 0 true z_L_law_11 zu_0_11 = true := by decide +kernel
theorem zck_0_12 : zchk 0 true z_L_law_12 zu_0_12 = true := by decide +kernel
theorem zck_0_13 : zchk 0 true z_L_law_13 zu_0_13 = true := by decide +kernel
theorem zck_0_14 : zchk 0 true z_L_law_14 zu_0_14 = true := by decide +kernel
theorem zck_0_15 : zchk 0 true z_L_law_15 zu_0_15 = true := by decide +kernel
theorem zck_0_16 : zchk 0 true z_L_law_16 zu_0_16 = true := by decide +kernel
theorem zck_0_17 : zchk 0 true z_L_law_17 zu_0_17 = true := by decide +kernel
theorem zck_0_18 : zchk 0 true z_L_law_18 zu_0_18 = true := by decide +kernel
theorem zck_0_19 : zchk 0 true z_L_law_19 zu_0_19 = true := by decide +kernel
theorem zck_0_20 : zchk 0 true z_L_law_20 zu_0_20 = true := by decide +kernel
theorem zck_0_21 : zchk 0 true z_L_law_21 zu_0_21 = true := by decide +kernel
theorem zck_0 : zchk 0 true z_L_law zu_0 = true := zchk_app rfl zck_0_0 (zchk_app rfl zck_0_1 (zchk_app rfl zck_0_2 (zchk_app rfl zck_0_3 (zchk_app rfl zck_0_4 (zchk_app rfl zck_0_5 (zchk_app rfl zck_0_6 (zchk_app rfl zck_0_7 (zchk_app rfl zck_0_8 (zchk_app rfl zck_0_9 (zchk_app rfl zck_0_10 (zchk_app rfl zck_0_11 (zchk_app rfl zck_0_12 (zchk_app rfl zck_0_13 (zchk_app rfl zck_0_14 (zchk_app rfl zck_0_15 (zchk_app rfl zck_0_16 (zchk_app rfl zck_0_17 (zchk_app rfl zck_0_18 (zchk_app rfl zck_0_19 (zchk_app rfl zck_0_20 (zck_0_21)))))))))))))))))))))
theorem zck_1 : zchk 1 true z_X0_init zu_1 = true := by decide +kernel
theorem zck_2 : zchk 2 true z_X0_begin zu_2 = true := by decide +kernel
theorem zck_3 : zchk 3 true z_X0_copyFrom zu_3 = true := by decide +kernel
theorem zck_4 : zchk 4 true z_X0_manDetail zu_4 = true := by decide +kernel
theorem zck_5 : zchk 5 true z_X0_hookDetail zu_5 = true := by decide +kernel
theorem zck_6 : zchk 6 true z_X0_tiredTogether zu_6 = true := by decide +kernel
theorem zck_7 : zchk 7 true z_X0_writeTo zu_7 = true := by decide +kernel
theorem zck_8 : zchk 8 true z_X0_readFrom zu_8 = true := by decide +kernel
theorem zck_9 : zchk 9 true z_X0_isFree zu_9 = true := by decide +kernel
theorem zck_10 : zchk 10 true z_X0_hangs zu_10 = true := by decide +kernel
theorem zck_11 : zchk 11 true z_X0_move zu_11 = true := by decide +kernel
theorem zck_12 : zchk 12 true z_X0_swap zu_12 = true := by decide +kernel
theorem zck_13 : zchk 13 true z_X0_takeAllDown zu_13 = true := by decide +kernel
theorem zck_14 : zchk 14 true z_X0_hangBy zu_14 = true := by decide +kernel
theorem zck_15 : zchk 15 true z_X0_hangByFirstPlan zu_15 = true := by decide +kernel
theorem zck_16 : zchk 16 true z_X0_hangByNextPlan zu_16 = true := by decide +kernel
theorem zck_17 : zchk 17 true z_X0_moveOn zu_17 = true := by decide +kernel
theorem zck_18 : zchk 18 true z_X0_messmatePairs zu_18 = true := by decide +kernel
theorem zck_19 : zchk 19 true z_X0_isIn zu_19 = true := by decide +kernel
theorem zck_20 : zchk 20 true z_X0_howManyIn zu_20 = true := by decide +kernel
theorem zck_21 : zchk 21 true z_X0_bitOfWhoIsInAt zu_21 = true := by decide +kernel
theorem zck_22 : zchk 22 true z_X0_neighbourBits zu_22 = true := by decide +kernel
theorem zck_23 : zchk 23 true z_X0_wakings zu_23 = true := by decide +kernel
theorem zck_24 : zchk 24 true z_X0_wakingsFrom zu_24 = true := by decide +kernel
theorem zck_25 : zchk 25 true z_X0_allWakings zu_25 = true := by decide +kernel
theorem zck_26 : zchk 26 true z_X0_mostWakings zu_26 = true := by decide +kernel
theorem zck_27 : zchk 27 true z_X0_tire zu_27 = true := by decide +kernel
theorem zck_28 : zchk 28 true z_X0_inTheWayOf zu_28 = true := by decide +kernel
theorem zck_29 : zchk 29 true z_X0_firstToGetUp zu_29 = true := by decide +kernel
theorem zck_30 : zchk 30 true z_X0_hasBulkierNeighbour zu_30 = true := by decide +kernel
theorem zck_31 : zchk 31 true z_X1_init zu_31 = true := by decide +kernel
theorem zck_32 : zchk 32 true z_X1_hasHook zu_32 = true := by decide +kernel
theorem zck_33 : zchk 33 true z_X1_hasMan zu_33 = true := by decide +kernel
theorem zck_34 : zchk 34 true z_X1_addHook zu_34 = true := by decide +kernel
theorem zck_35 : zchk 35 true z_X1_addMan zu_35 = true := by decide +kernel
theorem zck_36 : zchk 36 true z_X1_mostMen zu_36 = true := by decide +kernel
theorem zck_37 : zchk 37 true z_X1_planCount zu_37 = true := by decide +kernel
theorem zck_38 : zchk 38 true z_X1_isOf zu_38 = true := by decide +kernel
theorem zck_39 : zchk 39 true z_X1_bitsOf zu_39 = true := by decide +kernel
theorem zck_40 : zchk 40 true z_X1_bulk zu_40 = true := by decide +kernel
theorem zck_41 : zchk 41 true z_X1_placeWakes zu_41 = true := by decide +kernel
theorem zck_42 : zchk 42 true z_X2_init zu_42 = true := by decide +kernel
theorem zck_43 : zchk 43 true z_X2_isMissing zu_43 = true := by decide +kernel
theorem zck_44 : zchk 44 true z_X2_hasRoomFor zu_44 = true := by decide +kernel
theorem zck_45 : zchk 45 true z_X2_begin zu_45 = true := by decide +kernel
theorem zck_46 : zchk 46 true z_X2_add zu_46 = true := by decide +kernel
theorem zck_47 : zchk 47 true z_X2_discard zu_47 = true := by decide +kernel
theorem zck_48 : zchk 48 true z_X2_copyFrom zu_48 = true := by decide +kernel
theorem zck_49 : zchk 49 true z_X2_goBackTo zu_49 = true := by decide +kernel
theorem zck_50 : zchk 50 true z_X3_init zu_50 = true := by decide +kernel
theorem zck_51 : zchk 51 true z_X3_read zu_51 = true := by decide +kernel
theorem zck_52 : zchk 52 true z_X3_skipBlanks zu_52 = true := by decide +kernel
theorem zck_53 : zchk 53 true z_X3_readHooks zu_53 = true := by decide +kernel
theorem zck_54 : zchk 54 true z_X3_readMan zu_54 = true := by decide +kernel
theorem zck_55 : zchk 55 true z_X3_letterIn zu_55 = true := by decide +kernel
theorem zck_56 : zchk 56 true z_X3_readFigure zu_56 = true := by decide +kernel
theorem zck_57 : zchk 57 true z_X4_init zu_57 = true := by decide +kernel
theorem zck_58 : zchk 58 true z_X4_isMissing zu_58 = true := by decide +kernel
theorem zck_59 : zchk 59 true z_X4_has zu_59 = true := by decide +kernel
theorem zck_60 : zchk 60 true z_X4_spans zu_60 = true := by decide +kernel
theorem zck_61 : zchk 61 true z_X4_get zu_61 = true := by decide +kernel
theorem zck_62 : zchk 62 true z_X4_set zu_62 = true := by decide +kernel
theorem zck_63 : zchk 63 true z_X4_renew zu_63 = true := by decide +kernel
theorem zck_64 : zchk 64 true z_X4_discard zu_64 = true := by decide +kernel
theorem zck_65 : zchk 65 true z_X4_copyTo zu_65 = true := by decide +kernel
theorem zck_66 : zchk 66 true z_X4_sum zu_66 = true := by decide +kernel
theorem zck_67 : zchk 67 true z_X4_digestedOnto zu_67 = true := by decide +kernel
theorem zck_68 : zchk 68 true z_X5_init zu_68 = true := by decide +kernel
theorem zck_69 : zchk 69 true z_X5_row zu_69 = true := by decide +kernel
theorem zck_70 : zchk 70 true z_X5_lay zu_70 = true := by decide +kernel
theorem zck_71 : zchk 71 true z_X5_at zu_71 = true := by decide +kernel
theorem zck_72 : zchk 72 true z_X5_tear zu_72 = true := by decide +kernel
theorem zck_73 : zchk 73 true z_X5_copy zu_73 = true := by decide +kernel
theorem zck_74 : zchk 74 true z_X5_mean zu_74 = true := by decide +kernel
theorem zck_75 : zchk 75 true z_X5_text zu_75 = true := by decide +kernel
theorem zck_76 : zchk 76 true z_X5_put zu_76 = true := by decide +kernel
theorem zck_77 : zchk 77 true z_X5_fault zu_77 = true := by decide +kernel
theorem zck_78 : zchk 78 true z_X5_deck zu_78 = true := by decide +kernel
theorem zck_79 : zchk 79 true z_X5_man zu_79 = true := by decide +kernel
theorem zck_80 : zchk 80 true z_X5_hook zu_80 = true := by decide +kernel
theorem zck_81 : zchk 81 true z_X5_mark zu_81 = true := by decide +kernel
theorem zck_82 : zchk 82 true z_X5_hang zu_82 = true := by decide +kernel
theorem zck_83 : zchk 83 true z_X5_down zu_83 = true := by decide +kernel
theorem zck_84 : zchk 84 true z_X5_change zu_84 = true := by decide +kernel
theorem zck_85 : zchk 85 true z_X5_line zu_85 = true := by decide +kernel
theorem zck_86 : zchk 86 true z_X5_night zu_86 = true := by decide +kernel
theorem zck_87 : zchk 87 true z_X5_undo zu_87 = true := by decide +kernel
theorem zck_88 : zchk 88 true z_X5_keep zu_88 = true := by decide +kernel
theorem zck_89 : zchk 89 true z_X5_on zu_89 = true := by decide +kernel
theorem zck_90 : zchk 90 true z_X5_neighbours zu_90 = true := by decide +kernel
theorem zck_91 : zchk 91 true z_X5_woken zu_91 = true := by decide +kernel
theorem zck_92 : zchk 92 true z_X5_all zu_92 = true := by decide +kernel
theorem zck_93 : zchk 93 true z_X5_worst zu_93 = true := by decide +kernel
theorem zck_94 : zchk 94 true z_X5_by zu_94 = true := by decide +kernel
theorem zck_95 : zchk 95 true z_X5_best zu_95 = true := by decide +kernel
theorem zck_96 : zchk 96 true z_X5_fair zu_96 = true := by decide +kernel
theorem zck_97 : zchk 97 true z_X5_mixed zu_97 = true := by decide +kernel
theorem zck_98 : zchk 98 true z_X5_judge zu_98 = true := by decide +kernel
theorem zck_99 : zchk 99 true z_X5_gain zu_99 = true := by decide +kernel
theorem zck_100 : zchk 100 true z_X5_calm zu_100 = true := by decide +kernel
theorem zck_101 : zchk 101 true z_X5_mates zu_101 = true := by decide +kernel
theorem zck_102 : zchk 102 true z_X5_cut zu_102 = true := by decide +kernel
theorem zck_103 : zchk 103 true z_X5_up zu_103 = true := by decide +kernel
theorem zck_104 : zchk 104 true z_X5_fits zu_104 = true := by decide +kernel
theorem zck_105 : zchk 105 true z_X5_mid zu_105 = true := by decide +kernel
theorem zck_106 : zchk 106 true z_X5_lots zu_106 = true := by decide +kernel
theorem zck_107 : zchk 107 true z_X5_asked zu_107 = true := by decide +kernel
theorem zck_108 : zchk 108 true z_X5_upper zu_108 = true := by decide +kernel
theorem zck_109 : zchk 109 true z_X5_lower zu_109 = true := by decide +kernel
theorem zck_110 : zchk 110 true z_X5_count zu_110 = true := by decide +kernel
theorem zck_111 : zchk 111 true z_X5_finding zu_111 = true := by decide +kernel
theorem zck_112 : zchk 112 true z_X5_findings zu_112 = true := by decide +kernel
theorem zck_113 : zchk 113 true z_X5_digest zu_113 = true := by decide +kernel
theorem zck_114 : zchk 114 true z_X5_rowAt zu_114 = true := by decide +kernel
theorem zck_115 : zchk 115 true z_X5_textAt zu_115 = true := by decide +kernel
theorem zck_116 : zchk 116 true z_X5_isWhen zu_116 = true := by decide +kernel
theorem zck_117 : zchk 117 true z_X5_isKeptPlace zu_117 = true := by decide +kernel
theorem zck_118 : zchk 118 true z_X5_found zu_118 = true := by decide +kernel
theorem zck_119 : zchk 119 true z_X5_tell zu_119 = true := by decide +kernel
theorem zck_120 : zchk 120 true z_X5_tellMean zu_120 = true := by decide +kernel
theorem zck_121 : zchk 121 true z_X5_commonDivisor zu_121 = true := by decide +kernel
theorem zck_122 : zchk 122 true z_X5_renewed zu_122 = true := by decide +kernel
theorem zck_123 : zchk 123 true z_X5_sleptThrough zu_123 = true := by decide +kernel
theorem zck_124 : zchk 124 true z_X5_wakingsWithout zu_124 = true := by decide +kernel
theorem zck_125 : zchk 125 true z_X5_beginPlans zu_125 = true := by decide +kernel
theorem zck_126 : zchk 126 true z_X5_leastPlan zu_126 = true := by decide +kernel
theorem zck_127 : zchk 127 true z_X5_weighed zu_127 = true := by decide +kernel
theorem zck_128 : zchk 128 true z_X5_firstGladPair zu_128 = true := by decide +kernel
theorem zck_129 : zchk 129 true z_X5_wouldBothGladlyChange zu_129 = true := by decide +kernel
theorem zck_130 : zchk 130 true z_X5_countFitting zu_130 = true := by decide +kernel
theorem zck_131 : zchk 131 true z_X5_fitsBook zu_131 = true := by decide +kernel
theorem zck_132 : zchk 132 true z_X5_fitsBookBy zu_132 = true := by decide +kernel
theorem zck_133 : zchk 133 true z_X5_counted zu_133 = true := by decide +kernel
theorem zck_134 : zchk 134 true z_X5_howManyThere zu_134 = true := by decide +kernel
theorem zck_135 : zchk 135 true z_X5_howManyKept zu_135 = true := by decide +kernel
theorem zck_136 : zchk 136 true z_X6_init zu_136 = true := by decide +kernel
theorem zck_137 : zchk 137 true z_X6_in zu_137 = true := by decide +kernel
theorem zck_138 : zchk 138 true z_X6_find zu_138 = true := by decide +kernel
theorem zck_139 : zchk 139 true z_X6_tell zu_139 = true := by decide +kernel
theorem zck_140 : zchk 140 true z_X6_isRow zu_140 = true := by decide +kernel
theorem zck_141 : zchk 141 true z_X6_isText zu_141 = true := by decide +kernel
theorem zck_142 : zchk 142 true z_X6_row zu_142 = true := by decide +kernel
theorem zck_143 : zchk 143 true z_X6_makeRow zu_143 = true := by decide +kernel
theorem zck_144 : zchk 144 true z_X6_refused zu_144 = true := by decide +kernel
theorem zck_145 : zchk 145 true z_X6_lay zu_145 = true := by decide +kernel
theorem zck_146 : zchk 146 true z_X6_at zu_146 = true := by decide +kernel
theorem zck_147 : zchk 147 true z_X6_tear zu_147 = true := by decide +kernel
theorem zck_148 : zchk 148 true z_X6_isSpan zu_148 = true := by decide +kernel
theorem zck_149 : zchk 149 true z_X6_copy zu_149 = true := by decide +kernel
theorem zck_150 : zchk 150 true z_X6_mean zu_150 = true := by decide +kernel
theorem zck_151 : zchk 151 true z_X6_text zu_151 = true := by decide +kernel
theorem zck_152 : zchk 152 true z_X6_put zu_152 = true := by decide +kernel
theorem zck_153 : zchk 153 true z_X6_here zu_153 = true := by decide +kernel
theorem zck_154 : zchk 154 true z_X6_skip zu_154 = true := by decide +kernel
theorem zck_155 : zchk 155 true z_X6_figure zu_155 = true := by decide +kernel
theorem zck_156 : zchk 156 true z_X6_placeOfLetter zu_156 = true := by decide +kernel
theorem zck_157 : zchk 157 true z_X6_kindOfLetter zu_157 = true := by decide +kernel
theorem zck_158 : zchk 158 true z_X6_readsHooks zu_158 = true := by decide +kernel
theorem zck_159 : zchk 159 true z_X6_readsMan zu_159 = true := by decide +kernel
theorem zck_160 : zchk 160 true z_X6_faultOf zu_160 = true := by decide +kernel
theorem zck_161 : zchk 161 true z_X6_fault zu_161 = true := by decide +kernel
theorem zck_162_0 : zchk 162 true z_X6_deck_0 zu_162_0 = true := by decide +kernel
theorem zck_162_1 : zchk 162 true z_X6_deck_1 zu_162_1 = true := by decide +kernel
theorem zck_162_2 : zchk 162 true z_X6_deck_2 zu_162_2 = true := by decide +kernel
theorem zck_162_3 : zchk 162 true z_X6_deck_3 zu_162_3 = true := by decide +kernel
theorem zck_162 : zchk 162 true z_X6_deck zu_162 = true := zchk_app rfl zck_162_0 (zchk_app rfl zck_162_1 (zchk_app rfl zck_162_2 (zck_162_3)))
theorem zck_163 : zchk 163 true z_X6_layNow zu_163 = true := by decide +kernel
theorem zck_164 : zchk 164 true z_X6_isMan zu_164 = true := by decide +kernel
theorem zck_165 : zchk 165 true z_X6_isHook zu_165 = true := by decide +kernel
theorem zck_166 : zchk 166 true z_X6_isWhen zu_166 = true := by decide +kernel
theorem zck_167 : zchk 167 true z_X6_isIn zu_167 = true := by decide +kernel
theorem zck_168 : zchk 168 true z_X6_isBeside zu_168 = true := by decide +kernel
theorem zck_169 : zchk 169 true z_X6_beside zu_169 = true := by decide +kernel
theorem zck_170 : zchk 170 true z_X6_height zu_170 = true := by decide +kernel
theorem zck_171 : zchk 171 true z_X6_wakes zu_171 = true := by decide +kernel
theorem zck_172 : zchk 172 true z_X6_placeWorth zu_172 = true := by decide +kernel
theorem zck_173 : zchk 173 true z_X6_wokenBut zu_173 = true := by decide +kernel
theorem zck_174 : zchk 174 true z_X6_allWoken zu_174 = true := by decide +kernel
theorem zck_175 : zchk 175 true z_X6_mostWoken zu_175 = true := by decide +kernel
theorem zck_176 : zchk 176 true z_X6_toldOf zu_176 = true := by decide +kernel
theorem zck_177 : zchk 177 true z_X6_man zu_177 = true := by decide +kernel
theorem zck_178 : zchk 178 true z_X6_whoAt zu_178 = true := by decide +kernel
theorem zck_179 : zchk 179 true z_X6_hook zu_179 = true := by decide +kernel
theorem zck_180 : zchk 180 true z_X6_bits zu_180 = true := by decide +kernel
theorem zck_181 : zchk 181 true z_X6_isOf zu_181 = true := by decide +kernel
theorem zck_182 : zchk 182 true z_X6_besideOf zu_182 = true := by decide +kernel
theorem zck_183 : zchk 183 true z_X6_tallMany zu_183 = true := by decide +kernel
theorem zck_184 : zchk 184 true z_X6_mark zu_184 = true := by decide +kernel
theorem zck_185 : zchk 185 true z_X6_keepPast zu_185 = true := by decide +kernel
theorem zck_186 : zchk 186 true z_X6_hang zu_186 = true := by decide +kernel
theorem zck_187 : zchk 187 true z_X6_down zu_187 = true := by decide +kernel
theorem zck_188 : zchk 188 true z_X6_areTwo zu_188 = true := by decide +kernel
theorem zck_189 : zchk 189 true z_X6_change zu_189 = true := by decide +kernel
theorem zck_190 : zchk 190 true z_X6_line zu_190 = true := by decide +kernel
theorem zck_191 : zchk 191 true z_X6_pass zu_191 = true := by decide +kernel
theorem zck_192 : zchk 192 true z_X6_night zu_192 = true := by decide +kernel
theorem zck_193 : zchk 193 true z_X6_undo zu_193 = true := by decide +kernel
theorem zck_194 : zchk 194 true z_X6_copyDeck zu_194 = true := by decide +kernel
theorem zck_195 : zchk 195 true z_X6_keep zu_195 = true := by decide +kernel
theorem zck_196 : zchk 196 true z_X6_on zu_196 = true := by decide +kernel
theorem zck_197 : zchk 197 true z_X6_neighbours zu_197 = true := by decide +kernel
theorem zck_198 : zchk 198 true z_X6_woken zu_198 = true := by decide +kernel
theorem zck_199 : zchk 199 true z_X6_inMany zu_199 = true := by decide +kernel
theorem zck_200 : zchk 200 true z_X6_all zu_200 = true := by decide +kernel
theorem zck_201 : zchk 201 true z_X6_worst zu_201 = true := by decide +kernel
theorem zck_202 : zchk 202 true z_X6_by zu_202 = true := by decide +kernel
theorem zck_203 : zchk 203 true z_X6_firstPlan zu_203 = true := by decide +kernel
theorem zck_204 : zchk 204 true z_X6_areUnlike zu_204 = true := by decide +kernel
theorem zck_205 : zchk 205 true z_X6_nextPlan zu_205 = true := by decide +kernel
theorem zck_206 : zchk 206 true z_X6_valueOf zu_206 = true := by decide +kernel
theorem zck_207 : zchk 207 true z_X6_toBest zu_207 = true := by decide +kernel
theorem zck_208 : zchk 208 true z_X6_best zu_208 = true := by decide +kernel
theorem zck_209 : zchk 209 true z_X6_fair zu_209 = true := by decide +kernel
theorem zck_210 : zchk 210 true z_X6_mixed zu_210 = true := by decide +kernel
theorem zck_211 : zchk 211 true z_X6_isPlan zu_211 = true := by decide +kernel
theorem zck_212 : zchk 212 true z_X6_judge zu_212 = true := by decide +kernel
theorem zck_213 : zchk 213 true z_X6_swap zu_213 = true := by decide +kernel
theorem zck_214 : zchk 214 true z_X6_gain zu_214 = true := by decide +kernel
theorem zck_215 : zchk 215 true z_X6_wouldChange zu_215 = true := by decide +kernel
theorem zck_216 : zchk 216 true z_X6_calm zu_216 = true := by decide +kernel
theorem zck_217 : zchk 217 true z_X6_matesTried zu_217 = true := by decide +kernel
theorem zck_218 : zchk 218 true z_X6_mates zu_218 = true := by decide +kernel
theorem zck_219 : zchk 219 true z_X6_cut zu_219 = true := by decide +kernel
theorem zck_220 : zchk 220 true z_X6_nextOrder zu_220 = true := by decide +kernel
theorem zck_221 : zchk 221 true z_X6_inTheWay zu_221 = true := by decide +kernel
theorem zck_222 : zchk 222 true z_X6_up zu_222 = true := by decide +kernel
theorem zck_223 : zchk 223 true z_X6_areWhens zu_223 = true := by decide +kernel
theorem zck_224 : zchk 224 true z_X6_isSo zu_224 = true := by decide +kernel
theorem zck_225 : zchk 225 true z_X6_fits zu_225 = true := by decide +kernel
theorem zck_226 : zchk 226 true z_X6_mid zu_226 = true := by decide +kernel
theorem zck_227 : zchk 227 true z_X6_lots zu_227 = true := by decide +kernel
theorem zck_228 : zchk 228 true z_X6_asked zu_228 = true := by decide +kernel
theorem zck_229 : zchk 229 true z_X6_upper zu_229 = true := by decide +kernel
theorem zck_230 : zchk 230 true z_X6_lower zu_230 = true := by decide +kernel
theorem zck_231 : zchk 231 true z_X6_hungMany zu_231 = true := by decide +kernel
theorem zck_232 : zchk 232 true z_X6_tiredAll zu_232 = true := by decide +kernel
theorem zck_233 : zchk 233 true z_X6_thereOf zu_233 = true := by decide +kernel
theorem zck_234 : zchk 234 true z_X6_countOf zu_234 = true := by decide +kernel
theorem zck_235 : zchk 235 true z_X6_count zu_235 = true := by decide +kernel
theorem zck_236 : zchk 236 true z_X6_finding zu_236 = true := by decide +kernel
theorem zck_237 : zchk 237 true z_X6_findings zu_237 = true := by decide +kernel
theorem zck_238_0 : zchk 238 true z_X6_digest_0 zu_238_0 = true := by decide +kernel
theorem zck_238_1 : zchk 238 true z_X6_digest_1 zu_238_1 = true := by decide +kernel
theorem zck_238_2 : zchk 238 true z_X6_digest_2 zu_238_2 = true := by decide +kernel
theorem zck_238_3 : zchk 238 true z_X6_digest_3 zu_238_3 = true := by decide +kernel
theorem zck_238 : zchk 238 true z_X6_digest zu_238 = true := zchk_app rfl zck_238_0 (zchk_app rfl zck_238_1 (zchk_app rfl zck_238_2 (zck_238_3)))
theorem zck_239 : zchk 239 true z_J6_bitCount_0f7a4 zu_239 = true := by decide +kernel
theorem zck_240 : zchk 240 true z_J7_fill_53178 zu_240 = true := by decide +kernel
end
section
theorem zck (mi : Nat) : zchk mi true (zcd mi) (zus.getD mi []) = true := by
  match mi with
  | 0 => exact zck_0
  | 1 => exact zck_1
  | 2 => exact zck_2
  | 3 => exact zck_3
  | 4 => exact zck_4
  | 5 => exact zck_5
  | 6 => exact zck_6
  | 7 => exact zck_7
  | 8 => exact zck_8
  | 9 => exact zck_9
  | 10 => exact zck_10
  | 11 => exact zck_11
  | 12 => exact zck_12
  | 13 => exact zck_13
  | 14 => exact zck_14
  | 15 => exact zck_15
  | 16 => exact zck_16
  | 17 => exact zck_17
  | 18 => exact zck_18
  | 19 => exact zck_19
  | 20 => exact zck_20
  | 21 => exact zck_21
  | 22 => exact zck_22
  | 23 => exact zck_23
  | 24 => exact zck_24
  | 25 => exact zck_25
  | 26 => exact zck_26
  | 27 => exact zck_27
  | 28 => exact zck_28
  | 29 => exact zck_29
  | 30 => exact zck_30
  | 31 => exact zck_31
  | 32 => exact zck_32
  | 33 => exact zck_33
  | 34 => exact zck_34
  | 35 => exact zck_35
  | 36 => exact zck_36
  | 37 => exact zck_37
  | 38 => exact zck_38
  | 39 => exact zck_39
  | 40 => exact zck_40
  | 41 => exact zck_41
  | 42 => exact zck_42
  | 43 => exact zck_43
  | 44 => exact zck_44
  | 45 => exact zck_45
  | 46 => exact zck_46
  | 47 => exact zck_47
  | 48 => exact zck_48
  | 49 => exact zck_49
  | 50 => exact zck_50
  | 51 => exact zck_51
  | 52 => exact zck_52
  | 53 => exact zck_53
  | 54 => exact zck_54
  | 55 => exact zck_55
  | 56 => exact zck_56
  | 57 => exact zck_57
  | 58 => exact zck_58
  | 59 => exact zck_59
  | 60 => exact zck_60
  | 61 => exact zck_61
  | 62 => exact zck_62
  | 63 => exact zck_63
  | 64 => exact zck_64
  | 65 => exact zck_65
  | 66 => exact zck_66
  | 67 => exact zck_67
  | 68 => exact zck_68
  | 69 => exact zck_69
  | 70 => exact zck_70
  | 71 => exact zck_71
  | 72 => exact zck_72
  | 73 => exact zck_73
  | 74 => exact zck_74
  | 75 => exact zck_75
  | 76 => exact zck_76
  | 77 => exact zck_77
  | 78 => exact zck_78
  | 79 => exact zck_79
  | 80 => exact zck_80
  | 81 => exact zck_81
  | 82 => exact zck_82
  | 83 => exact zck_83
  | 84 => exact zck_84
  | 85 => exact zck_85
  | 86 => exact zck_86
  | 87 => exact zck_87
  | 88 => exact zck_88
  | 89 => exact zck_89
  | 90 => exact zck_90
  | 91 => exact zck_91
  | 92 => exact zck_92
  | 93 => exact zck_93
  | 94 => exact zck_94
  | 95 => exact zck_95
  | 96 => exact zck_96
  | 97 => exact zck_97
  | 98 => exact zck_98
  | 99 => exact zck_99
  | 100 => exact zck_100
  | 101 => exact zck_101
  | 102 => exact zck_102
  | 103 => exact zck_103
  | 104 => exact zck_104
  | 105 => exact zck_105
  | 106 => exact zck_106
  | 107 => exact zck_107
  | 108 => exact zck_108
  | 109 => exact zck_109
  | 110 => exact zck_110
  | 111 => exact zck_111
  | 112 => exact zck_112
  | 113 => exact zck_113
  | 114 => exact zck_114
  | 115 => exact zck_115
  | 116 => exact zck_116
  | 117 => exact zck_117
  | 118 => exact zck_118
  | 119 => exact zck_119
  | 120 => exact zck_120
  | 121 => exact zck_121
  | 122 => exact zck_122
  | 123 => exact zck_123
  | 124 => exact zck_124
  | 125 => exact zck_125
  | 126 => exact zck_126
  | 127 => exact zck_127
  | 128 => exact zck_128
  | 129 => exact zck_129
  | 130 => exact zck_130
  | 131 => exact zck_131
  | 132 => exact zck_132
  | 133 => exact zck_133
  | 134 => exact zck_134
  | 135 => exact zck_135
  | 136 => exact zck_136
  | 137 => exact zck_137
  | 138 => exact zck_138
  | 139 => exact zck_139
  | 140 => exact zck_140
  | 141 => exact zck_141
  | 142 => exact zck_142
  | 143 => exact zck_143
  | 144 => exact zck_144
  | 145 => exact zck_145
  | 146 => exact zck_146
  | 147 => exact zck_147
  | 148 => exact zck_148
  | 149 => exact zck_149
  | 150 => exact zck_150
  | 151 => exact zck_151
  | 152 => exact zck_152
  | 153 => exact zck_153
  | 154 => exact zck_154
  | 155 => exact zck_155
  | 156 => exact zck_156
  | 157 => exact zck_157
  | 158 => exact zck_158
  | 159 => exact zck_159
  | 160 => exact zck_160
  | 161 => exact zck_161
  | 162 => exact zck_162
  | 163 => exact zck_163
  | 164 => exact zck_164
  | 165 => exact zck_165
  | 166 => exact zck_166
  | 167 => exact zck_167
  | 168 => exact zck_168
  | 169 => exact zck_169
  | 170 => exact zck_170
  | 171 => exact zck_171
  | 172 => exact zck_172
  | 173 => exact zck_173
  | 174 => exact zck_174
  | 175 => exact zck_175
  | 176 => exact zck_176
  | 177 => exact zck_177
  | 178 => exact zck_178
  | 179 => exact zck_179
  | 180 => exact zck_180
  | 181 => exact zck_181
  | 182 => exact zck_182
  | 183 => exact zck_183
  | 184 => exact zck_184
  | 185 => exact zck_185
  | 186 => exact zck_186
  | 187 => exact zck_187
  | 188 => exact zck_188
  | 189 => exact zck_189
  | 190 => exact zck_190
  | 191 => exact zck_191
  | 192 => exact zck_192
  | 193 => exact zck_193
  | 194 => exact zck_194
  | 195 => exact zck_195
  | 196 => exact zck_196
  | 197 => exact zck_197
  | 198 => exact zck_198
  | 199 => exact zck_199
  | 200 => exact zck_200
  | 201 => exact zck_201
  | 202 => exact zck_202
  | 203 => exact zck_203
  | 204 => exact zck_204
  | 205 => exact zck_205
  | 206 => exact zck_206
  | 207 => exact zck_207
  | 208 => exact zck_208
  | 209 => exact zck_209
  | 210 => exact zck_210
  | 211 => exact zck_211
  | 212 => exact zck_212
  | 213 => exact zck_213
  | 214 => exact zck_214
  | 215 => exact zck_215
  | 216 => exact zck_216
  | 217 => exact zck_217
  | 218 => exact zck_218
  | 219 => exact zck_219
  | 220 => exact zck_220
  | 221 => exact zck_221
  | 222 => exact zck_222
  | 223 => exact zck_223
  | 224 => exact zck_224
  | 225 => exact zck_225
  | 226 => exact zck_226
  | 227 => exact zck_227
  | 228 => exact zck_228
  | 229 => exact zck_229
  | 230 => exact zck_230
  | 231 => exact zck_231
  | 232 => exact zck_232
  | 233 => exact zck_233
  | 234 => exact zck_234
  | 235 => exact zck_235
  | 236 => exact zck_236
  | 237 => exact zck_237
  | 238 => exact zck_238
  | 239 => exact zck_239
  | 240 => exact zck_240
  | k + 241 => rfl
theorem zck_at {mi pc : Nat} {q : Nat × Instr × zL} (h : zlk (zcd mi) pc = some q) : decode (zB mi) pc = .ok (q.2.1, q.1) ∧ zokA mi pc q.1 q.2.1 q.2.2 = true ∧ ∃ u, zokB mi q.2.1 q.2.2 u = true := zchk_at (zck mi) h
end
section
/-! THE PURE MACHINE IS THE MACHINE: worlds, locals -/
abbrev zG : Type := va_G × ClassId × (Nat → ClassId)
def zenc (aI : ClassId) (aR : Nat → ClassId) (c : zC) : va_E := match c with
  | .inl q => .inl (aI, q.1, .inl q.2)
  | .inr (.inl q) => .inl (aR q.1, q.2.1, .inr (.inr (.inr (.inr q.2.2))))
  | .inr (.inr q) => .inr q
def zHS (G : zG) (r : zE) (s : State) (h : zH) (H : Heap) : Prop :=
  H.size = r.1 + h.length ∧ (∀ (k : Nat) (c : zC), h[k]? = some c → va_at G.1 zcls (r.1 + k, zenc G.2.1 G.2.2 c) H) ∧
  (∀ (a : Nat) (q : Bool × Nat × (Nat → Int32)), r.2.1 a = some q → va_T (if q.1 = true then .char else .int) a q.2.1 (fun j => .int (q.2.2 j)) (fun x => r.1 ≤ x) s H) ∧
  (∀ (i : Nat) (q : String × String × String), zstat[i]? = some q → va_Z q.1 q.2.1 q.2.2 (.ref (r.2.2 i)) (fun x => r.1 ≤ x) s H)
def zgt : List Cond := lw_tbl.filter goodWord
theorem zgt_of {w : Cond} (h : w ∈ lw_tbl) (hg : goodWord w = true) : w ∈ zgt := List.mem_filter.mpr ⟨h, hg⟩
theorem zgood : GoodIn zgt zgt := fun w hw => ⟨hw, good_of_word (List.mem_filter.mp hw).2⟩
/-- words that move by rows of their own -/
def zNd : Cond → Bool
  | .fieldLinkNest _ _ _ _ _ _ => true
  | .methodLinkNest _ _ _ _ => true
  | .arrayOver (.object _) => true
  | _ => false
def zNs (s : State) : Prop := ∀ w ∈ lw_tbl, zNd w = true → va_Nw w s
theorem zNs.warm {s U : State} (hW : s.WarmedH U.vm) (h : zNs s) : zNs U := by
  intro w hw hd
  have k := h w hw hd
  unfold zNd at hd
  split at hd
  · exact va_Nw.warmF hW k
  · exact va_Nw.warmM hW k
  · exact va_AO.moved hW.alike k
  · cases hd
def zKS (G : zG) (s : State) : Prop := va_K G.1 zcls [(G.2.1, .int), (G.2.2 4, .object RX4), (G.2.2 2, .object RX2)] s ∧ zNs s
theorem zKS.warm {G : zG} {s U : State} (hW : s.WarmedH U.vm) (h : zKS G s) : zKS G U := ⟨va_K.moved hW.alike h.1, h.2.warm hW⟩
def zWS (G : zG) (r : zE) (h : zH) (U : State) : Prop := zHS G r U h U.heap ∧ zKS G U
theorem zHS.moved {G : zG} {r : zE} {s t : State} {h : zH} {H : Heap} (hvm : s.vm.Alike t.vm) (hs : zHS G r s h H) : zHS G r t h H :=
  ⟨hs.1, hs.2.1, fun a q e => (hs.2.2.1 a q e).moved hvm, fun i q e => (hs.2.2.2 i q e).moved hvm⟩
theorem zHS.set {G : zG} {r : zE} {s : State} {h : zH} {H H1 : Heap} {k : Nat} {c1 : zC} (hs : zHS G r s h H) (hk : k < h.length) (h1 : va_at G.1 zcls (r.1 + k, zenc G.2.1 G.2.2 c1) H1) (hz : H1.size = H.size) (hq : ∀ q : Nat, q ≠ r.1 + k → H1[q]? = H[q]?) : zHS G r s (h.set k c1) H1 := by
  have ho : ∀ a : Nat, a < H.size → ¬ r.1 ≤ a → H1[a]? = H[a]? := fun a _ ha => hq a (by omega)
  refine ⟨by rw [hz, hs.1, List.length_set], fun j c hj => ?_, fun a q e => (hs.2.2.1 a q e).kept ho, fun i q e => (hs.2.2.2 i q e).kept ho⟩
  by_cases hjk : j = k
  · subst hjk
    rw [List.getElem?_set_self hk] at hj
    cases hj
    exact h1
  · rw [List.getElem?_set_ne (Ne.symm hjk)] at hj
    exact (hs.2.1 j c hj).kept (hq _ (by show r.1 + j ≠ r.1 + k; omega))
theorem zHS.push {G : zG} {r : zE} {s : State} {h : zH} {H H1 : Heap} {c1 : zC} (hs : zHS G r s h H) (h1 : va_at G.1 zcls (r.1 + h.length, zenc G.2.1 G.2.2 c1) H1) (hz : H1.size = H.size + 1) (hq : ∀ q : Nat, q < H.size → H1[q]? = H[q]?) : zHS G r s (h ++ [c1]) H1 := by
  have ho : ∀ a : Nat, a < H.size → ¬ r.1 ≤ a → H1[a]? = H[a]? := fun a ha _ => hq a ha
  refine ⟨by rw [hz, hs.1, List.length_append, List.length_singleton]; omega, fun j c hj => ?_, fun a q e => (hs.2.2.1 a q e).kept ho, fun i q e => (hs.2.2.2 i q e).kept ho⟩
  by_cases hjk : j < h.length
  · rw [List.getElem?_append_left hjk] at hj
    exact (hs.2.1 j c hj).kept (hq _ (by show r.1 + j < H.size; rw [hs.1]; omega))
  · rw [List.getElem?_append_right (by omega)] at hj
    have hlt := (List.getElem?_eq_some_iff.mp hj).1
    simp only [List.length_singleton] at hlt
    have e : j = h.length := by omega
    subst e
    rw [Nat.sub_self] at hj
    cases hj
    exact h1
theorem zget_inv {r : zE} {h : zH} {a : Nat} {c : zC} (e : zget r h a = some c) : r.1 ≤ a ∧ h[a - r.1]? = some c ∧ r.1 + (a - r.1) = a := by
  unfold zget at e
  split at e
  · rename_i hc
    exact ⟨hc, e, by omega⟩
  · cases e
theorem zHS.at {G : zG} {r : zE} {s : State} {h : zH} {H : Heap} {a : Nat} {c : zC} (hs : zHS G r s h H) (e : zget r h a = some c) : va_at G.1 zcls (a, zenc G.2.1 G.2.2 c) H := by
  obtain ⟨_, e1, e2⟩ := zget_inv e
  have := hs.2.1 _ _ e1
  rw [e2] at this
  exact this
/-! sizes -/
def zcs (c : zC) : Nat := match c with
  | .inl q => q.1
  | .inr (.inl q) => q.2.1
  | .inr (.inr q) => ((zcls[q.1]?).map fun x => x.2.2).getD 0
def zhs : zH → Nat
  | [] => 0
  | c :: l => zcs c + zhs l
theorem zhs_app : ∀ (h g : zH), zhs (h ++ g) = zhs h + zhs g
  | [], g => by simp [zhs]
  | c :: l, g => by simp only [List.cons_append, zhs, zhs_app l g]; omega
theorem zhs_set {c0 c1 : zC} (e : zcs c1 = zcs c0) : ∀ (h : zH) (k : Nat), h[k]? = some c0 → zhs (h.set k c1) = zhs h
  | [], _, hk => by simp at hk
  | c :: l, 0, hk => by simp at hk; subst hk; simp only [List.set_cons_zero, zhs, e]
  | c :: l, k + 1, hk => by simp at hk; simp only [List.set_cons_succ, zhs, zhs_set e l k hk]
/-! locals -/
def zLV (ls : Array Slot) (nL : Nat) (lv : List (Option Value)) : Prop := ls.size = nL ∧ lv.length = nL ∧ lv_wf ls ∧ ∀ (i : Nat) (v : Value), lv[i]? = some (some v) → ls[i]? = some (.val v)
def zal (lv : List (Option Value)) : List (Nat × Value) := lv.zipIdx.filterMap fun q => q.1.map fun v => (q.2, v)
theorem zal_mem {lv : List (Option Value)} {i : Nat} {v : Value} : (i, v) ∈ zal lv ↔ lv[i]? = some (some v) := by
  unfold zal
  rw [List.mem_filterMap]
  constructor
  · rintro ⟨⟨o, j⟩, hm, e⟩
    rw [List.mk_mem_zipIdx_iff_getElem?] at hm
    cases o with
    | none => cases e
    | some w => simp at e; rw [← e.1, ← e.2]; exact hm
  · intro e
    exact ⟨(some v, i), List.mk_mem_zipIdx_iff_getElem?.mpr e, rfl⟩
theorem zLV.has {ls : Array Slot} {nL : Nat} {lv : List (Option Value)} (h : zLV ls nL lv) : lv_has ls nL (zal lv) := ⟨h.1, h.2.2.1, fun q hq => h.2.2.2 q.1 q.2 (zal_mem.mp hq)⟩
theorem zcl_len (lv : List (Option Value)) (i : Nat) : (zcl lv i).length = lv.length := by
  unfold zcl
  split
  · rfl
  · split
    · split
      · simp
      · rfl
    · rfl
theorem zcl_get {lv : List (Option Value)} {i j : Nat} {w : Value} (h : (zcl lv i)[j]? = some (some w)) : lv[j]? = some (some w) ∧ ¬ (j + 1 = i ∧ w.category = 2) := by
  unfold zcl at h
  split at h
  · exact ⟨h, by omega⟩
  · rename_i k
    split at h
    · rename_i v hv
      split at h
      · rename_i hc
        by_cases hjk : j = k
        · subst hjk
          rw [List.getElem?_set_self (List.getElem?_eq_some_iff.mp hv).1] at h
          cases h
        · rw [List.getElem?_set_ne (Ne.symm hjk)] at h
          exact ⟨h, by omega⟩
      · rename_i hc
        refine ⟨h, fun q => ?_⟩
        have : j = k := by omega
        subst this
        rw [hv] at h
        cases h
        exact hc q.2
    · rename_i hn
      refine ⟨h, fun q => ?_⟩
      have : j = k := by omega
      subst this
      exact hn _ h
theorem zLV.of1 {ls ls' : Array Slot} {nL : Nat} {lv : List (Option Value)} {i : Nat} {v : Value} (h : zLV ls nL lv) (hi : i < lv.length) (hs : lv_has ls' nL ((i, v) :: (zal lv).filter (fun q => !(q.1 == i) && !(q.1 + 1 == i && q.2.category == 2)))) : zLV ls' nL ((zcl lv i).set i (some v)) := by
  refine ⟨hs.1, by rw [List.length_set, zcl_len]; exact h.2.1, hs.2.1, fun j w hj => ?_⟩
  by_cases hji : j = i
  · subst hji
    rw [List.getElem?_set_self (by rw [zcl_len]; exact hi)] at hj
    cases hj
    exact hs.2.2 (j, v) List.mem_cons_self
  · rw [List.getElem?_set_ne (Ne.symm hji)] at hj
    obtain ⟨h1, h2⟩ := zcl_get hj
    refine hs.2.2 (j, w) (List.mem_cons_of_mem _ (List.mem_filter.mpr ⟨zal_mem.mpr h1, ?_⟩))
    simp only [Bool.and_eq_true, Bool.not_eq_true', beq_eq_false_iff_ne, ne_eq, Bool.and_eq_false_iff]
    refine ⟨hji, ?_⟩
    by_cases a : j + 1 = i
    · exact Or.inr fun b => h2 ⟨a, b⟩
    · exact Or.inl a
theorem zLV.of2 {ls ls' : Array Slot} {nL : Nat} {lv : List (Option Value)} {i : Nat} {v : Value} (h : zLV ls nL lv) (hi : i + 1 < lv.length) (hs : lv_has ls' nL ((i, v) :: (zal lv).filter (fun q => !(q.1 == i) && (!(q.1 == i + 1) && !(q.1 + 1 == i && q.2.category == 2))))) : zLV ls' nL (((zcl lv i).set i (some v)).set (i + 1) none) := by
  refine ⟨hs.1, by rw [List.length_set, List.length_set, zcl_len]; exact h.2.1, hs.2.1, fun j w hj => ?_⟩
  by_cases hj1 : j = i + 1
  · subst hj1
    rw [List.getElem?_set_self (by rw [List.length_set, zcl_len]; exact hi)] at hj
    cases hj
  · rw [List.getElem?_set_ne (Ne.symm hj1)] at hj
    by_cases hji : j = i
    · subst hji
      rw [List.getElem?_set_self (by rw [zcl_len]; omega)] at hj
      cases hj
      exact hs.2.2 (j, v) List.mem_cons_self
    · rw [List.getElem?_set_ne (Ne.symm hji)] at hj
      obtain ⟨h1, h2⟩ := zcl_get hj
      refine hs.2.2 (j, w) (List.mem_cons_of_mem _ (List.mem_filter.mpr ⟨zal_mem.mpr h1, ?_⟩))
      simp only [Bool.and_eq_true, Bool.not_eq_true', beq_eq_false_iff_ne, ne_eq, Bool.and_eq_false_iff]
      refine ⟨hji, hj1, ?_⟩
      by_cases a : j + 1 = i
      · exact Or.inr fun b => h2 ⟨a, b⟩
      · exact Or.inl a
theorem zfg_len : ∀ (l : List (Option Value)) (m : Nat), (zfg m l).length = l.length
  | [], _ => rfl
  | v :: l, m => by simp only [zfg, List.length_cons, zfg_len l]
theorem zfg_get {v : Value} : ∀ (l : List (Option Value)) (m i : Nat), (zfg m l)[i]? = some (some v) → l[i]? = some (some v)
  | [], _, _, h => by simp [zfg] at h
  | u :: l, m, 0, h => by
    simp only [zfg, List.getElem?_cons_zero] at h ⊢
    split at h
    · cases h
    · exact h
  | u :: l, m, i + 1, h => by
    simp only [zfg, List.getElem?_cons_succ] at h ⊢
    exact zfg_get l _ i h
theorem zLV.forget {ls : Array Slot} {nL m : Nat} {lv : List (Option Value)} (h : zLV ls nL lv) : zLV ls nL (zfg m lv) := ⟨h.1, by rw [zfg_len]; exact h.2.1, h.2.2.1, fun i v hi => h.2.2.2 i v (zfg_get lv m i hi)⟩
theorem zenl_len : ∀ vs : List Value, (lg_sl vs).length = (zenl vs).length
  | [] => rfl
  | v :: l => by
    have := zenl_len l
    unfold lg_sl zenl at this ⊢
    simp only [List.flatMap_cons, List.length_append, this]
    by_cases h : v.category = 2 <;> simp [h]
theorem zenl_at {v : Value} : ∀ (vs : List Value) (k i : Nat), (zenl vs)[i]? = some (some v) → (k + i, v) ∈ lv_args k vs
  | [], _, _, h => by simp [zenl] at h
  | u :: l, k, i, h => by
    have ih := zenl_at (v := v) l
    unfold zenl at h ih
    simp only [List.flatMap_cons] at h
    simp only [lv_args]
    by_cases hc : u.category = 2
    · rw [if_pos hc] at h
      rw [if_pos hc]
      match i, h with
      | 0, h => simp at h; subst h; exact List.mem_cons_self
      | 1, h => simp at h
      | i + 2, h =>
        have := ih (k + 2) i (by simpa using h)
        rw [show k + (i + 2) = k + 2 + i by omega]
        exact List.mem_cons_of_mem _ this
    · rw [if_neg hc] at h
      rw [if_neg hc]
      match i, h with
      | 0, h => simp at h; subst h; exact List.mem_cons_self
      | i + 1, h =>
        have := ih (k + 1) i (by simpa using h)
        rw [show k + (i + 1) = k + 1 + i by omega]
        exact List.mem_cons_of_mem _ this
theorem zent_lv (vs : List Value) {n : Nat} (h : (zenl vs).length ≤ n) : zLV ((lg_sl vs ++ List.replicate (n - (lg_sl vs).length) Slot.unset).toArray) n (zent n vs) := by
  have he := lv_entry vs (n := n) (by rw [zenl_len]; exact h)
  refine ⟨he.1, by unfold zent; rw [List.length_append, List.length_replicate]; omega, he.2.1, fun i v hi => ?_⟩
  refine he.2.2 (i, v) ?_
  unfold zent at hi
  by_cases hl : i < (zenl vs).length
  · rw [List.getElem?_append_left hl] at hi
    have := zenl_at vs 0 i hi
    rwa [Nat.zero_add] at this
  · rw [List.getElem?_append_right (by omega), List.getElem?_replicate] at hi
    split at hi <;> cases hi
end
section
/-! the walk -/
/-- how a method ends -/
def zOut (mi pc : Nat) (v : Option Value) : Prop :=
  (∃ x : Int32, v = some (.int x) ∧ decode (zB mi) pc = .ok (.ireturn, 1) ∧ (zRt mi = some .int ∨ zRt mi = some .boolean ∧ (x = 0 ∨ x = 1))) ∨
  (∃ x : Int64, v = some (.long x) ∧ decode (zB mi) pc = .ok (.lreturn, 1) ∧ zRt mi = some .long) ∨
  (∃ x : Option Nat, v = some (va_rf x) ∧ decode (zB mi) pc = .ok (.areturn, 1) ∧ zRt mi = some (.object RX4)) ∨
  (v = none ∧ decode (zB mi) pc = .ok (.return_, 1) ∧ zRt mi = none)
def zFix (G : zG) (p : Program) (s : State) (m : MethodId) (args : Array Value) (meth : Method) (c : Code) (mi : Nat) : Prop :=
  p.tables.exec = Jvm.exec ∧ c.code = zB mi ∧ c.maxLocals = zMl mi ∧ s.vm.findClass (zY mi).cls = some m.cls ∧ (∀ w ∈ zgt, w.before args s = true) ∧ zKS G s ∧ ((zY mi).name = "<init>" → meth.name = "<init>")
/-- from here the method comes to its end with v, and the heap is g -/
def zGo (l : Launch) (G : zG) (r : zE) (mi : Nat) (v : Option Value) (g : zH) (pc : Nat) (lv : List (Option Value)) (st : List Value) (h : zH) : Prop :=
  (h.length ≤ g.length ∧ zhs h ≤ zhs g) ∧
  ∀ {p : Program} {e : Env} {R : Room} {s : State} {m : MethodId} {args : Array Value} {below : List Frame} {meth : Method} {c : Code} {Q : State → Prop} {H : Heap} {locs : List Loc} {cells slots k n : Nat} {ls : Array Slot},
    zFix G p s m args meth c mi → zLV ls (zMl mi) lv → zHS G r s h H → (∀ q ∈ locs, r.1 ≤ q.base) → k + h.length = cells + g.length → n + zhs h = slots + zhs g → k ≤ R.cells → n ≤ R.slots → zFr mi ≤ R.frames → zLo mi ≤ R.locals →
    (∀ (pc' : Nat) (ls' : Array Slot) (H' : Heap) (locs' : List Loc), zOut mi pc' v → zHS G r s g H' → (∀ q ∈ locs', r.1 ≤ q.base) → W p l e R s m args below meth c H' locs' k n Q (F0 m pc' ls' v.toList)) →
    W p l e R s m args below meth c H locs cells slots Q (F0 m pc ls st)
section GO
variable {l : Launch} {G : zG} {r : zE} {mi : Nat} {v : Option Value} {g : zH} {pc : Nat} {lv : List (Option Value)} {st : List Value} {h : zH}
/-- a row that moves neither heap nor locals -/
theorem zGo.row {pc2 : Nat} {st2 : List Value}
    (hrow : ∀ {p : Program} {e : Env} {R : Room} {s : State} {m : MethodId} {args : Array Value} {below : List Frame} {meth : Method} {c : Code} {Q : State → Prop} {H : Heap} {locs : List Loc} {cells slots : Nat} {ls : Array Slot}, zFix G p s m args meth c mi → zLV ls (zMl mi) lv → zHS G r s h H → zFr mi ≤ R.frames → zLo mi ≤ R.locals → W p l e R s m args below meth c H locs cells slots Q (F0 m pc2 ls st2) → W p l e R s m args below meth c H locs cells slots Q (F0 m pc ls st))
    (k : zGo l G r mi v g pc2 lv st2 h) : zGo l G r mi v g pc lv st h :=
  ⟨k.1, fun hF hL hH hl e1 e2 h1 h2 hf ho hr => hrow hF hL hH hf ho (k.2 hF hL hH hl e1 e2 h1 h2 hf ho hr)⟩
/-- a row that writes a local -/
theorem zGo.rowL {pc2 : Nat} {st2 : List Value} {lv2 : List (Option Value)}
    (hrow : ∀ {p : Program} {e : Env} {R : Room} {s : State} {m : MethodId} {args : Array Value} {below : List Frame} {meth : Method} {c : Code} {Q : State → Prop} {H : Heap} {locs : List Loc} {cells slots : Nat} {ls : Array Slot}, zFix G p s m args meth c mi → zLV ls (zMl mi) lv → (∀ ls2, zLV ls2 (zMl mi) lv2 → W p l e R s m args below meth c H locs cells slots Q (F0 m pc2 ls2 st2)) → W p l e R s m args below meth c H locs cells slots Q (F0 m pc ls st))
    (k : zGo l G r mi v g pc2 lv2 st2 h) : zGo l G r mi v g pc lv st h :=
  ⟨k.1, fun hF hL hH hl e1 e2 h1 h2 hf ho hr => hrow hF hL fun _ hL2 => k.2 hF hL2 hH hl e1 e2 h1 h2 hf ho hr⟩
theorem zGo.store {pc2 i : Nat} {t : List Value} {x : Value}
    (hrow : ∀ {p : Program} {e : Env} {R : Room} {s : State} {m : MethodId} {args : Array Value} {below : List Frame} {meth : Method} {c : Code} {Q : State → Prop} {H : Heap} {locs : List Loc} {cells slots nL : Nat} {ls : Array Slot} {al al' : List (Nat × Value)}, p.tables.exec = Jvm.exec → c.code = zB mi → lv_has ls nL al → i < nL → (i, x) :: al.filter (fun q => !(q.1 == i) && !(q.1 + 1 == i && q.2.category == 2)) = al' → (∀ ls2, lv_has ls2 nL al' → W p l e R s m args below meth c H locs cells slots Q (F0 m pc2 ls2 t)) → W p l e R s m args below meth c H locs cells slots Q (F0 m pc ls (x :: t)))
    (hi : i < lv.length) (k : zGo l G r mi v g pc2 ((zcl lv i).set i (some x)) t h) : zGo l G r mi v g pc lv (x :: t) h :=
  zGo.rowL (fun hF hL kk => hrow hF.1 hF.2.1 hL.has (by rw [← hL.2.1]; exact hi) rfl fun ls2 hs => kk ls2 (hL.of1 hi hs)) k
theorem zGo.store2 {pc2 i : Nat} {t : List Value} {x : Value}
    (hrow : ∀ {p : Program} {e : Env} {R : Room} {s : State} {m : MethodId} {args : Array Value} {below : List Frame} {meth : Method} {c : Code} {Q : State → Prop} {H : Heap} {locs : List Loc} {cells slots nL : Nat} {ls : Array Slot} {al al' : List (Nat × Value)}, p.tables.exec = Jvm.exec → c.code = zB mi → lv_has ls nL al → i + 1 < nL → (i, x) :: al.filter (fun q => !(q.1 == i) && (!(q.1 == i + 1) && !(q.1 + 1 == i && q.2.category == 2))) = al' → (∀ ls2, lv_has ls2 nL al' → W p l e R s m args below meth c H locs cells slots Q (F0 m pc2 ls2 t)) → W p l e R s m args below meth c H locs cells slots Q (F0 m pc ls (x :: t)))
    (hi : i + 1 < lv.length) (k : zGo l G r mi v g pc2 (((zcl lv i).set i (some x)).set (i + 1) none) t h) : zGo l G r mi v g pc lv (x :: t) h :=
  zGo.rowL (fun hF hL kk => hrow hF.1 hF.2.1 hL.has (by rw [← hL.2.1]; exact hi) rfl fun ls2 hs => kk ls2 (hL.of2 hi hs)) k
/-- a row that writes a cell -/
theorem zGo.write {pc2 : Nat} {st2 : List Value} {a : Nat} {c0 c1 : zC} (hz : zget r h a = some c0) (hc : zcs c1 = zcs c0)
    (hrow : ∀ {p : Program} {e : Env} {R : Room} {s : State} {m : MethodId} {args : Array Value} {below : List Frame} {meth : Method} {c : Code} {Q : State → Prop} {H : Heap} {locs : List Loc} {cells slots : Nat} {ls : Array Slot}, zFix G p s m args meth c mi → zLV ls (zMl mi) lv → zHS G r s h H → zFr mi ≤ R.frames → zLo mi ≤ R.locals →
      (∀ (H1 : Heap) (L : List Loc), va_at G.1 zcls (a, zenc G.2.1 G.2.2 c1) H1 → H1.size = H.size → (∀ q : Nat, q ≠ a → H1[q]? = H[q]?) → (∀ q ∈ L, q.base = a) → W p l e R s m args below meth c H1 (locs ++ L) cells slots Q (F0 m pc2 ls st2)) → W p l e R s m args below meth c H locs cells slots Q (F0 m pc ls st))
    (k : zGo l G r mi v g pc2 lv st2 (h.set (a - r.1) c1)) : zGo l G r mi v g pc lv st h := by
  obtain ⟨ha, hk, he⟩ := zget_inv hz
  have hlt := (List.getElem?_eq_some_iff.mp hk).1
  have hsz := zhs_set hc h _ hk
  refine ⟨by have := k.1; rwa [List.length_set, hsz] at this, fun hF hL hH hl e1 e2 h1 h2 hf ho hr => hrow hF hL hH hf ho fun H1 L g1 g2 g3 g4 => ?_⟩
  refine k.2 hF hL (hH.set hlt (by rw [he]; exact g1) g2 (by rw [he]; exact g3)) (fun q hq => ?_) (by rw [List.length_set]; exact e1) (by rw [hsz]; exact e2) h1 h2 hf ho hr
  rcases List.mem_append.mp hq with hq | hq
  · exact hl q hq
  · rw [g4 q hq]; exact ha
/-- a row that makes a cell -/
theorem zGo.make {pc2 : Nat} {st2 : List Value} {c1 : zC}
    (hrow : ∀ {p : Program} {e : Env} {R : Room} {s : State} {m : MethodId} {args : Array Value} {below : List Frame} {meth : Method} {c : Code} {Q : State → Prop} {H : Heap} {locs : List Loc} {cells slots : Nat} {ls : Array Slot}, zFix G p s m args meth c mi → zLV ls (zMl mi) lv → zHS G r s h H → cells + 1 ≤ R.cells → slots + zcs c1 ≤ R.slots →
      (∀ (H1 : Heap), va_at G.1 zcls (H.size, zenc G.2.1 G.2.2 c1) H1 → H1.size = H.size + 1 → (∀ q : Nat, q < H.size → H1[q]? = H[q]?) → W p l e R s m args below meth c H1 locs (cells + 1) (slots + zcs c1) Q (F0 m pc2 ls st2)) → W p l e R s m args below meth c H locs cells slots Q (F0 m pc ls st))
    (k : zGo l G r mi v g pc2 lv st2 (h ++ [c1])) : zGo l G r mi v g pc lv st h := by
  have k1 := k.1
  rw [zhs_app, List.length_append, List.length_singleton] at k1
  simp only [zhs] at k1
  refine ⟨⟨by omega, by omega⟩, fun hF hL hH hl e1 e2 h1 h2 hf ho hr => hrow hF hL hH (by omega) (by omega) fun H1 g1 g2 g3 => ?_⟩
  refine k.2 hF hL (hH.push (by rw [← hH.1]; exact g1) g2 g3) hl (by rw [List.length_append, List.length_singleton]; omega) (by rw [zhs_app]; simp only [zhs]; omega) h1 h2 hf ho hr
end GO
theorem zA1 {n : Nat} {b : Bool} (h : ((n == 1) && b) = true) : n = 1 := by
  rw [Bool.and_eq_true] at h; exact of_decide_eq_true h.1
theorem zA2 {n : Nat} {b : Bool} (h : ((n == 2) && b) = true) : n = 2 := by
  rw [Bool.and_eq_true] at h; exact of_decide_eq_true h.1
theorem zA3 {n : Nat} {b : Bool} (h : ((n == 3) && b) = true) : n = 3 := by
  rw [Bool.and_eq_true] at h; exact of_decide_eq_true h.1
theorem zAdc {a : Bool} {p : Prop} [Decidable p] (h : (a && decide p) = true) : p := by
  rw [Bool.and_eq_true] at h; exact of_decide_eq_true h.2
end
section
/-! facts of the classes' tables -/
theorem zcls_f {ci : Nat} {q : vw_C} (h : zcls[ci]? = some q) : (∀ w ∈ u_ws q.1 q.2.1 q.2.2, w ∈ zgt) ∧ (∀ k, k < q.2.2 → parseFieldDescriptor (q.2.1 k).2.2.1 = some (zty ci k)) ∧ (∀ a, a < q.2.2 → ∀ b, b < q.2.2 → a ≠ b → (q.2.1 a).2.1 ≠ (q.2.1 b).2.1) ∧ (∀ k, k < q.2.2 → (q.2.1 k).1 = q.1) ∧ Cond.instantiable q.1 q.2.2 ∈ zgt ∧ Cond.initialized q.1 ∈ zgt ∧ (∀ j, j < q.2.2 → defaultValue (zty ci j) = vp_V (zdf ci) j) ∧ (zdf ci).length = q.2.2 := by
  match ci, h with
  | 0, h => cases h; exact ⟨by decide +kernel, tyX0_ok, nmX0, by decide +kernel, by decide +kernel, by decide +kernel, by decide +kernel, by decide +kernel⟩
  | 1, h => cases h; exact ⟨by decide +kernel, tyX1_ok, nmX1, by decide +kernel, by decide +kernel, by decide +kernel, by decide +kernel, by decide +kernel⟩
  | 2, h => cases h; exact ⟨by decide +kernel, tyX2_ok, nmX2, by decide +kernel, by decide +kernel, by decide +kernel, by decide +kernel, by decide +kernel⟩
  | 3, h => cases h; exact ⟨by decide +kernel, tyX3_ok, nmX3, by decide +kernel, by decide +kernel, by decide +kernel, by decide +kernel, by decide +kernel⟩
  | 4, h => cases h; exact ⟨by decide +kernel, tyX4_ok, nmX4, by decide +kernel, by decide +kernel, by decide +kernel, by decide +kernel, by decide +kernel⟩
  | 5, h => cases h; exact ⟨by decide +kernel, tyX5_ok, nmX5, by decide +kernel, by decide +kernel, by decide +kernel, by decide +kernel, by decide +kernel⟩
  | 6, h => cases h; exact ⟨by decide +kernel, tyX6_ok, nmX6, by decide +kernel, by decide +kernel, by decide +kernel, by decide +kernel, by decide +kernel⟩
  | k + 7, h => simp [zcls] at h
theorem zplain (mj : Nat) : plainName (zY mj).cls = true := by
  have h1 : ∀ y ∈ zYs, plainName y.cls = true := by decide +kernel
  have h2 : plainName yL_law.cls = true := by decide +kernel
  unfold zY
  rw [List.getD_eq_getElem?_getD]
  cases hq : zYs[mj]? with
  | none => exact h2
  | some y => exact h1 y (List.mem_of_getElem? hq)
section HR
variable {p : Program} {l : Launch} {e : Env} {R : Room} {s : State} {m : MethodId} {args : Array Value} {below : List Frame} {meth : Method} {c : Code} {H : Heap} {locs : List Loc} {cells slots : Nat} {Q : State → Prop}
variable {cc : ByteArray} {pc : Nat} {ls : Array Slot} {rest : List Value} {D : va_G} {tys : List (ClassId × FieldType)} {a : Nat}
theorem zP1 {x : Nat × va_E} (h : va_at D zcls x H) : va_P D zcls [x] H := fun k q hk => by
  have hlt := (List.getElem?_eq_some_iff.mp hk).1
  simp only [List.length_singleton] at hlt
  have : k = 0 := by omega
  subst this
  cases hk
  exact h
theorem zr_put (hexec : p.tables.exec = Jvm.exec) (hb : c.code = cc) {own : String} {ci index k : Nat} {q : vw_C} (hts : ∀ w ∈ zgt, w.before args s = true) (hown : s.vm.findClass own = some m.cls) (hK : va_K D zcls tys s) {fs : List Value} (hP : va_at D zcls (a, .inr (ci, fs)) H) (hc : zcls[ci]? = some q) (hk : k < q.2.2)
    (hlink : ((Cond.fieldLink own index q.1 (q.2.1 k).2.1 (q.2.1 k).2.2.1).before args s = true ∧ ((q.2.1 k).2.2.2 = false ∨ q.1 = own ∧ meth.name = "<init>")) ∨ ((Cond.fieldLinkNest own index q.1 (q.2.1 k).2.1 (q.2.1 k).2.2.1 "HammockDeck").before args s = true ∧ (q.2.1 k).2.2.2 = false))
    {v : Value} (hn : narrow (zty ci k) v = v) (hfit : fits (zty ci k) v = true) (hl : k < fs.length) (hdg : decode cc pc = .ok (.putfield index, 3))
    (kk : ∀ (H1 : Heap) (L : List Loc), va_at D zcls (a, .inr (ci, fs.set k v)) H1 → H1.size = H.size → (∀ q : Nat, q ≠ a → H1[q]? = H[q]?) → (∀ q ∈ L, q.base = a) → W p l e R s m args below meth c H1 (locs ++ L) cells slots Q (F0 m (pc + 3) ls rest)) : W p l e R s m args below meth c H locs cells slots Q (F0 m pc ls (v :: .ref a :: rest)) := by
  obtain ⟨hin, hty, hnm, hdecl, -, -, -, -⟩ := zcls_f hc
  have hap := va_apart (own := own) hts hin (zty ci) hty hnm hK hc
  obtain ⟨C, T, N⟩ := q
  obtain ⟨r, h1, cell, q1, q2, q3, q4⟩ := hP
  have hr : r = (C, T, N) := Option.some.inj (h1.symm.trans hc)
  subst hr
  obtain ⟨hS, hfc, kC, hkC, hkind⟩ := hK.1 ci _ hc
  obtain ⟨cf, kf, fi, f, hi, hsl⟩ := hS k hk
  have hi' : s.fieldFound? C (T k).2.1 (T k).2.2.1 = some (cf, kf, fi, f) := by
    have := hdecl k hk
    dsimp only at this hi
    rw [this] at hi
    exact hi
  have hst := (u_facts hfc hkC (u_lays hts hin hk) hi).1
  have fin : ∀ H' : Heap, H'[a]? = some (cell.setSlot f.slot v) → H'.size = H.size → (∀ q, q ≠ a → H'[q]? = H[q]?) → W p l e R s m args below meth c H' (locs ++ [⟨a, f.slot⟩]) cells slots Q (F0 m (pc + 3) ls rest) := by
    intro H' e1 e2 e3
    rw [hsl] at e1
    exact kk H' _ ⟨_, hc, t_OB.to (V := updV (vp_V fs) k v) ⟨_, e1, q2, q3, t_set q4 hap hk v⟩ (fun j _ => vp_updV_set hl v j)⟩ e2 e3 (fun z hz => by rw [List.mem_singleton.mp hz])
  have hlay := hts _ (hin _ (u_in_lay hk))
  unfold u_lay at hlay
  by_cases hfin : (T k).2.2.2 = false
  · rw [if_neg (by rw [hfin]; decide)] at hlay
    have h6 := u_store hfc hkC hkind hlay hi (hty k hk) hn hfit
    rcases hlink with ⟨hlink, -⟩ | ⟨hlink, -⟩
    · exact W.putK hexec hb (f := f) ⟨hown, hlink, ⟨_, _, _, hi'⟩, hst⟩ (by rw [q2]; exact h6) q1 q3 (by rw [hsl]; exact k2_hasslot (q4 k hk)) rfl rfl hdg fin
    · exact va_WputK hexec hb (f := f) hown hlink hi' hst (by rw [q2]; exact h6) q1 q3 (by rw [hsl]; exact k2_hasslot (q4 k hk)) rfl rfl hdg fin
  · rcases hlink with ⟨hlink, hf2⟩ | ⟨-, hf2⟩
    · rcases hf2 with hf2 | ⟨hf2, hin2⟩
      · exact absurd hf2 hfin
      · have hfin2 : (T k).2.2.2 = true := by cases hh : (T k).2.2.2 with | true => rfl | false => exact absurd hh hfin
        rw [if_pos hfin2] at hlay
        have hcf : m.cls = cf := by
          obtain ⟨_, _, c', _, _, _, -, -, hf', -, -, -, hown2, -⟩ := Cond.laysFinal_spec hlay
          have e1 : c' = cf := by have := hi.symm.trans hf'; simp at this; exact this.1.symm
          have e2 := hdecl k hk
          dsimp only at e2 hf2
          rw [e2, hf2] at hown2
          rw [← e1]; exact Option.some.inj (hown.symm.trans hown2)
        have h6 := u_fits hfc hkC hkind (Or.inr hlay) hi (hty k hk) hn hfit
        exact W.putFinK hexec hb hown hlink hi' hst hcf hin2 (by rw [q2]; exact h6) q1 q3 (by rw [hsl]; exact k2_hasslot (q4 k hk)) rfl rfl hdg fin
    · exact absurd hf2 hfin
theorem zr_iast (hexec : p.tables.exec = Jvm.exec) (hb : c.code = cc) {cA : ClassId} (hA : ArrOfT s cA .int) {n : Nat} {f : Nat → Int32} (hP : va_at D zcls (a, .inl (cA, n, .inl f)) H) {i x : Int32} (hin : vp_in i n) (hdg : decode cc pc = .ok (.iastore, 1))
    (kk : ∀ (H1 : Heap) (L : List Loc), va_at D zcls (a, .inl (cA, n, .inl (upd f i.toNatClampNeg x))) H1 → H1.size = H.size → (∀ q : Nat, q ≠ a → H1[q]? = H[q]?) → (∀ q ∈ L, q.base = a) → W p l e R s m args below meth c H1 (locs ++ L) cells slots Q (F0 m (pc + 1) ls rest)) : W p l e R s m args below meth c H locs cells slots Q (F0 m pc ls (.int x :: .int i :: .ref a :: rest)) := by
  refine W.iast hexec hb hP (hA n (fun j => .int (f j))) (fun q => by cases q) (by show ¬ (i < 0 ∨ (arrV _ _ _).slots.size ≤ _); rw [arrV_size]; exact hin) rfl rfl hdg fun H1 e z oq => ?_
  refine kk H1 _ ?_ z oq (fun z hz => by rw [List.mem_singleton.mp hz])
  show H1[a]? = some (vp_cell _ _)
  rw [e]
  rw [vp_cell_i, vp_cell_i, arrV_store]
  congr 2
  funext q
  by_cases hq : q = i.toNatClampNeg
  · subst hq
    simp [updV, upd]
  · simp [updV, upd, hq]
theorem zr_aast (hexec : p.tables.exec = Jvm.exec) (hb : c.code = cc) (hK : va_K D zcls tys s) {cA : ClassId} {ci n v : Nat} {q : vw_C} (hA : va_RA s cA (.object q.1)) {f : Nat → Option Nat} (hP : va_at D zcls (a, .inl (cA, n, .inr (.inr (.inr (.inr f))))) H) {vs : List Value} (hv : va_at D zcls (v, .inr (ci, vs)) H) (hc : zcls[ci]? = some q) {i : Int32} (hin : vp_in i n) (hdg : decode cc pc = .ok (.aastore, 1))
    (kk : ∀ (H1 : Heap) (L : List Loc), va_at D zcls (a, .inl (cA, n, .inr (.inr (.inr (.inr (va_up f i.toNatClampNeg (some v))))))) H1 → H1.size = H.size → (∀ q : Nat, q ≠ a → H1[q]? = H[q]?) → (∀ q ∈ L, q.base = a) → W p l e R s m args below meth c H1 (locs ++ L) cells slots Q (F0 m (pc + 1) ls rest)) : W p l e R s m args below meth c H locs cells slots Q (F0 m pc ls (.ref v :: .int i :: .ref a :: rest)) := by
  have hlt : i.toNatClampNeg < n := Nat.not_le.mp fun q => hin (Or.inr q)
  have h0 : ¬ i < 0 := fun q => hin (Or.inl q)
  obtain ⟨r', hr', cellV, g1, g2, g3, -⟩ := hv
  have hcls := (hK.1 ci q hc).2
  obtain ⟨kA, comp, k1, k2, k3, -⟩ := hA
  have hcomp : comp = D.1 ci := Option.some.inj (k3.symm.trans hcls.1)
  subst hcomp
  obtain ⟨kC, hkC, -⟩ := hcls.2
  refine W.aast hexec hb hP (fun q h => by cases h) (fun h => by cases h) k1 k2 rfl hkC ⟨h0, by show _ < (arrV _ _ _).slots.size; rw [arrV_size]; exact hlt⟩ g1 (fun q h => by rw [g3] at h; cases h) (by rw [g2]; exact hkC) (by rw [g2]; exact va_assign hcls) rfl rfl hdg fun H1 e z oq => ?_
  refine kk H1 _ ?_ z oq (fun z hz => by rw [List.mem_singleton.mp hz])
  show H1[a]? = some (vp_cell _ _)
  rw [e]
  rw [vp_cell_q, vp_cell_q, arrV_store]
  congr 2
  funext q
  by_cases hq : q = i.toNatClampNeg
  · subst hq
    simp [updV, va_up, va_rf]
  · simp [updV, va_up, hq]
theorem zr_newa (hexec : p.tables.exec = Jvm.exec) (hb : c.code = cc) (harr : (Cond.arrayClass .int).before args s = true) {aI : ClassId} (hI : s.vm.findClass ("[" ++ FieldType.int.toString) = some aI) {n : Int32} (hn : ¬ n < 0) (hm : n.toNatClampNeg ≤ 100000) (hcells : cells + 1 ≤ R.cells) (hslots : slots + n.toNatClampNeg ≤ R.slots) (hdg : decode cc pc = .ok (.newarray .int, 2))
    (kk : ∀ (H1 : Heap), va_at D zcls (H.size, .inl (aI, n.toNatClampNeg, .inl (fun _ => 0))) H1 → H1.size = H.size + 1 → (∀ q : Nat, q < H.size → H1[q]? = H[q]?) → W p l e R s m args below meth c H1 locs (cells + 1) (slots + n.toNatClampNeg) Q (F0 m (pc + 2) ls (.ref H.size :: rest))) : W p l e R s m args below meth c H locs cells slots Q (F0 m pc ls (.int n :: rest)) := by
  refine va_newaK hexec hb (atype := .int) harr rfl hdg rfl hn rfl (by show n.toNatClampNeg * 4 ≤ _; omega) hcells hslots rfl fun H1 cA e1 z1 o1 hAr hNm => ?_
  have hc : cA = aI := Option.some.inj (hNm.symm.trans hI)
  subst hc
  exact kk H1 e1 z1 o1
theorem zr_newq (hexec : p.tables.exec = Jvm.exec) (hb : c.code = cc) {own C : String} {index : Nat} (hown : s.vm.findClass own = some m.cls) (hclink : (Cond.classLink own index C).before args s = true) (hover : (Cond.arrayOver (.object C)).before args s = true) {aQ : ClassId} (hI : s.vm.findClass ("[" ++ (FieldType.object C).toString) = some aQ) {n : Int32} (hn : ¬ n < 0) (hm : n.toNatClampNeg ≤ 100000) (hcells : cells + 1 ≤ R.cells) (hslots : slots + n.toNatClampNeg ≤ R.slots) (hdg : decode cc pc = .ok (.anewarray index, 3))
    (kk : ∀ (H1 : Heap), va_at D zcls (H.size, .inl (aQ, n.toNatClampNeg, .inr (.inr (.inr (.inr (fun _ => none)))))) H1 → H1.size = H.size + 1 → (∀ q : Nat, q < H.size → H1[q]? = H[q]?) → W p l e R s m args below meth c H1 locs (cells + 1) (slots + n.toNatClampNeg) Q (F0 m (pc + 3) ls (.ref H.size :: rest))) : W p l e R s m args below meth c H locs cells slots Q (F0 m pc ls (.int n :: rest)) := by
  refine W.anew hexec hb hown hclink hover rfl hdg rfl hn (by omega) hcells hslots fun cA kA comp f1 f2 f3 f4 => ?_
  have hc : cA = aQ := Option.some.inj (f1.symm.trans hI)
  subst hc
  refine kk _ ?_ (by rw [Array.size_push]) (fun q hq => by rw [Array.getElem?_push, if_neg (Nat.ne_of_lt hq)])
  show (H.push _)[H.size]? = some (vp_cell _ _)
  rw [vp_cell_q, Array.getElem?_push_size, ← arrV_new]
  rfl
theorem zr_new (hexec : p.tables.exec = Jvm.exec) (hb : c.code = cc) {own : String} {ci index : Nat} {q : vw_C} (hts : ∀ w ∈ zgt, w.before args s = true) (hown : s.vm.findClass own = some m.cls) (hcl : (Cond.classLink own index q.1).before args s = true) (hK : va_K D zcls tys s) (hc : zcls[ci]? = some q) (hcells : cells + 1 ≤ R.cells) (hslots : slots + q.2.2 ≤ R.slots) (hdg : decode cc pc = .ok (.new index, 3))
    (kk : ∀ (H1 : Heap), va_at D zcls (H.size, .inr (ci, zdf ci)) H1 → H1.size = H.size + 1 → (∀ q : Nat, q < H.size → H1[q]? = H[q]?) → W p l e R s m args below meth c H1 locs (cells + 1) (slots + q.2.2) Q (F0 m (pc + 3) ls (.ref H.size :: rest))) : W p l e R s m args below meth c H locs cells slots Q (F0 m pc ls rest) := by
  obtain ⟨hin, hty, -, -, hinst, hini, hdf, -⟩ := zcls_f hc
  have hKn := hK.1 ci _ hc
  refine W.newcK hexec hb hown hcl (hts _ hinst) (hts _ hini) rfl hdg hcells hslots hKn.2.1 rfl fun H1 kC hkC e1 z1 o1 => ?_
  exact kk H1 ⟨_, hc, (u_born (zty ci) hts hin hKn hkC e1 hty).to hdf⟩ z1 o1
/-- behind a call -/
theorem zr_run {mc ms : Nat} {st0 : List Value} {Qa : State → Outcome → State → Prop} {free : Addr → Prop} (hr : va_Run p l e R s m args below meth c H locs cells slots mc ms (F0 m pc ls st0) rest Qa free)
    (kk : ∀ (v : Option Value) (st₀ t T' : State) (L : List Loc), s.vm.Alike t.vm → (∀ q ∈ L, free q.base) → Qa st₀ (.returned v) t → W p l e R s m args below meth c t.heap (locs ++ L) (cells + mc) (slots + ms) Q (F0 m (pc + 3) ls (v.toList ++ rest))) : W p l e R s m args below meth c H locs cells slots Q (F0 m pc ls st0) := by
  intro T hT X
  obtain ⟨v, st₀, t, T', L, h0, X', hL, e1, e2, hq, st⟩ := hr T hT X
  obtain ⟨t', a, b⟩ := kk v st₀ t T' L (by rw [← e2]; exact X'.warmed.alike) hL hq T' e1 X'
  exact ⟨t', st t' a, b⟩
end HR
/-- a method that runs keeps its contract -/
def zSnd (l : Launch) (G : zG) (r : zE) (n : Nat) : Prop := ∀ (mi pc : Nat) (lv : List (Option Value)) (st : List Value) (h : zH) (v : Option Value) (g : zH), zrun r n mi pc lv st h = some (v, g) → zGo l G r mi v g pc lv st h
theorem zWS.moved {G : zG} {r : zE} {h : zH} {s t : State} {H : Heap} (hH : zHS G r s h H) (ht : t.heap = H) (hW : s.WarmedH t.vm) : zHS G r t h t.heap := by rw [ht]; exact hH.moved hW.alike
theorem zMet {l : Launch} {G : zG} {r : zE} {n : Nat} (hS : zSnd l G r n) {mj : Nat} {as : List Value} {h g : zH} {v : Option Value} (hq : zrun r n mj 0 (zent (zMl mj) as) [] h = some (v, g)) (hlen : (zenl as).length ≤ zMl mj) :
    Met l (zY mj) (Cond.code (zY mj) (zB mj) (zMl mj) (zRt mj) :: zgt) { frames := zFr mj, cells := g.length - h.length, slots := zhs g - zhs h, locals := zLo mj } (va_Pc as (zWS G r h)) (fun _ _ o t => o = .returned v ∧ zHS G r t g t.heap) (g.length - h.length) (zhs g - zhs h) (fun q => r.1 ≤ q) := by
  refine Met.ofW (cc := zB mj) (maxL := zMl mj) (ret := zRt mj) (zplain mj) rfl ?_
  intro p e s m args below meth c s₁ B hml hv
  obtain ⟨rfl, hH, hK⟩ := hv
  have hx := B.exec
  have hb := B.bytes
  have hr := B.returns
  have hlocks := B.notSynchronized
  have hts := atoms_spec (ws := Cond.code (zY mj) (zB mj) (zMl mj) (zRt mj) :: zgt) B.pre
  have hown : s.vm.findClass (zY mj).cls = some m.cls := findClass_of_methodNamed B.named
  have k := hS _ _ _ _ _ _ _ hq
  obtain ⟨k1, k2⟩ := k
  rw [lg_entry_eq]
  refine k2 (k := g.length - h.length) (n := zhs g - zhs h) ⟨hx, hb, hml, hown, fun w hw => hts w (List.mem_cons_of_mem _ hw), hK, fun hn => by rw [(name_of_methodNamed B.named B.method).1]; exact hn⟩ (zent_lv as hlen) hH (fun q hq => by cases hq) (by omega) (by omega) (Nat.le_refl _) (Nat.le_refl _) (Nat.le_refl _) (Nat.le_refl _) (fun pc' ls' H' locs' ho hH' hl' => ?_)
  rcases ho with ⟨x, rfl, hd, hx2⟩ | ⟨x, rfl, hd, hx2⟩ | ⟨x, rfl, hd, hx2⟩ | ⟨rfl, hd, hx2⟩
  · rcases hx2 with hx2 | ⟨hx2, hx3⟩
    · exact W.iret (v := x) hx hb (hr.trans hx2) (fun t ht hW => ⟨rfl, zWS.moved hH' ht hW⟩) hl' hd
    · exact W.zret (v := x) (ty := .boolean) hx hb (hr.trans hx2) (by rcases hx3 with rfl | rfl <;> rfl) (fun t ht hW => ⟨rfl, zWS.moved hH' ht hW⟩) hl' hd
  · exact W.lret (v := x) hx hb (hr.trans hx2) (fun t ht hW => ⟨rfl, zWS.moved hH' ht hW⟩) hl' hd
  · exact W.aret (v := va_rf x) hx hb (hr.trans hx2) (Or.inl ⟨_, rfl⟩) (by cases x with | none => exact Or.inl rfl | some a => exact Or.inr ⟨a, rfl⟩) (fun t ht hW => ⟨rfl, zWS.moved hH' ht hW⟩) hl' hd
  · exact W.vret hx hb (hr.trans hx2) (fun t ht hW => ⟨rfl, zWS.moved hH' ht hW⟩) hl' hd
end
section
/-! ONE STEP OF THE PURE MACHINE IS ONE OF THE MACHINE -/
section INV2
variable {r : zE} {h g : zH}
theorem zbind_inv {α β : Type} {x : Option α} {f : α → Option β} {q : β} (e : x.bind f = some q) : ∃ v, x = some v ∧ f v = some q := by
  cases x with
  | none => cases e
  | some v => exact ⟨v, rfl, e⟩
theorem zif_inv {β : Type} {c : Prop} [Decidable c] {x : Option β} {q : β} (e : (if c then x else none) = some q) : c ∧ x = some q := by
  by_cases hc : c
  · rw [if_pos hc] at e; exact ⟨hc, e⟩
  · rw [if_neg hc] at e; cases e
theorem zifn_inv {β : Type} {c : Prop} [Decidable c] {x : Option β} {q : β} (e : (if c then none else x) = some q) : ¬ c ∧ x = some q := by
  by_cases hc : c
  · rw [if_pos hc] at e; cases e
  · rw [if_neg hc] at e; exact ⟨hc, e⟩
theorem zix_inv {i : Int32} {n j : Nat} (e : zix i n = some j) : vp_in i n ∧ j = i.toNatClampNeg := by
  unfold zix at e
  obtain ⟨hc, e⟩ := zifn_inv e
  cases e
  exact ⟨hc, rfl⟩
theorem zixm_inv {α : Type} {i : Int32} {n : Nat} {f : Nat → α} {x : α} (e : (zix i n).map f = some x) : vp_in i n ∧ x = f i.toNatClampNeg := by
  cases hj : zix i n with
  | none => rw [hj] at e; cases e
  | some j =>
    obtain ⟨h1, rfl⟩ := zix_inv hj
    rw [hj] at e
    cases e
    exact ⟨h1, rfl⟩
theorem zgI_inv {a ci k : Nat} {x : Int32} (e : zgI r h a ci k = some x) : ∃ fs, zget r h a = some (.inr (.inr (ci, fs))) ∧ fs[k]? = some (.int x) := by
  unfold zgI at e
  split at e
  · rename_i c fs hz
    by_cases hci : c = ci
    · subst hci
      rw [if_pos rfl] at e
      split at e
      · rename_i y hy
        cases e
        exact ⟨fs, hz, hy⟩
      · cases e
    · rw [if_neg hci] at e; cases e
  · cases e
theorem zgL_inv {a ci k : Nat} {x : Int64} (e : zgL r h a ci k = some x) : ∃ fs, zget r h a = some (.inr (.inr (ci, fs))) ∧ fs[k]? = some (.long x) := by
  unfold zgL at e
  split at e
  · rename_i c fs hz
    by_cases hci : c = ci
    · subst hci
      rw [if_pos rfl] at e
      split at e
      · rename_i y hy
        cases e
        exact ⟨fs, hz, hy⟩
      · cases e
    · rw [if_neg hci] at e; cases e
  · cases e
theorem zgR_inv {a ci k : Nat} {x : Nat} (e : zgR r h a ci k = some x) : ∃ fs, zget r h a = some (.inr (.inr (ci, fs))) ∧ fs[k]? = some (.ref x) := by
  unfold zgR at e
  split at e
  · rename_i c fs hz
    by_cases hci : c = ci
    · subst hci
      rw [if_pos rfl] at e
      split at e
      · rename_i y hy
        cases e
        exact ⟨fs, hz, hy⟩
      · cases e
    · rw [if_neg hci] at e; cases e
  · cases e
theorem zpF_inv {a ci k : Nat} {v : Value} (e : zpF r h a ci k v = some g) : ∃ fs, zget r h a = some (.inr (.inr (ci, fs))) ∧ k < fs.length ∧ g = h.set (a - r.1) (.inr (.inr (ci, fs.set k v))) := by
  unfold zpF at e
  split at e
  · rename_i c fs hz
    by_cases hci : c = ci ∧ k < fs.length
    · rw [if_pos hci] at e
      obtain ⟨rfl, hk⟩ := hci
      cases e
      exact ⟨fs, hz, hk, rfl⟩
    · rw [if_neg hci] at e; cases e
  · cases e
theorem zaI_inv {a : Nat} {i x : Int32} (e : zaI r h a i = some x) : ∃ n f, (zget r h a = some (.inl (n, f)) ∨ ¬ r.1 ≤ a ∧ r.2.1 a = some (false, n, f)) ∧ vp_in i n ∧ x = f i.toNatClampNeg := by
  unfold zaI at e
  split at e
  · rename_i ha
    split at e
    · rename_i n f hz
      exact ⟨n, f, Or.inl (by unfold zget; rw [if_pos ha]; exact hz), zixm_inv e⟩
    · cases e
  · rename_i ha
    split at e
    · rename_i n f hz
      exact ⟨n, f, Or.inr ⟨ha, hz⟩, zixm_inv e⟩
    · cases e
theorem zaC_inv {a : Nat} {i x : Int32} (e : zaC r a i = some x) : ∃ n f, (¬ r.1 ≤ a ∧ r.2.1 a = some (true, n, f)) ∧ vp_in i n ∧ x = f i.toNatClampNeg := by
  unfold zaC at e
  obtain ⟨ha, e⟩ := zifn_inv e
  split at e
  · rename_i n f hz
    exact ⟨n, f, ⟨ha, hz⟩, zixm_inv e⟩
  · cases e
theorem zaQ_inv {a : Nat} {i : Int32} {x : Option Nat} (e : zaQ r h a i = some x) : ∃ c n f, zget r h a = some (.inr (.inl (c, n, f))) ∧ (c = 4 ∨ c = 2) ∧ vp_in i n ∧ x = f i.toNatClampNeg := by
  unfold zaQ at e
  split at e
  · rename_i c n f hz
    obtain ⟨hc, e⟩ := zif_inv e
    exact ⟨c, n, f, hz, hc, zixm_inv e⟩
  · cases e
theorem zaN_inv {a N : Nat} (e : zaN r h a = some N) : (∃ f, zget r h a = some (.inl (N, f))) ∨ (∃ c f, zget r h a = some (.inr (.inl (c, N, f))) ∧ (c = 4 ∨ c = 2)) ∨ (∃ b f, ¬ r.1 ≤ a ∧ r.2.1 a = some (b, N, f)) := by
  unfold zaN at e
  split at e
  · rename_i ha
    split at e
    · rename_i n f hz
      cases e
      exact Or.inl ⟨f, by unfold zget; rw [if_pos ha]; exact hz⟩
    · rename_i c n f hz
      obtain ⟨hc, e⟩ := zif_inv e
      cases e
      exact Or.inr (Or.inl ⟨c, f, by unfold zget; rw [if_pos ha]; exact hz, hc⟩)
    · cases e
  · rename_i ha
    split at e
    · rename_i b n f hz
      cases e
      exact Or.inr (Or.inr ⟨b, f, ha, hz⟩)
    · cases e
theorem zsI_inv {a : Nat} {i x : Int32} (e : zsI r h a i x = some g) : ∃ n f, zget r h a = some (.inl (n, f)) ∧ vp_in i n ∧ g = h.set (a - r.1) (.inl (n, upd f i.toNatClampNeg x)) := by
  unfold zsI at e
  split at e
  · rename_i n f hz
    obtain ⟨h1, h2⟩ := zixm_inv e
    exact ⟨n, f, hz, h1, h2⟩
  · cases e
theorem zob_inv {a ci : Nat} (e : zob r h a ci = true) : ∃ fs, zget r h a = some (.inr (.inr (ci, fs))) := by
  unfold zob at e
  split at e
  · rename_i c fs hz
    have := of_decide_eq_true e
    subst this
    exact ⟨fs, hz⟩
  · cases e
theorem zsQ_inv {a v : Nat} {i : Int32} (e : zsQ r h a i v = some g) : ∃ c n f vs, zget r h a = some (.inr (.inl (c, n, f))) ∧ (c = 4 ∨ c = 2) ∧ zget r h v = some (.inr (.inr (c, vs))) ∧ vp_in i n ∧ g = h.set (a - r.1) (.inr (.inl (c, n, va_up f i.toNatClampNeg (some v)))) := by
  unfold zsQ at e
  split at e
  · rename_i c n f hz
    obtain ⟨⟨hc1, hc2⟩, e⟩ := zif_inv e
    obtain ⟨vs, hv⟩ := zob_inv hc1
    obtain ⟨h1, h2⟩ := zixm_inv e
    exact ⟨c, n, f, vs, hz, hc2, hv, h1, h2⟩
  · cases e
theorem zcp_inv {a0 a1 : Nat} {sp dp n : Int32} (e : zcp r h a0 sp a1 dp n = some g) : ∃ n0 f n1 f1, zget r h a0 = some (.inl (n0, f)) ∧ zget r h a1 = some (.inl (n1, f1)) ∧ ¬ (sp < 0 ∨ dp < 0 ∨ n < 0 ∨ n0 < sp.toNatClampNeg + n.toNatClampNeg ∨ n1 < dp.toNatClampNeg + n.toNatClampNeg) ∧ g = h.set (a1 - r.1) (.inl (n1, va_cpy f f1 sp.toNatClampNeg dp.toNatClampNeg n.toNatClampNeg)) := by
  unfold zcp at e
  split at e
  · rename_i n0 f n1 f1 hz hz1
    obtain ⟨hc, e⟩ := zifn_inv e
    cases e
    exact ⟨n0, f, n1, f1, hz, hz1, hc, rfl⟩
  · cases e
end INV2
section STEP
variable {l : Launch} {G : zG} {r : zE} {n : Nat} {mi pc len : Nat} {w : zL} {lv : List (Option Value)} {st : List Value} {h g : zH} {v : Option Value}
theorem zs_iadd (ih : zSnd l G r n) (hd : decode (zB mi) pc = .ok (.iadd, len)) (hA : zokA mi pc len .iadd w = true) (hq : zx r (zrun r n) (zrun r n) mi pc len .iadd w lv st h = some (v, g)) : zGo l G r mi v g pc lv st h := by
  obtain rfl := zA1 hA
  unfold zx at hq
  dsimp only at hq
  obtain ⟨x, y, t, rfl, hq2⟩ := zp2i_inv hq
  replace hq := hq2
  exact (ih _ _ _ _ _ _ _ hq).row fun hF _ _ _ _ k => lv_iadd hF.1 hF.2.1 hd k
theorem zs_isub (ih : zSnd l G r n) (hd : decode (zB mi) pc = .ok (.isub, len)) (hA : zokA mi pc len .isub w = true) (hq : zx r (zrun r n) (zrun r n) mi pc len .isub w lv st h = some (v, g)) : zGo l G r mi v g pc lv st h := by
  obtain rfl := zA1 hA
  unfold zx at hq
  dsimp only at hq
  obtain ⟨x, y, t, rfl, hq2⟩ := zp2i_inv hq
  replace hq := hq2
  exact (ih _ _ _ _ _ _ _ hq).row fun hF _ _ _ _ k => lv_isub hF.1 hF.2.1 hd k
theorem zs_imul (ih : zSnd l G r n) (hd : decode (zB mi) pc = .ok (.imul, len)) (hA : zokA mi pc len .imul w = true) (hq : zx r (zrun r n) (zrun r n) mi pc len .imul w lv st h = some (v, g)) : zGo l G r mi v g pc lv st h := by
  obtain rfl := zA1 hA
  unfold zx at hq
  dsimp only at hq
  obtain ⟨x, y, t, rfl, hq2⟩ := zp2i_inv hq
  replace hq := hq2
  exact (ih _ _ _ _ _ _ _ hq).row fun hF _ _ _ _ k => lv_imul hF.1 hF.2.1 hd k
theorem zs_iand (ih : zSnd l G r n) (hd : decode (zB mi) pc = .ok (.iand, len)) (hA : zokA mi pc len .iand w = true) (hq : zx r (zrun r n) (zrun r n) mi pc len .iand w lv st h = some (v, g)) : zGo l G r mi v g pc lv st h := by
  obtain rfl := zA1 hA
  unfold zx at hq
  dsimp only at hq
  obtain ⟨x, y, t, rfl, hq2⟩ := zp2i_inv hq
  replace hq := hq2
  exact (ih _ _ _ _ _ _ _ hq).row fun hF _ _ _ _ k => lv_iand hF.1 hF.2.1 hd k
theorem zs_ior (ih : zSnd l G r n) (hd : decode (zB mi) pc = .ok (.ior, len)) (hA : zokA mi pc len .ior w = true) (hq : zx r (zrun r n) (zrun r n) mi pc len .ior w lv st h = some (v, g)) : zGo l G r mi v g pc lv st h := by
  obtain rfl := zA1 hA
  unfold zx at hq
  dsimp only at hq
  obtain ⟨x, y, t, rfl, hq2⟩ := zp2i_inv hq
  replace hq := hq2
  exact (ih _ _ _ _ _ _ _ hq).row fun hF _ _ _ _ k => lv_ior hF.1 hF.2.1 hd k
theorem zs_ixor (ih : zSnd l G r n) (hd : decode (zB mi) pc = .ok (.ixor, len)) (hA : zokA mi pc len .ixor w = true) (hq : zx r (zrun r n) (zrun r n) mi pc len .ixor w lv st h = some (v, g)) : zGo l G r mi v g pc lv st h := by
  obtain rfl := zA1 hA
  unfold zx at hq
  dsimp only at hq
  obtain ⟨x, y, t, rfl, hq2⟩ := zp2i_inv hq
  replace hq := hq2
  exact (ih _ _ _ _ _ _ _ hq).row fun hF _ _ _ _ k => lv_ixor hF.1 hF.2.1 hd k
theorem zs_ishl (ih : zSnd l G r n) (hd : decode (zB mi) pc = .ok (.ishl, len)) (hA : zokA mi pc len .ishl w = true) (hq : zx r (zrun r n) (zrun r n) mi pc len .ishl w lv st h = some (v, g)) : zGo l G r mi v g pc lv st h := by
  obtain rfl := zA1 hA
  unfold zx at hq
  dsimp only at hq
  obtain ⟨x, y, t, rfl, hq2⟩ := zp2i_inv hq
  replace hq := hq2
  exact (ih _ _ _ _ _ _ _ hq).row fun hF _ _ _ _ k => lv_ishl hF.1 hF.2.1 hd k
theorem zs_ishr (ih : zSnd l G r n) (hd : decode (zB mi) pc = .ok (.ishr, len)) (hA : zokA mi pc len .ishr w = true) (hq : zx r (zrun r n) (zrun r n) mi pc len .ishr w lv st h = some (v, g)) : zGo l G r mi v g pc lv st h := by
  obtain rfl := zA1 hA
  unfold zx at hq
  dsimp only at hq
  obtain ⟨x, y, t, rfl, hq2⟩ := zp2i_inv hq
  replace hq := hq2
  exact (ih _ _ _ _ _ _ _ hq).row fun hF _ _ _ _ k => lv_ishr hF.1 hF.2.1 hd k
theorem zs_iushr (ih : zSnd l G r n) (hd : decode (zB mi) pc = .ok (.iushr, len)) (hA : zokA mi pc len .iushr w = true) (hq : zx r (zrun r n) (zrun r n) mi pc len .iushr w lv st h = some (v, g)) : zGo l G r mi v g pc lv st h := by
  obtain rfl := zA1 hA
  unfold zx at hq
  dsimp only at hq
  obtain ⟨x, y, t, rfl, hq2⟩ := zp2i_inv hq
  replace hq := hq2
  exact (ih _ _ _ _ _ _ _ hq).row fun hF _ _ _ _ k => lv_iushr hF.1 hF.2.1 hd rfl k
theorem zs_idiv (ih : zSnd l G r n) (hd : decode (zB mi) pc = .ok (.idiv, len)) (hA : zokA mi pc len .idiv w = true) (hq : zx r (zrun r n) (zrun r n) mi pc len .idiv w lv st h = some (v, g)) : zGo l G r mi v g pc lv st h := by
  obtain rfl := zA1 hA
  unfold zx at hq
  dsimp only at hq
  obtain ⟨x, y, t, rfl, hq2⟩ := zp2i_inv hq
  replace hq := hq2
  obtain ⟨hc, hq⟩ := zifn_inv hq
  exact (ih _ _ _ _ _ _ _ hq).row fun hF _ _ _ _ k => lv_idiv hF.1 hF.2.1 hd hc k
theorem zs_irem (ih : zSnd l G r n) (hd : decode (zB mi) pc = .ok (.irem, len)) (hA : zokA mi pc len .irem w = true) (hq : zx r (zrun r n) (zrun r n) mi pc len .irem w lv st h = some (v, g)) : zGo l G r mi v g pc lv st h := by
  obtain rfl := zA1 hA
  unfold zx at hq
  dsimp only at hq
  obtain ⟨x, y, t, rfl, hq2⟩ := zp2i_inv hq
  replace hq := hq2
  obtain ⟨hc, hq⟩ := zifn_inv hq
  exact (ih _ _ _ _ _ _ _ hq).row fun hF _ _ _ _ k => lv_irem hF.1 hF.2.1 hd hc k
theorem zs_ladd (ih : zSnd l G r n) (hd : decode (zB mi) pc = .ok (.ladd, len)) (hA : zokA mi pc len .ladd w = true) (hq : zx r (zrun r n) (zrun r n) mi pc len .ladd w lv st h = some (v, g)) : zGo l G r mi v g pc lv st h := by
  obtain rfl := zA1 hA
  unfold zx at hq
  dsimp only at hq
  obtain ⟨x, y, t, rfl, hq2⟩ := zp2l_inv hq
  replace hq := hq2
  exact (ih _ _ _ _ _ _ _ hq).row fun hF _ _ _ _ k => lv_ladd hF.1 hF.2.1 hd k
theorem zs_lmul (ih : zSnd l G r n) (hd : decode (zB mi) pc = .ok (.lmul, len)) (hA : zokA mi pc len .lmul w = true) (hq : zx r (zrun r n) (zrun r n) mi pc len .lmul w lv st h = some (v, g)) : zGo l G r mi v g pc lv st h := by
  obtain rfl := zA1 hA
  unfold zx at hq
  dsimp only at hq
  obtain ⟨x, y, t, rfl, hq2⟩ := zp2l_inv hq
  replace hq := hq2
  exact (ih _ _ _ _ _ _ _ hq).row fun hF _ _ _ _ k => lv_lmul hF.1 hF.2.1 hd k
theorem zs_ldiv (ih : zSnd l G r n) (hd : decode (zB mi) pc = .ok (.ldiv, len)) (hA : zokA mi pc len .ldiv w = true) (hq : zx r (zrun r n) (zrun r n) mi pc len .ldiv w lv st h = some (v, g)) : zGo l G r mi v g pc lv st h := by
  obtain rfl := zA1 hA
  unfold zx at hq
  dsimp only at hq
  obtain ⟨x, y, t, rfl, hq2⟩ := zp2l_inv hq
  replace hq := hq2
  obtain ⟨hc, hq⟩ := zifn_inv hq
  exact (ih _ _ _ _ _ _ _ hq).row fun hF _ _ _ _ k => lv_ldiv hF.1 hF.2.1 hd hc k
theorem zs_lrem (ih : zSnd l G r n) (hd : decode (zB mi) pc = .ok (.lrem, len)) (hA : zokA mi pc len .lrem w = true) (hq : zx r (zrun r n) (zrun r n) mi pc len .lrem w lv st h = some (v, g)) : zGo l G r mi v g pc lv st h := by
  obtain rfl := zA1 hA
  unfold zx at hq
  dsimp only at hq
  obtain ⟨x, y, t, rfl, hq2⟩ := zp2l_inv hq
  replace hq := hq2
  obtain ⟨hc, hq⟩ := zifn_inv hq
  exact (ih _ _ _ _ _ _ _ hq).row fun hF _ _ _ _ k => lv_lrem hF.1 hF.2.1 hd hc k
theorem zs_lcmp (ih : zSnd l G r n) (hd : decode (zB mi) pc = .ok (.lcmp, len)) (hA : zokA mi pc len .lcmp w = true) (hq : zx r (zrun r n) (zrun r n) mi pc len .lcmp w lv st h = some (v, g)) : zGo l G r mi v g pc lv st h := by
  obtain rfl := zA1 hA
  unfold zx at hq
  dsimp only at hq
  obtain ⟨x, y, t, rfl, hq2⟩ := zp2l_inv hq
  replace hq := hq2
  exact (ih _ _ _ _ _ _ _ hq).row fun hF _ _ _ _ k => W.lcmp hF.1 hF.2.1 hd k
theorem zs_ineg (ih : zSnd l G r n) (hd : decode (zB mi) pc = .ok (.ineg, len)) (hA : zokA mi pc len .ineg w = true) (hq : zx r (zrun r n) (zrun r n) mi pc len .ineg w lv st h = some (v, g)) : zGo l G r mi v g pc lv st h := by
  obtain rfl := zA1 hA
  unfold zx at hq
  dsimp only at hq
  obtain ⟨x, t, rfl, hq2⟩ := zp1i_inv hq
  replace hq := hq2
  exact (ih _ _ _ _ _ _ _ hq).row fun hF _ _ _ _ k => lv_ineg hF.1 hF.2.1 hd k
theorem zs_lneg (ih : zSnd l G r n) (hd : decode (zB mi) pc = .ok (.lneg, len)) (hA : zokA mi pc len .lneg w = true) (hq : zx r (zrun r n) (zrun r n) mi pc len .lneg w lv st h = some (v, g)) : zGo l G r mi v g pc lv st h := by
  obtain rfl := zA1 hA
  unfold zx at hq
  dsimp only at hq
  obtain ⟨x, t, rfl, hq2⟩ := zp1l_inv hq
  replace hq := hq2
  exact (ih _ _ _ _ _ _ _ hq).row fun hF _ _ _ _ k => lv_lneg hF.1 hF.2.1 hd k
theorem zs_i2l (ih : zSnd l G r n) (hd : decode (zB mi) pc = .ok (.i2l, len)) (hA : zokA mi pc len .i2l w = true) (hq : zx r (zrun r n) (zrun r n) mi pc len .i2l w lv st h = some (v, g)) : zGo l G r mi v g pc lv st h := by
  obtain rfl := zA1 hA
  unfold zx at hq
  dsimp only at hq
  obtain ⟨x, t, rfl, hq2⟩ := zp1i_inv hq
  replace hq := hq2
  exact (ih _ _ _ _ _ _ _ hq).row fun hF _ _ _ _ k => lv_i2l hF.1 hF.2.1 hd rfl k
theorem zs_l2i (ih : zSnd l G r n) (hd : decode (zB mi) pc = .ok (.l2i, len)) (hA : zokA mi pc len .l2i w = true) (hq : zx r (zrun r n) (zrun r n) mi pc len .l2i w lv st h = some (v, g)) : zGo l G r mi v g pc lv st h := by
  obtain rfl := zA1 hA
  unfold zx at hq
  dsimp only at hq
  obtain ⟨x, t, rfl, hq2⟩ := zp1l_inv hq
  replace hq := hq2
  exact (ih _ _ _ _ _ _ _ hq).row fun hF _ _ _ _ k => lv_l2i hF.1 hF.2.1 hd rfl k
theorem zs_i2b (ih : zSnd l G r n) (hd : decode (zB mi) pc = .ok (.i2b, len)) (hA : zokA mi pc len .i2b w = true) (hq : zx r (zrun r n) (zrun r n) mi pc len .i2b w lv st h = some (v, g)) : zGo l G r mi v g pc lv st h := by
  obtain rfl := zA1 hA
  unfold zx at hq
  dsimp only at hq
  obtain ⟨x, t, rfl, hq2⟩ := zp1i_inv hq
  replace hq := hq2
  exact (ih _ _ _ _ _ _ _ hq).row fun hF _ _ _ _ k => lv_i2b hF.1 hF.2.1 hd rfl k
theorem zs_dup (ih : zSnd l G r n) (hd : decode (zB mi) pc = .ok (.dup, len)) (hA : zokA mi pc len .dup w = true) (hq : zx r (zrun r n) (zrun r n) mi pc len .dup w lv st h = some (v, g)) : zGo l G r mi v g pc lv st h := by
  obtain rfl := zA1 hA
  unfold zx at hq
  dsimp only at hq
  obtain ⟨u, t, rfl, hc, hq2⟩ := zp1v_inv hq
  replace hq := hq2
  exact (ih _ _ _ _ _ _ _ hq).row fun hF _ _ _ _ k => lv_dup hF.1 hF.2.1 hd hc k
theorem zs_pop (ih : zSnd l G r n) (hd : decode (zB mi) pc = .ok (.pop, len)) (hA : zokA mi pc len .pop w = true) (hq : zx r (zrun r n) (zrun r n) mi pc len .pop w lv st h = some (v, g)) : zGo l G r mi v g pc lv st h := by
  obtain rfl := zA1 hA
  unfold zx at hq
  dsimp only at hq
  obtain ⟨u, t, rfl, hc, hq2⟩ := zp1v_inv hq
  replace hq := hq2
  exact (ih _ _ _ _ _ _ _ hq).row fun hF _ _ _ _ k => lv_pop hF.1 hF.2.1 hd hc k
theorem zs_dup2 (ih : zSnd l G r n) (hd : decode (zB mi) pc = .ok (.dup2, len)) (hA : zokA mi pc len .dup2 w = true) (hq : zx r (zrun r n) (zrun r n) mi pc len .dup2 w lv st h = some (v, g)) : zGo l G r mi v g pc lv st h := by
  obtain rfl := zA1 hA
  unfold zx at hq
  dsimp only at hq
  obtain ⟨u, u2, t, rfl, hc, hq2⟩ := zp2v_inv hq
  replace hq := hq2
  exact (ih _ _ _ _ _ _ _ hq).row fun hF _ _ _ _ k => lv_dup2_11 hF.1 hF.2.1 hd hc.1 hc.2 k
theorem zs_iconst {i : Int} (ih : zSnd l G r n) (hd : decode (zB mi) pc = .ok ((.iconst i), len)) (hA : zokA mi pc len (.iconst i) w = true) (hq : zx r (zrun r n) (zrun r n) mi pc len (.iconst i) w lv st h = some (v, g)) : zGo l G r mi v g pc lv st h := by
  obtain rfl := zA1 hA
  unfold zx at hq
  dsimp only at hq
  exact (ih _ _ _ _ _ _ _ hq).row fun hF _ _ _ _ k => lv_iconst hF.1 hF.2.1 hd rfl k
theorem zs_lconst {i : Fin 2} (ih : zSnd l G r n) (hd : decode (zB mi) pc = .ok ((.lconst i), len)) (hA : zokA mi pc len (.lconst i) w = true) (hq : zx r (zrun r n) (zrun r n) mi pc len (.lconst i) w lv st h = some (v, g)) : zGo l G r mi v g pc lv st h := by
  obtain rfl := zA1 hA
  unfold zx at hq
  dsimp only at hq
  exact (ih _ _ _ _ _ _ _ hq).row fun hF _ _ _ _ k => lv_lconst hF.1 hF.2.1 hd rfl k
theorem zs_bipush {i : Int} (ih : zSnd l G r n) (hd : decode (zB mi) pc = .ok ((.bipush i), len)) (hA : zokA mi pc len (.bipush i) w = true) (hq : zx r (zrun r n) (zrun r n) mi pc len (.bipush i) w lv st h = some (v, g)) : zGo l G r mi v g pc lv st h := by
  obtain rfl := zA2 hA
  unfold zx at hq
  dsimp only at hq
  exact (ih _ _ _ _ _ _ _ hq).row fun hF _ _ _ _ k => lv_bipush hF.1 hF.2.1 hd (zAdc hA) k
theorem zs_sipush {i : Int} (ih : zSnd l G r n) (hd : decode (zB mi) pc = .ok ((.sipush i), len)) (hA : zokA mi pc len (.sipush i) w = true) (hq : zx r (zrun r n) (zrun r n) mi pc len (.sipush i) w lv st h = some (v, g)) : zGo l G r mi v g pc lv st h := by
  obtain rfl := zA3 hA
  unfold zx at hq
  dsimp only at hq
  exact (ih _ _ _ _ _ _ _ hq).row fun hF _ _ _ _ k => lv_sipush hF.1 hF.2.1 hd (zAdc hA) k
theorem zs_ldc_w {i : Nat} {u : List Nat} (ih : zSnd l G r n) (hd : decode (zB mi) pc = .ok ((.ldc_w i), len)) (hA : zokA mi pc len (.ldc_w i) w = true) (hB : zokB mi (.ldc_w i) w u = true) (hq : zx r (zrun r n) (zrun r n) mi pc len (.ldc_w i) w lv st h = some (v, g)) : zGo l G r mi v g pc lv st h := by
  obtain rfl := zA3 hA
  unfold zx at hq
  dsimp only at hq
  exact (ih _ _ _ _ _ _ _ hq).row fun hF _ _ _ _ k => lv_ldcw hF.1 hF.2.1 hF.2.2.2.1 (hF.2.2.2.2.1 _ (zgt_of (zmem_in hB) rfl)) hd k
theorem zs_ldc2_w {i : Nat} {u : List Nat} (ih : zSnd l G r n) (hd : decode (zB mi) pc = .ok ((.ldc2_w i), len)) (hA : zokA mi pc len (.ldc2_w i) w = true) (hB : zokB mi (.ldc2_w i) w u = true) (hq : zx r (zrun r n) (zrun r n) mi pc len (.ldc2_w i) w lv st h = some (v, g)) : zGo l G r mi v g pc lv st h := by
  obtain rfl := zA3 hA
  unfold zx at hq
  dsimp only at hq
  exact (ih _ _ _ _ _ _ _ hq).row fun hF _ _ _ _ k => lv_ldc2 hF.1 hF.2.1 hF.2.2.2.1 (hF.2.2.2.2.1 _ (zgt_of (zmem_in hB) rfl)) hd k
theorem zs_null (ih : zSnd l G r n) (hd : decode (zB mi) pc = .ok (.aconst_null, len)) (hA : zokA mi pc len .aconst_null w = true) (hq : zx r (zrun r n) (zrun r n) mi pc len .aconst_null w lv st h = some (v, g)) : zGo l G r mi v g pc lv st h := by
  obtain rfl := zA1 hA
  unfold zx at hq
  dsimp only at hq
  exact (ih _ _ _ _ _ _ _ hq).row fun hF _ _ _ _ k => lv_null hF.1 hF.2.1 hd k
theorem zs_iload {i : Nat} (ih : zSnd l G r n) (hd : decode (zB mi) pc = .ok ((.iload i), len)) (hA : zokA mi pc len (.iload i) w = true) (hq : zx r (zrun r n) (zrun r n) mi pc len (.iload i) w lv st h = some (v, g)) : zGo l G r mi v g pc lv st h := by
  obtain rfl := zA2 hA
  unfold zx at hq
  dsimp only at hq
  obtain ⟨x, e, hq⟩ := zli_inv hq
  exact (ih _ _ _ _ _ _ _ hq).row fun hF hL _ _ _ k => lv_iload hF.1 hF.2.1 hd (hL.2.2.2 _ _ e) k
theorem zs_iload_n {i : Fin 4} (ih : zSnd l G r n) (hd : decode (zB mi) pc = .ok ((.iload_n i), len)) (hA : zokA mi pc len (.iload_n i) w = true) (hq : zx r (zrun r n) (zrun r n) mi pc len (.iload_n i) w lv st h = some (v, g)) : zGo l G r mi v g pc lv st h := by
  obtain rfl := zA1 hA
  unfold zx at hq
  dsimp only at hq
  obtain ⟨x, e, hq⟩ := zli_inv hq
  exact (ih _ _ _ _ _ _ _ hq).row fun hF hL _ _ _ k => lv_iload_n hF.1 hF.2.1 hd rfl (hL.2.2.2 _ _ e) k
theorem zs_lload {i : Nat} (ih : zSnd l G r n) (hd : decode (zB mi) pc = .ok ((.lload i), len)) (hA : zokA mi pc len (.lload i) w = true) (hq : zx r (zrun r n) (zrun r n) mi pc len (.lload i) w lv st h = some (v, g)) : zGo l G r mi v g pc lv st h := by
  obtain rfl := zA2 hA
  unfold zx at hq
  dsimp only at hq
  obtain ⟨x, e, hq⟩ := zll_inv hq
  exact (ih _ _ _ _ _ _ _ hq).row fun hF hL _ _ _ k => lv_lload hF.1 hF.2.1 hd (hL.2.2.2 _ _ e) k
theorem zs_lload_n {i : Fin 4} (ih : zSnd l G r n) (hd : decode (zB mi) pc = .ok ((.lload_n i), len)) (hA : zokA mi pc len (.lload_n i) w = true) (hq : zx r (zrun r n) (zrun r n) mi pc len (.lload_n i) w lv st h = some (v, g)) : zGo l G r mi v g pc lv st h := by
  obtain rfl := zA1 hA
  unfold zx at hq
  dsimp only at hq
  obtain ⟨x, e, hq⟩ := zll_inv hq
  exact (ih _ _ _ _ _ _ _ hq).row fun hF hL _ _ _ k => lv_lload_n hF.1 hF.2.1 hd rfl (hL.2.2.2 _ _ e) k
theorem zs_aload {i : Nat} (ih : zSnd l G r n) (hd : decode (zB mi) pc = .ok ((.aload i), len)) (hA : zokA mi pc len (.aload i) w = true) (hq : zx r (zrun r n) (zrun r n) mi pc len (.aload i) w lv st h = some (v, g)) : zGo l G r mi v g pc lv st h := by
  obtain rfl := zA2 hA
  unfold zx at hq
  dsimp only at hq
  obtain ⟨x, e, hq⟩ := zlq_inv hq
  cases x with
  | none => exact (ih _ _ _ _ _ _ _ hq).row fun hF hL _ _ _ k => lv_aloadN hF.1 hF.2.1 hd (hL.2.2.2 _ _ e) k
  | some x => exact (ih _ _ _ _ _ _ _ hq).row fun hF hL _ _ _ k => lv_aload hF.1 hF.2.1 hd (hL.2.2.2 _ _ e) k
theorem zs_aload_n {i : Fin 4} (ih : zSnd l G r n) (hd : decode (zB mi) pc = .ok ((.aload_n i), len)) (hA : zokA mi pc len (.aload_n i) w = true) (hq : zx r (zrun r n) (zrun r n) mi pc len (.aload_n i) w lv st h = some (v, g)) : zGo l G r mi v g pc lv st h := by
  obtain rfl := zA1 hA
  unfold zx at hq
  dsimp only at hq
  obtain ⟨x, e, hq⟩ := zlq_inv hq
  cases x with
  | none => exact (ih _ _ _ _ _ _ _ hq).row fun hF hL _ _ _ k => lv_aload_nN hF.1 hF.2.1 hd rfl (hL.2.2.2 _ _ e) k
  | some x => exact (ih _ _ _ _ _ _ _ hq).row fun hF hL _ _ _ k => lv_aload_n hF.1 hF.2.1 hd rfl (hL.2.2.2 _ _ e) k
theorem zs_istore {i : Nat} (ih : zSnd l G r n) (hd : decode (zB mi) pc = .ok ((.istore i), len)) (hA : zokA mi pc len (.istore i) w = true) (hq : zx r (zrun r n) (zrun r n) mi pc len (.istore i) w lv st h = some (v, g)) : zGo l G r mi v g pc lv st h := by
  obtain rfl := zA2 hA
  unfold zx at hq
  dsimp only at hq
  obtain ⟨x, t, rfl, hq2⟩ := zp1i_inv hq
  replace hq := hq2
  obtain ⟨hi, hq⟩ := zs1_inv hq
  exact zGo.store (fun hx hb a b c k => lv_istore hx hb hd a b c k) hi (ih _ _ _ _ _ _ _ hq)
theorem zs_istore_n {i : Fin 4} (ih : zSnd l G r n) (hd : decode (zB mi) pc = .ok ((.istore_n i), len)) (hA : zokA mi pc len (.istore_n i) w = true) (hq : zx r (zrun r n) (zrun r n) mi pc len (.istore_n i) w lv st h = some (v, g)) : zGo l G r mi v g pc lv st h := by
  obtain rfl := zA1 hA
  unfold zx at hq
  dsimp only at hq
  obtain ⟨x, t, rfl, hq2⟩ := zp1i_inv hq
  replace hq := hq2
  obtain ⟨hi, hq⟩ := zs1_inv hq
  exact zGo.store (fun hx hb a b c k => lv_istore_n hx hb hd rfl a b c k) hi (ih _ _ _ _ _ _ _ hq)
theorem zs_lstore {i : Nat} (ih : zSnd l G r n) (hd : decode (zB mi) pc = .ok ((.lstore i), len)) (hA : zokA mi pc len (.lstore i) w = true) (hq : zx r (zrun r n) (zrun r n) mi pc len (.lstore i) w lv st h = some (v, g)) : zGo l G r mi v g pc lv st h := by
  obtain rfl := zA2 hA
  unfold zx at hq
  dsimp only at hq
  obtain ⟨x, t, rfl, hq2⟩ := zp1l_inv hq
  replace hq := hq2
  obtain ⟨hi, hq⟩ := zs2_inv hq
  exact zGo.store2 (fun hx hb a b c k => lv_lstore hx hb hd a b c k) hi (ih _ _ _ _ _ _ _ hq)
theorem zs_lstore_n {i : Fin 4} (ih : zSnd l G r n) (hd : decode (zB mi) pc = .ok ((.lstore_n i), len)) (hA : zokA mi pc len (.lstore_n i) w = true) (hq : zx r (zrun r n) (zrun r n) mi pc len (.lstore_n i) w lv st h = some (v, g)) : zGo l G r mi v g pc lv st h := by
  obtain rfl := zA1 hA
  unfold zx at hq
  dsimp only at hq
  obtain ⟨x, t, rfl, hq2⟩ := zp1l_inv hq
  replace hq := hq2
  obtain ⟨hi, hq⟩ := zs2_inv hq
  exact zGo.store2 (fun hx hb a b c k => lv_lstore_n hx hb hd rfl a b c k) hi (ih _ _ _ _ _ _ _ hq)
theorem zs_astore {i : Nat} (ih : zSnd l G r n) (hd : decode (zB mi) pc = .ok ((.astore i), len)) (hA : zokA mi pc len (.astore i) w = true) (hq : zx r (zrun r n) (zrun r n) mi pc len (.astore i) w lv st h = some (v, g)) : zGo l G r mi v g pc lv st h := by
  obtain rfl := zA2 hA
  unfold zx at hq
  dsimp only at hq
  obtain ⟨x, t, rfl, hq2⟩ := zp1q_inv hq
  replace hq := hq2
  obtain ⟨hi, hq⟩ := zs1_inv hq
  cases x with
  | none => exact zGo.store (fun hx hb a b c k => lv_astoreN hx hb hd a b c k) hi (ih _ _ _ _ _ _ _ hq)
  | some x => exact zGo.store (fun hx hb a b c k => lv_astore hx hb hd a b c k) hi (ih _ _ _ _ _ _ _ hq)
theorem zs_astore_n {i : Fin 4} (ih : zSnd l G r n) (hd : decode (zB mi) pc = .ok ((.astore_n i), len)) (hA : zokA mi pc len (.astore_n i) w = true) (hq : zx r (zrun r n) (zrun r n) mi pc len (.astore_n i) w lv st h = some (v, g)) : zGo l G r mi v g pc lv st h := by
  obtain rfl := zA1 hA
  unfold zx at hq
  dsimp only at hq
  obtain ⟨x, t, rfl, hq2⟩ := zp1q_inv hq
  replace hq := hq2
  obtain ⟨hi, hq⟩ := zs1_inv hq
  cases x with
  | none => exact zGo.store (fun hx hb a b c k => lv_astore_nN hx hb hd rfl a b c k) hi (ih _ _ _ _ _ _ _ hq)
  | some x => exact zGo.store (fun hx hb a b c k => lv_astore_n hx hb hd rfl a b c k) hi (ih _ _ _ _ _ _ _ hq)
theorem zs_iinc {i : Nat} {c : Int} (ih : zSnd l G r n) (hd : decode (zB mi) pc = .ok ((.iinc i c), len)) (hA : zokA mi pc len (.iinc i c) w = true) (hq : zx r (zrun r n) (zrun r n) mi pc len (.iinc i c) w lv st h = some (v, g)) : zGo l G r mi v g pc lv st h := by
  obtain rfl := zA3 hA
  unfold zx at hq
  dsimp only at hq
  obtain ⟨x, e, hq⟩ := zli_inv hq
  obtain ⟨hi, hq⟩ := zs1_inv hq
  obtain ⟨j, hj⟩ := List.getElem?_of_mem (zal_mem.mpr e)
  exact zGo.rowL (fun hF hL kk => lv_iinc hF.1 hF.2.1 hd hL.has hj rfl (by rw [← hL.2.1]; exact hi) rfl fun ls2 hs => kk ls2 (hL.of1 hi hs)) (ih _ _ _ _ _ _ _ hq)
theorem zs_if_eq {off : Int} (ih : zSnd l G r n) (hd : decode (zB mi) pc = .ok ((.ifCond .eq off), len)) (hA : zokA mi pc len (.ifCond .eq off) w = true) (hq : zx r (zrun r n) (zrun r n) mi pc len (.ifCond .eq off) w lv st h = some (v, g)) : zGo l G r mi v g pc lv st h := by
  obtain rfl := zA3 hA
  unfold zx at hq
  dsimp only at hq
  obtain ⟨x, t, rfl, hq2⟩ := zp1i_inv hq
  replace hq := hq2
  by_cases c : x = 0
  · rw [if_pos c] at hq
    exact (ih _ _ _ _ _ _ _ hq).row fun hF _ _ _ _ k => lv_if_eq hF.1 hF.2.1 hd (zAdc hA) (fun _ => k) (fun c' => absurd c c')
  · rw [if_neg c] at hq
    exact (ih _ _ _ _ _ _ _ hq).row fun hF _ _ _ _ k => lv_if_eq hF.1 hF.2.1 hd (zAdc hA) (fun c' => absurd c' c) (fun _ => k)
theorem zs_if_ne {off : Int} (ih : zSnd l G r n) (hd : decode (zB mi) pc = .ok ((.ifCond .ne off), len)) (hA : zokA mi pc len (.ifCond .ne off) w = true) (hq : zx r (zrun r n) (zrun r n) mi pc len (.ifCond .ne off) w lv st h = some (v, g)) : zGo l G r mi v g pc lv st h := by
  obtain rfl := zA3 hA
  unfold zx at hq
  dsimp only at hq
  obtain ⟨x, t, rfl, hq2⟩ := zp1i_inv hq
  replace hq := hq2
  by_cases c : x = 0
  · rw [if_pos c] at hq
    exact (ih _ _ _ _ _ _ _ hq).row fun hF _ _ _ _ k => lv_if_ne hF.1 hF.2.1 hd (zAdc hA) (fun c' => absurd c' (fun q => q c)) (fun _ => k)
  · rw [if_neg c] at hq
    exact (ih _ _ _ _ _ _ _ hq).row fun hF _ _ _ _ k => lv_if_ne hF.1 hF.2.1 hd (zAdc hA) (fun _ => k) (fun c' => absurd c' c)
theorem zs_if_lt {off : Int} (ih : zSnd l G r n) (hd : decode (zB mi) pc = .ok ((.ifCond .lt off), len)) (hA : zokA mi pc len (.ifCond .lt off) w = true) (hq : zx r (zrun r n) (zrun r n) mi pc len (.ifCond .lt off) w lv st h = some (v, g)) : zGo l G r mi v g pc lv st h := by
  obtain rfl := zA3 hA
  unfold zx at hq
  dsimp only at hq
  obtain ⟨x, t, rfl, hq2⟩ := zp1i_inv hq
  replace hq := hq2
  by_cases c : x < 0
  · rw [if_pos c] at hq
    exact (ih _ _ _ _ _ _ _ hq).row fun hF _ _ _ _ k => lv_if_lt hF.1 hF.2.1 hd (zAdc hA) (fun _ => k) (fun c' => absurd c c')
  · rw [if_neg c] at hq
    exact (ih _ _ _ _ _ _ _ hq).row fun hF _ _ _ _ k => lv_if_lt hF.1 hF.2.1 hd (zAdc hA) (fun c' => absurd c' c) (fun _ => k)
theorem zs_if_ge {off : Int} (ih : zSnd l G r n) (hd : decode (zB mi) pc = .ok ((.ifCond .ge off), len)) (hA : zokA mi pc len (.ifCond .ge off) w = true) (hq : zx r (zrun r n) (zrun r n) mi pc len (.ifCond .ge off) w lv st h = some (v, g)) : zGo l G r mi v g pc lv st h := by
  obtain rfl := zA3 hA
  unfold zx at hq
  dsimp only at hq
  obtain ⟨x, t, rfl, hq2⟩ := zp1i_inv hq
  replace hq := hq2
  by_cases c : x < 0
  · rw [if_pos c] at hq
    exact (ih _ _ _ _ _ _ _ hq).row fun hF _ _ _ _ k => lv_if_ge hF.1 hF.2.1 hd (zAdc hA) (fun c' => absurd c' (Int32.not_le.mpr c)) (fun _ => k)
  · rw [if_neg c] at hq
    exact (ih _ _ _ _ _ _ _ hq).row fun hF _ _ _ _ k => lv_if_ge hF.1 hF.2.1 hd (zAdc hA) (fun _ => k) (fun c' => absurd (Int32.not_lt.mp c) c')
theorem zs_if_gt {off : Int} (ih : zSnd l G r n) (hd : decode (zB mi) pc = .ok ((.ifCond .gt off), len)) (hA : zokA mi pc len (.ifCond .gt off) w = true) (hq : zx r (zrun r n) (zrun r n) mi pc len (.ifCond .gt off) w lv st h = some (v, g)) : zGo l G r mi v g pc lv st h := by
  obtain rfl := zA3 hA
  unfold zx at hq
  dsimp only at hq
  obtain ⟨x, t, rfl, hq2⟩ := zp1i_inv hq
  replace hq := hq2
  by_cases c : 0 < x
  · rw [if_pos c] at hq
    exact (ih _ _ _ _ _ _ _ hq).row fun hF _ _ _ _ k => lv_if_gt hF.1 hF.2.1 hd (zAdc hA) (fun _ => k) (fun c' => absurd c c')
  · rw [if_neg c] at hq
    exact (ih _ _ _ _ _ _ _ hq).row fun hF _ _ _ _ k => lv_if_gt hF.1 hF.2.1 hd (zAdc hA) (fun c' => absurd c' c) (fun _ => k)
theorem zs_if_le {off : Int} (ih : zSnd l G r n) (hd : decode (zB mi) pc = .ok ((.ifCond .le off), len)) (hA : zokA mi pc len (.ifCond .le off) w = true) (hq : zx r (zrun r n) (zrun r n) mi pc len (.ifCond .le off) w lv st h = some (v, g)) : zGo l G r mi v g pc lv st h := by
  obtain rfl := zA3 hA
  unfold zx at hq
  dsimp only at hq
  obtain ⟨x, t, rfl, hq2⟩ := zp1i_inv hq
  replace hq := hq2
  by_cases c : 0 < x
  · rw [if_pos c] at hq
    exact (ih _ _ _ _ _ _ _ hq).row fun hF _ _ _ _ k => lv_if_le hF.1 hF.2.1 hd (zAdc hA) (fun c' => absurd c' (Int32.not_le.mpr c)) (fun _ => k)
  · rw [if_neg c] at hq
    exact (ih _ _ _ _ _ _ _ hq).row fun hF _ _ _ _ k => lv_if_le hF.1 hF.2.1 hd (zAdc hA) (fun _ => k) (fun c' => absurd (Int32.not_lt.mp c) c')
theorem zs_ic_eq {off : Int} (ih : zSnd l G r n) (hd : decode (zB mi) pc = .ok ((.if_icmp .eq off), len)) (hA : zokA mi pc len (.if_icmp .eq off) w = true) (hq : zx r (zrun r n) (zrun r n) mi pc len (.if_icmp .eq off) w lv st h = some (v, g)) : zGo l G r mi v g pc lv st h := by
  obtain rfl := zA3 hA
  unfold zx at hq
  dsimp only at hq
  obtain ⟨x, y, t, rfl, hq2⟩ := zp2i_inv hq
  replace hq := hq2
  by_cases c : x = y
  · rw [if_pos c] at hq
    exact (ih _ _ _ _ _ _ _ hq).row fun hF _ _ _ _ k => lv_icmp_eq hF.1 hF.2.1 hd (zAdc hA) (fun _ => k) (fun c' => absurd c c')
  · rw [if_neg c] at hq
    exact (ih _ _ _ _ _ _ _ hq).row fun hF _ _ _ _ k => lv_icmp_eq hF.1 hF.2.1 hd (zAdc hA) (fun c' => absurd c' c) (fun _ => k)
theorem zs_ic_ne {off : Int} (ih : zSnd l G r n) (hd : decode (zB mi) pc = .ok ((.if_icmp .ne off), len)) (hA : zokA mi pc len (.if_icmp .ne off) w = true) (hq : zx r (zrun r n) (zrun r n) mi pc len (.if_icmp .ne off) w lv st h = some (v, g)) : zGo l G r mi v g pc lv st h := by
  obtain rfl := zA3 hA
  unfold zx at hq
  dsimp only at hq
  obtain ⟨x, y, t, rfl, hq2⟩ := zp2i_inv hq
  replace hq := hq2
  by_cases c : x = y
  · rw [if_pos c] at hq
    exact (ih _ _ _ _ _ _ _ hq).row fun hF _ _ _ _ k => lv_icmp_ne hF.1 hF.2.1 hd (zAdc hA) (fun c' => absurd c' (fun q => q c)) (fun _ => k)
  · rw [if_neg c] at hq
    exact (ih _ _ _ _ _ _ _ hq).row fun hF _ _ _ _ k => lv_icmp_ne hF.1 hF.2.1 hd (zAdc hA) (fun _ => k) (fun c' => absurd c' c)
theorem zs_ic_lt {off : Int} (ih : zSnd l G r n) (hd : decode (zB mi) pc = .ok ((.if_icmp .lt off), len)) (hA : zokA mi pc len (.if_icmp .lt off) w = true) (hq : zx r (zrun r n) (zrun r n) mi pc len (.if_icmp .lt off) w lv st h = some (v, g)) : zGo l G r mi v g pc lv st h := by
  obtain rfl := zA3 hA
  unfold zx at hq
  dsimp only at hq
  obtain ⟨x, y, t, rfl, hq2⟩ := zp2i_inv hq
  replace hq := hq2
  by_cases c : x < y
  · rw [if_pos c] at hq
    exact (ih _ _ _ _ _ _ _ hq).row fun hF _ _ _ _ k => lv_icmp_lt hF.1 hF.2.1 hd (zAdc hA) (fun _ => k) (fun c' => absurd c c')
  · rw [if_neg c] at hq
    exact (ih _ _ _ _ _ _ _ hq).row fun hF _ _ _ _ k => lv_icmp_lt hF.1 hF.2.1 hd (zAdc hA) (fun c' => absurd c' c) (fun _ => k)
theorem zs_ic_ge {off : Int} (ih : zSnd l G r n) (hd : decode (zB mi) pc = .ok ((.if_icmp .ge off), len)) (hA : zokA mi pc len (.if_icmp .ge off) w = true) (hq : zx r (zrun r n) (zrun r n) mi pc len (.if_icmp .ge off) w lv st h = some (v, g)) : zGo l G r mi v g pc lv st h := by
  obtain rfl := zA3 hA
  unfold zx at hq
  dsimp only at hq
  obtain ⟨x, y, t, rfl, hq2⟩ := zp2i_inv hq
  replace hq := hq2
  by_cases c : x < y
  · rw [if_pos c] at hq
    exact (ih _ _ _ _ _ _ _ hq).row fun hF _ _ _ _ k => lv_icmp_ge hF.1 hF.2.1 hd (zAdc hA) (fun c' => absurd c' (Int32.not_le.mpr c)) (fun _ => k)
  · rw [if_neg c] at hq
    exact (ih _ _ _ _ _ _ _ hq).row fun hF _ _ _ _ k => lv_icmp_ge hF.1 hF.2.1 hd (zAdc hA) (fun _ => k) (fun c' => absurd (Int32.not_lt.mp c) c')
theorem zs_ic_gt {off : Int} (ih : zSnd l G r n) (hd : decode (zB mi) pc = .ok ((.if_icmp .gt off), len)) (hA : zokA mi pc len (.if_icmp .gt off) w = true) (hq : zx r (zrun r n) (zrun r n) mi pc len (.if_icmp .gt off) w lv st h = some (v, g)) : zGo l G r mi v g pc lv st h := by
  obtain rfl := zA3 hA
  unfold zx at hq
  dsimp only at hq
  obtain ⟨x, y, t, rfl, hq2⟩ := zp2i_inv hq
  replace hq := hq2
  by_cases c : y < x
  · rw [if_pos c] at hq
    exact (ih _ _ _ _ _ _ _ hq).row fun hF _ _ _ _ k => lv_icmp_gt hF.1 hF.2.1 hd (zAdc hA) (fun _ => k) (fun c' => absurd c c')
  · rw [if_neg c] at hq
    exact (ih _ _ _ _ _ _ _ hq).row fun hF _ _ _ _ k => lv_icmp_gt hF.1 hF.2.1 hd (zAdc hA) (fun c' => absurd c' c) (fun _ => k)
theorem zs_ic_le {off : Int} (ih : zSnd l G r n) (hd : decode (zB mi) pc = .ok ((.if_icmp .le off), len)) (hA : zokA mi pc len (.if_icmp .le off) w = true) (hq : zx r (zrun r n) (zrun r n) mi pc len (.if_icmp .le off) w lv st h = some (v, g)) : zGo l G r mi v g pc lv st h := by
  obtain rfl := zA3 hA
  unfold zx at hq
  dsimp only at hq
  obtain ⟨x, y, t, rfl, hq2⟩ := zp2i_inv hq
  replace hq := hq2
  by_cases c : y < x
  · rw [if_pos c] at hq
    exact (ih _ _ _ _ _ _ _ hq).row fun hF _ _ _ _ k => lv_icmp_le hF.1 hF.2.1 hd (zAdc hA) (fun c' => absurd c' (Int32.not_le.mpr c)) (fun _ => k)
  · rw [if_neg c] at hq
    exact (ih _ _ _ _ _ _ _ hq).row fun hF _ _ _ _ k => lv_icmp_le hF.1 hF.2.1 hd (zAdc hA) (fun _ => k) (fun c' => absurd (Int32.not_lt.mp c) c')
theorem zs_goto {off : Int} (ih : zSnd l G r n) (hd : decode (zB mi) pc = .ok ((.goto off), len)) (hA : zokA mi pc len (.goto off) w = true) (hq : zx r (zrun r n) (zrun r n) mi pc len (.goto off) w lv st h = some (v, g)) : zGo l G r mi v g pc lv st h := by
  obtain rfl := zA3 hA
  unfold zx at hq
  dsimp only at hq
  exact zGo.rowL (fun hF hL kk => lv_goto hF.1 hF.2.1 hd (zAdc hA) (kk _ hL.forget)) (ih _ _ _ _ _ _ _ hq)
theorem zs_ifnull {off : Int} (ih : zSnd l G r n) (hd : decode (zB mi) pc = .ok ((.ifnull off), len)) (hA : zokA mi pc len (.ifnull off) w = true) (hq : zx r (zrun r n) (zrun r n) mi pc len (.ifnull off) w lv st h = some (v, g)) : zGo l G r mi v g pc lv st h := by
  obtain rfl := zA3 hA
  unfold zx at hq
  dsimp only at hq
  obtain ⟨x, t, rfl, hq2⟩ := zp1q_inv hq
  replace hq := hq2
  cases x with
  | none => exact (ih _ _ _ _ _ _ _ hq).row fun hF _ _ _ _ k => lv_ifnullN hF.1 hF.2.1 hd (zAdc hA) k
  | some x => exact (ih _ _ _ _ _ _ _ hq).row fun hF _ _ _ _ k => lv_ifnull hF.1 hF.2.1 hd k
theorem zs_ifnonnull {off : Int} (ih : zSnd l G r n) (hd : decode (zB mi) pc = .ok ((.ifnonnull off), len)) (hA : zokA mi pc len (.ifnonnull off) w = true) (hq : zx r (zrun r n) (zrun r n) mi pc len (.ifnonnull off) w lv st h = some (v, g)) : zGo l G r mi v g pc lv st h := by
  obtain rfl := zA3 hA
  unfold zx at hq
  dsimp only at hq
  obtain ⟨x, t, rfl, hq2⟩ := zp1q_inv hq
  replace hq := hq2
  cases x with
  | none => exact (ih _ _ _ _ _ _ _ hq).row fun hF _ _ _ _ k => lv_ifnonnullN hF.1 hF.2.1 hd k
  | some x => exact (ih _ _ _ _ _ _ _ hq).row fun hF _ _ _ _ k => lv_ifnonnull hF.1 hF.2.1 hd (zAdc hA) k
theorem zofI {z : Int} (h1 : -2000 ≤ z) (h2 : z ≤ 2000) : (Int32.ofInt z).toInt = z := Int32.toInt_ofInt_of_le (by simp [Int32.minValue] <;> omega) (by omega)
theorem zts_inv {X : Type} {k : Nat → Option X} {x : Int32} {d : Int} {q : X} : ∀ {os : List Int} {lo : Int}, -1000 ≤ lo → lo + os.length ≤ 2000 → zts pc k x lo os d = some q →
    (∃ (j : Nat) (o : Int), os[j]? = some o ∧ x.toInt = lo + j ∧ k (zt pc o) = some q) ∨ (x.toInt < lo ∨ lo + os.length ≤ x.toInt) ∧ k (zt pc d) = some q
  | [], lo, _, _, h => Or.inr ⟨by simp; omega, h⟩
  | o :: os, lo, h1, h2, h => by
    simp only [List.length_cons] at h2
    simp only [zts] at h
    split at h
    · rename_i c
      refine Or.inl ⟨0, o, rfl, ?_, h⟩
      rw [c, zofI (by omega) (by omega)]; simp
    · rename_i c
      have hne : x.toInt ≠ lo := fun e => c (by rw [← e, Int32.ofInt_toInt])
      rcases zts_inv (by omega) (by omega) h with ⟨j, o', e1, e2, e3⟩ | ⟨e1, e2⟩
      · exact Or.inl ⟨j + 1, o', by simpa using e1, by rw [e2]; omega, e3⟩
      · refine Or.inr ⟨?_, e2⟩
        simp only [List.length_cons]
        omega
theorem zls_inv {X : Type} {k : Nat → Option X} {x : Int32} {d : Int} {q : X} : ∀ {os : List (Int × Int)}, (∀ z ∈ os, -1000 ≤ z.1 ∧ z.1 ≤ 1000) → zls pc k x os d = some q → k (zt pc (Op.lookupswitch.offset os d x.toInt)) = some q
  | [], _, h => h
  | (a, b) :: os, hr, h => by
    simp only [zls] at h
    rw [Op.lookupswitch.offset_cons]
    have h1 := hr (a, b) List.mem_cons_self
    dsimp only at h1
    split at h
    · rename_i c
      rw [if_pos (by rw [c, zofI (by omega) (by omega)])]
      exact h
    · rename_i c
      rw [if_neg (fun e => c (by rw [e, Int32.ofInt_toInt]))]
      exact zls_inv (fun z hz => hr z (List.mem_cons_of_mem _ hz)) h
theorem zt_eq {o : Int} (h : 0 ≤ (pc : Int) + o) : (pc : Int) + o = (zt pc o : Int) := by unfold zt; omega
theorem zs_tsw {d lo hi : Int} {os : Array Int} (ih : zSnd l G r n) (hd : decode (zB mi) pc = .ok ((.tableswitch d lo hi os), len)) (hA : zokA mi pc len (.tableswitch d lo hi os) w = true) (hq : zx r (zrun r n) (zrun r n) mi pc len (.tableswitch d lo hi os) w lv st h = some (v, g)) : zGo l G r mi v g pc lv st h := by
  unfold zx at hq
  dsimp only at hq
  obtain ⟨x, t, rfl, hq2⟩ := zp1i_inv hq
  replace hq := hq2
  have hA : (decide (0 ≤ (pc : Int) + d ∧ hi + 1 = lo + os.toList.length ∧ -1000 ≤ lo ∧ lo ≤ 1000 ∧ os.toList.length ≤ 1000) && os.toList.all fun x => decide (0 ≤ (pc : Int) + x)) = true := hA
  rw [Bool.and_eq_true] at hA
  obtain ⟨h1, h2⟩ := hA
  obtain ⟨h3, h4, h5, h6, h7⟩ := of_decide_eq_true h1
  rcases zts_inv (by omega) (by omega) hq with ⟨j, o, e1, e2, e3⟩ | ⟨e1, e2⟩
  · have hj := (List.getElem?_eq_some_iff.mp e1).1
    have ho := of_decide_eq_true (List.all_eq_true.mp h2 o (List.mem_of_getElem? e1))
    exact (ih _ _ _ _ _ _ _ e3).row fun hF _ _ _ _ k => lv_tableIn hF.1 hF.2.1 hd (by omega) (by omega) (by rw [← Array.getElem?_toList, ← e1]; congr 1; omega) (zt_eq ho) k
  · exact (ih _ _ _ _ _ _ _ e2).row fun hF _ _ _ _ k => lv_tableOut hF.1 hF.2.1 hd (by omega) (zt_eq h3) k
theorem zs_lsw {d : Int} {ps : Array (Int × Int)} (ih : zSnd l G r n) (hd : decode (zB mi) pc = .ok ((.lookupswitch d ps), len)) (hA : zokA mi pc len (.lookupswitch d ps) w = true) (hq : zx r (zrun r n) (zrun r n) mi pc len (.lookupswitch d ps) w lv st h = some (v, g)) : zGo l G r mi v g pc lv st h := by
  unfold zx at hq
  dsimp only at hq
  obtain ⟨x, t, rfl, hq2⟩ := zp1i_inv hq
  replace hq := hq2
  have hA : (decide (0 ≤ (pc : Int) + d) && ps.toList.all (fun x => decide (0 ≤ (pc : Int) + x.2 ∧ -1000 ≤ x.1 ∧ x.1 ≤ 1000)) && (ps.toList.zip (ps.toList.drop 1)).all (fun (a, next) => a.1 < next.1)) = true := hA
  rw [Bool.and_eq_true, Bool.and_eq_true] at hA
  obtain ⟨⟨h1, h2⟩, h3⟩ := hA
  have h1 := of_decide_eq_true h1
  have h2 : ∀ z ∈ ps.toList, 0 ≤ (pc : Int) + z.2 ∧ -1000 ≤ z.1 ∧ z.1 ≤ 1000 := fun z hz => of_decide_eq_true (List.all_eq_true.mp h2 z hz)
  have e := zls_inv (fun z hz => (h2 z hz).2) hq
  have ht : ∀ (os : List (Int × Int)), (∀ z ∈ os, 0 ≤ (pc : Int) + z.2) → 0 ≤ (pc : Int) + Op.lookupswitch.offset os d x.toInt := by
    intro os
    induction os with
    | nil => exact fun _ => h1
    | cons a l il =>
      intro hz
      rw [Op.lookupswitch.offset_cons]
      split
      · exact hz a List.mem_cons_self
      · exact il fun z hm => hz z (List.mem_cons_of_mem _ hm)
  exact (ih _ _ _ _ _ _ _ e).row fun hF _ _ _ _ k => lv_lookup hF.1 hF.2.1 hd h3 rfl (zt_eq (ht _ fun z hz => (h2 z hz).1)) k
end STEP
end
section
/-! fields, arrays, new cells -/
section STEPH
variable {l : Launch} {G : zG} {r : zE} {n : Nat} {mi pc len : Nat} {w : zL} {lv : List (Option Value)} {st : List Value} {h g : zH} {v : Option Value} {u : List Nat} {ix : Nat}
theorem zr_get {p : Program} {l : Launch} {e : Env} {R : Room} {s : State} {m : MethodId} {args : Array Value} {below : List Frame} {meth : Method} {c : Code} {H : Heap} {locs : List Loc} {cells slots : Nat} {Q : State → Prop} {ls : Array Slot} {rest : List Value} {a : Nat} {fs : List Value} {x : Value} (hF : zFix G p s m args meth c mi) (hH : zHS G r s h H) (hz : zget r h a = some (.inr (.inr (w.1, fs)))) (hv : fs[w.2.1]? = some x) (hB : zokB mi (.getfield ix) w u = true) (hd : decode (zB mi) pc = .ok (.getfield ix, 3))
    (kk : W p l e R s m args below meth c H locs cells slots Q (F0 m (pc + 3) ls (x :: rest))) : W p l e R s m args below meth c H locs cells slots Q (F0 m pc ls (.ref a :: rest)) := by
  simp only [zokB] at hB
  split at hB
  · rename_i q hc
    rw [Bool.and_eq_true, Bool.or_eq_true] at hB
    obtain ⟨hk, hB⟩ := hB
    have hk := of_decide_eq_true hk
    obtain ⟨hin, -, -, hdecl, -, -, -, -⟩ := zcls_f hc
    obtain ⟨hx, hb, -, hown, hts, hK, -⟩ := hF
    have hat : va_at G.1 zcls (a, .inr (w.1, fs)) H := hH.at hz
    have hsame : ∀ x, s.fieldFound? (q.2.1 w.2.1).1 (q.2.1 w.2.1).2.1 (q.2.1 w.2.1).2.2.1 = some x → s.fieldFound? q.1 (q.2.1 w.2.1).2.1 (q.2.1 w.2.1).2.2.1 = some x := by
      rw [hdecl _ hk]; exact fun _ h => h
    rcases hB with hB | hB
    · exact va_get hx hb hts hin hown hK.1 (zP1 hat) 0 rfl hc w.2.1 hk (hts _ (zgt_of (zmem_in hB) rfl)) hsame hv hd kk
    · exact va_getN hx hb hts hin hown hK.1 (zP1 hat) 0 rfl hc w.2.1 hk (va_Nw.use rfl (hK.2 _ (zmem_in hB) rfl)) hsame hv hd kk
  · cases hB
theorem zs_getfield (ih : zSnd l G r n) (hd : decode (zB mi) pc = .ok (.getfield ix, len)) (hA : zokA mi pc len (.getfield ix) w = true) (hB : zokB mi (.getfield ix) w u = true) (hq : zx r (zrun r n) (zrun r n) mi pc len (.getfield ix) w lv st h = some (v, g)) : zGo l G r mi v g pc lv st h := by
  obtain rfl := zA3 hA
  obtain ⟨a, t, rfl, hq2⟩ := zp1r_inv hq
  replace hq := hq2
  split at hq
  · obtain ⟨x, e, hq⟩ := zbind_inv hq
    obtain ⟨fs, hz, hv⟩ := zgI_inv e
    exact (ih _ _ _ _ _ _ _ hq).row fun hF _ hH _ _ k => zr_get hF hH hz hv hB hd k
  · obtain ⟨x, e, hq⟩ := zbind_inv hq
    obtain ⟨fs, hz, hv⟩ := zgL_inv e
    exact (ih _ _ _ _ _ _ _ hq).row fun hF _ hH _ _ k => zr_get hF hH hz hv hB hd k
  · obtain ⟨x, e, hq⟩ := zbind_inv hq
    obtain ⟨fs, hz, hv⟩ := zgR_inv e
    exact (ih _ _ _ _ _ _ _ hq).row fun hF _ hH _ _ k => zr_get hF hH hz hv hB hd k
theorem zs_put {a : Nat} {x : Value} {t : List Value} {h2 : zH} (ih : zSnd l G r n) (hd : decode (zB mi) pc = .ok (.putfield ix, 3)) (hB : zokB mi (.putfield ix) w u = true) (e : zpF r h a w.1 w.2.1 x = some h2) (hn : ∀ q : vw_C, zcls[w.1]? = some q → narrow (zty w.1 w.2.1) x = x ∧ fits (zty w.1 w.2.1) x = true) (hq : zrun r n mi (pc + 3) lv t h2 = some (v, g)) : zGo l G r mi v g pc lv (x :: .ref a :: t) h := by
  obtain ⟨fs, hz, hl, rfl⟩ := zpF_inv e
  simp only [zokB] at hB
  split at hB
  · rename_i q hc
    have hn := hn q hc
    rw [Bool.and_eq_true, Bool.and_eq_true] at hB
    obtain ⟨⟨hk, hB⟩, -⟩ := hB
    have hk := of_decide_eq_true hk
    refine zGo.write (c1 := .inr (.inr (w.1, fs.set w.2.1 x))) hz rfl (fun hF hL hH _ _ kk => ?_) (ih _ _ _ _ _ _ _ hq)
    obtain ⟨hx, hb, -, hown, hts, hK, hin⟩ := hF
    refine zr_put hx hb hts hown hK.1 (hH.at hz) hc hk ?_ hn.1 hn.2 hl hd kk
    rw [Bool.or_eq_true, Bool.and_eq_true, Bool.and_eq_true, Bool.or_eq_true] at hB
    rcases hB with ⟨hB, hf⟩ | ⟨hB, hf⟩
    · refine Or.inl ⟨hts _ (zgt_of (zmem_in hB) rfl), ?_⟩
      rcases hf with hf | hf
      · exact Or.inl (of_decide_eq_true hf)
      · have hf := of_decide_eq_true hf
        exact Or.inr ⟨hf.1, hin hf.2⟩
    · exact Or.inr ⟨va_Nw.use rfl (hK.2 _ (zmem_in hB) rfl), of_decide_eq_true hf⟩
  · cases hB
theorem zs_putfield (ih : zSnd l G r n) (hd : decode (zB mi) pc = .ok (.putfield ix, len)) (hA : zokA mi pc len (.putfield ix) w = true) (hB : zokB mi (.putfield ix) w u = true) (hq : zx r (zrun r n) (zrun r n) mi pc len (.putfield ix) w lv st h = some (v, g)) : zGo l G r mi v g pc lv st h := by
  obtain rfl := zA3 hA
  have hB2 := hB
  simp only [zokB] at hB2
  split at hB2
  · rename_i q0 hc0
    rw [Bool.and_eq_true] at hB2
    have hty := hB2.2
    change (match w.2.2.1 with
      | 0 => zpia st fun a x t => (zpF r h a w.1 w.2.1 (.int x)).bind fun h => zrun r n mi (pc + 3) lv t h
      | 1 => zpla st fun a x t => (zpF r h a w.1 w.2.1 (.long x)).bind fun h => zrun r n mi (pc + 3) lv t h
      | _ => zpra st fun a x t => (zpF r h a w.1 w.2.1 (.ref x)).bind fun h => zrun r n mi (pc + 3) lv t h) = some (v, g) at hq
    split at hq
    · rename_i hw
      rw [hw] at hty
      have hty := of_decide_eq_true hty
      obtain ⟨a, x, t, rfl, hq2⟩ := zpia_inv hq
      replace hq := hq2
      obtain ⟨h2, e, hq⟩ := zbind_inv hq
      exact zs_put ih hd hB e (fun _ _ => by rw [hty]; exact ⟨rfl, rfl⟩) hq
    · rename_i hw
      rw [hw] at hty
      have hty := of_decide_eq_true hty
      obtain ⟨a, x, t, rfl, hq2⟩ := zpla_inv hq
      replace hq := hq2
      obtain ⟨h2, e, hq⟩ := zbind_inv hq
      exact zs_put ih hd hB e (fun _ _ => by rw [hty]; exact ⟨rfl, rfl⟩) hq
    · rename_i hw0 hw1
      obtain ⟨a, x, t, rfl, hq2⟩ := zpra_inv hq
      replace hq := hq2
      obtain ⟨h2, e, hq⟩ := zbind_inv hq
      refine zs_put ih hd hB e (fun _ _ => ?_) hq
      split at hty
      · rename_i hw2; exact absurd hw2 hw0
      · rename_i hw2; exact absurd hw2 hw1
      · split at hty
        · rename_i hc; rw [hc]; exact ⟨rfl, rfl⟩
        · rename_i hc; rw [hc]; exact ⟨rfl, rfl⟩
        · cases hty
  · cases hB2
theorem zs_getstatic (ih : zSnd l G r n) (hd : decode (zB mi) pc = .ok (.getstatic ix, len)) (hA : zokA mi pc len (.getstatic ix) w = true) (hB : zokB mi (.getstatic ix) w u = true) (hq : zx r (zrun r n) (zrun r n) mi pc len (.getstatic ix) w lv st h = some (v, g)) : zGo l G r mi v g pc lv st h := by
  obtain rfl := zA3 hA
  simp only [zokB] at hB
  split at hB
  · rename_i q hc
    refine (ih _ _ _ _ _ _ _ hq).row fun hF _ hH _ _ k => ?_
    obtain ⟨cf, kf, fi, f, a, cell, h1, h2, h3, h4, h5, h6, h7, h8⟩ := hH.2.2.2 _ q hc
    obtain ⟨hx, hb, -, hown, hts, hK, -⟩ := hF
    rw [Bool.or_eq_true] at hB
    rcases hB with hB | hB
    · exact W.gets hx hb hown (hts _ (zgt_of (zmem_in hB) rfl)) h1 h2 h3 h4 h5 (fun e => by rw [e] at h6; cases h6) h7 rfl hd k
    · exact va_WgetsN hx hb hown (va_Nw.use rfl (hK.2 _ (zmem_in hB) rfl)) h1 h2 h3 h4 h5 (fun e => by rw [e] at h6; cases h6) h7 rfl hd k
  · cases hB
theorem zs_new (ih : zSnd l G r n) (hd : decode (zB mi) pc = .ok (.new ix, len)) (hA : zokA mi pc len (.new ix) w = true) (hB : zokB mi (.new ix) w u = true) (hq : zx r (zrun r n) (zrun r n) mi pc len (.new ix) w lv st h = some (v, g)) : zGo l G r mi v g pc lv st h := by
  obtain rfl := zA3 hA
  simp only [zokB] at hB
  split at hB
  · rename_i q hc
    have hz : zcs (.inr (.inr (w.1, zdf w.1))) = q.2.2 := by simp only [zcs, hc]; rfl
    refine zGo.make (c1 := .inr (.inr (w.1, zdf w.1))) (fun hF hL hH hcl hsl kk => ?_) (ih _ _ _ _ _ _ _ hq)
    obtain ⟨hx, hb, -, hown, hts, hK, -⟩ := hF
    rw [hz] at hsl kk
    refine zr_new hx hb hts hown (hts _ (zgt_of (zmem_in hB) rfl)) hK.1 hc hcl hsl hd fun H1 g1 g2 g3 => ?_
    have k2 := kk H1 g1 g2 g3
    rw [← hH.1] at k2
    exact k2
  · cases hB
theorem zs_newarray (ih : zSnd l G r n) (hd : decode (zB mi) pc = .ok (.newarray .int, len)) (hA : zokA mi pc len (.newarray .int) w = true) (hq : zx r (zrun r n) (zrun r n) mi pc len (.newarray .int) w lv st h = some (v, g)) : zGo l G r mi v g pc lv st h := by
  obtain rfl := zA2 hA
  obtain ⟨x, t, rfl, hq2⟩ := zp1i_inv hq
  replace hq := hq2
  obtain ⟨hc, hq⟩ := zifn_inv hq
  refine zGo.make (c1 := .inl (x.toNatClampNeg, fun _ => 0)) (fun hF hL hH hcl hsl kk => ?_) (ih _ _ _ _ _ _ _ hq)
  obtain ⟨hx, hb, -, hown, hts, hK, -⟩ := hF
  refine zr_newa (D := G.1) hx hb (hts _ (zgt_of (by decide +kernel) rfl)) (hK.1.2 0 _ rfl).2 (fun q => hc (Or.inl q)) (by omega) hcl hsl hd fun H1 g1 g2 g3 => ?_
  have k2 := kk H1 g1 g2 g3
  rw [← hH.1] at k2
  exact k2
theorem zaR {s : State} {c : Nat} {q : vw_C} (hK : zKS G s) (hw : c = 4 ∨ c = 2) (hc : zcls[c]? = some q) : ArrOfT s (G.2.2 c) (.object q.1) ∧ va_RA s (G.2.2 c) (.object q.1) := by
  rcases hw with rfl | rfl
  · cases hc; exact hK.1.2 1 _ rfl
  · cases hc; exact hK.1.2 2 _ rfl
theorem zs_anewarray (ih : zSnd l G r n) (hd : decode (zB mi) pc = .ok (.anewarray ix, len)) (hA : zokA mi pc len (.anewarray ix) w = true) (hB : zokB mi (.anewarray ix) w u = true) (hq : zx r (zrun r n) (zrun r n) mi pc len (.anewarray ix) w lv st h = some (v, g)) : zGo l G r mi v g pc lv st h := by
  obtain rfl := zA3 hA
  obtain ⟨x, t, rfl, hq2⟩ := zp1i_inv hq
  replace hq := hq2
  obtain ⟨hcc, hq⟩ := zifn_inv hq
  simp only [zokB] at hB
  split at hB
  · rename_i q hc
    rw [Bool.and_eq_true, Bool.and_eq_true] at hB
    obtain ⟨⟨hB1, hB2⟩, hB3⟩ := hB
    have hB3 := of_decide_eq_true hB3
    refine zGo.make (c1 := .inr (.inl (w.1, x.toNatClampNeg, fun _ => none))) (fun hF hL hH hcl hsl kk => ?_) (ih _ _ _ _ _ _ _ hq)
    obtain ⟨hx, hb, -, hown, hts, hK, -⟩ := hF
    obtain ⟨kA, comp, -, -, -, hnm⟩ := (zaR hK hB3 hc).2
    refine zr_newq (D := G.1) hx hb hown (hts _ (zgt_of (zmem_in hB1) rfl)) (va_AO.use (hK.2 _ (zmem_in hB2) rfl)) hnm (fun q => hcc (Or.inl q)) (by omega) hcl hsl hd fun H1 g1 g2 g3 => ?_
    have k2 := kk H1 g1 g2 g3
    rw [← hH.1] at k2
    exact k2
  · cases hB
theorem zs_iaload (ih : zSnd l G r n) (hd : decode (zB mi) pc = .ok (.iaload, len)) (hA : zokA mi pc len .iaload w = true) (hq : zx r (zrun r n) (zrun r n) mi pc len .iaload w lv st h = some (v, g)) : zGo l G r mi v g pc lv st h := by
  obtain rfl := zA1 hA
  obtain ⟨a, i, t, rfl, hq2⟩ := zpia_inv hq
  replace hq := hq2
  obtain ⟨x, e, hq⟩ := zbind_inv hq
  obtain ⟨N, f, hz, hin, rfl⟩ := zaI_inv e
  refine (ih _ _ _ _ _ _ _ hq).row fun hF _ hH _ _ k => ?_
  obtain ⟨hx, hb, -, hown, hts, hK, -⟩ := hF
  rcases hz with hz | ⟨ha, hz⟩
  · have hat : va_at G.1 zcls (a, .inl (G.2.1, N, .inl f)) _ := hH.at hz
    exact va_iald hx hb hK.1 (zP1 hat) 0 0 rfl rfl hin hd k
  · obtain ⟨cell, h1, h2, h3, h4, h5, h6, h7⟩ := hH.2.2.1 a _ hz
    have hlt : i.toNatClampNeg < N := Nat.not_le.mp fun q => hin (Or.inr q)
    exact W.iald hx hb h1 h2 h3 (fun q => q.elim (fun q => hin (Or.inl q)) (fun q => by dsimp only at h4; omega)) (h6 _ hlt) rfl rfl hd k
theorem zs_caload (ih : zSnd l G r n) (hd : decode (zB mi) pc = .ok (.caload, len)) (hA : zokA mi pc len .caload w = true) (hq : zx r (zrun r n) (zrun r n) mi pc len .caload w lv st h = some (v, g)) : zGo l G r mi v g pc lv st h := by
  obtain rfl := zA1 hA
  obtain ⟨a, i, t, rfl, hq2⟩ := zpia_inv hq
  replace hq := hq2
  obtain ⟨x, e, hq⟩ := zbind_inv hq
  obtain ⟨N, f, ⟨ha, hz⟩, hin, rfl⟩ := zaC_inv e
  refine (ih _ _ _ _ _ _ _ hq).row fun hF _ hH _ _ k => ?_
  obtain ⟨hx, hb, -, hown, hts, hK, -⟩ := hF
  obtain ⟨cell, h1, h2, h3, h4, h5, h6, h7⟩ := hH.2.2.1 a _ hz
  have hlt : i.toNatClampNeg < N := Nat.not_le.mp fun q => hin (Or.inr q)
  exact W.cald hx hb h1 h2 h3 (fun q => q.elim (fun q => hin (Or.inl q)) (fun q => by dsimp only at h4; omega)) (h6 _ hlt) rfl rfl hd k
theorem zs_aaload (ih : zSnd l G r n) (hd : decode (zB mi) pc = .ok (.aaload, len)) (hA : zokA mi pc len .aaload w = true) (hq : zx r (zrun r n) (zrun r n) mi pc len .aaload w lv st h = some (v, g)) : zGo l G r mi v g pc lv st h := by
  obtain rfl := zA1 hA
  obtain ⟨a, i, t, rfl, hq2⟩ := zpia_inv hq
  replace hq := hq2
  obtain ⟨x, e, hq⟩ := zbind_inv hq
  obtain ⟨c, N, f, hz, hc, hin, rfl⟩ := zaQ_inv e
  have hq2 : zrun r n mi (pc + 1) lv (va_rf (f i.toNatClampNeg) :: t) h = some (v, g) := by
    revert hq
    cases f i.toNatClampNeg <;> exact fun hq => hq
  refine (ih _ _ _ _ _ _ _ hq2).row fun hF _ hH _ _ k => ?_
  obtain ⟨hx, hb, -, hown, hts, hK, -⟩ := hF
  have hat : va_at G.1 zcls (a, .inl (G.2.2 c, N, .inr (.inr (.inr (.inr f))))) _ := hH.at hz
  rcases hc with rfl | rfl
  · exact va_aldq hx hb hK.1 (zP1 hat) 0 1 rfl rfl hin hd k
  · exact va_aldq hx hb hK.1 (zP1 hat) 0 2 rfl rfl hin hd k
theorem zs_iastore (ih : zSnd l G r n) (hd : decode (zB mi) pc = .ok (.iastore, len)) (hA : zokA mi pc len .iastore w = true) (hq : zx r (zrun r n) (zrun r n) mi pc len .iastore w lv st h = some (v, g)) : zGo l G r mi v g pc lv st h := by
  obtain rfl := zA1 hA
  obtain ⟨a, i, x, t, rfl, hq2⟩ := zpiia_inv hq
  replace hq := hq2
  obtain ⟨h2, e, hq⟩ := zbind_inv hq
  obtain ⟨N, f, hz, hin, rfl⟩ := zsI_inv e
  refine zGo.write (c1 := .inl (N, upd f i.toNatClampNeg x)) hz rfl (fun hF hL hH _ _ kk => ?_) (ih _ _ _ _ _ _ _ hq)
  obtain ⟨hx, hb, -, hown, hts, hK, -⟩ := hF
  exact zr_iast hx hb (hK.1.2 0 _ rfl).1 (hH.at hz) hin hd kk
theorem zs_aastore (ih : zSnd l G r n) (hd : decode (zB mi) pc = .ok (.aastore, len)) (hA : zokA mi pc len .aastore w = true) (hq : zx r (zrun r n) (zrun r n) mi pc len .aastore w lv st h = some (v, g)) : zGo l G r mi v g pc lv st h := by
  obtain rfl := zA1 hA
  obtain ⟨a, i, x, t, rfl, hq2⟩ := zpria_inv hq
  replace hq := hq2
  obtain ⟨h2, e, hq⟩ := zbind_inv hq
  obtain ⟨c, N, f, vs, hz, hc, hv, hin, rfl⟩ := zsQ_inv e
  refine zGo.write (c1 := .inr (.inl (c, N, va_up f i.toNatClampNeg (some x)))) hz rfl (fun hF hL hH _ _ kk => ?_) (ih _ _ _ _ _ _ _ hq)
  obtain ⟨hx, hb, -, hown, hts, hK, -⟩ := hF
  have hcl : ∃ q, zcls[c]? = some q := by rcases hc with rfl | rfl <;> exact ⟨_, rfl⟩
  obtain ⟨q, hcl⟩ := hcl
  exact zr_aast hx hb hK.1 (zaR hK hc hcl).2 (hH.at hz) (hH.at hv) hcl hin hd kk
theorem zs_alen (ih : zSnd l G r n) (hd : decode (zB mi) pc = .ok (.arraylength, len)) (hA : zokA mi pc len .arraylength w = true) (hq : zx r (zrun r n) (zrun r n) mi pc len .arraylength w lv st h = some (v, g)) : zGo l G r mi v g pc lv st h := by
  obtain rfl := zA1 hA
  obtain ⟨a, t, rfl, hq2⟩ := zp1r_inv hq
  replace hq := hq2
  obtain ⟨N, e, hq⟩ := zbind_inv hq
  refine (ih _ _ _ _ _ _ _ hq).row fun hF _ hH _ _ k => ?_
  obtain ⟨hx, hb, -, hown, hts, hK, -⟩ := hF
  rcases zaN_inv e with ⟨f, hz⟩ | ⟨c, f, hz, hc⟩ | ⟨b, f, ha, hz⟩
  · have hat : va_at G.1 zcls (a, .inl (G.2.1, N, .inl f)) _ := hH.at hz
    exact va_alen hx hb hK.1 (zP1 hat) 0 0 rfl rfl rfl hd k
  · have hat : va_at G.1 zcls (a, .inl (G.2.2 c, N, .inr (.inr (.inr (.inr f))))) _ := hH.at hz
    rcases hc with rfl | rfl
    · exact va_alen hx hb hK.1 (zP1 hat) 0 1 rfl rfl rfl hd k
    · exact va_alen hx hb hK.1 (zP1 hat) 0 2 rfl rfl rfl hd k
  · obtain ⟨cell, h1, h2, h3, h4, h5, h6, h7⟩ := hH.2.2.1 a _ hz
    exact W.alen (n := Int32.ofNat N) hx hb h1 h2 h5 rfl rfl hd k
end STEPH
end
section
/-! copies, numbers of Math, calls -/
section STEPC
variable {p : Program} {l : Launch} {e : Env} {R : Room} {s : State} {m : MethodId} {args : Array Value} {below : List Frame} {meth : Method} {c : Code} {H : Heap} {locs : List Loc} {cells slots : Nat} {Q : State → Prop}
variable {cc : ByteArray} {pc : Nat} {ls : Array Slot} {rest : List Value}
theorem zr_copy (hexec : p.tables.exec = Jvm.exec) (hb : c.code = cc) (hml : c.maxLocals = ls.size) {own : String} {index : Nat} (hown : s.vm.findClass own = some m.cls) (hlink : (Cond.methodLink own index arraycopyName).before args s = true) (hnat : (Cond.native arraycopyName).before args s = true) (hstat : (Cond.static arraycopyName).before args s = true) (hini : (Cond.initialized "java/lang/System").before args s = true)
    {cA : ClassId} (hA : ArrOfT s cA .int) {a0 a n0 n1 : Nat} {f g : Nat → Int32} (hc0 : H[a0]? = some (vp_cell cA (n0, .inl f))) (hc1 : H[a]? = some (vp_cell cA (n1, .inl g)))
    {sp dp n : Int32} (h1 : ¬ sp < 0) (h2 : ¬ dp < 0) (h3 : ¬ n < 0) (h4 : sp.toNatClampNeg + n.toNatClampNeg ≤ n0) (h5 : dp.toNatClampNeg + n.toNatClampNeg ≤ n1)
    (hframes : 1 ≤ R.frames) (hlocals : (rest.map fun v => v.category).sum + (nativeFrameWords "java/lang/System" "arraycopy" 5 + 11) ≤ R.locals) (hdg : decode cc pc = .ok (.invokestatic index, 3))
    (kk : ∀ (H1 : Heap) (L : List Loc), H1[a]? = some (vp_cell cA (n1, .inl (va_cpy f g sp.toNatClampNeg dp.toNatClampNeg n.toNatClampNeg))) → H1.size = H.size → (∀ q : Nat, q ≠ a → H1[q]? = H[q]?) → (∀ q ∈ L, q.base = a) → W p l e R s m args below meth c H1 (locs ++ L) cells slots Q (F0 m (pc + 3) ls rest)) : W p l e R s m args below meth c H locs cells slots Q (F0 m pc ls (.int n :: .int dp :: .ref a :: .int sp :: .ref a0 :: rest)) := by
  have nn : ∀ z : Int32, ¬ z < 0 → z.toInt = (z.toNatClampNeg : Int) := by
    intro z hz
    have hz0 : (0 : Int) ≤ z.toInt := by
      have := Int32.not_lt.mp hz
      simpa using Int32.le_iff_toInt_le.mp this
    show z.toInt = ((z.toInt.toNat : Nat) : Int)
    omega
  intro T hT X
  obtain ⟨-, k0, hk0, cm0, hkk0⟩ := hA n0 (fun j => .int (f j))
  obtain ⟨-, k1, hk1, cm1, hkk1⟩ := hA n1 (fun j => .int (g j))
  obtain ⟨vm', X', step⟩ := X.arraycopy hexec hown hlink hnat hstat hini (src := a0) (dst := a) (cs := vp_cell cA (n0, .inl f)) (cd := vp_cell cA (n1, .inl g)) (srcPos := sp) (destPos := dp) (n := n) (by rw [hT]; exact hc0) (by rw [hT]; exact hc1)
    (fun _ h => by cases h) (fun _ h => by cases h) (fun h => by cases h) (fun h => by cases h) hk0 hk1 hkk0 hkk1 (by simp [refKind]) h1 h2 h3
    (by rw [nn sp h1, nn n h3]; show ¬ _ > ((arrV cA n0 (fun j => .int (f j))).slots.size : Int); rw [arrV_size]; omega)
    (by rw [nn dp h2, nn n h3]; show ¬ _ > ((arrV cA n1 (fun j => .int (g j))).slots.size : Int); rw [arrV_size]; omega)
    (fun vm₁ _ i hi => by
      have e : (vp_cell cA (n0, .inl f)).slots.getD (sp.toNatClampNeg + i) .null = .int (f (sp.toNatClampNeg + i)) := by
        show (arrV cA n0 (fun j => .int (f j))).slots.getD _ _ = _
        rw [Array.getD_eq_getD_getElem?, arrV_read _ _ (by omega)]
        rfl
      refine ⟨?_, ?_⟩
      · rw [e]
        rfl
      · rw [e]
        exact trivial)
    (g := F0 m pc ls (.int n :: .int dp :: .ref a :: .int sp :: .ref a0 :: rest)) rfl (by rw [hml]) (rest := rest) rfl (by rw [hb]; exact hdg) hframes (by show 2 * 0 + _ + _ ≤ _; omega)
  have e1 : copied (vp_cell cA (n0, .inl f)) (vp_cell cA (n1, .inl g)) sp dp n = vp_cell cA (n1, .inl (va_cpy f g sp.toNatClampNeg dp.toNatClampNeg n.toNatClampNeg)) := va_copied (fun z => .int z) cA cA f g h4
  rw [e1] at X' step
  have hl : a < H.size := (Array.getElem?_eq_some_iff.mp hc1).1
  have hheap : ((T.setVm vm').setCell a (vp_cell cA (n1, .inl (va_cpy f g sp.toNatClampNeg dp.toNatClampNeg n.toNatClampNeg)))).heap = H.setIfInBounds a (vp_cell cA (n1, .inl (va_cpy f g sp.toNatClampNeg dp.toNatClampNeg n.toNatClampNeg))) := by rw [← hT]; rfl
  have oq : ∀ q : Nat, q ≠ a → (H.setIfInBounds a (vp_cell cA (n1, .inl (va_cpy f g sp.toNatClampNeg dp.toNatClampNeg n.toNatClampNeg))))[q]? = H[q]? := fun q hq => by simp [Array.getElem?_setIfInBounds, Ne.symm hq]
  obtain ⟨t, a1, b1⟩ := kk _ _ (show (H.setIfInBounds a _)[a]? = some _ by simp [Array.getElem?_setIfInBounds, hl]) (by simp) oq (fun q hq => by
      obtain ⟨z, -, hz⟩ := List.mem_map.mp hq
      rw [← hz]) _ hheap X'
  exact ⟨t, step t a1, b1⟩
end STEPC
section STEPD
variable {l : Launch} {G : zG} {r : zE} {n : Nat} {mi pc len : Nat} {w : zL} {lv : List (Option Value)} {st : List Value} {h g : zH} {v : Option Value} {u : List Nat} {ix : Nat}
/-- a call, all kinds: what the walk owes and what it gets -/
theorem zcall {as t : List Value} {h1 : zH} {v1 : Option Value} (ih : zSnd l G r n) (e1 : zrun r n w.1 0 (zent (zMl w.1) as) [] h = some (v1, h1)) (e2 : zrun r n mi (pc + 3) lv (v1.toList ++ t) h1 = some (v, g)) {st0 : List Value}
    (hrow : ∀ {p : Program} {e : Env} {R : Room} {s : State} {m : MethodId} {args : Array Value} {below : List Frame} {meth : Method} {c : Code} {H : Heap} {locs : List Loc} {cells slots : Nat} {ls : Array Slot}, zFix G p s m args meth c mi → zLV ls (zMl mi) lv → zHS G r s h H → zFr mi ≤ R.frames → zLo mi ≤ R.locals → cells + (h1.length - h.length) ≤ R.cells → slots + (zhs h1 - zhs h) ≤ R.slots →
      PreS s H (va_Pc as (zWS G r h)) as → va_Run p l e R s m args below meth c H locs cells slots (h1.length - h.length) (zhs h1 - zhs h) (F0 m pc ls st0) t ((fun _ _ o t => o = .returned v1 ∧ zHS G r t h1 t.heap) as.toArray) (fun q => r.1 ≤ q)) : zGo l G r mi v g pc lv st0 h := by
  have k1 := (ih _ _ _ _ _ _ _ e1).1
  have k2 := ih _ _ _ _ _ _ _ e2
  refine ⟨⟨Nat.le_trans k1.1 k2.1.1, Nat.le_trans k1.2 k2.1.2⟩, fun {p e R s m args below meth c Q H locs cells slots k n' ls} hF hL hH hl q1 q2 b1 b2 hf ho hr => ?_⟩
  have hK : zKS G s := hF.2.2.2.2.2.1
  have kz := k2.1
  refine zr_run (hrow hF hL hH hf ho (by omega) (by omega) ⟨fun a U g mk q => ⟨q.1, q.2.1.moved (t := U.calling g mk a) (Vm.Alike.refl U.vm), zKS.warm (U := U.calling g mk a) (State.WarmedH.refl U) q.2.2⟩, fun U hU hW => ⟨rfl, by rw [hU]; exact hH.moved hW.alike, hK.warm hW⟩⟩) fun v' st₀ t' T' L hvm hL2 hQ => ?_
  obtain ⟨hv, hH1⟩ := hQ
  cases hv
  refine k2.2 hF hL (hH1.moved hvm.symm) (fun q hq => ?_) (by omega) (by omega) b1 b2 hf ho hr
  rcases List.mem_append.mp hq with hq | hq
  · exact hl q hq
  · exact hL2 q hq
theorem zcal_inv {i j : Nat} (hB : zcal mi w i j = true) : Cond.code (zY w.1) (zB w.1) (zMl w.1) (zRt w.1) ∈ lw_tbl ∧ Cond.initialized (zY w.1).cls ∈ lw_tbl ∧ zMl w.1 = w.2.2.2.2.1 ∧ ((zY w.1).cls ≠ "java/lang/invoke/MethodHandle" ∧ (zY w.1).cls ≠ "java/lang/invoke/VarHandle" ∧ (parseMethodDescriptor (zY w.1).desc).map (fun d => d.parameters.length) = some w.2.2.1) ∧ zFr w.1 + 1 ≤ zFr mi ∧ 8 + (zMl w.1 + 11) + zLo w.1 ≤ zLo mi := by
  unfold zcal at hB
  rw [Bool.and_eq_true, Bool.and_eq_true] at hB
  have h3 := of_decide_eq_true hB.2
  exact ⟨zmem_in hB.1.1, zmem_in hB.1.2, h3.1, h3.2.1, h3.2.2.1, h3.2.2.2⟩
theorem zGoodC {mj : Nat} (h : Cond.code (zY mj) (zB mj) (zMl mj) (zRt mj) ∈ lw_tbl) : GoodIn zgt (Cond.code (zY mj) (zB mj) (zMl mj) (zRt mj) :: zgt) := fun c hc => by
  rcases List.mem_cons.mp hc with rfl | hc
  · exact zgood _ (zgt_of h rfl)
  · exact zgood _ hc
theorem zs_invokevirtual (ih : zSnd l G r n) (hd : decode (zB mi) pc = .ok (.invokevirtual ix, len)) (hA : zokA mi pc len (.invokevirtual ix) w = true) (hB : zokB mi (.invokevirtual ix) w u = true) (hq : zx r (zrun r n) (zrun r n) mi pc len (.invokevirtual ix) w lv st h = some (v, g)) : zGo l G r mi v g pc lv st h := by
  obtain rfl := zA3 hA
  unfold zx at hq
  dsimp only at hq
  simp only [zokB] at hB
  rw [Bool.and_eq_true, Bool.and_eq_true, Bool.and_eq_true] at hB
  obtain ⟨⟨⟨hB1, hB2⟩, hB3⟩, hB4⟩ := hB
  obtain ⟨c1, c2, c3, c4, c5, c6⟩ := zcal_inv hB2
  obtain ⟨as, t, rfl, hn, hs8, -, hq2⟩ := zpop_inv hq
  replace hq := hq2
  obtain ⟨b, t, rfl, hq2⟩ := zp1r_inv hq
  replace hq := hq2
  obtain ⟨hob, hq⟩ := zif_inv hq
  obtain ⟨hlen, hq⟩ := zif_inv hq
  rw [← c3] at hlen hq
  obtain ⟨v1, h1, e1, -, e2⟩ := zca_inv hq
  split at hB4
  · rename_i q hc
    obtain ⟨fs, hz⟩ := zob_inv hob
    refine zcall ih e1 e2 fun {p e R s m args below meth c H locs cells slots ls} hF hL hH hf ho hcl hsl hp => ?_
    have hat : va_at G.1 zcls (b, .inr (w.2.2.2.2.2.toNat, fs)) H := hH.at hz
    obtain ⟨hx, hb, hml, hown, hts, hK, -⟩ := hF
    refine va_runV (C := q.1) (As := as) (b := b) (ws := Cond.code (zY w.1) (zB w.1) (zMl w.1) (zRt w.1) :: zgt) (nL := zMl mi) (Ts := zgt) ⟨hx, hb, hml, hown, hts⟩ (zMet ih e1 hlen) ⟨callB_of w.2.2.1 hts (zGoodC c1) rfl rfl rfl (hts _ (zgt_of c2 rfl)) (hts _ (zgt_of (zmem_in hB1) rfl)) c4 ⟨by dsimp only; omega, by dsimp only; omega⟩, hts _ (zgt_of (zmem_in hB3) rfl), hts _ (zgt_of (zmem_in hB4) rfl)⟩ ⟨hp.1, va_recv hK.1 (zP1 hat) hc (q0 := 0) rfl, hp.2⟩ rfl hn hL.1 rfl (lv_room (by simp only [List.map_cons, List.sum_cons] at hs8; omega)) hd ⟨hcl, hsl⟩
  · cases hB4
theorem zs_invokestatic (ih : zSnd l G r n) (hd : decode (zB mi) pc = .ok (.invokestatic ix, len)) (hA : zokA mi pc len (.invokestatic ix) w = true) (hB : zokB mi (.invokestatic ix) w u = true) (hq : zx r (zrun r n) (zrun r n) mi pc len (.invokestatic ix) w lv st h = some (v, g)) : zGo l G r mi v g pc lv st h := by
  obtain rfl := zA3 hA
  simp only [zokB] at hB
  unfold zx at hq
  dsimp only at hq
  split at hB
  · rename_i hw
    rw [hw] at hq
    try dsimp only at hq
    rw [Bool.and_eq_true, Bool.and_eq_true, Bool.and_eq_true, Bool.and_eq_true] at hB
    obtain ⟨⟨⟨⟨hB1, hB2⟩, hB3⟩, hB4⟩, hB5⟩ := hB
    have hB5 := of_decide_eq_true hB5
    obtain ⟨a0, sp, a1, dp, m9, t, rfl, hq2⟩ := zpcp_inv hq
    replace hq := hq2
    obtain ⟨hs8, hq⟩ := zif_inv hq
    obtain ⟨h2, e, hq⟩ := zbind_inv hq
    obtain ⟨n0, f, n1, f1, hz0, hz1, hcn, rfl⟩ := zcp_inv e
    refine zGo.write (c1 := .inl (n1, va_cpy f f1 sp.toNatClampNeg dp.toNatClampNeg m9.toNatClampNeg)) hz1 rfl (fun hF hL hH hf ho kk => ?_) (ih _ _ _ _ _ _ _ hq)
    obtain ⟨hx, hb, hml, hown, hts, hK, -⟩ := hF
    exact zr_copy hx hb (by rw [hml, hL.1]) hown (hts _ (zgt_of (zmem_in hB1) rfl)) (hts _ (zgt_of (zmem_in hB2) rfl)) (hts _ (zgt_of (zmem_in hB3) rfl)) (hts _ (zgt_of (zmem_in hB4) rfl)) (hK.1.2 0 _ rfl).1 (hH.at hz0) (hH.at hz1) (fun q => hcn (by simp [q])) (fun q => hcn (by simp [q])) (fun q => hcn (by simp [q])) (by omega) (by omega) (by omega) (by show _ + (7 + 11) ≤ _; omega) hd kk
  · rename_i hw
    rw [hw] at hq
    try dsimp only at hq
    rw [Bool.and_eq_true, Bool.and_eq_true, Bool.and_eq_true, Bool.and_eq_true] at hB
    obtain ⟨⟨⟨⟨hB1, hB2⟩, hB3⟩, hB4⟩, hB5⟩ := hB
    have hB5 := of_decide_eq_true hB5
    obtain ⟨x, t, rfl, hq2⟩ := zp1i_inv hq
    replace hq := hq2
    obtain ⟨hs8, hq⟩ := zif_inv hq
    have k0 := ih _ _ _ _ _ _ _ hq
    refine ⟨k0.1, fun hF hL hH hl e1 e2 b1 b2 hf ho hr => ?_⟩
    have k := k0.2 hF hL hH hl e1 e2 b1 b2 hf ho hr
    have k1 := k0.1
    obtain ⟨hx, hb, hml, hown, hts, hK, -⟩ := hF
    exact va_mabs hx hb (by rw [hml, hL.1]) hown (hts _ (zgt_of (zmem_in hB1) rfl)) (hts _ (zgt_of (zmem_in hB2) rfl)) (hts _ (zgt_of (zmem_in hB3) rfl)) (hts _ (zgt_of (zmem_in hB4) rfl)) (by omega) (by omega) (by omega) (by omega) hd k
  · rename_i hw
    rw [hw] at hq
    try dsimp only at hq
    rw [Bool.and_eq_true, Bool.and_eq_true, Bool.and_eq_true, Bool.and_eq_true] at hB
    obtain ⟨⟨⟨⟨hB1, hB2⟩, hB3⟩, hB4⟩, hB5⟩ := hB
    have hB5 := of_decide_eq_true hB5
    obtain ⟨x, y, t, rfl, hq2⟩ := zp2i_inv hq
    replace hq := hq2
    obtain ⟨hs8, hq⟩ := zif_inv hq
    have k0 := ih _ _ _ _ _ _ _ hq
    refine ⟨k0.1, fun hF hL hH hl e1 e2 b1 b2 hf ho hr => ?_⟩
    have k := k0.2 hF hL hH hl e1 e2 b1 b2 hf ho hr
    have k1 := k0.1
    obtain ⟨hx, hb, hml, hown, hts, hK, -⟩ := hF
    exact va_mmax hx hb (by rw [hml, hL.1]) hown (hts _ (zgt_of (zmem_in hB1) rfl)) (hts _ (zgt_of (zmem_in hB2) rfl)) (hts _ (zgt_of (zmem_in hB3) rfl)) (hts _ (zgt_of (zmem_in hB4) rfl)) (by omega) (by omega) (by omega) (by omega) hd k
  · rename_i hw
    rw [hw] at hq
    try dsimp only at hq
    rw [Bool.and_eq_true, Bool.and_eq_true, Bool.and_eq_true, Bool.and_eq_true] at hB
    obtain ⟨⟨⟨⟨hB1, hB2⟩, hB3⟩, hB4⟩, hB5⟩ := hB
    have hB5 := of_decide_eq_true hB5
    obtain ⟨x, y, t, rfl, hq2⟩ := zp2i_inv hq
    replace hq := hq2
    obtain ⟨hs8, hq⟩ := zif_inv hq
    have k0 := ih _ _ _ _ _ _ _ hq
    refine ⟨k0.1, fun hF hL hH hl e1 e2 b1 b2 hf ho hr => ?_⟩
    have k := k0.2 hF hL hH hl e1 e2 b1 b2 hf ho hr
    have k1 := k0.1
    obtain ⟨hx, hb, hml, hown, hts, hK, -⟩ := hF
    exact va_mmin hx hb (by rw [hml, hL.1]) hown (hts _ (zgt_of (zmem_in hB1) rfl)) (hts _ (zgt_of (zmem_in hB2) rfl)) (hts _ (zgt_of (zmem_in hB3) rfl)) (hts _ (zgt_of (zmem_in hB4) rfl)) (by omega) (by omega) (by omega) (by omega) hd k
  · rename_i hw
    rw [hw] at hq
    try dsimp only at hq
    rw [Bool.and_eq_true, Bool.and_eq_true, Bool.and_eq_true, Bool.and_eq_true] at hB
    obtain ⟨⟨⟨⟨hB1, hB2⟩, hB3⟩, hB4⟩, hB5⟩ := hB
    have hB5 := of_decide_eq_true hB5
    obtain ⟨x, t, rfl, hq2⟩ := zp1l_inv hq
    replace hq := hq2
    obtain ⟨hs8, hq⟩ := zif_inv hq
    have k0 := ih _ _ _ _ _ _ _ hq
    refine ⟨k0.1, fun hF hL hH hl e1 e2 b1 b2 hf ho hr => ?_⟩
    have k := k0.2 hF hL hH hl e1 e2 b1 b2 hf ho hr
    have k1 := k0.1
    obtain ⟨hx, hb, hml, hown, hts, hK, -⟩ := hF
    exact va_mabs_long hx hb (by rw [hml, hL.1]) hown (hts _ (zgt_of (zmem_in hB1) rfl)) (hts _ (zgt_of (zmem_in hB2) rfl)) (hts _ (zgt_of (zmem_in hB3) rfl)) (hts _ (zgt_of (zmem_in hB4) rfl)) (by omega) (by omega) (by omega) (by omega) hd k
  · rename_i hw
    rw [hw] at hq
    try dsimp only at hq
    rw [Bool.and_eq_true, Bool.and_eq_true, Bool.and_eq_true, Bool.and_eq_true] at hB
    obtain ⟨⟨⟨⟨hB1, hB2⟩, hB3⟩, hB4⟩, hB5⟩ := hB
    have hB5 := of_decide_eq_true hB5
    obtain ⟨x, y, t, rfl, hq2⟩ := zp2l_inv hq
    replace hq := hq2
    obtain ⟨hs8, hq⟩ := zif_inv hq
    have k0 := ih _ _ _ _ _ _ _ hq
    refine ⟨k0.1, fun hF hL hH hl e1 e2 b1 b2 hf ho hr => ?_⟩
    have k := k0.2 hF hL hH hl e1 e2 b1 b2 hf ho hr
    have k1 := k0.1
    obtain ⟨hx, hb, hml, hown, hts, hK, -⟩ := hF
    exact va_mmax_long hx hb (by rw [hml, hL.1]) hown (hts _ (zgt_of (zmem_in hB1) rfl)) (hts _ (zgt_of (zmem_in hB2) rfl)) (hts _ (zgt_of (zmem_in hB3) rfl)) (hts _ (zgt_of (zmem_in hB4) rfl)) (by omega) (by omega) (by omega) (by omega) hd k
  · rename_i hw3 hw5 hw6 hw7 hw8 hw9
    split at hq
    · rename_i hw; exact absurd hw hw3
    · rename_i hw; exact absurd hw hw5
    · rename_i hw; exact absurd hw hw6
    · rename_i hw; exact absurd hw hw7
    · rename_i hw; exact absurd hw hw8
    · rename_i hw; exact absurd hw hw9
    · rw [Bool.and_eq_true, Bool.and_eq_true] at hB
      obtain ⟨⟨hB1, hB2⟩, hB3⟩ := hB
      obtain ⟨c1, c2, c3, c4, c5, c6⟩ := zcal_inv hB2
      obtain ⟨as, t, rfl, hn, hs8, -, hq2⟩ := zpop_inv hq
      replace hq := hq2
      obtain ⟨hlen, hq⟩ := zif_inv hq
      rw [← c3] at hlen hq
      obtain ⟨v1, h1, e1, -, e2⟩ := zca_inv hq
      refine zcall ih e1 e2 fun {p e R s m args below meth c H locs cells slots ls} hF hL hH hf ho hcl hsl hp => ?_
      obtain ⟨hx, hb, hml, hown, hts, hK, -⟩ := hF
      exact va_runS (As := as) (ws := Cond.code (zY w.1) (zB w.1) (zMl w.1) (zRt w.1) :: zgt) (nL := zMl mi) (Ts := zgt) ⟨hx, hb, hml, hown, hts⟩ (zMet ih e1 hlen) ⟨callB_of w.2.2.1 hts (zGoodC c1) rfl rfl rfl (hts _ (zgt_of c2 rfl)) (hts _ (zgt_of (zmem_in hB1) rfl)) c4 ⟨by dsimp only; omega, by dsimp only; omega⟩, hts _ (zgt_of (zmem_in hB3) rfl)⟩ hp rfl hn hL.1 rfl (lv_room hs8) hd ⟨hcl, hsl⟩
theorem zs_invokespecial (ih : zSnd l G r n) (hd : decode (zB mi) pc = .ok (.invokespecial ix, len)) (hA : zokA mi pc len (.invokespecial ix) w = true) (hB : zokB mi (.invokespecial ix) w u = true) (hq : zx r (zrun r n) (zrun r n) mi pc len (.invokespecial ix) w lv st h = some (v, g)) : zGo l G r mi v g pc lv st h := by
  obtain rfl := zA3 hA
  simp only [zokB] at hB
  unfold zx at hq
  dsimp only at hq
  split at hB
  · rename_i hw
    rw [hw] at hq
    try dsimp only at hq
    rw [Bool.and_eq_true, Bool.and_eq_true, Bool.and_eq_true] at hB
    obtain ⟨⟨⟨hB1, hB2⟩, hB3⟩, hB4⟩ := hB
    have hB4 := of_decide_eq_true hB4
    obtain ⟨a, t, rfl, hq2⟩ := zp1r_inv hq
    replace hq := hq2
    obtain ⟨hs8, hq⟩ := zif_inv hq
    refine (ih _ _ _ _ _ _ _ hq).row fun hF hL _ hf ho k => ?_
    obtain ⟨hx, hb, hml, hown, hts, hK, -⟩ := hF
    exact W.objInit hx hb hown (hts _ (zgt_of (zmem_in hB1) rfl)) (hts _ (zgt_of (zmem_in hB2) rfl)) (hts _ (zgt_of (zmem_in hB3) rfl)) rfl (by rw [hml]; exact hL.1) rfl hd (by omega) (by show 2 * 0 + _ + _ ≤ _; omega) k
  · rename_i hw4
    split at hq
    · rename_i hw; exact absurd hw hw4
    · rw [Bool.and_eq_true, Bool.and_eq_true, Bool.and_eq_true, Bool.or_eq_true] at hB
      obtain ⟨⟨⟨hB1, hB2⟩, hB3⟩, hB4⟩ := hB
      have hB4 := of_decide_eq_true hB4
      obtain ⟨c1, c2, c3, c4, c5, c6⟩ := zcal_inv hB2
      obtain ⟨as, t, rfl, hn, hs8, -, hq2⟩ := zpop_inv hq
      replace hq := hq2
      obtain ⟨b, t, rfl, hq2⟩ := zp1r_inv hq
      replace hq := hq2
      obtain ⟨hlen, hq⟩ := zif_inv hq
      rw [← c3] at hlen hq
      obtain ⟨v1, h1, e1, -, e2⟩ := zca_inv hq
      refine zcall ih e1 e2 fun {p e R s m args below meth c H locs cells slots ls} hF hL hH hf ho hcl hsl hp => ?_
      obtain ⟨hx, hb, hml, hown, hts, hK, -⟩ := hF
      have M := zMet ih e1 hlen
      have hG := zGoodC c1
      rw [hB4.2] at M hG
      rcases hB1 with hB1 | hB1
      · exact va_runI (As := as) (b := b) (bytes := zB w.1) (maxL := zMl w.1) (nL := zMl mi) (Ts := zgt) ⟨hx, hb, hml, hown, hts⟩ M ⟨callB_of w.2.2.1 hts hG rfl rfl rfl (hts _ (zgt_of c2 rfl)) (hts _ (zgt_of (zmem_in hB1) rfl)) c4 ⟨by dsimp only; omega, by dsimp only; omega⟩, hB4.1, hts _ (zgt_of (zmem_in hB3) rfl)⟩ hp rfl hn hL.1 rfl (lv_room (by simp only [List.map_cons, List.sum_cons] at hs8; omega)) hd ⟨hcl, hsl⟩
      · exact va_runIN (As := as) (b := b) (bytes := zB w.1) (maxL := zMl w.1) (nL := zMl mi) (Ts := zgt) ⟨hx, hb, hml, hown, hts⟩ M ⟨va_cnB w.2.2.1 hts hG rfl rfl rfl (hK.2 _ (zmem_in hB1) rfl) (hts _ (zgt_of c2 rfl)) c4 ⟨by dsimp only; omega, by dsimp only; omega⟩, hB4.1, hts _ (zgt_of (zmem_in hB3) rfl)⟩ hp rfl hn hL.1 rfl (lv_room (by simp only [List.map_cons, List.sum_cons] at hs8; omega)) hd ⟨hcl, hsl⟩
theorem zOut_end {x : Option Value} (ho : zOut mi pc x) (e : st = x.toList) : zGo l G r mi x h pc lv st h := by
  subst e
  refine ⟨⟨Nat.le_refl _, Nat.le_refl _⟩, fun {p e R s m args below meth c Q H locs cells slots k n' ls} hF hL hH hl q1 q2 b1 b2 hf hoo hr => ?_⟩
  have e1 : k = cells := by omega
  have e2 : n' = slots := by omega
  subst e1; subst e2
  exact hr pc ls H locs ho hH hl
theorem zs_ireturn (hd : decode (zB mi) pc = .ok (.ireturn, len)) (hA : zokA mi pc len .ireturn w = true) (hq : zx r (zrun r n) (zrun r n) mi pc len .ireturn w lv st h = some (v, g)) : zGo l G r mi v g pc lv st h := by
  obtain rfl := zA1 hA
  unfold zx at hq
  dsimp only at hq
  split at hq
  · rename_i x
    have hA2 : (if w.1 = 0 then decide (zRt mi = some .int) else decide (zRt mi = some .boolean)) = true := hA
    split at hq
    · rename_i hw
      rw [if_pos hw] at hA2
      cases hq
      exact zOut_end (Or.inl ⟨x, rfl, hd, Or.inl (of_decide_eq_true hA2)⟩) rfl
    · rename_i hw
      rw [if_neg hw] at hA2
      obtain ⟨hc, hq⟩ := zif_inv hq
      cases hq
      exact zOut_end (Or.inl ⟨x, rfl, hd, Or.inr ⟨of_decide_eq_true hA2, hc⟩⟩) rfl
  · cases hq
theorem zs_lreturn (hd : decode (zB mi) pc = .ok (.lreturn, len)) (hA : zokA mi pc len .lreturn w = true) (hq : zx r (zrun r n) (zrun r n) mi pc len .lreturn w lv st h = some (v, g)) : zGo l G r mi v g pc lv st h := by
  obtain rfl := zA1 hA
  unfold zx at hq
  dsimp only at hq
  split at hq
  · rename_i x
    cases hq
    exact zOut_end (Or.inr (Or.inl ⟨x, rfl, hd, zAdc hA⟩)) rfl
  · cases hq
theorem zs_areturn (hd : decode (zB mi) pc = .ok (.areturn, len)) (hA : zokA mi pc len .areturn w = true) (hq : zx r (zrun r n) (zrun r n) mi pc len .areturn w lv st h = some (v, g)) : zGo l G r mi v g pc lv st h := by
  obtain rfl := zA1 hA
  unfold zx at hq
  dsimp only at hq
  split at hq
  · rename_i x
    cases hq
    exact zOut_end (Or.inr (Or.inr (Or.inl ⟨some x, rfl, hd, zAdc hA⟩))) rfl
  · cases hq
    exact zOut_end (Or.inr (Or.inr (Or.inl ⟨none, rfl, hd, zAdc hA⟩))) rfl
  · cases hq
theorem zs_return (hd : decode (zB mi) pc = .ok (.return_, len)) (hA : zokA mi pc len .return_ w = true) (hq : zx r (zrun r n) (zrun r n) mi pc len .return_ w lv st h = some (v, g)) : zGo l G r mi v g pc lv st h := by
  obtain rfl := zA1 hA
  unfold zx at hq
  dsimp only at hq
  split at hq
  · cases hq
    exact zOut_end (Or.inr (Or.inr (Or.inr ⟨rfl, hd, zAdc hA⟩))) rfl
  · cases hq
end STEPD
end
section
/-! THE MACHINE RUNS AS THE PURE MACHINE DOES -/
theorem zstep {l : Launch} {G : zG} {r : zE} {n : Nat} (ih : zSnd l G r n) : zSnd l G r (n + 1) := by
  intro mi pc lv st h v g hq
  have hq : zst r (zrun r n) (zrun r n) mi pc lv st h = some (v, g) := hq
  unfold zst at hq
  cases hz : zlk (zcd mi) pc with
  | none => rw [hz] at hq; cases hq
  | some q =>
    rw [hz] at hq
    obtain ⟨hd, hA, u, hB⟩ := zck_at hz
    obtain ⟨len, ins, w⟩ := q
    dsimp only at hd hA hB hq
    cases ins
    case iadd => exact zs_iadd ih hd hA hq
    case isub => exact zs_isub ih hd hA hq
    case imul => exact zs_imul ih hd hA hq
    case iand => exact zs_iand ih hd hA hq
    case ior => exact zs_ior ih hd hA hq
    case ixor => exact zs_ixor ih hd hA hq
    case ishl => exact zs_ishl ih hd hA hq
    case ishr => exact zs_ishr ih hd hA hq
    case iushr => exact zs_iushr ih hd hA hq
    case idiv => exact zs_idiv ih hd hA hq
    case irem => exact zs_irem ih hd hA hq
    case ladd => exact zs_ladd ih hd hA hq
    case lmul => exact zs_lmul ih hd hA hq
    case ldiv => exact zs_ldiv ih hd hA hq
    case lrem => exact zs_lrem ih hd hA hq
    case lcmp => exact zs_lcmp ih hd hA hq
    case ineg => exact zs_ineg ih hd hA hq
    case lneg => exact zs_lneg ih hd hA hq
    case i2l => exact zs_i2l ih hd hA hq
    case l2i => exact zs_l2i ih hd hA hq
    case i2b => exact zs_i2b ih hd hA hq
    case dup => exact zs_dup ih hd hA hq
    case pop => exact zs_pop ih hd hA hq
    case dup2 => exact zs_dup2 ih hd hA hq
    case iaload => exact zs_iaload ih hd hA hq
    case caload => exact zs_caload ih hd hA hq
    case aaload => exact zs_aaload ih hd hA hq
    case iastore => exact zs_iastore ih hd hA hq
    case aastore => exact zs_aastore ih hd hA hq
    case arraylength => exact zs_alen ih hd hA hq
    case aconst_null => exact zs_null ih hd hA hq
    case iconst i => exact zs_iconst ih hd hA hq
    case lconst i => exact zs_lconst ih hd hA hq
    case bipush i => exact zs_bipush ih hd hA hq
    case sipush i => exact zs_sipush ih hd hA hq
    case iload i => exact zs_iload ih hd hA hq
    case iload_n i => exact zs_iload_n ih hd hA hq
    case lload i => exact zs_lload ih hd hA hq
    case lload_n i => exact zs_lload_n ih hd hA hq
    case aload i => exact zs_aload ih hd hA hq
    case aload_n i => exact zs_aload_n ih hd hA hq
    case istore i => exact zs_istore ih hd hA hq
    case istore_n i => exact zs_istore_n ih hd hA hq
    case lstore i => exact zs_lstore ih hd hA hq
    case lstore_n i => exact zs_lstore_n ih hd hA hq
    case astore i => exact zs_astore ih hd hA hq
    case astore_n i => exact zs_astore_n ih hd hA hq
    case goto i => exact zs_goto ih hd hA hq
    case ifnull i => exact zs_ifnull ih hd hA hq
    case ifnonnull i => exact zs_ifnonnull ih hd hA hq
    case iinc i c => exact zs_iinc ih hd hA hq
    case ldc_w i => exact zs_ldc_w ih hd hA hB hq
    case ldc2_w i => exact zs_ldc2_w ih hd hA hB hq
    case getfield i => exact zs_getfield ih hd hA hB hq
    case putfield i => exact zs_putfield ih hd hA hB hq
    case getstatic i => exact zs_getstatic ih hd hA hB hq
    case new i => exact zs_new ih hd hA hB hq
    case anewarray i => exact zs_anewarray ih hd hA hB hq
    case invokevirtual i => exact zs_invokevirtual ih hd hA hB hq
    case invokespecial i => exact zs_invokespecial ih hd hA hB hq
    case invokestatic i => exact zs_invokestatic ih hd hA hB hq
    case ifCond c off => cases c with
      | eq => exact zs_if_eq ih hd hA hq
      | ne => exact zs_if_ne ih hd hA hq
      | lt => exact zs_if_lt ih hd hA hq
      | ge => exact zs_if_ge ih hd hA hq
      | gt => exact zs_if_gt ih hd hA hq
      | le => exact zs_if_le ih hd hA hq
    case if_icmp c off => cases c with
      | eq => exact zs_ic_eq ih hd hA hq
      | ne => exact zs_ic_ne ih hd hA hq
      | lt => exact zs_ic_lt ih hd hA hq
      | ge => exact zs_ic_ge ih hd hA hq
      | gt => exact zs_ic_gt ih hd hA hq
      | le => exact zs_ic_le ih hd hA hq
    case tableswitch d lo hi os => exact zs_tsw ih hd hA hq
    case lookupswitch d ps => exact zs_lsw ih hd hA hq
    case newarray ty => cases ty with
      | int => exact zs_newarray ih hd hA hq
      | _ => exact absurd (show (none : Option zRes) = some (v, g) from hq) (by simp)
    case ireturn => exact zs_ireturn hd hA hq
    case lreturn => exact zs_lreturn hd hA hq
    case areturn => exact zs_areturn hd hA hq
    case return_ => exact zs_return hd hA hq
    all_goals exact absurd (show (none : Option zRes) = some (v, g) from hq) (by simp)
theorem zsnd (l : Launch) (G : zG) (r : zE) : ∀ n, zSnd l G r n
  | 0 => fun _ _ _ _ _ _ _ h => by cases h
  | n + 1 => zstep (zsnd l G r n)
theorem zsnd_ev {l : Launch} {G : zG} {r : zE} {mi pc : Nat} {lv : List (Option Value)} {st : List Value} {h g : zH} {v : Option Value} (e : zev r mi pc lv st h = some (v, g)) : zGo l G r mi v g pc lv st h := by
  obtain ⟨n, hn⟩ := zev_iff.mp e
  exact zsnd l G r n _ _ _ _ _ _ _ hn
end
section
/-! THE CLAIM OUT OF ONE WALK OF THE LAW'S BODY. Your part is whole_start (and what it stands on); all else here is the same for every law, but numbers. -/
def R_law : String := "HammockDeckLaw"
def lw_P (b : Addr) (xs : List Int32) (args : Array Value) (s : State) : Prop := args = #[.ref b] ∧ s.IntsAt b xs ∧ xs.length ≤ 3072 ∧ (Jvm.Cond.and given_1 narrow_1).before args s = true
def lw_Q (_ : Array Value) (s : State) (o : Outcome) (t : State) : Prop := o = .returned (some (.int 1)) ∧ Framed s o t [] 600000 7302250
def lw_Z (below : List Frame) (a : Array Value) (s : State) : State → Prop := fun t => ∃ o, t.status = .running ∧ Ended t below o ∧ lw_Q a s o t
/-- the law's own end, with 1 on the stack, nothing written that was there before, its room as the claim has it -/
theorem lw_ret {p : Program} {l : Launch} {e : Env} {s : State} {m : MethodId} {below : List Frame} {meth : Method} {c : Code} {b : Nat} (hx : p.tables.exec = Jvm.exec) (hb : c.code = code) (hr : meth.sig.returnType = ret) (hlocks : meth.locks = false) {pc : Nat} {H : Heap} {ls : Array Slot} (hdg : decode code pc = .ok (.ireturn, 1)) : W p l e room_1 s m #[Value.ref b] below meth c H [] 600000 7302250 (lw_Z below #[Value.ref b] s) (F0 m pc ls [.int 1]) := by
  intro T hT X
  obtain ⟨fs, hret, hrun, hended, hW, hframe⟩ := X.leave (v := some (.int 1)) (hlocks := hlocks) (fun h => by rw [hr] at h; cases h)
  have hmeth' : T.vm.method? m = some meth := X.method'
  refine ⟨T.setFrames fs, ?_, .returned (some (.int 1)), hrun, hended, rfl, ⟨_, rfl⟩, hW, hframe⟩
  jvm_step X.here [X.here.top, hx, hb, hdg, hmeth', hr, ret, narrow_b1]
  (try refine ⟨rfl, ?_⟩); (try refine ⟨rfl, ?_⟩)
  first | (intro acts; rw [hret _ acts rfl rfl rfl]) | rw [hret _ _ rfl rfl rfl]
  exact Steps.refl _
/-- what holds at the law's entry: the machine, the code, the tables' words (any of lw_tbl by 'hts w (by decide +kernel)'), the script of L ints xs at the cell b, what the Statement gives of the start (any of its parts by flat_of_before) -/
def lw_At (p : Program) (s : State) (m : MethodId) (meth : Method) (c : Code) (b L : Nat) (xs : Nat → Int32) : Prop :=
  p.tables.exec = Jvm.exec ∧ c.code = code ∧ meth.sig.returnType = ret ∧ c.maxLocals = 4 ∧ s.vm.findClass R_law = some m.cls ∧ (∀ w ∈ lw_tbl, w.before #[Value.ref b] s = true) ∧ va_X b L xs s s.heap ∧ b < s.heap.size ∧ meth.locks = false ∧ (Jvm.Cond.and given_1 narrow_1).before #[Value.ref b] s = true

/-- what the pure machine is given: the script, the tables of the class -/
def zKB : Nat → Int32 := fun j => [0, 1, 0, 0, 2, 0].getD j 0
def zKL : Nat → Int32 := fun j => [109, 116, 115, 102, 110, 105].getD j 0
def zPL : Nat → Int32 := fun j => [46, 100, 108, 117, 103].getD j 0
def zPW : Nat → Int32 := fun j => [0, 1, 3, 2, -1].getD j 0
def zEnv (r : zE) (b L : Nat) (xs : Nat → Int32) : Prop := ¬ r.1 ≤ b ∧ r.2.1 b = some (false, L, xs) ∧ (∀ i, i < 4 → ¬ r.1 ≤ r.2.2 i) ∧ r.2.1 (r.2.2 0) = some (false, 6, zKB) ∧ r.2.1 (r.2.2 1) = some (true, 6, zKL) ∧ r.2.1 (r.2.2 2) = some (true, 5, zPL) ∧ r.2.1 (r.2.2 3) = some (false, 5, zPW)
theorem zT_len {ty ty' : FieldType} {t N N' : Nat} {f f' : Nat → Value} {A : Nat → Prop} {U : State} {H : Heap} (h1 : va_T ty t N f A U H) (h2 : va_T ty' t N' f' A U H) : Int32.ofNat N = Int32.ofNat N' := by
  obtain ⟨c1, a1, -, -, -, b1, -⟩ := h1
  obtain ⟨c2, a2, -, -, -, b2, -⟩ := h2
  cases a1.symm.trans a2
  exact b1.symm.trans b2
theorem zT_ty {ty ty' : FieldType} {t N N' : Nat} {f f' : Nat → Value} {A : Nat → Prop} {U : State} {H : Heap} (h1 : va_T ty t N f A U H) (h2 : va_T ty' t N' f' A U H) : ty = ty' := by
  obtain ⟨c1, a1, ⟨-, k1, d1, e1, g1⟩, -⟩ := h1
  obtain ⟨c2, a2, ⟨-, k2, d2, e2, g2⟩, -⟩ := h2
  cases a1.symm.trans a2
  cases d1.symm.trans d2
  rw [g1] at g2
  cases g2
  rfl
set_option maxHeartbeats 4000000 in
set_option maxRecDepth 100000 in
theorem z_law {p : Program} {e : Env} {s : State} {m : MethodId} {below : List Frame} {meth : Method} {c : Code} (l : Launch) {b L : Nat} {xs : Nat → Int32} (C0 : lw_At p s m meth c b L xs) :
    ∃ r : zE, zEnv r b L xs ∧ ∀ g : zH, zev r 0 0 [some (.ref b), none, none, none] [] [] = some (some (.int 1), g) → g.length ≤ 600000 → zhs g ≤ 7302250 → W p l e room_1 s m #[Value.ref b] below meth c s.heap [] 0 0 (lw_Z below #[Value.ref b] s) (entryFrame m ([Value.ref b] : List Value).toArray 4) := by
  obtain ⟨hx, hb, hr, hml, hown, hts, hX, hbl, hlocks, hgv⟩ := id C0
  have hs := flat_of_before _ hgv
  have hA : ∀ a : Nat, a < s.heap.size → ¬ (fun x : Nat => s.heap.size ≤ x) a := fun a ha => Nat.not_le.mpr ha
  obtain ⟨t0, ht0, hT0⟩ := va_Tof (N := 6) (ty := .int) (tm := (.static "HammockDeck" "KIND_BULK" "[I")) (f := fun j => .int (zKB j)) (A := fun x : Nat => s.heap.size ≤ x) (s := s) (args := #[Value.ref b]) (by decide) (hs _ (by decide +kernel)) (va_eqt (hs (.eq (.length (.static "HammockDeck" "KIND_BULK" "[I")) (.int 6)) (by decide +kernel))) (fun j hj => by
    match j, hj with
    | 0, _ => exact va_eqt (hs (.eq (.elem (.static "HammockDeck" "KIND_BULK" "[I") (.int 0)) (.int 0)) (by decide +kernel))
    | 1, _ => exact va_eqt (hs (.eq (.elem (.static "HammockDeck" "KIND_BULK" "[I") (.int 1)) (.int 1)) (by decide +kernel))
    | 2, _ => exact va_eqt (hs (.eq (.elem (.static "HammockDeck" "KIND_BULK" "[I") (.int 2)) (.int 0)) (by decide +kernel))
    | 3, _ => exact va_eqt (hs (.eq (.elem (.static "HammockDeck" "KIND_BULK" "[I") (.int 3)) (.int 0)) (by decide +kernel))
    | 4, _ => exact va_eqt (hs (.eq (.elem (.static "HammockDeck" "KIND_BULK" "[I") (.int 4)) (.int 2)) (by decide +kernel))
    | 5, _ => exact va_eqt (hs (.eq (.elem (.static "HammockDeck" "KIND_BULK" "[I") (.int 5)) (.int 0)) (by decide +kernel))
    | k + 6, hj => omega) hA
  have hZ0 := va_Zref (A := fun x : Nat => s.heap.size ≤ x) (hts (.laysStatic "HammockDeck" "KIND_BULK" "[I") (by decide +kernel)) (hts (.initialized "HammockDeck") (by decide +kernel)) ht0 hA
  obtain ⟨t1, ht1, hT1⟩ := va_Tof (N := 6) (ty := .char) (tm := (.static "HammockDeck" "KIND_LETTERS" "[C")) (f := fun j => .int (zKL j)) (A := fun x : Nat => s.heap.size ≤ x) (s := s) (args := #[Value.ref b]) (by decide) (hs _ (by decide +kernel)) (va_eqt (hs (.eq (.length (.static "HammockDeck" "KIND_LETTERS" "[C")) (.int 6)) (by decide +kernel))) (fun j hj => by
    match j, hj with
    | 0, _ => exact va_eqt (hs (.eq (.elem (.static "HammockDeck" "KIND_LETTERS" "[C") (.int 0)) (.int 109)) (by decide +kernel))
    | 1, _ => exact va_eqt (hs (.eq (.elem (.static "HammockDeck" "KIND_LETTERS" "[C") (.int 1)) (.int 116)) (by decide +kernel))
    | 2, _ => exact va_eqt (hs (.eq (.elem (.static "HammockDeck" "KIND_LETTERS" "[C") (.int 2)) (.int 115)) (by decide +kernel))
    | 3, _ => exact va_eqt (hs (.eq (.elem (.static "HammockDeck" "KIND_LETTERS" "[C") (.int 3)) (.int 102)) (by decide +kernel))
    | 4, _ => exact va_eqt (hs (.eq (.elem (.static "HammockDeck" "KIND_LETTERS" "[C") (.int 4)) (.int 110)) (by decide +kernel))
    | 5, _ => exact va_eqt (hs (.eq (.elem (.static "HammockDeck" "KIND_LETTERS" "[C") (.int 5)) (.int 105)) (by decide +kernel))
    | k + 6, hj => omega) hA
  have hZ1 := va_Zref (A := fun x : Nat => s.heap.size ≤ x) (hts (.laysStatic "HammockDeck" "KIND_LETTERS" "[C") (by decide +kernel)) (hts (.initialized "HammockDeck") (by decide +kernel)) ht1 hA
  obtain ⟨t2, ht2, hT2⟩ := va_Tof (N := 5) (ty := .char) (tm := (.static "HammockDeck" "PLACE_LETTERS" "[C")) (f := fun j => .int (zPL j)) (A := fun x : Nat => s.heap.size ≤ x) (s := s) (args := #[Value.ref b]) (by decide) (hs _ (by decide +kernel)) (va_eqt (hs (.eq (.length (.static "HammockDeck" "PLACE_LETTERS" "[C")) (.int 5)) (by decide +kernel))) (fun j hj => by
    match j, hj with
    | 0, _ => exact va_eqt (hs (.eq (.elem (.static "HammockDeck" "PLACE_LETTERS" "[C") (.int 0)) (.int 46)) (by decide +kernel))
    | 1, _ => exact va_eqt (hs (.eq (.elem (.static "HammockDeck" "PLACE_LETTERS" "[C") (.int 1)) (.int 100)) (by decide +kernel))
    | 2, _ => exact va_eqt (hs (.eq (.elem (.static "HammockDeck" "PLACE_LETTERS" "[C") (.int 2)) (.int 108)) (by decide +kernel))
    | 3, _ => exact va_eqt (hs (.eq (.elem (.static "HammockDeck" "PLACE_LETTERS" "[C") (.int 3)) (.int 117)) (by decide +kernel))
    | 4, _ => exact va_eqt (hs (.eq (.elem (.static "HammockDeck" "PLACE_LETTERS" "[C") (.int 4)) (.int 103)) (by decide +kernel))
    | k + 5, hj => omega) hA
  have hZ2 := va_Zref (A := fun x : Nat => s.heap.size ≤ x) (hts (.laysStatic "HammockDeck" "PLACE_LETTERS" "[C") (by decide +kernel)) (hts (.initialized "HammockDeck") (by decide +kernel)) ht2 hA
  obtain ⟨t3, ht3, hT3⟩ := va_Tof (N := 5) (ty := .int) (tm := (.static "HammockDeck" "PLACE_WAKES" "[I")) (f := fun j => .int (zPW j)) (A := fun x : Nat => s.heap.size ≤ x) (s := s) (args := #[Value.ref b]) (by decide) (hs _ (by decide +kernel)) (va_eqt (hs (.eq (.length (.static "HammockDeck" "PLACE_WAKES" "[I")) (.int 5)) (by decide +kernel))) (fun j hj => by
    match j, hj with
    | 0, _ => exact va_eqt (hs (.eq (.elem (.static "HammockDeck" "PLACE_WAKES" "[I") (.int 0)) (.int 0)) (by decide +kernel))
    | 1, _ => exact va_eqt (hs (.eq (.elem (.static "HammockDeck" "PLACE_WAKES" "[I") (.int 1)) (.int 1)) (by decide +kernel))
    | 2, _ => exact va_eqt (hs (.eq (.elem (.static "HammockDeck" "PLACE_WAKES" "[I") (.int 2)) (.int 3)) (by decide +kernel))
    | 3, _ => exact va_eqt (hs (.eq (.elem (.static "HammockDeck" "PLACE_WAKES" "[I") (.int 3)) (.int 2)) (by decide +kernel))
    | 4, _ => exact va_eqt (hs (.eq (.elem (.static "HammockDeck" "PLACE_WAKES" "[I") (.int 4)) (.int (-1))) (by decide +kernel))
    | k + 5, hj => omega) hA
  have hZ3 := va_Zref (A := fun x : Nat => s.heap.size ≤ x) (hts (.laysStatic "HammockDeck" "PLACE_WAKES" "[I") (by decide +kernel)) (hts (.initialized "HammockDeck") (by decide +kernel)) ht3 hA
  have hTb : va_T .int b L (fun j => .int (xs j)) (fun x : Nat => s.heap.size ≤ x) s s.heap := by
    obtain ⟨scr, h1, h2, h3, h4, h5⟩ := hX
    exact ⟨scr, h1, h2, h3, by omega, (by rw [h4]), h5, Nat.not_le.mpr hbl⟩
  have hev : (Term.arg 0).eval #[Value.ref b] s none [] s = some (.ref b) := rfl
  have n0 : b ≠ t0 := va_neR (hs (.not (.eq (.arg 0) (.static "HammockDeck" "KIND_BULK" "[I"))) (by decide +kernel)) hev ht0
  have n3 : b ≠ t3 := va_neR (hs (.not (.eq (.arg 0) (.static "HammockDeck" "PLACE_WAKES" "[I"))) (by decide +kernel)) hev ht3
  have n1 : b ≠ t1 := fun q => by subst q; exact absurd (zT_ty hTb hT1) (by decide)
  have n2 : b ≠ t2 := fun q => by subst q; exact absurd (zT_ty hTb hT2) (by decide)
  have n03 : t0 ≠ t3 := fun q => by subst q; exact absurd (zT_len hT0 hT3) (by decide)
  have n12 : t1 ≠ t2 := fun q => by subst q; exact absurd (zT_len hT1 hT2) (by decide)
  have n01 : t0 ≠ t1 := fun q => by subst q; exact absurd (zT_ty hT0 hT1) (by decide)
  have n02 : t0 ≠ t2 := fun q => by subst q; exact absurd (zT_ty hT0 hT2) (by decide)
  have n31 : t3 ≠ t1 := fun q => by subst q; exact absurd (zT_ty hT3 hT1) (by decide)
  have n32 : t3 ≠ t2 := fun q => by subst q; exact absurd (zT_ty hT3 hT2) (by decide)
  have tl : ∀ {ty : FieldType} {t N : Nat} {f : Nat → Value}, va_T ty t N f (fun x : Nat => s.heap.size ≤ x) s s.heap → ¬ s.heap.size ≤ t := fun h => by obtain ⟨_, _, _, _, _, _, _, h7⟩ := h; exact h7
  obtain ⟨c0, iS0, hKn0⟩ := u_known (C := RX0) (T := TX0) (N := 5) (n := 5) hts (by decide +kernel) (hts (.instantiable RX0 5) (by decide +kernel))
  obtain ⟨c1, iS1, hKn1⟩ := u_known (C := RX1) (T := TX1) (N := 7) (n := 7) hts (by decide +kernel) (hts (.instantiable RX1 7) (by decide +kernel))
  obtain ⟨c2, iS2, hKn2⟩ := u_known (C := RX2) (T := TX2) (N := 2) (n := 2) hts (by decide +kernel) (hts (.instantiable RX2 2) (by decide +kernel))
  obtain ⟨c3, iS3, hKn3⟩ := u_known (C := RX3) (T := TX3) (N := 3) (n := 3) hts (by decide +kernel) (hts (.instantiable RX3 3) (by decide +kernel))
  obtain ⟨c4, iS4, hKn4⟩ := u_known (C := RX4) (T := TX4) (N := 2) (n := 2) hts (by decide +kernel) (hts (.instantiable RX4 2) (by decide +kernel))
  obtain ⟨c5, iS5, hKn5⟩ := u_known (C := RX5) (T := TX5) (N := 12) (n := 12) hts (by decide +kernel) (hts (.instantiable RX5 12) (by decide +kernel))
  obtain ⟨c6, iS6, hKn6⟩ := u_known (C := RX6) (T := TX6) (N := 26) (n := 26) hts (by decide +kernel) (hts (.instantiable RX6 26) (by decide +kernel))
  obtain ⟨dC, dI, hKc⟩ : ∃ (dC : Nat → ClassId) (dI : Nat → Nat → Nat), ∀ (k : Nat) (q : vw_C), zcls[k]? = some q → u_Kn s q.1 q.2.1 q.2.2 (dC k) (dI k) := by
    refine ⟨fun k => match k with | 0 => c0 | 1 => c1 | 2 => c2 | 3 => c3 | 4 => c4 | 5 => c5 | _ => c6, fun k => match k with | 0 => iS0 | 1 => iS1 | 2 => iS2 | 3 => iS3 | 4 => iS4 | 5 => iS5 | _ => iS6, ?_⟩
    intro k q hq
    match k, hq with
    | 0, hq => cases hq; exact hKn0
    | 1, hq => cases hq; exact hKn1
    | 2, hq => cases hq; exact hKn2
    | 3, hq => cases hq; exact hKn3
    | 4, hq => cases hq; exact hKn4
    | 5, hq => cases hq; exact hKn5
    | 6, hq => cases hq; exact hKn6
    | k + 7, hq => simp [zcls] at hq
  obtain ⟨aI, kI, cpI, hI1, hI2, hI3⟩ := Cond.arrayClass_spec (hts (.arrayClass .int) (by decide +kernel))
  obtain ⟨cp4, a4, k4, h41, -, h43, h44, h45⟩ := Cond.arrayOver_spec (hts (.arrayOver (.object RX4)) (by decide +kernel))
  obtain ⟨cp2, a2, k2, h21, -, h23, h24, h25⟩ := Cond.arrayOver_spec (hts (.arrayOver (.object RX2)) (by decide +kernel))
  have hK : zKS ((dC, dI), aI, fun k => if k = 4 then a4 else a2) s := by
    refine ⟨⟨hKc, fun k q hq => ?_⟩, fun w hw hd => ?_⟩
    · match k, hq with
      | 0, hq => cases hq; exact ⟨fun N z => ⟨fun k h => (by cases h), kI, hI2, cpI, hI3⟩, hI1⟩
      | 1, hq => cases hq; exact ⟨fun N z => ⟨fun k h => (by cases h), k4, h43, cp4, h44⟩, k4, cp4, h43, h44, h41, h45⟩
      | 2, hq => cases hq; exact ⟨fun N z => ⟨fun k h => (by cases h), k2, h23, cp2, h24⟩, k2, cp2, h23, h24, h21, h25⟩
      | k + 3, hq => simp at hq
    · have h9 := hts w hw
      unfold zNd at hd
      split at hd
      · exact va_Nw.of rfl h9
      · exact va_Nw.of rfl h9
      · exact va_AO.of h9
      · cases hd
  refine ⟨(s.heap.size, fun a => if a = b then some (false, L, xs) else if a = t0 then some (false, 6, zKB) else if a = t3 then some (false, 5, zPW) else if a = t1 then some (true, 6, zKL) else if a = t2 then some (true, 5, zPL) else none, fun i => match i with | 0 => t0 | 1 => t1 | 2 => t2 | _ => t3), ?_, ?_⟩
  · refine ⟨Nat.not_le.mpr hbl, by simp, fun i hi => ?_, ?_, ?_, ?_, ?_⟩
    · match i, hi with
      | 0, _ => exact tl hT0
      | 1, _ => exact tl hT1
      | 2, _ => exact tl hT2
      | 3, _ => exact tl hT3
      | k + 4, hi => omega
    · simp [Ne.symm n0]
    · simp [Ne.symm n1, Ne.symm n01, Ne.symm n31]
    · simp [Ne.symm n2, Ne.symm n02, Ne.symm n32, Ne.symm n12]
    · simp [Ne.symm n3, Ne.symm n03]
  · intro g hg hgl hgs
    rw [lg_entry_eq]
    obtain ⟨-, k⟩ := zsnd_ev (l := l) (G := ((dC, dI), aI, fun k => if k = 4 then a4 else a2)) hg
    refine k (k := g.length) (n := zhs g) (R := room_1) (H := s.heap) (locs := []) (cells := 0) (slots := 0) ⟨hx, hb, hml, hown, fun w hw => hts w (List.mem_filter.mp hw).1, hK, fun h => absurd h (by decide +kernel)⟩ (zent_lv [.ref b] (n := 4) (Nat.le_of_ble_eq_true rfl)) ⟨rfl, fun k c hk => by simp at hk, fun a q hq => ?_, fun i q hq => ?_⟩ (fun q hq => by cases hq) (by simp) (by simp [zhs]) hgl hgs (by decide +kernel) (by decide +kernel) (fun pc' ls' H' locs' ho hH' hl' => ?_)
    · dsimp only at hq
      split at hq
      · rename_i h; cases hq; rw [h]; exact hTb
      · split at hq
        · rename_i h; cases hq; rw [h]; exact hT0
        · split at hq
          · rename_i h; cases hq; rw [h]; exact hT3
          · split at hq
            · rename_i h; cases hq; rw [h]; exact hT1
            · split at hq
              · rename_i h; cases hq; rw [h]; exact hT2
              · cases hq
    · match i, hq with
      | 0, hq => cases hq; exact hZ0
      | 1, hq => cases hq; exact hZ1
      | 2, hq => cases hq; exact hZ2
      | 3, hq => cases hq; exact hZ3
      | k + 4, hq => simp [zstat] at hq
    · rcases ho with ⟨x, hv, hd, -⟩ | ⟨x, hv, -⟩ | ⟨x, hv, -⟩ | ⟨hv, -⟩
      · cases hv
        exact W.widen hgl hgs (va_forget hl' (lw_ret hx hb hr hlocks hd))
      · cases hv
      · cases x <;> cases hv
      · cases hv
end
