-- ===== PART A: goes FIRST, ahead of the names: the tables' words, and 'selects' of the private methods out of them =====
/-- a private method of a class that the tables say can be made, by its rows of tables_1 -/
def lw_okq (q : MethodName × Nat) : Prop := (q.1.cls ≠ "java/lang/invoke/MethodHandle" ∧ q.1.cls ≠ "java/lang/invoke/VarHandle") ∧ Cond.instantiable q.1.cls q.2 ∈ tables_1 ∧ Cond.privateMethod q.1 ∈ tables_1 ∧ Cond.instanceMethod q.1 ∈ tables_1
theorem lw_p0 : lw_okq (⟨"HammockDeck$Berths", "takeAllDown", "()V"⟩, 5) := ⟨⟨by decide +kernel, by decide +kernel⟩, List.mem_of_getElem? (i := 62) (by decide +kernel), List.mem_of_getElem? (i := 82) (by decide +kernel), List.mem_of_getElem? (i := 83) (by decide +kernel)⟩
theorem lw_p1 : lw_okq (⟨"HammockDeck", "rowAt", "(I)LHammockDeck$Row;"⟩, 12) := ⟨⟨by decide +kernel, by decide +kernel⟩, List.mem_of_getElem? (i := 12) (by decide +kernel), List.mem_of_getElem? (i := 182) (by decide +kernel), List.mem_of_getElem? (i := 183) (by decide +kernel)⟩
theorem lw_p2 : lw_okq (⟨"HammockDeck", "renewed", "(LHammockDeck$Row;III)I"⟩, 12) := ⟨⟨by decide +kernel, by decide +kernel⟩, List.mem_of_getElem? (i := 12) (by decide +kernel), List.mem_of_getElem? (i := 186) (by decide +kernel), List.mem_of_getElem? (i := 187) (by decide +kernel)⟩
theorem lw_p3 : lw_okq (⟨"HammockDeck", "found", "(I)I"⟩, 12) := ⟨⟨by decide +kernel, by decide +kernel⟩, List.mem_of_getElem? (i := 12) (by decide +kernel), List.mem_of_getElem? (i := 190) (by decide +kernel), List.mem_of_getElem? (i := 191) (by decide +kernel)⟩
theorem lw_p4 : lw_okq (⟨"HammockDeck", "tell", "(I)V"⟩, 12) := ⟨⟨by decide +kernel, by decide +kernel⟩, List.mem_of_getElem? (i := 12) (by decide +kernel), List.mem_of_getElem? (i := 222) (by decide +kernel), List.mem_of_getElem? (i := 223) (by decide +kernel)⟩
theorem lw_p5 : lw_okq (⟨"HammockDeck", "textAt", "(I)LHammockDeck$Row;"⟩, 12) := ⟨⟨by decide +kernel, by decide +kernel⟩, List.mem_of_getElem? (i := 12) (by decide +kernel), List.mem_of_getElem? (i := 246) (by decide +kernel), List.mem_of_getElem? (i := 247) (by decide +kernel)⟩
theorem lw_p6 : lw_okq (⟨"HammockDeck$Reader", "skipBlanks", "()V"⟩, 3) := ⟨⟨by decide +kernel, by decide +kernel⟩, List.mem_of_getElem? (i := 250) (by decide +kernel), List.mem_of_getElem? (i := 270) (by decide +kernel), List.mem_of_getElem? (i := 271) (by decide +kernel)⟩
theorem lw_p7 : lw_okq (⟨"HammockDeck$Reader", "readHooks", "()Z"⟩, 3) := ⟨⟨by decide +kernel, by decide +kernel⟩, List.mem_of_getElem? (i := 250) (by decide +kernel), List.mem_of_getElem? (i := 275) (by decide +kernel), List.mem_of_getElem? (i := 276) (by decide +kernel)⟩
theorem lw_p8 : lw_okq (⟨"HammockDeck$Reader", "letterIn", "([C)I"⟩, 3) := ⟨⟨by decide +kernel, by decide +kernel⟩, List.mem_of_getElem? (i := 250) (by decide +kernel), List.mem_of_getElem? (i := 282) (by decide +kernel), List.mem_of_getElem? (i := 283) (by decide +kernel)⟩
theorem lw_p9 : lw_okq (⟨"HammockDeck$Reader", "readMan", "()Z"⟩, 3) := ⟨⟨by decide +kernel, by decide +kernel⟩, List.mem_of_getElem? (i := 250) (by decide +kernel), List.mem_of_getElem? (i := 295) (by decide +kernel), List.mem_of_getElem? (i := 296) (by decide +kernel)⟩
theorem lw_p10 : lw_okq (⟨"HammockDeck$Reader", "readFigure", "(II)I"⟩, 3) := ⟨⟨by decide +kernel, by decide +kernel⟩, List.mem_of_getElem? (i := 250) (by decide +kernel), List.mem_of_getElem? (i := 301) (by decide +kernel), List.mem_of_getElem? (i := 302) (by decide +kernel)⟩
theorem lw_p11 : lw_okq (⟨"HammockDeck", "sleptThrough", "(I)I"⟩, 12) := ⟨⟨by decide +kernel, by decide +kernel⟩, List.mem_of_getElem? (i := 12) (by decide +kernel), List.mem_of_getElem? (i := 373) (by decide +kernel), List.mem_of_getElem? (i := 374) (by decide +kernel)⟩
theorem lw_p12 : lw_okq (⟨"HammockDeck$Berths", "wakingsFrom", "(III)I"⟩, 5) := ⟨⟨by decide +kernel, by decide +kernel⟩, List.mem_of_getElem? (i := 62) (by decide +kernel), List.mem_of_getElem? (i := 395) (by decide +kernel), List.mem_of_getElem? (i := 396) (by decide +kernel)⟩
theorem lw_p13 : lw_okq (⟨"HammockDeck", "isKeptPlace", "(I)Z"⟩, 12) := ⟨⟨by decide +kernel, by decide +kernel⟩, List.mem_of_getElem? (i := 12) (by decide +kernel), List.mem_of_getElem? (i := 427) (by decide +kernel), List.mem_of_getElem? (i := 428) (by decide +kernel)⟩
theorem lw_p14 : lw_okq (⟨"HammockDeck$Berths", "bitOfWhoIsInAt", "(II)I"⟩, 5) := ⟨⟨by decide +kernel, by decide +kernel⟩, List.mem_of_getElem? (i := 62) (by decide +kernel), List.mem_of_getElem? (i := 453) (by decide +kernel), List.mem_of_getElem? (i := 454) (by decide +kernel)⟩
theorem lw_p15 : lw_okq (⟨"HammockDeck", "wakingsWithout", "(III)I"⟩, 12) := ⟨⟨by decide +kernel, by decide +kernel⟩, List.mem_of_getElem? (i := 12) (by decide +kernel), List.mem_of_getElem? (i := 483) (by decide +kernel), List.mem_of_getElem? (i := 484) (by decide +kernel)⟩
def lw_privs_1 : List (MethodName × Nat) := [(⟨"HammockDeck$Berths", "takeAllDown", "()V"⟩, 5), (⟨"HammockDeck", "rowAt", "(I)LHammockDeck$Row;"⟩, 12), (⟨"HammockDeck", "renewed", "(LHammockDeck$Row;III)I"⟩, 12), (⟨"HammockDeck", "found", "(I)I"⟩, 12), (⟨"HammockDeck", "tell", "(I)V"⟩, 12), (⟨"HammockDeck", "textAt", "(I)LHammockDeck$Row;"⟩, 12), (⟨"HammockDeck$Reader", "skipBlanks", "()V"⟩, 3), (⟨"HammockDeck$Reader", "readHooks", "()Z"⟩, 3), (⟨"HammockDeck$Reader", "letterIn", "([C)I"⟩, 3), (⟨"HammockDeck$Reader", "readMan", "()Z"⟩, 3), (⟨"HammockDeck$Reader", "readFigure", "(II)I"⟩, 3), (⟨"HammockDeck", "sleptThrough", "(I)I"⟩, 12), (⟨"HammockDeck$Berths", "wakingsFrom", "(III)I"⟩, 5), (⟨"HammockDeck", "isKeptPlace", "(I)Z"⟩, 12), (⟨"HammockDeck$Berths", "bitOfWhoIsInAt", "(II)I"⟩, 5), (⟨"HammockDeck", "wakingsWithout", "(III)I"⟩, 12)]
theorem lw_r1 : ∀ q ∈ lw_privs_1, lw_okq q := List.forall_mem_cons.mpr ⟨lw_p0, List.forall_mem_cons.mpr ⟨lw_p1, List.forall_mem_cons.mpr ⟨lw_p2, List.forall_mem_cons.mpr ⟨lw_p3, List.forall_mem_cons.mpr ⟨lw_p4, List.forall_mem_cons.mpr ⟨lw_p5, List.forall_mem_cons.mpr ⟨lw_p6, List.forall_mem_cons.mpr ⟨lw_p7, List.forall_mem_cons.mpr ⟨lw_p8, List.forall_mem_cons.mpr ⟨lw_p9, List.forall_mem_cons.mpr ⟨lw_p10, List.forall_mem_cons.mpr ⟨lw_p11, List.forall_mem_cons.mpr ⟨lw_p12, List.forall_mem_cons.mpr ⟨lw_p13, List.forall_mem_cons.mpr ⟨lw_p14, List.forall_mem_cons.mpr ⟨lw_p15, fun _ h => absurd h List.not_mem_nil⟩⟩⟩⟩⟩⟩⟩⟩⟩⟩⟩⟩⟩⟩⟩⟩
theorem lw_p16 : lw_okq (⟨"HammockDeck", "leastPlan", "(IILHammockDeck$Row;)I"⟩, 12) := ⟨⟨by decide +kernel, by decide +kernel⟩, List.mem_of_getElem? (i := 12) (by decide +kernel), List.mem_of_getElem? (i := 495) (by decide +kernel), List.mem_of_getElem? (i := 496) (by decide +kernel)⟩
theorem lw_p17 : lw_okq (⟨"HammockDeck", "beginPlans", "()V"⟩, 12) := ⟨⟨by decide +kernel, by decide +kernel⟩, List.mem_of_getElem? (i := 12) (by decide +kernel), List.mem_of_getElem? (i := 500) (by decide +kernel), List.mem_of_getElem? (i := 501) (by decide +kernel)⟩
theorem lw_p18 : lw_okq (⟨"HammockDeck", "weighed", "(II)I"⟩, 12) := ⟨⟨by decide +kernel, by decide +kernel⟩, List.mem_of_getElem? (i := 12) (by decide +kernel), List.mem_of_getElem? (i := 509) (by decide +kernel), List.mem_of_getElem? (i := 510) (by decide +kernel)⟩
theorem lw_p19 : lw_okq (⟨"HammockDeck$Berths", "moveOn", "(I)Z"⟩, 5) := ⟨⟨by decide +kernel, by decide +kernel⟩, List.mem_of_getElem? (i := 62) (by decide +kernel), List.mem_of_getElem? (i := 521) (by decide +kernel), List.mem_of_getElem? (i := 522) (by decide +kernel)⟩
theorem lw_p20 : lw_okq (⟨"HammockDeck", "firstGladPair", "(I)I"⟩, 12) := ⟨⟨by decide +kernel, by decide +kernel⟩, List.mem_of_getElem? (i := 12) (by decide +kernel), List.mem_of_getElem? (i := 554) (by decide +kernel), List.mem_of_getElem? (i := 555) (by decide +kernel)⟩
theorem lw_p21 : lw_okq (⟨"HammockDeck", "wouldBothGladlyChange", "(III)Z"⟩, 12) := ⟨⟨by decide +kernel, by decide +kernel⟩, List.mem_of_getElem? (i := 12) (by decide +kernel), List.mem_of_getElem? (i := 558) (by decide +kernel), List.mem_of_getElem? (i := 559) (by decide +kernel)⟩
theorem lw_p22 : lw_okq (⟨"HammockDeck$Berths", "hasBulkierNeighbour", "(II)Z"⟩, 5) := ⟨⟨by decide +kernel, by decide +kernel⟩, List.mem_of_getElem? (i := 62) (by decide +kernel), List.mem_of_getElem? (i := 583) (by decide +kernel), List.mem_of_getElem? (i := 584) (by decide +kernel)⟩
theorem lw_p23 : lw_okq (⟨"HammockDeck", "countFitting", "(LHammockDeck$Row;)V"⟩, 12) := ⟨⟨by decide +kernel, by decide +kernel⟩, List.mem_of_getElem? (i := 12) (by decide +kernel), List.mem_of_getElem? (i := 596) (by decide +kernel), List.mem_of_getElem? (i := 597) (by decide +kernel)⟩
theorem lw_p24 : lw_okq (⟨"HammockDeck", "fitsBook", "(LHammockDeck$Row;)Z"⟩, 12) := ⟨⟨by decide +kernel, by decide +kernel⟩, List.mem_of_getElem? (i := 12) (by decide +kernel), List.mem_of_getElem? (i := 600) (by decide +kernel), List.mem_of_getElem? (i := 601) (by decide +kernel)⟩
theorem lw_p25 : lw_okq (⟨"HammockDeck", "fitsBookBy", "(ILHammockDeck$Row;)Z"⟩, 12) := ⟨⟨by decide +kernel, by decide +kernel⟩, List.mem_of_getElem? (i := 12) (by decide +kernel), List.mem_of_getElem? (i := 604) (by decide +kernel), List.mem_of_getElem? (i := 605) (by decide +kernel)⟩
theorem lw_p26 : lw_okq (⟨"HammockDeck", "tellMean", "(JJ)V"⟩, 12) := ⟨⟨by decide +kernel, by decide +kernel⟩, List.mem_of_getElem? (i := 12) (by decide +kernel), List.mem_of_getElem? (i := 612) (by decide +kernel), List.mem_of_getElem? (i := 613) (by decide +kernel)⟩
theorem lw_p27 : lw_okq (⟨"HammockDeck", "counted", "(I)I"⟩, 12) := ⟨⟨by decide +kernel, by decide +kernel⟩, List.mem_of_getElem? (i := 12) (by decide +kernel), List.mem_of_getElem? (i := 649) (by decide +kernel), List.mem_of_getElem? (i := 650) (by decide +kernel)⟩
theorem lw_p28 : lw_okq (⟨"HammockDeck", "howManyKept", "()I"⟩, 12) := ⟨⟨by decide +kernel, by decide +kernel⟩, List.mem_of_getElem? (i := 12) (by decide +kernel), List.mem_of_getElem? (i := 674) (by decide +kernel), List.mem_of_getElem? (i := 675) (by decide +kernel)⟩
def lw_privs_2 : List (MethodName × Nat) := [(⟨"HammockDeck", "leastPlan", "(IILHammockDeck$Row;)I"⟩, 12), (⟨"HammockDeck", "beginPlans", "()V"⟩, 12), (⟨"HammockDeck", "weighed", "(II)I"⟩, 12), (⟨"HammockDeck$Berths", "moveOn", "(I)Z"⟩, 5), (⟨"HammockDeck", "firstGladPair", "(I)I"⟩, 12), (⟨"HammockDeck", "wouldBothGladlyChange", "(III)Z"⟩, 12), (⟨"HammockDeck$Berths", "hasBulkierNeighbour", "(II)Z"⟩, 5), (⟨"HammockDeck", "countFitting", "(LHammockDeck$Row;)V"⟩, 12), (⟨"HammockDeck", "fitsBook", "(LHammockDeck$Row;)Z"⟩, 12), (⟨"HammockDeck", "fitsBookBy", "(ILHammockDeck$Row;)Z"⟩, 12), (⟨"HammockDeck", "tellMean", "(JJ)V"⟩, 12), (⟨"HammockDeck", "counted", "(I)I"⟩, 12), (⟨"HammockDeck", "howManyKept", "()I"⟩, 12)]
theorem lw_r2 : ∀ q ∈ lw_privs_2, lw_okq q := List.forall_mem_cons.mpr ⟨lw_p16, List.forall_mem_cons.mpr ⟨lw_p17, List.forall_mem_cons.mpr ⟨lw_p18, List.forall_mem_cons.mpr ⟨lw_p19, List.forall_mem_cons.mpr ⟨lw_p20, List.forall_mem_cons.mpr ⟨lw_p21, List.forall_mem_cons.mpr ⟨lw_p22, List.forall_mem_cons.mpr ⟨lw_p23, List.forall_mem_cons.mpr ⟨lw_p24, List.forall_mem_cons.mpr ⟨lw_p25, List.forall_mem_cons.mpr ⟨lw_p26, List.forall_mem_cons.mpr ⟨lw_p27, List.forall_mem_cons.mpr ⟨lw_p28, fun _ h => absurd h List.not_mem_nil⟩⟩⟩⟩⟩⟩⟩⟩⟩⟩⟩⟩⟩
def lw_privs : List (MethodName × Nat) := lw_privs_1 ++ (lw_privs_2)
def lw_tbl : List Cond := k2_sels lw_privs ++ tables_1
theorem lw_privs_ok : ∀ q ∈ lw_privs, lw_okq q := by
  show ∀ q ∈ lw_privs_1 ++ (lw_privs_2), lw_okq q
  exact List.forall_mem_append.mpr ⟨lw_r1, lw_r2⟩

/-! the class and method names (printed) -/
def RX0 : String := "HammockDeck$Berths"
def TX0 : u_T := fun k => match k with
  | 0 => ("HammockDeck$Berths", "crew", "LHammockDeck$Crew;", false)
  | 1 => ("HammockDeck$Berths", "hooks", "[I", true)
  | 2 => ("HammockDeck$Berths", "holders", "[I", true)
  | 3 => ("HammockDeck$Berths", "lines", "[I", true)
  | _ => ("HammockDeck$Berths", "tired", "[I", true)
def tyX0 : Nat → FieldType := fun k => match k with
  | 0 => .object "HammockDeck$Crew"
  | 1 => .array .int
  | 2 => .array .int
  | 3 => .array .int
  | _ => .array .int
abbrev wsX00 : List Cond := u_ws RX0 TX0 5
theorem nmX0 : ∀ a, a < 5 → ∀ b, b < 5 → a ≠ b → (TX0 a).2.1 ≠ (TX0 b).2.1 := by decide +kernel
theorem tyX0_ok : ∀ k, k < 5 → parseFieldDescriptor (TX0 k).2.2.1 = some (tyX0 k) := by decide +kernel
abbrev cX0_init : ByteArray := prog_2_method_1_code
def yX0_init : MethodName := ⟨RX0, "<init>", "(LHammockDeck$Crew;)V"⟩
abbrev cX0_begin : ByteArray := prog_2_method_2_code
def yX0_begin : MethodName := ⟨RX0, "begin", "(LHammockDeck$Crew;)V"⟩
abbrev cX0_copyFrom : ByteArray := prog_2_method_3_code
def yX0_copyFrom : MethodName := ⟨RX0, "copyFrom", "(LHammockDeck$Berths;)V"⟩
abbrev cX0_manDetail : ByteArray := prog_2_method_4_code
def yX0_manDetail : MethodName := ⟨RX0, "manDetail", "(II)I"⟩
abbrev cX0_hookDetail : ByteArray := prog_2_method_5_code
def yX0_hookDetail : MethodName := ⟨RX0, "hookDetail", "(II)I"⟩
abbrev cX0_tiredTogether : ByteArray := prog_2_method_6_code
def yX0_tiredTogether : MethodName := ⟨RX0, "tiredTogether", "()I"⟩
abbrev cX0_writeTo : ByteArray := prog_2_method_7_code
def yX0_writeTo : MethodName := ⟨RX0, "writeTo", "([II)V"⟩
abbrev cX0_readFrom : ByteArray := prog_2_method_8_code
def yX0_readFrom : MethodName := ⟨RX0, "readFrom", "([II)V"⟩
abbrev cX0_isFree : ByteArray := prog_2_method_9_code
def yX0_isFree : MethodName := ⟨RX0, "isFree", "(I)Z"⟩
abbrev cX0_hangs : ByteArray := prog_2_method_10_code
def yX0_hangs : MethodName := ⟨RX0, "hangs", "(I)Z"⟩
abbrev cX0_move : ByteArray := prog_2_method_11_code
def yX0_move : MethodName := ⟨RX0, "move", "(II)V"⟩
abbrev cX0_swap : ByteArray := prog_2_method_12_code
def yX0_swap : MethodName := ⟨RX0, "swap", "(II)V"⟩
abbrev cX0_takeAllDown : ByteArray := prog_2_method_13_code
def yX0_takeAllDown : MethodName := ⟨RX0, "takeAllDown", "()V"⟩
abbrev cX0_hangBy : ByteArray := prog_2_method_14_code
def yX0_hangBy : MethodName := ⟨RX0, "hangBy", "(LHammockDeck$Row;)Z"⟩
abbrev cX0_hangByFirstPlan : ByteArray := prog_2_method_15_code
def yX0_hangByFirstPlan : MethodName := ⟨RX0, "hangByFirstPlan", "()V"⟩
abbrev cX0_hangByNextPlan : ByteArray := prog_2_method_16_code
def yX0_hangByNextPlan : MethodName := ⟨RX0, "hangByNextPlan", "()V"⟩
abbrev cX0_moveOn : ByteArray := prog_2_method_17_code
def yX0_moveOn : MethodName := ⟨RX0, "moveOn", "(I)Z"⟩
abbrev cX0_messmatePairs : ByteArray := prog_2_method_18_code
def yX0_messmatePairs : MethodName := ⟨RX0, "messmatePairs", "()I"⟩
abbrev cX0_isIn : ByteArray := prog_2_method_19_code
def yX0_isIn : MethodName := ⟨RX0, "isIn", "(II)Z"⟩
abbrev cX0_howManyIn : ByteArray := prog_2_method_20_code
def yX0_howManyIn : MethodName := ⟨RX0, "howManyIn", "(I)I"⟩
abbrev cX0_bitOfWhoIsInAt : ByteArray := prog_2_method_21_code
def yX0_bitOfWhoIsInAt : MethodName := ⟨RX0, "bitOfWhoIsInAt", "(II)I"⟩
abbrev cX0_neighbourBits : ByteArray := prog_2_method_22_code
def yX0_neighbourBits : MethodName := ⟨RX0, "neighbourBits", "(II)I"⟩
abbrev cX0_wakings : ByteArray := prog_2_method_23_code
def yX0_wakings : MethodName := ⟨RX0, "wakings", "(II)I"⟩
abbrev cX0_wakingsFrom : ByteArray := prog_2_method_24_code
def yX0_wakingsFrom : MethodName := ⟨RX0, "wakingsFrom", "(III)I"⟩
abbrev cX0_allWakings : ByteArray := prog_2_method_25_code
def yX0_allWakings : MethodName := ⟨RX0, "allWakings", "(I)I"⟩
abbrev cX0_mostWakings : ByteArray := prog_2_method_26_code
def yX0_mostWakings : MethodName := ⟨RX0, "mostWakings", "(I)I"⟩
abbrev cX0_tire : ByteArray := prog_2_method_27_code
def yX0_tire : MethodName := ⟨RX0, "tire", "(I)I"⟩
abbrev cX0_inTheWayOf : ByteArray := prog_2_method_28_code
def yX0_inTheWayOf : MethodName := ⟨RX0, "inTheWayOf", "(II)I"⟩
abbrev cX0_firstToGetUp : ByteArray := prog_2_method_29_code
def yX0_firstToGetUp : MethodName := ⟨RX0, "firstToGetUp", "(I)I"⟩
abbrev cX0_hasBulkierNeighbour : ByteArray := prog_2_method_30_code
def yX0_hasBulkierNeighbour : MethodName := ⟨RX0, "hasBulkierNeighbour", "(II)Z"⟩
def RX1 : String := "HammockDeck$Crew"
def TX1 : u_T := fun k => match k with
  | 0 => ("HammockDeck$Crew", "hooks", "I", false)
  | 1 => ("HammockDeck$Crew", "men", "I", false)
  | 2 => ("HammockDeck$Crew", "places", "[I", true)
  | 3 => ("HammockDeck$Crew", "kinds", "[I", true)
  | 4 => ("HammockDeck$Crew", "firstLines", "[I", true)
  | 5 => ("HammockDeck$Crew", "watches", "[I", true)
  | _ => ("HammockDeck$Crew", "messes", "[I", true)
def tyX1 : Nat → FieldType := fun k => match k with
  | 0 => .int
  | 1 => .int
  | 2 => .array .int
  | 3 => .array .int
  | 4 => .array .int
  | 5 => .array .int
  | _ => .array .int
abbrev wsX10 : List Cond := u_ws RX1 TX1 7
theorem nmX1 : ∀ a, a < 7 → ∀ b, b < 7 → a ≠ b → (TX1 a).2.1 ≠ (TX1 b).2.1 := by decide +kernel
theorem tyX1_ok : ∀ k, k < 7 → parseFieldDescriptor (TX1 k).2.2.1 = some (tyX1 k) := by decide +kernel
abbrev cX1_init : ByteArray := prog_3_method_1_code
def yX1_init : MethodName := ⟨RX1, "<init>", "()V"⟩
abbrev cX1_hasHook : ByteArray := prog_3_method_2_code
def yX1_hasHook : MethodName := ⟨RX1, "hasHook", "(I)Z"⟩
abbrev cX1_hasMan : ByteArray := prog_3_method_3_code
def yX1_hasMan : MethodName := ⟨RX1, "hasMan", "(I)Z"⟩
abbrev cX1_addHook : ByteArray := prog_3_method_4_code
def yX1_addHook : MethodName := ⟨RX1, "addHook", "(I)V"⟩
abbrev cX1_addMan : ByteArray := prog_3_method_5_code
def yX1_addMan : MethodName := ⟨RX1, "addMan", "(IIII)V"⟩
abbrev cX1_mostMen : ByteArray := prog_3_method_6_code
def yX1_mostMen : MethodName := ⟨RX1, "mostMen", "()I"⟩
abbrev cX1_planCount : ByteArray := prog_3_method_7_code
def yX1_planCount : MethodName := ⟨RX1, "planCount", "()I"⟩
abbrev cX1_isOf : ByteArray := prog_3_method_8_code
def yX1_isOf : MethodName := ⟨RX1, "isOf", "(II)Z"⟩
abbrev cX1_bitsOf : ByteArray := prog_3_method_9_code
def yX1_bitsOf : MethodName := ⟨RX1, "bitsOf", "(I)I"⟩
abbrev cX1_bulk : ByteArray := prog_3_method_10_code
def yX1_bulk : MethodName := ⟨RX1, "bulk", "(I)I"⟩
abbrev cX1_placeWakes : ByteArray := prog_3_method_11_code
def yX1_placeWakes : MethodName := ⟨RX1, "placeWakes", "(I)I"⟩
def RX2 : String := "HammockDeck$Log"
def TX2 : u_T := fun k => match k with
  | 0 => ("HammockDeck$Log", "moments", "[I", true)
  | _ => ("HammockDeck$Log", "deeds", "I", false)
def tyX2 : Nat → FieldType := fun k => match k with
  | 0 => .array .int
  | _ => .int
abbrev wsX20 : List Cond := u_ws RX2 TX2 2
theorem nmX2 : ∀ a, a < 2 → ∀ b, b < 2 → a ≠ b → (TX2 a).2.1 ≠ (TX2 b).2.1 := by decide +kernel
theorem tyX2_ok : ∀ k, k < 2 → parseFieldDescriptor (TX2 k).2.2.1 = some (tyX2 k) := by decide +kernel
abbrev cX2_init : ByteArray := prog_4_method_1_code
def yX2_init : MethodName := ⟨RX2, "<init>", "(I)V"⟩
abbrev cX2_isMissing : ByteArray := prog_4_method_2_code
def yX2_isMissing : MethodName := ⟨RX2, "isMissing", "()Z"⟩
abbrev cX2_hasRoomFor : ByteArray := prog_4_method_3_code
def yX2_hasRoomFor : MethodName := ⟨RX2, "hasRoomFor", "(I)Z"⟩
abbrev cX2_begin : ByteArray := prog_4_method_4_code
def yX2_begin : MethodName := ⟨RX2, "begin", "(LHammockDeck$Berths;)V"⟩
abbrev cX2_add : ByteArray := prog_4_method_5_code
def yX2_add : MethodName := ⟨RX2, "add", "(LHammockDeck$Berths;)V"⟩
abbrev cX2_discard : ByteArray := prog_4_method_6_code
def yX2_discard : MethodName := ⟨RX2, "discard", "()V"⟩
abbrev cX2_copyFrom : ByteArray := prog_4_method_7_code
def yX2_copyFrom : MethodName := ⟨RX2, "copyFrom", "(LHammockDeck$Log;)V"⟩
abbrev cX2_goBackTo : ByteArray := prog_4_method_8_code
def yX2_goBackTo : MethodName := ⟨RX2, "goBackTo", "(ILHammockDeck$Berths;)V"⟩
def RX3 : String := "HammockDeck$Reader"
def TX3 : u_T := fun k => match k with
  | 0 => ("HammockDeck$Reader", "text", "LHammockDeck$Row;", true)
  | 1 => ("HammockDeck$Reader", "crew", "LHammockDeck$Crew;", true)
  | _ => ("HammockDeck$Reader", "place", "I", false)
def tyX3 : Nat → FieldType := fun k => match k with
  | 0 => .object "HammockDeck$Row"
  | 1 => .object "HammockDeck$Crew"
  | _ => .int
abbrev wsX30 : List Cond := u_ws RX3 TX3 3
theorem nmX3 : ∀ a, a < 3 → ∀ b, b < 3 → a ≠ b → (TX3 a).2.1 ≠ (TX3 b).2.1 := by decide +kernel
theorem tyX3_ok : ∀ k, k < 3 → parseFieldDescriptor (TX3 k).2.2.1 = some (tyX3 k) := by decide +kernel
abbrev cX3_init : ByteArray := prog_5_method_1_code
def yX3_init : MethodName := ⟨RX3, "<init>", "(LHammockDeck$Row;LHammockDeck$Crew;)V"⟩
abbrev cX3_read : ByteArray := prog_5_method_2_code
def yX3_read : MethodName := ⟨RX3, "read", "()I"⟩
abbrev cX3_skipBlanks : ByteArray := prog_5_method_3_code
def yX3_skipBlanks : MethodName := ⟨RX3, "skipBlanks", "()V"⟩
abbrev cX3_readHooks : ByteArray := prog_5_method_4_code
def yX3_readHooks : MethodName := ⟨RX3, "readHooks", "()Z"⟩
abbrev cX3_readMan : ByteArray := prog_5_method_5_code
def yX3_readMan : MethodName := ⟨RX3, "readMan", "()Z"⟩
abbrev cX3_letterIn : ByteArray := prog_5_method_6_code
def yX3_letterIn : MethodName := ⟨RX3, "letterIn", "([C)I"⟩
abbrev cX3_readFigure : ByteArray := prog_5_method_7_code
def yX3_readFigure : MethodName := ⟨RX3, "readFigure", "(II)I"⟩
def RX4 : String := "HammockDeck$Row"
def TX4 : u_T := fun k => match k with
  | 0 => ("HammockDeck$Row", "values", "[I", true)
  | _ => ("HammockDeck$Row", "size", "I", false)
def tyX4 : Nat → FieldType := fun k => match k with
  | 0 => .array .int
  | _ => .int
abbrev wsX40 : List Cond := u_ws RX4 TX4 2
theorem nmX4 : ∀ a, a < 2 → ∀ b, b < 2 → a ≠ b → (TX4 a).2.1 ≠ (TX4 b).2.1 := by decide +kernel
theorem tyX4_ok : ∀ k, k < 2 → parseFieldDescriptor (TX4 k).2.2.1 = some (tyX4 k) := by decide +kernel
abbrev cX4_init : ByteArray := prog_6_method_1_code
def yX4_init : MethodName := ⟨RX4, "<init>", "()V"⟩
abbrev cX4_isMissing : ByteArray := prog_6_method_2_code
def yX4_isMissing : MethodName := ⟨RX4, "isMissing", "()Z"⟩
abbrev cX4_has : ByteArray := prog_6_method_3_code
def yX4_has : MethodName := ⟨RX4, "has", "(I)Z"⟩
abbrev cX4_get : ByteArray := prog_6_method_5_code
def yX4_get : MethodName := ⟨RX4, "get", "(I)I"⟩
abbrev cX4_set : ByteArray := prog_6_method_6_code
def yX4_set : MethodName := ⟨RX4, "set", "(II)V"⟩
abbrev cX4_renew : ByteArray := prog_6_method_7_code
def yX4_renew : MethodName := ⟨RX4, "renew", "(II)V"⟩
abbrev cX4_discard : ByteArray := prog_6_method_8_code
def yX4_discard : MethodName := ⟨RX4, "discard", "()V"⟩
abbrev cX4_digestedOnto : ByteArray := prog_6_method_11_code
def yX4_digestedOnto : MethodName := ⟨RX4, "digestedOnto", "(J)J"⟩
def RX5 : String := "HammockDeck"
def TX5 : u_T := fun k => match k with
  | 0 => ("HammockDeck", "rows", "[LHammockDeck$Row;", true)
  | 1 => ("HammockDeck", "texts", "[LHammockDeck$Row;", true)
  | 2 => ("HammockDeck", "crew", "LHammockDeck$Crew;", false)
  | 3 => ("HammockDeck", "now", "LHammockDeck$Berths;", true)
  | 4 => ("HammockDeck", "aside", "LHammockDeck$Berths;", true)
  | 5 => ("HammockDeck", "log", "LHammockDeck$Log;", true)
  | 6 => ("HammockDeck", "kept", "[LHammockDeck$Log;", true)
  | 7 => ("HammockDeck", "told", "I", false)
  | 8 => ("HammockDeck", "upperTold", "J", false)
  | 9 => ("HammockDeck", "lowerTold", "J", false)
  | 10 => ("HammockDeck", "latestFinding", "I", false)
  | _ => ("HammockDeck", "findingCounts", "[I", true)
def tyX5 : Nat → FieldType := fun k => match k with
  | 0 => .array (.object "HammockDeck$Row")
  | 1 => .array (.object "HammockDeck$Row")
  | 2 => .object "HammockDeck$Crew"
  | 3 => .object "HammockDeck$Berths"
  | 4 => .object "HammockDeck$Berths"
  | 5 => .object "HammockDeck$Log"
  | 6 => .array (.object "HammockDeck$Log")
  | 7 => .int
  | 8 => .long
  | 9 => .long
  | 10 => .int
  | _ => .array .int
abbrev wsX50 : List Cond := u_ws RX5 TX5 12
theorem nmX5 : ∀ a, a < 12 → ∀ b, b < 12 → a ≠ b → (TX5 a).2.1 ≠ (TX5 b).2.1 := by decide +kernel
theorem tyX5_ok : ∀ k, k < 12 → parseFieldDescriptor (TX5 k).2.2.1 = some (tyX5 k) := by decide +kernel
abbrev cX5_init : ByteArray := prog_1_method_1_code
def yX5_init : MethodName := ⟨RX5, "<init>", "()V"⟩
abbrev cX5_row : ByteArray := prog_1_method_2_code
def yX5_row : MethodName := ⟨RX5, "row", "(II)I"⟩
abbrev cX5_lay : ByteArray := prog_1_method_3_code
def yX5_lay : MethodName := ⟨RX5, "lay", "(III)I"⟩
abbrev cX5_at : ByteArray := prog_1_method_4_code
def yX5_at : MethodName := ⟨RX5, "at", "(II)I"⟩
abbrev cX5_tear : ByteArray := prog_1_method_5_code
def yX5_tear : MethodName := ⟨RX5, "tear", "(I)I"⟩
abbrev cX5_text : ByteArray := prog_1_method_8_code
def yX5_text : MethodName := ⟨RX5, "text", "(II)I"⟩
abbrev cX5_put : ByteArray := prog_1_method_9_code
def yX5_put : MethodName := ⟨RX5, "put", "(III)I"⟩
abbrev cX5_fault : ByteArray := prog_1_method_10_code
def yX5_fault : MethodName := ⟨RX5, "fault", "(I)I"⟩
abbrev cX5_deck : ByteArray := prog_1_method_11_code
def yX5_deck : MethodName := ⟨RX5, "deck", "(I)I"⟩
abbrev cX5_man : ByteArray := prog_1_method_12_code
def yX5_man : MethodName := ⟨RX5, "man", "(II)I"⟩
abbrev cX5_hook : ByteArray := prog_1_method_13_code
def yX5_hook : MethodName := ⟨RX5, "hook", "(II)I"⟩
abbrev cX5_hang : ByteArray := prog_1_method_15_code
def yX5_hang : MethodName := ⟨RX5, "hang", "(II)I"⟩
abbrev cX5_down : ByteArray := prog_1_method_16_code
def yX5_down : MethodName := ⟨RX5, "down", "(I)I"⟩
abbrev cX5_change : ByteArray := prog_1_method_17_code
def yX5_change : MethodName := ⟨RX5, "change", "(II)I"⟩
abbrev cX5_line : ByteArray := prog_1_method_18_code
def yX5_line : MethodName := ⟨RX5, "line", "(II)I"⟩
abbrev cX5_night : ByteArray := prog_1_method_19_code
def yX5_night : MethodName := ⟨RX5, "night", "(I)I"⟩
abbrev cX5_undo : ByteArray := prog_1_method_20_code
def yX5_undo : MethodName := ⟨RX5, "undo", "(I)I"⟩
abbrev cX5_keep : ByteArray := prog_1_method_21_code
def yX5_keep : MethodName := ⟨RX5, "keep", "(I)I"⟩
abbrev cX5_on : ByteArray := prog_1_method_22_code
def yX5_on : MethodName := ⟨RX5, "on", "(I)I"⟩
abbrev cX5_neighbours : ByteArray := prog_1_method_23_code
def yX5_neighbours : MethodName := ⟨RX5, "neighbours", "(II)I"⟩
abbrev cX5_woken : ByteArray := prog_1_method_24_code
def yX5_woken : MethodName := ⟨RX5, "woken", "(II)I"⟩
abbrev cX5_all : ByteArray := prog_1_method_25_code
def yX5_all : MethodName := ⟨RX5, "all", "(I)I"⟩
abbrev cX5_worst : ByteArray := prog_1_method_26_code
def yX5_worst : MethodName := ⟨RX5, "worst", "(I)I"⟩
abbrev cX5_by : ByteArray := prog_1_method_27_code
def yX5_by : MethodName := ⟨RX5, "by", "(II)I"⟩
abbrev cX5_best : ByteArray := prog_1_method_28_code
def yX5_best : MethodName := ⟨RX5, "best", "(II)I"⟩
abbrev cX5_fair : ByteArray := prog_1_method_29_code
def yX5_fair : MethodName := ⟨RX5, "fair", "(II)I"⟩
abbrev cX5_mixed : ByteArray := prog_1_method_30_code
def yX5_mixed : MethodName := ⟨RX5, "mixed", "(I)I"⟩
abbrev cX5_judge : ByteArray := prog_1_method_31_code
def yX5_judge : MethodName := ⟨RX5, "judge", "(II)I"⟩
abbrev cX5_gain : ByteArray := prog_1_method_32_code
def yX5_gain : MethodName := ⟨RX5, "gain", "(III)I"⟩
abbrev cX5_calm : ByteArray := prog_1_method_33_code
def yX5_calm : MethodName := ⟨RX5, "calm", "(I)I"⟩
abbrev cX5_mates : ByteArray := prog_1_method_34_code
def yX5_mates : MethodName := ⟨RX5, "mates", "()I"⟩
abbrev cX5_cut : ByteArray := prog_1_method_35_code
def yX5_cut : MethodName := ⟨RX5, "cut", "(II)I"⟩
abbrev cX5_up : ByteArray := prog_1_method_36_code
def yX5_up : MethodName := ⟨RX5, "up", "(II)I"⟩
abbrev cX5_fits : ByteArray := prog_1_method_37_code
def yX5_fits : MethodName := ⟨RX5, "fits", "(I)I"⟩
abbrev cX5_mid : ByteArray := prog_1_method_38_code
def yX5_mid : MethodName := ⟨RX5, "mid", "(I)I"⟩
abbrev cX5_lots : ByteArray := prog_1_method_39_code
def yX5_lots : MethodName := ⟨RX5, "lots", "(II)I"⟩
abbrev cX5_asked : ByteArray := prog_1_method_40_code
def yX5_asked : MethodName := ⟨RX5, "asked", "()I"⟩
abbrev cX5_upper : ByteArray := prog_1_method_41_code
def yX5_upper : MethodName := ⟨RX5, "upper", "()J"⟩
abbrev cX5_lower : ByteArray := prog_1_method_42_code
def yX5_lower : MethodName := ⟨RX5, "lower", "()J"⟩
abbrev cX5_count : ByteArray := prog_1_method_43_code
def yX5_count : MethodName := ⟨RX5, "count", "(I)I"⟩
abbrev cX5_digest : ByteArray := prog_1_method_46_code
def yX5_digest : MethodName := ⟨RX5, "digest", "()J"⟩
abbrev cX5_rowAt : ByteArray := prog_1_method_47_code
def yX5_rowAt : MethodName := ⟨RX5, "rowAt", "(I)LHammockDeck$Row;"⟩
abbrev cX5_textAt : ByteArray := prog_1_method_48_code
def yX5_textAt : MethodName := ⟨RX5, "textAt", "(I)LHammockDeck$Row;"⟩
abbrev cX5_isWhen : ByteArray := prog_1_method_49_code
def yX5_isWhen : MethodName := ⟨RX5, "isWhen", "(I)Z"⟩
abbrev cX5_isKeptPlace : ByteArray := prog_1_method_50_code
def yX5_isKeptPlace : MethodName := ⟨RX5, "isKeptPlace", "(I)Z"⟩
abbrev cX5_found : ByteArray := prog_1_method_51_code
def yX5_found : MethodName := ⟨RX5, "found", "(I)I"⟩
abbrev cX5_tell : ByteArray := prog_1_method_52_code
def yX5_tell : MethodName := ⟨RX5, "tell", "(I)V"⟩
abbrev cX5_tellMean : ByteArray := prog_1_method_53_code
def yX5_tellMean : MethodName := ⟨RX5, "tellMean", "(JJ)V"⟩
abbrev cX5_commonDivisor : ByteArray := prog_1_method_54_code
def yX5_commonDivisor : MethodName := ⟨RX5, "commonDivisor", "(JJ)J"⟩
abbrev cX5_renewed : ByteArray := prog_1_method_55_code
def yX5_renewed : MethodName := ⟨RX5, "renewed", "(LHammockDeck$Row;III)I"⟩
abbrev cX5_sleptThrough : ByteArray := prog_1_method_56_code
def yX5_sleptThrough : MethodName := ⟨RX5, "sleptThrough", "(I)I"⟩
abbrev cX5_wakingsWithout : ByteArray := prog_1_method_57_code
def yX5_wakingsWithout : MethodName := ⟨RX5, "wakingsWithout", "(III)I"⟩
abbrev cX5_beginPlans : ByteArray := prog_1_method_58_code
def yX5_beginPlans : MethodName := ⟨RX5, "beginPlans", "()V"⟩
abbrev cX5_leastPlan : ByteArray := prog_1_method_59_code
def yX5_leastPlan : MethodName := ⟨RX5, "leastPlan", "(IILHammockDeck$Row;)I"⟩
abbrev cX5_weighed : ByteArray := prog_1_method_60_code
def yX5_weighed : MethodName := ⟨RX5, "weighed", "(II)I"⟩
abbrev cX5_firstGladPair : ByteArray := prog_1_method_61_code
def yX5_firstGladPair : MethodName := ⟨RX5, "firstGladPair", "(I)I"⟩
abbrev cX5_wouldBothGladlyChange : ByteArray := prog_1_method_62_code
def yX5_wouldBothGladlyChange : MethodName := ⟨RX5, "wouldBothGladlyChange", "(III)Z"⟩
abbrev cX5_countFitting : ByteArray := prog_1_method_63_code
def yX5_countFitting : MethodName := ⟨RX5, "countFitting", "(LHammockDeck$Row;)V"⟩
abbrev cX5_fitsBook : ByteArray := prog_1_method_64_code
def yX5_fitsBook : MethodName := ⟨RX5, "fitsBook", "(LHammockDeck$Row;)Z"⟩
abbrev cX5_fitsBookBy : ByteArray := prog_1_method_65_code
def yX5_fitsBookBy : MethodName := ⟨RX5, "fitsBookBy", "(ILHammockDeck$Row;)Z"⟩
abbrev cX5_counted : ByteArray := prog_1_method_66_code
def yX5_counted : MethodName := ⟨RX5, "counted", "(I)I"⟩
abbrev cX5_howManyThere : ByteArray := prog_1_method_67_code
def yX5_howManyThere : MethodName := ⟨RX5, "howManyThere", "([LHammockDeck$Row;)I"⟩
abbrev cX5_howManyKept : ByteArray := prog_1_method_68_code
def yX5_howManyKept : MethodName := ⟨RX5, "howManyKept", "()I"⟩
def RX6 : String := "HammockDeckModel"
def TX6 : u_T := fun k => match k with
  | _ => ("", "", "", false)
def tyX6 : Nat → FieldType := fun k => match k with
  | _ => .int
abbrev wsX60 : List Cond := u_ws RX6 TX6 0
theorem nmX6 : ∀ a, a < 0 → ∀ b, b < 0 → a ≠ b → (TX6 a).2.1 ≠ (TX6 b).2.1 := by decide +kernel
theorem tyX6_ok : ∀ k, k < 0 → parseFieldDescriptor (TX6 k).2.2.1 = some (tyX6 k) := by decide +kernel
def RJ6 : String := "java/lang/Integer"
def TJ6 : u_T := fun k => match k with
  | _ => ("", "", "", false)
def tyJ6 : Nat → FieldType := fun k => match k with
  | _ => .int
abbrev wsJ60 : List Cond := u_ws RJ6 TJ6 0
theorem nmJ6 : ∀ a, a < 0 → ∀ b, b < 0 → a ≠ b → (TJ6 a).2.1 ≠ (TJ6 b).2.1 := by decide +kernel
theorem tyJ6_ok : ∀ k, k < 0 → parseFieldDescriptor (TJ6 k).2.2.1 = some (tyJ6 k) := by decide +kernel
abbrev cJ6_bitCount_0f7a4 : ByteArray := prog_9_method_49_code
def yJ6_bitCount_0f7a4 : MethodName := ⟨RJ6, "bitCount", "(I)I"⟩
def RJ9 : String := "java/lang/Math"
def TJ9 : u_T := fun k => match k with
  | _ => ("", "", "", false)
def tyJ9 : Nat → FieldType := fun k => match k with
  | _ => .int
abbrev wsJ90 : List Cond := u_ws RJ9 TJ9 0
theorem nmJ9 : ∀ a, a < 0 → ∀ b, b < 0 → a ≠ b → (TJ9 a).2.1 ≠ (TJ9 b).2.1 := by decide +kernel
theorem tyJ9_ok : ∀ k, k < 0 → parseFieldDescriptor (TJ9 k).2.2.1 = some (tyJ9 k) := by decide +kernel
abbrev cJ9_abs_0f7a4 : ByteArray := prog_10_method_59_code
def yJ9_abs_0f7a4 : MethodName := ⟨RJ9, "abs", "(I)I"⟩
abbrev cJ9_abs_067f4 : ByteArray := prog_10_method_61_code
def yJ9_abs_067f4 : MethodName := ⟨RJ9, "abs", "(J)J"⟩
abbrev cJ9_max_7cf53 : ByteArray := prog_10_method_65_code
def yJ9_max_7cf53 : MethodName := ⟨RJ9, "max", "(II)I"⟩
abbrev cJ9_max_f86c9 : ByteArray := prog_10_method_66_code
def yJ9_max_f86c9 : MethodName := ⟨RJ9, "max", "(JJ)J"⟩
abbrev cJ9_min_7cf53 : ByteArray := prog_10_method_69_code
def yJ9_min_7cf53 : MethodName := ⟨RJ9, "min", "(II)I"⟩
def RJ10 : String := "java/lang/System"
def TJ10 : u_T := fun k => match k with
  | _ => ("", "", "", false)
def tyJ10 : Nat → FieldType := fun k => match k with
  | _ => .int
abbrev wsJ100 : List Cond := u_ws RJ10 TJ10 0
theorem nmJ10 : ∀ a, a < 0 → ∀ b, b < 0 → a ≠ b → (TJ10 a).2.1 ≠ (TJ10 b).2.1 := by decide +kernel
theorem tyJ10_ok : ∀ k, k < 0 → parseFieldDescriptor (TJ10 k).2.2.1 = some (tyJ10 k) := by decide +kernel
def RJ7 : String := "java/util/Arrays"
def TJ7 : u_T := fun k => match k with
  | _ => ("", "", "", false)
def tyJ7 : Nat → FieldType := fun k => match k with
  | _ => .int
abbrev wsJ70 : List Cond := u_ws RJ7 TJ7 0
theorem nmJ7 : ∀ a, a < 0 → ∀ b, b < 0 → a ≠ b → (TJ7 a).2.1 ≠ (TJ7 b).2.1 := by decide +kernel
theorem tyJ7_ok : ∀ k, k < 0 → parseFieldDescriptor (TJ7 k).2.2.1 = some (tyJ7 k) := by decide +kernel
abbrev cJ7_fill_53178 : ByteArray := prog_12_method_103_code
def yJ7_fill_53178 : MethodName := ⟨RJ7, "fill", "([II)V"⟩
def RL : String := "HammockDeckLaw"
abbrev cL_cell : ByteArray := method_2_code
def yL_cell : MethodName := ⟨RL, "cell", "([II)I"⟩
abbrev cL_low : ByteArray := method_3_code
def yL_low : MethodName := ⟨RL, "low", "(II)I"⟩
abbrev cL_letter : ByteArray := method_4_code
def yL_letter : MethodName := ⟨RL, "letter", "(I)I"⟩
abbrev cL_placeLetter : ByteArray := method_5_code
def yL_placeLetter : MethodName := ⟨RL, "placeLetter", "(I)I"⟩
abbrev cL_deck : ByteArray := method_6_code
def yL_deck : MethodName := ⟨RL, "deck", "(LHammockDeck;[I[I[I)Z"⟩
abbrev cL_bits : ByteArray := method_12_code
def yL_bits : MethodName := ⟨RL, "bits", "(I)I"⟩
abbrev cL_whoAt : ByteArray := method_13_code
def yL_whoAt : MethodName := ⟨RL, "whoAt", "([II)I"⟩
abbrev cL_stir : ByteArray := method_14_code
def yL_stir : MethodName := ⟨RL, "stir", "(LHammockDeck;[I[II)Z"⟩
abbrev cL_told : ByteArray := method_17_code
def yL_told : MethodName := ⟨RL, "told", "(LHammockDeck;II)I"⟩
abbrev cL_law : ByteArray := code
def yL_law : MethodName := ⟨RL, "law", "([I)Z"⟩
